def f_X9_thrown (b : Mem) : Int32 := (b 0 0)
set_option maxRecDepth 100000 in
set_option maxHeartbeats 4000000 in
theorem m_X9_thrown {l : Launch} (hl : l.stackTraces = false) {G : GG} {L : List Nat} (hL : LOK L) {a b c : Mem}  {v : Int32} (hR : f_X9_thrown b = v) : Ct l G yX9_thrown (.code yX9_thrown cX9_thrown 1 (some .int)) 0 0 0 0 [.ref (ad L 96)] L (FW G L a b c) px0 (stay L (fun r f1 => f1 = (FW G L a b c) ∧ r = some (.int v))) := by
  refine Ct.ofq (own := RX9) hl rfl (by decide) [some (.ref (ad L 96))] rfl (Nat.le_of_ble_eq_true rfl) ?_
  intro p e s m below meth c9 A ar Q hQ X
  unfold f_X9_thrown at hR
  refine j_aload_n X (i := 0) dX9_thrown_0 rfl rfl ?_
  refine j_getf X 9 0 rfl cw_X9 fl_X9_3 (by decide) dX9_thrown_1 (ad_mem hL (by decide)) (FW9 hL) rfl ?_
  exact q_iret X hQ dX9_thrown_4 rfl ⟨(by decide), (by decide)⟩ ⟨rfl, rfl, congrArg (fun z => some (Value.int z)) hR⟩
def f_X9_layPlain_2 (N : Nat)  : Nat → Int32 → Mem → Option Mem
  | 0, _, _ => none
  | fu + 1, x1, b2 => if (311 : Int32) ≤ x1 then (bT (upR b2 (rowM (b2 0 3)) (upd (b2 (rowM (b2 0 3))) ((5 : Int32)).toNatClampNeg (-1 : Int32))) fun b4 => bT (upR b4 (rowM (b4 0 3)) (upd (b4 (rowM (b4 0 3))) ((9 : Int32)).toNatClampNeg (-1 : Int32))) fun b6 => bT (upR b6 (rowM (b6 0 3)) (upd (b6 (rowM (b6 0 3))) ((11 : Int32)).toNatClampNeg (-1 : Int32))) fun b8 => some b8) else (chkI x1 311 <| bT (upR b2 (rowM (b2 0 3)) (upd (b2 (rowM (b2 0 3))) (x1).toNatClampNeg (0 : Int32))) fun b11 => bT (x1 + (1 : Int32)) fun x13 => f_X9_layPlain_2 N fu x13 b11)
theorem f_X9_layPlain_2_s (N : Nat)  {fu : Nat} {x1 : Int32} {b2 : Mem} : f_X9_layPlain_2 N (fu + 1) x1 b2 = (if (311 : Int32) ≤ x1 then (bT (upR b2 (rowM (b2 0 3)) (upd (b2 (rowM (b2 0 3))) ((5 : Int32)).toNatClampNeg (-1 : Int32))) fun b4 => bT (upR b4 (rowM (b4 0 3)) (upd (b4 (rowM (b4 0 3))) ((9 : Int32)).toNatClampNeg (-1 : Int32))) fun b6 => bT (upR b6 (rowM (b6 0 3)) (upd (b6 (rowM (b6 0 3))) ((11 : Int32)).toNatClampNeg (-1 : Int32))) fun b8 => some b8) else (chkI x1 311 <| bT (upR b2 (rowM (b2 0 3)) (upd (b2 (rowM (b2 0 3))) (x1).toNatClampNeg (0 : Int32))) fun b11 => bT (x1 + (1 : Int32)) fun x13 => f_X9_layPlain_2 N fu x13 b11)) := rfl
def f_X9_layPlain (N : Nat) (b : Mem) : Option Mem := f_X9_layPlain_2 N N (0 : Int32) b
set_option maxRecDepth 100000 in
set_option maxHeartbeats 4000000 in
theorem m_X9_layPlain {l : Launch} (hl : l.stackTraces = false) {G : GG} {L : List Nat} (hL : LOK L) {a b c : Mem} {N : Nat}  {a' : Mem} (hR : f_X9_layPlain N b = some a') : Ct l G yX9_layPlain (.code yX9_layPlain cX9_layPlain 2 none) 0 0 0 0 [.ref (ad L 96)] L (FW G L a b c) px0 (stay L (fun r f1 => f1 = (FW G L a a' c) ∧ r = none)) := by
  refine Ct.ofq (own := RX9) hl rfl (by decide) [some (.ref (ad L 96)), none] rfl (Nat.le_of_ble_eq_true rfl) ?_
  intro p e s m below meth c9 A ar Q hQ X
  unfold f_X9_layPlain at hR
  refine j_iconst X (0) dX9_layPlain_0 (by decide) ?_
  refine j_istore_n X (i := 1) dX9_layPlain_1 rfl (by decide) (lvOK_s rfl okPrev_ref) ?_
  dsimp only [List.set]
  have hb2 : ∀ (fu : Nat) (x1 : Int32) (b2 : Mem) , f_X9_layPlain_2 N fu x1 b2 = some a' → J G p l e ({ frames := 0, cells := 0, slots := 0, locals := 0 } : Room) s m ar below meth c9 A Q 2 0 0 2 [some (.ref (ad L 96)), some (.int x1)] [] L (FW G L a b2 c) := by
    intro fu
    induction fu with
    | zero =>
      intro x1 b2 hR
      cases hR
    | succ fu ih =>
      intro x1 b2 hR
      replace hR := (f_X9_layPlain_2_s N ).symm.trans hR
      refine j_iload_n X (i := 1) dX9_layPlain_2 rfl rfl ?_
      refine j_sipush X (311) dX9_layPlain_3 (by decide) ?_
      refine j_icmp_ge X (tgt := 22) dX9_layPlain_6 (by decide) (fun h3 => ?_) (fun h3 => ?_)
      · replace hR := (if_pos h3).symm.trans hR
        refine j_aload_n X (i := 0) dX9_layPlain_22 rfl rfl ?_
        refine j_getf X 9 3 rfl cw_X9 fl_X9_24 (by decide) dX9_layPlain_23 (ad_mem hL (by decide)) (FW9 hL) rfl ?_
        refine j_iconst X (5) dX9_layPlain_26 (by decide) ?_
        refine j_iconst X (-1) dX9_layPlain_27 (by decide) ?_
        obtain ⟨b4, h5, hR⟩ := bT_inv hR
        refine trow_iast X hL (by unfold vp_in; decide) h5 dX9_layPlain_28 ?_
        refine j_aload_n X (i := 0) dX9_layPlain_29 rfl rfl ?_
        refine j_getf X 9 3 rfl cw_X9 fl_X9_24 (by decide) dX9_layPlain_30 (ad_mem hL (by decide)) (FW9 hL) rfl ?_
        refine j_bipush X (9) dX9_layPlain_33 (by decide) ?_
        refine j_iconst X (-1) dX9_layPlain_35 (by decide) ?_
        obtain ⟨b6, h7, hR⟩ := bT_inv hR
        refine trow_iast X hL (by unfold vp_in; decide) h7 dX9_layPlain_36 ?_
        refine j_aload_n X (i := 0) dX9_layPlain_37 rfl rfl ?_
        refine j_getf X 9 3 rfl cw_X9 fl_X9_24 (by decide) dX9_layPlain_38 (ad_mem hL (by decide)) (FW9 hL) rfl ?_
        refine j_bipush X (11) dX9_layPlain_41 (by decide) ?_
        refine j_iconst X (-1) dX9_layPlain_43 (by decide) ?_
        obtain ⟨b8, h9, hR⟩ := bT_inv hR
        refine trow_iast X hL (by unfold vp_in; decide) h9 dX9_layPlain_44 ?_
        exact q_vret X hQ dX9_layPlain_45 rfl ⟨(by decide), (by decide)⟩ ⟨rfl, congrArg (fun z => FW G L a z c) (Option.some.inj hR), rfl⟩
      · replace hR := (if_neg h3).symm.trans hR
        refine j_aload_n X (i := 0) dX9_layPlain_9 rfl rfl ?_
        refine j_getf X 9 3 rfl cw_X9 fl_X9_24 (by decide) dX9_layPlain_10 (ad_mem hL (by decide)) (FW9 hL) rfl ?_
        refine j_iload_n X (i := 1) dX9_layPlain_13 rfl rfl ?_
        refine j_iconst X (0) dX9_layPlain_14 (by decide) ?_
        obtain ⟨h10, hR⟩ := chkI_inv hR
        obtain ⟨b11, h12, hR⟩ := bT_inv hR
        refine trow_iast X hL h10 h12 dX9_layPlain_15 ?_
        obtain ⟨x13, h14, hR⟩ := bT_inv hR
        refine j_iinc X x13 dX9_layPlain_16 rfl h14 (by decide) (lvOK_s rfl okPrev_ref) ?_
        dsimp only [List.set]
        refine j_goto X (tgt := 2) dX9_layPlain_19 (by decide) ?_
        exact J.sub (lvle_of (by simp only [lvle, and_self])) (ih _ _  hR)
  exact J.sub (lvle_of (by simp only [lvle, and_self])) (hb2 _ _ _  hR)
def f_X9_put (N : Nat) (p0 : Int32) (p1 : Int32) (p2 : Int32) (b : Mem) : Option Mem := chkI (((37 : Int32) + ((17 : Int32) * p0)) + p1) 311 <| bT (upR b (rowM (b 0 3)) (upd (b (rowM (b 0 3))) ((((37 : Int32) + ((17 : Int32) * p0)) + p1)).toNatClampNeg p2)) fun b2 => some b2
set_option maxRecDepth 100000 in
set_option maxHeartbeats 4000000 in
theorem m_X9_put {l : Launch} (hl : l.stackTraces = false) {G : GG} {L : List Nat} (hL : LOK L) {a b c : Mem} {N : Nat} {p0 : Int32} {p1 : Int32} {p2 : Int32} {a' : Mem} (hR : f_X9_put N p0 p1 p2 b = some a') : Ct l G yX9_put (.code yX9_put cX9_put 4 none) 0 0 0 0 [.ref (ad L 96), .int p0, .int p1, .int p2] L (FW G L a b c) px0 (stay L (fun r f1 => f1 = (FW G L a a' c) ∧ r = none)) := by
  refine Ct.ofq (own := RX9) hl rfl (by decide) [some (.ref (ad L 96)), some (.int p0), some (.int p1), some (.int p2)] rfl (Nat.le_of_ble_eq_true rfl) ?_
  intro p e s m below meth c9 A ar Q hQ X
  unfold f_X9_put at hR
  refine j_aload_n X (i := 0) dX9_put_0 rfl rfl ?_
  refine j_getf X 9 3 rfl cw_X9 fl_X9_24 (by decide) dX9_put_1 (ad_mem hL (by decide)) (FW9 hL) rfl ?_
  refine j_bipush X (37) dX9_put_4 (by decide) ?_
  refine j_bipush X (17) dX9_put_6 (by decide) ?_
  refine j_iload_n X (i := 1) dX9_put_8 rfl rfl ?_
  refine j_imul X dX9_put_9 ?_
  refine j_iadd X dX9_put_10 ?_
  refine j_iload_n X (i := 2) dX9_put_11 rfl rfl ?_
  refine j_iadd X dX9_put_12 ?_
  refine j_iload_n X (i := 3) dX9_put_13 rfl rfl ?_
  obtain ⟨h1, hR⟩ := chkI_inv hR
  obtain ⟨b2, h3, hR⟩ := bT_inv hR
  refine trow_iast X hL h1 h3 dX9_put_14 ?_
  exact q_vret X hQ dX9_put_15 rfl ⟨(by decide), (by decide)⟩ ⟨rfl, congrArg (fun z => FW G L a z c) (Option.some.inj hR), rfl⟩
def f_X9_passes3_26 (b : Mem) (x1 : Int32) : (Int32 × Mem) := bT (up2 b 0 0 x1) fun b2 => if (b2 0 0) = 0 then (((1 : Int32), b2)) else (((0 : Int32), b2))
def f_X9_passes3 (p0 : Int32) (p1 : Int32) (p2 : Int32) (b : Mem) : (Int32 × Mem) := if p0 = 0 then (f_X9_passes3_26 b (1 : Int32)) else (if p1 = 0 then (f_X9_passes3_26 b (2 : Int32)) else (if p2 = 0 then (f_X9_passes3_26 b (3 : Int32)) else (f_X9_passes3_26 b (0 : Int32))))
set_option maxRecDepth 100000 in
set_option maxHeartbeats 4000000 in
theorem m_X9_passes3 {l : Launch} (hl : l.stackTraces = false) {G : GG} {L : List Nat} (hL : LOK L) {a b c : Mem} {p0 : Int32} (hB0 : isB p0) {p1 : Int32} (hB1 : isB p1) {p2 : Int32} (hB2 : isB p2) {v : Int32} {a' : Mem} (hR : f_X9_passes3 p0 p1 p2 b = (v, a')) : Ct l G yX9_passes3 (.code yX9_passes3 cX9_passes3 4 (some .boolean)) 0 0 0 0 [.ref (ad L 96), .int p0, .int p1, .int p2] L (FW G L a b c) px0 (stay L (fun r f1 => f1 = (FW G L a a' c) ∧ r = some (.int v) ∧ isB v)) := by
  refine Ct.ofq (own := RX9) hl rfl (by decide) [some (.ref (ad L 96)), some (.int p0), some (.int p1), some (.int p2)] rfl (Nat.le_of_ble_eq_true rfl) ?_
  intro p e s m below meth c9 A ar Q hQ X
  unfold f_X9_passes3 at hR
  refine j_aload_n X (i := 0) dX9_passes3_0 rfl rfl ?_
  refine j_iload_n X (i := 1) dX9_passes3_1 rfl rfl ?_
  have hb26 : ∀ (x1 : Int32) , f_X9_passes3_26 b x1 = (v, a') → J G p l e ({ frames := 0, cells := 0, slots := 0, locals := 0 } : Room) s m ar below meth c9 A Q 4 0 0 26 [some (.ref (ad L 96)), none, none, none] [.int x1, .ref (ad L 96)] L (FW G L a b c) := by
    intro x1 hR
    unfold f_X9_passes3_26 at hR
    obtain ⟨b2, h3, hR⟩ := bT_inv hR
    refine tp_X9_0 X hL h3 fl_X9_3 dX9_passes3_26 ?_
    refine j_aload_n X (i := 0) dX9_passes3_29 rfl rfl ?_
    refine j_getf X 9 0 rfl cw_X9 fl_X9_3 (by decide) dX9_passes3_30 (ad_mem hL (by decide)) (FW9 hL) rfl ?_
    refine j_if_ne X (tgt := 40) dX9_passes3_33 (by decide) (fun h4 => ?_) (fun h4 => ?_)
    · replace hR := (if_neg h4).symm.trans hR
      refine j_iconst X (0) dX9_passes3_40 (by decide) ?_
      exact q_zret X hQ dX9_passes3_41 rfl (nar_B isB_0) ⟨(by decide), (by decide)⟩ ⟨rfl, congrArg (fun z => FW G L a z c) (Prod.mk.inj hR).2, congrArg (fun z => some (Value.int z)) (Prod.mk.inj hR).1, (Prod.mk.inj hR).1 ▸ isB_0⟩
    · replace hR := (if_pos h4).symm.trans hR
      refine j_iconst X (1) dX9_passes3_36 (by decide) ?_
      refine j_goto X (tgt := 41) dX9_passes3_37 (by decide) ?_
      exact q_zret X hQ dX9_passes3_41 rfl (nar_B isB_1) ⟨(by decide), (by decide)⟩ ⟨rfl, congrArg (fun z => FW G L a z c) (Prod.mk.inj hR).2, congrArg (fun z => some (Value.int z)) (Prod.mk.inj hR).1, (Prod.mk.inj hR).1 ▸ isB_1⟩
  refine j_if_ne X (tgt := 9) dX9_passes3_2 (by decide) (fun h5 => ?_) (fun h5 => ?_)
  · replace hR := (if_neg h5).symm.trans hR
    refine j_iload_n X (i := 2) dX9_passes3_9 rfl rfl ?_
    refine j_if_ne X (tgt := 17) dX9_passes3_10 (by decide) (fun h6 => ?_) (fun h6 => ?_)
    · replace hR := (if_neg h6).symm.trans hR
      refine j_iload_n X (i := 3) dX9_passes3_17 rfl rfl ?_
      refine j_if_ne X (tgt := 25) dX9_passes3_18 (by decide) (fun h7 => ?_) (fun h7 => ?_)
      · replace hR := (if_neg h7).symm.trans hR
        refine j_iconst X (0) dX9_passes3_25 (by decide) ?_
        exact J.sub (lvle_of (by simp only [lvle, and_self])) (hb26 _  hR)
      · replace hR := (if_pos h7).symm.trans hR
        refine j_iconst X (3) dX9_passes3_21 (by decide) ?_
        refine j_goto X (tgt := 26) dX9_passes3_22 (by decide) ?_
        exact J.sub (lvle_of (by simp only [lvle, and_self])) (hb26 _  hR)
    · replace hR := (if_pos h6).symm.trans hR
      refine j_iconst X (2) dX9_passes3_13 (by decide) ?_
      refine j_goto X (tgt := 26) dX9_passes3_14 (by decide) ?_
      exact J.sub (lvle_of (by simp only [lvle, and_self])) (hb26 _  hR)
  · replace hR := (if_pos h5).symm.trans hR
    refine j_iconst X (1) dX9_passes3_5 (by decide) ?_
    refine j_goto X (tgt := 26) dX9_passes3_6 (by decide) ?_
    exact J.sub (lvle_of (by simp only [lvle, and_self])) (hb26 _  hR)
def f_X9_passes (p0 : Int32) (b : Mem) : (Int32 × Mem) := bT2 (f_X9_passes3 p0 (1 : Int32) (1 : Int32) b) fun x2 b3 => (x2, b3)
set_option maxRecDepth 100000 in
set_option maxHeartbeats 4000000 in
theorem m_X9_passes {l : Launch} (hl : l.stackTraces = false) {G : GG} {L : List Nat} (hL : LOK L) {a b c : Mem} {p0 : Int32} (hB0 : isB p0) {v : Int32} {a' : Mem} (hR : f_X9_passes p0 b = (v, a')) : Ct l G yX9_passes (.code yX9_passes cX9_passes 2 (some .boolean)) 1 23 0 0 [.ref (ad L 96), .int p0] L (FW G L a b c) px0 (stay L (fun r f1 => f1 = (FW G L a a' c) ∧ r = some (.int v) ∧ isB v)) := by
  refine Ct.ofq (own := RX9) hl rfl (by decide) [some (.ref (ad L 96)), some (.int p0)] rfl (Nat.le_of_ble_eq_true rfl) ?_
  intro p e s m below meth c9 A ar Q hQ X
  unfold f_X9_passes at hR
  refine j_aload_n X (i := 0) dX9_passes_0 rfl rfl ?_
  refine j_iload_n X (i := 1) dX9_passes_1 rfl rfl ?_
  refine j_iconst X (1) dX9_passes_2 (by decide) ?_
  refine j_iconst X (1) dX9_passes_3 (by decide) ?_
  obtain ⟨x2, b3, h1, hR⟩ := bT2_inv hR
  refine j_callV3 X 9 (m_X9_passes3 hl hL hB0 isB_1 isB_1 h1) ml_X9_7 im_yX9_passes3 se_yX9_passes3 in_X9 cd_yX9_passes3 hy_yX9_passes3 dX9_passes_4 rfl (ad_mem hL (by decide)) (FW9 hL) ⟨(by decide), (by decide)⟩ ⟨(by decide), (by decide)⟩ (Nat.le_of_ble_eq_true rfl) (fun _ h => h.elim) (fun r9 L9 f9 h9 => ?_)
  obtain ⟨h91, h92, h93, h4⟩ := h9
  subst r9
  subst f9
  subst L9
  dsimp only [Option.toList, List.cons_append, List.nil_append, List.append]
  exact q_zret X hQ dX9_passes_7 rfl (nar_B h4) ⟨(by decide), (by decide)⟩ ⟨rfl, congrArg (fun z => FW G L a z c) (Prod.mk.inj hR).2, congrArg (fun z => some (Value.int z)) (Prod.mk.inj hR).1, (Prod.mk.inj hR).1 ▸ h4⟩
def f_X9_appendFour_3 (N : Nat) (p0 : Int32) : Nat → Int32 → Mem → Option Mem
  | 0, _, _ => none
  | fu + 1, x1, b2 => if x1 < 0 then (some b2) else (chkI (b2 0 12) 400 <| bT (upR b2 4 (upd (b2 4) ((b2 0 12)).toNatClampNeg (vp_nar .byte ((Int32.toInt8 (p0 >>> (x1 &&& 31))).toInt32)))) fun b5 => bT (up2 b5 0 12 ((b5 0 12) + (1 : Int32))) fun b7 => bT (x1 + (-8 : Int32)) fun x9 => f_X9_appendFour_3 N p0 fu x9 b7)
theorem f_X9_appendFour_3_s (N : Nat) (p0 : Int32) {fu : Nat} {x1 : Int32} {b2 : Mem} : f_X9_appendFour_3 N p0 (fu + 1) x1 b2 = (if x1 < 0 then (some b2) else (chkI (b2 0 12) 400 <| bT (upR b2 4 (upd (b2 4) ((b2 0 12)).toNatClampNeg (vp_nar .byte ((Int32.toInt8 (p0 >>> (x1 &&& 31))).toInt32)))) fun b5 => bT (up2 b5 0 12 ((b5 0 12) + (1 : Int32))) fun b7 => bT (x1 + (-8 : Int32)) fun x9 => f_X9_appendFour_3 N p0 fu x9 b7)) := rfl
def f_X9_appendFour (N : Nat) (p0 : Int32) (b : Mem) : Option Mem := f_X9_appendFour_3 N p0 N (24 : Int32) b
set_option maxRecDepth 100000 in
set_option maxHeartbeats 4000000 in
theorem m_X9_appendFour {l : Launch} (hl : l.stackTraces = false) {G : GG} {L : List Nat} (hL : LOK L) {a b c : Mem} {N : Nat} {p0 : Int32} {a' : Mem} (hR : f_X9_appendFour N p0 b = some a') : Ct l G yX9_appendFour (.code yX9_appendFour cX9_appendFour 3 none) 0 0 0 0 [.ref (ad L 96), .int p0] L (FW G L a b c) px0 (stay L (fun r f1 => f1 = (FW G L a a' c) ∧ r = none)) := by
  refine Ct.ofq (own := RX9) hl rfl (by decide) [some (.ref (ad L 96)), some (.int p0), none] rfl (Nat.le_of_ble_eq_true rfl) ?_
  intro p e s m below meth c9 A ar Q hQ X
  unfold f_X9_appendFour at hR
  refine j_bipush X (24) dX9_appendFour_0 (by decide) ?_
  refine j_istore_n X (i := 2) dX9_appendFour_2 rfl (by decide) (lvOK_s rfl okPrev_int) ?_
  dsimp only [List.set]
  have hb3 : ∀ (fu : Nat) (x1 : Int32) (b2 : Mem) , f_X9_appendFour_3 N p0 fu x1 b2 = some a' → J G p l e ({ frames := 0, cells := 0, slots := 0, locals := 0 } : Room) s m ar below meth c9 A Q 3 0 0 3 [some (.ref (ad L 96)), some (.int p0), some (.int x1)] [] L (FW G L a b2 c) := by
    intro fu
    induction fu with
    | zero =>
      intro x1 b2 hR
      cases hR
    | succ fu ih =>
      intro x1 b2 hR
      replace hR := (f_X9_appendFour_3_s N p0).symm.trans hR
      refine j_iload_n X (i := 2) dX9_appendFour_3 rfl rfl ?_
      refine j_if_lt X (tgt := 36) dX9_appendFour_4 (by decide) (fun h3 => ?_) (fun h3 => ?_)
      · replace hR := (if_pos h3).symm.trans hR
        exact q_vret X hQ dX9_appendFour_36 rfl ⟨(by decide), (by decide)⟩ ⟨rfl, congrArg (fun z => FW G L a z c) (Option.some.inj hR), rfl⟩
      · replace hR := (if_neg h3).symm.trans hR
        refine j_aload_n X (i := 0) dX9_appendFour_7 rfl rfl ?_
        refine j_getf X 9 11 rfl cw_X9 fl_X9_30 (by decide) dX9_appendFour_8 (ad_mem hL (by decide)) (FW9 hL) rfl ?_
        refine j_aload_n X (i := 0) dX9_appendFour_11 rfl rfl ?_
        refine j_getf X 9 12 rfl cw_X9 fl_X9_156 (by decide) dX9_appendFour_12 (ad_mem hL (by decide)) (FW9 hL) rfl ?_
        refine j_iload_n X (i := 1) dX9_appendFour_15 rfl rfl ?_
        refine j_iload_n X (i := 2) dX9_appendFour_16 rfl rfl ?_
        refine j_ishr X dX9_appendFour_17 ?_
        refine j_i2b X dX9_appendFour_18 ?_
        obtain ⟨h4, hR⟩ := chkI_inv hR
        obtain ⟨b5, h6, hR⟩ := bT_inv hR
        refine t_Bast_100 X hL h4 h6 dX9_appendFour_19 ?_
        refine j_aload_n X (i := 0) dX9_appendFour_20 rfl rfl ?_
        refine j_dup X dX9_appendFour_21 rfl ?_
        refine j_getf X 9 12 rfl cw_X9 fl_X9_156 (by decide) dX9_appendFour_22 (ad_mem hL (by decide)) (FW9 hL) rfl ?_
        refine j_iconst X (1) dX9_appendFour_25 (by decide) ?_
        refine j_iadd X dX9_appendFour_26 ?_
        obtain ⟨b7, h8, hR⟩ := bT_inv hR
        refine tp_X9_12 X hL h8 fl_X9_156 dX9_appendFour_27 ?_
        obtain ⟨x9, h10, hR⟩ := bT_inv hR
        refine j_iinc X x9 dX9_appendFour_30 rfl h10 (by decide) (lvOK_s rfl okPrev_int) ?_
        dsimp only [List.set]
        refine j_goto X (tgt := 3) dX9_appendFour_33 (by decide) ?_
        exact J.sub (lvle_of (by simp only [lvle, and_self])) (ih _ _  hR)
  exact J.sub (lvle_of (by simp only [lvle, and_self])) (hb3 _ _ _  hR)
def f_X9_append_19 (N : Nat) (p0 : Int32) (p1 : Int32) (p2 : Int32) (p3 : Int32) (p4 : Int32) (b : Mem) (x1 : Int32) : Option (Int32 × Mem) := bT2 (f_X9_passes x1 b) fun x3 b4 => if x3 = 0 then (some ((0 : Int32), b4)) else (bP (f_X9_appendFour N p0 b4) fun b8 => bP (f_X9_appendFour N p1 b8) fun b11 => bP (f_X9_appendFour N p2 b11) fun b14 => bP (f_X9_appendFour N p3 b14) fun b17 => bP (f_X9_appendFour N p4 b17) fun b20 => some ((b20 0 12), b20))
def f_X9_append (N : Nat) (p0 : Int32) (p1 : Int32) (p2 : Int32) (p3 : Int32) (p4 : Int32) (b : Mem) : Option (Int32 × Mem) := if (400 : Int32) < ((b 0 12) + (20 : Int32)) then (f_X9_append_19 N p0 p1 p2 p3 p4 b (0 : Int32)) else (f_X9_append_19 N p0 p1 p2 p3 p4 b (1 : Int32))
set_option maxRecDepth 100000 in
set_option maxHeartbeats 4000000 in
theorem m_X9_append {l : Launch} (hl : l.stackTraces = false) {G : GG} {L : List Nat} (hL : LOK L) {a b c : Mem} {N : Nat} {p0 : Int32} {p1 : Int32} {p2 : Int32} {p3 : Int32} {p4 : Int32} {v : Int32} {a' : Mem} (hR : f_X9_append N p0 p1 p2 p3 p4 b = some (v, a')) : Ct l G yX9_append (.code yX9_append cX9_append 6 (some .int)) 2 44 0 0 [.ref (ad L 96), .int p0, .int p1, .int p2, .int p3, .int p4] L (FW G L a b c) px0 (stay L (fun r f1 => f1 = (FW G L a a' c) ∧ r = some (.int v))) := by
  refine Ct.ofq (own := RX9) hl rfl (by decide) [some (.ref (ad L 96)), some (.int p0), some (.int p1), some (.int p2), some (.int p3), some (.int p4)] rfl (Nat.le_of_ble_eq_true rfl) ?_
  intro p e s m below meth c9 A ar Q hQ X
  unfold f_X9_append at hR
  refine j_aload_n X (i := 0) dX9_append_0 rfl rfl ?_
  refine j_aload_n X (i := 0) dX9_append_1 rfl rfl ?_
  refine j_getf X 9 12 rfl cw_X9 fl_X9_156 (by decide) dX9_append_2 (ad_mem hL (by decide)) (FW9 hL) rfl ?_
  refine j_bipush X (20) dX9_append_5 (by decide) ?_
  refine j_iadd X dX9_append_7 ?_
  refine j_sipush X (400) dX9_append_8 (by decide) ?_
  have hb19 : ∀ (x1 : Int32) (hBx1 : isB x1), f_X9_append_19 N p0 p1 p2 p3 p4 b x1 = some (v, a') → J G p l e ({ frames := 2, cells := 0, slots := 0, locals := 44 } : Room) s m ar below meth c9 A Q 6 0 0 19 [some (.ref (ad L 96)), some (.int p0), some (.int p1), some (.int p2), some (.int p3), some (.int p4)] [.int x1, .ref (ad L 96)] L (FW G L a b c) := by
    intro x1 hBx1 hR
    unfold f_X9_append_19 at hR
    obtain ⟨x3, b4, h2, hR⟩ := bT2_inv hR
    refine j_callV1 X 9 (m_X9_passes hl hL hBx1 h2) ml_X9_159 im_yX9_passes se_yX9_passes in_X9 cd_yX9_passes hy_yX9_passes dX9_append_19 rfl (ad_mem hL (by decide)) (FW9 hL) ⟨(by decide), (by decide)⟩ ⟨(by decide), (by decide)⟩ (Nat.le_of_ble_eq_true rfl) (fun _ h => h.elim) (fun r9 L9 f9 h9 => ?_)
    obtain ⟨h91, h92, h93, h5⟩ := h9
    subst r9
    subst f9
    subst L9
    dsimp only [Option.toList, List.cons_append, List.nil_append, List.append]
    refine j_if_ne X (tgt := 27) dX9_append_22 (by decide) (fun h6 => ?_) (fun h6 => ?_)
    · replace hR := (if_neg h6).symm.trans hR
      refine j_aload_n X (i := 0) dX9_append_27 rfl rfl ?_
      refine j_iload_n X (i := 1) dX9_append_28 rfl rfl ?_
      obtain ⟨b8, h7, hR⟩ := bP_inv hR
      refine j_callV1 X 9 (m_X9_appendFour hl hL h7) ml_X9_163 im_yX9_appendFour se_yX9_appendFour in_X9 cd_yX9_appendFour hy_yX9_appendFour dX9_append_29 rfl (ad_mem hL (by decide)) (FW9 hL) ⟨(by decide), (by decide)⟩ ⟨(by decide), (by decide)⟩ (Nat.le_of_ble_eq_true rfl) (fun _ h => h.elim) (fun r9 L9 f9 h9 => ?_)
      obtain ⟨h91, h92, h93⟩ := h9
      subst r9
      subst f9
      subst L9
      dsimp only [Option.toList, List.cons_append, List.nil_append, List.append]
      refine j_aload_n X (i := 0) dX9_append_32 rfl rfl ?_
      refine j_iload_n X (i := 2) dX9_append_33 rfl rfl ?_
      obtain ⟨b11, h10, hR⟩ := bP_inv hR
      refine j_callV1 X 9 (m_X9_appendFour hl hL h10) ml_X9_163 im_yX9_appendFour se_yX9_appendFour in_X9 cd_yX9_appendFour hy_yX9_appendFour dX9_append_34 rfl (ad_mem hL (by decide)) (FW9 hL) ⟨(by decide), (by decide)⟩ ⟨(by decide), (by decide)⟩ (Nat.le_of_ble_eq_true rfl) (fun _ h => h.elim) (fun r9 L9 f9 h9 => ?_)
      obtain ⟨h91, h92, h93⟩ := h9
      subst r9
      subst f9
      subst L9
      dsimp only [Option.toList, List.cons_append, List.nil_append, List.append]
      refine j_aload_n X (i := 0) dX9_append_37 rfl rfl ?_
      refine j_iload_n X (i := 3) dX9_append_38 rfl rfl ?_
      obtain ⟨b14, h13, hR⟩ := bP_inv hR
      refine j_callV1 X 9 (m_X9_appendFour hl hL h13) ml_X9_163 im_yX9_appendFour se_yX9_appendFour in_X9 cd_yX9_appendFour hy_yX9_appendFour dX9_append_39 rfl (ad_mem hL (by decide)) (FW9 hL) ⟨(by decide), (by decide)⟩ ⟨(by decide), (by decide)⟩ (Nat.le_of_ble_eq_true rfl) (fun _ h => h.elim) (fun r9 L9 f9 h9 => ?_)
      obtain ⟨h91, h92, h93⟩ := h9
      subst r9
      subst f9
      subst L9
      dsimp only [Option.toList, List.cons_append, List.nil_append, List.append]
      refine j_aload_n X (i := 0) dX9_append_42 rfl rfl ?_
      refine j_iload X dX9_append_43 rfl ?_
      obtain ⟨b17, h16, hR⟩ := bP_inv hR
      refine j_callV1 X 9 (m_X9_appendFour hl hL h16) ml_X9_163 im_yX9_appendFour se_yX9_appendFour in_X9 cd_yX9_appendFour hy_yX9_appendFour dX9_append_45 rfl (ad_mem hL (by decide)) (FW9 hL) ⟨(by decide), (by decide)⟩ ⟨(by decide), (by decide)⟩ (Nat.le_of_ble_eq_true rfl) (fun _ h => h.elim) (fun r9 L9 f9 h9 => ?_)
      obtain ⟨h91, h92, h93⟩ := h9
      subst r9
      subst f9
      subst L9
      dsimp only [Option.toList, List.cons_append, List.nil_append, List.append]
      refine j_aload_n X (i := 0) dX9_append_48 rfl rfl ?_
      refine j_iload X dX9_append_49 rfl ?_
      obtain ⟨b20, h19, hR⟩ := bP_inv hR
      refine j_callV1 X 9 (m_X9_appendFour hl hL h19) ml_X9_163 im_yX9_appendFour se_yX9_appendFour in_X9 cd_yX9_appendFour hy_yX9_appendFour dX9_append_51 rfl (ad_mem hL (by decide)) (FW9 hL) ⟨(by decide), (by decide)⟩ ⟨(by decide), (by decide)⟩ (Nat.le_of_ble_eq_true rfl) (fun _ h => h.elim) (fun r9 L9 f9 h9 => ?_)
      obtain ⟨h91, h92, h93⟩ := h9
      subst r9
      subst f9
      subst L9
      dsimp only [Option.toList, List.cons_append, List.nil_append, List.append]
      refine j_aload_n X (i := 0) dX9_append_54 rfl rfl ?_
      refine j_getf X 9 12 rfl cw_X9 fl_X9_156 (by decide) dX9_append_55 (ad_mem hL (by decide)) (FW9 hL) rfl ?_
      exact q_iret X hQ dX9_append_58 rfl ⟨(by decide), (by decide)⟩ ⟨rfl, congrArg (fun z => FW G L a z c) (Prod.mk.inj (Option.some.inj hR)).2, congrArg (fun z => some (Value.int z)) (Prod.mk.inj (Option.some.inj hR)).1⟩
    · replace hR := (if_pos h6).symm.trans hR
      refine j_iconst X (0) dX9_append_25 (by decide) ?_
      exact q_iret X hQ dX9_append_26 rfl ⟨(by decide), (by decide)⟩ ⟨rfl, congrArg (fun z => FW G L a z c) (Prod.mk.inj (Option.some.inj hR)).2, congrArg (fun z => some (Value.int z)) (Prod.mk.inj (Option.some.inj hR)).1⟩
  refine j_icmp_gt X (tgt := 18) dX9_append_11 (by decide) (fun h22 => ?_) (fun h22 => ?_)
  · replace hR := (if_pos h22).symm.trans hR
    refine j_iconst X (0) dX9_append_18 (by decide) ?_
    exact J.sub (lvle_of (by simp only [lvle, and_self])) (hb19 _ isB_0 hR)
  · replace hR := (if_neg h22).symm.trans hR
    refine j_iconst X (1) dX9_append_14 (by decide) ?_
    refine j_goto X (tgt := 19) dX9_append_15 (by decide) ?_
    exact J.sub (lvle_of (by simp only [lvle, and_self])) (hb19 _ isB_1 hR)
def f_X9_in (p0 : Int64) (p1 : Int64) (p2 : Int64) (b : Mem) : Int32 := if (lg_cmp p0 p1) < 0 then ((0 : Int32)) else (if 0 < (lg_cmp p0 p2) then ((0 : Int32)) else ((1 : Int32)))
set_option maxRecDepth 100000 in
set_option maxHeartbeats 4000000 in
theorem m_X9_in {l : Launch} (hl : l.stackTraces = false) {G : GG} {L : List Nat} (hL : LOK L) {a b c : Mem} {p0 : Int64} {p1 : Int64} {p2 : Int64} {v : Int32} (hR : f_X9_in p0 p1 p2 b = v) : Ct l G yX9_in (.code yX9_in cX9_in 6 (some .boolean)) 0 0 0 0 [.long p0, .long p1, .long p2] L (FW G L a b c) px0 (stay L (fun r f1 => f1 = (FW G L a b c) ∧ r = some (.int v) ∧ isB v)) := by
  refine Ct.ofq (own := RX9) hl rfl (by decide) [some (.long p0), none, some (.long p1), none, some (.long p2), none] rfl (Nat.le_of_ble_eq_true rfl) ?_
  intro p e s m below meth c9 A ar Q hQ X
  unfold f_X9_in at hR
  refine j_lload_n X (i := 0) dX9_in_0 rfl rfl ?_
  refine j_lload_n X (i := 2) dX9_in_1 rfl rfl ?_
  refine j_lcmp X dX9_in_2 ?_
  refine j_if_lt X (tgt := 17) dX9_in_3 (by decide) (fun h1 => ?_) (fun h1 => ?_)
  · replace hR := (if_pos h1).symm.trans hR
    refine j_iconst X (0) dX9_in_17 (by decide) ?_
    exact q_zret X hQ dX9_in_18 rfl (nar_B isB_0) ⟨(by decide), (by decide)⟩ ⟨rfl, rfl, congrArg (fun z => some (Value.int z)) hR, hR ▸ isB_0⟩
  · replace hR := (if_neg h1).symm.trans hR
    refine j_lload_n X (i := 0) dX9_in_6 rfl rfl ?_
    refine j_lload X dX9_in_7 rfl ?_
    refine j_lcmp X dX9_in_9 ?_
    refine j_if_gt X (tgt := 17) dX9_in_10 (by decide) (fun h2 => ?_) (fun h2 => ?_)
    · replace hR := (if_pos h2).symm.trans hR
      refine j_iconst X (0) dX9_in_17 (by decide) ?_
      exact q_zret X hQ dX9_in_18 rfl (nar_B isB_0) ⟨(by decide), (by decide)⟩ ⟨rfl, rfl, congrArg (fun z => some (Value.int z)) hR, hR ▸ isB_0⟩
    · replace hR := (if_neg h2).symm.trans hR
      refine j_iconst X (1) dX9_in_13 (by decide) ?_
      refine j_goto X (tgt := 18) dX9_in_14 (by decide) ?_
      exact q_zret X hQ dX9_in_18 rfl (nar_B isB_1) ⟨(by decide), (by decide)⟩ ⟨rfl, rfl, congrArg (fun z => some (Value.int z)) hR, hR ▸ isB_1⟩
def f_X9_truncate (p0 : Int32) (b : Mem) : Mem := bT (f_X9_in (Int32.toInt64 p0) (0 : Int64) (Int32.toInt64 (b 0 12)) b) fun x2 => bT2 (f_X9_passes x2 b) fun x5 b6 => if x5 = 0 then (b6) else (bT (up2 b6 0 12 p0) fun b9 => b9)
set_option maxRecDepth 100000 in
set_option maxHeartbeats 4000000 in
theorem m_X9_truncate {l : Launch} (hl : l.stackTraces = false) {G : GG} {L : List Nat} (hL : LOK L) {a b c : Mem} {p0 : Int32} {a' : Mem} (hR : f_X9_truncate p0 b = a') : Ct l G yX9_truncate (.code yX9_truncate cX9_truncate 2 none) 2 44 0 0 [.ref (ad L 96), .int p0] L (FW G L a b c) px0 (stay L (fun r f1 => f1 = (FW G L a a' c) ∧ r = none)) := by
  refine Ct.ofq (own := RX9) hl rfl (by decide) [some (.ref (ad L 96)), some (.int p0)] rfl (Nat.le_of_ble_eq_true rfl) ?_
  intro p e s m below meth c9 A ar Q hQ X
  unfold f_X9_truncate at hR
  refine j_aload_n X (i := 0) dX9_truncate_0 rfl rfl ?_
  refine j_iload_n X (i := 1) dX9_truncate_1 rfl rfl ?_
  refine j_i2l X dX9_truncate_2 ?_
  refine j_lconst X (0) dX9_truncate_3 (by decide) ?_
  refine j_aload_n X (i := 0) dX9_truncate_4 rfl rfl ?_
  refine j_getf X 9 12 rfl cw_X9 fl_X9_156 (by decide) dX9_truncate_5 (ad_mem hL (by decide)) (FW9 hL) rfl ?_
  refine j_i2l X dX9_truncate_8 ?_
  obtain ⟨x2, h1, hR⟩ := bT_inv hR
  refine j_callS3 X (m_X9_in hl hL h1) ml_X9_64 st_yX9_in in_X9 cd_yX9_in hy_yX9_in dX9_truncate_9 ⟨(by decide), (by decide)⟩ ⟨(by decide), (by decide)⟩ (Nat.le_of_ble_eq_true rfl) (fun _ h => h.elim) (fun r9 L9 f9 h9 => ?_)
  obtain ⟨h91, h92, h93, h3⟩ := h9
  subst r9
  subst f9
  subst L9
  dsimp only [Option.toList, List.cons_append, List.nil_append, List.append]
  obtain ⟨x5, b6, h4, hR⟩ := bT2_inv hR
  refine j_callV1 X 9 (m_X9_passes hl hL h3 h4) ml_X9_159 im_yX9_passes se_yX9_passes in_X9 cd_yX9_passes hy_yX9_passes dX9_truncate_12 rfl (ad_mem hL (by decide)) (FW9 hL) ⟨(by decide), (by decide)⟩ ⟨(by decide), (by decide)⟩ (Nat.le_of_ble_eq_true rfl) (fun _ h => h.elim) (fun r9 L9 f9 h9 => ?_)
  obtain ⟨h91, h92, h93, h7⟩ := h9
  subst r9
  subst f9
  subst L9
  dsimp only [Option.toList, List.cons_append, List.nil_append, List.append]
  refine j_if_eq X (tgt := 23) dX9_truncate_15 (by decide) (fun h8 => ?_) (fun h8 => ?_)
  · replace hR := (if_pos h8).symm.trans hR
    exact q_vret X hQ dX9_truncate_23 rfl ⟨(by decide), (by decide)⟩ ⟨rfl, congrArg (fun z => FW G L a z c) hR, rfl⟩
  · replace hR := (if_neg h8).symm.trans hR
    refine j_aload_n X (i := 0) dX9_truncate_18 rfl rfl ?_
    refine j_iload_n X (i := 1) dX9_truncate_19 rfl rfl ?_
    obtain ⟨b9, h10, hR⟩ := bT_inv hR
    refine tp_X9_12 X hL h10 fl_X9_156 dX9_truncate_20 ?_
    exact q_vret X hQ dX9_truncate_23 rfl ⟨(by decide), (by decide)⟩ ⟨rfl, congrArg (fun z => FW G L a z c) hR, rfl⟩
def f_X9_byteAt (N : Nat) (p0 : Int32) (b : Mem) : Option Int32 := if (b 0 13) ≤ p0 then (some (-1 : Int32)) else (chkI p0 400 <| some ((b 4 (p0).toNatClampNeg) &&& (255 : Int32)))
set_option maxRecDepth 100000 in
set_option maxHeartbeats 4000000 in
theorem m_X9_byteAt {l : Launch} (hl : l.stackTraces = false) {G : GG} {L : List Nat} (hL : LOK L) {a b c : Mem} {N : Nat} {p0 : Int32} {v : Int32} (hR : f_X9_byteAt N p0 b = some v) : Ct l G yX9_byteAt (.code yX9_byteAt cX9_byteAt 2 (some .int)) 0 0 0 0 [.ref (ad L 96), .int p0] L (FW G L a b c) px0 (stay L (fun r f1 => f1 = (FW G L a b c) ∧ r = some (.int v))) := by
  refine Ct.ofq (own := RX9) hl rfl (by decide) [some (.ref (ad L 96)), some (.int p0)] rfl (Nat.le_of_ble_eq_true rfl) ?_
  intro p e s m below meth c9 A ar Q hQ X
  unfold f_X9_byteAt at hR
  refine j_iload_n X (i := 1) dX9_byteAt_0 rfl rfl ?_
  refine j_aload_n X (i := 0) dX9_byteAt_1 rfl rfl ?_
  refine j_getf X 9 13 rfl cw_X9 fl_X9_176 (by decide) dX9_byteAt_2 (ad_mem hL (by decide)) (FW9 hL) rfl ?_
  refine j_icmp_ge X (tgt := 21) dX9_byteAt_5 (by decide) (fun h1 => ?_) (fun h1 => ?_)
  · replace hR := (if_pos h1).symm.trans hR
    refine j_iconst X (-1) dX9_byteAt_21 (by decide) ?_
    exact q_iret X hQ dX9_byteAt_22 rfl ⟨(by decide), (by decide)⟩ ⟨rfl, rfl, congrArg (fun z => some (Value.int z)) (Option.some.inj hR)⟩
  · replace hR := (if_neg h1).symm.trans hR
    refine j_aload_n X (i := 0) dX9_byteAt_8 rfl rfl ?_
    refine j_getf X 9 11 rfl cw_X9 fl_X9_30 (by decide) dX9_byteAt_9 (ad_mem hL (by decide)) (FW9 hL) rfl ?_
    refine j_iload_n X (i := 1) dX9_byteAt_12 rfl rfl ?_
    obtain ⟨h2, hR⟩ := chkI_inv hR
    refine j_bald X dX9_byteAt_13 (ad_mem hL (by decide)) (FWr100 hL) h2 ?_
    refine j_sipush X (255) dX9_byteAt_14 (by decide) ?_
    refine j_iand X dX9_byteAt_17 ?_
    refine j_goto X (tgt := 22) dX9_byteAt_18 (by decide) ?_
    exact q_iret X hQ dX9_byteAt_22 rfl ⟨(by decide), (by decide)⟩ ⟨rfl, rfl, congrArg (fun z => some (Value.int z)) (Option.some.inj hR)⟩
def f_X9_scan_144 (N : Nat)  : Nat → Mem → Option Mem
  | 0, _ => none
  | fu + 1, b34 => bP (f_X9_byteAt N (b34 0 14) b34) fun x36 => bT (f_X9_in (Int32.toInt64 x36) (48 : Int64) (57 : Int64) b34) fun x39 => if x39 = 0 then (some b34) else (bP (f_X9_byteAt N (b34 0 14) b34) fun x44 => bT (up2 b34 0 17 (mnI (999999 : Int32) ((((10 : Int32) * (b34 0 17)) + x44) - (48 : Int32)))) fun b46 => bT (up2 b46 0 14 ((b46 0 14) + (1 : Int32))) fun b48 => f_X9_scan_144 N fu b48)
theorem f_X9_scan_144_s (N : Nat)  {fu : Nat} {b34 : Mem} : f_X9_scan_144 N (fu + 1) b34 = (bP (f_X9_byteAt N (b34 0 14) b34) fun x36 => bT (f_X9_in (Int32.toInt64 x36) (48 : Int64) (57 : Int64) b34) fun x39 => if x39 = 0 then (some b34) else (bP (f_X9_byteAt N (b34 0 14) b34) fun x44 => bT (up2 b34 0 17 (mnI (999999 : Int32) ((((10 : Int32) * (b34 0 17)) + x44) - (48 : Int32)))) fun b46 => bT (up2 b46 0 14 ((b46 0 14) + (1 : Int32))) fun b48 => f_X9_scan_144 N fu b48)) := rfl
def f_X9_scan_83 (N : Nat)  : Nat → Mem → Option Mem
  | 0, _ => none
  | fu + 1, b55 => bP (f_X9_byteAt N (b55 0 14) b55) fun x57 => bT (f_X9_in (Int32.toInt64 x57) (97 : Int64) (122 : Int64) b55) fun x60 => if x60 = 0 then (some b55) else (bT (up2 b55 0 14 ((b55 0 14) + (1 : Int32))) fun b64 => f_X9_scan_83 N fu b64)
theorem f_X9_scan_83_s (N : Nat)  {fu : Nat} {b55 : Mem} : f_X9_scan_83 N (fu + 1) b55 = (bP (f_X9_byteAt N (b55 0 14) b55) fun x57 => bT (f_X9_in (Int32.toInt64 x57) (97 : Int64) (122 : Int64) b55) fun x60 => if x60 = 0 then (some b55) else (bT (up2 b55 0 14 ((b55 0 14) + (1 : Int32))) fun b64 => f_X9_scan_83 N fu b64)) := rfl
def f_X9_scan_0 (N : Nat)  : Nat → Mem → Option Mem
  | 0, _ => none
  | fu + 1, b1 => bP (f_X9_byteAt N (b1 0 14) b1) fun x3 => if x3 = (32 : Int32) then (bT (up2 b1 0 14 ((b1 0 14) + (1 : Int32))) fun b6 => f_X9_scan_0 N fu b6) else (bP (f_X9_byteAt N (b1 0 14) b1) fun x9 => if x9 = (10 : Int32) then (bT (up2 b1 0 14 ((b1 0 14) + (1 : Int32))) fun b73 => f_X9_scan_0 N fu b73) else (bT (up2 b1 0 15 (b1 0 14)) fun b12 => bP (f_X9_byteAt N (b12 0 14) b12) fun x15 => if x15 = (-1 : Int32) then (bT (up2 b12 0 16 (0 : Int32)) fun b71 => some b71) else (bT (f_X9_in (Int32.toInt64 x15) (97 : Int64) (122 : Int64) b12) fun x19 => if x19 = 0 then (bT (f_X9_in (Int32.toInt64 x15) (48 : Int64) (57 : Int64) b12) fun x23 => if x23 = 0 then (bT (up2 b12 0 16 (3 : Int32)) fun b26 => bT (up2 b26 0 17 x15) fun b28 => bT (up2 b28 0 14 ((b28 0 14) + (1 : Int32))) fun b30 => some b30) else (bT (up2 b12 0 17 (0 : Int32)) fun b32 => bP (f_X9_scan_144 N N b32) fun b51 => bT (up2 b51 0 16 (2 : Int32)) fun b53 => some b53)) else (bP (f_X9_scan_83 N N b12) fun b67 => bT (up2 b67 0 16 (1 : Int32)) fun b69 => some b69))))
theorem f_X9_scan_0_s (N : Nat)  {fu : Nat} {b1 : Mem} : f_X9_scan_0 N (fu + 1) b1 = (bP (f_X9_byteAt N (b1 0 14) b1) fun x3 => if x3 = (32 : Int32) then (bT (up2 b1 0 14 ((b1 0 14) + (1 : Int32))) fun b6 => f_X9_scan_0 N fu b6) else (bP (f_X9_byteAt N (b1 0 14) b1) fun x9 => if x9 = (10 : Int32) then (bT (up2 b1 0 14 ((b1 0 14) + (1 : Int32))) fun b73 => f_X9_scan_0 N fu b73) else (bT (up2 b1 0 15 (b1 0 14)) fun b12 => bP (f_X9_byteAt N (b12 0 14) b12) fun x15 => if x15 = (-1 : Int32) then (bT (up2 b12 0 16 (0 : Int32)) fun b71 => some b71) else (bT (f_X9_in (Int32.toInt64 x15) (97 : Int64) (122 : Int64) b12) fun x19 => if x19 = 0 then (bT (f_X9_in (Int32.toInt64 x15) (48 : Int64) (57 : Int64) b12) fun x23 => if x23 = 0 then (bT (up2 b12 0 16 (3 : Int32)) fun b26 => bT (up2 b26 0 17 x15) fun b28 => bT (up2 b28 0 14 ((b28 0 14) + (1 : Int32))) fun b30 => some b30) else (bT (up2 b12 0 17 (0 : Int32)) fun b32 => bP (f_X9_scan_144 N N b32) fun b51 => bT (up2 b51 0 16 (2 : Int32)) fun b53 => some b53)) else (bP (f_X9_scan_83 N N b12) fun b67 => bT (up2 b67 0 16 (1 : Int32)) fun b69 => some b69))))) := rfl
def f_X9_scan (N : Nat) (b : Mem) : Option Mem := f_X9_scan_0 N N b
set_option maxRecDepth 100000 in
set_option maxHeartbeats 4000000 in
theorem m_X9_scan {l : Launch} (hl : l.stackTraces = false) {G : GG} {L : List Nat} (hL : LOK L) {a b c : Mem} {N : Nat}  {a' : Mem} (hR : f_X9_scan N b = some a') : Ct l G yX9_scan (.code yX9_scan cX9_scan 2 none) 1 25 0 0 [.ref (ad L 96)] L (FW G L a b c) px0 (stay L (fun r f1 => f1 = (FW G L a a' c) ∧ r = none)) := by
  refine Ct.ofq (own := RX9) hl rfl (by decide) [some (.ref (ad L 96)), none] rfl (Nat.le_of_ble_eq_true rfl) ?_
  intro p e s m below meth c9 A ar Q hQ X
  unfold f_X9_scan at hR
  have hb0 : ∀ (fu : Nat) (b1 : Mem) , f_X9_scan_0 N fu b1 = some a' → J G p l e ({ frames := 1, cells := 0, slots := 0, locals := 25 } : Room) s m ar below meth c9 A Q 2 0 0 0 [some (.ref (ad L 96)), none] [] L (FW G L a b1 c) := by
    intro fu
    induction fu with
    | zero =>
      intro b1 hR
      cases hR
    | succ fu ih =>
      intro b1 hR
      replace hR := (f_X9_scan_0_s N ).symm.trans hR
      refine j_aload_n X (i := 0) dX9_scan_0 rfl rfl ?_
      refine j_aload_n X (i := 0) dX9_scan_1 rfl rfl ?_
      refine j_getf X 9 14 rfl cw_X9 fl_X9_179 (by decide) dX9_scan_2 (ad_mem hL (by decide)) (FW9 hL) rfl ?_
      obtain ⟨x3, h2, hR⟩ := bP_inv hR
      refine j_callV1 X 9 (m_X9_byteAt hl hL h2) ml_X9_182 im_yX9_byteAt se_yX9_byteAt in_X9 cd_yX9_byteAt hy_yX9_byteAt dX9_scan_5 rfl (ad_mem hL (by decide)) (FW9 hL) ⟨(by decide), (by decide)⟩ ⟨(by decide), (by decide)⟩ (Nat.le_of_ble_eq_true rfl) (fun _ h => h.elim) (fun r9 L9 f9 h9 => ?_)
      obtain ⟨h91, h92, h93⟩ := h9
      subst r9
      subst f9
      subst L9
      dsimp only [Option.toList, List.cons_append, List.nil_append, List.append]
      refine j_bipush X (32) dX9_scan_8 (by decide) ?_
      refine j_icmp_eq X (tgt := 26) dX9_scan_10 (by decide) (fun h5 => ?_) (fun h5 => ?_)
      · replace hR := (if_pos h5).symm.trans hR
        refine j_aload_n X (i := 0) dX9_scan_26 rfl rfl ?_
        refine j_dup X dX9_scan_27 rfl ?_
        refine j_getf X 9 14 rfl cw_X9 fl_X9_179 (by decide) dX9_scan_28 (ad_mem hL (by decide)) (FW9 hL) rfl ?_
        refine j_iconst X (1) dX9_scan_31 (by decide) ?_
        refine j_iadd X dX9_scan_32 ?_
        obtain ⟨b6, h7, hR⟩ := bT_inv hR
        refine tp_X9_14 X hL h7 fl_X9_179 dX9_scan_33 ?_
        refine j_goto X (tgt := 0) dX9_scan_36 (by decide) ?_
        exact J.sub (lvle_of (by simp only [lvle, and_self])) (ih _  hR)
      · replace hR := (if_neg h5).symm.trans hR
        refine j_aload_n X (i := 0) dX9_scan_13 rfl rfl ?_
        refine j_aload_n X (i := 0) dX9_scan_14 rfl rfl ?_
        refine j_getf X 9 14 rfl cw_X9 fl_X9_179 (by decide) dX9_scan_15 (ad_mem hL (by decide)) (FW9 hL) rfl ?_
        obtain ⟨x9, h8, hR⟩ := bP_inv hR
        refine j_callV1 X 9 (m_X9_byteAt hl hL h8) ml_X9_182 im_yX9_byteAt se_yX9_byteAt in_X9 cd_yX9_byteAt hy_yX9_byteAt dX9_scan_18 rfl (ad_mem hL (by decide)) (FW9 hL) ⟨(by decide), (by decide)⟩ ⟨(by decide), (by decide)⟩ (Nat.le_of_ble_eq_true rfl) (fun _ h => h.elim) (fun r9 L9 f9 h9 => ?_)
        obtain ⟨h91, h92, h93⟩ := h9
        subst r9
        subst f9
        subst L9
        dsimp only [Option.toList, List.cons_append, List.nil_append, List.append]
        refine j_bipush X (10) dX9_scan_21 (by decide) ?_
        refine j_icmp_ne X (tgt := 39) dX9_scan_23 (by decide) (fun h11 => ?_) (fun h11 => ?_)
        · replace hR := (if_neg h11).symm.trans hR
          refine j_aload_n X (i := 0) dX9_scan_39 rfl rfl ?_
          refine j_aload_n X (i := 0) dX9_scan_40 rfl rfl ?_
          refine j_getf X 9 14 rfl cw_X9 fl_X9_179 (by decide) dX9_scan_41 (ad_mem hL (by decide)) (FW9 hL) rfl ?_
          obtain ⟨b12, h13, hR⟩ := bT_inv hR
          refine tp_X9_15 X hL h13 fl_X9_173 dX9_scan_44 ?_
          refine j_aload_n X (i := 0) dX9_scan_47 rfl rfl ?_
          refine j_aload_n X (i := 0) dX9_scan_48 rfl rfl ?_
          refine j_getf X 9 14 rfl cw_X9 fl_X9_179 (by decide) dX9_scan_49 (ad_mem hL (by decide)) (FW9 hL) rfl ?_
          obtain ⟨x15, h14, hR⟩ := bP_inv hR
          refine j_callV1 X 9 (m_X9_byteAt hl hL h14) ml_X9_182 im_yX9_byteAt se_yX9_byteAt in_X9 cd_yX9_byteAt hy_yX9_byteAt dX9_scan_52 rfl (ad_mem hL (by decide)) (FW9 hL) ⟨(by decide), (by decide)⟩ ⟨(by decide), (by decide)⟩ (Nat.le_of_ble_eq_true rfl) (fun _ h => h.elim) (fun r9 L9 f9 h9 => ?_)
          obtain ⟨h91, h92, h93⟩ := h9
          subst r9
          subst f9
          subst L9
          dsimp only [Option.toList, List.cons_append, List.nil_append, List.append]
          refine j_istore_n X (i := 1) dX9_scan_55 rfl (by decide) (lvOK_s rfl okPrev_ref) ?_
          dsimp only [List.set]
          refine j_iload_n X (i := 1) dX9_scan_56 rfl rfl ?_
          refine j_iconst X (-1) dX9_scan_57 (by decide) ?_
          refine j_icmp_ne X (tgt := 69) dX9_scan_58 (by decide) (fun h17 => ?_) (fun h17 => ?_)
          · replace hR := (if_neg h17).symm.trans hR
            refine j_iload_n X (i := 1) dX9_scan_69 rfl rfl ?_
            refine j_i2l X dX9_scan_70 ?_
            refine j_ldc2 X dX9_scan_71 cj_X9_188 ?_
            refine j_ldc2 X dX9_scan_74 cj_X9_190 ?_
            obtain ⟨x19, h18, hR⟩ := bT_inv hR
            refine j_callS3 X (m_X9_in hl hL h18) ml_X9_64 st_yX9_in in_X9 cd_yX9_in hy_yX9_in dX9_scan_77 ⟨(by decide), (by decide)⟩ ⟨(by decide), (by decide)⟩ (Nat.le_of_ble_eq_true rfl) (fun _ h => h.elim) (fun r9 L9 f9 h9 => ?_)
            obtain ⟨h91, h92, h93, h20⟩ := h9
            subst r9
            subst f9
            subst L9
            dsimp only [Option.toList, List.cons_append, List.nil_append, List.append]
            refine j_if_eq X (tgt := 125) dX9_scan_80 (by decide) (fun h21 => ?_) (fun h21 => ?_)
            · replace hR := (if_pos h21).symm.trans hR
              refine j_iload_n X (i := 1) dX9_scan_125 rfl rfl ?_
              refine j_i2l X dX9_scan_126 ?_
              refine j_ldc2 X dX9_scan_127 cj_X9_192 ?_
              refine j_ldc2 X dX9_scan_130 cj_X9_194 ?_
              obtain ⟨x23, h22, hR⟩ := bT_inv hR
              refine j_callS3 X (m_X9_in hl hL h22) ml_X9_64 st_yX9_in in_X9 cd_yX9_in hy_yX9_in dX9_scan_133 ⟨(by decide), (by decide)⟩ ⟨(by decide), (by decide)⟩ (Nat.le_of_ble_eq_true rfl) (fun _ h => h.elim) (fun r9 L9 f9 h9 => ?_)
              obtain ⟨h91, h92, h93, h24⟩ := h9
              subst r9
              subst f9
              subst L9
              dsimp only [Option.toList, List.cons_append, List.nil_append, List.append]
              refine j_if_eq X (tgt := 214) dX9_scan_136 (by decide) (fun h25 => ?_) (fun h25 => ?_)
              · replace hR := (if_pos h25).symm.trans hR
                refine j_aload_n X (i := 0) dX9_scan_214 rfl rfl ?_
                refine j_iconst X (3) dX9_scan_215 (by decide) ?_
                obtain ⟨b26, h27, hR⟩ := bT_inv hR
                refine tp_X9_16 X hL h27 fl_X9_185 dX9_scan_216 ?_
                refine j_aload_n X (i := 0) dX9_scan_219 rfl rfl ?_
                refine j_iload_n X (i := 1) dX9_scan_220 rfl rfl ?_
                obtain ⟨b28, h29, hR⟩ := bT_inv hR
                refine tp_X9_17 X hL h29 fl_X9_196 dX9_scan_221 ?_
                refine j_aload_n X (i := 0) dX9_scan_224 rfl rfl ?_
                refine j_dup X dX9_scan_225 rfl ?_
                refine j_getf X 9 14 rfl cw_X9 fl_X9_179 (by decide) dX9_scan_226 (ad_mem hL (by decide)) (FW9 hL) rfl ?_
                refine j_iconst X (1) dX9_scan_229 (by decide) ?_
                refine j_iadd X dX9_scan_230 ?_
                obtain ⟨b30, h31, hR⟩ := bT_inv hR
                refine tp_X9_14 X hL h31 fl_X9_179 dX9_scan_231 ?_
                exact q_vret X hQ dX9_scan_234 rfl ⟨(by decide), (by decide)⟩ ⟨rfl, congrArg (fun z => FW G L a z c) (Option.some.inj hR), rfl⟩
              · replace hR := (if_neg h25).symm.trans hR
                refine j_aload_n X (i := 0) dX9_scan_139 rfl rfl ?_
                refine j_iconst X (0) dX9_scan_140 (by decide) ?_
                obtain ⟨b32, h33, hR⟩ := bT_inv hR
                refine tp_X9_17 X hL h33 fl_X9_196 dX9_scan_141 ?_
                have hb144 : ∀ (fu : Nat) (b34 : Mem) (b50 : Mem), f_X9_scan_144 N fu b34 = some b50 → J G p l e ({ frames := 1, cells := 0, slots := 0, locals := 25 } : Room) s m ar below meth c9 A Q 2 0 0 206 [some (.ref (ad L 96)), none] [] L (FW G L a b50 c) → J G p l e ({ frames := 1, cells := 0, slots := 0, locals := 25 } : Room) s m ar below meth c9 A Q 2 0 0 144 [some (.ref (ad L 96)), none] [] L (FW G L a b34 c) := by
                  intro fu
                  induction fu with
                  | zero =>
                    intro b34 b50 hR
                    cases hR
                  | succ fu ih =>
                    intro b34 b50 hR hK
                    replace hR := (f_X9_scan_144_s N ).symm.trans hR
                    refine j_aload_n X (i := 0) dX9_scan_144 rfl rfl ?_
                    refine j_aload_n X (i := 0) dX9_scan_145 rfl rfl ?_
                    refine j_getf X 9 14 rfl cw_X9 fl_X9_179 (by decide) dX9_scan_146 (ad_mem hL (by decide)) (FW9 hL) rfl ?_
                    obtain ⟨x36, h35, hR⟩ := bP_inv hR
                    refine j_callV1 X 9 (m_X9_byteAt hl hL h35) ml_X9_182 im_yX9_byteAt se_yX9_byteAt in_X9 cd_yX9_byteAt hy_yX9_byteAt dX9_scan_149 rfl (ad_mem hL (by decide)) (FW9 hL) ⟨(by decide), (by decide)⟩ ⟨(by decide), (by decide)⟩ (Nat.le_of_ble_eq_true rfl) (fun _ h => h.elim) (fun r9 L9 f9 h9 => ?_)
                    obtain ⟨h91, h92, h93⟩ := h9
                    subst r9
                    subst f9
                    subst L9
                    dsimp only [Option.toList, List.cons_append, List.nil_append, List.append]
                    refine j_i2l X dX9_scan_152 ?_
                    refine j_ldc2 X dX9_scan_153 cj_X9_192 ?_
                    refine j_ldc2 X dX9_scan_156 cj_X9_194 ?_
                    obtain ⟨x39, h38, hR⟩ := bT_inv hR
                    refine j_callS3 X (m_X9_in hl hL h38) ml_X9_64 st_yX9_in in_X9 cd_yX9_in hy_yX9_in dX9_scan_159 ⟨(by decide), (by decide)⟩ ⟨(by decide), (by decide)⟩ (Nat.le_of_ble_eq_true rfl) (fun _ h => h.elim) (fun r9 L9 f9 h9 => ?_)
                    obtain ⟨h91, h92, h93, h40⟩ := h9
                    subst r9
                    subst f9
                    subst L9
                    dsimp only [Option.toList, List.cons_append, List.nil_append, List.append]
                    refine j_if_eq X (tgt := 206) dX9_scan_162 (by decide) (fun h41 => ?_) (fun h41 => ?_)
                    · replace hR := (if_pos h41).symm.trans hR
                      have h42 := Option.some.inj hR
                      subst h42
                      exact J.sub (lvle_of (by simp only [lvle, and_self])) hK
                    · replace hR := (if_neg h41).symm.trans hR
                      refine j_aload_n X (i := 0) dX9_scan_165 rfl rfl ?_
                      refine j_ldc X dX9_scan_166 co_X9_199 ?_
                      refine j_bipush X (10) dX9_scan_168 (by decide) ?_
                      refine j_aload_n X (i := 0) dX9_scan_170 rfl rfl ?_
                      refine j_getf X 9 17 rfl cw_X9 fl_X9_196 (by decide) dX9_scan_171 (ad_mem hL (by decide)) (FW9 hL) rfl ?_
                      refine j_imul X dX9_scan_174 ?_
                      refine j_aload_n X (i := 0) dX9_scan_175 rfl rfl ?_
                      refine j_aload_n X (i := 0) dX9_scan_176 rfl rfl ?_
                      refine j_getf X 9 14 rfl cw_X9 fl_X9_179 (by decide) dX9_scan_177 (ad_mem hL (by decide)) (FW9 hL) rfl ?_
                      obtain ⟨x44, h43, hR⟩ := bP_inv hR
                      refine j_callV1 X 9 (m_X9_byteAt hl hL h43) ml_X9_182 im_yX9_byteAt se_yX9_byteAt in_X9 cd_yX9_byteAt hy_yX9_byteAt dX9_scan_180 rfl (ad_mem hL (by decide)) (FW9 hL) ⟨(by decide), (by decide)⟩ ⟨(by decide), (by decide)⟩ (Nat.le_of_ble_eq_true rfl) (fun _ h => h.elim) (fun r9 L9 f9 h9 => ?_)
                      obtain ⟨h91, h92, h93⟩ := h9
                      subst r9
                      subst f9
                      subst L9
                      dsimp only [Option.toList, List.cons_append, List.nil_append, List.append]
                      refine j_iadd X dX9_scan_183 ?_
                      refine j_bipush X (48) dX9_scan_184 (by decide) ?_
                      refine j_isub X dX9_scan_186 ?_
                      refine j_mmin X ml_X9_99 dX9_scan_187 ⟨(by decide), (Nat.le_of_ble_eq_true rfl)⟩ ⟨(by decide), (by decide)⟩ ?_
                      obtain ⟨b46, h47, hR⟩ := bT_inv hR
                      refine tp_X9_17 X hL h47 fl_X9_196 dX9_scan_190 ?_
                      refine j_aload_n X (i := 0) dX9_scan_193 rfl rfl ?_
                      refine j_dup X dX9_scan_194 rfl ?_
                      refine j_getf X 9 14 rfl cw_X9 fl_X9_179 (by decide) dX9_scan_195 (ad_mem hL (by decide)) (FW9 hL) rfl ?_
                      refine j_iconst X (1) dX9_scan_198 (by decide) ?_
                      refine j_iadd X dX9_scan_199 ?_
                      obtain ⟨b48, h49, hR⟩ := bT_inv hR
                      refine tp_X9_14 X hL h49 fl_X9_179 dX9_scan_200 ?_
                      refine j_goto X (tgt := 144) dX9_scan_203 (by decide) ?_
                      exact J.sub (lvle_of (by simp only [lvle, and_self])) (ih _ _ hR hK)
                obtain ⟨b51, h52, hR⟩ := bP_inv hR
                refine J.sub (lvle_of (by simp only [lvle, and_self])) (hb144 _ _ _ h52 ?_)
                refine j_aload_n X (i := 0) dX9_scan_206 rfl rfl ?_
                refine j_iconst X (2) dX9_scan_207 (by decide) ?_
                obtain ⟨b53, h54, hR⟩ := bT_inv hR
                refine tp_X9_16 X hL h54 fl_X9_185 dX9_scan_208 ?_
                refine j_goto X (tgt := 234) dX9_scan_211 (by decide) ?_
                exact q_vret X hQ dX9_scan_234 rfl ⟨(by decide), (by decide)⟩ ⟨rfl, congrArg (fun z => FW G L a z c) (Option.some.inj hR), rfl⟩
            · replace hR := (if_neg h21).symm.trans hR
              have hb83 : ∀ (fu : Nat) (b55 : Mem) (b66 : Mem), f_X9_scan_83 N fu b55 = some b66 → J G p l e ({ frames := 1, cells := 0, slots := 0, locals := 25 } : Room) s m ar below meth c9 A Q 2 0 0 117 [some (.ref (ad L 96)), none] [] L (FW G L a b66 c) → J G p l e ({ frames := 1, cells := 0, slots := 0, locals := 25 } : Room) s m ar below meth c9 A Q 2 0 0 83 [some (.ref (ad L 96)), none] [] L (FW G L a b55 c) := by
                intro fu
                induction fu with
                | zero =>
                  intro b55 b66 hR
                  cases hR
                | succ fu ih =>
                  intro b55 b66 hR hK
                  replace hR := (f_X9_scan_83_s N ).symm.trans hR
                  refine j_aload_n X (i := 0) dX9_scan_83 rfl rfl ?_
                  refine j_aload_n X (i := 0) dX9_scan_84 rfl rfl ?_
                  refine j_getf X 9 14 rfl cw_X9 fl_X9_179 (by decide) dX9_scan_85 (ad_mem hL (by decide)) (FW9 hL) rfl ?_
                  obtain ⟨x57, h56, hR⟩ := bP_inv hR
                  refine j_callV1 X 9 (m_X9_byteAt hl hL h56) ml_X9_182 im_yX9_byteAt se_yX9_byteAt in_X9 cd_yX9_byteAt hy_yX9_byteAt dX9_scan_88 rfl (ad_mem hL (by decide)) (FW9 hL) ⟨(by decide), (by decide)⟩ ⟨(by decide), (by decide)⟩ (Nat.le_of_ble_eq_true rfl) (fun _ h => h.elim) (fun r9 L9 f9 h9 => ?_)
                  obtain ⟨h91, h92, h93⟩ := h9
                  subst r9
                  subst f9
                  subst L9
                  dsimp only [Option.toList, List.cons_append, List.nil_append, List.append]
                  refine j_i2l X dX9_scan_91 ?_
                  refine j_ldc2 X dX9_scan_92 cj_X9_188 ?_
                  refine j_ldc2 X dX9_scan_95 cj_X9_190 ?_
                  obtain ⟨x60, h59, hR⟩ := bT_inv hR
                  refine j_callS3 X (m_X9_in hl hL h59) ml_X9_64 st_yX9_in in_X9 cd_yX9_in hy_yX9_in dX9_scan_98 ⟨(by decide), (by decide)⟩ ⟨(by decide), (by decide)⟩ (Nat.le_of_ble_eq_true rfl) (fun _ h => h.elim) (fun r9 L9 f9 h9 => ?_)
                  obtain ⟨h91, h92, h93, h61⟩ := h9
                  subst r9
                  subst f9
                  subst L9
                  dsimp only [Option.toList, List.cons_append, List.nil_append, List.append]
                  refine j_if_eq X (tgt := 117) dX9_scan_101 (by decide) (fun h62 => ?_) (fun h62 => ?_)
                  · replace hR := (if_pos h62).symm.trans hR
                    have h63 := Option.some.inj hR
                    subst h63
                    exact J.sub (lvle_of (by simp only [lvle, and_self])) hK
                  · replace hR := (if_neg h62).symm.trans hR
                    refine j_aload_n X (i := 0) dX9_scan_104 rfl rfl ?_
                    refine j_dup X dX9_scan_105 rfl ?_
                    refine j_getf X 9 14 rfl cw_X9 fl_X9_179 (by decide) dX9_scan_106 (ad_mem hL (by decide)) (FW9 hL) rfl ?_
                    refine j_iconst X (1) dX9_scan_109 (by decide) ?_
                    refine j_iadd X dX9_scan_110 ?_
                    obtain ⟨b64, h65, hR⟩ := bT_inv hR
                    refine tp_X9_14 X hL h65 fl_X9_179 dX9_scan_111 ?_
                    refine j_goto X (tgt := 83) dX9_scan_114 (by decide) ?_
                    exact J.sub (lvle_of (by simp only [lvle, and_self])) (ih _ _ hR hK)
              obtain ⟨b67, h68, hR⟩ := bP_inv hR
              refine J.sub (lvle_of (by simp only [lvle, and_self])) (hb83 _ _ _ h68 ?_)
              refine j_aload_n X (i := 0) dX9_scan_117 rfl rfl ?_
              refine j_iconst X (1) dX9_scan_118 (by decide) ?_
              obtain ⟨b69, h70, hR⟩ := bT_inv hR
              refine tp_X9_16 X hL h70 fl_X9_185 dX9_scan_119 ?_
              refine j_goto X (tgt := 234) dX9_scan_122 (by decide) ?_
              exact q_vret X hQ dX9_scan_234 rfl ⟨(by decide), (by decide)⟩ ⟨rfl, congrArg (fun z => FW G L a z c) (Option.some.inj hR), rfl⟩
          · replace hR := (if_pos h17).symm.trans hR
            refine j_aload_n X (i := 0) dX9_scan_61 rfl rfl ?_
            refine j_iconst X (0) dX9_scan_62 (by decide) ?_
            obtain ⟨b71, h72, hR⟩ := bT_inv hR
            refine tp_X9_16 X hL h72 fl_X9_185 dX9_scan_63 ?_
            refine j_goto X (tgt := 234) dX9_scan_66 (by decide) ?_
            exact q_vret X hQ dX9_scan_234 rfl ⟨(by decide), (by decide)⟩ ⟨rfl, congrArg (fun z => FW G L a z c) (Option.some.inj hR), rfl⟩
        · replace hR := (if_pos h11).symm.trans hR
          refine j_aload_n X (i := 0) dX9_scan_26 rfl rfl ?_
          refine j_dup X dX9_scan_27 rfl ?_
          refine j_getf X 9 14 rfl cw_X9 fl_X9_179 (by decide) dX9_scan_28 (ad_mem hL (by decide)) (FW9 hL) rfl ?_
          refine j_iconst X (1) dX9_scan_31 (by decide) ?_
          refine j_iadd X dX9_scan_32 ?_
          obtain ⟨b73, h74, hR⟩ := bT_inv hR
          refine tp_X9_14 X hL h74 fl_X9_179 dX9_scan_33 ?_
          refine j_goto X (tgt := 0) dX9_scan_36 (by decide) ?_
          exact J.sub (lvle_of (by simp only [lvle, and_self])) (ih _  hR)
  exact J.sub (lvle_of (by simp only [lvle, and_self])) (hb0 _ _  hR)
def f_X9_good (b : Mem) : Int32 := if (b 0 18) = 0 then ((1 : Int32)) else ((0 : Int32))
set_option maxRecDepth 100000 in
set_option maxHeartbeats 4000000 in
theorem m_X9_good {l : Launch} (hl : l.stackTraces = false) {G : GG} {L : List Nat} (hL : LOK L) {a b c : Mem}  {v : Int32} (hR : f_X9_good b = v) : Ct l G yX9_good (.code yX9_good cX9_good 1 (some .boolean)) 0 0 0 0 [.ref (ad L 96)] L (FW G L a b c) px0 (stay L (fun r f1 => f1 = (FW G L a b c) ∧ r = some (.int v) ∧ isB v)) := by
  refine Ct.ofq (own := RX9) hl rfl (by decide) [some (.ref (ad L 96))] rfl (Nat.le_of_ble_eq_true rfl) ?_
  intro p e s m below meth c9 A ar Q hQ X
  unfold f_X9_good at hR
  refine j_aload_n X (i := 0) dX9_good_0 rfl rfl ?_
  refine j_getf X 9 18 rfl cw_X9 fl_X9_166 (by decide) dX9_good_1 (ad_mem hL (by decide)) (FW9 hL) rfl ?_
  refine j_if_ne X (tgt := 11) dX9_good_4 (by decide) (fun h1 => ?_) (fun h1 => ?_)
  · replace hR := (if_neg h1).symm.trans hR
    refine j_iconst X (0) dX9_good_11 (by decide) ?_
    exact q_zret X hQ dX9_good_12 rfl (nar_B isB_0) ⟨(by decide), (by decide)⟩ ⟨rfl, rfl, congrArg (fun z => some (Value.int z)) hR, hR ▸ isB_0⟩
  · replace hR := (if_pos h1).symm.trans hR
    refine j_iconst X (1) dX9_good_7 (by decide) ?_
    refine j_goto X (tgt := 12) dX9_good_8 (by decide) ?_
    exact q_zret X hQ dX9_good_12 rfl (nar_B isB_1) ⟨(by decide), (by decide)⟩ ⟨rfl, rfl, congrArg (fun z => some (Value.int z)) hR, hR ▸ isB_1⟩
def f_X9_isWord_39 (N : Nat) (p0 : Nat) (b : Mem) : Nat → Int32 → Int32 → Option Int32
  | 0, _, _ => none
  | fu + 1, x5, x6 => bT (nI (strLn p0)) fun x8 => if x8 ≤ x6 then (some x5) else (if x5 = 0 then (some x5) else (chkI ((b 0 15) + x6) 400 <| chkI x6 (strLn p0) <| bT (strCh p0 (x6).toNatClampNeg) fun x13 => if (b 4 (((b 0 15) + x6)).toNatClampNeg) = x13 then (bT (x6 + (1 : Int32)) fun x18 => f_X9_isWord_39 N p0 b fu (1 : Int32) x18) else (bT (x6 + (1 : Int32)) fun x16 => f_X9_isWord_39 N p0 b fu (0 : Int32) x16)))
theorem f_X9_isWord_39_s (N : Nat) (p0 : Nat) (b : Mem) {fu : Nat} {x5 : Int32} {x6 : Int32} : f_X9_isWord_39 N p0 b (fu + 1) x5 x6 = (bT (nI (strLn p0)) fun x8 => if x8 ≤ x6 then (some x5) else (if x5 = 0 then (some x5) else (chkI ((b 0 15) + x6) 400 <| chkI x6 (strLn p0) <| bT (strCh p0 (x6).toNatClampNeg) fun x13 => if (b 4 (((b 0 15) + x6)).toNatClampNeg) = x13 then (bT (x6 + (1 : Int32)) fun x18 => f_X9_isWord_39 N p0 b fu (1 : Int32) x18) else (bT (x6 + (1 : Int32)) fun x16 => f_X9_isWord_39 N p0 b fu (0 : Int32) x16)))) := rfl
def f_X9_isWord_36 (N : Nat) (p0 : Nat) (b : Mem) (x4 : Int32) : Option Int32 := f_X9_isWord_39 N p0 b N x4 (0 : Int32)
def f_X9_isWord_35 (N : Nat) (p0 : Nat) (b : Mem)  : Option Int32 := f_X9_isWord_36 N p0 b (0 : Int32)
def f_X9_isWord (N : Nat) (p0 : Nat) (b : Mem) : Option Int32 := bT (f_X9_good b) fun x2 => if x2 = 0 then (f_X9_isWord_35 N p0 b ) else (if (b 0 16) = (1 : Int32) then (bT (nI (strLn p0)) fun x23 => if ((b 0 14) - (b 0 15)) = x23 then (f_X9_isWord_36 N p0 b (1 : Int32)) else (f_X9_isWord_35 N p0 b )) else (f_X9_isWord_35 N p0 b ))
set_option maxRecDepth 100000 in
set_option maxHeartbeats 4000000 in
theorem m_X9_isWord {l : Launch} (hl : l.stackTraces = false) {G : GG} {L : List Nat} (hL : LOK L) {a b c : Mem} {N : Nat} {p0 : Nat} (hs0 : p0 < 47) {v : Int32} (hR : f_X9_isWord N p0 b = some v) : Ct l G yX9_isWord (.code yX9_isWord cX9_isWord 4 (some .boolean)) 5 123 0 0 [.ref (ad L 96), .ref (G.2.2.1 p0)] L (FW G L a b c) px0 (stay L (fun r f1 => f1 = (FW G L a b c) ∧ r = some (.int v) ∧ isB v)) := by
  refine Ct.ofq (own := RX9) hl rfl (by decide) [some (.ref (ad L 96)), some (.ref (G.2.2.1 p0)), none, none] rfl (Nat.le_of_ble_eq_true rfl) ?_
  intro p e s m below meth c9 A ar Q hQ X
  unfold f_X9_isWord at hR
  refine j_aload_n X (i := 0) dX9_isWord_0 rfl rfl ?_
  obtain ⟨x2, h1, hR⟩ := bT_inv hR
  refine j_callV0 X 9 (m_X9_good hl hL h1) ml_X9_169 im_yX9_good se_yX9_good in_X9 cd_yX9_good hy_yX9_good dX9_isWord_1 rfl (ad_mem hL (by decide)) (FW9 hL) ⟨(by decide), (by decide)⟩ ⟨(by decide), (by decide)⟩ (Nat.le_of_ble_eq_true rfl) (fun _ h => h.elim) (fun r9 L9 f9 h9 => ?_)
  obtain ⟨h91, h92, h93, h3⟩ := h9
  subst r9
  subst f9
  subst L9
  dsimp only [Option.toList, List.cons_append, List.nil_append, List.append]
  have hb36 : ∀ (x4 : Int32) (hBx4 : isB x4), f_X9_isWord_36 N p0 b x4 = some v → J G p l e ({ frames := 5, cells := 0, slots := 0, locals := 123 } : Room) s m ar below meth c9 A Q 4 0 0 36 [some (.ref (ad L 96)), some (.ref (G.2.2.1 p0)), none, none] [.int x4] L (FW G L a b c) := by
    intro x4 hBx4 hR
    unfold f_X9_isWord_36 at hR
    refine j_istore_n X (i := 2) dX9_isWord_36 rfl (by decide) (lvOK_s rfl okPrev_ref) ?_
    dsimp only [List.set]
    refine j_iconst X (0) dX9_isWord_37 (by decide) ?_
    refine j_istore_n X (i := 3) dX9_isWord_38 rfl (by decide) (lvOK_s rfl okPrev_int) ?_
    dsimp only [List.set]
    have hb39 : ∀ (fu : Nat) (x5 : Int32) (x6 : Int32) (hBx5 : isB x5), f_X9_isWord_39 N p0 b fu x5 x6 = some v → J G p l e ({ frames := 5, cells := 0, slots := 0, locals := 123 } : Room) s m ar below meth c9 A Q 4 0 0 39 [some (.ref (ad L 96)), some (.ref (G.2.2.1 p0)), some (.int x5), some (.int x6)] [] L (FW G L a b c) := by
      intro fu
      induction fu with
      | zero =>
        intro x5 x6 hBx5 hR
        cases hR
      | succ fu ih =>
        intro x5 x6 hBx5 hR
        replace hR := (f_X9_isWord_39_s N p0 b).symm.trans hR
        refine j_iload_n X (i := 3) dX9_isWord_39 rfl rfl ?_
        refine j_aload_n X (i := 1) dX9_isWord_40 rfl rfl ?_
        obtain ⟨x8, h7, hR⟩ := bT_inv hR
        refine j_callT (As := []) X hs0 (c_strlen hl hs0 h7) ml_X9_203 im_yJ0_length_8abf5 se_yJ0_length_8abf5 cd_yJ0_length_8abf5 hy_yJ0_length_8abf5 dX9_isWord_41 ⟨(by decide), (by decide)⟩ ⟨(by decide), (by decide)⟩ (Nat.le_of_ble_eq_true rfl) (fun _ h => h.elim) (fun r9 L9 f9 h9 => ?_)
        obtain ⟨h91, h92, h93⟩ := h9
        subst r9
        subst f9
        subst L9
        dsimp only [Option.toList, List.cons_append, List.nil_append, List.append]
        refine j_icmp_ge X (tgt := 82) dX9_isWord_44 (by decide) (fun h9 => ?_) (fun h9 => ?_)
        · replace hR := (if_pos h9).symm.trans hR
          refine j_iload_n X (i := 2) dX9_isWord_82 rfl rfl ?_
          exact q_zret X hQ dX9_isWord_83 rfl (nar_B hBx5) ⟨(by decide), (by decide)⟩ ⟨rfl, rfl, congrArg (fun z => some (Value.int z)) (Option.some.inj hR), (Option.some.inj hR) ▸ hBx5⟩
        · replace hR := (if_neg h9).symm.trans hR
          refine j_iload_n X (i := 2) dX9_isWord_47 rfl rfl ?_
          refine j_if_eq X (tgt := 82) dX9_isWord_48 (by decide) (fun h10 => ?_) (fun h10 => ?_)
          · replace hR := (if_pos h10).symm.trans hR
            refine j_iload_n X (i := 2) dX9_isWord_82 rfl rfl ?_
            exact q_zret X hQ dX9_isWord_83 rfl (nar_B hBx5) ⟨(by decide), (by decide)⟩ ⟨rfl, rfl, congrArg (fun z => some (Value.int z)) (Option.some.inj hR), (Option.some.inj hR) ▸ hBx5⟩
          · replace hR := (if_neg h10).symm.trans hR
            refine j_aload_n X (i := 0) dX9_isWord_51 rfl rfl ?_
            refine j_getf X 9 11 rfl cw_X9 fl_X9_30 (by decide) dX9_isWord_52 (ad_mem hL (by decide)) (FW9 hL) rfl ?_
            refine j_aload_n X (i := 0) dX9_isWord_55 rfl rfl ?_
            refine j_getf X 9 15 rfl cw_X9 fl_X9_173 (by decide) dX9_isWord_56 (ad_mem hL (by decide)) (FW9 hL) rfl ?_
            refine j_iload_n X (i := 3) dX9_isWord_59 rfl rfl ?_
            refine j_iadd X dX9_isWord_60 ?_
            obtain ⟨h11, hR⟩ := chkI_inv hR
            refine j_bald X dX9_isWord_61 (ad_mem hL (by decide)) (FWr100 hL) h11 ?_
            refine j_aload_n X (i := 1) dX9_isWord_62 rfl rfl ?_
            refine j_iload_n X (i := 3) dX9_isWord_63 rfl rfl ?_
            obtain ⟨h14, hR⟩ := chkI_inv hR
            obtain ⟨x13, h12, hR⟩ := bT_inv hR
            refine j_callT (As := [.int x6]) X hs0 (c_charAt hl hs0 h14 h12) ml_X9_208 im_yJ0_charAt_5068e se_yJ0_charAt_5068e cd_yJ0_charAt_5068e hy_yJ0_charAt_5068e dX9_isWord_64 ⟨(by decide), (by decide)⟩ ⟨(by decide), (by decide)⟩ (Nat.le_of_ble_eq_true rfl) (fun _ h => h.elim) (fun r9 L9 f9 h9 => ?_)
            obtain ⟨h91, h92, h93⟩ := h9
            subst r9
            subst f9
            subst L9
            dsimp only [Option.toList, List.cons_append, List.nil_append, List.append]
            refine j_icmp_ne X (tgt := 74) dX9_isWord_67 (by decide) (fun h15 => ?_) (fun h15 => ?_)
            · replace hR := (if_neg h15).symm.trans hR
              refine j_iconst X (0) dX9_isWord_74 (by decide) ?_
              refine j_istore_n X (i := 2) dX9_isWord_75 rfl (by decide) (lvOK_s rfl okPrev_ref) ?_
              dsimp only [List.set]
              obtain ⟨x16, h17, hR⟩ := bT_inv hR
              refine j_iinc X x16 dX9_isWord_76 rfl h17 (by decide) (lvOK_s rfl okPrev_int) ?_
              dsimp only [List.set]
              refine j_goto X (tgt := 39) dX9_isWord_79 (by decide) ?_
              exact J.sub (lvle_of (by simp only [lvle, and_self])) (ih _ _ isB_0 hR)
            · replace hR := (if_pos h15).symm.trans hR
              refine j_iconst X (1) dX9_isWord_70 (by decide) ?_
              refine j_goto X (tgt := 75) dX9_isWord_71 (by decide) ?_
              refine j_istore_n X (i := 2) dX9_isWord_75 rfl (by decide) (lvOK_s rfl okPrev_ref) ?_
              dsimp only [List.set]
              obtain ⟨x18, h19, hR⟩ := bT_inv hR
              refine j_iinc X x18 dX9_isWord_76 rfl h19 (by decide) (lvOK_s rfl okPrev_int) ?_
              dsimp only [List.set]
              refine j_goto X (tgt := 39) dX9_isWord_79 (by decide) ?_
              exact J.sub (lvle_of (by simp only [lvle, and_self])) (ih _ _ isB_1 hR)
    exact J.sub (lvle_of (by simp only [lvle, and_self])) (hb39 _ _ _ hBx4 hR)
  have hb35 : f_X9_isWord_35 N p0 b = some v → J G p l e ({ frames := 5, cells := 0, slots := 0, locals := 123 } : Room) s m ar below meth c9 A Q 4 0 0 35 [some (.ref (ad L 96)), some (.ref (G.2.2.1 p0)), none, none] [] L (FW G L a b c) := by
    intro hR
    unfold f_X9_isWord_35 at hR
    refine j_iconst X (0) dX9_isWord_35 (by decide) ?_
    exact J.sub (lvle_of (by simp only [lvle, and_self])) (hb36 _ isB_0 hR)
  refine j_if_eq X (tgt := 35) dX9_isWord_4 (by decide) (fun h20 => ?_) (fun h20 => ?_)
  · replace hR := (if_pos h20).symm.trans hR
    exact J.sub (lvle_of (by simp only [lvle, and_self])) (hb35 hR)
  · replace hR := (if_neg h20).symm.trans hR
    refine j_aload_n X (i := 0) dX9_isWord_7 rfl rfl ?_
    refine j_getf X 9 16 rfl cw_X9 fl_X9_185 (by decide) dX9_isWord_8 (ad_mem hL (by decide)) (FW9 hL) rfl ?_
    refine j_iconst X (1) dX9_isWord_11 (by decide) ?_
    refine j_icmp_ne X (tgt := 35) dX9_isWord_12 (by decide) (fun h21 => ?_) (fun h21 => ?_)
    · replace hR := (if_neg h21).symm.trans hR
      exact J.sub (lvle_of (by simp only [lvle, and_self])) (hb35 hR)
    · replace hR := (if_pos h21).symm.trans hR
      refine j_aload_n X (i := 0) dX9_isWord_15 rfl rfl ?_
      refine j_getf X 9 14 rfl cw_X9 fl_X9_179 (by decide) dX9_isWord_16 (ad_mem hL (by decide)) (FW9 hL) rfl ?_
      refine j_aload_n X (i := 0) dX9_isWord_19 rfl rfl ?_
      refine j_getf X 9 15 rfl cw_X9 fl_X9_173 (by decide) dX9_isWord_20 (ad_mem hL (by decide)) (FW9 hL) rfl ?_
      refine j_isub X dX9_isWord_23 ?_
      refine j_aload_n X (i := 1) dX9_isWord_24 rfl rfl ?_
      obtain ⟨x23, h22, hR⟩ := bT_inv hR
      refine j_callT (As := []) X hs0 (c_strlen hl hs0 h22) ml_X9_203 im_yJ0_length_8abf5 se_yJ0_length_8abf5 cd_yJ0_length_8abf5 hy_yJ0_length_8abf5 dX9_isWord_25 ⟨(by decide), (by decide)⟩ ⟨(by decide), (by decide)⟩ (Nat.le_of_ble_eq_true rfl) (fun _ h => h.elim) (fun r9 L9 f9 h9 => ?_)
      obtain ⟨h91, h92, h93⟩ := h9
      subst r9
      subst f9
      subst L9
      dsimp only [Option.toList, List.cons_append, List.nil_append, List.append]
      refine j_icmp_ne X (tgt := 35) dX9_isWord_28 (by decide) (fun h24 => ?_) (fun h24 => ?_)
      · replace hR := (if_neg h24).symm.trans hR
        exact J.sub (lvle_of (by simp only [lvle, and_self])) (hb35 hR)
      · replace hR := (if_pos h24).symm.trans hR
        refine j_iconst X (1) dX9_isWord_31 (by decide) ?_
        refine j_goto X (tgt := 36) dX9_isWord_32 (by decide) ?_
        exact J.sub (lvle_of (by simp only [lvle, and_self])) (hb36 _ isB_1 hR)
def f_X9_errs (p0 : Int32) (b : Mem) : Mem := bT (f_X9_good b) fun x2 => if x2 = 0 then (b) else (bT (up2 b 0 18 p0) fun b5 => bT (up2 b5 0 19 (b5 0 15)) fun b7 => b7)
set_option maxRecDepth 100000 in
set_option maxHeartbeats 4000000 in
theorem m_X9_errs {l : Launch} (hl : l.stackTraces = false) {G : GG} {L : List Nat} (hL : LOK L) {a b c : Mem} {p0 : Int32} {a' : Mem} (hR : f_X9_errs p0 b = a') : Ct l G yX9_errs (.code yX9_errs cX9_errs 2 none) 1 20 0 0 [.ref (ad L 96), .int p0] L (FW G L a b c) px0 (stay L (fun r f1 => f1 = (FW G L a a' c) ∧ r = none)) := by
  refine Ct.ofq (own := RX9) hl rfl (by decide) [some (.ref (ad L 96)), some (.int p0)] rfl (Nat.le_of_ble_eq_true rfl) ?_
  intro p e s m below meth c9 A ar Q hQ X
  unfold f_X9_errs at hR
  refine j_aload_n X (i := 0) dX9_errs_0 rfl rfl ?_
  obtain ⟨x2, h1, hR⟩ := bT_inv hR
  refine j_callV0 X 9 (m_X9_good hl hL h1) ml_X9_169 im_yX9_good se_yX9_good in_X9 cd_yX9_good hy_yX9_good dX9_errs_1 rfl (ad_mem hL (by decide)) (FW9 hL) ⟨(by decide), (by decide)⟩ ⟨(by decide), (by decide)⟩ (Nat.le_of_ble_eq_true rfl) (fun _ h => h.elim) (fun r9 L9 f9 h9 => ?_)
  obtain ⟨h91, h92, h93, h3⟩ := h9
  subst r9
  subst f9
  subst L9
  dsimp only [Option.toList, List.cons_append, List.nil_append, List.append]
  refine j_if_ne X (tgt := 8) dX9_errs_4 (by decide) (fun h4 => ?_) (fun h4 => ?_)
  · replace hR := (if_neg h4).symm.trans hR
    refine j_aload_n X (i := 0) dX9_errs_8 rfl rfl ?_
    refine j_iload_n X (i := 1) dX9_errs_9 rfl rfl ?_
    obtain ⟨b5, h6, hR⟩ := bT_inv hR
    refine tp_X9_18 X hL h6 fl_X9_166 dX9_errs_10 ?_
    refine j_aload_n X (i := 0) dX9_errs_13 rfl rfl ?_
    refine j_aload_n X (i := 0) dX9_errs_14 rfl rfl ?_
    refine j_getf X 9 15 rfl cw_X9 fl_X9_173 (by decide) dX9_errs_15 (ad_mem hL (by decide)) (FW9 hL) rfl ?_
    obtain ⟨b7, h8, hR⟩ := bT_inv hR
    refine tp_X9_19 X hL h8 fl_X9_34 dX9_errs_18 ?_
    exact q_vret X hQ dX9_errs_21 rfl ⟨(by decide), (by decide)⟩ ⟨rfl, congrArg (fun z => FW G L a z c) hR, rfl⟩
  · replace hR := (if_pos h4).symm.trans hR
    exact q_vret X hQ dX9_errs_7 rfl ⟨(by decide), (by decide)⟩ ⟨rfl, congrArg (fun z => FW G L a z c) hR, rfl⟩
def f_X9_errsIf (p0 : Int32) (p1 : Int32) (b : Mem) : Mem := bT (f_X9_good b) fun x2 => if x2 = 0 then (b) else (if p0 = 0 then (b) else (bT (f_X9_errs p1 b) fun b7 => b7))
set_option maxRecDepth 100000 in
set_option maxHeartbeats 4000000 in
theorem m_X9_errsIf {l : Launch} (hl : l.stackTraces = false) {G : GG} {L : List Nat} (hL : LOK L) {a b c : Mem} {p0 : Int32} (hB0 : isB p0) {p1 : Int32} {a' : Mem} (hR : f_X9_errsIf p0 p1 b = a') : Ct l G yX9_errsIf (.code yX9_errsIf cX9_errsIf 3 none) 2 41 0 0 [.ref (ad L 96), .int p0, .int p1] L (FW G L a b c) px0 (stay L (fun r f1 => f1 = (FW G L a a' c) ∧ r = none)) := by
  refine Ct.ofq (own := RX9) hl rfl (by decide) [some (.ref (ad L 96)), some (.int p0), some (.int p1)] rfl (Nat.le_of_ble_eq_true rfl) ?_
  intro p e s m below meth c9 A ar Q hQ X
  unfold f_X9_errsIf at hR
  refine j_aload_n X (i := 0) dX9_errsIf_0 rfl rfl ?_
  obtain ⟨x2, h1, hR⟩ := bT_inv hR
  refine j_callV0 X 9 (m_X9_good hl hL h1) ml_X9_169 im_yX9_good se_yX9_good in_X9 cd_yX9_good hy_yX9_good dX9_errsIf_1 rfl (ad_mem hL (by decide)) (FW9 hL) ⟨(by decide), (by decide)⟩ ⟨(by decide), (by decide)⟩ (Nat.le_of_ble_eq_true rfl) (fun _ h => h.elim) (fun r9 L9 f9 h9 => ?_)
  obtain ⟨h91, h92, h93, h3⟩ := h9
  subst r9
  subst f9
  subst L9
  dsimp only [Option.toList, List.cons_append, List.nil_append, List.append]
  refine j_if_eq X (tgt := 16) dX9_errsIf_4 (by decide) (fun h4 => ?_) (fun h4 => ?_)
  · replace hR := (if_pos h4).symm.trans hR
    exact q_vret X hQ dX9_errsIf_16 rfl ⟨(by decide), (by decide)⟩ ⟨rfl, congrArg (fun z => FW G L a z c) hR, rfl⟩
  · replace hR := (if_neg h4).symm.trans hR
    refine j_iload_n X (i := 1) dX9_errsIf_7 rfl rfl ?_
    refine j_if_eq X (tgt := 16) dX9_errsIf_8 (by decide) (fun h5 => ?_) (fun h5 => ?_)
    · replace hR := (if_pos h5).symm.trans hR
      exact q_vret X hQ dX9_errsIf_16 rfl ⟨(by decide), (by decide)⟩ ⟨rfl, congrArg (fun z => FW G L a z c) hR, rfl⟩
    · replace hR := (if_neg h5).symm.trans hR
      refine j_aload_n X (i := 0) dX9_errsIf_11 rfl rfl ?_
      refine j_iload_n X (i := 2) dX9_errsIf_12 rfl rfl ?_
      obtain ⟨b7, h6, hR⟩ := bT_inv hR
      refine j_callV1 X 9 (m_X9_errs hl hL h6) ml_X9_212 im_yX9_errs se_yX9_errs in_X9 cd_yX9_errs hy_yX9_errs dX9_errsIf_13 rfl (ad_mem hL (by decide)) (FW9 hL) ⟨(by decide), (by decide)⟩ ⟨(by decide), (by decide)⟩ (Nat.le_of_ble_eq_true rfl) (fun _ h => h.elim) (fun r9 L9 f9 h9 => ?_)
      obtain ⟨h91, h92, h93⟩ := h9
      subst r9
      subst f9
      subst L9
      dsimp only [Option.toList, List.cons_append, List.nil_append, List.append]
      exact q_vret X hQ dX9_errsIf_16 rfl ⟨(by decide), (by decide)⟩ ⟨rfl, congrArg (fun z => FW G L a z c) hR, rfl⟩
def f_X9_ofPeriod (N : Nat) (p0 : Int32) (p1 : Int32) (b : Mem) : Option Int32 := chkI (((12 : Int32) + ((5 : Int32) * p0)) + p1) 311 <| some (b (rowM (b 0 3)) ((((12 : Int32) + ((5 : Int32) * p0)) + p1)).toNatClampNeg)
set_option maxRecDepth 100000 in
set_option maxHeartbeats 4000000 in
theorem m_X9_ofPeriod {l : Launch} (hl : l.stackTraces = false) {G : GG} {L : List Nat} (hL : LOK L) {a b c : Mem} {N : Nat} {p0 : Int32} {p1 : Int32} {v : Int32} (hR : f_X9_ofPeriod N p0 p1 b = some v) : Ct l G yX9_ofPeriod (.code yX9_ofPeriod cX9_ofPeriod 3 (some .int)) 0 0 0 0 [.ref (ad L 96), .int p0, .int p1] L (FW G L a b c) px0 (stay L (fun r f1 => f1 = (FW G L a b c) ∧ r = some (.int v))) := by
  refine Ct.ofq (own := RX9) hl rfl (by decide) [some (.ref (ad L 96)), some (.int p0), some (.int p1)] rfl (Nat.le_of_ble_eq_true rfl) ?_
  intro p e s m below meth c9 A ar Q hQ X
  unfold f_X9_ofPeriod at hR
  refine j_aload_n X (i := 0) dX9_ofPeriod_0 rfl rfl ?_
  refine j_getf X 9 3 rfl cw_X9 fl_X9_24 (by decide) dX9_ofPeriod_1 (ad_mem hL (by decide)) (FW9 hL) rfl ?_
  refine j_bipush X (12) dX9_ofPeriod_4 (by decide) ?_
  refine j_iconst X (5) dX9_ofPeriod_6 (by decide) ?_
  refine j_iload_n X (i := 1) dX9_ofPeriod_7 rfl rfl ?_
  refine j_imul X dX9_ofPeriod_8 ?_
  refine j_iadd X dX9_ofPeriod_9 ?_
  refine j_iload_n X (i := 2) dX9_ofPeriod_10 rfl rfl ?_
  refine j_iadd X dX9_ofPeriod_11 ?_
  obtain ⟨h1, hR⟩ := chkI_inv hR
  refine j_iald X dX9_ofPeriod_12 (inLr hL) (FWrow hL) h1 ?_
  exact q_iret X hQ dX9_ofPeriod_13 rfl ⟨(by decide), (by decide)⟩ ⟨rfl, rfl, congrArg (fun z => some (Value.int z)) (Option.some.inj hR)⟩
def f_X9_goOn (N : Nat) (b : Mem) : Option Mem := bT (f_X9_good b) fun x2 => if x2 = 0 then (some b) else (bP (f_X9_scan N b) fun b6 => some b6)
set_option maxRecDepth 100000 in
set_option maxHeartbeats 4000000 in
theorem m_X9_goOn {l : Launch} (hl : l.stackTraces = false) {G : GG} {L : List Nat} (hL : LOK L) {a b c : Mem} {N : Nat}  {a' : Mem} (hR : f_X9_goOn N b = some a') : Ct l G yX9_goOn (.code yX9_goOn cX9_goOn 1 none) 2 46 0 0 [.ref (ad L 96)] L (FW G L a b c) px0 (stay L (fun r f1 => f1 = (FW G L a a' c) ∧ r = none)) := by
  refine Ct.ofq (own := RX9) hl rfl (by decide) [some (.ref (ad L 96))] rfl (Nat.le_of_ble_eq_true rfl) ?_
  intro p e s m below meth c9 A ar Q hQ X
  unfold f_X9_goOn at hR
  refine j_aload_n X (i := 0) dX9_goOn_0 rfl rfl ?_
  obtain ⟨x2, h1, hR⟩ := bT_inv hR
  refine j_callV0 X 9 (m_X9_good hl hL h1) ml_X9_169 im_yX9_good se_yX9_good in_X9 cd_yX9_good hy_yX9_good dX9_goOn_1 rfl (ad_mem hL (by decide)) (FW9 hL) ⟨(by decide), (by decide)⟩ ⟨(by decide), (by decide)⟩ (Nat.le_of_ble_eq_true rfl) (fun _ h => h.elim) (fun r9 L9 f9 h9 => ?_)
  obtain ⟨h91, h92, h93, h3⟩ := h9
  subst r9
  subst f9
  subst L9
  dsimp only [Option.toList, List.cons_append, List.nil_append, List.append]
  refine j_if_eq X (tgt := 11) dX9_goOn_4 (by decide) (fun h4 => ?_) (fun h4 => ?_)
  · replace hR := (if_pos h4).symm.trans hR
    exact q_vret X hQ dX9_goOn_11 rfl ⟨(by decide), (by decide)⟩ ⟨rfl, congrArg (fun z => FW G L a z c) (Option.some.inj hR), rfl⟩
  · replace hR := (if_neg h4).symm.trans hR
    refine j_aload_n X (i := 0) dX9_goOn_7 rfl rfl ?_
    obtain ⟨b6, h5, hR⟩ := bP_inv hR
    refine j_callV0 X 9 (m_X9_scan hl hL h5) ml_X9_200 im_yX9_scan se_yX9_scan in_X9 cd_yX9_scan hy_yX9_scan dX9_goOn_8 rfl (ad_mem hL (by decide)) (FW9 hL) ⟨(by decide), (by decide)⟩ ⟨(by decide), (by decide)⟩ (Nat.le_of_ble_eq_true rfl) (fun _ h => h.elim) (fun r9 L9 f9 h9 => ?_)
    obtain ⟨h91, h92, h93⟩ := h9
    subst r9
    subst f9
    subst L9
    dsimp only [Option.toList, List.cons_append, List.nil_append, List.append]
    exact q_vret X hQ dX9_goOn_11 rfl ⟨(by decide), (by decide)⟩ ⟨rfl, congrArg (fun z => FW G L a z c) (Option.some.inj hR), rfl⟩
def f_X9_takeWord (N : Nat) (p0 : Nat) (b : Mem) : Option Mem := bP (f_X9_isWord N p0 b) fun x2 => if x2 = 0 then (bT (f_X9_errs (1 : Int32) b) fun b9 => bP (f_X9_goOn N b9) fun b12 => some b12) else (bP (f_X9_goOn N b) fun b6 => some b6)
set_option maxRecDepth 100000 in
set_option maxHeartbeats 4000000 in
theorem m_X9_takeWord {l : Launch} (hl : l.stackTraces = false) {G : GG} {L : List Nat} (hL : LOK L) {a b c : Mem} {N : Nat} {p0 : Nat} (hs0 : p0 < 47) {a' : Mem} (hR : f_X9_takeWord N p0 b = some a') : Ct l G yX9_takeWord (.code yX9_takeWord cX9_takeWord 2 none) 6 146 0 0 [.ref (ad L 96), .ref (G.2.2.1 p0)] L (FW G L a b c) px0 (stay L (fun r f1 => f1 = (FW G L a a' c) ∧ r = none)) := by
  refine Ct.ofq (own := RX9) hl rfl (by decide) [some (.ref (ad L 96)), some (.ref (G.2.2.1 p0))] rfl (Nat.le_of_ble_eq_true rfl) ?_
  intro p e s m below meth c9 A ar Q hQ X
  unfold f_X9_takeWord at hR
  refine j_aload_n X (i := 0) dX9_takeWord_0 rfl rfl ?_
  refine j_aload_n X (i := 1) dX9_takeWord_1 rfl rfl ?_
  obtain ⟨x2, h1, hR⟩ := bP_inv hR
  refine j_callV1 X 9 (m_X9_isWord hl hL hs0 h1) ml_X9_221 im_yX9_isWord se_yX9_isWord in_X9 cd_yX9_isWord hy_yX9_isWord dX9_takeWord_2 rfl (ad_mem hL (by decide)) (FW9 hL) ⟨(by decide), (by decide)⟩ ⟨(by decide), (by decide)⟩ (Nat.le_of_ble_eq_true rfl) (fun _ h => h.elim) (fun r9 L9 f9 h9 => ?_)
  obtain ⟨h91, h92, h93, h3⟩ := h9
  subst r9
  subst f9
  subst L9
  dsimp only [Option.toList, List.cons_append, List.nil_append, List.append]
  refine j_if_ne X (tgt := 13) dX9_takeWord_5 (by decide) (fun h4 => ?_) (fun h4 => ?_)
  · replace hR := (if_neg h4).symm.trans hR
    refine j_aload_n X (i := 0) dX9_takeWord_13 rfl rfl ?_
    obtain ⟨b6, h5, hR⟩ := bP_inv hR
    refine j_callV0 X 9 (m_X9_goOn hl hL h5) ml_X9_218 im_yX9_goOn se_yX9_goOn in_X9 cd_yX9_goOn hy_yX9_goOn dX9_takeWord_14 rfl (ad_mem hL (by decide)) (FW9 hL) ⟨(by decide), (by decide)⟩ ⟨(by decide), (by decide)⟩ (Nat.le_of_ble_eq_true rfl) (fun _ h => h.elim) (fun r9 L9 f9 h9 => ?_)
    obtain ⟨h91, h92, h93⟩ := h9
    subst r9
    subst f9
    subst L9
    dsimp only [Option.toList, List.cons_append, List.nil_append, List.append]
    exact q_vret X hQ dX9_takeWord_17 rfl ⟨(by decide), (by decide)⟩ ⟨rfl, congrArg (fun z => FW G L a z c) (Option.some.inj hR), rfl⟩
  · replace hR := (if_pos h4).symm.trans hR
    refine j_aload_n X (i := 0) dX9_takeWord_8 rfl rfl ?_
    refine j_iconst X (1) dX9_takeWord_9 (by decide) ?_
    obtain ⟨b9, h8, hR⟩ := bT_inv hR
    refine j_callV1 X 9 (m_X9_errs hl hL h8) ml_X9_212 im_yX9_errs se_yX9_errs in_X9 cd_yX9_errs hy_yX9_errs dX9_takeWord_10 rfl (ad_mem hL (by decide)) (FW9 hL) ⟨(by decide), (by decide)⟩ ⟨(by decide), (by decide)⟩ (Nat.le_of_ble_eq_true rfl) (fun _ h => h.elim) (fun r9 L9 f9 h9 => ?_)
    obtain ⟨h91, h92, h93⟩ := h9
    subst r9
    subst f9
    subst L9
    dsimp only [Option.toList, List.cons_append, List.nil_append, List.append]
    refine j_aload_n X (i := 0) dX9_takeWord_13 rfl rfl ?_
    obtain ⟨b12, h11, hR⟩ := bP_inv hR
    refine j_callV0 X 9 (m_X9_goOn hl hL h11) ml_X9_218 im_yX9_goOn se_yX9_goOn in_X9 cd_yX9_goOn hy_yX9_goOn dX9_takeWord_14 rfl (ad_mem hL (by decide)) (FW9 hL) ⟨(by decide), (by decide)⟩ ⟨(by decide), (by decide)⟩ (Nat.le_of_ble_eq_true rfl) (fun _ h => h.elim) (fun r9 L9 f9 h9 => ?_)
    obtain ⟨h91, h92, h93⟩ := h9
    subst r9
    subst f9
    subst L9
    dsimp only [Option.toList, List.cons_append, List.nil_append, List.append]
    exact q_vret X hQ dX9_takeWord_17 rfl ⟨(by decide), (by decide)⟩ ⟨rfl, congrArg (fun z => FW G L a z c) (Option.some.inj hR), rfl⟩
def f_X9_numberHere_47 (p0 : Int32) (b8 : Mem) : (Int32 × Mem) := bT (f_X9_good b8) fun x10 => if x10 = 0 then ((p0, b8)) else (((b8 0 17), b8))
def f_X9_numberHere_20 (p0 : Int32) (p1 : Int32) (b4 : Mem) : (Int32 × Mem) := bT (f_X9_good b4) fun x6 => if x6 = 0 then (f_X9_numberHere_47 p0 b4) else (bT (f_X9_in (Int32.toInt64 (b4 0 17)) (Int32.toInt64 p0) (Int32.toInt64 p1) b4) fun x15 => if x15 = 0 then (bT (f_X9_errs (2 : Int32) b4) fun b19 => f_X9_numberHere_47 p0 b19) else (f_X9_numberHere_47 p0 b4))
def f_X9_numberHere (p0 : Int32) (p1 : Int32) (b : Mem) : (Int32 × Mem) := bT (f_X9_good b) fun x2 => if x2 = 0 then (f_X9_numberHere_20 p0 p1 b) else (if (b 0 16) = (2 : Int32) then (f_X9_numberHere_20 p0 p1 b) else (bT (f_X9_errs (1 : Int32) b) fun b24 => f_X9_numberHere_20 p0 p1 b24))
set_option maxRecDepth 100000 in
set_option maxHeartbeats 4000000 in
theorem m_X9_numberHere {l : Launch} (hl : l.stackTraces = false) {G : GG} {L : List Nat} (hL : LOK L) {a b c : Mem} {p0 : Int32} {p1 : Int32} {v : Int32} {a' : Mem} (hR : f_X9_numberHere p0 p1 b = (v, a')) : Ct l G yX9_numberHere (.code yX9_numberHere cX9_numberHere 3 (some .int)) 2 41 0 0 [.ref (ad L 96), .int p0, .int p1] L (FW G L a b c) px0 (stay L (fun r f1 => f1 = (FW G L a a' c) ∧ r = some (.int v))) := by
  refine Ct.ofq (own := RX9) hl rfl (by decide) [some (.ref (ad L 96)), some (.int p0), some (.int p1)] rfl (Nat.le_of_ble_eq_true rfl) ?_
  intro p e s m below meth c9 A ar Q hQ X
  unfold f_X9_numberHere at hR
  refine j_aload_n X (i := 0) dX9_numberHere_0 rfl rfl ?_
  obtain ⟨x2, h1, hR⟩ := bT_inv hR
  refine j_callV0 X 9 (m_X9_good hl hL h1) ml_X9_169 im_yX9_good se_yX9_good in_X9 cd_yX9_good hy_yX9_good dX9_numberHere_1 rfl (ad_mem hL (by decide)) (FW9 hL) ⟨(by decide), (by decide)⟩ ⟨(by decide), (by decide)⟩ (Nat.le_of_ble_eq_true rfl) (fun _ h => h.elim) (fun r9 L9 f9 h9 => ?_)
  obtain ⟨h91, h92, h93, h3⟩ := h9
  subst r9
  subst f9
  subst L9
  dsimp only [Option.toList, List.cons_append, List.nil_append, List.append]
  have hb20 : ∀ (b4 : Mem) , f_X9_numberHere_20 p0 p1 b4 = (v, a') → J G p l e ({ frames := 2, cells := 0, slots := 0, locals := 41 } : Room) s m ar below meth c9 A Q 3 0 0 20 [some (.ref (ad L 96)), some (.int p0), some (.int p1)] [] L (FW G L a b4 c) := by
    intro b4 hR
    unfold f_X9_numberHere_20 at hR
    refine j_aload_n X (i := 0) dX9_numberHere_20 rfl rfl ?_
    obtain ⟨x6, h5, hR⟩ := bT_inv hR
    refine j_callV0 X 9 (m_X9_good hl hL h5) ml_X9_169 im_yX9_good se_yX9_good in_X9 cd_yX9_good hy_yX9_good dX9_numberHere_21 rfl (ad_mem hL (by decide)) (FW9 hL) ⟨(by decide), (by decide)⟩ ⟨(by decide), (by decide)⟩ (Nat.le_of_ble_eq_true rfl) (fun _ h => h.elim) (fun r9 L9 f9 h9 => ?_)
    obtain ⟨h91, h92, h93, h7⟩ := h9
    subst r9
    subst f9
    subst L9
    dsimp only [Option.toList, List.cons_append, List.nil_append, List.append]
    have hb47 : ∀ (b8 : Mem) , f_X9_numberHere_47 p0 b8 = (v, a') → J G p l e ({ frames := 2, cells := 0, slots := 0, locals := 41 } : Room) s m ar below meth c9 A Q 3 0 0 47 [some (.ref (ad L 96)), some (.int p0), none] [] L (FW G L a b8 c) := by
      intro b8 hR
      unfold f_X9_numberHere_47 at hR
      refine j_aload_n X (i := 0) dX9_numberHere_47 rfl rfl ?_
      obtain ⟨x10, h9, hR⟩ := bT_inv hR
      refine j_callV0 X 9 (m_X9_good hl hL h9) ml_X9_169 im_yX9_good se_yX9_good in_X9 cd_yX9_good hy_yX9_good dX9_numberHere_48 rfl (ad_mem hL (by decide)) (FW9 hL) ⟨(by decide), (by decide)⟩ ⟨(by decide), (by decide)⟩ (Nat.le_of_ble_eq_true rfl) (fun _ h => h.elim) (fun r9 L9 f9 h9 => ?_)
      obtain ⟨h91, h92, h93, h11⟩ := h9
      subst r9
      subst f9
      subst L9
      dsimp only [Option.toList, List.cons_append, List.nil_append, List.append]
      refine j_if_eq X (tgt := 61) dX9_numberHere_51 (by decide) (fun h12 => ?_) (fun h12 => ?_)
      · replace hR := (if_pos h12).symm.trans hR
        refine j_iload_n X (i := 1) dX9_numberHere_61 rfl rfl ?_
        exact q_iret X hQ dX9_numberHere_62 rfl ⟨(by decide), (by decide)⟩ ⟨rfl, congrArg (fun z => FW G L a z c) (Prod.mk.inj hR).2, congrArg (fun z => some (Value.int z)) (Prod.mk.inj hR).1⟩
      · replace hR := (if_neg h12).symm.trans hR
        refine j_aload_n X (i := 0) dX9_numberHere_54 rfl rfl ?_
        refine j_getf X 9 17 rfl cw_X9 fl_X9_196 (by decide) dX9_numberHere_55 (ad_mem hL (by decide)) (FW9 hL) rfl ?_
        refine j_goto X (tgt := 62) dX9_numberHere_58 (by decide) ?_
        exact q_iret X hQ dX9_numberHere_62 rfl ⟨(by decide), (by decide)⟩ ⟨rfl, congrArg (fun z => FW G L a z c) (Prod.mk.inj hR).2, congrArg (fun z => some (Value.int z)) (Prod.mk.inj hR).1⟩
    refine j_if_eq X (tgt := 47) dX9_numberHere_24 (by decide) (fun h13 => ?_) (fun h13 => ?_)
    · replace hR := (if_pos h13).symm.trans hR
      exact J.sub (lvle_of (by simp only [lvle, and_self])) (hb47 _  hR)
    · replace hR := (if_neg h13).symm.trans hR
      refine j_aload_n X (i := 0) dX9_numberHere_27 rfl rfl ?_
      refine j_getf X 9 17 rfl cw_X9 fl_X9_196 (by decide) dX9_numberHere_28 (ad_mem hL (by decide)) (FW9 hL) rfl ?_
      refine j_i2l X dX9_numberHere_31 ?_
      refine j_iload_n X (i := 1) dX9_numberHere_32 rfl rfl ?_
      refine j_i2l X dX9_numberHere_33 ?_
      refine j_iload_n X (i := 2) dX9_numberHere_34 rfl rfl ?_
      refine j_i2l X dX9_numberHere_35 ?_
      obtain ⟨x15, h14, hR⟩ := bT_inv hR
      refine j_callS3 X (m_X9_in hl hL h14) ml_X9_64 st_yX9_in in_X9 cd_yX9_in hy_yX9_in dX9_numberHere_36 ⟨(by decide), (by decide)⟩ ⟨(by decide), (by decide)⟩ (Nat.le_of_ble_eq_true rfl) (fun _ h => h.elim) (fun r9 L9 f9 h9 => ?_)
      obtain ⟨h91, h92, h93, h16⟩ := h9
      subst r9
      subst f9
      subst L9
      dsimp only [Option.toList, List.cons_append, List.nil_append, List.append]
      refine j_if_ne X (tgt := 47) dX9_numberHere_39 (by decide) (fun h17 => ?_) (fun h17 => ?_)
      · replace hR := (if_neg h17).symm.trans hR
        exact J.sub (lvle_of (by simp only [lvle, and_self])) (hb47 _  hR)
      · replace hR := (if_pos h17).symm.trans hR
        refine j_aload_n X (i := 0) dX9_numberHere_42 rfl rfl ?_
        refine j_iconst X (2) dX9_numberHere_43 (by decide) ?_
        obtain ⟨b19, h18, hR⟩ := bT_inv hR
        refine j_callV1 X 9 (m_X9_errs hl hL h18) ml_X9_212 im_yX9_errs se_yX9_errs in_X9 cd_yX9_errs hy_yX9_errs dX9_numberHere_44 rfl (ad_mem hL (by decide)) (FW9 hL) ⟨(by decide), (by decide)⟩ ⟨(by decide), (by decide)⟩ (Nat.le_of_ble_eq_true rfl) (fun _ h => h.elim) (fun r9 L9 f9 h9 => ?_)
        obtain ⟨h91, h92, h93⟩ := h9
        subst r9
        subst f9
        subst L9
        dsimp only [Option.toList, List.cons_append, List.nil_append, List.append]
        exact J.sub (lvle_of (by simp only [lvle, and_self])) (hb47 _  hR)
  refine j_if_eq X (tgt := 20) dX9_numberHere_4 (by decide) (fun h21 => ?_) (fun h21 => ?_)
  · replace hR := (if_pos h21).symm.trans hR
    exact J.sub (lvle_of (by simp only [lvle, and_self])) (hb20 _  hR)
  · replace hR := (if_neg h21).symm.trans hR
    refine j_aload_n X (i := 0) dX9_numberHere_7 rfl rfl ?_
    refine j_getf X 9 16 rfl cw_X9 fl_X9_185 (by decide) dX9_numberHere_8 (ad_mem hL (by decide)) (FW9 hL) rfl ?_
    refine j_iconst X (2) dX9_numberHere_11 (by decide) ?_
    refine j_icmp_eq X (tgt := 20) dX9_numberHere_12 (by decide) (fun h22 => ?_) (fun h22 => ?_)
    · replace hR := (if_pos h22).symm.trans hR
      exact J.sub (lvle_of (by simp only [lvle, and_self])) (hb20 _  hR)
    · replace hR := (if_neg h22).symm.trans hR
      refine j_aload_n X (i := 0) dX9_numberHere_15 rfl rfl ?_
      refine j_iconst X (1) dX9_numberHere_16 (by decide) ?_
      obtain ⟨b24, h23, hR⟩ := bT_inv hR
      refine j_callV1 X 9 (m_X9_errs hl hL h23) ml_X9_212 im_yX9_errs se_yX9_errs in_X9 cd_yX9_errs hy_yX9_errs dX9_numberHere_17 rfl (ad_mem hL (by decide)) (FW9 hL) ⟨(by decide), (by decide)⟩ ⟨(by decide), (by decide)⟩ (Nat.le_of_ble_eq_true rfl) (fun _ h => h.elim) (fun r9 L9 f9 h9 => ?_)
      obtain ⟨h91, h92, h93⟩ := h9
      subst r9
      subst f9
      subst L9
      dsimp only [Option.toList, List.cons_append, List.nil_append, List.append]
      exact J.sub (lvle_of (by simp only [lvle, and_self])) (hb20 _  hR)
def f_X9_number (N : Nat) (p0 : Int32) (p1 : Int32) (b : Mem) : Option (Int32 × Mem) := bT2 (f_X9_numberHere p0 p1 b) fun x2 b3 => bP (f_X9_goOn N b3) fun b6 => some (x2, b6)
set_option maxRecDepth 100000 in
set_option maxHeartbeats 4000000 in
theorem m_X9_number {l : Launch} (hl : l.stackTraces = false) {G : GG} {L : List Nat} (hL : LOK L) {a b c : Mem} {N : Nat} {p0 : Int32} {p1 : Int32} {v : Int32} {a' : Mem} (hR : f_X9_number N p0 p1 b = some (v, a')) : Ct l G yX9_number (.code yX9_number cX9_number 4 (some .int)) 3 66 0 0 [.ref (ad L 96), .int p0, .int p1] L (FW G L a b c) px0 (stay L (fun r f1 => f1 = (FW G L a a' c) ∧ r = some (.int v))) := by
  refine Ct.ofq (own := RX9) hl rfl (by decide) [some (.ref (ad L 96)), some (.int p0), some (.int p1), none] rfl (Nat.le_of_ble_eq_true rfl) ?_
  intro p e s m below meth c9 A ar Q hQ X
  unfold f_X9_number at hR
  refine j_aload_n X (i := 0) dX9_number_0 rfl rfl ?_
  refine j_iload_n X (i := 1) dX9_number_1 rfl rfl ?_
  refine j_iload_n X (i := 2) dX9_number_2 rfl rfl ?_
  obtain ⟨x2, b3, h1, hR⟩ := bT2_inv hR
  refine j_callV2 X 9 (m_X9_numberHere hl hL h1) ml_X9_215 im_yX9_numberHere se_yX9_numberHere in_X9 cd_yX9_numberHere hy_yX9_numberHere dX9_number_3 rfl (ad_mem hL (by decide)) (FW9 hL) ⟨(by decide), (by decide)⟩ ⟨(by decide), (by decide)⟩ (Nat.le_of_ble_eq_true rfl) (fun _ h => h.elim) (fun r9 L9 f9 h9 => ?_)
  obtain ⟨h91, h92, h93⟩ := h9
  subst r9
  subst f9
  subst L9
  dsimp only [Option.toList, List.cons_append, List.nil_append, List.append]
  refine j_istore_n X (i := 3) dX9_number_6 rfl (by decide) (lvOK_s rfl okPrev_int) ?_
  dsimp only [List.set]
  refine j_aload_n X (i := 0) dX9_number_7 rfl rfl ?_
  obtain ⟨b6, h5, hR⟩ := bP_inv hR
  refine j_callV0 X 9 (m_X9_goOn hl hL h5) ml_X9_218 im_yX9_goOn se_yX9_goOn in_X9 cd_yX9_goOn hy_yX9_goOn dX9_number_8 rfl (ad_mem hL (by decide)) (FW9 hL) ⟨(by decide), (by decide)⟩ ⟨(by decide), (by decide)⟩ (Nat.le_of_ble_eq_true rfl) (fun _ h => h.elim) (fun r9 L9 f9 h9 => ?_)
  obtain ⟨h91, h92, h93⟩ := h9
  subst r9
  subst f9
  subst L9
  dsimp only [Option.toList, List.cons_append, List.nil_append, List.append]
  refine j_iload_n X (i := 3) dX9_number_11 rfl rfl ?_
  exact q_iret X hQ dX9_number_12 rfl ⟨(by decide), (by decide)⟩ ⟨rfl, congrArg (fun z => FW G L a z c) (Prod.mk.inj (Option.some.inj hR)).2, congrArg (fun z => some (Value.int z)) (Prod.mk.inj (Option.some.inj hR)).1⟩
def f_X9_numberAfter (N : Nat) (p0 : Nat) (p1 : Int32) (p2 : Int32) (b : Mem) : Option (Int32 × Mem) := bP (f_X9_takeWord N p0 b) fun b2 => bP2 (f_X9_number N p1 p2 b2) fun x5 b6 => some (x5, b6)
set_option maxRecDepth 100000 in
set_option maxHeartbeats 4000000 in
theorem m_X9_numberAfter {l : Launch} (hl : l.stackTraces = false) {G : GG} {L : List Nat} (hL : LOK L) {a b c : Mem} {N : Nat} {p0 : Nat} (hs0 : p0 < 47) {p1 : Int32} {p2 : Int32} {v : Int32} {a' : Mem} (hR : f_X9_numberAfter N p0 p1 p2 b = some (v, a')) : Ct l G yX9_numberAfter (.code yX9_numberAfter cX9_numberAfter 4 (some .int)) 7 167 0 0 [.ref (ad L 96), .ref (G.2.2.1 p0), .int p1, .int p2] L (FW G L a b c) px0 (stay L (fun r f1 => f1 = (FW G L a a' c) ∧ r = some (.int v))) := by
  refine Ct.ofq (own := RX9) hl rfl (by decide) [some (.ref (ad L 96)), some (.ref (G.2.2.1 p0)), some (.int p1), some (.int p2)] rfl (Nat.le_of_ble_eq_true rfl) ?_
  intro p e s m below meth c9 A ar Q hQ X
  unfold f_X9_numberAfter at hR
  refine j_aload_n X (i := 0) dX9_numberAfter_0 rfl rfl ?_
  refine j_aload_n X (i := 1) dX9_numberAfter_1 rfl rfl ?_
  obtain ⟨b2, h1, hR⟩ := bP_inv hR
  refine j_callV1 X 9 (m_X9_takeWord hl hL hs0 h1) ml_X9_225 im_yX9_takeWord se_yX9_takeWord in_X9 cd_yX9_takeWord hy_yX9_takeWord dX9_numberAfter_2 rfl (ad_mem hL (by decide)) (FW9 hL) ⟨(by decide), (by decide)⟩ ⟨(by decide), (by decide)⟩ (Nat.le_of_ble_eq_true rfl) (fun _ h => h.elim) (fun r9 L9 f9 h9 => ?_)
  obtain ⟨h91, h92, h93⟩ := h9
  subst r9
  subst f9
  subst L9
  dsimp only [Option.toList, List.cons_append, List.nil_append, List.append]
  refine j_aload_n X (i := 0) dX9_numberAfter_5 rfl rfl ?_
  refine j_iload_n X (i := 2) dX9_numberAfter_6 rfl rfl ?_
  refine j_iload_n X (i := 3) dX9_numberAfter_7 rfl rfl ?_
  obtain ⟨x5, b6, h4, hR⟩ := bP2_inv hR
  refine j_callV2 X 9 (m_X9_number hl hL h4) ml_X9_229 im_yX9_number se_yX9_number in_X9 cd_yX9_number hy_yX9_number dX9_numberAfter_8 rfl (ad_mem hL (by decide)) (FW9 hL) ⟨(by decide), (by decide)⟩ ⟨(by decide), (by decide)⟩ (Nat.le_of_ble_eq_true rfl) (fun _ h => h.elim) (fun r9 L9 f9 h9 => ?_)
  obtain ⟨h91, h92, h93⟩ := h9
  subst r9
  subst f9
  subst L9
  dsimp only [Option.toList, List.cons_append, List.nil_append, List.append]
  exact q_iret X hQ dX9_numberAfter_11 rfl ⟨(by decide), (by decide)⟩ ⟨rfl, congrArg (fun z => FW G L a z c) (Prod.mk.inj (Option.some.inj hR)).2, congrArg (fun z => some (Value.int z)) (Prod.mk.inj (Option.some.inj hR)).1⟩
def f_X9_numberIf (N : Nat) (p0 : Nat) (b : Mem) : Option (Int32 × Mem) := bP (f_X9_isWord N p0 b) fun x2 => if x2 = 0 then (some ((0 : Int32), b)) else (bP2 (f_X9_numberAfter N p0 (0 : Int32) (999 : Int32) b) fun x6 b7 => some (x6, b7))
set_option maxRecDepth 100000 in
set_option maxHeartbeats 4000000 in
theorem m_X9_numberIf {l : Launch} (hl : l.stackTraces = false) {G : GG} {L : List Nat} (hL : LOK L) {a b c : Mem} {N : Nat} {p0 : Nat} (hs0 : p0 < 47) {v : Int32} {a' : Mem} (hR : f_X9_numberIf N p0 b = some (v, a')) : Ct l G yX9_numberIf (.code yX9_numberIf cX9_numberIf 2 (some .int)) 8 190 0 0 [.ref (ad L 96), .ref (G.2.2.1 p0)] L (FW G L a b c) px0 (stay L (fun r f1 => f1 = (FW G L a a' c) ∧ r = some (.int v))) := by
  refine Ct.ofq (own := RX9) hl rfl (by decide) [some (.ref (ad L 96)), some (.ref (G.2.2.1 p0))] rfl (Nat.le_of_ble_eq_true rfl) ?_
  intro p e s m below meth c9 A ar Q hQ X
  unfold f_X9_numberIf at hR
  refine j_aload_n X (i := 0) dX9_numberIf_0 rfl rfl ?_
  refine j_aload_n X (i := 1) dX9_numberIf_1 rfl rfl ?_
  obtain ⟨x2, h1, hR⟩ := bP_inv hR
  refine j_callV1 X 9 (m_X9_isWord hl hL hs0 h1) ml_X9_221 im_yX9_isWord se_yX9_isWord in_X9 cd_yX9_isWord hy_yX9_isWord dX9_numberIf_2 rfl (ad_mem hL (by decide)) (FW9 hL) ⟨(by decide), (by decide)⟩ ⟨(by decide), (by decide)⟩ (Nat.le_of_ble_eq_true rfl) (fun _ h => h.elim) (fun r9 L9 f9 h9 => ?_)
  obtain ⟨h91, h92, h93, h3⟩ := h9
  subst r9
  subst f9
  subst L9
  dsimp only [Option.toList, List.cons_append, List.nil_append, List.append]
  refine j_if_eq X (tgt := 20) dX9_numberIf_5 (by decide) (fun h4 => ?_) (fun h4 => ?_)
  · replace hR := (if_pos h4).symm.trans hR
    refine j_iconst X (0) dX9_numberIf_20 (by decide) ?_
    exact q_iret X hQ dX9_numberIf_21 rfl ⟨(by decide), (by decide)⟩ ⟨rfl, congrArg (fun z => FW G L a z c) (Prod.mk.inj (Option.some.inj hR)).2, congrArg (fun z => some (Value.int z)) (Prod.mk.inj (Option.some.inj hR)).1⟩
  · replace hR := (if_neg h4).symm.trans hR
    refine j_aload_n X (i := 0) dX9_numberIf_8 rfl rfl ?_
    refine j_aload_n X (i := 1) dX9_numberIf_9 rfl rfl ?_
    refine j_iconst X (0) dX9_numberIf_10 (by decide) ?_
    refine j_sipush X (999) dX9_numberIf_11 (by decide) ?_
    obtain ⟨x6, b7, h5, hR⟩ := bP2_inv hR
    refine j_callV3 X 9 (m_X9_numberAfter hl hL hs0 h5) ml_X9_232 im_yX9_numberAfter se_yX9_numberAfter in_X9 cd_yX9_numberAfter hy_yX9_numberAfter dX9_numberIf_14 rfl (ad_mem hL (by decide)) (FW9 hL) ⟨(by decide), (by decide)⟩ ⟨(by decide), (by decide)⟩ (Nat.le_of_ble_eq_true rfl) (fun _ h => h.elim) (fun r9 L9 f9 h9 => ?_)
    obtain ⟨h91, h92, h93⟩ := h9
    subst r9
    subst f9
    subst L9
    dsimp only [Option.toList, List.cons_append, List.nil_append, List.append]
    refine j_goto X (tgt := 21) dX9_numberIf_17 (by decide) ?_
    exact q_iret X hQ dX9_numberIf_21 rfl ⟨(by decide), (by decide)⟩ ⟨rfl, congrArg (fun z => FW G L a z c) (Prod.mk.inj (Option.some.inj hR)).2, congrArg (fun z => some (Value.int z)) (Prod.mk.inj (Option.some.inj hR)).1⟩
def f_X9_semicolon (N : Nat) (b : Mem) : Option Mem := bT (f_X9_good b) fun x2 => if x2 = 0 then (bT (f_X9_errs (1 : Int32) b) fun b6 => bP (f_X9_goOn N b6) fun b9 => some b9) else (if (b 0 16) = (3 : Int32) then (if (b 0 17) = (59 : Int32) then (bP (f_X9_goOn N b) fun b20 => some b20) else (bT (f_X9_errs (1 : Int32) b) fun b23 => bP (f_X9_goOn N b23) fun b26 => some b26)) else (bT (f_X9_errs (1 : Int32) b) fun b13 => bP (f_X9_goOn N b13) fun b16 => some b16))
set_option maxRecDepth 100000 in
set_option maxHeartbeats 4000000 in
theorem m_X9_semicolon {l : Launch} (hl : l.stackTraces = false) {G : GG} {L : List Nat} (hL : LOK L) {a b c : Mem} {N : Nat}  {a' : Mem} (hR : f_X9_semicolon N b = some a') : Ct l G yX9_semicolon (.code yX9_semicolon cX9_semicolon 1 none) 3 66 0 0 [.ref (ad L 96)] L (FW G L a b c) px0 (stay L (fun r f1 => f1 = (FW G L a a' c) ∧ r = none)) := by
  refine Ct.ofq (own := RX9) hl rfl (by decide) [some (.ref (ad L 96))] rfl (Nat.le_of_ble_eq_true rfl) ?_
  intro p e s m below meth c9 A ar Q hQ X
  unfold f_X9_semicolon at hR
  refine j_aload_n X (i := 0) dX9_semicolon_0 rfl rfl ?_
  obtain ⟨x2, h1, hR⟩ := bT_inv hR
  refine j_callV0 X 9 (m_X9_good hl hL h1) ml_X9_169 im_yX9_good se_yX9_good in_X9 cd_yX9_good hy_yX9_good dX9_semicolon_1 rfl (ad_mem hL (by decide)) (FW9 hL) ⟨(by decide), (by decide)⟩ ⟨(by decide), (by decide)⟩ (Nat.le_of_ble_eq_true rfl) (fun _ h => h.elim) (fun r9 L9 f9 h9 => ?_)
  obtain ⟨h91, h92, h93, h3⟩ := h9
  subst r9
  subst f9
  subst L9
  dsimp only [Option.toList, List.cons_append, List.nil_append, List.append]
  refine j_if_eq X (tgt := 24) dX9_semicolon_4 (by decide) (fun h4 => ?_) (fun h4 => ?_)
  · replace hR := (if_pos h4).symm.trans hR
    refine j_aload_n X (i := 0) dX9_semicolon_24 rfl rfl ?_
    refine j_iconst X (1) dX9_semicolon_25 (by decide) ?_
    obtain ⟨b6, h5, hR⟩ := bT_inv hR
    refine j_callV1 X 9 (m_X9_errs hl hL h5) ml_X9_212 im_yX9_errs se_yX9_errs in_X9 cd_yX9_errs hy_yX9_errs dX9_semicolon_26 rfl (ad_mem hL (by decide)) (FW9 hL) ⟨(by decide), (by decide)⟩ ⟨(by decide), (by decide)⟩ (Nat.le_of_ble_eq_true rfl) (fun _ h => h.elim) (fun r9 L9 f9 h9 => ?_)
    obtain ⟨h91, h92, h93⟩ := h9
    subst r9
    subst f9
    subst L9
    dsimp only [Option.toList, List.cons_append, List.nil_append, List.append]
    refine j_aload_n X (i := 0) dX9_semicolon_29 rfl rfl ?_
    obtain ⟨b9, h8, hR⟩ := bP_inv hR
    refine j_callV0 X 9 (m_X9_goOn hl hL h8) ml_X9_218 im_yX9_goOn se_yX9_goOn in_X9 cd_yX9_goOn hy_yX9_goOn dX9_semicolon_30 rfl (ad_mem hL (by decide)) (FW9 hL) ⟨(by decide), (by decide)⟩ ⟨(by decide), (by decide)⟩ (Nat.le_of_ble_eq_true rfl) (fun _ h => h.elim) (fun r9 L9 f9 h9 => ?_)
    obtain ⟨h91, h92, h93⟩ := h9
    subst r9
    subst f9
    subst L9
    dsimp only [Option.toList, List.cons_append, List.nil_append, List.append]
    exact q_vret X hQ dX9_semicolon_33 rfl ⟨(by decide), (by decide)⟩ ⟨rfl, congrArg (fun z => FW G L a z c) (Option.some.inj hR), rfl⟩
  · replace hR := (if_neg h4).symm.trans hR
    refine j_aload_n X (i := 0) dX9_semicolon_7 rfl rfl ?_
    refine j_getf X 9 16 rfl cw_X9 fl_X9_185 (by decide) dX9_semicolon_8 (ad_mem hL (by decide)) (FW9 hL) rfl ?_
    refine j_iconst X (3) dX9_semicolon_11 (by decide) ?_
    refine j_icmp_ne X (tgt := 24) dX9_semicolon_12 (by decide) (fun h11 => ?_) (fun h11 => ?_)
    · replace hR := (if_neg h11).symm.trans hR
      refine j_aload_n X (i := 0) dX9_semicolon_24 rfl rfl ?_
      refine j_iconst X (1) dX9_semicolon_25 (by decide) ?_
      obtain ⟨b13, h12, hR⟩ := bT_inv hR
      refine j_callV1 X 9 (m_X9_errs hl hL h12) ml_X9_212 im_yX9_errs se_yX9_errs in_X9 cd_yX9_errs hy_yX9_errs dX9_semicolon_26 rfl (ad_mem hL (by decide)) (FW9 hL) ⟨(by decide), (by decide)⟩ ⟨(by decide), (by decide)⟩ (Nat.le_of_ble_eq_true rfl) (fun _ h => h.elim) (fun r9 L9 f9 h9 => ?_)
      obtain ⟨h91, h92, h93⟩ := h9
      subst r9
      subst f9
      subst L9
      dsimp only [Option.toList, List.cons_append, List.nil_append, List.append]
      refine j_aload_n X (i := 0) dX9_semicolon_29 rfl rfl ?_
      obtain ⟨b16, h15, hR⟩ := bP_inv hR
      refine j_callV0 X 9 (m_X9_goOn hl hL h15) ml_X9_218 im_yX9_goOn se_yX9_goOn in_X9 cd_yX9_goOn hy_yX9_goOn dX9_semicolon_30 rfl (ad_mem hL (by decide)) (FW9 hL) ⟨(by decide), (by decide)⟩ ⟨(by decide), (by decide)⟩ (Nat.le_of_ble_eq_true rfl) (fun _ h => h.elim) (fun r9 L9 f9 h9 => ?_)
      obtain ⟨h91, h92, h93⟩ := h9
      subst r9
      subst f9
      subst L9
      dsimp only [Option.toList, List.cons_append, List.nil_append, List.append]
      exact q_vret X hQ dX9_semicolon_33 rfl ⟨(by decide), (by decide)⟩ ⟨rfl, congrArg (fun z => FW G L a z c) (Option.some.inj hR), rfl⟩
    · replace hR := (if_pos h11).symm.trans hR
      refine j_aload_n X (i := 0) dX9_semicolon_15 rfl rfl ?_
      refine j_getf X 9 17 rfl cw_X9 fl_X9_196 (by decide) dX9_semicolon_16 (ad_mem hL (by decide)) (FW9 hL) rfl ?_
      refine j_bipush X (59) dX9_semicolon_19 (by decide) ?_
      refine j_icmp_eq X (tgt := 29) dX9_semicolon_21 (by decide) (fun h18 => ?_) (fun h18 => ?_)
      · replace hR := (if_pos h18).symm.trans hR
        refine j_aload_n X (i := 0) dX9_semicolon_29 rfl rfl ?_
        obtain ⟨b20, h19, hR⟩ := bP_inv hR
        refine j_callV0 X 9 (m_X9_goOn hl hL h19) ml_X9_218 im_yX9_goOn se_yX9_goOn in_X9 cd_yX9_goOn hy_yX9_goOn dX9_semicolon_30 rfl (ad_mem hL (by decide)) (FW9 hL) ⟨(by decide), (by decide)⟩ ⟨(by decide), (by decide)⟩ (Nat.le_of_ble_eq_true rfl) (fun _ h => h.elim) (fun r9 L9 f9 h9 => ?_)
        obtain ⟨h91, h92, h93⟩ := h9
        subst r9
        subst f9
        subst L9
        dsimp only [Option.toList, List.cons_append, List.nil_append, List.append]
        exact q_vret X hQ dX9_semicolon_33 rfl ⟨(by decide), (by decide)⟩ ⟨rfl, congrArg (fun z => FW G L a z c) (Option.some.inj hR), rfl⟩
      · replace hR := (if_neg h18).symm.trans hR
        refine j_aload_n X (i := 0) dX9_semicolon_24 rfl rfl ?_
        refine j_iconst X (1) dX9_semicolon_25 (by decide) ?_
        obtain ⟨b23, h22, hR⟩ := bT_inv hR
        refine j_callV1 X 9 (m_X9_errs hl hL h22) ml_X9_212 im_yX9_errs se_yX9_errs in_X9 cd_yX9_errs hy_yX9_errs dX9_semicolon_26 rfl (ad_mem hL (by decide)) (FW9 hL) ⟨(by decide), (by decide)⟩ ⟨(by decide), (by decide)⟩ (Nat.le_of_ble_eq_true rfl) (fun _ h => h.elim) (fun r9 L9 f9 h9 => ?_)
        obtain ⟨h91, h92, h93⟩ := h9
        subst r9
        subst f9
        subst L9
        dsimp only [Option.toList, List.cons_append, List.nil_append, List.append]
        refine j_aload_n X (i := 0) dX9_semicolon_29 rfl rfl ?_
        obtain ⟨b26, h25, hR⟩ := bP_inv hR
        refine j_callV0 X 9 (m_X9_goOn hl hL h25) ml_X9_218 im_yX9_goOn se_yX9_goOn in_X9 cd_yX9_goOn hy_yX9_goOn dX9_semicolon_30 rfl (ad_mem hL (by decide)) (FW9 hL) ⟨(by decide), (by decide)⟩ ⟨(by decide), (by decide)⟩ (Nat.le_of_ble_eq_true rfl) (fun _ h => h.elim) (fun r9 L9 f9 h9 => ?_)
        obtain ⟨h91, h92, h93⟩ := h9
        subst r9
        subst f9
        subst L9
        dsimp only [Option.toList, List.cons_append, List.nil_append, List.append]
        exact q_vret X hQ dX9_semicolon_33 rfl ⟨(by decide), (by decide)⟩ ⟨rfl, congrArg (fun z => FW G L a z c) (Option.some.inj hR), rfl⟩
def f_X9_parsePeriod_47 (N : Nat) (x1 : Int32) (b5 : Mem) (x7 : Int32) : Option Mem := bT (f_X9_errsIf x7 (4 : Int32) b5) fun b9 => bP (f_X9_goOn N b9) fun b12 => bP2 (f_X9_numberAfter N 36 (0 : Int32) (60 : Int32) b12) fun x15 b16 => bP2 (f_X9_numberAfter N 37 (1 : Int32) (99999 : Int32) b16) fun x19 b20 => bP2 (f_X9_numberIf N 38 b20) fun x23 b24 => bP2 (f_X9_numberIf N 39 b24) fun x27 b28 => bP2 (f_X9_numberIf N 40 b28) fun x31 b32 => bP (f_X9_semicolon N b32) fun b35 => bT (f_X9_good b35) fun x38 => if x38 = 0 then (some b35) else (bT ((12 : Int32) + ((5 : Int32) * x1)) fun x41 => bT (upR b35 (rowM (b35 0 3)) (upd (b35 (rowM (b35 0 3))) ((2 : Int32)).toNatClampNeg ((b35 (rowM (b35 0 3)) ((2 : Int32)).toNatClampNeg) + (1 : Int32)))) fun b43 => chkI (x41 + (0 : Int32)) 311 <| bT (upR b43 (rowM (b43 0 3)) (upd (b43 (rowM (b43 0 3))) ((x41 + (0 : Int32))).toNatClampNeg x15)) fun b46 => chkI (x41 + (1 : Int32)) 311 <| bT (upR b46 (rowM (b46 0 3)) (upd (b46 (rowM (b46 0 3))) ((x41 + (1 : Int32))).toNatClampNeg x19)) fun b49 => chkI (x41 + (2 : Int32)) 311 <| bT (upR b49 (rowM (b49 0 3)) (upd (b49 (rowM (b49 0 3))) ((x41 + (2 : Int32))).toNatClampNeg x23)) fun b52 => chkI (x41 + (3 : Int32)) 311 <| bT (upR b52 (rowM (b52 0 3)) (upd (b52 (rowM (b52 0 3))) ((x41 + (3 : Int32))).toNatClampNeg x27)) fun b55 => chkI (x41 + (4 : Int32)) 311 <| bT (upR b55 (rowM (b55 0 3)) (upd (b55 (rowM (b55 0 3))) ((x41 + (4 : Int32))).toNatClampNeg x31)) fun b58 => some b58)
def f_X9_parsePeriod_46 (N : Nat) (x1 : Int32) (b5 : Mem)  : Option Mem := f_X9_parsePeriod_47 N x1 b5 (0 : Int32)
def f_X9_parsePeriod_18 (N : Nat) (b : Mem) (x1 : Int32) (x3 : Int32) : Option Mem := bT (f_X9_errsIf x3 (3 : Int32) b) fun b5 => if x1 ≤ 0 then (f_X9_parsePeriod_46 N x1 b5 ) else (bP (f_X9_ofPeriod N (mxI (0 : Int32) (x1 - (1 : Int32))) (0 : Int32) b5) fun x62 => if x62 = 0 then (f_X9_parsePeriod_47 N x1 b5 (1 : Int32)) else (f_X9_parsePeriod_46 N x1 b5 ))
def f_X9_parsePeriod (N : Nat) (b : Mem) : Option Mem := bT (b (rowM (b 0 3)) ((2 : Int32)).toNatClampNeg) fun x1 => if x1 = (5 : Int32) then (f_X9_parsePeriod_18 N b x1 (1 : Int32)) else (f_X9_parsePeriod_18 N b x1 (0 : Int32))
set_option maxRecDepth 100000 in
set_option maxHeartbeats 4000000 in
theorem m_X9_parsePeriod {l : Launch} (hl : l.stackTraces = false) {G : GG} {L : List Nat} (hL : LOK L) {a b c : Mem} {N : Nat}  {a' : Mem} (hR : f_X9_parsePeriod N b = some a') : Ct l G yX9_parsePeriod (.code yX9_parsePeriod cX9_parsePeriod 8 none) 9 211 0 0 [.ref (ad L 96)] L (FW G L a b c) px0 (stay L (fun r f1 => f1 = (FW G L a a' c) ∧ r = none)) := by
  refine Ct.ofq (own := RX9) hl rfl (by decide) [some (.ref (ad L 96)), none, none, none, none, none, none, none] rfl (Nat.le_of_ble_eq_true rfl) ?_
  intro p e s m below meth c9 A ar Q hQ X
  unfold f_X9_parsePeriod at hR
  refine j_aload_n X (i := 0) dX9_parsePeriod_0 rfl rfl ?_
  refine j_getf X 9 3 rfl cw_X9 fl_X9_24 (by decide) dX9_parsePeriod_1 (ad_mem hL (by decide)) (FW9 hL) rfl ?_
  refine j_iconst X (2) dX9_parsePeriod_4 (by decide) ?_
  refine j_iald X dX9_parsePeriod_5 (inLr hL) (FWrow hL) (by unfold vp_in; decide) ?_
  obtain ⟨x1, h2, hR⟩ := bT_inv hR
  refine J.eqi h2 ?_
  refine j_istore_n X (i := 1) dX9_parsePeriod_6 rfl (by decide) (lvOK_s rfl okPrev_ref) ?_
  dsimp only [List.set]
  refine j_aload_n X (i := 0) dX9_parsePeriod_7 rfl rfl ?_
  refine j_iload_n X (i := 1) dX9_parsePeriod_8 rfl rfl ?_
  refine j_iconst X (5) dX9_parsePeriod_9 (by decide) ?_
  have hb18 : ∀ (x3 : Int32) (hBx3 : isB x3), f_X9_parsePeriod_18 N b x1 x3 = some a' → J G p l e ({ frames := 9, cells := 0, slots := 0, locals := 211 } : Room) s m ar below meth c9 A Q 8 0 0 18 [some (.ref (ad L 96)), some (.int x1), none, none, none, none, none, none] [.int x3, .ref (ad L 96)] L (FW G L a b c) := by
    intro x3 hBx3 hR
    unfold f_X9_parsePeriod_18 at hR
    refine j_iconst X (3) dX9_parsePeriod_18 (by decide) ?_
    obtain ⟨b5, h4, hR⟩ := bT_inv hR
    refine j_callV2 X 9 (m_X9_errsIf hl hL hBx3 h4) ml_X9_236 im_yX9_errsIf se_yX9_errsIf in_X9 cd_yX9_errsIf hy_yX9_errsIf dX9_parsePeriod_19 rfl (ad_mem hL (by decide)) (FW9 hL) ⟨(by decide), (by decide)⟩ ⟨(by decide), (by decide)⟩ (Nat.le_of_ble_eq_true rfl) (fun _ h => h.elim) (fun r9 L9 f9 h9 => ?_)
    obtain ⟨h91, h92, h93⟩ := h9
    subst r9
    subst f9
    subst L9
    dsimp only [Option.toList, List.cons_append, List.nil_append, List.append]
    refine j_aload_n X (i := 0) dX9_parsePeriod_22 rfl rfl ?_
    refine j_iload_n X (i := 1) dX9_parsePeriod_23 rfl rfl ?_
    have hb47 : ∀ (x7 : Int32) (hBx7 : isB x7), f_X9_parsePeriod_47 N x1 b5 x7 = some a' → J G p l e ({ frames := 9, cells := 0, slots := 0, locals := 211 } : Room) s m ar below meth c9 A Q 8 0 0 47 [some (.ref (ad L 96)), some (.int x1), none, none, none, none, none, none] [.int x7, .ref (ad L 96)] L (FW G L a b5 c) := by
      intro x7 hBx7 hR
      unfold f_X9_parsePeriod_47 at hR
      refine j_iconst X (4) dX9_parsePeriod_47 (by decide) ?_
      obtain ⟨b9, h8, hR⟩ := bT_inv hR
      refine j_callV2 X 9 (m_X9_errsIf hl hL hBx7 h8) ml_X9_236 im_yX9_errsIf se_yX9_errsIf in_X9 cd_yX9_errsIf hy_yX9_errsIf dX9_parsePeriod_48 rfl (ad_mem hL (by decide)) (FW9 hL) ⟨(by decide), (by decide)⟩ ⟨(by decide), (by decide)⟩ (Nat.le_of_ble_eq_true rfl) (fun _ h => h.elim) (fun r9 L9 f9 h9 => ?_)
      obtain ⟨h91, h92, h93⟩ := h9
      subst r9
      subst f9
      subst L9
      dsimp only [Option.toList, List.cons_append, List.nil_append, List.append]
      refine j_aload_n X (i := 0) dX9_parsePeriod_51 rfl rfl ?_
      obtain ⟨b12, h11, hR⟩ := bP_inv hR
      refine j_callV0 X 9 (m_X9_goOn hl hL h11) ml_X9_218 im_yX9_goOn se_yX9_goOn in_X9 cd_yX9_goOn hy_yX9_goOn dX9_parsePeriod_52 rfl (ad_mem hL (by decide)) (FW9 hL) ⟨(by decide), (by decide)⟩ ⟨(by decide), (by decide)⟩ (Nat.le_of_ble_eq_true rfl) (fun _ h => h.elim) (fun r9 L9 f9 h9 => ?_)
      obtain ⟨h91, h92, h93⟩ := h9
      subst r9
      subst f9
      subst L9
      dsimp only [Option.toList, List.cons_append, List.nil_append, List.append]
      refine j_aload_n X (i := 0) dX9_parsePeriod_55 rfl rfl ?_
      refine j_ldcS X 36 dX9_parsePeriod_56 rfl ?_
      refine j_iconst X (0) dX9_parsePeriod_58 (by decide) ?_
      refine j_bipush X (60) dX9_parsePeriod_59 (by decide) ?_
      obtain ⟨x15, b16, h14, hR⟩ := bP2_inv hR
      refine j_callV3 X 9 (m_X9_numberAfter hl hL (by decide) h14) ml_X9_232 im_yX9_numberAfter se_yX9_numberAfter in_X9 cd_yX9_numberAfter hy_yX9_numberAfter dX9_parsePeriod_61 rfl (ad_mem hL (by decide)) (FW9 hL) ⟨(by decide), (by decide)⟩ ⟨(by decide), (by decide)⟩ (Nat.le_of_ble_eq_true rfl) (fun _ h => h.elim) (fun r9 L9 f9 h9 => ?_)
      obtain ⟨h91, h92, h93⟩ := h9
      subst r9
      subst f9
      subst L9
      dsimp only [Option.toList, List.cons_append, List.nil_append, List.append]
      refine j_istore_n X (i := 2) dX9_parsePeriod_64 rfl (by decide) (lvOK_s rfl okPrev_int) ?_
      dsimp only [List.set]
      refine j_aload_n X (i := 0) dX9_parsePeriod_65 rfl rfl ?_
      refine j_ldcS X 37 dX9_parsePeriod_66 rfl ?_
      refine j_iconst X (1) dX9_parsePeriod_68 (by decide) ?_
      refine j_ldc X dX9_parsePeriod_69 co_X9_244 ?_
      obtain ⟨x19, b20, h18, hR⟩ := bP2_inv hR
      refine j_callV3 X 9 (m_X9_numberAfter hl hL (by decide) h18) ml_X9_232 im_yX9_numberAfter se_yX9_numberAfter in_X9 cd_yX9_numberAfter hy_yX9_numberAfter dX9_parsePeriod_71 rfl (ad_mem hL (by decide)) (FW9 hL) ⟨(by decide), (by decide)⟩ ⟨(by decide), (by decide)⟩ (Nat.le_of_ble_eq_true rfl) (fun _ h => h.elim) (fun r9 L9 f9 h9 => ?_)
      obtain ⟨h91, h92, h93⟩ := h9
      subst r9
      subst f9
      subst L9
      dsimp only [Option.toList, List.cons_append, List.nil_append, List.append]
      refine j_istore_n X (i := 3) dX9_parsePeriod_74 rfl (by decide) (lvOK_s rfl okPrev_int) ?_
      dsimp only [List.set]
      refine j_aload_n X (i := 0) dX9_parsePeriod_75 rfl rfl ?_
      refine j_ldcS X 38 dX9_parsePeriod_76 rfl ?_
      obtain ⟨x23, b24, h22, hR⟩ := bP2_inv hR
      refine j_callV1 X 9 (m_X9_numberIf hl hL (by decide) h22) ml_X9_247 im_yX9_numberIf se_yX9_numberIf in_X9 cd_yX9_numberIf hy_yX9_numberIf dX9_parsePeriod_78 rfl (ad_mem hL (by decide)) (FW9 hL) ⟨(by decide), (by decide)⟩ ⟨(by decide), (by decide)⟩ (Nat.le_of_ble_eq_true rfl) (fun _ h => h.elim) (fun r9 L9 f9 h9 => ?_)
      obtain ⟨h91, h92, h93⟩ := h9
      subst r9
      subst f9
      subst L9
      dsimp only [Option.toList, List.cons_append, List.nil_append, List.append]
      refine j_istore X dX9_parsePeriod_81 (by decide) (lvOK_s rfl okPrev_int) ?_
      dsimp only [List.set]
      refine j_aload_n X (i := 0) dX9_parsePeriod_83 rfl rfl ?_
      refine j_ldcS X 39 dX9_parsePeriod_84 rfl ?_
      obtain ⟨x27, b28, h26, hR⟩ := bP2_inv hR
      refine j_callV1 X 9 (m_X9_numberIf hl hL (by decide) h26) ml_X9_247 im_yX9_numberIf se_yX9_numberIf in_X9 cd_yX9_numberIf hy_yX9_numberIf dX9_parsePeriod_86 rfl (ad_mem hL (by decide)) (FW9 hL) ⟨(by decide), (by decide)⟩ ⟨(by decide), (by decide)⟩ (Nat.le_of_ble_eq_true rfl) (fun _ h => h.elim) (fun r9 L9 f9 h9 => ?_)
      obtain ⟨h91, h92, h93⟩ := h9
      subst r9
      subst f9
      subst L9
      dsimp only [Option.toList, List.cons_append, List.nil_append, List.append]
      refine j_istore X dX9_parsePeriod_89 (by decide) (lvOK_s rfl okPrev_int) ?_
      dsimp only [List.set]
      refine j_aload_n X (i := 0) dX9_parsePeriod_91 rfl rfl ?_
      refine j_ldcS X 40 dX9_parsePeriod_92 rfl ?_
      obtain ⟨x31, b32, h30, hR⟩ := bP2_inv hR
      refine j_callV1 X 9 (m_X9_numberIf hl hL (by decide) h30) ml_X9_247 im_yX9_numberIf se_yX9_numberIf in_X9 cd_yX9_numberIf hy_yX9_numberIf dX9_parsePeriod_94 rfl (ad_mem hL (by decide)) (FW9 hL) ⟨(by decide), (by decide)⟩ ⟨(by decide), (by decide)⟩ (Nat.le_of_ble_eq_true rfl) (fun _ h => h.elim) (fun r9 L9 f9 h9 => ?_)
      obtain ⟨h91, h92, h93⟩ := h9
      subst r9
      subst f9
      subst L9
      dsimp only [Option.toList, List.cons_append, List.nil_append, List.append]
      refine j_istore X dX9_parsePeriod_97 (by decide) (lvOK_s rfl okPrev_int) ?_
      dsimp only [List.set]
      refine j_aload_n X (i := 0) dX9_parsePeriod_99 rfl rfl ?_
      obtain ⟨b35, h34, hR⟩ := bP_inv hR
      refine j_callV0 X 9 (m_X9_semicolon hl hL h34) ml_X9_255 im_yX9_semicolon se_yX9_semicolon in_X9 cd_yX9_semicolon hy_yX9_semicolon dX9_parsePeriod_100 rfl (ad_mem hL (by decide)) (FW9 hL) ⟨(by decide), (by decide)⟩ ⟨(by decide), (by decide)⟩ (Nat.le_of_ble_eq_true rfl) (fun _ h => h.elim) (fun r9 L9 f9 h9 => ?_)
      obtain ⟨h91, h92, h93⟩ := h9
      subst r9
      subst f9
      subst L9
      dsimp only [Option.toList, List.cons_append, List.nil_append, List.append]
      refine j_aload_n X (i := 0) dX9_parsePeriod_103 rfl rfl ?_
      obtain ⟨x38, h37, hR⟩ := bT_inv hR
      refine j_callV0 X 9 (m_X9_good hl hL h37) ml_X9_169 im_yX9_good se_yX9_good in_X9 cd_yX9_good hy_yX9_good dX9_parsePeriod_104 rfl (ad_mem hL (by decide)) (FW9 hL) ⟨(by decide), (by decide)⟩ ⟨(by decide), (by decide)⟩ (Nat.le_of_ble_eq_true rfl) (fun _ h => h.elim) (fun r9 L9 f9 h9 => ?_)
      obtain ⟨h91, h92, h93, h39⟩ := h9
      subst r9
      subst f9
      subst L9
      dsimp only [Option.toList, List.cons_append, List.nil_append, List.append]
      refine j_if_ne X (tgt := 111) dX9_parsePeriod_107 (by decide) (fun h40 => ?_) (fun h40 => ?_)
      · replace hR := (if_neg h40).symm.trans hR
        refine j_bipush X (12) dX9_parsePeriod_111 (by decide) ?_
        refine j_iconst X (5) dX9_parsePeriod_113 (by decide) ?_
        refine j_iload_n X (i := 1) dX9_parsePeriod_114 rfl rfl ?_
        refine j_imul X dX9_parsePeriod_115 ?_
        refine j_iadd X dX9_parsePeriod_116 ?_
        obtain ⟨x41, h42, hR⟩ := bT_inv hR
        refine J.eqi h42 ?_
        refine j_istore X dX9_parsePeriod_117 (by decide) (lvOK_s rfl okPrev_int) ?_
        dsimp only [List.set]
        refine j_aload_n X (i := 0) dX9_parsePeriod_119 rfl rfl ?_
        refine j_getf X 9 3 rfl cw_X9 fl_X9_24 (by decide) dX9_parsePeriod_120 (ad_mem hL (by decide)) (FW9 hL) rfl ?_
        refine j_iconst X (2) dX9_parsePeriod_123 (by decide) ?_
        refine j_dup2 X dX9_parsePeriod_124 rfl rfl ?_
        refine j_iald X dX9_parsePeriod_125 (inLr hL) (FWrow hL) (by unfold vp_in; decide) ?_
        refine j_iconst X (1) dX9_parsePeriod_126 (by decide) ?_
        refine j_iadd X dX9_parsePeriod_127 ?_
        obtain ⟨b43, h44, hR⟩ := bT_inv hR
        refine trow_iast X hL (by unfold vp_in; decide) h44 dX9_parsePeriod_128 ?_
        refine j_aload_n X (i := 0) dX9_parsePeriod_129 rfl rfl ?_
        refine j_getf X 9 3 rfl cw_X9 fl_X9_24 (by decide) dX9_parsePeriod_130 (ad_mem hL (by decide)) (FW9 hL) rfl ?_
        refine j_iload X dX9_parsePeriod_133 rfl ?_
        refine j_iconst X (0) dX9_parsePeriod_135 (by decide) ?_
        refine j_iadd X dX9_parsePeriod_136 ?_
        refine j_iload_n X (i := 2) dX9_parsePeriod_137 rfl rfl ?_
        obtain ⟨h45, hR⟩ := chkI_inv hR
        obtain ⟨b46, h47, hR⟩ := bT_inv hR
        refine trow_iast X hL h45 h47 dX9_parsePeriod_138 ?_
        refine j_aload_n X (i := 0) dX9_parsePeriod_139 rfl rfl ?_
        refine j_getf X 9 3 rfl cw_X9 fl_X9_24 (by decide) dX9_parsePeriod_140 (ad_mem hL (by decide)) (FW9 hL) rfl ?_
        refine j_iload X dX9_parsePeriod_143 rfl ?_
        refine j_iconst X (1) dX9_parsePeriod_145 (by decide) ?_
        refine j_iadd X dX9_parsePeriod_146 ?_
        refine j_iload_n X (i := 3) dX9_parsePeriod_147 rfl rfl ?_
        obtain ⟨h48, hR⟩ := chkI_inv hR
        obtain ⟨b49, h50, hR⟩ := bT_inv hR
        refine trow_iast X hL h48 h50 dX9_parsePeriod_148 ?_
        refine j_aload_n X (i := 0) dX9_parsePeriod_149 rfl rfl ?_
        refine j_getf X 9 3 rfl cw_X9 fl_X9_24 (by decide) dX9_parsePeriod_150 (ad_mem hL (by decide)) (FW9 hL) rfl ?_
        refine j_iload X dX9_parsePeriod_153 rfl ?_
        refine j_iconst X (2) dX9_parsePeriod_155 (by decide) ?_
        refine j_iadd X dX9_parsePeriod_156 ?_
        refine j_iload X dX9_parsePeriod_157 rfl ?_
        obtain ⟨h51, hR⟩ := chkI_inv hR
        obtain ⟨b52, h53, hR⟩ := bT_inv hR
        refine trow_iast X hL h51 h53 dX9_parsePeriod_159 ?_
        refine j_aload_n X (i := 0) dX9_parsePeriod_160 rfl rfl ?_
        refine j_getf X 9 3 rfl cw_X9 fl_X9_24 (by decide) dX9_parsePeriod_161 (ad_mem hL (by decide)) (FW9 hL) rfl ?_
        refine j_iload X dX9_parsePeriod_164 rfl ?_
        refine j_iconst X (3) dX9_parsePeriod_166 (by decide) ?_
        refine j_iadd X dX9_parsePeriod_167 ?_
        refine j_iload X dX9_parsePeriod_168 rfl ?_
        obtain ⟨h54, hR⟩ := chkI_inv hR
        obtain ⟨b55, h56, hR⟩ := bT_inv hR
        refine trow_iast X hL h54 h56 dX9_parsePeriod_170 ?_
        refine j_aload_n X (i := 0) dX9_parsePeriod_171 rfl rfl ?_
        refine j_getf X 9 3 rfl cw_X9 fl_X9_24 (by decide) dX9_parsePeriod_172 (ad_mem hL (by decide)) (FW9 hL) rfl ?_
        refine j_iload X dX9_parsePeriod_175 rfl ?_
        refine j_iconst X (4) dX9_parsePeriod_177 (by decide) ?_
        refine j_iadd X dX9_parsePeriod_178 ?_
        refine j_iload X dX9_parsePeriod_179 rfl ?_
        obtain ⟨h57, hR⟩ := chkI_inv hR
        obtain ⟨b58, h59, hR⟩ := bT_inv hR
        refine trow_iast X hL h57 h59 dX9_parsePeriod_181 ?_
        exact q_vret X hQ dX9_parsePeriod_182 rfl ⟨(by decide), (by decide)⟩ ⟨rfl, congrArg (fun z => FW G L a z c) (Option.some.inj hR), rfl⟩
      · replace hR := (if_pos h40).symm.trans hR
        exact q_vret X hQ dX9_parsePeriod_110 rfl ⟨(by decide), (by decide)⟩ ⟨rfl, congrArg (fun z => FW G L a z c) (Option.some.inj hR), rfl⟩
    have hb46 : f_X9_parsePeriod_46 N x1 b5 = some a' → J G p l e ({ frames := 9, cells := 0, slots := 0, locals := 211 } : Room) s m ar below meth c9 A Q 8 0 0 46 [some (.ref (ad L 96)), some (.int x1), none, none, none, none, none, none] [.ref (ad L 96)] L (FW G L a b5 c) := by
      intro hR
      unfold f_X9_parsePeriod_46 at hR
      refine j_iconst X (0) dX9_parsePeriod_46 (by decide) ?_
      exact J.sub (lvle_of (by simp only [lvle, and_self])) (hb47 _ isB_0 hR)
    refine j_if_le X (tgt := 46) dX9_parsePeriod_24 (by decide) (fun h60 => ?_) (fun h60 => ?_)
    · replace hR := (if_pos h60).symm.trans hR
      exact J.sub (lvle_of (by simp only [lvle, and_self])) (hb46 hR)
    · replace hR := (if_neg h60).symm.trans hR
      refine j_aload_n X (i := 0) dX9_parsePeriod_27 rfl rfl ?_
      refine j_iconst X (0) dX9_parsePeriod_28 (by decide) ?_
      refine j_iload_n X (i := 1) dX9_parsePeriod_29 rfl rfl ?_
      refine j_iconst X (1) dX9_parsePeriod_30 (by decide) ?_
      refine j_isub X dX9_parsePeriod_31 ?_
      refine j_mmax X ml_X9_114 dX9_parsePeriod_32 ⟨(by decide), (Nat.le_of_ble_eq_true rfl)⟩ ⟨(by decide), (by decide)⟩ ?_
      refine j_iconst X (0) dX9_parsePeriod_35 (by decide) ?_
      obtain ⟨x62, h61, hR⟩ := bP_inv hR
      refine j_callV2 X 9 (m_X9_ofPeriod hl hL h61) ml_X9_61 im_yX9_ofPeriod se_yX9_ofPeriod in_X9 cd_yX9_ofPeriod hy_yX9_ofPeriod dX9_parsePeriod_36 rfl (ad_mem hL (by decide)) (FW9 hL) ⟨(by decide), (by decide)⟩ ⟨(by decide), (by decide)⟩ (Nat.le_of_ble_eq_true rfl) (fun _ h => h.elim) (fun r9 L9 f9 h9 => ?_)
      obtain ⟨h91, h92, h93⟩ := h9
      subst r9
      subst f9
      subst L9
      dsimp only [Option.toList, List.cons_append, List.nil_append, List.append]
      refine j_if_ne X (tgt := 46) dX9_parsePeriod_39 (by decide) (fun h64 => ?_) (fun h64 => ?_)
      · replace hR := (if_neg h64).symm.trans hR
        exact J.sub (lvle_of (by simp only [lvle, and_self])) (hb46 hR)
      · replace hR := (if_pos h64).symm.trans hR
        refine j_iconst X (1) dX9_parsePeriod_42 (by decide) ?_
        refine j_goto X (tgt := 47) dX9_parsePeriod_43 (by decide) ?_
        exact J.sub (lvle_of (by simp only [lvle, and_self])) (hb47 _ isB_1 hR)
  refine j_icmp_ne X (tgt := 17) dX9_parsePeriod_10 (by decide) (fun h65 => ?_) (fun h65 => ?_)
  · replace hR := (if_neg h65).symm.trans hR
    refine j_iconst X (0) dX9_parsePeriod_17 (by decide) ?_
    exact J.sub (lvle_of (by simp only [lvle, and_self])) (hb18 _ isB_0 hR)
  · replace hR := (if_pos h65).symm.trans hR
    refine j_iconst X (1) dX9_parsePeriod_13 (by decide) ?_
    refine j_goto X (tgt := 18) dX9_parsePeriod_14 (by decide) ?_
    exact J.sub (lvle_of (by simp only [lvle, and_self])) (hb18 _ isB_1 hR)
def f_X9_parseExtra (N : Nat) (b : Mem) : Option Mem := bT (f_X9_errsIf (nb (b 0 20)) (3 : Int32) b) fun b2 => bT (up2 b2 0 20 (1 : Int32)) fun b4 => bP (f_X9_goOn N b4) fun b7 => bP2 (f_X9_number N (1 : Int32) (9 : Int32) b7) fun x10 b11 => bT (upR b11 (rowM (b7 0 3)) (upd (b11 (rowM (b7 0 3))) ((3 : Int32)).toNatClampNeg x10)) fun b13 => bP2 (f_X9_numberAfter N 37 (1 : Int32) (9999 : Int32) b13) fun x16 b17 => bT (upR b17 (rowM (b13 0 3)) (upd (b17 (rowM (b13 0 3))) ((4 : Int32)).toNatClampNeg x16)) fun b19 => bP (f_X9_semicolon N b19) fun b22 => some b22
set_option maxRecDepth 100000 in
set_option maxHeartbeats 4000000 in
theorem m_X9_parseExtra {l : Launch} (hl : l.stackTraces = false) {G : GG} {L : List Nat} (hL : LOK L) {a b c : Mem} {N : Nat}  {a' : Mem} (hR : f_X9_parseExtra N b = some a') : Ct l G yX9_parseExtra (.code yX9_parseExtra cX9_parseExtra 1 none) 8 190 0 0 [.ref (ad L 96)] L (FW G L a b c) px0 (stay L (fun r f1 => f1 = (FW G L a a' c) ∧ r = none)) := by
  refine Ct.ofq (own := RX9) hl rfl (by decide) [some (.ref (ad L 96))] rfl (Nat.le_of_ble_eq_true rfl) ?_
  intro p e s m below meth c9 A ar Q hQ X
  unfold f_X9_parseExtra at hR
  refine j_aload_n X (i := 0) dX9_parseExtra_0 rfl rfl ?_
  refine j_aload_n X (i := 0) dX9_parseExtra_1 rfl rfl ?_
  refine j_getf X 9 20 rfl cw_X9 fl_X9_258 (by decide) dX9_parseExtra_2 (ad_mem hL (by decide)) (FW9 hL) rfl ?_
  refine j_iconst X (3) dX9_parseExtra_5 (by decide) ?_
  obtain ⟨b2, h1, hR⟩ := bT_inv hR
  refine j_callV2 X 9 (m_X9_errsIf hl hL nb_B h1) ml_X9_236 im_yX9_errsIf se_yX9_errsIf in_X9 cd_yX9_errsIf hy_yX9_errsIf dX9_parseExtra_6 rfl (ad_mem hL (by decide)) (FW9 hL) ⟨(by decide), (by decide)⟩ ⟨(by decide), (by decide)⟩ (Nat.le_of_ble_eq_true rfl) (fun _ h => h.elim) (fun r9 L9 f9 h9 => ?_)
  obtain ⟨h91, h92, h93⟩ := h9
  subst r9
  subst f9
  subst L9
  dsimp only [Option.toList, List.cons_append, List.nil_append, List.append]
  refine j_aload_n X (i := 0) dX9_parseExtra_9 rfl rfl ?_
  refine j_iconst X (1) dX9_parseExtra_10 (by decide) ?_
  obtain ⟨b4, h5, hR⟩ := bT_inv hR
  refine tp_X9_20 X hL isB_1 h5 fl_X9_258 dX9_parseExtra_11 ?_
  refine j_aload_n X (i := 0) dX9_parseExtra_14 rfl rfl ?_
  obtain ⟨b7, h6, hR⟩ := bP_inv hR
  refine j_callV0 X 9 (m_X9_goOn hl hL h6) ml_X9_218 im_yX9_goOn se_yX9_goOn in_X9 cd_yX9_goOn hy_yX9_goOn dX9_parseExtra_15 rfl (ad_mem hL (by decide)) (FW9 hL) ⟨(by decide), (by decide)⟩ ⟨(by decide), (by decide)⟩ (Nat.le_of_ble_eq_true rfl) (fun _ h => h.elim) (fun r9 L9 f9 h9 => ?_)
  obtain ⟨h91, h92, h93⟩ := h9
  subst r9
  subst f9
  subst L9
  dsimp only [Option.toList, List.cons_append, List.nil_append, List.append]
  refine j_aload_n X (i := 0) dX9_parseExtra_18 rfl rfl ?_
  refine j_getf X 9 3 rfl cw_X9 fl_X9_24 (by decide) dX9_parseExtra_19 (ad_mem hL (by decide)) (FW9 hL) rfl ?_
  refine j_iconst X (3) dX9_parseExtra_22 (by decide) ?_
  refine j_aload_n X (i := 0) dX9_parseExtra_23 rfl rfl ?_
  refine j_iconst X (1) dX9_parseExtra_24 (by decide) ?_
  refine j_bipush X (9) dX9_parseExtra_25 (by decide) ?_
  obtain ⟨x10, b11, h9, hR⟩ := bP2_inv hR
  refine j_callV2 X 9 (m_X9_number hl hL h9) ml_X9_229 im_yX9_number se_yX9_number in_X9 cd_yX9_number hy_yX9_number dX9_parseExtra_27 rfl (ad_mem hL (by decide)) (FW9 hL) ⟨(by decide), (by decide)⟩ ⟨(by decide), (by decide)⟩ (Nat.le_of_ble_eq_true rfl) (fun _ h => h.elim) (fun r9 L9 f9 h9 => ?_)
  obtain ⟨h91, h92, h93⟩ := h9
  subst r9
  subst f9
  subst L9
  dsimp only [Option.toList, List.cons_append, List.nil_append, List.append]
  obtain ⟨b13, h14, hR⟩ := bT_inv hR
  refine trow_iast X hL (by unfold vp_in; decide) h14 dX9_parseExtra_30 ?_
  refine j_aload_n X (i := 0) dX9_parseExtra_31 rfl rfl ?_
  refine j_getf X 9 3 rfl cw_X9 fl_X9_24 (by decide) dX9_parseExtra_32 (ad_mem hL (by decide)) (FW9 hL) rfl ?_
  refine j_iconst X (4) dX9_parseExtra_35 (by decide) ?_
  refine j_aload_n X (i := 0) dX9_parseExtra_36 rfl rfl ?_
  refine j_ldcS X 37 dX9_parseExtra_37 rfl ?_
  refine j_iconst X (1) dX9_parseExtra_39 (by decide) ?_
  refine j_sipush X (9999) dX9_parseExtra_40 (by decide) ?_
  obtain ⟨x16, b17, h15, hR⟩ := bP2_inv hR
  refine j_callV3 X 9 (m_X9_numberAfter hl hL (by decide) h15) ml_X9_232 im_yX9_numberAfter se_yX9_numberAfter in_X9 cd_yX9_numberAfter hy_yX9_numberAfter dX9_parseExtra_43 rfl (ad_mem hL (by decide)) (FW9 hL) ⟨(by decide), (by decide)⟩ ⟨(by decide), (by decide)⟩ (Nat.le_of_ble_eq_true rfl) (fun _ h => h.elim) (fun r9 L9 f9 h9 => ?_)
  obtain ⟨h91, h92, h93⟩ := h9
  subst r9
  subst f9
  subst L9
  dsimp only [Option.toList, List.cons_append, List.nil_append, List.append]
  obtain ⟨b19, h20, hR⟩ := bT_inv hR
  refine trow_iast X hL (by unfold vp_in; decide) h20 dX9_parseExtra_46 ?_
  refine j_aload_n X (i := 0) dX9_parseExtra_47 rfl rfl ?_
  obtain ⟨b22, h21, hR⟩ := bP_inv hR
  refine j_callV0 X 9 (m_X9_semicolon hl hL h21) ml_X9_255 im_yX9_semicolon se_yX9_semicolon in_X9 cd_yX9_semicolon hy_yX9_semicolon dX9_parseExtra_48 rfl (ad_mem hL (by decide)) (FW9 hL) ⟨(by decide), (by decide)⟩ ⟨(by decide), (by decide)⟩ (Nat.le_of_ble_eq_true rfl) (fun _ h => h.elim) (fun r9 L9 f9 h9 => ?_)
  obtain ⟨h91, h92, h93⟩ := h9
  subst r9
  subst f9
  subst L9
  dsimp only [Option.toList, List.cons_append, List.nil_append, List.append]
  exact q_vret X hQ dX9_parseExtra_51 rfl ⟨(by decide), (by decide)⟩ ⟨rfl, congrArg (fun z => FW G L a z c) (Option.some.inj hR), rfl⟩
def f_X9_parseSession_16 (N : Nat) (b : Mem) (x1 : Int32) : Option Mem := bT (f_X9_errsIf x1 (3 : Int32) b) fun b3 => bP (f_X9_goOn N b3) fun b6 => bP2 (f_X9_number N (1 : Int32) (99999 : Int32) b6) fun x9 b10 => bT (upR b10 (rowM (b6 0 3)) (upd (b10 (rowM (b6 0 3))) ((5 : Int32)).toNatClampNeg x9)) fun b12 => bP (f_X9_semicolon N b12) fun b15 => some b15
def f_X9_parseSession (N : Nat) (b : Mem) : Option Mem := if (b (rowM (b 0 3)) ((5 : Int32)).toNatClampNeg) = (-1 : Int32) then (f_X9_parseSession_16 N b (0 : Int32)) else (f_X9_parseSession_16 N b (1 : Int32))
set_option maxRecDepth 100000 in
set_option maxHeartbeats 4000000 in
theorem m_X9_parseSession {l : Launch} (hl : l.stackTraces = false) {G : GG} {L : List Nat} (hL : LOK L) {a b c : Mem} {N : Nat}  {a' : Mem} (hR : f_X9_parseSession N b = some a') : Ct l G yX9_parseSession (.code yX9_parseSession cX9_parseSession 1 none) 4 89 0 0 [.ref (ad L 96)] L (FW G L a b c) px0 (stay L (fun r f1 => f1 = (FW G L a a' c) ∧ r = none)) := by
  refine Ct.ofq (own := RX9) hl rfl (by decide) [some (.ref (ad L 96))] rfl (Nat.le_of_ble_eq_true rfl) ?_
  intro p e s m below meth c9 A ar Q hQ X
  unfold f_X9_parseSession at hR
  refine j_aload_n X (i := 0) dX9_parseSession_0 rfl rfl ?_
  refine j_aload_n X (i := 0) dX9_parseSession_1 rfl rfl ?_
  refine j_getf X 9 3 rfl cw_X9 fl_X9_24 (by decide) dX9_parseSession_2 (ad_mem hL (by decide)) (FW9 hL) rfl ?_
  refine j_iconst X (5) dX9_parseSession_5 (by decide) ?_
  refine j_iald X dX9_parseSession_6 (inLr hL) (FWrow hL) (by unfold vp_in; decide) ?_
  refine j_iconst X (-1) dX9_parseSession_7 (by decide) ?_
  have hb16 : ∀ (x1 : Int32) (hBx1 : isB x1), f_X9_parseSession_16 N b x1 = some a' → J G p l e ({ frames := 4, cells := 0, slots := 0, locals := 89 } : Room) s m ar below meth c9 A Q 1 0 0 16 [some (.ref (ad L 96))] [.int x1, .ref (ad L 96)] L (FW G L a b c) := by
    intro x1 hBx1 hR
    unfold f_X9_parseSession_16 at hR
    refine j_iconst X (3) dX9_parseSession_16 (by decide) ?_
    obtain ⟨b3, h2, hR⟩ := bT_inv hR
    refine j_callV2 X 9 (m_X9_errsIf hl hL hBx1 h2) ml_X9_236 im_yX9_errsIf se_yX9_errsIf in_X9 cd_yX9_errsIf hy_yX9_errsIf dX9_parseSession_17 rfl (ad_mem hL (by decide)) (FW9 hL) ⟨(by decide), (by decide)⟩ ⟨(by decide), (by decide)⟩ (Nat.le_of_ble_eq_true rfl) (fun _ h => h.elim) (fun r9 L9 f9 h9 => ?_)
    obtain ⟨h91, h92, h93⟩ := h9
    subst r9
    subst f9
    subst L9
    dsimp only [Option.toList, List.cons_append, List.nil_append, List.append]
    refine j_aload_n X (i := 0) dX9_parseSession_20 rfl rfl ?_
    obtain ⟨b6, h5, hR⟩ := bP_inv hR
    refine j_callV0 X 9 (m_X9_goOn hl hL h5) ml_X9_218 im_yX9_goOn se_yX9_goOn in_X9 cd_yX9_goOn hy_yX9_goOn dX9_parseSession_21 rfl (ad_mem hL (by decide)) (FW9 hL) ⟨(by decide), (by decide)⟩ ⟨(by decide), (by decide)⟩ (Nat.le_of_ble_eq_true rfl) (fun _ h => h.elim) (fun r9 L9 f9 h9 => ?_)
    obtain ⟨h91, h92, h93⟩ := h9
    subst r9
    subst f9
    subst L9
    dsimp only [Option.toList, List.cons_append, List.nil_append, List.append]
    refine j_aload_n X (i := 0) dX9_parseSession_24 rfl rfl ?_
    refine j_getf X 9 3 rfl cw_X9 fl_X9_24 (by decide) dX9_parseSession_25 (ad_mem hL (by decide)) (FW9 hL) rfl ?_
    refine j_iconst X (5) dX9_parseSession_28 (by decide) ?_
    refine j_aload_n X (i := 0) dX9_parseSession_29 rfl rfl ?_
    refine j_iconst X (1) dX9_parseSession_30 (by decide) ?_
    refine j_ldc X dX9_parseSession_31 co_X9_244 ?_
    obtain ⟨x9, b10, h8, hR⟩ := bP2_inv hR
    refine j_callV2 X 9 (m_X9_number hl hL h8) ml_X9_229 im_yX9_number se_yX9_number in_X9 cd_yX9_number hy_yX9_number dX9_parseSession_33 rfl (ad_mem hL (by decide)) (FW9 hL) ⟨(by decide), (by decide)⟩ ⟨(by decide), (by decide)⟩ (Nat.le_of_ble_eq_true rfl) (fun _ h => h.elim) (fun r9 L9 f9 h9 => ?_)
    obtain ⟨h91, h92, h93⟩ := h9
    subst r9
    subst f9
    subst L9
    dsimp only [Option.toList, List.cons_append, List.nil_append, List.append]
    obtain ⟨b12, h13, hR⟩ := bT_inv hR
    refine trow_iast X hL (by unfold vp_in; decide) h13 dX9_parseSession_36 ?_
    refine j_aload_n X (i := 0) dX9_parseSession_37 rfl rfl ?_
    obtain ⟨b15, h14, hR⟩ := bP_inv hR
    refine j_callV0 X 9 (m_X9_semicolon hl hL h14) ml_X9_255 im_yX9_semicolon se_yX9_semicolon in_X9 cd_yX9_semicolon hy_yX9_semicolon dX9_parseSession_38 rfl (ad_mem hL (by decide)) (FW9 hL) ⟨(by decide), (by decide)⟩ ⟨(by decide), (by decide)⟩ (Nat.le_of_ble_eq_true rfl) (fun _ h => h.elim) (fun r9 L9 f9 h9 => ?_)
    obtain ⟨h91, h92, h93⟩ := h9
    subst r9
    subst f9
    subst L9
    dsimp only [Option.toList, List.cons_append, List.nil_append, List.append]
    exact q_vret X hQ dX9_parseSession_41 rfl ⟨(by decide), (by decide)⟩ ⟨rfl, congrArg (fun z => FW G L a z c) (Option.some.inj hR), rfl⟩
  refine j_icmp_eq X (tgt := 15) dX9_parseSession_8 (by decide) (fun h17 => ?_) (fun h17 => ?_)
  · replace hR := (if_pos h17).symm.trans hR
    refine j_iconst X (0) dX9_parseSession_15 (by decide) ?_
    exact J.sub (lvle_of (by simp only [lvle, and_self])) (hb16 _ isB_0 hR)
  · replace hR := (if_neg h17).symm.trans hR
    refine j_iconst X (1) dX9_parseSession_11 (by decide) ?_
    refine j_goto X (tgt := 16) dX9_parseSession_12 (by decide) ?_
    exact J.sub (lvle_of (by simp only [lvle, and_self])) (hb16 _ isB_1 hR)
def f_X9_parseHand_63 (N : Nat) (b13 : Mem) (x18 : Int32) : Option Mem := bT (f_X9_errsIf x18 (1 : Int32) b13) fun b20 => bP (f_X9_goOn N b20) fun b23 => bP2 (f_X9_number N (1 : Int32) (9999 : Int32) b23) fun x26 b27 => bT (up2 b27 0 23 x26) fun b29 => bP (f_X9_semicolon N b29) fun b32 => some b32
def f_X9_parseHand_62 (N : Nat) (b13 : Mem)  : Option Mem := f_X9_parseHand_63 N b13 (0 : Int32)
def f_X9_parseHand_34 (N : Nat) (b7 : Mem) (x12 : Int32) : Option Mem := bT (up2 b7 0 22 x12) fun b13 => bP (f_X9_isWord N 44 b13) fun x16 => if x16 = 0 then (bP (f_X9_isWord N 45 b13) fun x36 => if x36 = 0 then (f_X9_parseHand_63 N b13 (1 : Int32)) else (f_X9_parseHand_62 N b13 )) else (f_X9_parseHand_62 N b13 )
def f_X9_parseHand (N : Nat) (b : Mem) : Option Mem := bT (f_X9_errsIf (nb (b 0 21)) (3 : Int32) b) fun b2 => bT (up2 b2 0 21 (1 : Int32)) fun b4 => bP (f_X9_goOn N b4) fun b7 => bP (f_X9_isWord N 44 b7) fun x10 => if x10 = 0 then (f_X9_parseHand_34 N b7 (0 : Int32)) else (f_X9_parseHand_34 N b7 (1 : Int32))
set_option maxRecDepth 100000 in
set_option maxHeartbeats 4000000 in
theorem m_X9_parseHand {l : Launch} (hl : l.stackTraces = false) {G : GG} {L : List Nat} (hL : LOK L) {a b c : Mem} {N : Nat}  {a' : Mem} (hR : f_X9_parseHand N b = some a') : Ct l G yX9_parseHand (.code yX9_parseHand cX9_parseHand 1 none) 6 146 0 0 [.ref (ad L 96)] L (FW G L a b c) px0 (stay L (fun r f1 => f1 = (FW G L a a' c) ∧ r = none)) := by
  refine Ct.ofq (own := RX9) hl rfl (by decide) [some (.ref (ad L 96))] rfl (Nat.le_of_ble_eq_true rfl) ?_
  intro p e s m below meth c9 A ar Q hQ X
  unfold f_X9_parseHand at hR
  refine j_aload_n X (i := 0) dX9_parseHand_0 rfl rfl ?_
  refine j_aload_n X (i := 0) dX9_parseHand_1 rfl rfl ?_
  refine j_getf X 9 21 rfl cw_X9 fl_X9_261 (by decide) dX9_parseHand_2 (ad_mem hL (by decide)) (FW9 hL) rfl ?_
  refine j_iconst X (3) dX9_parseHand_5 (by decide) ?_
  obtain ⟨b2, h1, hR⟩ := bT_inv hR
  refine j_callV2 X 9 (m_X9_errsIf hl hL nb_B h1) ml_X9_236 im_yX9_errsIf se_yX9_errsIf in_X9 cd_yX9_errsIf hy_yX9_errsIf dX9_parseHand_6 rfl (ad_mem hL (by decide)) (FW9 hL) ⟨(by decide), (by decide)⟩ ⟨(by decide), (by decide)⟩ (Nat.le_of_ble_eq_true rfl) (fun _ h => h.elim) (fun r9 L9 f9 h9 => ?_)
  obtain ⟨h91, h92, h93⟩ := h9
  subst r9
  subst f9
  subst L9
  dsimp only [Option.toList, List.cons_append, List.nil_append, List.append]
  refine j_aload_n X (i := 0) dX9_parseHand_9 rfl rfl ?_
  refine j_iconst X (1) dX9_parseHand_10 (by decide) ?_
  obtain ⟨b4, h5, hR⟩ := bT_inv hR
  refine tp_X9_21 X hL isB_1 h5 fl_X9_261 dX9_parseHand_11 ?_
  refine j_aload_n X (i := 0) dX9_parseHand_14 rfl rfl ?_
  obtain ⟨b7, h6, hR⟩ := bP_inv hR
  refine j_callV0 X 9 (m_X9_goOn hl hL h6) ml_X9_218 im_yX9_goOn se_yX9_goOn in_X9 cd_yX9_goOn hy_yX9_goOn dX9_parseHand_15 rfl (ad_mem hL (by decide)) (FW9 hL) ⟨(by decide), (by decide)⟩ ⟨(by decide), (by decide)⟩ (Nat.le_of_ble_eq_true rfl) (fun _ h => h.elim) (fun r9 L9 f9 h9 => ?_)
  obtain ⟨h91, h92, h93⟩ := h9
  subst r9
  subst f9
  subst L9
  dsimp only [Option.toList, List.cons_append, List.nil_append, List.append]
  refine j_aload_n X (i := 0) dX9_parseHand_18 rfl rfl ?_
  refine j_aload_n X (i := 0) dX9_parseHand_19 rfl rfl ?_
  refine j_ldcSw X 44 dX9_parseHand_20 rfl ?_
  obtain ⟨x10, h9, hR⟩ := bP_inv hR
  refine j_callV1 X 9 (m_X9_isWord hl hL (by decide) h9) ml_X9_221 im_yX9_isWord se_yX9_isWord in_X9 cd_yX9_isWord hy_yX9_isWord dX9_parseHand_23 rfl (ad_mem hL (by decide)) (FW9 hL) ⟨(by decide), (by decide)⟩ ⟨(by decide), (by decide)⟩ (Nat.le_of_ble_eq_true rfl) (fun _ h => h.elim) (fun r9 L9 f9 h9 => ?_)
  obtain ⟨h91, h92, h93, h11⟩ := h9
  subst r9
  subst f9
  subst L9
  dsimp only [Option.toList, List.cons_append, List.nil_append, List.append]
  have hb34 : ∀ (x12 : Int32) (hBx12 : isB x12), f_X9_parseHand_34 N b7 x12 = some a' → J G p l e ({ frames := 6, cells := 0, slots := 0, locals := 146 } : Room) s m ar below meth c9 A Q 1 0 0 34 [some (.ref (ad L 96))] [.int x12, .ref (ad L 96)] L (FW G L a b7 c) := by
    intro x12 hBx12 hR
    unfold f_X9_parseHand_34 at hR
    obtain ⟨b13, h14, hR⟩ := bT_inv hR
    refine tp_X9_22 X hL h14 fl_X9_266 dX9_parseHand_34 ?_
    refine j_aload_n X (i := 0) dX9_parseHand_37 rfl rfl ?_
    refine j_aload_n X (i := 0) dX9_parseHand_38 rfl rfl ?_
    refine j_ldcSw X 44 dX9_parseHand_39 rfl ?_
    obtain ⟨x16, h15, hR⟩ := bP_inv hR
    refine j_callV1 X 9 (m_X9_isWord hl hL (by decide) h15) ml_X9_221 im_yX9_isWord se_yX9_isWord in_X9 cd_yX9_isWord hy_yX9_isWord dX9_parseHand_42 rfl (ad_mem hL (by decide)) (FW9 hL) ⟨(by decide), (by decide)⟩ ⟨(by decide), (by decide)⟩ (Nat.le_of_ble_eq_true rfl) (fun _ h => h.elim) (fun r9 L9 f9 h9 => ?_)
    obtain ⟨h91, h92, h93, h17⟩ := h9
    subst r9
    subst f9
    subst L9
    dsimp only [Option.toList, List.cons_append, List.nil_append, List.append]
    have hb63 : ∀ (x18 : Int32) (hBx18 : isB x18), f_X9_parseHand_63 N b13 x18 = some a' → J G p l e ({ frames := 6, cells := 0, slots := 0, locals := 146 } : Room) s m ar below meth c9 A Q 1 0 0 63 [some (.ref (ad L 96))] [.int x18, .ref (ad L 96)] L (FW G L a b13 c) := by
      intro x18 hBx18 hR
      unfold f_X9_parseHand_63 at hR
      refine j_iconst X (1) dX9_parseHand_63 (by decide) ?_
      obtain ⟨b20, h19, hR⟩ := bT_inv hR
      refine j_callV2 X 9 (m_X9_errsIf hl hL hBx18 h19) ml_X9_236 im_yX9_errsIf se_yX9_errsIf in_X9 cd_yX9_errsIf hy_yX9_errsIf dX9_parseHand_64 rfl (ad_mem hL (by decide)) (FW9 hL) ⟨(by decide), (by decide)⟩ ⟨(by decide), (by decide)⟩ (Nat.le_of_ble_eq_true rfl) (fun _ h => h.elim) (fun r9 L9 f9 h9 => ?_)
      obtain ⟨h91, h92, h93⟩ := h9
      subst r9
      subst f9
      subst L9
      dsimp only [Option.toList, List.cons_append, List.nil_append, List.append]
      refine j_aload_n X (i := 0) dX9_parseHand_67 rfl rfl ?_
      obtain ⟨b23, h22, hR⟩ := bP_inv hR
      refine j_callV0 X 9 (m_X9_goOn hl hL h22) ml_X9_218 im_yX9_goOn se_yX9_goOn in_X9 cd_yX9_goOn hy_yX9_goOn dX9_parseHand_68 rfl (ad_mem hL (by decide)) (FW9 hL) ⟨(by decide), (by decide)⟩ ⟨(by decide), (by decide)⟩ (Nat.le_of_ble_eq_true rfl) (fun _ h => h.elim) (fun r9 L9 f9 h9 => ?_)
      obtain ⟨h91, h92, h93⟩ := h9
      subst r9
      subst f9
      subst L9
      dsimp only [Option.toList, List.cons_append, List.nil_append, List.append]
      refine j_aload_n X (i := 0) dX9_parseHand_71 rfl rfl ?_
      refine j_aload_n X (i := 0) dX9_parseHand_72 rfl rfl ?_
      refine j_iconst X (1) dX9_parseHand_73 (by decide) ?_
      refine j_sipush X (9999) dX9_parseHand_74 (by decide) ?_
      obtain ⟨x26, b27, h25, hR⟩ := bP2_inv hR
      refine j_callV2 X 9 (m_X9_number hl hL h25) ml_X9_229 im_yX9_number se_yX9_number in_X9 cd_yX9_number hy_yX9_number dX9_parseHand_77 rfl (ad_mem hL (by decide)) (FW9 hL) ⟨(by decide), (by decide)⟩ ⟨(by decide), (by decide)⟩ (Nat.le_of_ble_eq_true rfl) (fun _ h => h.elim) (fun r9 L9 f9 h9 => ?_)
      obtain ⟨h91, h92, h93⟩ := h9
      subst r9
      subst f9
      subst L9
      dsimp only [Option.toList, List.cons_append, List.nil_append, List.append]
      obtain ⟨b29, h30, hR⟩ := bT_inv hR
      refine tp_X9_23 X hL h30 fl_X9_271 dX9_parseHand_80 ?_
      refine j_aload_n X (i := 0) dX9_parseHand_83 rfl rfl ?_
      obtain ⟨b32, h31, hR⟩ := bP_inv hR
      refine j_callV0 X 9 (m_X9_semicolon hl hL h31) ml_X9_255 im_yX9_semicolon se_yX9_semicolon in_X9 cd_yX9_semicolon hy_yX9_semicolon dX9_parseHand_84 rfl (ad_mem hL (by decide)) (FW9 hL) ⟨(by decide), (by decide)⟩ ⟨(by decide), (by decide)⟩ (Nat.le_of_ble_eq_true rfl) (fun _ h => h.elim) (fun r9 L9 f9 h9 => ?_)
      obtain ⟨h91, h92, h93⟩ := h9
      subst r9
      subst f9
      subst L9
      dsimp only [Option.toList, List.cons_append, List.nil_append, List.append]
      exact q_vret X hQ dX9_parseHand_87 rfl ⟨(by decide), (by decide)⟩ ⟨rfl, congrArg (fun z => FW G L a z c) (Option.some.inj hR), rfl⟩
    have hb62 : f_X9_parseHand_62 N b13 = some a' → J G p l e ({ frames := 6, cells := 0, slots := 0, locals := 146 } : Room) s m ar below meth c9 A Q 1 0 0 62 [some (.ref (ad L 96))] [.ref (ad L 96)] L (FW G L a b13 c) := by
      intro hR
      unfold f_X9_parseHand_62 at hR
      refine j_iconst X (0) dX9_parseHand_62 (by decide) ?_
      exact J.sub (lvle_of (by simp only [lvle, and_self])) (hb63 _ isB_0 hR)
    refine j_if_ne X (tgt := 62) dX9_parseHand_45 (by decide) (fun h34 => ?_) (fun h34 => ?_)
    · replace hR := (if_neg h34).symm.trans hR
      exact J.sub (lvle_of (by simp only [lvle, and_self])) (hb62 hR)
    · replace hR := (if_pos h34).symm.trans hR
      refine j_aload_n X (i := 0) dX9_parseHand_48 rfl rfl ?_
      refine j_ldcSw X 45 dX9_parseHand_49 rfl ?_
      obtain ⟨x36, h35, hR⟩ := bP_inv hR
      refine j_callV1 X 9 (m_X9_isWord hl hL (by decide) h35) ml_X9_221 im_yX9_isWord se_yX9_isWord in_X9 cd_yX9_isWord hy_yX9_isWord dX9_parseHand_52 rfl (ad_mem hL (by decide)) (FW9 hL) ⟨(by decide), (by decide)⟩ ⟨(by decide), (by decide)⟩ (Nat.le_of_ble_eq_true rfl) (fun _ h => h.elim) (fun r9 L9 f9 h9 => ?_)
      obtain ⟨h91, h92, h93, h37⟩ := h9
      subst r9
      subst f9
      subst L9
      dsimp only [Option.toList, List.cons_append, List.nil_append, List.append]
      refine j_if_ne X (tgt := 62) dX9_parseHand_55 (by decide) (fun h38 => ?_) (fun h38 => ?_)
      · replace hR := (if_neg h38).symm.trans hR
        exact J.sub (lvle_of (by simp only [lvle, and_self])) (hb62 hR)
      · replace hR := (if_pos h38).symm.trans hR
        refine j_iconst X (1) dX9_parseHand_58 (by decide) ?_
        refine j_goto X (tgt := 63) dX9_parseHand_59 (by decide) ?_
        exact J.sub (lvle_of (by simp only [lvle, and_self])) (hb63 _ isB_1 hR)
  refine j_if_eq X (tgt := 33) dX9_parseHand_26 (by decide) (fun h39 => ?_) (fun h39 => ?_)
  · replace hR := (if_pos h39).symm.trans hR
    refine j_iconst X (0) dX9_parseHand_33 (by decide) ?_
    exact J.sub (lvle_of (by simp only [lvle, and_self])) (hb34 _ isB_0 hR)
  · replace hR := (if_neg h39).symm.trans hR
    refine j_iconst X (1) dX9_parseHand_29 (by decide) ?_
    refine j_goto X (tgt := 34) dX9_parseHand_30 (by decide) ?_
    exact J.sub (lvle_of (by simp only [lvle, and_self])) (hb34 _ isB_1 hR)
def f_X9_parseClaims_17 (N : Nat) (b : Mem) (x1 : Int32) : Option Mem := bT (f_X9_errsIf x1 (3 : Int32) b) fun b3 => bT (upR b3 (rowM (b3 0 3)) (upd (b3 (rowM (b3 0 3))) ((10 : Int32)).toNatClampNeg (1 : Int32))) fun b5 => bP (f_X9_goOn N b5) fun b8 => bP (f_X9_semicolon N b8) fun b11 => some b11
def f_X9_parseClaims (N : Nat) (b : Mem) : Option Mem := if (b (rowM (b 0 3)) ((10 : Int32)).toNatClampNeg) = (1 : Int32) then (f_X9_parseClaims_17 N b (1 : Int32)) else (f_X9_parseClaims_17 N b (0 : Int32))
set_option maxRecDepth 100000 in
set_option maxHeartbeats 4000000 in
theorem m_X9_parseClaims {l : Launch} (hl : l.stackTraces = false) {G : GG} {L : List Nat} (hL : LOK L) {a b c : Mem} {N : Nat}  {a' : Mem} (hR : f_X9_parseClaims N b = some a') : Ct l G yX9_parseClaims (.code yX9_parseClaims cX9_parseClaims 1 none) 4 86 0 0 [.ref (ad L 96)] L (FW G L a b c) px0 (stay L (fun r f1 => f1 = (FW G L a a' c) ∧ r = none)) := by
  refine Ct.ofq (own := RX9) hl rfl (by decide) [some (.ref (ad L 96))] rfl (Nat.le_of_ble_eq_true rfl) ?_
  intro p e s m below meth c9 A ar Q hQ X
  unfold f_X9_parseClaims at hR
  refine j_aload_n X (i := 0) dX9_parseClaims_0 rfl rfl ?_
  refine j_aload_n X (i := 0) dX9_parseClaims_1 rfl rfl ?_
  refine j_getf X 9 3 rfl cw_X9 fl_X9_24 (by decide) dX9_parseClaims_2 (ad_mem hL (by decide)) (FW9 hL) rfl ?_
  refine j_bipush X (10) dX9_parseClaims_5 (by decide) ?_
  refine j_iald X dX9_parseClaims_7 (inLr hL) (FWrow hL) (by unfold vp_in; decide) ?_
  refine j_iconst X (1) dX9_parseClaims_8 (by decide) ?_
  have hb17 : ∀ (x1 : Int32) (hBx1 : isB x1), f_X9_parseClaims_17 N b x1 = some a' → J G p l e ({ frames := 4, cells := 0, slots := 0, locals := 86 } : Room) s m ar below meth c9 A Q 1 0 0 17 [some (.ref (ad L 96))] [.int x1, .ref (ad L 96)] L (FW G L a b c) := by
    intro x1 hBx1 hR
    unfold f_X9_parseClaims_17 at hR
    refine j_iconst X (3) dX9_parseClaims_17 (by decide) ?_
    obtain ⟨b3, h2, hR⟩ := bT_inv hR
    refine j_callV2 X 9 (m_X9_errsIf hl hL hBx1 h2) ml_X9_236 im_yX9_errsIf se_yX9_errsIf in_X9 cd_yX9_errsIf hy_yX9_errsIf dX9_parseClaims_18 rfl (ad_mem hL (by decide)) (FW9 hL) ⟨(by decide), (by decide)⟩ ⟨(by decide), (by decide)⟩ (Nat.le_of_ble_eq_true rfl) (fun _ h => h.elim) (fun r9 L9 f9 h9 => ?_)
    obtain ⟨h91, h92, h93⟩ := h9
    subst r9
    subst f9
    subst L9
    dsimp only [Option.toList, List.cons_append, List.nil_append, List.append]
    refine j_aload_n X (i := 0) dX9_parseClaims_21 rfl rfl ?_
    refine j_getf X 9 3 rfl cw_X9 fl_X9_24 (by decide) dX9_parseClaims_22 (ad_mem hL (by decide)) (FW9 hL) rfl ?_
    refine j_bipush X (10) dX9_parseClaims_25 (by decide) ?_
    refine j_iconst X (1) dX9_parseClaims_27 (by decide) ?_
    obtain ⟨b5, h6, hR⟩ := bT_inv hR
    refine trow_iast X hL (by unfold vp_in; decide) h6 dX9_parseClaims_28 ?_
    refine j_aload_n X (i := 0) dX9_parseClaims_29 rfl rfl ?_
    obtain ⟨b8, h7, hR⟩ := bP_inv hR
    refine j_callV0 X 9 (m_X9_goOn hl hL h7) ml_X9_218 im_yX9_goOn se_yX9_goOn in_X9 cd_yX9_goOn hy_yX9_goOn dX9_parseClaims_30 rfl (ad_mem hL (by decide)) (FW9 hL) ⟨(by decide), (by decide)⟩ ⟨(by decide), (by decide)⟩ (Nat.le_of_ble_eq_true rfl) (fun _ h => h.elim) (fun r9 L9 f9 h9 => ?_)
    obtain ⟨h91, h92, h93⟩ := h9
    subst r9
    subst f9
    subst L9
    dsimp only [Option.toList, List.cons_append, List.nil_append, List.append]
    refine j_aload_n X (i := 0) dX9_parseClaims_33 rfl rfl ?_
    obtain ⟨b11, h10, hR⟩ := bP_inv hR
    refine j_callV0 X 9 (m_X9_semicolon hl hL h10) ml_X9_255 im_yX9_semicolon se_yX9_semicolon in_X9 cd_yX9_semicolon hy_yX9_semicolon dX9_parseClaims_34 rfl (ad_mem hL (by decide)) (FW9 hL) ⟨(by decide), (by decide)⟩ ⟨(by decide), (by decide)⟩ (Nat.le_of_ble_eq_true rfl) (fun _ h => h.elim) (fun r9 L9 f9 h9 => ?_)
    obtain ⟨h91, h92, h93⟩ := h9
    subst r9
    subst f9
    subst L9
    dsimp only [Option.toList, List.cons_append, List.nil_append, List.append]
    exact q_vret X hQ dX9_parseClaims_37 rfl ⟨(by decide), (by decide)⟩ ⟨rfl, congrArg (fun z => FW G L a z c) (Option.some.inj hR), rfl⟩
  refine j_icmp_ne X (tgt := 16) dX9_parseClaims_9 (by decide) (fun h13 => ?_) (fun h13 => ?_)
  · replace hR := (if_neg h13).symm.trans hR
    refine j_iconst X (0) dX9_parseClaims_16 (by decide) ?_
    exact J.sub (lvle_of (by simp only [lvle, and_self])) (hb17 _ isB_0 hR)
  · replace hR := (if_pos h13).symm.trans hR
    refine j_iconst X (1) dX9_parseClaims_12 (by decide) ?_
    refine j_goto X (tgt := 17) dX9_parseClaims_13 (by decide) ?_
    exact J.sub (lvle_of (by simp only [lvle, and_self])) (hb17 _ isB_1 hR)
def f_X9_parseStatement (N : Nat) (b : Mem) : Option Mem := bP (f_X9_isWord N 35 b) fun x2 => if x2 = 0 then (bP (f_X9_isWord N 41 b) fun x6 => if x6 = 0 then (bP (f_X9_isWord N 42 b) fun x10 => if x10 = 0 then (bP (f_X9_isWord N 43 b) fun x14 => if x14 = 0 then (bP (f_X9_isWord N 46 b) fun x18 => if x18 = 0 then (bT (f_X9_errs (1 : Int32) b) fun b22 => some b22) else (bP (f_X9_parseClaims N b) fun b25 => some b25)) else (bP (f_X9_parseHand N b) fun b28 => some b28)) else (bP (f_X9_parseSession N b) fun b31 => some b31)) else (bP (f_X9_parseExtra N b) fun b34 => some b34)) else (bP (f_X9_parsePeriod N b) fun b37 => some b37)
set_option maxRecDepth 100000 in
set_option maxHeartbeats 4000000 in
theorem m_X9_parseStatement {l : Launch} (hl : l.stackTraces = false) {G : GG} {L : List Nat} (hL : LOK L) {a b c : Mem} {N : Nat}  {a' : Mem} (hR : f_X9_parseStatement N b = some a') : Ct l G yX9_parseStatement (.code yX9_parseStatement cX9_parseStatement 1 none) 10 238 0 0 [.ref (ad L 96)] L (FW G L a b c) px0 (stay L (fun r f1 => f1 = (FW G L a a' c) ∧ r = none)) := by
  refine Ct.ofq (own := RX9) hl rfl (by decide) [some (.ref (ad L 96))] rfl (Nat.le_of_ble_eq_true rfl) ?_
  intro p e s m below meth c9 A ar Q hQ X
  unfold f_X9_parseStatement at hR
  refine j_aload_n X (i := 0) dX9_parseStatement_0 rfl rfl ?_
  refine j_ldcSw X 35 dX9_parseStatement_1 rfl ?_
  obtain ⟨x2, h1, hR⟩ := bP_inv hR
  refine j_callV1 X 9 (m_X9_isWord hl hL (by decide) h1) ml_X9_221 im_yX9_isWord se_yX9_isWord in_X9 cd_yX9_isWord hy_yX9_isWord dX9_parseStatement_4 rfl (ad_mem hL (by decide)) (FW9 hL) ⟨(by decide), (by decide)⟩ ⟨(by decide), (by decide)⟩ (Nat.le_of_ble_eq_true rfl) (fun _ h => h.elim) (fun r9 L9 f9 h9 => ?_)
  obtain ⟨h91, h92, h93, h3⟩ := h9
  subst r9
  subst f9
  subst L9
  dsimp only [Option.toList, List.cons_append, List.nil_append, List.append]
  refine j_if_eq X (tgt := 17) dX9_parseStatement_7 (by decide) (fun h4 => ?_) (fun h4 => ?_)
  · replace hR := (if_pos h4).symm.trans hR
    refine j_aload_n X (i := 0) dX9_parseStatement_17 rfl rfl ?_
    refine j_ldcSw X 41 dX9_parseStatement_18 rfl ?_
    obtain ⟨x6, h5, hR⟩ := bP_inv hR
    refine j_callV1 X 9 (m_X9_isWord hl hL (by decide) h5) ml_X9_221 im_yX9_isWord se_yX9_isWord in_X9 cd_yX9_isWord hy_yX9_isWord dX9_parseStatement_21 rfl (ad_mem hL (by decide)) (FW9 hL) ⟨(by decide), (by decide)⟩ ⟨(by decide), (by decide)⟩ (Nat.le_of_ble_eq_true rfl) (fun _ h => h.elim) (fun r9 L9 f9 h9 => ?_)
    obtain ⟨h91, h92, h93, h7⟩ := h9
    subst r9
    subst f9
    subst L9
    dsimp only [Option.toList, List.cons_append, List.nil_append, List.append]
    refine j_if_eq X (tgt := 34) dX9_parseStatement_24 (by decide) (fun h8 => ?_) (fun h8 => ?_)
    · replace hR := (if_pos h8).symm.trans hR
      refine j_aload_n X (i := 0) dX9_parseStatement_34 rfl rfl ?_
      refine j_ldcSw X 42 dX9_parseStatement_35 rfl ?_
      obtain ⟨x10, h9, hR⟩ := bP_inv hR
      refine j_callV1 X 9 (m_X9_isWord hl hL (by decide) h9) ml_X9_221 im_yX9_isWord se_yX9_isWord in_X9 cd_yX9_isWord hy_yX9_isWord dX9_parseStatement_38 rfl (ad_mem hL (by decide)) (FW9 hL) ⟨(by decide), (by decide)⟩ ⟨(by decide), (by decide)⟩ (Nat.le_of_ble_eq_true rfl) (fun _ h => h.elim) (fun r9 L9 f9 h9 => ?_)
      obtain ⟨h91, h92, h93, h11⟩ := h9
      subst r9
      subst f9
      subst L9
      dsimp only [Option.toList, List.cons_append, List.nil_append, List.append]
      refine j_if_eq X (tgt := 51) dX9_parseStatement_41 (by decide) (fun h12 => ?_) (fun h12 => ?_)
      · replace hR := (if_pos h12).symm.trans hR
        refine j_aload_n X (i := 0) dX9_parseStatement_51 rfl rfl ?_
        refine j_ldcSw X 43 dX9_parseStatement_52 rfl ?_
        obtain ⟨x14, h13, hR⟩ := bP_inv hR
        refine j_callV1 X 9 (m_X9_isWord hl hL (by decide) h13) ml_X9_221 im_yX9_isWord se_yX9_isWord in_X9 cd_yX9_isWord hy_yX9_isWord dX9_parseStatement_55 rfl (ad_mem hL (by decide)) (FW9 hL) ⟨(by decide), (by decide)⟩ ⟨(by decide), (by decide)⟩ (Nat.le_of_ble_eq_true rfl) (fun _ h => h.elim) (fun r9 L9 f9 h9 => ?_)
        obtain ⟨h91, h92, h93, h15⟩ := h9
        subst r9
        subst f9
        subst L9
        dsimp only [Option.toList, List.cons_append, List.nil_append, List.append]
        refine j_if_eq X (tgt := 68) dX9_parseStatement_58 (by decide) (fun h16 => ?_) (fun h16 => ?_)
        · replace hR := (if_pos h16).symm.trans hR
          refine j_aload_n X (i := 0) dX9_parseStatement_68 rfl rfl ?_
          refine j_ldcSw X 46 dX9_parseStatement_69 rfl ?_
          obtain ⟨x18, h17, hR⟩ := bP_inv hR
          refine j_callV1 X 9 (m_X9_isWord hl hL (by decide) h17) ml_X9_221 im_yX9_isWord se_yX9_isWord in_X9 cd_yX9_isWord hy_yX9_isWord dX9_parseStatement_72 rfl (ad_mem hL (by decide)) (FW9 hL) ⟨(by decide), (by decide)⟩ ⟨(by decide), (by decide)⟩ (Nat.le_of_ble_eq_true rfl) (fun _ h => h.elim) (fun r9 L9 f9 h9 => ?_)
          obtain ⟨h91, h92, h93, h19⟩ := h9
          subst r9
          subst f9
          subst L9
          dsimp only [Option.toList, List.cons_append, List.nil_append, List.append]
          refine j_if_eq X (tgt := 85) dX9_parseStatement_75 (by decide) (fun h20 => ?_) (fun h20 => ?_)
          · replace hR := (if_pos h20).symm.trans hR
            refine j_aload_n X (i := 0) dX9_parseStatement_85 rfl rfl ?_
            refine j_iconst X (1) dX9_parseStatement_86 (by decide) ?_
            obtain ⟨b22, h21, hR⟩ := bT_inv hR
            refine j_callV1 X 9 (m_X9_errs hl hL h21) ml_X9_212 im_yX9_errs se_yX9_errs in_X9 cd_yX9_errs hy_yX9_errs dX9_parseStatement_87 rfl (ad_mem hL (by decide)) (FW9 hL) ⟨(by decide), (by decide)⟩ ⟨(by decide), (by decide)⟩ (Nat.le_of_ble_eq_true rfl) (fun _ h => h.elim) (fun r9 L9 f9 h9 => ?_)
            obtain ⟨h91, h92, h93⟩ := h9
            subst r9
            subst f9
            subst L9
            dsimp only [Option.toList, List.cons_append, List.nil_append, List.append]
            exact q_vret X hQ dX9_parseStatement_90 rfl ⟨(by decide), (by decide)⟩ ⟨rfl, congrArg (fun z => FW G L a z c) (Option.some.inj hR), rfl⟩
          · replace hR := (if_neg h20).symm.trans hR
            refine j_aload_n X (i := 0) dX9_parseStatement_78 rfl rfl ?_
            obtain ⟨b25, h24, hR⟩ := bP_inv hR
            refine j_callV0 X 9 (m_X9_parseClaims hl hL h24) ml_X9_295 im_yX9_parseClaims se_yX9_parseClaims in_X9 cd_yX9_parseClaims hy_yX9_parseClaims dX9_parseStatement_79 rfl (ad_mem hL (by decide)) (FW9 hL) ⟨(by decide), (by decide)⟩ ⟨(by decide), (by decide)⟩ (Nat.le_of_ble_eq_true rfl) (fun _ h => h.elim) (fun r9 L9 f9 h9 => ?_)
            obtain ⟨h91, h92, h93⟩ := h9
            subst r9
            subst f9
            subst L9
            dsimp only [Option.toList, List.cons_append, List.nil_append, List.append]
            refine j_goto X (tgt := 90) dX9_parseStatement_82 (by decide) ?_
            exact q_vret X hQ dX9_parseStatement_90 rfl ⟨(by decide), (by decide)⟩ ⟨rfl, congrArg (fun z => FW G L a z c) (Option.some.inj hR), rfl⟩
        · replace hR := (if_neg h16).symm.trans hR
          refine j_aload_n X (i := 0) dX9_parseStatement_61 rfl rfl ?_
          obtain ⟨b28, h27, hR⟩ := bP_inv hR
          refine j_callV0 X 9 (m_X9_parseHand hl hL h27) ml_X9_290 im_yX9_parseHand se_yX9_parseHand in_X9 cd_yX9_parseHand hy_yX9_parseHand dX9_parseStatement_62 rfl (ad_mem hL (by decide)) (FW9 hL) ⟨(by decide), (by decide)⟩ ⟨(by decide), (by decide)⟩ (Nat.le_of_ble_eq_true rfl) (fun _ h => h.elim) (fun r9 L9 f9 h9 => ?_)
          obtain ⟨h91, h92, h93⟩ := h9
          subst r9
          subst f9
          subst L9
          dsimp only [Option.toList, List.cons_append, List.nil_append, List.append]
          refine j_goto X (tgt := 90) dX9_parseStatement_65 (by decide) ?_
          exact q_vret X hQ dX9_parseStatement_90 rfl ⟨(by decide), (by decide)⟩ ⟨rfl, congrArg (fun z => FW G L a z c) (Option.some.inj hR), rfl⟩
      · replace hR := (if_neg h12).symm.trans hR
        refine j_aload_n X (i := 0) dX9_parseStatement_44 rfl rfl ?_
        obtain ⟨b31, h30, hR⟩ := bP_inv hR
        refine j_callV0 X 9 (m_X9_parseSession hl hL h30) ml_X9_286 im_yX9_parseSession se_yX9_parseSession in_X9 cd_yX9_parseSession hy_yX9_parseSession dX9_parseStatement_45 rfl (ad_mem hL (by decide)) (FW9 hL) ⟨(by decide), (by decide)⟩ ⟨(by decide), (by decide)⟩ (Nat.le_of_ble_eq_true rfl) (fun _ h => h.elim) (fun r9 L9 f9 h9 => ?_)
        obtain ⟨h91, h92, h93⟩ := h9
        subst r9
        subst f9
        subst L9
        dsimp only [Option.toList, List.cons_append, List.nil_append, List.append]
        refine j_goto X (tgt := 90) dX9_parseStatement_48 (by decide) ?_
        exact q_vret X hQ dX9_parseStatement_90 rfl ⟨(by decide), (by decide)⟩ ⟨rfl, congrArg (fun z => FW G L a z c) (Option.some.inj hR), rfl⟩
    · replace hR := (if_neg h8).symm.trans hR
      refine j_aload_n X (i := 0) dX9_parseStatement_27 rfl rfl ?_
      obtain ⟨b34, h33, hR⟩ := bP_inv hR
      refine j_callV0 X 9 (m_X9_parseExtra hl hL h33) ml_X9_281 im_yX9_parseExtra se_yX9_parseExtra in_X9 cd_yX9_parseExtra hy_yX9_parseExtra dX9_parseStatement_28 rfl (ad_mem hL (by decide)) (FW9 hL) ⟨(by decide), (by decide)⟩ ⟨(by decide), (by decide)⟩ (Nat.le_of_ble_eq_true rfl) (fun _ h => h.elim) (fun r9 L9 f9 h9 => ?_)
      obtain ⟨h91, h92, h93⟩ := h9
      subst r9
      subst f9
      subst L9
      dsimp only [Option.toList, List.cons_append, List.nil_append, List.append]
      refine j_goto X (tgt := 90) dX9_parseStatement_31 (by decide) ?_
      exact q_vret X hQ dX9_parseStatement_90 rfl ⟨(by decide), (by decide)⟩ ⟨rfl, congrArg (fun z => FW G L a z c) (Option.some.inj hR), rfl⟩
  · replace hR := (if_neg h4).symm.trans hR
    refine j_aload_n X (i := 0) dX9_parseStatement_10 rfl rfl ?_
    obtain ⟨b37, h36, hR⟩ := bP_inv hR
    refine j_callV0 X 9 (m_X9_parsePeriod hl hL h36) ml_X9_276 im_yX9_parsePeriod se_yX9_parsePeriod in_X9 cd_yX9_parsePeriod hy_yX9_parsePeriod dX9_parseStatement_11 rfl (ad_mem hL (by decide)) (FW9 hL) ⟨(by decide), (by decide)⟩ ⟨(by decide), (by decide)⟩ (Nat.le_of_ble_eq_true rfl) (fun _ h => h.elim) (fun r9 L9 f9 h9 => ?_)
    obtain ⟨h91, h92, h93⟩ := h9
    subst r9
    subst f9
    subst L9
    dsimp only [Option.toList, List.cons_append, List.nil_append, List.append]
    refine j_goto X (tgt := 90) dX9_parseStatement_14 (by decide) ?_
    exact q_vret X hQ dX9_parseStatement_90 rfl ⟨(by decide), (by decide)⟩ ⟨rfl, congrArg (fun z => FW G L a z c) (Option.some.inj hR), rfl⟩
def f_X9_setSides_2 (N : Nat)  : Nat → Int32 → Mem → Option Mem
  | 0, _, _ => none
  | fu + 1, x1, b2 => if (2 : Int32) ≤ x1 then (some b2) else (bP (f_X9_ofPeriod N (0 : Int32) (1 : Int32) b2) fun x5 => if (nb (b2 0 21)) = 0 then (bP (f_X9_put N x1 (0 : Int32) (x5 + (0 : Int32)) b2) fun b9 => bP (f_X9_put N x1 (4 : Int32) (b9 (rowM (b9 0 3)) ((3 : Int32)).toNatClampNeg) b9) fun b12 => bT (x1 + (1 : Int32)) fun x14 => f_X9_setSides_2 N fu x14 b12) else (if (b2 0 22) = x1 then (bP (f_X9_put N x1 (0 : Int32) (x5 + (b2 0 23)) b2) fun b26 => bP (f_X9_put N x1 (4 : Int32) (b26 (rowM (b26 0 3)) ((3 : Int32)).toNatClampNeg) b26) fun b29 => bT (x1 + (1 : Int32)) fun x31 => f_X9_setSides_2 N fu x31 b29) else (bP (f_X9_put N x1 (0 : Int32) (x5 + (0 : Int32)) b2) fun b18 => bP (f_X9_put N x1 (4 : Int32) (b18 (rowM (b18 0 3)) ((3 : Int32)).toNatClampNeg) b18) fun b21 => bT (x1 + (1 : Int32)) fun x23 => f_X9_setSides_2 N fu x23 b21)))
theorem f_X9_setSides_2_s (N : Nat)  {fu : Nat} {x1 : Int32} {b2 : Mem} : f_X9_setSides_2 N (fu + 1) x1 b2 = (if (2 : Int32) ≤ x1 then (some b2) else (bP (f_X9_ofPeriod N (0 : Int32) (1 : Int32) b2) fun x5 => if (nb (b2 0 21)) = 0 then (bP (f_X9_put N x1 (0 : Int32) (x5 + (0 : Int32)) b2) fun b9 => bP (f_X9_put N x1 (4 : Int32) (b9 (rowM (b9 0 3)) ((3 : Int32)).toNatClampNeg) b9) fun b12 => bT (x1 + (1 : Int32)) fun x14 => f_X9_setSides_2 N fu x14 b12) else (if (b2 0 22) = x1 then (bP (f_X9_put N x1 (0 : Int32) (x5 + (b2 0 23)) b2) fun b26 => bP (f_X9_put N x1 (4 : Int32) (b26 (rowM (b26 0 3)) ((3 : Int32)).toNatClampNeg) b26) fun b29 => bT (x1 + (1 : Int32)) fun x31 => f_X9_setSides_2 N fu x31 b29) else (bP (f_X9_put N x1 (0 : Int32) (x5 + (0 : Int32)) b2) fun b18 => bP (f_X9_put N x1 (4 : Int32) (b18 (rowM (b18 0 3)) ((3 : Int32)).toNatClampNeg) b18) fun b21 => bT (x1 + (1 : Int32)) fun x23 => f_X9_setSides_2 N fu x23 b21)))) := rfl
def f_X9_setSides (N : Nat) (b : Mem) : Option Mem := f_X9_setSides_2 N N (0 : Int32) b
set_option maxRecDepth 100000 in
set_option maxHeartbeats 4000000 in
theorem m_X9_setSides {l : Launch} (hl : l.stackTraces = false) {G : GG} {L : List Nat} (hL : LOK L) {a b c : Mem} {N : Nat}  {a' : Mem} (hR : f_X9_setSides N b = some a') : Ct l G yX9_setSides (.code yX9_setSides cX9_setSides 2 none) 1 23 0 0 [.ref (ad L 96)] L (FW G L a b c) px0 (stay L (fun r f1 => f1 = (FW G L a a' c) ∧ r = none)) := by
  refine Ct.ofq (own := RX9) hl rfl (by decide) [some (.ref (ad L 96)), none] rfl (Nat.le_of_ble_eq_true rfl) ?_
  intro p e s m below meth c9 A ar Q hQ X
  unfold f_X9_setSides at hR
  refine j_iconst X (0) dX9_setSides_0 (by decide) ?_
  refine j_istore_n X (i := 1) dX9_setSides_1 rfl (by decide) (lvOK_s rfl okPrev_ref) ?_
  dsimp only [List.set]
  have hb2 : ∀ (fu : Nat) (x1 : Int32) (b2 : Mem) , f_X9_setSides_2 N fu x1 b2 = some a' → J G p l e ({ frames := 1, cells := 0, slots := 0, locals := 23 } : Room) s m ar below meth c9 A Q 2 0 0 2 [some (.ref (ad L 96)), some (.int x1)] [] L (FW G L a b2 c) := by
    intro fu
    induction fu with
    | zero =>
      intro x1 b2 hR
      cases hR
    | succ fu ih =>
      intro x1 b2 hR
      replace hR := (f_X9_setSides_2_s N ).symm.trans hR
      refine j_iload_n X (i := 1) dX9_setSides_2 rfl rfl ?_
      refine j_iconst X (2) dX9_setSides_3 (by decide) ?_
      refine j_icmp_ge X (tgt := 61) dX9_setSides_4 (by decide) (fun h3 => ?_) (fun h3 => ?_)
      · replace hR := (if_pos h3).symm.trans hR
        exact q_vret X hQ dX9_setSides_61 rfl ⟨(by decide), (by decide)⟩ ⟨rfl, congrArg (fun z => FW G L a z c) (Option.some.inj hR), rfl⟩
      · replace hR := (if_neg h3).symm.trans hR
        refine j_aload_n X (i := 0) dX9_setSides_7 rfl rfl ?_
        refine j_iload_n X (i := 1) dX9_setSides_8 rfl rfl ?_
        refine j_iconst X (0) dX9_setSides_9 (by decide) ?_
        refine j_aload_n X (i := 0) dX9_setSides_10 rfl rfl ?_
        refine j_iconst X (0) dX9_setSides_11 (by decide) ?_
        refine j_iconst X (1) dX9_setSides_12 (by decide) ?_
        obtain ⟨x5, h4, hR⟩ := bP_inv hR
        refine j_callV2 X 9 (m_X9_ofPeriod hl hL h4) ml_X9_61 im_yX9_ofPeriod se_yX9_ofPeriod in_X9 cd_yX9_ofPeriod hy_yX9_ofPeriod dX9_setSides_13 rfl (ad_mem hL (by decide)) (FW9 hL) ⟨(by decide), (by decide)⟩ ⟨(by decide), (by decide)⟩ (Nat.le_of_ble_eq_true rfl) (fun _ h => h.elim) (fun r9 L9 f9 h9 => ?_)
        obtain ⟨h91, h92, h93⟩ := h9
        subst r9
        subst f9
        subst L9
        dsimp only [Option.toList, List.cons_append, List.nil_append, List.append]
        refine j_aload_n X (i := 0) dX9_setSides_16 rfl rfl ?_
        refine j_getf X 9 21 rfl cw_X9 fl_X9_261 (by decide) dX9_setSides_17 (ad_mem hL (by decide)) (FW9 hL) rfl ?_
        refine j_if_eq X (tgt := 38) dX9_setSides_20 (by decide) (fun h7 => ?_) (fun h7 => ?_)
        · replace hR := (if_pos h7).symm.trans hR
          refine j_iconst X (0) dX9_setSides_38 (by decide) ?_
          refine j_iadd X dX9_setSides_39 ?_
          obtain ⟨b9, h8, hR⟩ := bP_inv hR
          refine j_callV3 X 9 (m_X9_put hl hL h8) ml_X9_53 im_yX9_put se_yX9_put in_X9 cd_yX9_put hy_yX9_put dX9_setSides_40 rfl (ad_mem hL (by decide)) (FW9 hL) ⟨(by decide), (by decide)⟩ ⟨(by decide), (by decide)⟩ (Nat.le_of_ble_eq_true rfl) (fun _ h => h.elim) (fun r9 L9 f9 h9 => ?_)
          obtain ⟨h91, h92, h93⟩ := h9
          subst r9
          subst f9
          subst L9
          dsimp only [Option.toList, List.cons_append, List.nil_append, List.append]
          refine j_aload_n X (i := 0) dX9_setSides_43 rfl rfl ?_
          refine j_iload_n X (i := 1) dX9_setSides_44 rfl rfl ?_
          refine j_iconst X (4) dX9_setSides_45 (by decide) ?_
          refine j_aload_n X (i := 0) dX9_setSides_46 rfl rfl ?_
          refine j_getf X 9 3 rfl cw_X9 fl_X9_24 (by decide) dX9_setSides_47 (ad_mem hL (by decide)) (FW9 hL) rfl ?_
          refine j_iconst X (3) dX9_setSides_50 (by decide) ?_
          refine j_iald X dX9_setSides_51 (inLr hL) (FWrow hL) (by unfold vp_in; decide) ?_
          obtain ⟨b12, h11, hR⟩ := bP_inv hR
          refine j_callV3 X 9 (m_X9_put hl hL h11) ml_X9_53 im_yX9_put se_yX9_put in_X9 cd_yX9_put hy_yX9_put dX9_setSides_52 rfl (ad_mem hL (by decide)) (FW9 hL) ⟨(by decide), (by decide)⟩ ⟨(by decide), (by decide)⟩ (Nat.le_of_ble_eq_true rfl) (fun _ h => h.elim) (fun r9 L9 f9 h9 => ?_)
          obtain ⟨h91, h92, h93⟩ := h9
          subst r9
          subst f9
          subst L9
          dsimp only [Option.toList, List.cons_append, List.nil_append, List.append]
          obtain ⟨x14, h15, hR⟩ := bT_inv hR
          refine j_iinc X x14 dX9_setSides_55 rfl h15 (by decide) (lvOK_s rfl okPrev_ref) ?_
          dsimp only [List.set]
          refine j_goto X (tgt := 2) dX9_setSides_58 (by decide) ?_
          exact J.sub (lvle_of (by simp only [lvle, and_self])) (ih _ _  hR)
        · replace hR := (if_neg h7).symm.trans hR
          refine j_aload_n X (i := 0) dX9_setSides_23 rfl rfl ?_
          refine j_getf X 9 22 rfl cw_X9 fl_X9_266 (by decide) dX9_setSides_24 (ad_mem hL (by decide)) (FW9 hL) rfl ?_
          refine j_iload_n X (i := 1) dX9_setSides_27 rfl rfl ?_
          refine j_icmp_ne X (tgt := 38) dX9_setSides_28 (by decide) (fun h16 => ?_) (fun h16 => ?_)
          · replace hR := (if_neg h16).symm.trans hR
            refine j_iconst X (0) dX9_setSides_38 (by decide) ?_
            refine j_iadd X dX9_setSides_39 ?_
            obtain ⟨b18, h17, hR⟩ := bP_inv hR
            refine j_callV3 X 9 (m_X9_put hl hL h17) ml_X9_53 im_yX9_put se_yX9_put in_X9 cd_yX9_put hy_yX9_put dX9_setSides_40 rfl (ad_mem hL (by decide)) (FW9 hL) ⟨(by decide), (by decide)⟩ ⟨(by decide), (by decide)⟩ (Nat.le_of_ble_eq_true rfl) (fun _ h => h.elim) (fun r9 L9 f9 h9 => ?_)
            obtain ⟨h91, h92, h93⟩ := h9
            subst r9
            subst f9
            subst L9
            dsimp only [Option.toList, List.cons_append, List.nil_append, List.append]
            refine j_aload_n X (i := 0) dX9_setSides_43 rfl rfl ?_
            refine j_iload_n X (i := 1) dX9_setSides_44 rfl rfl ?_
            refine j_iconst X (4) dX9_setSides_45 (by decide) ?_
            refine j_aload_n X (i := 0) dX9_setSides_46 rfl rfl ?_
            refine j_getf X 9 3 rfl cw_X9 fl_X9_24 (by decide) dX9_setSides_47 (ad_mem hL (by decide)) (FW9 hL) rfl ?_
            refine j_iconst X (3) dX9_setSides_50 (by decide) ?_
            refine j_iald X dX9_setSides_51 (inLr hL) (FWrow hL) (by unfold vp_in; decide) ?_
            obtain ⟨b21, h20, hR⟩ := bP_inv hR
            refine j_callV3 X 9 (m_X9_put hl hL h20) ml_X9_53 im_yX9_put se_yX9_put in_X9 cd_yX9_put hy_yX9_put dX9_setSides_52 rfl (ad_mem hL (by decide)) (FW9 hL) ⟨(by decide), (by decide)⟩ ⟨(by decide), (by decide)⟩ (Nat.le_of_ble_eq_true rfl) (fun _ h => h.elim) (fun r9 L9 f9 h9 => ?_)
            obtain ⟨h91, h92, h93⟩ := h9
            subst r9
            subst f9
            subst L9
            dsimp only [Option.toList, List.cons_append, List.nil_append, List.append]
            obtain ⟨x23, h24, hR⟩ := bT_inv hR
            refine j_iinc X x23 dX9_setSides_55 rfl h24 (by decide) (lvOK_s rfl okPrev_ref) ?_
            dsimp only [List.set]
            refine j_goto X (tgt := 2) dX9_setSides_58 (by decide) ?_
            exact J.sub (lvle_of (by simp only [lvle, and_self])) (ih _ _  hR)
          · replace hR := (if_pos h16).symm.trans hR
            refine j_aload_n X (i := 0) dX9_setSides_31 rfl rfl ?_
            refine j_getf X 9 23 rfl cw_X9 fl_X9_271 (by decide) dX9_setSides_32 (ad_mem hL (by decide)) (FW9 hL) rfl ?_
            refine j_goto X (tgt := 39) dX9_setSides_35 (by decide) ?_
            refine j_iadd X dX9_setSides_39 ?_
            obtain ⟨b26, h25, hR⟩ := bP_inv hR
            refine j_callV3 X 9 (m_X9_put hl hL h25) ml_X9_53 im_yX9_put se_yX9_put in_X9 cd_yX9_put hy_yX9_put dX9_setSides_40 rfl (ad_mem hL (by decide)) (FW9 hL) ⟨(by decide), (by decide)⟩ ⟨(by decide), (by decide)⟩ (Nat.le_of_ble_eq_true rfl) (fun _ h => h.elim) (fun r9 L9 f9 h9 => ?_)
            obtain ⟨h91, h92, h93⟩ := h9
            subst r9
            subst f9
            subst L9
            dsimp only [Option.toList, List.cons_append, List.nil_append, List.append]
            refine j_aload_n X (i := 0) dX9_setSides_43 rfl rfl ?_
            refine j_iload_n X (i := 1) dX9_setSides_44 rfl rfl ?_
            refine j_iconst X (4) dX9_setSides_45 (by decide) ?_
            refine j_aload_n X (i := 0) dX9_setSides_46 rfl rfl ?_
            refine j_getf X 9 3 rfl cw_X9 fl_X9_24 (by decide) dX9_setSides_47 (ad_mem hL (by decide)) (FW9 hL) rfl ?_
            refine j_iconst X (3) dX9_setSides_50 (by decide) ?_
            refine j_iald X dX9_setSides_51 (inLr hL) (FWrow hL) (by unfold vp_in; decide) ?_
            obtain ⟨b29, h28, hR⟩ := bP_inv hR
            refine j_callV3 X 9 (m_X9_put hl hL h28) ml_X9_53 im_yX9_put se_yX9_put in_X9 cd_yX9_put hy_yX9_put dX9_setSides_52 rfl (ad_mem hL (by decide)) (FW9 hL) ⟨(by decide), (by decide)⟩ ⟨(by decide), (by decide)⟩ (Nat.le_of_ble_eq_true rfl) (fun _ h => h.elim) (fun r9 L9 f9 h9 => ?_)
            obtain ⟨h91, h92, h93⟩ := h9
            subst r9
            subst f9
            subst L9
            dsimp only [Option.toList, List.cons_append, List.nil_append, List.append]
            obtain ⟨x31, h32, hR⟩ := bT_inv hR
            refine j_iinc X x31 dX9_setSides_55 rfl h32 (by decide) (lvOK_s rfl okPrev_ref) ?_
            dsimp only [List.set]
            refine j_goto X (tgt := 2) dX9_setSides_58 (by decide) ?_
            exact J.sub (lvle_of (by simp only [lvle, and_self])) (ih _ _  hR)
  exact J.sub (lvle_of (by simp only [lvle, and_self])) (hb2 _ _ _  hR)
def f_X9_remember_54 (N : Nat)  : Nat → Int32 → Mem → Option Mem
  | 0, _, _ => none
  | fu + 1, x2, b3 => if (311 : Int32) ≤ x2 then (bT (up2 b3 0 27 ((b3 0 27) + (1 : Int32))) fun b5 => some b5) else (chkI x2 311 <| chkI (((311 : Int32) * (b3 0 27)) + x2) 1866 <| bT (upR b3 7 (upd (b3 7) ((((311 : Int32) * (b3 0 27)) + x2)).toNatClampNeg (b3 1 (x2).toNatClampNeg))) fun b9 => bT (x2 + (1 : Int32)) fun x11 => f_X9_remember_54 N fu x11 b9)
theorem f_X9_remember_54_s (N : Nat)  {fu : Nat} {x2 : Int32} {b3 : Mem} : f_X9_remember_54 N (fu + 1) x2 b3 = (if (311 : Int32) ≤ x2 then (bT (up2 b3 0 27 ((b3 0 27) + (1 : Int32))) fun b5 => some b5) else (chkI x2 311 <| chkI (((311 : Int32) * (b3 0 27)) + x2) 1866 <| bT (upR b3 7 (upd (b3 7) ((((311 : Int32) * (b3 0 27)) + x2)).toNatClampNeg (b3 1 (x2).toNatClampNeg))) fun b9 => bT (x2 + (1 : Int32)) fun x11 => f_X9_remember_54 N fu x11 b9)) := rfl
def f_X9_remember_52 (N : Nat)  (b1 : Mem) : Option Mem := f_X9_remember_54 N N (0 : Int32) b1
def f_X9_remember_13 (N : Nat)  : Nat → Int32 → Mem → Option Mem
  | 0, _, _ => none
  | fu + 1, x14, b15 => if (1866 : Int32) ≤ x14 then (bT (up2 b15 0 27 ((b15 0 27) - (1 : Int32))) fun b17 => f_X9_remember_52 N b17) else (chkI x14 1866 <| chkI (x14 - (311 : Int32)) 1866 <| bT (upR b15 7 (upd (b15 7) ((x14 - (311 : Int32))).toNatClampNeg (b15 7 (x14).toNatClampNeg))) fun b21 => bT (x14 + (1 : Int32)) fun x23 => f_X9_remember_13 N fu x23 b21)
theorem f_X9_remember_13_s (N : Nat)  {fu : Nat} {x14 : Int32} {b15 : Mem} : f_X9_remember_13 N (fu + 1) x14 b15 = (if (1866 : Int32) ≤ x14 then (bT (up2 b15 0 27 ((b15 0 27) - (1 : Int32))) fun b17 => f_X9_remember_52 N b17) else (chkI x14 1866 <| chkI (x14 - (311 : Int32)) 1866 <| bT (upR b15 7 (upd (b15 7) ((x14 - (311 : Int32))).toNatClampNeg (b15 7 (x14).toNatClampNeg))) fun b21 => bT (x14 + (1 : Int32)) fun x23 => f_X9_remember_13 N fu x23 b21)) := rfl
def f_X9_remember (N : Nat) (b : Mem) : Option Mem := if (b 0 27) = (6 : Int32) then (f_X9_remember_13 N N (311 : Int32) b) else (f_X9_remember_52 N b)
set_option maxRecDepth 100000 in
set_option maxHeartbeats 4000000 in
theorem m_X9_remember {l : Launch} (hl : l.stackTraces = false) {G : GG} {L : List Nat} (hL : LOK L) {a b c : Mem} {N : Nat}  {a' : Mem} (hR : f_X9_remember N b = some a') : Ct l G yX9_remember (.code yX9_remember cX9_remember 2 none) 0 0 0 0 [.ref (ad L 96)] L (FW G L a b c) px0 (stay L (fun r f1 => f1 = (FW G L a a' c) ∧ r = none)) := by
  refine Ct.ofq (own := RX9) hl rfl (by decide) [some (.ref (ad L 96)), none] rfl (Nat.le_of_ble_eq_true rfl) ?_
  intro p e s m below meth c9 A ar Q hQ X
  unfold f_X9_remember at hR
  refine j_aload_n X (i := 0) dX9_remember_0 rfl rfl ?_
  refine j_getf X 9 27 rfl cw_X9 fl_X9_390 (by decide) dX9_remember_1 (ad_mem hL (by decide)) (FW9 hL) rfl ?_
  refine j_bipush X (6) dX9_remember_4 (by decide) ?_
  have hb52 : ∀ (b1 : Mem) , f_X9_remember_52 N b1 = some a' → J G p l e ({ frames := 0, cells := 0, slots := 0, locals := 0 } : Room) s m ar below meth c9 A Q 2 0 0 52 [some (.ref (ad L 96)), none] [] L (FW G L a b1 c) := by
    intro b1 hR
    unfold f_X9_remember_52 at hR
    refine j_iconst X (0) dX9_remember_52 (by decide) ?_
    refine j_istore_n X (i := 1) dX9_remember_53 rfl (by decide) (lvOK_s rfl okPrev_ref) ?_
    dsimp only [List.set]
    have hb54 : ∀ (fu : Nat) (x2 : Int32) (b3 : Mem) , f_X9_remember_54 N fu x2 b3 = some a' → J G p l e ({ frames := 0, cells := 0, slots := 0, locals := 0 } : Room) s m ar below meth c9 A Q 2 0 0 54 [some (.ref (ad L 96)), some (.int x2)] [] L (FW G L a b3 c) := by
      intro fu
      induction fu with
      | zero =>
        intro x2 b3 hR
        cases hR
      | succ fu ih =>
        intro x2 b3 hR
        replace hR := (f_X9_remember_54_s N ).symm.trans hR
        refine j_iload_n X (i := 1) dX9_remember_54 rfl rfl ?_
        refine j_sipush X (311) dX9_remember_55 (by decide) ?_
        refine j_icmp_ge X (tgt := 88) dX9_remember_58 (by decide) (fun h4 => ?_) (fun h4 => ?_)
        · replace hR := (if_pos h4).symm.trans hR
          refine j_aload_n X (i := 0) dX9_remember_88 rfl rfl ?_
          refine j_dup X dX9_remember_89 rfl ?_
          refine j_getf X 9 27 rfl cw_X9 fl_X9_390 (by decide) dX9_remember_90 (ad_mem hL (by decide)) (FW9 hL) rfl ?_
          refine j_iconst X (1) dX9_remember_93 (by decide) ?_
          refine j_iadd X dX9_remember_94 ?_
          obtain ⟨b5, h6, hR⟩ := bT_inv hR
          refine tp_X9_27 X hL h6 fl_X9_390 dX9_remember_95 ?_
          exact q_vret X hQ dX9_remember_98 rfl ⟨(by decide), (by decide)⟩ ⟨rfl, congrArg (fun z => FW G L a z c) (Option.some.inj hR), rfl⟩
        · replace hR := (if_neg h4).symm.trans hR
          refine j_aload_n X (i := 0) dX9_remember_61 rfl rfl ?_
          refine j_getf X 9 26 rfl cw_X9 fl_X9_44 (by decide) dX9_remember_62 (ad_mem hL (by decide)) (FW9 hL) rfl ?_
          refine j_sipush X (311) dX9_remember_65 (by decide) ?_
          refine j_aload_n X (i := 0) dX9_remember_68 rfl rfl ?_
          refine j_getf X 9 27 rfl cw_X9 fl_X9_390 (by decide) dX9_remember_69 (ad_mem hL (by decide)) (FW9 hL) rfl ?_
          refine j_imul X dX9_remember_72 ?_
          refine j_iload_n X (i := 1) dX9_remember_73 rfl rfl ?_
          refine j_iadd X dX9_remember_74 ?_
          refine j_aload_n X (i := 0) dX9_remember_75 rfl rfl ?_
          refine j_getf X 9 1 rfl cw_X9 fl_X9_17 (by decide) dX9_remember_76 (ad_mem hL (by decide)) (FW9 hL) rfl ?_
          refine j_iload_n X (i := 1) dX9_remember_79 rfl rfl ?_
          obtain ⟨h7, hR⟩ := chkI_inv hR
          refine j_iald X dX9_remember_80 (ad_mem hL (by decide)) (FWr97 hL) h7 ?_
          obtain ⟨h8, hR⟩ := chkI_inv hR
          obtain ⟨b9, h10, hR⟩ := bT_inv hR
          refine t_Iast_103 X hL h8 h10 dX9_remember_81 ?_
          obtain ⟨x11, h12, hR⟩ := bT_inv hR
          refine j_iinc X x11 dX9_remember_82 rfl h12 (by decide) (lvOK_s rfl okPrev_ref) ?_
          dsimp only [List.set]
          refine j_goto X (tgt := 54) dX9_remember_85 (by decide) ?_
          exact J.sub (lvle_of (by simp only [lvle, and_self])) (ih _ _  hR)
    exact J.sub (lvle_of (by simp only [lvle, and_self])) (hb54 _ _ _  hR)
  refine j_icmp_ne X (tgt := 52) dX9_remember_6 (by decide) (fun h13 => ?_) (fun h13 => ?_)
  · replace hR := (if_neg h13).symm.trans hR
    exact J.sub (lvle_of (by simp only [lvle, and_self])) (hb52 _  hR)
  · replace hR := (if_pos h13).symm.trans hR
    refine j_sipush X (311) dX9_remember_9 (by decide) ?_
    refine j_istore_n X (i := 1) dX9_remember_12 rfl (by decide) (lvOK_s rfl okPrev_ref) ?_
    dsimp only [List.set]
    have hb13 : ∀ (fu : Nat) (x14 : Int32) (b15 : Mem) , f_X9_remember_13 N fu x14 b15 = some a' → J G p l e ({ frames := 0, cells := 0, slots := 0, locals := 0 } : Room) s m ar below meth c9 A Q 2 0 0 13 [some (.ref (ad L 96)), some (.int x14)] [] L (FW G L a b15 c) := by
      intro fu
      induction fu with
      | zero =>
        intro x14 b15 hR
        cases hR
      | succ fu ih =>
        intro x14 b15 hR
        replace hR := (f_X9_remember_13_s N ).symm.trans hR
        refine j_iload_n X (i := 1) dX9_remember_13 rfl rfl ?_
        refine j_sipush X (1866) dX9_remember_14 (by decide) ?_
        refine j_icmp_ge X (tgt := 42) dX9_remember_17 (by decide) (fun h16 => ?_) (fun h16 => ?_)
        · replace hR := (if_pos h16).symm.trans hR
          refine j_aload_n X (i := 0) dX9_remember_42 rfl rfl ?_
          refine j_dup X dX9_remember_43 rfl ?_
          refine j_getf X 9 27 rfl cw_X9 fl_X9_390 (by decide) dX9_remember_44 (ad_mem hL (by decide)) (FW9 hL) rfl ?_
          refine j_iconst X (1) dX9_remember_47 (by decide) ?_
          refine j_isub X dX9_remember_48 ?_
          obtain ⟨b17, h18, hR⟩ := bT_inv hR
          refine tp_X9_27 X hL h18 fl_X9_390 dX9_remember_49 ?_
          exact J.sub (lvle_of (by simp only [lvle, and_self])) (hb52 _  hR)
        · replace hR := (if_neg h16).symm.trans hR
          refine j_aload_n X (i := 0) dX9_remember_20 rfl rfl ?_
          refine j_getf X 9 26 rfl cw_X9 fl_X9_44 (by decide) dX9_remember_21 (ad_mem hL (by decide)) (FW9 hL) rfl ?_
          refine j_iload_n X (i := 1) dX9_remember_24 rfl rfl ?_
          refine j_sipush X (311) dX9_remember_25 (by decide) ?_
          refine j_isub X dX9_remember_28 ?_
          refine j_aload_n X (i := 0) dX9_remember_29 rfl rfl ?_
          refine j_getf X 9 26 rfl cw_X9 fl_X9_44 (by decide) dX9_remember_30 (ad_mem hL (by decide)) (FW9 hL) rfl ?_
          refine j_iload_n X (i := 1) dX9_remember_33 rfl rfl ?_
          obtain ⟨h19, hR⟩ := chkI_inv hR
          refine j_iald X dX9_remember_34 (ad_mem hL (by decide)) (FWr103 hL) h19 ?_
          obtain ⟨h20, hR⟩ := chkI_inv hR
          obtain ⟨b21, h22, hR⟩ := bT_inv hR
          refine t_Iast_103 X hL h20 h22 dX9_remember_35 ?_
          obtain ⟨x23, h24, hR⟩ := bT_inv hR
          refine j_iinc X x23 dX9_remember_36 rfl h24 (by decide) (lvOK_s rfl okPrev_ref) ?_
          dsimp only [List.set]
          refine j_goto X (tgt := 13) dX9_remember_39 (by decide) ?_
          exact J.sub (lvle_of (by simp only [lvle, and_self])) (ih _ _  hR)
    exact J.sub (lvle_of (by simp only [lvle, and_self])) (hb13 _ _ _  hR)
def f_X9_load_128 (N : Nat)  : Nat → Int32 → Mem → Option Mem
  | 0, _, _ => none
  | fu + 1, x49, b50 => if (311 : Int32) ≤ x49 then (some b50) else (chkI x49 311 <| chkI x49 311 <| bT (upR b50 1 (upd (b50 1) (x49).toNatClampNeg (b50 2 (x49).toNatClampNeg))) fun b55 => bT (x49 + (1 : Int32)) fun x57 => f_X9_load_128 N fu x57 b55)
theorem f_X9_load_128_s (N : Nat)  {fu : Nat} {x49 : Int32} {b50 : Mem} : f_X9_load_128 N (fu + 1) x49 b50 = (if (311 : Int32) ≤ x49 then (some b50) else (chkI x49 311 <| chkI x49 311 <| bT (upR b50 1 (upd (b50 1) (x49).toNatClampNeg (b50 2 (x49).toNatClampNeg))) fun b55 => bT (x49 + (1 : Int32)) fun x57 => f_X9_load_128 N fu x57 b55)) := rfl
def f_X9_load_100 (N : Nat)  (b36 : Mem) : Option (Int32 × Mem) := bP (f_X9_setSides N b36) fun b38 => bT (up2 b38 0 3 0) fun b40 => bT (f_X9_good b40) fun x43 => if x43 = 0 then (some ((-4 : Int32), b40)) else (bP (f_X9_remember N b40) fun b47 => bP (f_X9_load_128 N N (0 : Int32) b47) fun b60 => some ((b60 1 ((2 : Int32)).toNatClampNeg), b60))
def f_X9_load_79 (N : Nat)  : Nat → Mem → Option (Int32 × Mem)
  | 0, _ => none
  | fu + 1, b32 => bT (f_X9_good b32) fun x34 => if x34 = 0 then (f_X9_load_100 N b32) else (if (b32 0 16) = 0 then (f_X9_load_100 N b32) else (bP (f_X9_parseStatement N b32) fun b65 => f_X9_load_79 N fu b65))
theorem f_X9_load_79_s (N : Nat)  {fu : Nat} {b32 : Mem} : f_X9_load_79 N (fu + 1) b32 = (bT (f_X9_good b32) fun x34 => if x34 = 0 then (f_X9_load_100 N b32) else (if (b32 0 16) = 0 then (f_X9_load_100 N b32) else (bP (f_X9_parseStatement N b32) fun b65 => f_X9_load_79 N fu b65))) := rfl
def f_X9_load_75 (N : Nat) (b23 : Mem) (x28 : Int32) : Option (Int32 × Mem) := bT (f_X9_errsIf x28 (1 : Int32) b23) fun b30 => f_X9_load_79 N N b30
def f_X9_load (N : Nat) (b : Mem) : Option (Int32 × Mem) := bT (up2 b 0 0 (0 : Int32)) fun b1 => bT (up2 b1 0 13 (b1 0 12)) fun b3 => bT (up2 b3 0 12 (0 : Int32)) fun b5 => bT (up2 b5 0 14 (0 : Int32)) fun b7 => bT (up2 b7 0 18 (0 : Int32)) fun b9 => bT (up2 b9 0 19 (-1 : Int32)) fun b11 => bT (up2 b11 0 20 (0 : Int32)) fun b13 => bT (up2 b13 0 21 (0 : Int32)) fun b15 => bT (up2 b15 0 3 1) fun b17 => bP (f_X9_layPlain N b17) fun b20 => bP (f_X9_scan N b20) fun b23 => bP (f_X9_isWord N 35 b23) fun x26 => if x26 = 0 then (f_X9_load_75 N b23 (1 : Int32)) else (f_X9_load_75 N b23 (0 : Int32))
set_option maxRecDepth 100000 in
set_option maxHeartbeats 4000000 in
theorem m_X9_load {l : Launch} (hl : l.stackTraces = false) {G : GG} {L : List Nat} (hL : LOK L) {a b c : Mem} {N : Nat}  {v : Int32} {a' : Mem} (hR : f_X9_load N b = some (v, a')) : Ct l G yX9_load (.code yX9_load cX9_load 2 (some .int)) 11 258 0 0 [.ref (ad L 96)] L (FW G L a b c) px0 (stay L (fun r f1 => f1 = (FW G L a a' c) ∧ r = some (.int v))) := by
  refine Ct.ofq (own := RX9) hl rfl (by decide) [some (.ref (ad L 96)), none] rfl (Nat.le_of_ble_eq_true rfl) ?_
  intro p e s m below meth c9 A ar Q hQ X
  unfold f_X9_load at hR
  refine j_aload_n X (i := 0) dX9_load_0 rfl rfl ?_
  refine j_iconst X (0) dX9_load_1 (by decide) ?_
  obtain ⟨b1, h2, hR⟩ := bT_inv hR
  refine tp_X9_0 X hL h2 fl_X9_3 dX9_load_2 ?_
  refine j_aload_n X (i := 0) dX9_load_5 rfl rfl ?_
  refine j_aload_n X (i := 0) dX9_load_6 rfl rfl ?_
  refine j_getf X 9 12 rfl cw_X9 fl_X9_156 (by decide) dX9_load_7 (ad_mem hL (by decide)) (FW9 hL) rfl ?_
  obtain ⟨b3, h4, hR⟩ := bT_inv hR
  refine tp_X9_13 X hL h4 fl_X9_176 dX9_load_10 ?_
  refine j_aload_n X (i := 0) dX9_load_13 rfl rfl ?_
  refine j_iconst X (0) dX9_load_14 (by decide) ?_
  obtain ⟨b5, h6, hR⟩ := bT_inv hR
  refine tp_X9_12 X hL h6 fl_X9_156 dX9_load_15 ?_
  refine j_aload_n X (i := 0) dX9_load_18 rfl rfl ?_
  refine j_iconst X (0) dX9_load_19 (by decide) ?_
  obtain ⟨b7, h8, hR⟩ := bT_inv hR
  refine tp_X9_14 X hL h8 fl_X9_179 dX9_load_20 ?_
  refine j_aload_n X (i := 0) dX9_load_23 rfl rfl ?_
  refine j_iconst X (0) dX9_load_24 (by decide) ?_
  obtain ⟨b9, h10, hR⟩ := bT_inv hR
  refine tp_X9_18 X hL h10 fl_X9_166 dX9_load_25 ?_
  refine j_aload_n X (i := 0) dX9_load_28 rfl rfl ?_
  refine j_iconst X (-1) dX9_load_29 (by decide) ?_
  obtain ⟨b11, h12, hR⟩ := bT_inv hR
  refine tp_X9_19 X hL h12 fl_X9_34 dX9_load_30 ?_
  refine j_aload_n X (i := 0) dX9_load_33 rfl rfl ?_
  refine j_iconst X (0) dX9_load_34 (by decide) ?_
  obtain ⟨b13, h14, hR⟩ := bT_inv hR
  refine tp_X9_20 X hL isB_0 h14 fl_X9_258 dX9_load_35 ?_
  refine j_aload_n X (i := 0) dX9_load_38 rfl rfl ?_
  refine j_iconst X (0) dX9_load_39 (by decide) ?_
  obtain ⟨b15, h16, hR⟩ := bT_inv hR
  refine tp_X9_21 X hL isB_0 h16 fl_X9_261 dX9_load_40 ?_
  refine j_aload_n X (i := 0) dX9_load_43 rfl rfl ?_
  refine j_aload_n X (i := 0) dX9_load_44 rfl rfl ?_
  refine j_getf X 9 2 rfl cw_X9 fl_X9_21 (by decide) dX9_load_45 (ad_mem hL (by decide)) (FW9 hL) rfl ?_
  obtain ⟨b17, h18, hR⟩ := bT_inv hR
  refine tp_X9_3 (x := 1) X hL h18 fl_X9_24 dX9_load_48 ?_
  refine j_aload_n X (i := 0) dX9_load_51 rfl rfl ?_
  obtain ⟨b20, h19, hR⟩ := bP_inv hR
  refine j_callV0 X 9 (m_X9_layPlain hl hL h19) ml_X9_50 im_yX9_layPlain se_yX9_layPlain in_X9 cd_yX9_layPlain hy_yX9_layPlain dX9_load_52 rfl (ad_mem hL (by decide)) (FW9 hL) ⟨(by decide), (by decide)⟩ ⟨(by decide), (by decide)⟩ (Nat.le_of_ble_eq_true rfl) (fun _ h => h.elim) (fun r9 L9 f9 h9 => ?_)
  obtain ⟨h91, h92, h93⟩ := h9
  subst r9
  subst f9
  subst L9
  dsimp only [Option.toList, List.cons_append, List.nil_append, List.append]
  refine j_aload_n X (i := 0) dX9_load_55 rfl rfl ?_
  obtain ⟨b23, h22, hR⟩ := bP_inv hR
  refine j_callV0 X 9 (m_X9_scan hl hL h22) ml_X9_200 im_yX9_scan se_yX9_scan in_X9 cd_yX9_scan hy_yX9_scan dX9_load_56 rfl (ad_mem hL (by decide)) (FW9 hL) ⟨(by decide), (by decide)⟩ ⟨(by decide), (by decide)⟩ (Nat.le_of_ble_eq_true rfl) (fun _ h => h.elim) (fun r9 L9 f9 h9 => ?_)
  obtain ⟨h91, h92, h93⟩ := h9
  subst r9
  subst f9
  subst L9
  dsimp only [Option.toList, List.cons_append, List.nil_append, List.append]
  refine j_aload_n X (i := 0) dX9_load_59 rfl rfl ?_
  refine j_aload_n X (i := 0) dX9_load_60 rfl rfl ?_
  refine j_ldcSw X 35 dX9_load_61 rfl ?_
  obtain ⟨x26, h25, hR⟩ := bP_inv hR
  refine j_callV1 X 9 (m_X9_isWord hl hL (by decide) h25) ml_X9_221 im_yX9_isWord se_yX9_isWord in_X9 cd_yX9_isWord hy_yX9_isWord dX9_load_64 rfl (ad_mem hL (by decide)) (FW9 hL) ⟨(by decide), (by decide)⟩ ⟨(by decide), (by decide)⟩ (Nat.le_of_ble_eq_true rfl) (fun _ h => h.elim) (fun r9 L9 f9 h9 => ?_)
  obtain ⟨h91, h92, h93, h27⟩ := h9
  subst r9
  subst f9
  subst L9
  dsimp only [Option.toList, List.cons_append, List.nil_append, List.append]
  have hb75 : ∀ (x28 : Int32) (hBx28 : isB x28), f_X9_load_75 N b23 x28 = some (v, a') → J G p l e ({ frames := 11, cells := 0, slots := 0, locals := 258 } : Room) s m ar below meth c9 A Q 2 0 0 75 [some (.ref (ad L 96)), none] [.int x28, .ref (ad L 96)] L (FW G L a b23 c) := by
    intro x28 hBx28 hR
    unfold f_X9_load_75 at hR
    refine j_iconst X (1) dX9_load_75 (by decide) ?_
    obtain ⟨b30, h29, hR⟩ := bT_inv hR
    refine j_callV2 X 9 (m_X9_errsIf hl hL hBx28 h29) ml_X9_236 im_yX9_errsIf se_yX9_errsIf in_X9 cd_yX9_errsIf hy_yX9_errsIf dX9_load_76 rfl (ad_mem hL (by decide)) (FW9 hL) ⟨(by decide), (by decide)⟩ ⟨(by decide), (by decide)⟩ (Nat.le_of_ble_eq_true rfl) (fun _ h => h.elim) (fun r9 L9 f9 h9 => ?_)
    obtain ⟨h91, h92, h93⟩ := h9
    subst r9
    subst f9
    subst L9
    dsimp only [Option.toList, List.cons_append, List.nil_append, List.append]
    have hb79 : ∀ (fu : Nat) (b32 : Mem) , f_X9_load_79 N fu b32 = some (v, a') → J G p l e ({ frames := 11, cells := 0, slots := 0, locals := 258 } : Room) s m ar below meth c9 A Q 2 0 0 79 [some (.ref (ad L 96)), none] [] L (FW G L a b32 c) := by
      intro fu
      induction fu with
      | zero =>
        intro b32 hR
        cases hR
      | succ fu ih =>
        intro b32 hR
        replace hR := (f_X9_load_79_s N ).symm.trans hR
        refine j_aload_n X (i := 0) dX9_load_79 rfl rfl ?_
        obtain ⟨x34, h33, hR⟩ := bT_inv hR
        refine j_callV0 X 9 (m_X9_good hl hL h33) ml_X9_169 im_yX9_good se_yX9_good in_X9 cd_yX9_good hy_yX9_good dX9_load_80 rfl (ad_mem hL (by decide)) (FW9 hL) ⟨(by decide), (by decide)⟩ ⟨(by decide), (by decide)⟩ (Nat.le_of_ble_eq_true rfl) (fun _ h => h.elim) (fun r9 L9 f9 h9 => ?_)
        obtain ⟨h91, h92, h93, h35⟩ := h9
        subst r9
        subst f9
        subst L9
        dsimp only [Option.toList, List.cons_append, List.nil_append, List.append]
        have hb100 : ∀ (b36 : Mem) , f_X9_load_100 N b36 = some (v, a') → J G p l e ({ frames := 11, cells := 0, slots := 0, locals := 258 } : Room) s m ar below meth c9 A Q 2 0 0 100 [some (.ref (ad L 96)), none] [] L (FW G L a b36 c) := by
          intro b36 hR
          unfold f_X9_load_100 at hR
          refine j_aload_n X (i := 0) dX9_load_100 rfl rfl ?_
          obtain ⟨b38, h37, hR⟩ := bP_inv hR
          refine j_callV0 X 9 (m_X9_setSides hl hL h37) ml_X9_301 im_yX9_setSides se_yX9_setSides in_X9 cd_yX9_setSides hy_yX9_setSides dX9_load_101 rfl (ad_mem hL (by decide)) (FW9 hL) ⟨(by decide), (by decide)⟩ ⟨(by decide), (by decide)⟩ (Nat.le_of_ble_eq_true rfl) (fun _ h => h.elim) (fun r9 L9 f9 h9 => ?_)
          obtain ⟨h91, h92, h93⟩ := h9
          subst r9
          subst f9
          subst L9
          dsimp only [Option.toList, List.cons_append, List.nil_append, List.append]
          refine j_aload_n X (i := 0) dX9_load_104 rfl rfl ?_
          refine j_aload_n X (i := 0) dX9_load_105 rfl rfl ?_
          refine j_getf X 9 1 rfl cw_X9 fl_X9_17 (by decide) dX9_load_106 (ad_mem hL (by decide)) (FW9 hL) rfl ?_
          obtain ⟨b40, h41, hR⟩ := bT_inv hR
          refine tp_X9_3 (x := 0) X hL h41 fl_X9_24 dX9_load_109 ?_
          refine j_aload_n X (i := 0) dX9_load_112 rfl rfl ?_
          obtain ⟨x43, h42, hR⟩ := bT_inv hR
          refine j_callV0 X 9 (m_X9_good hl hL h42) ml_X9_169 im_yX9_good se_yX9_good in_X9 cd_yX9_good hy_yX9_good dX9_load_113 rfl (ad_mem hL (by decide)) (FW9 hL) ⟨(by decide), (by decide)⟩ ⟨(by decide), (by decide)⟩ (Nat.le_of_ble_eq_true rfl) (fun _ h => h.elim) (fun r9 L9 f9 h9 => ?_)
          obtain ⟨h91, h92, h93, h44⟩ := h9
          subst r9
          subst f9
          subst L9
          dsimp only [Option.toList, List.cons_append, List.nil_append, List.append]
          refine j_if_ne X (tgt := 122) dX9_load_116 (by decide) (fun h45 => ?_) (fun h45 => ?_)
          · replace hR := (if_neg h45).symm.trans hR
            refine j_aload_n X (i := 0) dX9_load_122 rfl rfl ?_
            obtain ⟨b47, h46, hR⟩ := bP_inv hR
            refine j_callV0 X 9 (m_X9_remember hl hL h46) ml_X9_304 im_yX9_remember se_yX9_remember in_X9 cd_yX9_remember hy_yX9_remember dX9_load_123 rfl (ad_mem hL (by decide)) (FW9 hL) ⟨(by decide), (by decide)⟩ ⟨(by decide), (by decide)⟩ (Nat.le_of_ble_eq_true rfl) (fun _ h => h.elim) (fun r9 L9 f9 h9 => ?_)
            obtain ⟨h91, h92, h93⟩ := h9
            subst r9
            subst f9
            subst L9
            dsimp only [Option.toList, List.cons_append, List.nil_append, List.append]
            refine j_iconst X (0) dX9_load_126 (by decide) ?_
            refine j_istore_n X (i := 1) dX9_load_127 rfl (by decide) (lvOK_s rfl okPrev_ref) ?_
            dsimp only [List.set]
            have hb128 : ∀ (fu : Nat) (x49 : Int32) (b50 : Mem) (b59 : Mem), f_X9_load_128 N fu x49 b50 = some b59 → J G p l e ({ frames := 11, cells := 0, slots := 0, locals := 258 } : Room) s m ar below meth c9 A Q 2 0 0 153 [some (.ref (ad L 96)), none] [] L (FW G L a b59 c) → J G p l e ({ frames := 11, cells := 0, slots := 0, locals := 258 } : Room) s m ar below meth c9 A Q 2 0 0 128 [some (.ref (ad L 96)), some (.int x49)] [] L (FW G L a b50 c) := by
              intro fu
              induction fu with
              | zero =>
                intro x49 b50 b59 hR
                cases hR
              | succ fu ih =>
                intro x49 b50 b59 hR hK
                replace hR := (f_X9_load_128_s N ).symm.trans hR
                refine j_iload_n X (i := 1) dX9_load_128 rfl rfl ?_
                refine j_sipush X (311) dX9_load_129 (by decide) ?_
                refine j_icmp_ge X (tgt := 153) dX9_load_132 (by decide) (fun h51 => ?_) (fun h51 => ?_)
                · replace hR := (if_pos h51).symm.trans hR
                  have h52 := Option.some.inj hR
                  subst h52
                  exact J.sub (lvle_of (by simp only [lvle, and_self])) hK
                · replace hR := (if_neg h51).symm.trans hR
                  refine j_aload_n X (i := 0) dX9_load_135 rfl rfl ?_
                  refine j_getf X 9 1 rfl cw_X9 fl_X9_17 (by decide) dX9_load_136 (ad_mem hL (by decide)) (FW9 hL) rfl ?_
                  refine j_iload_n X (i := 1) dX9_load_139 rfl rfl ?_
                  refine j_aload_n X (i := 0) dX9_load_140 rfl rfl ?_
                  refine j_getf X 9 2 rfl cw_X9 fl_X9_21 (by decide) dX9_load_141 (ad_mem hL (by decide)) (FW9 hL) rfl ?_
                  refine j_iload_n X (i := 1) dX9_load_144 rfl rfl ?_
                  obtain ⟨h53, hR⟩ := chkI_inv hR
                  refine j_iald X dX9_load_145 (ad_mem hL (by decide)) (FWr98 hL) h53 ?_
                  obtain ⟨h54, hR⟩ := chkI_inv hR
                  obtain ⟨b55, h56, hR⟩ := bT_inv hR
                  refine t_Iast_97 X hL h54 h56 dX9_load_146 ?_
                  obtain ⟨x57, h58, hR⟩ := bT_inv hR
                  refine j_iinc X x57 dX9_load_147 rfl h58 (by decide) (lvOK_s rfl okPrev_ref) ?_
                  dsimp only [List.set]
                  refine j_goto X (tgt := 128) dX9_load_150 (by decide) ?_
                  exact J.sub (lvle_of (by simp only [lvle, and_self])) (ih _ _ _ hR hK)
            obtain ⟨b60, h61, hR⟩ := bP_inv hR
            refine J.sub (lvle_of (by simp only [lvle, and_self])) (hb128 _ _ _ _ h61 ?_)
            refine j_aload_n X (i := 0) dX9_load_153 rfl rfl ?_
            refine j_getf X 9 1 rfl cw_X9 fl_X9_17 (by decide) dX9_load_154 (ad_mem hL (by decide)) (FW9 hL) rfl ?_
            refine j_iconst X (2) dX9_load_157 (by decide) ?_
            refine j_iald X dX9_load_158 (ad_mem hL (by decide)) (FWr97 hL) (by unfold vp_in; decide) ?_
            exact q_iret X hQ dX9_load_159 rfl ⟨(by decide), (by decide)⟩ ⟨rfl, congrArg (fun z => FW G L a z c) (Prod.mk.inj (Option.some.inj hR)).2, congrArg (fun z => some (Value.int z)) (Prod.mk.inj (Option.some.inj hR)).1⟩
          · replace hR := (if_pos h45).symm.trans hR
            refine j_bipush X (-4) dX9_load_119 (by decide) ?_
            exact q_iret X hQ dX9_load_121 rfl ⟨(by decide), (by decide)⟩ ⟨rfl, congrArg (fun z => FW G L a z c) (Prod.mk.inj (Option.some.inj hR)).2, congrArg (fun z => some (Value.int z)) (Prod.mk.inj (Option.some.inj hR)).1⟩
        refine j_if_eq X (tgt := 100) dX9_load_83 (by decide) (fun h62 => ?_) (fun h62 => ?_)
        · replace hR := (if_pos h62).symm.trans hR
          exact J.sub (lvle_of (by simp only [lvle, and_self])) (hb100 _  hR)
        · replace hR := (if_neg h62).symm.trans hR
          refine j_aload_n X (i := 0) dX9_load_86 rfl rfl ?_
          refine j_getf X 9 16 rfl cw_X9 fl_X9_185 (by decide) dX9_load_87 (ad_mem hL (by decide)) (FW9 hL) rfl ?_
          refine j_if_eq X (tgt := 100) dX9_load_90 (by decide) (fun h63 => ?_) (fun h63 => ?_)
          · replace hR := (if_pos h63).symm.trans hR
            exact J.sub (lvle_of (by simp only [lvle, and_self])) (hb100 _  hR)
          · replace hR := (if_neg h63).symm.trans hR
            refine j_aload_n X (i := 0) dX9_load_93 rfl rfl ?_
            obtain ⟨b65, h64, hR⟩ := bP_inv hR
            refine j_callV0 X 9 (m_X9_parseStatement hl hL h64) ml_X9_298 im_yX9_parseStatement se_yX9_parseStatement in_X9 cd_yX9_parseStatement hy_yX9_parseStatement dX9_load_94 rfl (ad_mem hL (by decide)) (FW9 hL) ⟨(by decide), (by decide)⟩ ⟨(by decide), (by decide)⟩ (Nat.le_of_ble_eq_true rfl) (fun _ h => h.elim) (fun r9 L9 f9 h9 => ?_)
            obtain ⟨h91, h92, h93⟩ := h9
            subst r9
            subst f9
            subst L9
            dsimp only [Option.toList, List.cons_append, List.nil_append, List.append]
            refine j_goto X (tgt := 79) dX9_load_97 (by decide) ?_
            exact J.sub (lvle_of (by simp only [lvle, and_self])) (ih _  hR)
    exact J.sub (lvle_of (by simp only [lvle, and_self])) (hb79 _ _  hR)
  refine j_if_ne X (tgt := 74) dX9_load_67 (by decide) (fun h67 => ?_) (fun h67 => ?_)
  · replace hR := (if_neg h67).symm.trans hR
    refine j_iconst X (0) dX9_load_74 (by decide) ?_
    exact J.sub (lvle_of (by simp only [lvle, and_self])) (hb75 _ isB_0 hR)
  · replace hR := (if_pos h67).symm.trans hR
    refine j_iconst X (1) dX9_load_70 (by decide) ?_
    refine j_goto X (tgt := 75) dX9_load_71 (by decide) ?_
    exact J.sub (lvle_of (by simp only [lvle, and_self])) (hb75 _ isB_1 hR)
def f_X9_errorCode (b : Mem) : (Int32 × Mem) := bT (up2 b 0 0 (0 : Int32)) fun b1 => ((b1 0 18), b1)
set_option maxRecDepth 100000 in
set_option maxHeartbeats 4000000 in
theorem m_X9_errorCode {l : Launch} (hl : l.stackTraces = false) {G : GG} {L : List Nat} (hL : LOK L) {a b c : Mem}  {v : Int32} {a' : Mem} (hR : f_X9_errorCode b = (v, a')) : Ct l G yX9_errorCode (.code yX9_errorCode cX9_errorCode 1 (some .int)) 0 0 0 0 [.ref (ad L 96)] L (FW G L a b c) px0 (stay L (fun r f1 => f1 = (FW G L a a' c) ∧ r = some (.int v))) := by
  refine Ct.ofq (own := RX9) hl rfl (by decide) [some (.ref (ad L 96))] rfl (Nat.le_of_ble_eq_true rfl) ?_
  intro p e s m below meth c9 A ar Q hQ X
  unfold f_X9_errorCode at hR
  refine j_aload_n X (i := 0) dX9_errorCode_0 rfl rfl ?_
  refine j_iconst X (0) dX9_errorCode_1 (by decide) ?_
  obtain ⟨b1, h2, hR⟩ := bT_inv hR
  refine tp_X9_0 X hL h2 fl_X9_3 dX9_errorCode_2 ?_
  refine j_aload_n X (i := 0) dX9_errorCode_5 rfl rfl ?_
  refine j_getf X 9 18 rfl cw_X9 fl_X9_166 (by decide) dX9_errorCode_6 (ad_mem hL (by decide)) (FW9 hL) rfl ?_
  exact q_iret X hQ dX9_errorCode_9 rfl ⟨(by decide), (by decide)⟩ ⟨rfl, congrArg (fun z => FW G L a z c) (Prod.mk.inj hR).2, congrArg (fun z => some (Value.int z)) (Prod.mk.inj hR).1⟩
def f_X9_errorPosition (b : Mem) : (Int32 × Mem) := bT (up2 b 0 0 (0 : Int32)) fun b1 => ((b1 0 19), b1)
set_option maxRecDepth 100000 in
set_option maxHeartbeats 4000000 in
theorem m_X9_errorPosition {l : Launch} (hl : l.stackTraces = false) {G : GG} {L : List Nat} (hL : LOK L) {a b c : Mem}  {v : Int32} {a' : Mem} (hR : f_X9_errorPosition b = (v, a')) : Ct l G yX9_errorPosition (.code yX9_errorPosition cX9_errorPosition 1 (some .int)) 0 0 0 0 [.ref (ad L 96)] L (FW G L a b c) px0 (stay L (fun r f1 => f1 = (FW G L a a' c) ∧ r = some (.int v))) := by
  refine Ct.ofq (own := RX9) hl rfl (by decide) [some (.ref (ad L 96))] rfl (Nat.le_of_ble_eq_true rfl) ?_
  intro p e s m below meth c9 A ar Q hQ X
  unfold f_X9_errorPosition at hR
  refine j_aload_n X (i := 0) dX9_errorPosition_0 rfl rfl ?_
  refine j_iconst X (0) dX9_errorPosition_1 (by decide) ?_
  obtain ⟨b1, h2, hR⟩ := bT_inv hR
  refine tp_X9_0 X hL h2 fl_X9_3 dX9_errorPosition_2 ?_
  refine j_aload_n X (i := 0) dX9_errorPosition_5 rfl rfl ?_
  refine j_getf X 9 19 rfl cw_X9 fl_X9_34 (by decide) dX9_errorPosition_6 (ad_mem hL (by decide)) (FW9 hL) rfl ?_
  exact q_iret X hQ dX9_errorPosition_9 rfl ⟨(by decide), (by decide)⟩ ⟨rfl, congrArg (fun z => FW G L a z c) (Prod.mk.inj hR).2, congrArg (fun z => some (Value.int z)) (Prod.mk.inj hR).1⟩
def f_X9_mover (N : Nat) (b : Mem) : Option Int32 := some (b (rowM (b 0 3)) ((1 : Int32)).toNatClampNeg)
set_option maxRecDepth 100000 in
set_option maxHeartbeats 4000000 in
theorem m_X9_mover {l : Launch} (hl : l.stackTraces = false) {G : GG} {L : List Nat} (hL : LOK L) {a b c : Mem} {N : Nat}  {v : Int32} (hR : f_X9_mover N b = some v) : Ct l G yX9_mover (.code yX9_mover cX9_mover 1 (some .int)) 0 0 0 0 [.ref (ad L 96)] L (FW G L a b c) px0 (stay L (fun r f1 => f1 = (FW G L a b c) ∧ r = some (.int v))) := by
  refine Ct.ofq (own := RX9) hl rfl (by decide) [some (.ref (ad L 96))] rfl (Nat.le_of_ble_eq_true rfl) ?_
  intro p e s m below meth c9 A ar Q hQ X
  unfold f_X9_mover at hR
  refine j_aload_n X (i := 0) dX9_mover_0 rfl rfl ?_
  refine j_getf X 9 3 rfl cw_X9 fl_X9_24 (by decide) dX9_mover_1 (ad_mem hL (by decide)) (FW9 hL) rfl ?_
  refine j_iconst X (1) dX9_mover_4 (by decide) ?_
  refine j_iald X dX9_mover_5 (inLr hL) (FWrow hL) (by unfold vp_in; decide) ?_
  exact q_iret X hQ dX9_mover_6 rfl ⟨(by decide), (by decide)⟩ ⟨rfl, rfl, congrArg (fun z => some (Value.int z)) (Option.some.inj hR)⟩
def f_X9_property (N : Nat) (p0 : Int32) (b : Mem) : Option (Int32 × Mem) := bT (f_X9_in (Int32.toInt64 p0) (0 : Int64) (11 : Int64) b) fun x2 => bT2 (f_X9_passes x2 b) fun x5 b6 => if x5 = 0 then (some ((0 : Int32), b6)) else (if p0 = (0 : Int32) then (some ((b6 1 ((0 : Int32)).toNatClampNeg), b6)) else if p0 = (1 : Int32) then (bP (f_X9_mover N b6) fun x12 => some (x12, b6)) else if p0 = (2 : Int32) then (some ((b6 1 ((2 : Int32)).toNatClampNeg), b6)) else if p0 = (3 : Int32) then (some ((b6 1 ((3 : Int32)).toNatClampNeg), b6)) else if p0 = (4 : Int32) then (some ((b6 1 ((4 : Int32)).toNatClampNeg), b6)) else if p0 = (5 : Int32) then (some ((b6 1 ((5 : Int32)).toNatClampNeg), b6)) else if p0 = (6 : Int32) then (some ((b6 1 ((6 : Int32)).toNatClampNeg), b6)) else if p0 = (7 : Int32) then (some ((b6 1 ((7 : Int32)).toNatClampNeg), b6)) else if p0 = (8 : Int32) then (some ((b6 1 ((8 : Int32)).toNatClampNeg), b6)) else if p0 = (9 : Int32) then (some ((b6 1 ((9 : Int32)).toNatClampNeg), b6)) else if p0 = (10 : Int32) then (some ((b6 1 ((10 : Int32)).toNatClampNeg), b6)) else (some ((b6 1 ((11 : Int32)).toNatClampNeg), b6)))
set_option maxRecDepth 100000 in
set_option maxHeartbeats 4000000 in
theorem m_X9_property {l : Launch} (hl : l.stackTraces = false) {G : GG} {L : List Nat} (hL : LOK L) {a b c : Mem} {N : Nat} {p0 : Int32} {v : Int32} {a' : Mem} (hR : f_X9_property N p0 b = some (v, a')) : Ct l G yX9_property (.code yX9_property cX9_property 2 (some .int)) 2 44 0 0 [.ref (ad L 96), .int p0] L (FW G L a b c) px0 (stay L (fun r f1 => f1 = (FW G L a a' c) ∧ r = some (.int v))) := by
  refine Ct.ofq (own := RX9) hl rfl (by decide) [some (.ref (ad L 96)), some (.int p0)] rfl (Nat.le_of_ble_eq_true rfl) ?_
  intro p e s m below meth c9 A ar Q hQ X
  unfold f_X9_property at hR
  refine j_aload_n X (i := 0) dX9_property_0 rfl rfl ?_
  refine j_iload_n X (i := 1) dX9_property_1 rfl rfl ?_
  refine j_i2l X dX9_property_2 ?_
  refine j_lconst X (0) dX9_property_3 (by decide) ?_
  refine j_ldc2 X dX9_property_4 cj_X9_307 ?_
  obtain ⟨x2, h1, hR⟩ := bT_inv hR
  refine j_callS3 X (m_X9_in hl hL h1) ml_X9_64 st_yX9_in in_X9 cd_yX9_in hy_yX9_in dX9_property_7 ⟨(by decide), (by decide)⟩ ⟨(by decide), (by decide)⟩ (Nat.le_of_ble_eq_true rfl) (fun _ h => h.elim) (fun r9 L9 f9 h9 => ?_)
  obtain ⟨h91, h92, h93, h3⟩ := h9
  subst r9
  subst f9
  subst L9
  dsimp only [Option.toList, List.cons_append, List.nil_append, List.append]
  obtain ⟨x5, b6, h4, hR⟩ := bT2_inv hR
  refine j_callV1 X 9 (m_X9_passes hl hL h3 h4) ml_X9_159 im_yX9_passes se_yX9_passes in_X9 cd_yX9_passes hy_yX9_passes dX9_property_10 rfl (ad_mem hL (by decide)) (FW9 hL) ⟨(by decide), (by decide)⟩ ⟨(by decide), (by decide)⟩ (Nat.le_of_ble_eq_true rfl) (fun _ h => h.elim) (fun r9 L9 f9 h9 => ?_)
  obtain ⟨h91, h92, h93, h7⟩ := h9
  subst r9
  subst f9
  subst L9
  dsimp only [Option.toList, List.cons_append, List.nil_append, List.append]
  refine j_if_ne X (tgt := 18) dX9_property_13 (by decide) (fun h8 => ?_) (fun h8 => ?_)
  · replace hR := (if_neg h8).symm.trans hR
    refine j_iload_n X (i := 1) dX9_property_18 rfl rfl ?_
    by_cases h9 : p0 = (0 : Int32)
    · replace hR := (if_pos h9).symm.trans hR
      refine j_tblIn X (tgt := 76) dX9_property_19 (by rw [h9]; decide) (by rw [h9]; decide) (by rw [h9]; rfl) (by decide) ?_
      refine j_aload_n X (i := 0) dX9_property_76 rfl rfl ?_
      refine j_getf X 9 1 rfl cw_X9 fl_X9_17 (by decide) dX9_property_77 (ad_mem hL (by decide)) (FW9 hL) rfl ?_
      refine j_iconst X (0) dX9_property_80 (by decide) ?_
      refine j_iald X dX9_property_81 (ad_mem hL (by decide)) (FWr97 hL) (by unfold vp_in; decide) ?_
      exact q_iret X hQ dX9_property_82 rfl ⟨(by decide), (by decide)⟩ ⟨rfl, congrArg (fun z => FW G L a z c) (Prod.mk.inj (Option.some.inj hR)).2, congrArg (fun z => some (Value.int z)) (Prod.mk.inj (Option.some.inj hR)).1⟩
    · replace hR := (if_neg h9).symm.trans hR
      by_cases h10 : p0 = (1 : Int32)
      · replace hR := (if_pos h10).symm.trans hR
        refine j_tblIn X (tgt := 83) dX9_property_19 (by rw [h10]; decide) (by rw [h10]; decide) (by rw [h10]; rfl) (by decide) ?_
        refine j_aload_n X (i := 0) dX9_property_83 rfl rfl ?_
        obtain ⟨x12, h11, hR⟩ := bP_inv hR
        refine j_callV0 X 9 (m_X9_mover hl hL h11) ml_X9_80 im_yX9_mover se_yX9_mover in_X9 cd_yX9_mover hy_yX9_mover dX9_property_84 rfl (ad_mem hL (by decide)) (FW9 hL) ⟨(by decide), (by decide)⟩ ⟨(by decide), (by decide)⟩ (Nat.le_of_ble_eq_true rfl) (fun _ h => h.elim) (fun r9 L9 f9 h9 => ?_)
        obtain ⟨h91, h92, h93⟩ := h9
        subst r9
        subst f9
        subst L9
        dsimp only [Option.toList, List.cons_append, List.nil_append, List.append]
        exact q_iret X hQ dX9_property_87 rfl ⟨(by decide), (by decide)⟩ ⟨rfl, congrArg (fun z => FW G L a z c) (Prod.mk.inj (Option.some.inj hR)).2, congrArg (fun z => some (Value.int z)) (Prod.mk.inj (Option.some.inj hR)).1⟩
      · replace hR := (if_neg h10).symm.trans hR
        by_cases h14 : p0 = (2 : Int32)
        · replace hR := (if_pos h14).symm.trans hR
          refine j_tblIn X (tgt := 88) dX9_property_19 (by rw [h14]; decide) (by rw [h14]; decide) (by rw [h14]; rfl) (by decide) ?_
          refine j_aload_n X (i := 0) dX9_property_88 rfl rfl ?_
          refine j_getf X 9 1 rfl cw_X9 fl_X9_17 (by decide) dX9_property_89 (ad_mem hL (by decide)) (FW9 hL) rfl ?_
          refine j_iconst X (2) dX9_property_92 (by decide) ?_
          refine j_iald X dX9_property_93 (ad_mem hL (by decide)) (FWr97 hL) (by unfold vp_in; decide) ?_
          exact q_iret X hQ dX9_property_94 rfl ⟨(by decide), (by decide)⟩ ⟨rfl, congrArg (fun z => FW G L a z c) (Prod.mk.inj (Option.some.inj hR)).2, congrArg (fun z => some (Value.int z)) (Prod.mk.inj (Option.some.inj hR)).1⟩
        · replace hR := (if_neg h14).symm.trans hR
          by_cases h15 : p0 = (3 : Int32)
          · replace hR := (if_pos h15).symm.trans hR
            refine j_tblIn X (tgt := 95) dX9_property_19 (by rw [h15]; decide) (by rw [h15]; decide) (by rw [h15]; rfl) (by decide) ?_
            refine j_aload_n X (i := 0) dX9_property_95 rfl rfl ?_
            refine j_getf X 9 1 rfl cw_X9 fl_X9_17 (by decide) dX9_property_96 (ad_mem hL (by decide)) (FW9 hL) rfl ?_
            refine j_iconst X (3) dX9_property_99 (by decide) ?_
            refine j_iald X dX9_property_100 (ad_mem hL (by decide)) (FWr97 hL) (by unfold vp_in; decide) ?_
            exact q_iret X hQ dX9_property_101 rfl ⟨(by decide), (by decide)⟩ ⟨rfl, congrArg (fun z => FW G L a z c) (Prod.mk.inj (Option.some.inj hR)).2, congrArg (fun z => some (Value.int z)) (Prod.mk.inj (Option.some.inj hR)).1⟩
          · replace hR := (if_neg h15).symm.trans hR
            by_cases h16 : p0 = (4 : Int32)
            · replace hR := (if_pos h16).symm.trans hR
              refine j_tblIn X (tgt := 102) dX9_property_19 (by rw [h16]; decide) (by rw [h16]; decide) (by rw [h16]; rfl) (by decide) ?_
              refine j_aload_n X (i := 0) dX9_property_102 rfl rfl ?_
              refine j_getf X 9 1 rfl cw_X9 fl_X9_17 (by decide) dX9_property_103 (ad_mem hL (by decide)) (FW9 hL) rfl ?_
              refine j_iconst X (4) dX9_property_106 (by decide) ?_
              refine j_iald X dX9_property_107 (ad_mem hL (by decide)) (FWr97 hL) (by unfold vp_in; decide) ?_
              exact q_iret X hQ dX9_property_108 rfl ⟨(by decide), (by decide)⟩ ⟨rfl, congrArg (fun z => FW G L a z c) (Prod.mk.inj (Option.some.inj hR)).2, congrArg (fun z => some (Value.int z)) (Prod.mk.inj (Option.some.inj hR)).1⟩
            · replace hR := (if_neg h16).symm.trans hR
              by_cases h17 : p0 = (5 : Int32)
              · replace hR := (if_pos h17).symm.trans hR
                refine j_tblIn X (tgt := 109) dX9_property_19 (by rw [h17]; decide) (by rw [h17]; decide) (by rw [h17]; rfl) (by decide) ?_
                refine j_aload_n X (i := 0) dX9_property_109 rfl rfl ?_
                refine j_getf X 9 1 rfl cw_X9 fl_X9_17 (by decide) dX9_property_110 (ad_mem hL (by decide)) (FW9 hL) rfl ?_
                refine j_iconst X (5) dX9_property_113 (by decide) ?_
                refine j_iald X dX9_property_114 (ad_mem hL (by decide)) (FWr97 hL) (by unfold vp_in; decide) ?_
                exact q_iret X hQ dX9_property_115 rfl ⟨(by decide), (by decide)⟩ ⟨rfl, congrArg (fun z => FW G L a z c) (Prod.mk.inj (Option.some.inj hR)).2, congrArg (fun z => some (Value.int z)) (Prod.mk.inj (Option.some.inj hR)).1⟩
              · replace hR := (if_neg h17).symm.trans hR
                by_cases h18 : p0 = (6 : Int32)
                · replace hR := (if_pos h18).symm.trans hR
                  refine j_tblIn X (tgt := 116) dX9_property_19 (by rw [h18]; decide) (by rw [h18]; decide) (by rw [h18]; rfl) (by decide) ?_
                  refine j_aload_n X (i := 0) dX9_property_116 rfl rfl ?_
                  refine j_getf X 9 1 rfl cw_X9 fl_X9_17 (by decide) dX9_property_117 (ad_mem hL (by decide)) (FW9 hL) rfl ?_
                  refine j_bipush X (6) dX9_property_120 (by decide) ?_
                  refine j_iald X dX9_property_122 (ad_mem hL (by decide)) (FWr97 hL) (by unfold vp_in; decide) ?_
                  exact q_iret X hQ dX9_property_123 rfl ⟨(by decide), (by decide)⟩ ⟨rfl, congrArg (fun z => FW G L a z c) (Prod.mk.inj (Option.some.inj hR)).2, congrArg (fun z => some (Value.int z)) (Prod.mk.inj (Option.some.inj hR)).1⟩
                · replace hR := (if_neg h18).symm.trans hR
                  by_cases h19 : p0 = (7 : Int32)
                  · replace hR := (if_pos h19).symm.trans hR
                    refine j_tblIn X (tgt := 124) dX9_property_19 (by rw [h19]; decide) (by rw [h19]; decide) (by rw [h19]; rfl) (by decide) ?_
                    refine j_aload_n X (i := 0) dX9_property_124 rfl rfl ?_
                    refine j_getf X 9 1 rfl cw_X9 fl_X9_17 (by decide) dX9_property_125 (ad_mem hL (by decide)) (FW9 hL) rfl ?_
                    refine j_bipush X (7) dX9_property_128 (by decide) ?_
                    refine j_iald X dX9_property_130 (ad_mem hL (by decide)) (FWr97 hL) (by unfold vp_in; decide) ?_
                    exact q_iret X hQ dX9_property_131 rfl ⟨(by decide), (by decide)⟩ ⟨rfl, congrArg (fun z => FW G L a z c) (Prod.mk.inj (Option.some.inj hR)).2, congrArg (fun z => some (Value.int z)) (Prod.mk.inj (Option.some.inj hR)).1⟩
                  · replace hR := (if_neg h19).symm.trans hR
                    by_cases h20 : p0 = (8 : Int32)
                    · replace hR := (if_pos h20).symm.trans hR
                      refine j_tblIn X (tgt := 132) dX9_property_19 (by rw [h20]; decide) (by rw [h20]; decide) (by rw [h20]; rfl) (by decide) ?_
                      refine j_aload_n X (i := 0) dX9_property_132 rfl rfl ?_
                      refine j_getf X 9 1 rfl cw_X9 fl_X9_17 (by decide) dX9_property_133 (ad_mem hL (by decide)) (FW9 hL) rfl ?_
                      refine j_bipush X (8) dX9_property_136 (by decide) ?_
                      refine j_iald X dX9_property_138 (ad_mem hL (by decide)) (FWr97 hL) (by unfold vp_in; decide) ?_
                      exact q_iret X hQ dX9_property_139 rfl ⟨(by decide), (by decide)⟩ ⟨rfl, congrArg (fun z => FW G L a z c) (Prod.mk.inj (Option.some.inj hR)).2, congrArg (fun z => some (Value.int z)) (Prod.mk.inj (Option.some.inj hR)).1⟩
                    · replace hR := (if_neg h20).symm.trans hR
                      by_cases h21 : p0 = (9 : Int32)
                      · replace hR := (if_pos h21).symm.trans hR
                        refine j_tblIn X (tgt := 140) dX9_property_19 (by rw [h21]; decide) (by rw [h21]; decide) (by rw [h21]; rfl) (by decide) ?_
                        refine j_aload_n X (i := 0) dX9_property_140 rfl rfl ?_
                        refine j_getf X 9 1 rfl cw_X9 fl_X9_17 (by decide) dX9_property_141 (ad_mem hL (by decide)) (FW9 hL) rfl ?_
                        refine j_bipush X (9) dX9_property_144 (by decide) ?_
                        refine j_iald X dX9_property_146 (ad_mem hL (by decide)) (FWr97 hL) (by unfold vp_in; decide) ?_
                        exact q_iret X hQ dX9_property_147 rfl ⟨(by decide), (by decide)⟩ ⟨rfl, congrArg (fun z => FW G L a z c) (Prod.mk.inj (Option.some.inj hR)).2, congrArg (fun z => some (Value.int z)) (Prod.mk.inj (Option.some.inj hR)).1⟩
                      · replace hR := (if_neg h21).symm.trans hR
                        by_cases h22 : p0 = (10 : Int32)
                        · replace hR := (if_pos h22).symm.trans hR
                          refine j_tblIn X (tgt := 148) dX9_property_19 (by rw [h22]; decide) (by rw [h22]; decide) (by rw [h22]; rfl) (by decide) ?_
                          refine j_aload_n X (i := 0) dX9_property_148 rfl rfl ?_
                          refine j_getf X 9 1 rfl cw_X9 fl_X9_17 (by decide) dX9_property_149 (ad_mem hL (by decide)) (FW9 hL) rfl ?_
                          refine j_bipush X (10) dX9_property_152 (by decide) ?_
                          refine j_iald X dX9_property_154 (ad_mem hL (by decide)) (FWr97 hL) (by unfold vp_in; decide) ?_
                          exact q_iret X hQ dX9_property_155 rfl ⟨(by decide), (by decide)⟩ ⟨rfl, congrArg (fun z => FW G L a z c) (Prod.mk.inj (Option.some.inj hR)).2, congrArg (fun z => some (Value.int z)) (Prod.mk.inj (Option.some.inj hR)).1⟩
                        · replace hR := (if_neg h22).symm.trans hR
                          refine j_tblOut X (tgt := 156) dX9_property_19 (sw_out (lo := 0) (n := 11) (by decide) (by decide) (fun i hi => match i, hi with | 0, _ => h9 | 1, _ => h10 | 2, _ => h14 | 3, _ => h15 | 4, _ => h16 | 5, _ => h17 | 6, _ => h18 | 7, _ => h19 | 8, _ => h20 | 9, _ => h21 | 10, _ => h22 | _ + 11, h => absurd h (by omega))) (by decide) ?_
                          refine j_aload_n X (i := 0) dX9_property_156 rfl rfl ?_
                          refine j_getf X 9 1 rfl cw_X9 fl_X9_17 (by decide) dX9_property_157 (ad_mem hL (by decide)) (FW9 hL) rfl ?_
                          refine j_bipush X (11) dX9_property_160 (by decide) ?_
                          refine j_iald X dX9_property_162 (ad_mem hL (by decide)) (FWr97 hL) (by unfold vp_in; decide) ?_
                          exact q_iret X hQ dX9_property_163 rfl ⟨(by decide), (by decide)⟩ ⟨rfl, congrArg (fun z => FW G L a z c) (Prod.mk.inj (Option.some.inj hR)).2, congrArg (fun z => some (Value.int z)) (Prod.mk.inj (Option.some.inj hR)).1⟩
  · replace hR := (if_pos h8).symm.trans hR
    refine j_iconst X (0) dX9_property_16 (by decide) ?_
    exact q_iret X hQ dX9_property_17 rfl ⟨(by decide), (by decide)⟩ ⟨rfl, congrArg (fun z => FW G L a z c) (Prod.mk.inj (Option.some.inj hR)).2, congrArg (fun z => some (Value.int z)) (Prod.mk.inj (Option.some.inj hR)).1⟩
def f_X9_isPeriod (N : Nat) (p0 : Int32) (b : Mem) : Option Int32 := bT (f_X9_in (Int32.toInt64 p0) (0 : Int64) (Int32.toInt64 ((b 1 ((2 : Int32)).toNatClampNeg) - (1 : Int32))) b) fun x2 => some x2
set_option maxRecDepth 100000 in
set_option maxHeartbeats 4000000 in
theorem m_X9_isPeriod {l : Launch} (hl : l.stackTraces = false) {G : GG} {L : List Nat} (hL : LOK L) {a b c : Mem} {N : Nat} {p0 : Int32} {v : Int32} (hR : f_X9_isPeriod N p0 b = some v) : Ct l G yX9_isPeriod (.code yX9_isPeriod cX9_isPeriod 2 (some .boolean)) 1 25 0 0 [.ref (ad L 96), .int p0] L (FW G L a b c) px0 (stay L (fun r f1 => f1 = (FW G L a b c) ∧ r = some (.int v) ∧ isB v)) := by
  refine Ct.ofq (own := RX9) hl rfl (by decide) [some (.ref (ad L 96)), some (.int p0)] rfl (Nat.le_of_ble_eq_true rfl) ?_
  intro p e s m below meth c9 A ar Q hQ X
  unfold f_X9_isPeriod at hR
  refine j_iload_n X (i := 1) dX9_isPeriod_0 rfl rfl ?_
  refine j_i2l X dX9_isPeriod_1 ?_
  refine j_lconst X (0) dX9_isPeriod_2 (by decide) ?_
  refine j_aload_n X (i := 0) dX9_isPeriod_3 rfl rfl ?_
  refine j_getf X 9 1 rfl cw_X9 fl_X9_17 (by decide) dX9_isPeriod_4 (ad_mem hL (by decide)) (FW9 hL) rfl ?_
  refine j_iconst X (2) dX9_isPeriod_7 (by decide) ?_
  refine j_iald X dX9_isPeriod_8 (ad_mem hL (by decide)) (FWr97 hL) (by unfold vp_in; decide) ?_
  refine j_iconst X (1) dX9_isPeriod_9 (by decide) ?_
  refine j_isub X dX9_isPeriod_10 ?_
  refine j_i2l X dX9_isPeriod_11 ?_
  obtain ⟨x2, h1, hR⟩ := bT_inv hR
  refine j_callS3 X (m_X9_in hl hL h1) ml_X9_64 st_yX9_in in_X9 cd_yX9_in hy_yX9_in dX9_isPeriod_12 ⟨(by decide), (by decide)⟩ ⟨(by decide), (by decide)⟩ (Nat.le_of_ble_eq_true rfl) (fun _ h => h.elim) (fun r9 L9 f9 h9 => ?_)
  obtain ⟨h91, h92, h93, h3⟩ := h9
  subst r9
  subst f9
  subst L9
  dsimp only [Option.toList, List.cons_append, List.nil_append, List.append]
  exact q_zret X hQ dX9_isPeriod_15 rfl (nar_B h3) ⟨(by decide), (by decide)⟩ ⟨rfl, rfl, congrArg (fun z => some (Value.int z)) (Option.some.inj hR), (Option.some.inj hR) ▸ h3⟩
def f_X9_passes2 (p0 : Int32) (p1 : Int32) (b : Mem) : (Int32 × Mem) := bT2 (f_X9_passes3 p0 p1 (1 : Int32) b) fun x2 b3 => (x2, b3)
set_option maxRecDepth 100000 in
set_option maxHeartbeats 4000000 in
theorem m_X9_passes2 {l : Launch} (hl : l.stackTraces = false) {G : GG} {L : List Nat} (hL : LOK L) {a b c : Mem} {p0 : Int32} (hB0 : isB p0) {p1 : Int32} (hB1 : isB p1) {v : Int32} {a' : Mem} (hR : f_X9_passes2 p0 p1 b = (v, a')) : Ct l G yX9_passes2 (.code yX9_passes2 cX9_passes2 3 (some .boolean)) 1 23 0 0 [.ref (ad L 96), .int p0, .int p1] L (FW G L a b c) px0 (stay L (fun r f1 => f1 = (FW G L a a' c) ∧ r = some (.int v) ∧ isB v)) := by
  refine Ct.ofq (own := RX9) hl rfl (by decide) [some (.ref (ad L 96)), some (.int p0), some (.int p1)] rfl (Nat.le_of_ble_eq_true rfl) ?_
  intro p e s m below meth c9 A ar Q hQ X
  unfold f_X9_passes2 at hR
  refine j_aload_n X (i := 0) dX9_passes2_0 rfl rfl ?_
  refine j_iload_n X (i := 1) dX9_passes2_1 rfl rfl ?_
  refine j_iload_n X (i := 2) dX9_passes2_2 rfl rfl ?_
  refine j_iconst X (1) dX9_passes2_3 (by decide) ?_
  obtain ⟨x2, b3, h1, hR⟩ := bT2_inv hR
  refine j_callV3 X 9 (m_X9_passes3 hl hL hB0 hB1 isB_1 h1) ml_X9_7 im_yX9_passes3 se_yX9_passes3 in_X9 cd_yX9_passes3 hy_yX9_passes3 dX9_passes2_4 rfl (ad_mem hL (by decide)) (FW9 hL) ⟨(by decide), (by decide)⟩ ⟨(by decide), (by decide)⟩ (Nat.le_of_ble_eq_true rfl) (fun _ h => h.elim) (fun r9 L9 f9 h9 => ?_)
  obtain ⟨h91, h92, h93, h4⟩ := h9
  subst r9
  subst f9
  subst L9
  dsimp only [Option.toList, List.cons_append, List.nil_append, List.append]
  exact q_zret X hQ dX9_passes2_7 rfl (nar_B h4) ⟨(by decide), (by decide)⟩ ⟨rfl, congrArg (fun z => FW G L a z c) (Prod.mk.inj hR).2, congrArg (fun z => some (Value.int z)) (Prod.mk.inj hR).1, (Prod.mk.inj hR).1 ▸ h4⟩
def f_X9_period (N : Nat) (p0 : Int32) (p1 : Int32) (b : Mem) : Option (Int32 × Mem) := bP (f_X9_isPeriod N p0 b) fun x2 => bT (f_X9_in (Int32.toInt64 p1) (0 : Int64) (4 : Int64) b) fun x5 => bT2 (f_X9_passes2 x2 x5 b) fun x8 b9 => if x8 = 0 then (some ((0 : Int32), b9)) else (bP (f_X9_ofPeriod N p0 p1 b9) fun x13 => some (x13, b9))
set_option maxRecDepth 100000 in
set_option maxHeartbeats 4000000 in
theorem m_X9_period {l : Launch} (hl : l.stackTraces = false) {G : GG} {L : List Nat} (hL : LOK L) {a b c : Mem} {N : Nat} {p0 : Int32} {p1 : Int32} {v : Int32} {a' : Mem} (hR : f_X9_period N p0 p1 b = some (v, a')) : Ct l G yX9_period (.code yX9_period cX9_period 3 (some .int)) 2 46 0 0 [.ref (ad L 96), .int p0, .int p1] L (FW G L a b c) px0 (stay L (fun r f1 => f1 = (FW G L a a' c) ∧ r = some (.int v))) := by
  refine Ct.ofq (own := RX9) hl rfl (by decide) [some (.ref (ad L 96)), some (.int p0), some (.int p1)] rfl (Nat.le_of_ble_eq_true rfl) ?_
  intro p e s m below meth c9 A ar Q hQ X
  unfold f_X9_period at hR
  refine j_aload_n X (i := 0) dX9_period_0 rfl rfl ?_
  refine j_aload_n X (i := 0) dX9_period_1 rfl rfl ?_
  refine j_iload_n X (i := 1) dX9_period_2 rfl rfl ?_
  obtain ⟨x2, h1, hR⟩ := bP_inv hR
  refine j_callV1 X 9 (m_X9_isPeriod hl hL h1) ml_X9_309 im_yX9_isPeriod se_yX9_isPeriod in_X9 cd_yX9_isPeriod hy_yX9_isPeriod dX9_period_3 rfl (ad_mem hL (by decide)) (FW9 hL) ⟨(by decide), (by decide)⟩ ⟨(by decide), (by decide)⟩ (Nat.le_of_ble_eq_true rfl) (fun _ h => h.elim) (fun r9 L9 f9 h9 => ?_)
  obtain ⟨h91, h92, h93, h3⟩ := h9
  subst r9
  subst f9
  subst L9
  dsimp only [Option.toList, List.cons_append, List.nil_append, List.append]
  refine j_iload_n X (i := 2) dX9_period_6 rfl rfl ?_
  refine j_i2l X dX9_period_7 ?_
  refine j_lconst X (0) dX9_period_8 (by decide) ?_
  refine j_ldc2 X dX9_period_9 cj_X9_312 ?_
  obtain ⟨x5, h4, hR⟩ := bT_inv hR
  refine j_callS3 X (m_X9_in hl hL h4) ml_X9_64 st_yX9_in in_X9 cd_yX9_in hy_yX9_in dX9_period_12 ⟨(by decide), (by decide)⟩ ⟨(by decide), (by decide)⟩ (Nat.le_of_ble_eq_true rfl) (fun _ h => h.elim) (fun r9 L9 f9 h9 => ?_)
  obtain ⟨h91, h92, h93, h6⟩ := h9
  subst r9
  subst f9
  subst L9
  dsimp only [Option.toList, List.cons_append, List.nil_append, List.append]
  obtain ⟨x8, b9, h7, hR⟩ := bT2_inv hR
  refine j_callV2 X 9 (m_X9_passes2 hl hL h3 h6 h7) ml_X9_314 im_yX9_passes2 se_yX9_passes2 in_X9 cd_yX9_passes2 hy_yX9_passes2 dX9_period_15 rfl (ad_mem hL (by decide)) (FW9 hL) ⟨(by decide), (by decide)⟩ ⟨(by decide), (by decide)⟩ (Nat.le_of_ble_eq_true rfl) (fun _ h => h.elim) (fun r9 L9 f9 h9 => ?_)
  obtain ⟨h91, h92, h93, h10⟩ := h9
  subst r9
  subst f9
  subst L9
  dsimp only [Option.toList, List.cons_append, List.nil_append, List.append]
  refine j_if_eq X (tgt := 30) dX9_period_18 (by decide) (fun h11 => ?_) (fun h11 => ?_)
  · replace hR := (if_pos h11).symm.trans hR
    refine j_iconst X (0) dX9_period_30 (by decide) ?_
    exact q_iret X hQ dX9_period_31 rfl ⟨(by decide), (by decide)⟩ ⟨rfl, congrArg (fun z => FW G L a z c) (Prod.mk.inj (Option.some.inj hR)).2, congrArg (fun z => some (Value.int z)) (Prod.mk.inj (Option.some.inj hR)).1⟩
  · replace hR := (if_neg h11).symm.trans hR
    refine j_aload_n X (i := 0) dX9_period_21 rfl rfl ?_
    refine j_iload_n X (i := 1) dX9_period_22 rfl rfl ?_
    refine j_iload_n X (i := 2) dX9_period_23 rfl rfl ?_
    obtain ⟨x13, h12, hR⟩ := bP_inv hR
    refine j_callV2 X 9 (m_X9_ofPeriod hl hL h12) ml_X9_61 im_yX9_ofPeriod se_yX9_ofPeriod in_X9 cd_yX9_ofPeriod hy_yX9_ofPeriod dX9_period_24 rfl (ad_mem hL (by decide)) (FW9 hL) ⟨(by decide), (by decide)⟩ ⟨(by decide), (by decide)⟩ (Nat.le_of_ble_eq_true rfl) (fun _ h => h.elim) (fun r9 L9 f9 h9 => ?_)
    obtain ⟨h91, h92, h93⟩ := h9
    subst r9
    subst f9
    subst L9
    dsimp only [Option.toList, List.cons_append, List.nil_append, List.append]
    refine j_goto X (tgt := 31) dX9_period_27 (by decide) ?_
    exact q_iret X hQ dX9_period_31 rfl ⟨(by decide), (by decide)⟩ ⟨rfl, congrArg (fun z => FW G L a z c) (Prod.mk.inj (Option.some.inj hR)).2, congrArg (fun z => some (Value.int z)) (Prod.mk.inj (Option.some.inj hR)).1⟩
def f_X9_isSide (p0 : Int32) (b : Mem) : Int32 := bT (f_X9_in (Int32.toInt64 p0) (0 : Int64) (1 : Int64) b) fun x2 => x2
set_option maxRecDepth 100000 in
set_option maxHeartbeats 4000000 in
theorem m_X9_isSide {l : Launch} (hl : l.stackTraces = false) {G : GG} {L : List Nat} (hL : LOK L) {a b c : Mem} {p0 : Int32} {v : Int32} (hR : f_X9_isSide p0 b = v) : Ct l G yX9_isSide (.code yX9_isSide cX9_isSide 1 (some .boolean)) 1 25 0 0 [.int p0] L (FW G L a b c) px0 (stay L (fun r f1 => f1 = (FW G L a b c) ∧ r = some (.int v) ∧ isB v)) := by
  refine Ct.ofq (own := RX9) hl rfl (by decide) [some (.int p0)] rfl (Nat.le_of_ble_eq_true rfl) ?_
  intro p e s m below meth c9 A ar Q hQ X
  unfold f_X9_isSide at hR
  refine j_iload_n X (i := 0) dX9_isSide_0 rfl rfl ?_
  refine j_i2l X dX9_isSide_1 ?_
  refine j_lconst X (0) dX9_isSide_2 (by decide) ?_
  refine j_lconst X (1) dX9_isSide_3 (by decide) ?_
  obtain ⟨x2, h1, hR⟩ := bT_inv hR
  refine j_callS3 X (m_X9_in hl hL h1) ml_X9_64 st_yX9_in in_X9 cd_yX9_in hy_yX9_in dX9_isSide_4 ⟨(by decide), (by decide)⟩ ⟨(by decide), (by decide)⟩ (Nat.le_of_ble_eq_true rfl) (fun _ h => h.elim) (fun r9 L9 f9 h9 => ?_)
  obtain ⟨h91, h92, h93, h3⟩ := h9
  subst r9
  subst f9
  subst L9
  dsimp only [Option.toList, List.cons_append, List.nil_append, List.append]
  exact q_zret X hQ dX9_isSide_7 rfl (nar_B h3) ⟨(by decide), (by decide)⟩ ⟨rfl, rfl, congrArg (fun z => some (Value.int z)) hR, hR ▸ h3⟩
def f_X9_of (N : Nat) (p0 : Int32) (p1 : Int32) (b : Mem) : Option Int32 := chkI (((37 : Int32) + ((17 : Int32) * p0)) + p1) 311 <| some (b (rowM (b 0 3)) ((((37 : Int32) + ((17 : Int32) * p0)) + p1)).toNatClampNeg)
set_option maxRecDepth 100000 in
set_option maxHeartbeats 4000000 in
theorem m_X9_of {l : Launch} (hl : l.stackTraces = false) {G : GG} {L : List Nat} (hL : LOK L) {a b c : Mem} {N : Nat} {p0 : Int32} {p1 : Int32} {v : Int32} (hR : f_X9_of N p0 p1 b = some v) : Ct l G yX9_of (.code yX9_of cX9_of 3 (some .int)) 0 0 0 0 [.ref (ad L 96), .int p0, .int p1] L (FW G L a b c) px0 (stay L (fun r f1 => f1 = (FW G L a b c) ∧ r = some (.int v))) := by
  refine Ct.ofq (own := RX9) hl rfl (by decide) [some (.ref (ad L 96)), some (.int p0), some (.int p1)] rfl (Nat.le_of_ble_eq_true rfl) ?_
  intro p e s m below meth c9 A ar Q hQ X
  unfold f_X9_of at hR
  refine j_aload_n X (i := 0) dX9_of_0 rfl rfl ?_
  refine j_getf X 9 3 rfl cw_X9 fl_X9_24 (by decide) dX9_of_1 (ad_mem hL (by decide)) (FW9 hL) rfl ?_
  refine j_bipush X (37) dX9_of_4 (by decide) ?_
  refine j_bipush X (17) dX9_of_6 (by decide) ?_
  refine j_iload_n X (i := 1) dX9_of_8 rfl rfl ?_
  refine j_imul X dX9_of_9 ?_
  refine j_iadd X dX9_of_10 ?_
  refine j_iload_n X (i := 2) dX9_of_11 rfl rfl ?_
  refine j_iadd X dX9_of_12 ?_
  obtain ⟨h1, hR⟩ := chkI_inv hR
  refine j_iald X dX9_of_13 (inLr hL) (FWrow hL) h1 ?_
  exact q_iret X hQ dX9_of_14 rfl ⟨(by decide), (by decide)⟩ ⟨rfl, rfl, congrArg (fun z => some (Value.int z)) (Option.some.inj hR)⟩
def f_X9_its (N : Nat) (p0 : Int32) (p1 : Int32) (b : Mem) : Option Int32 := bP (f_X9_of N p0 (2 : Int32) b) fun x2 => bP (f_X9_ofPeriod N x2 p1 b) fun x5 => some x5
set_option maxRecDepth 100000 in
set_option maxHeartbeats 4000000 in
theorem m_X9_its {l : Launch} (hl : l.stackTraces = false) {G : GG} {L : List Nat} (hL : LOK L) {a b c : Mem} {N : Nat} {p0 : Int32} {p1 : Int32} {v : Int32} (hR : f_X9_its N p0 p1 b = some v) : Ct l G yX9_its (.code yX9_its cX9_its 3 (some .int)) 1 22 0 0 [.ref (ad L 96), .int p0, .int p1] L (FW G L a b c) px0 (stay L (fun r f1 => f1 = (FW G L a b c) ∧ r = some (.int v))) := by
  refine Ct.ofq (own := RX9) hl rfl (by decide) [some (.ref (ad L 96)), some (.int p0), some (.int p1)] rfl (Nat.le_of_ble_eq_true rfl) ?_
  intro p e s m below meth c9 A ar Q hQ X
  unfold f_X9_its at hR
  refine j_aload_n X (i := 0) dX9_its_0 rfl rfl ?_
  refine j_aload_n X (i := 0) dX9_its_1 rfl rfl ?_
  refine j_iload_n X (i := 1) dX9_its_2 rfl rfl ?_
  refine j_iconst X (2) dX9_its_3 (by decide) ?_
  obtain ⟨x2, h1, hR⟩ := bP_inv hR
  refine j_callV2 X 9 (m_X9_of hl hL h1) ml_X9_57 im_yX9_of se_yX9_of in_X9 cd_yX9_of hy_yX9_of dX9_its_4 rfl (ad_mem hL (by decide)) (FW9 hL) ⟨(by decide), (by decide)⟩ ⟨(by decide), (by decide)⟩ (Nat.le_of_ble_eq_true rfl) (fun _ h => h.elim) (fun r9 L9 f9 h9 => ?_)
  obtain ⟨h91, h92, h93⟩ := h9
  subst r9
  subst f9
  subst L9
  dsimp only [Option.toList, List.cons_append, List.nil_append, List.append]
  refine j_iload_n X (i := 2) dX9_its_7 rfl rfl ?_
  obtain ⟨x5, h4, hR⟩ := bP_inv hR
  refine j_callV2 X 9 (m_X9_ofPeriod hl hL h4) ml_X9_61 im_yX9_ofPeriod se_yX9_ofPeriod in_X9 cd_yX9_ofPeriod hy_yX9_ofPeriod dX9_its_8 rfl (ad_mem hL (by decide)) (FW9 hL) ⟨(by decide), (by decide)⟩ ⟨(by decide), (by decide)⟩ (Nat.le_of_ble_eq_true rfl) (fun _ h => h.elim) (fun r9 L9 f9 h9 => ?_)
  obtain ⟨h91, h92, h93⟩ := h9
  subst r9
  subst f9
  subst L9
  dsimp only [Option.toList, List.cons_append, List.nil_append, List.append]
  exact q_iret X hQ dX9_its_11 rfl ⟨(by decide), (by decide)⟩ ⟨rfl, rfl, congrArg (fun z => some (Value.int z)) (Option.some.inj hR)⟩
def f_X9_movesLeft (N : Nat) (p0 : Int32) (b : Mem) : Option Int32 := bP (f_X9_its N p0 (0 : Int32) b) fun x2 => if x2 = 0 then (some (-1 : Int32)) else (bP (f_X9_its N p0 (0 : Int32) b) fun x6 => bP (f_X9_of N p0 (3 : Int32) b) fun x9 => some (x6 - x9))
set_option maxRecDepth 100000 in
set_option maxHeartbeats 4000000 in
theorem m_X9_movesLeft {l : Launch} (hl : l.stackTraces = false) {G : GG} {L : List Nat} (hL : LOK L) {a b c : Mem} {N : Nat} {p0 : Int32} {v : Int32} (hR : f_X9_movesLeft N p0 b = some v) : Ct l G yX9_movesLeft (.code yX9_movesLeft cX9_movesLeft 2 (some .int)) 2 44 0 0 [.ref (ad L 96), .int p0] L (FW G L a b c) px0 (stay L (fun r f1 => f1 = (FW G L a b c) ∧ r = some (.int v))) := by
  refine Ct.ofq (own := RX9) hl rfl (by decide) [some (.ref (ad L 96)), some (.int p0)] rfl (Nat.le_of_ble_eq_true rfl) ?_
  intro p e s m below meth c9 A ar Q hQ X
  unfold f_X9_movesLeft at hR
  refine j_aload_n X (i := 0) dX9_movesLeft_0 rfl rfl ?_
  refine j_iload_n X (i := 1) dX9_movesLeft_1 rfl rfl ?_
  refine j_iconst X (0) dX9_movesLeft_2 (by decide) ?_
  obtain ⟨x2, h1, hR⟩ := bP_inv hR
  refine j_callV2 X 9 (m_X9_its hl hL h1) ml_X9_87 im_yX9_its se_yX9_its in_X9 cd_yX9_its hy_yX9_its dX9_movesLeft_3 rfl (ad_mem hL (by decide)) (FW9 hL) ⟨(by decide), (by decide)⟩ ⟨(by decide), (by decide)⟩ (Nat.le_of_ble_eq_true rfl) (fun _ h => h.elim) (fun r9 L9 f9 h9 => ?_)
  obtain ⟨h91, h92, h93⟩ := h9
  subst r9
  subst f9
  subst L9
  dsimp only [Option.toList, List.cons_append, List.nil_append, List.append]
  refine j_if_ne X (tgt := 13) dX9_movesLeft_6 (by decide) (fun h4 => ?_) (fun h4 => ?_)
  · replace hR := (if_neg h4).symm.trans hR
    refine j_aload_n X (i := 0) dX9_movesLeft_13 rfl rfl ?_
    refine j_iload_n X (i := 1) dX9_movesLeft_14 rfl rfl ?_
    refine j_iconst X (0) dX9_movesLeft_15 (by decide) ?_
    obtain ⟨x6, h5, hR⟩ := bP_inv hR
    refine j_callV2 X 9 (m_X9_its hl hL h5) ml_X9_87 im_yX9_its se_yX9_its in_X9 cd_yX9_its hy_yX9_its dX9_movesLeft_16 rfl (ad_mem hL (by decide)) (FW9 hL) ⟨(by decide), (by decide)⟩ ⟨(by decide), (by decide)⟩ (Nat.le_of_ble_eq_true rfl) (fun _ h => h.elim) (fun r9 L9 f9 h9 => ?_)
    obtain ⟨h91, h92, h93⟩ := h9
    subst r9
    subst f9
    subst L9
    dsimp only [Option.toList, List.cons_append, List.nil_append, List.append]
    refine j_aload_n X (i := 0) dX9_movesLeft_19 rfl rfl ?_
    refine j_iload_n X (i := 1) dX9_movesLeft_20 rfl rfl ?_
    refine j_iconst X (3) dX9_movesLeft_21 (by decide) ?_
    obtain ⟨x9, h8, hR⟩ := bP_inv hR
    refine j_callV2 X 9 (m_X9_of hl hL h8) ml_X9_57 im_yX9_of se_yX9_of in_X9 cd_yX9_of hy_yX9_of dX9_movesLeft_22 rfl (ad_mem hL (by decide)) (FW9 hL) ⟨(by decide), (by decide)⟩ ⟨(by decide), (by decide)⟩ (Nat.le_of_ble_eq_true rfl) (fun _ h => h.elim) (fun r9 L9 f9 h9 => ?_)
    obtain ⟨h91, h92, h93⟩ := h9
    subst r9
    subst f9
    subst L9
    dsimp only [Option.toList, List.cons_append, List.nil_append, List.append]
    refine j_isub X dX9_movesLeft_25 ?_
    exact q_iret X hQ dX9_movesLeft_26 rfl ⟨(by decide), (by decide)⟩ ⟨rfl, rfl, congrArg (fun z => some (Value.int z)) (Option.some.inj hR)⟩
  · replace hR := (if_pos h4).symm.trans hR
    refine j_iconst X (-1) dX9_movesLeft_9 (by decide) ?_
    refine j_goto X (tgt := 26) dX9_movesLeft_10 (by decide) ?_
    exact q_iret X hQ dX9_movesLeft_26 rfl ⟨(by decide), (by decide)⟩ ⟨rfl, rfl, congrArg (fun z => some (Value.int z)) (Option.some.inj hR)⟩
def f_X9_side (N : Nat) (p0 : Int32) (p1 : Int32) (b : Mem) : Option (Int32 × Mem) := bT (f_X9_isSide p0 b) fun x2 => bT (f_X9_in (Int32.toInt64 p1) (0 : Int64) (11 : Int64) b) fun x5 => bT2 (f_X9_passes2 x2 x5 b) fun x8 b9 => if x8 = 0 then (some ((0 : Int32), b9)) else (if p1 = (0 : Int32) then (bP (f_X9_of N p0 (0 : Int32) b9) fun x14 => some (x14, b9)) else if p1 = (1 : Int32) then (bP (f_X9_of N p0 (1 : Int32) b9) fun x18 => some (x18, b9)) else if p1 = (2 : Int32) then (bP (f_X9_of N p0 (2 : Int32) b9) fun x22 => some (x22, b9)) else if p1 = (3 : Int32) then (bP (f_X9_of N p0 (3 : Int32) b9) fun x26 => some (x26, b9)) else if p1 = (4 : Int32) then (bP (f_X9_of N p0 (4 : Int32) b9) fun x30 => some (x30, b9)) else if p1 = (5 : Int32) then (bP (f_X9_of N p0 (5 : Int32) b9) fun x34 => some (x34, b9)) else if p1 = (6 : Int32) then (bP (f_X9_of N p0 (6 : Int32) b9) fun x38 => some (x38, b9)) else if p1 = (7 : Int32) then (bP (f_X9_of N p0 (7 : Int32) b9) fun x42 => some (x42, b9)) else if p1 = (8 : Int32) then (bP (f_X9_of N p0 (8 : Int32) b9) fun x46 => some (x46, b9)) else if p1 = (9 : Int32) then (bP (f_X9_of N p0 (9 : Int32) b9) fun x50 => some (x50, b9)) else if p1 = (10 : Int32) then (bP (f_X9_of N p0 (10 : Int32) b9) fun x54 => some (x54, b9)) else (bP (f_X9_movesLeft N p0 b9) fun x57 => some (x57, b9)))
set_option maxRecDepth 100000 in
set_option maxHeartbeats 4000000 in
theorem m_X9_side {l : Launch} (hl : l.stackTraces = false) {G : GG} {L : List Nat} (hL : LOK L) {a b c : Mem} {N : Nat} {p0 : Int32} {p1 : Int32} {v : Int32} {a' : Mem} (hR : f_X9_side N p0 p1 b = some (v, a')) : Ct l G yX9_side (.code yX9_side cX9_side 3 (some .int)) 3 65 0 0 [.ref (ad L 96), .int p0, .int p1] L (FW G L a b c) px0 (stay L (fun r f1 => f1 = (FW G L a a' c) ∧ r = some (.int v))) := by
  refine Ct.ofq (own := RX9) hl rfl (by decide) [some (.ref (ad L 96)), some (.int p0), some (.int p1)] rfl (Nat.le_of_ble_eq_true rfl) ?_
  intro p e s m below meth c9 A ar Q hQ X
  unfold f_X9_side at hR
  refine j_aload_n X (i := 0) dX9_side_0 rfl rfl ?_
  refine j_iload_n X (i := 1) dX9_side_1 rfl rfl ?_
  obtain ⟨x2, h1, hR⟩ := bT_inv hR
  refine j_callS1 X (m_X9_isSide hl hL h1) ml_X9_318 st_yX9_isSide in_X9 cd_yX9_isSide hy_yX9_isSide dX9_side_2 ⟨(by decide), (by decide)⟩ ⟨(by decide), (by decide)⟩ (Nat.le_of_ble_eq_true rfl) (fun _ h => h.elim) (fun r9 L9 f9 h9 => ?_)
  obtain ⟨h91, h92, h93, h3⟩ := h9
  subst r9
  subst f9
  subst L9
  dsimp only [Option.toList, List.cons_append, List.nil_append, List.append]
  refine j_iload_n X (i := 2) dX9_side_5 rfl rfl ?_
  refine j_i2l X dX9_side_6 ?_
  refine j_lconst X (0) dX9_side_7 (by decide) ?_
  refine j_ldc2 X dX9_side_8 cj_X9_307 ?_
  obtain ⟨x5, h4, hR⟩ := bT_inv hR
  refine j_callS3 X (m_X9_in hl hL h4) ml_X9_64 st_yX9_in in_X9 cd_yX9_in hy_yX9_in dX9_side_11 ⟨(by decide), (by decide)⟩ ⟨(by decide), (by decide)⟩ (Nat.le_of_ble_eq_true rfl) (fun _ h => h.elim) (fun r9 L9 f9 h9 => ?_)
  obtain ⟨h91, h92, h93, h6⟩ := h9
  subst r9
  subst f9
  subst L9
  dsimp only [Option.toList, List.cons_append, List.nil_append, List.append]
  obtain ⟨x8, b9, h7, hR⟩ := bT2_inv hR
  refine j_callV2 X 9 (m_X9_passes2 hl hL h3 h6 h7) ml_X9_314 im_yX9_passes2 se_yX9_passes2 in_X9 cd_yX9_passes2 hy_yX9_passes2 dX9_side_14 rfl (ad_mem hL (by decide)) (FW9 hL) ⟨(by decide), (by decide)⟩ ⟨(by decide), (by decide)⟩ (Nat.le_of_ble_eq_true rfl) (fun _ h => h.elim) (fun r9 L9 f9 h9 => ?_)
  obtain ⟨h91, h92, h93, h10⟩ := h9
  subst r9
  subst f9
  subst L9
  dsimp only [Option.toList, List.cons_append, List.nil_append, List.append]
  refine j_if_ne X (tgt := 22) dX9_side_17 (by decide) (fun h11 => ?_) (fun h11 => ?_)
  · replace hR := (if_neg h11).symm.trans hR
    refine j_iload_n X (i := 2) dX9_side_22 rfl rfl ?_
    by_cases h12 : p1 = (0 : Int32)
    · replace hR := (if_pos h12).symm.trans hR
      refine j_tblIn X (tgt := 80) dX9_side_23 (by rw [h12]; decide) (by rw [h12]; decide) (by rw [h12]; rfl) (by decide) ?_
      refine j_aload_n X (i := 0) dX9_side_80 rfl rfl ?_
      refine j_iload_n X (i := 1) dX9_side_81 rfl rfl ?_
      refine j_iconst X (0) dX9_side_82 (by decide) ?_
      obtain ⟨x14, h13, hR⟩ := bP_inv hR
      refine j_callV2 X 9 (m_X9_of hl hL h13) ml_X9_57 im_yX9_of se_yX9_of in_X9 cd_yX9_of hy_yX9_of dX9_side_83 rfl (ad_mem hL (by decide)) (FW9 hL) ⟨(by decide), (by decide)⟩ ⟨(by decide), (by decide)⟩ (Nat.le_of_ble_eq_true rfl) (fun _ h => h.elim) (fun r9 L9 f9 h9 => ?_)
      obtain ⟨h91, h92, h93⟩ := h9
      subst r9
      subst f9
      subst L9
      dsimp only [Option.toList, List.cons_append, List.nil_append, List.append]
      exact q_iret X hQ dX9_side_86 rfl ⟨(by decide), (by decide)⟩ ⟨rfl, congrArg (fun z => FW G L a z c) (Prod.mk.inj (Option.some.inj hR)).2, congrArg (fun z => some (Value.int z)) (Prod.mk.inj (Option.some.inj hR)).1⟩
    · replace hR := (if_neg h12).symm.trans hR
      by_cases h16 : p1 = (1 : Int32)
      · replace hR := (if_pos h16).symm.trans hR
        refine j_tblIn X (tgt := 87) dX9_side_23 (by rw [h16]; decide) (by rw [h16]; decide) (by rw [h16]; rfl) (by decide) ?_
        refine j_aload_n X (i := 0) dX9_side_87 rfl rfl ?_
        refine j_iload_n X (i := 1) dX9_side_88 rfl rfl ?_
        refine j_iconst X (1) dX9_side_89 (by decide) ?_
        obtain ⟨x18, h17, hR⟩ := bP_inv hR
        refine j_callV2 X 9 (m_X9_of hl hL h17) ml_X9_57 im_yX9_of se_yX9_of in_X9 cd_yX9_of hy_yX9_of dX9_side_90 rfl (ad_mem hL (by decide)) (FW9 hL) ⟨(by decide), (by decide)⟩ ⟨(by decide), (by decide)⟩ (Nat.le_of_ble_eq_true rfl) (fun _ h => h.elim) (fun r9 L9 f9 h9 => ?_)
        obtain ⟨h91, h92, h93⟩ := h9
        subst r9
        subst f9
        subst L9
        dsimp only [Option.toList, List.cons_append, List.nil_append, List.append]
        exact q_iret X hQ dX9_side_93 rfl ⟨(by decide), (by decide)⟩ ⟨rfl, congrArg (fun z => FW G L a z c) (Prod.mk.inj (Option.some.inj hR)).2, congrArg (fun z => some (Value.int z)) (Prod.mk.inj (Option.some.inj hR)).1⟩
      · replace hR := (if_neg h16).symm.trans hR
        by_cases h20 : p1 = (2 : Int32)
        · replace hR := (if_pos h20).symm.trans hR
          refine j_tblIn X (tgt := 94) dX9_side_23 (by rw [h20]; decide) (by rw [h20]; decide) (by rw [h20]; rfl) (by decide) ?_
          refine j_aload_n X (i := 0) dX9_side_94 rfl rfl ?_
          refine j_iload_n X (i := 1) dX9_side_95 rfl rfl ?_
          refine j_iconst X (2) dX9_side_96 (by decide) ?_
          obtain ⟨x22, h21, hR⟩ := bP_inv hR
          refine j_callV2 X 9 (m_X9_of hl hL h21) ml_X9_57 im_yX9_of se_yX9_of in_X9 cd_yX9_of hy_yX9_of dX9_side_97 rfl (ad_mem hL (by decide)) (FW9 hL) ⟨(by decide), (by decide)⟩ ⟨(by decide), (by decide)⟩ (Nat.le_of_ble_eq_true rfl) (fun _ h => h.elim) (fun r9 L9 f9 h9 => ?_)
          obtain ⟨h91, h92, h93⟩ := h9
          subst r9
          subst f9
          subst L9
          dsimp only [Option.toList, List.cons_append, List.nil_append, List.append]
          exact q_iret X hQ dX9_side_100 rfl ⟨(by decide), (by decide)⟩ ⟨rfl, congrArg (fun z => FW G L a z c) (Prod.mk.inj (Option.some.inj hR)).2, congrArg (fun z => some (Value.int z)) (Prod.mk.inj (Option.some.inj hR)).1⟩
        · replace hR := (if_neg h20).symm.trans hR
          by_cases h24 : p1 = (3 : Int32)
          · replace hR := (if_pos h24).symm.trans hR
            refine j_tblIn X (tgt := 101) dX9_side_23 (by rw [h24]; decide) (by rw [h24]; decide) (by rw [h24]; rfl) (by decide) ?_
            refine j_aload_n X (i := 0) dX9_side_101 rfl rfl ?_
            refine j_iload_n X (i := 1) dX9_side_102 rfl rfl ?_
            refine j_iconst X (3) dX9_side_103 (by decide) ?_
            obtain ⟨x26, h25, hR⟩ := bP_inv hR
            refine j_callV2 X 9 (m_X9_of hl hL h25) ml_X9_57 im_yX9_of se_yX9_of in_X9 cd_yX9_of hy_yX9_of dX9_side_104 rfl (ad_mem hL (by decide)) (FW9 hL) ⟨(by decide), (by decide)⟩ ⟨(by decide), (by decide)⟩ (Nat.le_of_ble_eq_true rfl) (fun _ h => h.elim) (fun r9 L9 f9 h9 => ?_)
            obtain ⟨h91, h92, h93⟩ := h9
            subst r9
            subst f9
            subst L9
            dsimp only [Option.toList, List.cons_append, List.nil_append, List.append]
            exact q_iret X hQ dX9_side_107 rfl ⟨(by decide), (by decide)⟩ ⟨rfl, congrArg (fun z => FW G L a z c) (Prod.mk.inj (Option.some.inj hR)).2, congrArg (fun z => some (Value.int z)) (Prod.mk.inj (Option.some.inj hR)).1⟩
          · replace hR := (if_neg h24).symm.trans hR
            by_cases h28 : p1 = (4 : Int32)
            · replace hR := (if_pos h28).symm.trans hR
              refine j_tblIn X (tgt := 108) dX9_side_23 (by rw [h28]; decide) (by rw [h28]; decide) (by rw [h28]; rfl) (by decide) ?_
              refine j_aload_n X (i := 0) dX9_side_108 rfl rfl ?_
              refine j_iload_n X (i := 1) dX9_side_109 rfl rfl ?_
              refine j_iconst X (4) dX9_side_110 (by decide) ?_
              obtain ⟨x30, h29, hR⟩ := bP_inv hR
              refine j_callV2 X 9 (m_X9_of hl hL h29) ml_X9_57 im_yX9_of se_yX9_of in_X9 cd_yX9_of hy_yX9_of dX9_side_111 rfl (ad_mem hL (by decide)) (FW9 hL) ⟨(by decide), (by decide)⟩ ⟨(by decide), (by decide)⟩ (Nat.le_of_ble_eq_true rfl) (fun _ h => h.elim) (fun r9 L9 f9 h9 => ?_)
              obtain ⟨h91, h92, h93⟩ := h9
              subst r9
              subst f9
              subst L9
              dsimp only [Option.toList, List.cons_append, List.nil_append, List.append]
              exact q_iret X hQ dX9_side_114 rfl ⟨(by decide), (by decide)⟩ ⟨rfl, congrArg (fun z => FW G L a z c) (Prod.mk.inj (Option.some.inj hR)).2, congrArg (fun z => some (Value.int z)) (Prod.mk.inj (Option.some.inj hR)).1⟩
            · replace hR := (if_neg h28).symm.trans hR
              by_cases h32 : p1 = (5 : Int32)
              · replace hR := (if_pos h32).symm.trans hR
                refine j_tblIn X (tgt := 115) dX9_side_23 (by rw [h32]; decide) (by rw [h32]; decide) (by rw [h32]; rfl) (by decide) ?_
                refine j_aload_n X (i := 0) dX9_side_115 rfl rfl ?_
                refine j_iload_n X (i := 1) dX9_side_116 rfl rfl ?_
                refine j_iconst X (5) dX9_side_117 (by decide) ?_
                obtain ⟨x34, h33, hR⟩ := bP_inv hR
                refine j_callV2 X 9 (m_X9_of hl hL h33) ml_X9_57 im_yX9_of se_yX9_of in_X9 cd_yX9_of hy_yX9_of dX9_side_118 rfl (ad_mem hL (by decide)) (FW9 hL) ⟨(by decide), (by decide)⟩ ⟨(by decide), (by decide)⟩ (Nat.le_of_ble_eq_true rfl) (fun _ h => h.elim) (fun r9 L9 f9 h9 => ?_)
                obtain ⟨h91, h92, h93⟩ := h9
                subst r9
                subst f9
                subst L9
                dsimp only [Option.toList, List.cons_append, List.nil_append, List.append]
                exact q_iret X hQ dX9_side_121 rfl ⟨(by decide), (by decide)⟩ ⟨rfl, congrArg (fun z => FW G L a z c) (Prod.mk.inj (Option.some.inj hR)).2, congrArg (fun z => some (Value.int z)) (Prod.mk.inj (Option.some.inj hR)).1⟩
              · replace hR := (if_neg h32).symm.trans hR
                by_cases h36 : p1 = (6 : Int32)
                · replace hR := (if_pos h36).symm.trans hR
                  refine j_tblIn X (tgt := 122) dX9_side_23 (by rw [h36]; decide) (by rw [h36]; decide) (by rw [h36]; rfl) (by decide) ?_
                  refine j_aload_n X (i := 0) dX9_side_122 rfl rfl ?_
                  refine j_iload_n X (i := 1) dX9_side_123 rfl rfl ?_
                  refine j_bipush X (6) dX9_side_124 (by decide) ?_
                  obtain ⟨x38, h37, hR⟩ := bP_inv hR
                  refine j_callV2 X 9 (m_X9_of hl hL h37) ml_X9_57 im_yX9_of se_yX9_of in_X9 cd_yX9_of hy_yX9_of dX9_side_126 rfl (ad_mem hL (by decide)) (FW9 hL) ⟨(by decide), (by decide)⟩ ⟨(by decide), (by decide)⟩ (Nat.le_of_ble_eq_true rfl) (fun _ h => h.elim) (fun r9 L9 f9 h9 => ?_)
                  obtain ⟨h91, h92, h93⟩ := h9
                  subst r9
                  subst f9
                  subst L9
                  dsimp only [Option.toList, List.cons_append, List.nil_append, List.append]
                  exact q_iret X hQ dX9_side_129 rfl ⟨(by decide), (by decide)⟩ ⟨rfl, congrArg (fun z => FW G L a z c) (Prod.mk.inj (Option.some.inj hR)).2, congrArg (fun z => some (Value.int z)) (Prod.mk.inj (Option.some.inj hR)).1⟩
                · replace hR := (if_neg h36).symm.trans hR
                  by_cases h40 : p1 = (7 : Int32)
                  · replace hR := (if_pos h40).symm.trans hR
                    refine j_tblIn X (tgt := 130) dX9_side_23 (by rw [h40]; decide) (by rw [h40]; decide) (by rw [h40]; rfl) (by decide) ?_
                    refine j_aload_n X (i := 0) dX9_side_130 rfl rfl ?_
                    refine j_iload_n X (i := 1) dX9_side_131 rfl rfl ?_
                    refine j_bipush X (7) dX9_side_132 (by decide) ?_
                    obtain ⟨x42, h41, hR⟩ := bP_inv hR
                    refine j_callV2 X 9 (m_X9_of hl hL h41) ml_X9_57 im_yX9_of se_yX9_of in_X9 cd_yX9_of hy_yX9_of dX9_side_134 rfl (ad_mem hL (by decide)) (FW9 hL) ⟨(by decide), (by decide)⟩ ⟨(by decide), (by decide)⟩ (Nat.le_of_ble_eq_true rfl) (fun _ h => h.elim) (fun r9 L9 f9 h9 => ?_)
                    obtain ⟨h91, h92, h93⟩ := h9
                    subst r9
                    subst f9
                    subst L9
                    dsimp only [Option.toList, List.cons_append, List.nil_append, List.append]
                    exact q_iret X hQ dX9_side_137 rfl ⟨(by decide), (by decide)⟩ ⟨rfl, congrArg (fun z => FW G L a z c) (Prod.mk.inj (Option.some.inj hR)).2, congrArg (fun z => some (Value.int z)) (Prod.mk.inj (Option.some.inj hR)).1⟩
                  · replace hR := (if_neg h40).symm.trans hR
                    by_cases h44 : p1 = (8 : Int32)
                    · replace hR := (if_pos h44).symm.trans hR
                      refine j_tblIn X (tgt := 138) dX9_side_23 (by rw [h44]; decide) (by rw [h44]; decide) (by rw [h44]; rfl) (by decide) ?_
                      refine j_aload_n X (i := 0) dX9_side_138 rfl rfl ?_
                      refine j_iload_n X (i := 1) dX9_side_139 rfl rfl ?_
                      refine j_bipush X (8) dX9_side_140 (by decide) ?_
                      obtain ⟨x46, h45, hR⟩ := bP_inv hR
                      refine j_callV2 X 9 (m_X9_of hl hL h45) ml_X9_57 im_yX9_of se_yX9_of in_X9 cd_yX9_of hy_yX9_of dX9_side_142 rfl (ad_mem hL (by decide)) (FW9 hL) ⟨(by decide), (by decide)⟩ ⟨(by decide), (by decide)⟩ (Nat.le_of_ble_eq_true rfl) (fun _ h => h.elim) (fun r9 L9 f9 h9 => ?_)
                      obtain ⟨h91, h92, h93⟩ := h9
                      subst r9
                      subst f9
                      subst L9
                      dsimp only [Option.toList, List.cons_append, List.nil_append, List.append]
                      exact q_iret X hQ dX9_side_145 rfl ⟨(by decide), (by decide)⟩ ⟨rfl, congrArg (fun z => FW G L a z c) (Prod.mk.inj (Option.some.inj hR)).2, congrArg (fun z => some (Value.int z)) (Prod.mk.inj (Option.some.inj hR)).1⟩
                    · replace hR := (if_neg h44).symm.trans hR
                      by_cases h48 : p1 = (9 : Int32)
                      · replace hR := (if_pos h48).symm.trans hR
                        refine j_tblIn X (tgt := 146) dX9_side_23 (by rw [h48]; decide) (by rw [h48]; decide) (by rw [h48]; rfl) (by decide) ?_
                        refine j_aload_n X (i := 0) dX9_side_146 rfl rfl ?_
                        refine j_iload_n X (i := 1) dX9_side_147 rfl rfl ?_
                        refine j_bipush X (9) dX9_side_148 (by decide) ?_
                        obtain ⟨x50, h49, hR⟩ := bP_inv hR
                        refine j_callV2 X 9 (m_X9_of hl hL h49) ml_X9_57 im_yX9_of se_yX9_of in_X9 cd_yX9_of hy_yX9_of dX9_side_150 rfl (ad_mem hL (by decide)) (FW9 hL) ⟨(by decide), (by decide)⟩ ⟨(by decide), (by decide)⟩ (Nat.le_of_ble_eq_true rfl) (fun _ h => h.elim) (fun r9 L9 f9 h9 => ?_)
                        obtain ⟨h91, h92, h93⟩ := h9
                        subst r9
                        subst f9
                        subst L9
                        dsimp only [Option.toList, List.cons_append, List.nil_append, List.append]
                        exact q_iret X hQ dX9_side_153 rfl ⟨(by decide), (by decide)⟩ ⟨rfl, congrArg (fun z => FW G L a z c) (Prod.mk.inj (Option.some.inj hR)).2, congrArg (fun z => some (Value.int z)) (Prod.mk.inj (Option.some.inj hR)).1⟩
                      · replace hR := (if_neg h48).symm.trans hR
                        by_cases h52 : p1 = (10 : Int32)
                        · replace hR := (if_pos h52).symm.trans hR
                          refine j_tblIn X (tgt := 154) dX9_side_23 (by rw [h52]; decide) (by rw [h52]; decide) (by rw [h52]; rfl) (by decide) ?_
                          refine j_aload_n X (i := 0) dX9_side_154 rfl rfl ?_
                          refine j_iload_n X (i := 1) dX9_side_155 rfl rfl ?_
                          refine j_bipush X (10) dX9_side_156 (by decide) ?_
                          obtain ⟨x54, h53, hR⟩ := bP_inv hR
                          refine j_callV2 X 9 (m_X9_of hl hL h53) ml_X9_57 im_yX9_of se_yX9_of in_X9 cd_yX9_of hy_yX9_of dX9_side_158 rfl (ad_mem hL (by decide)) (FW9 hL) ⟨(by decide), (by decide)⟩ ⟨(by decide), (by decide)⟩ (Nat.le_of_ble_eq_true rfl) (fun _ h => h.elim) (fun r9 L9 f9 h9 => ?_)
                          obtain ⟨h91, h92, h93⟩ := h9
                          subst r9
                          subst f9
                          subst L9
                          dsimp only [Option.toList, List.cons_append, List.nil_append, List.append]
                          exact q_iret X hQ dX9_side_161 rfl ⟨(by decide), (by decide)⟩ ⟨rfl, congrArg (fun z => FW G L a z c) (Prod.mk.inj (Option.some.inj hR)).2, congrArg (fun z => some (Value.int z)) (Prod.mk.inj (Option.some.inj hR)).1⟩
                        · replace hR := (if_neg h52).symm.trans hR
                          refine j_tblOut X (tgt := 162) dX9_side_23 (sw_out (lo := 0) (n := 11) (by decide) (by decide) (fun i hi => match i, hi with | 0, _ => h12 | 1, _ => h16 | 2, _ => h20 | 3, _ => h24 | 4, _ => h28 | 5, _ => h32 | 6, _ => h36 | 7, _ => h40 | 8, _ => h44 | 9, _ => h48 | 10, _ => h52 | _ + 11, h => absurd h (by omega))) (by decide) ?_
                          refine j_aload_n X (i := 0) dX9_side_162 rfl rfl ?_
                          refine j_iload_n X (i := 1) dX9_side_163 rfl rfl ?_
                          obtain ⟨x57, h56, hR⟩ := bP_inv hR
                          refine j_callV1 X 9 (m_X9_movesLeft hl hL h56) ml_X9_321 im_yX9_movesLeft se_yX9_movesLeft in_X9 cd_yX9_movesLeft hy_yX9_movesLeft dX9_side_164 rfl (ad_mem hL (by decide)) (FW9 hL) ⟨(by decide), (by decide)⟩ ⟨(by decide), (by decide)⟩ (Nat.le_of_ble_eq_true rfl) (fun _ h => h.elim) (fun r9 L9 f9 h9 => ?_)
                          obtain ⟨h91, h92, h93⟩ := h9
                          subst r9
                          subst f9
                          subst L9
                          dsimp only [Option.toList, List.cons_append, List.nil_append, List.append]
                          exact q_iret X hQ dX9_side_167 rfl ⟨(by decide), (by decide)⟩ ⟨rfl, congrArg (fun z => FW G L a z c) (Prod.mk.inj (Option.some.inj hR)).2, congrArg (fun z => some (Value.int z)) (Prod.mk.inj (Option.some.inj hR)).1⟩
  · replace hR := (if_pos h11).symm.trans hR
    refine j_iconst X (0) dX9_side_20 (by decide) ?_
    exact q_iret X hQ dX9_side_21 rfl ⟨(by decide), (by decide)⟩ ⟨rfl, congrArg (fun z => FW G L a z c) (Prod.mk.inj (Option.some.inj hR)).2, congrArg (fun z => some (Value.int z)) (Prod.mk.inj (Option.some.inj hR)).1⟩
def f_X9_logMany (N : Nat) (b : Mem) : Option Int32 := some (mnI (40 : Int32) (b 1 ((8 : Int32)).toNatClampNeg))
set_option maxRecDepth 100000 in
set_option maxHeartbeats 4000000 in
theorem m_X9_logMany {l : Launch} (hl : l.stackTraces = false) {G : GG} {L : List Nat} (hL : LOK L) {a b c : Mem} {N : Nat}  {v : Int32} (hR : f_X9_logMany N b = some v) : Ct l G yX9_logMany (.code yX9_logMany cX9_logMany 1 (some .int)) 1 24 0 0 [.ref (ad L 96)] L (FW G L a b c) px0 (stay L (fun r f1 => f1 = (FW G L a b c) ∧ r = some (.int v))) := by
  refine Ct.ofq (own := RX9) hl rfl (by decide) [some (.ref (ad L 96))] rfl (Nat.le_of_ble_eq_true rfl) ?_
  intro p e s m below meth c9 A ar Q hQ X
  unfold f_X9_logMany at hR
  refine j_bipush X (40) dX9_logMany_0 (by decide) ?_
  refine j_aload_n X (i := 0) dX9_logMany_2 rfl rfl ?_
  refine j_getf X 9 1 rfl cw_X9 fl_X9_17 (by decide) dX9_logMany_3 (ad_mem hL (by decide)) (FW9 hL) rfl ?_
  refine j_bipush X (8) dX9_logMany_6 (by decide) ?_
  refine j_iald X dX9_logMany_8 (ad_mem hL (by decide)) (FWr97 hL) (by unfold vp_in; decide) ?_
  refine j_mmin X ml_X9_99 dX9_logMany_9 ⟨(by decide), (Nat.le_of_ble_eq_true rfl)⟩ ⟨(by decide), (by decide)⟩ ?_
  exact q_iret X hQ dX9_logMany_12 rfl ⟨(by decide), (by decide)⟩ ⟨rfl, rfl, congrArg (fun z => some (Value.int z)) (Option.some.inj hR)⟩
def f_X9_ofLog (N : Nat) (p0 : Int32) (p1 : Int32) (b : Mem) : Option Int32 := chkI (((71 : Int32) + ((6 : Int32) * p0)) + p1) 311 <| some (b 1 ((((71 : Int32) + ((6 : Int32) * p0)) + p1)).toNatClampNeg)
set_option maxRecDepth 100000 in
set_option maxHeartbeats 4000000 in
theorem m_X9_ofLog {l : Launch} (hl : l.stackTraces = false) {G : GG} {L : List Nat} (hL : LOK L) {a b c : Mem} {N : Nat} {p0 : Int32} {p1 : Int32} {v : Int32} (hR : f_X9_ofLog N p0 p1 b = some v) : Ct l G yX9_ofLog (.code yX9_ofLog cX9_ofLog 3 (some .int)) 0 0 0 0 [.ref (ad L 96), .int p0, .int p1] L (FW G L a b c) px0 (stay L (fun r f1 => f1 = (FW G L a b c) ∧ r = some (.int v))) := by
  refine Ct.ofq (own := RX9) hl rfl (by decide) [some (.ref (ad L 96)), some (.int p0), some (.int p1)] rfl (Nat.le_of_ble_eq_true rfl) ?_
  intro p e s m below meth c9 A ar Q hQ X
  unfold f_X9_ofLog at hR
  refine j_aload_n X (i := 0) dX9_ofLog_0 rfl rfl ?_
  refine j_getf X 9 1 rfl cw_X9 fl_X9_17 (by decide) dX9_ofLog_1 (ad_mem hL (by decide)) (FW9 hL) rfl ?_
  refine j_bipush X (71) dX9_ofLog_4 (by decide) ?_
  refine j_bipush X (6) dX9_ofLog_6 (by decide) ?_
  refine j_iload_n X (i := 1) dX9_ofLog_8 rfl rfl ?_
  refine j_imul X dX9_ofLog_9 ?_
  refine j_iadd X dX9_ofLog_10 ?_
  refine j_iload_n X (i := 2) dX9_ofLog_11 rfl rfl ?_
  refine j_iadd X dX9_ofLog_12 ?_
  obtain ⟨h1, hR⟩ := chkI_inv hR
  refine j_iald X dX9_ofLog_13 (ad_mem hL (by decide)) (FWr97 hL) h1 ?_
  exact q_iret X hQ dX9_ofLog_14 rfl ⟨(by decide), (by decide)⟩ ⟨rfl, rfl, congrArg (fun z => some (Value.int z)) (Option.some.inj hR)⟩
def f_X9_logged (N : Nat) (p0 : Int32) (p1 : Int32) (b : Mem) : Option (Int32 × Mem) := bP (f_X9_logMany N b) fun x2 => bT (f_X9_in (Int32.toInt64 p0) (0 : Int64) (Int32.toInt64 (x2 - (1 : Int32))) b) fun x5 => bT (f_X9_in (Int32.toInt64 p1) (0 : Int64) (5 : Int64) b) fun x8 => bT2 (f_X9_passes2 x5 x8 b) fun x11 b12 => if x11 = 0 then (some ((0 : Int32), b12)) else (bP (f_X9_ofLog N p0 p1 b12) fun x16 => some (x16, b12))
set_option maxRecDepth 100000 in
set_option maxHeartbeats 4000000 in
theorem m_X9_logged {l : Launch} (hl : l.stackTraces = false) {G : GG} {L : List Nat} (hL : LOK L) {a b c : Mem} {N : Nat} {p0 : Int32} {p1 : Int32} {v : Int32} {a' : Mem} (hR : f_X9_logged N p0 p1 b = some (v, a')) : Ct l G yX9_logged (.code yX9_logged cX9_logged 3 (some .int)) 2 45 0 0 [.ref (ad L 96), .int p0, .int p1] L (FW G L a b c) px0 (stay L (fun r f1 => f1 = (FW G L a a' c) ∧ r = some (.int v))) := by
  refine Ct.ofq (own := RX9) hl rfl (by decide) [some (.ref (ad L 96)), some (.int p0), some (.int p1)] rfl (Nat.le_of_ble_eq_true rfl) ?_
  intro p e s m below meth c9 A ar Q hQ X
  unfold f_X9_logged at hR
  refine j_aload_n X (i := 0) dX9_logged_0 rfl rfl ?_
  refine j_iload_n X (i := 1) dX9_logged_1 rfl rfl ?_
  refine j_i2l X dX9_logged_2 ?_
  refine j_lconst X (0) dX9_logged_3 (by decide) ?_
  refine j_aload_n X (i := 0) dX9_logged_4 rfl rfl ?_
  obtain ⟨x2, h1, hR⟩ := bP_inv hR
  refine j_callV0 X 9 (m_X9_logMany hl hL h1) ml_X9_324 im_yX9_logMany se_yX9_logMany in_X9 cd_yX9_logMany hy_yX9_logMany dX9_logged_5 rfl (ad_mem hL (by decide)) (FW9 hL) ⟨(by decide), (by decide)⟩ ⟨(by decide), (by decide)⟩ (Nat.le_of_ble_eq_true rfl) (fun _ h => h.elim) (fun r9 L9 f9 h9 => ?_)
  obtain ⟨h91, h92, h93⟩ := h9
  subst r9
  subst f9
  subst L9
  dsimp only [Option.toList, List.cons_append, List.nil_append, List.append]
  refine j_iconst X (1) dX9_logged_8 (by decide) ?_
  refine j_isub X dX9_logged_9 ?_
  refine j_i2l X dX9_logged_10 ?_
  obtain ⟨x5, h4, hR⟩ := bT_inv hR
  refine j_callS3 X (m_X9_in hl hL h4) ml_X9_64 st_yX9_in in_X9 cd_yX9_in hy_yX9_in dX9_logged_11 ⟨(by decide), (by decide)⟩ ⟨(by decide), (by decide)⟩ (Nat.le_of_ble_eq_true rfl) (fun _ h => h.elim) (fun r9 L9 f9 h9 => ?_)
  obtain ⟨h91, h92, h93, h6⟩ := h9
  subst r9
  subst f9
  subst L9
  dsimp only [Option.toList, List.cons_append, List.nil_append, List.append]
  refine j_iload_n X (i := 2) dX9_logged_14 rfl rfl ?_
  refine j_i2l X dX9_logged_15 ?_
  refine j_lconst X (0) dX9_logged_16 (by decide) ?_
  refine j_ldc2 X dX9_logged_17 cj_X9_327 ?_
  obtain ⟨x8, h7, hR⟩ := bT_inv hR
  refine j_callS3 X (m_X9_in hl hL h7) ml_X9_64 st_yX9_in in_X9 cd_yX9_in hy_yX9_in dX9_logged_20 ⟨(by decide), (by decide)⟩ ⟨(by decide), (by decide)⟩ (Nat.le_of_ble_eq_true rfl) (fun _ h => h.elim) (fun r9 L9 f9 h9 => ?_)
  obtain ⟨h91, h92, h93, h9⟩ := h9
  subst r9
  subst f9
  subst L9
  dsimp only [Option.toList, List.cons_append, List.nil_append, List.append]
  obtain ⟨x11, b12, h10, hR⟩ := bT2_inv hR
  refine j_callV2 X 9 (m_X9_passes2 hl hL h6 h9 h10) ml_X9_314 im_yX9_passes2 se_yX9_passes2 in_X9 cd_yX9_passes2 hy_yX9_passes2 dX9_logged_23 rfl (ad_mem hL (by decide)) (FW9 hL) ⟨(by decide), (by decide)⟩ ⟨(by decide), (by decide)⟩ (Nat.le_of_ble_eq_true rfl) (fun _ h => h.elim) (fun r9 L9 f9 h9 => ?_)
  obtain ⟨h91, h92, h93, h13⟩ := h9
  subst r9
  subst f9
  subst L9
  dsimp only [Option.toList, List.cons_append, List.nil_append, List.append]
  refine j_if_eq X (tgt := 38) dX9_logged_26 (by decide) (fun h14 => ?_) (fun h14 => ?_)
  · replace hR := (if_pos h14).symm.trans hR
    refine j_iconst X (0) dX9_logged_38 (by decide) ?_
    exact q_iret X hQ dX9_logged_39 rfl ⟨(by decide), (by decide)⟩ ⟨rfl, congrArg (fun z => FW G L a z c) (Prod.mk.inj (Option.some.inj hR)).2, congrArg (fun z => some (Value.int z)) (Prod.mk.inj (Option.some.inj hR)).1⟩
  · replace hR := (if_neg h14).symm.trans hR
    refine j_aload_n X (i := 0) dX9_logged_29 rfl rfl ?_
    refine j_iload_n X (i := 1) dX9_logged_30 rfl rfl ?_
    refine j_iload_n X (i := 2) dX9_logged_31 rfl rfl ?_
    obtain ⟨x16, h15, hR⟩ := bP_inv hR
    refine j_callV2 X 9 (m_X9_ofLog hl hL h15) ml_X9_329 im_yX9_ofLog se_yX9_ofLog in_X9 cd_yX9_ofLog hy_yX9_ofLog dX9_logged_32 rfl (ad_mem hL (by decide)) (FW9 hL) ⟨(by decide), (by decide)⟩ ⟨(by decide), (by decide)⟩ (Nat.le_of_ble_eq_true rfl) (fun _ h => h.elim) (fun r9 L9 f9 h9 => ?_)
    obtain ⟨h91, h92, h93⟩ := h9
    subst r9
    subst f9
    subst L9
    dsimp only [Option.toList, List.cons_append, List.nil_append, List.append]
    refine j_goto X (tgt := 39) dX9_logged_35 (by decide) ?_
    exact q_iret X hQ dX9_logged_39 rfl ⟨(by decide), (by decide)⟩ ⟨rfl, congrArg (fun z => FW G L a z c) (Prod.mk.inj (Option.some.inj hR)).2, congrArg (fun z => some (Value.int z)) (Prod.mk.inj (Option.some.inj hR)).1⟩
def f_X9_fell (N : Nat) (p0 : Int32) (b : Mem) : Option Int32 := bP (f_X9_of N p0 (8 : Int32) b) fun x2 => if x2 = (1 : Int32) then (some (1 : Int32)) else (some (0 : Int32))
set_option maxRecDepth 100000 in
set_option maxHeartbeats 4000000 in
theorem m_X9_fell {l : Launch} (hl : l.stackTraces = false) {G : GG} {L : List Nat} (hL : LOK L) {a b c : Mem} {N : Nat} {p0 : Int32} {v : Int32} (hR : f_X9_fell N p0 b = some v) : Ct l G yX9_fell (.code yX9_fell cX9_fell 2 (some .boolean)) 1 22 0 0 [.ref (ad L 96), .int p0] L (FW G L a b c) px0 (stay L (fun r f1 => f1 = (FW G L a b c) ∧ r = some (.int v) ∧ isB v)) := by
  refine Ct.ofq (own := RX9) hl rfl (by decide) [some (.ref (ad L 96)), some (.int p0)] rfl (Nat.le_of_ble_eq_true rfl) ?_
  intro p e s m below meth c9 A ar Q hQ X
  unfold f_X9_fell at hR
  refine j_aload_n X (i := 0) dX9_fell_0 rfl rfl ?_
  refine j_iload_n X (i := 1) dX9_fell_1 rfl rfl ?_
  refine j_bipush X (8) dX9_fell_2 (by decide) ?_
  obtain ⟨x2, h1, hR⟩ := bP_inv hR
  refine j_callV2 X 9 (m_X9_of hl hL h1) ml_X9_57 im_yX9_of se_yX9_of in_X9 cd_yX9_of hy_yX9_of dX9_fell_4 rfl (ad_mem hL (by decide)) (FW9 hL) ⟨(by decide), (by decide)⟩ ⟨(by decide), (by decide)⟩ (Nat.le_of_ble_eq_true rfl) (fun _ h => h.elim) (fun r9 L9 f9 h9 => ?_)
  obtain ⟨h91, h92, h93⟩ := h9
  subst r9
  subst f9
  subst L9
  dsimp only [Option.toList, List.cons_append, List.nil_append, List.append]
  refine j_iconst X (1) dX9_fell_7 (by decide) ?_
  refine j_icmp_ne X (tgt := 15) dX9_fell_8 (by decide) (fun h4 => ?_) (fun h4 => ?_)
  · replace hR := (if_neg h4).symm.trans hR
    refine j_iconst X (0) dX9_fell_15 (by decide) ?_
    exact q_zret X hQ dX9_fell_16 rfl (nar_B isB_0) ⟨(by decide), (by decide)⟩ ⟨rfl, rfl, congrArg (fun z => some (Value.int z)) (Option.some.inj hR), (Option.some.inj hR) ▸ isB_0⟩
  · replace hR := (if_pos h4).symm.trans hR
    refine j_iconst X (1) dX9_fell_11 (by decide) ?_
    refine j_goto X (tgt := 16) dX9_fell_12 (by decide) ?_
    exact q_zret X hQ dX9_fell_16 rfl (nar_B isB_1) ⟨(by decide), (by decide)⟩ ⟨rfl, rfl, congrArg (fun z => some (Value.int z)) (Option.some.inj hR), (Option.some.inj hR) ▸ isB_1⟩
def f_X9_delayOf (N : Nat) (p0 : Int32) (b : Mem) : Option Int32 := bP (f_X9_its N p0 (3 : Int32) b) fun x2 => bP (f_X9_of N p0 (6 : Int32) b) fun x5 => some (mxI (0 : Int32) (x2 - x5))
set_option maxRecDepth 100000 in
set_option maxHeartbeats 4000000 in
theorem m_X9_delayOf {l : Launch} (hl : l.stackTraces = false) {G : GG} {L : List Nat} (hL : LOK L) {a b c : Mem} {N : Nat} {p0 : Int32} {v : Int32} (hR : f_X9_delayOf N p0 b = some v) : Ct l G yX9_delayOf (.code yX9_delayOf cX9_delayOf 2 (some .int)) 2 44 0 0 [.ref (ad L 96), .int p0] L (FW G L a b c) px0 (stay L (fun r f1 => f1 = (FW G L a b c) ∧ r = some (.int v))) := by
  refine Ct.ofq (own := RX9) hl rfl (by decide) [some (.ref (ad L 96)), some (.int p0)] rfl (Nat.le_of_ble_eq_true rfl) ?_
  intro p e s m below meth c9 A ar Q hQ X
  unfold f_X9_delayOf at hR
  refine j_iconst X (0) dX9_delayOf_0 (by decide) ?_
  refine j_aload_n X (i := 0) dX9_delayOf_1 rfl rfl ?_
  refine j_iload_n X (i := 1) dX9_delayOf_2 rfl rfl ?_
  refine j_iconst X (3) dX9_delayOf_3 (by decide) ?_
  obtain ⟨x2, h1, hR⟩ := bP_inv hR
  refine j_callV2 X 9 (m_X9_its hl hL h1) ml_X9_87 im_yX9_its se_yX9_its in_X9 cd_yX9_its hy_yX9_its dX9_delayOf_4 rfl (ad_mem hL (by decide)) (FW9 hL) ⟨(by decide), (by decide)⟩ ⟨(by decide), (by decide)⟩ (Nat.le_of_ble_eq_true rfl) (fun _ h => h.elim) (fun r9 L9 f9 h9 => ?_)
  obtain ⟨h91, h92, h93⟩ := h9
  subst r9
  subst f9
  subst L9
  dsimp only [Option.toList, List.cons_append, List.nil_append, List.append]
  refine j_aload_n X (i := 0) dX9_delayOf_7 rfl rfl ?_
  refine j_iload_n X (i := 1) dX9_delayOf_8 rfl rfl ?_
  refine j_bipush X (6) dX9_delayOf_9 (by decide) ?_
  obtain ⟨x5, h4, hR⟩ := bP_inv hR
  refine j_callV2 X 9 (m_X9_of hl hL h4) ml_X9_57 im_yX9_of se_yX9_of in_X9 cd_yX9_of hy_yX9_of dX9_delayOf_11 rfl (ad_mem hL (by decide)) (FW9 hL) ⟨(by decide), (by decide)⟩ ⟨(by decide), (by decide)⟩ (Nat.le_of_ble_eq_true rfl) (fun _ h => h.elim) (fun r9 L9 f9 h9 => ?_)
  obtain ⟨h91, h92, h93⟩ := h9
  subst r9
  subst f9
  subst L9
  dsimp only [Option.toList, List.cons_append, List.nil_append, List.append]
  refine j_isub X dX9_delayOf_14 ?_
  refine j_mmax X ml_X9_114 dX9_delayOf_15 ⟨(by decide), (Nat.le_of_ble_eq_true rfl)⟩ ⟨(by decide), (by decide)⟩ ?_
  exact q_iret X hQ dX9_delayOf_18 rfl ⟨(by decide), (by decide)⟩ ⟨rfl, rfl, congrArg (fun z => some (Value.int z)) (Option.some.inj hR)⟩
def f_X9_runsFor_26 (N : Nat) (p0 : Int32) (b : Mem) (x4 : Int32) : Option Int32 := bP (f_X9_delayOf N p0 b) fun x6 => bP (f_X9_of N p0 (0 : Int32) b) fun x9 => some ((x6 + x9) + x4)
def f_X9_runsFor (N : Nat) (p0 : Int32) (b : Mem) : Option Int32 := bP (f_X9_its N p0 (0 : Int32) b) fun x2 => if x2 = 0 then (bP (f_X9_of N p0 (4 : Int32) b) fun x13 => f_X9_runsFor_26 N p0 b (x13 * (b (rowM (b 0 3)) ((4 : Int32)).toNatClampNeg))) else (f_X9_runsFor_26 N p0 b (0 : Int32))
set_option maxRecDepth 100000 in
set_option maxHeartbeats 4000000 in
theorem m_X9_runsFor {l : Launch} (hl : l.stackTraces = false) {G : GG} {L : List Nat} (hL : LOK L) {a b c : Mem} {N : Nat} {p0 : Int32} {v : Int32} (hR : f_X9_runsFor N p0 b = some v) : Ct l G yX9_runsFor (.code yX9_runsFor cX9_runsFor 3 (some .int)) 3 65 0 0 [.ref (ad L 96), .int p0] L (FW G L a b c) px0 (stay L (fun r f1 => f1 = (FW G L a b c) ∧ r = some (.int v))) := by
  refine Ct.ofq (own := RX9) hl rfl (by decide) [some (.ref (ad L 96)), some (.int p0), none] rfl (Nat.le_of_ble_eq_true rfl) ?_
  intro p e s m below meth c9 A ar Q hQ X
  unfold f_X9_runsFor at hR
  refine j_aload_n X (i := 0) dX9_runsFor_0 rfl rfl ?_
  refine j_iload_n X (i := 1) dX9_runsFor_1 rfl rfl ?_
  refine j_iconst X (0) dX9_runsFor_2 (by decide) ?_
  obtain ⟨x2, h1, hR⟩ := bP_inv hR
  refine j_callV2 X 9 (m_X9_its hl hL h1) ml_X9_87 im_yX9_its se_yX9_its in_X9 cd_yX9_its hy_yX9_its dX9_runsFor_3 rfl (ad_mem hL (by decide)) (FW9 hL) ⟨(by decide), (by decide)⟩ ⟨(by decide), (by decide)⟩ (Nat.le_of_ble_eq_true rfl) (fun _ h => h.elim) (fun r9 L9 f9 h9 => ?_)
  obtain ⟨h91, h92, h93⟩ := h9
  subst r9
  subst f9
  subst L9
  dsimp only [Option.toList, List.cons_append, List.nil_append, List.append]
  have hb26 : ∀ (x4 : Int32) , f_X9_runsFor_26 N p0 b x4 = some v → J G p l e ({ frames := 3, cells := 0, slots := 0, locals := 65 } : Room) s m ar below meth c9 A Q 3 0 0 26 [some (.ref (ad L 96)), some (.int p0), none] [.int x4] L (FW G L a b c) := by
    intro x4 hR
    unfold f_X9_runsFor_26 at hR
    refine j_istore_n X (i := 2) dX9_runsFor_26 rfl (by decide) (lvOK_s rfl okPrev_int) ?_
    dsimp only [List.set]
    refine j_aload_n X (i := 0) dX9_runsFor_27 rfl rfl ?_
    refine j_iload_n X (i := 1) dX9_runsFor_28 rfl rfl ?_
    obtain ⟨x6, h5, hR⟩ := bP_inv hR
    refine j_callV1 X 9 (m_X9_delayOf hl hL h5) ml_X9_117 im_yX9_delayOf se_yX9_delayOf in_X9 cd_yX9_delayOf hy_yX9_delayOf dX9_runsFor_29 rfl (ad_mem hL (by decide)) (FW9 hL) ⟨(by decide), (by decide)⟩ ⟨(by decide), (by decide)⟩ (Nat.le_of_ble_eq_true rfl) (fun _ h => h.elim) (fun r9 L9 f9 h9 => ?_)
    obtain ⟨h91, h92, h93⟩ := h9
    subst r9
    subst f9
    subst L9
    dsimp only [Option.toList, List.cons_append, List.nil_append, List.append]
    refine j_aload_n X (i := 0) dX9_runsFor_32 rfl rfl ?_
    refine j_iload_n X (i := 1) dX9_runsFor_33 rfl rfl ?_
    refine j_iconst X (0) dX9_runsFor_34 (by decide) ?_
    obtain ⟨x9, h8, hR⟩ := bP_inv hR
    refine j_callV2 X 9 (m_X9_of hl hL h8) ml_X9_57 im_yX9_of se_yX9_of in_X9 cd_yX9_of hy_yX9_of dX9_runsFor_35 rfl (ad_mem hL (by decide)) (FW9 hL) ⟨(by decide), (by decide)⟩ ⟨(by decide), (by decide)⟩ (Nat.le_of_ble_eq_true rfl) (fun _ h => h.elim) (fun r9 L9 f9 h9 => ?_)
    obtain ⟨h91, h92, h93⟩ := h9
    subst r9
    subst f9
    subst L9
    dsimp only [Option.toList, List.cons_append, List.nil_append, List.append]
    refine j_iadd X dX9_runsFor_38 ?_
    refine j_iload_n X (i := 2) dX9_runsFor_39 rfl rfl ?_
    refine j_iadd X dX9_runsFor_40 ?_
    exact q_iret X hQ dX9_runsFor_41 rfl ⟨(by decide), (by decide)⟩ ⟨rfl, rfl, congrArg (fun z => some (Value.int z)) (Option.some.inj hR)⟩
  refine j_if_ne X (tgt := 25) dX9_runsFor_6 (by decide) (fun h11 => ?_) (fun h11 => ?_)
  · replace hR := (if_neg h11).symm.trans hR
    refine j_iconst X (0) dX9_runsFor_25 (by decide) ?_
    exact J.sub (lvle_of (by simp only [lvle, and_self])) (hb26 _  hR)
  · replace hR := (if_pos h11).symm.trans hR
    refine j_aload_n X (i := 0) dX9_runsFor_9 rfl rfl ?_
    refine j_iload_n X (i := 1) dX9_runsFor_10 rfl rfl ?_
    refine j_iconst X (4) dX9_runsFor_11 (by decide) ?_
    obtain ⟨x13, h12, hR⟩ := bP_inv hR
    refine j_callV2 X 9 (m_X9_of hl hL h12) ml_X9_57 im_yX9_of se_yX9_of in_X9 cd_yX9_of hy_yX9_of dX9_runsFor_12 rfl (ad_mem hL (by decide)) (FW9 hL) ⟨(by decide), (by decide)⟩ ⟨(by decide), (by decide)⟩ (Nat.le_of_ble_eq_true rfl) (fun _ h => h.elim) (fun r9 L9 f9 h9 => ?_)
    obtain ⟨h91, h92, h93⟩ := h9
    subst r9
    subst f9
    subst L9
    dsimp only [Option.toList, List.cons_append, List.nil_append, List.append]
    refine j_aload_n X (i := 0) dX9_runsFor_15 rfl rfl ?_
    refine j_getf X 9 3 rfl cw_X9 fl_X9_24 (by decide) dX9_runsFor_16 (ad_mem hL (by decide)) (FW9 hL) rfl ?_
    refine j_iconst X (4) dX9_runsFor_19 (by decide) ?_
    refine j_iald X dX9_runsFor_20 (inLr hL) (FWrow hL) (by unfold vp_in; decide) ?_
    refine j_imul X dX9_runsFor_21 ?_
    refine j_goto X (tgt := 26) dX9_runsFor_22 (by decide) ?_
    exact J.sub (lvle_of (by simp only [lvle, and_self])) (hb26 _  hR)
def f_X9_flagIn (N : Nat) (p0 : Int32) (b : Mem) : Option (Int32 × Mem) := bT (f_X9_isSide p0 b) fun x2 => bT2 (f_X9_passes x2 b) fun x5 b6 => if x5 = 0 then (some ((0 : Int32), b6)) else (bP (f_X9_fell N p0 b6) fun x10 => if x10 = 0 then (bP (f_X9_runsFor N p0 b6) fun x14 => some (x14, b6)) else (some ((0 : Int32), b6)))
set_option maxRecDepth 100000 in
set_option maxHeartbeats 4000000 in
theorem m_X9_flagIn {l : Launch} (hl : l.stackTraces = false) {G : GG} {L : List Nat} (hL : LOK L) {a b c : Mem} {N : Nat} {p0 : Int32} {v : Int32} {a' : Mem} (hR : f_X9_flagIn N p0 b = some (v, a')) : Ct l G yX9_flagIn (.code yX9_flagIn cX9_flagIn 2 (some .int)) 4 87 0 0 [.ref (ad L 96), .int p0] L (FW G L a b c) px0 (stay L (fun r f1 => f1 = (FW G L a a' c) ∧ r = some (.int v))) := by
  refine Ct.ofq (own := RX9) hl rfl (by decide) [some (.ref (ad L 96)), some (.int p0)] rfl (Nat.le_of_ble_eq_true rfl) ?_
  intro p e s m below meth c9 A ar Q hQ X
  unfold f_X9_flagIn at hR
  refine j_aload_n X (i := 0) dX9_flagIn_0 rfl rfl ?_
  refine j_iload_n X (i := 1) dX9_flagIn_1 rfl rfl ?_
  obtain ⟨x2, h1, hR⟩ := bT_inv hR
  refine j_callS1 X (m_X9_isSide hl hL h1) ml_X9_318 st_yX9_isSide in_X9 cd_yX9_isSide hy_yX9_isSide dX9_flagIn_2 ⟨(by decide), (by decide)⟩ ⟨(by decide), (by decide)⟩ (Nat.le_of_ble_eq_true rfl) (fun _ h => h.elim) (fun r9 L9 f9 h9 => ?_)
  obtain ⟨h91, h92, h93, h3⟩ := h9
  subst r9
  subst f9
  subst L9
  dsimp only [Option.toList, List.cons_append, List.nil_append, List.append]
  obtain ⟨x5, b6, h4, hR⟩ := bT2_inv hR
  refine j_callV1 X 9 (m_X9_passes hl hL h3 h4) ml_X9_159 im_yX9_passes se_yX9_passes in_X9 cd_yX9_passes hy_yX9_passes dX9_flagIn_5 rfl (ad_mem hL (by decide)) (FW9 hL) ⟨(by decide), (by decide)⟩ ⟨(by decide), (by decide)⟩ (Nat.le_of_ble_eq_true rfl) (fun _ h => h.elim) (fun r9 L9 f9 h9 => ?_)
  obtain ⟨h91, h92, h93, h7⟩ := h9
  subst r9
  subst f9
  subst L9
  dsimp only [Option.toList, List.cons_append, List.nil_append, List.append]
  refine j_if_ne X (tgt := 13) dX9_flagIn_8 (by decide) (fun h8 => ?_) (fun h8 => ?_)
  · replace hR := (if_neg h8).symm.trans hR
    refine j_aload_n X (i := 0) dX9_flagIn_13 rfl rfl ?_
    refine j_iload_n X (i := 1) dX9_flagIn_14 rfl rfl ?_
    obtain ⟨x10, h9, hR⟩ := bP_inv hR
    refine j_callV1 X 9 (m_X9_fell hl hL h9) ml_X9_96 im_yX9_fell se_yX9_fell in_X9 cd_yX9_fell hy_yX9_fell dX9_flagIn_15 rfl (ad_mem hL (by decide)) (FW9 hL) ⟨(by decide), (by decide)⟩ ⟨(by decide), (by decide)⟩ (Nat.le_of_ble_eq_true rfl) (fun _ h => h.elim) (fun r9 L9 f9 h9 => ?_)
    obtain ⟨h91, h92, h93, h11⟩ := h9
    subst r9
    subst f9
    subst L9
    dsimp only [Option.toList, List.cons_append, List.nil_append, List.append]
    refine j_if_eq X (tgt := 25) dX9_flagIn_18 (by decide) (fun h12 => ?_) (fun h12 => ?_)
    · replace hR := (if_pos h12).symm.trans hR
      refine j_aload_n X (i := 0) dX9_flagIn_25 rfl rfl ?_
      refine j_iload_n X (i := 1) dX9_flagIn_26 rfl rfl ?_
      obtain ⟨x14, h13, hR⟩ := bP_inv hR
      refine j_callV1 X 9 (m_X9_runsFor hl hL h13) ml_X9_332 im_yX9_runsFor se_yX9_runsFor in_X9 cd_yX9_runsFor hy_yX9_runsFor dX9_flagIn_27 rfl (ad_mem hL (by decide)) (FW9 hL) ⟨(by decide), (by decide)⟩ ⟨(by decide), (by decide)⟩ (Nat.le_of_ble_eq_true rfl) (fun _ h => h.elim) (fun r9 L9 f9 h9 => ?_)
      obtain ⟨h91, h92, h93⟩ := h9
      subst r9
      subst f9
      subst L9
      dsimp only [Option.toList, List.cons_append, List.nil_append, List.append]
      exact q_iret X hQ dX9_flagIn_30 rfl ⟨(by decide), (by decide)⟩ ⟨rfl, congrArg (fun z => FW G L a z c) (Prod.mk.inj (Option.some.inj hR)).2, congrArg (fun z => some (Value.int z)) (Prod.mk.inj (Option.some.inj hR)).1⟩
    · replace hR := (if_neg h12).symm.trans hR
      refine j_iconst X (0) dX9_flagIn_21 (by decide) ?_
      refine j_goto X (tgt := 30) dX9_flagIn_22 (by decide) ?_
      exact q_iret X hQ dX9_flagIn_30 rfl ⟨(by decide), (by decide)⟩ ⟨rfl, congrArg (fun z => FW G L a z c) (Prod.mk.inj (Option.some.inj hR)).2, congrArg (fun z => some (Value.int z)) (Prod.mk.inj (Option.some.inj hR)).1⟩
  · replace hR := (if_pos h8).symm.trans hR
    refine j_iconst X (0) dX9_flagIn_11 (by decide) ?_
    exact q_iret X hQ dX9_flagIn_12 rfl ⟨(by decide), (by decide)⟩ ⟨rfl, congrArg (fun z => FW G L a z c) (Prod.mk.inj (Option.some.inj hR)).2, congrArg (fun z => some (Value.int z)) (Prod.mk.inj (Option.some.inj hR)).1⟩
def f_X9_delayLeft (N : Nat) (p0 : Int32) (b : Mem) : Option (Int32 × Mem) := bT (f_X9_isSide p0 b) fun x2 => bT2 (f_X9_passes x2 b) fun x5 b6 => if x5 = 0 then (some ((0 : Int32), b6)) else (bP (f_X9_delayOf N p0 b6) fun x10 => some (x10, b6))
set_option maxRecDepth 100000 in
set_option maxHeartbeats 4000000 in
theorem m_X9_delayLeft {l : Launch} (hl : l.stackTraces = false) {G : GG} {L : List Nat} (hL : LOK L) {a b c : Mem} {N : Nat} {p0 : Int32} {v : Int32} {a' : Mem} (hR : f_X9_delayLeft N p0 b = some (v, a')) : Ct l G yX9_delayLeft (.code yX9_delayLeft cX9_delayLeft 2 (some .int)) 3 65 0 0 [.ref (ad L 96), .int p0] L (FW G L a b c) px0 (stay L (fun r f1 => f1 = (FW G L a a' c) ∧ r = some (.int v))) := by
  refine Ct.ofq (own := RX9) hl rfl (by decide) [some (.ref (ad L 96)), some (.int p0)] rfl (Nat.le_of_ble_eq_true rfl) ?_
  intro p e s m below meth c9 A ar Q hQ X
  unfold f_X9_delayLeft at hR
  refine j_aload_n X (i := 0) dX9_delayLeft_0 rfl rfl ?_
  refine j_iload_n X (i := 1) dX9_delayLeft_1 rfl rfl ?_
  obtain ⟨x2, h1, hR⟩ := bT_inv hR
  refine j_callS1 X (m_X9_isSide hl hL h1) ml_X9_318 st_yX9_isSide in_X9 cd_yX9_isSide hy_yX9_isSide dX9_delayLeft_2 ⟨(by decide), (by decide)⟩ ⟨(by decide), (by decide)⟩ (Nat.le_of_ble_eq_true rfl) (fun _ h => h.elim) (fun r9 L9 f9 h9 => ?_)
  obtain ⟨h91, h92, h93, h3⟩ := h9
  subst r9
  subst f9
  subst L9
  dsimp only [Option.toList, List.cons_append, List.nil_append, List.append]
  obtain ⟨x5, b6, h4, hR⟩ := bT2_inv hR
  refine j_callV1 X 9 (m_X9_passes hl hL h3 h4) ml_X9_159 im_yX9_passes se_yX9_passes in_X9 cd_yX9_passes hy_yX9_passes dX9_delayLeft_5 rfl (ad_mem hL (by decide)) (FW9 hL) ⟨(by decide), (by decide)⟩ ⟨(by decide), (by decide)⟩ (Nat.le_of_ble_eq_true rfl) (fun _ h => h.elim) (fun r9 L9 f9 h9 => ?_)
  obtain ⟨h91, h92, h93, h7⟩ := h9
  subst r9
  subst f9
  subst L9
  dsimp only [Option.toList, List.cons_append, List.nil_append, List.append]
  refine j_if_eq X (tgt := 19) dX9_delayLeft_8 (by decide) (fun h8 => ?_) (fun h8 => ?_)
  · replace hR := (if_pos h8).symm.trans hR
    refine j_iconst X (0) dX9_delayLeft_19 (by decide) ?_
    exact q_iret X hQ dX9_delayLeft_20 rfl ⟨(by decide), (by decide)⟩ ⟨rfl, congrArg (fun z => FW G L a z c) (Prod.mk.inj (Option.some.inj hR)).2, congrArg (fun z => some (Value.int z)) (Prod.mk.inj (Option.some.inj hR)).1⟩
  · replace hR := (if_neg h8).symm.trans hR
    refine j_aload_n X (i := 0) dX9_delayLeft_11 rfl rfl ?_
    refine j_iload_n X (i := 1) dX9_delayLeft_12 rfl rfl ?_
    obtain ⟨x10, h9, hR⟩ := bP_inv hR
    refine j_callV1 X 9 (m_X9_delayOf hl hL h9) ml_X9_117 im_yX9_delayOf se_yX9_delayOf in_X9 cd_yX9_delayOf hy_yX9_delayOf dX9_delayLeft_13 rfl (ad_mem hL (by decide)) (FW9 hL) ⟨(by decide), (by decide)⟩ ⟨(by decide), (by decide)⟩ (Nat.le_of_ble_eq_true rfl) (fun _ h => h.elim) (fun r9 L9 f9 h9 => ?_)
    obtain ⟨h91, h92, h93⟩ := h9
    subst r9
    subst f9
    subst L9
    dsimp only [Option.toList, List.cons_append, List.nil_append, List.append]
    refine j_goto X (tgt := 20) dX9_delayLeft_16 (by decide) ?_
    exact q_iret X hQ dX9_delayLeft_20 rfl ⟨(by decide), (by decide)⟩ ⟨rfl, congrArg (fun z => FW G L a z c) (Prod.mk.inj (Option.some.inj hR)).2, congrArg (fun z => some (Value.int z)) (Prod.mk.inj (Option.some.inj hR)).1⟩
def f_X9_secondsOf (N : Nat) (p0 : Int32) (b : Mem) : Option Int32 := bP (f_X9_of N p0 (0 : Int32) b) fun x2 => some ((x2 + (9 : Int32)) / (10 : Int32))
set_option maxRecDepth 100000 in
set_option maxHeartbeats 4000000 in
theorem m_X9_secondsOf {l : Launch} (hl : l.stackTraces = false) {G : GG} {L : List Nat} (hL : LOK L) {a b c : Mem} {N : Nat} {p0 : Int32} {v : Int32} (hR : f_X9_secondsOf N p0 b = some v) : Ct l G yX9_secondsOf (.code yX9_secondsOf cX9_secondsOf 2 (some .int)) 1 22 0 0 [.ref (ad L 96), .int p0] L (FW G L a b c) px0 (stay L (fun r f1 => f1 = (FW G L a b c) ∧ r = some (.int v))) := by
  refine Ct.ofq (own := RX9) hl rfl (by decide) [some (.ref (ad L 96)), some (.int p0)] rfl (Nat.le_of_ble_eq_true rfl) ?_
  intro p e s m below meth c9 A ar Q hQ X
  unfold f_X9_secondsOf at hR
  refine j_aload_n X (i := 0) dX9_secondsOf_0 rfl rfl ?_
  refine j_iload_n X (i := 1) dX9_secondsOf_1 rfl rfl ?_
  refine j_iconst X (0) dX9_secondsOf_2 (by decide) ?_
  obtain ⟨x2, h1, hR⟩ := bP_inv hR
  refine j_callV2 X 9 (m_X9_of hl hL h1) ml_X9_57 im_yX9_of se_yX9_of in_X9 cd_yX9_of hy_yX9_of dX9_secondsOf_3 rfl (ad_mem hL (by decide)) (FW9 hL) ⟨(by decide), (by decide)⟩ ⟨(by decide), (by decide)⟩ (Nat.le_of_ble_eq_true rfl) (fun _ h => h.elim) (fun r9 L9 f9 h9 => ?_)
  obtain ⟨h91, h92, h93⟩ := h9
  subst r9
  subst f9
  subst L9
  dsimp only [Option.toList, List.cons_append, List.nil_append, List.append]
  refine j_bipush X (9) dX9_secondsOf_6 (by decide) ?_
  refine j_iadd X dX9_secondsOf_8 ?_
  refine j_bipush X (10) dX9_secondsOf_9 (by decide) ?_
  refine j_idiv X dX9_secondsOf_11 (by decide) ?_
  exact q_iret X hQ dX9_secondsOf_12 rfl ⟨(by decide), (by decide)⟩ ⟨rfl, rfl, congrArg (fun z => some (Value.int z)) (Option.some.inj hR)⟩
def f_X9_shown (N : Nat) (p0 : Int32) (b : Mem) : Option (Int32 × Mem) := bT (f_X9_isSide p0 b) fun x2 => bT2 (f_X9_passes x2 b) fun x5 b6 => if x5 = 0 then (some ((0 : Int32), b6)) else (bP (f_X9_secondsOf N p0 b6) fun x10 => some (((((10000 : Int32) * (x10 / (3600 : Int32))) + ((100 : Int32) * ((x10 / (60 : Int32)) - (x10 / (60 : Int32)) / (60 : Int32) * (60 : Int32)))) + (x10 - x10 / (60 : Int32) * (60 : Int32))), b6))
set_option maxRecDepth 100000 in
set_option maxHeartbeats 4000000 in
theorem m_X9_shown {l : Launch} (hl : l.stackTraces = false) {G : GG} {L : List Nat} (hL : LOK L) {a b c : Mem} {N : Nat} {p0 : Int32} {v : Int32} {a' : Mem} (hR : f_X9_shown N p0 b = some (v, a')) : Ct l G yX9_shown (.code yX9_shown cX9_shown 3 (some .int)) 2 45 0 0 [.ref (ad L 96), .int p0] L (FW G L a b c) px0 (stay L (fun r f1 => f1 = (FW G L a a' c) ∧ r = some (.int v))) := by
  refine Ct.ofq (own := RX9) hl rfl (by decide) [some (.ref (ad L 96)), some (.int p0), none] rfl (Nat.le_of_ble_eq_true rfl) ?_
  intro p e s m below meth c9 A ar Q hQ X
  unfold f_X9_shown at hR
  refine j_aload_n X (i := 0) dX9_shown_0 rfl rfl ?_
  refine j_iload_n X (i := 1) dX9_shown_1 rfl rfl ?_
  obtain ⟨x2, h1, hR⟩ := bT_inv hR
  refine j_callS1 X (m_X9_isSide hl hL h1) ml_X9_318 st_yX9_isSide in_X9 cd_yX9_isSide hy_yX9_isSide dX9_shown_2 ⟨(by decide), (by decide)⟩ ⟨(by decide), (by decide)⟩ (Nat.le_of_ble_eq_true rfl) (fun _ h => h.elim) (fun r9 L9 f9 h9 => ?_)
  obtain ⟨h91, h92, h93, h3⟩ := h9
  subst r9
  subst f9
  subst L9
  dsimp only [Option.toList, List.cons_append, List.nil_append, List.append]
  obtain ⟨x5, b6, h4, hR⟩ := bT2_inv hR
  refine j_callV1 X 9 (m_X9_passes hl hL h3 h4) ml_X9_159 im_yX9_passes se_yX9_passes in_X9 cd_yX9_passes hy_yX9_passes dX9_shown_5 rfl (ad_mem hL (by decide)) (FW9 hL) ⟨(by decide), (by decide)⟩ ⟨(by decide), (by decide)⟩ (Nat.le_of_ble_eq_true rfl) (fun _ h => h.elim) (fun r9 L9 f9 h9 => ?_)
  obtain ⟨h91, h92, h93, h7⟩ := h9
  subst r9
  subst f9
  subst L9
  dsimp only [Option.toList, List.cons_append, List.nil_append, List.append]
  refine j_if_ne X (tgt := 13) dX9_shown_8 (by decide) (fun h8 => ?_) (fun h8 => ?_)
  · replace hR := (if_neg h8).symm.trans hR
    refine j_aload_n X (i := 0) dX9_shown_13 rfl rfl ?_
    refine j_iload_n X (i := 1) dX9_shown_14 rfl rfl ?_
    obtain ⟨x10, h9, hR⟩ := bP_inv hR
    refine j_callV1 X 9 (m_X9_secondsOf hl hL h9) ml_X9_335 im_yX9_secondsOf se_yX9_secondsOf in_X9 cd_yX9_secondsOf hy_yX9_secondsOf dX9_shown_15 rfl (ad_mem hL (by decide)) (FW9 hL) ⟨(by decide), (by decide)⟩ ⟨(by decide), (by decide)⟩ (Nat.le_of_ble_eq_true rfl) (fun _ h => h.elim) (fun r9 L9 f9 h9 => ?_)
    obtain ⟨h91, h92, h93⟩ := h9
    subst r9
    subst f9
    subst L9
    dsimp only [Option.toList, List.cons_append, List.nil_append, List.append]
    refine j_istore_n X (i := 2) dX9_shown_18 rfl (by decide) (lvOK_s rfl okPrev_int) ?_
    dsimp only [List.set]
    refine j_sipush X (10000) dX9_shown_19 (by decide) ?_
    refine j_iload_n X (i := 2) dX9_shown_22 rfl rfl ?_
    refine j_sipush X (3600) dX9_shown_23 (by decide) ?_
    refine j_idiv X dX9_shown_26 (by decide) ?_
    refine j_imul X dX9_shown_27 ?_
    refine j_bipush X (100) dX9_shown_28 (by decide) ?_
    refine j_iload_n X (i := 2) dX9_shown_30 rfl rfl ?_
    refine j_bipush X (60) dX9_shown_31 (by decide) ?_
    refine j_idiv X dX9_shown_33 (by decide) ?_
    refine j_bipush X (60) dX9_shown_34 (by decide) ?_
    refine j_irem X dX9_shown_36 (by decide) ?_
    refine j_imul X dX9_shown_37 ?_
    refine j_iadd X dX9_shown_38 ?_
    refine j_iload_n X (i := 2) dX9_shown_39 rfl rfl ?_
    refine j_bipush X (60) dX9_shown_40 (by decide) ?_
    refine j_irem X dX9_shown_42 (by decide) ?_
    refine j_iadd X dX9_shown_43 ?_
    exact q_iret X hQ dX9_shown_44 rfl ⟨(by decide), (by decide)⟩ ⟨rfl, congrArg (fun z => FW G L a z c) (Prod.mk.inj (Option.some.inj hR)).2, congrArg (fun z => some (Value.int z)) (Prod.mk.inj (Option.some.inj hR)).1⟩
  · replace hR := (if_pos h8).symm.trans hR
    refine j_iconst X (0) dX9_shown_11 (by decide) ?_
    exact q_iret X hQ dX9_shown_12 rfl ⟨(by decide), (by decide)⟩ ⟨rfl, congrArg (fun z => FW G L a z c) (Prod.mk.inj (Option.some.inj hR)).2, congrArg (fun z => some (Value.int z)) (Prod.mk.inj (Option.some.inj hR)).1⟩
def f_X9_walkOn_141 (N : Nat) (b9 : Mem) (x16 : Int32) : Option (Int32 × Mem) := bT (up2 b9 0 5 x16) fun b17 => bT (up2 b17 0 7 ((b17 0 7) + (1 : Int32))) fun b19 => bP (f_X9_ofPeriod N (b19 0 6) (0 : Int32) b19) fun x22 => if (b19 0 7) = x22 then (bT (up2 b19 0 6 (mnI ((b19 0 6) + (1 : Int32)) ((b19 (rowM (b19 0 3)) ((2 : Int32)).toNatClampNeg) - (1 : Int32)))) fun b25 => bT (up2 b25 0 7 (0 : Int32)) fun b27 => bP (f_X9_ofPeriod N (b27 0 6) (1 : Int32) b27) fun x30 => bT (up2 b27 0 5 ((b27 0 5) + x30)) fun b32 => some ((1 : Int32), b32)) else (some ((1 : Int32), b19))
def f_X9_walkOn_18 (N : Nat) (x4 : Int32) : Nat → Int32 → Mem → Option (Int32 × Mem)
  | 0, _, _ => none
  | fu + 1, x6, b7 => if x6 < (b7 0 5) then (bT (up2 b7 0 5 ((b7 0 5) - x6)) fun b9 => bP (f_X9_ofPeriod N (b9 0 6) (4 : Int32) b9) fun x12 => bT (mnI x4 x12) fun x14 => if (nb (b9 0 9)) = 0 then (bP (f_X9_ofPeriod N (b9 0 6) (2 : Int32) b9) fun x36 => f_X9_walkOn_141 N b9 (((b9 0 5) + x36) + x14)) else (f_X9_walkOn_141 N b9 (b9 (rowM (b9 0 3)) ((4 : Int32)).toNatClampNeg))) else (bP (f_X9_ofPeriod N (b7 0 6) (0 : Int32) b7) fun x39 => if 0 < x39 then (some ((0 : Int32), b7)) else (if (b7 0 8) = 0 then (some ((0 : Int32), b7)) else (bT (x6 - (b7 0 5)) fun x43 => bT (up2 b7 0 8 ((b7 0 8) - (1 : Int32))) fun b45 => bT (up2 b45 0 9 (1 : Int32)) fun b47 => bT (up2 b47 0 5 (b47 (rowM (b47 0 3)) ((4 : Int32)).toNatClampNeg)) fun b49 => f_X9_walkOn_18 N x4 fu x43 b49)))
theorem f_X9_walkOn_18_s (N : Nat) (x4 : Int32) {fu : Nat} {x6 : Int32} {b7 : Mem} : f_X9_walkOn_18 N x4 (fu + 1) x6 b7 = (if x6 < (b7 0 5) then (bT (up2 b7 0 5 ((b7 0 5) - x6)) fun b9 => bP (f_X9_ofPeriod N (b9 0 6) (4 : Int32) b9) fun x12 => bT (mnI x4 x12) fun x14 => if (nb (b9 0 9)) = 0 then (bP (f_X9_ofPeriod N (b9 0 6) (2 : Int32) b9) fun x36 => f_X9_walkOn_141 N b9 (((b9 0 5) + x36) + x14)) else (f_X9_walkOn_141 N b9 (b9 (rowM (b9 0 3)) ((4 : Int32)).toNatClampNeg))) else (bP (f_X9_ofPeriod N (b7 0 6) (0 : Int32) b7) fun x39 => if 0 < x39 then (some ((0 : Int32), b7)) else (if (b7 0 8) = 0 then (some ((0 : Int32), b7)) else (bT (x6 - (b7 0 5)) fun x43 => bT (up2 b7 0 8 ((b7 0 8) - (1 : Int32))) fun b45 => bT (up2 b45 0 9 (1 : Int32)) fun b47 => bT (up2 b47 0 5 (b47 (rowM (b47 0 3)) ((4 : Int32)).toNatClampNeg)) fun b49 => f_X9_walkOn_18 N x4 fu x43 b49)))) := rfl
def f_X9_walkOn (N : Nat) (p0 : Int32) (b : Mem) : Option (Int32 × Mem) := bP (f_X9_ofPeriod N (b 0 6) (3 : Int32) b) fun x2 => bT (mxI (0 : Int32) (p0 - x2)) fun x4 => f_X9_walkOn_18 N x4 N x4 b
set_option maxRecDepth 100000 in
set_option maxHeartbeats 4000000 in
theorem m_X9_walkOn {l : Launch} (hl : l.stackTraces = false) {G : GG} {L : List Nat} (hL : LOK L) {a b c : Mem} {N : Nat} {p0 : Int32} {v : Int32} {a' : Mem} (hR : f_X9_walkOn N p0 b = some (v, a')) : Ct l G yX9_walkOn (.code yX9_walkOn cX9_walkOn 5 (some .boolean)) 1 24 0 0 [.ref (ad L 96), .int p0] L (FW G L a b c) px0 (stay L (fun r f1 => f1 = (FW G L a a' c) ∧ r = some (.int v) ∧ isB v)) := by
  refine Ct.ofq (own := RX9) hl rfl (by decide) [some (.ref (ad L 96)), some (.int p0), none, none, none] rfl (Nat.le_of_ble_eq_true rfl) ?_
  intro p e s m below meth c9 A ar Q hQ X
  unfold f_X9_walkOn at hR
  refine j_iconst X (0) dX9_walkOn_0 (by decide) ?_
  refine j_iload_n X (i := 1) dX9_walkOn_1 rfl rfl ?_
  refine j_aload_n X (i := 0) dX9_walkOn_2 rfl rfl ?_
  refine j_aload_n X (i := 0) dX9_walkOn_3 rfl rfl ?_
  refine j_getf X 9 6 rfl cw_X9 fl_X9_120 (by decide) dX9_walkOn_4 (ad_mem hL (by decide)) (FW9 hL) rfl ?_
  refine j_iconst X (3) dX9_walkOn_7 (by decide) ?_
  obtain ⟨x2, h1, hR⟩ := bP_inv hR
  refine j_callV2 X 9 (m_X9_ofPeriod hl hL h1) ml_X9_61 im_yX9_ofPeriod se_yX9_ofPeriod in_X9 cd_yX9_ofPeriod hy_yX9_ofPeriod dX9_walkOn_8 rfl (ad_mem hL (by decide)) (FW9 hL) ⟨(by decide), (by decide)⟩ ⟨(by decide), (by decide)⟩ (Nat.le_of_ble_eq_true rfl) (fun _ h => h.elim) (fun r9 L9 f9 h9 => ?_)
  obtain ⟨h91, h92, h93⟩ := h9
  subst r9
  subst f9
  subst L9
  dsimp only [Option.toList, List.cons_append, List.nil_append, List.append]
  refine j_isub X dX9_walkOn_11 ?_
  refine j_mmax X ml_X9_114 dX9_walkOn_12 ⟨(by decide), (Nat.le_of_ble_eq_true rfl)⟩ ⟨(by decide), (by decide)⟩ ?_
  obtain ⟨x4, h5, hR⟩ := bT_inv hR
  refine J.eqi h5 ?_
  refine j_istore_n X (i := 2) dX9_walkOn_15 rfl (by decide) (lvOK_s rfl okPrev_int) ?_
  dsimp only [List.set]
  refine j_iload_n X (i := 2) dX9_walkOn_16 rfl rfl ?_
  refine j_istore_n X (i := 3) dX9_walkOn_17 rfl (by decide) (lvOK_s rfl okPrev_int) ?_
  dsimp only [List.set]
  have hb18 : ∀ (fu : Nat) (x6 : Int32) (b7 : Mem) , f_X9_walkOn_18 N x4 fu x6 b7 = some (v, a') → J G p l e ({ frames := 1, cells := 0, slots := 0, locals := 24 } : Room) s m ar below meth c9 A Q 5 0 0 18 [some (.ref (ad L 96)), none, some (.int x6), some (.int x4), none] [] L (FW G L a b7 c) := by
    intro fu
    induction fu with
    | zero =>
      intro x6 b7 hR
      cases hR
    | succ fu ih =>
      intro x6 b7 hR
      replace hR := (f_X9_walkOn_18_s N x4).symm.trans hR
      refine j_iload_n X (i := 2) dX9_walkOn_18 rfl rfl ?_
      refine j_aload_n X (i := 0) dX9_walkOn_19 rfl rfl ?_
      refine j_getf X 9 5 rfl cw_X9 fl_X9_123 (by decide) dX9_walkOn_20 (ad_mem hL (by decide)) (FW9 hL) rfl ?_
      refine j_icmp_lt X (tgt := 82) dX9_walkOn_23 (by decide) (fun h8 => ?_) (fun h8 => ?_)
      · replace hR := (if_pos h8).symm.trans hR
        refine j_aload_n X (i := 0) dX9_walkOn_82 rfl rfl ?_
        refine j_dup X dX9_walkOn_83 rfl ?_
        refine j_getf X 9 5 rfl cw_X9 fl_X9_123 (by decide) dX9_walkOn_84 (ad_mem hL (by decide)) (FW9 hL) rfl ?_
        refine j_iload_n X (i := 2) dX9_walkOn_87 rfl rfl ?_
        refine j_isub X dX9_walkOn_88 ?_
        obtain ⟨b9, h10, hR⟩ := bT_inv hR
        refine tp_X9_5 X hL h10 fl_X9_123 dX9_walkOn_89 ?_
        refine j_iload_n X (i := 3) dX9_walkOn_92 rfl rfl ?_
        refine j_aload_n X (i := 0) dX9_walkOn_93 rfl rfl ?_
        refine j_aload_n X (i := 0) dX9_walkOn_94 rfl rfl ?_
        refine j_getf X 9 6 rfl cw_X9 fl_X9_120 (by decide) dX9_walkOn_95 (ad_mem hL (by decide)) (FW9 hL) rfl ?_
        refine j_iconst X (4) dX9_walkOn_98 (by decide) ?_
        obtain ⟨x12, h11, hR⟩ := bP_inv hR
        refine j_callV2 X 9 (m_X9_ofPeriod hl hL h11) ml_X9_61 im_yX9_ofPeriod se_yX9_ofPeriod in_X9 cd_yX9_ofPeriod hy_yX9_ofPeriod dX9_walkOn_99 rfl (ad_mem hL (by decide)) (FW9 hL) ⟨(by decide), (by decide)⟩ ⟨(by decide), (by decide)⟩ (Nat.le_of_ble_eq_true rfl) (fun _ h => h.elim) (fun r9 L9 f9 h9 => ?_)
        obtain ⟨h91, h92, h93⟩ := h9
        subst r9
        subst f9
        subst L9
        dsimp only [Option.toList, List.cons_append, List.nil_append, List.append]
        refine j_mmin X ml_X9_99 dX9_walkOn_102 ⟨(by decide), (Nat.le_of_ble_eq_true rfl)⟩ ⟨(by decide), (by decide)⟩ ?_
        obtain ⟨x14, h15, hR⟩ := bT_inv hR
        refine J.eqi h15 ?_
        refine j_istore X dX9_walkOn_105 (by decide) (lvOK_s rfl okPrev_int) ?_
        dsimp only [List.set]
        refine j_aload_n X (i := 0) dX9_walkOn_107 rfl rfl ?_
        refine j_aload_n X (i := 0) dX9_walkOn_108 rfl rfl ?_
        refine j_getf X 9 9 rfl cw_X9 fl_X9_129 (by decide) dX9_walkOn_109 (ad_mem hL (by decide)) (FW9 hL) rfl ?_
        have hb141 : ∀ (x16 : Int32) , f_X9_walkOn_141 N b9 x16 = some (v, a') → J G p l e ({ frames := 1, cells := 0, slots := 0, locals := 24 } : Room) s m ar below meth c9 A Q 5 0 0 141 [some (.ref (ad L 96)), none, none, none, none] [.int x16, .ref (ad L 96)] L (FW G L a b9 c) := by
          intro x16 hR
          unfold f_X9_walkOn_141 at hR
          obtain ⟨b17, h18, hR⟩ := bT_inv hR
          refine tp_X9_5 X hL h18 fl_X9_123 dX9_walkOn_141 ?_
          refine j_aload_n X (i := 0) dX9_walkOn_144 rfl rfl ?_
          refine j_dup X dX9_walkOn_145 rfl ?_
          refine j_getf X 9 7 rfl cw_X9 fl_X9_133 (by decide) dX9_walkOn_146 (ad_mem hL (by decide)) (FW9 hL) rfl ?_
          refine j_iconst X (1) dX9_walkOn_149 (by decide) ?_
          refine j_iadd X dX9_walkOn_150 ?_
          obtain ⟨b19, h20, hR⟩ := bT_inv hR
          refine tp_X9_7 X hL h20 fl_X9_133 dX9_walkOn_151 ?_
          refine j_aload_n X (i := 0) dX9_walkOn_154 rfl rfl ?_
          refine j_getf X 9 7 rfl cw_X9 fl_X9_133 (by decide) dX9_walkOn_155 (ad_mem hL (by decide)) (FW9 hL) rfl ?_
          refine j_aload_n X (i := 0) dX9_walkOn_158 rfl rfl ?_
          refine j_aload_n X (i := 0) dX9_walkOn_159 rfl rfl ?_
          refine j_getf X 9 6 rfl cw_X9 fl_X9_120 (by decide) dX9_walkOn_160 (ad_mem hL (by decide)) (FW9 hL) rfl ?_
          refine j_iconst X (0) dX9_walkOn_163 (by decide) ?_
          obtain ⟨x22, h21, hR⟩ := bP_inv hR
          refine j_callV2 X 9 (m_X9_ofPeriod hl hL h21) ml_X9_61 im_yX9_ofPeriod se_yX9_ofPeriod in_X9 cd_yX9_ofPeriod hy_yX9_ofPeriod dX9_walkOn_164 rfl (ad_mem hL (by decide)) (FW9 hL) ⟨(by decide), (by decide)⟩ ⟨(by decide), (by decide)⟩ (Nat.le_of_ble_eq_true rfl) (fun _ h => h.elim) (fun r9 L9 f9 h9 => ?_)
          obtain ⟨h91, h92, h93⟩ := h9
          subst r9
          subst f9
          subst L9
          dsimp only [Option.toList, List.cons_append, List.nil_append, List.append]
          refine j_icmp_ne X (tgt := 214) dX9_walkOn_167 (by decide) (fun h24 => ?_) (fun h24 => ?_)
          · replace hR := (if_neg h24).symm.trans hR
            refine j_iconst X (1) dX9_walkOn_214 (by decide) ?_
            exact q_zret X hQ dX9_walkOn_215 rfl (nar_B isB_1) ⟨(by decide), (by decide)⟩ ⟨rfl, congrArg (fun z => FW G L a z c) (Prod.mk.inj (Option.some.inj hR)).2, congrArg (fun z => some (Value.int z)) (Prod.mk.inj (Option.some.inj hR)).1, (Prod.mk.inj (Option.some.inj hR)).1 ▸ isB_1⟩
          · replace hR := (if_pos h24).symm.trans hR
            refine j_aload_n X (i := 0) dX9_walkOn_170 rfl rfl ?_
            refine j_aload_n X (i := 0) dX9_walkOn_171 rfl rfl ?_
            refine j_getf X 9 6 rfl cw_X9 fl_X9_120 (by decide) dX9_walkOn_172 (ad_mem hL (by decide)) (FW9 hL) rfl ?_
            refine j_iconst X (1) dX9_walkOn_175 (by decide) ?_
            refine j_iadd X dX9_walkOn_176 ?_
            refine j_aload_n X (i := 0) dX9_walkOn_177 rfl rfl ?_
            refine j_getf X 9 3 rfl cw_X9 fl_X9_24 (by decide) dX9_walkOn_178 (ad_mem hL (by decide)) (FW9 hL) rfl ?_
            refine j_iconst X (2) dX9_walkOn_181 (by decide) ?_
            refine j_iald X dX9_walkOn_182 (inLr hL) (FWrow hL) (by unfold vp_in; decide) ?_
            refine j_iconst X (1) dX9_walkOn_183 (by decide) ?_
            refine j_isub X dX9_walkOn_184 ?_
            refine j_mmin X ml_X9_99 dX9_walkOn_185 ⟨(by decide), (Nat.le_of_ble_eq_true rfl)⟩ ⟨(by decide), (by decide)⟩ ?_
            obtain ⟨b25, h26, hR⟩ := bT_inv hR
            refine tp_X9_6 X hL h26 fl_X9_120 dX9_walkOn_188 ?_
            refine j_aload_n X (i := 0) dX9_walkOn_191 rfl rfl ?_
            refine j_iconst X (0) dX9_walkOn_192 (by decide) ?_
            obtain ⟨b27, h28, hR⟩ := bT_inv hR
            refine tp_X9_7 X hL h28 fl_X9_133 dX9_walkOn_193 ?_
            refine j_aload_n X (i := 0) dX9_walkOn_196 rfl rfl ?_
            refine j_dup X dX9_walkOn_197 rfl ?_
            refine j_getf X 9 5 rfl cw_X9 fl_X9_123 (by decide) dX9_walkOn_198 (ad_mem hL (by decide)) (FW9 hL) rfl ?_
            refine j_aload_n X (i := 0) dX9_walkOn_201 rfl rfl ?_
            refine j_aload_n X (i := 0) dX9_walkOn_202 rfl rfl ?_
            refine j_getf X 9 6 rfl cw_X9 fl_X9_120 (by decide) dX9_walkOn_203 (ad_mem hL (by decide)) (FW9 hL) rfl ?_
            refine j_iconst X (1) dX9_walkOn_206 (by decide) ?_
            obtain ⟨x30, h29, hR⟩ := bP_inv hR
            refine j_callV2 X 9 (m_X9_ofPeriod hl hL h29) ml_X9_61 im_yX9_ofPeriod se_yX9_ofPeriod in_X9 cd_yX9_ofPeriod hy_yX9_ofPeriod dX9_walkOn_207 rfl (ad_mem hL (by decide)) (FW9 hL) ⟨(by decide), (by decide)⟩ ⟨(by decide), (by decide)⟩ (Nat.le_of_ble_eq_true rfl) (fun _ h => h.elim) (fun r9 L9 f9 h9 => ?_)
            obtain ⟨h91, h92, h93⟩ := h9
            subst r9
            subst f9
            subst L9
            dsimp only [Option.toList, List.cons_append, List.nil_append, List.append]
            refine j_iadd X dX9_walkOn_210 ?_
            obtain ⟨b32, h33, hR⟩ := bT_inv hR
            refine tp_X9_5 X hL h33 fl_X9_123 dX9_walkOn_211 ?_
            refine j_iconst X (1) dX9_walkOn_214 (by decide) ?_
            exact q_zret X hQ dX9_walkOn_215 rfl (nar_B isB_1) ⟨(by decide), (by decide)⟩ ⟨rfl, congrArg (fun z => FW G L a z c) (Prod.mk.inj (Option.some.inj hR)).2, congrArg (fun z => some (Value.int z)) (Prod.mk.inj (Option.some.inj hR)).1, (Prod.mk.inj (Option.some.inj hR)).1 ▸ isB_1⟩
        refine j_if_eq X (tgt := 124) dX9_walkOn_112 (by decide) (fun h34 => ?_) (fun h34 => ?_)
        · replace hR := (if_pos h34).symm.trans hR
          refine j_aload_n X (i := 0) dX9_walkOn_124 rfl rfl ?_
          refine j_getf X 9 5 rfl cw_X9 fl_X9_123 (by decide) dX9_walkOn_125 (ad_mem hL (by decide)) (FW9 hL) rfl ?_
          refine j_aload_n X (i := 0) dX9_walkOn_128 rfl rfl ?_
          refine j_aload_n X (i := 0) dX9_walkOn_129 rfl rfl ?_
          refine j_getf X 9 6 rfl cw_X9 fl_X9_120 (by decide) dX9_walkOn_130 (ad_mem hL (by decide)) (FW9 hL) rfl ?_
          refine j_iconst X (2) dX9_walkOn_133 (by decide) ?_
          obtain ⟨x36, h35, hR⟩ := bP_inv hR
          refine j_callV2 X 9 (m_X9_ofPeriod hl hL h35) ml_X9_61 im_yX9_ofPeriod se_yX9_ofPeriod in_X9 cd_yX9_ofPeriod hy_yX9_ofPeriod dX9_walkOn_134 rfl (ad_mem hL (by decide)) (FW9 hL) ⟨(by decide), (by decide)⟩ ⟨(by decide), (by decide)⟩ (Nat.le_of_ble_eq_true rfl) (fun _ h => h.elim) (fun r9 L9 f9 h9 => ?_)
          obtain ⟨h91, h92, h93⟩ := h9
          subst r9
          subst f9
          subst L9
          dsimp only [Option.toList, List.cons_append, List.nil_append, List.append]
          refine j_iadd X dX9_walkOn_137 ?_
          refine j_iload X dX9_walkOn_138 rfl ?_
          refine j_iadd X dX9_walkOn_140 ?_
          exact J.sub (lvle_of (by simp only [lvle, and_self])) (hb141 _  hR)
        · replace hR := (if_neg h34).symm.trans hR
          refine j_aload_n X (i := 0) dX9_walkOn_115 rfl rfl ?_
          refine j_getf X 9 3 rfl cw_X9 fl_X9_24 (by decide) dX9_walkOn_116 (ad_mem hL (by decide)) (FW9 hL) rfl ?_
          refine j_iconst X (4) dX9_walkOn_119 (by decide) ?_
          refine j_iald X dX9_walkOn_120 (inLr hL) (FWrow hL) (by unfold vp_in; decide) ?_
          refine j_goto X (tgt := 141) dX9_walkOn_121 (by decide) ?_
          exact J.sub (lvle_of (by simp only [lvle, and_self])) (hb141 _  hR)
      · replace hR := (if_neg h8).symm.trans hR
        refine j_aload_n X (i := 0) dX9_walkOn_26 rfl rfl ?_
        refine j_aload_n X (i := 0) dX9_walkOn_27 rfl rfl ?_
        refine j_getf X 9 6 rfl cw_X9 fl_X9_120 (by decide) dX9_walkOn_28 (ad_mem hL (by decide)) (FW9 hL) rfl ?_
        refine j_iconst X (0) dX9_walkOn_31 (by decide) ?_
        obtain ⟨x39, h38, hR⟩ := bP_inv hR
        refine j_callV2 X 9 (m_X9_ofPeriod hl hL h38) ml_X9_61 im_yX9_ofPeriod se_yX9_ofPeriod in_X9 cd_yX9_ofPeriod hy_yX9_ofPeriod dX9_walkOn_32 rfl (ad_mem hL (by decide)) (FW9 hL) ⟨(by decide), (by decide)⟩ ⟨(by decide), (by decide)⟩ (Nat.le_of_ble_eq_true rfl) (fun _ h => h.elim) (fun r9 L9 f9 h9 => ?_)
        obtain ⟨h91, h92, h93⟩ := h9
        subst r9
        subst f9
        subst L9
        dsimp only [Option.toList, List.cons_append, List.nil_append, List.append]
        refine j_if_gt X (tgt := 45) dX9_walkOn_35 (by decide) (fun h41 => ?_) (fun h41 => ?_)
        · replace hR := (if_pos h41).symm.trans hR
          refine j_iconst X (0) dX9_walkOn_45 (by decide) ?_
          exact q_zret X hQ dX9_walkOn_46 rfl (nar_B isB_0) ⟨(by decide), (by decide)⟩ ⟨rfl, congrArg (fun z => FW G L a z c) (Prod.mk.inj (Option.some.inj hR)).2, congrArg (fun z => some (Value.int z)) (Prod.mk.inj (Option.some.inj hR)).1, (Prod.mk.inj (Option.some.inj hR)).1 ▸ isB_0⟩
        · replace hR := (if_neg h41).symm.trans hR
          refine j_aload_n X (i := 0) dX9_walkOn_38 rfl rfl ?_
          refine j_getf X 9 8 rfl cw_X9 fl_X9_126 (by decide) dX9_walkOn_39 (ad_mem hL (by decide)) (FW9 hL) rfl ?_
          refine j_if_ne X (tgt := 47) dX9_walkOn_42 (by decide) (fun h42 => ?_) (fun h42 => ?_)
          · replace hR := (if_neg h42).symm.trans hR
            refine j_iload_n X (i := 2) dX9_walkOn_47 rfl rfl ?_
            refine j_aload_n X (i := 0) dX9_walkOn_48 rfl rfl ?_
            refine j_getf X 9 5 rfl cw_X9 fl_X9_123 (by decide) dX9_walkOn_49 (ad_mem hL (by decide)) (FW9 hL) rfl ?_
            refine j_isub X dX9_walkOn_52 ?_
            obtain ⟨x43, h44, hR⟩ := bT_inv hR
            refine J.eqi h44 ?_
            refine j_istore_n X (i := 2) dX9_walkOn_53 rfl (by decide) (lvOK_s rfl okPrev_none) ?_
            dsimp only [List.set]
            refine j_aload_n X (i := 0) dX9_walkOn_54 rfl rfl ?_
            refine j_dup X dX9_walkOn_55 rfl ?_
            refine j_getf X 9 8 rfl cw_X9 fl_X9_126 (by decide) dX9_walkOn_56 (ad_mem hL (by decide)) (FW9 hL) rfl ?_
            refine j_iconst X (1) dX9_walkOn_59 (by decide) ?_
            refine j_isub X dX9_walkOn_60 ?_
            obtain ⟨b45, h46, hR⟩ := bT_inv hR
            refine tp_X9_8 X hL h46 fl_X9_126 dX9_walkOn_61 ?_
            refine j_aload_n X (i := 0) dX9_walkOn_64 rfl rfl ?_
            refine j_iconst X (1) dX9_walkOn_65 (by decide) ?_
            obtain ⟨b47, h48, hR⟩ := bT_inv hR
            refine tp_X9_9 X hL isB_1 h48 fl_X9_129 dX9_walkOn_66 ?_
            refine j_aload_n X (i := 0) dX9_walkOn_69 rfl rfl ?_
            refine j_aload_n X (i := 0) dX9_walkOn_70 rfl rfl ?_
            refine j_getf X 9 3 rfl cw_X9 fl_X9_24 (by decide) dX9_walkOn_71 (ad_mem hL (by decide)) (FW9 hL) rfl ?_
            refine j_iconst X (4) dX9_walkOn_74 (by decide) ?_
            refine j_iald X dX9_walkOn_75 (inLr hL) (FWrow hL) (by unfold vp_in; decide) ?_
            obtain ⟨b49, h50, hR⟩ := bT_inv hR
            refine tp_X9_5 X hL h50 fl_X9_123 dX9_walkOn_76 ?_
            refine j_goto X (tgt := 18) dX9_walkOn_79 (by decide) ?_
            exact J.sub (lvle_of (by simp only [lvle, and_self])) (ih _ _  hR)
          · replace hR := (if_pos h42).symm.trans hR
            refine j_iconst X (0) dX9_walkOn_45 (by decide) ?_
            exact q_zret X hQ dX9_walkOn_46 rfl (nar_B isB_0) ⟨(by decide), (by decide)⟩ ⟨rfl, congrArg (fun z => FW G L a z c) (Prod.mk.inj (Option.some.inj hR)).2, congrArg (fun z => some (Value.int z)) (Prod.mk.inj (Option.some.inj hR)).1, (Prod.mk.inj (Option.some.inj hR)).1 ▸ isB_0⟩
  exact J.sub (lvle_of (by simp only [lvle, and_self])) (hb18 _ _ _  hR)
def f_X9_movesAt_65 (N : Nat) (p0 : Int32) (p1 : Int32) (p2 : Int32) : Nat → Int32 → Mem → Option (Int32 × Mem)
  | 0, _, _ => none
  | fu + 1, x27, b28 => bP (f_X9_fell N p0 b28) fun x30 => if x30 = 0 then (if p2 ≤ x27 then (some (x27, b28)) else (bP2 (f_X9_walkOn N p1 b28) fun x35 b36 => if x35 = 0 then (some (x27, b36)) else (bT (x27 + (1 : Int32)) fun x39 => f_X9_movesAt_65 N p0 p1 p2 fu x39 b36))) else (some (x27, b28))
theorem f_X9_movesAt_65_s (N : Nat) (p0 : Int32) (p1 : Int32) (p2 : Int32) {fu : Nat} {x27 : Int32} {b28 : Mem} : f_X9_movesAt_65 N p0 p1 p2 (fu + 1) x27 b28 = (bP (f_X9_fell N p0 b28) fun x30 => if x30 = 0 then (if p2 ≤ x27 then (some (x27, b28)) else (bP2 (f_X9_walkOn N p1 b28) fun x35 b36 => if x35 = 0 then (some (x27, b36)) else (bT (x27 + (1 : Int32)) fun x39 => f_X9_movesAt_65 N p0 p1 p2 fu x39 b36))) else (some (x27, b28))) := rfl
def f_X9_movesAt_59 (N : Nat) (p0 : Int32) (p1 : Int32) (p2 : Int32) (b19 : Mem) (x24 : Int32) : Option (Int32 × Mem) := bT (up2 b19 0 9 x24) fun b25 => f_X9_movesAt_65 N p0 p1 p2 N (0 : Int32) b25
def f_X9_movesAt (N : Nat) (p0 : Int32) (p1 : Int32) (p2 : Int32) (p3 : Int32) (b : Mem) : Option (Int32 × Mem) := bP (f_X9_of N p0 (0 : Int32) b) fun x2 => bT (up2 b 0 5 (x2 + p3)) fun b4 => bP (f_X9_of N p0 (2 : Int32) b4) fun x7 => bT (up2 b4 0 6 x7) fun b9 => bP (f_X9_of N p0 (3 : Int32) b9) fun x12 => bT (up2 b9 0 7 x12) fun b14 => bP (f_X9_of N p0 (4 : Int32) b14) fun x17 => bT (up2 b14 0 8 x17) fun b19 => bP (f_X9_of N p0 (5 : Int32) b19) fun x22 => if x22 = (1 : Int32) then (f_X9_movesAt_59 N p0 p1 p2 b19 (1 : Int32)) else (f_X9_movesAt_59 N p0 p1 p2 b19 (0 : Int32))
set_option maxRecDepth 100000 in
set_option maxHeartbeats 4000000 in
theorem m_X9_movesAt {l : Launch} (hl : l.stackTraces = false) {G : GG} {L : List Nat} (hL : LOK L) {a b c : Mem} {N : Nat} {p0 : Int32} {p1 : Int32} {p2 : Int32} {p3 : Int32} {v : Int32} {a' : Mem} (hR : f_X9_movesAt N p0 p1 p2 p3 b = some (v, a')) : Ct l G yX9_movesAt (.code yX9_movesAt cX9_movesAt 6 (some .int)) 2 48 0 0 [.ref (ad L 96), .int p0, .int p1, .int p2, .int p3] L (FW G L a b c) px0 (stay L (fun r f1 => f1 = (FW G L a a' c) ∧ r = some (.int v))) := by
  refine Ct.ofq (own := RX9) hl rfl (by decide) [some (.ref (ad L 96)), some (.int p0), some (.int p1), some (.int p2), some (.int p3), none] rfl (Nat.le_of_ble_eq_true rfl) ?_
  intro p e s m below meth c9 A ar Q hQ X
  unfold f_X9_movesAt at hR
  refine j_aload_n X (i := 0) dX9_movesAt_0 rfl rfl ?_
  refine j_aload_n X (i := 0) dX9_movesAt_1 rfl rfl ?_
  refine j_iload_n X (i := 1) dX9_movesAt_2 rfl rfl ?_
  refine j_iconst X (0) dX9_movesAt_3 (by decide) ?_
  obtain ⟨x2, h1, hR⟩ := bP_inv hR
  refine j_callV2 X 9 (m_X9_of hl hL h1) ml_X9_57 im_yX9_of se_yX9_of in_X9 cd_yX9_of hy_yX9_of dX9_movesAt_4 rfl (ad_mem hL (by decide)) (FW9 hL) ⟨(by decide), (by decide)⟩ ⟨(by decide), (by decide)⟩ (Nat.le_of_ble_eq_true rfl) (fun _ h => h.elim) (fun r9 L9 f9 h9 => ?_)
  obtain ⟨h91, h92, h93⟩ := h9
  subst r9
  subst f9
  subst L9
  dsimp only [Option.toList, List.cons_append, List.nil_append, List.append]
  refine j_iload X dX9_movesAt_7 rfl ?_
  refine j_iadd X dX9_movesAt_9 ?_
  obtain ⟨b4, h5, hR⟩ := bT_inv hR
  refine tp_X9_5 X hL h5 fl_X9_123 dX9_movesAt_10 ?_
  refine j_aload_n X (i := 0) dX9_movesAt_13 rfl rfl ?_
  refine j_aload_n X (i := 0) dX9_movesAt_14 rfl rfl ?_
  refine j_iload_n X (i := 1) dX9_movesAt_15 rfl rfl ?_
  refine j_iconst X (2) dX9_movesAt_16 (by decide) ?_
  obtain ⟨x7, h6, hR⟩ := bP_inv hR
  refine j_callV2 X 9 (m_X9_of hl hL h6) ml_X9_57 im_yX9_of se_yX9_of in_X9 cd_yX9_of hy_yX9_of dX9_movesAt_17 rfl (ad_mem hL (by decide)) (FW9 hL) ⟨(by decide), (by decide)⟩ ⟨(by decide), (by decide)⟩ (Nat.le_of_ble_eq_true rfl) (fun _ h => h.elim) (fun r9 L9 f9 h9 => ?_)
  obtain ⟨h91, h92, h93⟩ := h9
  subst r9
  subst f9
  subst L9
  dsimp only [Option.toList, List.cons_append, List.nil_append, List.append]
  obtain ⟨b9, h10, hR⟩ := bT_inv hR
  refine tp_X9_6 X hL h10 fl_X9_120 dX9_movesAt_20 ?_
  refine j_aload_n X (i := 0) dX9_movesAt_23 rfl rfl ?_
  refine j_aload_n X (i := 0) dX9_movesAt_24 rfl rfl ?_
  refine j_iload_n X (i := 1) dX9_movesAt_25 rfl rfl ?_
  refine j_iconst X (3) dX9_movesAt_26 (by decide) ?_
  obtain ⟨x12, h11, hR⟩ := bP_inv hR
  refine j_callV2 X 9 (m_X9_of hl hL h11) ml_X9_57 im_yX9_of se_yX9_of in_X9 cd_yX9_of hy_yX9_of dX9_movesAt_27 rfl (ad_mem hL (by decide)) (FW9 hL) ⟨(by decide), (by decide)⟩ ⟨(by decide), (by decide)⟩ (Nat.le_of_ble_eq_true rfl) (fun _ h => h.elim) (fun r9 L9 f9 h9 => ?_)
  obtain ⟨h91, h92, h93⟩ := h9
  subst r9
  subst f9
  subst L9
  dsimp only [Option.toList, List.cons_append, List.nil_append, List.append]
  obtain ⟨b14, h15, hR⟩ := bT_inv hR
  refine tp_X9_7 X hL h15 fl_X9_133 dX9_movesAt_30 ?_
  refine j_aload_n X (i := 0) dX9_movesAt_33 rfl rfl ?_
  refine j_aload_n X (i := 0) dX9_movesAt_34 rfl rfl ?_
  refine j_iload_n X (i := 1) dX9_movesAt_35 rfl rfl ?_
  refine j_iconst X (4) dX9_movesAt_36 (by decide) ?_
  obtain ⟨x17, h16, hR⟩ := bP_inv hR
  refine j_callV2 X 9 (m_X9_of hl hL h16) ml_X9_57 im_yX9_of se_yX9_of in_X9 cd_yX9_of hy_yX9_of dX9_movesAt_37 rfl (ad_mem hL (by decide)) (FW9 hL) ⟨(by decide), (by decide)⟩ ⟨(by decide), (by decide)⟩ (Nat.le_of_ble_eq_true rfl) (fun _ h => h.elim) (fun r9 L9 f9 h9 => ?_)
  obtain ⟨h91, h92, h93⟩ := h9
  subst r9
  subst f9
  subst L9
  dsimp only [Option.toList, List.cons_append, List.nil_append, List.append]
  obtain ⟨b19, h20, hR⟩ := bT_inv hR
  refine tp_X9_8 X hL h20 fl_X9_126 dX9_movesAt_40 ?_
  refine j_aload_n X (i := 0) dX9_movesAt_43 rfl rfl ?_
  refine j_aload_n X (i := 0) dX9_movesAt_44 rfl rfl ?_
  refine j_iload_n X (i := 1) dX9_movesAt_45 rfl rfl ?_
  refine j_iconst X (5) dX9_movesAt_46 (by decide) ?_
  obtain ⟨x22, h21, hR⟩ := bP_inv hR
  refine j_callV2 X 9 (m_X9_of hl hL h21) ml_X9_57 im_yX9_of se_yX9_of in_X9 cd_yX9_of hy_yX9_of dX9_movesAt_47 rfl (ad_mem hL (by decide)) (FW9 hL) ⟨(by decide), (by decide)⟩ ⟨(by decide), (by decide)⟩ (Nat.le_of_ble_eq_true rfl) (fun _ h => h.elim) (fun r9 L9 f9 h9 => ?_)
  obtain ⟨h91, h92, h93⟩ := h9
  subst r9
  subst f9
  subst L9
  dsimp only [Option.toList, List.cons_append, List.nil_append, List.append]
  refine j_iconst X (1) dX9_movesAt_50 (by decide) ?_
  have hb59 : ∀ (x24 : Int32) (hBx24 : isB x24), f_X9_movesAt_59 N p0 p1 p2 b19 x24 = some (v, a') → J G p l e ({ frames := 2, cells := 0, slots := 0, locals := 48 } : Room) s m ar below meth c9 A Q 6 0 0 59 [some (.ref (ad L 96)), some (.int p0), some (.int p1), some (.int p2), none, none] [.int x24, .ref (ad L 96)] L (FW G L a b19 c) := by
    intro x24 hBx24 hR
    unfold f_X9_movesAt_59 at hR
    obtain ⟨b25, h26, hR⟩ := bT_inv hR
    refine tp_X9_9 X hL hBx24 h26 fl_X9_129 dX9_movesAt_59 ?_
    refine j_iconst X (0) dX9_movesAt_62 (by decide) ?_
    refine j_istore X dX9_movesAt_63 (by decide) (lvOK_s rfl okPrev_none) ?_
    dsimp only [List.set]
    have hb65 : ∀ (fu : Nat) (x27 : Int32) (b28 : Mem) , f_X9_movesAt_65 N p0 p1 p2 fu x27 b28 = some (v, a') → J G p l e ({ frames := 2, cells := 0, slots := 0, locals := 48 } : Room) s m ar below meth c9 A Q 6 0 0 65 [some (.ref (ad L 96)), some (.int p0), some (.int p1), some (.int p2), none, some (.int x27)] [] L (FW G L a b28 c) := by
      intro fu
      induction fu with
      | zero =>
        intro x27 b28 hR
        cases hR
      | succ fu ih =>
        intro x27 b28 hR
        replace hR := (f_X9_movesAt_65_s N p0 p1 p2).symm.trans hR
        refine j_aload_n X (i := 0) dX9_movesAt_65 rfl rfl ?_
        refine j_iload_n X (i := 1) dX9_movesAt_66 rfl rfl ?_
        obtain ⟨x30, h29, hR⟩ := bP_inv hR
        refine j_callV1 X 9 (m_X9_fell hl hL h29) ml_X9_96 im_yX9_fell se_yX9_fell in_X9 cd_yX9_fell hy_yX9_fell dX9_movesAt_67 rfl (ad_mem hL (by decide)) (FW9 hL) ⟨(by decide), (by decide)⟩ ⟨(by decide), (by decide)⟩ (Nat.le_of_ble_eq_true rfl) (fun _ h => h.elim) (fun r9 L9 f9 h9 => ?_)
        obtain ⟨h91, h92, h93, h31⟩ := h9
        subst r9
        subst f9
        subst L9
        dsimp only [Option.toList, List.cons_append, List.nil_append, List.append]
        refine j_if_ne X (tgt := 93) dX9_movesAt_70 (by decide) (fun h32 => ?_) (fun h32 => ?_)
        · replace hR := (if_neg h32).symm.trans hR
          refine j_iload X dX9_movesAt_93 rfl ?_
          exact q_iret X hQ dX9_movesAt_95 rfl ⟨(by decide), (by decide)⟩ ⟨rfl, congrArg (fun z => FW G L a z c) (Prod.mk.inj (Option.some.inj hR)).2, congrArg (fun z => some (Value.int z)) (Prod.mk.inj (Option.some.inj hR)).1⟩
        · replace hR := (if_pos h32).symm.trans hR
          refine j_iload X dX9_movesAt_73 rfl ?_
          refine j_iload_n X (i := 3) dX9_movesAt_75 rfl rfl ?_
          refine j_icmp_ge X (tgt := 93) dX9_movesAt_76 (by decide) (fun h33 => ?_) (fun h33 => ?_)
          · replace hR := (if_pos h33).symm.trans hR
            refine j_iload X dX9_movesAt_93 rfl ?_
            exact q_iret X hQ dX9_movesAt_95 rfl ⟨(by decide), (by decide)⟩ ⟨rfl, congrArg (fun z => FW G L a z c) (Prod.mk.inj (Option.some.inj hR)).2, congrArg (fun z => some (Value.int z)) (Prod.mk.inj (Option.some.inj hR)).1⟩
          · replace hR := (if_neg h33).symm.trans hR
            refine j_aload_n X (i := 0) dX9_movesAt_79 rfl rfl ?_
            refine j_iload_n X (i := 2) dX9_movesAt_80 rfl rfl ?_
            obtain ⟨x35, b36, h34, hR⟩ := bP2_inv hR
            refine j_callV1 X 9 (m_X9_walkOn hl hL h34) ml_X9_136 im_yX9_walkOn se_yX9_walkOn in_X9 cd_yX9_walkOn hy_yX9_walkOn dX9_movesAt_81 rfl (ad_mem hL (by decide)) (FW9 hL) ⟨(by decide), (by decide)⟩ ⟨(by decide), (by decide)⟩ (Nat.le_of_ble_eq_true rfl) (fun _ h => h.elim) (fun r9 L9 f9 h9 => ?_)
            obtain ⟨h91, h92, h93, h37⟩ := h9
            subst r9
            subst f9
            subst L9
            dsimp only [Option.toList, List.cons_append, List.nil_append, List.append]
            refine j_if_eq X (tgt := 93) dX9_movesAt_84 (by decide) (fun h38 => ?_) (fun h38 => ?_)
            · replace hR := (if_pos h38).symm.trans hR
              refine j_iload X dX9_movesAt_93 rfl ?_
              exact q_iret X hQ dX9_movesAt_95 rfl ⟨(by decide), (by decide)⟩ ⟨rfl, congrArg (fun z => FW G L a z c) (Prod.mk.inj (Option.some.inj hR)).2, congrArg (fun z => some (Value.int z)) (Prod.mk.inj (Option.some.inj hR)).1⟩
            · replace hR := (if_neg h38).symm.trans hR
              obtain ⟨x39, h40, hR⟩ := bT_inv hR
              refine j_iinc X x39 dX9_movesAt_87 rfl h40 (by decide) (lvOK_s rfl okPrev_none) ?_
              dsimp only [List.set]
              refine j_goto X (tgt := 65) dX9_movesAt_90 (by decide) ?_
              exact J.sub (lvle_of (by simp only [lvle, and_self])) (ih _ _  hR)
    exact J.sub (lvle_of (by simp only [lvle, and_self])) (hb65 _ _ _  hR)
  refine j_icmp_ne X (tgt := 58) dX9_movesAt_51 (by decide) (fun h41 => ?_) (fun h41 => ?_)
  · replace hR := (if_neg h41).symm.trans hR
    refine j_iconst X (0) dX9_movesAt_58 (by decide) ?_
    exact J.sub (lvle_of (by simp only [lvle, and_self])) (hb59 _ isB_0 hR)
  · replace hR := (if_pos h41).symm.trans hR
    refine j_iconst X (1) dX9_movesAt_54 (by decide) ?_
    refine j_goto X (tgt := 59) dX9_movesAt_55 (by decide) ?_
    exact J.sub (lvle_of (by simp only [lvle, and_self])) (hb59 _ isB_1 hR)
def f_X9_greatestPace_4 (N : Nat) (p0 : Int32) (p1 : Int32) : Nat → Int32 → Mem → Option (Int32 × Mem)
  | 0, _, _ => none
  | fu + 1, x1, b2 => if x1 ≤ 0 then (some ((-1 : Int32), b2)) else (bP2 (f_X9_movesAt N p0 x1 p1 (0 : Int32) b2) fun x5 b6 => if x5 = p1 then (some (x1, b6)) else (bT (x1 + (-1 : Int32)) fun x9 => f_X9_greatestPace_4 N p0 p1 fu x9 b6))
theorem f_X9_greatestPace_4_s (N : Nat) (p0 : Int32) (p1 : Int32) {fu : Nat} {x1 : Int32} {b2 : Mem} : f_X9_greatestPace_4 N p0 p1 (fu + 1) x1 b2 = (if x1 ≤ 0 then (some ((-1 : Int32), b2)) else (bP2 (f_X9_movesAt N p0 x1 p1 (0 : Int32) b2) fun x5 b6 => if x5 = p1 then (some (x1, b6)) else (bT (x1 + (-1 : Int32)) fun x9 => f_X9_greatestPace_4 N p0 p1 fu x9 b6))) := rfl
def f_X9_greatestPace (N : Nat) (p0 : Int32) (p1 : Int32) (b : Mem) : Option (Int32 × Mem) := f_X9_greatestPace_4 N p0 p1 N (9999 : Int32) b
set_option maxRecDepth 100000 in
set_option maxHeartbeats 4000000 in
theorem m_X9_greatestPace {l : Launch} (hl : l.stackTraces = false) {G : GG} {L : List Nat} (hL : LOK L) {a b c : Mem} {N : Nat} {p0 : Int32} {p1 : Int32} {v : Int32} {a' : Mem} (hR : f_X9_greatestPace N p0 p1 b = some (v, a')) : Ct l G yX9_greatestPace (.code yX9_greatestPace cX9_greatestPace 4 (some .int)) 3 73 0 0 [.ref (ad L 96), .int p0, .int p1] L (FW G L a b c) px0 (stay L (fun r f1 => f1 = (FW G L a a' c) ∧ r = some (.int v))) := by
  refine Ct.ofq (own := RX9) hl rfl (by decide) [some (.ref (ad L 96)), some (.int p0), some (.int p1), none] rfl (Nat.le_of_ble_eq_true rfl) ?_
  intro p e s m below meth c9 A ar Q hQ X
  unfold f_X9_greatestPace at hR
  refine j_sipush X (9999) dX9_greatestPace_0 (by decide) ?_
  refine j_istore_n X (i := 3) dX9_greatestPace_3 rfl (by decide) (lvOK_s rfl okPrev_int) ?_
  dsimp only [List.set]
  have hb4 : ∀ (fu : Nat) (x1 : Int32) (b2 : Mem) , f_X9_greatestPace_4 N p0 p1 fu x1 b2 = some (v, a') → J G p l e ({ frames := 3, cells := 0, slots := 0, locals := 73 } : Room) s m ar below meth c9 A Q 4 0 0 4 [some (.ref (ad L 96)), some (.int p0), some (.int p1), some (.int x1)] [] L (FW G L a b2 c) := by
    intro fu
    induction fu with
    | zero =>
      intro x1 b2 hR
      cases hR
    | succ fu ih =>
      intro x1 b2 hR
      replace hR := (f_X9_greatestPace_4_s N p0 p1).symm.trans hR
      refine j_iload_n X (i := 3) dX9_greatestPace_4 rfl rfl ?_
      refine j_if_le X (tgt := 28) dX9_greatestPace_5 (by decide) (fun h3 => ?_) (fun h3 => ?_)
      · replace hR := (if_pos h3).symm.trans hR
        refine j_iconst X (-1) dX9_greatestPace_28 (by decide) ?_
        exact q_iret X hQ dX9_greatestPace_29 rfl ⟨(by decide), (by decide)⟩ ⟨rfl, congrArg (fun z => FW G L a z c) (Prod.mk.inj (Option.some.inj hR)).2, congrArg (fun z => some (Value.int z)) (Prod.mk.inj (Option.some.inj hR)).1⟩
      · replace hR := (if_neg h3).symm.trans hR
        refine j_aload_n X (i := 0) dX9_greatestPace_8 rfl rfl ?_
        refine j_iload_n X (i := 1) dX9_greatestPace_9 rfl rfl ?_
        refine j_iload_n X (i := 3) dX9_greatestPace_10 rfl rfl ?_
        refine j_iload_n X (i := 2) dX9_greatestPace_11 rfl rfl ?_
        refine j_iconst X (0) dX9_greatestPace_12 (by decide) ?_
        obtain ⟨x5, b6, h4, hR⟩ := bP2_inv hR
        refine j_callV4 X 9 (m_X9_movesAt hl hL h4) ml_X9_139 im_yX9_movesAt se_yX9_movesAt in_X9 cd_yX9_movesAt hy_yX9_movesAt dX9_greatestPace_13 rfl (ad_mem hL (by decide)) (FW9 hL) ⟨(by decide), (by decide)⟩ ⟨(by decide), (by decide)⟩ (Nat.le_of_ble_eq_true rfl) (fun _ h => h.elim) (fun r9 L9 f9 h9 => ?_)
        obtain ⟨h91, h92, h93⟩ := h9
        subst r9
        subst f9
        subst L9
        dsimp only [Option.toList, List.cons_append, List.nil_append, List.append]
        refine j_iload_n X (i := 2) dX9_greatestPace_16 rfl rfl ?_
        refine j_icmp_ne X (tgt := 22) dX9_greatestPace_17 (by decide) (fun h8 => ?_) (fun h8 => ?_)
        · replace hR := (if_neg h8).symm.trans hR
          obtain ⟨x9, h10, hR⟩ := bT_inv hR
          refine j_iinc X x9 dX9_greatestPace_22 rfl h10 (by decide) (lvOK_s rfl okPrev_int) ?_
          dsimp only [List.set]
          refine j_goto X (tgt := 4) dX9_greatestPace_25 (by decide) ?_
          exact J.sub (lvle_of (by simp only [lvle, and_self])) (ih _ _  hR)
        · replace hR := (if_pos h8).symm.trans hR
          refine j_iload_n X (i := 3) dX9_greatestPace_20 rfl rfl ?_
          exact q_iret X hQ dX9_greatestPace_21 rfl ⟨(by decide), (by decide)⟩ ⟨rfl, congrArg (fun z => FW G L a z c) (Prod.mk.inj (Option.some.inj hR)).2, congrArg (fun z => some (Value.int z)) (Prod.mk.inj (Option.some.inj hR)).1⟩
  exact J.sub (lvle_of (by simp only [lvle, and_self])) (hb4 _ _ _  hR)
def f_X9_pace (N : Nat) (p0 : Int32) (b : Mem) : Option (Int32 × Mem) := bT (f_X9_isSide p0 b) fun x2 => bT2 (f_X9_passes x2 b) fun x5 b6 => if x5 = 0 then (some ((0 : Int32), b6)) else (bP (f_X9_movesLeft N p0 b6) fun x10 => if x10 = (-1 : Int32) then (some ((-1 : Int32), b6)) else (bP (f_X9_movesLeft N p0 b6) fun x14 => bP2 (f_X9_greatestPace N p0 x14 b6) fun x17 b18 => some (x17, b18)))
set_option maxRecDepth 100000 in
set_option maxHeartbeats 4000000 in
theorem m_X9_pace {l : Launch} (hl : l.stackTraces = false) {G : GG} {L : List Nat} (hL : LOK L) {a b c : Mem} {N : Nat} {p0 : Int32} {v : Int32} {a' : Mem} (hR : f_X9_pace N p0 b = some (v, a')) : Ct l G yX9_pace (.code yX9_pace cX9_pace 2 (some .int)) 4 96 0 0 [.ref (ad L 96), .int p0] L (FW G L a b c) px0 (stay L (fun r f1 => f1 = (FW G L a a' c) ∧ r = some (.int v))) := by
  refine Ct.ofq (own := RX9) hl rfl (by decide) [some (.ref (ad L 96)), some (.int p0)] rfl (Nat.le_of_ble_eq_true rfl) ?_
  intro p e s m below meth c9 A ar Q hQ X
  unfold f_X9_pace at hR
  refine j_aload_n X (i := 0) dX9_pace_0 rfl rfl ?_
  refine j_iload_n X (i := 1) dX9_pace_1 rfl rfl ?_
  obtain ⟨x2, h1, hR⟩ := bT_inv hR
  refine j_callS1 X (m_X9_isSide hl hL h1) ml_X9_318 st_yX9_isSide in_X9 cd_yX9_isSide hy_yX9_isSide dX9_pace_2 ⟨(by decide), (by decide)⟩ ⟨(by decide), (by decide)⟩ (Nat.le_of_ble_eq_true rfl) (fun _ h => h.elim) (fun r9 L9 f9 h9 => ?_)
  obtain ⟨h91, h92, h93, h3⟩ := h9
  subst r9
  subst f9
  subst L9
  dsimp only [Option.toList, List.cons_append, List.nil_append, List.append]
  obtain ⟨x5, b6, h4, hR⟩ := bT2_inv hR
  refine j_callV1 X 9 (m_X9_passes hl hL h3 h4) ml_X9_159 im_yX9_passes se_yX9_passes in_X9 cd_yX9_passes hy_yX9_passes dX9_pace_5 rfl (ad_mem hL (by decide)) (FW9 hL) ⟨(by decide), (by decide)⟩ ⟨(by decide), (by decide)⟩ (Nat.le_of_ble_eq_true rfl) (fun _ h => h.elim) (fun r9 L9 f9 h9 => ?_)
  obtain ⟨h91, h92, h93, h7⟩ := h9
  subst r9
  subst f9
  subst L9
  dsimp only [Option.toList, List.cons_append, List.nil_append, List.append]
  refine j_if_ne X (tgt := 13) dX9_pace_8 (by decide) (fun h8 => ?_) (fun h8 => ?_)
  · replace hR := (if_neg h8).symm.trans hR
    refine j_aload_n X (i := 0) dX9_pace_13 rfl rfl ?_
    refine j_iload_n X (i := 1) dX9_pace_14 rfl rfl ?_
    obtain ⟨x10, h9, hR⟩ := bP_inv hR
    refine j_callV1 X 9 (m_X9_movesLeft hl hL h9) ml_X9_321 im_yX9_movesLeft se_yX9_movesLeft in_X9 cd_yX9_movesLeft hy_yX9_movesLeft dX9_pace_15 rfl (ad_mem hL (by decide)) (FW9 hL) ⟨(by decide), (by decide)⟩ ⟨(by decide), (by decide)⟩ (Nat.le_of_ble_eq_true rfl) (fun _ h => h.elim) (fun r9 L9 f9 h9 => ?_)
    obtain ⟨h91, h92, h93⟩ := h9
    subst r9
    subst f9
    subst L9
    dsimp only [Option.toList, List.cons_append, List.nil_append, List.append]
    refine j_iconst X (-1) dX9_pace_18 (by decide) ?_
    refine j_icmp_ne X (tgt := 26) dX9_pace_19 (by decide) (fun h12 => ?_) (fun h12 => ?_)
    · replace hR := (if_neg h12).symm.trans hR
      refine j_aload_n X (i := 0) dX9_pace_26 rfl rfl ?_
      refine j_iload_n X (i := 1) dX9_pace_27 rfl rfl ?_
      refine j_aload_n X (i := 0) dX9_pace_28 rfl rfl ?_
      refine j_iload_n X (i := 1) dX9_pace_29 rfl rfl ?_
      obtain ⟨x14, h13, hR⟩ := bP_inv hR
      refine j_callV1 X 9 (m_X9_movesLeft hl hL h13) ml_X9_321 im_yX9_movesLeft se_yX9_movesLeft in_X9 cd_yX9_movesLeft hy_yX9_movesLeft dX9_pace_30 rfl (ad_mem hL (by decide)) (FW9 hL) ⟨(by decide), (by decide)⟩ ⟨(by decide), (by decide)⟩ (Nat.le_of_ble_eq_true rfl) (fun _ h => h.elim) (fun r9 L9 f9 h9 => ?_)
      obtain ⟨h91, h92, h93⟩ := h9
      subst r9
      subst f9
      subst L9
      dsimp only [Option.toList, List.cons_append, List.nil_append, List.append]
      obtain ⟨x17, b18, h16, hR⟩ := bP2_inv hR
      refine j_callV2 X 9 (m_X9_greatestPace hl hL h16) ml_X9_338 im_yX9_greatestPace se_yX9_greatestPace in_X9 cd_yX9_greatestPace hy_yX9_greatestPace dX9_pace_33 rfl (ad_mem hL (by decide)) (FW9 hL) ⟨(by decide), (by decide)⟩ ⟨(by decide), (by decide)⟩ (Nat.le_of_ble_eq_true rfl) (fun _ h => h.elim) (fun r9 L9 f9 h9 => ?_)
      obtain ⟨h91, h92, h93⟩ := h9
      subst r9
      subst f9
      subst L9
      dsimp only [Option.toList, List.cons_append, List.nil_append, List.append]
      exact q_iret X hQ dX9_pace_36 rfl ⟨(by decide), (by decide)⟩ ⟨rfl, congrArg (fun z => FW G L a z c) (Prod.mk.inj (Option.some.inj hR)).2, congrArg (fun z => some (Value.int z)) (Prod.mk.inj (Option.some.inj hR)).1⟩
    · replace hR := (if_pos h12).symm.trans hR
      refine j_iconst X (-1) dX9_pace_22 (by decide) ?_
      refine j_goto X (tgt := 36) dX9_pace_23 (by decide) ?_
      exact q_iret X hQ dX9_pace_36 rfl ⟨(by decide), (by decide)⟩ ⟨rfl, congrArg (fun z => FW G L a z c) (Prod.mk.inj (Option.some.inj hR)).2, congrArg (fun z => some (Value.int z)) (Prod.mk.inj (Option.some.inj hR)).1⟩
  · replace hR := (if_pos h8).symm.trans hR
    refine j_iconst X (0) dX9_pace_11 (by decide) ?_
    exact q_iret X hQ dX9_pace_12 rfl ⟨(by decide), (by decide)⟩ ⟨rfl, congrArg (fun z => FW G L a z c) (Prod.mk.inj (Option.some.inj hR)).2, congrArg (fun z => some (Value.int z)) (Prod.mk.inj (Option.some.inj hR)).1⟩
def f_X9_areMoves (p0 : Int32) (b : Mem) : Int32 := bT (f_X9_in (Int32.toInt64 p0) (1 : Int64) (200 : Int64) b) fun x2 => x2
set_option maxRecDepth 100000 in
set_option maxHeartbeats 4000000 in
theorem m_X9_areMoves {l : Launch} (hl : l.stackTraces = false) {G : GG} {L : List Nat} (hL : LOK L) {a b c : Mem} {p0 : Int32} {v : Int32} (hR : f_X9_areMoves p0 b = v) : Ct l G yX9_areMoves (.code yX9_areMoves cX9_areMoves 1 (some .boolean)) 1 25 0 0 [.int p0] L (FW G L a b c) px0 (stay L (fun r f1 => f1 = (FW G L a b c) ∧ r = some (.int v) ∧ isB v)) := by
  refine Ct.ofq (own := RX9) hl rfl (by decide) [some (.int p0)] rfl (Nat.le_of_ble_eq_true rfl) ?_
  intro p e s m below meth c9 A ar Q hQ X
  unfold f_X9_areMoves at hR
  refine j_iload_n X (i := 0) dX9_areMoves_0 rfl rfl ?_
  refine j_i2l X dX9_areMoves_1 ?_
  refine j_lconst X (1) dX9_areMoves_2 (by decide) ?_
  refine j_ldc2 X dX9_areMoves_3 cj_X9_341 ?_
  obtain ⟨x2, h1, hR⟩ := bT_inv hR
  refine j_callS3 X (m_X9_in hl hL h1) ml_X9_64 st_yX9_in in_X9 cd_yX9_in hy_yX9_in dX9_areMoves_6 ⟨(by decide), (by decide)⟩ ⟨(by decide), (by decide)⟩ (Nat.le_of_ble_eq_true rfl) (fun _ h => h.elim) (fun r9 L9 f9 h9 => ?_)
  obtain ⟨h91, h92, h93, h3⟩ := h9
  subst r9
  subst f9
  subst L9
  dsimp only [Option.toList, List.cons_append, List.nil_append, List.append]
  exact q_zret X hQ dX9_areMoves_9 rfl (nar_B h3) ⟨(by decide), (by decide)⟩ ⟨rfl, rfl, congrArg (fun z => some (Value.int z)) hR, hR ▸ h3⟩
def f_X9_paceFor (N : Nat) (p0 : Int32) (p1 : Int32) (b : Mem) : Option (Int32 × Mem) := bT (f_X9_isSide p0 b) fun x2 => bT (f_X9_areMoves p1 b) fun x5 => bT2 (f_X9_passes2 x2 x5 b) fun x8 b9 => if x8 = 0 then (some ((0 : Int32), b9)) else (bP2 (f_X9_greatestPace N p0 p1 b9) fun x13 b14 => some (x13, b14))
set_option maxRecDepth 100000 in
set_option maxHeartbeats 4000000 in
theorem m_X9_paceFor {l : Launch} (hl : l.stackTraces = false) {G : GG} {L : List Nat} (hL : LOK L) {a b c : Mem} {N : Nat} {p0 : Int32} {p1 : Int32} {v : Int32} {a' : Mem} (hR : f_X9_paceFor N p0 p1 b = some (v, a')) : Ct l G yX9_paceFor (.code yX9_paceFor cX9_paceFor 3 (some .int)) 4 96 0 0 [.ref (ad L 96), .int p0, .int p1] L (FW G L a b c) px0 (stay L (fun r f1 => f1 = (FW G L a a' c) ∧ r = some (.int v))) := by
  refine Ct.ofq (own := RX9) hl rfl (by decide) [some (.ref (ad L 96)), some (.int p0), some (.int p1)] rfl (Nat.le_of_ble_eq_true rfl) ?_
  intro p e s m below meth c9 A ar Q hQ X
  unfold f_X9_paceFor at hR
  refine j_aload_n X (i := 0) dX9_paceFor_0 rfl rfl ?_
  refine j_iload_n X (i := 1) dX9_paceFor_1 rfl rfl ?_
  obtain ⟨x2, h1, hR⟩ := bT_inv hR
  refine j_callS1 X (m_X9_isSide hl hL h1) ml_X9_318 st_yX9_isSide in_X9 cd_yX9_isSide hy_yX9_isSide dX9_paceFor_2 ⟨(by decide), (by decide)⟩ ⟨(by decide), (by decide)⟩ (Nat.le_of_ble_eq_true rfl) (fun _ h => h.elim) (fun r9 L9 f9 h9 => ?_)
  obtain ⟨h91, h92, h93, h3⟩ := h9
  subst r9
  subst f9
  subst L9
  dsimp only [Option.toList, List.cons_append, List.nil_append, List.append]
  refine j_iload_n X (i := 2) dX9_paceFor_5 rfl rfl ?_
  obtain ⟨x5, h4, hR⟩ := bT_inv hR
  refine j_callS1 X (m_X9_areMoves hl hL h4) ml_X9_343 st_yX9_areMoves in_X9 cd_yX9_areMoves hy_yX9_areMoves dX9_paceFor_6 ⟨(by decide), (by decide)⟩ ⟨(by decide), (by decide)⟩ (Nat.le_of_ble_eq_true rfl) (fun _ h => h.elim) (fun r9 L9 f9 h9 => ?_)
  obtain ⟨h91, h92, h93, h6⟩ := h9
  subst r9
  subst f9
  subst L9
  dsimp only [Option.toList, List.cons_append, List.nil_append, List.append]
  obtain ⟨x8, b9, h7, hR⟩ := bT2_inv hR
  refine j_callV2 X 9 (m_X9_passes2 hl hL h3 h6 h7) ml_X9_314 im_yX9_passes2 se_yX9_passes2 in_X9 cd_yX9_passes2 hy_yX9_passes2 dX9_paceFor_9 rfl (ad_mem hL (by decide)) (FW9 hL) ⟨(by decide), (by decide)⟩ ⟨(by decide), (by decide)⟩ (Nat.le_of_ble_eq_true rfl) (fun _ h => h.elim) (fun r9 L9 f9 h9 => ?_)
  obtain ⟨h91, h92, h93, h10⟩ := h9
  subst r9
  subst f9
  subst L9
  dsimp only [Option.toList, List.cons_append, List.nil_append, List.append]
  refine j_if_eq X (tgt := 24) dX9_paceFor_12 (by decide) (fun h11 => ?_) (fun h11 => ?_)
  · replace hR := (if_pos h11).symm.trans hR
    refine j_iconst X (0) dX9_paceFor_24 (by decide) ?_
    exact q_iret X hQ dX9_paceFor_25 rfl ⟨(by decide), (by decide)⟩ ⟨rfl, congrArg (fun z => FW G L a z c) (Prod.mk.inj (Option.some.inj hR)).2, congrArg (fun z => some (Value.int z)) (Prod.mk.inj (Option.some.inj hR)).1⟩
  · replace hR := (if_neg h11).symm.trans hR
    refine j_aload_n X (i := 0) dX9_paceFor_15 rfl rfl ?_
    refine j_iload_n X (i := 1) dX9_paceFor_16 rfl rfl ?_
    refine j_iload_n X (i := 2) dX9_paceFor_17 rfl rfl ?_
    obtain ⟨x13, b14, h12, hR⟩ := bP2_inv hR
    refine j_callV2 X 9 (m_X9_greatestPace hl hL h12) ml_X9_338 im_yX9_greatestPace se_yX9_greatestPace in_X9 cd_yX9_greatestPace hy_yX9_greatestPace dX9_paceFor_18 rfl (ad_mem hL (by decide)) (FW9 hL) ⟨(by decide), (by decide)⟩ ⟨(by decide), (by decide)⟩ (Nat.le_of_ble_eq_true rfl) (fun _ h => h.elim) (fun r9 L9 f9 h9 => ?_)
    obtain ⟨h91, h92, h93⟩ := h9
    subst r9
    subst f9
    subst L9
    dsimp only [Option.toList, List.cons_append, List.nil_append, List.append]
    refine j_goto X (tgt := 25) dX9_paceFor_21 (by decide) ?_
    exact q_iret X hQ dX9_paceFor_25 rfl ⟨(by decide), (by decide)⟩ ⟨rfl, congrArg (fun z => FW G L a z c) (Prod.mk.inj (Option.some.inj hR)).2, congrArg (fun z => some (Value.int z)) (Prod.mk.inj (Option.some.inj hR)).1⟩
def f_X9_isPace (p0 : Int32) (b : Mem) : Int32 := bT (f_X9_in (Int32.toInt64 p0) (1 : Int64) (9999 : Int64) b) fun x2 => x2
set_option maxRecDepth 100000 in
set_option maxHeartbeats 4000000 in
theorem m_X9_isPace {l : Launch} (hl : l.stackTraces = false) {G : GG} {L : List Nat} (hL : LOK L) {a b c : Mem} {p0 : Int32} {v : Int32} (hR : f_X9_isPace p0 b = v) : Ct l G yX9_isPace (.code yX9_isPace cX9_isPace 1 (some .boolean)) 1 25 0 0 [.int p0] L (FW G L a b c) px0 (stay L (fun r f1 => f1 = (FW G L a b c) ∧ r = some (.int v) ∧ isB v)) := by
  refine Ct.ofq (own := RX9) hl rfl (by decide) [some (.int p0)] rfl (Nat.le_of_ble_eq_true rfl) ?_
  intro p e s m below meth c9 A ar Q hQ X
  unfold f_X9_isPace at hR
  refine j_iload_n X (i := 0) dX9_isPace_0 rfl rfl ?_
  refine j_i2l X dX9_isPace_1 ?_
  refine j_lconst X (1) dX9_isPace_2 (by decide) ?_
  refine j_ldc2 X dX9_isPace_3 cj_X9_349 ?_
  obtain ⟨x2, h1, hR⟩ := bT_inv hR
  refine j_callS3 X (m_X9_in hl hL h1) ml_X9_64 st_yX9_in in_X9 cd_yX9_in hy_yX9_in dX9_isPace_6 ⟨(by decide), (by decide)⟩ ⟨(by decide), (by decide)⟩ (Nat.le_of_ble_eq_true rfl) (fun _ h => h.elim) (fun r9 L9 f9 h9 => ?_)
  obtain ⟨h91, h92, h93, h3⟩ := h9
  subst r9
  subst f9
  subst L9
  dsimp only [Option.toList, List.cons_append, List.nil_append, List.append]
  exact q_zret X hQ dX9_isPace_9 rfl (nar_B h3) ⟨(by decide), (by decide)⟩ ⟨rfl, rfl, congrArg (fun z => some (Value.int z)) hR, hR ▸ h3⟩
def f_X9_needs_35 (N : Nat) (p0 : Int32) (p1 : Int32) (p2 : Int32) : Nat → Int32 → Mem → Option (Int32 × Mem)
  | 0, _, _ => none
  | fu + 1, x13, b14 => if (99999 : Int32) < x13 then (some ((-1 : Int32), b14)) else (bP2 (f_X9_movesAt N p0 p2 p1 x13 b14) fun x17 b18 => if x17 = p1 then (some (x13, b18)) else (bT (x13 + (1 : Int32)) fun x21 => f_X9_needs_35 N p0 p1 p2 fu x21 b18))
theorem f_X9_needs_35_s (N : Nat) (p0 : Int32) (p1 : Int32) (p2 : Int32) {fu : Nat} {x13 : Int32} {b14 : Mem} : f_X9_needs_35 N p0 p1 p2 (fu + 1) x13 b14 = (if (99999 : Int32) < x13 then (some ((-1 : Int32), b14)) else (bP2 (f_X9_movesAt N p0 p2 p1 x13 b14) fun x17 b18 => if x17 = p1 then (some (x13, b18)) else (bT (x13 + (1 : Int32)) fun x21 => f_X9_needs_35 N p0 p1 p2 fu x21 b18))) := rfl
def f_X9_needs_24 (N : Nat) (p0 : Int32) (p1 : Int32) (p2 : Int32) (b : Mem) (x2 : Int32) (x7 : Int32) : Option (Int32 × Mem) := bT2 (f_X9_passes2 x2 x7 b) fun x9 b10 => if x9 = 0 then (some ((0 : Int32), b10)) else (f_X9_needs_35 N p0 p1 p2 N (0 : Int32) b10)
def f_X9_needs_23 (N : Nat) (p0 : Int32) (p1 : Int32) (p2 : Int32) (b : Mem) (x2 : Int32)  : Option (Int32 × Mem) := f_X9_needs_24 N p0 p1 p2 b x2 (0 : Int32)
def f_X9_needs (N : Nat) (p0 : Int32) (p1 : Int32) (p2 : Int32) (b : Mem) : Option (Int32 × Mem) := bT (f_X9_isSide p0 b) fun x2 => bT (f_X9_areMoves p1 b) fun x5 => if x5 = 0 then (f_X9_needs_23 N p0 p1 p2 b x2 ) else (bT (f_X9_isPace p2 b) fun x25 => if x25 = 0 then (f_X9_needs_23 N p0 p1 p2 b x2 ) else (f_X9_needs_24 N p0 p1 p2 b x2 (1 : Int32)))
set_option maxRecDepth 100000 in
set_option maxHeartbeats 4000000 in
theorem m_X9_needs {l : Launch} (hl : l.stackTraces = false) {G : GG} {L : List Nat} (hL : LOK L) {a b c : Mem} {N : Nat} {p0 : Int32} {p1 : Int32} {p2 : Int32} {v : Int32} {a' : Mem} (hR : f_X9_needs N p0 p1 p2 b = some (v, a')) : Ct l G yX9_needs (.code yX9_needs cX9_needs 5 (some .int)) 3 73 0 0 [.ref (ad L 96), .int p0, .int p1, .int p2] L (FW G L a b c) px0 (stay L (fun r f1 => f1 = (FW G L a a' c) ∧ r = some (.int v))) := by
  refine Ct.ofq (own := RX9) hl rfl (by decide) [some (.ref (ad L 96)), some (.int p0), some (.int p1), some (.int p2), none] rfl (Nat.le_of_ble_eq_true rfl) ?_
  intro p e s m below meth c9 A ar Q hQ X
  unfold f_X9_needs at hR
  refine j_aload_n X (i := 0) dX9_needs_0 rfl rfl ?_
  refine j_iload_n X (i := 1) dX9_needs_1 rfl rfl ?_
  obtain ⟨x2, h1, hR⟩ := bT_inv hR
  refine j_callS1 X (m_X9_isSide hl hL h1) ml_X9_318 st_yX9_isSide in_X9 cd_yX9_isSide hy_yX9_isSide dX9_needs_2 ⟨(by decide), (by decide)⟩ ⟨(by decide), (by decide)⟩ (Nat.le_of_ble_eq_true rfl) (fun _ h => h.elim) (fun r9 L9 f9 h9 => ?_)
  obtain ⟨h91, h92, h93, h3⟩ := h9
  subst r9
  subst f9
  subst L9
  dsimp only [Option.toList, List.cons_append, List.nil_append, List.append]
  refine j_iload_n X (i := 2) dX9_needs_5 rfl rfl ?_
  obtain ⟨x5, h4, hR⟩ := bT_inv hR
  refine j_callS1 X (m_X9_areMoves hl hL h4) ml_X9_343 st_yX9_areMoves in_X9 cd_yX9_areMoves hy_yX9_areMoves dX9_needs_6 ⟨(by decide), (by decide)⟩ ⟨(by decide), (by decide)⟩ (Nat.le_of_ble_eq_true rfl) (fun _ h => h.elim) (fun r9 L9 f9 h9 => ?_)
  obtain ⟨h91, h92, h93, h6⟩ := h9
  subst r9
  subst f9
  subst L9
  dsimp only [Option.toList, List.cons_append, List.nil_append, List.append]
  have hb24 : ∀ (x7 : Int32) (hBx7 : isB x7), f_X9_needs_24 N p0 p1 p2 b x2 x7 = some (v, a') → J G p l e ({ frames := 3, cells := 0, slots := 0, locals := 73 } : Room) s m ar below meth c9 A Q 5 0 0 24 [some (.ref (ad L 96)), some (.int p0), some (.int p1), some (.int p2), none] [.int x7, .int x2, .ref (ad L 96)] L (FW G L a b c) := by
    intro x7 hBx7 hR
    unfold f_X9_needs_24 at hR
    obtain ⟨x9, b10, h8, hR⟩ := bT2_inv hR
    refine j_callV2 X 9 (m_X9_passes2 hl hL h3 hBx7 h8) ml_X9_314 im_yX9_passes2 se_yX9_passes2 in_X9 cd_yX9_passes2 hy_yX9_passes2 dX9_needs_24 rfl (ad_mem hL (by decide)) (FW9 hL) ⟨(by decide), (by decide)⟩ ⟨(by decide), (by decide)⟩ (Nat.le_of_ble_eq_true rfl) (fun _ h => h.elim) (fun r9 L9 f9 h9 => ?_)
    obtain ⟨h91, h92, h93, h11⟩ := h9
    subst r9
    subst f9
    subst L9
    dsimp only [Option.toList, List.cons_append, List.nil_append, List.append]
    refine j_if_ne X (tgt := 32) dX9_needs_27 (by decide) (fun h12 => ?_) (fun h12 => ?_)
    · replace hR := (if_neg h12).symm.trans hR
      refine j_iconst X (0) dX9_needs_32 (by decide) ?_
      refine j_istore X dX9_needs_33 (by decide) (lvOK_s rfl okPrev_int) ?_
      dsimp only [List.set]
      have hb35 : ∀ (fu : Nat) (x13 : Int32) (b14 : Mem) , f_X9_needs_35 N p0 p1 p2 fu x13 b14 = some (v, a') → J G p l e ({ frames := 3, cells := 0, slots := 0, locals := 73 } : Room) s m ar below meth c9 A Q 5 0 0 35 [some (.ref (ad L 96)), some (.int p0), some (.int p1), some (.int p2), some (.int x13)] [] L (FW G L a b14 c) := by
        intro fu
        induction fu with
        | zero =>
          intro x13 b14 hR
          cases hR
        | succ fu ih =>
          intro x13 b14 hR
          replace hR := (f_X9_needs_35_s N p0 p1 p2).symm.trans hR
          refine j_iload X dX9_needs_35 rfl ?_
          refine j_ldc X dX9_needs_37 co_X9_244 ?_
          refine j_icmp_gt X (tgt := 64) dX9_needs_39 (by decide) (fun h15 => ?_) (fun h15 => ?_)
          · replace hR := (if_pos h15).symm.trans hR
            refine j_iconst X (-1) dX9_needs_64 (by decide) ?_
            exact q_iret X hQ dX9_needs_65 rfl ⟨(by decide), (by decide)⟩ ⟨rfl, congrArg (fun z => FW G L a z c) (Prod.mk.inj (Option.some.inj hR)).2, congrArg (fun z => some (Value.int z)) (Prod.mk.inj (Option.some.inj hR)).1⟩
          · replace hR := (if_neg h15).symm.trans hR
            refine j_aload_n X (i := 0) dX9_needs_42 rfl rfl ?_
            refine j_iload_n X (i := 1) dX9_needs_43 rfl rfl ?_
            refine j_iload_n X (i := 3) dX9_needs_44 rfl rfl ?_
            refine j_iload_n X (i := 2) dX9_needs_45 rfl rfl ?_
            refine j_iload X dX9_needs_46 rfl ?_
            obtain ⟨x17, b18, h16, hR⟩ := bP2_inv hR
            refine j_callV4 X 9 (m_X9_movesAt hl hL h16) ml_X9_139 im_yX9_movesAt se_yX9_movesAt in_X9 cd_yX9_movesAt hy_yX9_movesAt dX9_needs_48 rfl (ad_mem hL (by decide)) (FW9 hL) ⟨(by decide), (by decide)⟩ ⟨(by decide), (by decide)⟩ (Nat.le_of_ble_eq_true rfl) (fun _ h => h.elim) (fun r9 L9 f9 h9 => ?_)
            obtain ⟨h91, h92, h93⟩ := h9
            subst r9
            subst f9
            subst L9
            dsimp only [Option.toList, List.cons_append, List.nil_append, List.append]
            refine j_iload_n X (i := 2) dX9_needs_51 rfl rfl ?_
            refine j_icmp_ne X (tgt := 58) dX9_needs_52 (by decide) (fun h20 => ?_) (fun h20 => ?_)
            · replace hR := (if_neg h20).symm.trans hR
              obtain ⟨x21, h22, hR⟩ := bT_inv hR
              refine j_iinc X x21 dX9_needs_58 rfl h22 (by decide) (lvOK_s rfl okPrev_int) ?_
              dsimp only [List.set]
              refine j_goto X (tgt := 35) dX9_needs_61 (by decide) ?_
              exact J.sub (lvle_of (by simp only [lvle, and_self])) (ih _ _  hR)
            · replace hR := (if_pos h20).symm.trans hR
              refine j_iload X dX9_needs_55 rfl ?_
              exact q_iret X hQ dX9_needs_57 rfl ⟨(by decide), (by decide)⟩ ⟨rfl, congrArg (fun z => FW G L a z c) (Prod.mk.inj (Option.some.inj hR)).2, congrArg (fun z => some (Value.int z)) (Prod.mk.inj (Option.some.inj hR)).1⟩
      exact J.sub (lvle_of (by simp only [lvle, and_self])) (hb35 _ _ _  hR)
    · replace hR := (if_pos h12).symm.trans hR
      refine j_iconst X (0) dX9_needs_30 (by decide) ?_
      exact q_iret X hQ dX9_needs_31 rfl ⟨(by decide), (by decide)⟩ ⟨rfl, congrArg (fun z => FW G L a z c) (Prod.mk.inj (Option.some.inj hR)).2, congrArg (fun z => some (Value.int z)) (Prod.mk.inj (Option.some.inj hR)).1⟩
  have hb23 : f_X9_needs_23 N p0 p1 p2 b x2 = some (v, a') → J G p l e ({ frames := 3, cells := 0, slots := 0, locals := 73 } : Room) s m ar below meth c9 A Q 5 0 0 23 [some (.ref (ad L 96)), some (.int p0), some (.int p1), some (.int p2), none] [.int x2, .ref (ad L 96)] L (FW G L a b c) := by
    intro hR
    unfold f_X9_needs_23 at hR
    refine j_iconst X (0) dX9_needs_23 (by decide) ?_
    exact J.sub (lvle_of (by simp only [lvle, and_self])) (hb24 _ isB_0 hR)
  refine j_if_eq X (tgt := 23) dX9_needs_9 (by decide) (fun h23 => ?_) (fun h23 => ?_)
  · replace hR := (if_pos h23).symm.trans hR
    exact J.sub (lvle_of (by simp only [lvle, and_self])) (hb23 hR)
  · replace hR := (if_neg h23).symm.trans hR
    refine j_iload_n X (i := 3) dX9_needs_12 rfl rfl ?_
    obtain ⟨x25, h24, hR⟩ := bT_inv hR
    refine j_callS1 X (m_X9_isPace hl hL h24) ml_X9_346 st_yX9_isPace in_X9 cd_yX9_isPace hy_yX9_isPace dX9_needs_13 ⟨(by decide), (by decide)⟩ ⟨(by decide), (by decide)⟩ (Nat.le_of_ble_eq_true rfl) (fun _ h => h.elim) (fun r9 L9 f9 h9 => ?_)
    obtain ⟨h91, h92, h93, h26⟩ := h9
    subst r9
    subst f9
    subst L9
    dsimp only [Option.toList, List.cons_append, List.nil_append, List.append]
    refine j_if_eq X (tgt := 23) dX9_needs_16 (by decide) (fun h27 => ?_) (fun h27 => ?_)
    · replace hR := (if_pos h27).symm.trans hR
      exact J.sub (lvle_of (by simp only [lvle, and_self])) (hb23 hR)
    · replace hR := (if_neg h27).symm.trans hR
      refine j_iconst X (1) dX9_needs_19 (by decide) ?_
      refine j_goto X (tgt := 24) dX9_needs_20 (by decide) ?_
      exact J.sub (lvle_of (by simp only [lvle, and_self])) (hb24 _ isB_1 hR)
def f_X9_lasts (N : Nat) (p0 : Int32) (p1 : Int32) (b : Mem) : Option (Int32 × Mem) := bT (f_X9_isSide p0 b) fun x2 => bT (f_X9_isPace p1 b) fun x5 => bT2 (f_X9_passes2 x2 x5 b) fun x8 b9 => if x8 = 0 then (some ((0 : Int32), b9)) else (bP2 (f_X9_movesAt N p0 p1 (200 : Int32) (0 : Int32) b9) fun x13 b14 => some (x13, b14))
set_option maxRecDepth 100000 in
set_option maxHeartbeats 4000000 in
theorem m_X9_lasts {l : Launch} (hl : l.stackTraces = false) {G : GG} {L : List Nat} (hL : LOK L) {a b c : Mem} {N : Nat} {p0 : Int32} {p1 : Int32} {v : Int32} {a' : Mem} (hR : f_X9_lasts N p0 p1 b = some (v, a')) : Ct l G yX9_lasts (.code yX9_lasts cX9_lasts 3 (some .int)) 3 73 0 0 [.ref (ad L 96), .int p0, .int p1] L (FW G L a b c) px0 (stay L (fun r f1 => f1 = (FW G L a a' c) ∧ r = some (.int v))) := by
  refine Ct.ofq (own := RX9) hl rfl (by decide) [some (.ref (ad L 96)), some (.int p0), some (.int p1)] rfl (Nat.le_of_ble_eq_true rfl) ?_
  intro p e s m below meth c9 A ar Q hQ X
  unfold f_X9_lasts at hR
  refine j_aload_n X (i := 0) dX9_lasts_0 rfl rfl ?_
  refine j_iload_n X (i := 1) dX9_lasts_1 rfl rfl ?_
  obtain ⟨x2, h1, hR⟩ := bT_inv hR
  refine j_callS1 X (m_X9_isSide hl hL h1) ml_X9_318 st_yX9_isSide in_X9 cd_yX9_isSide hy_yX9_isSide dX9_lasts_2 ⟨(by decide), (by decide)⟩ ⟨(by decide), (by decide)⟩ (Nat.le_of_ble_eq_true rfl) (fun _ h => h.elim) (fun r9 L9 f9 h9 => ?_)
  obtain ⟨h91, h92, h93, h3⟩ := h9
  subst r9
  subst f9
  subst L9
  dsimp only [Option.toList, List.cons_append, List.nil_append, List.append]
  refine j_iload_n X (i := 2) dX9_lasts_5 rfl rfl ?_
  obtain ⟨x5, h4, hR⟩ := bT_inv hR
  refine j_callS1 X (m_X9_isPace hl hL h4) ml_X9_346 st_yX9_isPace in_X9 cd_yX9_isPace hy_yX9_isPace dX9_lasts_6 ⟨(by decide), (by decide)⟩ ⟨(by decide), (by decide)⟩ (Nat.le_of_ble_eq_true rfl) (fun _ h => h.elim) (fun r9 L9 f9 h9 => ?_)
  obtain ⟨h91, h92, h93, h6⟩ := h9
  subst r9
  subst f9
  subst L9
  dsimp only [Option.toList, List.cons_append, List.nil_append, List.append]
  obtain ⟨x8, b9, h7, hR⟩ := bT2_inv hR
  refine j_callV2 X 9 (m_X9_passes2 hl hL h3 h6 h7) ml_X9_314 im_yX9_passes2 se_yX9_passes2 in_X9 cd_yX9_passes2 hy_yX9_passes2 dX9_lasts_9 rfl (ad_mem hL (by decide)) (FW9 hL) ⟨(by decide), (by decide)⟩ ⟨(by decide), (by decide)⟩ (Nat.le_of_ble_eq_true rfl) (fun _ h => h.elim) (fun r9 L9 f9 h9 => ?_)
  obtain ⟨h91, h92, h93, h10⟩ := h9
  subst r9
  subst f9
  subst L9
  dsimp only [Option.toList, List.cons_append, List.nil_append, List.append]
  refine j_if_eq X (tgt := 28) dX9_lasts_12 (by decide) (fun h11 => ?_) (fun h11 => ?_)
  · replace hR := (if_pos h11).symm.trans hR
    refine j_iconst X (0) dX9_lasts_28 (by decide) ?_
    exact q_iret X hQ dX9_lasts_29 rfl ⟨(by decide), (by decide)⟩ ⟨rfl, congrArg (fun z => FW G L a z c) (Prod.mk.inj (Option.some.inj hR)).2, congrArg (fun z => some (Value.int z)) (Prod.mk.inj (Option.some.inj hR)).1⟩
  · replace hR := (if_neg h11).symm.trans hR
    refine j_aload_n X (i := 0) dX9_lasts_15 rfl rfl ?_
    refine j_iload_n X (i := 1) dX9_lasts_16 rfl rfl ?_
    refine j_iload_n X (i := 2) dX9_lasts_17 rfl rfl ?_
    refine j_sipush X (200) dX9_lasts_18 (by decide) ?_
    refine j_iconst X (0) dX9_lasts_21 (by decide) ?_
    obtain ⟨x13, b14, h12, hR⟩ := bP2_inv hR
    refine j_callV4 X 9 (m_X9_movesAt hl hL h12) ml_X9_139 im_yX9_movesAt se_yX9_movesAt in_X9 cd_yX9_movesAt hy_yX9_movesAt dX9_lasts_22 rfl (ad_mem hL (by decide)) (FW9 hL) ⟨(by decide), (by decide)⟩ ⟨(by decide), (by decide)⟩ (Nat.le_of_ble_eq_true rfl) (fun _ h => h.elim) (fun r9 L9 f9 h9 => ?_)
    obtain ⟨h91, h92, h93⟩ := h9
    subst r9
    subst f9
    subst L9
    dsimp only [Option.toList, List.cons_append, List.nil_append, List.append]
    refine j_goto X (tgt := 29) dX9_lasts_25 (by decide) ?_
    exact q_iret X hQ dX9_lasts_29 rfl ⟨(by decide), (by decide)⟩ ⟨rfl, congrArg (fun z => FW G L a z c) (Prod.mk.inj (Option.some.inj hR)).2, congrArg (fun z => some (Value.int z)) (Prod.mk.inj (Option.some.inj hR)).1⟩
