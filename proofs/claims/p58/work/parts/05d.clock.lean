def f_X8_remember_24  (a4 : Mem) : Mem := bT (up2 a4 0 7 (((a4 0 7) + (1 : Int32)) - ((a4 0 7) + (1 : Int32)) / (6 : Int32) * (6 : Int32))) fun a5 => bT (up2 a5 0 6 (mnI ((a5 0 6) + (1 : Int32)) (6 : Int32))) fun a7 => a7
def f_X8_remember (a : Mem) : Mem := bT (stA 6 pastR (a 0 7)) fun o2 => match o2 with | none => (f_X8_remember_24 a) | some k3 => (bT (f_X6_copyFrom k3 8 a) fun a10 => f_X8_remember_24 a10) 
set_option maxRecDepth 100000 in
set_option maxHeartbeats 4000000 in
theorem m_X8_remember {l : Launch} (hl : l.stackTraces = false) {G : GG} {L : List Nat} (hL : LOK L) {a b c : Mem}  {a' : Mem} (hR : f_X8_remember a = a') : Ct l G yX8_remember (.code yX8_remember cX8_remember 2 none) 4 123 0 0 [.ref (ad L 0)] L (FW G L a b c) px0 (stay L (fun r f1 => f1 = (FW G L a' b c) ∧ r = none)) := by
  refine Ct.ofq (own := RX8) hl rfl (by decide) [some (.ref (ad L 0)), none] rfl (Nat.le_of_ble_eq_true rfl) ?_
  intro p e s m below meth c9 A ar Q hQ X
  unfold f_X8_remember at hR
  refine j_aload_n X (i := 0) dX8_remember_0 rfl rfl ?_
  refine j_getf X 8 5 rfl cw_X8 fl_X8_42 (by decide) dX8_remember_1 (inL hL t_0 (by decide)) (FW8 hL t_0) rfl ?_
  refine j_aload_n X (i := 0) dX8_remember_4 rfl rfl ?_
  refine j_getf X 8 7 rfl cw_X8 fl_X8_364 (by decide) dX8_remember_5 (inL hL t_0 (by decide)) (FW8 hL t_0) rfl ?_
  have hb24 : ∀ (a4 : Mem) , f_X8_remember_24 a4 = a' → J G p l e ({ frames := 4, cells := 0, slots := 0, locals := 123 } : Room) s m ar below meth c9 A Q 2 0 0 24 [some (.ref (ad L 0)), none] [] L (FW G L a4 b c) := by
    intro a4 hR
    unfold f_X8_remember_24 at hR
    refine j_aload_n X (i := 0) dX8_remember_24 rfl rfl ?_
    refine j_aload_n X (i := 0) dX8_remember_25 rfl rfl ?_
    refine j_getf X 8 7 rfl cw_X8 fl_X8_364 (by decide) dX8_remember_26 (inL hL t_0 (by decide)) (FW8 hL t_0) rfl ?_
    refine j_iconst X (1) dX8_remember_29 (by decide) ?_
    refine j_iadd X dX8_remember_30 ?_
    refine j_bipush X (6) dX8_remember_31 (by decide) ?_
    refine j_irem X dX8_remember_33 (by decide) ?_
    obtain ⟨a5, h6, hR⟩ := bT_inv hR
    refine tp_X8_7 X hL t_0 h6 fl_X8_364 dX8_remember_34 ?_
    refine j_aload_n X (i := 0) dX8_remember_37 rfl rfl ?_
    refine j_aload_n X (i := 0) dX8_remember_38 rfl rfl ?_
    refine j_getf X 8 6 rfl cw_X8 fl_X8_359 (by decide) dX8_remember_39 (inL hL t_0 (by decide)) (FW8 hL t_0) rfl ?_
    refine j_iconst X (1) dX8_remember_42 (by decide) ?_
    refine j_iadd X dX8_remember_43 ?_
    refine j_bipush X (6) dX8_remember_44 (by decide) ?_
    refine j_mmin X ml_X8_375 dX8_remember_46 ⟨(by decide), (Nat.le_of_ble_eq_true rfl)⟩ ⟨(by decide), (by decide)⟩ ?_
    obtain ⟨a7, h8, hR⟩ := bT_inv hR
    refine tp_X8_6 X hL t_0 h8 fl_X8_359 dX8_remember_49 ?_
    exact q_vret X hQ dX8_remember_52 rfl ⟨(by decide), (by decide)⟩ ⟨rfl, congrArg (fun z => FW G L z b c) hR, rfl⟩
  obtain ⟨o2, h1, hR⟩ := bT_inv hR
  refine j_callS2 X (c_sA_26 hl hL t_22 h1) ml_X8_346 st_yX8_stateAt in_X8 cd_yX8_stateAt hy_yX8_stateAt dX8_remember_8 ⟨(by decide), (by decide)⟩ ⟨(by decide), (by decide)⟩ (Nat.le_of_ble_eq_true rfl) (fun _ h => h.elim) (fun r9 L9 f9 h9 => ?_)
  obtain ⟨h91, h92, h93⟩ := h9
  subst r9
  subst f9
  subst L9
  dsimp only [Option.toList, List.cons_append, List.nil_append, List.append]
  cases o2 with
  | none =>
    dsimp only [ov] at hR ⊢
    refine j_astore_nN X (i := 1) dX8_remember_11 rfl (by decide) (lvOK_s rfl okPrev_ref) ?_
    dsimp only [List.set]
    refine j_aload_nN X (i := 1) dX8_remember_12 rfl rfl ?_
    refine j_ifnullN X (tgt := 24) dX8_remember_13 (by decide) ?_
    exact J.sub (lvle_of (by simp only [lvle, and_self])) (hb24 _  hR)
  | some k3 =>
    dsimp only [ov] at hR ⊢
    refine j_astore_n X (i := 1) dX8_remember_11 rfl (by decide) (lvOK_s rfl okPrev_ref) ?_
    dsimp only [List.set]
    refine j_aload_n X (i := 1) dX8_remember_12 rfl rfl ?_
    refine j_ifnull X dX8_remember_13 ?_
    refine j_aload_n X (i := 1) dX8_remember_16 rfl rfl ?_
    refine j_aload_n X (i := 0) dX8_remember_17 rfl rfl ?_
    refine j_getf X 8 3 rfl cw_X8 fl_X8_31 (by decide) dX8_remember_18 (inL hL t_0 (by decide)) (FW8 hL t_0) rfl ?_
    obtain ⟨a10, h9, hR⟩ := bT_inv hR
    refine j_callV1 X 6 (m_X6_copyFrom hl hL (stA_ty ty_past h1) t_8 h9) ml_X8_350 im_yX6_copyFrom se_yX6_copyFrom in_X6 cd_yX6_copyFrom hy_yX6_copyFrom dX8_remember_21 rfl (inL hL (stA_ty ty_past h1) (by decide)) (FW6 hL (stA_ty ty_past h1)) ⟨(by decide), (by decide)⟩ ⟨(by decide), (by decide)⟩ (Nat.le_of_ble_eq_true rfl) (fun _ h => h.elim) (fun r9 L9 f9 h9 => ?_)
    obtain ⟨h91, h92, h93⟩ := h9
    subst r9
    subst f9
    subst L9
    dsimp only [Option.toList, List.cons_append, List.nil_append, List.append]
    exact J.sub (lvle_of (by simp only [lvle, and_self])) (hb24 _  hR)
def f_X8_load (N : Nat) (a : Mem) : Option (Int32 × Mem) := bP2 (f_X3_readText N a) fun x2 a3 => bT (up2 a3 2 1 (0 : Int32)) fun a5 => if x2 = 0 then (some ((-4 : Int32), a5)) else (bT (f_X8_remember a5) fun a9 => bT (f_X6_setUp 8 4 (nb (a9 1 2)) a9) fun a12 => if (a12 1 3) = (-1 : Int32) then (some ((a12 (8 + 1) 1), a12)) else (bT (f_X6_sideOf 8 (a12 1 3) a12) fun k16 => bT (up2 a12 k16 1 ((a12 k16 1) + (a12 1 4))) fun a18 => some ((a18 (8 + 1) 1), a18)))
set_option maxRecDepth 100000 in
set_option maxHeartbeats 4000000 in
theorem m_X8_load {l : Launch} (hl : l.stackTraces = false) {G : GG} {L : List Nat} (hL : LOK L) {a b c : Mem} {N : Nat}  {v : Int32} {a' : Mem} (hR : f_X8_load N a = some (v, a')) : Ct l G yX8_load (.code yX8_load cX8_load 2 (some .int)) 10 229 0 0 [.ref (ad L 0)] L (FW G L a b c) px0 (stay L (fun r f1 => f1 = (FW G L a' b c) ∧ r = some (.int v))) := by
  refine Ct.ofq (own := RX8) hl rfl (by decide) [some (.ref (ad L 0)), none] rfl (Nat.le_of_ble_eq_true rfl) ?_
  intro p e s m below meth c9 A ar Q hQ X
  unfold f_X8_load at hR
  refine j_aload_n X (i := 0) dX8_load_0 rfl rfl ?_
  refine j_getf X 8 0 rfl cw_X8 fl_X8_10 (by decide) dX8_load_1 (inL hL t_0 (by decide)) (FW8 hL t_0) rfl ?_
  obtain ⟨x2, a3, h1, hR⟩ := bP2_inv hR
  refine j_callV0 X 3 (m_X3_readText hl hL h1) ml_X8_71 im_yX3_readText se_yX3_readText in_X3 cd_yX3_readText hy_yX3_readText dX8_load_4 rfl (inL hL t_1 (by decide)) (FW3 hL t_1) ⟨(by decide), (by decide)⟩ ⟨(by decide), (by decide)⟩ (Nat.le_of_ble_eq_true rfl) (fun _ h => h.elim) (fun r9 L9 f9 h9 => ?_)
  obtain ⟨h91, h92, h93, h4⟩ := h9
  subst r9
  subst f9
  subst L9
  dsimp only [Option.toList, List.cons_append, List.nil_append, List.append]
  refine j_istore_n X (i := 1) dX8_load_7 rfl (by decide) (lvOK_s rfl okPrev_ref) ?_
  dsimp only [List.set]
  refine j_aload_n X (i := 0) dX8_load_8 rfl rfl ?_
  refine j_getf X 8 1 rfl cw_X8 fl_X8_20 (by decide) dX8_load_9 (inL hL t_0 (by decide)) (FW8 hL t_0) rfl ?_
  refine j_iconst X (0) dX8_load_12 (by decide) ?_
  obtain ⟨a5, h6, hR⟩ := bT_inv hR
  refine tp_X0_1 X hL t_2 h6 fl_X8_49 dX8_load_13 ?_
  refine j_iload_n X (i := 1) dX8_load_16 rfl rfl ?_
  refine j_if_ne X (tgt := 23) dX8_load_17 (by decide) (fun h7 => ?_) (fun h7 => ?_)
  · replace hR := (if_neg h7).symm.trans hR
    refine j_aload_n X (i := 0) dX8_load_23 rfl rfl ?_
    obtain ⟨a9, h8, hR⟩ := bT_inv hR
    refine j_callV0 X 8 (m_X8_remember hl hL h8) ml_X8_75 im_yX8_remember se_yX8_remember in_X8 cd_yX8_remember hy_yX8_remember dX8_load_24 rfl (inL hL t_0 (by decide)) (FW8 hL t_0) ⟨(by decide), (by decide)⟩ ⟨(by decide), (by decide)⟩ (Nat.le_of_ble_eq_true rfl) (fun _ h => h.elim) (fun r9 L9 f9 h9 => ?_)
    obtain ⟨h91, h92, h93⟩ := h9
    subst r9
    subst f9
    subst L9
    dsimp only [Option.toList, List.cons_append, List.nil_append, List.append]
    refine j_aload_n X (i := 0) dX8_load_27 rfl rfl ?_
    refine j_getf X 8 3 rfl cw_X8 fl_X8_31 (by decide) dX8_load_28 (inL hL t_0 (by decide)) (FW8 hL t_0) rfl ?_
    refine j_aload_n X (i := 0) dX8_load_31 rfl rfl ?_
    refine j_getf X 8 0 rfl cw_X8 fl_X8_10 (by decide) dX8_load_32 (inL hL t_0 (by decide)) (FW8 hL t_0) rfl ?_
    refine j_getf X 3 1 rfl cw_X3 fl_X8_78 (by decide) dX8_load_35 (inL hL t_1 (by decide)) (FW3 hL t_1) rfl ?_
    refine j_aload_n X (i := 0) dX8_load_38 rfl rfl ?_
    refine j_getf X 8 0 rfl cw_X8 fl_X8_10 (by decide) dX8_load_39 (inL hL t_0 (by decide)) (FW8 hL t_0) rfl ?_
    refine j_getf X 3 2 rfl cw_X3 fl_X8_82 (by decide) dX8_load_42 (inL hL t_1 (by decide)) (FW3 hL t_1) rfl ?_
    obtain ⟨a12, h11, hR⟩ := bT_inv hR
    refine j_callV2 X 6 (m_X6_setUp hl hL t_8 t_4 nb_B h11) ml_X8_86 im_yX6_setUp se_yX6_setUp in_X6 cd_yX6_setUp hy_yX6_setUp dX8_load_45 rfl (inL hL t_8 (by decide)) (FW6 hL t_8) ⟨(by decide), (by decide)⟩ ⟨(by decide), (by decide)⟩ (Nat.le_of_ble_eq_true rfl) (fun _ h => h.elim) (fun r9 L9 f9 h9 => ?_)
    obtain ⟨h91, h92, h93⟩ := h9
    subst r9
    subst f9
    subst L9
    dsimp only [Option.toList, List.cons_append, List.nil_append, List.append]
    refine j_aload_n X (i := 0) dX8_load_48 rfl rfl ?_
    refine j_getf X 8 0 rfl cw_X8 fl_X8_10 (by decide) dX8_load_49 (inL hL t_0 (by decide)) (FW8 hL t_0) rfl ?_
    refine j_getf X 3 3 rfl cw_X3 fl_X8_90 (by decide) dX8_load_52 (inL hL t_1 (by decide)) (FW3 hL t_1) rfl ?_
    refine j_iconst X (-1) dX8_load_55 (by decide) ?_
    refine j_icmp_eq X (tgt := 88) dX8_load_56 (by decide) (fun h14 => ?_) (fun h14 => ?_)
    · replace hR := (if_pos h14).symm.trans hR
      refine j_aload_n X (i := 0) dX8_load_88 rfl rfl ?_
      refine j_getf X 8 3 rfl cw_X8 fl_X8_31 (by decide) dX8_load_89 (inL hL t_0 (by decide)) (FW8 hL t_0) rfl ?_
      refine j_getf X 6 0 rfl cw_X6 fl_X8_105 (by decide) dX8_load_92 (inL hL t_8 (by decide)) (FW6 hL t_8) rfl ?_
      refine j_getf X 4 1 rfl cw_X4 fl_X8_106 (by decide) dX8_load_95 (inL hL (ty6_0 t_8) (by decide)) (FW4 hL (ty6_0 t_8)) rfl ?_
      exact q_iret X hQ dX8_load_98 rfl ⟨(by decide), (by decide)⟩ ⟨rfl, congrArg (fun z => FW G L z b c) (Prod.mk.inj (Option.some.inj hR)).2, congrArg (fun z => some (Value.int z)) (Prod.mk.inj (Option.some.inj hR)).1⟩
    · replace hR := (if_neg h14).symm.trans hR
      refine j_aload_n X (i := 0) dX8_load_59 rfl rfl ?_
      refine j_getf X 8 3 rfl cw_X8 fl_X8_31 (by decide) dX8_load_60 (inL hL t_0 (by decide)) (FW8 hL t_0) rfl ?_
      refine j_aload_n X (i := 0) dX8_load_63 rfl rfl ?_
      refine j_getf X 8 0 rfl cw_X8 fl_X8_10 (by decide) dX8_load_64 (inL hL t_0 (by decide)) (FW8 hL t_0) rfl ?_
      refine j_getf X 3 3 rfl cw_X3 fl_X8_90 (by decide) dX8_load_67 (inL hL t_1 (by decide)) (FW3 hL t_1) rfl ?_
      obtain ⟨k16, h15, hR⟩ := bT_inv hR
      refine j_callV1 X 6 (m_X6_sideOf hl hL t_8 h15) ml_X8_93 im_yX6_sideOf se_yX6_sideOf in_X6 cd_yX6_sideOf hy_yX6_sideOf dX8_load_70 rfl (inL hL t_8 (by decide)) (FW6 hL t_8) ⟨(by decide), (by decide)⟩ ⟨(by decide), (by decide)⟩ (Nat.le_of_ble_eq_true rfl) (fun _ h => h.elim) (fun r9 L9 f9 h9 => ?_)
      obtain ⟨h91, h92, h93⟩ := h9
      subst r9
      subst f9
      subst L9
      dsimp only [Option.toList, List.cons_append, List.nil_append, List.append]
      refine j_dup X dX8_load_73 rfl ?_
      refine j_getf X 5 1 rfl cw_X5 fl_X8_97 (by decide) dX8_load_74 (inL hL (h15 ▸ m_X6_sideOf_ty t_8) (by decide)) (FW5 hL (h15 ▸ m_X6_sideOf_ty t_8)) rfl ?_
      refine j_aload_n X (i := 0) dX8_load_77 rfl rfl ?_
      refine j_getf X 8 0 rfl cw_X8 fl_X8_10 (by decide) dX8_load_78 (inL hL t_0 (by decide)) (FW8 hL t_0) rfl ?_
      refine j_getf X 3 4 rfl cw_X3 fl_X8_102 (by decide) dX8_load_81 (inL hL t_1 (by decide)) (FW3 hL t_1) rfl ?_
      refine j_iadd X dX8_load_84 ?_
      obtain ⟨a18, h19, hR⟩ := bT_inv hR
      refine tp_X5_1 X hL (h15 ▸ m_X6_sideOf_ty t_8) h19 fl_X8_97 dX8_load_85 ?_
      refine j_aload_n X (i := 0) dX8_load_88 rfl rfl ?_
      refine j_getf X 8 3 rfl cw_X8 fl_X8_31 (by decide) dX8_load_89 (inL hL t_0 (by decide)) (FW8 hL t_0) rfl ?_
      refine j_getf X 6 0 rfl cw_X6 fl_X8_105 (by decide) dX8_load_92 (inL hL t_8 (by decide)) (FW6 hL t_8) rfl ?_
      refine j_getf X 4 1 rfl cw_X4 fl_X8_106 (by decide) dX8_load_95 (inL hL (ty6_0 t_8) (by decide)) (FW4 hL (ty6_0 t_8)) rfl ?_
      exact q_iret X hQ dX8_load_98 rfl ⟨(by decide), (by decide)⟩ ⟨rfl, congrArg (fun z => FW G L z b c) (Prod.mk.inj (Option.some.inj hR)).2, congrArg (fun z => some (Value.int z)) (Prod.mk.inj (Option.some.inj hR)).1⟩
  · replace hR := (if_pos h7).symm.trans hR
    refine j_bipush X (-4) dX8_load_20 (by decide) ?_
    exact q_iret X hQ dX8_load_22 rfl ⟨(by decide), (by decide)⟩ ⟨rfl, congrArg (fun z => FW G L z b c) (Prod.mk.inj (Option.some.inj hR)).2, congrArg (fun z => some (Value.int z)) (Prod.mk.inj (Option.some.inj hR)).1⟩
def f_X8_errorCode (a : Mem) : Int32 := (a 1 5)
set_option maxRecDepth 100000 in
set_option maxHeartbeats 4000000 in
theorem m_X8_errorCode {l : Launch} (hl : l.stackTraces = false) {G : GG} {L : List Nat} (hL : LOK L) {a b c : Mem}  {v : Int32} (hR : f_X8_errorCode a = v) : Ct l G yX8_errorCode (.code yX8_errorCode cX8_errorCode 1 (some .int)) 0 0 0 0 [.ref (ad L 0)] L (FW G L a b c) px0 (stay L (fun r f1 => f1 = (FW G L a b c) ∧ r = some (.int v))) := by
  refine Ct.ofq (own := RX8) hl rfl (by decide) [some (.ref (ad L 0))] rfl (Nat.le_of_ble_eq_true rfl) ?_
  intro p e s m below meth c9 A ar Q hQ X
  unfold f_X8_errorCode at hR
  refine j_aload_n X (i := 0) dX8_errorCode_0 rfl rfl ?_
  refine j_getf X 8 0 rfl cw_X8 fl_X8_10 (by decide) dX8_errorCode_1 (inL hL t_0 (by decide)) (FW8 hL t_0) rfl ?_
  refine j_getf X 3 5 rfl cw_X3 fl_X8_111 (by decide) dX8_errorCode_4 (inL hL t_1 (by decide)) (FW3 hL t_1) rfl ?_
  exact q_iret X hQ dX8_errorCode_7 rfl ⟨(by decide), (by decide)⟩ ⟨rfl, rfl, congrArg (fun z => some (Value.int z)) hR⟩
def f_X8_errorPosition (a : Mem) : Int32 := (a 1 6)
def f_X8_ahead (a : Mem) : Int32 := bT (f_X6_whiteAhead 8 a) fun x2 => x2
set_option maxRecDepth 100000 in
set_option maxHeartbeats 4000000 in
theorem m_X8_ahead {l : Launch} (hl : l.stackTraces = false) {G : GG} {L : List Nat} (hL : LOK L) {a b c : Mem}  {v : Int32} (hR : f_X8_ahead a = v) : Ct l G yX8_ahead (.code yX8_ahead cX8_ahead 1 (some .int)) 1 20 0 0 [.ref (ad L 0)] L (FW G L a b c) px0 (stay L (fun r f1 => f1 = (FW G L a b c) ∧ r = some (.int v))) := by
  refine Ct.ofq (own := RX8) hl rfl (by decide) [some (.ref (ad L 0))] rfl (Nat.le_of_ble_eq_true rfl) ?_
  intro p e s m below meth c9 A ar Q hQ X
  unfold f_X8_ahead at hR
  refine j_aload_n X (i := 0) dX8_ahead_0 rfl rfl ?_
  refine j_getf X 8 3 rfl cw_X8 fl_X8_31 (by decide) dX8_ahead_1 (inL hL t_0 (by decide)) (FW8 hL t_0) rfl ?_
  obtain ⟨x2, h1, hR⟩ := bT_inv hR
  refine j_callV0 X 6 (m_X6_whiteAhead hl hL t_8 h1) ml_X8_221 im_yX6_whiteAhead se_yX6_whiteAhead in_X6 cd_yX6_whiteAhead hy_yX6_whiteAhead dX8_ahead_4 rfl (inL hL t_8 (by decide)) (FW6 hL t_8) ⟨(by decide), (by decide)⟩ ⟨(by decide), (by decide)⟩ (Nat.le_of_ble_eq_true rfl) (fun _ h => h.elim) (fun r9 L9 f9 h9 => ?_)
  obtain ⟨h91, h92, h93⟩ := h9
  subst r9
  subst f9
  subst L9
  dsimp only [Option.toList, List.cons_append, List.nil_append, List.append]
  exact q_iret X hQ dX8_ahead_7 rfl ⟨(by decide), (by decide)⟩ ⟨rfl, rfl, congrArg (fun z => some (Value.int z)) hR⟩
def f_X8_slowest (N : Nat) (a : Mem) : Option Int32 := bP (f_X1_slowestIndex N (8 + 3) a) fun x2 => some x2
def f_X8_overIn (a : Mem) : Int32 := bT (f_X6_mover 8 a) fun k2 => if (a 8 5) = (1 : Int32) then (if (nb (a 8 4)) = 0 then (if (nb (a k2 9)) = 0 then (bT (f_X5_ticksToFall k2 (8 + 1) a) fun x8 => x8) else ((-1 : Int32))) else ((-1 : Int32))) else ((-1 : Int32))
def f_X8_canSeal (a : Mem) : Int32 := bT (f_X6_ticksToSealing 8 a) fun x2 => if x2 = 0 then ((1 : Int32)) else ((0 : Int32))
def f_X8_sealIn (a : Mem) : Int32 := bT (f_X6_ticksToSealing 8 a) fun x2 => x2
def f_X8_setClaims (p0 : Int32) (a : Mem) : (Int32 × Mem) := bT (f_X8_remember a) fun a2 => bT (nb (a2 8 4)) fun x4 => bT (up2 a2 8 4 p0) fun a6 => (x4, a6)
set_option maxRecDepth 100000 in
set_option maxHeartbeats 4000000 in
theorem m_X8_setClaims {l : Launch} (hl : l.stackTraces = false) {G : GG} {L : List Nat} (hL : LOK L) {a b c : Mem} {p0 : Int32} (hB0 : isB p0) {v : Int32} {a' : Mem} (hR : f_X8_setClaims p0 a = (v, a')) : Ct l G yX8_setClaims (.code yX8_setClaims cX8_setClaims 3 (some .boolean)) 5 144 0 0 [.ref (ad L 0), .int p0] L (FW G L a b c) px0 (stay L (fun r f1 => f1 = (FW G L a' b c) ∧ r = some (.int v) ∧ isB v)) := by
  refine Ct.ofq (own := RX8) hl rfl (by decide) [some (.ref (ad L 0)), some (.int p0), none] rfl (Nat.le_of_ble_eq_true rfl) ?_
  intro p e s m below meth c9 A ar Q hQ X
  unfold f_X8_setClaims at hR
  refine j_aload_n X (i := 0) dX8_setClaims_0 rfl rfl ?_
  obtain ⟨a2, h1, hR⟩ := bT_inv hR
  refine j_callV0 X 8 (m_X8_remember hl hL h1) ml_X8_75 im_yX8_remember se_yX8_remember in_X8 cd_yX8_remember hy_yX8_remember dX8_setClaims_1 rfl (inL hL t_0 (by decide)) (FW8 hL t_0) ⟨(by decide), (by decide)⟩ ⟨(by decide), (by decide)⟩ (Nat.le_of_ble_eq_true rfl) (fun _ h => h.elim) (fun r9 L9 f9 h9 => ?_)
  obtain ⟨h91, h92, h93⟩ := h9
  subst r9
  subst f9
  subst L9
  dsimp only [Option.toList, List.cons_append, List.nil_append, List.append]
  refine j_aload_n X (i := 0) dX8_setClaims_4 rfl rfl ?_
  refine j_getf X 8 3 rfl cw_X8 fl_X8_31 (by decide) dX8_setClaims_5 (inL hL t_0 (by decide)) (FW8 hL t_0) rfl ?_
  refine j_getf X 6 4 rfl cw_X6 fl_X8_151 (by decide) dX8_setClaims_8 (inL hL t_8 (by decide)) (FW6 hL t_8) rfl ?_
  obtain ⟨x4, h5, hR⟩ := bT_inv hR
  refine J.eqi h5 ?_
  refine j_istore_n X (i := 2) dX8_setClaims_11 rfl (by decide) (lvOK_s rfl okPrev_int) ?_
  dsimp only [List.set]
  refine j_aload_n X (i := 0) dX8_setClaims_12 rfl rfl ?_
  refine j_getf X 8 3 rfl cw_X8 fl_X8_31 (by decide) dX8_setClaims_13 (inL hL t_0 (by decide)) (FW8 hL t_0) rfl ?_
  refine j_iload_n X (i := 1) dX8_setClaims_16 rfl rfl ?_
  obtain ⟨a6, h7, hR⟩ := bT_inv hR
  refine tp_X6_4 X hL t_8 hB0 h7 fl_X8_151 dX8_setClaims_17 ?_
  refine j_iload_n X (i := 2) dX8_setClaims_20 rfl rfl ?_
  exact q_zret X hQ dX8_setClaims_21 rfl (nar_B (h5 ▸ nb_B)) ⟨(by decide), (by decide)⟩ ⟨rfl, congrArg (fun z => FW G L z b c) (Prod.mk.inj hR).2, congrArg (fun z => some (Value.int z)) (Prod.mk.inj hR).1, (Prod.mk.inj hR).1 ▸ (h5 ▸ nb_B)⟩
def f_X8_undoCount (a : Mem) : Int32 := (a 0 6)
def f_X8_writeSide_88 (N : Nat) (p0 : Int32) (k2 : Nat) : Nat → Int32 → Mem → Option Mem
  | 0, _, _ => none
  | fu + 1, x23, a24 => if (a24 k2 5) ≤ x23 then (if p0 = (a24 8 6) then (bT (f_X2_add (42 : Int32) a24) fun a28 => some a28) else (some a24)) else (bT (f_X2_add (43 : Int32) a24) fun a31 => bT (x23 + (1 : Int32)) fun x33 => f_X8_writeSide_88 N p0 k2 fu x33 a31)
theorem f_X8_writeSide_88_s (N : Nat) (p0 : Int32) (k2 : Nat) {fu : Nat} {x23 : Int32} {a24 : Mem} : f_X8_writeSide_88 N p0 k2 (fu + 1) x23 a24 = (if (a24 k2 5) ≤ x23 then (if p0 = (a24 8 6) then (bT (f_X2_add (42 : Int32) a24) fun a28 => some a28) else (some a24)) else (bT (f_X2_add (43 : Int32) a24) fun a31 => bT (x23 + (1 : Int32)) fun x33 => f_X8_writeSide_88 N p0 k2 fu x33 a31)) := rfl
def f_X8_writeSide_85 (N : Nat) (p0 : Int32) (k2 : Nat) (a22 : Mem) : Option Mem := f_X8_writeSide_88 N p0 k2 N (0 : Int32) a22
def f_X8_writeSide (N : Nat) (p0 : Int32) (a : Mem) : Option Mem := bT (f_X6_sideOf 8 p0 a) fun k2 => bT (f_X5_secondsLeft k2 a) fun x5 => bP (f_X2_addNumber N (x5 / (3600 : Int32)) a) fun a8 => bT (f_X2_add (58 : Int32) a8) fun a11 => bP (f_X2_addTwoDigits N ((x5 / (60 : Int32)) - (x5 / (60 : Int32)) / (60 : Int32) * (60 : Int32)) a11) fun a14 => bT (f_X2_add (58 : Int32) a14) fun a17 => bP (f_X2_addTwoDigits N (x5 - x5 / (60 : Int32) * (60 : Int32)) a17) fun a20 => if (nb (a20 k2 9)) = 0 then (f_X8_writeSide_85 N p0 k2 a20) else (bT (f_X2_add (33 : Int32) a20) fun a37 => f_X8_writeSide_85 N p0 k2 a37)
def f_X8_writeClock (N : Nat) (a : Mem) : Option (Int32 × Mem) := bT (up2 a 6 1 (0 : Int32)) fun a1 => bP (f_X8_writeSide N (0 : Int32) a1) fun a4 => bT (f_X2_add (32 : Int32) a4) fun a7 => bP (f_X8_writeSide N (1 : Int32) a7) fun a10 => some ((a10 6 1), a10)
def f_X8_writeLog_28 (N : Nat) (x3 : Int32) : Nat → Int32 → Mem → Option (Int32 × Mem)
  | 0, _, _ => none
  | fu + 1, x5, a6 => if x5 < 0 then (some ((a6 6 1), a6)) else (if x3 ≤ x5 then (bT (f_X1_number (8 + 3) x5 (0 : Int32) a6) fun x10 => if x10 = 0 then (bT (f_X2_add (119 : Int32) a6) fun a31 => bT (f_X1_number (8 + 3) x5 (1 : Int32) a31) fun x34 => bP (f_X2_addNumber N x34 a31) fun a37 => bT (f_X1_number (8 + 3) x5 (3 : Int32) a37) fun x40 => bP (f_X2_addUnlessZero N (43 : Int32) x40 a37) fun a43 => bT (x5 + (-1 : Int32)) fun x45 => f_X8_writeLog_28 N x3 fu x45 a43) else (bT (f_X2_add (98 : Int32) a6) fun a14 => bT (f_X1_number (8 + 3) x5 (1 : Int32) a14) fun x17 => bP (f_X2_addNumber N x17 a14) fun a20 => bT (f_X1_number (8 + 3) x5 (3 : Int32) a20) fun x23 => bP (f_X2_addUnlessZero N (43 : Int32) x23 a20) fun a26 => bT (x5 + (-1 : Int32)) fun x28 => f_X8_writeLog_28 N x3 fu x28 a26)) else (bT (f_X2_add (32 : Int32) a6) fun a48 => bT (f_X1_number (8 + 3) x5 (0 : Int32) a48) fun x51 => if x51 = 0 then (bT (f_X2_add (119 : Int32) a48) fun a72 => bT (f_X1_number (8 + 3) x5 (1 : Int32) a72) fun x75 => bP (f_X2_addNumber N x75 a72) fun a78 => bT (f_X1_number (8 + 3) x5 (3 : Int32) a78) fun x81 => bP (f_X2_addUnlessZero N (43 : Int32) x81 a78) fun a84 => bT (x5 + (-1 : Int32)) fun x86 => f_X8_writeLog_28 N x3 fu x86 a84) else (bT (f_X2_add (98 : Int32) a48) fun a55 => bT (f_X1_number (8 + 3) x5 (1 : Int32) a55) fun x58 => bP (f_X2_addNumber N x58 a55) fun a61 => bT (f_X1_number (8 + 3) x5 (3 : Int32) a61) fun x64 => bP (f_X2_addUnlessZero N (43 : Int32) x64 a61) fun a67 => bT (x5 + (-1 : Int32)) fun x69 => f_X8_writeLog_28 N x3 fu x69 a67)))
theorem f_X8_writeLog_28_s (N : Nat) (x3 : Int32) {fu : Nat} {x5 : Int32} {a6 : Mem} : f_X8_writeLog_28 N x3 (fu + 1) x5 a6 = (if x5 < 0 then (some ((a6 6 1), a6)) else (if x3 ≤ x5 then (bT (f_X1_number (8 + 3) x5 (0 : Int32) a6) fun x10 => if x10 = 0 then (bT (f_X2_add (119 : Int32) a6) fun a31 => bT (f_X1_number (8 + 3) x5 (1 : Int32) a31) fun x34 => bP (f_X2_addNumber N x34 a31) fun a37 => bT (f_X1_number (8 + 3) x5 (3 : Int32) a37) fun x40 => bP (f_X2_addUnlessZero N (43 : Int32) x40 a37) fun a43 => bT (x5 + (-1 : Int32)) fun x45 => f_X8_writeLog_28 N x3 fu x45 a43) else (bT (f_X2_add (98 : Int32) a6) fun a14 => bT (f_X1_number (8 + 3) x5 (1 : Int32) a14) fun x17 => bP (f_X2_addNumber N x17 a14) fun a20 => bT (f_X1_number (8 + 3) x5 (3 : Int32) a20) fun x23 => bP (f_X2_addUnlessZero N (43 : Int32) x23 a20) fun a26 => bT (x5 + (-1 : Int32)) fun x28 => f_X8_writeLog_28 N x3 fu x28 a26)) else (bT (f_X2_add (32 : Int32) a6) fun a48 => bT (f_X1_number (8 + 3) x5 (0 : Int32) a48) fun x51 => if x51 = 0 then (bT (f_X2_add (119 : Int32) a48) fun a72 => bT (f_X1_number (8 + 3) x5 (1 : Int32) a72) fun x75 => bP (f_X2_addNumber N x75 a72) fun a78 => bT (f_X1_number (8 + 3) x5 (3 : Int32) a78) fun x81 => bP (f_X2_addUnlessZero N (43 : Int32) x81 a78) fun a84 => bT (x5 + (-1 : Int32)) fun x86 => f_X8_writeLog_28 N x3 fu x86 a84) else (bT (f_X2_add (98 : Int32) a48) fun a55 => bT (f_X1_number (8 + 3) x5 (1 : Int32) a55) fun x58 => bP (f_X2_addNumber N x58 a55) fun a61 => bT (f_X1_number (8 + 3) x5 (3 : Int32) a61) fun x64 => bP (f_X2_addUnlessZero N (43 : Int32) x64 a61) fun a67 => bT (x5 + (-1 : Int32)) fun x69 => f_X8_writeLog_28 N x3 fu x69 a67)))) := rfl
def f_X8_writeLog (N : Nat) (a : Mem) : Option (Int32 × Mem) := bT (up2 a 6 1 (0 : Int32)) fun a1 => bT ((mnI (a1 (8 + 3) 1) (12 : Int32)) - (1 : Int32)) fun x3 => f_X8_writeLog_28 N x3 N x3 a1
def f_X8_writeMovesOf (N : Nat) (p0 : Int32) (a : Mem) : Option Mem := bT (f_X4_isEndless (8 + 1) p0 a) fun x2 => if x2 = 0 then (bT (f_X4_number (8 + 1) p0 (0 : Int32) a) fun x6 => bP (f_X2_addNumber N x6 a) fun a9 => some a9) else (bT (f_X2_add (114 : Int32) a) fun a12 => some a12)
def f_X8_writePeriods_10 (N : Nat)  : Nat → Int32 → Mem → Option (Int32 × Mem)
  | 0, _, _ => none
  | fu + 1, x3, a4 => if (a4 (8 + 1) 1) ≤ x3 then (some ((a4 6 1), a4)) else (if x3 ≤ 0 then (bP (f_X8_writeMovesOf N x3 a4) fun a8 => bT (f_X2_add (47 : Int32) a8) fun a11 => bT (f_X4_number (8 + 1) x3 (1 : Int32) a11) fun x14 => bP (f_X2_addNumber N x14 a11) fun a17 => bT (f_X4_number (8 + 1) x3 (2 : Int32) a17) fun x20 => bP (f_X2_addUnlessZero N (43 : Int32) x20 a17) fun a23 => bT (f_X4_number (8 + 1) x3 (3 : Int32) a23) fun x26 => bP (f_X2_addUnlessZero N (100 : Int32) x26 a23) fun a29 => bT (f_X4_number (8 + 1) x3 (4 : Int32) a29) fun x32 => bP (f_X2_addUnlessZero N (98 : Int32) x32 a29) fun a35 => bT (x3 + (1 : Int32)) fun x37 => f_X8_writePeriods_10 N fu x37 a35) else (bT (f_X2_add (32 : Int32) a4) fun a40 => bP (f_X8_writeMovesOf N x3 a40) fun a43 => bT (f_X2_add (47 : Int32) a43) fun a46 => bT (f_X4_number (8 + 1) x3 (1 : Int32) a46) fun x49 => bP (f_X2_addNumber N x49 a46) fun a52 => bT (f_X4_number (8 + 1) x3 (2 : Int32) a52) fun x55 => bP (f_X2_addUnlessZero N (43 : Int32) x55 a52) fun a58 => bT (f_X4_number (8 + 1) x3 (3 : Int32) a58) fun x61 => bP (f_X2_addUnlessZero N (100 : Int32) x61 a58) fun a64 => bT (f_X4_number (8 + 1) x3 (4 : Int32) a64) fun x67 => bP (f_X2_addUnlessZero N (98 : Int32) x67 a64) fun a70 => bT (x3 + (1 : Int32)) fun x72 => f_X8_writePeriods_10 N fu x72 a70))
theorem f_X8_writePeriods_10_s (N : Nat)  {fu : Nat} {x3 : Int32} {a4 : Mem} : f_X8_writePeriods_10 N (fu + 1) x3 a4 = (if (a4 (8 + 1) 1) ≤ x3 then (some ((a4 6 1), a4)) else (if x3 ≤ 0 then (bP (f_X8_writeMovesOf N x3 a4) fun a8 => bT (f_X2_add (47 : Int32) a8) fun a11 => bT (f_X4_number (8 + 1) x3 (1 : Int32) a11) fun x14 => bP (f_X2_addNumber N x14 a11) fun a17 => bT (f_X4_number (8 + 1) x3 (2 : Int32) a17) fun x20 => bP (f_X2_addUnlessZero N (43 : Int32) x20 a17) fun a23 => bT (f_X4_number (8 + 1) x3 (3 : Int32) a23) fun x26 => bP (f_X2_addUnlessZero N (100 : Int32) x26 a23) fun a29 => bT (f_X4_number (8 + 1) x3 (4 : Int32) a29) fun x32 => bP (f_X2_addUnlessZero N (98 : Int32) x32 a29) fun a35 => bT (x3 + (1 : Int32)) fun x37 => f_X8_writePeriods_10 N fu x37 a35) else (bT (f_X2_add (32 : Int32) a4) fun a40 => bP (f_X8_writeMovesOf N x3 a40) fun a43 => bT (f_X2_add (47 : Int32) a43) fun a46 => bT (f_X4_number (8 + 1) x3 (1 : Int32) a46) fun x49 => bP (f_X2_addNumber N x49 a46) fun a52 => bT (f_X4_number (8 + 1) x3 (2 : Int32) a52) fun x55 => bP (f_X2_addUnlessZero N (43 : Int32) x55 a52) fun a58 => bT (f_X4_number (8 + 1) x3 (3 : Int32) a58) fun x61 => bP (f_X2_addUnlessZero N (100 : Int32) x61 a58) fun a64 => bT (f_X4_number (8 + 1) x3 (4 : Int32) a64) fun x67 => bP (f_X2_addUnlessZero N (98 : Int32) x67 a64) fun a70 => bT (x3 + (1 : Int32)) fun x72 => f_X8_writePeriods_10 N fu x72 a70))) := rfl
def f_X8_writePeriods (N : Nat) (a : Mem) : Option (Int32 × Mem) := bT (up2 a 6 1 (0 : Int32)) fun a1 => f_X8_writePeriods_10 N N (0 : Int32) a1
def f_X8_append (N : Nat) (p0 : Int32) (p1 : Int32) (p2 : Int32) (p3 : Int32) (p4 : Int32) (a : Mem) : Option (Except Nat (Int32 × Mem)) := if ((a 2 1) + (20 : Int32)) ≤ (400 : Int32) then (bP (f_X0_addFour N p0 a) fun a3 => bP (f_X0_addFour N p1 a3) fun a6 => bP (f_X0_addFour N p2 a6) fun a9 => bP (f_X0_addFour N p3 a9) fun a12 => bP (f_X0_addFour N p4 a12) fun a15 => some (.ok ((a15 2 1), a15))) else (some (.error 1))
set_option maxRecDepth 100000 in
set_option maxHeartbeats 4000000 in
theorem m_X8_append {l : Launch} (hl : l.stackTraces = false) {G : GG} {L : List Nat} (hL : LOK L) {a b c : Mem} {N : Nat} {p0 : Int32} {p1 : Int32} {p2 : Int32} {p3 : Int32} {p4 : Int32} {R : Except Nat (Int32 × Mem)} (hR : f_X8_append N p0 p1 p2 p3 p4 a = some R) : Ct l G yX8_append (.code yX8_append cX8_append 6 (some .int)) 6 100 1 6 [.ref (ad L 0), .int p0, .int p1, .int p2, .int p3, .int p4] L (FW G L a b c) (fun E => ∃ n, R = .error n ∧ E = exN n) (stay L (fun r f1 => ∃ v a', R = .ok (v, a') ∧ f1 = (FW G L a' b c) ∧ r = some (.int v))) := by
  refine Ct.ofq (own := RX8) hl rfl (by decide) [some (.ref (ad L 0)), some (.int p0), some (.int p1), some (.int p2), some (.int p3), some (.int p4)] rfl (Nat.le_of_ble_eq_true rfl) ?_
  intro p e s m below meth c9 A ar Q hQ X
  unfold f_X8_append at hR
  refine j_aload_n X (i := 0) dX8_append_0 rfl rfl ?_
  refine j_getf X 8 1 rfl cw_X8 fl_X8_20 (by decide) dX8_append_1 (inL hL t_0 (by decide)) (FW8 hL t_0) rfl ?_
  refine j_getf X 0 1 rfl cw_X0 fl_X8_49 (by decide) dX8_append_4 (inL hL t_2 (by decide)) (FW0 hL t_2) rfl ?_
  refine j_bipush X (20) dX8_append_7 (by decide) ?_
  refine j_iadd X dX8_append_9 ?_
  refine j_sipush X (400) dX8_append_10 (by decide) ?_
  refine j_icmp_le X (tgt := 26) dX8_append_13 (by decide) (fun h1 => ?_) (fun h1 => ?_)
  · replace hR := (if_pos h1).symm.trans hR
    refine j_aload_n X (i := 0) dX8_append_26 rfl rfl ?_
    refine j_getf X 8 1 rfl cw_X8 fl_X8_20 (by decide) dX8_append_27 (inL hL t_0 (by decide)) (FW8 hL t_0) rfl ?_
    refine j_iload_n X (i := 1) dX8_append_30 rfl rfl ?_
    obtain ⟨a3, h2, hR⟩ := bP_inv hR
    refine j_callV1 X 0 (m_X0_addFour hl hL h2) ml_X8_62 im_yX0_addFour se_yX0_addFour in_X0 cd_yX0_addFour hy_yX0_addFour dX8_append_31 rfl (inL hL t_2 (by decide)) (FW0 hL t_2) ⟨(by decide), (by decide)⟩ ⟨(by decide), (by decide)⟩ (Nat.le_of_ble_eq_true rfl) (fun _ h => h.elim) (fun r9 L9 f9 h9 => ?_)
    obtain ⟨h91, h92, h93⟩ := h9
    subst r9
    subst f9
    subst L9
    dsimp only [Option.toList, List.cons_append, List.nil_append, List.append]
    refine j_aload_n X (i := 0) dX8_append_34 rfl rfl ?_
    refine j_getf X 8 1 rfl cw_X8 fl_X8_20 (by decide) dX8_append_35 (inL hL t_0 (by decide)) (FW8 hL t_0) rfl ?_
    refine j_iload_n X (i := 2) dX8_append_38 rfl rfl ?_
    obtain ⟨a6, h5, hR⟩ := bP_inv hR
    refine j_callV1 X 0 (m_X0_addFour hl hL h5) ml_X8_62 im_yX0_addFour se_yX0_addFour in_X0 cd_yX0_addFour hy_yX0_addFour dX8_append_39 rfl (inL hL t_2 (by decide)) (FW0 hL t_2) ⟨(by decide), (by decide)⟩ ⟨(by decide), (by decide)⟩ (Nat.le_of_ble_eq_true rfl) (fun _ h => h.elim) (fun r9 L9 f9 h9 => ?_)
    obtain ⟨h91, h92, h93⟩ := h9
    subst r9
    subst f9
    subst L9
    dsimp only [Option.toList, List.cons_append, List.nil_append, List.append]
    refine j_aload_n X (i := 0) dX8_append_42 rfl rfl ?_
    refine j_getf X 8 1 rfl cw_X8 fl_X8_20 (by decide) dX8_append_43 (inL hL t_0 (by decide)) (FW8 hL t_0) rfl ?_
    refine j_iload_n X (i := 3) dX8_append_46 rfl rfl ?_
    obtain ⟨a9, h8, hR⟩ := bP_inv hR
    refine j_callV1 X 0 (m_X0_addFour hl hL h8) ml_X8_62 im_yX0_addFour se_yX0_addFour in_X0 cd_yX0_addFour hy_yX0_addFour dX8_append_47 rfl (inL hL t_2 (by decide)) (FW0 hL t_2) ⟨(by decide), (by decide)⟩ ⟨(by decide), (by decide)⟩ (Nat.le_of_ble_eq_true rfl) (fun _ h => h.elim) (fun r9 L9 f9 h9 => ?_)
    obtain ⟨h91, h92, h93⟩ := h9
    subst r9
    subst f9
    subst L9
    dsimp only [Option.toList, List.cons_append, List.nil_append, List.append]
    refine j_aload_n X (i := 0) dX8_append_50 rfl rfl ?_
    refine j_getf X 8 1 rfl cw_X8 fl_X8_20 (by decide) dX8_append_51 (inL hL t_0 (by decide)) (FW8 hL t_0) rfl ?_
    refine j_iload X dX8_append_54 rfl ?_
    obtain ⟨a12, h11, hR⟩ := bP_inv hR
    refine j_callV1 X 0 (m_X0_addFour hl hL h11) ml_X8_62 im_yX0_addFour se_yX0_addFour in_X0 cd_yX0_addFour hy_yX0_addFour dX8_append_56 rfl (inL hL t_2 (by decide)) (FW0 hL t_2) ⟨(by decide), (by decide)⟩ ⟨(by decide), (by decide)⟩ (Nat.le_of_ble_eq_true rfl) (fun _ h => h.elim) (fun r9 L9 f9 h9 => ?_)
    obtain ⟨h91, h92, h93⟩ := h9
    subst r9
    subst f9
    subst L9
    dsimp only [Option.toList, List.cons_append, List.nil_append, List.append]
    refine j_aload_n X (i := 0) dX8_append_59 rfl rfl ?_
    refine j_getf X 8 1 rfl cw_X8 fl_X8_20 (by decide) dX8_append_60 (inL hL t_0 (by decide)) (FW8 hL t_0) rfl ?_
    refine j_iload X dX8_append_63 rfl ?_
    obtain ⟨a15, h14, hR⟩ := bP_inv hR
    refine j_callV1 X 0 (m_X0_addFour hl hL h14) ml_X8_62 im_yX0_addFour se_yX0_addFour in_X0 cd_yX0_addFour hy_yX0_addFour dX8_append_65 rfl (inL hL t_2 (by decide)) (FW0 hL t_2) ⟨(by decide), (by decide)⟩ ⟨(by decide), (by decide)⟩ (Nat.le_of_ble_eq_true rfl) (fun _ h => h.elim) (fun r9 L9 f9 h9 => ?_)
    obtain ⟨h91, h92, h93⟩ := h9
    subst r9
    subst f9
    subst L9
    dsimp only [Option.toList, List.cons_append, List.nil_append, List.append]
    refine j_aload_n X (i := 0) dX8_append_68 rfl rfl ?_
    refine j_getf X 8 1 rfl cw_X8 fl_X8_20 (by decide) dX8_append_69 (inL hL t_0 (by decide)) (FW8 hL t_0) rfl ?_
    refine j_getf X 0 1 rfl cw_X0 fl_X8_49 (by decide) dX8_append_72 (inL hL t_2 (by decide)) (FW0 hL t_2) rfl ?_
    exact q_iret X hQ dX8_append_75 rfl ⟨(by decide), (by decide)⟩ ⟨rfl, _, _, (Option.some.inj hR).symm, rfl, rfl⟩
  · replace hR := (if_neg h1).symm.trans hR
    exact q_throwS X hQ (i := 12) rfl dX8_append_16 dX8_append_19 dX8_append_20 dX8_append_22 dX8_append_25 ax_ISE_X8_55_59 (by decide) (Nat.le_of_ble_eq_true rfl) ⟨(by decide), (by decide)⟩ ⟨(by decide), (by decide)⟩ ⟨_, (Option.some.inj hR).symm, rfl⟩
def f_X8_truncate (p0 : Int32) (a : Mem) : Option (Except Nat Mem) := if p0 < 0 then (some (.error 2)) else (if p0 ≤ (a 2 1) then (bT (up2 a 2 1 p0) fun a3 => some (.ok a3)) else (some (.error 2)))
set_option maxRecDepth 100000 in
set_option maxHeartbeats 4000000 in
theorem m_X8_truncate {l : Launch} (hl : l.stackTraces = false) {G : GG} {L : List Nat} (hL : LOK L) {a b c : Mem} {p0 : Int32} {R : Except Nat Mem} (hR : f_X8_truncate p0 a = some R) : Ct l G yX8_truncate (.code yX8_truncate cX8_truncate 2 none) 6 100 1 6 [.ref (ad L 0), .int p0] L (FW G L a b c) (fun E => ∃ n, R = .error n ∧ E = exN n) (stay L (fun r f1 => ∃ a', R = .ok a' ∧ f1 = (FW G L a' b c) ∧ r = none)) := by
  refine Ct.ofq (own := RX8) hl rfl (by decide) [some (.ref (ad L 0)), some (.int p0)] rfl (Nat.le_of_ble_eq_true rfl) ?_
  intro p e s m below meth c9 A ar Q hQ X
  unfold f_X8_truncate at hR
  refine j_iload_n X (i := 1) dX8_truncate_0 rfl rfl ?_
  refine j_if_lt X (tgt := 15) dX8_truncate_1 (by decide) (fun h1 => ?_) (fun h1 => ?_)
  · replace hR := (if_pos h1).symm.trans hR
    exact q_throwS X hQ (i := 13) rfl dX8_truncate_15 dX8_truncate_18 dX8_truncate_19 dX8_truncate_21 dX8_truncate_24 ax_IAE_X8_66_70 (by decide) (Nat.le_of_ble_eq_true rfl) ⟨(by decide), (by decide)⟩ ⟨(by decide), (by decide)⟩ ⟨_, (Option.some.inj hR).symm, rfl⟩
  · replace hR := (if_neg h1).symm.trans hR
    refine j_iload_n X (i := 1) dX8_truncate_4 rfl rfl ?_
    refine j_aload_n X (i := 0) dX8_truncate_5 rfl rfl ?_
    refine j_getf X 8 1 rfl cw_X8 fl_X8_20 (by decide) dX8_truncate_6 (inL hL t_0 (by decide)) (FW8 hL t_0) rfl ?_
    refine j_getf X 0 1 rfl cw_X0 fl_X8_49 (by decide) dX8_truncate_9 (inL hL t_2 (by decide)) (FW0 hL t_2) rfl ?_
    refine j_icmp_le X (tgt := 25) dX8_truncate_12 (by decide) (fun h2 => ?_) (fun h2 => ?_)
    · replace hR := (if_pos h2).symm.trans hR
      refine j_aload_n X (i := 0) dX8_truncate_25 rfl rfl ?_
      refine j_getf X 8 1 rfl cw_X8 fl_X8_20 (by decide) dX8_truncate_26 (inL hL t_0 (by decide)) (FW8 hL t_0) rfl ?_
      refine j_iload_n X (i := 1) dX8_truncate_29 rfl rfl ?_
      obtain ⟨a3, h4, hR⟩ := bT_inv hR
      refine tp_X0_1 X hL t_2 h4 fl_X8_49 dX8_truncate_30 ?_
      exact q_vret X hQ dX8_truncate_33 rfl ⟨(by decide), (by decide)⟩ ⟨rfl, _, (Option.some.inj hR).symm, rfl, rfl⟩
    · replace hR := (if_neg h2).symm.trans hR
      exact q_throwS X hQ (i := 13) rfl dX8_truncate_15 dX8_truncate_18 dX8_truncate_19 dX8_truncate_21 dX8_truncate_24 ax_IAE_X8_66_70 (by decide) (Nat.le_of_ble_eq_true rfl) ⟨(by decide), (by decide)⟩ ⟨(by decide), (by decide)⟩ ⟨_, (Option.some.inj hR).symm, rfl⟩
def f_X8_property (p0 : Int32) (a : Mem) : Option (Except Nat Int32) := if p0 = (0 : Int32) then (some (.ok (a 8 5))) else if p0 = (1 : Int32) then (some (.ok (a 8 6))) else if p0 = (2 : Int32) then (some (.ok (a (8 + 1) 1))) else if p0 = (3 : Int32) then (some (.ok (a (8 + 1) 2))) else if p0 = (4 : Int32) then (some (.ok (a (8 + 1) 3))) else if p0 = (5 : Int32) then (some (.ok (a (8 + 1) 4))) else if p0 = (6 : Int32) then (some (.ok (a 8 10))) else if p0 = (7 : Int32) then (some (.ok (a 8 9))) else if p0 = (8 : Int32) then (some (.ok ((a (sdr 8 (a 8 2)) 3) + (a (sdr 8 (a 8 3)) 3)))) else if p0 = (9 : Int32) then (some (.ok (a 8 8))) else if p0 = (10 : Int32) then (if (nb (a 8 4)) = 0 then (some (.ok (0 : Int32))) else (some (.ok (1 : Int32)))) else if p0 = (11 : Int32) then (some (.ok (a 8 7))) else (some (.error 2))
set_option maxRecDepth 100000 in
set_option maxHeartbeats 4000000 in
theorem m_X8_property {l : Launch} (hl : l.stackTraces = false) {G : GG} {L : List Nat} (hL : LOK L) {a b c : Mem} {p0 : Int32} {R : Except Nat Int32} (hR : f_X8_property p0 a = some R) : Ct l G yX8_property (.code yX8_property cX8_property 2 (some .int)) 6 100 1 6 [.ref (ad L 0), .int p0] L (FW G L a b c) (fun E => ∃ n, R = .error n ∧ E = exN n) (stay L (fun r f1 => ∃ v, R = .ok v ∧ f1 = (FW G L a b c) ∧ r = some (.int v))) := by
  refine Ct.ofq (own := RX8) hl rfl (by decide) [some (.ref (ad L 0)), some (.int p0)] rfl (Nat.le_of_ble_eq_true rfl) ?_
  intro p e s m below meth c9 A ar Q hQ X
  unfold f_X8_property at hR
  refine j_iload_n X (i := 1) dX8_property_0 rfl rfl ?_
  by_cases h1 : p0 = (0 : Int32)
  · replace hR := (if_pos h1).symm.trans hR
    refine j_tblIn X (tgt := 64) dX8_property_1 (by rw [h1]; decide) (by rw [h1]; decide) (by rw [h1]; rfl) (by decide) ?_
    refine j_aload_n X (i := 0) dX8_property_64 rfl rfl ?_
    refine j_getf X 8 3 rfl cw_X8 fl_X8_31 (by decide) dX8_property_65 (inL hL t_0 (by decide)) (FW8 hL t_0) rfl ?_
    refine j_getf X 6 5 rfl cw_X6 fl_X8_117 (by decide) dX8_property_68 (inL hL t_8 (by decide)) (FW6 hL t_8) rfl ?_
    exact q_iret X hQ dX8_property_71 rfl ⟨(by decide), (by decide)⟩ ⟨rfl, _, (Option.some.inj hR).symm, rfl, rfl⟩
  · replace hR := (if_neg h1).symm.trans hR
    by_cases h2 : p0 = (1 : Int32)
    · replace hR := (if_pos h2).symm.trans hR
      refine j_tblIn X (tgt := 72) dX8_property_1 (by rw [h2]; decide) (by rw [h2]; decide) (by rw [h2]; rfl) (by decide) ?_
      refine j_aload_n X (i := 0) dX8_property_72 rfl rfl ?_
      refine j_getf X 8 3 rfl cw_X8 fl_X8_31 (by decide) dX8_property_73 (inL hL t_0 (by decide)) (FW8 hL t_0) rfl ?_
      refine j_getf X 6 6 rfl cw_X6 fl_X8_120 (by decide) dX8_property_76 (inL hL t_8 (by decide)) (FW6 hL t_8) rfl ?_
      exact q_iret X hQ dX8_property_79 rfl ⟨(by decide), (by decide)⟩ ⟨rfl, _, (Option.some.inj hR).symm, rfl, rfl⟩
    · replace hR := (if_neg h2).symm.trans hR
      by_cases h3 : p0 = (2 : Int32)
      · replace hR := (if_pos h3).symm.trans hR
        refine j_tblIn X (tgt := 80) dX8_property_1 (by rw [h3]; decide) (by rw [h3]; decide) (by rw [h3]; rfl) (by decide) ?_
        refine j_aload_n X (i := 0) dX8_property_80 rfl rfl ?_
        refine j_getf X 8 3 rfl cw_X8 fl_X8_31 (by decide) dX8_property_81 (inL hL t_0 (by decide)) (FW8 hL t_0) rfl ?_
        refine j_getf X 6 0 rfl cw_X6 fl_X8_105 (by decide) dX8_property_84 (inL hL t_8 (by decide)) (FW6 hL t_8) rfl ?_
        refine j_getf X 4 1 rfl cw_X4 fl_X8_106 (by decide) dX8_property_87 (inL hL (ty6_0 t_8) (by decide)) (FW4 hL (ty6_0 t_8)) rfl ?_
        exact q_iret X hQ dX8_property_90 rfl ⟨(by decide), (by decide)⟩ ⟨rfl, _, (Option.some.inj hR).symm, rfl, rfl⟩
      · replace hR := (if_neg h3).symm.trans hR
        by_cases h4 : p0 = (3 : Int32)
        · replace hR := (if_pos h4).symm.trans hR
          refine j_tblIn X (tgt := 91) dX8_property_1 (by rw [h4]; decide) (by rw [h4]; decide) (by rw [h4]; rfl) (by decide) ?_
          refine j_aload_n X (i := 0) dX8_property_91 rfl rfl ?_
          refine j_getf X 8 3 rfl cw_X8 fl_X8_31 (by decide) dX8_property_92 (inL hL t_0 (by decide)) (FW8 hL t_0) rfl ?_
          refine j_getf X 6 0 rfl cw_X6 fl_X8_105 (by decide) dX8_property_95 (inL hL t_8 (by decide)) (FW6 hL t_8) rfl ?_
          refine j_getf X 4 2 rfl cw_X4 fl_X8_123 (by decide) dX8_property_98 (inL hL (ty6_0 t_8) (by decide)) (FW4 hL (ty6_0 t_8)) rfl ?_
          exact q_iret X hQ dX8_property_101 rfl ⟨(by decide), (by decide)⟩ ⟨rfl, _, (Option.some.inj hR).symm, rfl, rfl⟩
        · replace hR := (if_neg h4).symm.trans hR
          by_cases h5 : p0 = (4 : Int32)
          · replace hR := (if_pos h5).symm.trans hR
            refine j_tblIn X (tgt := 102) dX8_property_1 (by rw [h5]; decide) (by rw [h5]; decide) (by rw [h5]; rfl) (by decide) ?_
            refine j_aload_n X (i := 0) dX8_property_102 rfl rfl ?_
            refine j_getf X 8 3 rfl cw_X8 fl_X8_31 (by decide) dX8_property_103 (inL hL t_0 (by decide)) (FW8 hL t_0) rfl ?_
            refine j_getf X 6 0 rfl cw_X6 fl_X8_105 (by decide) dX8_property_106 (inL hL t_8 (by decide)) (FW6 hL t_8) rfl ?_
            refine j_getf X 4 3 rfl cw_X4 fl_X8_126 (by decide) dX8_property_109 (inL hL (ty6_0 t_8) (by decide)) (FW4 hL (ty6_0 t_8)) rfl ?_
            exact q_iret X hQ dX8_property_112 rfl ⟨(by decide), (by decide)⟩ ⟨rfl, _, (Option.some.inj hR).symm, rfl, rfl⟩
          · replace hR := (if_neg h5).symm.trans hR
            by_cases h6 : p0 = (5 : Int32)
            · replace hR := (if_pos h6).symm.trans hR
              refine j_tblIn X (tgt := 113) dX8_property_1 (by rw [h6]; decide) (by rw [h6]; decide) (by rw [h6]; rfl) (by decide) ?_
              refine j_aload_n X (i := 0) dX8_property_113 rfl rfl ?_
              refine j_getf X 8 3 rfl cw_X8 fl_X8_31 (by decide) dX8_property_114 (inL hL t_0 (by decide)) (FW8 hL t_0) rfl ?_
              refine j_getf X 6 0 rfl cw_X6 fl_X8_105 (by decide) dX8_property_117 (inL hL t_8 (by decide)) (FW6 hL t_8) rfl ?_
              refine j_getf X 4 4 rfl cw_X4 fl_X8_129 (by decide) dX8_property_120 (inL hL (ty6_0 t_8) (by decide)) (FW4 hL (ty6_0 t_8)) rfl ?_
              exact q_iret X hQ dX8_property_123 rfl ⟨(by decide), (by decide)⟩ ⟨rfl, _, (Option.some.inj hR).symm, rfl, rfl⟩
            · replace hR := (if_neg h6).symm.trans hR
              by_cases h7 : p0 = (6 : Int32)
              · replace hR := (if_pos h7).symm.trans hR
                refine j_tblIn X (tgt := 124) dX8_property_1 (by rw [h7]; decide) (by rw [h7]; decide) (by rw [h7]; rfl) (by decide) ?_
                refine j_aload_n X (i := 0) dX8_property_124 rfl rfl ?_
                refine j_getf X 8 3 rfl cw_X8 fl_X8_31 (by decide) dX8_property_125 (inL hL t_0 (by decide)) (FW8 hL t_0) rfl ?_
                refine j_getf X 6 10 rfl cw_X6 fl_X8_132 (by decide) dX8_property_128 (inL hL t_8 (by decide)) (FW6 hL t_8) rfl ?_
                exact q_iret X hQ dX8_property_131 rfl ⟨(by decide), (by decide)⟩ ⟨rfl, _, (Option.some.inj hR).symm, rfl, rfl⟩
              · replace hR := (if_neg h7).symm.trans hR
                by_cases h8 : p0 = (7 : Int32)
                · replace hR := (if_pos h8).symm.trans hR
                  refine j_tblIn X (tgt := 132) dX8_property_1 (by rw [h8]; decide) (by rw [h8]; decide) (by rw [h8]; rfl) (by decide) ?_
                  refine j_aload_n X (i := 0) dX8_property_132 rfl rfl ?_
                  refine j_getf X 8 3 rfl cw_X8 fl_X8_31 (by decide) dX8_property_133 (inL hL t_0 (by decide)) (FW8 hL t_0) rfl ?_
                  refine j_getf X 6 9 rfl cw_X6 fl_X8_135 (by decide) dX8_property_136 (inL hL t_8 (by decide)) (FW6 hL t_8) rfl ?_
                  exact q_iret X hQ dX8_property_139 rfl ⟨(by decide), (by decide)⟩ ⟨rfl, _, (Option.some.inj hR).symm, rfl, rfl⟩
                · replace hR := (if_neg h8).symm.trans hR
                  by_cases h9 : p0 = (8 : Int32)
                  · replace hR := (if_pos h9).symm.trans hR
                    refine j_tblIn X (tgt := 140) dX8_property_1 (by rw [h9]; decide) (by rw [h9]; decide) (by rw [h9]; rfl) (by decide) ?_
                    refine j_aload_n X (i := 0) dX8_property_140 rfl rfl ?_
                    refine j_getf X 8 3 rfl cw_X8 fl_X8_31 (by decide) dX8_property_141 (inL hL t_0 (by decide)) (FW8 hL t_0) rfl ?_
                    refine j_getf X 6 2 rfl cw_X6 fl_X8_138 (by decide) dX8_property_144 (inL hL t_8 (by decide)) (FW6 hL t_8) rfl ?_
                    refine j_getf X 5 3 rfl cw_X5 fl_X8_142 (by decide) dX8_property_147 (inL hL (ty6_s t_8) (by decide)) (FW5 hL (ty6_s t_8)) rfl ?_
                    refine j_aload_n X (i := 0) dX8_property_150 rfl rfl ?_
                    refine j_getf X 8 3 rfl cw_X8 fl_X8_31 (by decide) dX8_property_151 (inL hL t_0 (by decide)) (FW8 hL t_0) rfl ?_
                    refine j_getf X 6 3 rfl cw_X6 fl_X8_145 (by decide) dX8_property_154 (inL hL t_8 (by decide)) (FW6 hL t_8) rfl ?_
                    refine j_getf X 5 3 rfl cw_X5 fl_X8_142 (by decide) dX8_property_157 (inL hL (ty6_s t_8) (by decide)) (FW5 hL (ty6_s t_8)) rfl ?_
                    refine j_iadd X dX8_property_160 ?_
                    exact q_iret X hQ dX8_property_161 rfl ⟨(by decide), (by decide)⟩ ⟨rfl, _, (Option.some.inj hR).symm, rfl, rfl⟩
                  · replace hR := (if_neg h9).symm.trans hR
                    by_cases h10 : p0 = (9 : Int32)
                    · replace hR := (if_pos h10).symm.trans hR
                      refine j_tblIn X (tgt := 162) dX8_property_1 (by rw [h10]; decide) (by rw [h10]; decide) (by rw [h10]; rfl) (by decide) ?_
                      refine j_aload_n X (i := 0) dX8_property_162 rfl rfl ?_
                      refine j_getf X 8 3 rfl cw_X8 fl_X8_31 (by decide) dX8_property_163 (inL hL t_0 (by decide)) (FW8 hL t_0) rfl ?_
                      refine j_getf X 6 8 rfl cw_X6 fl_X8_148 (by decide) dX8_property_166 (inL hL t_8 (by decide)) (FW6 hL t_8) rfl ?_
                      exact q_iret X hQ dX8_property_169 rfl ⟨(by decide), (by decide)⟩ ⟨rfl, _, (Option.some.inj hR).symm, rfl, rfl⟩
                    · replace hR := (if_neg h10).symm.trans hR
                      by_cases h11 : p0 = (10 : Int32)
                      · replace hR := (if_pos h11).symm.trans hR
                        refine j_tblIn X (tgt := 170) dX8_property_1 (by rw [h11]; decide) (by rw [h11]; decide) (by rw [h11]; rfl) (by decide) ?_
                        refine j_aload_n X (i := 0) dX8_property_170 rfl rfl ?_
                        refine j_getf X 8 3 rfl cw_X8 fl_X8_31 (by decide) dX8_property_171 (inL hL t_0 (by decide)) (FW8 hL t_0) rfl ?_
                        refine j_getf X 6 4 rfl cw_X6 fl_X8_151 (by decide) dX8_property_174 (inL hL t_8 (by decide)) (FW6 hL t_8) rfl ?_
                        refine j_if_eq X (tgt := 184) dX8_property_177 (by decide) (fun h12 => ?_) (fun h12 => ?_)
                        · replace hR := (if_pos h12).symm.trans hR
                          refine j_iconst X (0) dX8_property_184 (by decide) ?_
                          exact q_iret X hQ dX8_property_185 rfl ⟨(by decide), (by decide)⟩ ⟨rfl, _, (Option.some.inj hR).symm, rfl, rfl⟩
                        · replace hR := (if_neg h12).symm.trans hR
                          refine j_iconst X (1) dX8_property_180 (by decide) ?_
                          refine j_goto X (tgt := 185) dX8_property_181 (by decide) ?_
                          exact q_iret X hQ dX8_property_185 rfl ⟨(by decide), (by decide)⟩ ⟨rfl, _, (Option.some.inj hR).symm, rfl, rfl⟩
                      · replace hR := (if_neg h11).symm.trans hR
                        by_cases h13 : p0 = (11 : Int32)
                        · replace hR := (if_pos h13).symm.trans hR
                          refine j_tblIn X (tgt := 186) dX8_property_1 (by rw [h13]; decide) (by rw [h13]; decide) (by rw [h13]; rfl) (by decide) ?_
                          refine j_aload_n X (i := 0) dX8_property_186 rfl rfl ?_
                          refine j_getf X 8 3 rfl cw_X8 fl_X8_31 (by decide) dX8_property_187 (inL hL t_0 (by decide)) (FW8 hL t_0) rfl ?_
                          refine j_getf X 6 7 rfl cw_X6 fl_X8_152 (by decide) dX8_property_190 (inL hL t_8 (by decide)) (FW6 hL t_8) rfl ?_
                          exact q_iret X hQ dX8_property_193 rfl ⟨(by decide), (by decide)⟩ ⟨rfl, _, (Option.some.inj hR).symm, rfl, rfl⟩
                        · replace hR := (if_neg h13).symm.trans hR
                          refine j_tblOut X (tgt := 194) dX8_property_1 (sw_out (lo := 0) (n := 12) (by decide) (by decide) (fun i hi => match i, hi with | 0, _ => h1 | 1, _ => h2 | 2, _ => h3 | 3, _ => h4 | 4, _ => h5 | 5, _ => h6 | 6, _ => h7 | 7, _ => h8 | 8, _ => h9 | 9, _ => h10 | 10, _ => h11 | 11, _ => h13 | _ + 12, h => absurd h (by omega))) (by decide) ?_
                          exact q_throwS X hQ (i := 14) rfl dX8_property_194 dX8_property_197 dX8_property_198 dX8_property_200 dX8_property_203 ax_IAE_X8_66_70 (by decide) (Nat.le_of_ble_eq_true rfl) ⟨(by decide), (by decide)⟩ ⟨(by decide), (by decide)⟩ ⟨_, (Option.some.inj hR).symm, rfl⟩
def f_X8_requirePeriod (p0 : Int32) (a : Mem) : Nat := if p0 < 0 then (3) else (if p0 < (a (8 + 1) 1) then (0) else (3))
set_option maxRecDepth 100000 in
set_option maxHeartbeats 4000000 in
theorem m_X8_requirePeriod {l : Launch} (hl : l.stackTraces = false) {G : GG} {L : List Nat} (hL : LOK L) {a b c : Mem} {p0 : Int32} {n : Nat} (hR : f_X8_requirePeriod p0 a = n) : Ct l G yX8_requirePeriod (.code yX8_requirePeriod cX8_requirePeriod 2 none) 6 100 1 6 [.ref (ad L 0), .int p0] L (FW G L a b c) (fun E => n ≠ 0 ∧ E = exN n) (stay L (fun r f1 => n = 0 ∧ f1 = (FW G L a b c) ∧ r = none)) := by
  refine Ct.ofq (own := RX8) hl rfl (by decide) [some (.ref (ad L 0)), some (.int p0)] rfl (Nat.le_of_ble_eq_true rfl) ?_
  intro p e s m below meth c9 A ar Q hQ X
  unfold f_X8_requirePeriod at hR
  refine j_iload_n X (i := 1) dX8_requirePeriod_0 rfl rfl ?_
  refine j_if_lt X (tgt := 18) dX8_requirePeriod_1 (by decide) (fun h1 => ?_) (fun h1 => ?_)
  · replace hR := (if_pos h1).symm.trans hR
    exact q_throwSW X hQ (i := 15) rfl dX8_requirePeriod_18 dX8_requirePeriod_21 dX8_requirePeriod_22 dX8_requirePeriod_25 dX8_requirePeriod_28 ax_IOE_X8_205_209 (by decide) (Nat.le_of_ble_eq_true rfl) ⟨(by decide), (by decide)⟩ ⟨(by decide), (by decide)⟩ (by subst hR; exact ⟨(by decide), rfl⟩)
  · replace hR := (if_neg h1).symm.trans hR
    refine j_iload_n X (i := 1) dX8_requirePeriod_4 rfl rfl ?_
    refine j_aload_n X (i := 0) dX8_requirePeriod_5 rfl rfl ?_
    refine j_getf X 8 3 rfl cw_X8 fl_X8_31 (by decide) dX8_requirePeriod_6 (inL hL t_0 (by decide)) (FW8 hL t_0) rfl ?_
    refine j_getf X 6 0 rfl cw_X6 fl_X8_105 (by decide) dX8_requirePeriod_9 (inL hL t_8 (by decide)) (FW6 hL t_8) rfl ?_
    refine j_getf X 4 1 rfl cw_X4 fl_X8_106 (by decide) dX8_requirePeriod_12 (inL hL (ty6_0 t_8) (by decide)) (FW4 hL (ty6_0 t_8)) rfl ?_
    refine j_icmp_lt X (tgt := 29) dX8_requirePeriod_15 (by decide) (fun h2 => ?_) (fun h2 => ?_)
    · replace hR := (if_pos h2).symm.trans hR
      exact q_vret X hQ dX8_requirePeriod_29 rfl ⟨(by decide), (by decide)⟩ ⟨rfl, hR.symm, rfl, rfl⟩
    · replace hR := (if_neg h2).symm.trans hR
      exact q_throwSW X hQ (i := 15) rfl dX8_requirePeriod_18 dX8_requirePeriod_21 dX8_requirePeriod_22 dX8_requirePeriod_25 dX8_requirePeriod_28 ax_IOE_X8_205_209 (by decide) (Nat.le_of_ble_eq_true rfl) ⟨(by decide), (by decide)⟩ ⟨(by decide), (by decide)⟩ (by subst hR; exact ⟨(by decide), rfl⟩)
def f_X8_period (p0 : Int32) (p1 : Int32) (a : Mem) : Option (Except Nat Int32) := bXc (f_X8_requirePeriod p0 a) <| if p1 < 0 then (some (.error 2)) else (if p1 < (5 : Int32) then (bT (f_X4_number (8 + 1) p0 p1 a) fun x6 => some (.ok x6)) else (some (.error 2)))
set_option maxRecDepth 100000 in
set_option maxHeartbeats 4000000 in
theorem m_X8_period {l : Launch} (hl : l.stackTraces = false) {G : GG} {L : List Nat} (hL : LOK L) {a b c : Mem} {p0 : Int32} {p1 : Int32} {R : Except Nat Int32} (hR : f_X8_period p0 p1 a = some R) : Ct l G yX8_period (.code yX8_period cX8_period 3 (some .int)) 7 121 2 12 [.ref (ad L 0), .int p0, .int p1] L (FW G L a b c) (fun E => ∃ n, R = .error n ∧ E = exN n) (stay L (fun r f1 => ∃ v, R = .ok v ∧ f1 = (FW G L a b c) ∧ r = some (.int v))) := by
  refine Ct.ofq (own := RX8) hl rfl (by decide) [some (.ref (ad L 0)), some (.int p0), some (.int p1)] rfl (Nat.le_of_ble_eq_true rfl) ?_
  intro p e s m below meth c9 A ar Q hQ X
  unfold f_X8_period at hR
  refine j_aload_n X (i := 0) dX8_period_0 rfl rfl ?_
  refine j_iload_n X (i := 1) dX8_period_1 rfl rfl ?_
  refine j_callV1 X 8 (m_X8_requirePeriod hl hL rfl) ml_X8_157 im_yX8_requirePeriod se_yX8_requirePeriod in_X8 cd_yX8_requirePeriod hy_yX8_requirePeriod dX8_period_2 rfl (inL hL t_0 (by decide)) (FW8 hL t_0) ⟨(by decide), (by decide)⟩ ⟨(by decide), (by decide)⟩ (Nat.le_of_ble_eq_true rfl) (fun E hE => ?_) (fun r9 L9 f9 h9 => ?_)
  · rcases bXc_inv hR with ⟨h0, -⟩ | ⟨-, hR⟩
    · exact absurd h0 hE.1
    · exact qx_out X hQ ⟨(by decide), (by decide)⟩ ⟨_, hR, hE.2⟩
  · obtain ⟨h91, h2, h92, h93⟩ := h9
    subst r9
    subst f9
    subst L9
    replace hR := bXc_inv0 h2 hR
    try dsimp only [Option.toList, List.cons_append, List.nil_append, List.append]
    refine j_iload_n X (i := 2) dX8_period_5 rfl rfl ?_
    refine j_if_lt X (tgt := 14) dX8_period_6 (by decide) (fun h3 => ?_) (fun h3 => ?_)
    · replace hR := (if_pos h3).symm.trans hR
      exact q_throwS X hQ (i := 14) rfl dX8_period_14 dX8_period_17 dX8_period_18 dX8_period_20 dX8_period_23 ax_IAE_X8_66_70 (by decide) (Nat.le_of_ble_eq_true rfl) ⟨(by decide), (by decide)⟩ ⟨(by decide), (by decide)⟩ ⟨_, (Option.some.inj hR).symm, rfl⟩
    · replace hR := (if_neg h3).symm.trans hR
      refine j_iload_n X (i := 2) dX8_period_9 rfl rfl ?_
      refine j_iconst X (5) dX8_period_10 (by decide) ?_
      refine j_icmp_lt X (tgt := 24) dX8_period_11 (by decide) (fun h4 => ?_) (fun h4 => ?_)
      · replace hR := (if_pos h4).symm.trans hR
        refine j_aload_n X (i := 0) dX8_period_24 rfl rfl ?_
        refine j_getf X 8 3 rfl cw_X8 fl_X8_31 (by decide) dX8_period_25 (inL hL t_0 (by decide)) (FW8 hL t_0) rfl ?_
        refine j_getf X 6 0 rfl cw_X6 fl_X8_105 (by decide) dX8_period_28 (inL hL t_8 (by decide)) (FW6 hL t_8) rfl ?_
        refine j_iload_n X (i := 1) dX8_period_31 rfl rfl ?_
        refine j_iload_n X (i := 2) dX8_period_32 rfl rfl ?_
        obtain ⟨x6, h5, hR⟩ := bT_inv hR
        refine j_callV2 X 4 (m_X4_number hl hL (ty6_0 t_8) h5) ml_X8_160 im_yX4_number se_yX4_number in_X4 cd_yX4_number hy_yX4_number dX8_period_33 rfl (inL hL (ty6_0 t_8) (by decide)) (FW4 hL (ty6_0 t_8)) ⟨(by decide), (by decide)⟩ ⟨(by decide), (by decide)⟩ (Nat.le_of_ble_eq_true rfl) (fun _ h => h.elim) (fun r9 L9 f9 h9 => ?_)
        obtain ⟨h91, h92, h93⟩ := h9
        subst r9
        subst f9
        subst L9
        dsimp only [Option.toList, List.cons_append, List.nil_append, List.append]
        exact q_iret X hQ dX8_period_36 rfl ⟨(by decide), (by decide)⟩ ⟨rfl, _, (Option.some.inj hR).symm, rfl, rfl⟩
      · replace hR := (if_neg h4).symm.trans hR
        exact q_throwS X hQ (i := 14) rfl dX8_period_14 dX8_period_17 dX8_period_18 dX8_period_20 dX8_period_23 ax_IAE_X8_66_70 (by decide) (Nat.le_of_ble_eq_true rfl) ⟨(by decide), (by decide)⟩ ⟨(by decide), (by decide)⟩ ⟨_, (Option.some.inj hR).symm, rfl⟩
def f_X8_requireSide (p0 : Int32) (a : Mem) : Nat := if p0 < 0 then (3) else (if p0 < (2 : Int32) then (0) else (3))
set_option maxRecDepth 100000 in
set_option maxHeartbeats 4000000 in
theorem m_X8_requireSide {l : Launch} (hl : l.stackTraces = false) {G : GG} {L : List Nat} (hL : LOK L) {a b c : Mem} {p0 : Int32} {n : Nat} (hR : f_X8_requireSide p0 a = n) : Ct l G yX8_requireSide (.code yX8_requireSide cX8_requireSide 2 none) 6 100 1 6 [.ref (ad L 0), .int p0] L (FW G L a b c) (fun E => n ≠ 0 ∧ E = exN n) (stay L (fun r f1 => n = 0 ∧ f1 = (FW G L a b c) ∧ r = none)) := by
  refine Ct.ofq (own := RX8) hl rfl (by decide) [some (.ref (ad L 0)), some (.int p0)] rfl (Nat.le_of_ble_eq_true rfl) ?_
  intro p e s m below meth c9 A ar Q hQ X
  unfold f_X8_requireSide at hR
  refine j_iload_n X (i := 1) dX8_requireSide_0 rfl rfl ?_
  refine j_if_lt X (tgt := 9) dX8_requireSide_1 (by decide) (fun h1 => ?_) (fun h1 => ?_)
  · replace hR := (if_pos h1).symm.trans hR
    exact q_throwSW X hQ (i := 16) rfl dX8_requireSide_9 dX8_requireSide_12 dX8_requireSide_13 dX8_requireSide_16 dX8_requireSide_19 ax_IOE_X8_205_209 (by decide) (Nat.le_of_ble_eq_true rfl) ⟨(by decide), (by decide)⟩ ⟨(by decide), (by decide)⟩ (by subst hR; exact ⟨(by decide), rfl⟩)
  · replace hR := (if_neg h1).symm.trans hR
    refine j_iload_n X (i := 1) dX8_requireSide_4 rfl rfl ?_
    refine j_iconst X (2) dX8_requireSide_5 (by decide) ?_
    refine j_icmp_lt X (tgt := 20) dX8_requireSide_6 (by decide) (fun h2 => ?_) (fun h2 => ?_)
    · replace hR := (if_pos h2).symm.trans hR
      exact q_vret X hQ dX8_requireSide_20 rfl ⟨(by decide), (by decide)⟩ ⟨rfl, hR.symm, rfl, rfl⟩
    · replace hR := (if_neg h2).symm.trans hR
      exact q_throwSW X hQ (i := 16) rfl dX8_requireSide_9 dX8_requireSide_12 dX8_requireSide_13 dX8_requireSide_16 dX8_requireSide_19 ax_IOE_X8_205_209 (by decide) (Nat.le_of_ble_eq_true rfl) ⟨(by decide), (by decide)⟩ ⟨(by decide), (by decide)⟩ (by subst hR; exact ⟨(by decide), rfl⟩)
def f_X8_side (p0 : Int32) (p1 : Int32) (a : Mem) : Option (Except Nat Int32) := bXc (f_X8_requireSide p0 a) <| bT (f_X6_sideOf 8 p0 a) fun k4 => if p1 = (0 : Int32) then (some (.ok (a k4 1))) else if p1 = (1 : Int32) then (some (.ok (a k4 3))) else if p1 = (2 : Int32) then (some (.ok (a k4 2))) else if p1 = (3 : Int32) then (some (.ok (a k4 4))) else if p1 = (4 : Int32) then (some (.ok (a k4 5))) else if p1 = (5 : Int32) then (if (nb (a k4 6)) = 0 then (some (.ok (0 : Int32))) else (some (.ok (1 : Int32)))) else if p1 = (6 : Int32) then (some (.ok (a k4 7))) else if p1 = (7 : Int32) then (some (.ok (a k4 8))) else if p1 = (8 : Int32) then (if (nb (a k4 9)) = 0 then (some (.ok (0 : Int32))) else (some (.ok (1 : Int32)))) else if p1 = (9 : Int32) then (if (nb (a k4 10)) = 0 then (some (.ok (0 : Int32))) else (some (.ok (1 : Int32)))) else if p1 = (10 : Int32) then (some (.ok (a k4 11))) else if p1 = (11 : Int32) then (bT (f_X5_movesToPeriodEnd k4 (8 + 1) a) fun x22 => some (.ok x22)) else (some (.error 2))
set_option maxRecDepth 100000 in
set_option maxHeartbeats 4000000 in
theorem m_X8_side {l : Launch} (hl : l.stackTraces = false) {G : GG} {L : List Nat} (hL : LOK L) {a b c : Mem} {p0 : Int32} {p1 : Int32} {R : Except Nat Int32} (hR : f_X8_side p0 p1 a = some R) : Ct l G yX8_side (.code yX8_side cX8_side 4 (some .int)) 7 121 2 12 [.ref (ad L 0), .int p0, .int p1] L (FW G L a b c) (fun E => ∃ n, R = .error n ∧ E = exN n) (stay L (fun r f1 => ∃ v, R = .ok v ∧ f1 = (FW G L a b c) ∧ r = some (.int v))) := by
  refine Ct.ofq (own := RX8) hl rfl (by decide) [some (.ref (ad L 0)), some (.int p0), some (.int p1), none] rfl (Nat.le_of_ble_eq_true rfl) ?_
  intro p e s m below meth c9 A ar Q hQ X
  unfold f_X8_side at hR
  refine j_aload_n X (i := 0) dX8_side_0 rfl rfl ?_
  refine j_iload_n X (i := 1) dX8_side_1 rfl rfl ?_
  refine j_callV1 X 8 (m_X8_requireSide hl hL rfl) ml_X8_164 im_yX8_requireSide se_yX8_requireSide in_X8 cd_yX8_requireSide hy_yX8_requireSide dX8_side_2 rfl (inL hL t_0 (by decide)) (FW8 hL t_0) ⟨(by decide), (by decide)⟩ ⟨(by decide), (by decide)⟩ (Nat.le_of_ble_eq_true rfl) (fun E hE => ?_) (fun r9 L9 f9 h9 => ?_)
  · rcases bXc_inv hR with ⟨h0, -⟩ | ⟨-, hR⟩
    · exact absurd h0 hE.1
    · exact qx_out X hQ ⟨(by decide), (by decide)⟩ ⟨_, hR, hE.2⟩
  · obtain ⟨h91, h2, h92, h93⟩ := h9
    subst r9
    subst f9
    subst L9
    replace hR := bXc_inv0 h2 hR
    try dsimp only [Option.toList, List.cons_append, List.nil_append, List.append]
    refine j_aload_n X (i := 0) dX8_side_5 rfl rfl ?_
    refine j_getf X 8 3 rfl cw_X8 fl_X8_31 (by decide) dX8_side_6 (inL hL t_0 (by decide)) (FW8 hL t_0) rfl ?_
    refine j_iload_n X (i := 1) dX8_side_9 rfl rfl ?_
    obtain ⟨k4, h3, hR⟩ := bT_inv hR
    refine j_callV1 X 6 (m_X6_sideOf hl hL t_8 h3) ml_X8_93 im_yX6_sideOf se_yX6_sideOf in_X6 cd_yX6_sideOf hy_yX6_sideOf dX8_side_10 rfl (inL hL t_8 (by decide)) (FW6 hL t_8) ⟨(by decide), (by decide)⟩ ⟨(by decide), (by decide)⟩ (Nat.le_of_ble_eq_true rfl) (fun _ h => h.elim) (fun r9 L9 f9 h9 => ?_)
    obtain ⟨h91, h92, h93⟩ := h9
    subst r9
    subst f9
    subst L9
    dsimp only [Option.toList, List.cons_append, List.nil_append, List.append]
    refine j_astore_n X (i := 3) dX8_side_13 rfl (by decide) (lvOK_s rfl okPrev_int) ?_
    dsimp only [List.set]
    refine j_iload_n X (i := 2) dX8_side_14 rfl rfl ?_
    by_cases h6 : p1 = (0 : Int32)
    · replace hR := (if_pos h6).symm.trans hR
      refine j_tblIn X (tgt := 76) dX8_side_15 (by rw [h6]; decide) (by rw [h6]; decide) (by rw [h6]; rfl) (by decide) ?_
      refine j_aload_n X (i := 3) dX8_side_76 rfl rfl ?_
      refine j_getf X 5 1 rfl cw_X5 fl_X8_97 (by decide) dX8_side_77 (inL hL (h3 ▸ m_X6_sideOf_ty t_8) (by decide)) (FW5 hL (h3 ▸ m_X6_sideOf_ty t_8)) rfl ?_
      exact q_iret X hQ dX8_side_80 rfl ⟨(by decide), (by decide)⟩ ⟨rfl, _, (Option.some.inj hR).symm, rfl, rfl⟩
    · replace hR := (if_neg h6).symm.trans hR
      by_cases h7 : p1 = (1 : Int32)
      · replace hR := (if_pos h7).symm.trans hR
        refine j_tblIn X (tgt := 81) dX8_side_15 (by rw [h7]; decide) (by rw [h7]; decide) (by rw [h7]; rfl) (by decide) ?_
        refine j_aload_n X (i := 3) dX8_side_81 rfl rfl ?_
        refine j_getf X 5 3 rfl cw_X5 fl_X8_142 (by decide) dX8_side_82 (inL hL (h3 ▸ m_X6_sideOf_ty t_8) (by decide)) (FW5 hL (h3 ▸ m_X6_sideOf_ty t_8)) rfl ?_
        exact q_iret X hQ dX8_side_85 rfl ⟨(by decide), (by decide)⟩ ⟨rfl, _, (Option.some.inj hR).symm, rfl, rfl⟩
      · replace hR := (if_neg h7).symm.trans hR
        by_cases h8 : p1 = (2 : Int32)
        · replace hR := (if_pos h8).symm.trans hR
          refine j_tblIn X (tgt := 86) dX8_side_15 (by rw [h8]; decide) (by rw [h8]; decide) (by rw [h8]; rfl) (by decide) ?_
          refine j_aload_n X (i := 3) dX8_side_86 rfl rfl ?_
          refine j_getf X 5 2 rfl cw_X5 fl_X8_167 (by decide) dX8_side_87 (inL hL (h3 ▸ m_X6_sideOf_ty t_8) (by decide)) (FW5 hL (h3 ▸ m_X6_sideOf_ty t_8)) rfl ?_
          exact q_iret X hQ dX8_side_90 rfl ⟨(by decide), (by decide)⟩ ⟨rfl, _, (Option.some.inj hR).symm, rfl, rfl⟩
        · replace hR := (if_neg h8).symm.trans hR
          by_cases h9 : p1 = (3 : Int32)
          · replace hR := (if_pos h9).symm.trans hR
            refine j_tblIn X (tgt := 91) dX8_side_15 (by rw [h9]; decide) (by rw [h9]; decide) (by rw [h9]; rfl) (by decide) ?_
            refine j_aload_n X (i := 3) dX8_side_91 rfl rfl ?_
            refine j_getf X 5 4 rfl cw_X5 fl_X8_170 (by decide) dX8_side_92 (inL hL (h3 ▸ m_X6_sideOf_ty t_8) (by decide)) (FW5 hL (h3 ▸ m_X6_sideOf_ty t_8)) rfl ?_
            exact q_iret X hQ dX8_side_95 rfl ⟨(by decide), (by decide)⟩ ⟨rfl, _, (Option.some.inj hR).symm, rfl, rfl⟩
          · replace hR := (if_neg h9).symm.trans hR
            by_cases h10 : p1 = (4 : Int32)
            · replace hR := (if_pos h10).symm.trans hR
              refine j_tblIn X (tgt := 96) dX8_side_15 (by rw [h10]; decide) (by rw [h10]; decide) (by rw [h10]; rfl) (by decide) ?_
              refine j_aload_n X (i := 3) dX8_side_96 rfl rfl ?_
              refine j_getf X 5 5 rfl cw_X5 fl_X8_173 (by decide) dX8_side_97 (inL hL (h3 ▸ m_X6_sideOf_ty t_8) (by decide)) (FW5 hL (h3 ▸ m_X6_sideOf_ty t_8)) rfl ?_
              exact q_iret X hQ dX8_side_100 rfl ⟨(by decide), (by decide)⟩ ⟨rfl, _, (Option.some.inj hR).symm, rfl, rfl⟩
            · replace hR := (if_neg h10).symm.trans hR
              by_cases h11 : p1 = (5 : Int32)
              · replace hR := (if_pos h11).symm.trans hR
                refine j_tblIn X (tgt := 101) dX8_side_15 (by rw [h11]; decide) (by rw [h11]; decide) (by rw [h11]; rfl) (by decide) ?_
                refine j_aload_n X (i := 3) dX8_side_101 rfl rfl ?_
                refine j_getf X 5 6 rfl cw_X5 fl_X8_174 (by decide) dX8_side_102 (inL hL (h3 ▸ m_X6_sideOf_ty t_8) (by decide)) (FW5 hL (h3 ▸ m_X6_sideOf_ty t_8)) rfl ?_
                refine j_if_eq X (tgt := 112) dX8_side_105 (by decide) (fun h12 => ?_) (fun h12 => ?_)
                · replace hR := (if_pos h12).symm.trans hR
                  refine j_iconst X (0) dX8_side_112 (by decide) ?_
                  exact q_iret X hQ dX8_side_113 rfl ⟨(by decide), (by decide)⟩ ⟨rfl, _, (Option.some.inj hR).symm, rfl, rfl⟩
                · replace hR := (if_neg h12).symm.trans hR
                  refine j_iconst X (1) dX8_side_108 (by decide) ?_
                  refine j_goto X (tgt := 113) dX8_side_109 (by decide) ?_
                  exact q_iret X hQ dX8_side_113 rfl ⟨(by decide), (by decide)⟩ ⟨rfl, _, (Option.some.inj hR).symm, rfl, rfl⟩
              · replace hR := (if_neg h11).symm.trans hR
                by_cases h13 : p1 = (6 : Int32)
                · replace hR := (if_pos h13).symm.trans hR
                  refine j_tblIn X (tgt := 114) dX8_side_15 (by rw [h13]; decide) (by rw [h13]; decide) (by rw [h13]; rfl) (by decide) ?_
                  refine j_aload_n X (i := 3) dX8_side_114 rfl rfl ?_
                  refine j_getf X 5 7 rfl cw_X5 fl_X8_177 (by decide) dX8_side_115 (inL hL (h3 ▸ m_X6_sideOf_ty t_8) (by decide)) (FW5 hL (h3 ▸ m_X6_sideOf_ty t_8)) rfl ?_
                  exact q_iret X hQ dX8_side_118 rfl ⟨(by decide), (by decide)⟩ ⟨rfl, _, (Option.some.inj hR).symm, rfl, rfl⟩
                · replace hR := (if_neg h13).symm.trans hR
                  by_cases h14 : p1 = (7 : Int32)
                  · replace hR := (if_pos h14).symm.trans hR
                    refine j_tblIn X (tgt := 119) dX8_side_15 (by rw [h14]; decide) (by rw [h14]; decide) (by rw [h14]; rfl) (by decide) ?_
                    refine j_aload_n X (i := 3) dX8_side_119 rfl rfl ?_
                    refine j_getf X 5 8 rfl cw_X5 fl_X8_180 (by decide) dX8_side_120 (inL hL (h3 ▸ m_X6_sideOf_ty t_8) (by decide)) (FW5 hL (h3 ▸ m_X6_sideOf_ty t_8)) rfl ?_
                    exact q_iret X hQ dX8_side_123 rfl ⟨(by decide), (by decide)⟩ ⟨rfl, _, (Option.some.inj hR).symm, rfl, rfl⟩
                  · replace hR := (if_neg h14).symm.trans hR
                    by_cases h15 : p1 = (8 : Int32)
                    · replace hR := (if_pos h15).symm.trans hR
                      refine j_tblIn X (tgt := 124) dX8_side_15 (by rw [h15]; decide) (by rw [h15]; decide) (by rw [h15]; rfl) (by decide) ?_
                      refine j_aload_n X (i := 3) dX8_side_124 rfl rfl ?_
                      refine j_getf X 5 9 rfl cw_X5 fl_X8_183 (by decide) dX8_side_125 (inL hL (h3 ▸ m_X6_sideOf_ty t_8) (by decide)) (FW5 hL (h3 ▸ m_X6_sideOf_ty t_8)) rfl ?_
                      refine j_if_eq X (tgt := 135) dX8_side_128 (by decide) (fun h16 => ?_) (fun h16 => ?_)
                      · replace hR := (if_pos h16).symm.trans hR
                        refine j_iconst X (0) dX8_side_135 (by decide) ?_
                        exact q_iret X hQ dX8_side_136 rfl ⟨(by decide), (by decide)⟩ ⟨rfl, _, (Option.some.inj hR).symm, rfl, rfl⟩
                      · replace hR := (if_neg h16).symm.trans hR
                        refine j_iconst X (1) dX8_side_131 (by decide) ?_
                        refine j_goto X (tgt := 136) dX8_side_132 (by decide) ?_
                        exact q_iret X hQ dX8_side_136 rfl ⟨(by decide), (by decide)⟩ ⟨rfl, _, (Option.some.inj hR).symm, rfl, rfl⟩
                    · replace hR := (if_neg h15).symm.trans hR
                      by_cases h17 : p1 = (9 : Int32)
                      · replace hR := (if_pos h17).symm.trans hR
                        refine j_tblIn X (tgt := 137) dX8_side_15 (by rw [h17]; decide) (by rw [h17]; decide) (by rw [h17]; rfl) (by decide) ?_
                        refine j_aload_n X (i := 3) dX8_side_137 rfl rfl ?_
                        refine j_getf X 5 10 rfl cw_X5 fl_X8_186 (by decide) dX8_side_138 (inL hL (h3 ▸ m_X6_sideOf_ty t_8) (by decide)) (FW5 hL (h3 ▸ m_X6_sideOf_ty t_8)) rfl ?_
                        refine j_if_eq X (tgt := 148) dX8_side_141 (by decide) (fun h18 => ?_) (fun h18 => ?_)
                        · replace hR := (if_pos h18).symm.trans hR
                          refine j_iconst X (0) dX8_side_148 (by decide) ?_
                          exact q_iret X hQ dX8_side_149 rfl ⟨(by decide), (by decide)⟩ ⟨rfl, _, (Option.some.inj hR).symm, rfl, rfl⟩
                        · replace hR := (if_neg h18).symm.trans hR
                          refine j_iconst X (1) dX8_side_144 (by decide) ?_
                          refine j_goto X (tgt := 149) dX8_side_145 (by decide) ?_
                          exact q_iret X hQ dX8_side_149 rfl ⟨(by decide), (by decide)⟩ ⟨rfl, _, (Option.some.inj hR).symm, rfl, rfl⟩
                      · replace hR := (if_neg h17).symm.trans hR
                        by_cases h19 : p1 = (10 : Int32)
                        · replace hR := (if_pos h19).symm.trans hR
                          refine j_tblIn X (tgt := 150) dX8_side_15 (by rw [h19]; decide) (by rw [h19]; decide) (by rw [h19]; rfl) (by decide) ?_
                          refine j_aload_n X (i := 3) dX8_side_150 rfl rfl ?_
                          refine j_getf X 5 11 rfl cw_X5 fl_X8_189 (by decide) dX8_side_151 (inL hL (h3 ▸ m_X6_sideOf_ty t_8) (by decide)) (FW5 hL (h3 ▸ m_X6_sideOf_ty t_8)) rfl ?_
                          exact q_iret X hQ dX8_side_154 rfl ⟨(by decide), (by decide)⟩ ⟨rfl, _, (Option.some.inj hR).symm, rfl, rfl⟩
                        · replace hR := (if_neg h19).symm.trans hR
                          by_cases h20 : p1 = (11 : Int32)
                          · replace hR := (if_pos h20).symm.trans hR
                            refine j_tblIn X (tgt := 155) dX8_side_15 (by rw [h20]; decide) (by rw [h20]; decide) (by rw [h20]; rfl) (by decide) ?_
                            refine j_aload_n X (i := 3) dX8_side_155 rfl rfl ?_
                            refine j_aload_n X (i := 0) dX8_side_156 rfl rfl ?_
                            refine j_getf X 8 3 rfl cw_X8 fl_X8_31 (by decide) dX8_side_157 (inL hL t_0 (by decide)) (FW8 hL t_0) rfl ?_
                            refine j_getf X 6 0 rfl cw_X6 fl_X8_105 (by decide) dX8_side_160 (inL hL t_8 (by decide)) (FW6 hL t_8) rfl ?_
                            obtain ⟨x22, h21, hR⟩ := bT_inv hR
                            refine j_callV1 X 5 (m_X5_movesToPeriodEnd hl hL (h3 ▸ m_X6_sideOf_ty t_8) (ty6_0 t_8) h21) ml_X8_192 im_yX5_movesToPeriodEnd se_yX5_movesToPeriodEnd in_X5 cd_yX5_movesToPeriodEnd hy_yX5_movesToPeriodEnd dX8_side_163 rfl (inL hL (h3 ▸ m_X6_sideOf_ty t_8) (by decide)) (FW5 hL (h3 ▸ m_X6_sideOf_ty t_8)) ⟨(by decide), (by decide)⟩ ⟨(by decide), (by decide)⟩ (Nat.le_of_ble_eq_true rfl) (fun _ h => h.elim) (fun r9 L9 f9 h9 => ?_)
                            obtain ⟨h91, h92, h93⟩ := h9
                            subst r9
                            subst f9
                            subst L9
                            dsimp only [Option.toList, List.cons_append, List.nil_append, List.append]
                            exact q_iret X hQ dX8_side_166 rfl ⟨(by decide), (by decide)⟩ ⟨rfl, _, (Option.some.inj hR).symm, rfl, rfl⟩
                          · replace hR := (if_neg h20).symm.trans hR
                            refine j_tblOut X (tgt := 167) dX8_side_15 (sw_out (lo := 0) (n := 12) (by decide) (by decide) (fun i hi => match i, hi with | 0, _ => h6 | 1, _ => h7 | 2, _ => h8 | 3, _ => h9 | 4, _ => h10 | 5, _ => h11 | 6, _ => h13 | 7, _ => h14 | 8, _ => h15 | 9, _ => h17 | 10, _ => h19 | 11, _ => h20 | _ + 12, h => absurd h (by omega))) (by decide) ?_
                            exact q_throwS X hQ (i := 14) rfl dX8_side_167 dX8_side_170 dX8_side_171 dX8_side_173 dX8_side_176 ax_IAE_X8_66_70 (by decide) (Nat.le_of_ble_eq_true rfl) ⟨(by decide), (by decide)⟩ ⟨(by decide), (by decide)⟩ ⟨_, (Option.some.inj hR).symm, rfl⟩
def f_X8_logged (p0 : Int32) (p1 : Int32) (a : Mem) : Option (Except Nat Int32) := if p0 < 0 then (some (.error 3)) else (if p0 < (a (8 + 3) 1) then (if p1 < 0 then (some (.error 2)) else (if p1 < (6 : Int32) then (bT (f_X1_number (8 + 3) p0 p1 a) fun x6 => some (.ok x6)) else (some (.error 2)))) else (some (.error 3)))
set_option maxRecDepth 100000 in
set_option maxHeartbeats 4000000 in
theorem m_X8_logged {l : Launch} (hl : l.stackTraces = false) {G : GG} {L : List Nat} (hL : LOK L) {a b c : Mem} {p0 : Int32} {p1 : Int32} {R : Except Nat Int32} (hR : f_X8_logged p0 p1 a = some R) : Ct l G yX8_logged (.code yX8_logged cX8_logged 3 (some .int)) 6 100 1 6 [.ref (ad L 0), .int p0, .int p1] L (FW G L a b c) (fun E => ∃ n, R = .error n ∧ E = exN n) (stay L (fun r f1 => ∃ v, R = .ok v ∧ f1 = (FW G L a b c) ∧ r = some (.int v))) := by
  refine Ct.ofq (own := RX8) hl rfl (by decide) [some (.ref (ad L 0)), some (.int p0), some (.int p1)] rfl (Nat.le_of_ble_eq_true rfl) ?_
  intro p e s m below meth c9 A ar Q hQ X
  unfold f_X8_logged at hR
  refine j_iload_n X (i := 1) dX8_logged_0 rfl rfl ?_
  refine j_if_lt X (tgt := 18) dX8_logged_1 (by decide) (fun h1 => ?_) (fun h1 => ?_)
  · replace hR := (if_pos h1).symm.trans hR
    exact q_throwS X hQ (i := 17) rfl dX8_logged_18 dX8_logged_21 dX8_logged_22 dX8_logged_24 dX8_logged_27 ax_IOE_X8_205_209 (by decide) (Nat.le_of_ble_eq_true rfl) ⟨(by decide), (by decide)⟩ ⟨(by decide), (by decide)⟩ ⟨_, (Option.some.inj hR).symm, rfl⟩
  · replace hR := (if_neg h1).symm.trans hR
    refine j_iload_n X (i := 1) dX8_logged_4 rfl rfl ?_
    refine j_aload_n X (i := 0) dX8_logged_5 rfl rfl ?_
    refine j_getf X 8 3 rfl cw_X8 fl_X8_31 (by decide) dX8_logged_6 (inL hL t_0 (by decide)) (FW8 hL t_0) rfl ?_
    refine j_getf X 6 1 rfl cw_X6 fl_X8_196 (by decide) dX8_logged_9 (inL hL t_8 (by decide)) (FW6 hL t_8) rfl ?_
    refine j_getf X 1 1 rfl cw_X1 fl_X8_200 (by decide) dX8_logged_12 (inL hL (ty6_1 t_8) (by decide)) (FW1 hL (ty6_1 t_8)) rfl ?_
    refine j_icmp_lt X (tgt := 28) dX8_logged_15 (by decide) (fun h2 => ?_) (fun h2 => ?_)
    · replace hR := (if_pos h2).symm.trans hR
      refine j_iload_n X (i := 2) dX8_logged_28 rfl rfl ?_
      refine j_if_lt X (tgt := 38) dX8_logged_29 (by decide) (fun h3 => ?_) (fun h3 => ?_)
      · replace hR := (if_pos h3).symm.trans hR
        exact q_throwS X hQ (i := 14) rfl dX8_logged_38 dX8_logged_41 dX8_logged_42 dX8_logged_44 dX8_logged_47 ax_IAE_X8_66_70 (by decide) (Nat.le_of_ble_eq_true rfl) ⟨(by decide), (by decide)⟩ ⟨(by decide), (by decide)⟩ ⟨_, (Option.some.inj hR).symm, rfl⟩
      · replace hR := (if_neg h3).symm.trans hR
        refine j_iload_n X (i := 2) dX8_logged_32 rfl rfl ?_
        refine j_bipush X (6) dX8_logged_33 (by decide) ?_
        refine j_icmp_lt X (tgt := 48) dX8_logged_35 (by decide) (fun h4 => ?_) (fun h4 => ?_)
        · replace hR := (if_pos h4).symm.trans hR
          refine j_aload_n X (i := 0) dX8_logged_48 rfl rfl ?_
          refine j_getf X 8 3 rfl cw_X8 fl_X8_31 (by decide) dX8_logged_49 (inL hL t_0 (by decide)) (FW8 hL t_0) rfl ?_
          refine j_getf X 6 1 rfl cw_X6 fl_X8_196 (by decide) dX8_logged_52 (inL hL t_8 (by decide)) (FW6 hL t_8) rfl ?_
          refine j_iload_n X (i := 1) dX8_logged_55 rfl rfl ?_
          refine j_iload_n X (i := 2) dX8_logged_56 rfl rfl ?_
          obtain ⟨x6, h5, hR⟩ := bT_inv hR
          refine j_callV2 X 1 (m_X1_number hl hL (ty6_1 t_8) h5) ml_X8_210 im_yX1_number se_yX1_number in_X1 cd_yX1_number hy_yX1_number dX8_logged_57 rfl (inL hL (ty6_1 t_8) (by decide)) (FW1 hL (ty6_1 t_8)) ⟨(by decide), (by decide)⟩ ⟨(by decide), (by decide)⟩ (Nat.le_of_ble_eq_true rfl) (fun _ h => h.elim) (fun r9 L9 f9 h9 => ?_)
          obtain ⟨h91, h92, h93⟩ := h9
          subst r9
          subst f9
          subst L9
          dsimp only [Option.toList, List.cons_append, List.nil_append, List.append]
          exact q_iret X hQ dX8_logged_60 rfl ⟨(by decide), (by decide)⟩ ⟨rfl, _, (Option.some.inj hR).symm, rfl, rfl⟩
        · replace hR := (if_neg h4).symm.trans hR
          exact q_throwS X hQ (i := 14) rfl dX8_logged_38 dX8_logged_41 dX8_logged_42 dX8_logged_44 dX8_logged_47 ax_IAE_X8_66_70 (by decide) (Nat.le_of_ble_eq_true rfl) ⟨(by decide), (by decide)⟩ ⟨(by decide), (by decide)⟩ ⟨_, (Option.some.inj hR).symm, rfl⟩
    · replace hR := (if_neg h2).symm.trans hR
      exact q_throwS X hQ (i := 17) rfl dX8_logged_18 dX8_logged_21 dX8_logged_22 dX8_logged_24 dX8_logged_27 ax_IOE_X8_205_209 (by decide) (Nat.le_of_ble_eq_true rfl) ⟨(by decide), (by decide)⟩ ⟨(by decide), (by decide)⟩ ⟨_, (Option.some.inj hR).symm, rfl⟩
def f_X8_flagIn (p0 : Int32) (a : Mem) : Option (Except Nat Int32) := bXc (f_X8_requireSide p0 a) <| bT (f_X6_sideOf 8 p0 a) fun k4 => bT (f_X5_ticksToFall k4 (8 + 1) a) fun x7 => some (.ok x7)
def f_X8_delayLeft (p0 : Int32) (a : Mem) : Option (Except Nat Int32) := bXc (f_X8_requireSide p0 a) <| bT (f_X6_sideOf 8 p0 a) fun k4 => bT (f_X5_freeTicks k4 (8 + 1) a) fun x7 => some (.ok x7)
def f_X8_shown (p0 : Int32) (a : Mem) : Option (Except Nat Int32) := bXc (f_X8_requireSide p0 a) <| bT (f_X6_sideOf 8 p0 a) fun k4 => bT (f_X5_secondsLeft k4 a) fun x7 => some (.ok ((((10000 : Int32) * (x7 / (3600 : Int32))) + ((100 : Int32) * ((x7 / (60 : Int32)) - (x7 / (60 : Int32)) / (60 : Int32) * (60 : Int32)))) + (x7 - x7 / (60 : Int32) * (60 : Int32))))
def f_X8_pace (N : Nat) (p0 : Int32) (a : Mem) : Option (Except Nat (Int32 × Mem)) := bXc (f_X8_requireSide p0 a) <| bT (f_X6_sideOf 8 p0 a) fun k4 => bT (f_X5_movesToPeriodEnd k4 (8 + 1) a) fun x7 => if x7 = (-1 : Int32) then (some (.ok ((-1 : Int32), a))) else (bP2 (f_X7_greatestPace N (8 + 1) k4 x7 a) fun x11 a12 => some (.ok (x11, a12)))
def f_X8_requirePace (p0 : Int32) (a : Mem) : Nat := if p0 < (1 : Int32) then (2) else (if p0 ≤ (9999 : Int32) then (0) else (2))
def f_X8_lasts (N : Nat) (p0 : Int32) (p1 : Int32) (a : Mem) : Option (Except Nat (Int32 × Mem)) := bXc (f_X8_requireSide p0 a) <| bXc (f_X8_requirePace p1 a) <| bT (f_X6_sideOf 8 p0 a) fun k6 => bP2 (f_X7_movesAt N (8 + 1) k6 p1 (0 : Int32) (200 : Int32) a) fun x9 a10 => some (.ok (x9, a10))
def f_X8_longest (N : Nat) (p0 : Int32) (a : Mem) : Option (Except Nat Int32) := bXc (f_X8_requireSide p0 a) <| bP (f_X1_greatestThink N (8 + 3) p0 a) fun x4 => some (.ok x4)
def f_X8_meanThink (N : Nat) (p0 : Int32) (a : Mem) : Option (Except Nat UInt64) := bXc (f_X8_requireSide p0 a) <| bP (f_X1_movesOf N (8 + 3) p0 a) fun x4 => if 0 < x4 then (bP (f_X1_sumOf N (8 + 3) p0 (1 : Int32) a) fun x8 => chkP ((FP.ddiv (FP.i2d x8) (FP.i2d x4)) &&& 0x7fffffffffffffff ≤ 0x7ff0000000000000) <| some (.ok (FP.ddiv (FP.i2d x8) (FP.i2d x4)))) else (some (.ok FP.dconst0))
def f_X8_share (N : Nat) (p0 : Int32) (a : Mem) : Option (Except Nat UInt32) := bXc (f_X8_requireSide p0 a) <| if 0 < (a 8 9) then (bT (f_X6_sideOf 8 p0 a) fun k5 => chkP ((FP.fdiv (FP.i2f (a k5 11)) (FP.i2f (a 8 9))) &&& 0x7fffffff ≤ 0x7f800000) <| some (.ok (FP.fdiv (FP.i2f (a k5 11)) (FP.i2f (a 8 9))))) else (some (.ok FP.fconst0))
def f_X8_requireTicks (p0 : Int32) (a : Mem) : Nat := if p0 < 0 then (2) else (if p0 ≤ (9999 : Int32) then (0) else (2))
def f_X8_leftIn (N : Nat) (p0 : Int32) (p1 : Int32) (a : Mem) : Option (Except Nat (Int32 × Mem)) := bXc (f_X8_requireSide p0 a) <| bXc (f_X8_requireTicks p1 a) <| bT (f_X6_sideOf 8 p0 a) fun k6 => if (a 8 5) = (1 : Int32) then (if p0 = (a 8 6) then (bP2 (f_X7_leftBehind N (8 + 1) k6 p1 a) fun x11 a12 => some (.ok (x11, a12))) else (some (.ok ((a k6 1), a)))) else (some (.ok ((a k6 1), a)))
def f_X8_ends (N : Nat) (p0 : Int32) (p1 : Int32) (a : Mem) : Option (Except Nat (Int32 × Mem)) := bXc (f_X8_requirePace p0 a) <| bXc (f_X8_requirePace p1 a) <| if (a 8 5) = (1 : Int32) then (bP (f_X7_play N 8 p0 p1 (400 : Int32) a) fun a7 => if (a7 17 5) = (-1 : Int32) then (some (.ok ((-1 : Int32), a7))) else (bT (f_X6_resultOfFall 8 (a7 17 5) a7) fun x11 => some (.ok (x11, a7)))) else (some (.ok ((-1 : Int32), a)))
def f_X8_endsAfter (N : Nat) (p0 : Int32) (p1 : Int32) (a : Mem) : Option (Except Nat (Int32 × Mem)) := bXc (f_X8_requirePace p0 a) <| bXc (f_X8_requirePace p1 a) <| if (a 8 5) = (1 : Int32) then (bP (f_X7_play N 8 p0 p1 (400 : Int32) a) fun a7 => some (.ok ((a7 17 3), a7))) else (some (.ok ((-1 : Int32), a)))
def f_X8_movesIn (N : Nat) (p0 : Int32) (p1 : Int32) (p2 : Int32) (a : Mem) : Option (Except Nat (Int32 × Mem)) := bXc (f_X8_requirePace p0 a) <| bXc (f_X8_requirePace p1 a) <| if p2 < (1 : Int32) then (some (.error 2)) else (if p2 ≤ (9999 : Int32) then (if (a 8 5) = (1 : Int32) then (bP (f_X7_playFor N 8 p0 p1 p2 a) fun a9 => some (.ok ((a9 17 3), a9))) else (some (.ok ((-1 : Int32), a)))) else (some (.error 2)))
def f_X8_gained (N : Nat) (p0 : Int32) (a : Mem) : Option (Except Nat Int32) := bXc (f_X8_requireSide p0 a) <| bP (f_X1_sumOf N (8 + 3) p0 (3 : Int32) a) fun x4 => some (.ok x4)
def f_X8_finished (p0 : Int32) (a : Mem) : Option (Except Nat Int32) := bXc (f_X8_requireSide p0 a) <| bT (f_X6_sideOf 8 p0 a) fun k4 => some (.ok (a k4 12))
def f_X8_spent (p0 : Int32) (p1 : Int32) (a : Mem) : Option (Except Nat Int32) := bXc (f_X8_requireSide p0 a) <| bXc (f_X8_requirePeriod p1 a) <| bT (f_X6_sideOf 8 p0 a) fun k6 => bT (atI 5 (a (k6 + 1)) p1) fun x9 => some (.ok x9)
set_option maxRecDepth 100000 in
set_option maxHeartbeats 4000000 in
theorem m_X8_spent {l : Launch} (hl : l.stackTraces = false) {G : GG} {L : List Nat} (hL : LOK L) {a b c : Mem} {p0 : Int32} {p1 : Int32} {R : Except Nat Int32} (hR : f_X8_spent p0 p1 a = some R) : Ct l G yX8_spent (.code yX8_spent cX8_spent 3 (some .int)) 7 121 2 12 [.ref (ad L 0), .int p0, .int p1] L (FW G L a b c) (fun E => ∃ n, R = .error n ∧ E = exN n) (stay L (fun r f1 => ∃ v, R = .ok v ∧ f1 = (FW G L a b c) ∧ r = some (.int v))) := by
  refine Ct.ofq (own := RX8) hl rfl (by decide) [some (.ref (ad L 0)), some (.int p0), some (.int p1)] rfl (Nat.le_of_ble_eq_true rfl) ?_
  intro p e s m below meth c9 A ar Q hQ X
  unfold f_X8_spent at hR
  refine j_aload_n X (i := 0) dX8_spent_0 rfl rfl ?_
  refine j_iload_n X (i := 1) dX8_spent_1 rfl rfl ?_
  refine j_callV1 X 8 (m_X8_requireSide hl hL rfl) ml_X8_164 im_yX8_requireSide se_yX8_requireSide in_X8 cd_yX8_requireSide hy_yX8_requireSide dX8_spent_2 rfl (inL hL t_0 (by decide)) (FW8 hL t_0) ⟨(by decide), (by decide)⟩ ⟨(by decide), (by decide)⟩ (Nat.le_of_ble_eq_true rfl) (fun E hE => ?_) (fun r9 L9 f9 h9 => ?_)
  · rcases bXc_inv hR with ⟨h0, -⟩ | ⟨-, hR⟩
    · exact absurd h0 hE.1
    · exact qx_out X hQ ⟨(by decide), (by decide)⟩ ⟨_, hR, hE.2⟩
  · obtain ⟨h91, h2, h92, h93⟩ := h9
    subst r9
    subst f9
    subst L9
    replace hR := bXc_inv0 h2 hR
    try dsimp only [Option.toList, List.cons_append, List.nil_append, List.append]
    refine j_aload_n X (i := 0) dX8_spent_5 rfl rfl ?_
    refine j_iload_n X (i := 2) dX8_spent_6 rfl rfl ?_
    refine j_callV1 X 8 (m_X8_requirePeriod hl hL rfl) ml_X8_157 im_yX8_requirePeriod se_yX8_requirePeriod in_X8 cd_yX8_requirePeriod hy_yX8_requirePeriod dX8_spent_7 rfl (inL hL t_0 (by decide)) (FW8 hL t_0) ⟨(by decide), (by decide)⟩ ⟨(by decide), (by decide)⟩ (Nat.le_of_ble_eq_true rfl) (fun E hE => ?_) (fun r9 L9 f9 h9 => ?_)
    · rcases bXc_inv hR with ⟨h0, -⟩ | ⟨-, hR⟩
      · exact absurd h0 hE.1
      · exact qx_out X hQ ⟨(by decide), (by decide)⟩ ⟨_, hR, hE.2⟩
    · obtain ⟨h91, h4, h92, h93⟩ := h9
      subst r9
      subst f9
      subst L9
      replace hR := bXc_inv0 h4 hR
      try dsimp only [Option.toList, List.cons_append, List.nil_append, List.append]
      refine j_aload_n X (i := 0) dX8_spent_10 rfl rfl ?_
      refine j_getf X 8 3 rfl cw_X8 fl_X8_31 (by decide) dX8_spent_11 (inL hL t_0 (by decide)) (FW8 hL t_0) rfl ?_
      refine j_iload_n X (i := 1) dX8_spent_14 rfl rfl ?_
      obtain ⟨k6, h5, hR⟩ := bT_inv hR
      refine j_callV1 X 6 (m_X6_sideOf hl hL t_8 h5) ml_X8_93 im_yX6_sideOf se_yX6_sideOf in_X6 cd_yX6_sideOf hy_yX6_sideOf dX8_spent_15 rfl (inL hL t_8 (by decide)) (FW6 hL t_8) ⟨(by decide), (by decide)⟩ ⟨(by decide), (by decide)⟩ (Nat.le_of_ble_eq_true rfl) (fun _ h => h.elim) (fun r9 L9 f9 h9 => ?_)
      obtain ⟨h91, h92, h93⟩ := h9
      subst r9
      subst f9
      subst L9
      dsimp only [Option.toList, List.cons_append, List.nil_append, List.append]
      refine j_getf X 5 0 rfl cw_X5 fl_X8_227 (by decide) dX8_spent_18 (inL hL (h5 ▸ m_X6_sideOf_ty t_8) (by decide)) (FW5 hL (h5 ▸ m_X6_sideOf_ty t_8)) rfl ?_
      refine j_iload_n X (i := 2) dX8_spent_21 rfl rfl ?_
      obtain ⟨x9, h8, hR⟩ := bT_inv hR
      refine j_callS2 X (c_nA_23 hl hL (ty5_0 (h5 ▸ m_X6_sideOf_ty t_8)) h8) ml_X8_231 st_yX8_numberAt in_X8 cd_yX8_numberAt hy_yX8_numberAt dX8_spent_22 ⟨(by decide), (by decide)⟩ ⟨(by decide), (by decide)⟩ (Nat.le_of_ble_eq_true rfl) (fun _ h => h.elim) (fun r9 L9 f9 h9 => ?_)
      obtain ⟨h91, h92, h93⟩ := h9
      subst r9
      subst f9
      subst L9
      dsimp only [Option.toList, List.cons_append, List.nil_append, List.append]
      exact q_iret X hQ dX8_spent_25 rfl ⟨(by decide), (by decide)⟩ ⟨rfl, _, (Option.some.inj hR).symm, rfl, rfl⟩
def f_X8_within (N : Nat) (p0 : Int32) (p1 : Int32) (a : Mem) : Option (Except Nat Int32) := bXc (f_X8_requireSide p0 a) <| bXc (f_X8_requireTicks p1 a) <| bP (f_X1_movesWithin N (8 + 3) p0 p1 a) fun x6 => some (.ok x6)
def f_X8_requirePaceMoves (p0 : Int32) (a : Mem) : Nat := if p0 < (1 : Int32) then (2) else (if p0 ≤ (200 : Int32) then (0) else (2))
def f_X8_paceFor (N : Nat) (p0 : Int32) (p1 : Int32) (a : Mem) : Option (Except Nat (Int32 × Mem)) := bXc (f_X8_requireSide p0 a) <| bXc (f_X8_requirePaceMoves p1 a) <| bT (f_X6_sideOf 8 p0 a) fun k6 => bP2 (f_X7_greatestPace N (8 + 1) k6 p1 a) fun x9 a10 => some (.ok (x9, a10))
def f_X8_needs (N : Nat) (p0 : Int32) (p1 : Int32) (p2 : Int32) (a : Mem) : Option (Except Nat (Int32 × Mem)) := bXc (f_X8_requireSide p0 a) <| bXc (f_X8_requirePaceMoves p1 a) <| bXc (f_X8_requirePace p2 a) <| bT (f_X6_sideOf 8 p0 a) fun k8 => bP2 (f_X7_leastMore N (8 + 1) k8 p1 p2 a) fun x11 a12 => some (.ok (x11, a12))
def f_X8_aheadAfter (N : Nat) (p0 : Int32) (p1 : Int32) (p2 : Int32) (a : Mem) : Option (Except Nat (Int32 × Mem)) := bXc (f_X8_requirePace p0 a) <| bXc (f_X8_requirePace p1 a) <| if p2 < 0 then (some (.error 2)) else (if p2 ≤ (400 : Int32) then (if (a 8 5) = (1 : Int32) then (bP (f_X7_play N 8 p0 p1 p2 a) fun a9 => some (.ok (((a9 18 1) - (a9 20 1)), a9))) else (some (.ok ((-1 : Int32), a)))) else (some (.error 2)))
def f_X8_start (a : Mem) : Option (Except Nat (Int32 × Mem)) := if (a 8 5) = 0 then (bT (f_X8_remember a) fun a3 => bT (up2 a3 8 5 (1 : Int32)) fun a5 => some (.ok ((a5 8 6), a5))) else (some (.error 1))
set_option maxRecDepth 100000 in
set_option maxHeartbeats 4000000 in
theorem m_X8_start {l : Launch} (hl : l.stackTraces = false) {G : GG} {L : List Nat} (hL : LOK L) {a b c : Mem}  {R : Except Nat (Int32 × Mem)} (hR : f_X8_start a = some R) : Ct l G yX8_start (.code yX8_start cX8_start 1 (some .int)) 6 144 1 6 [.ref (ad L 0)] L (FW G L a b c) (fun E => ∃ n, R = .error n ∧ E = exN n) (stay L (fun r f1 => ∃ v a', R = .ok (v, a') ∧ f1 = (FW G L a' b c) ∧ r = some (.int v))) := by
  refine Ct.ofq (own := RX8) hl rfl (by decide) [some (.ref (ad L 0))] rfl (Nat.le_of_ble_eq_true rfl) ?_
  intro p e s m below meth c9 A ar Q hQ X
  unfold f_X8_start at hR
  refine j_aload_n X (i := 0) dX8_start_0 rfl rfl ?_
  refine j_getf X 8 3 rfl cw_X8 fl_X8_31 (by decide) dX8_start_1 (inL hL t_0 (by decide)) (FW8 hL t_0) rfl ?_
  refine j_getf X 6 5 rfl cw_X6 fl_X8_117 (by decide) dX8_start_4 (inL hL t_8 (by decide)) (FW6 hL t_8) rfl ?_
  refine j_if_eq X (tgt := 21) dX8_start_7 (by decide) (fun h1 => ?_) (fun h1 => ?_)
  · replace hR := (if_pos h1).symm.trans hR
    refine j_aload_n X (i := 0) dX8_start_21 rfl rfl ?_
    obtain ⟨a3, h2, hR⟩ := bT_inv hR
    refine j_callV0 X 8 (m_X8_remember hl hL h2) ml_X8_75 im_yX8_remember se_yX8_remember in_X8 cd_yX8_remember hy_yX8_remember dX8_start_22 rfl (inL hL t_0 (by decide)) (FW8 hL t_0) ⟨(by decide), (by decide)⟩ ⟨(by decide), (by decide)⟩ (Nat.le_of_ble_eq_true rfl) (fun _ h => h.elim) (fun r9 L9 f9 h9 => ?_)
    obtain ⟨h91, h92, h93⟩ := h9
    subst r9
    subst f9
    subst L9
    dsimp only [Option.toList, List.cons_append, List.nil_append, List.append]
    refine j_aload_n X (i := 0) dX8_start_25 rfl rfl ?_
    refine j_getf X 8 3 rfl cw_X8 fl_X8_31 (by decide) dX8_start_26 (inL hL t_0 (by decide)) (FW8 hL t_0) rfl ?_
    refine j_iconst X (1) dX8_start_29 (by decide) ?_
    obtain ⟨a5, h6, hR⟩ := bT_inv hR
    refine tp_X6_5 X hL t_8 h6 fl_X8_117 dX8_start_30 ?_
    refine j_aload_n X (i := 0) dX8_start_33 rfl rfl ?_
    refine j_getf X 8 3 rfl cw_X8 fl_X8_31 (by decide) dX8_start_34 (inL hL t_0 (by decide)) (FW8 hL t_0) rfl ?_
    refine j_getf X 6 6 rfl cw_X6 fl_X8_120 (by decide) dX8_start_37 (inL hL t_8 (by decide)) (FW6 hL t_8) rfl ?_
    exact q_iret X hQ dX8_start_40 rfl ⟨(by decide), (by decide)⟩ ⟨rfl, _, _, (Option.some.inj hR).symm, rfl, rfl⟩
  · replace hR := (if_neg h1).symm.trans hR
    exact q_throwSW X hQ (i := 21) rfl dX8_start_10 dX8_start_13 dX8_start_14 dX8_start_17 dX8_start_20 ax_ISE_X8_55_59 (by decide) (Nat.le_of_ble_eq_true rfl) ⟨(by decide), (by decide)⟩ ⟨(by decide), (by decide)⟩ ⟨_, (Option.some.inj hR).symm, rfl⟩
def f_X8_tick (N : Nat) (p0 : Int32) (a : Mem) : Option (Except Nat (Int32 × Mem)) := if p0 < (1 : Int32) then (some (.error 2)) else (if p0 ≤ (9999 : Int32) then (bT (f_X8_remember a) fun a4 => if (a4 8 5) = (1 : Int32) then (bP (f_X6_letRun N 8 p0 a4) fun a11 => bT (f_X6_mover 8 a11) fun k14 => some (.ok ((a11 k14 1), a11))) else (bT (f_X6_mover 8 a4) fun k8 => some (.ok ((a4 k8 1), a4)))) else (some (.error 2)))
set_option maxRecDepth 100000 in
set_option maxHeartbeats 4000000 in
theorem m_X8_tick {l : Launch} (hl : l.stackTraces = false) {G : GG} {L : List Nat} (hL : LOK L) {a b c : Mem} {N : Nat} {p0 : Int32} {R : Except Nat (Int32 × Mem)} (hR : f_X8_tick N p0 a = some R) : Ct l G yX8_tick (.code yX8_tick cX8_tick 2 (some .int)) 6 144 1 6 [.ref (ad L 0), .int p0] L (FW G L a b c) (fun E => ∃ n, R = .error n ∧ E = exN n) (stay L (fun r f1 => ∃ v a', R = .ok (v, a') ∧ f1 = (FW G L a' b c) ∧ r = some (.int v))) := by
  refine Ct.ofq (own := RX8) hl rfl (by decide) [some (.ref (ad L 0)), some (.int p0)] rfl (Nat.le_of_ble_eq_true rfl) ?_
  intro p e s m below meth c9 A ar Q hQ X
  unfold f_X8_tick at hR
  refine j_iload_n X (i := 1) dX8_tick_0 rfl rfl ?_
  refine j_iconst X (1) dX8_tick_1 (by decide) ?_
  refine j_icmp_lt X (tgt := 12) dX8_tick_2 (by decide) (fun h1 => ?_) (fun h1 => ?_)
  · replace hR := (if_pos h1).symm.trans hR
    exact q_throwSW X hQ (i := 19) rfl dX8_tick_12 dX8_tick_15 dX8_tick_16 dX8_tick_19 dX8_tick_22 ax_IAE_X8_66_70 (by decide) (Nat.le_of_ble_eq_true rfl) ⟨(by decide), (by decide)⟩ ⟨(by decide), (by decide)⟩ ⟨_, (Option.some.inj hR).symm, rfl⟩
  · replace hR := (if_neg h1).symm.trans hR
    refine j_iload_n X (i := 1) dX8_tick_5 rfl rfl ?_
    refine j_sipush X (9999) dX8_tick_6 (by decide) ?_
    refine j_icmp_le X (tgt := 23) dX8_tick_9 (by decide) (fun h2 => ?_) (fun h2 => ?_)
    · replace hR := (if_pos h2).symm.trans hR
      refine j_aload_n X (i := 0) dX8_tick_23 rfl rfl ?_
      obtain ⟨a4, h3, hR⟩ := bT_inv hR
      refine j_callV0 X 8 (m_X8_remember hl hL h3) ml_X8_75 im_yX8_remember se_yX8_remember in_X8 cd_yX8_remember hy_yX8_remember dX8_tick_24 rfl (inL hL t_0 (by decide)) (FW8 hL t_0) ⟨(by decide), (by decide)⟩ ⟨(by decide), (by decide)⟩ (Nat.le_of_ble_eq_true rfl) (fun _ h => h.elim) (fun r9 L9 f9 h9 => ?_)
      obtain ⟨h91, h92, h93⟩ := h9
      subst r9
      subst f9
      subst L9
      dsimp only [Option.toList, List.cons_append, List.nil_append, List.append]
      refine j_aload_n X (i := 0) dX8_tick_27 rfl rfl ?_
      refine j_getf X 8 3 rfl cw_X8 fl_X8_31 (by decide) dX8_tick_28 (inL hL t_0 (by decide)) (FW8 hL t_0) rfl ?_
      refine j_getf X 6 5 rfl cw_X6 fl_X8_117 (by decide) dX8_tick_31 (inL hL t_8 (by decide)) (FW6 hL t_8) rfl ?_
      refine j_iconst X (1) dX8_tick_34 (by decide) ?_
      refine j_icmp_ne X (tgt := 46) dX8_tick_35 (by decide) (fun h6 => ?_) (fun h6 => ?_)
      · replace hR := (if_neg h6).symm.trans hR
        refine j_aload_n X (i := 0) dX8_tick_46 rfl rfl ?_
        refine j_getf X 8 3 rfl cw_X8 fl_X8_31 (by decide) dX8_tick_47 (inL hL t_0 (by decide)) (FW8 hL t_0) rfl ?_
        obtain ⟨k8, h7, hR⟩ := bT_inv hR
        refine j_callV0 X 6 (m_X6_mover hl hL t_8 h7) ml_X8_275 im_yX6_mover se_yX6_mover in_X6 cd_yX6_mover hy_yX6_mover dX8_tick_50 rfl (inL hL t_8 (by decide)) (FW6 hL t_8) ⟨(by decide), (by decide)⟩ ⟨(by decide), (by decide)⟩ (Nat.le_of_ble_eq_true rfl) (fun _ h => h.elim) (fun r9 L9 f9 h9 => ?_)
        obtain ⟨h91, h92, h93⟩ := h9
        subst r9
        subst f9
        subst L9
        dsimp only [Option.toList, List.cons_append, List.nil_append, List.append]
        refine j_getf X 5 1 rfl cw_X5 fl_X8_97 (by decide) dX8_tick_53 (inL hL (h7 ▸ m_X6_mover_ty t_8) (by decide)) (FW5 hL (h7 ▸ m_X6_mover_ty t_8)) rfl ?_
        exact q_iret X hQ dX8_tick_56 rfl ⟨(by decide), (by decide)⟩ ⟨rfl, _, _, (Option.some.inj hR).symm, rfl, rfl⟩
      · replace hR := (if_pos h6).symm.trans hR
        refine j_aload_n X (i := 0) dX8_tick_38 rfl rfl ?_
        refine j_getf X 8 3 rfl cw_X8 fl_X8_31 (by decide) dX8_tick_39 (inL hL t_0 (by decide)) (FW8 hL t_0) rfl ?_
        refine j_iload_n X (i := 1) dX8_tick_42 rfl rfl ?_
        obtain ⟨a11, h10, hR⟩ := bP_inv hR
        refine j_callV1 X 6 (m_X6_letRun hl hL t_8 h10) ml_X8_306 im_yX6_letRun se_yX6_letRun in_X6 cd_yX6_letRun hy_yX6_letRun dX8_tick_43 rfl (inL hL t_8 (by decide)) (FW6 hL t_8) ⟨(by decide), (by decide)⟩ ⟨(by decide), (by decide)⟩ (Nat.le_of_ble_eq_true rfl) (fun _ h => h.elim) (fun r9 L9 f9 h9 => ?_)
        obtain ⟨h91, h92, h93⟩ := h9
        subst r9
        subst f9
        subst L9
        dsimp only [Option.toList, List.cons_append, List.nil_append, List.append]
        refine j_aload_n X (i := 0) dX8_tick_46 rfl rfl ?_
        refine j_getf X 8 3 rfl cw_X8 fl_X8_31 (by decide) dX8_tick_47 (inL hL t_0 (by decide)) (FW8 hL t_0) rfl ?_
        obtain ⟨k14, h13, hR⟩ := bT_inv hR
        refine j_callV0 X 6 (m_X6_mover hl hL t_8 h13) ml_X8_275 im_yX6_mover se_yX6_mover in_X6 cd_yX6_mover hy_yX6_mover dX8_tick_50 rfl (inL hL t_8 (by decide)) (FW6 hL t_8) ⟨(by decide), (by decide)⟩ ⟨(by decide), (by decide)⟩ (Nat.le_of_ble_eq_true rfl) (fun _ h => h.elim) (fun r9 L9 f9 h9 => ?_)
        obtain ⟨h91, h92, h93⟩ := h9
        subst r9
        subst f9
        subst L9
        dsimp only [Option.toList, List.cons_append, List.nil_append, List.append]
        refine j_getf X 5 1 rfl cw_X5 fl_X8_97 (by decide) dX8_tick_53 (inL hL (h13 ▸ m_X6_mover_ty t_8) (by decide)) (FW5 hL (h13 ▸ m_X6_mover_ty t_8)) rfl ?_
        exact q_iret X hQ dX8_tick_56 rfl ⟨(by decide), (by decide)⟩ ⟨rfl, _, _, (Option.some.inj hR).symm, rfl, rfl⟩
    · replace hR := (if_neg h2).symm.trans hR
      exact q_throwSW X hQ (i := 19) rfl dX8_tick_12 dX8_tick_15 dX8_tick_16 dX8_tick_19 dX8_tick_22 ax_IAE_X8_66_70 (by decide) (Nat.le_of_ble_eq_true rfl) ⟨(by decide), (by decide)⟩ ⟨(by decide), (by decide)⟩ ⟨_, (Option.some.inj hR).symm, rfl⟩
def f_X8_move (a : Mem) : Option (Except Nat (Int32 × Mem)) := if (a 8 5) = (1 : Int32) then (bT (f_X8_remember a) fun a3 => bT2 (f_X6_makeMove 8 a3) fun x6 a7 => some (.ok (x6, a7))) else (some (.error 1))
set_option maxRecDepth 100000 in
set_option maxHeartbeats 4000000 in
theorem m_X8_move {l : Launch} (hl : l.stackTraces = false) {G : GG} {L : List Nat} (hL : LOK L) {a b c : Mem}  {R : Except Nat (Int32 × Mem)} (hR : f_X8_move a = some R) : Ct l G yX8_move (.code yX8_move cX8_move 1 (some .int)) 6 144 1 6 [.ref (ad L 0)] L (FW G L a b c) (fun E => ∃ n, R = .error n ∧ E = exN n) (stay L (fun r f1 => ∃ v a', R = .ok (v, a') ∧ f1 = (FW G L a' b c) ∧ r = some (.int v))) := by
  refine Ct.ofq (own := RX8) hl rfl (by decide) [some (.ref (ad L 0))] rfl (Nat.le_of_ble_eq_true rfl) ?_
  intro p e s m below meth c9 A ar Q hQ X
  unfold f_X8_move at hR
  refine j_aload_n X (i := 0) dX8_move_0 rfl rfl ?_
  refine j_getf X 8 3 rfl cw_X8 fl_X8_31 (by decide) dX8_move_1 (inL hL t_0 (by decide)) (FW8 hL t_0) rfl ?_
  refine j_getf X 6 5 rfl cw_X6 fl_X8_117 (by decide) dX8_move_4 (inL hL t_8 (by decide)) (FW6 hL t_8) rfl ?_
  refine j_iconst X (1) dX8_move_7 (by decide) ?_
  refine j_icmp_eq X (tgt := 22) dX8_move_8 (by decide) (fun h1 => ?_) (fun h1 => ?_)
  · replace hR := (if_pos h1).symm.trans hR
    refine j_aload_n X (i := 0) dX8_move_22 rfl rfl ?_
    obtain ⟨a3, h2, hR⟩ := bT_inv hR
    refine j_callV0 X 8 (m_X8_remember hl hL h2) ml_X8_75 im_yX8_remember se_yX8_remember in_X8 cd_yX8_remember hy_yX8_remember dX8_move_23 rfl (inL hL t_0 (by decide)) (FW8 hL t_0) ⟨(by decide), (by decide)⟩ ⟨(by decide), (by decide)⟩ (Nat.le_of_ble_eq_true rfl) (fun _ h => h.elim) (fun r9 L9 f9 h9 => ?_)
    obtain ⟨h91, h92, h93⟩ := h9
    subst r9
    subst f9
    subst L9
    dsimp only [Option.toList, List.cons_append, List.nil_append, List.append]
    refine j_aload_n X (i := 0) dX8_move_26 rfl rfl ?_
    refine j_getf X 8 3 rfl cw_X8 fl_X8_31 (by decide) dX8_move_27 (inL hL t_0 (by decide)) (FW8 hL t_0) rfl ?_
    obtain ⟨x6, a7, h5, hR⟩ := bT2_inv hR
    refine j_callV0 X 6 (m_X6_makeMove hl hL t_8 h5) ml_X8_311 im_yX6_makeMove se_yX6_makeMove in_X6 cd_yX6_makeMove hy_yX6_makeMove dX8_move_30 rfl (inL hL t_8 (by decide)) (FW6 hL t_8) ⟨(by decide), (by decide)⟩ ⟨(by decide), (by decide)⟩ (Nat.le_of_ble_eq_true rfl) (fun _ h => h.elim) (fun r9 L9 f9 h9 => ?_)
    obtain ⟨h91, h92, h93⟩ := h9
    subst r9
    subst f9
    subst L9
    dsimp only [Option.toList, List.cons_append, List.nil_append, List.append]
    exact q_iret X hQ dX8_move_33 rfl ⟨(by decide), (by decide)⟩ ⟨rfl, _, _, (Option.some.inj hR).symm, rfl, rfl⟩
  · replace hR := (if_neg h1).symm.trans hR
    exact q_throwSW X hQ (i := 22) rfl dX8_move_11 dX8_move_14 dX8_move_15 dX8_move_18 dX8_move_21 ax_ISE_X8_55_59 (by decide) (Nat.le_of_ble_eq_true rfl) ⟨(by decide), (by decide)⟩ ⟨(by decide), (by decide)⟩ ⟨_, (Option.some.inj hR).symm, rfl⟩
def f_X8_pause (a : Mem) : Option (Except Nat (Int32 × Mem)) := if (a 8 5) = (1 : Int32) then (bT (f_X8_remember a) fun a3 => bT (up2 a3 8 5 (2 : Int32)) fun a5 => some (.ok ((a5 8 6), a5))) else (some (.error 1))
set_option maxRecDepth 100000 in
set_option maxHeartbeats 4000000 in
theorem m_X8_pause {l : Launch} (hl : l.stackTraces = false) {G : GG} {L : List Nat} (hL : LOK L) {a b c : Mem}  {R : Except Nat (Int32 × Mem)} (hR : f_X8_pause a = some R) : Ct l G yX8_pause (.code yX8_pause cX8_pause 1 (some .int)) 6 144 1 6 [.ref (ad L 0)] L (FW G L a b c) (fun E => ∃ n, R = .error n ∧ E = exN n) (stay L (fun r f1 => ∃ v a', R = .ok (v, a') ∧ f1 = (FW G L a' b c) ∧ r = some (.int v))) := by
  refine Ct.ofq (own := RX8) hl rfl (by decide) [some (.ref (ad L 0))] rfl (Nat.le_of_ble_eq_true rfl) ?_
  intro p e s m below meth c9 A ar Q hQ X
  unfold f_X8_pause at hR
  refine j_aload_n X (i := 0) dX8_pause_0 rfl rfl ?_
  refine j_getf X 8 3 rfl cw_X8 fl_X8_31 (by decide) dX8_pause_1 (inL hL t_0 (by decide)) (FW8 hL t_0) rfl ?_
  refine j_getf X 6 5 rfl cw_X6 fl_X8_117 (by decide) dX8_pause_4 (inL hL t_8 (by decide)) (FW6 hL t_8) rfl ?_
  refine j_iconst X (1) dX8_pause_7 (by decide) ?_
  refine j_icmp_eq X (tgt := 22) dX8_pause_8 (by decide) (fun h1 => ?_) (fun h1 => ?_)
  · replace hR := (if_pos h1).symm.trans hR
    refine j_aload_n X (i := 0) dX8_pause_22 rfl rfl ?_
    obtain ⟨a3, h2, hR⟩ := bT_inv hR
    refine j_callV0 X 8 (m_X8_remember hl hL h2) ml_X8_75 im_yX8_remember se_yX8_remember in_X8 cd_yX8_remember hy_yX8_remember dX8_pause_23 rfl (inL hL t_0 (by decide)) (FW8 hL t_0) ⟨(by decide), (by decide)⟩ ⟨(by decide), (by decide)⟩ (Nat.le_of_ble_eq_true rfl) (fun _ h => h.elim) (fun r9 L9 f9 h9 => ?_)
    obtain ⟨h91, h92, h93⟩ := h9
    subst r9
    subst f9
    subst L9
    dsimp only [Option.toList, List.cons_append, List.nil_append, List.append]
    refine j_aload_n X (i := 0) dX8_pause_26 rfl rfl ?_
    refine j_getf X 8 3 rfl cw_X8 fl_X8_31 (by decide) dX8_pause_27 (inL hL t_0 (by decide)) (FW8 hL t_0) rfl ?_
    refine j_iconst X (2) dX8_pause_30 (by decide) ?_
    obtain ⟨a5, h6, hR⟩ := bT_inv hR
    refine tp_X6_5 X hL t_8 h6 fl_X8_117 dX8_pause_31 ?_
    refine j_aload_n X (i := 0) dX8_pause_34 rfl rfl ?_
    refine j_getf X 8 3 rfl cw_X8 fl_X8_31 (by decide) dX8_pause_35 (inL hL t_0 (by decide)) (FW8 hL t_0) rfl ?_
    refine j_getf X 6 6 rfl cw_X6 fl_X8_120 (by decide) dX8_pause_38 (inL hL t_8 (by decide)) (FW6 hL t_8) rfl ?_
    exact q_iret X hQ dX8_pause_41 rfl ⟨(by decide), (by decide)⟩ ⟨rfl, _, _, (Option.some.inj hR).symm, rfl, rfl⟩
  · replace hR := (if_neg h1).symm.trans hR
    exact q_throwSW X hQ (i := 22) rfl dX8_pause_11 dX8_pause_14 dX8_pause_15 dX8_pause_18 dX8_pause_21 ax_ISE_X8_55_59 (by decide) (Nat.le_of_ble_eq_true rfl) ⟨(by decide), (by decide)⟩ ⟨(by decide), (by decide)⟩ ⟨_, (Option.some.inj hR).symm, rfl⟩
def f_X8_proceed (a : Mem) : Option (Except Nat (Int32 × Mem)) := if (a 8 5) = (2 : Int32) then (bT (f_X8_remember a) fun a3 => bT (up2 a3 8 5 (1 : Int32)) fun a5 => some (.ok ((a5 8 6), a5))) else (some (.error 1))
set_option maxRecDepth 100000 in
set_option maxHeartbeats 4000000 in
theorem m_X8_proceed {l : Launch} (hl : l.stackTraces = false) {G : GG} {L : List Nat} (hL : LOK L) {a b c : Mem}  {R : Except Nat (Int32 × Mem)} (hR : f_X8_proceed a = some R) : Ct l G yX8_proceed (.code yX8_proceed cX8_proceed 1 (some .int)) 6 144 1 6 [.ref (ad L 0)] L (FW G L a b c) (fun E => ∃ n, R = .error n ∧ E = exN n) (stay L (fun r f1 => ∃ v a', R = .ok (v, a') ∧ f1 = (FW G L a' b c) ∧ r = some (.int v))) := by
  refine Ct.ofq (own := RX8) hl rfl (by decide) [some (.ref (ad L 0))] rfl (Nat.le_of_ble_eq_true rfl) ?_
  intro p e s m below meth c9 A ar Q hQ X
  unfold f_X8_proceed at hR
  refine j_aload_n X (i := 0) dX8_proceed_0 rfl rfl ?_
  refine j_getf X 8 3 rfl cw_X8 fl_X8_31 (by decide) dX8_proceed_1 (inL hL t_0 (by decide)) (FW8 hL t_0) rfl ?_
  refine j_getf X 6 5 rfl cw_X6 fl_X8_117 (by decide) dX8_proceed_4 (inL hL t_8 (by decide)) (FW6 hL t_8) rfl ?_
  refine j_iconst X (2) dX8_proceed_7 (by decide) ?_
  refine j_icmp_eq X (tgt := 22) dX8_proceed_8 (by decide) (fun h1 => ?_) (fun h1 => ?_)
  · replace hR := (if_pos h1).symm.trans hR
    refine j_aload_n X (i := 0) dX8_proceed_22 rfl rfl ?_
    obtain ⟨a3, h2, hR⟩ := bT_inv hR
    refine j_callV0 X 8 (m_X8_remember hl hL h2) ml_X8_75 im_yX8_remember se_yX8_remember in_X8 cd_yX8_remember hy_yX8_remember dX8_proceed_23 rfl (inL hL t_0 (by decide)) (FW8 hL t_0) ⟨(by decide), (by decide)⟩ ⟨(by decide), (by decide)⟩ (Nat.le_of_ble_eq_true rfl) (fun _ h => h.elim) (fun r9 L9 f9 h9 => ?_)
    obtain ⟨h91, h92, h93⟩ := h9
    subst r9
    subst f9
    subst L9
    dsimp only [Option.toList, List.cons_append, List.nil_append, List.append]
    refine j_aload_n X (i := 0) dX8_proceed_26 rfl rfl ?_
    refine j_getf X 8 3 rfl cw_X8 fl_X8_31 (by decide) dX8_proceed_27 (inL hL t_0 (by decide)) (FW8 hL t_0) rfl ?_
    refine j_iconst X (1) dX8_proceed_30 (by decide) ?_
    obtain ⟨a5, h6, hR⟩ := bT_inv hR
    refine tp_X6_5 X hL t_8 h6 fl_X8_117 dX8_proceed_31 ?_
    refine j_aload_n X (i := 0) dX8_proceed_34 rfl rfl ?_
    refine j_getf X 8 3 rfl cw_X8 fl_X8_31 (by decide) dX8_proceed_35 (inL hL t_0 (by decide)) (FW8 hL t_0) rfl ?_
    refine j_getf X 6 6 rfl cw_X6 fl_X8_120 (by decide) dX8_proceed_38 (inL hL t_8 (by decide)) (FW6 hL t_8) rfl ?_
    exact q_iret X hQ dX8_proceed_41 rfl ⟨(by decide), (by decide)⟩ ⟨rfl, _, _, (Option.some.inj hR).symm, rfl, rfl⟩
  · replace hR := (if_neg h1).symm.trans hR
    exact q_throwSW X hQ (i := 23) rfl dX8_proceed_11 dX8_proceed_14 dX8_proceed_15 dX8_proceed_18 dX8_proceed_21 ax_ISE_X8_55_59 (by decide) (Nat.le_of_ble_eq_true rfl) ⟨(by decide), (by decide)⟩ ⟨(by decide), (by decide)⟩ ⟨_, (Option.some.inj hR).symm, rfl⟩
def f_X8_seal (a : Mem) : Option (Except Nat (Int32 × Mem)) := bT (f_X6_ticksToSealing 8 a) fun x2 => if x2 = 0 then (bT (f_X8_remember a) fun a6 => bT (up2 a6 8 5 (3 : Int32)) fun a8 => some (.ok ((a8 8 6), a8))) else (some (.error 1))
set_option maxRecDepth 100000 in
set_option maxHeartbeats 4000000 in
theorem m_X8_seal {l : Launch} (hl : l.stackTraces = false) {G : GG} {L : List Nat} (hL : LOK L) {a b c : Mem}  {R : Except Nat (Int32 × Mem)} (hR : f_X8_seal a = some R) : Ct l G yX8_seal (.code yX8_seal cX8_seal 1 (some .int)) 6 144 1 6 [.ref (ad L 0)] L (FW G L a b c) (fun E => ∃ n, R = .error n ∧ E = exN n) (stay L (fun r f1 => ∃ v a', R = .ok (v, a') ∧ f1 = (FW G L a' b c) ∧ r = some (.int v))) := by
  refine Ct.ofq (own := RX8) hl rfl (by decide) [some (.ref (ad L 0))] rfl (Nat.le_of_ble_eq_true rfl) ?_
  intro p e s m below meth c9 A ar Q hQ X
  unfold f_X8_seal at hR
  refine j_aload_n X (i := 0) dX8_seal_0 rfl rfl ?_
  refine j_getf X 8 3 rfl cw_X8 fl_X8_31 (by decide) dX8_seal_1 (inL hL t_0 (by decide)) (FW8 hL t_0) rfl ?_
  obtain ⟨x2, h1, hR⟩ := bT_inv hR
  refine j_callV0 X 6 (m_X6_ticksToSealing hl hL t_8 h1) ml_X8_279 im_yX6_ticksToSealing se_yX6_ticksToSealing in_X6 cd_yX6_ticksToSealing hy_yX6_ticksToSealing dX8_seal_4 rfl (inL hL t_8 (by decide)) (FW6 hL t_8) ⟨(by decide), (by decide)⟩ ⟨(by decide), (by decide)⟩ (Nat.le_of_ble_eq_true rfl) (fun _ h => h.elim) (fun r9 L9 f9 h9 => ?_)
  obtain ⟨h91, h92, h93⟩ := h9
  subst r9
  subst f9
  subst L9
  dsimp only [Option.toList, List.cons_append, List.nil_append, List.append]
  refine j_if_eq X (tgt := 21) dX8_seal_7 (by decide) (fun h4 => ?_) (fun h4 => ?_)
  · replace hR := (if_pos h4).symm.trans hR
    refine j_aload_n X (i := 0) dX8_seal_21 rfl rfl ?_
    obtain ⟨a6, h5, hR⟩ := bT_inv hR
    refine j_callV0 X 8 (m_X8_remember hl hL h5) ml_X8_75 im_yX8_remember se_yX8_remember in_X8 cd_yX8_remember hy_yX8_remember dX8_seal_22 rfl (inL hL t_0 (by decide)) (FW8 hL t_0) ⟨(by decide), (by decide)⟩ ⟨(by decide), (by decide)⟩ (Nat.le_of_ble_eq_true rfl) (fun _ h => h.elim) (fun r9 L9 f9 h9 => ?_)
    obtain ⟨h91, h92, h93⟩ := h9
    subst r9
    subst f9
    subst L9
    dsimp only [Option.toList, List.cons_append, List.nil_append, List.append]
    refine j_aload_n X (i := 0) dX8_seal_25 rfl rfl ?_
    refine j_getf X 8 3 rfl cw_X8 fl_X8_31 (by decide) dX8_seal_26 (inL hL t_0 (by decide)) (FW8 hL t_0) rfl ?_
    refine j_iconst X (3) dX8_seal_29 (by decide) ?_
    obtain ⟨a8, h9, hR⟩ := bT_inv hR
    refine tp_X6_5 X hL t_8 h9 fl_X8_117 dX8_seal_30 ?_
    refine j_aload_n X (i := 0) dX8_seal_33 rfl rfl ?_
    refine j_getf X 8 3 rfl cw_X8 fl_X8_31 (by decide) dX8_seal_34 (inL hL t_0 (by decide)) (FW8 hL t_0) rfl ?_
    refine j_getf X 6 6 rfl cw_X6 fl_X8_120 (by decide) dX8_seal_37 (inL hL t_8 (by decide)) (FW6 hL t_8) rfl ?_
    exact q_iret X hQ dX8_seal_40 rfl ⟨(by decide), (by decide)⟩ ⟨rfl, _, _, (Option.some.inj hR).symm, rfl, rfl⟩
  · replace hR := (if_neg h4).symm.trans hR
    exact q_throwSW X hQ (i := 24) rfl dX8_seal_10 dX8_seal_13 dX8_seal_14 dX8_seal_17 dX8_seal_20 ax_ISE_X8_55_59 (by decide) (Nat.le_of_ble_eq_true rfl) ⟨(by decide), (by decide)⟩ ⟨(by decide), (by decide)⟩ ⟨_, (Option.some.inj hR).symm, rfl⟩
def f_X8_open (a : Mem) : Option (Except Nat (Int32 × Mem)) := if (a 8 5) = (3 : Int32) then (bT (f_X8_remember a) fun a3 => bT (up2 a3 8 5 (1 : Int32)) fun a5 => bT (up2 a5 8 10 (0 : Int32)) fun a7 => bT2 (f_X6_makeMove 8 a7) fun x10 a11 => some (.ok (x10, a11))) else (some (.error 1))
set_option maxRecDepth 100000 in
set_option maxHeartbeats 4000000 in
theorem m_X8_open {l : Launch} (hl : l.stackTraces = false) {G : GG} {L : List Nat} (hL : LOK L) {a b c : Mem}  {R : Except Nat (Int32 × Mem)} (hR : f_X8_open a = some R) : Ct l G yX8_open (.code yX8_open cX8_open 1 (some .int)) 6 144 1 6 [.ref (ad L 0)] L (FW G L a b c) (fun E => ∃ n, R = .error n ∧ E = exN n) (stay L (fun r f1 => ∃ v a', R = .ok (v, a') ∧ f1 = (FW G L a' b c) ∧ r = some (.int v))) := by
  refine Ct.ofq (own := RX8) hl rfl (by decide) [some (.ref (ad L 0))] rfl (Nat.le_of_ble_eq_true rfl) ?_
  intro p e s m below meth c9 A ar Q hQ X
  unfold f_X8_open at hR
  refine j_aload_n X (i := 0) dX8_open_0 rfl rfl ?_
  refine j_getf X 8 3 rfl cw_X8 fl_X8_31 (by decide) dX8_open_1 (inL hL t_0 (by decide)) (FW8 hL t_0) rfl ?_
  refine j_getf X 6 5 rfl cw_X6 fl_X8_117 (by decide) dX8_open_4 (inL hL t_8 (by decide)) (FW6 hL t_8) rfl ?_
  refine j_iconst X (3) dX8_open_7 (by decide) ?_
  refine j_icmp_eq X (tgt := 22) dX8_open_8 (by decide) (fun h1 => ?_) (fun h1 => ?_)
  · replace hR := (if_pos h1).symm.trans hR
    refine j_aload_n X (i := 0) dX8_open_22 rfl rfl ?_
    obtain ⟨a3, h2, hR⟩ := bT_inv hR
    refine j_callV0 X 8 (m_X8_remember hl hL h2) ml_X8_75 im_yX8_remember se_yX8_remember in_X8 cd_yX8_remember hy_yX8_remember dX8_open_23 rfl (inL hL t_0 (by decide)) (FW8 hL t_0) ⟨(by decide), (by decide)⟩ ⟨(by decide), (by decide)⟩ (Nat.le_of_ble_eq_true rfl) (fun _ h => h.elim) (fun r9 L9 f9 h9 => ?_)
    obtain ⟨h91, h92, h93⟩ := h9
    subst r9
    subst f9
    subst L9
    dsimp only [Option.toList, List.cons_append, List.nil_append, List.append]
    refine j_aload_n X (i := 0) dX8_open_26 rfl rfl ?_
    refine j_getf X 8 3 rfl cw_X8 fl_X8_31 (by decide) dX8_open_27 (inL hL t_0 (by decide)) (FW8 hL t_0) rfl ?_
    refine j_iconst X (1) dX8_open_30 (by decide) ?_
    obtain ⟨a5, h6, hR⟩ := bT_inv hR
    refine tp_X6_5 X hL t_8 h6 fl_X8_117 dX8_open_31 ?_
    refine j_aload_n X (i := 0) dX8_open_34 rfl rfl ?_
    refine j_getf X 8 3 rfl cw_X8 fl_X8_31 (by decide) dX8_open_35 (inL hL t_0 (by decide)) (FW8 hL t_0) rfl ?_
    refine j_iconst X (0) dX8_open_38 (by decide) ?_
    obtain ⟨a7, h8, hR⟩ := bT_inv hR
    refine tp_X6_10 X hL t_8 h8 fl_X8_132 dX8_open_39 ?_
    refine j_aload_n X (i := 0) dX8_open_42 rfl rfl ?_
    refine j_getf X 8 3 rfl cw_X8 fl_X8_31 (by decide) dX8_open_43 (inL hL t_0 (by decide)) (FW8 hL t_0) rfl ?_
    obtain ⟨x10, a11, h9, hR⟩ := bT2_inv hR
    refine j_callV0 X 6 (m_X6_makeMove hl hL t_8 h9) ml_X8_311 im_yX6_makeMove se_yX6_makeMove in_X6 cd_yX6_makeMove hy_yX6_makeMove dX8_open_46 rfl (inL hL t_8 (by decide)) (FW6 hL t_8) ⟨(by decide), (by decide)⟩ ⟨(by decide), (by decide)⟩ (Nat.le_of_ble_eq_true rfl) (fun _ h => h.elim) (fun r9 L9 f9 h9 => ?_)
    obtain ⟨h91, h92, h93⟩ := h9
    subst r9
    subst f9
    subst L9
    dsimp only [Option.toList, List.cons_append, List.nil_append, List.append]
    exact q_iret X hQ dX8_open_49 rfl ⟨(by decide), (by decide)⟩ ⟨rfl, _, _, (Option.some.inj hR).symm, rfl, rfl⟩
  · replace hR := (if_neg h1).symm.trans hR
    exact q_throwSW X hQ (i := 25) rfl dX8_open_11 dX8_open_14 dX8_open_15 dX8_open_18 dX8_open_21 ax_ISE_X8_55_59 (by decide) (Nat.le_of_ble_eq_true rfl) ⟨(by decide), (by decide)⟩ ⟨(by decide), (by decide)⟩ ⟨_, (Option.some.inj hR).symm, rfl⟩
def f_X8_claim (p0 : Int32) (a : Mem) : Option (Except Nat (Int32 × Mem)) := bXc (f_X8_requireSide p0 a) <| if (a 8 5) = (4 : Int32) then (some (.error 1)) else (bT (f_X8_other p0 a) fun x5 => bT (f_X6_sideOf 8 x5 a) fun k8 => if (nb (a k8 9)) = 0 then (some (.error 1)) else (bT (f_X8_remember a) fun a12 => bT (f_X6_sideOf 8 p0 a12) fun k15 => if (nb (a12 k15 9)) = 0 then (bT (f_X8_other p0 a12) fun x19 => bT (f_X6_resultOfFall 8 x19 a12) fun x22 => bT (f_X6_endWith 8 x22 a12) fun a25 => some (.ok ((a25 8 7), a25))) else (bT (f_X6_endWith 8 (2 : Int32) a12) fun a28 => some (.ok ((a28 8 7), a28)))))
set_option maxRecDepth 100000 in
set_option maxHeartbeats 4000000 in
theorem m_X8_claim {l : Launch} (hl : l.stackTraces = false) {G : GG} {L : List Nat} (hL : LOK L) {a b c : Mem} {p0 : Int32} {R : Except Nat (Int32 × Mem)} (hR : f_X8_claim p0 a = some R) : Ct l G yX8_claim (.code yX8_claim cX8_claim 2 (some .int)) 7 144 2 12 [.ref (ad L 0), .int p0] L (FW G L a b c) (fun E => ∃ n, R = .error n ∧ E = exN n) (stay L (fun r f1 => ∃ v a', R = .ok (v, a') ∧ f1 = (FW G L a' b c) ∧ r = some (.int v))) := by
  refine Ct.ofq (own := RX8) hl rfl (by decide) [some (.ref (ad L 0)), some (.int p0)] rfl (Nat.le_of_ble_eq_true rfl) ?_
  intro p e s m below meth c9 A ar Q hQ X
  unfold f_X8_claim at hR
  refine j_aload_n X (i := 0) dX8_claim_0 rfl rfl ?_
  refine j_iload_n X (i := 1) dX8_claim_1 rfl rfl ?_
  refine j_callV1 X 8 (m_X8_requireSide hl hL rfl) ml_X8_164 im_yX8_requireSide se_yX8_requireSide in_X8 cd_yX8_requireSide hy_yX8_requireSide dX8_claim_2 rfl (inL hL t_0 (by decide)) (FW8 hL t_0) ⟨(by decide), (by decide)⟩ ⟨(by decide), (by decide)⟩ (Nat.le_of_ble_eq_true rfl) (fun E hE => ?_) (fun r9 L9 f9 h9 => ?_)
  · rcases bXc_inv hR with ⟨h0, -⟩ | ⟨-, hR⟩
    · exact absurd h0 hE.1
    · exact qx_out X hQ ⟨(by decide), (by decide)⟩ ⟨_, hR, hE.2⟩
  · obtain ⟨h91, h2, h92, h93⟩ := h9
    subst r9
    subst f9
    subst L9
    replace hR := bXc_inv0 h2 hR
    try dsimp only [Option.toList, List.cons_append, List.nil_append, List.append]
    refine j_aload_n X (i := 0) dX8_claim_5 rfl rfl ?_
    refine j_getf X 8 3 rfl cw_X8 fl_X8_31 (by decide) dX8_claim_6 (inL hL t_0 (by decide)) (FW8 hL t_0) rfl ?_
    refine j_getf X 6 5 rfl cw_X6 fl_X8_117 (by decide) dX8_claim_9 (inL hL t_8 (by decide)) (FW6 hL t_8) rfl ?_
    refine j_iconst X (4) dX8_claim_12 (by decide) ?_
    refine j_icmp_eq X (tgt := 33) dX8_claim_13 (by decide) (fun h3 => ?_) (fun h3 => ?_)
    · replace hR := (if_pos h3).symm.trans hR
      exact q_throwSW X hQ (i := 26) rfl dX8_claim_33 dX8_claim_36 dX8_claim_37 dX8_claim_40 dX8_claim_43 ax_ISE_X8_55_59 (by decide) (Nat.le_of_ble_eq_true rfl) ⟨(by decide), (by decide)⟩ ⟨(by decide), (by decide)⟩ ⟨_, (Option.some.inj hR).symm, rfl⟩
    · replace hR := (if_neg h3).symm.trans hR
      refine j_aload_n X (i := 0) dX8_claim_16 rfl rfl ?_
      refine j_getf X 8 3 rfl cw_X8 fl_X8_31 (by decide) dX8_claim_17 (inL hL t_0 (by decide)) (FW8 hL t_0) rfl ?_
      refine j_iload_n X (i := 1) dX8_claim_20 rfl rfl ?_
      obtain ⟨x5, h4, hR⟩ := bT_inv hR
      refine j_callS1 X (m_X8_other hl hL h4) ml_X8_320 st_yX8_other in_X8 cd_yX8_other hy_yX8_other dX8_claim_21 ⟨(by decide), (by decide)⟩ ⟨(by decide), (by decide)⟩ (Nat.le_of_ble_eq_true rfl) (fun _ h => h.elim) (fun r9 L9 f9 h9 => ?_)
      obtain ⟨h91, h92, h93⟩ := h9
      subst r9
      subst f9
      subst L9
      dsimp only [Option.toList, List.cons_append, List.nil_append, List.append]
      obtain ⟨k8, h7, hR⟩ := bT_inv hR
      refine j_callV1 X 6 (m_X6_sideOf hl hL t_8 h7) ml_X8_93 im_yX6_sideOf se_yX6_sideOf in_X6 cd_yX6_sideOf hy_yX6_sideOf dX8_claim_24 rfl (inL hL t_8 (by decide)) (FW6 hL t_8) ⟨(by decide), (by decide)⟩ ⟨(by decide), (by decide)⟩ (Nat.le_of_ble_eq_true rfl) (fun _ h => h.elim) (fun r9 L9 f9 h9 => ?_)
      obtain ⟨h91, h92, h93⟩ := h9
      subst r9
      subst f9
      subst L9
      dsimp only [Option.toList, List.cons_append, List.nil_append, List.append]
      refine j_getf X 5 9 rfl cw_X5 fl_X8_183 (by decide) dX8_claim_27 (inL hL (h7 ▸ m_X6_sideOf_ty t_8) (by decide)) (FW5 hL (h7 ▸ m_X6_sideOf_ty t_8)) rfl ?_
      refine j_if_ne X (tgt := 44) dX8_claim_30 (by decide) (fun h10 => ?_) (fun h10 => ?_)
      · replace hR := (if_neg h10).symm.trans hR
        refine j_aload_n X (i := 0) dX8_claim_44 rfl rfl ?_
        obtain ⟨a12, h11, hR⟩ := bT_inv hR
        refine j_callV0 X 8 (m_X8_remember hl hL h11) ml_X8_75 im_yX8_remember se_yX8_remember in_X8 cd_yX8_remember hy_yX8_remember dX8_claim_45 rfl (inL hL t_0 (by decide)) (FW8 hL t_0) ⟨(by decide), (by decide)⟩ ⟨(by decide), (by decide)⟩ (Nat.le_of_ble_eq_true rfl) (fun _ h => h.elim) (fun r9 L9 f9 h9 => ?_)
        obtain ⟨h91, h92, h93⟩ := h9
        subst r9
        subst f9
        subst L9
        dsimp only [Option.toList, List.cons_append, List.nil_append, List.append]
        refine j_aload_n X (i := 0) dX8_claim_48 rfl rfl ?_
        refine j_getf X 8 3 rfl cw_X8 fl_X8_31 (by decide) dX8_claim_49 (inL hL t_0 (by decide)) (FW8 hL t_0) rfl ?_
        refine j_aload_n X (i := 0) dX8_claim_52 rfl rfl ?_
        refine j_getf X 8 3 rfl cw_X8 fl_X8_31 (by decide) dX8_claim_53 (inL hL t_0 (by decide)) (FW8 hL t_0) rfl ?_
        refine j_iload_n X (i := 1) dX8_claim_56 rfl rfl ?_
        obtain ⟨k15, h14, hR⟩ := bT_inv hR
        refine j_callV1 X 6 (m_X6_sideOf hl hL t_8 h14) ml_X8_93 im_yX6_sideOf se_yX6_sideOf in_X6 cd_yX6_sideOf hy_yX6_sideOf dX8_claim_57 rfl (inL hL t_8 (by decide)) (FW6 hL t_8) ⟨(by decide), (by decide)⟩ ⟨(by decide), (by decide)⟩ (Nat.le_of_ble_eq_true rfl) (fun _ h => h.elim) (fun r9 L9 f9 h9 => ?_)
        obtain ⟨h91, h92, h93⟩ := h9
        subst r9
        subst f9
        subst L9
        dsimp only [Option.toList, List.cons_append, List.nil_append, List.append]
        refine j_getf X 5 9 rfl cw_X5 fl_X8_183 (by decide) dX8_claim_60 (inL hL (h14 ▸ m_X6_sideOf_ty t_8) (by decide)) (FW5 hL (h14 ▸ m_X6_sideOf_ty t_8)) rfl ?_
        refine j_if_eq X (tgt := 70) dX8_claim_63 (by decide) (fun h17 => ?_) (fun h17 => ?_)
        · replace hR := (if_pos h17).symm.trans hR
          refine j_aload_n X (i := 0) dX8_claim_70 rfl rfl ?_
          refine j_getf X 8 3 rfl cw_X8 fl_X8_31 (by decide) dX8_claim_71 (inL hL t_0 (by decide)) (FW8 hL t_0) rfl ?_
          refine j_iload_n X (i := 1) dX8_claim_74 rfl rfl ?_
          obtain ⟨x19, h18, hR⟩ := bT_inv hR
          refine j_callS1 X (m_X8_other hl hL h18) ml_X8_320 st_yX8_other in_X8 cd_yX8_other hy_yX8_other dX8_claim_75 ⟨(by decide), (by decide)⟩ ⟨(by decide), (by decide)⟩ (Nat.le_of_ble_eq_true rfl) (fun _ h => h.elim) (fun r9 L9 f9 h9 => ?_)
          obtain ⟨h91, h92, h93⟩ := h9
          subst r9
          subst f9
          subst L9
          dsimp only [Option.toList, List.cons_append, List.nil_append, List.append]
          obtain ⟨x22, h21, hR⟩ := bT_inv hR
          refine j_callV1 X 6 (m_X6_resultOfFall hl hL t_8 h21) ml_X8_289 im_yX6_resultOfFall se_yX6_resultOfFall in_X6 cd_yX6_resultOfFall hy_yX6_resultOfFall dX8_claim_78 rfl (inL hL t_8 (by decide)) (FW6 hL t_8) ⟨(by decide), (by decide)⟩ ⟨(by decide), (by decide)⟩ (Nat.le_of_ble_eq_true rfl) (fun _ h => h.elim) (fun r9 L9 f9 h9 => ?_)
          obtain ⟨h91, h92, h93⟩ := h9
          subst r9
          subst f9
          subst L9
          dsimp only [Option.toList, List.cons_append, List.nil_append, List.append]
          obtain ⟨a25, h24, hR⟩ := bT_inv hR
          refine j_callV1 X 6 (m_X6_endWith hl hL t_8 h24) ml_X8_325 im_yX6_endWith se_yX6_endWith in_X6 cd_yX6_endWith hy_yX6_endWith dX8_claim_81 rfl (inL hL t_8 (by decide)) (FW6 hL t_8) ⟨(by decide), (by decide)⟩ ⟨(by decide), (by decide)⟩ (Nat.le_of_ble_eq_true rfl) (fun _ h => h.elim) (fun r9 L9 f9 h9 => ?_)
          obtain ⟨h91, h92, h93⟩ := h9
          subst r9
          subst f9
          subst L9
          dsimp only [Option.toList, List.cons_append, List.nil_append, List.append]
          refine j_aload_n X (i := 0) dX8_claim_84 rfl rfl ?_
          refine j_getf X 8 3 rfl cw_X8 fl_X8_31 (by decide) dX8_claim_85 (inL hL t_0 (by decide)) (FW8 hL t_0) rfl ?_
          refine j_getf X 6 7 rfl cw_X6 fl_X8_152 (by decide) dX8_claim_88 (inL hL t_8 (by decide)) (FW6 hL t_8) rfl ?_
          exact q_iret X hQ dX8_claim_91 rfl ⟨(by decide), (by decide)⟩ ⟨rfl, _, _, (Option.some.inj hR).symm, rfl, rfl⟩
        · replace hR := (if_neg h17).symm.trans hR
          refine j_iconst X (2) dX8_claim_66 (by decide) ?_
          refine j_goto X (tgt := 81) dX8_claim_67 (by decide) ?_
          obtain ⟨a28, h27, hR⟩ := bT_inv hR
          refine j_callV1 X 6 (m_X6_endWith hl hL t_8 h27) ml_X8_325 im_yX6_endWith se_yX6_endWith in_X6 cd_yX6_endWith hy_yX6_endWith dX8_claim_81 rfl (inL hL t_8 (by decide)) (FW6 hL t_8) ⟨(by decide), (by decide)⟩ ⟨(by decide), (by decide)⟩ (Nat.le_of_ble_eq_true rfl) (fun _ h => h.elim) (fun r9 L9 f9 h9 => ?_)
          obtain ⟨h91, h92, h93⟩ := h9
          subst r9
          subst f9
          subst L9
          dsimp only [Option.toList, List.cons_append, List.nil_append, List.append]
          refine j_aload_n X (i := 0) dX8_claim_84 rfl rfl ?_
          refine j_getf X 8 3 rfl cw_X8 fl_X8_31 (by decide) dX8_claim_85 (inL hL t_0 (by decide)) (FW8 hL t_0) rfl ?_
          refine j_getf X 6 7 rfl cw_X6 fl_X8_152 (by decide) dX8_claim_88 (inL hL t_8 (by decide)) (FW6 hL t_8) rfl ?_
          exact q_iret X hQ dX8_claim_91 rfl ⟨(by decide), (by decide)⟩ ⟨rfl, _, _, (Option.some.inj hR).symm, rfl, rfl⟩
      · replace hR := (if_pos h10).symm.trans hR
        exact q_throwSW X hQ (i := 26) rfl dX8_claim_33 dX8_claim_36 dX8_claim_37 dX8_claim_40 dX8_claim_43 ax_ISE_X8_55_59 (by decide) (Nat.le_of_ble_eq_true rfl) ⟨(by decide), (by decide)⟩ ⟨(by decide), (by decide)⟩ ⟨_, (Option.some.inj hR).symm, rfl⟩
def f_X8_resign (p0 : Int32) (a : Mem) : Option (Except Nat (Int32 × Mem)) := bXc (f_X8_requireSide p0 a) <| if (a 8 5) = (4 : Int32) then (some (.error 1)) else (bT (f_X8_remember a) fun a5 => bT (f_X8_other p0 a5) fun x8 => bT (f_X6_endWith 8 x8 a5) fun a11 => some (.ok ((a11 8 7), a11)))
def f_X8_give (p0 : Int32) (p1 : Int32) (a : Mem) : Option (Except Nat (Int32 × Mem)) := bXc (f_X8_requireSide p0 a) <| if p1 < (-9999 : Int32) then (some (.error 2)) else (if p1 ≤ (9999 : Int32) then (bT (f_X6_sideOf 8 p0 a) fun k6 => if (a 8 5) = (4 : Int32) then (some (.error 1)) else (if (nb (a k6 9)) = 0 then (if (1 : Int32) ≤ ((a k6 1) + p1) then (bT (f_X8_remember a) fun a12 => bT (up2 a12 k6 1 ((a12 k6 1) + p1)) fun a14 => some (.ok ((a14 k6 1), a14))) else (some (.error 1))) else (some (.error 1)))) else (some (.error 2)))
set_option maxRecDepth 100000 in
set_option maxHeartbeats 4000000 in
theorem m_X8_give {l : Launch} (hl : l.stackTraces = false) {G : GG} {L : List Nat} (hL : LOK L) {a b c : Mem} {p0 : Int32} {p1 : Int32} {R : Except Nat (Int32 × Mem)} (hR : f_X8_give p0 p1 a = some R) : Ct l G yX8_give (.code yX8_give cX8_give 4 (some .int)) 7 144 2 12 [.ref (ad L 0), .int p0, .int p1] L (FW G L a b c) (fun E => ∃ n, R = .error n ∧ E = exN n) (stay L (fun r f1 => ∃ v a', R = .ok (v, a') ∧ f1 = (FW G L a' b c) ∧ r = some (.int v))) := by
  refine Ct.ofq (own := RX8) hl rfl (by decide) [some (.ref (ad L 0)), some (.int p0), some (.int p1), none] rfl (Nat.le_of_ble_eq_true rfl) ?_
  intro p e s m below meth c9 A ar Q hQ X
  unfold f_X8_give at hR
  refine j_aload_n X (i := 0) dX8_give_0 rfl rfl ?_
  refine j_iload_n X (i := 1) dX8_give_1 rfl rfl ?_
  refine j_callV1 X 8 (m_X8_requireSide hl hL rfl) ml_X8_164 im_yX8_requireSide se_yX8_requireSide in_X8 cd_yX8_requireSide hy_yX8_requireSide dX8_give_2 rfl (inL hL t_0 (by decide)) (FW8 hL t_0) ⟨(by decide), (by decide)⟩ ⟨(by decide), (by decide)⟩ (Nat.le_of_ble_eq_true rfl) (fun E hE => ?_) (fun r9 L9 f9 h9 => ?_)
  · rcases bXc_inv hR with ⟨h0, -⟩ | ⟨-, hR⟩
    · exact absurd h0 hE.1
    · exact qx_out X hQ ⟨(by decide), (by decide)⟩ ⟨_, hR, hE.2⟩
  · obtain ⟨h91, h2, h92, h93⟩ := h9
    subst r9
    subst f9
    subst L9
    replace hR := bXc_inv0 h2 hR
    try dsimp only [Option.toList, List.cons_append, List.nil_append, List.append]
    refine j_iload_n X (i := 2) dX8_give_5 rfl rfl ?_
    refine j_sipush X (-9999) dX8_give_6 (by decide) ?_
    refine j_icmp_lt X (tgt := 19) dX8_give_9 (by decide) (fun h3 => ?_) (fun h3 => ?_)
    · replace hR := (if_pos h3).symm.trans hR
      exact q_throwSW X hQ (i := 19) rfl dX8_give_19 dX8_give_22 dX8_give_23 dX8_give_26 dX8_give_29 ax_IAE_X8_66_70 (by decide) (Nat.le_of_ble_eq_true rfl) ⟨(by decide), (by decide)⟩ ⟨(by decide), (by decide)⟩ ⟨_, (Option.some.inj hR).symm, rfl⟩
    · replace hR := (if_neg h3).symm.trans hR
      refine j_iload_n X (i := 2) dX8_give_12 rfl rfl ?_
      refine j_sipush X (9999) dX8_give_13 (by decide) ?_
      refine j_icmp_le X (tgt := 30) dX8_give_16 (by decide) (fun h4 => ?_) (fun h4 => ?_)
      · replace hR := (if_pos h4).symm.trans hR
        refine j_aload_n X (i := 0) dX8_give_30 rfl rfl ?_
        refine j_getf X 8 3 rfl cw_X8 fl_X8_31 (by decide) dX8_give_31 (inL hL t_0 (by decide)) (FW8 hL t_0) rfl ?_
        refine j_iload_n X (i := 1) dX8_give_34 rfl rfl ?_
        obtain ⟨k6, h5, hR⟩ := bT_inv hR
        refine j_callV1 X 6 (m_X6_sideOf hl hL t_8 h5) ml_X8_93 im_yX6_sideOf se_yX6_sideOf in_X6 cd_yX6_sideOf hy_yX6_sideOf dX8_give_35 rfl (inL hL t_8 (by decide)) (FW6 hL t_8) ⟨(by decide), (by decide)⟩ ⟨(by decide), (by decide)⟩ (Nat.le_of_ble_eq_true rfl) (fun _ h => h.elim) (fun r9 L9 f9 h9 => ?_)
        obtain ⟨h91, h92, h93⟩ := h9
        subst r9
        subst f9
        subst L9
        dsimp only [Option.toList, List.cons_append, List.nil_append, List.append]
        refine j_astore_n X (i := 3) dX8_give_38 rfl (by decide) (lvOK_s rfl okPrev_int) ?_
        dsimp only [List.set]
        refine j_aload_n X (i := 0) dX8_give_39 rfl rfl ?_
        refine j_getf X 8 3 rfl cw_X8 fl_X8_31 (by decide) dX8_give_40 (inL hL t_0 (by decide)) (FW8 hL t_0) rfl ?_
        refine j_getf X 6 5 rfl cw_X6 fl_X8_117 (by decide) dX8_give_43 (inL hL t_8 (by decide)) (FW6 hL t_8) rfl ?_
        refine j_iconst X (4) dX8_give_46 (by decide) ?_
        refine j_icmp_eq X (tgt := 67) dX8_give_47 (by decide) (fun h8 => ?_) (fun h8 => ?_)
        · replace hR := (if_pos h8).symm.trans hR
          exact q_throwSW X hQ (i := 28) rfl dX8_give_67 dX8_give_70 dX8_give_71 dX8_give_74 dX8_give_77 ax_ISE_X8_55_59 (by decide) (Nat.le_of_ble_eq_true rfl) ⟨(by decide), (by decide)⟩ ⟨(by decide), (by decide)⟩ ⟨_, (Option.some.inj hR).symm, rfl⟩
        · replace hR := (if_neg h8).symm.trans hR
          refine j_aload_n X (i := 3) dX8_give_50 rfl rfl ?_
          refine j_getf X 5 9 rfl cw_X5 fl_X8_183 (by decide) dX8_give_51 (inL hL (h5 ▸ m_X6_sideOf_ty t_8) (by decide)) (FW5 hL (h5 ▸ m_X6_sideOf_ty t_8)) rfl ?_
          refine j_if_ne X (tgt := 67) dX8_give_54 (by decide) (fun h9 => ?_) (fun h9 => ?_)
          · replace hR := (if_neg h9).symm.trans hR
            exact q_throwSW X hQ (i := 28) rfl dX8_give_67 dX8_give_70 dX8_give_71 dX8_give_74 dX8_give_77 ax_ISE_X8_55_59 (by decide) (Nat.le_of_ble_eq_true rfl) ⟨(by decide), (by decide)⟩ ⟨(by decide), (by decide)⟩ ⟨_, (Option.some.inj hR).symm, rfl⟩
          · replace hR := (if_pos h9).symm.trans hR
            refine j_aload_n X (i := 3) dX8_give_57 rfl rfl ?_
            refine j_getf X 5 1 rfl cw_X5 fl_X8_97 (by decide) dX8_give_58 (inL hL (h5 ▸ m_X6_sideOf_ty t_8) (by decide)) (FW5 hL (h5 ▸ m_X6_sideOf_ty t_8)) rfl ?_
            refine j_iload_n X (i := 2) dX8_give_61 rfl rfl ?_
            refine j_iadd X dX8_give_62 ?_
            refine j_iconst X (1) dX8_give_63 (by decide) ?_
            refine j_icmp_ge X (tgt := 78) dX8_give_64 (by decide) (fun h10 => ?_) (fun h10 => ?_)
            · replace hR := (if_pos h10).symm.trans hR
              refine j_aload_n X (i := 0) dX8_give_78 rfl rfl ?_
              obtain ⟨a12, h11, hR⟩ := bT_inv hR
              refine j_callV0 X 8 (m_X8_remember hl hL h11) ml_X8_75 im_yX8_remember se_yX8_remember in_X8 cd_yX8_remember hy_yX8_remember dX8_give_79 rfl (inL hL t_0 (by decide)) (FW8 hL t_0) ⟨(by decide), (by decide)⟩ ⟨(by decide), (by decide)⟩ (Nat.le_of_ble_eq_true rfl) (fun _ h => h.elim) (fun r9 L9 f9 h9 => ?_)
              obtain ⟨h91, h92, h93⟩ := h9
              subst r9
              subst f9
              subst L9
              dsimp only [Option.toList, List.cons_append, List.nil_append, List.append]
              refine j_aload_n X (i := 3) dX8_give_82 rfl rfl ?_
              refine j_dup X dX8_give_83 rfl ?_
              refine j_getf X 5 1 rfl cw_X5 fl_X8_97 (by decide) dX8_give_84 (inL hL (h5 ▸ m_X6_sideOf_ty t_8) (by decide)) (FW5 hL (h5 ▸ m_X6_sideOf_ty t_8)) rfl ?_
              refine j_iload_n X (i := 2) dX8_give_87 rfl rfl ?_
              refine j_iadd X dX8_give_88 ?_
              obtain ⟨a14, h15, hR⟩ := bT_inv hR
              refine tp_X5_1 X hL (h5 ▸ m_X6_sideOf_ty t_8) h15 fl_X8_97 dX8_give_89 ?_
              refine j_aload_n X (i := 3) dX8_give_92 rfl rfl ?_
              refine j_getf X 5 1 rfl cw_X5 fl_X8_97 (by decide) dX8_give_93 (inL hL (h5 ▸ m_X6_sideOf_ty t_8) (by decide)) (FW5 hL (h5 ▸ m_X6_sideOf_ty t_8)) rfl ?_
              exact q_iret X hQ dX8_give_96 rfl ⟨(by decide), (by decide)⟩ ⟨rfl, _, _, (Option.some.inj hR).symm, rfl, rfl⟩
            · replace hR := (if_neg h10).symm.trans hR
              exact q_throwSW X hQ (i := 28) rfl dX8_give_67 dX8_give_70 dX8_give_71 dX8_give_74 dX8_give_77 ax_ISE_X8_55_59 (by decide) (Nat.le_of_ble_eq_true rfl) ⟨(by decide), (by decide)⟩ ⟨(by decide), (by decide)⟩ ⟨_, (Option.some.inj hR).symm, rfl⟩
      · replace hR := (if_neg h4).symm.trans hR
        exact q_throwSW X hQ (i := 19) rfl dX8_give_19 dX8_give_22 dX8_give_23 dX8_give_26 dX8_give_29 ax_IAE_X8_66_70 (by decide) (Nat.le_of_ble_eq_true rfl) ⟨(by decide), (by decide)⟩ ⟨(by decide), (by decide)⟩ ⟨_, (Option.some.inj hR).symm, rfl⟩
def f_X8_setBare (p0 : Int32) (p1 : Int32) (a : Mem) : Option (Except Nat (Int32 × Mem)) := bXc (f_X8_requireSide p0 a) <| bT (f_X8_remember a) fun a4 => bT (f_X6_sideOf 8 p0 a4) fun k7 => bT (nb (a4 k7 10)) fun x9 => bT (up2 a4 k7 10 p1) fun a11 => some (.ok (x9, a11))
set_option maxRecDepth 100000 in
set_option maxHeartbeats 4000000 in
theorem m_X8_setBare {l : Launch} (hl : l.stackTraces = false) {G : GG} {L : List Nat} (hL : LOK L) {a b c : Mem} {p0 : Int32} {p1 : Int32} (hB1 : isB p1) {R : Except Nat (Int32 × Mem)} (hR : f_X8_setBare p0 p1 a = some R) : Ct l G yX8_setBare (.code yX8_setBare cX8_setBare 5 (some .boolean)) 7 144 1 6 [.ref (ad L 0), .int p0, .int p1] L (FW G L a b c) (fun E => ∃ n, R = .error n ∧ E = exN n) (stay L (fun r f1 => ∃ v a', R = .ok (v, a') ∧ f1 = (FW G L a' b c) ∧ r = some (.int v) ∧ isB v)) := by
  refine Ct.ofq (own := RX8) hl rfl (by decide) [some (.ref (ad L 0)), some (.int p0), some (.int p1), none, none] rfl (Nat.le_of_ble_eq_true rfl) ?_
  intro p e s m below meth c9 A ar Q hQ X
  unfold f_X8_setBare at hR
  refine j_aload_n X (i := 0) dX8_setBare_0 rfl rfl ?_
  refine j_iload_n X (i := 1) dX8_setBare_1 rfl rfl ?_
  refine j_callV1 X 8 (m_X8_requireSide hl hL rfl) ml_X8_164 im_yX8_requireSide se_yX8_requireSide in_X8 cd_yX8_requireSide hy_yX8_requireSide dX8_setBare_2 rfl (inL hL t_0 (by decide)) (FW8 hL t_0) ⟨(by decide), (by decide)⟩ ⟨(by decide), (by decide)⟩ (Nat.le_of_ble_eq_true rfl) (fun E hE => ?_) (fun r9 L9 f9 h9 => ?_)
  · rcases bXc_inv hR with ⟨h0, -⟩ | ⟨-, hR⟩
    · exact absurd h0 hE.1
    · exact qx_out X hQ ⟨(by decide), (by decide)⟩ ⟨_, hR, hE.2⟩
  · obtain ⟨h91, h2, h92, h93⟩ := h9
    subst r9
    subst f9
    subst L9
    replace hR := bXc_inv0 h2 hR
    try dsimp only [Option.toList, List.cons_append, List.nil_append, List.append]
    refine j_aload_n X (i := 0) dX8_setBare_5 rfl rfl ?_
    obtain ⟨a4, h3, hR⟩ := bT_inv hR
    refine j_callV0 X 8 (m_X8_remember hl hL h3) ml_X8_75 im_yX8_remember se_yX8_remember in_X8 cd_yX8_remember hy_yX8_remember dX8_setBare_6 rfl (inL hL t_0 (by decide)) (FW8 hL t_0) ⟨(by decide), (by decide)⟩ ⟨(by decide), (by decide)⟩ (Nat.le_of_ble_eq_true rfl) (fun _ h => h.elim) (fun r9 L9 f9 h9 => ?_)
    obtain ⟨h91, h92, h93⟩ := h9
    subst r9
    subst f9
    subst L9
    dsimp only [Option.toList, List.cons_append, List.nil_append, List.append]
    refine j_aload_n X (i := 0) dX8_setBare_9 rfl rfl ?_
    refine j_getf X 8 3 rfl cw_X8 fl_X8_31 (by decide) dX8_setBare_10 (inL hL t_0 (by decide)) (FW8 hL t_0) rfl ?_
    refine j_iload_n X (i := 1) dX8_setBare_13 rfl rfl ?_
    obtain ⟨k7, h6, hR⟩ := bT_inv hR
    refine j_callV1 X 6 (m_X6_sideOf hl hL t_8 h6) ml_X8_93 im_yX6_sideOf se_yX6_sideOf in_X6 cd_yX6_sideOf hy_yX6_sideOf dX8_setBare_14 rfl (inL hL t_8 (by decide)) (FW6 hL t_8) ⟨(by decide), (by decide)⟩ ⟨(by decide), (by decide)⟩ (Nat.le_of_ble_eq_true rfl) (fun _ h => h.elim) (fun r9 L9 f9 h9 => ?_)
    obtain ⟨h91, h92, h93⟩ := h9
    subst r9
    subst f9
    subst L9
    dsimp only [Option.toList, List.cons_append, List.nil_append, List.append]
    refine j_astore_n X (i := 3) dX8_setBare_17 rfl (by decide) (lvOK_s rfl okPrev_int) ?_
    dsimp only [List.set]
    refine j_aload_n X (i := 3) dX8_setBare_18 rfl rfl ?_
    refine j_getf X 5 10 rfl cw_X5 fl_X8_186 (by decide) dX8_setBare_19 (inL hL (h6 ▸ m_X6_sideOf_ty t_8) (by decide)) (FW5 hL (h6 ▸ m_X6_sideOf_ty t_8)) rfl ?_
    obtain ⟨x9, h10, hR⟩ := bT_inv hR
    refine J.eqi h10 ?_
    refine j_istore X dX8_setBare_22 (by decide) (lvOK_s rfl okPrev_ref) ?_
    dsimp only [List.set]
    refine j_aload_n X (i := 3) dX8_setBare_24 rfl rfl ?_
    refine j_iload_n X (i := 2) dX8_setBare_25 rfl rfl ?_
    obtain ⟨a11, h12, hR⟩ := bT_inv hR
    refine tp_X5_10 X hL (h6 ▸ m_X6_sideOf_ty t_8) hB1 h12 fl_X8_186 dX8_setBare_26 ?_
    refine j_iload X dX8_setBare_29 rfl ?_
    exact q_zret X hQ dX8_setBare_31 rfl (nar_B (h10 ▸ nb_B)) ⟨(by decide), (by decide)⟩ ⟨rfl, _, _, (Option.some.inj hR).symm, rfl, rfl, (h10 ▸ nb_B)⟩
def f_X8_setPeriod (p0 : Int32) (p1 : Int32) (p2 : Int32) (a : Mem) : Option (Except Nat (Int32 × Mem)) := bXc (f_X8_requirePeriod p0 a) <| if p1 < (2 : Int32) then (some (.error 2)) else (if (4 : Int32) < p1 then (some (.error 2)) else (if p2 < 0 then (some (.error 2)) else (if p2 ≤ (999 : Int32) then (bT (f_X8_remember a) fun a8 => bT (f_X4_number (8 + 1) p0 p1 a8) fun x11 => bT (f_X4_setNumber (8 + 1) p0 p1 p2 a8) fun a14 => some (.ok (x11, a14))) else (some (.error 2)))))
set_option maxRecDepth 100000 in
set_option maxHeartbeats 4000000 in
theorem m_X8_setPeriod {l : Launch} (hl : l.stackTraces = false) {G : GG} {L : List Nat} (hL : LOK L) {a b c : Mem} {p0 : Int32} {p1 : Int32} {p2 : Int32} {R : Except Nat (Int32 × Mem)} (hR : f_X8_setPeriod p0 p1 p2 a = some R) : Ct l G yX8_setPeriod (.code yX8_setPeriod cX8_setPeriod 5 (some .int)) 7 144 2 12 [.ref (ad L 0), .int p0, .int p1, .int p2] L (FW G L a b c) (fun E => ∃ n, R = .error n ∧ E = exN n) (stay L (fun r f1 => ∃ v a', R = .ok (v, a') ∧ f1 = (FW G L a' b c) ∧ r = some (.int v))) := by
  refine Ct.ofq (own := RX8) hl rfl (by decide) [some (.ref (ad L 0)), some (.int p0), some (.int p1), some (.int p2), none] rfl (Nat.le_of_ble_eq_true rfl) ?_
  intro p e s m below meth c9 A ar Q hQ X
  unfold f_X8_setPeriod at hR
  refine j_aload_n X (i := 0) dX8_setPeriod_0 rfl rfl ?_
  refine j_iload_n X (i := 1) dX8_setPeriod_1 rfl rfl ?_
  refine j_callV1 X 8 (m_X8_requirePeriod hl hL rfl) ml_X8_157 im_yX8_requirePeriod se_yX8_requirePeriod in_X8 cd_yX8_requirePeriod hy_yX8_requirePeriod dX8_setPeriod_2 rfl (inL hL t_0 (by decide)) (FW8 hL t_0) ⟨(by decide), (by decide)⟩ ⟨(by decide), (by decide)⟩ (Nat.le_of_ble_eq_true rfl) (fun E hE => ?_) (fun r9 L9 f9 h9 => ?_)
  · rcases bXc_inv hR with ⟨h0, -⟩ | ⟨-, hR⟩
    · exact absurd h0 hE.1
    · exact qx_out X hQ ⟨(by decide), (by decide)⟩ ⟨_, hR, hE.2⟩
  · obtain ⟨h91, h2, h92, h93⟩ := h9
    subst r9
    subst f9
    subst L9
    replace hR := bXc_inv0 h2 hR
    try dsimp only [Option.toList, List.cons_append, List.nil_append, List.append]
    refine j_iload_n X (i := 2) dX8_setPeriod_5 rfl rfl ?_
    refine j_iconst X (2) dX8_setPeriod_6 (by decide) ?_
    refine j_icmp_lt X (tgt := 26) dX8_setPeriod_7 (by decide) (fun h3 => ?_) (fun h3 => ?_)
    · replace hR := (if_pos h3).symm.trans hR
      exact q_throwSW X hQ (i := 29) rfl dX8_setPeriod_26 dX8_setPeriod_29 dX8_setPeriod_30 dX8_setPeriod_33 dX8_setPeriod_36 ax_IAE_X8_66_70 (by decide) (Nat.le_of_ble_eq_true rfl) ⟨(by decide), (by decide)⟩ ⟨(by decide), (by decide)⟩ ⟨_, (Option.some.inj hR).symm, rfl⟩
    · replace hR := (if_neg h3).symm.trans hR
      refine j_iload_n X (i := 2) dX8_setPeriod_10 rfl rfl ?_
      refine j_iconst X (4) dX8_setPeriod_11 (by decide) ?_
      refine j_icmp_gt X (tgt := 26) dX8_setPeriod_12 (by decide) (fun h4 => ?_) (fun h4 => ?_)
      · replace hR := (if_pos h4).symm.trans hR
        exact q_throwSW X hQ (i := 29) rfl dX8_setPeriod_26 dX8_setPeriod_29 dX8_setPeriod_30 dX8_setPeriod_33 dX8_setPeriod_36 ax_IAE_X8_66_70 (by decide) (Nat.le_of_ble_eq_true rfl) ⟨(by decide), (by decide)⟩ ⟨(by decide), (by decide)⟩ ⟨_, (Option.some.inj hR).symm, rfl⟩
      · replace hR := (if_neg h4).symm.trans hR
        refine j_iload_n X (i := 3) dX8_setPeriod_15 rfl rfl ?_
        refine j_if_lt X (tgt := 26) dX8_setPeriod_16 (by decide) (fun h5 => ?_) (fun h5 => ?_)
        · replace hR := (if_pos h5).symm.trans hR
          exact q_throwSW X hQ (i := 29) rfl dX8_setPeriod_26 dX8_setPeriod_29 dX8_setPeriod_30 dX8_setPeriod_33 dX8_setPeriod_36 ax_IAE_X8_66_70 (by decide) (Nat.le_of_ble_eq_true rfl) ⟨(by decide), (by decide)⟩ ⟨(by decide), (by decide)⟩ ⟨_, (Option.some.inj hR).symm, rfl⟩
        · replace hR := (if_neg h5).symm.trans hR
          refine j_iload_n X (i := 3) dX8_setPeriod_19 rfl rfl ?_
          refine j_sipush X (999) dX8_setPeriod_20 (by decide) ?_
          refine j_icmp_le X (tgt := 37) dX8_setPeriod_23 (by decide) (fun h6 => ?_) (fun h6 => ?_)
          · replace hR := (if_pos h6).symm.trans hR
            refine j_aload_n X (i := 0) dX8_setPeriod_37 rfl rfl ?_
            obtain ⟨a8, h7, hR⟩ := bT_inv hR
            refine j_callV0 X 8 (m_X8_remember hl hL h7) ml_X8_75 im_yX8_remember se_yX8_remember in_X8 cd_yX8_remember hy_yX8_remember dX8_setPeriod_38 rfl (inL hL t_0 (by decide)) (FW8 hL t_0) ⟨(by decide), (by decide)⟩ ⟨(by decide), (by decide)⟩ (Nat.le_of_ble_eq_true rfl) (fun _ h => h.elim) (fun r9 L9 f9 h9 => ?_)
            obtain ⟨h91, h92, h93⟩ := h9
            subst r9
            subst f9
            subst L9
            dsimp only [Option.toList, List.cons_append, List.nil_append, List.append]
            refine j_aload_n X (i := 0) dX8_setPeriod_41 rfl rfl ?_
            refine j_getf X 8 3 rfl cw_X8 fl_X8_31 (by decide) dX8_setPeriod_42 (inL hL t_0 (by decide)) (FW8 hL t_0) rfl ?_
            refine j_getf X 6 0 rfl cw_X6 fl_X8_105 (by decide) dX8_setPeriod_45 (inL hL t_8 (by decide)) (FW6 hL t_8) rfl ?_
            refine j_iload_n X (i := 1) dX8_setPeriod_48 rfl rfl ?_
            refine j_iload_n X (i := 2) dX8_setPeriod_49 rfl rfl ?_
            obtain ⟨x11, h10, hR⟩ := bT_inv hR
            refine j_callV2 X 4 (m_X4_number hl hL (ty6_0 t_8) h10) ml_X8_160 im_yX4_number se_yX4_number in_X4 cd_yX4_number hy_yX4_number dX8_setPeriod_50 rfl (inL hL (ty6_0 t_8) (by decide)) (FW4 hL (ty6_0 t_8)) ⟨(by decide), (by decide)⟩ ⟨(by decide), (by decide)⟩ (Nat.le_of_ble_eq_true rfl) (fun _ h => h.elim) (fun r9 L9 f9 h9 => ?_)
            obtain ⟨h91, h92, h93⟩ := h9
            subst r9
            subst f9
            subst L9
            dsimp only [Option.toList, List.cons_append, List.nil_append, List.append]
            refine j_istore X dX8_setPeriod_53 (by decide) (lvOK_s rfl okPrev_int) ?_
            dsimp only [List.set]
            refine j_aload_n X (i := 0) dX8_setPeriod_55 rfl rfl ?_
            refine j_getf X 8 3 rfl cw_X8 fl_X8_31 (by decide) dX8_setPeriod_56 (inL hL t_0 (by decide)) (FW8 hL t_0) rfl ?_
            refine j_getf X 6 0 rfl cw_X6 fl_X8_105 (by decide) dX8_setPeriod_59 (inL hL t_8 (by decide)) (FW6 hL t_8) rfl ?_
            refine j_iload_n X (i := 1) dX8_setPeriod_62 rfl rfl ?_
            refine j_iload_n X (i := 2) dX8_setPeriod_63 rfl rfl ?_
            refine j_iload_n X (i := 3) dX8_setPeriod_64 rfl rfl ?_
            obtain ⟨a14, h13, hR⟩ := bT_inv hR
            refine j_callV3 X 4 (m_X4_setNumber hl hL (ty6_0 t_8) h13) ml_X8_334 im_yX4_setNumber se_yX4_setNumber in_X4 cd_yX4_setNumber hy_yX4_setNumber dX8_setPeriod_65 rfl (inL hL (ty6_0 t_8) (by decide)) (FW4 hL (ty6_0 t_8)) ⟨(by decide), (by decide)⟩ ⟨(by decide), (by decide)⟩ (Nat.le_of_ble_eq_true rfl) (fun _ h => h.elim) (fun r9 L9 f9 h9 => ?_)
            obtain ⟨h91, h92, h93⟩ := h9
            subst r9
            subst f9
            subst L9
            dsimp only [Option.toList, List.cons_append, List.nil_append, List.append]
            refine j_iload X dX8_setPeriod_68 rfl ?_
            exact q_iret X hQ dX8_setPeriod_70 rfl ⟨(by decide), (by decide)⟩ ⟨rfl, _, _, (Option.some.inj hR).symm, rfl, rfl⟩
          · replace hR := (if_neg h6).symm.trans hR
            exact q_throwSW X hQ (i := 29) rfl dX8_setPeriod_26 dX8_setPeriod_29 dX8_setPeriod_30 dX8_setPeriod_33 dX8_setPeriod_36 ax_IAE_X8_66_70 (by decide) (Nat.le_of_ble_eq_true rfl) ⟨(by decide), (by decide)⟩ ⟨(by decide), (by decide)⟩ ⟨_, (Option.some.inj hR).symm, rfl⟩
def f_X8_swap (a : Mem) : Option (Except Nat (Int32 × Mem)) := if (a 8 5) = 0 then (bT (f_X8_remember a) fun a3 => bT (f_X6_swapSides 8 a3) fun a6 => bT (f_X6_whiteAhead 8 a6) fun x9 => some (.ok (x9, a6))) else (if (a 8 5) = (2 : Int32) then (bT (f_X8_remember a) fun a13 => bT (f_X6_swapSides 8 a13) fun a16 => bT (f_X6_whiteAhead 8 a16) fun x19 => some (.ok (x19, a16))) else (some (.error 1)))
set_option maxRecDepth 100000 in
set_option maxHeartbeats 4000000 in
theorem m_X8_swap {l : Launch} (hl : l.stackTraces = false) {G : GG} {L : List Nat} (hL : LOK L) {a b c : Mem}  {R : Except Nat (Int32 × Mem)} (hR : f_X8_swap a = some R) : Ct l G yX8_swap (.code yX8_swap cX8_swap 1 (some .int)) 6 144 1 6 [.ref (ad L 0)] L (FW G L a b c) (fun E => ∃ n, R = .error n ∧ E = exN n) (stay L (fun r f1 => ∃ v a', R = .ok (v, a') ∧ f1 = (FW G L a' b c) ∧ r = some (.int v))) := by
  refine Ct.ofq (own := RX8) hl rfl (by decide) [some (.ref (ad L 0))] rfl (Nat.le_of_ble_eq_true rfl) ?_
  intro p e s m below meth c9 A ar Q hQ X
  unfold f_X8_swap at hR
  refine j_aload_n X (i := 0) dX8_swap_0 rfl rfl ?_
  refine j_getf X 8 3 rfl cw_X8 fl_X8_31 (by decide) dX8_swap_1 (inL hL t_0 (by decide)) (FW8 hL t_0) rfl ?_
  refine j_getf X 6 5 rfl cw_X6 fl_X8_117 (by decide) dX8_swap_4 (inL hL t_8 (by decide)) (FW6 hL t_8) rfl ?_
  refine j_if_eq X (tgt := 32) dX8_swap_7 (by decide) (fun h1 => ?_) (fun h1 => ?_)
  · replace hR := (if_pos h1).symm.trans hR
    refine j_aload_n X (i := 0) dX8_swap_32 rfl rfl ?_
    obtain ⟨a3, h2, hR⟩ := bT_inv hR
    refine j_callV0 X 8 (m_X8_remember hl hL h2) ml_X8_75 im_yX8_remember se_yX8_remember in_X8 cd_yX8_remember hy_yX8_remember dX8_swap_33 rfl (inL hL t_0 (by decide)) (FW8 hL t_0) ⟨(by decide), (by decide)⟩ ⟨(by decide), (by decide)⟩ (Nat.le_of_ble_eq_true rfl) (fun _ h => h.elim) (fun r9 L9 f9 h9 => ?_)
    obtain ⟨h91, h92, h93⟩ := h9
    subst r9
    subst f9
    subst L9
    dsimp only [Option.toList, List.cons_append, List.nil_append, List.append]
    refine j_aload_n X (i := 0) dX8_swap_36 rfl rfl ?_
    refine j_getf X 8 3 rfl cw_X8 fl_X8_31 (by decide) dX8_swap_37 (inL hL t_0 (by decide)) (FW8 hL t_0) rfl ?_
    obtain ⟨a6, h5, hR⟩ := bT_inv hR
    refine j_callV0 X 6 (m_X6_swapSides hl hL t_8 h5) ml_X8_340 im_yX6_swapSides se_yX6_swapSides in_X6 cd_yX6_swapSides hy_yX6_swapSides dX8_swap_40 rfl (inL hL t_8 (by decide)) (FW6 hL t_8) ⟨(by decide), (by decide)⟩ ⟨(by decide), (by decide)⟩ (Nat.le_of_ble_eq_true rfl) (fun _ h => h.elim) (fun r9 L9 f9 h9 => ?_)
    obtain ⟨h91, h92, h93⟩ := h9
    subst r9
    subst f9
    subst L9
    dsimp only [Option.toList, List.cons_append, List.nil_append, List.append]
    refine j_aload_n X (i := 0) dX8_swap_43 rfl rfl ?_
    refine j_getf X 8 3 rfl cw_X8 fl_X8_31 (by decide) dX8_swap_44 (inL hL t_0 (by decide)) (FW8 hL t_0) rfl ?_
    obtain ⟨x9, h8, hR⟩ := bT_inv hR
    refine j_callV0 X 6 (m_X6_whiteAhead hl hL t_8 h8) ml_X8_221 im_yX6_whiteAhead se_yX6_whiteAhead in_X6 cd_yX6_whiteAhead hy_yX6_whiteAhead dX8_swap_47 rfl (inL hL t_8 (by decide)) (FW6 hL t_8) ⟨(by decide), (by decide)⟩ ⟨(by decide), (by decide)⟩ (Nat.le_of_ble_eq_true rfl) (fun _ h => h.elim) (fun r9 L9 f9 h9 => ?_)
    obtain ⟨h91, h92, h93⟩ := h9
    subst r9
    subst f9
    subst L9
    dsimp only [Option.toList, List.cons_append, List.nil_append, List.append]
    exact q_iret X hQ dX8_swap_50 rfl ⟨(by decide), (by decide)⟩ ⟨rfl, _, _, (Option.some.inj hR).symm, rfl, rfl⟩
  · replace hR := (if_neg h1).symm.trans hR
    refine j_aload_n X (i := 0) dX8_swap_10 rfl rfl ?_
    refine j_getf X 8 3 rfl cw_X8 fl_X8_31 (by decide) dX8_swap_11 (inL hL t_0 (by decide)) (FW8 hL t_0) rfl ?_
    refine j_getf X 6 5 rfl cw_X6 fl_X8_117 (by decide) dX8_swap_14 (inL hL t_8 (by decide)) (FW6 hL t_8) rfl ?_
    refine j_iconst X (2) dX8_swap_17 (by decide) ?_
    refine j_icmp_eq X (tgt := 32) dX8_swap_18 (by decide) (fun h11 => ?_) (fun h11 => ?_)
    · replace hR := (if_pos h11).symm.trans hR
      refine j_aload_n X (i := 0) dX8_swap_32 rfl rfl ?_
      obtain ⟨a13, h12, hR⟩ := bT_inv hR
      refine j_callV0 X 8 (m_X8_remember hl hL h12) ml_X8_75 im_yX8_remember se_yX8_remember in_X8 cd_yX8_remember hy_yX8_remember dX8_swap_33 rfl (inL hL t_0 (by decide)) (FW8 hL t_0) ⟨(by decide), (by decide)⟩ ⟨(by decide), (by decide)⟩ (Nat.le_of_ble_eq_true rfl) (fun _ h => h.elim) (fun r9 L9 f9 h9 => ?_)
      obtain ⟨h91, h92, h93⟩ := h9
      subst r9
      subst f9
      subst L9
      dsimp only [Option.toList, List.cons_append, List.nil_append, List.append]
      refine j_aload_n X (i := 0) dX8_swap_36 rfl rfl ?_
      refine j_getf X 8 3 rfl cw_X8 fl_X8_31 (by decide) dX8_swap_37 (inL hL t_0 (by decide)) (FW8 hL t_0) rfl ?_
      obtain ⟨a16, h15, hR⟩ := bT_inv hR
      refine j_callV0 X 6 (m_X6_swapSides hl hL t_8 h15) ml_X8_340 im_yX6_swapSides se_yX6_swapSides in_X6 cd_yX6_swapSides hy_yX6_swapSides dX8_swap_40 rfl (inL hL t_8 (by decide)) (FW6 hL t_8) ⟨(by decide), (by decide)⟩ ⟨(by decide), (by decide)⟩ (Nat.le_of_ble_eq_true rfl) (fun _ h => h.elim) (fun r9 L9 f9 h9 => ?_)
      obtain ⟨h91, h92, h93⟩ := h9
      subst r9
      subst f9
      subst L9
      dsimp only [Option.toList, List.cons_append, List.nil_append, List.append]
      refine j_aload_n X (i := 0) dX8_swap_43 rfl rfl ?_
      refine j_getf X 8 3 rfl cw_X8 fl_X8_31 (by decide) dX8_swap_44 (inL hL t_0 (by decide)) (FW8 hL t_0) rfl ?_
      obtain ⟨x19, h18, hR⟩ := bT_inv hR
      refine j_callV0 X 6 (m_X6_whiteAhead hl hL t_8 h18) ml_X8_221 im_yX6_whiteAhead se_yX6_whiteAhead in_X6 cd_yX6_whiteAhead hy_yX6_whiteAhead dX8_swap_47 rfl (inL hL t_8 (by decide)) (FW6 hL t_8) ⟨(by decide), (by decide)⟩ ⟨(by decide), (by decide)⟩ (Nat.le_of_ble_eq_true rfl) (fun _ h => h.elim) (fun r9 L9 f9 h9 => ?_)
      obtain ⟨h91, h92, h93⟩ := h9
      subst r9
      subst f9
      subst L9
      dsimp only [Option.toList, List.cons_append, List.nil_append, List.append]
      exact q_iret X hQ dX8_swap_50 rfl ⟨(by decide), (by decide)⟩ ⟨rfl, _, _, (Option.some.inj hR).symm, rfl, rfl⟩
    · replace hR := (if_neg h11).symm.trans hR
      exact q_throwSW X hQ (i := 30) rfl dX8_swap_21 dX8_swap_24 dX8_swap_25 dX8_swap_28 dX8_swap_31 ax_ISE_X8_55_59 (by decide) (Nat.le_of_ble_eq_true rfl) ⟨(by decide), (by decide)⟩ ⟨(by decide), (by decide)⟩ ⟨_, (Option.some.inj hR).symm, rfl⟩
def f_X8_requireSlot (p0 : Int32) (a : Mem) : Nat := if p0 < 0 then (3) else (if p0 < (2 : Int32) then (0) else (3))
def f_X8_keep (p0 : Int32) (a : Mem) : Option (Except Nat (Int32 × Mem)) := bXc (f_X8_requireSlot p0 a) <| bT (stA 2 slotR p0) fun o4 => match o4 with | none => (some (.ok ((a 8 9), a))) | some k5 => (bT (f_X6_copyFrom k5 8 a) fun a7 => bT (up2 a7 k5 11 (1 : Int32)) fun a9 => some (.ok ((a9 8 9), a9))) 
def f_X8_restore (p0 : Int32) (a : Mem) : Option (Except Nat (Int32 × Mem)) := bXc (f_X8_requireSlot p0 a) <| bT (stA 2 slotR p0) fun o4 => match o4 with | none => (some (.error 1)) | some k5 => (if (nb (a k5 11)) = 0 then (some (.error 1)) else (bT (f_X8_remember a) fun a8 => bT (f_X6_copyFrom 8 k5 a8) fun a11 => some (.ok ((a11 8 9), a11)))) 
def f_X8_undo (a : Mem) : Option (Except Nat (Int32 × Mem)) := if 0 < (a 0 6) then (bT (up2 a 0 7 ((((a 0 7) + (6 : Int32)) - (1 : Int32)) - (((a 0 7) + (6 : Int32)) - (1 : Int32)) / (6 : Int32) * (6 : Int32))) fun a2 => bT (up2 a2 0 6 ((a2 0 6) - (1 : Int32))) fun a4 => bT (stA 6 pastR (a4 0 7)) fun o7 => match o7 with | none => (some (.ok ((a4 0 6), a4))) | some k8 => (bT (f_X6_copyFrom 8 k8 a4) fun a10 => some (.ok ((a10 0 6), a10))) ) else (some (.error 1))
