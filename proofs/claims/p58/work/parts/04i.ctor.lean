theorem Ct.ofqn {l : Launch} {G : GG} {y : MethodName} {own : String} {cc : ByteArray} {maxL fr lo mc ms : Nat} {rt : Option FieldType} {av : List Value} {L : List Nat} {f : Nat → va_E} {px : String → Prop} {post : Option Value → List Nat → (Nat → va_E) → Prop} (hl : l.stackTraces = false) (hown : y.cls = own) (hpl : plainName y.cls = true) (lv : List (Option Value)) (hlv : lvl lv = lv_args 0 av) (hn : (lg_sl av).length ≤ maxL)
    (body : ∀ (p : Program) (e : Env) (s : State) (m : MethodId) (below : List Frame) (meth : Method) (c : Code) (A : Nat → Prop) (ar : Array Value) (Q : State → Prop), Q = vx_MQ below (Qg G A post) (Xg G A L f px) ar s mc ms A → meth.name = y.name → Cx G p l s m ar meth c A own cc maxL rt [] → J G p l e { frames := fr, cells := mc, slots := ms, locals := lo } s m ar below meth c A Q maxL 0 0 0 lv [] L f) : Ct l G y (.code y cc maxL rt) fr lo mc ms av L f px post :=
  Ct.ofo hl hown hpl lv hlv hn (fun p e s m below meth c A hname X => body p e s m below meth c A _ _ rfl hname X)

set_option maxRecDepth 100000 in
set_option maxHeartbeats 4000000 in
theorem k_X0_init {l : Launch} (hl : l.stackTraces = false) {G : GG} {L : List Nat} {f : Nat → va_E} {q : Nat} (m_q : q ∈ L) (hf_q : f q = .inr (0, df0)) : Ct l G yX0_init (.code yX0_init cX0_init 1 none) 1 30 1 400 [.ref q] L f px0 (fun r L1 f1 => r = none ∧ ∃ k1 : Nat, k1 ∉ L ∧ L1 = (L ++ [k1]) ∧ f1 = (va_up (va_up f k1 (aB G 400 z0)) q (.inr (0, [.ref k1, .int 0])))) := by
  refine Ct.ofqn (own := RX0) hl rfl (by decide) [some (.ref q)] rfl (Nat.le_of_ble_eq_true rfl) ?_
  intro p e s m below meth c A ar Q hQ hname X
  refine j_aload_n X (i := 0) dX0_init_0 rfl rfl ?_
  refine j_objInit X ml_X0_3 dX0_init_1 ⟨(by decide), (Nat.le_of_ble_eq_true rfl)⟩ ?_
  refine j_aload_n X (i := 0) dX0_init_4 rfl rfl ?_
  refine j_sipush X (400) dX0_init_5 (by decide) ?_
  refine j_newa X 1 (atype := .byte) rfl ac_byte rfl (az_byte 400) (by decide) (by decide) (by decide) ⟨(by decide), (by decide)⟩ dX0_init_8 (fun k1 hk1 => ?_)
  have n_q_k1 : q ≠ k1 := fun h => hk1 (h ▸ m_q)
  have m_q := List.mem_append_left [k1] m_q
  have m_k1 : k1 ∈ L ++ [k1] := List.mem_append_right _ (List.mem_singleton.mpr rfl)
  refine j_putF X 0 0 rfl cw_X0 tyX0 tyX0_ok nmX0 fl_X0_9 (by decide) rfl hname rfl dX0_init_10 m_q (up_n n_q_k1 hf_q) rfl rfl (Nat.le_of_ble_eq_true rfl) ?_
  dsimp only [List.set]
  exact q_vret X hQ dX0_init_13 rfl ⟨(by decide), (by decide)⟩ ⟨rfl, k1, hk1, rfl, rfl⟩

set_option maxRecDepth 100000 in
set_option maxHeartbeats 4000000 in
theorem k_X2_init {l : Launch} (hl : l.stackTraces = false) {G : GG} {L : List Nat} {f : Nat → va_E} {q : Nat} (m_q : q ∈ L) (hf_q : f q = .inr (2, df2)) : Ct l G yX2_init (.code yX2_init cX2_init 1 none) 1 30 1 256 [.ref q] L f px0 (fun r L1 f1 => r = none ∧ ∃ k1 : Nat, k1 ∉ L ∧ L1 = (L ++ [k1]) ∧ f1 = (va_up (va_up f k1 (aB G 256 z0)) q (.inr (2, [.ref k1, .int 0])))) := by
  refine Ct.ofqn (own := RX2) hl rfl (by decide) [some (.ref q)] rfl (Nat.le_of_ble_eq_true rfl) ?_
  intro p e s m below meth c A ar Q hQ hname X
  refine j_aload_n X (i := 0) dX2_init_0 rfl rfl ?_
  refine j_objInit X ml_X2_3 dX2_init_1 ⟨(by decide), (Nat.le_of_ble_eq_true rfl)⟩ ?_
  refine j_aload_n X (i := 0) dX2_init_4 rfl rfl ?_
  refine j_sipush X (256) dX2_init_5 (by decide) ?_
  refine j_newa X 1 (atype := .byte) rfl ac_byte rfl (az_byte 256) (by decide) (by decide) (by decide) ⟨(by decide), (by decide)⟩ dX2_init_8 (fun k1 hk1 => ?_)
  have n_q_k1 : q ≠ k1 := fun h => hk1 (h ▸ m_q)
  have m_q := List.mem_append_left [k1] m_q
  have m_k1 : k1 ∈ L ++ [k1] := List.mem_append_right _ (List.mem_singleton.mpr rfl)
  refine j_putF X 2 0 rfl cw_X2 tyX2 tyX2_ok nmX2 fl_X2_9 (by decide) rfl hname rfl dX2_init_10 m_q (up_n n_q_k1 hf_q) rfl rfl (Nat.le_of_ble_eq_true rfl) ?_
  dsimp only [List.set]
  exact q_vret X hQ dX2_init_13 rfl ⟨(by decide), (by decide)⟩ ⟨rfl, k1, hk1, rfl, rfl⟩

set_option maxRecDepth 100000 in
set_option maxHeartbeats 4000000 in
theorem k_X1_init {l : Launch} (hl : l.stackTraces = false) {G : GG} {L : List Nat} {f : Nat → va_E} {q : Nat} (m_q : q ∈ L) (hf_q : f q = .inr (1, df1)) : Ct l G yX1_init (.code yX1_init cX1_init 1 none) 1 30 1 240 [.ref q] L f px0 (fun r L1 f1 => r = none ∧ ∃ k1 : Nat, k1 ∉ L ∧ L1 = (L ++ [k1]) ∧ f1 = (va_up (va_up f k1 (aI G 240 z0)) q (.inr (1, [.ref k1, .int 0, .int 0])))) := by
  refine Ct.ofqn (own := RX1) hl rfl (by decide) [some (.ref q)] rfl (Nat.le_of_ble_eq_true rfl) ?_
  intro p e s m below meth c A ar Q hQ hname X
  refine j_aload_n X (i := 0) dX1_init_0 rfl rfl ?_
  refine j_objInit X ml_X1_3 dX1_init_1 ⟨(by decide), (Nat.le_of_ble_eq_true rfl)⟩ ?_
  refine j_aload_n X (i := 0) dX1_init_4 rfl rfl ?_
  refine j_sipush X (240) dX1_init_5 (by decide) ?_
  refine j_newa X 0 (atype := .int) rfl ac_int rfl (az_int 240) (by decide) (by decide) (by decide) ⟨(by decide), (by decide)⟩ dX1_init_8 (fun k1 hk1 => ?_)
  have n_q_k1 : q ≠ k1 := fun h => hk1 (h ▸ m_q)
  have m_q := List.mem_append_left [k1] m_q
  have m_k1 : k1 ∈ L ++ [k1] := List.mem_append_right _ (List.mem_singleton.mpr rfl)
  refine j_putF X 1 0 rfl cw_X1 tyX1 tyX1_ok nmX1 fl_X1_9 (by decide) rfl hname rfl dX1_init_10 m_q (up_n n_q_k1 hf_q) rfl rfl (Nat.le_of_ble_eq_true rfl) ?_
  dsimp only [List.set]
  exact q_vret X hQ dX1_init_13 rfl ⟨(by decide), (by decide)⟩ ⟨rfl, k1, hk1, rfl, rfl⟩

set_option maxRecDepth 100000 in
set_option maxHeartbeats 4000000 in
theorem k_X4_init {l : Launch} (hl : l.stackTraces = false) {G : GG} {L : List Nat} {f : Nat → va_E} {q : Nat} (m_q : q ∈ L) (hf_q : f q = .inr (4, df4)) : Ct l G yX4_init (.code yX4_init cX4_init 1 none) 1 30 1 25 [.ref q] L f px0 (fun r L1 f1 => r = none ∧ ∃ k1 : Nat, k1 ∉ L ∧ L1 = (L ++ [k1]) ∧ f1 = (va_up (va_up f k1 (aI G 25 z0)) q (.inr (4, [.ref k1, .int 0, .int 0, .int 0, .int (-1)])))) := by
  refine Ct.ofqn (own := RX4) hl rfl (by decide) [some (.ref q)] rfl (Nat.le_of_ble_eq_true rfl) ?_
  intro p e s m below meth c A ar Q hQ hname X
  refine j_aload_n X (i := 0) dX4_init_0 rfl rfl ?_
  refine j_objInit X ml_X4_3 dX4_init_1 ⟨(by decide), (Nat.le_of_ble_eq_true rfl)⟩ ?_
  refine j_aload_n X (i := 0) dX4_init_4 rfl rfl ?_
  refine j_bipush X (25) dX4_init_5 (by decide) ?_
  refine j_newa X 0 (atype := .int) rfl ac_int rfl (az_int 25) (by decide) (by decide) (by decide) ⟨(by decide), (by decide)⟩ dX4_init_7 (fun k1 hk1 => ?_)
  have n_q_k1 : q ≠ k1 := fun h => hk1 (h ▸ m_q)
  have m_q := List.mem_append_left [k1] m_q
  have m_k1 : k1 ∈ L ++ [k1] := List.mem_append_right _ (List.mem_singleton.mpr rfl)
  refine j_putF X 4 0 rfl cw_X4 tyX4 tyX4_ok nmX4 fl_X4_9 (by decide) rfl hname rfl dX4_init_9 m_q (up_n n_q_k1 hf_q) rfl rfl (Nat.le_of_ble_eq_true rfl) ?_
  dsimp only [List.set]
  refine j_aload_n X (i := 0) dX4_init_12 rfl rfl ?_
  refine j_iconst X (-1) dX4_init_13 (by decide) ?_
  refine j_putf X 4 4 rfl cw_X4 tyX4 tyX4_ok nmX4 fl_X4_15 (by decide) rfl dX4_init_14 m_q up_s rfl rfl (Nat.le_of_ble_eq_true rfl) ?_
  dsimp only [List.set]
  rw [up_up]
  exact q_vret X hQ dX4_init_17 rfl ⟨(by decide), (by decide)⟩ ⟨rfl, k1, hk1, rfl, rfl⟩

set_option maxRecDepth 100000 in
set_option maxHeartbeats 4000000 in
theorem k_X5_init {l : Launch} (hl : l.stackTraces = false) {G : GG} {L : List Nat} {f : Nat → va_E} {q : Nat} (m_q : q ∈ L) (hf_q : f q = .inr (5, df5)) : Ct l G yX5_init (.code yX5_init cX5_init 1 none) 1 30 1 5 [.ref q] L f px0 (fun r L1 f1 => r = none ∧ ∃ k1 : Nat, k1 ∉ L ∧ L1 = (L ++ [k1]) ∧ f1 = (va_up (va_up f k1 (aI G 5 z0)) q (.inr (5, [.ref k1, .int 0, .int 0, .int 0, .int 0, .int 0, .int 0, .int 0, .int 0, .int 0, .int 0, .int 0, .int 0])))) := by
  refine Ct.ofqn (own := RX5) hl rfl (by decide) [some (.ref q)] rfl (Nat.le_of_ble_eq_true rfl) ?_
  intro p e s m below meth c A ar Q hQ hname X
  refine j_aload_n X (i := 0) dX5_init_0 rfl rfl ?_
  refine j_objInit X ml_X5_3 dX5_init_1 ⟨(by decide), (Nat.le_of_ble_eq_true rfl)⟩ ?_
  refine j_aload_n X (i := 0) dX5_init_4 rfl rfl ?_
  refine j_iconst X (5) dX5_init_5 (by decide) ?_
  refine j_newa X 0 (atype := .int) rfl ac_int rfl (az_int 5) (by decide) (by decide) (by decide) ⟨(by decide), (by decide)⟩ dX5_init_6 (fun k1 hk1 => ?_)
  have n_q_k1 : q ≠ k1 := fun h => hk1 (h ▸ m_q)
  have m_q := List.mem_append_left [k1] m_q
  have m_k1 : k1 ∈ L ++ [k1] := List.mem_append_right _ (List.mem_singleton.mpr rfl)
  refine j_putF X 5 0 rfl cw_X5 tyX5 tyX5_ok nmX5 fl_X5_9 (by decide) rfl hname rfl dX5_init_8 m_q (up_n n_q_k1 hf_q) rfl rfl (Nat.le_of_ble_eq_true rfl) ?_
  dsimp only [List.set]
  exact q_vret X hQ dX5_init_11 rfl ⟨(by decide), (by decide)⟩ ⟨rfl, k1, hk1, rfl, rfl⟩

set_option maxRecDepth 100000 in
set_option maxHeartbeats 4000000 in
theorem k_X3_init {l : Launch} (hl : l.stackTraces = false) {G : GG} {L : List Nat} {f : Nat → va_E} {q : Nat} (m_q : q ∈ L) (hf_q : f q = .inr (3, df3)) : Ct l G yX3_init (.code yX3_init cX3_init 1 none) 2 50 4 432 [.ref q] L f px0 (fun r L1 f1 => r = none ∧ ∃ k1 k2 k3 k4 : Nat, k1 ∉ L ∧ k2 ∉ (L ++ [k1]) ∧ k3 ∉ ((L ++ [k1]) ++ [k2]) ∧ k4 ∉ (((L ++ [k1]) ++ [k2]) ++ [k3]) ∧ L1 = ((((L ++ [k1]) ++ [k2]) ++ [k3]) ++ [k4]) ∧ f1 = (va_up (va_up (va_up (va_up (va_up f k2 (aB G 400 z0)) k1 (.inr (0, [.ref k2, .int 0]))) k4 (aI G 25 z0)) k3 (.inr (4, [.ref k4, .int 0, .int 0, .int 0, .int (-1)]))) q (.inr (3, [.ref k1, .ref k3, .int 0, .int (-1), .int 0, .int 0, .int (-1), .int 0, .int 0, .int 0, .int 0])))) := by
  refine Ct.ofqn (own := RX3) hl rfl (by decide) [some (.ref q)] rfl (Nat.le_of_ble_eq_true rfl) ?_
  intro p e s m below meth c A ar Q hQ hname X
  refine j_aload_n X (i := 0) dX3_init_0 rfl rfl ?_
  refine j_objInit X ml_X3_3 dX3_init_1 ⟨(by decide), (Nat.le_of_ble_eq_true rfl)⟩ ?_
  refine j_aload_n X (i := 0) dX3_init_4 rfl rfl ?_
  refine j_new X 0 cw_X0 tyX0 tyX0_ok cl_X3_9 is_X0 in_X0 rfl df0_ok ⟨(by decide), (by decide)⟩ dX3_init_5 (fun k1 hk1 => ?_)
  have n_q_k1 : q ≠ k1 := fun h => hk1 (h ▸ m_q)
  have m_q := List.mem_append_left [k1] m_q
  have m_k1 : k1 ∈ L ++ [k1] := List.mem_append_right _ (List.mem_singleton.mpr rfl)
  refine j_dup X dX3_init_8 rfl ?_
  refine j_callIN X (k_X0_init hl m_k1 up_s) (List.mem_of_getElem? (i := 1) rfl) im_yX0_init in_X0 cd_yX0_init rfl hi_yX0_init dX3_init_9 ⟨(by decide), (by decide)⟩ ⟨(by decide), (by decide)⟩ (Nat.le_of_ble_eq_true rfl) (fun _ h => h.elim) (fun r9 L9 f9 h9 => ?_)
  obtain ⟨h91, k2, hk2, h92, h93⟩ := h9
  subst r9
  subst f9
  subst L9
  dsimp only [Option.toList, List.nil_append]
  have n_q_k2 : q ≠ k2 := fun h => hk2 (h ▸ m_q)
  have n_k1_k2 : k1 ≠ k2 := fun h => hk2 (h ▸ m_k1)
  have m_q := List.mem_append_left [k2] m_q
  have m_k1 := List.mem_append_left [k2] m_k1
  have m_k2 : k2 ∈ (L ++ [k1]) ++ [k2] := List.mem_append_right _ (List.mem_singleton.mpr rfl)
  refine j_putF X 3 0 rfl cw_X3 tyX3 tyX3_ok nmX3 fl_X3_12 (by decide) rfl hname rfl dX3_init_12 m_q (up_n n_q_k1 (up_n n_q_k2 (up_n n_q_k1 hf_q))) rfl rfl (Nat.le_of_ble_eq_true rfl) ?_
  dsimp only [List.set]
  refine j_aload_n X (i := 0) dX3_init_15 rfl rfl ?_
  refine j_new X 4 cw_X4 tyX4 tyX4_ok cl_X3_18 is_X4 in_X4 rfl df4_ok ⟨(by decide), (by decide)⟩ dX3_init_16 (fun k3 hk3 => ?_)
  have n_q_k3 : q ≠ k3 := fun h => hk3 (h ▸ m_q)
  have n_k1_k3 : k1 ≠ k3 := fun h => hk3 (h ▸ m_k1)
  have n_k2_k3 : k2 ≠ k3 := fun h => hk3 (h ▸ m_k2)
  have m_q := List.mem_append_left [k3] m_q
  have m_k1 := List.mem_append_left [k3] m_k1
  have m_k2 := List.mem_append_left [k3] m_k2
  have m_k3 : k3 ∈ ((L ++ [k1]) ++ [k2]) ++ [k3] := List.mem_append_right _ (List.mem_singleton.mpr rfl)
  refine j_dup X dX3_init_19 rfl ?_
  refine j_callIN X (k_X4_init hl m_k3 up_s) (List.mem_of_getElem? (i := 2) rfl) im_yX4_init in_X4 cd_yX4_init rfl hi_yX4_init dX3_init_20 ⟨(by decide), (by decide)⟩ ⟨(by decide), (by decide)⟩ (Nat.le_of_ble_eq_true rfl) (fun _ h => h.elim) (fun r9 L9 f9 h9 => ?_)
  obtain ⟨h91, k4, hk4, h92, h93⟩ := h9
  subst r9
  subst f9
  subst L9
  dsimp only [Option.toList, List.nil_append]
  have n_q_k4 : q ≠ k4 := fun h => hk4 (h ▸ m_q)
  have n_k1_k4 : k1 ≠ k4 := fun h => hk4 (h ▸ m_k1)
  have n_k2_k4 : k2 ≠ k4 := fun h => hk4 (h ▸ m_k2)
  have n_k3_k4 : k3 ≠ k4 := fun h => hk4 (h ▸ m_k3)
  have m_q := List.mem_append_left [k4] m_q
  have m_k1 := List.mem_append_left [k4] m_k1
  have m_k2 := List.mem_append_left [k4] m_k2
  have m_k3 := List.mem_append_left [k4] m_k3
  have m_k4 : k4 ∈ (((L ++ [k1]) ++ [k2]) ++ [k3]) ++ [k4] := List.mem_append_right _ (List.mem_singleton.mpr rfl)
  refine j_putF X 3 1 rfl cw_X3 tyX3 tyX3_ok nmX3 fl_X3_21 (by decide) rfl hname rfl dX3_init_23 m_q (up_n n_q_k3 (up_n n_q_k4 (up_n n_q_k3 up_s))) rfl rfl (Nat.le_of_ble_eq_true rfl) ?_
  dsimp only [List.set]
  refine j_aload_n X (i := 0) dX3_init_26 rfl rfl ?_
  refine j_iconst X (-1) dX3_init_27 (by decide) ?_
  refine j_putf X 3 3 rfl cw_X3 tyX3 tyX3_ok nmX3 fl_X3_25 (by decide) rfl dX3_init_28 m_q up_s rfl rfl (Nat.le_of_ble_eq_true rfl) ?_
  dsimp only [List.set]
  rw [up_up]
  refine j_aload_n X (i := 0) dX3_init_31 rfl rfl ?_
  refine j_iconst X (-1) dX3_init_32 (by decide) ?_
  refine j_putf X 3 6 rfl cw_X3 tyX3 tyX3_ok nmX3 fl_X3_29 (by decide) rfl dX3_init_33 m_q up_s rfl rfl (Nat.le_of_ble_eq_true rfl) ?_
  dsimp only [List.set]
  rw [up_up]
  refine q_vret X hQ dX3_init_36 rfl ⟨(by decide), (by decide)⟩ ⟨rfl, k1, k2, k3, k4, hk1, hk2, hk3, hk4, rfl, ?_⟩
  funext x9
  by_cases e_q : x9 = q
  · rw [e_q]
    exact ((up_s : _ = ((.inr (3, [.ref k1, .ref k3, .int 0, .int (-1), .int 0, .int 0, .int (-1), .int 0, .int 0, .int 0, .int 0])) : va_E)).trans (up_s : _ = ((.inr (3, [.ref k1, .ref k3, .int 0, .int (-1), .int 0, .int 0, .int (-1), .int 0, .int 0, .int 0, .int 0])) : va_E)).symm)
  by_cases e_k1 : x9 = k1
  · rw [e_k1]
    exact (((up_n (Ne.symm n_q_k1) (up_n n_k1_k3 (up_n n_k1_k4 (up_n n_k1_k3 (up_n (Ne.symm n_q_k1) up_s))))) : _ = ((.inr (0, [.ref k2, .int 0])) : va_E)).trans ((up_n (Ne.symm n_q_k1) (up_n n_k1_k3 (up_n n_k1_k4 up_s))) : _ = ((.inr (0, [.ref k2, .int 0])) : va_E)).symm)
  by_cases e_k2 : x9 = k2
  · rw [e_k2]
    exact (((up_n (Ne.symm n_q_k2) (up_n n_k2_k3 (up_n n_k2_k4 (up_n n_k2_k3 (up_n (Ne.symm n_q_k2) (up_n (Ne.symm n_k1_k2) up_s)))))) : _ = ((aB G 400 z0) : va_E)).trans ((up_n (Ne.symm n_q_k2) (up_n n_k2_k3 (up_n n_k2_k4 (up_n (Ne.symm n_k1_k2) up_s)))) : _ = ((aB G 400 z0) : va_E)).symm)
  by_cases e_k3 : x9 = k3
  · rw [e_k3]
    exact (((up_n (Ne.symm n_q_k3) up_s) : _ = ((.inr (4, [.ref k4, .int 0, .int 0, .int 0, .int (-1)])) : va_E)).trans ((up_n (Ne.symm n_q_k3) up_s) : _ = ((.inr (4, [.ref k4, .int 0, .int 0, .int 0, .int (-1)])) : va_E)).symm)
  by_cases e_k4 : x9 = k4
  · rw [e_k4]
    exact (((up_n (Ne.symm n_q_k4) (up_n (Ne.symm n_k3_k4) up_s)) : _ = ((aI G 25 z0) : va_E)).trans ((up_n (Ne.symm n_q_k4) (up_n (Ne.symm n_k3_k4) up_s)) : _ = ((aI G 25 z0) : va_E)).symm)
  simp only [va_up, if_neg e_q, if_neg e_k1, if_neg e_k2, if_neg e_k3, if_neg e_k4]

set_option maxRecDepth 100000 in
set_option maxHeartbeats 4000000 in
theorem k_X7_init {l : Launch} (hl : l.stackTraces = false) {G : GG} {L : List Nat} {f : Nat → va_E} {q : Nat} (m_q : q ∈ L) (hf_q : f q = .inr (7, df7)) : Ct l G yX7_init (.code yX7_init cX7_init 1 none) 2 50 4 36 [.ref q] L f px0 (fun r L1 f1 => r = none ∧ ∃ k1 k2 k3 k4 : Nat, k1 ∉ L ∧ k2 ∉ (L ++ [k1]) ∧ k3 ∉ ((L ++ [k1]) ++ [k2]) ∧ k4 ∉ (((L ++ [k1]) ++ [k2]) ++ [k3]) ∧ L1 = ((((L ++ [k1]) ++ [k2]) ++ [k3]) ++ [k4]) ∧ f1 = (va_up (va_up (va_up (va_up (va_up f k2 (aI G 5 z0)) k1 (.inr (5, [.ref k2, .int 0, .int 0, .int 0, .int 0, .int 0, .int 0, .int 0, .int 0, .int 0, .int 0, .int 0, .int 0]))) k4 (aI G 5 z0)) k3 (.inr (5, [.ref k4, .int 0, .int 0, .int 0, .int 0, .int 0, .int 0, .int 0, .int 0, .int 0, .int 0, .int 0, .int 0]))) q (.inr (7, [.ref k1, .ref k3, .int 0, .int 0, .int 0, .int 0])))) := by
  refine Ct.ofqn (own := RX7) hl rfl (by decide) [some (.ref q)] rfl (Nat.le_of_ble_eq_true rfl) ?_
  intro p e s m below meth c A ar Q hQ hname X
  refine j_aload_n X (i := 0) dX7_init_0 rfl rfl ?_
  refine j_objInit X ml_X7_3 dX7_init_1 ⟨(by decide), (Nat.le_of_ble_eq_true rfl)⟩ ?_
  refine j_aload_n X (i := 0) dX7_init_4 rfl rfl ?_
  refine j_new X 5 cw_X5 tyX5 tyX5_ok cl_X7_9 is_X5 in_X5 rfl df5_ok ⟨(by decide), (by decide)⟩ dX7_init_5 (fun k1 hk1 => ?_)
  have n_q_k1 : q ≠ k1 := fun h => hk1 (h ▸ m_q)
  have m_q := List.mem_append_left [k1] m_q
  have m_k1 : k1 ∈ L ++ [k1] := List.mem_append_right _ (List.mem_singleton.mpr rfl)
  refine j_dup X dX7_init_8 rfl ?_
  refine j_callIN X (k_X5_init hl m_k1 up_s) (List.mem_of_getElem? (i := 9) rfl) im_yX5_init in_X5 cd_yX5_init rfl hi_yX5_init dX7_init_9 ⟨(by decide), (by decide)⟩ ⟨(by decide), (by decide)⟩ (Nat.le_of_ble_eq_true rfl) (fun _ h => h.elim) (fun r9 L9 f9 h9 => ?_)
  obtain ⟨h91, k2, hk2, h92, h93⟩ := h9
  subst r9
  subst f9
  subst L9
  dsimp only [Option.toList, List.nil_append]
  have n_q_k2 : q ≠ k2 := fun h => hk2 (h ▸ m_q)
  have n_k1_k2 : k1 ≠ k2 := fun h => hk2 (h ▸ m_k1)
  have m_q := List.mem_append_left [k2] m_q
  have m_k1 := List.mem_append_left [k2] m_k1
  have m_k2 : k2 ∈ (L ++ [k1]) ++ [k2] := List.mem_append_right _ (List.mem_singleton.mpr rfl)
  refine j_putF X 7 0 rfl cw_X7 tyX7 tyX7_ok nmX7 fl_X7_12 (by decide) rfl hname rfl dX7_init_12 m_q (up_n n_q_k1 (up_n n_q_k2 (up_n n_q_k1 hf_q))) rfl rfl (Nat.le_of_ble_eq_true rfl) ?_
  dsimp only [List.set]
  refine j_aload_n X (i := 0) dX7_init_15 rfl rfl ?_
  refine j_new X 5 cw_X5 tyX5 tyX5_ok cl_X7_9 is_X5 in_X5 rfl df5_ok ⟨(by decide), (by decide)⟩ dX7_init_16 (fun k3 hk3 => ?_)
  have n_q_k3 : q ≠ k3 := fun h => hk3 (h ▸ m_q)
  have n_k1_k3 : k1 ≠ k3 := fun h => hk3 (h ▸ m_k1)
  have n_k2_k3 : k2 ≠ k3 := fun h => hk3 (h ▸ m_k2)
  have m_q := List.mem_append_left [k3] m_q
  have m_k1 := List.mem_append_left [k3] m_k1
  have m_k2 := List.mem_append_left [k3] m_k2
  have m_k3 : k3 ∈ ((L ++ [k1]) ++ [k2]) ++ [k3] := List.mem_append_right _ (List.mem_singleton.mpr rfl)
  refine j_dup X dX7_init_19 rfl ?_
  refine j_callIN X (k_X5_init hl m_k3 up_s) (List.mem_of_getElem? (i := 9) rfl) im_yX5_init in_X5 cd_yX5_init rfl hi_yX5_init dX7_init_20 ⟨(by decide), (by decide)⟩ ⟨(by decide), (by decide)⟩ (Nat.le_of_ble_eq_true rfl) (fun _ h => h.elim) (fun r9 L9 f9 h9 => ?_)
  obtain ⟨h91, k4, hk4, h92, h93⟩ := h9
  subst r9
  subst f9
  subst L9
  dsimp only [Option.toList, List.nil_append]
  have n_q_k4 : q ≠ k4 := fun h => hk4 (h ▸ m_q)
  have n_k1_k4 : k1 ≠ k4 := fun h => hk4 (h ▸ m_k1)
  have n_k2_k4 : k2 ≠ k4 := fun h => hk4 (h ▸ m_k2)
  have n_k3_k4 : k3 ≠ k4 := fun h => hk4 (h ▸ m_k3)
  have m_q := List.mem_append_left [k4] m_q
  have m_k1 := List.mem_append_left [k4] m_k1
  have m_k2 := List.mem_append_left [k4] m_k2
  have m_k3 := List.mem_append_left [k4] m_k3
  have m_k4 : k4 ∈ (((L ++ [k1]) ++ [k2]) ++ [k3]) ++ [k4] := List.mem_append_right _ (List.mem_singleton.mpr rfl)
  refine j_putF X 7 1 rfl cw_X7 tyX7 tyX7_ok nmX7 fl_X7_18 (by decide) rfl hname rfl dX7_init_23 m_q (up_n n_q_k3 (up_n n_q_k4 (up_n n_q_k3 up_s))) rfl rfl (Nat.le_of_ble_eq_true rfl) ?_
  dsimp only [List.set]
  refine q_vret X hQ dX7_init_26 rfl ⟨(by decide), (by decide)⟩ ⟨rfl, k1, k2, k3, k4, hk1, hk2, hk3, hk4, rfl, ?_⟩
  funext x9
  by_cases e_q : x9 = q
  · rw [e_q]
    exact ((up_s : _ = ((.inr (7, [.ref k1, .ref k3, .int 0, .int 0, .int 0, .int 0])) : va_E)).trans (up_s : _ = ((.inr (7, [.ref k1, .ref k3, .int 0, .int 0, .int 0, .int 0])) : va_E)).symm)
  by_cases e_k1 : x9 = k1
  · rw [e_k1]
    exact (((up_n (Ne.symm n_q_k1) (up_n n_k1_k3 (up_n n_k1_k4 (up_n n_k1_k3 (up_n (Ne.symm n_q_k1) up_s))))) : _ = ((.inr (5, [.ref k2, .int 0, .int 0, .int 0, .int 0, .int 0, .int 0, .int 0, .int 0, .int 0, .int 0, .int 0, .int 0])) : va_E)).trans ((up_n (Ne.symm n_q_k1) (up_n n_k1_k3 (up_n n_k1_k4 up_s))) : _ = ((.inr (5, [.ref k2, .int 0, .int 0, .int 0, .int 0, .int 0, .int 0, .int 0, .int 0, .int 0, .int 0, .int 0, .int 0])) : va_E)).symm)
  by_cases e_k2 : x9 = k2
  · rw [e_k2]
    exact (((up_n (Ne.symm n_q_k2) (up_n n_k2_k3 (up_n n_k2_k4 (up_n n_k2_k3 (up_n (Ne.symm n_q_k2) (up_n (Ne.symm n_k1_k2) up_s)))))) : _ = ((aI G 5 z0) : va_E)).trans ((up_n (Ne.symm n_q_k2) (up_n n_k2_k3 (up_n n_k2_k4 (up_n (Ne.symm n_k1_k2) up_s)))) : _ = ((aI G 5 z0) : va_E)).symm)
  by_cases e_k3 : x9 = k3
  · rw [e_k3]
    exact (((up_n (Ne.symm n_q_k3) up_s) : _ = ((.inr (5, [.ref k4, .int 0, .int 0, .int 0, .int 0, .int 0, .int 0, .int 0, .int 0, .int 0, .int 0, .int 0, .int 0])) : va_E)).trans ((up_n (Ne.symm n_q_k3) up_s) : _ = ((.inr (5, [.ref k4, .int 0, .int 0, .int 0, .int 0, .int 0, .int 0, .int 0, .int 0, .int 0, .int 0, .int 0, .int 0])) : va_E)).symm)
  by_cases e_k4 : x9 = k4
  · rw [e_k4]
    exact (((up_n (Ne.symm n_q_k4) (up_n (Ne.symm n_k3_k4) up_s)) : _ = ((aI G 5 z0) : va_E)).trans ((up_n (Ne.symm n_q_k4) (up_n (Ne.symm n_k3_k4) up_s)) : _ = ((aI G 5 z0) : va_E)).symm)
  simp only [va_up, if_neg e_q, if_neg e_k1, if_neg e_k2, if_neg e_k3, if_neg e_k4]

