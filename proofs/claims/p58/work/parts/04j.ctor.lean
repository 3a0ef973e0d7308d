theorem fill_z0 {n : Nat} : fillI n z0 0 = z0 := by
  funext i
  unfold fillI z0
  split <;> rfl

set_option maxRecDepth 100000 in
set_option maxHeartbeats 4000000 in
theorem k_setUp {l : Launch} (hl : l.stackTraces = false) {G : GG} {L : List Nat} {f : Nat → va_E} {q sp r nb : Nat} {pe ex et se lf : Int32} {na : Nat → Int32} (m_q : q ∈ L) (m_sp : sp ∈ L) (m_r : r ∈ L) (m_nb : nb ∈ L) (n_q_sp : q ≠ sp) (n_q_r : q ≠ r) (n_q_nb : q ≠ nb) (n_sp_r : sp ≠ r) (n_sp_nb : sp ≠ nb) (n_r_nb : r ≠ nb) (hf_q : f q = .inr (5, [.ref sp, .int 0, .int 0, .int 0, .int 0, .int 0, .int 0, .int 0, .int 0, .int 0, .int 0, .int 0, .int 0])) (hf_sp : f sp = aI G 5 z0) (hf_r : f r = .inr (4, [.ref nb, .int pe, .int ex, .int et, .int se])) (hf_nb : f nb = aI G 25 na) (hlf : rN na 0 1 = lf) : Ct l G yX5_setUp (.code yX5_setUp cX5_setUp 2 none) 1 60 0 0 [.ref q, .ref r] L f px0 (fun r9 L1 f1 => r9 = none ∧ L1 = L ∧ f1 = (va_up (va_up f sp (aI G 5 z0)) q (.inr (5, [.ref sp, .int lf, .int (0), .int (0), .int (0), .int ex, .int (0), .int (0), .int (0), .int (0), .int (0), .int (0), .int (0)])))) := by
  refine Ct.ofqn (own := RX5) hl rfl (by decide) [some (.ref q), some (.ref r)] rfl (Nat.le_of_ble_eq_true rfl) ?_
  intro p e s m below meth c A ar Q hQ hname X
  refine j_aload_n X (i := 0) dX5_setUp_0 rfl rfl ?_
  refine j_getf X 5 0 rfl cw_X5 fl_X5_9 (by decide) dX5_setUp_1 m_q hf_q rfl ?_
  refine j_iconst X (0) dX5_setUp_4 (by decide) ?_
  refine j_callS2 X (c_fill hl m_sp hf_sp (by decide)) ml_X5_15 st_yJ7_fill_53178 in_J7 cd_yJ7_fill_53178 hy_yJ7_fill_53178 dX5_setUp_5 ⟨(by decide), (by decide)⟩ ⟨(by decide), (by decide)⟩ (Nat.le_of_ble_eq_true rfl) (fun _ h => h.elim) (fun r9 L9 f9 h9 => ?_)
  obtain ⟨h91, h92, h93⟩ := h9
  rw [fill_z0] at h92
  subst r9
  subst f9
  subst L9
  dsimp only [Option.toList, List.nil_append]
  refine j_aload_n X (i := 0) dX5_setUp_8 rfl rfl ?_
  refine j_aload_n X (i := 1) dX5_setUp_9 rfl rfl ?_
  refine j_iconst X (0) dX5_setUp_10 (by decide) ?_
  refine j_iconst X (1) dX5_setUp_11 (by decide) ?_
  refine j_callV2 X 4 (c_X4_number hl m_r (up_n (Ne.symm n_sp_r) hf_r) m_nb (up_n (Ne.symm n_sp_nb) hf_nb)) ml_X5_21 im_yX4_number se_yX4_number in_X4 cd_yX4_number hy_yX4_number dX5_setUp_12 rfl m_r (up_n (Ne.symm n_sp_r) hf_r) ⟨(by decide), (by decide)⟩ ⟨(by decide), (by decide)⟩ (Nat.le_of_ble_eq_true rfl) (fun _ h => h.elim) (fun r9 L9 f9 h9 => ?_)
  obtain ⟨h91, h92, h93⟩ := h9
  rw [hlf] at h93
  subst r9
  subst f9
  subst L9
  dsimp only [Option.toList, List.cons_append, List.nil_append, List.append]
  refine j_putf X 5 1 rfl cw_X5 tyX5 tyX5_ok nmX5 fl_X5_27 (by decide) rfl dX5_setUp_15 m_q (up_n n_q_sp hf_q) rfl rfl (Nat.le_of_ble_eq_true rfl) ?_
  dsimp only [List.set]
  refine j_aload_n X (i := 0) dX5_setUp_18 rfl rfl ?_
  refine j_iconst X (0) dX5_setUp_19 (by decide) ?_
  refine j_putf X 5 2 rfl cw_X5 tyX5 tyX5_ok nmX5 fl_X5_31 (by decide) rfl dX5_setUp_20 m_q up_s rfl rfl (Nat.le_of_ble_eq_true rfl) ?_
  dsimp only [List.set]
  rw [up_up]
  refine j_aload_n X (i := 0) dX5_setUp_23 rfl rfl ?_
  refine j_iconst X (0) dX5_setUp_24 (by decide) ?_
  refine j_putf X 5 3 rfl cw_X5 tyX5 tyX5_ok nmX5 fl_X5_34 (by decide) rfl dX5_setUp_25 m_q up_s rfl rfl (Nat.le_of_ble_eq_true rfl) ?_
  dsimp only [List.set]
  rw [up_up]
  refine j_aload_n X (i := 0) dX5_setUp_28 rfl rfl ?_
  refine j_iconst X (0) dX5_setUp_29 (by decide) ?_
  refine j_putf X 5 4 rfl cw_X5 tyX5 tyX5_ok nmX5 fl_X5_37 (by decide) rfl dX5_setUp_30 m_q up_s rfl rfl (Nat.le_of_ble_eq_true rfl) ?_
  dsimp only [List.set]
  rw [up_up]
  refine j_aload_n X (i := 0) dX5_setUp_33 rfl rfl ?_
  refine j_aload_n X (i := 1) dX5_setUp_34 rfl rfl ?_
  refine j_getf X 4 2 rfl cw_X4 fl_X5_40 (by decide) dX5_setUp_35 m_r (up_n (Ne.symm n_q_r) (up_n (Ne.symm n_sp_r) hf_r)) rfl ?_
  refine j_putf X 5 5 rfl cw_X5 tyX5 tyX5_ok nmX5 fl_X5_43 (by decide) rfl dX5_setUp_38 m_q up_s rfl rfl (Nat.le_of_ble_eq_true rfl) ?_
  dsimp only [List.set]
  rw [up_up]
  refine j_aload_n X (i := 0) dX5_setUp_41 rfl rfl ?_
  refine j_iconst X (0) dX5_setUp_42 (by decide) ?_
  refine j_putf X 5 6 rfl cw_X5 tyX5 tyX5_ok nmX5 fl_X5_44 (by decide) rfl dX5_setUp_43 m_q up_s rfl rfl (Nat.le_of_ble_eq_true rfl) ?_
  dsimp only [List.set]
  rw [up_up]
  refine j_aload_n X (i := 0) dX5_setUp_46 rfl rfl ?_
  refine j_iconst X (0) dX5_setUp_47 (by decide) ?_
  refine j_putf X 5 7 rfl cw_X5 tyX5 tyX5_ok nmX5 fl_X5_48 (by decide) rfl dX5_setUp_48 m_q up_s rfl rfl (Nat.le_of_ble_eq_true rfl) ?_
  dsimp only [List.set]
  rw [up_up]
  refine j_aload_n X (i := 0) dX5_setUp_51 rfl rfl ?_
  refine j_iconst X (0) dX5_setUp_52 (by decide) ?_
  refine j_putf X 5 8 rfl cw_X5 tyX5 tyX5_ok nmX5 fl_X5_51 (by decide) rfl dX5_setUp_53 m_q up_s rfl rfl (Nat.le_of_ble_eq_true rfl) ?_
  dsimp only [List.set]
  rw [up_up]
  refine j_aload_n X (i := 0) dX5_setUp_56 rfl rfl ?_
  refine j_iconst X (0) dX5_setUp_57 (by decide) ?_
  refine j_putf X 5 9 rfl cw_X5 tyX5 tyX5_ok nmX5 fl_X5_54 (by decide) rfl dX5_setUp_58 m_q up_s rfl rfl (Nat.le_of_ble_eq_true rfl) ?_
  dsimp only [List.set]
  rw [up_up]
  refine j_aload_n X (i := 0) dX5_setUp_61 rfl rfl ?_
  refine j_iconst X (0) dX5_setUp_62 (by decide) ?_
  refine j_putf X 5 10 rfl cw_X5 tyX5 tyX5_ok nmX5 fl_X5_57 (by decide) rfl dX5_setUp_63 m_q up_s rfl rfl (Nat.le_of_ble_eq_true rfl) ?_
  dsimp only [List.set]
  rw [up_up]
  refine j_aload_n X (i := 0) dX5_setUp_66 rfl rfl ?_
  refine j_iconst X (0) dX5_setUp_67 (by decide) ?_
  refine j_putf X 5 11 rfl cw_X5 tyX5 tyX5_ok nmX5 fl_X5_60 (by decide) rfl dX5_setUp_68 m_q up_s rfl rfl (Nat.le_of_ble_eq_true rfl) ?_
  dsimp only [List.set]
  rw [up_up]
  refine j_aload_n X (i := 0) dX5_setUp_71 rfl rfl ?_
  refine j_iconst X (0) dX5_setUp_72 (by decide) ?_
  refine j_putf X 5 12 rfl cw_X5 tyX5 tyX5_ok nmX5 fl_X5_63 (by decide) rfl dX5_setUp_73 m_q up_s rfl rfl (Nat.le_of_ble_eq_true rfl) ?_
  dsimp only [List.set]
  rw [up_up]
  exact q_vret X hQ dX5_setUp_76 rfl ⟨(by decide), (by decide)⟩ ⟨rfl, rfl, rfl⟩
/-- the numbers of the periods at first: 3000 ticks -/
def tm0 : Nat → Int32 := upd z0 1 3000
theorem put_time : putI 25 z0 (0 * 5 + 1) 3000 = tm0 := by
  unfold tm0
  rw [putI_in (by unfold vp_in; decide)]
  rfl
theorem rN_tm0 : rN tm0 0 1 = 3000 := by decide

set_option maxRecDepth 100000 in
set_option maxHeartbeats 4000000 in
theorem k_X6_init {l : Launch} (hl : l.stackTraces = false) {G : GG} {L : List Nat} {f : Nat → va_E} {q : Nat} (m_q : q ∈ L) (hf_q : f q = .inr (6, df6)) : Ct l G yX6_init (.code yX6_init cX6_init 1 none) 4 81 8 309 [.ref q] L f px0 (fun r L1 f1 => r = none ∧ ∃ k1 k2 k3 k4 k5 k6 k7 k8 : Nat, k1 ∉ L ∧ k2 ∉ (L ++ [k1]) ∧ k3 ∉ ((L ++ [k1]) ++ [k2]) ∧ k4 ∉ (((L ++ [k1]) ++ [k2]) ++ [k3]) ∧ k5 ∉ ((((L ++ [k1]) ++ [k2]) ++ [k3]) ++ [k4]) ∧ k6 ∉ (((((L ++ [k1]) ++ [k2]) ++ [k3]) ++ [k4]) ++ [k5]) ∧ k7 ∉ ((((((L ++ [k1]) ++ [k2]) ++ [k3]) ++ [k4]) ++ [k5]) ++ [k6]) ∧ k8 ∉ (((((((L ++ [k1]) ++ [k2]) ++ [k3]) ++ [k4]) ++ [k5]) ++ [k6]) ++ [k7]) ∧ L1 = ((((((((L ++ [k1]) ++ [k2]) ++ [k3]) ++ [k4]) ++ [k5]) ++ [k6]) ++ [k7]) ++ [k8]) ∧ f1 = (va_up (va_up (va_up (va_up (va_up (va_up (va_up (va_up (va_up f k4 (aI G 240 z0)) k3 (.inr (1, [.ref k4, .int 0, .int 0]))) q (.inr (6, [.ref k1, .ref k3, .ref k5, .ref k7, .int 0, .int 0, .int 0, .int (-1), .int (-1), .int 0, .int 0, .int 0]))) k1 (.inr (4, [.ref k2, .int (1), .int 0, .int 0, .int (-1)]))) k2 (aI G 25 tm0)) k6 (aI G 5 z0)) k5 (.inr (5, [.ref k6, .int 3000, .int 0, .int 0, .int 0, .int 0, .int 0, .int 0, .int 0, .int 0, .int 0, .int 0, .int 0]))) k8 (aI G 5 z0)) k7 (.inr (5, [.ref k8, .int 3000, .int 0, .int 0, .int 0, .int 0, .int 0, .int 0, .int 0, .int 0, .int 0, .int 0, .int 0])))) := by
  refine Ct.ofqn (own := RX6) hl rfl (by decide) [some (.ref q)] rfl (Nat.le_of_ble_eq_true rfl) ?_
  intro p e s m below meth c A ar Q hQ hname X
  refine j_aload_n X (i := 0) dX6_init_0 rfl rfl ?_
  refine j_objInit X ml_X6_3 dX6_init_1 ⟨(by decide), (Nat.le_of_ble_eq_true rfl)⟩ ?_
  refine j_aload_n X (i := 0) dX6_init_4 rfl rfl ?_
  refine j_new X 4 cw_X4 tyX4 tyX4_ok cl_X6_9 is_X4 in_X4 rfl df4_ok ⟨(by decide), (by decide)⟩ dX6_init_5 (fun k1 hk1 => ?_)
  have n_q_k1 : q ≠ k1 := fun h => hk1 (h ▸ m_q)
  have m_q := List.mem_append_left [k1] m_q
  have m_k1 : k1 ∈ L ++ [k1] := List.mem_append_right _ (List.mem_singleton.mpr rfl)
  refine j_dup X dX6_init_8 rfl ?_
  refine j_callIN X (k_X4_init hl m_k1 up_s) (List.mem_of_getElem? (i := 4) rfl) im_yX4_init in_X4 cd_yX4_init rfl hi_yX4_init dX6_init_9 ⟨(by decide), (by decide)⟩ ⟨(by decide), (by decide)⟩ (Nat.le_of_ble_eq_true rfl) (fun _ h => h.elim) (fun r9 L9 f9 h9 => ?_)
  obtain ⟨h91, k2, hk2, h92, h93⟩ := h9
  subst r9
  subst f9
  subst L9
  dsimp only [Option.toList, List.nil_append]
  have n_q_k2 : q ≠ k2 := fun h => hk2 (h ▸ m_q)
  have n_k1_k2 : k1 ≠ k2 := fun h => hk2 (h ▸ m_k1)
  have m_q := List.mem_append_left [k2] m_q
  have m_k1 := List.mem_append_left [k2] m_k1
  have m_k2 : k2 ∈ (L ++ [k1]) ++ [k2] := List.mem_append_right _ (List.mem_singleton.mpr rfl)
  refine j_putF X 6 0 rfl cw_X6 tyX6 tyX6_ok nmX6 fl_X6_12 (by decide) rfl hname rfl dX6_init_12 m_q (up_n n_q_k1 (up_n n_q_k2 (up_n n_q_k1 hf_q))) rfl rfl (Nat.le_of_ble_eq_true rfl) ?_
  dsimp only [List.set]
  refine j_aload_n X (i := 0) dX6_init_15 rfl rfl ?_
  refine j_new X 1 cw_X1 tyX1 tyX1_ok cl_X6_18 is_X1 in_X1 rfl df1_ok ⟨(by decide), (by decide)⟩ dX6_init_16 (fun k3 hk3 => ?_)
  have n_q_k3 : q ≠ k3 := fun h => hk3 (h ▸ m_q)
  have n_k1_k3 : k1 ≠ k3 := fun h => hk3 (h ▸ m_k1)
  have n_k2_k3 : k2 ≠ k3 := fun h => hk3 (h ▸ m_k2)
  have m_q := List.mem_append_left [k3] m_q
  have m_k1 := List.mem_append_left [k3] m_k1
  have m_k2 := List.mem_append_left [k3] m_k2
  have m_k3 : k3 ∈ ((L ++ [k1]) ++ [k2]) ++ [k3] := List.mem_append_right _ (List.mem_singleton.mpr rfl)
  refine j_dup X dX6_init_19 rfl ?_
  refine j_callIN X (k_X1_init hl m_k3 up_s) (List.mem_of_getElem? (i := 5) rfl) im_yX1_init in_X1 cd_yX1_init rfl hi_yX1_init dX6_init_20 ⟨(by decide), (by decide)⟩ ⟨(by decide), (by decide)⟩ (Nat.le_of_ble_eq_true rfl) (fun _ h => h.elim) (fun r9 L9 f9 h9 => ?_)
  obtain ⟨h91, k4, hk4, h92, h93⟩ := h9
  subst r9
  subst f9
  subst L9
  dsimp only [Option.toList, List.nil_append]
  have n_q_k4 : q ≠ k4 := fun h => hk4 (h ▸ m_q)
  have n_k1_k4 : k1 ≠ k4 := fun h => hk4 (h ▸ m_k1)
  have n_k2_k4 : k2 ≠ k4 := fun h => hk4 (h ▸ m_k2)
  have n_k3_k4 : k3 ≠ k4 := fun h => hk4 (h ▸ m_k3)
  have m_q := List.mem_append_left [k4] m_q
  have m_k1 := List.mem_append_left [k4] m_k1
  have m_k2 := List.mem_append_left [k4] m_k2
  have m_k3 := List.mem_append_left [k4] m_k3
  have m_k4 : k4 ∈ (((L ++ [k1]) ++ [k2]) ++ [k3]) ++ [k4] := List.mem_append_right _ (List.mem_singleton.mpr rfl)
  refine j_putF X 6 1 rfl cw_X6 tyX6 tyX6_ok nmX6 fl_X6_21 (by decide) rfl hname rfl dX6_init_23 m_q (up_n n_q_k3 (up_n n_q_k4 (up_n n_q_k3 up_s))) rfl rfl (Nat.le_of_ble_eq_true rfl) ?_
  dsimp only [List.set]
  refine j_aload_n X (i := 0) dX6_init_26 rfl rfl ?_
  refine j_new X 5 cw_X5 tyX5 tyX5_ok cl_X6_25 is_X5 in_X5 rfl df5_ok ⟨(by decide), (by decide)⟩ dX6_init_27 (fun k5 hk5 => ?_)
  have n_q_k5 : q ≠ k5 := fun h => hk5 (h ▸ m_q)
  have n_k1_k5 : k1 ≠ k5 := fun h => hk5 (h ▸ m_k1)
  have n_k2_k5 : k2 ≠ k5 := fun h => hk5 (h ▸ m_k2)
  have n_k3_k5 : k3 ≠ k5 := fun h => hk5 (h ▸ m_k3)
  have n_k4_k5 : k4 ≠ k5 := fun h => hk5 (h ▸ m_k4)
  have m_q := List.mem_append_left [k5] m_q
  have m_k1 := List.mem_append_left [k5] m_k1
  have m_k2 := List.mem_append_left [k5] m_k2
  have m_k3 := List.mem_append_left [k5] m_k3
  have m_k4 := List.mem_append_left [k5] m_k4
  have m_k5 : k5 ∈ ((((L ++ [k1]) ++ [k2]) ++ [k3]) ++ [k4]) ++ [k5] := List.mem_append_right _ (List.mem_singleton.mpr rfl)
  refine j_dup X dX6_init_30 rfl ?_
  refine j_callIN X (k_X5_init hl m_k5 up_s) (List.mem_of_getElem? (i := 6) rfl) im_yX5_init in_X5 cd_yX5_init rfl hi_yX5_init dX6_init_31 ⟨(by decide), (by decide)⟩ ⟨(by decide), (by decide)⟩ (Nat.le_of_ble_eq_true rfl) (fun _ h => h.elim) (fun r9 L9 f9 h9 => ?_)
  obtain ⟨h91, k6, hk6, h92, h93⟩ := h9
  subst r9
  subst f9
  subst L9
  dsimp only [Option.toList, List.nil_append]
  have n_q_k6 : q ≠ k6 := fun h => hk6 (h ▸ m_q)
  have n_k1_k6 : k1 ≠ k6 := fun h => hk6 (h ▸ m_k1)
  have n_k2_k6 : k2 ≠ k6 := fun h => hk6 (h ▸ m_k2)
  have n_k3_k6 : k3 ≠ k6 := fun h => hk6 (h ▸ m_k3)
  have n_k4_k6 : k4 ≠ k6 := fun h => hk6 (h ▸ m_k4)
  have n_k5_k6 : k5 ≠ k6 := fun h => hk6 (h ▸ m_k5)
  have m_q := List.mem_append_left [k6] m_q
  have m_k1 := List.mem_append_left [k6] m_k1
  have m_k2 := List.mem_append_left [k6] m_k2
  have m_k3 := List.mem_append_left [k6] m_k3
  have m_k4 := List.mem_append_left [k6] m_k4
  have m_k5 := List.mem_append_left [k6] m_k5
  have m_k6 : k6 ∈ (((((L ++ [k1]) ++ [k2]) ++ [k3]) ++ [k4]) ++ [k5]) ++ [k6] := List.mem_append_right _ (List.mem_singleton.mpr rfl)
  refine j_putf X 6 2 rfl cw_X6 tyX6 tyX6_ok nmX6 fl_X6_28 (by decide) rfl dX6_init_34 m_q (up_n n_q_k5 (up_n n_q_k6 (up_n n_q_k5 up_s))) rfl rfl (Nat.le_of_ble_eq_true rfl) ?_
  dsimp only [List.set]
  refine j_aload_n X (i := 0) dX6_init_37 rfl rfl ?_
  refine j_new X 5 cw_X5 tyX5 tyX5_ok cl_X6_25 is_X5 in_X5 rfl df5_ok ⟨(by decide), (by decide)⟩ dX6_init_38 (fun k7 hk7 => ?_)
  have n_q_k7 : q ≠ k7 := fun h => hk7 (h ▸ m_q)
  have n_k1_k7 : k1 ≠ k7 := fun h => hk7 (h ▸ m_k1)
  have n_k2_k7 : k2 ≠ k7 := fun h => hk7 (h ▸ m_k2)
  have n_k3_k7 : k3 ≠ k7 := fun h => hk7 (h ▸ m_k3)
  have n_k4_k7 : k4 ≠ k7 := fun h => hk7 (h ▸ m_k4)
  have n_k5_k7 : k5 ≠ k7 := fun h => hk7 (h ▸ m_k5)
  have n_k6_k7 : k6 ≠ k7 := fun h => hk7 (h ▸ m_k6)
  have m_q := List.mem_append_left [k7] m_q
  have m_k1 := List.mem_append_left [k7] m_k1
  have m_k2 := List.mem_append_left [k7] m_k2
  have m_k3 := List.mem_append_left [k7] m_k3
  have m_k4 := List.mem_append_left [k7] m_k4
  have m_k5 := List.mem_append_left [k7] m_k5
  have m_k6 := List.mem_append_left [k7] m_k6
  have m_k7 : k7 ∈ ((((((L ++ [k1]) ++ [k2]) ++ [k3]) ++ [k4]) ++ [k5]) ++ [k6]) ++ [k7] := List.mem_append_right _ (List.mem_singleton.mpr rfl)
  refine j_dup X dX6_init_41 rfl ?_
  refine j_callIN X (k_X5_init hl m_k7 up_s) (List.mem_of_getElem? (i := 6) rfl) im_yX5_init in_X5 cd_yX5_init rfl hi_yX5_init dX6_init_42 ⟨(by decide), (by decide)⟩ ⟨(by decide), (by decide)⟩ (Nat.le_of_ble_eq_true rfl) (fun _ h => h.elim) (fun r9 L9 f9 h9 => ?_)
  obtain ⟨h91, k8, hk8, h92, h93⟩ := h9
  subst r9
  subst f9
  subst L9
  dsimp only [Option.toList, List.nil_append]
  have n_q_k8 : q ≠ k8 := fun h => hk8 (h ▸ m_q)
  have n_k1_k8 : k1 ≠ k8 := fun h => hk8 (h ▸ m_k1)
  have n_k2_k8 : k2 ≠ k8 := fun h => hk8 (h ▸ m_k2)
  have n_k3_k8 : k3 ≠ k8 := fun h => hk8 (h ▸ m_k3)
  have n_k4_k8 : k4 ≠ k8 := fun h => hk8 (h ▸ m_k4)
  have n_k5_k8 : k5 ≠ k8 := fun h => hk8 (h ▸ m_k5)
  have n_k6_k8 : k6 ≠ k8 := fun h => hk8 (h ▸ m_k6)
  have n_k7_k8 : k7 ≠ k8 := fun h => hk8 (h ▸ m_k7)
  have m_q := List.mem_append_left [k8] m_q
  have m_k1 := List.mem_append_left [k8] m_k1
  have m_k2 := List.mem_append_left [k8] m_k2
  have m_k3 := List.mem_append_left [k8] m_k3
  have m_k4 := List.mem_append_left [k8] m_k4
  have m_k5 := List.mem_append_left [k8] m_k5
  have m_k6 := List.mem_append_left [k8] m_k6
  have m_k7 := List.mem_append_left [k8] m_k7
  have m_k8 : k8 ∈ (((((((L ++ [k1]) ++ [k2]) ++ [k3]) ++ [k4]) ++ [k5]) ++ [k6]) ++ [k7]) ++ [k8] := List.mem_append_right _ (List.mem_singleton.mpr rfl)
  refine j_putf X 6 3 rfl cw_X6 tyX6 tyX6_ok nmX6 fl_X6_32 (by decide) rfl dX6_init_45 m_q (up_n n_q_k7 (up_n n_q_k8 (up_n n_q_k7 up_s))) rfl rfl (Nat.le_of_ble_eq_true rfl) ?_
  dsimp only [List.set]
  refine j_aload_n X (i := 0) dX6_init_48 rfl rfl ?_
  refine j_iconst X (-1) dX6_init_49 (by decide) ?_
  refine j_putf X 6 7 rfl cw_X6 tyX6 tyX6_ok nmX6 fl_X6_35 (by decide) rfl dX6_init_50 m_q up_s rfl rfl (Nat.le_of_ble_eq_true rfl) ?_
  dsimp only [List.set]
  rw [up_up]
  refine j_aload_n X (i := 0) dX6_init_53 rfl rfl ?_
  refine j_iconst X (-1) dX6_init_54 (by decide) ?_
  refine j_putf X 6 8 rfl cw_X6 tyX6 tyX6_ok nmX6 fl_X6_39 (by decide) rfl dX6_init_55 m_q up_s rfl rfl (Nat.le_of_ble_eq_true rfl) ?_
  dsimp only [List.set]
  rw [up_up]
  refine j_aload_n X (i := 0) dX6_init_58 rfl rfl ?_
  refine j_getf X 6 0 rfl cw_X6 fl_X6_12 (by decide) dX6_init_59 m_q up_s rfl ?_
  refine j_iconst X (1) dX6_init_62 (by decide) ?_
  refine j_putf X 4 1 rfl cw_X4 tyX4 tyX4_ok nmX4 fl_X6_42 (by decide) rfl dX6_init_63 m_k1 (up_n (Ne.symm n_q_k1) (up_n n_k1_k7 (up_n n_k1_k8 (up_n n_k1_k7 (up_n (Ne.symm n_q_k1) (up_n n_k1_k5 (up_n n_k1_k6 (up_n n_k1_k5 (up_n (Ne.symm n_q_k1) (up_n n_k1_k3 (up_n n_k1_k4 (up_n n_k1_k3 (up_n (Ne.symm n_q_k1) up_s))))))))))))) rfl rfl (Nat.le_of_ble_eq_true rfl) ?_
  dsimp only [List.set]
  refine j_aload_n X (i := 0) dX6_init_66 rfl rfl ?_
  refine j_getf X 6 0 rfl cw_X6 fl_X6_12 (by decide) dX6_init_67 m_q (up_n n_q_k1 up_s) rfl ?_
  refine j_iconst X (0) dX6_init_70 (by decide) ?_
  refine j_iconst X (1) dX6_init_71 (by decide) ?_
  refine j_sipush X (3000) dX6_init_72 (by decide) ?_
  refine j_callV3 X 4 (c_X4_setNumber hl m_k1 up_s m_k2 (up_n (Ne.symm n_k1_k2) (up_n (Ne.symm n_q_k2) (up_n n_k2_k7 (up_n n_k2_k8 (up_n n_k2_k7 (up_n (Ne.symm n_q_k2) (up_n n_k2_k5 (up_n n_k2_k6 (up_n n_k2_k5 (up_n (Ne.symm n_q_k2) (up_n n_k2_k3 (up_n n_k2_k4 (up_n n_k2_k3 (up_n (Ne.symm n_q_k2) (up_n (Ne.symm n_k1_k2) up_s)))))))))))))))) ml_X6_45 im_yX4_setNumber se_yX4_setNumber in_X4 cd_yX4_setNumber hy_yX4_setNumber dX6_init_75 rfl m_k1 up_s ⟨(by decide), (by decide)⟩ ⟨(by decide), (by decide)⟩ (Nat.le_of_ble_eq_true rfl) (fun _ h => h.elim) (fun r9 L9 f9 h9 => ?_)
  obtain ⟨h91, h92, h93⟩ := h9
  rw [put_time] at h92
  subst r9
  subst f9
  subst L9
  dsimp only [Option.toList, List.nil_append]
  refine j_aload_n X (i := 0) dX6_init_78 rfl rfl ?_
  refine j_getf X 6 2 rfl cw_X6 fl_X6_28 (by decide) dX6_init_79 m_q (up_n n_q_k2 (up_n n_q_k1 up_s)) rfl ?_
  refine j_aload_n X (i := 0) dX6_init_82 rfl rfl ?_
  refine j_getf X 6 0 rfl cw_X6 fl_X6_12 (by decide) dX6_init_83 m_q (up_n n_q_k2 (up_n n_q_k1 up_s)) rfl ?_
  refine j_callV1 X 5 (k_setUp hl m_k5 m_k6 m_k1 m_k2 n_k5_k6 (Ne.symm n_k1_k5) (Ne.symm n_k2_k5) (Ne.symm n_k1_k6) (Ne.symm n_k2_k6) n_k1_k2 (up_n (Ne.symm n_k2_k5) (up_n (Ne.symm n_k1_k5) (up_n (Ne.symm n_q_k5) (up_n n_k5_k7 (up_n n_k5_k8 (up_n n_k5_k7 (up_n (Ne.symm n_q_k5) up_s))))))) (up_n (Ne.symm n_k2_k6) (up_n (Ne.symm n_k1_k6) (up_n (Ne.symm n_q_k6) (up_n n_k6_k7 (up_n n_k6_k8 (up_n n_k6_k7 (up_n (Ne.symm n_q_k6) (up_n (Ne.symm n_k5_k6) up_s)))))))) (up_n n_k1_k2 up_s) up_s rN_tm0) ml_X6_49 im_yX5_setUp se_yX5_setUp in_X5 cd_yX5_setUp hy_yX5_setUp dX6_init_86 rfl m_k5 (up_n (Ne.symm n_k2_k5) (up_n (Ne.symm n_k1_k5) (up_n (Ne.symm n_q_k5) (up_n n_k5_k7 (up_n n_k5_k8 (up_n n_k5_k7 (up_n (Ne.symm n_q_k5) up_s))))))) ⟨(by decide), (by decide)⟩ ⟨(by decide), (by decide)⟩ (Nat.le_of_ble_eq_true rfl) (fun _ h => h.elim) (fun r9 L9 f9 h9 => ?_)
  obtain ⟨h91, h92, h93⟩ := h9
  subst r9
  subst f9
  subst L9
  dsimp only [Option.toList, List.nil_append]
  refine j_aload_n X (i := 0) dX6_init_89 rfl rfl ?_
  refine j_getf X 6 3 rfl cw_X6 fl_X6_32 (by decide) dX6_init_90 m_q (up_n n_q_k5 (up_n n_q_k6 (up_n n_q_k2 (up_n n_q_k1 up_s)))) rfl ?_
  refine j_aload_n X (i := 0) dX6_init_93 rfl rfl ?_
  refine j_getf X 6 0 rfl cw_X6 fl_X6_12 (by decide) dX6_init_94 m_q (up_n n_q_k5 (up_n n_q_k6 (up_n n_q_k2 (up_n n_q_k1 up_s)))) rfl ?_
  refine j_callV1 X 5 (k_setUp hl m_k7 m_k8 m_k1 m_k2 n_k7_k8 (Ne.symm n_k1_k7) (Ne.symm n_k2_k7) (Ne.symm n_k1_k8) (Ne.symm n_k2_k8) n_k1_k2 (up_n (Ne.symm n_k5_k7) (up_n (Ne.symm n_k6_k7) (up_n (Ne.symm n_k2_k7) (up_n (Ne.symm n_k1_k7) (up_n (Ne.symm n_q_k7) up_s))))) (up_n (Ne.symm n_k5_k8) (up_n (Ne.symm n_k6_k8) (up_n (Ne.symm n_k2_k8) (up_n (Ne.symm n_k1_k8) (up_n (Ne.symm n_q_k8) (up_n (Ne.symm n_k7_k8) up_s)))))) (up_n n_k1_k5 (up_n n_k1_k6 (up_n n_k1_k2 up_s))) (up_n n_k2_k5 (up_n n_k2_k6 up_s)) rN_tm0) ml_X6_49 im_yX5_setUp se_yX5_setUp in_X5 cd_yX5_setUp hy_yX5_setUp dX6_init_97 rfl m_k7 (up_n (Ne.symm n_k5_k7) (up_n (Ne.symm n_k6_k7) (up_n (Ne.symm n_k2_k7) (up_n (Ne.symm n_k1_k7) (up_n (Ne.symm n_q_k7) up_s))))) ⟨(by decide), (by decide)⟩ ⟨(by decide), (by decide)⟩ (Nat.le_of_ble_eq_true rfl) (fun _ h => h.elim) (fun r9 L9 f9 h9 => ?_)
  obtain ⟨h91, h92, h93⟩ := h9
  subst r9
  subst f9
  subst L9
  dsimp only [Option.toList, List.nil_append]
  refine q_vret X hQ dX6_init_100 rfl ⟨(by decide), (by decide)⟩ ⟨rfl, k1, k2, k3, k4, k5, k6, k7, k8, hk1, hk2, hk3, hk4, hk5, hk6, hk7, hk8, rfl, ?_⟩
  funext x9
  by_cases e_q : x9 = q
  · rw [e_q]
    exact (((up_n n_q_k7 (up_n n_q_k8 (up_n n_q_k5 (up_n n_q_k6 (up_n n_q_k2 (up_n n_q_k1 up_s)))))) : _ = ((.inr (6, [.ref k1, .ref k3, .ref k5, .ref k7, .int 0, .int 0, .int 0, .int (-1), .int (-1), .int 0, .int 0, .int 0])) : va_E)).trans ((up_n n_q_k7 (up_n n_q_k8 (up_n n_q_k5 (up_n n_q_k6 (up_n n_q_k2 (up_n n_q_k1 up_s)))))) : _ = ((.inr (6, [.ref k1, .ref k3, .ref k5, .ref k7, .int 0, .int 0, .int 0, .int (-1), .int (-1), .int 0, .int 0, .int 0])) : va_E)).symm)
  by_cases e_k1 : x9 = k1
  · rw [e_k1]
    exact (((up_n n_k1_k7 (up_n n_k1_k8 (up_n n_k1_k5 (up_n n_k1_k6 (up_n n_k1_k2 up_s))))) : _ = ((.inr (4, [.ref k2, .int (1), .int 0, .int 0, .int (-1)])) : va_E)).trans ((up_n n_k1_k7 (up_n n_k1_k8 (up_n n_k1_k5 (up_n n_k1_k6 (up_n n_k1_k2 up_s))))) : _ = ((.inr (4, [.ref k2, .int (1), .int 0, .int 0, .int (-1)])) : va_E)).symm)
  by_cases e_k2 : x9 = k2
  · rw [e_k2]
    exact (((up_n n_k2_k7 (up_n n_k2_k8 (up_n n_k2_k5 (up_n n_k2_k6 up_s)))) : _ = ((aI G 25 tm0) : va_E)).trans ((up_n n_k2_k7 (up_n n_k2_k8 (up_n n_k2_k5 (up_n n_k2_k6 up_s)))) : _ = ((aI G 25 tm0) : va_E)).symm)
  by_cases e_k3 : x9 = k3
  · rw [e_k3]
    exact (((up_n n_k3_k7 (up_n n_k3_k8 (up_n n_k3_k5 (up_n n_k3_k6 (up_n (Ne.symm n_k2_k3) (up_n (Ne.symm n_k1_k3) (up_n (Ne.symm n_q_k3) (up_n n_k3_k7 (up_n n_k3_k8 (up_n n_k3_k7 (up_n (Ne.symm n_q_k3) (up_n n_k3_k5 (up_n n_k3_k6 (up_n n_k3_k5 (up_n (Ne.symm n_q_k3) up_s))))))))))))))) : _ = ((.inr (1, [.ref k4, .int 0, .int 0])) : va_E)).trans ((up_n n_k3_k7 (up_n n_k3_k8 (up_n n_k3_k5 (up_n n_k3_k6 (up_n (Ne.symm n_k2_k3) (up_n (Ne.symm n_k1_k3) (up_n (Ne.symm n_q_k3) up_s))))))) : _ = ((.inr (1, [.ref k4, .int 0, .int 0])) : va_E)).symm)
  by_cases e_k4 : x9 = k4
  · rw [e_k4]
    exact (((up_n n_k4_k7 (up_n n_k4_k8 (up_n n_k4_k5 (up_n n_k4_k6 (up_n (Ne.symm n_k2_k4) (up_n (Ne.symm n_k1_k4) (up_n (Ne.symm n_q_k4) (up_n n_k4_k7 (up_n n_k4_k8 (up_n n_k4_k7 (up_n (Ne.symm n_q_k4) (up_n n_k4_k5 (up_n n_k4_k6 (up_n n_k4_k5 (up_n (Ne.symm n_q_k4) (up_n (Ne.symm n_k3_k4) up_s)))))))))))))))) : _ = ((aI G 240 z0) : va_E)).trans ((up_n n_k4_k7 (up_n n_k4_k8 (up_n n_k4_k5 (up_n n_k4_k6 (up_n (Ne.symm n_k2_k4) (up_n (Ne.symm n_k1_k4) (up_n (Ne.symm n_q_k4) (up_n (Ne.symm n_k3_k4) up_s)))))))) : _ = ((aI G 240 z0) : va_E)).symm)
  by_cases e_k5 : x9 = k5
  · rw [e_k5]
    exact (((up_n n_k5_k7 (up_n n_k5_k8 up_s)) : _ = ((.inr (5, [.ref k6, .int 3000, .int 0, .int 0, .int 0, .int 0, .int 0, .int 0, .int 0, .int 0, .int 0, .int 0, .int 0])) : va_E)).trans ((up_n n_k5_k7 (up_n n_k5_k8 up_s)) : _ = ((.inr (5, [.ref k6, .int 3000, .int 0, .int 0, .int 0, .int 0, .int 0, .int 0, .int 0, .int 0, .int 0, .int 0, .int 0])) : va_E)).symm)
  by_cases e_k6 : x9 = k6
  · rw [e_k6]
    exact (((up_n n_k6_k7 (up_n n_k6_k8 (up_n (Ne.symm n_k5_k6) up_s))) : _ = ((aI G 5 z0) : va_E)).trans ((up_n n_k6_k7 (up_n n_k6_k8 (up_n (Ne.symm n_k5_k6) up_s))) : _ = ((aI G 5 z0) : va_E)).symm)
  by_cases e_k7 : x9 = k7
  · rw [e_k7]
    exact ((up_s : _ = ((.inr (5, [.ref k8, .int 3000, .int 0, .int 0, .int 0, .int 0, .int 0, .int 0, .int 0, .int 0, .int 0, .int 0, .int 0])) : va_E)).trans (up_s : _ = ((.inr (5, [.ref k8, .int 3000, .int 0, .int 0, .int 0, .int 0, .int 0, .int 0, .int 0, .int 0, .int 0, .int 0, .int 0])) : va_E)).symm)
  by_cases e_k8 : x9 = k8
  · rw [e_k8]
    exact (((up_n (Ne.symm n_k7_k8) up_s) : _ = ((aI G 5 z0) : va_E)).trans ((up_n (Ne.symm n_k7_k8) up_s) : _ = ((aI G 5 z0) : va_E)).symm)
  simp only [va_up, if_neg e_q, if_neg e_k1, if_neg e_k2, if_neg e_k3, if_neg e_k4, if_neg e_k5, if_neg e_k6, if_neg e_k7, if_neg e_k8]

