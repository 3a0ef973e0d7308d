set_option maxRecDepth 100000 in
set_option maxHeartbeats 8000000 in
theorem k_X8_init {l : Launch} (hl : l.stackTraces = false) {G : GG} {f : Nat → va_E} {q : Nat} (hf_q : f q = .inr (8, df8)) : Ct l G yX8_init (.code yX8_init cX8_init 2 none) 5 101 95 3640 [.ref q] [q] f px0 (fun r L1 f1 => r = none ∧ L1.Nodup ∧ L1.length = 96 ∧ L1.head? = some q ∧ ∀ k, k < 96 → f1 (ad L1 k) = cnt G L1 k (a0 k)) := by
  refine Ct.ofqn (own := RX8) hl rfl (by decide) [some (.ref q), none] rfl (Nat.le_of_ble_eq_true rfl) ?_
  intro p e s m below meth c A ar Q hQ hname X
  have m_q : q ∈ [q] := List.mem_singleton.mpr rfl
  refine j_aload_n X (i := 0) dX8_init_0 rfl rfl ?_
  refine j_objInit X ml_X8_1 dX8_init_1 ⟨(by decide), (Nat.le_of_ble_eq_true rfl)⟩ ?_
  refine j_aload_n X (i := 0) dX8_init_4 rfl rfl ?_
  refine j_new X 3 cw_X3 tyX3 tyX3_ok cl_X8_7 is_X3 in_X3 rfl df3_ok ⟨(by decide), (by decide)⟩ dX8_init_5 (fun k1 hk1 => ?_)
  have n_q_k1 : q ≠ k1 := fun h => hk1 (h ▸ m_q)
  have m_q := List.mem_append_left [k1] m_q
  have m_k1 : k1 ∈ [q] ++ [k1] := List.mem_append_right _ (List.mem_singleton.mpr rfl)
  refine j_dup X dX8_init_8 rfl ?_
  refine j_callIN X (k_X3_init hl m_k1 up_s) (List.mem_of_getElem? (i := 0) rfl) im_yX3_init in_X3 cd_yX3_init rfl hi_yX3_init dX8_init_9 ⟨(by decide), (by decide)⟩ ⟨(by decide), (by decide)⟩ (Nat.le_of_ble_eq_true rfl) (fun _ h => h.elim) (fun r9 L9 f9_1 h9 => ?_)
  obtain ⟨h91, k2, k3, k4, k5, hk2, hk3, hk4, hk5, h92, h93⟩ := h9
  subst r9
  subst L9
  dsimp only [Option.toList, List.nil_append]
  have n_q_k2 : q ≠ k2 := fun h => hk2 (h ▸ m_q)
  have n_k1_k2 : k1 ≠ k2 := fun h => hk2 (h ▸ m_k1)
  have m_q := List.mem_append_left [k2] m_q
  have m_k1 := List.mem_append_left [k2] m_k1
  have m_k2 : k2 ∈ ([q] ++ [k1]) ++ [k2] := List.mem_append_right _ (List.mem_singleton.mpr rfl)
  have n_q_k3 : q ≠ k3 := fun h => hk3 (h ▸ m_q)
  have n_k1_k3 : k1 ≠ k3 := fun h => hk3 (h ▸ m_k1)
  have n_k2_k3 : k2 ≠ k3 := fun h => hk3 (h ▸ m_k2)
  have m_q := List.mem_append_left [k3] m_q
  have m_k1 := List.mem_append_left [k3] m_k1
  have m_k2 := List.mem_append_left [k3] m_k2
  have m_k3 : k3 ∈ (([q] ++ [k1]) ++ [k2]) ++ [k3] := List.mem_append_right _ (List.mem_singleton.mpr rfl)
  have n_q_k4 : q ≠ k4 := fun h => hk4 (h ▸ m_q)
  have n_k1_k4 : k1 ≠ k4 := fun h => hk4 (h ▸ m_k1)
  have n_k2_k4 : k2 ≠ k4 := fun h => hk4 (h ▸ m_k2)
  have n_k3_k4 : k3 ≠ k4 := fun h => hk4 (h ▸ m_k3)
  have m_q := List.mem_append_left [k4] m_q
  have m_k1 := List.mem_append_left [k4] m_k1
  have m_k2 := List.mem_append_left [k4] m_k2
  have m_k3 := List.mem_append_left [k4] m_k3
  have m_k4 : k4 ∈ ((([q] ++ [k1]) ++ [k2]) ++ [k3]) ++ [k4] := List.mem_append_right _ (List.mem_singleton.mpr rfl)
  have n_q_k5 : q ≠ k5 := fun h => hk5 (h ▸ m_q)
  have n_k1_k5 : k1 ≠ k5 := fun h => hk5 (h ▸ m_k1)
  have n_k2_k5 : k2 ≠ k5 := fun h => hk5 (h ▸ m_k2)
  have n_k3_k5 : k3 ≠ k5 := fun h => hk5 (h ▸ m_k3)
  have n_k4_k5 : k4 ≠ k5 := fun h => hk5 (h ▸ m_k4)
  have m_q := List.mem_append_left [k5] m_q
  have m_k1 := List.mem_append_left [k5] m_k1
  have m_k2 := List.mem_append_left [k5] m_k2
  have m_k3 := List.mem_append_left [k5] m_k3
  have m_k4 := List.mem_append_left [k5] m_k4
  have m_k5 : k5 ∈ (((([q] ++ [k1]) ++ [k2]) ++ [k3]) ++ [k4]) ++ [k5] := List.mem_append_right _ (List.mem_singleton.mpr rfl)
  have hg_q : f9_1 q = (.inr (8, [.null, .null, .null, .null, .null, .null, .int 0, .int 0, .null])) := by rw [h93]; exact (up_n n_q_k1 (up_n n_q_k4 (up_n n_q_k5 (up_n n_q_k2 (up_n n_q_k3 (up_n n_q_k1 hf_q))))))
  have hg_k1 : f9_1 k1 = (.inr (3, [.ref k2, .ref k4, .int 0, .int (-1), .int 0, .int 0, .int (-1), .int 0, .int 0, .int 0, .int 0])) := by rw [h93]; exact up_s
  have hg_k2 : f9_1 k2 = (.inr (0, [.ref k3, .int 0])) := by rw [h93]; exact (up_n (Ne.symm n_k1_k2) (up_n n_k2_k4 (up_n n_k2_k5 up_s)))
  have hg_k3 : f9_1 k3 = (aB G 400 z0) := by rw [h93]; exact (up_n (Ne.symm n_k1_k3) (up_n n_k3_k4 (up_n n_k3_k5 (up_n (Ne.symm n_k2_k3) up_s))))
  have hg_k4 : f9_1 k4 = (.inr (4, [.ref k5, .int 0, .int 0, .int 0, .int (-1)])) := by rw [h93]; exact (up_n (Ne.symm n_k1_k4) up_s)
  have hg_k5 : f9_1 k5 = (aI G 25 z0) := by rw [h93]; exact (up_n (Ne.symm n_k1_k5) (up_n (Ne.symm n_k4_k5) up_s))
  have hf_q := hg_q
  have hf_k1 := hg_k1
  have hf_k2 := hg_k2
  have hf_k3 := hg_k3
  have hf_k4 := hg_k4
  have hf_k5 := hg_k5
  clear h93
  refine j_putF X 8 0 rfl cw_X8 tyX8 tyX8_ok nmX8 fl_X8_10 (by decide) rfl hname rfl dX8_init_12 m_q hf_q rfl rfl (Nat.le_of_ble_eq_true rfl) ?_
  dsimp only [List.set]
  refine j_aload_n X (i := 0) dX8_init_15 rfl rfl ?_
  refine j_aload_n X (i := 0) dX8_init_16 rfl rfl ?_
  refine j_getf X 8 0 rfl cw_X8 fl_X8_10 (by decide) dX8_init_17 m_q up_s rfl ?_
  refine j_getf X 3 0 rfl cw_X3 fl_X8_16 (by decide) dX8_init_20 m_k1 (up_n (Ne.symm n_q_k1) hf_k1) rfl ?_
  refine j_putF X 8 1 rfl cw_X8 tyX8 tyX8_ok nmX8 fl_X8_20 (by decide) rfl hname rfl dX8_init_23 m_q up_s rfl rfl (Nat.le_of_ble_eq_true rfl) ?_
  dsimp only [List.set]
  rw [up_up]
  refine j_aload_n X (i := 0) dX8_init_26 rfl rfl ?_
  refine j_new X 2 cw_X2 tyX2 tyX2_ok cl_X8_21 is_X2 in_X2 rfl df2_ok ⟨(by decide), (by decide)⟩ dX8_init_27 (fun k6 hk6 => ?_)
  have n_q_k6 : q ≠ k6 := fun h => hk6 (h ▸ m_q)
  have n_k1_k6 : k1 ≠ k6 := fun h => hk6 (h ▸ m_k1)
  have n_k2_k6 : k2 ≠ k6 := fun h => hk6 (h ▸ m_k2)
  have n_k3_k6 : k3 ≠ k6 := fun h => hk6 (h ▸ m_k3)
  have n_k4_k6 : k4 ≠ k6 := fun h => hk6 (h ▸ m_k4)
  have n_k5_k6 : k5 ≠ k6 := fun h => hk6 (h ▸ m_k5)
  have m_q := List.mem_append_left [k6] m_q
  have m_k1 := List.mem_append_left [k6] m_k1
  have m_k2 := List.mem_append_left [k6] m_k2
  have m_k3 := List.mem_append_left [k6] m_k3
  have m_k4 := List.mem_append_left [k6] m_k4
  have m_k5 := List.mem_append_left [k6] m_k5
  have m_k6 : k6 ∈ ((((([q] ++ [k1]) ++ [k2]) ++ [k3]) ++ [k4]) ++ [k5]) ++ [k6] := List.mem_append_right _ (List.mem_singleton.mpr rfl)
  refine j_dup X dX8_init_30 rfl ?_
  refine j_callIN X (k_X2_init hl m_k6 up_s) (List.mem_of_getElem? (i := 3) rfl) im_yX2_init in_X2 cd_yX2_init rfl hi_yX2_init dX8_init_31 ⟨(by decide), (by decide)⟩ ⟨(by decide), (by decide)⟩ (Nat.le_of_ble_eq_true rfl) (fun _ h => h.elim) (fun r9 L9 f9_2 h9 => ?_)
  obtain ⟨h91, k7, hk7, h92, h93⟩ := h9
  subst r9
  subst L9
  dsimp only [Option.toList, List.nil_append]
  have n_q_k7 : q ≠ k7 := fun h => hk7 (h ▸ m_q)
  have n_k1_k7 : k1 ≠ k7 := fun h => hk7 (h ▸ m_k1)
  have n_k2_k7 : k2 ≠ k7 := fun h => hk7 (h ▸ m_k2)
  have n_k3_k7 : k3 ≠ k7 := fun h => hk7 (h ▸ m_k3)
  have n_k4_k7 : k4 ≠ k7 := fun h => hk7 (h ▸ m_k4)
  have n_k5_k7 : k5 ≠ k7 := fun h => hk7 (h ▸ m_k5)
  have n_k6_k7 : k6 ≠ k7 := fun h => hk7 (h ▸ m_k6)
  have m_q := List.mem_append_left [k7] m_q
  have m_k1 := List.mem_append_left [k7] m_k1
  have m_k2 := List.mem_append_left [k7] m_k2
  have m_k3 := List.mem_append_left [k7] m_k3
  have m_k4 := List.mem_append_left [k7] m_k4
  have m_k5 := List.mem_append_left [k7] m_k5
  have m_k6 := List.mem_append_left [k7] m_k6
  have m_k7 : k7 ∈ (((((([q] ++ [k1]) ++ [k2]) ++ [k3]) ++ [k4]) ++ [k5]) ++ [k6]) ++ [k7] := List.mem_append_right _ (List.mem_singleton.mpr rfl)
  have hg_q : f9_2 q = (.inr (8, [.ref k1, .ref k2, .null, .null, .null, .null, .int 0, .int 0, .null])) := by rw [h93]; exact (up_n n_q_k6 (up_n n_q_k7 (up_n n_q_k6 up_s)))
  have hg_k1 : f9_2 k1 = (.inr (3, [.ref k2, .ref k4, .int 0, .int (-1), .int 0, .int 0, .int (-1), .int 0, .int 0, .int 0, .int 0])) := by rw [h93]; exact (up_n n_k1_k6 (up_n n_k1_k7 (up_n n_k1_k6 (up_n (Ne.symm n_q_k1) hf_k1))))
  have hg_k2 : f9_2 k2 = (.inr (0, [.ref k3, .int 0])) := by rw [h93]; exact (up_n n_k2_k6 (up_n n_k2_k7 (up_n n_k2_k6 (up_n (Ne.symm n_q_k2) hf_k2))))
  have hg_k3 : f9_2 k3 = (aB G 400 z0) := by rw [h93]; exact (up_n n_k3_k6 (up_n n_k3_k7 (up_n n_k3_k6 (up_n (Ne.symm n_q_k3) hf_k3))))
  have hg_k4 : f9_2 k4 = (.inr (4, [.ref k5, .int 0, .int 0, .int 0, .int (-1)])) := by rw [h93]; exact (up_n n_k4_k6 (up_n n_k4_k7 (up_n n_k4_k6 (up_n (Ne.symm n_q_k4) hf_k4))))
  have hg_k5 : f9_2 k5 = (aI G 25 z0) := by rw [h93]; exact (up_n n_k5_k6 (up_n n_k5_k7 (up_n n_k5_k6 (up_n (Ne.symm n_q_k5) hf_k5))))
  have hg_k6 : f9_2 k6 = (.inr (2, [.ref k7, .int 0])) := by rw [h93]; exact up_s
  have hg_k7 : f9_2 k7 = (aB G 256 z0) := by rw [h93]; exact (up_n (Ne.symm n_k6_k7) up_s)
  have hf_q := hg_q
  have hf_k1 := hg_k1
  have hf_k2 := hg_k2
  have hf_k3 := hg_k3
  have hf_k4 := hg_k4
  have hf_k5 := hg_k5
  have hf_k6 := hg_k6
  have hf_k7 := hg_k7
  clear h93
  refine j_putF X 8 2 rfl cw_X8 tyX8 tyX8_ok nmX8 fl_X8_24 (by decide) rfl hname rfl dX8_init_34 m_q hf_q rfl rfl (Nat.le_of_ble_eq_true rfl) ?_
  dsimp only [List.set]
  refine j_aload_n X (i := 0) dX8_init_37 rfl rfl ?_
  refine j_new X 6 cw_X6 tyX6 tyX6_ok cl_X8_28 is_X6 in_X6 rfl df6_ok ⟨(by decide), (by decide)⟩ dX8_init_38 (fun k8 hk8 => ?_)
  have n_q_k8 : q ≠ k8 := fun h => hk8 (h ▸ m_q)
  have n_k1_k8 : k1 ≠ k8 := fun h => hk8 (h ▸ m_k1)
  have n_k2_k8 : k2 ≠ k8 := fun h => hk8 (h ▸ m_k2)
  have n_k3_k8 : k3 ≠ k8 := fun h => hk8 (h ▸ m_k3)
  have n_k4_k8 : k4 ≠ k8 := fun h => hk8 (h ▸ m_k4)
  have n_k5_k8 : k5 ≠ k8 := fun h => hk8 (h ▸ m_k5)
  have n_k6_k8 : k6 ≠ k8 := fun h => hk8 (h ▸ m_k6)
  have n_k7_k8 : k7 ≠ k8 := fun h => hk8 (h ▸ m_k7)
  have m_q := List.mem_append_left [k8] m_q
  have m_k1 := List.mem_append_left [k8] m_k1
  have m_k2 := List.mem_append_left [k8] m_k2
  have m_k3 := List.mem_append_left [k8] m_k3
  have m_k4 := List.mem_append_left [k8] m_k4
  have m_k5 := List.mem_append_left [k8] m_k5
  have m_k6 := List.mem_append_left [k8] m_k6
  have m_k7 := List.mem_append_left [k8] m_k7
  have m_k8 : k8 ∈ ((((((([q] ++ [k1]) ++ [k2]) ++ [k3]) ++ [k4]) ++ [k5]) ++ [k6]) ++ [k7]) ++ [k8] := List.mem_append_right _ (List.mem_singleton.mpr rfl)
  refine j_dup X dX8_init_41 rfl ?_
  refine j_callI X (k_X6_init hl m_k8 up_s) ml_X8_30 im_yX6_init in_X6 cd_yX6_init rfl hi_yX6_init dX8_init_42 ⟨(by decide), (by decide)⟩ ⟨(by decide), (by decide)⟩ (Nat.le_of_ble_eq_true rfl) (fun _ h => h.elim) (fun r9 L9 f9_3 h9 => ?_)
  obtain ⟨h91, k9, k10, k11, k12, k13, k14, k15, k16, hk9, hk10, hk11, hk12, hk13, hk14, hk15, hk16, h92, h93⟩ := h9
  subst r9
  subst L9
  dsimp only [Option.toList, List.nil_append]
  have n_q_k9 : q ≠ k9 := fun h => hk9 (h ▸ m_q)
  have n_k1_k9 : k1 ≠ k9 := fun h => hk9 (h ▸ m_k1)
  have n_k2_k9 : k2 ≠ k9 := fun h => hk9 (h ▸ m_k2)
  have n_k3_k9 : k3 ≠ k9 := fun h => hk9 (h ▸ m_k3)
  have n_k4_k9 : k4 ≠ k9 := fun h => hk9 (h ▸ m_k4)
  have n_k5_k9 : k5 ≠ k9 := fun h => hk9 (h ▸ m_k5)
  have n_k6_k9 : k6 ≠ k9 := fun h => hk9 (h ▸ m_k6)
  have n_k7_k9 : k7 ≠ k9 := fun h => hk9 (h ▸ m_k7)
  have n_k8_k9 : k8 ≠ k9 := fun h => hk9 (h ▸ m_k8)
  have m_q := List.mem_append_left [k9] m_q
  have m_k1 := List.mem_append_left [k9] m_k1
  have m_k2 := List.mem_append_left [k9] m_k2
  have m_k3 := List.mem_append_left [k9] m_k3
  have m_k4 := List.mem_append_left [k9] m_k4
  have m_k5 := List.mem_append_left [k9] m_k5
  have m_k6 := List.mem_append_left [k9] m_k6
  have m_k7 := List.mem_append_left [k9] m_k7
  have m_k8 := List.mem_append_left [k9] m_k8
  have m_k9 : k9 ∈ (((((((([q] ++ [k1]) ++ [k2]) ++ [k3]) ++ [k4]) ++ [k5]) ++ [k6]) ++ [k7]) ++ [k8]) ++ [k9] := List.mem_append_right _ (List.mem_singleton.mpr rfl)
  have n_q_k10 : q ≠ k10 := fun h => hk10 (h ▸ m_q)
  have n_k1_k10 : k1 ≠ k10 := fun h => hk10 (h ▸ m_k1)
  have n_k2_k10 : k2 ≠ k10 := fun h => hk10 (h ▸ m_k2)
  have n_k3_k10 : k3 ≠ k10 := fun h => hk10 (h ▸ m_k3)
  have n_k4_k10 : k4 ≠ k10 := fun h => hk10 (h ▸ m_k4)
  have n_k5_k10 : k5 ≠ k10 := fun h => hk10 (h ▸ m_k5)
  have n_k6_k10 : k6 ≠ k10 := fun h => hk10 (h ▸ m_k6)
  have n_k7_k10 : k7 ≠ k10 := fun h => hk10 (h ▸ m_k7)
  have n_k8_k10 : k8 ≠ k10 := fun h => hk10 (h ▸ m_k8)
  have n_k9_k10 : k9 ≠ k10 := fun h => hk10 (h ▸ m_k9)
  have m_q := List.mem_append_left [k10] m_q
  have m_k1 := List.mem_append_left [k10] m_k1
  have m_k2 := List.mem_append_left [k10] m_k2
  have m_k3 := List.mem_append_left [k10] m_k3
  have m_k4 := List.mem_append_left [k10] m_k4
  have m_k5 := List.mem_append_left [k10] m_k5
  have m_k6 := List.mem_append_left [k10] m_k6
  have m_k7 := List.mem_append_left [k10] m_k7
  have m_k8 := List.mem_append_left [k10] m_k8
  have m_k9 := List.mem_append_left [k10] m_k9
  have m_k10 : k10 ∈ ((((((((([q] ++ [k1]) ++ [k2]) ++ [k3]) ++ [k4]) ++ [k5]) ++ [k6]) ++ [k7]) ++ [k8]) ++ [k9]) ++ [k10] := List.mem_append_right _ (List.mem_singleton.mpr rfl)
  have n_q_k11 : q ≠ k11 := fun h => hk11 (h ▸ m_q)
  have n_k1_k11 : k1 ≠ k11 := fun h => hk11 (h ▸ m_k1)
  have n_k2_k11 : k2 ≠ k11 := fun h => hk11 (h ▸ m_k2)
  have n_k3_k11 : k3 ≠ k11 := fun h => hk11 (h ▸ m_k3)
  have n_k4_k11 : k4 ≠ k11 := fun h => hk11 (h ▸ m_k4)
  have n_k5_k11 : k5 ≠ k11 := fun h => hk11 (h ▸ m_k5)
  have n_k6_k11 : k6 ≠ k11 := fun h => hk11 (h ▸ m_k6)
  have n_k7_k11 : k7 ≠ k11 := fun h => hk11 (h ▸ m_k7)
  have n_k8_k11 : k8 ≠ k11 := fun h => hk11 (h ▸ m_k8)
  have n_k9_k11 : k9 ≠ k11 := fun h => hk11 (h ▸ m_k9)
  have n_k10_k11 : k10 ≠ k11 := fun h => hk11 (h ▸ m_k10)
  have m_q := List.mem_append_left [k11] m_q
  have m_k1 := List.mem_append_left [k11] m_k1
  have m_k2 := List.mem_append_left [k11] m_k2
  have m_k3 := List.mem_append_left [k11] m_k3
  have m_k4 := List.mem_append_left [k11] m_k4
  have m_k5 := List.mem_append_left [k11] m_k5
  have m_k6 := List.mem_append_left [k11] m_k6
  have m_k7 := List.mem_append_left [k11] m_k7
  have m_k8 := List.mem_append_left [k11] m_k8
  have m_k9 := List.mem_append_left [k11] m_k9
  have m_k10 := List.mem_append_left [k11] m_k10
  have m_k11 : k11 ∈ (((((((((([q] ++ [k1]) ++ [k2]) ++ [k3]) ++ [k4]) ++ [k5]) ++ [k6]) ++ [k7]) ++ [k8]) ++ [k9]) ++ [k10]) ++ [k11] := List.mem_append_right _ (List.mem_singleton.mpr rfl)
  have n_q_k12 : q ≠ k12 := fun h => hk12 (h ▸ m_q)
  have n_k1_k12 : k1 ≠ k12 := fun h => hk12 (h ▸ m_k1)
  have n_k2_k12 : k2 ≠ k12 := fun h => hk12 (h ▸ m_k2)
  have n_k3_k12 : k3 ≠ k12 := fun h => hk12 (h ▸ m_k3)
  have n_k4_k12 : k4 ≠ k12 := fun h => hk12 (h ▸ m_k4)
  have n_k5_k12 : k5 ≠ k12 := fun h => hk12 (h ▸ m_k5)
  have n_k6_k12 : k6 ≠ k12 := fun h => hk12 (h ▸ m_k6)
  have n_k7_k12 : k7 ≠ k12 := fun h => hk12 (h ▸ m_k7)
  have n_k8_k12 : k8 ≠ k12 := fun h => hk12 (h ▸ m_k8)
  have n_k9_k12 : k9 ≠ k12 := fun h => hk12 (h ▸ m_k9)
  have n_k10_k12 : k10 ≠ k12 := fun h => hk12 (h ▸ m_k10)
  have n_k11_k12 : k11 ≠ k12 := fun h => hk12 (h ▸ m_k11)
  have m_q := List.mem_append_left [k12] m_q
  have m_k1 := List.mem_append_left [k12] m_k1
  have m_k2 := List.mem_append_left [k12] m_k2
  have m_k3 := List.mem_append_left [k12] m_k3
  have m_k4 := List.mem_append_left [k12] m_k4
  have m_k5 := List.mem_append_left [k12] m_k5
  have m_k6 := List.mem_append_left [k12] m_k6
  have m_k7 := List.mem_append_left [k12] m_k7
  have m_k8 := List.mem_append_left [k12] m_k8
  have m_k9 := List.mem_append_left [k12] m_k9
  have m_k10 := List.mem_append_left [k12] m_k10
  have m_k11 := List.mem_append_left [k12] m_k11
  have m_k12 : k12 ∈ ((((((((((([q] ++ [k1]) ++ [k2]) ++ [k3]) ++ [k4]) ++ [k5]) ++ [k6]) ++ [k7]) ++ [k8]) ++ [k9]) ++ [k10]) ++ [k11]) ++ [k12] := List.mem_append_right _ (List.mem_singleton.mpr rfl)
  have n_q_k13 : q ≠ k13 := fun h => hk13 (h ▸ m_q)
  have n_k1_k13 : k1 ≠ k13 := fun h => hk13 (h ▸ m_k1)
  have n_k2_k13 : k2 ≠ k13 := fun h => hk13 (h ▸ m_k2)
  have n_k3_k13 : k3 ≠ k13 := fun h => hk13 (h ▸ m_k3)
  have n_k4_k13 : k4 ≠ k13 := fun h => hk13 (h ▸ m_k4)
  have n_k5_k13 : k5 ≠ k13 := fun h => hk13 (h ▸ m_k5)
  have n_k6_k13 : k6 ≠ k13 := fun h => hk13 (h ▸ m_k6)
  have n_k7_k13 : k7 ≠ k13 := fun h => hk13 (h ▸ m_k7)
  have n_k8_k13 : k8 ≠ k13 := fun h => hk13 (h ▸ m_k8)
  have n_k9_k13 : k9 ≠ k13 := fun h => hk13 (h ▸ m_k9)
  have n_k10_k13 : k10 ≠ k13 := fun h => hk13 (h ▸ m_k10)
  have n_k11_k13 : k11 ≠ k13 := fun h => hk13 (h ▸ m_k11)
  have n_k12_k13 : k12 ≠ k13 := fun h => hk13 (h ▸ m_k12)
  have m_q := List.mem_append_left [k13] m_q
  have m_k1 := List.mem_append_left [k13] m_k1
  have m_k2 := List.mem_append_left [k13] m_k2
  have m_k3 := List.mem_append_left [k13] m_k3
  have m_k4 := List.mem_append_left [k13] m_k4
  have m_k5 := List.mem_append_left [k13] m_k5
  have m_k6 := List.mem_append_left [k13] m_k6
  have m_k7 := List.mem_append_left [k13] m_k7
  have m_k8 := List.mem_append_left [k13] m_k8
  have m_k9 := List.mem_append_left [k13] m_k9
  have m_k10 := List.mem_append_left [k13] m_k10
  have m_k11 := List.mem_append_left [k13] m_k11
  have m_k12 := List.mem_append_left [k13] m_k12
  have m_k13 : k13 ∈ (((((((((((([q] ++ [k1]) ++ [k2]) ++ [k3]) ++ [k4]) ++ [k5]) ++ [k6]) ++ [k7]) ++ [k8]) ++ [k9]) ++ [k10]) ++ [k11]) ++ [k12]) ++ [k13] := List.mem_append_right _ (List.mem_singleton.mpr rfl)
  have n_q_k14 : q ≠ k14 := fun h => hk14 (h ▸ m_q)
  have n_k1_k14 : k1 ≠ k14 := fun h => hk14 (h ▸ m_k1)
  have n_k2_k14 : k2 ≠ k14 := fun h => hk14 (h ▸ m_k2)
  have n_k3_k14 : k3 ≠ k14 := fun h => hk14 (h ▸ m_k3)
  have n_k4_k14 : k4 ≠ k14 := fun h => hk14 (h ▸ m_k4)
  have n_k5_k14 : k5 ≠ k14 := fun h => hk14 (h ▸ m_k5)
  have n_k6_k14 : k6 ≠ k14 := fun h => hk14 (h ▸ m_k6)
  have n_k7_k14 : k7 ≠ k14 := fun h => hk14 (h ▸ m_k7)
  have n_k8_k14 : k8 ≠ k14 := fun h => hk14 (h ▸ m_k8)
  have n_k9_k14 : k9 ≠ k14 := fun h => hk14 (h ▸ m_k9)
  have n_k10_k14 : k10 ≠ k14 := fun h => hk14 (h ▸ m_k10)
  have n_k11_k14 : k11 ≠ k14 := fun h => hk14 (h ▸ m_k11)
  have n_k12_k14 : k12 ≠ k14 := fun h => hk14 (h ▸ m_k12)
  have n_k13_k14 : k13 ≠ k14 := fun h => hk14 (h ▸ m_k13)
  have m_q := List.mem_append_left [k14] m_q
  have m_k1 := List.mem_append_left [k14] m_k1
  have m_k2 := List.mem_append_left [k14] m_k2
  have m_k3 := List.mem_append_left [k14] m_k3
  have m_k4 := List.mem_append_left [k14] m_k4
  have m_k5 := List.mem_append_left [k14] m_k5
  have m_k6 := List.mem_append_left [k14] m_k6
  have m_k7 := List.mem_append_left [k14] m_k7
  have m_k8 := List.mem_append_left [k14] m_k8
  have m_k9 := List.mem_append_left [k14] m_k9
  have m_k10 := List.mem_append_left [k14] m_k10
  have m_k11 := List.mem_append_left [k14] m_k11
  have m_k12 := List.mem_append_left [k14] m_k12
  have m_k13 := List.mem_append_left [k14] m_k13
  have m_k14 : k14 ∈ ((((((((((((([q] ++ [k1]) ++ [k2]) ++ [k3]) ++ [k4]) ++ [k5]) ++ [k6]) ++ [k7]) ++ [k8]) ++ [k9]) ++ [k10]) ++ [k11]) ++ [k12]) ++ [k13]) ++ [k14] := List.mem_append_right _ (List.mem_singleton.mpr rfl)
  have n_q_k15 : q ≠ k15 := fun h => hk15 (h ▸ m_q)
  have n_k1_k15 : k1 ≠ k15 := fun h => hk15 (h ▸ m_k1)
  have n_k2_k15 : k2 ≠ k15 := fun h => hk15 (h ▸ m_k2)
  have n_k3_k15 : k3 ≠ k15 := fun h => hk15 (h ▸ m_k3)
  have n_k4_k15 : k4 ≠ k15 := fun h => hk15 (h ▸ m_k4)
  have n_k5_k15 : k5 ≠ k15 := fun h => hk15 (h ▸ m_k5)
  have n_k6_k15 : k6 ≠ k15 := fun h => hk15 (h ▸ m_k6)
  have n_k7_k15 : k7 ≠ k15 := fun h => hk15 (h ▸ m_k7)
  have n_k8_k15 : k8 ≠ k15 := fun h => hk15 (h ▸ m_k8)
  have n_k9_k15 : k9 ≠ k15 := fun h => hk15 (h ▸ m_k9)
  have n_k10_k15 : k10 ≠ k15 := fun h => hk15 (h ▸ m_k10)
  have n_k11_k15 : k11 ≠ k15 := fun h => hk15 (h ▸ m_k11)
  have n_k12_k15 : k12 ≠ k15 := fun h => hk15 (h ▸ m_k12)
  have n_k13_k15 : k13 ≠ k15 := fun h => hk15 (h ▸ m_k13)
  have n_k14_k15 : k14 ≠ k15 := fun h => hk15 (h ▸ m_k14)
  have m_q := List.mem_append_left [k15] m_q
  have m_k1 := List.mem_append_left [k15] m_k1
  have m_k2 := List.mem_append_left [k15] m_k2
  have m_k3 := List.mem_append_left [k15] m_k3
  have m_k4 := List.mem_append_left [k15] m_k4
  have m_k5 := List.mem_append_left [k15] m_k5
  have m_k6 := List.mem_append_left [k15] m_k6
  have m_k7 := List.mem_append_left [k15] m_k7
  have m_k8 := List.mem_append_left [k15] m_k8
  have m_k9 := List.mem_append_left [k15] m_k9
  have m_k10 := List.mem_append_left [k15] m_k10
  have m_k11 := List.mem_append_left [k15] m_k11
  have m_k12 := List.mem_append_left [k15] m_k12
  have m_k13 := List.mem_append_left [k15] m_k13
  have m_k14 := List.mem_append_left [k15] m_k14
  have m_k15 : k15 ∈ (((((((((((((([q] ++ [k1]) ++ [k2]) ++ [k3]) ++ [k4]) ++ [k5]) ++ [k6]) ++ [k7]) ++ [k8]) ++ [k9]) ++ [k10]) ++ [k11]) ++ [k12]) ++ [k13]) ++ [k14]) ++ [k15] := List.mem_append_right _ (List.mem_singleton.mpr rfl)
  have n_q_k16 : q ≠ k16 := fun h => hk16 (h ▸ m_q)
  have n_k1_k16 : k1 ≠ k16 := fun h => hk16 (h ▸ m_k1)
  have n_k2_k16 : k2 ≠ k16 := fun h => hk16 (h ▸ m_k2)
  have n_k3_k16 : k3 ≠ k16 := fun h => hk16 (h ▸ m_k3)
  have n_k4_k16 : k4 ≠ k16 := fun h => hk16 (h ▸ m_k4)
  have n_k5_k16 : k5 ≠ k16 := fun h => hk16 (h ▸ m_k5)
  have n_k6_k16 : k6 ≠ k16 := fun h => hk16 (h ▸ m_k6)
  have n_k7_k16 : k7 ≠ k16 := fun h => hk16 (h ▸ m_k7)
  have n_k8_k16 : k8 ≠ k16 := fun h => hk16 (h ▸ m_k8)
  have n_k9_k16 : k9 ≠ k16 := fun h => hk16 (h ▸ m_k9)
  have n_k10_k16 : k10 ≠ k16 := fun h => hk16 (h ▸ m_k10)
  have n_k11_k16 : k11 ≠ k16 := fun h => hk16 (h ▸ m_k11)
  have n_k12_k16 : k12 ≠ k16 := fun h => hk16 (h ▸ m_k12)
  have n_k13_k16 : k13 ≠ k16 := fun h => hk16 (h ▸ m_k13)
  have n_k14_k16 : k14 ≠ k16 := fun h => hk16 (h ▸ m_k14)
  have n_k15_k16 : k15 ≠ k16 := fun h => hk16 (h ▸ m_k15)
  have m_q := List.mem_append_left [k16] m_q
  have m_k1 := List.mem_append_left [k16] m_k1
  have m_k2 := List.mem_append_left [k16] m_k2
  have m_k3 := List.mem_append_left [k16] m_k3
  have m_k4 := List.mem_append_left [k16] m_k4
  have m_k5 := List.mem_append_left [k16] m_k5
  have m_k6 := List.mem_append_left [k16] m_k6
  have m_k7 := List.mem_append_left [k16] m_k7
  have m_k8 := List.mem_append_left [k16] m_k8
  have m_k9 := List.mem_append_left [k16] m_k9
  have m_k10 := List.mem_append_left [k16] m_k10
  have m_k11 := List.mem_append_left [k16] m_k11
  have m_k12 := List.mem_append_left [k16] m_k12
  have m_k13 := List.mem_append_left [k16] m_k13
  have m_k14 := List.mem_append_left [k16] m_k14
  have m_k15 := List.mem_append_left [k16] m_k15
  have m_k16 : k16 ∈ ((((((((((((((([q] ++ [k1]) ++ [k2]) ++ [k3]) ++ [k4]) ++ [k5]) ++ [k6]) ++ [k7]) ++ [k8]) ++ [k9]) ++ [k10]) ++ [k11]) ++ [k12]) ++ [k13]) ++ [k14]) ++ [k15]) ++ [k16] := List.mem_append_right _ (List.mem_singleton.mpr rfl)
  have hg_q : f9_3 q = (.inr (8, [.ref k1, .ref k2, .ref k6, .null, .null, .null, .int 0, .int 0, .null])) := by rw [h93]; exact (up_n n_q_k15 (up_n n_q_k16 (up_n n_q_k13 (up_n n_q_k14 (up_n n_q_k10 (up_n n_q_k9 (up_n n_q_k8 (up_n n_q_k11 (up_n n_q_k12 (up_n n_q_k8 up_s))))))))))
  have hg_k1 : f9_3 k1 = (.inr (3, [.ref k2, .ref k4, .int 0, .int (-1), .int 0, .int 0, .int (-1), .int 0, .int 0, .int 0, .int 0])) := by rw [h93]; exact (up_n n_k1_k15 (up_n n_k1_k16 (up_n n_k1_k13 (up_n n_k1_k14 (up_n n_k1_k10 (up_n n_k1_k9 (up_n n_k1_k8 (up_n n_k1_k11 (up_n n_k1_k12 (up_n n_k1_k8 (up_n (Ne.symm n_q_k1) hf_k1)))))))))))
  have hg_k2 : f9_3 k2 = (.inr (0, [.ref k3, .int 0])) := by rw [h93]; exact (up_n n_k2_k15 (up_n n_k2_k16 (up_n n_k2_k13 (up_n n_k2_k14 (up_n n_k2_k10 (up_n n_k2_k9 (up_n n_k2_k8 (up_n n_k2_k11 (up_n n_k2_k12 (up_n n_k2_k8 (up_n (Ne.symm n_q_k2) hf_k2)))))))))))
  have hg_k3 : f9_3 k3 = (aB G 400 z0) := by rw [h93]; exact (up_n n_k3_k15 (up_n n_k3_k16 (up_n n_k3_k13 (up_n n_k3_k14 (up_n n_k3_k10 (up_n n_k3_k9 (up_n n_k3_k8 (up_n n_k3_k11 (up_n n_k3_k12 (up_n n_k3_k8 (up_n (Ne.symm n_q_k3) hf_k3)))))))))))
  have hg_k4 : f9_3 k4 = (.inr (4, [.ref k5, .int 0, .int 0, .int 0, .int (-1)])) := by rw [h93]; exact (up_n n_k4_k15 (up_n n_k4_k16 (up_n n_k4_k13 (up_n n_k4_k14 (up_n n_k4_k10 (up_n n_k4_k9 (up_n n_k4_k8 (up_n n_k4_k11 (up_n n_k4_k12 (up_n n_k4_k8 (up_n (Ne.symm n_q_k4) hf_k4)))))))))))
  have hg_k5 : f9_3 k5 = (aI G 25 z0) := by rw [h93]; exact (up_n n_k5_k15 (up_n n_k5_k16 (up_n n_k5_k13 (up_n n_k5_k14 (up_n n_k5_k10 (up_n n_k5_k9 (up_n n_k5_k8 (up_n n_k5_k11 (up_n n_k5_k12 (up_n n_k5_k8 (up_n (Ne.symm n_q_k5) hf_k5)))))))))))
  have hg_k6 : f9_3 k6 = (.inr (2, [.ref k7, .int 0])) := by rw [h93]; exact (up_n n_k6_k15 (up_n n_k6_k16 (up_n n_k6_k13 (up_n n_k6_k14 (up_n n_k6_k10 (up_n n_k6_k9 (up_n n_k6_k8 (up_n n_k6_k11 (up_n n_k6_k12 (up_n n_k6_k8 (up_n (Ne.symm n_q_k6) hf_k6)))))))))))
  have hg_k7 : f9_3 k7 = (aB G 256 z0) := by rw [h93]; exact (up_n n_k7_k15 (up_n n_k7_k16 (up_n n_k7_k13 (up_n n_k7_k14 (up_n n_k7_k10 (up_n n_k7_k9 (up_n n_k7_k8 (up_n n_k7_k11 (up_n n_k7_k12 (up_n n_k7_k8 (up_n (Ne.symm n_q_k7) hf_k7)))))))))))
  have hg_k8 : f9_3 k8 = (.inr (6, [.ref k9, .ref k11, .ref k13, .ref k15, .int 0, .int 0, .int 0, .int (-1), .int (-1), .int 0, .int 0, .int 0])) := by rw [h93]; exact (up_n n_k8_k15 (up_n n_k8_k16 (up_n n_k8_k13 (up_n n_k8_k14 (up_n n_k8_k10 (up_n n_k8_k9 up_s))))))
  have hg_k9 : f9_3 k9 = (.inr (4, [.ref k10, .int (1), .int 0, .int 0, .int (-1)])) := by rw [h93]; exact (up_n n_k9_k15 (up_n n_k9_k16 (up_n n_k9_k13 (up_n n_k9_k14 (up_n n_k9_k10 up_s)))))
  have hg_k10 : f9_3 k10 = (aI G 25 tm0) := by rw [h93]; exact (up_n n_k10_k15 (up_n n_k10_k16 (up_n n_k10_k13 (up_n n_k10_k14 up_s))))
  have hg_k11 : f9_3 k11 = (.inr (1, [.ref k12, .int 0, .int 0])) := by rw [h93]; exact (up_n n_k11_k15 (up_n n_k11_k16 (up_n n_k11_k13 (up_n n_k11_k14 (up_n (Ne.symm n_k10_k11) (up_n (Ne.symm n_k9_k11) (up_n (Ne.symm n_k8_k11) up_s)))))))
  have hg_k12 : f9_3 k12 = (aI G 240 z0) := by rw [h93]; exact (up_n n_k12_k15 (up_n n_k12_k16 (up_n n_k12_k13 (up_n n_k12_k14 (up_n (Ne.symm n_k10_k12) (up_n (Ne.symm n_k9_k12) (up_n (Ne.symm n_k8_k12) (up_n (Ne.symm n_k11_k12) up_s))))))))
  have hg_k13 : f9_3 k13 = (.inr (5, [.ref k14, .int 3000, .int 0, .int 0, .int 0, .int 0, .int 0, .int 0, .int 0, .int 0, .int 0, .int 0, .int 0])) := by rw [h93]; exact (up_n n_k13_k15 (up_n n_k13_k16 up_s))
  have hg_k14 : f9_3 k14 = (aI G 5 z0) := by rw [h93]; exact (up_n n_k14_k15 (up_n n_k14_k16 (up_n (Ne.symm n_k13_k14) up_s)))
  have hg_k15 : f9_3 k15 = (.inr (5, [.ref k16, .int 3000, .int 0, .int 0, .int 0, .int 0, .int 0, .int 0, .int 0, .int 0, .int 0, .int 0, .int 0])) := by rw [h93]; exact up_s
  have hg_k16 : f9_3 k16 = (aI G 5 z0) := by rw [h93]; exact (up_n (Ne.symm n_k15_k16) up_s)
  have hf_q := hg_q
  have hf_k1 := hg_k1
  have hf_k2 := hg_k2
  have hf_k3 := hg_k3
  have hf_k4 := hg_k4
  have hf_k5 := hg_k5
  have hf_k6 := hg_k6
  have hf_k7 := hg_k7
  have hf_k8 := hg_k8
  have hf_k9 := hg_k9
  have hf_k10 := hg_k10
  have hf_k11 := hg_k11
  have hf_k12 := hg_k12
  have hf_k13 := hg_k13
  have hf_k14 := hg_k14
  have hf_k15 := hg_k15
  have hf_k16 := hg_k16
  clear h93
  refine j_putF X 8 3 rfl cw_X8 tyX8 tyX8_ok nmX8 fl_X8_31 (by decide) rfl hname rfl dX8_init_45 m_q hf_q rfl rfl (Nat.le_of_ble_eq_true rfl) ?_
  dsimp only [List.set]
  refine j_aload_n X (i := 0) dX8_init_48 rfl rfl ?_
  refine j_new X 7 cw_X7 tyX7 tyX7_ok cl_X8_35 is_X7 in_X7 rfl df7_ok ⟨(by decide), (by decide)⟩ dX8_init_49 (fun k17 hk17 => ?_)
  have n_q_k17 : q ≠ k17 := fun h => hk17 (h ▸ m_q)
  have n_k1_k17 : k1 ≠ k17 := fun h => hk17 (h ▸ m_k1)
  have n_k2_k17 : k2 ≠ k17 := fun h => hk17 (h ▸ m_k2)
  have n_k3_k17 : k3 ≠ k17 := fun h => hk17 (h ▸ m_k3)
  have n_k4_k17 : k4 ≠ k17 := fun h => hk17 (h ▸ m_k4)
  have n_k5_k17 : k5 ≠ k17 := fun h => hk17 (h ▸ m_k5)
  have n_k6_k17 : k6 ≠ k17 := fun h => hk17 (h ▸ m_k6)
  have n_k7_k17 : k7 ≠ k17 := fun h => hk17 (h ▸ m_k7)
  have n_k8_k17 : k8 ≠ k17 := fun h => hk17 (h ▸ m_k8)
  have n_k9_k17 : k9 ≠ k17 := fun h => hk17 (h ▸ m_k9)
  have n_k10_k17 : k10 ≠ k17 := fun h => hk17 (h ▸ m_k10)
  have n_k11_k17 : k11 ≠ k17 := fun h => hk17 (h ▸ m_k11)
  have n_k12_k17 : k12 ≠ k17 := fun h => hk17 (h ▸ m_k12)
  have n_k13_k17 : k13 ≠ k17 := fun h => hk17 (h ▸ m_k13)
  have n_k14_k17 : k14 ≠ k17 := fun h => hk17 (h ▸ m_k14)
  have n_k15_k17 : k15 ≠ k17 := fun h => hk17 (h ▸ m_k15)
  have n_k16_k17 : k16 ≠ k17 := fun h => hk17 (h ▸ m_k16)
  have m_q := List.mem_append_left [k17] m_q
  have m_k1 := List.mem_append_left [k17] m_k1
  have m_k2 := List.mem_append_left [k17] m_k2
  have m_k3 := List.mem_append_left [k17] m_k3
  have m_k4 := List.mem_append_left [k17] m_k4
  have m_k5 := List.mem_append_left [k17] m_k5
  have m_k6 := List.mem_append_left [k17] m_k6
  have m_k7 := List.mem_append_left [k17] m_k7
  have m_k8 := List.mem_append_left [k17] m_k8
  have m_k9 := List.mem_append_left [k17] m_k9
  have m_k10 := List.mem_append_left [k17] m_k10
  have m_k11 := List.mem_append_left [k17] m_k11
  have m_k12 := List.mem_append_left [k17] m_k12
  have m_k13 := List.mem_append_left [k17] m_k13
  have m_k14 := List.mem_append_left [k17] m_k14
  have m_k15 := List.mem_append_left [k17] m_k15
  have m_k16 := List.mem_append_left [k17] m_k16
  have m_k17 : k17 ∈ (((((((((((((((([q] ++ [k1]) ++ [k2]) ++ [k3]) ++ [k4]) ++ [k5]) ++ [k6]) ++ [k7]) ++ [k8]) ++ [k9]) ++ [k10]) ++ [k11]) ++ [k12]) ++ [k13]) ++ [k14]) ++ [k15]) ++ [k16]) ++ [k17] := List.mem_append_right _ (List.mem_singleton.mpr rfl)
  refine j_dup X dX8_init_52 rfl ?_
  refine j_callIN X (k_X7_init hl m_k17 up_s) (List.mem_of_getElem? (i := 8) rfl) im_yX7_init in_X7 cd_yX7_init rfl hi_yX7_init dX8_init_53 ⟨(by decide), (by decide)⟩ ⟨(by decide), (by decide)⟩ (Nat.le_of_ble_eq_true rfl) (fun _ h => h.elim) (fun r9 L9 f9_4 h9 => ?_)
  obtain ⟨h91, k18, k19, k20, k21, hk18, hk19, hk20, hk21, h92, h93⟩ := h9
  subst r9
  subst L9
  dsimp only [Option.toList, List.nil_append]
  have n_q_k18 : q ≠ k18 := fun h => hk18 (h ▸ m_q)
  have n_k1_k18 : k1 ≠ k18 := fun h => hk18 (h ▸ m_k1)
  have n_k2_k18 : k2 ≠ k18 := fun h => hk18 (h ▸ m_k2)
  have n_k3_k18 : k3 ≠ k18 := fun h => hk18 (h ▸ m_k3)
  have n_k4_k18 : k4 ≠ k18 := fun h => hk18 (h ▸ m_k4)
  have n_k5_k18 : k5 ≠ k18 := fun h => hk18 (h ▸ m_k5)
  have n_k6_k18 : k6 ≠ k18 := fun h => hk18 (h ▸ m_k6)
  have n_k7_k18 : k7 ≠ k18 := fun h => hk18 (h ▸ m_k7)
  have n_k8_k18 : k8 ≠ k18 := fun h => hk18 (h ▸ m_k8)
  have n_k9_k18 : k9 ≠ k18 := fun h => hk18 (h ▸ m_k9)
  have n_k10_k18 : k10 ≠ k18 := fun h => hk18 (h ▸ m_k10)
  have n_k11_k18 : k11 ≠ k18 := fun h => hk18 (h ▸ m_k11)
  have n_k12_k18 : k12 ≠ k18 := fun h => hk18 (h ▸ m_k12)
  have n_k13_k18 : k13 ≠ k18 := fun h => hk18 (h ▸ m_k13)
  have n_k14_k18 : k14 ≠ k18 := fun h => hk18 (h ▸ m_k14)
  have n_k15_k18 : k15 ≠ k18 := fun h => hk18 (h ▸ m_k15)
  have n_k16_k18 : k16 ≠ k18 := fun h => hk18 (h ▸ m_k16)
  have n_k17_k18 : k17 ≠ k18 := fun h => hk18 (h ▸ m_k17)
  have m_q := List.mem_append_left [k18] m_q
  have m_k1 := List.mem_append_left [k18] m_k1
  have m_k2 := List.mem_append_left [k18] m_k2
  have m_k3 := List.mem_append_left [k18] m_k3
  have m_k4 := List.mem_append_left [k18] m_k4
  have m_k5 := List.mem_append_left [k18] m_k5
  have m_k6 := List.mem_append_left [k18] m_k6
  have m_k7 := List.mem_append_left [k18] m_k7
  have m_k8 := List.mem_append_left [k18] m_k8
  have m_k9 := List.mem_append_left [k18] m_k9
  have m_k10 := List.mem_append_left [k18] m_k10
  have m_k11 := List.mem_append_left [k18] m_k11
  have m_k12 := List.mem_append_left [k18] m_k12
  have m_k13 := List.mem_append_left [k18] m_k13
  have m_k14 := List.mem_append_left [k18] m_k14
  have m_k15 := List.mem_append_left [k18] m_k15
  have m_k16 := List.mem_append_left [k18] m_k16
  have m_k17 := List.mem_append_left [k18] m_k17
  have m_k18 : k18 ∈ ((((((((((((((((([q] ++ [k1]) ++ [k2]) ++ [k3]) ++ [k4]) ++ [k5]) ++ [k6]) ++ [k7]) ++ [k8]) ++ [k9]) ++ [k10]) ++ [k11]) ++ [k12]) ++ [k13]) ++ [k14]) ++ [k15]) ++ [k16]) ++ [k17]) ++ [k18] := List.mem_append_right _ (List.mem_singleton.mpr rfl)
  have n_q_k19 : q ≠ k19 := fun h => hk19 (h ▸ m_q)
  have n_k1_k19 : k1 ≠ k19 := fun h => hk19 (h ▸ m_k1)
  have n_k2_k19 : k2 ≠ k19 := fun h => hk19 (h ▸ m_k2)
  have n_k3_k19 : k3 ≠ k19 := fun h => hk19 (h ▸ m_k3)
  have n_k4_k19 : k4 ≠ k19 := fun h => hk19 (h ▸ m_k4)
  have n_k5_k19 : k5 ≠ k19 := fun h => hk19 (h ▸ m_k5)
  have n_k6_k19 : k6 ≠ k19 := fun h => hk19 (h ▸ m_k6)
  have n_k7_k19 : k7 ≠ k19 := fun h => hk19 (h ▸ m_k7)
  have n_k8_k19 : k8 ≠ k19 := fun h => hk19 (h ▸ m_k8)
  have n_k9_k19 : k9 ≠ k19 := fun h => hk19 (h ▸ m_k9)
  have n_k10_k19 : k10 ≠ k19 := fun h => hk19 (h ▸ m_k10)
  have n_k11_k19 : k11 ≠ k19 := fun h => hk19 (h ▸ m_k11)
  have n_k12_k19 : k12 ≠ k19 := fun h => hk19 (h ▸ m_k12)
  have n_k13_k19 : k13 ≠ k19 := fun h => hk19 (h ▸ m_k13)
  have n_k14_k19 : k14 ≠ k19 := fun h => hk19 (h ▸ m_k14)
  have n_k15_k19 : k15 ≠ k19 := fun h => hk19 (h ▸ m_k15)
  have n_k16_k19 : k16 ≠ k19 := fun h => hk19 (h ▸ m_k16)
  have n_k17_k19 : k17 ≠ k19 := fun h => hk19 (h ▸ m_k17)
  have n_k18_k19 : k18 ≠ k19 := fun h => hk19 (h ▸ m_k18)
  have m_q := List.mem_append_left [k19] m_q
  have m_k1 := List.mem_append_left [k19] m_k1
  have m_k2 := List.mem_append_left [k19] m_k2
  have m_k3 := List.mem_append_left [k19] m_k3
  have m_k4 := List.mem_append_left [k19] m_k4
  have m_k5 := List.mem_append_left [k19] m_k5
  have m_k6 := List.mem_append_left [k19] m_k6
  have m_k7 := List.mem_append_left [k19] m_k7
  have m_k8 := List.mem_append_left [k19] m_k8
  have m_k9 := List.mem_append_left [k19] m_k9
  have m_k10 := List.mem_append_left [k19] m_k10
  have m_k11 := List.mem_append_left [k19] m_k11
  have m_k12 := List.mem_append_left [k19] m_k12
  have m_k13 := List.mem_append_left [k19] m_k13
  have m_k14 := List.mem_append_left [k19] m_k14
  have m_k15 := List.mem_append_left [k19] m_k15
  have m_k16 := List.mem_append_left [k19] m_k16
  have m_k17 := List.mem_append_left [k19] m_k17
  have m_k18 := List.mem_append_left [k19] m_k18
  have m_k19 : k19 ∈ (((((((((((((((((([q] ++ [k1]) ++ [k2]) ++ [k3]) ++ [k4]) ++ [k5]) ++ [k6]) ++ [k7]) ++ [k8]) ++ [k9]) ++ [k10]) ++ [k11]) ++ [k12]) ++ [k13]) ++ [k14]) ++ [k15]) ++ [k16]) ++ [k17]) ++ [k18]) ++ [k19] := List.mem_append_right _ (List.mem_singleton.mpr rfl)
  have n_q_k20 : q ≠ k20 := fun h => hk20 (h ▸ m_q)
  have n_k1_k20 : k1 ≠ k20 := fun h => hk20 (h ▸ m_k1)
  have n_k2_k20 : k2 ≠ k20 := fun h => hk20 (h ▸ m_k2)
  have n_k3_k20 : k3 ≠ k20 := fun h => hk20 (h ▸ m_k3)
  have n_k4_k20 : k4 ≠ k20 := fun h => hk20 (h ▸ m_k4)
  have n_k5_k20 : k5 ≠ k20 := fun h => hk20 (h ▸ m_k5)
  have n_k6_k20 : k6 ≠ k20 := fun h => hk20 (h ▸ m_k6)
  have n_k7_k20 : k7 ≠ k20 := fun h => hk20 (h ▸ m_k7)
  have n_k8_k20 : k8 ≠ k20 := fun h => hk20 (h ▸ m_k8)
  have n_k9_k20 : k9 ≠ k20 := fun h => hk20 (h ▸ m_k9)
  have n_k10_k20 : k10 ≠ k20 := fun h => hk20 (h ▸ m_k10)
  have n_k11_k20 : k11 ≠ k20 := fun h => hk20 (h ▸ m_k11)
  have n_k12_k20 : k12 ≠ k20 := fun h => hk20 (h ▸ m_k12)
  have n_k13_k20 : k13 ≠ k20 := fun h => hk20 (h ▸ m_k13)
  have n_k14_k20 : k14 ≠ k20 := fun h => hk20 (h ▸ m_k14)
  have n_k15_k20 : k15 ≠ k20 := fun h => hk20 (h ▸ m_k15)
  have n_k16_k20 : k16 ≠ k20 := fun h => hk20 (h ▸ m_k16)
  have n_k17_k20 : k17 ≠ k20 := fun h => hk20 (h ▸ m_k17)
  have n_k18_k20 : k18 ≠ k20 := fun h => hk20 (h ▸ m_k18)
  have n_k19_k20 : k19 ≠ k20 := fun h => hk20 (h ▸ m_k19)
  have m_q := List.mem_append_left [k20] m_q
  have m_k1 := List.mem_append_left [k20] m_k1
  have m_k2 := List.mem_append_left [k20] m_k2
  have m_k3 := List.mem_append_left [k20] m_k3
  have m_k4 := List.mem_append_left [k20] m_k4
  have m_k5 := List.mem_append_left [k20] m_k5
  have m_k6 := List.mem_append_left [k20] m_k6
  have m_k7 := List.mem_append_left [k20] m_k7
  have m_k8 := List.mem_append_left [k20] m_k8
  have m_k9 := List.mem_append_left [k20] m_k9
  have m_k10 := List.mem_append_left [k20] m_k10
  have m_k11 := List.mem_append_left [k20] m_k11
  have m_k12 := List.mem_append_left [k20] m_k12
  have m_k13 := List.mem_append_left [k20] m_k13
  have m_k14 := List.mem_append_left [k20] m_k14
  have m_k15 := List.mem_append_left [k20] m_k15
  have m_k16 := List.mem_append_left [k20] m_k16
  have m_k17 := List.mem_append_left [k20] m_k17
  have m_k18 := List.mem_append_left [k20] m_k18
  have m_k19 := List.mem_append_left [k20] m_k19
  have m_k20 : k20 ∈ ((((((((((((((((((([q] ++ [k1]) ++ [k2]) ++ [k3]) ++ [k4]) ++ [k5]) ++ [k6]) ++ [k7]) ++ [k8]) ++ [k9]) ++ [k10]) ++ [k11]) ++ [k12]) ++ [k13]) ++ [k14]) ++ [k15]) ++ [k16]) ++ [k17]) ++ [k18]) ++ [k19]) ++ [k20] := List.mem_append_right _ (List.mem_singleton.mpr rfl)
  have n_q_k21 : q ≠ k21 := fun h => hk21 (h ▸ m_q)
  have n_k1_k21 : k1 ≠ k21 := fun h => hk21 (h ▸ m_k1)
  have n_k2_k21 : k2 ≠ k21 := fun h => hk21 (h ▸ m_k2)
  have n_k3_k21 : k3 ≠ k21 := fun h => hk21 (h ▸ m_k3)
  have n_k4_k21 : k4 ≠ k21 := fun h => hk21 (h ▸ m_k4)
  have n_k5_k21 : k5 ≠ k21 := fun h => hk21 (h ▸ m_k5)
  have n_k6_k21 : k6 ≠ k21 := fun h => hk21 (h ▸ m_k6)
  have n_k7_k21 : k7 ≠ k21 := fun h => hk21 (h ▸ m_k7)
  have n_k8_k21 : k8 ≠ k21 := fun h => hk21 (h ▸ m_k8)
  have n_k9_k21 : k9 ≠ k21 := fun h => hk21 (h ▸ m_k9)
  have n_k10_k21 : k10 ≠ k21 := fun h => hk21 (h ▸ m_k10)
  have n_k11_k21 : k11 ≠ k21 := fun h => hk21 (h ▸ m_k11)
  have n_k12_k21 : k12 ≠ k21 := fun h => hk21 (h ▸ m_k12)
  have n_k13_k21 : k13 ≠ k21 := fun h => hk21 (h ▸ m_k13)
  have n_k14_k21 : k14 ≠ k21 := fun h => hk21 (h ▸ m_k14)
  have n_k15_k21 : k15 ≠ k21 := fun h => hk21 (h ▸ m_k15)
  have n_k16_k21 : k16 ≠ k21 := fun h => hk21 (h ▸ m_k16)
  have n_k17_k21 : k17 ≠ k21 := fun h => hk21 (h ▸ m_k17)
  have n_k18_k21 : k18 ≠ k21 := fun h => hk21 (h ▸ m_k18)
  have n_k19_k21 : k19 ≠ k21 := fun h => hk21 (h ▸ m_k19)
  have n_k20_k21 : k20 ≠ k21 := fun h => hk21 (h ▸ m_k20)
  have m_q := List.mem_append_left [k21] m_q
  have m_k1 := List.mem_append_left [k21] m_k1
  have m_k2 := List.mem_append_left [k21] m_k2
  have m_k3 := List.mem_append_left [k21] m_k3
  have m_k4 := List.mem_append_left [k21] m_k4
  have m_k5 := List.mem_append_left [k21] m_k5
  have m_k6 := List.mem_append_left [k21] m_k6
  have m_k7 := List.mem_append_left [k21] m_k7
  have m_k8 := List.mem_append_left [k21] m_k8
  have m_k9 := List.mem_append_left [k21] m_k9
  have m_k10 := List.mem_append_left [k21] m_k10
  have m_k11 := List.mem_append_left [k21] m_k11
  have m_k12 := List.mem_append_left [k21] m_k12
  have m_k13 := List.mem_append_left [k21] m_k13
  have m_k14 := List.mem_append_left [k21] m_k14
  have m_k15 := List.mem_append_left [k21] m_k15
  have m_k16 := List.mem_append_left [k21] m_k16
  have m_k17 := List.mem_append_left [k21] m_k17
  have m_k18 := List.mem_append_left [k21] m_k18
  have m_k19 := List.mem_append_left [k21] m_k19
  have m_k20 := List.mem_append_left [k21] m_k20
  have m_k21 : k21 ∈ (((((((((((((((((((([q] ++ [k1]) ++ [k2]) ++ [k3]) ++ [k4]) ++ [k5]) ++ [k6]) ++ [k7]) ++ [k8]) ++ [k9]) ++ [k10]) ++ [k11]) ++ [k12]) ++ [k13]) ++ [k14]) ++ [k15]) ++ [k16]) ++ [k17]) ++ [k18]) ++ [k19]) ++ [k20]) ++ [k21] := List.mem_append_right _ (List.mem_singleton.mpr rfl)
  have hg_q : f9_4 q = (.inr (8, [.ref k1, .ref k2, .ref k6, .ref k8, .null, .null, .int 0, .int 0, .null])) := by rw [h93]; exact (up_n n_q_k17 (up_n n_q_k20 (up_n n_q_k21 (up_n n_q_k18 (up_n n_q_k19 (up_n n_q_k17 up_s))))))
  have hg_k1 : f9_4 k1 = (.inr (3, [.ref k2, .ref k4, .int 0, .int (-1), .int 0, .int 0, .int (-1), .int 0, .int 0, .int 0, .int 0])) := by rw [h93]; exact (up_n n_k1_k17 (up_n n_k1_k20 (up_n n_k1_k21 (up_n n_k1_k18 (up_n n_k1_k19 (up_n n_k1_k17 (up_n (Ne.symm n_q_k1) hf_k1)))))))
  have hg_k2 : f9_4 k2 = (.inr (0, [.ref k3, .int 0])) := by rw [h93]; exact (up_n n_k2_k17 (up_n n_k2_k20 (up_n n_k2_k21 (up_n n_k2_k18 (up_n n_k2_k19 (up_n n_k2_k17 (up_n (Ne.symm n_q_k2) hf_k2)))))))
  have hg_k3 : f9_4 k3 = (aB G 400 z0) := by rw [h93]; exact (up_n n_k3_k17 (up_n n_k3_k20 (up_n n_k3_k21 (up_n n_k3_k18 (up_n n_k3_k19 (up_n n_k3_k17 (up_n (Ne.symm n_q_k3) hf_k3)))))))
  have hg_k4 : f9_4 k4 = (.inr (4, [.ref k5, .int 0, .int 0, .int 0, .int (-1)])) := by rw [h93]; exact (up_n n_k4_k17 (up_n n_k4_k20 (up_n n_k4_k21 (up_n n_k4_k18 (up_n n_k4_k19 (up_n n_k4_k17 (up_n (Ne.symm n_q_k4) hf_k4)))))))
  have hg_k5 : f9_4 k5 = (aI G 25 z0) := by rw [h93]; exact (up_n n_k5_k17 (up_n n_k5_k20 (up_n n_k5_k21 (up_n n_k5_k18 (up_n n_k5_k19 (up_n n_k5_k17 (up_n (Ne.symm n_q_k5) hf_k5)))))))
  have hg_k6 : f9_4 k6 = (.inr (2, [.ref k7, .int 0])) := by rw [h93]; exact (up_n n_k6_k17 (up_n n_k6_k20 (up_n n_k6_k21 (up_n n_k6_k18 (up_n n_k6_k19 (up_n n_k6_k17 (up_n (Ne.symm n_q_k6) hf_k6)))))))
  have hg_k7 : f9_4 k7 = (aB G 256 z0) := by rw [h93]; exact (up_n n_k7_k17 (up_n n_k7_k20 (up_n n_k7_k21 (up_n n_k7_k18 (up_n n_k7_k19 (up_n n_k7_k17 (up_n (Ne.symm n_q_k7) hf_k7)))))))
  have hg_k8 : f9_4 k8 = (.inr (6, [.ref k9, .ref k11, .ref k13, .ref k15, .int 0, .int 0, .int 0, .int (-1), .int (-1), .int 0, .int 0, .int 0])) := by rw [h93]; exact (up_n n_k8_k17 (up_n n_k8_k20 (up_n n_k8_k21 (up_n n_k8_k18 (up_n n_k8_k19 (up_n n_k8_k17 (up_n (Ne.symm n_q_k8) hf_k8)))))))
  have hg_k9 : f9_4 k9 = (.inr (4, [.ref k10, .int (1), .int 0, .int 0, .int (-1)])) := by rw [h93]; exact (up_n n_k9_k17 (up_n n_k9_k20 (up_n n_k9_k21 (up_n n_k9_k18 (up_n n_k9_k19 (up_n n_k9_k17 (up_n (Ne.symm n_q_k9) hf_k9)))))))
  have hg_k10 : f9_4 k10 = (aI G 25 tm0) := by rw [h93]; exact (up_n n_k10_k17 (up_n n_k10_k20 (up_n n_k10_k21 (up_n n_k10_k18 (up_n n_k10_k19 (up_n n_k10_k17 (up_n (Ne.symm n_q_k10) hf_k10)))))))
  have hg_k11 : f9_4 k11 = (.inr (1, [.ref k12, .int 0, .int 0])) := by rw [h93]; exact (up_n n_k11_k17 (up_n n_k11_k20 (up_n n_k11_k21 (up_n n_k11_k18 (up_n n_k11_k19 (up_n n_k11_k17 (up_n (Ne.symm n_q_k11) hf_k11)))))))
  have hg_k12 : f9_4 k12 = (aI G 240 z0) := by rw [h93]; exact (up_n n_k12_k17 (up_n n_k12_k20 (up_n n_k12_k21 (up_n n_k12_k18 (up_n n_k12_k19 (up_n n_k12_k17 (up_n (Ne.symm n_q_k12) hf_k12)))))))
  have hg_k13 : f9_4 k13 = (.inr (5, [.ref k14, .int 3000, .int 0, .int 0, .int 0, .int 0, .int 0, .int 0, .int 0, .int 0, .int 0, .int 0, .int 0])) := by rw [h93]; exact (up_n n_k13_k17 (up_n n_k13_k20 (up_n n_k13_k21 (up_n n_k13_k18 (up_n n_k13_k19 (up_n n_k13_k17 (up_n (Ne.symm n_q_k13) hf_k13)))))))
  have hg_k14 : f9_4 k14 = (aI G 5 z0) := by rw [h93]; exact (up_n n_k14_k17 (up_n n_k14_k20 (up_n n_k14_k21 (up_n n_k14_k18 (up_n n_k14_k19 (up_n n_k14_k17 (up_n (Ne.symm n_q_k14) hf_k14)))))))
  have hg_k15 : f9_4 k15 = (.inr (5, [.ref k16, .int 3000, .int 0, .int 0, .int 0, .int 0, .int 0, .int 0, .int 0, .int 0, .int 0, .int 0, .int 0])) := by rw [h93]; exact (up_n n_k15_k17 (up_n n_k15_k20 (up_n n_k15_k21 (up_n n_k15_k18 (up_n n_k15_k19 (up_n n_k15_k17 (up_n (Ne.symm n_q_k15) hf_k15)))))))
  have hg_k16 : f9_4 k16 = (aI G 5 z0) := by rw [h93]; exact (up_n n_k16_k17 (up_n n_k16_k20 (up_n n_k16_k21 (up_n n_k16_k18 (up_n n_k16_k19 (up_n n_k16_k17 (up_n (Ne.symm n_q_k16) hf_k16)))))))
  have hg_k17 : f9_4 k17 = (.inr (7, [.ref k18, .ref k20, .int 0, .int 0, .int 0, .int 0])) := by rw [h93]; exact up_s
  have hg_k18 : f9_4 k18 = (.inr (5, [.ref k19, .int 0, .int 0, .int 0, .int 0, .int 0, .int 0, .int 0, .int 0, .int 0, .int 0, .int 0, .int 0])) := by rw [h93]; exact (up_n (Ne.symm n_k17_k18) (up_n n_k18_k20 (up_n n_k18_k21 up_s)))
  have hg_k19 : f9_4 k19 = (aI G 5 z0) := by rw [h93]; exact (up_n (Ne.symm n_k17_k19) (up_n n_k19_k20 (up_n n_k19_k21 (up_n (Ne.symm n_k18_k19) up_s))))
  have hg_k20 : f9_4 k20 = (.inr (5, [.ref k21, .int 0, .int 0, .int 0, .int 0, .int 0, .int 0, .int 0, .int 0, .int 0, .int 0, .int 0, .int 0])) := by rw [h93]; exact (up_n (Ne.symm n_k17_k20) up_s)
  have hg_k21 : f9_4 k21 = (aI G 5 z0) := by rw [h93]; exact (up_n (Ne.symm n_k17_k21) (up_n (Ne.symm n_k20_k21) up_s))
  have hf_q := hg_q
  have hf_k1 := hg_k1
  have hf_k2 := hg_k2
  have hf_k3 := hg_k3
  have hf_k4 := hg_k4
  have hf_k5 := hg_k5
  have hf_k6 := hg_k6
  have hf_k7 := hg_k7
  have hf_k8 := hg_k8
  have hf_k9 := hg_k9
  have hf_k10 := hg_k10
  have hf_k11 := hg_k11
  have hf_k12 := hg_k12
  have hf_k13 := hg_k13
  have hf_k14 := hg_k14
  have hf_k15 := hg_k15
  have hf_k16 := hg_k16
  have hf_k17 := hg_k17
  have hf_k18 := hg_k18
  have hf_k19 := hg_k19
  have hf_k20 := hg_k20
  have hf_k21 := hg_k21
  clear h93
  refine j_putF X 8 4 rfl cw_X8 tyX8 tyX8_ok nmX8 fl_X8_38 (by decide) rfl hname rfl dX8_init_56 m_q hf_q rfl rfl (Nat.le_of_ble_eq_true rfl) ?_
  dsimp only [List.set]
  refine j_aload_n X (i := 0) dX8_init_59 rfl rfl ?_
  refine j_bipush X (6) dX8_init_60 (by decide) ?_
  refine j_newq X 5 (N' := 6) rfl cl_X8_28 X.2.2.2.2.2.2.2.2.2.1.2.2.2.2.2.2.2.2.2.1 (by decide) (by decide) (by decide) ⟨(by decide), (by decide)⟩ dX8_init_62 (fun k22 hk22 => ?_)
  have n_q_k22 : q ≠ k22 := fun h => hk22 (h ▸ m_q)
  have n_k1_k22 : k1 ≠ k22 := fun h => hk22 (h ▸ m_k1)
  have n_k2_k22 : k2 ≠ k22 := fun h => hk22 (h ▸ m_k2)
  have n_k3_k22 : k3 ≠ k22 := fun h => hk22 (h ▸ m_k3)
  have n_k4_k22 : k4 ≠ k22 := fun h => hk22 (h ▸ m_k4)
  have n_k5_k22 : k5 ≠ k22 := fun h => hk22 (h ▸ m_k5)
  have n_k6_k22 : k6 ≠ k22 := fun h => hk22 (h ▸ m_k6)
  have n_k7_k22 : k7 ≠ k22 := fun h => hk22 (h ▸ m_k7)
  have n_k8_k22 : k8 ≠ k22 := fun h => hk22 (h ▸ m_k8)
  have n_k9_k22 : k9 ≠ k22 := fun h => hk22 (h ▸ m_k9)
  have n_k10_k22 : k10 ≠ k22 := fun h => hk22 (h ▸ m_k10)
  have n_k11_k22 : k11 ≠ k22 := fun h => hk22 (h ▸ m_k11)
  have n_k12_k22 : k12 ≠ k22 := fun h => hk22 (h ▸ m_k12)
  have n_k13_k22 : k13 ≠ k22 := fun h => hk22 (h ▸ m_k13)
  have n_k14_k22 : k14 ≠ k22 := fun h => hk22 (h ▸ m_k14)
  have n_k15_k22 : k15 ≠ k22 := fun h => hk22 (h ▸ m_k15)
  have n_k16_k22 : k16 ≠ k22 := fun h => hk22 (h ▸ m_k16)
  have n_k17_k22 : k17 ≠ k22 := fun h => hk22 (h ▸ m_k17)
  have n_k18_k22 : k18 ≠ k22 := fun h => hk22 (h ▸ m_k18)
  have n_k19_k22 : k19 ≠ k22 := fun h => hk22 (h ▸ m_k19)
  have n_k20_k22 : k20 ≠ k22 := fun h => hk22 (h ▸ m_k20)
  have n_k21_k22 : k21 ≠ k22 := fun h => hk22 (h ▸ m_k21)
  have m_q := List.mem_append_left [k22] m_q
  have m_k1 := List.mem_append_left [k22] m_k1
  have m_k2 := List.mem_append_left [k22] m_k2
  have m_k3 := List.mem_append_left [k22] m_k3
  have m_k4 := List.mem_append_left [k22] m_k4
  have m_k5 := List.mem_append_left [k22] m_k5
  have m_k6 := List.mem_append_left [k22] m_k6
  have m_k7 := List.mem_append_left [k22] m_k7
  have m_k8 := List.mem_append_left [k22] m_k8
  have m_k9 := List.mem_append_left [k22] m_k9
  have m_k10 := List.mem_append_left [k22] m_k10
  have m_k11 := List.mem_append_left [k22] m_k11
  have m_k12 := List.mem_append_left [k22] m_k12
  have m_k13 := List.mem_append_left [k22] m_k13
  have m_k14 := List.mem_append_left [k22] m_k14
  have m_k15 := List.mem_append_left [k22] m_k15
  have m_k16 := List.mem_append_left [k22] m_k16
  have m_k17 := List.mem_append_left [k22] m_k17
  have m_k18 := List.mem_append_left [k22] m_k18
  have m_k19 := List.mem_append_left [k22] m_k19
  have m_k20 := List.mem_append_left [k22] m_k20
  have m_k21 := List.mem_append_left [k22] m_k21
  have m_k22 : k22 ∈ ((((((((((((((((((((([q] ++ [k1]) ++ [k2]) ++ [k3]) ++ [k4]) ++ [k5]) ++ [k6]) ++ [k7]) ++ [k8]) ++ [k9]) ++ [k10]) ++ [k11]) ++ [k12]) ++ [k13]) ++ [k14]) ++ [k15]) ++ [k16]) ++ [k17]) ++ [k18]) ++ [k19]) ++ [k20]) ++ [k21]) ++ [k22] := List.mem_append_right _ (List.mem_singleton.mpr rfl)
  refine j_putF X 8 5 rfl cw_X8 tyX8 tyX8_ok nmX8 fl_X8_42 (by decide) rfl hname rfl dX8_init_65 m_q (up_n n_q_k22 up_s) rfl rfl (Nat.le_of_ble_eq_true rfl) ?_
  dsimp only [List.set]
  refine j_aload_n X (i := 0) dX8_init_68 rfl rfl ?_
  refine j_iconst X (2) dX8_init_69 (by decide) ?_
  refine j_newq X 5 (N' := 2) rfl cl_X8_28 X.2.2.2.2.2.2.2.2.2.1.2.2.2.2.2.2.2.2.2.1 (by decide) (by decide) (by decide) ⟨(by decide), (by decide)⟩ dX8_init_70 (fun k23 hk23 => ?_)
  have n_q_k23 : q ≠ k23 := fun h => hk23 (h ▸ m_q)
  have n_k1_k23 : k1 ≠ k23 := fun h => hk23 (h ▸ m_k1)
  have n_k2_k23 : k2 ≠ k23 := fun h => hk23 (h ▸ m_k2)
  have n_k3_k23 : k3 ≠ k23 := fun h => hk23 (h ▸ m_k3)
  have n_k4_k23 : k4 ≠ k23 := fun h => hk23 (h ▸ m_k4)
  have n_k5_k23 : k5 ≠ k23 := fun h => hk23 (h ▸ m_k5)
  have n_k6_k23 : k6 ≠ k23 := fun h => hk23 (h ▸ m_k6)
  have n_k7_k23 : k7 ≠ k23 := fun h => hk23 (h ▸ m_k7)
  have n_k8_k23 : k8 ≠ k23 := fun h => hk23 (h ▸ m_k8)
  have n_k9_k23 : k9 ≠ k23 := fun h => hk23 (h ▸ m_k9)
  have n_k10_k23 : k10 ≠ k23 := fun h => hk23 (h ▸ m_k10)
  have n_k11_k23 : k11 ≠ k23 := fun h => hk23 (h ▸ m_k11)
  have n_k12_k23 : k12 ≠ k23 := fun h => hk23 (h ▸ m_k12)
  have n_k13_k23 : k13 ≠ k23 := fun h => hk23 (h ▸ m_k13)
  have n_k14_k23 : k14 ≠ k23 := fun h => hk23 (h ▸ m_k14)
  have n_k15_k23 : k15 ≠ k23 := fun h => hk23 (h ▸ m_k15)
  have n_k16_k23 : k16 ≠ k23 := fun h => hk23 (h ▸ m_k16)
  have n_k17_k23 : k17 ≠ k23 := fun h => hk23 (h ▸ m_k17)
  have n_k18_k23 : k18 ≠ k23 := fun h => hk23 (h ▸ m_k18)
  have n_k19_k23 : k19 ≠ k23 := fun h => hk23 (h ▸ m_k19)
  have n_k20_k23 : k20 ≠ k23 := fun h => hk23 (h ▸ m_k20)
  have n_k21_k23 : k21 ≠ k23 := fun h => hk23 (h ▸ m_k21)
  have n_k22_k23 : k22 ≠ k23 := fun h => hk23 (h ▸ m_k22)
  have m_q := List.mem_append_left [k23] m_q
  have m_k1 := List.mem_append_left [k23] m_k1
  have m_k2 := List.mem_append_left [k23] m_k2
  have m_k3 := List.mem_append_left [k23] m_k3
  have m_k4 := List.mem_append_left [k23] m_k4
  have m_k5 := List.mem_append_left [k23] m_k5
  have m_k6 := List.mem_append_left [k23] m_k6
  have m_k7 := List.mem_append_left [k23] m_k7
  have m_k8 := List.mem_append_left [k23] m_k8
  have m_k9 := List.mem_append_left [k23] m_k9
  have m_k10 := List.mem_append_left [k23] m_k10
  have m_k11 := List.mem_append_left [k23] m_k11
  have m_k12 := List.mem_append_left [k23] m_k12
  have m_k13 := List.mem_append_left [k23] m_k13
  have m_k14 := List.mem_append_left [k23] m_k14
  have m_k15 := List.mem_append_left [k23] m_k15
  have m_k16 := List.mem_append_left [k23] m_k16
  have m_k17 := List.mem_append_left [k23] m_k17
  have m_k18 := List.mem_append_left [k23] m_k18
  have m_k19 := List.mem_append_left [k23] m_k19
  have m_k20 := List.mem_append_left [k23] m_k20
  have m_k21 := List.mem_append_left [k23] m_k21
  have m_k22 := List.mem_append_left [k23] m_k22
  have m_k23 : k23 ∈ (((((((((((((((((((((([q] ++ [k1]) ++ [k2]) ++ [k3]) ++ [k4]) ++ [k5]) ++ [k6]) ++ [k7]) ++ [k8]) ++ [k9]) ++ [k10]) ++ [k11]) ++ [k12]) ++ [k13]) ++ [k14]) ++ [k15]) ++ [k16]) ++ [k17]) ++ [k18]) ++ [k19]) ++ [k20]) ++ [k21]) ++ [k22]) ++ [k23] := List.mem_append_right _ (List.mem_singleton.mpr rfl)
  refine j_putF X 8 8 rfl cw_X8 tyX8 tyX8_ok nmX8 fl_X8_46 (by decide) rfl hname rfl dX8_init_73 m_q (up_n n_q_k23 up_s) rfl rfl (Nat.le_of_ble_eq_true rfl) ?_
  dsimp only [List.set]
  obtain ⟨hI, hhead, h22, h23⟩ := start24 (G := G) (f := (va_up (va_up (va_up (va_up (va_up f9_4 q (.inr (8, [.ref k1, .ref k2, .ref k6, .ref k8, .ref k17, .null, .int 0, .int 0, .null]))) k22 (aO G 6 (fun _ => none))) q (.inr (8, [.ref k1, .ref k2, .ref k6, .ref k8, .ref k17, .ref k22, .int 0, .int 0, .null]))) k23 (aO G 2 (fun _ => none))) q (.inr (8, [.ref k1, .ref k2, .ref k6, .ref k8, .ref k17, .ref k22, .int 0, .int 0, .ref k23])))) hk1 hk2 hk3 hk4 hk5 hk6 hk7 hk8 hk9 hk10 hk11 hk12 hk13 hk14 hk15 hk16 hk17 hk18 hk19 hk20 hk21 hk22 hk23 (up_s) ((up_n (Ne.symm n_q_k1) (up_n n_k1_k23 (up_n (Ne.symm n_q_k1) (up_n n_k1_k22 (up_n (Ne.symm n_q_k1) hf_k1)))))) ((up_n (Ne.symm n_q_k2) (up_n n_k2_k23 (up_n (Ne.symm n_q_k2) (up_n n_k2_k22 (up_n (Ne.symm n_q_k2) hf_k2)))))) ((up_n (Ne.symm n_q_k3) (up_n n_k3_k23 (up_n (Ne.symm n_q_k3) (up_n n_k3_k22 (up_n (Ne.symm n_q_k3) hf_k3)))))) ((up_n (Ne.symm n_q_k4) (up_n n_k4_k23 (up_n (Ne.symm n_q_k4) (up_n n_k4_k22 (up_n (Ne.symm n_q_k4) hf_k4)))))) ((up_n (Ne.symm n_q_k5) (up_n n_k5_k23 (up_n (Ne.symm n_q_k5) (up_n n_k5_k22 (up_n (Ne.symm n_q_k5) hf_k5)))))) ((up_n (Ne.symm n_q_k6) (up_n n_k6_k23 (up_n (Ne.symm n_q_k6) (up_n n_k6_k22 (up_n (Ne.symm n_q_k6) hf_k6)))))) ((up_n (Ne.symm n_q_k7) (up_n n_k7_k23 (up_n (Ne.symm n_q_k7) (up_n n_k7_k22 (up_n (Ne.symm n_q_k7) hf_k7)))))) ((up_n (Ne.symm n_q_k8) (up_n n_k8_k23 (up_n (Ne.symm n_q_k8) (up_n n_k8_k22 (up_n (Ne.symm n_q_k8) hf_k8)))))) ((up_n (Ne.symm n_q_k9) (up_n n_k9_k23 (up_n (Ne.symm n_q_k9) (up_n n_k9_k22 (up_n (Ne.symm n_q_k9) hf_k9)))))) ((up_n (Ne.symm n_q_k10) (up_n n_k10_k23 (up_n (Ne.symm n_q_k10) (up_n n_k10_k22 (up_n (Ne.symm n_q_k10) hf_k10)))))) ((up_n (Ne.symm n_q_k11) (up_n n_k11_k23 (up_n (Ne.symm n_q_k11) (up_n n_k11_k22 (up_n (Ne.symm n_q_k11) hf_k11)))))) ((up_n (Ne.symm n_q_k12) (up_n n_k12_k23 (up_n (Ne.symm n_q_k12) (up_n n_k12_k22 (up_n (Ne.symm n_q_k12) hf_k12)))))) ((up_n (Ne.symm n_q_k13) (up_n n_k13_k23 (up_n (Ne.symm n_q_k13) (up_n n_k13_k22 (up_n (Ne.symm n_q_k13) hf_k13)))))) ((up_n (Ne.symm n_q_k14) (up_n n_k14_k23 (up_n (Ne.symm n_q_k14) (up_n n_k14_k22 (up_n (Ne.symm n_q_k14) hf_k14)))))) ((up_n (Ne.symm n_q_k15) (up_n n_k15_k23 (up_n (Ne.symm n_q_k15) (up_n n_k15_k22 (up_n (Ne.symm n_q_k15) hf_k15)))))) ((up_n (Ne.symm n_q_k16) (up_n n_k16_k23 (up_n (Ne.symm n_q_k16) (up_n n_k16_k22 (up_n (Ne.symm n_q_k16) hf_k16)))))) ((up_n (Ne.symm n_q_k17) (up_n n_k17_k23 (up_n (Ne.symm n_q_k17) (up_n n_k17_k22 (up_n (Ne.symm n_q_k17) hf_k17)))))) ((up_n (Ne.symm n_q_k18) (up_n n_k18_k23 (up_n (Ne.symm n_q_k18) (up_n n_k18_k22 (up_n (Ne.symm n_q_k18) hf_k18)))))) ((up_n (Ne.symm n_q_k19) (up_n n_k19_k23 (up_n (Ne.symm n_q_k19) (up_n n_k19_k22 (up_n (Ne.symm n_q_k19) hf_k19)))))) ((up_n (Ne.symm n_q_k20) (up_n n_k20_k23 (up_n (Ne.symm n_q_k20) (up_n n_k20_k22 (up_n (Ne.symm n_q_k20) hf_k20)))))) ((up_n (Ne.symm n_q_k21) (up_n n_k21_k23 (up_n (Ne.symm n_q_k21) (up_n n_k21_k22 (up_n (Ne.symm n_q_k21) hf_k21)))))) ((up_n (Ne.symm n_q_k22) (up_n n_k22_k23 (up_n (Ne.symm n_q_k22) up_s)))) ((up_n (Ne.symm n_q_k23) up_s))
  refine j_iconst X (0) dX8_init_76 (by decide) ?_
  refine j_istore_n X (i := 1) dX8_init_77 rfl (by decide) (lvOK_s rfl okPrev_ref) ?_
  dsimp only [List.set]
  exact loopA hl hQ X 6 0 rfl _ _ ⟨hI, hhead, h22, h23⟩

