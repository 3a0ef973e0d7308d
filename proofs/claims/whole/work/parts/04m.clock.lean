theorem clock_post {G : GG} {L : List Nat} {f : Nat → va_E} {q : Nat} (hI : Inv G (24 + 9 * (6 + 2)) L f) (hh : L.head? = some q) (hrow : f (ad L 23) = aO G 2 (fun j => if j < 2 then some (ad L (slotR j)) else none)) (hoth : f (ad L 22) = aO G 6 (fun j => if j < 6 then some (ad L (pastR j)) else none)) : (none : Option Value) = none ∧ L.Nodup ∧ L.length = 96 ∧ L.head? = some q ∧ ∀ k, k < 96 → f (ad L k) = cnt G L k (a0 k) := by
  refine ⟨rfl, hI.1, hI.2.1, hh, fun k hk => ?_⟩
  by_cases h1 : k = 22
  · rw [h1, hoth, cnt_26 rfl]
  · by_cases h2 : k = 23
    · rw [h2, hrow, cnt_27 rfl]
    · exact hI.2.2 k hk h1 h2
set_option maxRecDepth 100000 in
set_option maxHeartbeats 8000000 in
theorem k_X8_init {l : Launch} (hl : l.stackTraces = false) {G : GG} {f : Nat → va_E} {q : Nat} (hf_q : f q = .inr (8, df8)) : Ct l G yX8_init (.code yX8_init cX8_init 2 none) 5 101 95 3640 [.ref q] [q] f px0 (fun r L1 f1 => r = none ∧ L1.Nodup ∧ L1.length = 96 ∧ L1.head? = some q ∧ ∀ k, k < 96 → f1 (ad L1 k) = cnt G L1 k (a0 k)) := by
  refine Ct.ofqn (own := RX8) hl rfl (by decide) [some (.ref q), none] rfl (Nat.le_of_ble_eq_true rfl) ?_
  intro p e s m below meth c A ar Q hQ hname X
  have m_q : q ∈ [q] := List.mem_singleton.mpr rfl
  refine j_aload_n X (i := 0) dX8_init_0 rfl rfl ?_
  refine j_objInit X ml_X8_1 dX8_init_1 ⟨(by decide), (Nat.le_of_ble_eq_true rfl)⟩ ?_
  refine j_aload_n X (i := 0) dX8_init_4 rfl rfl ?_
  refine j_new X 3 cw_X3 tyX3 tyX3_ok cl_X8_7 is_X3 in_X3 rfl df3_ok ⟨(by decide), (by decide)⟩ dX8_init_5 (fun k1 hk1 => ?_)
  have n_q_k1 : q ≠ k1 := fun h => hk1 (h ▸ m_q)
  have m_q := List.mem_append_left [k1] m_q
  have m_k1 : k1 ∈ [q] ++ [k1] := List.mem_append_right _ (List.mem_singleton.mpr rfl)
  refine j_dup X dX8_init_8 rfl ?_
  refine j_callIN X (k_X3_init hl m_k1 up_s) (List.mem_of_getElem? (i := 0) rfl) im_yX3_init in_X3 cd_yX3_init rfl hi_yX3_init dX8_init_9 ⟨(by decide), (by decide)⟩ ⟨(by decide), (by decide)⟩ (Nat.le_of_ble_eq_true rfl) (fun _ h => h.elim) (fun r9 L9 f9_1 h9 => ?_)
  obtain ⟨h91, k2, k3, k4, k5, hk2, hk3, hk4, hk5, h92, h93⟩ := h9
  subst r9
  subst L9
  dsimp only [Option.toList, List.nil_append]
  have n_q_k2 : q ≠ k2 := fun h => hk2 (h ▸ m_q)
  have n_k1_k2 : k1 ≠ k2 := fun h => hk2 (h ▸ m_k1)
  have m_q := List.mem_append_left [k2] m_q
  have m_k1 := List.mem_append_left [k2] m_k1
  have m_k2 : k2 ∈ ([q] ++ [k1]) ++ [k2] := List.mem_append_right _ (List.mem_singleton.mpr rfl)
  have n_q_k3 : q ≠ k3 := fun h => hk3 (h ▸ m_q)
  have n_k1_k3 : k1 ≠ k3 := fun h => hk3 (h ▸ m_k1)
  have n_k2_k3 : k2 ≠ k3 := fun h => hk3 (h ▸ m_k2)
  have m_q := List.mem_append_left [k3] m_q
  have m_k1 := List.mem_append_left [k3] m_k1
  have m_k2 := List.mem_append_left [k3] m_k2
  have m_k3 : k3 ∈ (([q] ++ [k1]) ++ [k2]) ++ [k3] := List.mem_append_right _ (List.mem_singleton.mpr rfl)
  have n_q_k4 : q ≠ k4 := fun h => hk4 (h ▸ m_q)
  have n_k1_k4 : k1 ≠ k4 := fun h => hk4 (h ▸ m_k1)
  have n_k2_k4 : k2 ≠ k4 := fun h => hk4 (h ▸ m_k2)
  have n_k3_k4 : k3 ≠ k4 := fun h => hk4 (h ▸ m_k3)
  have m_q := List.mem_append_left [k4] m_q
  have m_k1 := List.mem_append_left [k4] m_k1
  have m_k2 := List.mem_append_left [k4] m_k2
  have m_k3 := List.mem_append_left [k4] m_k3
  have m_k4 : k4 ∈ ((([q] ++ [k1]) ++ [k2]) ++ [k3]) ++ [k4] := List.mem_append_right _ (List.mem_singleton.mpr rfl)
  have n_q_k5 : q ≠ k5 := fun h => hk5 (h ▸ m_q)
  have n_k1_k5 : k1 ≠ k5 := fun h => hk5 (h ▸ m_k1)
  have n_k2_k5 : k2 ≠ k5 := fun h => hk5 (h ▸ m_k2)
  have n_k3_k5 : k3 ≠ k5 := fun h => hk5 (h ▸ m_k3)
  have n_k4_k5 : k4 ≠ k5 := fun h => hk5 (h ▸ m_k4)
  have m_q := List.mem_append_left [k5] m_q
  have m_k1 := List.mem_append_left [k5] m_k1
  have m_k2 := List.mem_append_left [k5] m_k2
  have m_k3 := List.mem_append_left [k5] m_k3
  have m_k4 := List.mem_append_left [k5] m_k4
  have m_k5 : k5 ∈ (((([q] ++ [k1]) ++ [k2]) ++ [k3]) ++ [k4]) ++ [k5] := List.mem_append_right _ (List.mem_singleton.mpr rfl)
  have hg_q : f9_1 q = (.inr (8, [.null, .null, .null, .null, .null, .null, .int 0, .int 0, .null])) := by rw [h93]; exact (up_n n_q_k1 (up_n n_q_k4 (up_n n_q_k5 (up_n n_q_k2 (up_n n_q_k3 (up_n n_q_k1 hf_q))))))
  have hg_k1 : f9_1 k1 = (.inr (3, [.ref k2, .ref k4, .int 0, .int (-1), .int 0, .int 0, .int (-1), .int 0, .int 0, .int 0, .int 0])) := by rw [h93]; exact up_s
  have hg_k2 : f9_1 k2 = (.inr (0, [.ref k3, .int 0])) := by rw [h93]; exact (up_n (Ne.symm n_k1_k2) (up_n n_k2_k4 (up_n n_k2_k5 up_s)))
  have hg_k3 : f9_1 k3 = (aB G 400 z0) := by rw [h93]; exact (up_n (Ne.symm n_k1_k3) (up_n n_k3_k4 (up_n n_k3_k5 (up_n (Ne.symm n_k2_k3) up_s))))
  have hg_k4 : f9_1 k4 = (.inr (4, [.ref k5, .int 0, .int 0, .int 0, .int (-1)])) := by rw [h93]; exact (up_n (Ne.symm n_k1_k4) up_s)
  have hg_k5 : f9_1 k5 = (aI G 25 z0) := by rw [h93]; exact (up_n (Ne.symm n_k1_k5) (up_n (Ne.symm n_k4_k5) up_s))
  have hf_q := hg_q
  have hf_k1 := hg_k1
  have hf_k2 := hg_k2
  have hf_k3 := hg_k3
  have hf_k4 := hg_k4
  have hf_k5 := hg_k5
  clear h93
  refine j_putF X 8 0 rfl cw_X8 tyX8 tyX8_ok nmX8 fl_X8_10 (by decide) rfl hname rfl dX8_init_12 m_q hf_q rfl rfl (Nat.le_of_ble_eq_true rfl) ?_
  dsimp only [List.set]
  refine j_aload_n X (i := 0) dX8_init_15 rfl rfl ?_
  refine j_aload_n X (i := 0) dX8_init_16 rfl rfl ?_
  refine j_getf X 8 0 rfl cw_X8 fl_X8_10 (by decide) dX8_init_17 m_q up_s rfl ?_
  refine j_getf X 3 0 rfl cw_X3 fl_X8_16 (by decide) dX8_init_20 m_k1 (up_n (Ne.symm n_q_k1) hf_k1) rfl ?_
  refine j_putF X 8 1 rfl cw_X8 tyX8 tyX8_ok nmX8 fl_X8_20 (by decide) rfl hname rfl dX8_init_23 m_q up_s rfl rfl (Nat.le_of_ble_eq_true rfl) ?_
  dsimp only [List.set]
  rw [up_up]
  refine j_aload_n X (i := 0) dX8_init_26 rfl rfl ?_
  refine j_new X 2 cw_X2 tyX2 tyX2_ok cl_X8_21 is_X2 in_X2 rfl df2_ok ⟨(by decide), (by decide)⟩ dX8_init_27 (fun k6 hk6 => ?_)
  have n_q_k6 : q ≠ k6 := fun h => hk6 (h ▸ m_q)
  have n_k1_k6 : k1 ≠ k6 := fun h => hk6 (h ▸ m_k1)
  have n_k2_k6 : k2 ≠ k6 := fun h => hk6 (h ▸ m_k2)
  have n_k3_k6 : k3 ≠ k6 := fun h => hk6 (h ▸ m_k3)
  have n_k4_k6 : k4 ≠ k6 := fun h => hk6 (h ▸ m_k4)
  have n_k5_k6 : k5 ≠ k6 := fun h => hk6 (h ▸ m_k5)
  have m_q := List.mem_append_left [k6] m_q
  have m_k1 := List.mem_append_left [k6] m_k1
  have m_k2 := List.mem_append_left [k6] m_k2
  have m_k3 := List.mem_append_left [k6] m_k3
  have m_k4 := List.mem_append_left [k6] m_k4
  have m_k5 := List.mem_append_left [k6] m_k5
  have m_k6 : k6 ∈ ((((([q] ++ [k1]) ++ [k2]) ++ [k3]) ++ [k4]) ++ [k5]) ++ [k6] := List.mem_append_right _ (List.mem_singleton.mpr rfl)
  refine j_dup X dX8_init_30 rfl ?_
  refine j_callIN X (k_X2_init hl m_k6 up_s) (List.mem_of_getElem? (i := 3) rfl) im_yX2_init in_X2 cd_yX2_init rfl hi_yX2_init dX8_init_31 ⟨(by decide), (by decide)⟩ ⟨(by decide), (by decide)⟩ (Nat.le_of_ble_eq_true rfl) (fun _ h => h.elim) (fun r9 L9 f9_2 h9 => ?_)
  obtain ⟨h91, k7, hk7, h92, h93⟩ := h9
  subst r9
  subst L9
  dsimp only [Option.toList, List.nil_append]
  have n_q_k7 : q ≠ k7 := fun h => hk7 (h ▸ m_q)
  have n_k1_k7 : k1 ≠ k7 := fun h => hk7 (h ▸ m_k1)
  have n_k2_k7 : k2 ≠ k7 := fun h => hk7 (h ▸ m_k2)
  have n_k3_k7 : k3 ≠ k7 := fun h => hk7 (h ▸ m_k3)
  have n_k4_k7 : k4 ≠ k7 := fun h => hk7 (h ▸ m_k4)
  have n_k5_k7 : k5 ≠ k7 := fun h => hk7 (h ▸ m_k5)
  have n_k6_k7 : k6 ≠ k7 := fun h => hk7 (h ▸ m_k6)
  have m_q := List.mem_append_left [k7] m_q
  have m_k1 := List.mem_append_left [k7] m_k1
  have m_k2 := List.mem_append_left [k7] m_k2
  have m_k3 := List.mem_append_left [k7] m_k3
  have m_k4 := List.mem_append_left [k7] m_k4
  have m_k5 := List.mem_append_left [k7] m_k5
  have m_k6 := List.mem_append_left [k7] m_k6
  have m_k7 : k7 ∈ (((((([q] ++ [k1]) ++ [k2]) ++ [k3]) ++ [k4]) ++ [k5]) ++ [k6]) ++ [k7] := List.mem_append_right _ (List.mem_singleton.mpr rfl)
  have hg_q : f9_2 q = (.inr (8, [.ref k1, .ref k2, .null, .null, .null, .null, .int 0, .int 0, .null])) := by rw [h93]; exact (up_n n_q_k6 (up_n n_q_k7 (up_n n_q_k6 up_s)))
  have hg_k1 : f9_2 k1 = (.inr (3, [.ref k2, .ref k4, .int 0, .int (-1), .int 0, .int 0, .int (-1), .int 0, .int 0, .int 0, .int 0])) := by rw [h93]; exact (up_n n_k1_k6 (up_n n_k1_k7 (up_n n_k1_k6 (up_n (Ne.symm n_q_k1) hf_k1))))
  have hg_k2 : f9_2 k2 = (.inr (0, [.ref k3, .int 0])) := by rw [h93]; exact (up_n n_k2_k6 (up_n n_k2_k7 (up_n n_k2_k6 (up_n (Ne.symm n_q_k2) hf_k2))))
  have hg_k3 : f9_2 k3 = (aB G 400 z0) := by rw [h93]; exact (up_n n_k3_k6 (up_n n_k3_k7 (up_n n_k3_k6 (up_n (Ne.symm n_q_k3) hf_k3))))
  have hg_k4 : f9_2 k4 = (.inr (4, [.ref k5, .int 0, .int 0, .int 0, .int (-1)])) := by rw [h93]; exact (up_n n_k4_k6 (up_n n_k4_k7 (up_n n_k4_k6 (up_n (Ne.symm n_q_k4) hf_k4))))
  have hg_k5 : f9_2 k5 = (aI G 25 z0) := by rw [h93]; exact (up_n n_k5_k6 (up_n n_k5_k7 (up_n n_k5_k6 (up_n (Ne.symm n_q_k5) hf_k5))))
  have hg_k6 : f9_2 k6 = (.inr (2, [.ref k7, .int 0])) := by rw [h93]; exact up_s
  have hg_k7 : f9_2 k7 = (aB G 256 z0) := by rw [h93]; exact (up_n (Ne.symm n_k6_k7) up_s)
  have hf_q := hg_q
  have hf_k1 := hg_k1
  have hf_k2 := hg_k2
  have hf_k3 := hg_k3
  have hf_k4 := hg_k4
  have hf_k5 := hg_k5
  have hf_k6 := hg_k6
  have hf_k7 := hg_k7
  clear h93
  refine j_putF X 8 2 rfl cw_X8 tyX8 tyX8_ok nmX8 fl_X8_24 (by decide) rfl hname rfl dX8_init_34 m_q hf_q rfl rfl (Nat.le_of_ble_eq_true rfl) ?_
  dsimp only [List.set]
  refine j_aload_n X (i := 0) dX8_init_37 rfl rfl ?_
  refine j_new X 6 cw_X6 tyX6 tyX6_ok cl_X8_28 is_X6 in_X6 rfl df6_ok ⟨(by decide), (by decide)⟩ dX8_init_38 (fun k8 hk8 => ?_)
  have n_q_k8 : q ≠ k8 := fun h => hk8 (h ▸ m_q)
  have n_k1_k8 : k1 ≠ k8 := fun h => hk8 (h ▸ m_k1)
  have n_k2_k8 : k2 ≠ k8 := fun h => hk8 (h ▸ m_k2)
  have n_k3_k8 : k3 ≠ k8 := fun h => hk8 (h ▸ m_k3)
  have n_k4_k8 : k4 ≠ k8 := fun h => hk8 (h ▸ m_k4)
  have n_k5_k8 : k5 ≠ k8 := fun h => hk8 (h ▸ m_k5)
  have n_k6_k8 : k6 ≠ k8 := fun h => hk8 (h ▸ m_k6)
  have n_k7_k8 : k7 ≠ k8 := fun h => hk8 (h ▸ m_k7)
  have m_q := List.mem_append_left [k8] m_q
  have m_k1 := List.mem_append_left [k8] m_k1
  have m_k2 := List.mem_append_left [k8] m_k2
  have m_k3 := List.mem_append_left [k8] m_k3
  have m_k4 := List.mem_append_left [k8] m_k4
  have m_k5 := List.mem_append_left [k8] m_k5
  have m_k6 := List.mem_append_left [k8] m_k6
  have m_k7 := List.mem_append_left [k8] m_k7
  have m_k8 : k8 ∈ ((((((([q] ++ [k1]) ++ [k2]) ++ [k3]) ++ [k4]) ++ [k5]) ++ [k6]) ++ [k7]) ++ [k8] := List.mem_append_right _ (List.mem_singleton.mpr rfl)
  refine j_dup X dX8_init_41 rfl ?_
  refine j_callI X (k_X6_init hl m_k8 up_s) ml_X8_30 im_yX6_init in_X6 cd_yX6_init rfl hi_yX6_init dX8_init_42 ⟨(by decide), (by decide)⟩ ⟨(by decide), (by decide)⟩ (Nat.le_of_ble_eq_true rfl) (fun _ h => h.elim) (fun r9 L9 f9_3 h9 => ?_)
  obtain ⟨h91, k9, k10, k11, k12, k13, k14, k15, k16, hk9, hk10, hk11, hk12, hk13, hk14, hk15, hk16, h92, h93⟩ := h9
  subst r9
  subst L9
  dsimp only [Option.toList, List.nil_append]
  have n_q_k9 : q ≠ k9 := fun h => hk9 (h ▸ m_q)
  have n_k1_k9 : k1 ≠ k9 := fun h => hk9 (h ▸ m_k1)
  have n_k2_k9 : k2 ≠ k9 := fun h => hk9 (h ▸ m_k2)
  have n_k3_k9 : k3 ≠ k9 := fun h => hk9 (h ▸ m_k3)
  have n_k4_k9 : k4 ≠ k9 := fun h => hk9 (h ▸ m_k4)
  have n_k5_k9 : k5 ≠ k9 := fun h => hk9 (h ▸ m_k5)
  have n_k6_k9 : k6 ≠ k9 := fun h => hk9 (h ▸ m_k6)
  have n_k7_k9 : k7 ≠ k9 := fun h => hk9 (h ▸ m_k7)
  have n_k8_k9 : k8 ≠ k9 := fun h => hk9 (h ▸ m_k8)
  have m_q := List.mem_append_left [k9] m_q
  have m_k1 := List.mem_append_left [k9] m_k1
  have m_k2 := List.mem_append_left [k9] m_k2
  have m_k3 := List.mem_append_left [k9] m_k3
  have m_k4 := List.mem_append_left [k9] m_k4
  have m_k5 := List.mem_append_left [k9] m_k5
  have m_k6 := List.mem_append_left [k9] m_k6
  have m_k7 := List.mem_append_left [k9] m_k7
  have m_k8 := List.mem_append_left [k9] m_k8
  have m_k9 : k9 ∈ (((((((([q] ++ [k1]) ++ [k2]) ++ [k3]) ++ [k4]) ++ [k5]) ++ [k6]) ++ [k7]) ++ [k8]) ++ [k9] := List.mem_append_right _ (List.mem_singleton.mpr rfl)
  have n_q_k10 : q ≠ k10 := fun h => hk10 (h ▸ m_q)
  have n_k1_k10 : k1 ≠ k10 := fun h => hk10 (h ▸ m_k1)
  have n_k2_k10 : k2 ≠ k10 := fun h => hk10 (h ▸ m_k2)
  have n_k3_k10 : k3 ≠ k10 := fun h => hk10 (h ▸ m_k3)
  have n_k4_k10 : k4 ≠ k10 := fun h => hk10 (h ▸ m_k4)
  have n_k5_k10 : k5 ≠ k10 := fun h => hk10 (h ▸ m_k5)
  have n_k6_k10 : k6 ≠ k10 := fun h => hk10 (h ▸ m_k6)
  have n_k7_k10 : k7 ≠ k10 := fun h => hk10 (h ▸ m_k7)
  have n_k8_k10 : k8 ≠ k10 := fun h => hk10 (h ▸ m_k8)
  have n_k9_k10 : k9 ≠ k10 := fun h => hk10 (h ▸ m_k9)
  have m_q := List.mem_append_left [k10] m_q
  have m_k1 := List.mem_append_left [k10] m_k1
  have m_k2 := List.mem_append_left [k10] m_k2
  have m_k3 := List.mem_append_left [k10] m_k3
  have m_k4 := List.mem_append_left [k10] m_k4
  have m_k5 := List.mem_append_left [k10] m_k5
  have m_k6 := List.mem_append_left [k10] m_k6
  have m_k7 := List.mem_append_left [k10] m_k7
  have m_k8 := List.mem_append_left [k10] m_k8
  have m_k9 := List.mem_append_left [k10] m_k9
  have m_k10 : k10 ∈ ((((((((([q] ++ [k1]) ++ [k2]) ++ [k3]) ++ [k4]) ++ [k5]) ++ [k6]) ++ [k7]) ++ [k8]) ++ [k9]) ++ [k10] := List.mem_append_right _ (List.mem_singleton.mpr rfl)
  have n_q_k11 : q ≠ k11 := fun h => hk11 (h ▸ m_q)
  have n_k1_k11 : k1 ≠ k11 := fun h => hk11 (h ▸ m_k1)
  have n_k2_k11 : k2 ≠ k11 := fun h => hk11 (h ▸ m_k2)
  have n_k3_k11 : k3 ≠ k11 := fun h => hk11 (h ▸ m_k3)
  have n_k4_k11 : k4 ≠ k11 := fun h => hk11 (h ▸ m_k4)
  have n_k5_k11 : k5 ≠ k11 := fun h => hk11 (h ▸ m_k5)
  have n_k6_k11 : k6 ≠ k11 := fun h => hk11 (h ▸ m_k6)
  have n_k7_k11 : k7 ≠ k11 := fun h => hk11 (h ▸ m_k7)
  have n_k8_k11 : k8 ≠ k11 := fun h => hk11 (h ▸ m_k8)
  have n_k9_k11 : k9 ≠ k11 := fun h => hk11 (h ▸ m_k9)
  have n_k10_k11 : k10 ≠ k11 := fun h => hk11 (h ▸ m_k10)
  have m_q := List.mem_append_left [k11] m_q
  have m_k1 := List.mem_append_left [k11] m_k1
  have m_k2 := List.mem_append_left [k11] m_k2
  have m_k3 := List.mem_append_left [k11] m_k3
  have m_k4 := List.mem_append_left [k11] m_k4
  have m_k5 := List.mem_append_left [k11] m_k5
  have m_k6 := List.mem_append_left [k11] m_k6
  have m_k7 := List.mem_append_left [k11] m_k7
  have m_k8 := List.mem_append_left [k11] m_k8
  have m_k9 := List.mem_append_left [k11] m_k9
  have m_k10 := List.mem_append_left [k11] m_k10
  have m_k11 : k11 ∈ (((((((((([q] ++ [k1]) ++ [k2]) ++ [k3]) ++ [k4]) ++ [k5]) ++ [k6]) ++ [k7]) ++ [k8]) ++ [k9]) ++ [k10]) ++ [k11] := List.mem_append_right _ (List.mem_singleton.mpr rfl)
  have n_q_k12 : q ≠ k12 := fun h => hk12 (h ▸ m_q)
  have n_k1_k12 : k1 ≠ k12 := fun h => hk12 (h ▸ m_k1)
  have n_k2_k12 : k2 ≠ k12 := fun h => hk12 (h ▸ m_k2)
  have n_k3_k12 : k3 ≠ k12 := fun h => hk12 (h ▸ m_k3)
  have n_k4_k12 : k4 ≠ k12 := fun h => hk12 (h ▸ m_k4)
  have n_k5_k12 : k5 ≠ k12 := fun h => hk12 (h ▸ m_k5)
  have n_k6_k12 : k6 ≠ k12 := fun h => hk12 (h ▸ m_k6)
  have n_k7_k12 : k7 ≠ k12 := fun h => hk12 (h ▸ m_k7)
  have n_k8_k12 : k8 ≠ k12 := fun h => hk12 (h ▸ m_k8)
  have n_k9_k12 : k9 ≠ k12 := fun h => hk12 (h ▸ m_k9)
  have n_k10_k12 : k10 ≠ k12 := fun h => hk12 (h ▸ m_k10)
  have n_k11_k12 : k11 ≠ k12 := fun h => hk12 (h ▸ m_k11)
  have m_q := List.mem_append_left [k12] m_q
  have m_k1 := List.mem_append_left [k12] m_k1
  have m_k2 := List.mem_append_left [k12] m_k2
  have m_k3 := List.mem_append_left [k12] m_k3
  have m_k4 := List.mem_append_left [k12] m_k4
  have m_k5 := List.mem_append_left [k12] m_k5
  have m_k6 := List.mem_append_left [k12] m_k6
  have m_k7 := List.mem_append_left [k12] m_k7
  have m_k8 := List.mem_append_left [k12] m_k8
  have m_k9 := List.mem_append_left [k12] m_k9
  have m_k10 := List.mem_append_left [k12] m_k10
  have m_k11 := List.mem_append_left [k12] m_k11
  have m_k12 : k12 ∈ ((((((((((([q] ++ [k1]) ++ [k2]) ++ [k3]) ++ [k4]) ++ [k5]) ++ [k6]) ++ [k7]) ++ [k8]) ++ [k9]) ++ [k10]) ++ [k11]) ++ [k12] := List.mem_append_right _ (List.mem_singleton.mpr rfl)
  have n_q_k13 : q ≠ k13 := fun h => hk13 (h ▸ m_q)
  have n_k1_k13 : k1 ≠ k13 := fun h => hk13 (h ▸ m_k1)
  have n_k2_k13 : k2 ≠ k13 := fun h => hk13 (h ▸ m_k2)
  have n_k3_k13 : k3 ≠ k13 := fun h => hk13 (h ▸ m_k3)
  have n_k4_k13 : k4 ≠ k13 := fun h => hk13 (h ▸ m_k4)
  have n_k5_k13 : k5 ≠ k13 := fun h => hk13 (h ▸ m_k5)
  have n_k6_k13 : k6 ≠ k13 := fun h => hk13 (h ▸ m_k6)
  have n_k7_k13 : k7 ≠ k13 := fun h => hk13 (h ▸ m_k7)
  have n_k8_k13 : k8 ≠ k13 := fun h => hk13 (h ▸ m_k8)
  have n_k9_k13 : k9 ≠ k13 := fun h => hk13 (h ▸ m_k9)
  have n_k10_k13 : k10 ≠ k13 := fun h => hk13 (h ▸ m_k10)
  have n_k11_k13 : k11 ≠ k13 := fun h => hk13 (h ▸ m_k11)
  have n_k12_k13 : k12 ≠ k13 := fun h => hk13 (h ▸ m_k12)
  have m_q := List.mem_append_left [k13] m_q
  have m_k1 := List.mem_append_left [k13] m_k1
  have m_k2 := List.mem_append_left [k13] m_k2
  have m_k3 := List.mem_append_left [k13] m_k3
  have m_k4 := List.mem_append_left [k13] m_k4
  have m_k5 := List.mem_append_left [k13] m_k5
  have m_k6 := List.mem_append_left [k13] m_k6
  have m_k7 := List.mem_append_left [k13] m_k7
  have m_k8 := List.mem_append_left [k13] m_k8
  have m_k9 := List.mem_append_left [k13] m_k9
  have m_k10 := List.mem_append_left [k13] m_k10
  have m_k11 := List.mem_append_left [k13] m_k11
  have m_k12 := List.mem_append_left [k13] m_k12
  have m_k13 : k13 ∈ (((((((((((([q] ++ [k1]) ++ [k2]) ++ [k3]) ++ [k4]) ++ [k5]) ++ [k6]) ++ [k7]) ++ [k8]) ++ [k9]) ++ [k10]) ++ [k11]) ++ [k12]) ++ [k13] := List.mem_append_right _ (List.mem_singleton.mpr rfl)
  have n_q_k14 : q ≠ k14 := fun h => hk14 (h ▸ m_q)
  have n_k1_k14 : k1 ≠ k14 := fun h => hk14 (h ▸ m_k1)
  have n_k2_k14 : k2 ≠ k14 := fun h => hk14 (h ▸ m_k2)
  have n_k3_k14 : k3 ≠ k14 := fun h => hk14 (h ▸ m_k3)
  have n_k4_k14 : k4 ≠ k14 := fun h => hk14 (h ▸ m_k4)
  have n_k5_k14 : k5 ≠ k14 := fun h => hk14 (h ▸ m_k5)
  have n_k6_k14 : k6 ≠ k14 := fun h => hk14 (h ▸ m_k6)
  have n_k7_k14 : k7 ≠ k14 := fun h => hk14 (h ▸ m_k7)
  have n_k8_k14 : k8 ≠ k14 := fun h => hk14 (h ▸ m_k8)
  have n_k9_k14 : k9 ≠ k14 := fun h => hk14 (h ▸ m_k9)
  have n_k10_k14 : k10 ≠ k14 := fun h => hk14 (h ▸ m_k10)
  have n_k11_k14 : k11 ≠ k14 := fun h => hk14 (h ▸ m_k11)
  have n_k12_k14 : k12 ≠ k14 := fun h => hk14 (h ▸ m_k12)
  have n_k13_k14 : k13 ≠ k14 := fun h => hk14 (h ▸ m_k13)
  have m_q := List.mem_append_left [k14] m_q
  have m_k1 := List.mem_append_left [k14] m_k1
  have m_k2 := List.mem_append_left [k14] m_k2
  have m_k3 := List.mem_append_left [k14] m_k3
  have m_k4 := List.mem_append_left [k14] m_k4
  have m_k5 := List.mem_append_left [k14] m_k5
  have m_k6 := List.mem_append_left [k14] m_k6
  have m_k7 := List.mem_append_left [k14] m_k7
  have m_k8 := List.mem_append_left [k14] m_k8
  have m_k9 := List.mem_append_left [k14] m_k9
  have m_k10 := List.mem_append_left [k14] m_k10
  have m_k11 := List.mem_append_left [k14] m_k11
  have m_k12 := List.mem_append_left [k14] m_k12
  have m_k13 := List.mem_append_left [k14] m_k13
  have m_k14 : k14 ∈ ((((((((((((([q] ++ [k1]) ++ [k2]) ++ [k3]) ++ [k4]) ++ [k5]) ++ [k6]) ++ [k7]) ++ [k8]) ++ [k9]) ++ [k10]) ++ [k11]) ++ [k12]) ++ [k13]) ++ [k14] := List.mem_append_right _ (List.mem_singleton.mpr rfl)
  have n_q_k15 : q ≠ k15 := fun h => hk15 (h ▸ m_q)
  have n_k1_k15 : k1 ≠ k15 := fun h => hk15 (h ▸ m_k1)
  have n_k2_k15 : k2 ≠ k15 := fun h => hk15 (h ▸ m_k2)
  have n_k3_k15 : k3 ≠ k15 := fun h => hk15 (h ▸ m_k3)
  have n_k4_k15 : k4 ≠ k15 := fun h => hk15 (h ▸ m_k4)
  have n_k5_k15 : k5 ≠ k15 := fun h => hk15 (h ▸ m_k5)
  have n_k6_k15 : k6 ≠ k15 := fun h => hk15 (h ▸ m_k6)
  have n_k7_k15 : k7 ≠ k15 := fun h => hk15 (h ▸ m_k7)
  have n_k8_k15 : k8 ≠ k15 := fun h => hk15 (h ▸ m_k8)
  have n_k9_k15 : k9 ≠ k15 := fun h => hk15 (h ▸ m_k9)
  have n_k10_k15 : k10 ≠ k15 := fun h => hk15 (h ▸ m_k10)
  have n_k11_k15 : k11 ≠ k15 := fun h => hk15 (h ▸ m_k11)
  have n_k12_k15 : k12 ≠ k15 := fun h => hk15 (h ▸ m_k12)
  have n_k13_k15 : k13 ≠ k15 := fun h => hk15 (h ▸ m_k13)
  have n_k14_k15 : k14 ≠ k15 := fun h => hk15 (h ▸ m_k14)
  have m_q := List.mem_append_left [k15] m_q
  have m_k1 := List.mem_append_left [k15] m_k1
  have m_k2 := List.mem_append_left [k15] m_k2
  have m_k3 := List.mem_append_left [k15] m_k3
  have m_k4 := List.mem_append_left [k15] m_k4
  have m_k5 := List.mem_append_left [k15] m_k5
  have m_k6 := List.mem_append_left [k15] m_k6
  have m_k7 := List.mem_append_left [k15] m_k7
  have m_k8 := List.mem_append_left [k15] m_k8
  have m_k9 := List.mem_append_left [k15] m_k9
  have m_k10 := List.mem_append_left [k15] m_k10
  have m_k11 := List.mem_append_left [k15] m_k11
  have m_k12 := List.mem_append_left [k15] m_k12
  have m_k13 := List.mem_append_left [k15] m_k13
  have m_k14 := List.mem_append_left [k15] m_k14
  have m_k15 : k15 ∈ (((((((((((((([q] ++ [k1]) ++ [k2]) ++ [k3]) ++ [k4]) ++ [k5]) ++ [k6]) ++ [k7]) ++ [k8]) ++ [k9]) ++ [k10]) ++ [k11]) ++ [k12]) ++ [k13]) ++ [k14]) ++ [k15] := List.mem_append_right _ (List.mem_singleton.mpr rfl)
  have n_q_k16 : q ≠ k16 := fun h => hk16 (h ▸ m_q)
  have n_k1_k16 : k1 ≠ k16 := fun h => hk16 (h ▸ m_k1)
  have n_k2_k16 : k2 ≠ k16 := fun h => hk16 (h ▸ m_k2)
  have n_k3_k16 : k3 ≠ k16 := fun h => hk16 (h ▸ m_k3)
  have n_k4_k16 : k4 ≠ k16 := fun h => hk16 (h ▸ m_k4)
  have n_k5_k16 : k5 ≠ k16 := fun h => hk16 (h ▸ m_k5)
  have n_k6_k16 : k6 ≠ k16 := fun h => hk16 (h ▸ m_k6)
  have n_k7_k16 : k7 ≠ k16 := fun h => hk16 (h ▸ m_k7)
  have n_k8_k16 : k8 ≠ k16 := fun h => hk16 (h ▸ m_k8)
  have n_k9_k16 : k9 ≠ k16 := fun h => hk16 (h ▸ m_k9)
  have n_k10_k16 : k10 ≠ k16 := fun h => hk16 (h ▸ m_k10)
  have n_k11_k16 : k11 ≠ k16 := fun h => hk16 (h ▸ m_k11)
  have n_k12_k16 : k12 ≠ k16 := fun h => hk16 (h ▸ m_k12)
  have n_k13_k16 : k13 ≠ k16 := fun h => hk16 (h ▸ m_k13)
  have n_k14_k16 : k14 ≠ k16 := fun h => hk16 (h ▸ m_k14)
  have n_k15_k16 : k15 ≠ k16 := fun h => hk16 (h ▸ m_k15)
  have m_q := List.mem_append_left [k16] m_q
  have m_k1 := List.mem_append_left [k16] m_k1
  have m_k2 := List.mem_append_left [k16] m_k2
  have m_k3 := List.mem_append_left [k16] m_k3
  have m_k4 := List.mem_append_left [k16] m_k4
  have m_k5 := List.mem_append_left [k16] m_k5
  have m_k6 := List.mem_append_left [k16] m_k6
  have m_k7 := List.mem_append_left [k16] m_k7
  have m_k8 := List.mem_append_left [k16] m_k8
  have m_k9 := List.mem_append_left [k16] m_k9
  have m_k10 := List.mem_append_left [k16] m_k10
  have m_k11 := List.mem_append_left [k16] m_k11
  have m_k12 := List.mem_append_left [k16] m_k12
  have m_k13 := List.mem_append_left [k16] m_k13
  have m_k14 := List.mem_append_left [k16] m_k14
  have m_k15 := List.mem_append_left [k16] m_k15
  have m_k16 : k16 ∈ ((((((((((((((([q] ++ [k1]) ++ [k2]) ++ [k3]) ++ [k4]) ++ [k5]) ++ [k6]) ++ [k7]) ++ [k8]) ++ [k9]) ++ [k10]) ++ [k11]) ++ [k12]) ++ [k13]) ++ [k14]) ++ [k15]) ++ [k16] := List.mem_append_right _ (List.mem_singleton.mpr rfl)
  have hg_q : f9_3 q = (.inr (8, [.ref k1, .ref k2, .ref k6, .null, .null, .null, .int 0, .int 0, .null])) := by rw [h93]; exact (up_n n_q_k15 (up_n n_q_k16 (up_n n_q_k13 (up_n n_q_k14 (up_n n_q_k10 (up_n n_q_k9 (up_n n_q_k8 (up_n n_q_k11 (up_n n_q_k12 (up_n n_q_k8 up_s))))))))))
  have hg_k1 : f9_3 k1 = (.inr (3, [.ref k2, .ref k4, .int 0, .int (-1), .int 0, .int 0, .int (-1), .int 0, .int 0, .int 0, .int 0])) := by rw [h93]; exact (up_n n_k1_k15 (up_n n_k1_k16 (up_n n_k1_k13 (up_n n_k1_k14 (up_n n_k1_k10 (up_n n_k1_k9 (up_n n_k1_k8 (up_n n_k1_k11 (up_n n_k1_k12 (up_n n_k1_k8 (up_n (Ne.symm n_q_k1) hf_k1)))))))))))
  have hg_k2 : f9_3 k2 = (.inr (0, [.ref k3, .int 0])) := by rw [h93]; exact (up_n n_k2_k15 (up_n n_k2_k16 (up_n n_k2_k13 (up_n n_k2_k14 (up_n n_k2_k10 (up_n n_k2_k9 (up_n n_k2_k8 (up_n n_k2_k11 (up_n n_k2_k12 (up_n n_k2_k8 (up_n (Ne.symm n_q_k2) hf_k2)))))))))))
  have hg_k3 : f9_3 k3 = (aB G 400 z0) := by rw [h93]; exact (up_n n_k3_k15 (up_n n_k3_k16 (up_n n_k3_k13 (up_n n_k3_k14 (up_n n_k3_k10 (up_n n_k3_k9 (up_n n_k3_k8 (up_n n_k3_k11 (up_n n_k3_k12 (up_n n_k3_k8 (up_n (Ne.symm n_q_k3) hf_k3)))))))))))
  have hg_k4 : f9_3 k4 = (.inr (4, [.ref k5, .int 0, .int 0, .int 0, .int (-1)])) := by rw [h93]; exact (up_n n_k4_k15 (up_n n_k4_k16 (up_n n_k4_k13 (up_n n_k4_k14 (up_n n_k4_k10 (up_n n_k4_k9 (up_n n_k4_k8 (up_n n_k4_k11 (up_n n_k4_k12 (up_n n_k4_k8 (up_n (Ne.symm n_q_k4) hf_k4)))))))))))
  have hg_k5 : f9_3 k5 = (aI G 25 z0) := by rw [h93]; exact (up_n n_k5_k15 (up_n n_k5_k16 (up_n n_k5_k13 (up_n n_k5_k14 (up_n n_k5_k10 (up_n n_k5_k9 (up_n n_k5_k8 (up_n n_k5_k11 (up_n n_k5_k12 (up_n n_k5_k8 (up_n (Ne.symm n_q_k5) hf_k5)))))))))))
  have hg_k6 : f9_3 k6 = (.inr (2, [.ref k7, .int 0])) := by rw [h93]; exact (up_n n_k6_k15 (up_n n_k6_k16 (up_n n_k6_k13 (up_n n_k6_k14 (up_n n_k6_k10 (up_n n_k6_k9 (up_n n_k6_k8 (up_n n_k6_k11 (up_n n_k6_k12 (up_n n_k6_k8 (up_n (Ne.symm n_q_k6) hf_k6)))))))))))
  have hg_k7 : f9_3 k7 = (aB G 256 z0) := by rw [h93]; exact (up_n n_k7_k15 (up_n n_k7_k16 (up_n n_k7_k13 (up_n n_k7_k14 (up_n n_k7_k10 (up_n n_k7_k9 (up_n n_k7_k8 (up_n n_k7_k11 (up_n n_k7_k12 (up_n n_k7_k8 (up_n (Ne.symm n_q_k7) hf_k7)))))))))))
  have hg_k8 : f9_3 k8 = (.inr (6, [.ref k9, .ref k11, .ref k13, .ref k15, .int 0, .int 0, .int 0, .int (-1), .int (-1), .int 0, .int 0, .int 0])) := by rw [h93]; exact (up_n n_k8_k15 (up_n n_k8_k16 (up_n n_k8_k13 (up_n n_k8_k14 (up_n n_k8_k10 (up_n n_k8_k9 up_s))))))
  have hg_k9 : f9_3 k9 = (.inr (4, [.ref k10, .int (1), .int 0, .int 0, .int (-1)])) := by rw [h93]; exact (up_n n_k9_k15 (up_n n_k9_k16 (up_n n_k9_k13 (up_n n_k9_k14 (up_n n_k9_k10 up_s)))))
  have hg_k10 : f9_3 k10 = (aI G 25 tm0) := by rw [h93]; exact (up_n n_k10_k15 (up_n n_k10_k16 (up_n n_k10_k13 (up_n n_k10_k14 up_s))))
  have hg_k11 : f9_3 k11 = (.inr (1, [.ref k12, .int 0, .int 0])) := by rw [h93]; exact (up_n n_k11_k15 (up_n n_k11_k16 (up_n n_k11_k13 (up_n n_k11_k14 (up_n (Ne.symm n_k10_k11) (up_n (Ne.symm n_k9_k11) (up_n (Ne.symm n_k8_k11) up_s)))))))
  have hg_k12 : f9_3 k12 = (aI G 240 z0) := by rw [h93]; exact (up_n n_k12_k15 (up_n n_k12_k16 (up_n n_k12_k13 (up_n n_k12_k14 (up_n (Ne.symm n_k10_k12) (up_n (Ne.symm n_k9_k12) (up_n (Ne.symm n_k8_k12) (up_n (Ne.symm n_k11_k12) up_s))))))))
  have hg_k13 : f9_3 k13 = (.inr (5, [.ref k14, .int 3000, .int 0, .int 0, .int 0, .int 0, .int 0, .int 0, .int 0, .int 0, .int 0, .int 0, .int 0])) := by rw [h93]; exact (up_n n_k13_k15 (up_n n_k13_k16 up_s))
  have hg_k14 : f9_3 k14 = (aI G 5 z0) := by rw [h93]; exact (up_n n_k14_k15 (up_n n_k14_k16 (up_n (Ne.symm n_k13_k14) up_s)))
  have hg_k15 : f9_3 k15 = (.inr (5, [.ref k16, .int 3000, .int 0, .int 0, .int 0, .int 0, .int 0, .int 0, .int 0, .int 0, .int 0, .int 0, .int 0])) := by rw [h93]; exact up_s
  have hg_k16 : f9_3 k16 = (aI G 5 z0) := by rw [h93]; exact (up_n (Ne.symm n_k15_k16) up_s)
  have hf_q := hg_q
  have hf_k1 := hg_k1
  have hf_k2 := hg_k2
  have hf_k3 := hg_k3
  have hf_k4 := hg_k4
  have hf_k5 := hg_k5
  have hf_k6 := hg_k6
  have hf_k7 := hg_k7
  have hf_k8 := hg_k8
  have hf_k9 := hg_k9
  have hf_k10 := hg_k10
  have hf_k11 := hg_k11
  have hf_k12 := hg_k12
  have hf_k13 := hg_k13
  have hf_k14 := hg_k14
  have hf_k15 := hg_k15
  have hf_k16 := hg_k16
  clear h93
  refine j_putF X 8 3 rfl cw_X8 tyX8 tyX8_ok nmX8 fl_X8_31 (by decide) rfl hname rfl dX8_init_45 m_q hf_q rfl rfl (Nat.le_of_ble_eq_true rfl) ?_
  dsimp only [List.set]
  refine j_aload_n X (i := 0) dX8_init_48 rfl rfl ?_
  refine j_new X 7 cw_X7 tyX7 tyX7_ok cl_X8_35 is_X7 in_X7 rfl df7_ok ⟨(by decide), (by decide)⟩ dX8_init_49 (fun k17 hk17 => ?_)
  have n_q_k17 : q ≠ k17 := fun h => hk17 (h ▸ m_q)
  have n_k1_k17 : k1 ≠ k17 := fun h => hk17 (h ▸ m_k1)
  have n_k2_k17 : k2 ≠ k17 := fun h => hk17 (h ▸ m_k2)
  have n_k3_k17 : k3 ≠ k17 := fun h => hk17 (h ▸ m_k3)
  have n_k4_k17 : k4 ≠ k17 := fun h => hk17 (h ▸ m_k4)
  have n_k5_k17 : k5 ≠ k17 := fun h => hk17 (h ▸ m_k5)
  have n_k6_k17 : k6 ≠ k17 := fun h => hk17 (h ▸ m_k6)
  have n_k7_k17 : k7 ≠ k17 := fun h => hk17 (h ▸ m_k7)
  have n_k8_k17 : k8 ≠ k17 := fun h => hk17 (h ▸ m_k8)
  have n_k9_k17 : k9 ≠ k17 := fun h => hk17 (h ▸ m_k9)
  have n_k10_k17 : k10 ≠ k17 := fun h => hk17 (h ▸ m_k10)
  have n_k11_k17 : k11 ≠ k17 := fun h => hk17 (h ▸ m_k11)
  have n_k12_k17 : k12 ≠ k17 := fun h => hk17 (h ▸ m_k12)
  have n_k13_k17 : k13 ≠ k17 := fun h => hk17 (h ▸ m_k13)
  have n_k14_k17 : k14 ≠ k17 := fun h => hk17 (h ▸ m_k14)
  have n_k15_k17 : k15 ≠ k17 := fun h => hk17 (h ▸ m_k15)
  have n_k16_k17 : k16 ≠ k17 := fun h => hk17 (h ▸ m_k16)
  have m_q := List.mem_append_left [k17] m_q
  have m_k1 := List.mem_append_left [k17] m_k1
  have m_k2 := List.mem_append_left [k17] m_k2
  have m_k3 := List.mem_append_left [k17] m_k3
  have m_k4 := List.mem_append_left [k17] m_k4
  have m_k5 := List.mem_append_left [k17] m_k5
  have m_k6 := List.mem_append_left [k17] m_k6
  have m_k7 := List.mem_append_left [k17] m_k7
  have m_k8 := List.mem_append_left [k17] m_k8
  have m_k9 := List.mem_append_left [k17] m_k9
  have m_k10 := List.mem_append_left [k17] m_k10
  have m_k11 := List.mem_append_left [k17] m_k11
  have m_k12 := List.mem_append_left [k17] m_k12
  have m_k13 := List.mem_append_left [k17] m_k13
  have m_k14 := List.mem_append_left [k17] m_k14
  have m_k15 := List.mem_append_left [k17] m_k15
  have m_k16 := List.mem_append_left [k17] m_k16
  have m_k17 : k17 ∈ (((((((((((((((([q] ++ [k1]) ++ [k2]) ++ [k3]) ++ [k4]) ++ [k5]) ++ [k6]) ++ [k7]) ++ [k8]) ++ [k9]) ++ [k10]) ++ [k11]) ++ [k12]) ++ [k13]) ++ [k14]) ++ [k15]) ++ [k16]) ++ [k17] := List.mem_append_right _ (List.mem_singleton.mpr rfl)
  refine j_dup X dX8_init_52 rfl ?_
  refine j_callIN X (k_X7_init hl m_k17 up_s) (List.mem_of_getElem? (i := 8) rfl) im_yX7_init in_X7 cd_yX7_init rfl hi_yX7_init dX8_init_53 ⟨(by decide), (by decide)⟩ ⟨(by decide), (by decide)⟩ (Nat.le_of_ble_eq_true rfl) (fun _ h => h.elim) (fun r9 L9 f9_4 h9 => ?_)
  obtain ⟨h91, k18, k19, k20, k21, hk18, hk19, hk20, hk21, h92, h93⟩ := h9
  subst r9
  subst L9
  dsimp only [Option.toList, List.nil_append]
  have n_q_k18 : q ≠ k18 := fun h => hk18 (h ▸ m_q)
  have n_k1_k18 : k1 ≠ k18 := fun h => hk18 (h ▸ m_k1)
  have n_k2_k18 : k2 ≠ k18 := fun h => hk18 (h ▸ m_k2)
  have n_k3_k18 : k3 ≠ k18 := fun h => hk18 (h ▸ m_k3)
  have n_k4_k18 : k4 ≠ k18 := fun h => hk18 (h ▸ m_k4)
  have n_k5_k18 : k5 ≠ k18 := fun h => hk18 (h ▸ m_k5)
  have n_k6_k18 : k6 ≠ k18 := fun h => hk18 (h ▸ m_k6)
  have n_k7_k18 : k7 ≠ k18 := fun h => hk18 (h ▸ m_k7)
  have n_k8_k18 : k8 ≠ k18 := fun h => hk18 (h ▸ m_k8)
  have n_k9_k18 : k9 ≠ k18 := fun h => hk18 (h ▸ m_k9)
  have n_k10_k18 : k10 ≠ k18 := fun h => hk18 (h ▸ m_k10)
  have n_k11_k18 : k11 ≠ k18 := fun h => hk18 (h ▸ m_k11)
  have n_k12_k18 : k12 ≠ k18 := fun h => hk18 (h ▸ m_k12)
  have n_k13_k18 : k13 ≠ k18 := fun h => hk18 (h ▸ m_k13)
  have n_k14_k18 : k14 ≠ k18 := fun h => hk18 (h ▸ m_k14)
  have n_k15_k18 : k15 ≠ k18 := fun h => hk18 (h ▸ m_k15)
  have n_k16_k18 : k16 ≠ k18 := fun h => hk18 (h ▸ m_k16)
  have n_k17_k18 : k17 ≠ k18 := fun h => hk18 (h ▸ m_k17)
  have m_q := List.mem_append_left [k18] m_q
  have m_k1 := List.mem_append_left [k18] m_k1
  have m_k2 := List.mem_append_left [k18] m_k2
  have m_k3 := List.mem_append_left [k18] m_k3
  have m_k4 := List.mem_append_left [k18] m_k4
  have m_k5 := List.mem_append_left [k18] m_k5
  have m_k6 := List.mem_append_left [k18] m_k6
  have m_k7 := List.mem_append_left [k18] m_k7
  have m_k8 := List.mem_append_left [k18] m_k8
  have m_k9 := List.mem_append_left [k18] m_k9
  have m_k10 := List.mem_append_left [k18] m_k10
  have m_k11 := List.mem_append_left [k18] m_k11
  have m_k12 := List.mem_append_left [k18] m_k12
  have m_k13 := List.mem_append_left [k18] m_k13
  have m_k14 := List.mem_append_left [k18] m_k14
  have m_k15 := List.mem_append_left [k18] m_k15
  have m_k16 := List.mem_append_left [k18] m_k16
  have m_k17 := List.mem_append_left [k18] m_k17
  have m_k18 : k18 ∈ ((((((((((((((((([q] ++ [k1]) ++ [k2]) ++ [k3]) ++ [k4]) ++ [k5]) ++ [k6]) ++ [k7]) ++ [k8]) ++ [k9]) ++ [k10]) ++ [k11]) ++ [k12]) ++ [k13]) ++ [k14]) ++ [k15]) ++ [k16]) ++ [k17]) ++ [k18] := List.mem_append_right _ (List.mem_singleton.mpr rfl)
  have n_q_k19 : q ≠ k19 := fun h => hk19 (h ▸ m_q)
  have n_k1_k19 : k1 ≠ k19 := fun h => hk19 (h ▸ m_k1)
  have n_k2_k19 : k2 ≠ k19 := fun h => hk19 (h ▸ m_k2)
  have n_k3_k19 : k3 ≠ k19 := fun h => hk19 (h ▸ m_k3)
  have n_k4_k19 : k4 ≠ k19 := fun h => hk19 (h ▸ m_k4)
  have n_k5_k19 : k5 ≠ k19 := fun h => hk19 (h ▸ m_k5)
  have n_k6_k19 : k6 ≠ k19 := fun h => hk19 (h ▸ m_k6)
  have n_k7_k19 : k7 ≠ k19 := fun h => hk19 (h ▸ m_k7)
  have n_k8_k19 : k8 ≠ k19 := fun h => hk19 (h ▸ m_k8)
  have n_k9_k19 : k9 ≠ k19 := fun h => hk19 (h ▸ m_k9)
  have n_k10_k19 : k10 ≠ k19 := fun h => hk19 (h ▸ m_k10)
  have n_k11_k19 : k11 ≠ k19 := fun h => hk19 (h ▸ m_k11)
  have n_k12_k19 : k12 ≠ k19 := fun h => hk19 (h ▸ m_k12)
  have n_k13_k19 : k13 ≠ k19 := fun h => hk19 (h ▸ m_k13)
  have n_k14_k19 : k14 ≠ k19 := fun h => hk19 (h ▸ m_k14)
  have n_k15_k19 : k15 ≠ k19 := fun h => hk19 (h ▸ m_k15)
  have n_k16_k19 : k16 ≠ k19 := fun h => hk19 (h ▸ m_k16)
  have n_k17_k19 : k17 ≠ k19 := fun h => hk19 (h ▸ m_k17)
  have n_k18_k19 : k18 ≠ k19 := fun h => hk19 (h ▸ m_k18)
  have m_q := List.mem_append_left [k19] m_q
  have m_k1 := List.mem_append_left [k19] m_k1
  have m_k2 := List.mem_append_left [k19] m_k2
  have m_k3 := List.mem_append_left [k19] m_k3
  have m_k4 := List.mem_append_left [k19] m_k4
  have m_k5 := List.mem_append_left [k19] m_k5
  have m_k6 := List.mem_append_left [k19] m_k6
  have m_k7 := List.mem_append_left [k19] m_k7
  have m_k8 := List.mem_append_left [k19] m_k8
  have m_k9 := List.mem_append_left [k19] m_k9
  have m_k10 := List.mem_append_left [k19] m_k10
  have m_k11 := List.mem_append_left [k19] m_k11
  have m_k12 := List.mem_append_left [k19] m_k12
  have m_k13 := List.mem_append_left [k19] m_k13
  have m_k14 := List.mem_append_left [k19] m_k14
  have m_k15 := List.mem_append_left [k19] m_k15
  have m_k16 := List.mem_append_left [k19] m_k16
  have m_k17 := List.mem_append_left [k19] m_k17
  have m_k18 := List.mem_append_left [k19] m_k18
  have m_k19 : k19 ∈ (((((((((((((((((([q] ++ [k1]) ++ [k2]) ++ [k3]) ++ [k4]) ++ [k5]) ++ [k6]) ++ [k7]) ++ [k8]) ++ [k9]) ++ [k10]) ++ [k11]) ++ [k12]) ++ [k13]) ++ [k14]) ++ [k15]) ++ [k16]) ++ [k17]) ++ [k18]) ++ [k19] := List.mem_append_right _ (List.mem_singleton.mpr rfl)
  have n_q_k20 : q ≠ k20 := fun h => hk20 (h ▸ m_q)
  have n_k1_k20 : k1 ≠ k20 := fun h => hk20 (h ▸ m_k1)
  have n_k2_k20 : k2 ≠ k20 := fun h => hk20 (h ▸ m_k2)
  have n_k3_k20 : k3 ≠ k20 := fun h => hk20 (h ▸ m_k3)
  have n_k4_k20 : k4 ≠ k20 := fun h => hk20 (h ▸ m_k4)
  have n_k5_k20 : k5 ≠ k20 := fun h => hk20 (h ▸ m_k5)
  have n_k6_k20 : k6 ≠ k20 := fun h => hk20 (h ▸ m_k6)
  have n_k7_k20 : k7 ≠ k20 := fun h => hk20 (h ▸ m_k7)
  have n_k8_k20 : k8 ≠ k20 := fun h => hk20 (h ▸ m_k8)
  have n_k9_k20 : k9 ≠ k20 := fun h => hk20 (h ▸ m_k9)
  have n_k10_k20 : k10 ≠ k20 := fun h => hk20 (h ▸ m_k10)
  have n_k11_k20 : k11 ≠ k20 := fun h => hk20 (h ▸ m_k11)
  have n_k12_k20 : k12 ≠ k20 := fun h => hk20 (h ▸ m_k12)
  have n_k13_k20 : k13 ≠ k20 := fun h => hk20 (h ▸ m_k13)
  have n_k14_k20 : k14 ≠ k20 := fun h => hk20 (h ▸ m_k14)
  have n_k15_k20 : k15 ≠ k20 := fun h => hk20 (h ▸ m_k15)
  have n_k16_k20 : k16 ≠ k20 := fun h => hk20 (h ▸ m_k16)
  have n_k17_k20 : k17 ≠ k20 := fun h => hk20 (h ▸ m_k17)
  have n_k18_k20 : k18 ≠ k20 := fun h => hk20 (h ▸ m_k18)
  have n_k19_k20 : k19 ≠ k20 := fun h => hk20 (h ▸ m_k19)
  have m_q := List.mem_append_left [k20] m_q
  have m_k1 := List.mem_append_left [k20] m_k1
  have m_k2 := List.mem_append_left [k20] m_k2
  have m_k3 := List.mem_append_left [k20] m_k3
  have m_k4 := List.mem_append_left [k20] m_k4
  have m_k5 := List.mem_append_left [k20] m_k5
  have m_k6 := List.mem_append_left [k20] m_k6
  have m_k7 := List.mem_append_left [k20] m_k7
  have m_k8 := List.mem_append_left [k20] m_k8
  have m_k9 := List.mem_append_left [k20] m_k9
  have m_k10 := List.mem_append_left [k20] m_k10
  have m_k11 := List.mem_append_left [k20] m_k11
  have m_k12 := List.mem_append_left [k20] m_k12
  have m_k13 := List.mem_append_left [k20] m_k13
  have m_k14 := List.mem_append_left [k20] m_k14
  have m_k15 := List.mem_append_left [k20] m_k15
  have m_k16 := List.mem_append_left [k20] m_k16
  have m_k17 := List.mem_append_left [k20] m_k17
  have m_k18 := List.mem_append_left [k20] m_k18
  have m_k19 := List.mem_append_left [k20] m_k19
  have m_k20 : k20 ∈ ((((((((((((((((((([q] ++ [k1]) ++ [k2]) ++ [k3]) ++ [k4]) ++ [k5]) ++ [k6]) ++ [k7]) ++ [k8]) ++ [k9]) ++ [k10]) ++ [k11]) ++ [k12]) ++ [k13]) ++ [k14]) ++ [k15]) ++ [k16]) ++ [k17]) ++ [k18]) ++ [k19]) ++ [k20] := List.mem_append_right _ (List.mem_singleton.mpr rfl)
  have n_q_k21 : q ≠ k21 := fun h => hk21 (h ▸ m_q)
  have n_k1_k21 : k1 ≠ k21 := fun h => hk21 (h ▸ m_k1)
  have n_k2_k21 : k2 ≠ k21 := fun h => hk21 (h ▸ m_k2)
  have n_k3_k21 : k3 ≠ k21 := fun h => hk21 (h ▸ m_k3)
  have n_k4_k21 : k4 ≠ k21 := fun h => hk21 (h ▸ m_k4)
  have n_k5_k21 : k5 ≠ k21 := fun h => hk21 (h ▸ m_k5)
  have n_k6_k21 : k6 ≠ k21 := fun h => hk21 (h ▸ m_k6)
  have n_k7_k21 : k7 ≠ k21 := fun h => hk21 (h ▸ m_k7)
  have n_k8_k21 : k8 ≠ k21 := fun h => hk21 (h ▸ m_k8)
  have n_k9_k21 : k9 ≠ k21 := fun h => hk21 (h ▸ m_k9)
  have n_k10_k21 : k10 ≠ k21 := fun h => hk21 (h ▸ m_k10)
  have n_k11_k21 : k11 ≠ k21 := fun h => hk21 (h ▸ m_k11)
  have n_k12_k21 : k12 ≠ k21 := fun h => hk21 (h ▸ m_k12)
  have n_k13_k21 : k13 ≠ k21 := fun h => hk21 (h ▸ m_k13)
  have n_k14_k21 : k14 ≠ k21 := fun h => hk21 (h ▸ m_k14)
  have n_k15_k21 : k15 ≠ k21 := fun h => hk21 (h ▸ m_k15)
  have n_k16_k21 : k16 ≠ k21 := fun h => hk21 (h ▸ m_k16)
  have n_k17_k21 : k17 ≠ k21 := fun h => hk21 (h ▸ m_k17)
  have n_k18_k21 : k18 ≠ k21 := fun h => hk21 (h ▸ m_k18)
  have n_k19_k21 : k19 ≠ k21 := fun h => hk21 (h ▸ m_k19)
  have n_k20_k21 : k20 ≠ k21 := fun h => hk21 (h ▸ m_k20)
  have m_q := List.mem_append_left [k21] m_q
  have m_k1 := List.mem_append_left [k21] m_k1
  have m_k2 := List.mem_append_left [k21] m_k2
  have m_k3 := List.mem_append_left [k21] m_k3
  have m_k4 := List.mem_append_left [k21] m_k4
  have m_k5 := List.mem_append_left [k21] m_k5
  have m_k6 := List.mem_append_left [k21] m_k6
  have m_k7 := List.mem_append_left [k21] m_k7
  have m_k8 := List.mem_append_left [k21] m_k8
  have m_k9 := List.mem_append_left [k21] m_k9
  have m_k10 := List.mem_append_left [k21] m_k10
  have m_k11 := List.mem_append_left [k21] m_k11
  have m_k12 := List.mem_append_left [k21] m_k12
  have m_k13 := List.mem_append_left [k21] m_k13
  have m_k14 := List.mem_append_left [k21] m_k14
  have m_k15 := List.mem_append_left [k21] m_k15
  have m_k16 := List.mem_append_left [k21] m_k16
  have m_k17 := List.mem_append_left [k21] m_k17
  have m_k18 := List.mem_append_left [k21] m_k18
  have m_k19 := List.mem_append_left [k21] m_k19
  have m_k20 := List.mem_append_left [k21] m_k20
  have m_k21 : k21 ∈ (((((((((((((((((((([q] ++ [k1]) ++ [k2]) ++ [k3]) ++ [k4]) ++ [k5]) ++ [k6]) ++ [k7]) ++ [k8]) ++ [k9]) ++ [k10]) ++ [k11]) ++ [k12]) ++ [k13]) ++ [k14]) ++ [k15]) ++ [k16]) ++ [k17]) ++ [k18]) ++ [k19]) ++ [k20]) ++ [k21] := List.mem_append_right _ (List.mem_singleton.mpr rfl)
  have hg_q : f9_4 q = (.inr (8, [.ref k1, .ref k2, .ref k6, .ref k8, .null, .null, .int 0, .int 0, .null])) := by rw [h93]; exact (up_n n_q_k17 (up_n n_q_k20 (up_n n_q_k21 (up_n n_q_k18 (up_n n_q_k19 (up_n n_q_k17 up_s))))))
  have hg_k1 : f9_4 k1 = (.inr (3, [.ref k2, .ref k4, .int 0, .int (-1), .int 0, .int 0, .int (-1), .int 0, .int 0, .int 0, .int 0])) := by rw [h93]; exact (up_n n_k1_k17 (up_n n_k1_k20 (up_n n_k1_k21 (up_n n_k1_k18 (up_n n_k1_k19 (up_n n_k1_k17 (up_n (Ne.symm n_q_k1) hf_k1)))))))
  have hg_k2 : f9_4 k2 = (.inr (0, [.ref k3, .int 0])) := by rw [h93]; exact (up_n n_k2_k17 (up_n n_k2_k20 (up_n n_k2_k21 (up_n n_k2_k18 (up_n n_k2_k19 (up_n n_k2_k17 (up_n (Ne.symm n_q_k2) hf_k2)))))))
  have hg_k3 : f9_4 k3 = (aB G 400 z0) := by rw [h93]; exact (up_n n_k3_k17 (up_n n_k3_k20 (up_n n_k3_k21 (up_n n_k3_k18 (up_n n_k3_k19 (up_n n_k3_k17 (up_n (Ne.symm n_q_k3) hf_k3)))))))
  have hg_k4 : f9_4 k4 = (.inr (4, [.ref k5, .int 0, .int 0, .int 0, .int (-1)])) := by rw [h93]; exact (up_n n_k4_k17 (up_n n_k4_k20 (up_n n_k4_k21 (up_n n_k4_k18 (up_n n_k4_k19 (up_n n_k4_k17 (up_n (Ne.symm n_q_k4) hf_k4)))))))
  have hg_k5 : f9_4 k5 = (aI G 25 z0) := by rw [h93]; exact (up_n n_k5_k17 (up_n n_k5_k20 (up_n n_k5_k21 (up_n n_k5_k18 (up_n n_k5_k19 (up_n n_k5_k17 (up_n (Ne.symm n_q_k5) hf_k5)))))))
  have hg_k6 : f9_4 k6 = (.inr (2, [.ref k7, .int 0])) := by rw [h93]; exact (up_n n_k6_k17 (up_n n_k6_k20 (up_n n_k6_k21 (up_n n_k6_k18 (up_n n_k6_k19 (up_n n_k6_k17 (up_n (Ne.symm n_q_k6) hf_k6)))))))
  have hg_k7 : f9_4 k7 = (aB G 256 z0) := by rw [h93]; exact (up_n n_k7_k17 (up_n n_k7_k20 (up_n n_k7_k21 (up_n n_k7_k18 (up_n n_k7_k19 (up_n n_k7_k17 (up_n (Ne.symm n_q_k7) hf_k7)))))))
  have hg_k8 : f9_4 k8 = (.inr (6, [.ref k9, .ref k11, .ref k13, .ref k15, .int 0, .int 0, .int 0, .int (-1), .int (-1), .int 0, .int 0, .int 0])) := by rw [h93]; exact (up_n n_k8_k17 (up_n n_k8_k20 (up_n n_k8_k21 (up_n n_k8_k18 (up_n n_k8_k19 (up_n n_k8_k17 (up_n (Ne.symm n_q_k8) hf_k8)))))))
  have hg_k9 : f9_4 k9 = (.inr (4, [.ref k10, .int (1), .int 0, .int 0, .int (-1)])) := by rw [h93]; exact (up_n n_k9_k17 (up_n n_k9_k20 (up_n n_k9_k21 (up_n n_k9_k18 (up_n n_k9_k19 (up_n n_k9_k17 (up_n (Ne.symm n_q_k9) hf_k9)))))))
  have hg_k10 : f9_4 k10 = (aI G 25 tm0) := by rw [h93]; exact (up_n n_k10_k17 (up_n n_k10_k20 (up_n n_k10_k21 (up_n n_k10_k18 (up_n n_k10_k19 (up_n n_k10_k17 (up_n (Ne.symm n_q_k10) hf_k10)))))))
  have hg_k11 : f9_4 k11 = (.inr (1, [.ref k12, .int 0, .int 0])) := by rw [h93]; exact (up_n n_k11_k17 (up_n n_k11_k20 (up_n n_k11_k21 (up_n n_k11_k18 (up_n n_k11_k19 (up_n n_k11_k17 (up_n (Ne.symm n_q_k11) hf_k11)))))))
  have hg_k12 : f9_4 k12 = (aI G 240 z0) := by rw [h93]; exact (up_n n_k12_k17 (up_n n_k12_k20 (up_n n_k12_k21 (up_n n_k12_k18 (up_n n_k12_k19 (up_n n_k12_k17 (up_n (Ne.symm n_q_k12) hf_k12)))))))
  have hg_k13 : f9_4 k13 = (.inr (5, [.ref k14, .int 3000, .int 0, .int 0, .int 0, .int 0, .int 0, .int 0, .int 0, .int 0, .int 0, .int 0, .int 0])) := by rw [h93]; exact (up_n n_k13_k17 (up_n n_k13_k20 (up_n n_k13_k21 (up_n n_k13_k18 (up_n n_k13_k19 (up_n n_k13_k17 (up_n (Ne.symm n_q_k13) hf_k13)))))))
  have hg_k14 : f9_4 k14 = (aI G 5 z0) := by rw [h93]; exact (up_n n_k14_k17 (up_n n_k14_k20 (up_n n_k14_k21 (up_n n_k14_k18 (up_n n_k14_k19 (up_n n_k14_k17 (up_n (Ne.symm n_q_k14) hf_k14)))))))
  have hg_k15 : f9_4 k15 = (.inr (5, [.ref k16, .int 3000, .int 0, .int 0, .int 0, .int 0, .int 0, .int 0, .int 0, .int 0, .int 0, .int 0, .int 0])) := by rw [h93]; exact (up_n n_k15_k17 (up_n n_k15_k20 (up_n n_k15_k21 (up_n n_k15_k18 (up_n n_k15_k19 (up_n n_k15_k17 (up_n (Ne.symm n_q_k15) hf_k15)))))))
  have hg_k16 : f9_4 k16 = (aI G 5 z0) := by rw [h93]; exact (up_n n_k16_k17 (up_n n_k16_k20 (up_n n_k16_k21 (up_n n_k16_k18 (up_n n_k16_k19 (up_n n_k16_k17 (up_n (Ne.symm n_q_k16) hf_k16)))))))
  have hg_k17 : f9_4 k17 = (.inr (7, [.ref k18, .ref k20, .int 0, .int 0, .int 0, .int 0])) := by rw [h93]; exact up_s
  have hg_k18 : f9_4 k18 = (.inr (5, [.ref k19, .int 0, .int 0, .int 0, .int 0, .int 0, .int 0, .int 0, .int 0, .int 0, .int 0, .int 0, .int 0])) := by rw [h93]; exact (up_n (Ne.symm n_k17_k18) (up_n n_k18_k20 (up_n n_k18_k21 up_s)))
  have hg_k19 : f9_4 k19 = (aI G 5 z0) := by rw [h93]; exact (up_n (Ne.symm n_k17_k19) (up_n n_k19_k20 (up_n n_k19_k21 (up_n (Ne.symm n_k18_k19) up_s))))
  have hg_k20 : f9_4 k20 = (.inr (5, [.ref k21, .int 0, .int 0, .int 0, .int 0, .int 0, .int 0, .int 0, .int 0, .int 0, .int 0, .int 0, .int 0])) := by rw [h93]; exact (up_n (Ne.symm n_k17_k20) up_s)
  have hg_k21 : f9_4 k21 = (aI G 5 z0) := by rw [h93]; exact (up_n (Ne.symm n_k17_k21) (up_n (Ne.symm n_k20_k21) up_s))
  have hf_q := hg_q
  have hf_k1 := hg_k1
  have hf_k2 := hg_k2
  have hf_k3 := hg_k3
  have hf_k4 := hg_k4
  have hf_k5 := hg_k5
  have hf_k6 := hg_k6
  have hf_k7 := hg_k7
  have hf_k8 := hg_k8
  have hf_k9 := hg_k9
  have hf_k10 := hg_k10
  have hf_k11 := hg_k11
  have hf_k12 := hg_k12
  have hf_k13 := hg_k13
  have hf_k14 := hg_k14
  have hf_k15 := hg_k15
  have hf_k16 := hg_k16
  have hf_k17 := hg_k17
  have hf_k18 := hg_k18
  have hf_k19 := hg_k19
  have hf_k20 := hg_k20
  have hf_k21 := hg_k21
  clear h93
  refine j_putF X 8 4 rfl cw_X8 tyX8 tyX8_ok nmX8 fl_X8_38 (by decide) rfl hname rfl dX8_init_56 m_q hf_q rfl rfl (Nat.le_of_ble_eq_true rfl) ?_
  dsimp only [List.set]
  refine j_aload_n X (i := 0) dX8_init_59 rfl rfl ?_
  refine j_bipush X (6) dX8_init_60 (by decide) ?_
  refine j_newq X 5 (N' := 6) rfl cl_X8_28 X.2.2.2.2.2.2.2.2.2.1.2.2.2.2.2.2.2.2.2 (by decide) (by decide) (by decide) ⟨(by decide), (by decide)⟩ dX8_init_62 (fun k22 hk22 => ?_)
  have n_q_k22 : q ≠ k22 := fun h => hk22 (h ▸ m_q)
  have n_k1_k22 : k1 ≠ k22 := fun h => hk22 (h ▸ m_k1)
  have n_k2_k22 : k2 ≠ k22 := fun h => hk22 (h ▸ m_k2)
  have n_k3_k22 : k3 ≠ k22 := fun h => hk22 (h ▸ m_k3)
  have n_k4_k22 : k4 ≠ k22 := fun h => hk22 (h ▸ m_k4)
  have n_k5_k22 : k5 ≠ k22 := fun h => hk22 (h ▸ m_k5)
  have n_k6_k22 : k6 ≠ k22 := fun h => hk22 (h ▸ m_k6)
  have n_k7_k22 : k7 ≠ k22 := fun h => hk22 (h ▸ m_k7)
  have n_k8_k22 : k8 ≠ k22 := fun h => hk22 (h ▸ m_k8)
  have n_k9_k22 : k9 ≠ k22 := fun h => hk22 (h ▸ m_k9)
  have n_k10_k22 : k10 ≠ k22 := fun h => hk22 (h ▸ m_k10)
  have n_k11_k22 : k11 ≠ k22 := fun h => hk22 (h ▸ m_k11)
  have n_k12_k22 : k12 ≠ k22 := fun h => hk22 (h ▸ m_k12)
  have n_k13_k22 : k13 ≠ k22 := fun h => hk22 (h ▸ m_k13)
  have n_k14_k22 : k14 ≠ k22 := fun h => hk22 (h ▸ m_k14)
  have n_k15_k22 : k15 ≠ k22 := fun h => hk22 (h ▸ m_k15)
  have n_k16_k22 : k16 ≠ k22 := fun h => hk22 (h ▸ m_k16)
  have n_k17_k22 : k17 ≠ k22 := fun h => hk22 (h ▸ m_k17)
  have n_k18_k22 : k18 ≠ k22 := fun h => hk22 (h ▸ m_k18)
  have n_k19_k22 : k19 ≠ k22 := fun h => hk22 (h ▸ m_k19)
  have n_k20_k22 : k20 ≠ k22 := fun h => hk22 (h ▸ m_k20)
  have n_k21_k22 : k21 ≠ k22 := fun h => hk22 (h ▸ m_k21)
  have m_q := List.mem_append_left [k22] m_q
  have m_k1 := List.mem_append_left [k22] m_k1
  have m_k2 := List.mem_append_left [k22] m_k2
  have m_k3 := List.mem_append_left [k22] m_k3
  have m_k4 := List.mem_append_left [k22] m_k4
  have m_k5 := List.mem_append_left [k22] m_k5
  have m_k6 := List.mem_append_left [k22] m_k6
  have m_k7 := List.mem_append_left [k22] m_k7
  have m_k8 := List.mem_append_left [k22] m_k8
  have m_k9 := List.mem_append_left [k22] m_k9
  have m_k10 := List.mem_append_left [k22] m_k10
  have m_k11 := List.mem_append_left [k22] m_k11
  have m_k12 := List.mem_append_left [k22] m_k12
  have m_k13 := List.mem_append_left [k22] m_k13
  have m_k14 := List.mem_append_left [k22] m_k14
  have m_k15 := List.mem_append_left [k22] m_k15
  have m_k16 := List.mem_append_left [k22] m_k16
  have m_k17 := List.mem_append_left [k22] m_k17
  have m_k18 := List.mem_append_left [k22] m_k18
  have m_k19 := List.mem_append_left [k22] m_k19
  have m_k20 := List.mem_append_left [k22] m_k20
  have m_k21 := List.mem_append_left [k22] m_k21
  have m_k22 : k22 ∈ ((((((((((((((((((((([q] ++ [k1]) ++ [k2]) ++ [k3]) ++ [k4]) ++ [k5]) ++ [k6]) ++ [k7]) ++ [k8]) ++ [k9]) ++ [k10]) ++ [k11]) ++ [k12]) ++ [k13]) ++ [k14]) ++ [k15]) ++ [k16]) ++ [k17]) ++ [k18]) ++ [k19]) ++ [k20]) ++ [k21]) ++ [k22] := List.mem_append_right _ (List.mem_singleton.mpr rfl)
  refine j_putF X 8 5 rfl cw_X8 tyX8 tyX8_ok nmX8 fl_X8_42 (by decide) rfl hname rfl dX8_init_65 m_q (up_n n_q_k22 up_s) rfl rfl (Nat.le_of_ble_eq_true rfl) ?_
  dsimp only [List.set]
  refine j_aload_n X (i := 0) dX8_init_68 rfl rfl ?_
  refine j_iconst X (2) dX8_init_69 (by decide) ?_
  refine j_newq X 5 (N' := 2) rfl cl_X8_28 X.2.2.2.2.2.2.2.2.2.1.2.2.2.2.2.2.2.2.2 (by decide) (by decide) (by decide) ⟨(by decide), (by decide)⟩ dX8_init_70 (fun k23 hk23 => ?_)
  have n_q_k23 : q ≠ k23 := fun h => hk23 (h ▸ m_q)
  have n_k1_k23 : k1 ≠ k23 := fun h => hk23 (h ▸ m_k1)
  have n_k2_k23 : k2 ≠ k23 := fun h => hk23 (h ▸ m_k2)
  have n_k3_k23 : k3 ≠ k23 := fun h => hk23 (h ▸ m_k3)
  have n_k4_k23 : k4 ≠ k23 := fun h => hk23 (h ▸ m_k4)
  have n_k5_k23 : k5 ≠ k23 := fun h => hk23 (h ▸ m_k5)
  have n_k6_k23 : k6 ≠ k23 := fun h => hk23 (h ▸ m_k6)
  have n_k7_k23 : k7 ≠ k23 := fun h => hk23 (h ▸ m_k7)
  have n_k8_k23 : k8 ≠ k23 := fun h => hk23 (h ▸ m_k8)
  have n_k9_k23 : k9 ≠ k23 := fun h => hk23 (h ▸ m_k9)
  have n_k10_k23 : k10 ≠ k23 := fun h => hk23 (h ▸ m_k10)
  have n_k11_k23 : k11 ≠ k23 := fun h => hk23 (h ▸ m_k11)
  have n_k12_k23 : k12 ≠ k23 := fun h => hk23 (h ▸ m_k12)
  have n_k13_k23 : k13 ≠ k23 := fun h => hk23 (h ▸ m_k13)
  have n_k14_k23 : k14 ≠ k23 := fun h => hk23 (h ▸ m_k14)
  have n_k15_k23 : k15 ≠ k23 := fun h => hk23 (h ▸ m_k15)
  have n_k16_k23 : k16 ≠ k23 := fun h => hk23 (h ▸ m_k16)
  have n_k17_k23 : k17 ≠ k23 := fun h => hk23 (h ▸ m_k17)
  have n_k18_k23 : k18 ≠ k23 := fun h => hk23 (h ▸ m_k18)
  have n_k19_k23 : k19 ≠ k23 := fun h => hk23 (h ▸ m_k19)
  have n_k20_k23 : k20 ≠ k23 := fun h => hk23 (h ▸ m_k20)
  have n_k21_k23 : k21 ≠ k23 := fun h => hk23 (h ▸ m_k21)
  have n_k22_k23 : k22 ≠ k23 := fun h => hk23 (h ▸ m_k22)
  have m_q := List.mem_append_left [k23] m_q
  have m_k1 := List.mem_append_left [k23] m_k1
  have m_k2 := List.mem_append_left [k23] m_k2
  have m_k3 := List.mem_append_left [k23] m_k3
  have m_k4 := List.mem_append_left [k23] m_k4
  have m_k5 := List.mem_append_left [k23] m_k5
  have m_k6 := List.mem_append_left [k23] m_k6
  have m_k7 := List.mem_append_left [k23] m_k7
  have m_k8 := List.mem_append_left [k23] m_k8
  have m_k9 := List.mem_append_left [k23] m_k9
  have m_k10 := List.mem_append_left [k23] m_k10
  have m_k11 := List.mem_append_left [k23] m_k11
  have m_k12 := List.mem_append_left [k23] m_k12
  have m_k13 := List.mem_append_left [k23] m_k13
  have m_k14 := List.mem_append_left [k23] m_k14
  have m_k15 := List.mem_append_left [k23] m_k15
  have m_k16 := List.mem_append_left [k23] m_k16
  have m_k17 := List.mem_append_left [k23] m_k17
  have m_k18 := List.mem_append_left [k23] m_k18
  have m_k19 := List.mem_append_left [k23] m_k19
  have m_k20 := List.mem_append_left [k23] m_k20
  have m_k21 := List.mem_append_left [k23] m_k21
  have m_k22 := List.mem_append_left [k23] m_k22
  have m_k23 : k23 ∈ (((((((((((((((((((((([q] ++ [k1]) ++ [k2]) ++ [k3]) ++ [k4]) ++ [k5]) ++ [k6]) ++ [k7]) ++ [k8]) ++ [k9]) ++ [k10]) ++ [k11]) ++ [k12]) ++ [k13]) ++ [k14]) ++ [k15]) ++ [k16]) ++ [k17]) ++ [k18]) ++ [k19]) ++ [k20]) ++ [k21]) ++ [k22]) ++ [k23] := List.mem_append_right _ (List.mem_singleton.mpr rfl)
  refine j_putF X 8 8 rfl cw_X8 tyX8 tyX8_ok nmX8 fl_X8_46 (by decide) rfl hname rfl dX8_init_73 m_q (up_n n_q_k23 up_s) rfl rfl (Nat.le_of_ble_eq_true rfl) ?_
  dsimp only [List.set]
  generalize hLf : ((((((((((((((((((((((([q] ++ [k1]) ++ [k2]) ++ [k3]) ++ [k4]) ++ [k5]) ++ [k6]) ++ [k7]) ++ [k8]) ++ [k9]) ++ [k10]) ++ [k11]) ++ [k12]) ++ [k13]) ++ [k14]) ++ [k15]) ++ [k16]) ++ [k17]) ++ [k18]) ++ [k19]) ++ [k20]) ++ [k21]) ++ [k22]) ++ [k23]) = Lf
  generalize hff : (va_up (va_up (va_up (va_up (va_up f9_4 q (.inr (8, [.ref k1, .ref k2, .ref k6, .ref k8, .ref k17, .null, .int 0, .int 0, .null]))) k22 (aO G 6 (fun _ => none))) q (.inr (8, [.ref k1, .ref k2, .ref k6, .ref k8, .ref k17, .ref k22, .int 0, .int 0, .null]))) k23 (aO G 2 (fun _ => none))) q (.inr (8, [.ref k1, .ref k2, .ref k6, .ref k8, .ref k17, .ref k22, .int 0, .int 0, .ref k23]))) = ff
  have hI : Inv G 24 Lf ff := by
    subst hLf
    subst hff
    refine ⟨(nodup_snoc (nodup_snoc (nodup_snoc (nodup_snoc (nodup_snoc (nodup_snoc (nodup_snoc (nodup_snoc (nodup_snoc (nodup_snoc (nodup_snoc (nodup_snoc (nodup_snoc (nodup_snoc (nodup_snoc (nodup_snoc (nodup_snoc (nodup_snoc (nodup_snoc (nodup_snoc (nodup_snoc (nodup_snoc (nodup_snoc (show [q].Nodup from List.pairwise_singleton _ _) hk1) hk2) hk3) hk4) hk5) hk6) hk7) hk8) hk9) hk10) hk11) hk12) hk13) hk14) hk15) hk16) hk17) hk18) hk19) hk20) hk21) hk22) hk23), by simp only [List.length_append, List.length_cons, List.length_nil], fun k hk h22 h23 => ?_⟩
    match k, hk with
    | 0, _ =>
      refine (up_s : _ = ((.inr (8, [.ref k1, .ref k2, .ref k6, .ref k8, .ref k17, .ref k22, .int 0, .int 0, .ref k23])) : va_E)).trans ?_
      rw [cnt_8 rfl]
      rfl
    | 1, _ =>
      refine ((up_n (Ne.symm n_q_k1) (up_n n_k1_k23 (up_n (Ne.symm n_q_k1) (up_n n_k1_k22 (up_n (Ne.symm n_q_k1) hf_k1))))) : _ = ((.inr (3, [.ref k2, .ref k4, .int 0, .int (-1), .int 0, .int 0, .int (-1), .int 0, .int 0, .int 0, .int 0])) : va_E)).trans ?_
      rw [cnt_3 rfl]
      rfl
    | 2, _ =>
      refine ((up_n (Ne.symm n_q_k2) (up_n n_k2_k23 (up_n (Ne.symm n_q_k2) (up_n n_k2_k22 (up_n (Ne.symm n_q_k2) hf_k2))))) : _ = ((.inr (0, [.ref k3, .int 0])) : va_E)).trans ?_
      rw [cnt_0 rfl]
      rfl
    | 3, _ =>
      refine ((up_n (Ne.symm n_q_k3) (up_n n_k3_k23 (up_n (Ne.symm n_q_k3) (up_n n_k3_k22 (up_n (Ne.symm n_q_k3) hf_k3))))) : _ = ((aB G 400 z0) : va_E)).trans ?_
      rw [cnt_24 rfl]
      rfl
    | 4, _ =>
      refine ((up_n (Ne.symm n_q_k4) (up_n n_k4_k23 (up_n (Ne.symm n_q_k4) (up_n n_k4_k22 (up_n (Ne.symm n_q_k4) hf_k4))))) : _ = ((.inr (4, [.ref k5, .int 0, .int 0, .int 0, .int (-1)])) : va_E)).trans ?_
      rw [cnt_4 rfl]
      rfl
    | 5, _ =>
      refine ((up_n (Ne.symm n_q_k5) (up_n n_k5_k23 (up_n (Ne.symm n_q_k5) (up_n n_k5_k22 (up_n (Ne.symm n_q_k5) hf_k5))))) : _ = ((aI G 25 z0) : va_E)).trans ?_
      rw [cnt_21 rfl]
      rfl
    | 6, _ =>
      refine ((up_n (Ne.symm n_q_k6) (up_n n_k6_k23 (up_n (Ne.symm n_q_k6) (up_n n_k6_k22 (up_n (Ne.symm n_q_k6) hf_k6))))) : _ = ((.inr (2, [.ref k7, .int 0])) : va_E)).trans ?_
      rw [cnt_2 rfl]
      rfl
    | 7, _ =>
      refine ((up_n (Ne.symm n_q_k7) (up_n n_k7_k23 (up_n (Ne.symm n_q_k7) (up_n n_k7_k22 (up_n (Ne.symm n_q_k7) hf_k7))))) : _ = ((aB G 256 z0) : va_E)).trans ?_
      rw [cnt_25 rfl]
      rfl
    | 8, _ =>
      refine ((up_n (Ne.symm n_q_k8) (up_n n_k8_k23 (up_n (Ne.symm n_q_k8) (up_n n_k8_k22 (up_n (Ne.symm n_q_k8) hf_k8))))) : _ = ((.inr (6, [.ref k9, .ref k11, .ref k13, .ref k15, .int 0, .int 0, .int 0, .int (-1), .int (-1), .int 0, .int 0, .int 0])) : va_E)).trans ?_
      rw [cnt_6 rfl]
      rfl
    | 9, _ =>
      refine ((up_n (Ne.symm n_q_k9) (up_n n_k9_k23 (up_n (Ne.symm n_q_k9) (up_n n_k9_k22 (up_n (Ne.symm n_q_k9) hf_k9))))) : _ = ((.inr (4, [.ref k10, .int (1), .int 0, .int 0, .int (-1)])) : va_E)).trans ?_
      rw [cnt_4 rfl]
      rfl
    | 10, _ =>
      refine ((up_n (Ne.symm n_q_k10) (up_n n_k10_k23 (up_n (Ne.symm n_q_k10) (up_n n_k10_k22 (up_n (Ne.symm n_q_k10) hf_k10))))) : _ = ((aI G 25 tm0) : va_E)).trans ?_
      rw [cnt_21 rfl]
      rfl
    | 11, _ =>
      refine ((up_n (Ne.symm n_q_k11) (up_n n_k11_k23 (up_n (Ne.symm n_q_k11) (up_n n_k11_k22 (up_n (Ne.symm n_q_k11) hf_k11))))) : _ = ((.inr (1, [.ref k12, .int 0, .int 0])) : va_E)).trans ?_
      rw [cnt_1 rfl]
      rfl
    | 12, _ =>
      refine ((up_n (Ne.symm n_q_k12) (up_n n_k12_k23 (up_n (Ne.symm n_q_k12) (up_n n_k12_k22 (up_n (Ne.symm n_q_k12) hf_k12))))) : _ = ((aI G 240 z0) : va_E)).trans ?_
      rw [cnt_22 rfl]
      rfl
    | 13, _ =>
      refine ((up_n (Ne.symm n_q_k13) (up_n n_k13_k23 (up_n (Ne.symm n_q_k13) (up_n n_k13_k22 (up_n (Ne.symm n_q_k13) hf_k13))))) : _ = ((.inr (5, [.ref k14, .int 3000, .int 0, .int 0, .int 0, .int 0, .int 0, .int 0, .int 0, .int 0, .int 0, .int 0, .int 0])) : va_E)).trans ?_
      rw [cnt_5 rfl]
      rfl
    | 14, _ =>
      refine ((up_n (Ne.symm n_q_k14) (up_n n_k14_k23 (up_n (Ne.symm n_q_k14) (up_n n_k14_k22 (up_n (Ne.symm n_q_k14) hf_k14))))) : _ = ((aI G 5 z0) : va_E)).trans ?_
      rw [cnt_23 rfl]
      rfl
    | 15, _ =>
      refine ((up_n (Ne.symm n_q_k15) (up_n n_k15_k23 (up_n (Ne.symm n_q_k15) (up_n n_k15_k22 (up_n (Ne.symm n_q_k15) hf_k15))))) : _ = ((.inr (5, [.ref k16, .int 3000, .int 0, .int 0, .int 0, .int 0, .int 0, .int 0, .int 0, .int 0, .int 0, .int 0, .int 0])) : va_E)).trans ?_
      rw [cnt_5 rfl]
      rfl
    | 16, _ =>
      refine ((up_n (Ne.symm n_q_k16) (up_n n_k16_k23 (up_n (Ne.symm n_q_k16) (up_n n_k16_k22 (up_n (Ne.symm n_q_k16) hf_k16))))) : _ = ((aI G 5 z0) : va_E)).trans ?_
      rw [cnt_23 rfl]
      rfl
    | 17, _ =>
      refine ((up_n (Ne.symm n_q_k17) (up_n n_k17_k23 (up_n (Ne.symm n_q_k17) (up_n n_k17_k22 (up_n (Ne.symm n_q_k17) hf_k17))))) : _ = ((.inr (7, [.ref k18, .ref k20, .int 0, .int 0, .int 0, .int 0])) : va_E)).trans ?_
      rw [cnt_7 rfl]
      rfl
    | 18, _ =>
      refine ((up_n (Ne.symm n_q_k18) (up_n n_k18_k23 (up_n (Ne.symm n_q_k18) (up_n n_k18_k22 (up_n (Ne.symm n_q_k18) hf_k18))))) : _ = ((.inr (5, [.ref k19, .int 0, .int 0, .int 0, .int 0, .int 0, .int 0, .int 0, .int 0, .int 0, .int 0, .int 0, .int 0])) : va_E)).trans ?_
      rw [cnt_5 rfl]
      rfl
    | 19, _ =>
      refine ((up_n (Ne.symm n_q_k19) (up_n n_k19_k23 (up_n (Ne.symm n_q_k19) (up_n n_k19_k22 (up_n (Ne.symm n_q_k19) hf_k19))))) : _ = ((aI G 5 z0) : va_E)).trans ?_
      rw [cnt_23 rfl]
      rfl
    | 20, _ =>
      refine ((up_n (Ne.symm n_q_k20) (up_n n_k20_k23 (up_n (Ne.symm n_q_k20) (up_n n_k20_k22 (up_n (Ne.symm n_q_k20) hf_k20))))) : _ = ((.inr (5, [.ref k21, .int 0, .int 0, .int 0, .int 0, .int 0, .int 0, .int 0, .int 0, .int 0, .int 0, .int 0, .int 0])) : va_E)).trans ?_
      rw [cnt_5 rfl]
      rfl
    | 21, _ =>
      refine ((up_n (Ne.symm n_q_k21) (up_n n_k21_k23 (up_n (Ne.symm n_q_k21) (up_n n_k21_k22 (up_n (Ne.symm n_q_k21) hf_k21))))) : _ = ((aI G 5 z0) : va_E)).trans ?_
      rw [cnt_23 rfl]
      rfl
    | 22, _ =>
      exact absurd rfl h22
    | 23, _ =>
      exact absurd rfl h23
    | n + 24, h =>
      exact absurd h (by omega)
  have h22 : ff (ad Lf 22) = aO G 6 (fun j => if j < 0 then some (ad Lf (pastR j)) else none) := by
    subst hLf
    subst hff
    refine ((up_n (Ne.symm n_q_k22) (up_n n_k22_k23 (up_n (Ne.symm n_q_k22) up_s))) : _ = ((aO G 6 (fun _ => none)) : va_E)).trans ?_
    simp only [Nat.not_lt_zero, if_false]
  have h23 : ff (ad Lf 23) = aO G 2 (fun j => if j < 0 then some (ad Lf (slotR j)) else none) := by
    subst hLf
    subst hff
    refine ((up_n (Ne.symm n_q_k23) up_s) : _ = ((aO G 2 (fun _ => none)) : va_E)).trans ?_
    simp only [Nat.not_lt_zero, if_false]
  have hhead : Lf.head? = some q := by subst hLf; rfl
  clear hLf hff
  have loopB : ∀ d i : Nat, i + d = 2 → ∀ (L : List Nat) (f : Nat → va_E), (Inv G (24 + 9 * (6 + i)) L f ∧ L.head? = some q ∧ f (ad L 23) = aO G 2 (fun j => if j < i then some (ad L (slotR j)) else none) ∧ f (ad L 22) = aO G 6 (fun j => if j < 6 then some (ad L (pastR j)) else none)) → J G p l e ({ frames := 5, cells := 95, slots := 3640, locals := 101 } : Room) s m ar below meth c A Q 2 (23 + 9 * (6 + i)) (1072 + 321 * (6 + i)) 108 [some (.ref q), some (.int (nI i))] [] L f := by
    intro d
    induction d with
    | zero =>
      intro i hi L f hP
      have hi2 : i = 2 := by omega
      subst hi2
      obtain ⟨hI, hh, hrow, hoth⟩ := hP
      have hq0 : ad L 0 = q := by
        cases L with
        | nil =>
          cases hh
        | cons x t =>
          exact Option.some.inj hh
      have hlen := hI.2.1
      have mq : q ∈ L := by
        cases L with
        | nil =>
          cases hh
        | cons x t =>
          cases hh
          exact List.mem_cons_self
      have hf0 : f q = .inr (8, cl8 L 0 (a0 0)) := by
        rw [← hq0, hI.2.2 0 (by omega) (by decide) (by decide), cnt_8 rfl]
      have mrow : ad L 23 ∈ L := by
        unfold ad
        rw [List.getD_eq_getElem?_getD, List.getElem?_eq_getElem (by omega)]
        exact List.getElem_mem _
      refine j_iload_n X (i := 1) dX8_init_108 rfl rfl ?_
      refine j_aload_n X (i := 0) dX8_init_109 rfl rfl ?_
      refine j_getf X 8 8 rfl cw_X8 fl_X8_46 (by decide) dX8_init_110 mq hf0 rfl ?_
      refine j_alenN X (k9 := 5) dX8_init_113 mrow hrow rfl ?_
      refine j_icmp_ge X (tgt := 136) dX8_init_114 (by decide) (fun h => ?_) (fun h => absurd (by decide) h)
      exact q_vret X hQ dX8_init_136 rfl ⟨(by decide), (by decide)⟩ (clock_post hI hh hrow hoth)
    | succ d ih =>
      intro i hi L f hP
      have hi2 : i < 2 := by omega
      obtain ⟨hI, hh, hrow, hoth⟩ := hP
      have hq0 : ad L 0 = q := by
        cases L with
        | nil =>
          cases hh
        | cons x t =>
          exact Option.some.inj hh
      have hlen := hI.2.1
      have mq : q ∈ L := by
        cases L with
        | nil =>
          cases hh
        | cons x t =>
          cases hh
          exact List.mem_cons_self
      have hf0 : f q = .inr (8, cl8 L 0 (a0 0)) := by
        rw [← hq0, hI.2.2 0 (by omega) (by decide) (by decide), cnt_8 rfl]
      have mrow : ad L 23 ∈ L := by
        unfold ad
        rw [List.getD_eq_getElem?_getD, List.getElem?_eq_getElem (by omega)]
        exact List.getElem_mem _
      refine j_iload_n X (i := 1) dX8_init_108 rfl rfl ?_
      refine j_aload_n X (i := 0) dX8_init_109 rfl rfl ?_
      refine j_getf X 8 8 rfl cw_X8 fl_X8_46 (by decide) dX8_init_110 mq hf0 rfl ?_
      refine j_alenN X (k9 := 5) dX8_init_113 mrow hrow rfl ?_
      refine j_icmp_ge X (tgt := 136) dX8_init_114 (by decide) (fun h => absurd ((nI_leI (by decide) (by omega)).mp h) (by omega)) (fun h => ?_)
      refine j_aload_n X (i := 0) dX8_init_117 rfl rfl ?_
      refine j_getf X 8 8 rfl cw_X8 fl_X8_46 (by decide) dX8_init_118 mq hf0 rfl ?_
      refine j_iload_n X (i := 1) dX8_init_121 rfl rfl ?_
      refine j_new X 6 cw_X6 tyX6 tyX6_ok cl_X8_28 is_X6 in_X6 rfl df6_ok ⟨(by show _ ≤ 95; omega), (by show _ ≤ 3640; omega)⟩ dX8_init_122 (fun q9 hq9 => ?_)
      refine j_dup X dX8_init_125 rfl ?_
      refine j_callI X (k_X6_init hl (List.mem_append_right L (List.mem_singleton.mpr rfl)) up_s) ml_X8_30 im_yX6_init in_X6 cd_yX6_init rfl hi_yX6_init dX8_init_126 ⟨(by decide), (by decide)⟩ ⟨(by show _ ≤ 95; omega), (by show _ ≤ 3640; omega)⟩ (Nat.le_of_ble_eq_true rfl) (fun _ h => h.elim) (fun r9 L9 f9 h9 => ?_)
      obtain ⟨h91, k1, k2, k3, k4, k5, k6, k7, k8, hk1, hk2, hk3, hk4, hk5, hk6, hk7, hk8, h92, h93⟩ := h9
      subst r9
      obtain ⟨hI2, hq2, hold⟩ := grow hI rfl (by omega : 6 + i < 8) hq9 hk1 hk2 hk3 hk4 hk5 hk6 hk7 hk8
      rw [← h92, ← h93] at hI2
      rw [← h92] at hq2 hold
      have hsub : ∀ x ∈ L, x ∈ L9 := fun x hx => by rw [h92]; simp [hx]
      have hkeep : ∀ x ∈ L, f9 x = f x := by
        intro x hx
        have x0 : x ≠ q9 := fun h => hq9 (h ▸ hx)
        have x1 : x ≠ k1 := fun h => hk1 (by rw [← h]; simp [hx])
        have x2 : x ≠ k2 := fun h => hk2 (by rw [← h]; simp [hx])
        have x3 : x ≠ k3 := fun h => hk3 (by rw [← h]; simp [hx])
        have x4 : x ≠ k4 := fun h => hk4 (by rw [← h]; simp [hx])
        have x5 : x ≠ k5 := fun h => hk5 (by rw [← h]; simp [hx])
        have x6 : x ≠ k6 := fun h => hk6 (by rw [← h]; simp [hx])
        have x7 : x ≠ k7 := fun h => hk7 (by rw [← h]; simp [hx])
        have x8 : x ≠ k8 := fun h => hk8 (by rw [← h]; simp [hx])
        rw [h93]
        simp only [va_up, if_neg x0, if_neg x1, if_neg x2, if_neg x3, if_neg x4, if_neg x5, if_neg x6, if_neg x7, if_neg x8]
      have mq9 : q9 ∈ L9 := by rw [h92]; simp
      have hf9 : ∃ vs, f9 q9 = .inr (6, vs) := by
        have h8 := hI2.2.2 (24 + 9 * (6 + i) + 0) (by omega) (by omega) (by omega)
        rw [hq2] at h8
        rw [cnt_6 (ty_blk0 (6 + i) (by omega))] at h8
        exact ⟨_, h8⟩
      obtain ⟨vs, hvs⟩ := hf9
      have er : ad L9 23 = ad L 23 := hold 23 (by omega)
      dsimp only [Option.toList, List.nil_append]
      refine j_aast X dX8_init_129 (hsub _ mrow) ((hkeep _ mrow).trans hrow) mq9 hvs (vp_in_nI hi2 (by decide)) ?_
      refine j_iinc X (nI (i + 1)) dX8_init_130 rfl (nI_succ i).symm (by decide) (lvOK_s rfl okPrev_ref) ?_
      dsimp only [List.set]
      refine j_goto X (tgt := 108) dX8_init_133 (by decide) ?_
      refine J.widen (c1 := 23 + 9 * (6 + (i + 1))) (s1 := 1072 + 321 * (6 + (i + 1))) (by omega) (by omega) ?_
      refine ih (i + 1) (by omega) L9 _ ⟨⟨hI2.1, by rw [hI2.2.1]; omega, fun k hk h22 h23 => ?_⟩, ?_, ?_, ?_⟩
      · rw [va_up_ne]
        · exact hI2.2.2 k (by omega) h22 h23
        · rw [← er]
          intro h8
          have h7 : ∀ a b, a < L9.length → b < L9.length → ad L9 a = ad L9 b → a = b := fun a b ha hb hab => by
            unfold ad at hab
            rw [List.getD_eq_getElem?_getD, List.getD_eq_getElem?_getD, List.getElem?_eq_getElem ha, List.getElem?_eq_getElem hb] at hab
            exact (List.Nodup.getElem_inj_iff hI2.1).mp hab
          exact h23 (h7 k 23 (by rw [hI2.2.1]; omega) (by rw [hI2.2.1]; omega) h8)
      · rw [h92]
        simp only [List.append_assoc]
        rw [List.head?_append, hh]
        rfl
      · rw [er, va_up_self]
        congr 3
        skip
        funext j
        rw [nI_clamp (by omega)]
        unfold va_up
        by_cases hj : j = i
        · subst hj
          rw [if_pos rfl, if_pos (by omega)]
          have e8 : slotR j = 24 + 9 * (6 + j) + 0 := by unfold slotR; omega
          rw [e8, hq2]
        · rw [if_neg hj]
          by_cases hj2 : j < i
          · rw [if_pos hj2, if_pos (by omega), hold (slotR j) (by unfold slotR; omega)]
          · rw [if_neg hj2, if_neg (by omega)]
      · have er2 : ad L9 22 = ad L 22 := hold 22 (by omega)
        rw [va_up_ne]
        · rw [er2, hkeep _ (by unfold ad; rw [List.getD_eq_getElem?_getD, List.getElem?_eq_getElem (by omega)]; exact List.getElem_mem _), hoth]
          skip
          have e7 : (fun j => if j < 6 then some (ad L (pastR j)) else none) = (fun j => if j < 6 then some (ad L9 (pastR j)) else none) := by
            funext j
            by_cases hj : j < 6
            · rw [if_pos hj, if_pos hj, hold (pastR j) (by unfold pastR; omega)]
            · rw [if_neg hj, if_neg hj]
          rw [e7]
        · rw [er2]
          intro h8
          unfold ad at h8
          rw [List.getD_eq_getElem?_getD, List.getD_eq_getElem?_getD, List.getElem?_eq_getElem (by omega), List.getElem?_eq_getElem (by omega)] at h8
          exact absurd ((List.Nodup.getElem_inj_iff hI.1).mp h8) (by decide)
  have loopA : ∀ d i : Nat, i + d = 6 → ∀ (L : List Nat) (f : Nat → va_E), (Inv G (24 + 9 * (0 + i)) L f ∧ L.head? = some q ∧ f (ad L 22) = aO G 6 (fun j => if j < i then some (ad L (pastR j)) else none) ∧ f (ad L 23) = aO G 2 (fun j => if j < 0 then some (ad L (slotR j)) else none)) → J G p l e ({ frames := 5, cells := 95, slots := 3640, locals := 101 } : Room) s m ar below meth c A Q 2 (23 + 9 * (0 + i)) (1072 + 321 * (0 + i)) 78 [some (.ref q), some (.int (nI i))] [] L f := by
    intro d
    induction d with
    | zero =>
      intro i hi L f hP
      have hi2 : i = 6 := by omega
      subst hi2
      obtain ⟨hI, hh, hrow, hoth⟩ := hP
      have hq0 : ad L 0 = q := by
        cases L with
        | nil =>
          cases hh
        | cons x t =>
          exact Option.some.inj hh
      have hlen := hI.2.1
      have mq : q ∈ L := by
        cases L with
        | nil =>
          cases hh
        | cons x t =>
          cases hh
          exact List.mem_cons_self
      have hf0 : f q = .inr (8, cl8 L 0 (a0 0)) := by
        rw [← hq0, hI.2.2 0 (by omega) (by decide) (by decide), cnt_8 rfl]
      have mrow : ad L 22 ∈ L := by
        unfold ad
        rw [List.getD_eq_getElem?_getD, List.getElem?_eq_getElem (by omega)]
        exact List.getElem_mem _
      refine j_iload_n X (i := 1) dX8_init_78 rfl rfl ?_
      refine j_aload_n X (i := 0) dX8_init_79 rfl rfl ?_
      refine j_getf X 8 5 rfl cw_X8 fl_X8_42 (by decide) dX8_init_80 mq hf0 rfl ?_
      refine j_alenN X (k9 := 5) dX8_init_83 mrow hrow rfl ?_
      refine j_icmp_ge X (tgt := 106) dX8_init_84 (by decide) (fun h => ?_) (fun h => absurd (by decide) h)
      refine j_iconst X (0) dX8_init_106 (by decide) ?_
      refine j_istore_n X (i := 1) dX8_init_107 rfl (by decide) (lvOK_s rfl okPrev_ref) ?_
      dsimp only [List.set]
      exact loopB 2 0 rfl L f ⟨hI, hh, hoth, hrow⟩
    | succ d ih =>
      intro i hi L f hP
      have hi2 : i < 6 := by omega
      obtain ⟨hI, hh, hrow, hoth⟩ := hP
      have hq0 : ad L 0 = q := by
        cases L with
        | nil =>
          cases hh
        | cons x t =>
          exact Option.some.inj hh
      have hlen := hI.2.1
      have mq : q ∈ L := by
        cases L with
        | nil =>
          cases hh
        | cons x t =>
          cases hh
          exact List.mem_cons_self
      have hf0 : f q = .inr (8, cl8 L 0 (a0 0)) := by
        rw [← hq0, hI.2.2 0 (by omega) (by decide) (by decide), cnt_8 rfl]
      have mrow : ad L 22 ∈ L := by
        unfold ad
        rw [List.getD_eq_getElem?_getD, List.getElem?_eq_getElem (by omega)]
        exact List.getElem_mem _
      refine j_iload_n X (i := 1) dX8_init_78 rfl rfl ?_
      refine j_aload_n X (i := 0) dX8_init_79 rfl rfl ?_
      refine j_getf X 8 5 rfl cw_X8 fl_X8_42 (by decide) dX8_init_80 mq hf0 rfl ?_
      refine j_alenN X (k9 := 5) dX8_init_83 mrow hrow rfl ?_
      refine j_icmp_ge X (tgt := 106) dX8_init_84 (by decide) (fun h => absurd ((nI_leI (by decide) (by omega)).mp h) (by omega)) (fun h => ?_)
      refine j_aload_n X (i := 0) dX8_init_87 rfl rfl ?_
      refine j_getf X 8 5 rfl cw_X8 fl_X8_42 (by decide) dX8_init_88 mq hf0 rfl ?_
      refine j_iload_n X (i := 1) dX8_init_91 rfl rfl ?_
      refine j_new X 6 cw_X6 tyX6 tyX6_ok cl_X8_28 is_X6 in_X6 rfl df6_ok ⟨(by show _ ≤ 95; omega), (by show _ ≤ 3640; omega)⟩ dX8_init_92 (fun q9 hq9 => ?_)
      refine j_dup X dX8_init_95 rfl ?_
      refine j_callI X (k_X6_init hl (List.mem_append_right L (List.mem_singleton.mpr rfl)) up_s) ml_X8_30 im_yX6_init in_X6 cd_yX6_init rfl hi_yX6_init dX8_init_96 ⟨(by decide), (by decide)⟩ ⟨(by show _ ≤ 95; omega), (by show _ ≤ 3640; omega)⟩ (Nat.le_of_ble_eq_true rfl) (fun _ h => h.elim) (fun r9 L9 f9 h9 => ?_)
      obtain ⟨h91, k1, k2, k3, k4, k5, k6, k7, k8, hk1, hk2, hk3, hk4, hk5, hk6, hk7, hk8, h92, h93⟩ := h9
      subst r9
      obtain ⟨hI2, hq2, hold⟩ := grow hI rfl (by omega : 0 + i < 8) hq9 hk1 hk2 hk3 hk4 hk5 hk6 hk7 hk8
      rw [← h92, ← h93] at hI2
      rw [← h92] at hq2 hold
      have hsub : ∀ x ∈ L, x ∈ L9 := fun x hx => by rw [h92]; simp [hx]
      have hkeep : ∀ x ∈ L, f9 x = f x := by
        intro x hx
        have x0 : x ≠ q9 := fun h => hq9 (h ▸ hx)
        have x1 : x ≠ k1 := fun h => hk1 (by rw [← h]; simp [hx])
        have x2 : x ≠ k2 := fun h => hk2 (by rw [← h]; simp [hx])
        have x3 : x ≠ k3 := fun h => hk3 (by rw [← h]; simp [hx])
        have x4 : x ≠ k4 := fun h => hk4 (by rw [← h]; simp [hx])
        have x5 : x ≠ k5 := fun h => hk5 (by rw [← h]; simp [hx])
        have x6 : x ≠ k6 := fun h => hk6 (by rw [← h]; simp [hx])
        have x7 : x ≠ k7 := fun h => hk7 (by rw [← h]; simp [hx])
        have x8 : x ≠ k8 := fun h => hk8 (by rw [← h]; simp [hx])
        rw [h93]
        simp only [va_up, if_neg x0, if_neg x1, if_neg x2, if_neg x3, if_neg x4, if_neg x5, if_neg x6, if_neg x7, if_neg x8]
      have mq9 : q9 ∈ L9 := by rw [h92]; simp
      have hf9 : ∃ vs, f9 q9 = .inr (6, vs) := by
        have h8 := hI2.2.2 (24 + 9 * (0 + i) + 0) (by omega) (by omega) (by omega)
        rw [hq2] at h8
        rw [cnt_6 (ty_blk0 (0 + i) (by omega))] at h8
        exact ⟨_, h8⟩
      obtain ⟨vs, hvs⟩ := hf9
      have er : ad L9 22 = ad L 22 := hold 22 (by omega)
      dsimp only [Option.toList, List.nil_append]
      refine j_aast X dX8_init_99 (hsub _ mrow) ((hkeep _ mrow).trans hrow) mq9 hvs (vp_in_nI hi2 (by decide)) ?_
      refine j_iinc X (nI (i + 1)) dX8_init_100 rfl (nI_succ i).symm (by decide) (lvOK_s rfl okPrev_ref) ?_
      dsimp only [List.set]
      refine j_goto X (tgt := 78) dX8_init_103 (by decide) ?_
      refine J.widen (c1 := 23 + 9 * (0 + (i + 1))) (s1 := 1072 + 321 * (0 + (i + 1))) (by omega) (by omega) ?_
      refine ih (i + 1) (by omega) L9 _ ⟨⟨hI2.1, by rw [hI2.2.1]; omega, fun k hk h22 h23 => ?_⟩, ?_, ?_, ?_⟩
      · rw [va_up_ne]
        · exact hI2.2.2 k (by omega) h22 h23
        · rw [← er]
          intro h8
          have h7 : ∀ a b, a < L9.length → b < L9.length → ad L9 a = ad L9 b → a = b := fun a b ha hb hab => by
            unfold ad at hab
            rw [List.getD_eq_getElem?_getD, List.getD_eq_getElem?_getD, List.getElem?_eq_getElem ha, List.getElem?_eq_getElem hb] at hab
            exact (List.Nodup.getElem_inj_iff hI2.1).mp hab
          exact h22 (h7 k 22 (by rw [hI2.2.1]; omega) (by rw [hI2.2.1]; omega) h8)
      · rw [h92]
        simp only [List.append_assoc]
        rw [List.head?_append, hh]
        rfl
      · rw [er, va_up_self]
        congr 3
        skip
        funext j
        rw [nI_clamp (by omega)]
        unfold va_up
        by_cases hj : j = i
        · subst hj
          rw [if_pos rfl, if_pos (by omega)]
          have e8 : pastR j = 24 + 9 * (0 + j) + 0 := by unfold pastR; omega
          rw [e8, hq2]
        · rw [if_neg hj]
          by_cases hj2 : j < i
          · rw [if_pos hj2, if_pos (by omega), hold (pastR j) (by unfold pastR; omega)]
          · rw [if_neg hj2, if_neg (by omega)]
      · have er2 : ad L9 23 = ad L 23 := hold 23 (by omega)
        rw [va_up_ne]
        · rw [er2, hkeep _ (by unfold ad; rw [List.getD_eq_getElem?_getD, List.getElem?_eq_getElem (by omega)]; exact List.getElem_mem _), hoth]
          simp only [Nat.not_lt_zero, if_false]
        · rw [er2]
          intro h8
          unfold ad at h8
          rw [List.getD_eq_getElem?_getD, List.getD_eq_getElem?_getD, List.getElem?_eq_getElem (by omega), List.getElem?_eq_getElem (by omega)] at h8
          exact absurd ((List.Nodup.getElem_inj_iff hI.1).mp h8) (by decide)
  refine j_iconst X (0) dX8_init_76 (by decide) ?_
  refine j_istore_n X (i := 1) dX8_init_77 rfl (by decide) (lvOK_s rfl okPrev_ref) ?_
  dsimp only [List.set]
  exact loopA 6 0 rfl Lf ff ⟨hI, hhead, h22, h23⟩
