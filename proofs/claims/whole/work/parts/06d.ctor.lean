def f_X9_ctor (N : Nat) (b : Mem) : Option Mem := bP (f_X9_layPlain N b) fun b2 => bT (upR b2 (rowM (b2 0 3)) (upd (b2 (rowM (b2 0 3))) ((2 : Int32)).toNatClampNeg (1 : Int32))) fun b4 => bT (upR b4 (rowM (b4 0 3)) (upd (b4 (rowM (b4 0 3))) ((13 : Int32)).toNatClampNeg (3000 : Int32))) fun b6 => bP (f_X9_put N (0 : Int32) (0 : Int32) (3000 : Int32) b6) fun b9 => bP (f_X9_put N (1 : Int32) (0 : Int32) (3000 : Int32) b9) fun b12 => some b12
set_option maxRecDepth 100000 in
set_option maxHeartbeats 4000000 in
theorem k_X9_init {l : Launch} (hl : l.stackTraces = false) {G : GG} {L : List Nat} {f : Nat → va_E} {q N : Nat} {c9m b' : Mem} (hnd : L.Nodup) (hlen : L.length = 97) (hq : ad L 96 = q) (hcl : ∀ k, k < 96 → f (ad L k) = cnt G L k (a0 k)) (hf_q : f q = .inr (9, df9)) (hR : f_X9_ctor N bz = some b') : Ct l G yX9_init (.code yX9_init cX9_init 1 none) 1 30 8 4123 [.ref q] L f px0 (fun r L1 f1 => r = none ∧ ∃ k1 k2 k3 k4 k5 k6 k7 k8 : Nat, k1 ∉ L ∧ k2 ∉ (L ++ [k1]) ∧ k3 ∉ ((L ++ [k1]) ++ [k2]) ∧ k4 ∉ (((L ++ [k1]) ++ [k2]) ++ [k3]) ∧ k5 ∉ ((((L ++ [k1]) ++ [k2]) ++ [k3]) ++ [k4]) ∧ k6 ∉ (((((L ++ [k1]) ++ [k2]) ++ [k3]) ++ [k4]) ++ [k5]) ∧ k7 ∉ ((((((L ++ [k1]) ++ [k2]) ++ [k3]) ++ [k4]) ++ [k5]) ++ [k6]) ∧ k8 ∉ (((((((L ++ [k1]) ++ [k2]) ++ [k3]) ++ [k4]) ++ [k5]) ++ [k6]) ++ [k7]) ∧ L1 = ((((((((L ++ [k1]) ++ [k2]) ++ [k3]) ++ [k4]) ++ [k5]) ++ [k6]) ++ [k7]) ++ [k8]) ∧ LOK ((((((((L ++ [k1]) ++ [k2]) ++ [k3]) ++ [k4]) ++ [k5]) ++ [k6]) ++ [k7]) ++ [k8]) ∧ f1 = FW G ((((((((L ++ [k1]) ++ [k2]) ++ [k3]) ++ [k4]) ++ [k5]) ++ [k6]) ++ [k7]) ++ [k8]) a0 b' c9m) := by
  refine Ct.ofqn (own := RX9) hl rfl (by decide) [some (.ref q)] rfl (Nat.le_of_ble_eq_true rfl) ?_
  intro p e s m below meth c A ar Q hQ hname X
  have m_q : q ∈ L := by rw [← hq]; exact ad_memL (by omega)
  unfold f_X9_ctor at hR
  refine j_aload_n X (i := 0) dX9_init_0 rfl rfl ?_
  refine j_objInit X ml_X9_11 dX9_init_1 ⟨(by decide), (Nat.le_of_ble_eq_true rfl)⟩ ?_
  refine j_aload_n X (i := 0) dX9_init_4 rfl rfl ?_
  refine j_sipush X (311) dX9_init_5 (by decide) ?_
  refine j_newa X 0 (atype := .int) rfl ac_int rfl (az_int 311) (by decide) (by decide) (by decide) ⟨(by decide), (by decide)⟩ dX9_init_8 (fun k1 hk1 => ?_)
  have n_q_k1 : q ≠ k1 := fun h => hk1 (h ▸ m_q)
  have m_q := List.mem_append_left [k1] m_q
  have m_k1 : k1 ∈ L ++ [k1] := List.mem_append_right _ (List.mem_singleton.mpr rfl)
  refine j_putF X 9 1 rfl cw_X9 tyX9 tyX9_ok nmX9 fl_X9_17 (by decide) rfl hname rfl dX9_init_10 m_q (up_n n_q_k1 hf_q) rfl rfl (Nat.le_of_ble_eq_true rfl) ?_
  dsimp only [List.set]
  refine j_aload_n X (i := 0) dX9_init_13 rfl rfl ?_
  refine j_sipush X (311) dX9_init_14 (by decide) ?_
  refine j_newa X 0 (atype := .int) rfl ac_int rfl (az_int 311) (by decide) (by decide) (by decide) ⟨(by decide), (by decide)⟩ dX9_init_17 (fun k2 hk2 => ?_)
  have n_q_k2 : q ≠ k2 := fun h => hk2 (h ▸ m_q)
  have n_k1_k2 : k1 ≠ k2 := fun h => hk2 (h ▸ m_k1)
  have m_q := List.mem_append_left [k2] m_q
  have m_k1 := List.mem_append_left [k2] m_k1
  have m_k2 : k2 ∈ (L ++ [k1]) ++ [k2] := List.mem_append_right _ (List.mem_singleton.mpr rfl)
  refine j_putF X 9 2 rfl cw_X9 tyX9 tyX9_ok nmX9 fl_X9_21 (by decide) rfl hname rfl dX9_init_19 m_q (up_n n_q_k2 up_s) rfl rfl (Nat.le_of_ble_eq_true rfl) ?_
  dsimp only [List.set]
  refine j_aload_n X (i := 0) dX9_init_22 rfl rfl ?_
  refine j_aload_n X (i := 0) dX9_init_23 rfl rfl ?_
  refine j_getf X 9 1 rfl cw_X9 fl_X9_17 (by decide) dX9_init_24 m_q up_s rfl ?_
  refine j_putf X 9 3 rfl cw_X9 tyX9 tyX9_ok nmX9 fl_X9_24 (by decide) rfl dX9_init_27 m_q up_s rfl rfl (Nat.le_of_ble_eq_true rfl) ?_
  dsimp only [List.set]
  rw [up_up]
  refine j_aload_n X (i := 0) dX9_init_30 rfl rfl ?_
  refine j_sipush X (311) dX9_init_31 (by decide) ?_
  refine j_newa X 0 (atype := .int) rfl ac_int rfl (az_int 311) (by decide) (by decide) (by decide) ⟨(by decide), (by decide)⟩ dX9_init_34 (fun k3 hk3 => ?_)
  have n_q_k3 : q ≠ k3 := fun h => hk3 (h ▸ m_q)
  have n_k1_k3 : k1 ≠ k3 := fun h => hk3 (h ▸ m_k1)
  have n_k2_k3 : k2 ≠ k3 := fun h => hk3 (h ▸ m_k2)
  have m_q := List.mem_append_left [k3] m_q
  have m_k1 := List.mem_append_left [k3] m_k1
  have m_k2 := List.mem_append_left [k3] m_k2
  have m_k3 : k3 ∈ ((L ++ [k1]) ++ [k2]) ++ [k3] := List.mem_append_right _ (List.mem_singleton.mpr rfl)
  refine j_putF X 9 4 rfl cw_X9 tyX9 tyX9_ok nmX9 fl_X9_27 (by decide) rfl hname rfl dX9_init_36 m_q (up_n n_q_k3 up_s) rfl rfl (Nat.le_of_ble_eq_true rfl) ?_
  dsimp only [List.set]
  refine j_aload_n X (i := 0) dX9_init_39 rfl rfl ?_
  refine j_sipush X (400) dX9_init_40 (by decide) ?_
  refine j_newa X 1 (atype := .byte) rfl ac_byte rfl (az_byte 400) (by decide) (by decide) (by decide) ⟨(by decide), (by decide)⟩ dX9_init_43 (fun k4 hk4 => ?_)
  have n_q_k4 : q ≠ k4 := fun h => hk4 (h ▸ m_q)
  have n_k1_k4 : k1 ≠ k4 := fun h => hk4 (h ▸ m_k1)
  have n_k2_k4 : k2 ≠ k4 := fun h => hk4 (h ▸ m_k2)
  have n_k3_k4 : k3 ≠ k4 := fun h => hk4 (h ▸ m_k3)
  have m_q := List.mem_append_left [k4] m_q
  have m_k1 := List.mem_append_left [k4] m_k1
  have m_k2 := List.mem_append_left [k4] m_k2
  have m_k3 := List.mem_append_left [k4] m_k3
  have m_k4 : k4 ∈ (((L ++ [k1]) ++ [k2]) ++ [k3]) ++ [k4] := List.mem_append_right _ (List.mem_singleton.mpr rfl)
  refine j_putF X 9 11 rfl cw_X9 tyX9 tyX9_ok nmX9 fl_X9_30 (by decide) rfl hname rfl dX9_init_45 m_q (up_n n_q_k4 up_s) rfl rfl (Nat.le_of_ble_eq_true rfl) ?_
  dsimp only [List.set]
  refine j_aload_n X (i := 0) dX9_init_48 rfl rfl ?_
  refine j_iconst X (-1) dX9_init_49 (by decide) ?_
  refine j_putf X 9 19 rfl cw_X9 tyX9 tyX9_ok nmX9 fl_X9_34 (by decide) rfl dX9_init_50 m_q up_s rfl rfl (Nat.le_of_ble_eq_true rfl) ?_
  dsimp only [List.set]
  rw [up_up]
  refine j_aload_n X (i := 0) dX9_init_53 rfl rfl ?_
  refine j_sipush X (622) dX9_init_54 (by decide) ?_
  refine j_newa X 0 (atype := .int) rfl ac_int rfl (az_int 622) (by decide) (by decide) (by decide) ⟨(by decide), (by decide)⟩ dX9_init_57 (fun k5 hk5 => ?_)
  have n_q_k5 : q ≠ k5 := fun h => hk5 (h ▸ m_q)
  have n_k1_k5 : k1 ≠ k5 := fun h => hk5 (h ▸ m_k1)
  have n_k2_k5 : k2 ≠ k5 := fun h => hk5 (h ▸ m_k2)
  have n_k3_k5 : k3 ≠ k5 := fun h => hk5 (h ▸ m_k3)
  have n_k4_k5 : k4 ≠ k5 := fun h => hk5 (h ▸ m_k4)
  have m_q := List.mem_append_left [k5] m_q
  have m_k1 := List.mem_append_left [k5] m_k1
  have m_k2 := List.mem_append_left [k5] m_k2
  have m_k3 := List.mem_append_left [k5] m_k3
  have m_k4 := List.mem_append_left [k5] m_k4
  have m_k5 : k5 ∈ ((((L ++ [k1]) ++ [k2]) ++ [k3]) ++ [k4]) ++ [k5] := List.mem_append_right _ (List.mem_singleton.mpr rfl)
  refine j_putF X 9 24 rfl cw_X9 tyX9 tyX9_ok nmX9 fl_X9_37 (by decide) rfl hname rfl dX9_init_59 m_q (up_n n_q_k5 up_s) rfl rfl (Nat.le_of_ble_eq_true rfl) ?_
  dsimp only [List.set]
  refine j_aload_n X (i := 0) dX9_init_62 rfl rfl ?_
  refine j_iconst X (2) dX9_init_63 (by decide) ?_
  refine j_newa X 2 (atype := .boolean) rfl ac_boolean rfl (az_boolean 2) (by decide) (by decide) (by decide) ⟨(by decide), (by decide)⟩ dX9_init_64 (fun k6 hk6 => ?_)
  have n_q_k6 : q ≠ k6 := fun h => hk6 (h ▸ m_q)
  have n_k1_k6 : k1 ≠ k6 := fun h => hk6 (h ▸ m_k1)
  have n_k2_k6 : k2 ≠ k6 := fun h => hk6 (h ▸ m_k2)
  have n_k3_k6 : k3 ≠ k6 := fun h => hk6 (h ▸ m_k3)
  have n_k4_k6 : k4 ≠ k6 := fun h => hk6 (h ▸ m_k4)
  have n_k5_k6 : k5 ≠ k6 := fun h => hk6 (h ▸ m_k5)
  have m_q := List.mem_append_left [k6] m_q
  have m_k1 := List.mem_append_left [k6] m_k1
  have m_k2 := List.mem_append_left [k6] m_k2
  have m_k3 := List.mem_append_left [k6] m_k3
  have m_k4 := List.mem_append_left [k6] m_k4
  have m_k5 := List.mem_append_left [k6] m_k5
  have m_k6 : k6 ∈ (((((L ++ [k1]) ++ [k2]) ++ [k3]) ++ [k4]) ++ [k5]) ++ [k6] := List.mem_append_right _ (List.mem_singleton.mpr rfl)
  refine j_putF X 9 25 rfl cw_X9 tyX9 tyX9_ok nmX9 fl_X9_40 (by decide) rfl hname rfl dX9_init_66 m_q (up_n n_q_k6 up_s) rfl rfl (Nat.le_of_ble_eq_true rfl) ?_
  dsimp only [List.set]
  refine j_aload_n X (i := 0) dX9_init_69 rfl rfl ?_
  refine j_sipush X (1866) dX9_init_70 (by decide) ?_
  refine j_newa X 0 (atype := .int) rfl ac_int rfl (az_int 1866) (by decide) (by decide) (by decide) ⟨(by decide), (by decide)⟩ dX9_init_73 (fun k7 hk7 => ?_)
  have n_q_k7 : q ≠ k7 := fun h => hk7 (h ▸ m_q)
  have n_k1_k7 : k1 ≠ k7 := fun h => hk7 (h ▸ m_k1)
  have n_k2_k7 : k2 ≠ k7 := fun h => hk7 (h ▸ m_k2)
  have n_k3_k7 : k3 ≠ k7 := fun h => hk7 (h ▸ m_k3)
  have n_k4_k7 : k4 ≠ k7 := fun h => hk7 (h ▸ m_k4)
  have n_k5_k7 : k5 ≠ k7 := fun h => hk7 (h ▸ m_k5)
  have n_k6_k7 : k6 ≠ k7 := fun h => hk7 (h ▸ m_k6)
  have m_q := List.mem_append_left [k7] m_q
  have m_k1 := List.mem_append_left [k7] m_k1
  have m_k2 := List.mem_append_left [k7] m_k2
  have m_k3 := List.mem_append_left [k7] m_k3
  have m_k4 := List.mem_append_left [k7] m_k4
  have m_k5 := List.mem_append_left [k7] m_k5
  have m_k6 := List.mem_append_left [k7] m_k6
  have m_k7 : k7 ∈ ((((((L ++ [k1]) ++ [k2]) ++ [k3]) ++ [k4]) ++ [k5]) ++ [k6]) ++ [k7] := List.mem_append_right _ (List.mem_singleton.mpr rfl)
  refine j_putF X 9 26 rfl cw_X9 tyX9 tyX9_ok nmX9 fl_X9_44 (by decide) rfl hname rfl dX9_init_75 m_q (up_n n_q_k7 up_s) rfl rfl (Nat.le_of_ble_eq_true rfl) ?_
  dsimp only [List.set]
  refine j_aload_n X (i := 0) dX9_init_78 rfl rfl ?_
  refine j_sipush X (300) dX9_init_79 (by decide) ?_
  refine j_newa X 1 (atype := .byte) rfl ac_byte rfl (az_byte 300) (by decide) (by decide) (by decide) ⟨(by decide), (by decide)⟩ dX9_init_82 (fun k8 hk8 => ?_)
  have n_q_k8 : q ≠ k8 := fun h => hk8 (h ▸ m_q)
  have n_k1_k8 : k1 ≠ k8 := fun h => hk8 (h ▸ m_k1)
  have n_k2_k8 : k2 ≠ k8 := fun h => hk8 (h ▸ m_k2)
  have n_k3_k8 : k3 ≠ k8 := fun h => hk8 (h ▸ m_k3)
  have n_k4_k8 : k4 ≠ k8 := fun h => hk8 (h ▸ m_k4)
  have n_k5_k8 : k5 ≠ k8 := fun h => hk8 (h ▸ m_k5)
  have n_k6_k8 : k6 ≠ k8 := fun h => hk8 (h ▸ m_k6)
  have n_k7_k8 : k7 ≠ k8 := fun h => hk8 (h ▸ m_k7)
  have m_q := List.mem_append_left [k8] m_q
  have m_k1 := List.mem_append_left [k8] m_k1
  have m_k2 := List.mem_append_left [k8] m_k2
  have m_k3 := List.mem_append_left [k8] m_k3
  have m_k4 := List.mem_append_left [k8] m_k4
  have m_k5 := List.mem_append_left [k8] m_k5
  have m_k6 := List.mem_append_left [k8] m_k6
  have m_k7 := List.mem_append_left [k8] m_k7
  have m_k8 : k8 ∈ (((((((L ++ [k1]) ++ [k2]) ++ [k3]) ++ [k4]) ++ [k5]) ++ [k6]) ++ [k7]) ++ [k8] := List.mem_append_right _ (List.mem_singleton.mpr rfl)
  refine j_putF X 9 28 rfl cw_X9 tyX9 tyX9_ok nmX9 fl_X9_47 (by decide) rfl hname rfl dX9_init_84 m_q (up_n n_q_k8 up_s) rfl rfl (Nat.le_of_ble_eq_true rfl) ?_
  dsimp only [List.set]
  have hold9 : ∀ x, x ∈ L → x ≠ q → (va_up (va_up (va_up (va_up (va_up (va_up (va_up (va_up (va_up (va_up (va_up (va_up (va_up (va_up (va_up (va_up f k1 (aI G 311 z0)) q (.inr (9, [.int 0, .ref k1, .null, .null, .null, .int 0, .int 0, .int 0, .int 0, .int 0, .int 0, .null, .int 0, .int 0, .int 0, .int 0, .int 0, .int 0, .int 0, .int 0, .int 0, .int 0, .int 0, .int 0, .null, .null, .null, .int 0, .null, .int 0]))) k2 (aI G 311 z0)) q (.inr (9, [.int 0, .ref k1, .ref k2, .ref k1, .null, .int 0, .int 0, .int 0, .int 0, .int 0, .int 0, .null, .int 0, .int 0, .int 0, .int 0, .int 0, .int 0, .int 0, .int 0, .int 0, .int 0, .int 0, .int 0, .null, .null, .null, .int 0, .null, .int 0]))) k3 (aI G 311 z0)) q (.inr (9, [.int 0, .ref k1, .ref k2, .ref k1, .ref k3, .int 0, .int 0, .int 0, .int 0, .int 0, .int 0, .null, .int 0, .int 0, .int 0, .int 0, .int 0, .int 0, .int 0, .int 0, .int 0, .int 0, .int 0, .int 0, .null, .null, .null, .int 0, .null, .int 0]))) k4 (aB G 400 z0)) q (.inr (9, [.int 0, .ref k1, .ref k2, .ref k1, .ref k3, .int 0, .int 0, .int 0, .int 0, .int 0, .int 0, .ref k4, .int 0, .int 0, .int 0, .int 0, .int 0, .int 0, .int 0, .int (-1), .int 0, .int 0, .int 0, .int 0, .null, .null, .null, .int 0, .null, .int 0]))) k5 (aI G 622 z0)) q (.inr (9, [.int 0, .ref k1, .ref k2, .ref k1, .ref k3, .int 0, .int 0, .int 0, .int 0, .int 0, .int 0, .ref k4, .int 0, .int 0, .int 0, .int 0, .int 0, .int 0, .int 0, .int (-1), .int 0, .int 0, .int 0, .int 0, .ref k5, .null, .null, .int 0, .null, .int 0]))) k6 (aZ G 2 z0)) q (.inr (9, [.int 0, .ref k1, .ref k2, .ref k1, .ref k3, .int 0, .int 0, .int 0, .int 0, .int 0, .int 0, .ref k4, .int 0, .int 0, .int 0, .int 0, .int 0, .int 0, .int 0, .int (-1), .int 0, .int 0, .int 0, .int 0, .ref k5, .ref k6, .null, .int 0, .null, .int 0]))) k7 (aI G 1866 z0)) q (.inr (9, [.int 0, .ref k1, .ref k2, .ref k1, .ref k3, .int 0, .int 0, .int 0, .int 0, .int 0, .int 0, .ref k4, .int 0, .int 0, .int 0, .int 0, .int 0, .int 0, .int 0, .int (-1), .int 0, .int 0, .int 0, .int 0, .ref k5, .ref k6, .ref k7, .int 0, .null, .int 0]))) k8 (aB G 300 z0)) q (.inr (9, [.int 0, .ref k1, .ref k2, .ref k1, .ref k3, .int 0, .int 0, .int 0, .int 0, .int 0, .int 0, .ref k4, .int 0, .int 0, .int 0, .int 0, .int 0, .int 0, .int 0, .int (-1), .int 0, .int 0, .int 0, .int 0, .ref k5, .ref k6, .ref k7, .int 0, .ref k8, .int 0]))) x = f x := fun x hx hn => by
    have x_k1 : x ≠ k1 := fun h => hk1 (by rw [← h]; simp [hx])
    have x_k2 : x ≠ k2 := fun h => hk2 (by rw [← h]; simp [hx])
    have x_k3 : x ≠ k3 := fun h => hk3 (by rw [← h]; simp [hx])
    have x_k4 : x ≠ k4 := fun h => hk4 (by rw [← h]; simp [hx])
    have x_k5 : x ≠ k5 := fun h => hk5 (by rw [← h]; simp [hx])
    have x_k6 : x ≠ k6 := fun h => hk6 (by rw [← h]; simp [hx])
    have x_k7 : x ≠ k7 := fun h => hk7 (by rw [← h]; simp [hx])
    have x_k8 : x ≠ k8 := fun h => hk8 (by rw [← h]; simp [hx])
    simp only [va_up, if_neg hn, if_neg x_k1, if_neg x_k2, if_neg x_k3, if_neg x_k4, if_neg x_k5, if_neg x_k6, if_neg x_k7, if_neg x_k8]
  obtain ⟨hL, hext⟩ := start105 (c := c9m) hnd hlen hq hcl hk1 hk2 hk3 hk4 hk5 hk6 hk7 hk8 hold9 (up_s) ((up_n (Ne.symm n_q_k1) (up_n n_k1_k8 (up_n (Ne.symm n_q_k1) (up_n n_k1_k7 (up_n (Ne.symm n_q_k1) (up_n n_k1_k6 (up_n (Ne.symm n_q_k1) (up_n n_k1_k5 (up_n (Ne.symm n_q_k1) (up_n n_k1_k4 (up_n (Ne.symm n_q_k1) (up_n n_k1_k3 (up_n (Ne.symm n_q_k1) (up_n n_k1_k2 (up_n (Ne.symm n_q_k1) up_s)))))))))))))))) ((up_n (Ne.symm n_q_k2) (up_n n_k2_k8 (up_n (Ne.symm n_q_k2) (up_n n_k2_k7 (up_n (Ne.symm n_q_k2) (up_n n_k2_k6 (up_n (Ne.symm n_q_k2) (up_n n_k2_k5 (up_n (Ne.symm n_q_k2) (up_n n_k2_k4 (up_n (Ne.symm n_q_k2) (up_n n_k2_k3 (up_n (Ne.symm n_q_k2) up_s)))))))))))))) ((up_n (Ne.symm n_q_k3) (up_n n_k3_k8 (up_n (Ne.symm n_q_k3) (up_n n_k3_k7 (up_n (Ne.symm n_q_k3) (up_n n_k3_k6 (up_n (Ne.symm n_q_k3) (up_n n_k3_k5 (up_n (Ne.symm n_q_k3) (up_n n_k3_k4 (up_n (Ne.symm n_q_k3) up_s)))))))))))) ((up_n (Ne.symm n_q_k4) (up_n n_k4_k8 (up_n (Ne.symm n_q_k4) (up_n n_k4_k7 (up_n (Ne.symm n_q_k4) (up_n n_k4_k6 (up_n (Ne.symm n_q_k4) (up_n n_k4_k5 (up_n (Ne.symm n_q_k4) up_s)))))))))) ((up_n (Ne.symm n_q_k5) (up_n n_k5_k8 (up_n (Ne.symm n_q_k5) (up_n n_k5_k7 (up_n (Ne.symm n_q_k5) (up_n n_k5_k6 (up_n (Ne.symm n_q_k5) up_s)))))))) ((up_n (Ne.symm n_q_k6) (up_n n_k6_k8 (up_n (Ne.symm n_q_k6) (up_n n_k6_k7 (up_n (Ne.symm n_q_k6) up_s)))))) ((up_n (Ne.symm n_q_k7) (up_n n_k7_k8 (up_n (Ne.symm n_q_k7) up_s)))) ((up_n (Ne.symm n_q_k8) up_s))
  refine J.ext hext ?_
  have e96 : q = ad ((((((((L ++ [k1]) ++ [k2]) ++ [k3]) ++ [k4]) ++ [k5]) ++ [k6]) ++ [k7]) ++ [k8]) 96 := by
    have eL : ((((((((L ++ [k1]) ++ [k2]) ++ [k3]) ++ [k4]) ++ [k5]) ++ [k6]) ++ [k7]) ++ [k8]) = L ++ [k1, k2, k3, k4, k5, k6, k7, k8] := by simp only [List.append_assoc, List.cons_append, List.nil_append]
    rw [eL, ad_app (by omega), hq]
  rw [e96]
  refine j_aload_n X (i := 0) dX9_init_87 rfl rfl ?_
  obtain ⟨b2, h1, hR⟩ := bP_inv hR
  refine j_callV0 X 9 (m_X9_layPlain hl hL h1) ml_X9_50 im_yX9_layPlain se_yX9_layPlain in_X9 cd_yX9_layPlain hy_yX9_layPlain dX9_init_88 rfl (ad_mem hL (by decide)) (FW9 hL) ⟨(by decide), (by decide)⟩ ⟨(by decide), (by decide)⟩ (Nat.le_of_ble_eq_true rfl) (fun _ h => h.elim) (fun r9 L9 f9 h9 => ?_)
  obtain ⟨h91, h92, h93⟩ := h9
  subst r9
  subst f9
  subst L9
  dsimp only [Option.toList, List.cons_append, List.nil_append, List.append]
  refine j_aload_n X (i := 0) dX9_init_91 rfl rfl ?_
  refine j_getf X 9 3 rfl cw_X9 fl_X9_24 (by decide) dX9_init_92 (ad_mem hL (by decide)) (FW9 hL) rfl ?_
  refine j_iconst X (2) dX9_init_95 (by decide) ?_
  refine j_iconst X (1) dX9_init_96 (by decide) ?_
  obtain ⟨b4, h5, hR⟩ := bT_inv hR
  refine trow_iast X hL (by unfold vp_in; decide) h5 dX9_init_97 ?_
  refine j_aload_n X (i := 0) dX9_init_98 rfl rfl ?_
  refine j_getf X 9 3 rfl cw_X9 fl_X9_24 (by decide) dX9_init_99 (ad_mem hL (by decide)) (FW9 hL) rfl ?_
  refine j_bipush X (13) dX9_init_102 (by decide) ?_
  refine j_sipush X (3000) dX9_init_104 (by decide) ?_
  obtain ⟨b6, h7, hR⟩ := bT_inv hR
  refine trow_iast X hL (by unfold vp_in; decide) h7 dX9_init_107 ?_
  refine j_aload_n X (i := 0) dX9_init_108 rfl rfl ?_
  refine j_iconst X (0) dX9_init_109 (by decide) ?_
  refine j_iconst X (0) dX9_init_110 (by decide) ?_
  refine j_sipush X (3000) dX9_init_111 (by decide) ?_
  obtain ⟨b9, h8, hR⟩ := bP_inv hR
  refine j_callV3 X 9 (m_X9_put hl hL h8) ml_X9_53 im_yX9_put se_yX9_put in_X9 cd_yX9_put hy_yX9_put dX9_init_114 rfl (ad_mem hL (by decide)) (FW9 hL) ⟨(by decide), (by decide)⟩ ⟨(by decide), (by decide)⟩ (Nat.le_of_ble_eq_true rfl) (fun _ h => h.elim) (fun r9 L9 f9 h9 => ?_)
  obtain ⟨h91, h92, h93⟩ := h9
  subst r9
  subst f9
  subst L9
  dsimp only [Option.toList, List.cons_append, List.nil_append, List.append]
  refine j_aload_n X (i := 0) dX9_init_117 rfl rfl ?_
  refine j_iconst X (1) dX9_init_118 (by decide) ?_
  refine j_iconst X (0) dX9_init_119 (by decide) ?_
  refine j_sipush X (3000) dX9_init_120 (by decide) ?_
  obtain ⟨b12, h11, hR⟩ := bP_inv hR
  refine j_callV3 X 9 (m_X9_put hl hL h11) ml_X9_53 im_yX9_put se_yX9_put in_X9 cd_yX9_put hy_yX9_put dX9_init_123 rfl (ad_mem hL (by decide)) (FW9 hL) ⟨(by decide), (by decide)⟩ ⟨(by decide), (by decide)⟩ (Nat.le_of_ble_eq_true rfl) (fun _ h => h.elim) (fun r9 L9 f9 h9 => ?_)
  obtain ⟨h91, h92, h93⟩ := h9
  subst r9
  subst f9
  subst L9
  dsimp only [Option.toList, List.cons_append, List.nil_append, List.append]
  exact q_vret X hQ dX9_init_126 rfl ⟨(by decide), (by decide)⟩ ⟨rfl, k1, k2, k3, k4, k5, k6, k7, k8, hk1, hk2, hk3, hk4, hk5, hk6, hk7, hk8, rfl, hL, congrArg (fun z => FW G ((((((((L ++ [k1]) ++ [k2]) ++ [k3]) ++ [k4]) ++ [k5]) ++ [k6]) ++ [k7]) ++ [k8]) a0 z c9m) (Option.some.inj hR)⟩
