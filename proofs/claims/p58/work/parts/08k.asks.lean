theorem i10 : ((1 : Int32) = 0) = False := eq_false (by decide)
theorem i20 : ((2 : Int32) = 0) = False := eq_false (by decide)
theorem i30 : ((3 : Int32) = 0) = False := eq_false (by decide)
theorem i01 : ((0 : Int32) = 1) = False := eq_false (by decide)
theorem c_ttf {a : Mem} {k : Nat} (h1 : 0 ≤ (sI a k 2).toInt) (h2 : (sI a k 2).toInt < 5) : f_X5_ticksToFall k 9 a = if sI a k 8 = 0 then TFI (rI a 9) (a 9 3) (sI a k) else 0 := by
  unfold f_X5_ticksToFall f_X5_ticksToFall_33
  rw [b_T, b_T, b_T, c_free h1 h2, c_end (p := a k 2) h1 h2]
  have e8 : sI a k 8 = nb (a k 9) := rfl
  rw [e8]
  by_cases h8 : nb (a k 9) = 0
  · rw [if_pos h8, if_pos h8]
    unfold TFI
    have e2 : sI a k 2 = a k 2 := rfl
    rw [e2]
    by_cases hr : rn (rI a 9) (a k 2) 0 = 0
    · rw [if_pos hr, if_pos hr, if_neg (by decide)]
      rfl
    · rw [if_neg hr, if_neg hr, if_pos rfl]
      rfl
  · rw [if_neg h8, if_neg h8]
theorem r_dly {N : Nat} {s : Int32} {b : Mem} (h : b 0 3 = 0) (hs : s = 0 ∨ s = 1) (hp1 : 0 ≤ (sl (b 1) (oS s) 2).toInt) (hp2 : (sl (b 1) (oS s) 2).toInt < 5) : f_X9_delayOf N s b = some (FREE (rl (b 1)) (sl (b 1) (oS s))) := by
  unfold f_X9_delayOf
  rw [r_its h hs hp1 hp2 (by decide) (by decide), b_P, r_of h hs (by decide) (by decide), b_P]
  rfl
theorem r_rfor {N : Nat} {s : Int32} {b : Mem} (h : b 0 3 = 0) (hs : s = 0 ∨ s = 1) (hp1 : 0 ≤ (sl (b 1) (oS s) 2).toInt) (hp2 : (sl (b 1) (oS s) 2).toInt < 5) : f_X9_runsFor N s b = some (TFI (rl (b 1)) (b 1 4) (sl (b 1) (oS s))) := by
  have key : ∀ x, f_X9_runsFor_26 N s b x = some (FREE (rl (b 1)) (sl (b 1) (oS s)) + sl (b 1) (oS s) 0 + x) := by
    intro x
    unfold f_X9_runsFor_26
    rw [r_dly h hs hp1 hp2, b_P, r_of h hs (by decide) (by decide), b_P]
    rfl
  unfold f_X9_runsFor TFI
  rw [r_its h hs hp1 hp2 (by decide) (by decide), b_P, key, r_of h hs (by decide) (by decide), b_P, key, h]
  show (if rn (rl (b 1)) (sl (b 1) (oS s) 2) 0 = 0 then _ else _) = _
  by_cases hr : rn (rl (b 1)) (sl (b 1) (oS s) 2) 0 = 0
  · rw [if_pos hr, if_pos hr]
    rfl
  · rw [if_neg hr, if_neg hr]
theorem VR_5 {R : Nat → Int32} {pr et : Int32} (h : VR R pr et) : pr.toInt ≤ 5 := h.2.1
theorem ag_flagIn {t : Int} {N : Nat} {a b c : Mem} {p : Int32} (h : REL t a b) : AGR t (f_L_flagIn p a c) (f_X9_flagIn N p b) := by
  unfold f_L_flagIn f_X8_flagIn f_X9_flagIn
  simp only [b_T, k_side, q_side, pass1, Nat.reduceAdd]
  by_cases hp : p = 0 ∨ p = 1
  · simp only [hp, reduceIte, eq_self, i10, bXc_0, b_T2]
    obtain ⟨hr, h00⟩ := @REL_t t a b 0 h
    generalize up2 b 0 0 0 = b0 at hr h00 ⊢
    obtain ⟨k, hk, hk2, hS, hV⟩ := REL_side hr hp
    obtain ⟨h03, hR, hpr, het, hVR⟩ := REL_rules hr
    have h5 := VR_5 hVR
    obtain ⟨v0, v2, v3, v4, v5, v6, v7, v8, -⟩ := hV
    have hb : ∀ x : Int32, AGR t (some (0, a, upR c 0 (upd (c 0) 0 x))) (some (x, b0)) := fun x => ag_ok rfl rfl hr h00
    rw [hk, r_fl h03 hp, b_P, r_rfor h03 hp v2.1 (by omega), b_P, c_ttf (by rw [hS]; exact v2.1) (by rw [hS]; omega), hS, hR, het]
    rcases v8 with h8 | h8
    · rw [if_pos h8, h8, if_pos (by decide)]
      exact hb _
    · rw [if_neg (by rw [h8]; decide), if_pos h8, if_neg (by decide)]
      exact hb _
  · simp only [hp, reduceIte, eq_self, i10, bXc_3, b_T2]
    exact ag_er rfl rfl h (by decide)
theorem ag_delayLeft {t : Int} {N : Nat} {a b c : Mem} {p : Int32} (h : REL t a b) : AGR t (f_L_delayLeft p a c) (f_X9_delayLeft N p b) := by
  unfold f_L_delayLeft f_X8_delayLeft f_X9_delayLeft
  simp only [b_T, k_side, q_side, pass1, Nat.reduceAdd]
  by_cases hp : p = 0 ∨ p = 1
  · simp only [hp, reduceIte, eq_self, i10, bXc_0, b_T2]
    obtain ⟨hr, h00⟩ := @REL_t t a b 0 h
    generalize up2 b 0 0 0 = b0 at hr h00 ⊢
    obtain ⟨k, hk, hk2, hS, hV⟩ := REL_side hr hp
    obtain ⟨h03, hR, hpr, het, hVR⟩ := REL_rules hr
    have h5 := VR_5 hVR
    obtain ⟨v0, v2, v3, v4, v5, v6, v7, v8, -⟩ := hV
    rw [hk, r_dly h03 hp v2.1 (by omega), b_P, c_free (by rw [hS]; exact v2.1) (by rw [hS]; omega), hS, hR]
    exact ag_ok rfl rfl hr h00
  · simp only [hp, reduceIte, eq_self, i10, bXc_3, b_T2]
    exact ag_er rfl rfl h (by decide)
theorem z_sec {x : Int32} (h1 : 0 ≤ x.toInt) (h2 : x.toInt ≤ 2147483000) : (if (x - x / (10 : Int32) * (10 : Int32)) ≤ 0 then x / (10 : Int32) + (0 : Int32) else x / (10 : Int32) + (1 : Int32)) = (x + (9 : Int32)) / (10 : Int32) ∧ ((x + (9 : Int32)) / (10 : Int32)).toInt = (x.toInt + 9) / 10 := by
  have e10 : (10 : Int32).toInt = 10 := rfl
  have e9 : (9 : Int32).toInt = 9 := rfl
  have e1 : (1 : Int32).toInt = 1 := rfl
  have e0 : (0 : Int32).toInt = 0 := rfl
  have d1 : (x / (10 : Int32)).toInt = x.toInt / 10 := by rw [z_div h1 (by decide), e10]
  have m1 : (x / (10 : Int32) * (10 : Int32)).toInt = x.toInt / 10 * 10 := by rw [z_mul (by rw [d1, e10]; omega) (by rw [d1, e10]; omega), d1, e10]
  have s1 : (x - x / (10 : Int32) * (10 : Int32)).toInt = x.toInt - x.toInt / 10 * 10 := by rw [z_sub (by rw [m1]; omega) (by rw [m1]; omega), m1]
  have a9 : (x + (9 : Int32)).toInt = x.toInt + 9 := by rw [z_add (by rw [e9]; omega) (by rw [e9]; omega), e9]
  have d2 : ((x + (9 : Int32)) / (10 : Int32)).toInt = (x.toInt + 9) / 10 := by rw [z_div (by rw [a9]; omega) (by decide), a9, e10]
  refine ⟨?_, d2⟩
  by_cases hc : (x - x / (10 : Int32) * (10 : Int32)) ≤ 0
  · rw [if_pos hc, Int32.add_zero, z_eq, d1, d2]
    have := z_le.1 hc
    rw [s1, e0] at this
    omega
  · rw [if_neg hc, z_eq, d2, z_add (by rw [d1, e1]; omega) (by rw [d1, e1]; omega), d1, e1]
    have := z_nle hc
    rw [s1, e0] at this
    omega
theorem ag_shown {t : Int} {N : Nat} {a b c : Mem} {p : Int32} (ht : t ≤ 512) (h : REL t a b) : AGR t (f_L_shown p a c) (f_X9_shown N p b) := by
  unfold f_L_shown f_X8_shown f_X9_shown
  simp only [b_T, k_side, q_side, pass1, Nat.reduceAdd]
  by_cases hp : p = 0 ∨ p = 1
  · simp only [hp, reduceIte, eq_self, i10, bXc_0, b_T2]
    obtain ⟨hr, h00⟩ := @REL_t t a b 0 h
    generalize up2 b 0 0 0 = b0 at hr h00 ⊢
    obtain ⟨k, hk, hk2, hS, hV⟩ := REL_side hr hp
    obtain ⟨h03, hR, hpr, het, hVR⟩ := REL_rules hr
    obtain ⟨v0, -⟩ := hV
    have e1 : a k 1 = sl (b0 1) (oS p) 0 := by
      have : sI a k 0 = sl (b0 1) (oS p) 0 := by rw [hS]
      exact this
    unfold f_X9_secondsOf f_X5_secondsLeft
    rw [hk, r_of h03 hp (by decide) (by decide), b_P, b_P, e1, (z_sec v0.1 (by omega)).1]
    exact ag_ok rfl rfl hr h00
  · simp only [hp, reduceIte, eq_self, i10, bXc_3, b_T2]
    exact ag_er rfl rfl h (by decide)
theorem ag_finished {t : Int} {N : Nat} {a b c : Mem} {p : Int32} (h : REL t a b) : AGR t (f_L_finished p a c) (f_X9_finished N p b) := by
  unfold f_L_finished f_X8_finished f_X9_finished
  simp only [b_T, k_side, q_side, pass1, Nat.reduceAdd]
  by_cases hp : p = 0 ∨ p = 1
  · simp only [hp, reduceIte, eq_self, i10, bXc_0, b_T2]
    obtain ⟨hr, h00⟩ := @REL_t t a b 0 h
    generalize up2 b 0 0 0 = b0 at hr h00 ⊢
    obtain ⟨k, hk, hk2, hS, hV⟩ := REL_side hr hp
    obtain ⟨h03, -⟩ := REL_rules hr
    have e1 : a k 12 = sl (b0 1) (oS p) 11 := by
      have : sI a k 11 = sl (b0 1) (oS p) 11 := by rw [hS]
      exact this
    rw [hk, r_of h03 hp (by decide) (by decide), b_P, e1]
    exact ag_ok rfl rfl hr h00
  · simp only [hp, reduceIte, eq_self, i10, bXc_3, b_T2]
    exact ag_er rfl rfl h (by decide)
theorem ag_spent {t : Int} {N : Nat} {a b c : Mem} {p q : Int32} (h : REL t a b) : AGR t (f_L_spent p q a c) (f_X9_spent N p q b) := by
  obtain ⟨h03, hR, hpr, het, hVR⟩ := REL_rules h
  unfold f_L_spent f_X8_spent f_X9_spent f_X9_spent_20 f_X9_spent_21
  simp only [b_T, k_side, k_per, q_side, pass1, hpr, q_per hVR.1 hVR.2.1, b_P, Nat.reduceAdd]
  by_cases hp : p = 0 ∨ p = 1
  · simp only [hp, reduceIte, eq_self, i10, bXc_0]
    by_cases hq : 0 ≤ q.toInt ∧ q.toInt < (b 1 2).toInt
    · simp only [hq, and_self, reduceIte, eq_self, i10, bXc_0, b_T2]
      obtain ⟨hr, h00⟩ := @REL_t t a b 0 h
      have hqq : q.toInt < 5 := by have := hVR.2.1; omega
      generalize up2 b 0 0 0 = b0 at hr h00 ⊢
      obtain ⟨k, hk, hk2, hS, hV⟩ := REL_side hr hp
      obtain ⟨h03, -⟩ := REL_rules hr
      have e12 : (12 : Int32).toInt = 12 := rfl
      have hw : ((12 : Int32) + q).toInt = 12 + q.toInt := by rw [z_add (by rw [e12]; omega) (by rw [e12]; omega), e12]
      have hwn : ((12 : Int32) + q).toNatClampNeg = q.toNatClampNeg + 12 := by rw [z_tn, z_tn, hw]; omega
      rw [hk, r_of h03 hp (by rw [hw]; omega) (by rw [hw]; omega), b_P, hwn, z_at hq.1 (by omega), ← hS, sI_rs (by rw [z_tn]; omega)]
      exact ag_ok rfl rfl hr h00
    · simp only [hq, reduceIte, eq_self, i10, bXc_3, b_T2]
      exact ag_er rfl rfl h (by decide)
  · simp only [hp, reduceIte, eq_self, i10, bXc_3, b_T2]
    exact ag_er rfl rfl h (by decide)
theorem ag_period {t : Int} {N : Nat} {a b c : Mem} {p q : Int32} (h : REL t a b) : AGR t (f_L_period p q a c) (f_X9_period N p q b) := by
  obtain ⟨h03, hR, hpr, het, hVR⟩ := REL_rules h
  unfold f_L_period f_X8_period f_X9_period
  have e0 : (0 : Int64).toInt = 0 := rfl
  have e4 : (4 : Int64).toInt = 4 := rfl
  have e5 : (5 : Int32).toInt = 5 := rfl
  have f0 : (0 : Int32).toInt = 0 := rfl
  simp only [b_T, k_per, hpr, q_per hVR.1 hVR.2.1, b_P, q_in, Int32.toInt_toInt64, e0, e4, pass2, Nat.reduceAdd]
  by_cases hp : 0 ≤ p.toInt ∧ p.toInt < (b 1 2).toInt
  · simp only [hp, and_self, reduceIte, eq_self, i10, bXc_0]
    by_cases hq : 0 ≤ q.toInt ∧ q.toInt ≤ 4
    · simp only [hq, and_self, reduceIte, eq_self, i10, b_T2]
      rw [if_neg (by rw [z_lt, f0]; omega), if_pos (by rw [z_lt, e5]; omega)]
      obtain ⟨hr, h00⟩ := @REL_t t a b 0 h
      have h55 := hVR.2.1
      have hb1 : (up2 b 0 0 0) 1 = b 1 := p2_n (by omega)
      generalize up2 b 0 0 0 = b0 at hr h00 hb1 ⊢
      obtain ⟨h03, -⟩ := REL_rules hr
      rw [r_ofP h03 hp.1 (by omega) hq.1 (by omega), b_P, c_num hp.1 (by omega) hq.1 (by omega), hR, hb1]
      exact ag_ok rfl rfl hr h00
    · simp only [hq, reduceIte, eq_self, i10, b_T2]
      by_cases hq1 : q < 0
      · rw [if_pos hq1]
        exact ag_er rfl rfl h (by decide)
      · have h1 := z_nlt hq1
        rw [if_neg hq1, if_neg (by rw [z_lt, e5]; omega)]
        exact ag_er rfl rfl h (by decide)
  · simp only [hp, reduceIte, eq_self, i10, bXc_3, b_T2]
    exact ag_er rfl rfl h (by decide)
theorem z_12 {p : Int32} (h : 0 ≤ p.toInt ∧ p.toInt ≤ 11) : p = 0 ∨ p = 1 ∨ p = 2 ∨ p = 3 ∨ p = 4 ∨ p = 5 ∨ p = 6 ∨ p = 7 ∨ p = 8 ∨ p = 9 ∨ p = 10 ∨ p = 11 := by
  have e0 : (0 : Int32).toInt = 0 := rfl
  have e1 : (1 : Int32).toInt = 1 := rfl
  have e2 : (2 : Int32).toInt = 2 := rfl
  have e3 : (3 : Int32).toInt = 3 := rfl
  have e4 : (4 : Int32).toInt = 4 := rfl
  have e5 : (5 : Int32).toInt = 5 := rfl
  have e6 : (6 : Int32).toInt = 6 := rfl
  have e7 : (7 : Int32).toInt = 7 := rfl
  have e8 : (8 : Int32).toInt = 8 := rfl
  have e9 : (9 : Int32).toInt = 9 := rfl
  have e10 : (10 : Int32).toInt = 10 := rfl
  have e11 : (11 : Int32).toInt = 11 := rfl
  simp only [z_eq, e0, e1, e2, e3, e4, e5, e6, e7, e8, e9, e10, e11]
  omega
theorem z_n12 {p : Int32} (h : ¬ (0 ≤ p.toInt ∧ p.toInt ≤ 11)) : p ≠ 0 ∧ p ≠ 1 ∧ p ≠ 2 ∧ p ≠ 3 ∧ p ≠ 4 ∧ p ≠ 5 ∧ p ≠ 6 ∧ p ≠ 7 ∧ p ≠ 8 ∧ p ≠ 9 ∧ p ≠ 10 ∧ p ≠ 11 := by
  refine ⟨?_, ?_, ?_, ?_, ?_, ?_, ?_, ?_, ?_, ?_, ?_, ?_⟩ <;> (intro h9; subst h9; exact h (by decide))
theorem ag_property {t : Int} {N : Nat} {a b c : Mem} {p : Int32} (h : REL t a b) : AGR t (f_L_property p a c) (f_X9_property N p b) := by
  have e0 : (0 : Int64).toInt = 0 := rfl
  have e11 : (11 : Int64).toInt = 11 := rfl
  unfold f_L_property f_X9_property
  simp only [b_T, q_in, Int32.toInt_toInt64, e0, e11, pass1]
  by_cases hp : 0 ≤ p.toInt ∧ p.toInt ≤ 11
  · simp only [hp, and_self, reduceIte, eq_self, i10, b_T2]
    obtain ⟨hr, h00⟩ := @REL_t t a b 0 h
    generalize up2 b 0 0 0 = b0 at hr h00 ⊢
    have hr1 := hr
    obtain ⟨h03, ⟨w, ⟨h0, h1, h2, h3, h4, h5, h6, h7, h9, h10, h11, hR⟩, s1, s2, mm, lg⟩, hv, -⟩ := hr1
    have fin : ∀ x y : Int32, x = y → AGR t (some (0, a, upR c 0 (upd (c 0) 0 x))) (some (y, b0)) := fun x y hxy => ag_ok rfl (by rw [hxy]) hr h00
    rcases z_12 hp with rfl | rfl | rfl | rfl | rfl | rfl | rfl | rfl | rfl | rfl | rfl | rfl
    · exact fin _ _ h0
    · show AGR t _ (bP (f_X9_mover N b0) fun x12 => some (x12, b0))
      rw [r_mv h03]
      exact fin _ _ h1
    · exact fin _ _ h2
    · exact fin _ _ h3
    · exact fin _ _ h4
    · exact fin _ _ h5
    · exact fin _ _ h6
    · exact fin _ _ h7
    · exact fin _ _ mm
    · exact fin _ _ h9
    · have e : f_X8_property 10 a = some (.ok (nb (a 8 4))) := by
        show (if nb (a 8 4) = 0 then some (.ok (0 : Int32)) else some (.ok (1 : Int32))) = (some (.ok (nb (a 8 4))) : Option (Except Nat Int32))
        unfold nb
        by_cases h44 : a 8 4 = 0
        · rw [if_pos h44]; rfl
        · rw [if_neg h44]; rfl
      rw [e]
      exact fin _ _ h10
    · exact fin _ _ h11
  · obtain ⟨n0, n1, n2, n3, n4, n5, n6, n7, n8, n9, n10, n11⟩ := z_n12 hp
    unfold f_X8_property
    simp only [hp, reduceIte, eq_self, i10, b_T2]
    rw [if_neg n0, if_neg n1, if_neg n2, if_neg n3, if_neg n4, if_neg n5, if_neg n6, if_neg n7, if_neg n8, if_neg n9, if_neg n10, if_neg n11]
    exact ag_er rfl rfl h (by decide)

