theorem nI_p1 {c : Nat} (h0 : 1 ≤ c) (h : c < 100) : nI c - (1 : Int32) = nI (c - 1) ∧ mxI (0 : Int32) (nI c - (1 : Int32)) = nI (c - 1) := by
  have e1 : (1 : Int32).toInt = 1 := rfl
  have e0 : (0 : Int32).toInt = 0 := rfl
  have g1 : (nI c - (1 : Int32)).toInt = c - 1 := by rw [z_sub (by rw [z_nI (by omega), e1]; omega) (by rw [z_nI (by omega), e1]; omega), z_nI (by omega), e1]
  refine ⟨?_, ?_⟩
  · rw [z_eq, g1, z_nI (by omega)]
    omega
  · rw [z_eq, z_mx, g1, z_nI (by omega), e0]
    omega
theorem s_period {N n e c : Nat} {a b : Mem} (hN : 402 ≤ N) (hg : a 1 5 = 0) (hw : f_X3_isWord N 0 a = some 1) (h : PSz n e c a b) : ∃ (e1 : Nat) (a1 b1 : Mem), f_X3_readPeriod N a = some a1 ∧ f_X9_parsePeriod N b = some b1 ∧ PSz n e1 (c + 1) a1 b1 ∧ FRC a a1 ∧ FRR b b1 ∧ (a1 1 5 = 0 → (a1 1 7 = 0 ∨ e + 1 ≤ e1)) := by
  obtain ⟨g, h3, hd⟩ := h
  obtain ⟨d1, d2, d3, d4, d5, d6, d7, d8, d9, d10⟩ := hd hg
  obtain ⟨c5, c41, c22⟩ := d1
  have k2 : (2 : Int32).toNatClampNeg = 2 := rfl
  have n10 : ¬ (1 : Int32) = 0 := by decide
  obtain ⟨aE, bE, q, r1, r2, r3, r4, r5, r6, r7⟩ : ∃ (aE bE : Mem) (q : Int32), f_X3_readPeriod N a = f_X3_readPeriod_43 N (nI c) aE ∧ f_X9_parsePeriod N b = f_X9_parsePeriod_47 N (nI c) bE q ∧ PGz n e aE bE ∧ FE a aE ∧ FGz b bE ∧ f_X9_errsIf q 4 bE = bE ∧ (aE 1 5 = 0 → aE = a ∧ bE = b ∧ c < 5) := by
    unfold f_X3_readPeriod f_X9_parsePeriod
    simp only [b_T]
    rw [row2 h3, k2, c22, c41]
    by_cases h5 : c = 5
    · subst h5
      obtain ⟨f1, f2, f3, f4⟩ := @p_fail n e 3 a b (by decide) g
      have hb5 : f_X9_errs 3 b 0 18 ≠ 0 := by rw [← f1.2.1]; exact f4
      have e1 : f_X9_errsIf 1 3 b = f_X9_errs 3 b := ((@p_fi n e 3 1 a b (by decide) g).2 n10).1
      have e2 : ∀ q : Int32, f_X9_errsIf q 4 (f_X9_errs 3 b) = f_X9_errs 3 b := by
        intro q
        obtain ⟨z1, z2⟩ := @p_fi n e 4 q _ _ (by decide) f1
        by_cases hq : q = 0
        · exact (z1 hq).2
        · rw [(z2 hq).1, errs_b hb5]
      have hb3 : f_X9_errs 3 b 0 3 = 1 := by rw [f3.2 3 (by omega)]; exact h3
      rw [if_neg (show ¬ nI 5 < (5 : Int32) by decide), if_pos (show nI 5 = (5 : Int32) from rfl)]
      unfold f_X9_parsePeriod_18 f_X9_parsePeriod_46
      rw [e1, b_T, if_neg (show ¬ nI 5 ≤ (0 : Int32) by decide), (nI_p1 (c := 5) (by omega) (by omega)).2]
      have ho : f_X9_ofPeriod N (nI (5 - 1)) 0 (f_X9_errs 3 b) = some (f_X9_errs 3 b 2 (12 + 5 * 4 + 0)) := op2 (c := 4) (w := 0) hb3 (by omega) (by omega)
      rw [ho, b_P]
      by_cases hz : f_X9_errs 3 b 2 (12 + 5 * 4 + 0) = 0
      · rw [if_pos hz]
        exact ⟨_, _, 1, rfl, rfl, f1, f2, f3, e2 1, fun z => absurd z f4⟩
      · rw [if_neg hz]
        exact ⟨_, _, 0, rfl, rfl, f1, f2, f3, e2 0, fun z => absurd z f4⟩
    · have e5 : (5 : Int32).toInt = 5 := rfl
      have e0 : (0 : Int32).toInt = 0 := rfl
      have q3 : f_X9_errsIf 0 3 b = b := ((@p_fi n e 3 0 a b (by decide) g).1 rfl).2
      have q4 : f_X9_errsIf 0 4 b = b := ((@p_fi n e 4 0 a b (by decide) g).1 rfl).2
      rw [if_pos (show nI c < (5 : Int32) by rw [z_lt, z_nI (by omega), e5]; omega), if_neg (show ¬ nI c = (5 : Int32) by rw [z_eq, z_nI (by omega), e5]; omega)]
      unfold f_X9_parsePeriod_18 f_X9_parsePeriod_46
      rw [q3, b_T]
      by_cases hc0 : c = 0
      · subst hc0
        rw [if_pos (show nI 0 ≤ (0 : Int32) by decide), if_pos (show nI 0 ≤ (0 : Int32) by decide)]
        exact ⟨a, b, 0, rfl, rfl, g, FE_i, FG_i, q4, fun _ => ⟨rfl, rfl, by omega⟩⟩
      · have hle : ¬ nI c ≤ (0 : Int32) := by rw [z_le, z_nI (by omega), e0]; omega
        obtain ⟨k, rfl⟩ : ∃ k, c = k + 1 := ⟨c - 1, by omega⟩
        have hk1 : k + 1 - 1 = k := by omega
        have ho : f_X9_ofPeriod N (nI k) 0 b = some (b 2 (12 + 5 * k + 0)) := op2 (c := k) (w := 0) h3 (by omega) (by omega)
        have he : f_X4_isEndless 4 (nI k) a = if b 2 (12 + 5 * k + 0) = 0 then 1 else 0 := by
          rw [c_end (by rw [z_nI (by omega)]; omega) (by rw [z_nI (by omega)]; omega)]
          have : rn (rI a 4) (nI k) 0 = b 2 (12 + 5 * k + 0) := by
            unfold rn
            rw [z_tN (by omega)]
            unfold rI
            rw [if_pos (by omega)]
            exact d5 (5 * k + 0) (by omega)
          rw [this]
        rw [if_neg hle, if_neg hle, (nI_p1 (c := k + 1) (by omega) (by omega)).2, (nI_p1 (c := k + 1) (by omega) (by omega)).1, hk1, ho, b_P, he]
        by_cases hz : b 2 (12 + 5 * k + 0) = 0
        · rw [if_pos hz, if_neg n10, if_pos hz]
          obtain ⟨f1, f2, f3, f4⟩ := @p_fail n e 4 a b (by decide) g
          have hb5 : f_X9_errs 4 b 0 18 ≠ 0 := by rw [← f1.2.1]; exact f4
          have e1 : f_X9_errsIf 1 4 b = f_X9_errs 4 b := ((@p_fi n e 4 1 a b (by decide) g).2 n10).1
          have e2 : f_X9_errsIf 1 4 (f_X9_errs 4 b) = f_X9_errs 4 b := by
            rw [((@p_fi n e 4 1 _ _ (by decide) f1).2 n10).1, errs_b hb5]
          refine ⟨f_X3_fail 4 a, f_X9_errs 4 b, 1, rfl, ?_, f1, f2, f3, e2, fun z => absurd z f4⟩
          unfold f_X9_parsePeriod_47
          rw [e1, e2]
        · rw [if_neg hz, if_pos rfl, if_neg hz]
          exact ⟨a, b, 0, rfl, rfl, g, FE_i, FG_i, q4, fun _ => ⟨rfl, rfl, by omega⟩⟩
  obtain ⟨e1, a1, b1, v, u1, u2, u3, u4, u5, u6, u7⟩ := @p_43 N n e c q (nI c) aE bE hN (fun z => by rw [(r7 z).1]; exact hw) r6 (fun z => by
    obtain ⟨y1, y2, y3⟩ := r7 z
    rw [y1, y2]
    exact ⟨y3, rfl, c41, c22⟩) (by rw [r5.2 3 (by omega)]; exact h3) r3
  rw [r1, r2]
  refine ⟨e1, a1, b1, u1, u2, ⟨u3, u4, fun z => ?_⟩, FRC_t (FE_C r4) u5, FRR_t (FG_R r5) u6, fun z => (u7 z).2.1⟩
  obtain ⟨y0, -, y2, y3, y4, y5, y6, y7, w0, w1, w2, w3, w4⟩ := u7 z
  obtain ⟨z1, z2, z3⟩ := r7 y0
  subst z1
  subst z2
  have hrow : ∀ j, j < 311 → j ≠ 2 → (j < 12 + 5 * c ∨ 12 + 5 * c + 5 ≤ j) → b1 2 j = bE 2 j := fun j hj j2 jj => by rw [y6 j hj, if_neg j2, if_neg (by omega)]
  have hval : ∀ w, w < 5 → b1 2 (12 + 5 * c + w) = v w := fun w hw5 => by
    rw [y6 _ (by omega), if_neg (by omega), if_pos (by omega)]
    have : 12 + 5 * c + w - (12 + 5 * c) = w := by omega
    rw [this]
  have h22 : b1 2 2 = nI (c + 1) := by rw [y6 2 (by omega), if_pos rfl]
  unfold DR PNN at *
  rw [y4, h22, y3 2 (by omega), y3 3 (by omega), y3 4 (by omega), hrow 3 (by omega) (by omega) (by omega), hrow 4 (by omega) (by omega) (by omega), hrow 5 (by omega) (by omega) (by omega), hrow 10 (by omega) (by omega) (by omega), y2 2 (by omega), y2 3 (by omega), y2 4 (by omega), y7 20 (by omega), y7 21 (by omega), y7 22 (by omega), y7 23 (by omega)]
  refine ⟨⟨by omega, rfl, rfl⟩, d2, d3, d4, fun j hj => ?_, fun p hp => ?_, d7, d8, d9, fun j j1 j2 j3 j4 => by rw [hrow j j1 (by omega) (by omega)]; exact d10 j j1 j2 j3 j4⟩
  · rw [y5 j]
    by_cases hj2 : 5 * c ≤ j ∧ j < 5 * c + 5
    · rw [if_pos hj2, ← hval (j - 5 * c) (by omega)]
      congr 1
      omega
    · rw [if_neg hj2, hrow (12 + j) (by omega) (by omega) (by omega)]
      exact d5 j hj
  · by_cases hpc : p = c
    · subst hpc
      have v0 := hval 0 (by omega)
      have v0' : b1 2 (12 + 5 * p) = v 0 := v0
      rw [v0', hval 1 (by omega), hval 2 (by omega), hval 3 (by omega), hval 4 (by omega)]
      exact ⟨w0, w1, w2, w3, w4⟩
    · rw [hrow (12 + 5 * p) (by omega) (by omega) (by omega), hrow (12 + 5 * p + 1) (by omega) (by omega) (by omega), hrow (12 + 5 * p + 2) (by omega) (by omega) (by omega), hrow (12 + 5 * p + 3) (by omega) (by omega) (by omega), hrow (12 + 5 * p + 4) (by omega) (by omega) (by omega)]
      exact d6 p (by omega)

