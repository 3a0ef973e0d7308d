theorem r_mleft {N : Nat} {s : Int32} {b : Mem} (h : b 0 3 = 0) (hs : s = 0 ∨ s = 1) (hp1 : 0 ≤ (sl (b 1) (oS s) 2).toInt) (hp2 : (sl (b 1) (oS s) 2).toInt < 5) : f_X9_movesLeft N s b = some (if rn (rl (b 1)) (sl (b 1) (oS s) 2) 0 = 0 then -1 else rn (rl (b 1)) (sl (b 1) (oS s) 2) 0 - sl (b 1) (oS s) 3) := by
  unfold f_X9_movesLeft
  rw [r_its h hs hp1 hp2 (by decide) (by decide), b_P, b_P, r_of h hs (by decide) (by decide), b_P]
  show (if rn (rl (b 1)) (sl (b 1) (oS s) 2) 0 = 0 then _ else _) = _
  split <;> rfl
theorem ag_side {t : Int} {N : Nat} {a b c : Mem} {p q : Int32} (h : REL t a b) : AGR t (f_L_side p q a c) (f_X9_side N p q b) := by
  have e0 : (0 : Int64).toInt = 0 := rfl
  have e11 : (11 : Int64).toInt = 11 := rfl
  unfold f_L_side f_X8_side f_X9_side
  simp only [b_T, k_side, q_side, q_in, Int32.toInt_toInt64, e0, e11, pass2]
  by_cases hp : p = 0 ∨ p = 1
  · simp only [hp, reduceIte, i10, bXc_0]
    by_cases hq : 0 ≤ q.toInt ∧ q.toInt ≤ 11
    · simp only [hq, and_self, reduceIte, i10, b_T2]
      obtain ⟨hr, h00⟩ := @REL_t t a b 0 h
      generalize up2 b 0 0 0 = b0 at hr h00 ⊢
      obtain ⟨k, hk, hk2, hS, hV⟩ := REL_side hr hp
      obtain ⟨h03, hR, hpr, het, hVR⟩ := REL_rules hr
      have h5 := VR_5 hVR
      obtain ⟨v0, v2, v3, v4, v5, v6, v7, v8, v9, -⟩ := hV
      have fin : ∀ x y : Int32, x = y → AGR t (some (0, a, upR c 0 (upd (c 0) 0 x))) (some (y, b0)) := fun x y hxy => ag_ok rfl (by rw [hxy]) hr h00
      have bl : ∀ x y : Int32, nb x = y → AGR t (match (if nb x = 0 then some (.ok (0 : Int32)) else some (.ok (1 : Int32)) : Option (Except Nat Int32)) with | none => none | some (.error k) => (if k = 3 then some (1, a, c) else if k = 2 then some (2, a, c) else none) | some (.ok q) => some (0, a, upR c 0 (upd (c 0) 0 q))) (some (y, b0)) := by
        intro x y hxy
        unfold nb at hxy ⊢
        by_cases h44 : x = 0
        · simp only [if_pos h44] at hxy ⊢
          exact fin _ _ hxy
        · simp only [if_neg h44] at hxy ⊢
          exact fin _ _ hxy
      rw [hk]
      have S0 : a k 1 = sl (b0 1) (oS p) 0 := by rw [← hS]; rfl
      have S1 : a k 3 = sl (b0 1) (oS p) 1 := by rw [← hS]; rfl
      have S2 : a k 2 = sl (b0 1) (oS p) 2 := by rw [← hS]; rfl
      have S3 : a k 4 = sl (b0 1) (oS p) 3 := by rw [← hS]; rfl
      have S4 : a k 5 = sl (b0 1) (oS p) 4 := by rw [← hS]; rfl
      have S5 : nb (a k 6) = sl (b0 1) (oS p) 5 := by rw [← hS]; rfl
      have S6 : a k 7 = sl (b0 1) (oS p) 6 := by rw [← hS]; rfl
      have S7 : a k 8 = sl (b0 1) (oS p) 7 := by rw [← hS]; rfl
      have S8 : nb (a k 9) = sl (b0 1) (oS p) 8 := by rw [← hS]; rfl
      have S9 : nb (a k 10) = sl (b0 1) (oS p) 9 := by rw [← hS]; rfl
      have S10 : a k 11 = sl (b0 1) (oS p) 10 := by rw [← hS]; rfl
      have tw : ∀ (w : Int32), 0 ≤ w.toInt → w.toInt < 17 → ∀ x : Int32, x = sl (b0 1) (oS p) w.toNatClampNeg → AGR t (some (0, a, upR c 0 (upd (c 0) 0 x))) (bP (f_X9_of N p w b0) fun y => some (y, b0)) := by
        intro w w1 w2 x hx
        rw [r_of h03 hp w1 w2, b_P]
        exact fin _ _ hx
      rcases z_12 hq with rfl | rfl | rfl | rfl | rfl | rfl | rfl | rfl | rfl | rfl | rfl | rfl
      · exact tw 0 (by decide) (by decide) _ S0
      · exact tw 1 (by decide) (by decide) _ S1
      · exact tw 2 (by decide) (by decide) _ S2
      · exact tw 3 (by decide) (by decide) _ S3
      · exact tw 4 (by decide) (by decide) _ S4
      · show AGR t _ (bP (f_X9_of N p 5 b0) fun y => some (y, b0))
        rw [r_of h03 hp (by decide) (by decide), b_P]
        exact bl _ _ S5
      · exact tw 6 (by decide) (by decide) _ S6
      · exact tw 7 (by decide) (by decide) _ S7
      · show AGR t _ (bP (f_X9_of N p 8 b0) fun y => some (y, b0))
        rw [r_of h03 hp (by decide) (by decide), b_P]
        exact bl _ _ S8
      · show AGR t _ (bP (f_X9_of N p 9 b0) fun y => some (y, b0))
        rw [r_of h03 hp (by decide) (by decide), b_P]
        exact bl _ _ S9
      · exact tw 10 (by decide) (by decide) _ S10
      · show AGR t (some (0, a, upR c 0 (upd (c 0) 0 (f_X5_movesToPeriodEnd k 9 a)))) (bP (f_X9_movesLeft N p b0) fun y => some (y, b0))
        rw [r_mleft h03 hp v2.1 (by omega), b_P, c_mtp (by rw [hS]; exact v2.1) (by rw [hS]; omega), hS, hR]
        exact fin _ _ rfl
    · obtain ⟨n0, n1, n2, n3, n4, n5, n6, n7, n8, n9, n10, n11⟩ := z_n12 hq
      simp only [hq, reduceIte, eq_self, b_T2]
      rw [if_neg n0, if_neg n1, if_neg n2, if_neg n3, if_neg n4, if_neg n5, if_neg n6, if_neg n7, if_neg n8, if_neg n9, if_neg n10, if_neg n11]
      exact ag_er rfl rfl h (by decide)
  · simp only [hp, reduceIte, eq_self, bXc_3, b_T2]
    exact ag_er rfl rfl h (by decide)
theorem REL_hd {t : Int} {a b : Mem} (h : REL t a b) : WS a 8 ∧ HR a 8 (b 1) ∧ VL t (b 1) := ⟨h.2.1.1, h.2.1.2.1, h.2.2.1⟩
theorem an_ahead {t : Int} {N : Nat} {a b : Mem} (h : REL t a b) : ∃ y b', f_X9_ahead N b = some (y, b') ∧ f_X8_ahead a = y ∧ REL t a b' := by
  unfold f_X9_ahead f_X8_ahead f_X6_whiteAhead
  simp only [b_T]
  obtain ⟨hr, h00⟩ := @REL_t t a b 0 h
  generalize up2 b 0 0 0 = b0 at hr h00 ⊢
  obtain ⟨h03, -⟩ := REL_rules hr
  obtain ⟨-, ⟨-, -, s1, s2, -⟩, -⟩ := id hr
  rw [r_of h03 (Or.inl rfl) (by decide) (by decide), b_P, r_of h03 (Or.inr rfl) (by decide) (by decide), b_P]
  refine ⟨_, _, rfl, ?_, hr⟩
  have e1 : a (sdr 8 (a 8 2)) 1 = sl (b0 1) (oS 0) 0 := by rw [oS_0, ← s1]; rfl
  have e2 : a (sdr 8 (a 8 3)) 1 = sl (b0 1) (oS 1) 0 := by rw [oS_1, ← s2]; rfl
  rw [e1, e2]
  rfl
theorem c_seal {t : Int} {a b : Mem} (h : REL t a b) : f_X6_ticksToSealing 8 a = if b 1 0 = 1 then (if b 1 5 = -1 then -1 else mxI 0 (b 1 5 - b 1 6)) else -1 := by
  obtain ⟨-, ⟨h0, h1, h2, h3, h4, h5, h6, h7, h9, h10, h11, hR⟩, -⟩ := REL_hd h
  unfold f_X6_ticksToSealing
  rw [h0, h5, h6]
theorem an_sealIn {t : Int} {N : Nat} {a b : Mem} (h : REL t a b) : ∃ y b', f_X9_sealIn N b = some (y, b') ∧ f_X8_sealIn a = y ∧ REL t a b' := by
  unfold f_X9_sealIn f_X8_sealIn
  simp only [b_T]
  obtain ⟨hr, h00⟩ := @REL_t t a b 0 h
  generalize up2 b 0 0 0 = b0 at hr h00 ⊢
  obtain ⟨h03, -⟩ := REL_rules hr
  rw [r_st h03, b_P, c_seal hr]
  by_cases h1 : b0 1 0 = 1
  · rw [if_pos h1, if_pos h1, if_neg (by decide)]
    show ∃ y b', (if b0 1 5 = -1 then _ else _) = some (y, b') ∧ _
    by_cases h5 : b0 1 5 = -1
    · rw [if_pos h5]
      exact ⟨_, _, rfl, if_pos h5, hr⟩
    · rw [if_neg h5]
      exact ⟨_, _, rfl, if_neg h5, hr⟩
  · rw [if_neg h1, if_neg h1, if_pos rfl]
    exact ⟨_, _, rfl, rfl, hr⟩
theorem q_seal {t : Int} {N : Nat} {a b : Mem} (h : REL t a b) (ht : t ≤ 512) : f_X9_sealable N b = some (if f_X6_ticksToSealing 8 a = 0 then 1 else 0) := by
  have e0 : (0 : Int32).toInt = 0 := rfl
  obtain ⟨h03, -⟩ := REL_rules h
  obtain ⟨-, -, ⟨-, -, -, -, ⟨q5, q6, -⟩, -⟩⟩ := REL_hd h
  rw [c_seal h]
  unfold f_X9_sealable
  rw [r_st h03, b_P, h03]
  by_cases h1 : b 1 0 = 1
  · rw [if_pos h1, if_pos h1, if_neg (by decide)]
    show (if b 1 5 = -1 then _ else if b 1 6 < b 1 5 then _ else _) = _
    by_cases h5 : b 1 5 = -1
    · rw [if_pos h5, if_pos h5, if_neg (by decide)]
    · rw [if_neg h5, if_neg h5]
      have e : (mxI 0 (b 1 5 - b 1 6)).toInt = max 0 ((b 1 5).toInt - (b 1 6).toInt) := by rw [z_mx, z_sub (by omega) (by omega), e0]
      by_cases h6 : b 1 6 < b 1 5
      · have := z_lt.1 h6
        rw [if_pos h6, if_neg (by rw [z_eq, e, e0]; omega)]
      · have := z_nlt h6
        rw [if_neg h6, if_pos (by rw [z_eq, e, e0]; omega)]
  · rw [if_neg h1, if_neg h1, if_pos rfl, if_neg (by decide)]
theorem an_canSeal {t : Int} {N : Nat} {a b : Mem} (ht : t ≤ 512) (h : REL t a b) : ∃ y b', f_X9_canSeal N b = some (y, b') ∧ f_X8_canSeal a = y ∧ REL t a b' := by
  unfold f_X9_canSeal f_X8_canSeal
  simp only [b_T]
  obtain ⟨hr, h00⟩ := @REL_t t a b 0 h
  generalize up2 b 0 0 0 = b0 at hr h00 ⊢
  rw [q_seal hr ht, b_P]
  exact ⟨_, _, rfl, rfl, hr⟩
theorem an_overIn {t : Int} {N : Nat} {a b : Mem} (h : REL t a b) : ∃ y b', f_X9_overIn N b = some (y, b') ∧ f_X8_overIn a = y ∧ REL t a b' := by
  unfold f_X9_overIn f_X8_overIn f_X9_overIn_38 f_X9_overIn_39 f_X6_mover
  simp only [b_T, Nat.reduceAdd]
  obtain ⟨hr, h00⟩ := @REL_t t a b 0 h
  generalize up2 b 0 0 0 = b0 at hr h00 ⊢
  obtain ⟨h03, hR, hpr, het, hVR⟩ := REL_rules hr
  obtain ⟨-, ⟨h0, h1, h2, h3, h4, h5, h6, h7, h9, h10, h11, -⟩, ⟨hm, -⟩⟩ := REL_hd hr
  obtain ⟨k, hk, hk2, hS, hV⟩ := REL_side hr hm
  have h55 := VR_5 hVR
  obtain ⟨v0, v2, v3, v4, v5, v6, v7, v8, v9, -⟩ := hV
  have e8 : nb (a k 9) = sl (b0 1) (oS (b0 1 1)) 8 := by rw [← hS]; rfl
  rw [r_st h03, r_mv h03, h1, hk, h0, h10, e8, b_P, b_P, b_P, r_fl h03 hm, b_P, r_rfor h03 hm v2.1 (by omega), b_P, c_ttf (by rw [hS]; exact v2.1) (by rw [hS]; omega), hS, hR, het]
  by_cases q1 : b0 1 0 = 1
  · rw [if_pos q1, if_pos q1, if_neg (by decide)]
    show ∃ y b', (if b0 1 10 = 0 then _ else _) = some (y, b') ∧ _
    by_cases q2 : b0 1 10 = 0
    · rw [if_pos q2]
      rcases v8 with q3 | q3
      · rw [q3, if_neg (show ¬ (0 : Int32) = 1 by decide), if_pos rfl, if_neg (by decide)]
        refine ⟨_, _, rfl, ?_, hr⟩
        rw [if_pos q2, if_pos rfl, if_pos rfl]
      · rw [q3, if_pos rfl, if_neg (by decide), if_pos trivial]
        refine ⟨_, _, rfl, ?_, hr⟩
        rw [if_pos q2, if_neg (by decide)]
    · rw [if_neg q2, if_pos trivial]
      exact ⟨_, _, rfl, if_neg q2, hr⟩
  · rw [if_neg q1, if_neg q1, if_pos rfl, if_pos trivial]
    exact ⟨_, _, rfl, rfl, hr⟩
theorem an_undoCount {t : Int} {a b : Mem} (h : REL t a b) : f_X8_undoCount a = (f_X9_undoCount b).1 ∧ REL t a (f_X9_undoCount b).2 := by
  unfold f_X8_undoCount f_X9_undoCount
  simp only [b_T]
  refine ⟨?_, (REL_t h).1⟩
  obtain ⟨-, -, -, ⟨n, x, hn, hx, p1, p2, p3, -⟩, -⟩ := h
  rw [p1, p2_s, u_n (by omega), p3]
theorem an_errorCode {t : Int} {a b : Mem} (h : REL t a b) : f_X8_errorCode a = (f_X9_errorCode b).1 ∧ REL t a (f_X9_errorCode b).2 := by
  unfold f_X8_errorCode f_X9_errorCode
  simp only [b_T]
  refine ⟨?_, (REL_t h).1⟩
  rw [p2_s, u_n (by omega)]
  exact h.2.2.2.2.2.2.1.1
theorem an_errorPosition {t : Int} {a b : Mem} (h : REL t a b) : f_X8_errorPosition a = (f_X9_errorPosition b).1 ∧ REL t a (f_X9_errorPosition b).2 := by
  unfold f_X8_errorPosition f_X9_errorPosition
  simp only [b_T]
  refine ⟨?_, (REL_t h).1⟩
  rw [p2_s, u_n (by omega)]
  exact h.2.2.2.2.2.2.1.2

