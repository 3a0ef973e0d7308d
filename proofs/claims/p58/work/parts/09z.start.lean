theorem p_start {N n : Nat} {a b : Mem} (hN : 402 ≤ N) (hn : n ≤ 400) (hi : INPn n a b) : ∃ (e1 c1 : Nat) (a1 b1 : Mem), f_X3_readText N a = some (if a1 1 5 = 0 then 1 else 0, a1) ∧ f_X9_load N b = f_X9_load_100 N b1 ∧ PSz n e1 c1 a1 b1 ∧ FRC a a1 ∧ (∀ k, k ≠ 0 → k ≠ 2 → b1 k = b k) ∧ (∀ j, j ≠ 0 → j ≠ 3 → j ≠ 12 → (j < 13 ∨ 23 < j) → b1 0 j = b 0 j) ∧ b1 0 0 = 0 ∧ b1 0 12 = 0 ∧ (a1 1 5 = 0 → 1 ≤ c1) := by
  have n10 : ¬ (1 : Int32) = 0 := by decide
  obtain ⟨i1, i2, i3⟩ := hi
  obtain ⟨ck, c2, c3, c5, c6, c9, c41, c42, c43, c44, c55⟩ := @clr a
  obtain ⟨l3, l21, l20, l19, l18, l14, l12, l13, l0⟩ := @ldi_s b
  have lk : ∀ k, k ≠ 0 → LDI b k = b k := fun k z => ldi_k z
  have lj : ∀ j, j ≠ 0 → j ≠ 3 → j ≠ 12 → (j < 13 ∨ 23 < j) → LDI b 0 j = b 0 j := fun j z0 z3 z12 z => ldi_j z0 z3 z12 z
  rw [ldi_e]
  unfold f_X3_readText f_X9_layPlain f_X3_readText_22
  simp only [b_T]
  generalize LDI b = bI at l3 l21 l20 l19 l18 l14 l12 l13 l0 lk lj ⊢
  generalize f_X3_clear a = aC at ck c2 c3 c5 c6 c9 c41 c42 c43 c44 c55 ⊢
  obtain ⟨bL, y1, y2, y3⟩ := @r_lay N 311 0 N bI l3 (by omega) (by omega)
  have y1' : f_X9_layPlain_2 N N 0 bI = some bL := y1
  rw [y1', b_P]
  have hb : BYT n aC bL := by
    refine ⟨hn, by rw [ck 2 (by omega) (by omega) (by omega)]; exact i1, by rw [y2 0 (by omega), l13]; exact i2, fun j hj => ?_⟩
    rw [ck 3 (by omega) (by omega) (by omega), y2 4 (by omega), lk 4 (by omega)]
    exact i3 j hj
  obtain ⟨e1, a1, b1, t1, t2, fA, fB, tok, m1, m2⟩ := @scan_tok N n 0 aC bL hN hb (by omega) (by rw [c9]; rfl) (by rw [y2 0 (by omega), l14]; rfl)
  rw [t1, b_P, t2, b_P]
  have fa := FA_E fA
  have fb := FB_G fB
  have a15 : a1 1 5 = 0 := by rw [fA.2 5 (by omega) (by omega) (by omega) (by omega)]; exact c5
  have b18 : b1 0 18 = 0 := by rw [fB.2 18 (by omega) (by omega) (by omega) (by omega), y2 0 (by omega)]; exact l18
  have hrow : ∀ j, j < 311 → b1 2 j = if j = 5 ∨ j = 9 ∨ j = 11 then -1 else 0 := fun j hj => by
    rw [fB.1 2 (by omega), y3 j hj]
    by_cases z : j = 5 ∨ j = 9 ∨ j = 11
    · rw [if_pos z, if_pos z]
    · rw [if_neg z, if_neg z, if_pos (Nat.zero_le j)]
  have h0j : ∀ j, (j < 14 ∨ 19 < j) → b1 0 j = bI 0 j := fun j hj => by rw [fb.2 j hj, y2 0 (by omega)]
  have pg : PGz n e1 a1 b1 := ⟨BYT_fr fA fB hb, by rw [a15, b18], by rw [fA.2 6 (by omega) (by omega) (by omega) (by omega), c6, fB.2 19 (by omega) (by omega) (by omega) (by omega), y2 0 (by omega), l19], fun _ => tok⟩
  have dr : DR 0 a1 b1 := by
    unfold DR PNN
    rw [fa.1 4 (by omega), fa.1 5 (by omega), fa.2 2 (by omega), fa.2 3 (by omega), c41, c42, c43, c44, c2, c3, c55, h0j 20 (by omega), h0j 21 (by omega), l20, l21, hrow 2 (by omega), hrow 3 (by omega), hrow 4 (by omega), hrow 5 (by omega), hrow 10 (by omega)]
    refine ⟨⟨by omega, rfl, rfl⟩, ⟨rfl, rfl⟩, rfl, ⟨rfl, Or.inl rfl⟩, fun j hj => ?_, fun p hp => absurd hp (by omega), Or.inl ⟨rfl, rfl, rfl⟩, Or.inl rfl, Or.inl ⟨rfl, rfl⟩, fun j j1 j2 j3 j4 => ?_⟩
    · rw [hrow _ (by omega), if_neg (by omega)]
      exact if_pos hj
    · rw [hrow j j1]
      unfold PLN
      by_cases z : j = 9 ∨ j = 11
      · rw [if_pos (by omega), if_pos z]
      · rw [if_neg (by omega), if_neg z]
  have hb3 : b1 0 3 = 1 := by rw [h0j 3 (by omega)]; exact l3
  obtain ⟨v, u, p1, p2', p3, p4, p5⟩ := @p_word N n e1 0 35 a1 b1 hN wk_0 pg
  rw [p1, b_P, p2', b_P, p4 a15]
  have fc0 : FRC a a1 := fun k k1 k4 k5 => by rw [fa.1 k k1]; exact ck k k1 k4 k5
  have fin : ∀ (a9 b9 a8 b8 : Mem) (e9 c9' : Nat), FRC a1 a8 → FRR b1 b8 → FRC a8 a9 → FRR b8 b9 → f_X3_readText_24 N N 0 a8 = some (if a9 1 5 = 0 then 1 else 0, a9) → f_X9_load_79 N N b8 = f_X9_load_100 N b9 → PSz n e9 c9' a9 b9 → (a9 1 5 = 0 → 1 ≤ c9') → ∃ (e1 c1 : Nat) (a1 b1 : Mem), f_X3_readText_24 N N 0 a8 = some (if a1 1 5 = 0 then 1 else 0, a1) ∧ f_X9_load_79 N N b8 = f_X9_load_100 N b1 ∧ PSz n e1 c1 a1 b1 ∧ FRC a a1 ∧ (∀ k, k ≠ 0 → k ≠ 2 → b1 k = b k) ∧ (∀ j, j ≠ 0 → j ≠ 3 → j ≠ 12 → (j < 13 ∨ 23 < j) → b1 0 j = b 0 j) ∧ b1 0 0 = 0 ∧ b1 0 12 = 0 ∧ (a1 1 5 = 0 → 1 ≤ c1) := by
    intro a9 b9 a8 b8 e9 c9' f1 f2 f3 f4 g1 g2 g3 g4
    have fr := FRR_t f2 f4
    refine ⟨e9, c9', a9, b9, g1, g2, g3, FRC_t fc0 (FRC_t f1 f3), fun k k0 k2 => ?_, fun j z0 z3 z12 z => ?_, ?_, ?_, g4⟩
    · rw [fr.1 k k0 k2, fb.1 k k0, y2 k k2, lk k k0]
    · rw [fr.2 j z, h0j j (by omega)]; exact lj j z0 z3 z12 z
    · rw [fr.2 0 (by omega), h0j 0 (by omega)]; exact l0
    · rw [fr.2 12 (by omega), h0j 12 (by omega)]; exact l12
  unfold f_X9_load_75
  simp only [b_T]
  rcases p3 with rfl | rfl
  · rw [if_pos rfl, if_pos rfl]
    obtain ⟨f1, f2, f3, f4⟩ := @p_fail n e1 1 a1 b1 (by decide) pg
    rw [((@p_fi n e1 1 1 a1 b1 (by decide) pg).2 n10).1]
    obtain ⟨e9, c9', a9, b9, g1, g2, g3, g4, g5, g6⟩ := @s_loop N n hN 400 0 N N e1 0 _ _ (by omega) ⟨f1, by rw [f3.2 3 (by omega)]; exact hb3, fun z => absurd z f4⟩ (fun z => absurd z f4) (by omega) (by omega)
    exact fin a9 b9 _ _ e9 c9' (FE_C f2) (FG_R f3) g4 g5 g1 g2 g3 g6
  · rw [if_neg n10, if_neg n10, ((@p_fi n e1 1 0 a1 b1 (by decide) pg).1 rfl).2]
    obtain ⟨e9, c9', a9, b9, g1, g2, g3, g4, g5, g6⟩ := @s_loop N n hN 400 0 N N e1 0 a1 b1 (by omega) ⟨pg, hb3, fun _ => dr⟩ (fun _ => ⟨m2, Or.inr p1⟩) (by omega) (by omega)
    exact fin a9 b9 a1 b1 e9 c9' (fun k _ _ _ => rfl) ⟨fun k _ _ => rfl, fun j _ => rfl⟩ g4 g5 g1 g2 g3 g6

