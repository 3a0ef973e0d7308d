theorem s_session {N n e c : Nat} {a b : Mem} (hN : 402 ≤ N) (hw : a 1 5 = 0 → f_X3_isWord N 7 a = some 1) (h : PSz n e c a b) : ∃ (e1 : Nat) (a1 b1 : Mem), f_X3_readSession N a = some a1 ∧ f_X9_parseSession N b = some b1 ∧ PSz n e1 c a1 b1 ∧ FRC a a1 ∧ FRR b b1 ∧ (a1 1 5 = 0 → a 1 5 = 0 ∧ (a1 1 7 = 0 ∨ e + 1 ≤ e1)) := by
  obtain ⟨g, h3, hd⟩ := h
  have n5 : (5 : Int32).toNatClampNeg = 5 := rfl
  obtain ⟨p, c1, c2⟩ : ∃ p : Int32, f_X3_readSession N a = f_X3_readSession_17 N a p ∧ (p = 0 ↔ a 4 4 = -1) := by
    unfold f_X3_readSession
    by_cases z : a 4 4 = -1
    · exact ⟨0, if_pos z, ⟨fun _ => z, fun _ => rfl⟩⟩
    · exact ⟨1, if_neg z, ⟨fun y => absurd y (by decide), fun y => absurd y z⟩⟩
  obtain ⟨q, c3, c4⟩ : ∃ q : Int32, f_X9_parseSession N b = f_X9_parseSession_16 N b q ∧ (q = 0 ↔ b 2 5 = -1) := by
    unfold f_X9_parseSession
    rw [row2 h3, n5]
    by_cases z : b 2 5 = -1
    · exact ⟨0, if_pos z, ⟨fun _ => z, fun _ => rfl⟩⟩
    · exact ⟨1, if_neg z, ⟨fun y => absurd y (by decide), fun y => absurd y z⟩⟩
  have hpq : a 1 5 = 0 → (p = 0 ↔ q = 0) := by
    intro hg
    obtain ⟨-, -, d3, -⟩ := hd hg
    rw [c2, c4, d3]
  obtain ⟨a0, b0, r1, r2, r3, r4, r5, r6⟩ := @p_ff n e p q a b hpq g
  rw [c1, c3]
  unfold f_X3_readSession_17 f_X9_parseSession_16
  rw [r1, r2, b_T, b_T]
  have w0 : a0 1 5 = 0 → f_X3_isWord N 7 a0 = some 1 := fun z => by
    obtain ⟨y1, -⟩ := r6 z
    subst y1
    exact hw z
  obtain ⟨e1, a1, b1, t1, t2, t3, t4, t5, t6, t7, -⟩ := @p_tk N n e 7 a0 b0 hN wk_7.2.2.1 w0 r3
  obtain ⟨e2, x, y, a2, b2, u1, u2, u3, u4, u5, u6⟩ := @p_nu N n e1 1 99999 a1 b1 hN (by decide) (by decide) t3
  have hb13 : b1 0 3 = 1 := by rw [t5.2 3 (by omega), r5.2 3 (by omega)]; exact h3
  rw [t1, b_P, u1, b_P2, b_T, t2, b_P, u2, b_P2, b_T, row2 hb13, n5]
  have r1' : ∀ k, k ≠ 2 → upR b2 2 (upd (b2 2) 5 y) k = b2 k := fun k z => R_n z
  have r2' : upR b2 2 (upd (b2 2) 5 y) 2 = upd (b2 2) 5 y := R_s
  have s1' : ∀ k, k ≠ 4 → up2 a2 4 4 x k = a2 k := fun k z => p2_n z
  have s2' : up2 a2 4 4 x 4 = upd (a2 4) 4 x := p2_s
  generalize upR b2 2 (upd (b2 2) 5 y) = bb at r1' r2' ⊢
  generalize up2 a2 4 4 x = aa at s1' s2' ⊢
  have p1 : PGz n e2 aa bb := PG_fr (s1' 2 (by omega)) (s1' 3 (by omega)) (r1' 4 (by omega)) (fun j _ _ => by rw [s1' 1 (by omega)]) (fun j _ _ => by rw [r1' 0 (by omega)]) u3
  obtain ⟨e3, a3, b3, v1, v2, v3, v4, v5, v6⟩ := @p_se N n e2 aa bb hN p1
  rw [v1, b_P, v2, b_P]
  have fa := FE_t r4 (FE_t t4 u4)
  have gb := FG_t r5 (FG_t t5 u5)
  have fcc : FRC a a3 := FRC_t (FE_C fa) (FRC_t (fun k z1 z4 z5 => s1' k z4) (FE_C v4))
  have frr : FRR b b3 := FRR_t (FG_R gb) (FRR_t ⟨fun k z0 z2 => r1' k z2, fun j z => by rw [r1' 0 (by omega)]⟩ (FG_R v5))
  have good : a3 1 5 = 0 → a0 1 5 = 0 ∧ x = y ∧ 1 ≤ x.toInt ∧ x.toInt ≤ 99999 ∧ e ≤ e2 ∧ (a3 1 7 = 0 ∨ e2 + 1 ≤ e3) := by
    intro z
    obtain ⟨y1, y2, y3⟩ := v6 z
    rw [s1' 1 (by omega)] at y1
    obtain ⟨y4, y5, y6, y7, y8⟩ := u6 y1
    rw [t6] at y4
    exact ⟨y4, y6, y7, y8, by omega, y3⟩
  refine ⟨e3, a3, b3, rfl, rfl, ⟨v3, ?_, fun z => ?_⟩, fcc, frr, fun z => ?_⟩
  · rw [v5.2 3 (by omega), r1' 0 (by omega), gb.2 3 (by omega)]; exact h3
  · obtain ⟨y1, y2, y3, y4, -⟩ := good z
    obtain ⟨y5, y6, -⟩ := r6 y1
    rw [y5] at y1
    obtain ⟨d1, d2, d3, d4, d5, d6, d7, d8, d9, d10⟩ := hd y1
    have hrow : ∀ j, j ≠ 5 → b3 2 j = b 2 j := fun j hj => by rw [v5.1 2 (by omega), r2', u_n hj, gb.1 2 (by omega)]
    have hr5 : b3 2 5 = y := by rw [v5.1 2 (by omega), r2', u_s]
    have h0j : ∀ j, (j = 20 ∨ j = 21 ∨ j = 22 ∨ j = 23) → b3 0 j = b 0 j := fun j hj => by rw [v5.2 j (by omega), r1' 0 (by omega), gb.2 j (by omega)]
    have ha1 : ∀ j, j < 5 → a3 1 j = a 1 j := fun j hj => by rw [v4.2 j (by omega), s1' 1 (by omega)]; exact fa.2 j (by omega)
    have ha4 : ∀ j, j ≠ 4 → a3 4 j = a 4 j := fun j hj => by rw [v4.1 4 (by omega), s2', u_n hj, fa.1 4 (by omega)]
    have ha44 : a3 4 4 = x := by rw [v4.1 4 (by omega), s2', u_s]
    have ha5 : a3 5 = a 5 := by rw [v4.1 5 (by omega), s1' 5 (by omega)]; exact fa.1 5 (by omega)
    unfold DR PNN at *
    rw [ha4 1 (by omega), ha4 2 (by omega), ha4 3 (by omega), ha44, ha5, ha1 2 (by omega), ha1 3 (by omega), ha1 4 (by omega), h0j 20 (by omega), h0j 21 (by omega), h0j 22 (by omega), h0j 23 (by omega), hr5, hrow 2 (by omega), hrow 3 (by omega), hrow 4 (by omega), hrow 10 (by omega)]
    refine ⟨d1, d2, y2, d4, fun j hj => by rw [hrow _ (by omega)]; exact d5 j hj, fun p hp => ?_, d7, Or.inr ⟨by rw [← y2]; exact y3, by rw [← y2]; exact y4⟩, d9, fun j j1 j2 j3 j4 => by rw [hrow j (by omega)]; exact d10 j j1 j2 j3 j4⟩
    rw [hrow _ (by omega), hrow _ (by omega), hrow _ (by omega), hrow _ (by omega), hrow _ (by omega)]
    exact d6 p hp
  · obtain ⟨y1, y2, y3, y4, y5, y6⟩ := good z
    obtain ⟨y7, -⟩ := r6 y1
    rw [y7] at y1
    exact ⟨y1, y6.imp id fun z => by omega⟩

