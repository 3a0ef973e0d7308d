theorem s_extra {N n e c : Nat} {a b : Mem} (hN : 402 ≤ N) (hw : a 1 5 = 0 → f_X3_isWord N 6 a = some 1) (h : PSz n e c a b) : ∃ (e1 : Nat) (a1 b1 : Mem), f_X3_readExtra N a = some a1 ∧ f_X9_parseExtra N b = some b1 ∧ PSz n e1 c a1 b1 ∧ FRC a a1 ∧ FRR b b1 ∧ (a1 1 5 = 0 → a 1 5 = 0 ∧ (a1 1 7 = 0 ∨ e + 1 ≤ e1)) := by
  obtain ⟨g, h3, hd⟩ := h
  have i0 : (0 : Int32).toInt = 0 := rfl
  have n3 : (3 : Int32).toNatClampNeg = 3 := rfl
  have n4 : (4 : Int32).toNatClampNeg = 4 := rfl
  obtain ⟨p, c1, c2⟩ : ∃ p : Int32, f_X3_readExtra N a = f_X3_readExtra_16 N a p ∧ (p = 0 ↔ a 4 2 = 0) := by
    unfold f_X3_readExtra
    by_cases z : a 4 2 = 0
    · exact ⟨0, if_pos z, ⟨fun _ => z, fun _ => rfl⟩⟩
    · exact ⟨1, if_neg z, ⟨fun y => absurd y (by decide), fun y => absurd y z⟩⟩
  have hpq : a 1 5 = 0 → (p = 0 ↔ nb (b 0 20) = 0) := by
    intro hg
    obtain ⟨-, d2, -, -, -, -, d7, -⟩ := hd hg
    rw [c2, d2.1]
    rcases d7 with ⟨z1, z2, -⟩ | ⟨z1, ⟨z2, -⟩, -⟩
    · rw [z1, z2]; exact ⟨fun _ => rfl, fun _ => rfl⟩
    · rw [z1]
      exact ⟨fun z => absurd (by rw [z, i0] at z2; omega) id, fun z => absurd z (by decide)⟩
  obtain ⟨a0, b0, r1, r2, r3, r4, r5, r6⟩ := @p_ff n e p (nb (b 0 20)) a b hpq g
  rw [c1]
  unfold f_X3_readExtra_16 f_X9_parseExtra
  rw [r1, r2, b_T, b_T, b_T]
  have w0 : a0 1 5 = 0 → f_X3_isWord N 6 a0 = some 1 := fun z => by
    obtain ⟨y1, -⟩ := r6 z
    subst y1
    exact hw z
  have q1' : ∀ k, k ≠ 0 → up2 b0 0 20 1 k = b0 k := fun k z => p2_n z
  have q2' : ∀ j, j ≠ 20 → up2 b0 0 20 1 0 j = b0 0 j := fun j z => by rw [p2_s, u_n z]
  have q3' : up2 b0 0 20 1 0 20 = 1 := by rw [p2_s, u_s]
  generalize up2 b0 0 20 1 = bq at q1' q2' q3' ⊢
  have p0 : PGz n e a0 bq := PG_fr rfl rfl (q1' 4 (by omega)) (fun _ _ _ => rfl) (fun j _ _ => q2' j (by omega)) r3
  obtain ⟨e1, a1, b1, t1, t2, t3, t4, t5, t6, t7, -⟩ := @p_tk N n e 6 a0 bq hN wk_6.2.2.1 w0 p0
  obtain ⟨e2, x, y, a2, b2, u1, u2, u3, u4, u5, u6⟩ := @p_nu N n e1 1 9 a1 b1 hN (by decide) (by decide) t3
  have hb13 : b1 0 3 = 1 := by rw [t5.2 3 (by omega), q2' 3 (by omega), r5.2 3 (by omega)]; exact h3
  rw [t1, b_P, u1, b_P2, b_T, t2, b_P, u2, b_P2, b_T, row2 hb13, n3]
  have r1' : ∀ k, k ≠ 2 → upR b2 2 (upd (b2 2) 3 y) k = b2 k := fun k z => R_n z
  have r2' : upR b2 2 (upd (b2 2) 3 y) 2 = upd (b2 2) 3 y := R_s
  have s1' : ∀ k, k ≠ 4 → up2 a2 4 2 x k = a2 k := fun k z => p2_n z
  have s2' : up2 a2 4 2 x 4 = upd (a2 4) 2 x := p2_s
  generalize upR b2 2 (upd (b2 2) 3 y) = bb at r1' r2' ⊢
  generalize up2 a2 4 2 x = aa at s1' s2' ⊢
  have p1 : PGz n e2 aa bb := PG_fr (s1' 2 (by omega)) (s1' 3 (by omega)) (r1' 4 (by omega)) (fun j _ _ => by rw [s1' 1 (by omega)]) (fun j _ _ => by rw [r1' 0 (by omega)]) u3
  obtain ⟨e4, x4, y4, a40, a4, b4, o1, o2, o3, o4, o5, o6, o7⟩ := @p_na N n e2 2 37 1 9999 aa bb hN wk_2 (by decide) (by decide) p1
  have hbb3 : bb 0 3 = 1 := by rw [r1' 0 (by omega), u5.2 3 (by omega)]; exact hb13
  rw [o1, b_P, o2, b_P2, b_T, o3, b_P2, b_T, row2 hbb3, n4]
  have w1' : ∀ k, k ≠ 2 → upR b4 2 (upd (b4 2) 4 y4) k = b4 k := fun k z => R_n z
  have w2' : upR b4 2 (upd (b4 2) 4 y4) 2 = upd (b4 2) 4 y4 := R_s
  have x1' : ∀ k, k ≠ 4 → up2 a4 4 3 x4 k = a4 k := fun k z => p2_n z
  have x2' : up2 a4 4 3 x4 4 = upd (a4 4) 3 x4 := p2_s
  generalize upR b4 2 (upd (b4 2) 4 y4) = bz at w1' w2' ⊢
  generalize up2 a4 4 3 x4 = az at x1' x2' ⊢
  have p2' : PGz n e4 az bz := PG_fr (x1' 2 (by omega)) (x1' 3 (by omega)) (w1' 4 (by omega)) (fun j _ _ => by rw [x1' 1 (by omega)]) (fun j _ _ => by rw [w1' 0 (by omega)]) o4
  obtain ⟨e3, a3, b3, v1, v2, v3, v4, v5, v6⟩ := @p_se N n e4 az bz hN p2'
  rw [v1, b_P, v2, b_P]
  have fa := FE_t r4 (FE_t t4 u4)
  have fcc : FRC a a3 := FRC_t (FE_C fa) (FRC_t (fun k z1 z4 z5 => s1' k z4) (FRC_t (FE_C o5) (FRC_t (fun k z1 z4 z5 => x1' k z4) (FE_C v4))))
  have fq : FRR b0 bq := ⟨fun k z0 z2 => q1' k z0, fun j z => q2' j (by omega)⟩
  have frr : FRR b b3 := FRR_t (FG_R r5) (FRR_t fq (FRR_t (FG_R (FG_t t5 u5)) (FRR_t ⟨fun k z0 z2 => r1' k z2, fun j z => by rw [r1' 0 (by omega)]⟩ (FRR_t (FG_R o6) (FRR_t ⟨fun k z0 z2 => w1' k z2, fun j z => by rw [w1' 0 (by omega)]⟩ (FG_R v5))))))
  have good : a3 1 5 = 0 → a0 1 5 = 0 ∧ (x = y ∧ 1 ≤ x.toInt ∧ x.toInt ≤ 9) ∧ (x4 = y4 ∧ 1 ≤ x4.toInt ∧ x4.toInt ≤ 9999) ∧ e ≤ e4 ∧ (a3 1 7 = 0 ∨ e4 + 1 ≤ e3) := by
    intro z
    obtain ⟨y1, y2, y3⟩ := v6 z
    rw [x1' 1 (by omega)] at y1
    obtain ⟨y5, y6, y7⟩ := o7 y1
    rw [s1' 1 (by omega)] at y5
    obtain ⟨y8, y9, y10⟩ := u6 y5
    rw [t6] at y8
    exact ⟨y8, y10, y7, by omega, y3⟩
  refine ⟨e3, a3, b3, rfl, rfl, ⟨v3, ?_, fun z => ?_⟩, fcc, frr, fun z => ?_⟩
  · rw [v5.2 3 (by omega), w1' 0 (by omega), o6.2 3 (by omega)]; exact hbb3
  · obtain ⟨y1, y2, y3, -⟩ := good z
    obtain ⟨y5, y6, -⟩ := r6 y1
    rw [y5] at y1
    obtain ⟨d1, d2, d3, d4, d5, d6, d7, d8, d9, d10⟩ := hd y1
    have hb2 : b2 2 = b 2 := by rw [u5.1 2 (by omega), t5.1 2 (by omega), q1' 2 (by omega), r5.1 2 (by omega)]
    have hrow : ∀ j, j ≠ 3 → j ≠ 4 → b3 2 j = b 2 j := fun j hj hj4 => by rw [v5.1 2 (by omega), w2', u_n hj4, o6.1 2 (by omega), r2', u_n hj, hb2]
    have hr3 : b3 2 3 = y := by rw [v5.1 2 (by omega), w2', u_n (by omega), o6.1 2 (by omega), r2', u_s]
    have hr4 : b3 2 4 = y4 := by rw [v5.1 2 (by omega), w2', u_s]
    have h0j : ∀ j, (j = 21 ∨ j = 22 ∨ j = 23) → b3 0 j = b 0 j := fun j hj => by rw [v5.2 j (by omega), w1' 0 (by omega), o6.2 j (by omega), r1' 0 (by omega), u5.2 j (by omega), t5.2 j (by omega), q2' j (by omega), r5.2 j (by omega)]
    have h020 : b3 0 20 = 1 := by rw [v5.2 20 (by omega), w1' 0 (by omega), o6.2 20 (by omega), r1' 0 (by omega), u5.2 20 (by omega), t5.2 20 (by omega)]; exact q3'
    have ha1 : ∀ j, j < 5 → a3 1 j = a 1 j := fun j hj => by rw [v4.2 j (by omega), x1' 1 (by omega), o5.2 j (by omega), s1' 1 (by omega)]; exact fa.2 j (by omega)
    have ha4 : ∀ j, j ≠ 2 → j ≠ 3 → a3 4 j = a 4 j := fun j hj hj3 => by rw [v4.1 4 (by omega), x2', u_n hj3, o5.1 4 (by omega), s2', u_n hj, fa.1 4 (by omega)]
    have ha42 : a3 4 2 = x := by rw [v4.1 4 (by omega), x2', u_n (by omega), o5.1 4 (by omega), s2', u_s]
    have ha43 : a3 4 3 = x4 := by rw [v4.1 4 (by omega), x2', u_s]
    have ha5 : a3 5 = a 5 := by rw [v4.1 5 (by omega), x1' 5 (by omega), o5.1 5 (by omega), s1' 5 (by omega)]; exact fa.1 5 (by omega)
    unfold DR PNN at *
    rw [ha4 1 (by omega) (by omega), ha4 4 (by omega) (by omega), ha42, ha43, ha5, ha1 2 (by omega), ha1 3 (by omega), ha1 4 (by omega), h020, h0j 21 (by omega), h0j 22 (by omega), h0j 23 (by omega), hr3, hr4, hrow 2 (by omega) (by omega), hrow 5 (by omega) (by omega), hrow 10 (by omega) (by omega)]
    refine ⟨d1, ⟨y2.1, y3.1⟩, d3, d4, fun j hj => by rw [hrow _ (by omega) (by omega)]; exact d5 j hj, fun p hp => ?_, Or.inr ⟨rfl, by rw [← y2.1]; exact y2.2, by rw [← y3.1]; exact y3.2⟩, d8, d9, fun j j1 j2 j3 j4 => by rw [hrow j (by omega) (by omega)]; exact d10 j j1 j2 j3 j4⟩
    rw [hrow _ (by omega) (by omega), hrow _ (by omega) (by omega), hrow _ (by omega) (by omega), hrow _ (by omega) (by omega), hrow _ (by omega) (by omega)]
    exact d6 p hp
  · obtain ⟨y1, y2, y3, y5, y6⟩ := good z
    obtain ⟨y7, -⟩ := r6 y1
    rw [y7] at y1
    exact ⟨y1, y6.imp id fun z => by omega⟩

