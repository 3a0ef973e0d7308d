def FRC (a a1 : Mem) : Prop := ∀ k, k ≠ 1 → k ≠ 4 → k ≠ 5 → a1 k = a k
def FRR (b b1 : Mem) : Prop := (∀ k, k ≠ 0 → k ≠ 2 → b1 k = b k) ∧ ∀ j, (j < 13 ∨ 23 < j) → b1 0 j = b 0 j
theorem FRC_t {a a1 a2 : Mem} (h : FRC a a1) (h2 : FRC a1 a2) : FRC a a2 := fun k z1 z4 z5 => (h2 k z1 z4 z5).trans (h k z1 z4 z5)
theorem FRR_t {b b1 b2 : Mem} (h : FRR b b1) (h2 : FRR b1 b2) : FRR b b2 := ⟨fun k z0 z2 => (h2.1 k z0 z2).trans (h.1 k z0 z2), fun j z => (h2.2 j z).trans (h.2 j z)⟩
theorem FE_C {a a1 : Mem} (h : FE a a1) : FRC a a1 := fun k z1 _ _ => h.1 k z1
theorem FG_R {b b1 : Mem} (h : FGz b b1) : FRR b b1 := ⟨fun k z0 _ => h.1 k z0, fun j z => h.2 j (by omega)⟩
def PNN (g : Nat → Int32) (c : Nat) : Prop := ∀ p : Nat, p < c → (0 ≤ (g (12 + 5 * p)).toInt ∧ (g (12 + 5 * p)).toInt ≤ 60) ∧ (1 ≤ (g (12 + 5 * p + 1)).toInt ∧ (g (12 + 5 * p + 1)).toInt ≤ 99999) ∧ (0 ≤ (g (12 + 5 * p + 2)).toInt ∧ (g (12 + 5 * p + 2)).toInt ≤ 999) ∧ (0 ≤ (g (12 + 5 * p + 3)).toInt ∧ (g (12 + 5 * p + 3)).toInt ≤ 999) ∧ (0 ≤ (g (12 + 5 * p + 4)).toInt ∧ (g (12 + 5 * p + 4)).toInt ≤ 999)
def PLN (j : Nat) : Int32 := if j = 9 ∨ j = 11 then -1 else 0
def DR (c : Nat) (a b : Mem) : Prop := (c ≤ 5 ∧ a 4 1 = nI c ∧ b 2 2 = nI c) ∧ (a 4 2 = b 2 3 ∧ a 4 3 = b 2 4) ∧ a 4 4 = b 2 5 ∧ (nb (a 1 2) = b 2 10 ∧ (b 2 10 = 0 ∨ b 2 10 = 1)) ∧ (∀ j, j < 25 → a 5 j = b 2 (12 + j)) ∧ PNN (b 2) c ∧ (b 0 20 = 0 ∧ b 2 3 = 0 ∧ b 2 4 = 0 ∨ b 0 20 = 1 ∧ (1 ≤ (b 2 3).toInt ∧ (b 2 3).toInt ≤ 9) ∧ 1 ≤ (b 2 4).toInt ∧ (b 2 4).toInt ≤ 9999) ∧ (b 2 5 = -1 ∨ 1 ≤ (b 2 5).toInt ∧ (b 2 5).toInt ≤ 99999) ∧ (b 0 21 = 0 ∧ a 1 3 = -1 ∨ b 0 21 = 1 ∧ (a 1 3 = 0 ∨ a 1 3 = 1) ∧ a 1 3 = b 0 22 ∧ a 1 4 = b 0 23 ∧ 1 ≤ (b 0 23).toInt ∧ (b 0 23).toInt ≤ 9999) ∧ ∀ j, j < 311 → (j < 2 ∨ 6 ≤ j) → j ≠ 10 → (j < 12 ∨ 37 ≤ j) → b 2 j = PLN j
theorem DR_fr {c : Nat} {a b a1 b1 : Mem} (h4 : a1 4 = a 4) (h5 : a1 5 = a 5) (h1 : ∀ j, j < 5 → a1 1 j = a 1 j) (hb : b1 2 = b 2) (h0 : ∀ j, (j = 20 ∨ j = 21 ∨ j = 22 ∨ j = 23) → b1 0 j = b 0 j) (h : DR c a b) : DR c a1 b1 := by
  unfold DR at *
  rw [h4, h5, h1 2 (by omega), h1 3 (by omega), h1 4 (by omega), hb, h0 20 (by omega), h0 21 (by omega), h0 22 (by omega), h0 23 (by omega)]
  exact h
theorem DR_ops {c : Nat} {a b a1 b1 : Mem} (hf : FE a a1) (hg : FGz b b1) (h : DR c a b) : DR c a1 b1 := DR_fr (hf.1 4 (by omega)) (hf.1 5 (by omega)) (fun j hj => hf.2 j (by omega)) (hg.1 2 (by omega)) (fun j hj => hg.2 j (by omega)) h
def PSz (n e c : Nat) (a b : Mem) : Prop := PGz n e a b ∧ b 0 3 = 1 ∧ (a 1 5 = 0 → DR c a b)
theorem row2 {b : Mem} (h : b 0 3 = 1) : rowM (b 0 3) = 2 := by rw [h]; rfl
theorem nb_i {x : Int32} : nb x = 0 ∨ nb x = 1 := by
  unfold nb
  by_cases h : x = 0
  · rw [if_pos h]; exact Or.inl rfl
  · rw [if_neg h]; exact Or.inr rfl
theorem p_ff {n e : Nat} {p q : Int32} {a b : Mem} (hpq : a 1 5 = 0 → (p = 0 ↔ q = 0)) (h : PGz n e a b) : ∃ a0 b0, f_X3_failIf p a = a0 ∧ f_X9_errsIf q 3 b = b0 ∧ PGz n e a0 b0 ∧ FE a a0 ∧ FGz b b0 ∧ (a0 1 5 = 0 → a0 = a ∧ b0 = b ∧ p = 0 ∧ q = 0) := by
  obtain ⟨f1, f2⟩ := @p_fi n e 3 q a b (by decide) h
  unfold f_X3_failIf
  simp only [b_T]
  by_cases hg : a 1 5 = 0
  · by_cases hp : p = 0
    · have hq := (hpq hg).1 hp
      rw [if_pos hp, (f1 hq).2]
      exact ⟨a, b, rfl, rfl, h, FE_i, FG_i, fun _ => ⟨rfl, rfl, hp, hq⟩⟩
    · have hq : q ≠ 0 := fun z => hp ((hpq hg).2 z)
      obtain ⟨g1, g2, g3, g4, g5⟩ := f2 hq
      rw [if_neg hp, g1]
      exact ⟨_, _, rfl, rfl, g2, g3, g4, fun z => absurd z g5⟩
  · have hb : b 0 18 ≠ 0 := by rw [← h.2.1]; exact hg
    have e1 : f_X9_errsIf q 3 b = b := by
      by_cases hq : q = 0
      · exact (f1 hq).2
      · rw [(f2 hq).1, errs_b hb]
    rw [fail_b hg, ite_self, e1]
    exact ⟨a, b, rfl, rfl, h, FE_i, FG_i, fun z => absurd z hg⟩
theorem s_claims {N n e c : Nat} {a b : Mem} (hN : 402 ≤ N) (hw : a 1 5 = 0 → f_X3_isWord N 11 a = some 1) (h : PSz n e c a b) : ∃ (e1 : Nat) (a1 b1 : Mem), f_X3_readClaims N a = some a1 ∧ f_X9_parseClaims N b = some b1 ∧ PSz n e1 c a1 b1 ∧ FRC a a1 ∧ FRR b b1 ∧ (a1 1 5 = 0 → a 1 5 = 0 ∧ (a1 1 7 = 0 ∨ e + 1 ≤ e1)) := by
  obtain ⟨g, h3, hd⟩ := h
  have core : ∀ (a0 b0 : Mem), PGz n e a0 b0 → FE a a0 → FGz b b0 → (a0 1 5 = 0 → a 1 5 = 0 ∧ b 2 10 = 0) → (a0 1 5 = 0 → f_X3_isWord N 11 a0 = some 1) → ∃ (e1 : Nat) (a1 b1 : Mem), (bP (f_X3_takeWord N 11 a0) fun a5 => bP (f_X3_takeSemicolon N a5) fun a8 => bT (up2 a8 1 2 (1 : Int32)) fun a10 => some a10) = some a1 ∧ (bT (upR b0 (rowM (b0 0 3)) (upd (b0 (rowM (b0 0 3))) ((10 : Int32)).toNatClampNeg (1 : Int32))) fun b5 => bP (f_X9_goOn N b5) fun b8 => bP (f_X9_semicolon N b8) fun b11 => some b11) = some b1 ∧ PSz n e1 c a1 b1 ∧ FRC a a1 ∧ FRR b b1 ∧ (a1 1 5 = 0 → a 1 5 = 0 ∧ (a1 1 7 = 0 ∨ e + 1 ≤ e1)) := by
    intro a0 b0 p0 f0 g0 k0 w0
    have hb3 : b0 0 3 = 1 := by rw [g0.2 3 (by omega)]; exact h3
    rw [row2 hb3]
    have n10 : (10 : Int32).toNatClampNeg = 10 := rfl
    rw [n10, b_T]
    have r1 : ∀ k, k ≠ 2 → upR b0 2 (upd (b0 2) 10 1) k = b0 k := fun k z => R_n z
    have r2 : upR b0 2 (upd (b0 2) 10 1) 2 = upd (b0 2) 10 1 := R_s
    generalize upR b0 2 (upd (b0 2) 10 1) = bb at r1 r2 ⊢
    have p1 : PGz n e a0 bb := PG_fr rfl rfl (r1 4 (by omega)) (fun _ _ _ => rfl) (fun j _ _ => by rw [r1 0 (by omega)]) p0
    obtain ⟨e1, a1, b1, t1, t2, t3, t4, t5, t6, t7, -⟩ := @p_tk N n e 11 a0 bb hN wk_11.2.2.1 w0 p1
    obtain ⟨e2, a2, b2, u1, u2, u3, u4, u5, u6⟩ := @p_se N n e1 a1 b1 hN t3
    rw [t1, b_P, u1, b_P, b_T, t2, b_P, u2, b_P]
    have fa := FE_t f0 (FE_t t4 u4)
    have fb : FRR b b2 := FRR_t (FG_R g0) (FRR_t ⟨fun k z0 z2 => r1 k z2, fun j z => by rw [r1 0 (by omega)]⟩ (FG_R (FG_t t5 u5)))
    have gb := FG_t t5 u5
    have s5 : up2 a2 1 2 1 1 5 = a2 1 5 := by rw [p2_s, u_n (by omega)]
    have s7 : up2 a2 1 2 1 1 7 = a2 1 7 := by rw [p2_s, u_n (by omega)]
    refine ⟨e2, _, b2, rfl, rfl, ⟨PG_fr (p2_n (by omega)) (p2_n (by omega)) rfl (fun j z5 z10 => by rw [p2_s, u_n (by omega)]) (fun _ _ _ => rfl) u3, ?_, fun z => ?_⟩, fun k z1 z4 z5 => by rw [p2_n z1]; exact fa.1 k z1, fb, fun z => ?_⟩
    · rw [gb.2 3 (by omega), r1 0 (by omega)]; exact hb3
    · rw [s5] at z
      obtain ⟨y1, y2, y3⟩ := u6 z
      rw [t6] at y1
      obtain ⟨y4, y5⟩ := k0 y1
      obtain ⟨d1, d2, d3, d4, d5, d6, d7, d8, d9, d10⟩ := hd y4
      have hrow : ∀ j, j ≠ 10 → b2 2 j = b 2 j := fun j hj => by rw [gb.1 2 (by omega), r2, u_n hj, g0.1 2 (by omega)]
      have h0j : ∀ j, (j = 20 ∨ j = 21 ∨ j = 22 ∨ j = 23) → b2 0 j = b 0 j := fun j hj => by rw [gb.2 j (by omega), r1 0 (by omega), g0.2 j (by omega)]
      have h10 : b2 2 10 = 1 := by rw [gb.1 2 (by omega), r2, u_s]
      have ha1 : ∀ j, j < 5 → j ≠ 2 → up2 a2 1 2 1 1 j = a 1 j := fun j hj hj2 => by rw [p2_s, u_n hj2]; exact fa.2 j (by omega)
      have ha4 : up2 a2 1 2 1 4 = a 4 := by rw [p2_n (by omega)]; exact fa.1 4 (by omega)
      have ha5 : up2 a2 1 2 1 5 = a 5 := by rw [p2_n (by omega)]; exact fa.1 5 (by omega)
      have ha2 : up2 a2 1 2 1 1 2 = 1 := by rw [p2_s, u_s]
      unfold DR PNN at *
      rw [ha4, ha5, ha2, ha1 3 (by omega) (by omega), ha1 4 (by omega) (by omega), h0j 20 (by omega), h0j 21 (by omega), h0j 22 (by omega), h0j 23 (by omega), h10, hrow 2 (by omega), hrow 3 (by omega), hrow 4 (by omega), hrow 5 (by omega)]
      refine ⟨d1, d2, d3, ⟨by decide, Or.inr rfl⟩, fun j hj => by rw [hrow _ (by omega)]; exact d5 j hj, fun p hp => ?_, d7, d8, d9, fun j j1 j2 j3 j4 => by rw [hrow j j3]; exact d10 j j1 j2 j3 j4⟩
      rw [hrow _ (by omega), hrow _ (by omega), hrow _ (by omega), hrow _ (by omega), hrow _ (by omega)]
      exact d6 p hp
    · rw [s5] at z
      rw [s7]
      obtain ⟨y1, y2, y3⟩ := u6 z
      rw [t6] at y1
      exact ⟨(k0 y1).1, y3.imp id fun z => by omega⟩
  obtain ⟨q, c1, c2⟩ : ∃ q : Int32, f_X9_parseClaims N b = f_X9_parseClaims_17 N b q ∧ (q = 0 ↔ b 2 10 ≠ 1) := by
    unfold f_X9_parseClaims
    rw [row2 h3]
    by_cases z : b 2 10 = 1
    · exact ⟨1, if_pos z, ⟨fun y => absurd y (by decide), fun y => absurd z y⟩⟩
    · exact ⟨0, if_neg z, ⟨fun _ => z, fun _ => rfl⟩⟩
  have hpq : a 1 5 = 0 → (nb (a 1 2) = 0 ↔ q = 0) := by
    intro hg
    obtain ⟨-, -, -, ⟨d4, d4'⟩, -⟩ := hd hg
    rw [d4, c2]
    rcases d4' with z | z
    · rw [z]; decide
    · rw [z]; decide
  obtain ⟨a0, b0, r1, r2, r3, r4, r5, r6⟩ := @p_ff n e (nb (a 1 2)) q a b hpq g
  unfold f_X3_readClaims
  rw [c1]
  unfold f_X9_parseClaims_17
  rw [r1, r2, b_T, b_T]
  refine core a0 b0 r3 r4 r5 (fun z => ?_) (fun z => ?_)
  · obtain ⟨y1, y2, y3, y4⟩ := r6 z
    subst y1
    obtain ⟨-, -, -, ⟨d4, d4'⟩, -⟩ := hd z
    exact ⟨z, by rw [← d4]; exact y3⟩
  · obtain ⟨y1, y2, y3, y4⟩ := r6 z
    subst y1
    exact hw z

