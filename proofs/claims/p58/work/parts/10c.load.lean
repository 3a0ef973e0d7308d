def SZ (T E : Int32) : Nat → Int32 := fun i => if i = 0 then T else if i = 4 then E else 0
theorem sz_n {T E : Int32} {i : Nat} (h0 : i ≠ 0) (h4 : i ≠ 4) : SZ T E i = 0 := by
  unfold SZ
  rw [if_neg h0, if_neg h4]
theorem sl_sz {G : Nat → Int32} {o : Nat} {T E : Int32} (h0 : G o = T) (h4 : G (o + 4) = E) (h : ∀ i, i < 17 → i ≠ 0 → i ≠ 4 → G (o + i) = 0) : sl G o = SZ T E := by
  funext i
  unfold sl SZ
  by_cases h17 : i < 17
  · rw [if_pos h17]
    by_cases z0 : i = 0
    · rw [if_pos z0, z0]; exact h0
    · rw [if_neg z0]
      by_cases z4 : i = 4
      · rw [if_pos z4, z4]; exact h4
      · rw [if_neg z4]; exact h i h17 z0 z4
  · rw [if_neg h17, if_neg (by omega), if_neg (by omega)]
theorem num01 {r : Nat} {m : Mem} : f_X4_number r 0 1 m = m (r + 1) 1 := by
  unfold f_X4_number
  rw [b_T, if_neg (by decide), if_neg (by decide)]
  rfl
theorem c_su5 {a : Mem} {k r : Nat} (h1 : r ≠ k) (h2 : r ≠ k + 1) (h3 : r + 1 ≠ k) (h4 : r + 1 ≠ k + 1) : (∀ k1, k1 ≠ k → k1 ≠ k + 1 → f_X5_setUp k r a k1 = a k1) ∧ sI (f_X5_setUp k r a) k = SZ (a (r + 1) 1) (a r 2) := by
  unfold f_X5_setUp
  dsimp only [bT]
  simp only [num01, p2_n h1, R_n h2, R_n h4]
  refine ⟨fun k1 q1 q2 => by simp only [p2_n q1, R_n q2], ?_⟩
  rw [sI_w12, sI_w11, sI_w10, sI_w9, sI_w8, sI_w7, sI_w6, sI_w5, sI_w4, sI_w3, sI_w2, sI_w1]
  funext i
  by_cases hi : i < 12
  · have : i = 0 ∨ i = 1 ∨ i = 2 ∨ i = 3 ∨ i = 4 ∨ i = 5 ∨ i = 6 ∨ i = 7 ∨ i = 8 ∨ i = 9 ∨ i = 10 ∨ i = 11 := by omega
    rcases this with rfl | rfl | rfl | rfl | rfl | rfl | rfl | rfl | rfl | rfl | rfl | rfl <;> simp [upd, SZ, nb]
  · rw [u_n (by omega), u_n (by omega), u_n (by omega), u_n (by omega), u_n (by omega), u_n (by omega), u_n (by omega), u_n (by omega), u_n (by omega), u_n (by omega), u_n (by omega), u_n (by omega), sz_n (by omega) (by omega)]
    by_cases h17 : i < 17
    · obtain ⟨q, rfl⟩ : ∃ q, i = q + 12 := ⟨i - 12, by omega⟩
      rw [sI_rs (by omega), R_s]
      unfold fillI
      rw [if_pos (by omega)]
    · rw [sI_top (by omega)]
theorem c_su6 {a : Mem} {v : Int32} {g : Nat → Int32} (hw : WS a 8) (g0 : g 0 = 0) (g1 : g 1 = 0) (g2 : a 4 1 = g 2) (g3 : a 4 2 = g 3) (g4 : a 4 3 = g 4) (g5 : a 4 4 = g 5) (g6 : g 6 = 0) (g7 : g 7 = 0) (g8 : g 8 = 0) (g9 : g 9 = -1) (g10 : nb v = g 10) (g11 : g 11 = -1) (gr : rI a 4 = rl g) (gw : SZ (a 5 1) (a 4 2) = sl g 37) (gb : SZ (a 5 1) (a 4 2) = sl g 54) : StP (f_X6_setUp 8 4 v a) 8 g ∧ (∀ k1, (k1 < 8 ∨ 17 ≤ k1) → f_X6_setUp 8 4 v a k1 = a k1) := by
  obtain ⟨F4, p1, p2, p3, p4, p5⟩ := @c_cpy4 a (8 + 1) 4 (by omega) (by omega) (by omega)
  unfold f_X6_setUp f_X1_clear
  dsimp only [bT]
  generalize f_X4_copyFrom (8 + 1) 4 a = a2 at F4 p1 p2 p3 p4 p5 ⊢
  have F5 : ∀ k1, k1 ≠ 8 + 3 → (up2 (up2 a2 (8 + 3) 1 (0 : Int32)) (8 + 3) 2 (0 : Int32)) k1 = a2 k1 := fun k1 z => by rw [p2_n z, p2_n z]
  have l1 : (up2 (up2 a2 (8 + 3) 1 (0 : Int32)) (8 + 3) 2 (0 : Int32)) (8 + 3) 1 = 0 := by rw [p2_s, u_n (by omega), p2_s, u_s]
  have l2 : (up2 (up2 a2 (8 + 3) 1 (0 : Int32)) (8 + 3) 2 (0 : Int32)) (8 + 3) 2 = 0 := by rw [p2_s, u_s]
  generalize up2 (up2 a2 (8 + 3) 1 (0 : Int32)) (8 + 3) 2 (0 : Int32) = a5 at F5 l1 l2 ⊢
  have e5k : a5 8 = a 8 := by rw [F5 8 (by omega), F4 8 (by omega) (by omega)]
  have n1 : a5 (8 + 1 + 1) 1 = a 5 1 := by
    rw [F5 _ (by omega)]
    exact congrFun p5 1
  have n2 : a5 (8 + 1) 2 = a 4 2 := by
    rw [F5 _ (by omega)]
    exact p2
  have hk2 := @sdr_or 8 (a 8 2)
  have hk3 := @sdr_or 8 (a 8 3)
  have hkk := sdr_W hw
  rw [e5k]
  generalize hkw : sdr 8 (a 8 2) = kw at hk2 hkk ⊢
  generalize hkb : sdr 8 (a 8 3) = kb at hk3 hkk ⊢
  obtain ⟨F8, u8⟩ := @c_su5 a5 kw (8 + 1) (by omega) (by omega) (by omega) (by omega)
  generalize f_X5_setUp kw (8 + 1) a5 = a8 at F8 u8 ⊢
  have e8k : a8 8 = a 8 := by rw [F8 8 (by omega) (by omega), e5k]
  rw [e8k, hkb]
  obtain ⟨F11, u11⟩ := @c_su5 a8 kb (8 + 1) (by omega) (by omega) (by omega) (by omega)
  rw [F8 (8 + 1 + 1) (by omega) (by omega), F8 (8 + 1) (by omega) (by omega)] at u11
  generalize f_X5_setUp kb (8 + 1) a8 = a11 at F11 u11 ⊢
  rw [n1, n2] at u8 u11
  have e11k : a11 8 = a 8 := by rw [F11 8 (by omega) (by omega), e8k]
  generalize hz : up2 (up2 (up2 (up2 (up2 (up2 (up2 a11 8 4 v) 8 5 (0 : Int32)) 8 6 (0 : Int32)) 8 7 (-1 : Int32)) 8 8 (-1 : Int32)) 8 9 (0 : Int32)) 8 10 (0 : Int32) = a25
  have F25 : ∀ k1, k1 ≠ 8 → a25 k1 = a11 k1 := by
    intro k1 z
    rw [← hz]
    simp only [p2_n z]
  have K : ∀ j, a25 8 j = if j = 10 then 0 else if j = 9 then 0 else if j = 8 then -1 else if j = 7 then -1 else if j = 6 then 0 else if j = 5 then 0 else if j = 4 then v else a 8 j := by
    intro j
    rw [← hz, ← e11k]
    simp only [up2, upR, upd, Nat.reduceEqDiff, reduceIte]
  have k2 : a25 8 2 = a 8 2 := by rw [K]; rfl
  have k3 : a25 8 3 = a 8 3 := by rw [K]; rfl
  have gG : ∀ k1, k1 ≠ 8 → k1 ≠ kw → k1 ≠ kw + 1 → k1 ≠ kb → k1 ≠ kb + 1 → a25 k1 = a5 k1 := by
    intro k1 z1 z2 z3 z4 z5
    rw [F25 k1 z1, F11 k1 z4 z5, F8 k1 z2 z3]
  have x1 : a25 (8 + 1) = a2 (8 + 1) := by rw [gG _ (by omega) (by omega) (by omega) (by omega) (by omega), F5 _ (by omega)]
  have x2 : a25 (8 + 1 + 1) = a2 (8 + 1 + 1) := by rw [gG _ (by omega) (by omega) (by omega) (by omega) (by omega), F5 _ (by omega)]
  have x3 : a25 (8 + 3) = a5 (8 + 3) := gG _ (by omega) (by omega) (by omega) (by omega) (by omega)
  have sw : sI a25 kw = sl g 37 := by
    rw [sI_fr (F25 kw (by omega)) (F25 (kw + 1) (by omega)), sI_fr (F11 kw (by omega) (by omega)) (F11 (kw + 1) (by omega) (by omega)), u8, gw]
  have sb : sI a25 kb = sl g 54 := by
    rw [sI_fr (F25 kb (by omega)) (F25 (kb + 1) (by omega)), u11, gb]
  refine ⟨⟨?_, ⟨?_, ?_, ?_, ?_, ?_, ?_, ?_, ?_, ?_, ?_, ?_, ?_⟩, ?_, ?_, ?_, ?_, ?_, ?_, ?_⟩, ?_⟩
  · unfold WS; rw [k2, k3]; exact hw
  · rw [K]; exact g0.symm
  · rw [K]; exact g1.symm
  · rw [x1, p1, g2]
  · rw [x1, p2, g3]
  · rw [x1, p3, g4]
  · rw [x1, p4, g5]
  · rw [K]; exact g6.symm
  · rw [K]; exact g7.symm
  · rw [K]; exact g9.symm
  · rw [K]; exact g10
  · rw [K]; exact g11.symm
  · rw [rI_fr x2, p5, gr]
  · rw [k2, hkw, sw]
  · rw [k3, hkb, sb]
  · rw [k2, k3, hkw, hkb, g8]
    have e1 : a25 kw 3 = sI a25 kw 1 := rfl
    have e2 : a25 kb 3 = sI a25 kb 1 := rfl
    rw [e1, e2, sw, sb, ← gw, ← gb, sz_n (by omega) (by omega)]
    rfl
  · rw [x3, l1, g8]; decide
  · rw [x3, l2]; decide
  · rw [x3, l2]; decide
  · intro i w hi hi2 hw'
    rw [g8] at hi2
    have e0 : (0 : Int32).toInt = 0 := rfl
    omega
  · intro k1 hk1
    rw [gG k1 (by omega) (by omega) (by omega) (by omega) (by omega), F5 k1 (by omega), F4 k1 (by omega) (by omega)]
theorem VS_z {L T M : Int} {R : Nat → Int32} {pr et T0 E : Int32} (hR : VR R pr et) (h1 : 1 ≤ T0.toInt) (h2 : T0.toInt ≤ L) (hT : 0 ≤ T) (hM : 0 ≤ M) (e1 : 0 ≤ E.toInt) (e2 : E.toInt ≤ 9) (e3 : 0 < E.toInt → 1 ≤ et.toInt) : VS L T M R pr et (SZ T0 E) := by
  obtain ⟨r1, r2, r3, r4, r5⟩ := hR
  have z0 : (0 : Int32).toInt = 0 := rfl
  have s0 : SZ T0 E 0 = T0 := rfl
  have s4 : SZ T0 E 4 = E := rfl
  unfold VS
  rw [s0, s4, sz_n (by omega) (by omega), sz_n (by omega) (by omega), sz_n (by omega) (by omega), sz_n (by omega) (by omega), sz_n (by omega) (by omega), sz_n (by omega) (by omega), sz_n (by omega) (by omega), z0]
  refine ⟨⟨by omega, h2⟩, ⟨by omega, by omega⟩, ⟨by omega, hM⟩, ⟨e1, e2⟩, Or.inl rfl, ⟨by omega, hT⟩, ⟨by omega, hT⟩, Or.inl rfl, Or.inl rfl, ⟨fun h => absurd h (by decide), fun h => ?_⟩, fun h => absurd h (by decide), e3, fun h => ?_⟩
  · rw [h, z0] at h1
    omega
  · have h0 := (r5 0 (by omega)).1.1
    have hne : rn R 0 0 = R (5 * 0) := rfl
    rw [hne] at h ⊢
    have h9 : (R (5 * 0)).toInt ≠ 0 := fun h8 => h (z_eq.2 (by rw [h8, z0]))
    omega

