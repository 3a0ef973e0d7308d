
def LG (a : Mem) (k : Nat) (g : Nat → Int32) : Prop := a k 1 = mnI 40 (g 8) ∧ 0 ≤ (a k 2).toInt ∧ (a k 2).toInt < 40 ∧ ∀ i w : Nat, i < 40 → (i : Int) < (g 8).toInt → w < 6 → a (k + 1) ((((a k 2).toNatClampNeg + 40 - i) % 40) * 6 + w) = g (71 + 6 * i + w)
def WS (a : Mem) (k : Nat) : Prop := a k 2 = 0 ∧ a k 3 ≠ 0 ∨ a k 2 ≠ 0 ∧ a k 3 = 0
def HR (a : Mem) (k : Nat) (g : Nat → Int32) : Prop := a k 5 = g 0 ∧ a k 6 = g 1 ∧ a (k + 1) 1 = g 2 ∧ a (k + 1) 2 = g 3 ∧ a (k + 1) 3 = g 4 ∧ a (k + 1) 4 = g 5 ∧ a k 10 = g 6 ∧ a k 9 = g 7 ∧ a k 8 = g 9 ∧ nb (a k 4) = g 10 ∧ a k 7 = g 11 ∧ rI a (k + 1) = rl g
def StP (a : Mem) (k : Nat) (g : Nat → Int32) : Prop := WS a k ∧ HR a k g ∧ sI a (sdr k (a k 2)) = sl g 37 ∧ sI a (sdr k (a k 3)) = sl g 54 ∧ a (sdr k (a k 2)) 3 + a (sdr k (a k 3)) 3 = g 8 ∧ LG a (k + 3) g
theorem sdr_or {k : Nat} {x : Int32} : sdr k x = k + 5 ∨ sdr k x = k + 7 := by
  unfold sdr
  split
  · exact Or.inl rfl
  · exact Or.inr rfl
theorem sdr_W {a : Mem} {k : Nat} (h : WS a k) : (sdr k (a k 2) = k + 5 ∧ sdr k (a k 3) = k + 7) ∨ (sdr k (a k 2) = k + 7 ∧ sdr k (a k 3) = k + 5) := by
  unfold sdr
  rcases h with ⟨h1, h2⟩ | ⟨h1, h2⟩
  · rw [if_pos h1, if_neg h2]
    exact Or.inl ⟨rfl, rfl⟩
  · rw [if_neg h1, if_pos h2]
    exact Or.inr ⟨rfl, rfl⟩
theorem StP_fr {a a1 : Mem} {k : Nat} {g : Nat → Int32} (h : ∀ k1, k ≤ k1 → k1 < k + 9 → a1 k1 = a k1) (hs : StP a k g) : StP a1 k g := by
  have hk : a1 k = a k := h k (by omega) (by omega)
  have q : ∀ x, sI a1 (sdr k x) = sI a (sdr k x) ∧ a1 (sdr k x) = a (sdr k x) := by
    intro x
    rcases @sdr_or k x with e | e
    · rw [e]; exact ⟨sI_fr (h _ (by omega) (by omega)) (h _ (by omega) (by omega)), h _ (by omega) (by omega)⟩
    · rw [e]; exact ⟨sI_fr (h _ (by omega) (by omega)) (h _ (by omega) (by omega)), h _ (by omega) (by omega)⟩
  unfold StP WS HR LG at hs ⊢
  rw [hk, h (k + 1) (by omega) (by omega), h (k + 3) (by omega) (by omega), h (k + 3 + 1) (by omega) (by omega), (q (a k 2)).1, (q (a k 3)).1, (q (a k 2)).2, (q (a k 3)).2, rI_fr (h (k + 1 + 1) (by omega) (by omega))]
  exact hs
theorem sl_g {g g1 : Nat → Int32} {o : Nat} (h : ∀ j, j < 311 → g1 j = g j) (ho : o ≤ 54) : sl g1 o = sl g o := by
  funext i
  unfold sl
  split
  · exact h _ (by omega)
  · rfl
theorem rl_g {g g1 : Nat → Int32} (h : ∀ j, j < 311 → g1 j = g j) : rl g1 = rl g := by
  funext i
  unfold rl
  split
  · exact h _ (by omega)
  · rfl
theorem StP_g {a : Mem} {k : Nat} {g g1 : Nat → Int32} (h : ∀ j, j < 311 → g1 j = g j) (hs : StP a k g) : StP a k g1 := by
  obtain ⟨w, hr, s1, s2, m, l1, l2, l3, l4⟩ := hs
  unfold StP HR LG
  rw [sl_g h (by omega), sl_g h (by omega), rl_g h, h 0 (by omega), h 1 (by omega), h 2 (by omega), h 3 (by omega), h 4 (by omega), h 5 (by omega), h 6 (by omega), h 7 (by omega), h 8 (by omega), h 9 (by omega), h 10 (by omega), h 11 (by omega)]
  exact ⟨w, hr, s1, s2, m, l1, l2, l3, fun i w hi hi2 hw => (l4 i w hi hi2 hw).trans (h _ (by omega)).symm⟩
theorem VR_g {R R1 : Nat → Int32} {p e p1 e1 : Int32} (h1 : R1 = R) (h2 : p1 = p) (h3 : e1 = e) (h : VR R p e) : VR R1 p1 e1 := by rw [h1, h2, h3]; exact h
theorem c_cpy4 {a : Mem} {k r : Nat} (h1 : r ≠ k) (h2 : r ≠ k + 1) (h3 : r + 1 ≠ k) : (∀ k1, k1 ≠ k → k1 ≠ k + 1 → f_X4_copyFrom k r a k1 = a k1) ∧ f_X4_copyFrom k r a k 1 = a r 1 ∧ f_X4_copyFrom k r a k 2 = a r 2 ∧ f_X4_copyFrom k r a k 3 = a r 3 ∧ f_X4_copyFrom k r a k 4 = a r 4 ∧ rI (f_X4_copyFrom k r a) k = rI a r := by
  unfold f_X4_copyFrom
  dsimp only [bT]
  simp only [p2_n h1, R_n h2]
  refine ⟨fun k1 q1 q2 => by simp only [p2_n q1, R_n q2], ?_, ?_, ?_, ?_, ?_⟩
  · simp [up2, upR, upd]
  · simp [up2, upR, upd]
  · simp [up2, upR, upd]
  · simp [up2, upR, upd]
  · funext i
    unfold rI
    by_cases hi : i < 25
    · rw [if_pos hi, if_pos hi, p2_n (by omega), p2_n (by omega), p2_n (by omega), p2_n (by omega), R_s]
      unfold va_cpy
      rw [if_pos (by omega)]
      simp
    · rw [if_neg hi, if_neg hi]
theorem c_cpy1 {a : Mem} {k r : Nat} (h1 : r ≠ k) (h2 : r ≠ k + 1) (h3 : r + 1 ≠ k) : (∀ k1, k1 ≠ k → k1 ≠ k + 1 → f_X1_copyFrom k r a k1 = a k1) ∧ f_X1_copyFrom k r a k 1 = a r 1 ∧ f_X1_copyFrom k r a k 2 = a r 2 ∧ ∀ i, i < 240 → f_X1_copyFrom k r a (k + 1) i = a (r + 1) i := by
  unfold f_X1_copyFrom
  dsimp only [bT]
  simp only [p2_n h1, R_n h2]
  refine ⟨fun k1 q1 q2 => by simp only [p2_n q1, R_n q2], ?_, ?_, ?_⟩
  · simp [up2, upR, upd]
  · simp [up2, upR, upd]
  · intro i hi
    rw [p2_n (by omega), p2_n (by omega), R_s]
    unfold va_cpy
    rw [if_pos (by omega)]
    simp
theorem c_cpy5 {a : Mem} {k r : Nat} (h1 : r ≠ k) (h2 : r ≠ k + 1) (h3 : r + 1 ≠ k) : (∀ k1, k1 ≠ k → k1 ≠ k + 1 → f_X5_copyFrom k r a k1 = a k1) ∧ sI (f_X5_copyFrom k r a) k = sI a r := by
  unfold f_X5_copyFrom
  dsimp only [bT]
  simp only [p2_n h1, R_n h2]
  refine ⟨fun k1 q1 q2 => by simp only [p2_n q1, R_n q2], ?_⟩
  rw [sI_w12, sI_w11, sI_w10, sI_w9, sI_w8, sI_w7, sI_w6, sI_w5, sI_w4, sI_w3, sI_w2, sI_w1]
  funext i
  by_cases hi : i < 12
  · have : i = 0 ∨ i = 1 ∨ i = 2 ∨ i = 3 ∨ i = 4 ∨ i = 5 ∨ i = 6 ∨ i = 7 ∨ i = 8 ∨ i = 9 ∨ i = 10 ∨ i = 11 := by omega
    rcases this with rfl | rfl | rfl | rfl | rfl | rfl | rfl | rfl | rfl | rfl | rfl | rfl <;> simp [upd, sI_r1, sI_r2, sI_r3, sI_r4, sI_r5, sI_r6, sI_r7, sI_r8, sI_r9, sI_r10, sI_r11, sI_r12, nb_nb]
  · rw [u_n (by omega), u_n (by omega), u_n (by omega), u_n (by omega), u_n (by omega), u_n (by omega), u_n (by omega), u_n (by omega), u_n (by omega), u_n (by omega), u_n (by omega), u_n (by omega)]
    by_cases h17 : i < 17
    · obtain ⟨q, rfl⟩ : ∃ q, i = q + 12 := ⟨i - 12, by omega⟩
      rw [sI_rs (by omega), sI_rs (by omega), R_s]
      unfold va_cpy
      rw [if_pos (by omega)]
      simp
    · rw [sI_top (by omega), sI_top (by omega)]
theorem c_cpy6 {a : Mem} {k r : Nat} {g : Nat → Int32} (hd : k + 9 ≤ r ∨ r + 9 ≤ k) (hw : WS a k) (hs : StP a r g) : StP (f_X6_copyFrom k r a) k g ∧ (∀ k1, (k1 < k ∨ k + 9 ≤ k1) → f_X6_copyFrom k r a k1 = a k1) ∧ f_X6_copyFrom k r a k 2 = a k 2 ∧ f_X6_copyFrom k r a k 3 = a k 3 ∧ f_X6_copyFrom k r a k 11 = a k 11 := by
  obtain ⟨wr, ⟨h0, h1, h2, h3, h4, h5, h6, h7, h9, h10, h11, hR⟩, s1, s2, mm, l1, l2, l3, l4⟩ := hs
  obtain ⟨F4, p1, p2, p3, p4, p5⟩ := @c_cpy4 a (k + 1) (r + 1) (by omega) (by omega) (by omega)
  unfold f_X6_copyFrom
  dsimp only [bT]
  generalize f_X4_copyFrom (k + 1) (r + 1) a = a2 at F4 p1 p2 p3 p4 p5 ⊢
  obtain ⟨F1, q1, q2, q3⟩ := @c_cpy1 a2 (k + 3) (r + 3) (by omega) (by omega) (by omega)
  generalize f_X1_copyFrom (k + 3) (r + 3) a2 = a5 at F1 q1 q2 q3 ⊢
  have e5k : a5 k = a k := by rw [F1 k (by omega) (by omega), F4 k (by omega) (by omega)]
  have e5r : a5 r = a r := by rw [F1 r (by omega) (by omega), F4 r (by omega) (by omega)]
  have G5 : ∀ k1, k1 ≠ k + 1 → k1 ≠ k + 2 → k1 ≠ k + 3 → k1 ≠ k + 4 → a5 k1 = a k1 := by
    intro k1 z1 z2 z3 z4
    rw [F1 k1 z3 z4, F4 k1 z1 z2]
  have hk2 := @sdr_or k (a k 2)
  have hk3 := @sdr_or k (a k 3)
  have hkk := sdr_W hw
  have hr2 := @sdr_or r (a r 2)
  have hr3 := @sdr_or r (a r 3)
  rw [e5k, e5r]
  generalize hkw : sdr k (a k 2) = kw at hk2 hkk ⊢
  generalize hkb : sdr k (a k 3) = kb at hk3 hkk ⊢
  generalize sdr r (a r 2) = rw' at hr2 s1 mm ⊢
  generalize hrb : sdr r (a r 3) = rb at hr3 s2 mm ⊢
  obtain ⟨F8, u8⟩ := @c_cpy5 a5 kw rw' (by omega) (by omega) (by omega)
  generalize f_X5_copyFrom kw rw' a5 = a8 at F8 u8 ⊢
  have e8k : a8 k = a k := by rw [F8 k (by omega) (by omega), e5k]
  have e8r : a8 r = a r := by rw [F8 r (by omega) (by omega), e5r]
  rw [e8k, e8r, hkb, hrb]
  obtain ⟨F11, u11⟩ := @c_cpy5 a8 kb rb (by omega) (by omega) (by omega)
  generalize f_X5_copyFrom kb rb a8 = a11 at F11 u11 ⊢
  have e11k : a11 k = a k := by rw [F11 k (by omega) (by omega), e8k]
  have e11r : a11 r = a r := by rw [F11 r (by omega) (by omega), e8r]
  have hrk : r ≠ k := by omega
  simp only [p2_n hrk, e11r]
  generalize hz : up2 (up2 (up2 (up2 (up2 (up2 (up2 a11 k 4 (nb (a r 4))) k 5 (a r 5)) k 6 (a r 6)) k 7 (a r 7)) k 8 (a r 8)) k 9 (a r 9)) k 10 (a r 10) = a25
  have F25 : ∀ k1, k1 ≠ k → a25 k1 = a11 k1 := by
    intro k1 z
    rw [← hz]
    simp only [p2_n z]
  have K : ∀ j, a25 k j = if j = 10 then a r 10 else if j = 9 then a r 9 else if j = 8 then a r 8 else if j = 7 then a r 7 else if j = 6 then a r 6 else if j = 5 then a r 5 else if j = 4 then nb (a r 4) else a k j := by
    intro j
    rw [← hz, ← e11k]
    simp only [up2, upR, upd, Nat.reduceEqDiff, reduceIte]
  have k2 : a25 k 2 = a k 2 := by rw [K]; rfl
  have k3 : a25 k 3 = a k 3 := by rw [K]; rfl
  have k11 : a25 k 11 = a k 11 := by rw [K]; rfl
  have g1 : ∀ k1, k1 ≠ k → k1 ≠ kw → k1 ≠ kw + 1 → k1 ≠ kb → k1 ≠ kb + 1 → a25 k1 = a5 k1 := by
    intro k1 z1 z2 z3 z4 z5
    rw [F25 k1 z1, F11 k1 z4 z5, F8 k1 z2 z3]
  have x1 : a25 (k + 1) = a2 (k + 1) := by rw [g1 _ (by omega) (by omega) (by omega) (by omega) (by omega), F1 _ (by omega) (by omega)]
  have x2 : a25 (k + 1 + 1) = a2 (k + 1 + 1) := by rw [g1 _ (by omega) (by omega) (by omega) (by omega) (by omega), F1 _ (by omega) (by omega)]
  have x3 : a25 (k + 3) = a5 (k + 3) := g1 _ (by omega) (by omega) (by omega) (by omega) (by omega)
  have x4 : a25 (k + 3 + 1) = a5 (k + 3 + 1) := g1 _ (by omega) (by omega) (by omega) (by omega) (by omega)
  have sw : sI a25 kw = sI a rw' := by
    rw [sI_fr (F25 kw (by omega)) (F25 (kw + 1) (by omega)), sI_fr (F11 kw (by omega) (by omega)) (F11 (kw + 1) (by omega) (by omega)), u8, sI_fr (G5 rw' (by omega) (by omega) (by omega) (by omega)) (G5 (rw' + 1) (by omega) (by omega) (by omega) (by omega))]
  have sb : sI a25 kb = sI a rb := by
    rw [sI_fr (F25 kb (by omega)) (F25 (kb + 1) (by omega)), u11, sI_fr (F8 rb (by omega) (by omega)) (F8 (rb + 1) (by omega) (by omega)), sI_fr (G5 rb (by omega) (by omega) (by omega) (by omega)) (G5 (rb + 1) (by omega) (by omega) (by omega) (by omega))]
  have r3 : a2 (r + 3) = a (r + 3) := F4 _ (by omega) (by omega)
  have r4 : a2 (r + 3 + 1) = a (r + 3 + 1) := F4 _ (by omega) (by omega)
  refine ⟨⟨?_, ⟨?_, ?_, ?_, ?_, ?_, ?_, ?_, ?_, ?_, ?_, ?_, ?_⟩, ?_, ?_, ?_, ?_, ?_, ?_, ?_⟩, ?_, k2, k3, k11⟩
  · unfold WS; rw [k2, k3]; exact hw
  · rw [K]; exact h0
  · rw [K]; exact h1
  · rw [x1, p1, h2]
  · rw [x1, p2, h3]
  · rw [x1, p3, h4]
  · rw [x1, p4, h5]
  · rw [K]; exact h6
  · rw [K]; exact h7
  · rw [K]; exact h9
  · rw [K]
    show nb (nb (a r 4)) = g 10
    rw [nb_nb, h10]
  · rw [K]; exact h11
  · rw [rI_fr x2, p5, hR]
  · rw [k2, hkw, sw, s1]
  · rw [k3, hkb, sb, s2]
  · rw [k2, k3, hkw, hkb]
    have e1 : a25 kw 3 = sI a25 kw 1 := rfl
    have e2 : a25 kb 3 = sI a25 kb 1 := rfl
    rw [e1, e2, sw, sb]
    exact mm
  · rw [x3, q1, r3]; exact l1
  · rw [x3, q2, r3]; exact l2
  · rw [x3, q2, r3]; exact l3
  · intro i w hi hi2 hw'
    rw [x3, x4, q2, r3, q3 _ (by omega), r4]
    exact l4 i w hi hi2 hw'
  · intro k1 hk1
    rw [g1 k1 (by omega) (by omega) (by omega) (by omega) (by omega), G5 k1 (by omega) (by omega) (by omega) (by omega)]

