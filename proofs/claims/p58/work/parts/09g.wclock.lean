theorem f_71b {N : Nat} {p : Int32} : ∀ (fu : Nat) (x : Int32) (b : Mem), f_X9_writeClock_71b N p fu x b = f_X9_writeClock_71 N p fu x b := by
  intro fu
  induction fu with
  | zero => intro x b; rfl
  | succ fu ih =>
    intro x b
    rw [f_X9_writeClock_71b_s, f_X9_writeClock_71_s]
    simp only [ih]
theorem w_side {t : Int} {a0 : Mem} {g : Nat → Int32} {n : Nat} {a b : Mem} {p : Int32} (h : WRT t a0 g n a b) (hp : p = 0 ∨ p = 1) : (f_X6_sideOf 8 p a = 13 ∨ f_X6_sideOf 8 p a = 15) ∧ f_X6_sideOf 8 p a = f_X6_sideOf 8 p a0 ∧ sI a (f_X6_sideOf 8 p a0) = sl g (oS p) ∧ VS (120000 * (t + 1)) (9999 * t) t (rl g) (g 2) (g 4) (sl g (oS p)) ∧ b 0 3 = 0 := by
  obtain ⟨k, hk, hk2, hS, hV⟩ := REL_side h.1 hp
  have e : f_X6_sideOf 8 p a = f_X6_sideOf 8 p a0 := by
    unfold f_X6_sideOf
    rw [h.2.2.2 8 (by omega) (by omega)]
  refine ⟨by rw [hk]; exact hk2, e, ?_, ?_, h.1.1⟩
  · rw [← e, hk, hS, h.2.2.1]
  · rw [← h.2.2.1]
    exact hV
theorem w_ext {t : Int} {a0 : Mem} {g : Nat → Int32} {N : Nat} {p : Int32} (hp : p = 0 ∨ p = 1) : ∀ (d n fu fu' : Nat) (x : Int32) (a b : Mem), 0 ≤ x.toInt → (sl g (oS p) 4).toInt = x.toInt + d → (sl g (oS p) 4).toInt ≤ 9 → WRT t a0 g n a b → n + d ≤ 256 → d + 1 ≤ fu → d + 1 ≤ fu' → ∃ a1 b1, f_X8_writeSide_88 N p (f_X6_sideOf 8 p a0) fu x a = (if p = g 1 then some (f_X2_add 42 a1) else some a1) ∧ f_X9_writeClock_71 N p fu' x b = some b1 ∧ WRT t a0 g (n + d) a1 b1 := by
  have e1 : (1 : Int32).toInt = 1 := rfl
  intro d
  induction d with
  | zero =>
    intro n fu fu' x a b hx he h9 h hn hf hf'
    obtain ⟨f, rfl⟩ : ∃ f, fu = f + 1 := ⟨fu - 1, by omega⟩
    obtain ⟨f', rfl⟩ : ∃ f, fu' = f + 1 := ⟨fu' - 1, by omega⟩
    obtain ⟨hk2, hke, hS, hV, hb3⟩ := w_side h hp
    have e5 : a (f_X6_sideOf 8 p a0) 5 = sl g (oS p) 4 := by
      have : sI a (f_X6_sideOf 8 p a0) 4 = sl g (oS p) 4 := by rw [hS]
      exact this
    have e6 : a 8 6 = g 1 := by
      have := h.1.2.1.2.1.2.1
      rw [← h.2.2.1]
      exact this
    rw [f_X8_writeSide_88_s, f_X9_writeClock_71_s, r_of hb3 hp (by decide) (by decide), b_P, e5, h.2.2.1]
    have hle : sl g (oS p) 4 ≤ x := by rw [z_le]; omega
    rw [if_pos hle, if_pos (show sl g (oS p) ((4 : Int32).toNatClampNeg) ≤ x from hle), e6]
    exact ⟨a, b, rfl, rfl, h⟩
  | succ d ih =>
    intro n fu fu' x a b hx he h9 h hn hf hf'
    obtain ⟨f, rfl⟩ : ∃ f, fu = f + 1 := ⟨fu - 1, by omega⟩
    obtain ⟨f', rfl⟩ : ∃ f, fu' = f + 1 := ⟨fu' - 1, by omega⟩
    obtain ⟨hk2, hke, hS, hV, hb3⟩ := w_side h hp
    have e5 : a (f_X6_sideOf 8 p a0) 5 = sl g (oS p) 4 := by
      have : sI a (f_X6_sideOf 8 p a0) 4 = sl g (oS p) 4 := by rw [hS]
      exact this
    rw [f_X8_writeSide_88_s, f_X9_writeClock_71_s, r_of hb3 hp (by decide) (by decide), b_P, e5, h.2.2.1]
    have hle : ¬ sl g (oS p) 4 ≤ x := by rw [z_le]; omega
    rw [if_neg hle, if_neg (show ¬ sl g (oS p) ((4 : Int32).toNatClampNeg) ≤ x from hle)]
    obtain ⟨b1, w1, w2⟩ := @w_add t a0 g N n 43 a b (by omega) h
    have ex : (x + (1 : Int32)).toInt = x.toInt + 1 := by rw [z_add (by rw [e1]; omega) (by rw [e1]; omega), e1]
    obtain ⟨a2, b2, r1, r2, r3⟩ := ih (n + 1) f f' (x + 1) (f_X2_add 43 a) b1 (by omega) (by omega) h9 w2 (by omega) (by omega) (by omega)
    rw [w1, b_P]
    refine ⟨a2, b2, r1, r2, ?_⟩
    rw [show n + (d + 1) = n + 1 + d by omega]
    exact r3
theorem w_sid {t : Int} {a0 : Mem} {g : Nat → Int32} {N n : Nat} {p : Int32} {a b : Mem} (ht0 : 0 ≤ t) (ht : t ≤ 512) (hN : 20 ≤ N) (hp : p = 0 ∨ p = 1) (h : WRT t a0 g n a b) (hn : n + 40 ≤ 256) : ∃ (m : Nat) (a1 b1 : Mem), n + 1 ≤ m ∧ m ≤ n + 25 ∧ f_X8_writeSide N p a = some a1 ∧ WRT t a0 g m a1 b1 ∧ ∀ (fu : Nat) (b0 : Mem), f_X9_space N b0 = some b → f_X9_writeClock_12 N (fu + 1) p b0 = f_X9_writeClock_12 N fu (p + 1) b1 := by
  have e0 : (0 : Int32).toInt = 0 := rfl
  have e60 : (60 : Int32).toInt = 60 := rfl
  have e36 : (3600 : Int32).toInt = 3600 := rfl
  have p4e : ((10 ^ 4 : Nat) : Int) = 10000 := rfl
  have h2p : ¬ (2 : Int32) ≤ p := by rcases hp with rfl | rfl <;> decide
  obtain ⟨hk2, hke, hS, hV, hb3⟩ := w_side h hp
  have hl := hV.1
  have hx9 := hV.2.2.2.1
  clear hV
  have e1 : a (f_X6_sideOf 8 p a0) 1 = sl g (oS p) 0 := by
    have : sI a (f_X6_sideOf 8 p a0) 0 = sl g (oS p) 0 := by rw [hS]
    exact this
  have hbig : (sl g (oS p) 0).toInt ≤ 61560000 := by omega
  have hsec := z_sec hl.1 (by omega)
  unfold f_X8_writeSide f_X8_writeSide_85
  have hrs : f_X9_secondsOf N p b = some ((sl g (oS p) 0 + (9 : Int32)) / (10 : Int32)) := by
    unfold f_X9_secondsOf
    rw [r_of hb3 hp (by decide) (by decide), b_P, h.2.2.1]
    rfl
  rw [hke]
  have hcs : f_X5_secondsLeft (f_X6_sideOf 8 p a0) a = (sl g (oS p) 0 + (9 : Int32)) / (10 : Int32) := by
    unfold f_X5_secondsLeft
    rw [e1]
    exact hsec.1
  simp only [b_T]
  rw [hcs]
  have hsv := hsec.2
  generalize (sl g (oS p) 0 + (9 : Int32)) / (10 : Int32) = s at hsv hrs ⊢
  have hs0 : 0 ≤ s.toInt := by omega
  have hs1 : s.toInt ≤ 6157000 := by omega
  have d1 : (s / 3600).toInt = s.toInt / 3600 := by rw [z_div hs0 (by decide), e36]
  have d2 : (s / 60).toInt = s.toInt / 60 := by rw [z_div hs0 (by decide), e60]
  have d3 : ((s / (60 : Int32)) - (s / (60 : Int32)) / (60 : Int32) * (60 : Int32)).toInt = (s.toInt / 60) % 60 := by rw [z_rem (by omega) (by decide), d2, e60]
  have d4 : (s - s / (60 : Int32) * (60 : Int32)).toInt = s.toInt % 60 := by rw [z_rem (by omega) (by decide), e60]
  obtain ⟨k1, a1, b1, -, j1, q1, r1, w1⟩ := @w_num t a0 g N n 4 (s / 3600) a b hN (by rw [p4e, d1]; omega) (by rw [p4e, d1]; omega) (by omega) (by omega) h (by omega)
  have hj1 := j1 (by rw [d1]; omega)
  obtain ⟨m2, a2, b2, j2, j2', q2, r2, w2⟩ := @w_two t a0 g N (n + k1) ((s / (60 : Int32)) - (s / (60 : Int32)) / (60 : Int32) * (60 : Int32)) a1 b1 hN (by rw [d3]; omega) (by rw [d3]; omega) w1 (by omega)
  obtain ⟨m3, a3, b3, j3, j3', q3, r3, w3⟩ := @w_two t a0 g N m2 (s - s / (60 : Int32) * (60 : Int32)) a2 b2 hN (by rw [d4]; omega) (by rw [d4]; omega) w2 (by omega)
  obtain ⟨-, -, hS3, hV3, hb33⟩ := w_side w3 hp
  have hf8 : nb (a3 (f_X6_sideOf 8 p a0) 9) = sl g (oS p) 8 := by
    have : sI a3 (f_X6_sideOf 8 p a0) 8 = sl g (oS p) 8 := by rw [hS3]
    exact this
  have h801 : sl g (oS p) 8 = 0 ∨ sl g (oS p) 8 = 1 := hV3.2.2.2.2.2.2.2.1
  clear hV3
  have hfl : f_X9_fell N p b3 = some (if sl g (oS p) 8 = 1 then 1 else 0) := by rw [r_fl hb33 hp, w3.2.2.1]
  have hgo : ∀ (m4 : Nat) (a4 b4 : Mem), m4 ≤ n + 11 + 1 → WRT t a0 g m4 a4 b4 → ∃ (m5 : Nat) (a5 b5 : Mem), m4 ≤ m5 ∧ m5 ≤ m4 + 10 ∧ f_X8_writeSide_88 N p (f_X6_sideOf 8 p a0) N 0 a4 = some a5 ∧ WRT t a0 g m5 a5 b5 ∧ ∀ (fu : Nat), (bP (f_X9_writeClock_71 N p N (0 : Int32) b4) fun b40 => bP (f_X9_mover N b40) fun x43 => if x43 = p then (bP (f_X9_write N (42 : Int32) b40) fun b49 => (f_X9_writeClock_12 N fu (p + (1 : Int32)) b49)) else (f_X9_writeClock_12 N fu (p + (1 : Int32)) b40)) = f_X9_writeClock_12 N fu (p + 1) b5 := by
    intro m4 a4 b4 hm4 w4
    obtain ⟨a5, b5, r4, r5, w5⟩ := @w_ext t a0 g N p hp (sl g (oS p) 4).toInt.toNat m4 N N 0 a4 b4 (by rw [e0]; omega) (by rw [e0]; omega) hx9.2 w4 (by omega) (by omega) (by omega)
    rw [r4]
    simp only [r5, b_P, r_mv w5.1.1, w5.2.2.1]
    by_cases hpm : g 1 = p
    · rw [if_pos hpm.symm]
      obtain ⟨b6, v1, v2⟩ := @w_add t a0 g N (m4 + (sl g (oS p) 4).toInt.toNat) 42 a5 b5 (by omega) w5
      simp only [if_pos hpm, v1, b_P]
      exact ⟨_, _, b6, by omega, by omega, rfl, v2, fun fu => rfl⟩
    · rw [if_neg (fun z => hpm z.symm)]
      simp only [if_neg hpm]
      exact ⟨_, _, b5, by omega, by omega, rfl, w5, fun fu => rfl⟩
  rw [q1, b_P, q2, b_P, q3, b_P, hf8]
  rcases h801 with z8 | z8
  · obtain ⟨m5, a5, b5, l1, l2, c1, w5, c2⟩ := hgo m3 a3 b3 (by omega) w3
    rw [z8, if_pos rfl]
    refine ⟨m5, a5, b5, by omega, by omega, c1, w5, fun fu b0 hb0 => ?_⟩
    rw [f_X9_writeClock_12_s, if_neg h2p, hb0, b_P, hrs, b_P, r1, b_P, r2, b_P, r3, b_P, hfl, b_P, z8, if_neg (show ¬ (0 : Int32) = 1 by decide), if_pos rfl]
    simp only [b_T]
    exact c2 fu
  · obtain ⟨b4, u1, u2⟩ := @w_add t a0 g N m3 33 a3 b3 (by omega) w3
    obtain ⟨m5, a5, b5, l1, l2, c1, w5, c2⟩ := hgo (m3 + 1) _ b4 (by omega) u2
    rw [z8, if_neg (show ¬ (1 : Int32) = 0 by decide)]
    refine ⟨m5, a5, b5, by omega, by omega, c1, w5, fun fu b0 hb0 => ?_⟩
    rw [f_X9_writeClock_12_s, if_neg h2p, hb0, b_P, hrs, b_P, r1, b_P, r2, b_P, r3, b_P, hfl, b_P, z8, if_pos rfl, if_neg (show ¬ (1 : Int32) = 0 by decide), u1, b_P, f_71b]
    simp only [b_T]
    exact c2 fu
theorem an_writeClock {t : Int} {N : Nat} {a b : Mem} (ht0 : 0 ≤ t) (ht : t ≤ 512) (hN : 20 ≤ N) (h : REL t a b) : ∃ y b', f_X9_writeClock N b = some (y, b') ∧ ∃ a', f_X8_writeClock N a = some (y, a') ∧ REL t a' b' := by
  have e0 : (0 : Int32).toInt = 0 := rfl
  have w0 := w_new h
  obtain ⟨m1, a1, b1, l1, l1', q1, w1, c1⟩ := @w_sid t a (b 1) N 0 0 _ _ ht0 ht hN (Or.inl rfl) w0 (by omega)
  obtain ⟨b2, u1, w2⟩ := @w_add t a (b 1) N m1 32 a1 b1 (by omega) w1
  obtain ⟨m3, a3, b3, l3, l3', q3, w3, c3⟩ := @w_sid t a (b 1) N (m1 + 1) 1 _ b2 ht0 ht hN (Or.inr rfl) w2 (by omega)
  unfold f_X9_writeClock f_X8_writeClock
  simp only [b_T]
  rw [q1, b_P, q3, b_P]
  obtain ⟨f, hf⟩ : ∃ f, N = f + 3 := ⟨N - 3, by omega⟩
  have e : ∀ b9, f_X9_writeClock_12 N N 0 b9 = f_X9_writeClock_12 N (f + 1 + 1 + 1) 0 b9 := fun b9 => by rw [show f + 1 + 1 + 1 = N by omega]
  have sp0 : f_X9_space N (up2 (up2 b 0 0 0) 0 29 0) = some (up2 (up2 b 0 0 0) 0 29 0) := by
    unfold f_X9_space
    rw [p2_s, u_s, if_pos (by decide)]
  have sp1 : f_X9_space N b1 = some b2 := by
    unfold f_X9_space
    rw [w1.2.1.2.1, if_neg (show ¬ nI m1 ≤ 0 by rw [z_le, z_nI (by omega), e0]; omega), bP_id]
    exact u1
  rw [e, c1 (f + 1 + 1) _ sp0, show (0 : Int32) + 1 = 1 by decide, c3 (f + 1) _ sp1, show (1 : Int32) + 1 = 2 by decide, f_X9_writeClock_12_s, if_pos (by decide)]
  exact ⟨_, b3, rfl, a3, by rw [w3.2.1.1, w3.2.1.2.1], w3.1⟩

