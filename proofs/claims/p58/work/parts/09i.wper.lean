def PCB (N fu : Nat) (x3 : Int32) (a4 : Mem) : Option (Int32 × Mem) := bP (f_X8_writeMovesOf N x3 a4) fun a43 => bT (f_X2_add (47 : Int32) a43) fun a46 => bT (f_X4_number 9 x3 (1 : Int32) a46) fun x49 => bP (f_X2_addNumber N x49 a46) fun a52 => bT (f_X4_number 9 x3 (2 : Int32) a52) fun x55 => bP (f_X2_addUnlessZero N (43 : Int32) x55 a52) fun a58 => bT (f_X4_number 9 x3 (3 : Int32) a58) fun x61 => bP (f_X2_addUnlessZero N (100 : Int32) x61 a58) fun a64 => bT (f_X4_number 9 x3 (4 : Int32) a64) fun x67 => bP (f_X2_addUnlessZero N (98 : Int32) x67 a64) fun a70 => bT (x3 + (1 : Int32)) fun x72 => f_X8_writePeriods_10 N fu x72 a70
def PRB (N fu : Nat) (x5 : Int32) (b9 : Mem) : Option (Int32 × Mem) := bP (f_X9_ofPeriod N x5 (0 : Int32) b9) fun x12 => if x12 = 0 then (bP (f_X9_write N (114 : Int32) b9) fun b51 => bP (f_X9_write N (47 : Int32) b51) fun b54 => bP (f_X9_ofPeriod N x5 (1 : Int32) b54) fun x57 => bP (f_X9_writeInt N x57 b54) fun b60 => bP (f_X9_ofPeriod N x5 (2 : Int32) b60) fun x63 => bP (f_X9_writeIf N (43 : Int32) x63 b60) fun b66 => bP (f_X9_ofPeriod N x5 (3 : Int32) b66) fun x69 => bP (f_X9_writeIf N (100 : Int32) x69 b66) fun b72 => bP (f_X9_ofPeriod N x5 (4 : Int32) b72) fun x75 => bP (f_X9_writeIf N (98 : Int32) x75 b72) fun b78 => bT (x5 + (1 : Int32)) fun x80 => f_X9_writePeriods_12 N fu x80 b78) else (bP (f_X9_ofPeriod N x5 (0 : Int32) b9) fun x16 => bP (f_X9_writeInt N x16 b9) fun b19 => bP (f_X9_write N (47 : Int32) b19) fun b22 => bP (f_X9_ofPeriod N x5 (1 : Int32) b22) fun x25 => bP (f_X9_writeInt N x25 b22) fun b28 => bP (f_X9_ofPeriod N x5 (2 : Int32) b28) fun x31 => bP (f_X9_writeIf N (43 : Int32) x31 b28) fun b34 => bP (f_X9_ofPeriod N x5 (3 : Int32) b34) fun x37 => bP (f_X9_writeIf N (100 : Int32) x37 b34) fun b40 => bP (f_X9_ofPeriod N x5 (4 : Int32) b40) fun x43 => bP (f_X9_writeIf N (98 : Int32) x43 b40) fun b46 => bT (x5 + (1 : Int32)) fun x48 => f_X9_writePeriods_12 N fu x48 b46)
theorem w_ptail {t : Int} {a0 : Mem} {g : Nat → Int32} {N n i : Nat} {a b : Mem} (hN : 20 ≤ N) (hi : i < 5) (hi2 : (i : Int) < (g 2).toInt) (h : WRT t a0 g n a b) (hn : n + 22 ≤ 256) : ∃ (m : Nat) (a1 b1 : Mem), n ≤ m ∧ m ≤ n + 17 ∧ WRT t a0 g m a1 b1 ∧ (∀ C : Mem → Option (Int32 × Mem), (bT (f_X4_number 9 (nI i) (1 : Int32) a) fun x49 => bP (f_X2_addNumber N x49 a) fun a52 => bT (f_X4_number 9 (nI i) (2 : Int32) a52) fun x55 => bP (f_X2_addUnlessZero N (43 : Int32) x55 a52) fun a58 => bT (f_X4_number 9 (nI i) (3 : Int32) a58) fun x61 => bP (f_X2_addUnlessZero N (100 : Int32) x61 a58) fun a64 => bT (f_X4_number 9 (nI i) (4 : Int32) a64) fun x67 => bP (f_X2_addUnlessZero N (98 : Int32) x67 a64) C) = C a1) ∧ (∀ C : Mem → Option (Int32 × Mem), (bP (f_X9_ofPeriod N (nI i) (1 : Int32) b) fun x57 => bP (f_X9_writeInt N x57 b) fun b60 => bP (f_X9_ofPeriod N (nI i) (2 : Int32) b60) fun x63 => bP (f_X9_writeIf N (43 : Int32) x63 b60) fun b66 => bP (f_X9_ofPeriod N (nI i) (3 : Int32) b66) fun x69 => bP (f_X9_writeIf N (100 : Int32) x69 b66) fun b72 => bP (f_X9_ofPeriod N (nI i) (4 : Int32) b72) fun x75 => bP (f_X9_writeIf N (98 : Int32) x75 b72) C) = C b1) := by
  have p5e : ((10 ^ 5 : Nat) : Int) = 100000 := rfl
  have p3e : ((10 ^ 3 : Nat) : Int) = 1000 := rfl
  have ei : (nI i).toInt = i := z_nI (by omega)
  obtain ⟨-, -, -, -, hVR⟩ := REL_rules h.1
  rw [h.2.2.1] at hVR
  obtain ⟨-, -, -, -, hq⟩ := hVR
  obtain ⟨-, q1, q2, q3, q4⟩ := hq i hi2
  clear hq
  have hc : ∀ {n' : Nat} {a' b' : Mem}, WRT t a0 g n' a' b' → ∀ w : Int32, 0 ≤ w.toInt → w.toInt < 5 → f_X4_number 9 (nI i) w a' = rl g (5 * i + w.toNatClampNeg) ∧ f_X9_ofPeriod N (nI i) w b' = some (rl g (5 * i + w.toNatClampNeg)) := by
    intro n' a' b' hw w h1 h2
    obtain ⟨h03, hR, -, -, -⟩ := REL_rules hw.1
    rw [c_num (by rw [ei]; omega) (by rw [ei]; omega) h1 h2, r_ofP h03 (by rw [ei]; omega) (by rw [ei]; omega) h1 h2, hR, hw.2.2.1]
    unfold rn
    rw [z_tN (by omega)]
    exact ⟨rfl, rfl⟩
  obtain ⟨u1, u2⟩ := hc h 1 (by decide) (by decide)
  obtain ⟨k1, a1, b1, -, j1, s1, r1, w1⟩ := @w_num t a0 g N n 5 (rl g (5 * i + 1)) a b hN (by rw [p5e]; omega) (by rw [p5e]; omega) (by omega) (by omega) h (by omega)
  have hj1 := j1 (by omega)
  obtain ⟨u3, u4⟩ := hc w1 2 (by decide) (by decide)
  obtain ⟨k2, a2, b2, -, j2, s2, r2, w2⟩ := @w_if t a0 g N (n + k1) 3 43 (rl g (5 * i + 2)) a1 b1 hN (by rw [p3e]; omega) (by rw [p3e]; omega) (by omega) (by omega) w1 (by omega)
  have hj2 := j2 q2.1
  obtain ⟨u5, u6⟩ := hc w2 3 (by decide) (by decide)
  obtain ⟨k3, a3, b3, -, j3, s3, r3, w3⟩ := @w_if t a0 g N (n + k1 + k2) 3 100 (rl g (5 * i + 3)) a2 b2 hN (by rw [p3e]; omega) (by rw [p3e]; omega) (by omega) (by omega) w2 (by omega)
  have hj3 := j3 q3.1
  obtain ⟨u7, u8⟩ := hc w3 4 (by decide) (by decide)
  obtain ⟨k4, a4, b4, -, j4, s4, r4, w4⟩ := @w_if t a0 g N (n + k1 + k2 + k3) 3 98 (rl g (5 * i + 4)) a3 b3 hN (by rw [p3e]; omega) (by rw [p3e]; omega) (by omega) (by omega) w3 (by omega)
  have hj4 := j4 q4.1
  have n1 : (1 : Int32).toNatClampNeg = 1 := rfl
  have n2 : (2 : Int32).toNatClampNeg = 2 := rfl
  have n3 : (3 : Int32).toNatClampNeg = 3 := rfl
  have n4 : (4 : Int32).toNatClampNeg = 4 := rfl
  rw [n1] at u1 u2
  rw [n2] at u3 u4
  rw [n3] at u5 u6
  rw [n4] at u7 u8
  refine ⟨_, a4, b4, by omega, by omega, w4, fun C => ?_, fun C => ?_⟩
  · rw [u1, b_T, s1, b_P, u3, b_T, s2, b_P, u5, b_T, s3, b_P, u7, b_T, s4, b_P]
  · rw [u2, b_P, r1, b_P, u4, b_P, r2, b_P, u6, b_P, r3, b_P, u8, b_P, r4, b_P]
theorem w_per {t : Int} {a0 : Mem} {g : Nat → Int32} {N n i : Nat} {a b : Mem} (hN : 20 ≤ N) (hi : i < 5) (hi2 : (i : Int) < (g 2).toInt) (h : WRT t a0 g n a b) (hn : n + 26 ≤ 256) : ∃ (m : Nat) (a1 b1 : Mem), n + 1 ≤ m ∧ m ≤ n + 20 ∧ WRT t a0 g m a1 b1 ∧ (∀ fu : Nat, PCB N fu (nI i) a = f_X8_writePeriods_10 N fu (nI i + (1 : Int32)) a1) ∧ (∀ fu : Nat, PRB N fu (nI i) b = f_X9_writePeriods_12 N fu (nI i + (1 : Int32)) b1) := by
  have p2e : ((10 ^ 2 : Nat) : Int) = 100 := rfl
  have ei : (nI i).toInt = i := z_nI (by omega)
  obtain ⟨h03, hR, -, -, hVR⟩ := REL_rules h.1
  rw [h.2.2.1] at hVR hR
  obtain ⟨-, -, -, -, hq⟩ := hVR
  obtain ⟨q0, -⟩ := hq i hi2
  clear hq
  have n0 : (0 : Int32).toNatClampNeg = 0 := rfl
  have u0 : rn (rl g) (nI i) 0 = rl g (5 * i) := by
    unfold rn
    rw [z_tN (by omega)]
    rfl
  have u1 : f_X4_number 9 (nI i) 0 a = rl g (5 * i) := by rw [c_num (by rw [ei]; omega) (by rw [ei]; omega) (by decide) (by decide), hR, n0, u0]
  have u2 : f_X9_ofPeriod N (nI i) 0 b = some (rl g (5 * i)) := by rw [r_ofP h03 (by rw [ei]; omega) (by rw [ei]; omega) (by decide) (by decide), h.2.2.1, n0, u0]
  have u3 : f_X4_isEndless 9 (nI i) a = if rl g (5 * i) = 0 then 1 else 0 := by rw [c_end (by rw [ei]; omega) (by rw [ei]; omega), hR, u0]
  unfold PCB PRB f_X8_writeMovesOf
  simp only [Nat.reduceAdd]
  rw [u3, u1, u2]
  simp only [b_P, b_T, bP_id]
  by_cases hz : rl g (5 * i) = 0
  · obtain ⟨b1, s1, w1⟩ := @w_add t a0 g N n 114 a b (by omega) h
    obtain ⟨b2, s2, w2⟩ := @w_add t a0 g N (n + 1) 47 _ b1 (by omega) w1
    obtain ⟨m, a3, b3, l1, l2, w3, hc, hr⟩ := @w_ptail t a0 g N (n + 1 + 1) i _ b2 hN hi hi2 w2 (by omega)
    refine ⟨m, a3, b3, by omega, by omega, w3, fun fu => ?_, fun fu => ?_⟩
    · rw [if_pos hz, if_neg (show ¬ (1 : Int32) = 0 by decide), b_P]
      exact hc fun a70 => f_X8_writePeriods_10 N fu (nI i + (1 : Int32)) a70
    · rw [if_pos hz, s1, b_P, s2, b_P]
      exact hr fun b78 => f_X9_writePeriods_12 N fu (nI i + (1 : Int32)) b78
  · obtain ⟨k, a1, b1, -, j, s1, r1, w1⟩ := @w_num t a0 g N n 2 (rl g (5 * i)) a b hN (by rw [p2e]; omega) (by rw [p2e]; omega) (by omega) (by omega) h (by omega)
    have hj := j q0.1
    obtain ⟨b2, s2, w2⟩ := @w_add t a0 g N (n + k) 47 _ b1 (by omega) w1
    obtain ⟨m, a3, b3, l1, l2, w3, hc, hr⟩ := @w_ptail t a0 g N (n + k + 1) i _ b2 hN hi hi2 w2 (by omega)
    refine ⟨m, a3, b3, by omega, by omega, w3, fun fu => ?_, fun fu => ?_⟩
    · rw [if_neg hz, if_pos rfl, s1, b_P]
      exact hc fun a70 => f_X8_writePeriods_10 N fu (nI i + (1 : Int32)) a70
    · rw [if_neg hz, r1, b_P, s2, b_P]
      exact hr fun b78 => f_X9_writePeriods_12 N fu (nI i + (1 : Int32)) b78
theorem w_pers {t : Int} {a0 : Mem} {g : Nat → Int32} {N : Nat} (hN : 20 ≤ N) : ∀ (d i n fu : Nat) (a b : Mem), (i : Int) + d = (g 2).toInt → i + d ≤ 5 → (i = 0 ∧ n = 0 ∨ 1 ≤ i ∧ 1 ≤ n) → WRT t a0 g n a b → n + 21 * d + 8 ≤ 256 → d + 1 ≤ fu → ∃ (y : Int32) (a1 b1 : Mem), f_X8_writePeriods_10 N fu (nI i) a = some (y, a1) ∧ f_X9_writePeriods_12 N fu (nI i) b = some (y, b1) ∧ REL t a1 b1 := by
  have e0 : (0 : Int32).toInt = 0 := rfl
  intro d
  induction d with
  | zero =>
    intro i n fu a b hd hd5 hc h hn hf
    obtain ⟨f, rfl⟩ : ∃ f, fu = f + 1 := ⟨fu - 1, by omega⟩
    obtain ⟨-, -, h91, -, -⟩ := REL_rules h.1
    have h91' : a 9 1 = g 2 := by rw [h91, h.2.2.1]
    have h12 : b 1 ((2 : Int32).toNatClampNeg) = g 2 := by rw [h.2.2.1]; rfl
    have hle : g 2 ≤ nI i := by rw [z_le, z_nI (by omega)]; omega
    rw [f_X8_writePeriods_10_s, f_X9_writePeriods_12_s, h12]
    simp only [Nat.reduceAdd]
    rw [h91', if_pos hle, if_pos hle]
    exact ⟨_, a, b, rfl, by rw [h.2.1.1, h.2.1.2.1], h.1⟩
  | succ d ih =>
    intro i n fu a b hd hd5 hc h hn hf
    obtain ⟨f, rfl⟩ : ∃ f, fu = f + 1 := ⟨fu - 1, by omega⟩
    obtain ⟨-, -, h91, -, -⟩ := REL_rules h.1
    have h91' : a 9 1 = g 2 := by rw [h91, h.2.2.1]
    have h12 : b 1 ((2 : Int32).toNatClampNeg) = g 2 := by rw [h.2.2.1]; rfl
    have hle : ¬ g 2 ≤ nI i := by rw [z_le, z_nI (by omega)]; omega
    rw [f_X8_writePeriods_10_s, f_X9_writePeriods_12_s, h12]
    simp only [Nat.reduceAdd]
    rw [h91', if_neg hle, if_neg hle]
    rcases hc with ⟨c1, c2⟩ | ⟨c1, c2⟩
    · obtain ⟨m, a1, b1, l1, l2, w1, hc, hr⟩ := @w_per t a0 g N n i a b hN (by omega) (by omega) h (by omega)
      have h1 := hc f
      have h2 := hr f
      unfold PCB at h1
      unfold PRB at h2
      rw [if_pos (show nI i ≤ 0 by rw [c1]; decide), sp_no (by rw [h.2.1.2.1, c2]; rfl), b_P, h1, h2, nI_1]
      exact ih (i + 1) m f a1 b1 (by omega) (by omega) (by omega) w1 (by omega) (by omega)
    · obtain ⟨b9, s9, w9⟩ := @w_add t a0 g N n 32 a b (by omega) h
      obtain ⟨m, a1, b1, l1, l2, w1, hc, hr⟩ := @w_per t a0 g N (n + 1) i _ b9 hN (by omega) (by omega) w9 (by omega)
      have h1 := hc f
      have h2 := hr f
      unfold PCB at h1
      unfold PRB at h2
      rw [if_neg (show ¬ nI i ≤ 0 by rw [z_le, z_nI (by omega), e0]; omega), sp_yes h.2.1.2.1 c2 (by omega), s9, b_P, b_T, h1, h2, nI_1]
      exact ih (i + 1) m f a1 b1 (by omega) (by omega) (by omega) w1 (by omega) (by omega)
theorem an_writePeriods {t : Int} {N : Nat} {a b : Mem} (hN : 20 ≤ N) (h : REL t a b) : ∃ y b', f_X9_writePeriods N b = some (y, b') ∧ ∃ a', f_X8_writePeriods N a = some (y, a') ∧ REL t a' b' := by
  have w0 := w_new h
  obtain ⟨-, -, -, -, v1, v2, -⟩ := REL_rules h
  obtain ⟨y, a1, b1, r1, r2, r3⟩ := @w_pers t a (b 1) N hN (b 1 2).toInt.toNat 0 0 N _ _ (by omega) (by omega) (Or.inl ⟨rfl, rfl⟩) w0 (by omega) (by omega)
  unfold f_X9_writePeriods f_X8_writePeriods
  simp only [b_T]
  exact ⟨y, b1, r2, a1, r1, r3⟩

