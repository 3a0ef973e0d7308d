def LCB (N : Nat) (x3 : Int32) (fu : Nat) (x5 : Int32) (a6 : Mem) : Option (Int32 × Mem) := bT (f_X1_number 11 x5 (0 : Int32) a6) fun x51 => if x51 = 0 then (bT (f_X2_add (119 : Int32) a6) fun a72 => bT (f_X1_number 11 x5 (1 : Int32) a72) fun x75 => bP (f_X2_addNumber N x75 a72) fun a78 => bT (f_X1_number 11 x5 (3 : Int32) a78) fun x81 => bP (f_X2_addUnlessZero N (43 : Int32) x81 a78) fun a84 => bT (x5 + (-1 : Int32)) fun x86 => f_X8_writeLog_28 N x3 fu x86 a84) else (bT (f_X2_add (98 : Int32) a6) fun a55 => bT (f_X1_number 11 x5 (1 : Int32) a55) fun x58 => bP (f_X2_addNumber N x58 a55) fun a61 => bT (f_X1_number 11 x5 (3 : Int32) a61) fun x64 => bP (f_X2_addUnlessZero N (43 : Int32) x64 a61) fun a67 => bT (x5 + (-1 : Int32)) fun x69 => f_X8_writeLog_28 N x3 fu x69 a67)
def LRB (N fu : Nat) (x10 : Int32) (b14 : Mem) : Option (Int32 × Mem) := bP (f_X9_ofLog N x10 (0 : Int32) b14) fun x17 => if x17 = 0 then (bP (f_X9_write N (119 : Int32) b14) fun b47 => bP (f_X9_ofLog N x10 (1 : Int32) b47) fun x50 => bP (f_X9_writeInt N x50 b47) fun b53 => bP (f_X9_ofLog N x10 (3 : Int32) b53) fun x56 => if x56 = 0 then (bT (x10 + (-1 : Int32)) fun x59 => f_X9_writeLog_22 N fu x59 b53) else (bP (f_X9_write N (43 : Int32) b53) fun b62 => bP (f_X9_ofLog N x10 (3 : Int32) b62) fun x65 => bP (f_X9_writeInt N x65 b62) fun b68 => bT (x10 + (-1 : Int32)) fun x70 => f_X9_writeLog_22 N fu x70 b68)) else (bP (f_X9_write N (98 : Int32) b14) fun b21 => bP (f_X9_ofLog N x10 (1 : Int32) b21) fun x24 => bP (f_X9_writeInt N x24 b21) fun b27 => bP (f_X9_ofLog N x10 (3 : Int32) b27) fun x30 => if x30 = 0 then (bT (x10 + (-1 : Int32)) fun x33 => f_X9_writeLog_22 N fu x33 b27) else (bP (f_X9_write N (43 : Int32) b27) fun b36 => bP (f_X9_ofLog N x10 (3 : Int32) b36) fun x39 => bP (f_X9_writeInt N x39 b36) fun b42 => bT (x10 + (-1 : Int32)) fun x44 => f_X9_writeLog_22 N fu x44 b42))
theorem w_gain {t : Int} {a0 : Mem} {g : Nat → Int32} {N n i : Nat} {a b : Mem} (ht : t ≤ 512) (hN : 20 ≤ N) (hi : i < CNT g) (h : WRT t a0 g n a b) (hn : n + 19 ≤ 256) : ∃ (m : Nat) (a1 b1 : Mem), n ≤ m ∧ m ≤ n + 17 ∧ WRT t a0 g m a1 b1 ∧ (∀ C : Mem → Option (Int32 × Mem), (bT (f_X1_number 11 (nI i) (1 : Int32) a) fun x75 => bP (f_X2_addNumber N x75 a) fun a78 => bT (f_X1_number 11 (nI i) (3 : Int32) a78) fun x81 => bP (f_X2_addUnlessZero N (43 : Int32) x81 a78) C) = C a1) ∧ (∀ C : Mem → Option (Int32 × Mem), (bP (f_X9_ofLog N (nI i) (1 : Int32) b) fun x50 => bP (f_X9_writeInt N x50 b) fun b53 => bP (f_X9_ofLog N (nI i) (3 : Int32) b53) fun x56 => if x56 = 0 then C b53 else bP (f_X9_write N (43 : Int32) b53) fun b62 => bP (f_X9_ofLog N (nI i) (3 : Int32) b62) fun x65 => bP (f_X9_writeInt N x65 b62) C) = C b1) := by
  have p7e : ((10 ^ 7 : Nat) : Int) = 10000000 := rfl
  have p8e : ((10 ^ 8 : Nat) : Int) = 100000000 := rfl
  have hv := h.1.2.2.1
  have hvl := hv.2.2.2.2.2.2.2 i
  rw [h.2.2.1] at hvl
  obtain ⟨hi1, hi2⟩ := CNT_lt hi
  obtain ⟨⟨th1, th2⟩, ⟨ga1, ga2⟩⟩ := hvl hi1 hi2
  clear hv
  have hc : ∀ {n' : Nat} {a' b' : Mem}, WRT t a0 g n' a' b' → f_X1_number 11 (nI i) (1 : Int32) a' = g (71 + 6 * i + 1) ∧ f_X1_number 11 (nI i) (3 : Int32) a' = g (71 + 6 * i + 3) ∧ f_X9_ofLog N (nI i) (1 : Int32) b' = some (g (71 + 6 * i + 1)) ∧ f_X9_ofLog N (nI i) (3 : Int32) b' = some (g (71 + 6 * i + 3)) := by
    intro n' a' b' hw
    have hi' : i < CNT (b' 1) := by rw [hw.2.2.1]; exact hi
    refine ⟨?_, ?_, ?_, ?_⟩
    · rw [c_log hw.1 hi' (by decide) (by decide), hw.2.2.1]; rfl
    · rw [c_log hw.1 hi' (by decide) (by decide), hw.2.2.1]; rfl
    · rw [r_log hw.1 hi' (by decide) (by decide), hw.2.2.1]; rfl
    · rw [r_log hw.1 hi' (by decide) (by decide), hw.2.2.1]; rfl
  obtain ⟨u1, u2, u3, u4⟩ := hc h
  obtain ⟨k1, a1, b1, -, j1, q1, r1, w1⟩ := @w_num t a0 g N n 7 (g (71 + 6 * i + 1)) a b hN (by rw [p7e]; omega) (by rw [p7e]; omega) (by omega) (by omega) h (by omega)
  have hj1 := j1 th1
  obtain ⟨v1, v2, v3, v4⟩ := hc w1
  by_cases hz : g (71 + 6 * i + 3) = 0
  · refine ⟨_, a1, b1, by omega, by omega, w1, fun C => ?_, fun C => ?_⟩
    · rw [u1, b_T, q1, b_P, v2, b_T, hz]
      rfl
    · rw [u3, b_P, r1, b_P, v4, b_P, if_pos hz]
  · obtain ⟨b2, s1, w2⟩ := @w_add t a0 g N (n + k1) 43 a1 b1 (by omega) w1
    obtain ⟨-, -, -, y4⟩ := hc w2
    obtain ⟨k3, a3, b3, j3, -, q3, r3, w3⟩ := @w_num t a0 g N (n + k1 + 1) 8 (g (71 + 6 * i + 3)) _ b2 hN (by rw [p8e]; omega) (by rw [p8e]; omega) (by omega) (by omega) w2 (by omega)
    refine ⟨_, a3, b3, by omega, by omega, w3, fun C => ?_, fun C => ?_⟩
    · rw [u1, b_T, q1, b_P, v2, b_T]
      unfold f_X2_addUnlessZero
      rw [if_neg hz, b_T, q3, b_P, b_P]
    · rw [u3, b_P, r1, b_P, v4, b_P, if_neg hz, s1, b_P, y4, b_P, r3, b_P]
theorem w_log {t : Int} {a0 : Mem} {g : Nat → Int32} {N n i : Nat} {a b : Mem} (ht : t ≤ 512) (hN : 20 ≤ N) (hi : i < CNT g) (h : WRT t a0 g n a b) (hn : n + 20 ≤ 256) : ∃ (m : Nat) (a1 b1 : Mem), n + 1 ≤ m ∧ m ≤ n + 18 ∧ WRT t a0 g m a1 b1 ∧ (∀ (x3 : Int32) (fu : Nat), LCB N x3 fu (nI i) a = f_X8_writeLog_28 N x3 fu (nI i + (-1 : Int32)) a1) ∧ (∀ fu : Nat, LRB N fu (nI i) b = f_X9_writeLog_22 N fu (nI i + (-1 : Int32)) b1) := by
  have hi' : i < CNT (b 1) := by rw [h.2.2.1]; exact hi
  have u1 : f_X1_number 11 (nI i) (0 : Int32) a = g (71 + 6 * i + 0) := by rw [c_log h.1 hi' (by decide) (by decide), h.2.2.1]; rfl
  have u2 : f_X9_ofLog N (nI i) (0 : Int32) b = some (g (71 + 6 * i + 0)) := by rw [r_log h.1 hi' (by decide) (by decide), h.2.2.1]; rfl
  unfold LCB LRB
  by_cases hz : g (71 + 6 * i + 0) = 0
  · obtain ⟨b1, s1, w1⟩ := @w_add t a0 g N n 119 a b (by omega) h
    obtain ⟨m, a2, b2, l1, l2, w2, hc, hr⟩ := @w_gain t a0 g N (n + 1) i _ b1 ht hN hi w1 (by omega)
    refine ⟨m, a2, b2, by omega, by omega, w2, fun x3 fu => ?_, fun fu => ?_⟩
    · rw [u1, b_T, if_pos hz, b_T]
      exact hc fun a84 => bT (nI i + (-1 : Int32)) fun x86 => f_X8_writeLog_28 N x3 fu x86 a84
    · rw [u2, b_P, if_pos hz, s1, b_P]
      exact hr fun b53 => bT (nI i + (-1 : Int32)) fun x59 => f_X9_writeLog_22 N fu x59 b53
  · obtain ⟨b1, s1, w1⟩ := @w_add t a0 g N n 98 a b (by omega) h
    obtain ⟨m, a2, b2, l1, l2, w2, hc, hr⟩ := @w_gain t a0 g N (n + 1) i _ b1 ht hN hi w1 (by omega)
    refine ⟨m, a2, b2, by omega, by omega, w2, fun x3 fu => ?_, fun fu => ?_⟩
    · rw [u1, b_T, if_neg hz, b_T]
      exact hc fun a84 => bT (nI i + (-1 : Int32)) fun x86 => f_X8_writeLog_28 N x3 fu x86 a84
    · rw [u2, b_P, if_neg hz, s1, b_P]
      exact hr fun b53 => bT (nI i + (-1 : Int32)) fun x59 => f_X9_writeLog_22 N fu x59 b53
theorem nI_m1 {i : Nat} (h : i + 1 < 2147483648) : nI (i + 1) + (-1 : Int32) = nI i := by
  have e1 : (-1 : Int32).toInt = -1 := rfl
  rw [z_eq, z_add (by rw [z_nI h, e1]; omega) (by rw [z_nI h, e1]; omega), z_nI h, z_nI (by omega), e1]
  omega
theorem sp_no {N : Nat} {b : Mem} (h : b 0 29 = 0) : f_X9_space N b = some b := by
  unfold f_X9_space
  rw [h, if_pos (by decide)]
theorem sp_yes {N n : Nat} {b : Mem} (h : b 0 29 = nI n) (h1 : 1 ≤ n) (h2 : n ≤ 256) : f_X9_space N b = f_X9_write N 32 b := by
  have e0 : (0 : Int32).toInt = 0 := rfl
  unfold f_X9_space
  rw [h, if_neg (show ¬ nI n ≤ 0 by rw [z_le, z_nI (by omega), e0]; omega), bP_id]
theorem w_logst {t : Int} {a0 : Mem} {g : Nat → Int32} {N F i n : Nat} {a b : Mem} (ht : t ≤ 512) (hN : 20 ≤ N) (hF : F < CNT g) (hF12 : F < 12) (hc : i = F ∧ n = 0 ∨ i < F ∧ 1 ≤ n) (h : WRT t a0 g n a b) (hn : n + 21 ≤ 256) : ∃ (m : Nat) (a1 b1 : Mem), 1 ≤ m ∧ m ≤ n + 19 ∧ WRT t a0 g m a1 b1 ∧ ∀ fu : Nat, f_X8_writeLog_28 N (nI F) (fu + 1) (nI i) a = f_X8_writeLog_28 N (nI F) fu (nI i + (-1 : Int32)) a1 ∧ f_X9_writeLog_22 N (fu + 1) (nI i) b = f_X9_writeLog_22 N fu (nI i + (-1 : Int32)) b1 := by
  have e0 : (0 : Int32).toInt = 0 := rfl
  have hi0 : ¬ nI i < 0 := by rw [z_lt, z_nI (by omega), e0]; omega
  rcases hc with ⟨c1, c2⟩ | ⟨c1, c2⟩
  · subst c1
    subst c2
    obtain ⟨m, a2, b2, l1, l2, w2, hc, hr⟩ := @w_log t a0 g N 0 i _ b ht hN (by omega) h (by omega)
    refine ⟨m, a2, b2, by omega, by omega, w2, fun fu => ⟨?_, ?_⟩⟩
    · rw [f_X8_writeLog_28_s, if_neg hi0, if_pos ((nI_lei (by omega) (by omega)).2 (Nat.le_refl i))]
      exact hc (nI i) fu
    · rw [f_X9_writeLog_22_s, if_neg hi0, sp_no h.2.1.2.1, b_P]
      exact hr fu
  · obtain ⟨b1, s1, w1⟩ := @w_add t a0 g N n 32 a b (by omega) h
    obtain ⟨m, a2, b2, l1, l2, w2, hc, hr⟩ := @w_log t a0 g N (n + 1) i _ b1 ht hN (by omega) w1 (by omega)
    refine ⟨m, a2, b2, by omega, by omega, w2, fun fu => ⟨?_, ?_⟩⟩
    · rw [f_X8_writeLog_28_s, if_neg hi0, if_neg (show ¬ nI F ≤ nI i from fun z => by have := (nI_lei (by omega) (by omega)).1 z; omega)]
      exact hc (nI F) fu
    · rw [f_X9_writeLog_22_s, if_neg hi0, sp_yes h.2.1.2.1 c2 (by omega), s1, b_P]
      exact hr fu
theorem w_logs {t : Int} {a0 : Mem} {g : Nat → Int32} {N F : Nat} (ht : t ≤ 512) (hN : 20 ≤ N) (hF : F < CNT g) (hF12 : F < 12) : ∀ (i n fu : Nat) (a b : Mem), (i = F ∧ n = 0 ∨ i < F ∧ 1 ≤ n) → WRT t a0 g n a b → n + 19 * (i + 1) + 2 ≤ 256 → i + 2 ≤ fu → ∃ (y : Int32) (a1 b1 : Mem), f_X8_writeLog_28 N (nI F) fu (nI i) a = some (y, a1) ∧ f_X9_writeLog_22 N fu (nI i) b = some (y, b1) ∧ REL t a1 b1 := by
  intro i
  induction i with
  | zero =>
    intro n fu a b hc h hn hf
    obtain ⟨f, rfl⟩ : ∃ f, fu = f + 1 + 1 := ⟨fu - 2, by omega⟩
    obtain ⟨m, a1, b1, l1, l2, w1, hs⟩ := @w_logst t a0 g N F 0 n a b ht hN hF hF12 hc h (by omega)
    have hneg : nI 0 + (-1 : Int32) < 0 := by decide
    rw [(hs (f + 1)).1, (hs (f + 1)).2, f_X8_writeLog_28_s, f_X9_writeLog_22_s, if_pos hneg, if_pos hneg]
    exact ⟨_, a1, b1, rfl, by rw [w1.2.1.1, w1.2.1.2.1], w1.1⟩
  | succ i ih =>
    intro n fu a b hc h hn hf
    obtain ⟨f, rfl⟩ : ∃ f, fu = f + 1 := ⟨fu - 1, by omega⟩
    obtain ⟨m, a1, b1, l1, l2, w1, hs⟩ := @w_logst t a0 g N F (i + 1) n a b ht hN hF hF12 hc h (by omega)
    rw [(hs f).1, (hs f).2, nI_m1 (by omega)]
    exact ih m f a1 b1 (by omega) w1 (by omega) (by omega)
theorem an_writeLog {t : Int} {N : Nat} {a b : Mem} (ht : t ≤ 512) (hN : 20 ≤ N) (h : REL t a b) : ∃ y b', f_X9_writeLog N b = some (y, b') ∧ ∃ a', f_X8_writeLog N a = some (y, a') ∧ REL t a' b' := by
  have e12 : (12 : Int32).toInt = 12 := rfl
  have e1 : (1 : Int32).toInt = 1 := rfl
  have w0 := w_new h
  have hcn := REL_cnt w0.1
  have hrm := @r_many t N _ _ w0.1
  rw [w0.2.2.1] at hcn hrm
  have h40 := @CNT_40 (b 1)
  unfold f_X9_writeLog f_X8_writeLog
  simp only [b_T, Nat.reduceAdd]
  rw [hrm, b_P, hcn]
  have m1 : mnI (nI (CNT (b 1))) (12 : Int32) = nI (min (CNT (b 1)) 12) := by rw [z_eq, z_mn, z_nI (by omega), z_nI (by omega), e12]; omega
  have m2 : mnI (12 : Int32) (nI (CNT (b 1))) = nI (min (CNT (b 1)) 12) := by rw [z_eq, z_mn, z_nI (by omega), z_nI (by omega), e12]; omega
  rw [m1, m2]
  by_cases hz : CNT (b 1) = 0
  · obtain ⟨f, hf⟩ : ∃ f, N = f + 1 := ⟨N - 1, by omega⟩
    have eA : ∀ x9 a9, f_X8_writeLog_28 N x9 N x9 a9 = f_X8_writeLog_28 N x9 (f + 1) x9 a9 := fun x9 a9 => by rw [← hf]
    have eB : ∀ x9 b9, f_X9_writeLog_22 N N x9 b9 = f_X9_writeLog_22 N (f + 1) x9 b9 := fun x9 b9 => by rw [← hf]
    have hneg : nI (min 0 12) - (1 : Int32) < 0 := by decide
    rw [hz, eA, eB, f_X8_writeLog_28_s, f_X9_writeLog_22_s, if_pos hneg, if_pos hneg]
    exact ⟨_, _, rfl, _, by rw [w0.2.1.1, w0.2.1.2.1], w0.1⟩
  · have m3 : nI (min (CNT (b 1)) 12) - (1 : Int32) = nI (min (CNT (b 1)) 12 - 1) := by
      rw [z_eq, z_sub (by rw [z_nI (by omega), e1]; omega) (by rw [z_nI (by omega), e1]; omega), z_nI (by omega), z_nI (by omega), e1]
      omega
    rw [m3]
    obtain ⟨y, a1, b1, r1, r2, r3⟩ := @w_logs t a (b 1) N (min (CNT (b 1)) 12 - 1) ht hN (by omega) (by omega) (min (CNT (b 1)) 12 - 1) 0 N _ _ (Or.inl ⟨rfl, rfl⟩) w0 (by omega) (by omega)
    exact ⟨y, b1, r2, a1, r1, r3⟩

