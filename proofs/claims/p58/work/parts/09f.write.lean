theorem REL_out {t : Int} {n : Nat} {a b a1 b1 : Mem} (hn : n ≤ 256) (h : REL t a b) (ho1 : OUTn n a1 b1) (hf : FRO a a1) (hg : FRB b b1) : REL t a1 b1 := by
  obtain ⟨hb3, hs, hv, ⟨m, x, hm, hx, p1, p2, p3, p4, p5⟩, hsl, hi, hp, -⟩ := h
  have fk : ∀ k, k ≠ 6 → k ≠ 7 → a1 k = a k := hf.1
  refine ⟨by rw [hg.2 3 (by omega)]; exact hb3, by rw [hg.1 1 (by omega) (by omega)]; exact StP_fr (fun k1 q1 q2 => fk k1 (by omega) (by omega)) hs, by rw [hg.1 1 (by omega) (by omega)]; exact hv, ⟨m, x, hm, hx, by rw [fk 0 (by omega) (by omega)]; exact p1, by rw [fk 0 (by omega) (by omega)]; exact p2, by rw [hg.2 27 (by omega)]; exact p3, fun j hj => WS_fr (fk _ (by unfold pastR; omega) (by unfold pastR; omega)) (p4 j hj), fun j hj => ?_⟩, fun i hi => ?_, ?_, ?_, ⟨n, hn, ho1⟩⟩
  · rw [hg.1 7 (by omega) (by omega)]
    exact ⟨StP_fr (fun k1 q1 q2 => fk k1 (by unfold pastR at q1; omega) (by unfold pastR at q1; omega)) (p5 j hj).1, (p5 j hj).2⟩
  · rw [hg.1 6 (by omega) (by omega), hg.1 5 (by omega) (by omega)]
    have hkk : ∀ k1, slotR i ≤ k1 → k1 < slotR i + 9 → a1 k1 = a k1 := fun k1 q1 q2 => fk k1 (by unfold slotR at q1; omega) (by unfold slotR at q1; omega)
    exact ⟨WS_fr (hkk _ (by omega) (by omega)) (hsl i hi).1, by rw [hkk _ (by omega) (by omega)]; exact (hsl i hi).2.1, fun hb => ⟨StP_fr hkk ((hsl i hi).2.2 hb).1, ((hsl i hi).2.2 hb).2⟩⟩
  · unfold INP at hi ⊢
    rw [fk 2 (by omega) (by omega), fk 3 (by omega) (by omega), hg.1 4 (by omega) (by omega), hg.2 12 (by omega)]
    exact hi
  · unfold PRS at hp ⊢
    rw [fk 1 (by omega) (by omega), hg.2 18 (by omega), hg.2 19 (by omega)]
    exact hp
def WRT (t : Int) (a0 : Mem) (g : Nat → Int32) (n : Nat) (a b : Mem) : Prop := REL t a b ∧ OUTn n a b ∧ b 1 = g ∧ ∀ k, k ≠ 6 → k ≠ 7 → a k = a0 k
theorem w_fr {t : Int} {a0 : Mem} {g : Nat → Int32} {n m : Nat} {a b a1 b1 : Mem} (h : WRT t a0 g n a b) (ho : OUTn m a1 b1) (hm : m ≤ 256) (hf : FRO a a1) (hg : FRB b b1) : WRT t a0 g m a1 b1 := ⟨REL_out hm h.1 ho hf hg, ho, by rw [hg.1 1 (by omega) (by omega)]; exact h.2.2.1, fun k z6 z7 => (hf.1 k z6 z7).trans (h.2.2.2 k z6 z7)⟩
theorem w_new {t : Int} {a b : Mem} (h : REL t a b) : WRT t a (b 1) 0 (up2 a 6 1 0) (up2 (up2 b 0 0 0) 0 29 0) := by
  obtain ⟨hr, -⟩ := @REL_t t a b 0 h
  have hb1 : up2 b 0 0 0 1 = b 1 := p2_n (by omega)
  generalize up2 b 0 0 0 = b0 at hr hb1 ⊢
  have ho : OUTn 0 (up2 a 6 1 0) (up2 b0 0 29 0) := ⟨by rw [p2_s, u_s]; rfl, by rw [p2_s, u_s]; rfl, fun j hj => absurd hj (by omega)⟩
  have hf : FRO a (up2 a 6 1 0) := ⟨fun k z6 z7 => p2_n z6, fun j z => by rw [p2_s, u_n z]⟩
  have hg : FRB b0 (up2 b0 0 29 0) := ⟨fun k z0 z8 => p2_n z0, fun j z => by rw [p2_s, u_n z]⟩
  exact ⟨REL_out (by omega) hr ho hf hg, ho, by rw [p2_n (by omega), hb1], hf.1⟩
theorem w_add {t : Int} {a0 : Mem} {g : Nat → Int32} {N n : Nat} {x : Int32} {a b : Mem} (hn : n < 256) (h : WRT t a0 g n a b) : ∃ b1, f_X9_write N x b = some b1 ∧ WRT t a0 g (n + 1) (f_X2_add x a) b1 := by
  obtain ⟨b1, w1, w2, w3, w4⟩ := @o_add N n x a b hn h.2.1
  exact ⟨b1, w1, w_fr h w2 (by omega) w3 w4⟩
theorem w_num {t : Int} {a0 : Mem} {g : Nat → Int32} {N n m : Nat} {p : Int32} {a b : Mem} (hN : 20 ≤ N) (hp1 : -((10 ^ m : Nat) : Int) < p.toInt) (hp2 : p.toInt < ((10 ^ m : Nat) : Int)) (hm : 1 ≤ m) (hm9 : m ≤ 9) (h : WRT t a0 g n a b) (hn : n + m + 1 ≤ 256) : ∃ (k : Nat) (a' b' : Mem), k ≤ m + 1 ∧ (0 ≤ p.toInt → k ≤ m) ∧ f_X2_addNumber N p a = some a' ∧ f_X9_writeInt N p b = some b' ∧ WRT t a0 g (n + k) a' b' := by
  obtain ⟨k, a', b', k1, k2, r1, r2, r3, r4, r5⟩ := @o_num N n m p a b hN hp1 hp2 hm hm9 h.2.1 hn
  exact ⟨k, a', b', k1, k2, r1, r2, w_fr h r3 (by omega) r4 r5⟩
theorem w_if {t : Int} {a0 : Mem} {g : Nat → Int32} {N n m : Nat} {x p : Int32} {a b : Mem} (hN : 20 ≤ N) (hp1 : -((10 ^ m : Nat) : Int) < p.toInt) (hp2 : p.toInt < ((10 ^ m : Nat) : Int)) (hm : 1 ≤ m) (hm9 : m ≤ 9) (h : WRT t a0 g n a b) (hn : n + m + 2 ≤ 256) : ∃ (k : Nat) (a' b' : Mem), k ≤ m + 2 ∧ (0 ≤ p.toInt → k ≤ m + 1) ∧ f_X2_addUnlessZero N x p a = some a' ∧ f_X9_writeIf N x p b = some b' ∧ WRT t a0 g (n + k) a' b' := by
  unfold f_X2_addUnlessZero f_X9_writeIf
  by_cases hz : p = 0
  · rw [if_pos hz, if_pos hz]
    exact ⟨0, a, b, by omega, fun _ => by omega, rfl, rfl, h⟩
  · rw [if_neg hz, if_neg hz]
    obtain ⟨b1, w1, w2⟩ := @w_add t a0 g N n x a b (by omega) h
    obtain ⟨k, a', b', k1, k2, r1, r2, r3⟩ := @w_num t a0 g N (n + 1) m p _ b1 hN hp1 hp2 hm hm9 w2 (by omega)
    rw [b_T, r1, b_P, w1, b_P, r2, b_P]
    refine ⟨k + 1, a', b', by omega, fun h => by have := k2 h; omega, rfl, rfl, ?_⟩
    rw [show n + (k + 1) = n + 1 + k by omega]
    exact r3
theorem w36_1 {N fu : Nat} {x : Int32} {b : Mem} : f_X9_writeInt_36 N x (fu + 2) 1 b = f_X9_write N ((48 : Int32) + ((x / 1) - (x / 1) / (10 : Int32) * (10 : Int32))) b := by
  rw [show fu + 2 = (fu + 1) + 1 from rfl, f_X9_writeInt_36_s, if_neg (show ¬ (1 : Int32) ≤ 0 by decide)]
  unfold chkP
  rw [if_pos (show ¬ (1 : Int32) = 0 by decide)]
  cases h : f_X9_write N ((48 : Int32) + ((x / 1) - (x / 1) / (10 : Int32) * (10 : Int32))) b with
  | none => rfl
  | some b1 =>
    show f_X9_writeInt_36 N x (fu + 1) ((1 : Int32) / 10) b1 = some b1
    rw [f_X9_writeInt_36_s, if_pos (show (1 : Int32) / 10 ≤ 0 by decide)]
theorem w36_2 {N fu : Nat} {x : Int32} {b : Mem} : f_X9_writeInt_36 N x (fu + 3) 10 b = bP (f_X9_write N ((48 : Int32) + ((x / 10) - (x / 10) / (10 : Int32) * (10 : Int32))) b) fun b1 => f_X9_write N ((48 : Int32) + ((x / 1) - (x / 1) / (10 : Int32) * (10 : Int32))) b1 := by
  rw [show fu + 3 = (fu + 2) + 1 from rfl, f_X9_writeInt_36_s, if_neg (show ¬ (10 : Int32) ≤ 0 by decide)]
  unfold chkP
  rw [if_pos (show ¬ (10 : Int32) = 0 by decide)]
  simp only [b_T]
  rw [show (10 : Int32) / 10 = 1 by decide]
  simp only [w36_1]
theorem k2_a : ∀ k, k < 60 → 10 ≤ k → ((48 : Int32) + ((nI k / 10) - (nI k / 10) / (10 : Int32) * (10 : Int32))) = (48 : Int32) + nI k / 10 := by decide +kernel
theorem k2_b : ∀ k, k < 60 → ((48 : Int32) + ((nI k / 1) - (nI k / 1) / (10 : Int32) * (10 : Int32))) = (48 : Int32) + (nI k - nI k / (10 : Int32) * (10 : Int32)) := by decide +kernel
theorem k2_c : ∀ k, k < 10 → (48 : Int32) + nI k / (10 : Int32) = 48 := by decide +kernel
theorem k2_d : ∀ k, k < 60 → (0 : Int32) ≤ nI k := by decide +kernel
theorem k2_e : ∀ k, k < 60 → 10 ≤ k → ¬ nI k / (1 : Int32) < 10 := by decide +kernel
theorem k2_f : ∀ k, k < 60 → nI k / (10 : Int32) < 10 := by decide +kernel
theorem k2_g : ∀ k, k < 10 → nI k / (1 : Int32) < 10 := by decide +kernel
theorem k2_h : ∀ k, k < 60 → ((10 : Int32) ≤ nI k ↔ 10 ≤ k) := by decide +kernel
theorem bP_id {α : Type} {x : Option α} : (bP x fun y => some y) = x := by cases x <;> rfl
theorem wi_2 {N k : Nat} {b : Mem} (hN : 3 ≤ N) (h10 : 10 ≤ k) (hk : k < 60) : f_X9_writeInt N (nI k) b = bP (f_X9_write N ((48 : Int32) + nI k / 10) b) fun b1 => f_X9_write N ((48 : Int32) + (nI k - nI k / (10 : Int32) * (10 : Int32))) b1 := by
  obtain ⟨f, hf⟩ : ∃ f, N = f + 3 := ⟨N - 3, by omega⟩
  unfold f_X9_writeInt f_X9_writeInt_10 abI
  rw [if_pos (k2_d k hk), if_pos (k2_d k hk), b_T]
  have e : f_X9_writeInt_17 N b (nI k) N 1 = f_X9_writeInt_17 N b (nI k) ((f + 1) + 1 + 1) 1 := by rw [show f + 1 + 1 + 1 = N by omega]
  rw [e, f_X9_writeInt_17_s]
  unfold chkP
  rw [if_pos (show ¬ (1 : Int32) = 0 by decide), if_neg (k2_e k hk h10), b_T, show (1 : Int32) * 10 = 10 by decide, f_X9_writeInt_17_s]
  unfold chkP
  rw [if_pos (show ¬ (10 : Int32) = 0 by decide), if_pos (k2_f k hk), bP_id]
  have e2 : f_X9_writeInt_36 N (nI k) N 10 b = f_X9_writeInt_36 N (nI k) (f + 3) 10 b := by rw [← hf]
  rw [e2, w36_2, k2_a k hk h10, k2_b k hk]
theorem wi_1 {N k : Nat} {b : Mem} (hN : 3 ≤ N) (hk : k < 10) : f_X9_writeInt N (nI k) b = f_X9_write N ((48 : Int32) + (nI k - nI k / (10 : Int32) * (10 : Int32))) b := by
  obtain ⟨f, hf⟩ : ∃ f, N = f + 2 := ⟨N - 2, by omega⟩
  unfold f_X9_writeInt f_X9_writeInt_10 abI
  rw [if_pos (k2_d k (by omega)), if_pos (k2_d k (by omega)), b_T]
  have e : f_X9_writeInt_17 N b (nI k) N 1 = f_X9_writeInt_17 N b (nI k) ((f + 1) + 1) 1 := by rw [show f + 1 + 1 = N by omega]
  rw [e, f_X9_writeInt_17_s]
  unfold chkP
  rw [if_pos (show ¬ (1 : Int32) = 0 by decide), if_pos (k2_g k hk), bP_id]
  have e2 : f_X9_writeInt_36 N (nI k) N 1 b = f_X9_writeInt_36 N (nI k) (f + 2) 1 b := by rw [← hf]
  rw [e2, w36_1, k2_b k (by omega)]
theorem w_two {t : Int} {a0 : Mem} {g : Nat → Int32} {N n : Nat} {p : Int32} {a b : Mem} (hN : 20 ≤ N) (h0 : 0 ≤ p.toInt) (h1 : p.toInt < 60) (h : WRT t a0 g n a b) (hn : n + 5 ≤ 256) : ∃ (m : Nat) (a' b' : Mem), n + 1 ≤ m ∧ m ≤ n + 3 ∧ f_X2_addTwoDigits N p (f_X2_add 58 a) = some a' ∧ f_X9_writeTwo N p b = some b' ∧ WRT t a0 g m a' b' := by
  have hp : p = nI p.toNatClampNeg := (z_of h0).symm
  have hk : p.toNatClampNeg < 60 := by rw [z_tn]; omega
  have hkz : ((p.toNatClampNeg : Nat) : Int) = p.toInt := by rw [z_tn]; omega
  generalize p.toNatClampNeg = k at hp hk hkz
  subst hp
  obtain ⟨b1, w1, w2⟩ := @w_add t a0 g N n 58 a b (by omega) h
  unfold f_X2_addTwoDigits f_X9_writeTwo
  rw [w1, b_P]
  simp only [bP_id, b_T]
  have p2e : ((10 ^ 2 : Nat) : Int) = 100 := rfl
  have p1e : ((10 ^ 1 : Nat) : Int) = 10 := rfl
  by_cases h10 : 10 ≤ k
  · rw [if_pos ((k2_h k hk).2 h10)]
    obtain ⟨j, a', b', j1, j2, r1, r2, r3⟩ := @w_num t a0 g N (n + 1) 2 (nI k) _ b1 hN (by rw [p2e]; omega) (by rw [p2e]; omega) (by omega) (by omega) w2 (by omega)
    have := j2 h0
    rw [← wi_2 (by omega) h10 hk, r1, r2]
    exact ⟨_, a', b', by omega, by omega, rfl, rfl, r3⟩
  · rw [if_neg (fun z => h10 ((k2_h k hk).1 z)), k2_c k (by omega)]
    obtain ⟨b2, v1, v2⟩ := @w_add t a0 g N (n + 1) 48 _ b1 (by omega) w2
    obtain ⟨j, a', b', j1, j2, r1, r2, r3⟩ := @w_num t a0 g N (n + 1 + 1) 1 (nI k) _ b2 hN (by rw [p1e]; omega) (by rw [p1e]; omega) (by omega) (by omega) v2 (by omega)
    have := j2 h0
    rw [v1, b_P, ← wi_1 (by omega) (by omega), r1, r2]
    exact ⟨_, a', b', by omega, by omega, rfl, rfl, r3⟩

