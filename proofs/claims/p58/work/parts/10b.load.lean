theorem REL_ld {t : Int} {a b a5 b4 : Mem} (h : REL t a b) (fa : ∀ k, k ≠ 1 → k ≠ 2 → k ≠ 4 → k ≠ 5 → a5 k = a k) (f2 : a5 2 1 = 0) (hp : PRS a5 b4) (g : ∀ k, k ≠ 0 → k ≠ 2 → b4 k = b k) (g3 : b4 0 3 = 0) (g12 : b4 0 12 = 0) (g27 : b4 0 27 = b 0 27) (g29 : b4 0 29 = b 0 29) : REL t a5 b4 := by
  obtain ⟨hb3, hs, hv, ⟨m, x, hm, hx, p1, p2, p3, p4, p5⟩, hsl, -, -, ho⟩ := h
  refine ⟨g3, by rw [g 1 (by omega) (by omega)]; exact StP_fr (fun k1 q1 q2 => fa k1 (by omega) (by omega) (by omega) (by omega)) hs, by rw [g 1 (by omega) (by omega)]; exact hv, ⟨m, x, hm, hx, by rw [fa 0 (by omega) (by omega) (by omega) (by omega)]; exact p1, by rw [fa 0 (by omega) (by omega) (by omega) (by omega)]; exact p2, by rw [g27]; exact p3, fun j hj => WS_fr (fa _ (by unfold pastR; omega) (by unfold pastR; omega) (by unfold pastR; omega) (by unfold pastR; omega)) (p4 j hj), fun j hj => ?_⟩, fun i hi => ?_, ⟨0, by omega, f2, g12, fun j hj => absurd hj (by omega)⟩, hp, ?_⟩
  · rw [g 7 (by omega) (by omega)]
    exact ⟨StP_fr (fun k1 q1 q2 => fa k1 (by unfold pastR at q1; omega) (by unfold pastR at q1; omega) (by unfold pastR at q1; omega) (by unfold pastR at q1; omega)) (p5 j hj).1, (p5 j hj).2⟩
  · rw [g 6 (by omega) (by omega), g 5 (by omega) (by omega)]
    have hkk : ∀ k1, slotR i ≤ k1 → k1 < slotR i + 9 → a5 k1 = a k1 := fun k1 q1 q2 => fa k1 (by unfold slotR at q1; omega) (by unfold slotR at q1; omega) (by unfold slotR at q1; omega) (by unfold slotR at q1; omega)
    exact ⟨WS_fr (hkk _ (by omega) (by omega)) (hsl i hi).1, by rw [hkk _ (by omega) (by omega)]; exact (hsl i hi).2.1, fun hb => ⟨StP_fr hkk ((hsl i hi).2.2 hb).1, ((hsl i hi).2.2 hb).2⟩⟩
  · unfold OUTP at ho ⊢
    rw [fa 6 (by omega) (by omega) (by omega) (by omega), fa 7 (by omega) (by omega) (by omega) (by omega), g 8 (by omega) (by omega), g29]
    exact ho
theorem p_load {t : Int} {N : Nat} {a b : Mem} (hN : 402 ≤ N) (h : REL t a b) : ∃ (e1 c1 n : Nat) (a1 b1 b2 : Mem), f_X3_readText N a = some (if a1 1 5 = 0 then 1 else 0, a1) ∧ f_X9_load N b = f_X9_load_100 N b1 ∧ f_X9_setSides N b1 = some b2 ∧ PSz n e1 c1 a1 b1 ∧ REL t (up2 a1 2 1 0) (up2 b2 0 3 0) ∧ (a1 1 5 = 0 → 1 ≤ c1) ∧ b2 0 = b1 0 ∧ b2 2 = upd (upd (upd (upd (b1 2) 37 (b1 2 13 + HH b1 0)) 41 (b1 2 3)) 54 (b1 2 13 + HH b1 1)) 58 (b1 2 3) := by
  obtain ⟨n, hn, hi⟩ := h.2.2.2.2.2.1
  obtain ⟨e1, c1, a1, b1, r1, r2, r3, r4, r5, r6, r7, r8, r9⟩ := @p_start N n a b hN hn hi
  obtain ⟨b2, s1, s2, s3⟩ := @r_sides N b1 (by omega) r3.2.1
  refine ⟨e1, c1, n, a1, b1, b2, r1, r2, s1, r3, ?_, r9, s2 0 (by omega), s3⟩
  have h20 := s2 0 (by omega)
  refine REL_ld h (fun k k1 k2 k4 k5 => by rw [p2_n k2]; exact r4 k k1 k4 k5) (by rw [p2_s, u_s]) ⟨?_, ?_⟩ (fun k k0 k2 => by rw [p2_n k0, s2 k k2]; exact r5 k k0 k2) (by rw [p2_s, u_s]) ?_ ?_ ?_
  · rw [p2_n (by omega), p2_s, u_n (by omega), h20]; exact r3.1.2.1
  · rw [p2_n (by omega), p2_s, u_n (by omega), h20]; exact r3.1.2.2.1
  · rw [p2_s, u_n (by omega), h20]; exact r8
  · rw [p2_s, u_n (by omega), h20]; exact r6 27 (by omega) (by omega) (by omega) (by omega)
  · rw [p2_s, u_n (by omega), h20]; exact r6 29 (by omega) (by omega) (by omega) (by omega)

