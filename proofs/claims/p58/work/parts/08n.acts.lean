theorem AGR_mono {t u : Int} {L : Option (Int32 × Mem × Mem)} {M : Option (Int32 × Mem)} (h : AGR t L M) (hu : t ≤ u) : AGR u L M := by
  obtain ⟨x, a', c', y, b', h1, h2, hr, h0, hq⟩ := h
  exact ⟨x, a', c', y, b', h1, h2, REL_mono hr hu, h0, hq⟩
theorem LG_fr {a a1 : Mem} {k : Nat} {g g1 : Nat → Int32} (h1 : a1 k = a k) (h2 : a1 (k + 1) = a (k + 1)) (h8 : g1 8 = g 8) (hl : ∀ j, 71 ≤ j → j < 311 → g1 j = g j) (h : LG a k g) : LG a1 k g1 := by
  obtain ⟨l1, l2, l3, l4⟩ := h
  unfold LG
  rw [h1, h2, h8]
  exact ⟨l1, l2, l3, fun i w hi hi2 hw => (l4 i w hi hi2 hw).trans (hl _ (by omega) (by omega)).symm⟩
theorem StP_h5 {a : Mem} {g : Nat → Int32} {x : Int32} (h : StP a 8 g) : StP (up2 a 8 5 x) 8 (upd g 0 (x)) := by
  obtain ⟨w, ⟨h0, h1, h2, h3, h4, h5, h6, h7, h9, h10, h11, hR⟩, s1, s2, mm, lg⟩ := h
  have e2 : up2 a 8 5 x 8 2 = a 8 2 := by rw [p2_s, u_n (by omega)]
  have e3 : up2 a 8 5 x 8 3 = a 8 3 := by rw [p2_s, u_n (by omega)]
  have es : ∀ y, sI (up2 a 8 5 x) (sdr 8 y) = sI a (sdr 8 y) ∧ up2 a 8 5 x (sdr 8 y) = a (sdr 8 y) := by
    intro y
    have := @sdr_or 8 y
    exact ⟨sI_fr (p2_n (by omega)) (p2_n (by omega)), p2_n (by omega)⟩
  refine ⟨?_, ⟨?_, ?_, ?_, ?_, ?_, ?_, ?_, ?_, ?_, ?_, ?_, ?_⟩, ?_, ?_, ?_, LG_fr (p2_n (by omega)) (p2_n (by omega)) (u_n (by omega)) (fun j h1 h2 => u_n (by omega)) lg⟩
  · unfold WS
    rw [e2, e3]
    exact w
  · rw [p2_s, u_s, u_s]
  · rw [p2_s, u_n (by omega), u_n (by omega)]
    exact h1
  · rw [p2_n (by omega), u_n (by omega)]
    exact h2
  · rw [p2_n (by omega), u_n (by omega)]
    exact h3
  · rw [p2_n (by omega), u_n (by omega)]
    exact h4
  · rw [p2_n (by omega), u_n (by omega)]
    exact h5
  · rw [p2_s, u_n (by omega), u_n (by omega)]
    exact h6
  · rw [p2_s, u_n (by omega), u_n (by omega)]
    exact h7
  · rw [p2_s, u_n (by omega), u_n (by omega)]
    exact h9
  · rw [p2_s, u_n (by omega), u_n (by omega)]
    exact h10
  · rw [p2_s, u_n (by omega), u_n (by omega)]
    exact h11
  · rw [rI_fr (p2_n (by omega)), hR, rl_lo (by omega)]
  · rw [e2, (es _).1, s1, sl_u2 (by omega)]
  · rw [e3, (es _).1, s2, sl_u2 (by omega)]
  · rw [e2, e3, (es _).2, (es _).2, mm, u_n (by omega)]
theorem StP_h6 {a : Mem} {g : Nat → Int32} {x : Int32} (h : StP a 8 g) : StP (up2 a 8 6 x) 8 (upd g 1 (x)) := by
  obtain ⟨w, ⟨h0, h1, h2, h3, h4, h5, h6, h7, h9, h10, h11, hR⟩, s1, s2, mm, lg⟩ := h
  have e2 : up2 a 8 6 x 8 2 = a 8 2 := by rw [p2_s, u_n (by omega)]
  have e3 : up2 a 8 6 x 8 3 = a 8 3 := by rw [p2_s, u_n (by omega)]
  have es : ∀ y, sI (up2 a 8 6 x) (sdr 8 y) = sI a (sdr 8 y) ∧ up2 a 8 6 x (sdr 8 y) = a (sdr 8 y) := by
    intro y
    have := @sdr_or 8 y
    exact ⟨sI_fr (p2_n (by omega)) (p2_n (by omega)), p2_n (by omega)⟩
  refine ⟨?_, ⟨?_, ?_, ?_, ?_, ?_, ?_, ?_, ?_, ?_, ?_, ?_, ?_⟩, ?_, ?_, ?_, LG_fr (p2_n (by omega)) (p2_n (by omega)) (u_n (by omega)) (fun j h1 h2 => u_n (by omega)) lg⟩
  · unfold WS
    rw [e2, e3]
    exact w
  · rw [p2_s, u_n (by omega), u_n (by omega)]
    exact h0
  · rw [p2_s, u_s, u_s]
  · rw [p2_n (by omega), u_n (by omega)]
    exact h2
  · rw [p2_n (by omega), u_n (by omega)]
    exact h3
  · rw [p2_n (by omega), u_n (by omega)]
    exact h4
  · rw [p2_n (by omega), u_n (by omega)]
    exact h5
  · rw [p2_s, u_n (by omega), u_n (by omega)]
    exact h6
  · rw [p2_s, u_n (by omega), u_n (by omega)]
    exact h7
  · rw [p2_s, u_n (by omega), u_n (by omega)]
    exact h9
  · rw [p2_s, u_n (by omega), u_n (by omega)]
    exact h10
  · rw [p2_s, u_n (by omega), u_n (by omega)]
    exact h11
  · rw [rI_fr (p2_n (by omega)), hR, rl_lo (by omega)]
  · rw [e2, (es _).1, s1, sl_u2 (by omega)]
  · rw [e3, (es _).1, s2, sl_u2 (by omega)]
  · rw [e2, e3, (es _).2, (es _).2, mm, u_n (by omega)]
theorem StP_h10 {a : Mem} {g : Nat → Int32} {x : Int32} (h : StP a 8 g) : StP (up2 a 8 10 x) 8 (upd g 6 (x)) := by
  obtain ⟨w, ⟨h0, h1, h2, h3, h4, h5, h6, h7, h9, h10, h11, hR⟩, s1, s2, mm, lg⟩ := h
  have e2 : up2 a 8 10 x 8 2 = a 8 2 := by rw [p2_s, u_n (by omega)]
  have e3 : up2 a 8 10 x 8 3 = a 8 3 := by rw [p2_s, u_n (by omega)]
  have es : ∀ y, sI (up2 a 8 10 x) (sdr 8 y) = sI a (sdr 8 y) ∧ up2 a 8 10 x (sdr 8 y) = a (sdr 8 y) := by
    intro y
    have := @sdr_or 8 y
    exact ⟨sI_fr (p2_n (by omega)) (p2_n (by omega)), p2_n (by omega)⟩
  refine ⟨?_, ⟨?_, ?_, ?_, ?_, ?_, ?_, ?_, ?_, ?_, ?_, ?_, ?_⟩, ?_, ?_, ?_, LG_fr (p2_n (by omega)) (p2_n (by omega)) (u_n (by omega)) (fun j h1 h2 => u_n (by omega)) lg⟩
  · unfold WS
    rw [e2, e3]
    exact w
  · rw [p2_s, u_n (by omega), u_n (by omega)]
    exact h0
  · rw [p2_s, u_n (by omega), u_n (by omega)]
    exact h1
  · rw [p2_n (by omega), u_n (by omega)]
    exact h2
  · rw [p2_n (by omega), u_n (by omega)]
    exact h3
  · rw [p2_n (by omega), u_n (by omega)]
    exact h4
  · rw [p2_n (by omega), u_n (by omega)]
    exact h5
  · rw [p2_s, u_s, u_s]
  · rw [p2_s, u_n (by omega), u_n (by omega)]
    exact h7
  · rw [p2_s, u_n (by omega), u_n (by omega)]
    exact h9
  · rw [p2_s, u_n (by omega), u_n (by omega)]
    exact h10
  · rw [p2_s, u_n (by omega), u_n (by omega)]
    exact h11
  · rw [rI_fr (p2_n (by omega)), hR, rl_lo (by omega)]
  · rw [e2, (es _).1, s1, sl_u2 (by omega)]
  · rw [e3, (es _).1, s2, sl_u2 (by omega)]
  · rw [e2, e3, (es _).2, (es _).2, mm, u_n (by omega)]
theorem StP_h9 {a : Mem} {g : Nat → Int32} {x : Int32} (h : StP a 8 g) : StP (up2 a 8 9 x) 8 (upd g 7 (x)) := by
  obtain ⟨w, ⟨h0, h1, h2, h3, h4, h5, h6, h7, h9, h10, h11, hR⟩, s1, s2, mm, lg⟩ := h
  have e2 : up2 a 8 9 x 8 2 = a 8 2 := by rw [p2_s, u_n (by omega)]
  have e3 : up2 a 8 9 x 8 3 = a 8 3 := by rw [p2_s, u_n (by omega)]
  have es : ∀ y, sI (up2 a 8 9 x) (sdr 8 y) = sI a (sdr 8 y) ∧ up2 a 8 9 x (sdr 8 y) = a (sdr 8 y) := by
    intro y
    have := @sdr_or 8 y
    exact ⟨sI_fr (p2_n (by omega)) (p2_n (by omega)), p2_n (by omega)⟩
  refine ⟨?_, ⟨?_, ?_, ?_, ?_, ?_, ?_, ?_, ?_, ?_, ?_, ?_, ?_⟩, ?_, ?_, ?_, LG_fr (p2_n (by omega)) (p2_n (by omega)) (u_n (by omega)) (fun j h1 h2 => u_n (by omega)) lg⟩
  · unfold WS
    rw [e2, e3]
    exact w
  · rw [p2_s, u_n (by omega), u_n (by omega)]
    exact h0
  · rw [p2_s, u_n (by omega), u_n (by omega)]
    exact h1
  · rw [p2_n (by omega), u_n (by omega)]
    exact h2
  · rw [p2_n (by omega), u_n (by omega)]
    exact h3
  · rw [p2_n (by omega), u_n (by omega)]
    exact h4
  · rw [p2_n (by omega), u_n (by omega)]
    exact h5
  · rw [p2_s, u_n (by omega), u_n (by omega)]
    exact h6
  · rw [p2_s, u_s, u_s]
  · rw [p2_s, u_n (by omega), u_n (by omega)]
    exact h9
  · rw [p2_s, u_n (by omega), u_n (by omega)]
    exact h10
  · rw [p2_s, u_n (by omega), u_n (by omega)]
    exact h11
  · rw [rI_fr (p2_n (by omega)), hR, rl_lo (by omega)]
  · rw [e2, (es _).1, s1, sl_u2 (by omega)]
  · rw [e3, (es _).1, s2, sl_u2 (by omega)]
  · rw [e2, e3, (es _).2, (es _).2, mm, u_n (by omega)]
theorem StP_h8 {a : Mem} {g : Nat → Int32} {x : Int32} (h : StP a 8 g) : StP (up2 a 8 8 x) 8 (upd g 9 (x)) := by
  obtain ⟨w, ⟨h0, h1, h2, h3, h4, h5, h6, h7, h9, h10, h11, hR⟩, s1, s2, mm, lg⟩ := h
  have e2 : up2 a 8 8 x 8 2 = a 8 2 := by rw [p2_s, u_n (by omega)]
  have e3 : up2 a 8 8 x 8 3 = a 8 3 := by rw [p2_s, u_n (by omega)]
  have es : ∀ y, sI (up2 a 8 8 x) (sdr 8 y) = sI a (sdr 8 y) ∧ up2 a 8 8 x (sdr 8 y) = a (sdr 8 y) := by
    intro y
    have := @sdr_or 8 y
    exact ⟨sI_fr (p2_n (by omega)) (p2_n (by omega)), p2_n (by omega)⟩
  refine ⟨?_, ⟨?_, ?_, ?_, ?_, ?_, ?_, ?_, ?_, ?_, ?_, ?_, ?_⟩, ?_, ?_, ?_, LG_fr (p2_n (by omega)) (p2_n (by omega)) (u_n (by omega)) (fun j h1 h2 => u_n (by omega)) lg⟩
  · unfold WS
    rw [e2, e3]
    exact w
  · rw [p2_s, u_n (by omega), u_n (by omega)]
    exact h0
  · rw [p2_s, u_n (by omega), u_n (by omega)]
    exact h1
  · rw [p2_n (by omega), u_n (by omega)]
    exact h2
  · rw [p2_n (by omega), u_n (by omega)]
    exact h3
  · rw [p2_n (by omega), u_n (by omega)]
    exact h4
  · rw [p2_n (by omega), u_n (by omega)]
    exact h5
  · rw [p2_s, u_n (by omega), u_n (by omega)]
    exact h6
  · rw [p2_s, u_n (by omega), u_n (by omega)]
    exact h7
  · rw [p2_s, u_s, u_s]
  · rw [p2_s, u_n (by omega), u_n (by omega)]
    exact h10
  · rw [p2_s, u_n (by omega), u_n (by omega)]
    exact h11
  · rw [rI_fr (p2_n (by omega)), hR, rl_lo (by omega)]
  · rw [e2, (es _).1, s1, sl_u2 (by omega)]
  · rw [e3, (es _).1, s2, sl_u2 (by omega)]
  · rw [e2, e3, (es _).2, (es _).2, mm, u_n (by omega)]
theorem StP_h4 {a : Mem} {g : Nat → Int32} {x : Int32} (h : StP a 8 g) : StP (up2 a 8 4 x) 8 (upd g 10 (nb x)) := by
  obtain ⟨w, ⟨h0, h1, h2, h3, h4, h5, h6, h7, h9, h10, h11, hR⟩, s1, s2, mm, lg⟩ := h
  have e2 : up2 a 8 4 x 8 2 = a 8 2 := by rw [p2_s, u_n (by omega)]
  have e3 : up2 a 8 4 x 8 3 = a 8 3 := by rw [p2_s, u_n (by omega)]
  have es : ∀ y, sI (up2 a 8 4 x) (sdr 8 y) = sI a (sdr 8 y) ∧ up2 a 8 4 x (sdr 8 y) = a (sdr 8 y) := by
    intro y
    have := @sdr_or 8 y
    exact ⟨sI_fr (p2_n (by omega)) (p2_n (by omega)), p2_n (by omega)⟩
  refine ⟨?_, ⟨?_, ?_, ?_, ?_, ?_, ?_, ?_, ?_, ?_, ?_, ?_, ?_⟩, ?_, ?_, ?_, LG_fr (p2_n (by omega)) (p2_n (by omega)) (u_n (by omega)) (fun j h1 h2 => u_n (by omega)) lg⟩
  · unfold WS
    rw [e2, e3]
    exact w
  · rw [p2_s, u_n (by omega), u_n (by omega)]
    exact h0
  · rw [p2_s, u_n (by omega), u_n (by omega)]
    exact h1
  · rw [p2_n (by omega), u_n (by omega)]
    exact h2
  · rw [p2_n (by omega), u_n (by omega)]
    exact h3
  · rw [p2_n (by omega), u_n (by omega)]
    exact h4
  · rw [p2_n (by omega), u_n (by omega)]
    exact h5
  · rw [p2_s, u_n (by omega), u_n (by omega)]
    exact h6
  · rw [p2_s, u_n (by omega), u_n (by omega)]
    exact h7
  · rw [p2_s, u_n (by omega), u_n (by omega)]
    exact h9
  · rw [p2_s, u_s, u_s]
  · rw [p2_s, u_n (by omega), u_n (by omega)]
    exact h11
  · rw [rI_fr (p2_n (by omega)), hR, rl_lo (by omega)]
  · rw [e2, (es _).1, s1, sl_u2 (by omega)]
  · rw [e3, (es _).1, s2, sl_u2 (by omega)]
  · rw [e2, e3, (es _).2, (es _).2, mm, u_n (by omega)]
theorem StP_h7 {a : Mem} {g : Nat → Int32} {x : Int32} (h : StP a 8 g) : StP (up2 a 8 7 x) 8 (upd g 11 (x)) := by
  obtain ⟨w, ⟨h0, h1, h2, h3, h4, h5, h6, h7, h9, h10, h11, hR⟩, s1, s2, mm, lg⟩ := h
  have e2 : up2 a 8 7 x 8 2 = a 8 2 := by rw [p2_s, u_n (by omega)]
  have e3 : up2 a 8 7 x 8 3 = a 8 3 := by rw [p2_s, u_n (by omega)]
  have es : ∀ y, sI (up2 a 8 7 x) (sdr 8 y) = sI a (sdr 8 y) ∧ up2 a 8 7 x (sdr 8 y) = a (sdr 8 y) := by
    intro y
    have := @sdr_or 8 y
    exact ⟨sI_fr (p2_n (by omega)) (p2_n (by omega)), p2_n (by omega)⟩
  refine ⟨?_, ⟨?_, ?_, ?_, ?_, ?_, ?_, ?_, ?_, ?_, ?_, ?_, ?_⟩, ?_, ?_, ?_, LG_fr (p2_n (by omega)) (p2_n (by omega)) (u_n (by omega)) (fun j h1 h2 => u_n (by omega)) lg⟩
  · unfold WS
    rw [e2, e3]
    exact w
  · rw [p2_s, u_n (by omega), u_n (by omega)]
    exact h0
  · rw [p2_s, u_n (by omega), u_n (by omega)]
    exact h1
  · rw [p2_n (by omega), u_n (by omega)]
    exact h2
  · rw [p2_n (by omega), u_n (by omega)]
    exact h3
  · rw [p2_n (by omega), u_n (by omega)]
    exact h4
  · rw [p2_n (by omega), u_n (by omega)]
    exact h5
  · rw [p2_s, u_n (by omega), u_n (by omega)]
    exact h6
  · rw [p2_s, u_n (by omega), u_n (by omega)]
    exact h7
  · rw [p2_s, u_n (by omega), u_n (by omega)]
    exact h9
  · rw [p2_s, u_n (by omega), u_n (by omega)]
    exact h10
  · rw [p2_s, u_s, u_s]
  · rw [rI_fr (p2_n (by omega)), hR, rl_lo (by omega)]
  · rw [e2, (es _).1, s1, sl_u2 (by omega)]
  · rw [e3, (es _).1, s2, sl_u2 (by omega)]
  · rw [e2, e3, (es _).2, (es _).2, mm, u_n (by omega)]
theorem VL_0 {t : Int} {g : Nat → Int32} {v : Int32} (h : VL t g) (h4 : g 0 ≠ 4) : VL t (upd g 0 v) := by
  obtain ⟨h1, hR, w, bl, q, h10, h11, hl⟩ := h
  unfold VL
  rw [sl_u2 (by omega), sl_u2 (by omega), rl_lo (by omega), u_n (by omega), u_n (by omega), u_n (by omega), u_n (by omega), u_n (by omega), u_n (by omega), u_n (by omega), u_n (by omega), u_n (show (11 : Nat) ≠ 0 by omega)]
  refine ⟨h1, hR, w, bl, q, h10, fun _ => h11 h4, fun i hi h2 => ?_⟩
  rw [u_n (by omega), u_n (by omega)]
  exact hl i hi h2
theorem VL_end {t : Int} {g : Nat → Int32} {v : Int32} (h : VL t g) : VL t (upd (upd g 0 4) 11 v) := by
  obtain ⟨h1, hR, w, bl, q, h10, h11, hl⟩ := h
  have e : ∀ j, j ≠ 0 → j ≠ 11 → upd (upd g 0 4) 11 v j = g j := fun j h0 h9 => by rw [u_n h9, u_n h0]
  unfold VL
  rw [sl_u2 (by omega), sl_u2 (by omega), sl_u2 (by omega), sl_u2 (by omega), rl_lo (by omega), rl_lo (by omega), e 1 (by omega) (by omega), e 2 (by omega) (by omega), e 4 (by omega) (by omega), e 5 (by omega) (by omega), e 6 (by omega) (by omega), e 7 (by omega) (by omega), e 8 (by omega) (by omega), e 10 (by omega) (by omega), u_n (show (0 : Nat) ≠ 11 by omega), u_s]
  refine ⟨h1, hR, w, bl, q, h10, fun h => absurd rfl h, fun i hi h2 => ?_⟩
  rw [e _ (by omega) (by omega), e _ (by omega) (by omega)]
  exact hl i hi h2
theorem VL_10 {t : Int} {g : Nat → Int32} {v : Int32} (h : VL t g) (hv : v = 0 ∨ v = 1) : VL t (upd g 10 v) := by
  obtain ⟨h1, hR, w, bl, q, h10, h11, hl⟩ := h
  have e : ∀ j, j ≠ 10 → upd g 10 v j = g j := fun j h0 => u_n h0
  unfold VL
  rw [sl_u2 (by omega), sl_u2 (by omega), rl_lo (by omega), e 1 (by omega), e 2 (by omega), e 4 (by omega), e 5 (by omega), e 6 (by omega), e 7 (by omega), e 8 (by omega), e 0 (by omega), e 11 (by omega), u_s]
  refine ⟨h1, hR, w, bl, q, hv, h11, fun i hi h2 => ?_⟩
  rw [e _ (by omega), e _ (by omega)]
  exact hl i hi h2
theorem VL_6 {t : Int} {g : Nat → Int32} (h : VL t g) : VL t (upd g 6 0) := by
  obtain ⟨h1, hR, w, bl, q, h10, h11, hl⟩ := h
  have e : ∀ j, j ≠ 6 → upd g 6 0 j = g j := fun j h0 => u_n h0
  have e0 : (0 : Int32).toInt = 0 := rfl
  unfold VL
  rw [sl_u2 (by omega), sl_u2 (by omega), rl_lo (by omega), e 1 (by omega), e 2 (by omega), e 4 (by omega), e 5 (by omega), u_s, e 7 (by omega), e 8 (by omega), e 0 (by omega), e 10 (by omega), e 11 (by omega)]
  refine ⟨h1, hR, w, bl, ⟨q.1, ⟨by omega, by rw [e0]; omega⟩, q.2.2⟩, h10, h11, fun i hi h2 => ?_⟩
  rw [e _ (by omega), e _ (by omega)]
  exact hl i hi h2
theorem oS_3 {s : Int32} (hs : s = 0 ∨ s = 1) : (oS s = 37 ∧ oS (1 - s) = 54) ∨ (oS s = 54 ∧ oS (1 - s) = 37) := by
  rcases hs with rfl | rfl
  · exact Or.inl ⟨rfl, rfl⟩
  · exact Or.inr ⟨rfl, rfl⟩
theorem setS_hi {g : Nat → Int32} {s : Int32} {S : Nat → Int32} {j : Nat} (h : 71 ≤ j) : setS g (oS s) S j = g j := by
  have := @oS_le s
  exact if_neg (by omega)
theorem VL_S {t u : Int} {g S : Nat → Int32} {s : Int32} (h : VL t g) (hu : t ≤ u) (hs : s = 0 ∨ s = 1) (h17 : ∀ i, 17 ≤ i → S i = 0) (hV : VS (120000 * (u + 1)) (9999 * u) u (rl g) (g 2) (g 4) S) : VL u (setS g (oS s) S) := by
  obtain ⟨h1, hR, w, bl, q, h10, h11, hl⟩ := VL_mono h hu
  unfold VL
  rw [setS_rl, setS_lo (by omega), setS_lo (by omega), setS_lo (by omega), setS_lo (by omega), setS_lo (by omega), setS_lo (by omega), setS_lo (by omega), setS_lo (by omega), setS_lo (by omega), setS_lo (by omega)]
  refine ⟨h1, hR, ?_, ?_, q, h10, h11, fun i hi h2 => ?_⟩
  · rcases hs with rfl | rfl
    · rw [oS_0, setS_sl h17]; exact hV
    · rw [oS_1, setS_o (by omega)]; exact w
  · rcases hs with rfl | rfl
    · rw [oS_0, setS_o (by omega)]; exact bl
    · rw [oS_1, setS_sl h17]; exact hV
  · rw [setS_hi (by omega), setS_hi (by omega)]
    exact hl i hi h2
theorem StP_S {a a1 : Mem} {g S : Nat → Int32} {p : Int32} {k : Nat} (h : StP a 8 g) (hp : p = 0 ∨ p = 1) (hk : f_X6_sideOf 8 p a = k) (hf : ∀ k1, k1 ≠ k → k1 ≠ k + 1 → a1 k1 = a k1) (hS : sI a1 k = S) (hm : S 1 = sl g (oS p) 1) : StP a1 8 (setS g (oS p) S) := by
  obtain ⟨w, ⟨h0, h1, h2, h3, h4, h5, h6, h7, h9, h10, h11, hR⟩, s1, s2, mm, lg⟩ := h
  have h17 : ∀ i, 17 ≤ i → S i = 0 := fun i hi => by rw [← hS, sI_top hi]
  have hkk := sdr_W w
  have hk2 : k = 13 ∨ k = 15 := by
    rw [← hk]
    unfold f_X6_sideOf
    split
    · exact sdr_or
    · exact sdr_or
  have e8 : a1 8 = a 8 := hf 8 (by omega) (by omega)
  have e9 : a1 (8 + 1) = a (8 + 1) := hf 9 (by omega) (by omega)
  have e10 : a1 (8 + 1 + 1) = a (8 + 1 + 1) := hf 10 (by omega) (by omega)
  have e11 : a1 (8 + 3) = a (8 + 3) := hf 11 (by omega) (by omega)
  have e12 : a1 (8 + 3 + 1) = a (8 + 3 + 1) := hf 12 (by omega) (by omega)
  have m1 : a1 k 3 = S 1 := by rw [← hS]; rfl
  unfold StP WS HR
  rw [e8, e9, rI_fr e10, setS_rl, setS_lo (by omega), setS_lo (by omega), setS_lo (by omega), setS_lo (by omega), setS_lo (by omega), setS_lo (by omega), setS_lo (by omega), setS_lo (by omega), setS_lo (by omega), setS_lo (by omega), setS_lo (by omega), setS_lo (by omega)]
  have hlg : LG a1 (8 + 3) (setS g (oS p) S) := LG_fr e11 e12 (setS_lo (by omega)) (fun j q1 q2 => setS_hi q1) lg
  rcases hp with rfl | rfl
  · have ek : sdr 8 (a 8 2) = k := hk
    rw [ek] at s1 mm hkk ⊢
    have hne : sdr 8 (a 8 3) ≠ k ∧ sdr 8 (a 8 3) ≠ k + 1 ∧ sdr 8 (a 8 3) + 1 ≠ k ∧ sdr 8 (a 8 3) + 1 ≠ k + 1 := by omega
    refine ⟨w, ⟨h0, h1, h2, h3, h4, h5, h6, h7, h9, h10, h11, hR⟩, ?_, ?_, ?_, hlg⟩
    · rw [hS, oS_0, setS_sl h17]
    · rw [sI_fr (hf _ hne.1 hne.2.1) (hf _ hne.2.2.1 hne.2.2.2), s2, oS_0, setS_o (by omega)]
    · rw [m1, hf _ hne.1 hne.2.1, hm, ← mm, oS_0, ← s1]
      rfl
  · have ek : sdr 8 (a 8 3) = k := hk
    rw [ek] at s2 mm hkk ⊢
    have hne : sdr 8 (a 8 2) ≠ k ∧ sdr 8 (a 8 2) ≠ k + 1 ∧ sdr 8 (a 8 2) + 1 ≠ k ∧ sdr 8 (a 8 2) + 1 ≠ k + 1 := by omega
    refine ⟨w, ⟨h0, h1, h2, h3, h4, h5, h6, h7, h9, h10, h11, hR⟩, ?_, ?_, ?_, hlg⟩
    · rw [sI_fr (hf _ hne.1 hne.2.1) (hf _ hne.2.2.1 hne.2.2.2), s1, oS_1, setS_o (by omega)]
    · rw [hS, oS_1, setS_sl h17]
    · rw [m1, hf _ hne.1 hne.2.1, hm, ← mm, oS_1, ← s2]
      rfl
theorem sixteen : (1 : Nat) = 1 := rfl
theorem REL_w {t : Int} {a b : Mem} {j i : Nat} {x y : Int32} (h : REL t a b) (hs : StP (up2 a 8 j x) 8 (upd (b 1) i y)) (hv : VL t (upd (b 1) i y)) : REL t (up2 a 8 j x) (upR b 1 (upd (b 1) i y)) := REL_now (fun k hk => p2_n (by omega)) (fun j _ => by rw [R_n (by omega)]) (fun k h4 h8 => R_n (by omega)) (Int.le_refl t) (by rw [R_s]; exact hs) (by rw [R_s]; exact hv) h
theorem r_bec {t : Int} {N : Nat} {a b : Mem} {v : Int32} (hN : 1560 ≤ N) (h : REL t a b) (h4 : b 1 0 ≠ 4) : ∃ b', f_X9_becomes N v b = some (b 1 1, b') ∧ REL t (up2 (f_X8_remember a) 8 5 v) b' ∧ b' 0 0 = b 0 0 ∧ b' 1 = upd (b 1) 0 v ∧ up2 (f_X8_remember a) 8 5 v 8 6 = b 1 1 := by
  obtain ⟨b1, q1, q2, q3, q4, q5, q6⟩ := REM hN h
  have h03 := (REL_rules q2).1
  unfold f_X9_becomes
  rw [q1, b_P]
  simp only [b_T]
  have e0 : (0 : Int32).toNatClampNeg = 0 := rfl
  rw [e0, r_mv (by rw [R_n (by omega)]; exact h03), b_P, R_s, u_n (by omega), q3]
  refine ⟨_, rfl, ?_, by rw [R_n (by omega), q4 0 (by omega)], by rw [R_s], ?_⟩
  · have := REL_w (j := 5) (i := 0) (x := v) (y := v) q2 (StP_h5 q2.2.1) (VL_0 q2.2.2.1 (by rw [q3]; exact h4))
    rw [q3] at this
    exact this
  · rw [p2_s, u_n (by omega), q6 8 (by omega) (by omega)]
    exact (REL_hd h).2.1.2.1
theorem ag_start {t : Int} {N : Nat} {a b c : Mem} (hN : 1560 ≤ N) (h : REL t a b) : AGR t (f_L_start a c) (f_X9_start N b) := by
  obtain ⟨h03, -⟩ := REL_rules h
  obtain ⟨-, ⟨h0, -⟩, -⟩ := REL_hd h
  unfold f_L_start f_X8_start f_X9_start
  simp only [b_T, r_st h03, b_P, pass1, h0]
  by_cases h1 : b 1 0 = 0
  · rw [if_pos h1, if_pos h1, if_neg (by decide), b_T2, if_neg (by decide)]
    obtain ⟨hr, h00⟩ := @REL_t t a b 0 h
    have hb1 : (up2 b 0 0 0) 1 = b 1 := p2_n (by omega)
    generalize up2 b 0 0 0 = b0 at hr h00 hb1 ⊢
    obtain ⟨b', q1, q2, q3, q4, q5⟩ := @r_bec t N a b0 1 hN hr (by rw [hb1, h1]; decide)
    rw [q1, b_P2, q5]
    exact ag_ok rfl rfl q2 (by rw [q3, h00])
  · rw [if_neg h1, if_neg h1, if_pos rfl, b_T2, if_pos rfl]
    exact ag_er rfl rfl h (by decide)
theorem ag_pause {t : Int} {N : Nat} {a b c : Mem} (hN : 1560 ≤ N) (h : REL t a b) : AGR t (f_L_pause a c) (f_X9_pause N b) := by
  obtain ⟨h03, -⟩ := REL_rules h
  obtain ⟨-, ⟨h0, -⟩, -⟩ := REL_hd h
  unfold f_L_pause f_X8_pause f_X9_pause
  simp only [b_T, r_st h03, b_P, pass1, h0]
  by_cases h1 : b 1 0 = 1
  · rw [if_pos h1, if_pos h1, if_neg (by decide), b_T2, if_neg (by decide)]
    obtain ⟨hr, h00⟩ := @REL_t t a b 0 h
    have hb1 : (up2 b 0 0 0) 1 = b 1 := p2_n (by omega)
    generalize up2 b 0 0 0 = b0 at hr h00 hb1 ⊢
    obtain ⟨b', q1, q2, q3, q4, q5⟩ := @r_bec t N a b0 2 hN hr (by rw [hb1, h1]; decide)
    rw [q1, b_P2, q5]
    exact ag_ok rfl rfl q2 (by rw [q3, h00])
  · rw [if_neg h1, if_neg h1, if_pos rfl, b_T2, if_pos rfl]
    exact ag_er rfl rfl h (by decide)
theorem ag_proceed {t : Int} {N : Nat} {a b c : Mem} (hN : 1560 ≤ N) (h : REL t a b) : AGR t (f_L_proceed a c) (f_X9_proceed N b) := by
  obtain ⟨h03, -⟩ := REL_rules h
  obtain ⟨-, ⟨h0, -⟩, -⟩ := REL_hd h
  unfold f_L_proceed f_X8_proceed f_X9_proceed
  simp only [b_T, r_st h03, b_P, pass1, h0]
  by_cases h1 : b 1 0 = 2
  · rw [if_pos h1, if_pos h1, if_neg (by decide), b_T2, if_neg (by decide)]
    obtain ⟨hr, h00⟩ := @REL_t t a b 0 h
    have hb1 : (up2 b 0 0 0) 1 = b 1 := p2_n (by omega)
    generalize up2 b 0 0 0 = b0 at hr h00 hb1 ⊢
    obtain ⟨b', q1, q2, q3, q4, q5⟩ := @r_bec t N a b0 1 hN hr (by rw [hb1, h1]; decide)
    rw [q1, b_P2, q5]
    exact ag_ok rfl rfl q2 (by rw [q3, h00])
  · rw [if_neg h1, if_neg h1, if_pos rfl, b_T2, if_pos rfl]
    exact ag_er rfl rfl h (by decide)
theorem ag_seal {t : Int} {N : Nat} {a b c : Mem} (hN : 1560 ≤ N) (ht : t ≤ 512) (h : REL t a b) : AGR t (f_L_seal a c) (f_X9_seal N b) := by
  unfold f_L_seal f_X8_seal f_X9_seal
  simp only [b_T, q_seal h ht, b_P, pass1]
  by_cases h1 : f_X6_ticksToSealing 8 a = 0
  · rw [if_pos h1, if_pos h1, if_neg (by decide), b_T2, if_neg (by decide)]
    have h10 : b 1 0 = 1 := by
      rw [c_seal h] at h1
      by_cases h9 : b 1 0 = 1
      · exact h9
      · rw [if_neg h9] at h1
        exact absurd h1 (by decide)
    obtain ⟨hr, h00⟩ := @REL_t t a b 0 h
    have hb1 : (up2 b 0 0 0) 1 = b 1 := p2_n (by omega)
    generalize up2 b 0 0 0 = b0 at hr h00 hb1 ⊢
    obtain ⟨b', q1, q2, q3, q4, q5⟩ := @r_bec t N a b0 3 hN hr (by rw [hb1, h10]; decide)
    rw [q1, b_P2, q5]
    exact ag_ok rfl rfl q2 (by rw [q3, h00])
  · rw [if_neg h1, if_neg h1, if_pos rfl, b_T2, if_pos rfl]
    exact ag_er rfl rfl h (by decide)
theorem r_end {N : Nat} {b : Mem} {v : Int32} (h : b 0 3 = 0) : f_X9_endGame N v b = some (upR b 1 (upd (upd (b 1) 0 4) 11 v)) := by
  unfold f_X9_endGame
  simp only [b_T]
  rw [h]
  show some (upR (upR b 1 (upd (b 1) 0 4)) (rowM (upR b 1 (upd (b 1) 0 4) 0 3)) (upd (upR b 1 (upd (b 1) 0 4) (rowM (upR b 1 (upd (b 1) 0 4) 0 3))) 11 v)) = _
  rw [R_n (show (0 : Nat) ≠ 1 by omega), h]
  show some (upR (upR b 1 (upd (b 1) 0 4)) 1 (upd (upR b 1 (upd (b 1) 0 4) 1) 11 v)) = _
  rw [R_R, R_s]
theorem REL_end {t : Int} {a b : Mem} {v : Int32} (h : REL t a b) : REL t (f_X6_endWith 8 v a) (upR b 1 (upd (upd (b 1) 0 4) 11 v)) ∧ f_X6_endWith 8 v a 8 7 = v := by
  unfold f_X6_endWith
  simp only [b_T]
  refine ⟨?_, by rw [p2_s, u_s]⟩
  exact REL_now (fun k hk => by rw [p2_n (by omega), p2_n (by omega)]) (fun j _ => by rw [R_n (by omega)]) (fun k h4 h8 => R_n (by omega)) (Int.le_refl t) (by rw [R_s]; exact StP_h7 (StP_h5 h.2.1)) (by rw [R_s]; exact VL_end h.2.2.1) h
theorem ag_resign {t : Int} {N : Nat} {a b c : Mem} {p : Int32} (hN : 1560 ≤ N) (h : REL t a b) : AGR t (f_L_resign p a c) (f_X9_resign N p b) := by
  obtain ⟨h03, -⟩ := REL_rules h
  obtain ⟨-, ⟨h0, -⟩, -⟩ := REL_hd h
  unfold f_L_resign f_X8_resign f_X9_resign f_X9_resign_18 f_X8_other
  simp only [b_T, r_st h03, b_P, k_side, q_side, pass2, h0]
  by_cases hp : p = 0 ∨ p = 1
  · simp only [hp, reduceIte, i10, bXc_0]
    by_cases h1 : b 1 0 = 4
    · simp only [h1, reduceIte, i10, eq_self, b_T2]
      exact ag_er rfl rfl h (by decide)
    · simp only [h1, reduceIte, i10, eq_self, b_T2]
      obtain ⟨hr, h00⟩ := @REL_t t a b 0 h
      generalize up2 b 0 0 0 = b0 at hr h00 ⊢
      obtain ⟨b1, q1, q2, q3, q4, q5, q6⟩ := REM hN hr
      have h03 := (REL_rules q2).1
      rw [q1, b_P, r_end h03, b_P]
      obtain ⟨e1, e2⟩ := @REL_end t (f_X8_remember a) b1 (1 - p) q2
      rw [e2]
      exact ag_ok rfl (by rw [R_s]; rfl) e1 (by rw [R_n (by omega), q4 0 (by omega), h00])
  · by_cases h1 : b 1 0 = 4
    · simp only [hp, h1, reduceIte, eq_self, i10, bXc_3, b_T2]
      exact ag_er rfl rfl h (by decide)
    · simp only [hp, h1, reduceIte, eq_self, i10, bXc_3, b_T2]
      exact ag_er rfl rfl h (by decide)

