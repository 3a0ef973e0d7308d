theorem NOTE_o {g : Nat → Int32} {s : Int32} {j : Nat} (h0 : j ≠ 0) (h9 : j ≠ 9) (h11 : j ≠ 11) : NOTE g s j = g j := by
  unfold NOTE
  split
  · rw [u_n h11, u_n h0, u_n h9]
  · rw [u_n h9]
theorem NOTE_9 {g : Nat → Int32} {s : Int32} : NOTE g s 9 = if g 9 = -1 then s else g 9 := by
  unfold NOTE
  split
  · rw [u_n (by omega), u_n (by omega), u_s]
  · rw [u_s]
theorem NOTE_0 {g : Nat → Int32} {s : Int32} : NOTE g s 0 = if g 10 = 0 then 4 else g 0 := by
  unfold NOTE
  split
  · rw [u_n (by omega), u_s]
  · rw [u_n (by omega)]
theorem NOTE_11 {g : Nat → Int32} {s : Int32} : NOTE g s 11 = if g 10 = 0 then WON g s else g 11 := by
  unfold NOTE
  split
  · rw [u_s]
  · rw [u_n (by omega)]
theorem HD_o {g : Nat → Int32} {s m x y : Int32} {j : Nat} (h0 : j ≠ 0) (h9 : j ≠ 9) (h11 : j ≠ 11) (h6 : j ≠ 6) (h7 : j ≠ 7) : HD g s m x y j = g j := by
  unfold HD
  rw [u_n h6, u_n h7]
  split
  · exact NOTE_o h0 h9 h11
  · rfl
theorem HD_7 {g : Nat → Int32} {s m x y : Int32} : HD g s m x y 7 = g 7 + m := by
  unfold HD
  rw [u_n (by omega), u_s]
theorem HD_x {g : Nat → Int32} {s m x y : Int32} {j : Nat} (h6 : j ≠ 6) (h7 : j ≠ 7) : HD g s m x y j = (if x = 0 ∧ y ≠ 0 then NOTE g s else g) j := by
  unfold HD
  rw [u_n h6, u_n h7]
theorem VLs {t : Int} {g : Nat → Int32} {s : Int32} (hv : VL t g) (hs : s = 0 ∨ s = 1) : VS (120000 * (t + 1)) (9999 * t) t (rl g) (g 2) (g 4) (sl g (oS s)) := by
  rcases hs with rfl | rfl
  · exact hv.2.2.1
  · exact hv.2.2.2.1
theorem IVs {g : Nat → Int32} {s : Int32} (h : IVX g) (hs : s = 0 ∨ s = 1) : IS (g 3) (g 2).toInt.toNat (sl g (oS s)) := by
  rcases hs with rfl | rfl
  · exact h.1
  · exact h.2.1
/-- both sides, the mover first -/
theorem IV_sum {g : Nat → Int32} {s : Int32} (h : IVX g) (hs : s = 0 ∨ s = 1) : (sl g (oS s) 10).toInt + (sl g (oS (1 - s)) 10).toInt = (g 7).toInt ∧ (sl g (oS s) 1).toInt + (sl g (oS (1 - s)) 1).toInt = (g 8).toInt := by
  rcases hs with rfl | rfl
  · exact h.2.2.1
  · have := h.2.2.1
    refine ⟨?_, ?_⟩
    · show (sl g 54 10).toInt + (sl g 37 10).toInt = _
      omega
    · show (sl g 54 1).toInt + (sl g 37 1).toInt = _
      omega
theorem FELL_s {g : Nat → Int32} {s : Int32} (hs : s = 0 ∨ s = 1) : FELL g ↔ (g 9 = -1 ∧ sl g (oS s) 8 = 0 ∧ sl g (oS (1 - s)) 8 = 0) ∨ (0 ≤ (g 9).toInt ∧ (sl g (oS s) 8 = 1 ∨ sl g (oS (1 - s)) 8 = 1)) := by
  rcases hs with rfl | rfl
  · exact Iff.rfl
  · show FELL g ↔ (g 9 = -1 ∧ sl g 54 8 = 0 ∧ sl g 37 8 = 0) ∨ (0 ≤ (g 9).toInt ∧ (sl g 54 8 = 1 ∨ sl g 37 8 = 1))
    unfold FELL
    constructor
    · rintro (⟨z1, z2, z3⟩ | ⟨z1, z2⟩)
      · exact Or.inl ⟨z1, z3, z2⟩
      · exact Or.inr ⟨z1, z2.symm⟩
    · rintro (⟨z1, z2, z3⟩ | ⟨z1, z2⟩)
      · exact Or.inl ⟨z1, z3, z2⟩
      · exact Or.inr ⟨z1, z2.symm⟩
theorem IVX_of {g : Nat → Int32} {s : Int32} (hs : s = 0 ∨ s = 1) (h1 : IS (g 3) (g 2).toInt.toNat (sl g (oS s))) (h2 : IS (g 3) (g 2).toInt.toNat (sl g (oS (1 - s)))) (h3 : (sl g (oS s) 10).toInt + (sl g (oS (1 - s)) 10).toInt = (g 7).toInt ∧ (sl g (oS s) 1).toInt + (sl g (oS (1 - s)) 1).toInt = (g 8).toInt) (h4 : FELL g) (h5 : g 0 = 4 → 0 ≤ (g 11).toInt) (h6 : LOGI g) : IVX g := by
  rcases hs with rfl | rfl
  · exact ⟨h1, h2, h3, h4, h5, h6⟩
  · have e1 : oS (1 - 1) = 37 := rfl
    have e2 : oS 1 = 54 := rfl
    rw [e1, e2] at h3
    exact ⟨h2, h1, ⟨by omega, by omega⟩, h4, h5, h6⟩
theorem WON_0 {g : Nat → Int32} {s : Int32} (hs : s = 0 ∨ s = 1) : 0 ≤ (WON g s).toInt := by
  unfold WON
  split
  · decide
  · rcases hs with rfl | rfl <;> decide
theorem RUN_e8 {R : Nat → Int32} {et n : Int32} {S : Nat → Int32} (h0 : S 0 = 0) : RUN R et n S 8 = S 8 := by
  unfold RUN
  rw [Dn_0 (by rw [u_n (by omega), u_n (by omega)]; exact h0), u_n (by omega), u_n (by omega)]
theorem IVX_GT {t : Int} {g : Nat → Int32} {m : Int32} (ht : t ≤ 512) (hv : VL t g) (h : IVX g) (g0 : g 0 = 1) (hm : 1 ≤ m.toInt) (hm2 : m.toInt ≤ 9999) : IVX (GT g (sl g (oS (g 1))) (g 1) m) ∧ (GT g (sl g (oS (g 1))) (g 1) m 7).toInt = (g 7).toInt + m.toInt := by
  have hs := hv.1
  generalize hse : g 1 = s at hs
  have hV := VLs hv hs
  have hVo := VLs hv (s_oth hs)
  have hI := IVs h hs
  have hIo := IVs h (s_oth hs)
  have hsum := IV_sum h hs
  have hf := (FELL_s hs).mp h.2.2.2.1
  have hl := h.2.2.2.2.2
  obtain ⟨v0, v2, v3, v4, v5, v6, v7, v8, v9, vf, -⟩ := hV
  obtain ⟨-, -, -, -, -, -, o7, o8, -⟩ := hVo
  have q7 := hv.2.2.2.2.1.2.2.1
  have hvG := VL_GT ht hv (s := s) hse (m := m) (by omega) hm2
  have h17 : ∀ i, 17 ≤ i → RUN (rl g) (g 4) m (sl g (oS s)) i = 0 := RUN_top (by unfold sp; rw [z_tn]; have := hv.2.1.2.1; omega) (fun i hi => sl_top hi)
  have e7 : (g 7 + m).toInt = (g 7).toInt + m.toInt := z_add (by omega) (by omega)
  have b10 : (sl g (oS s) 10).toInt ≤ 6000000 := by
    have := hIo.2.2.2.1
    have := hIo.2.2.2.2
    omega
  obtain ⟨r1, r2, r3⟩ := @IS_RUN (rl g) (g 4) (g 3) m (g 2).toInt.toNat (sl g (oS s)) hI (by rw [z_tn]; omega) v4.1 v7.1 (by omega) b10 (by omega) hm2
  have r8 : sl g (oS s) 8 = 1 → RUN (rl g) (g 4) m (sl g (oS s)) 8 = 1 := fun z => by rw [RUN_e8 (vf.mp z), z]
  have hRB : RUN (rl g) (g 4) m (sl g (oS s)) 8 = 0 ∨ RUN (rl g) (g 4) m (sl g (oS s)) 8 = 1 := by
    have hx := (VLs hvG hs).2.2.2.2.2.2.2.1
    unfold GT at hx
    rw [setS_sl h17] at hx
    exact hx
  have c10 : 0 ≤ (sl g (oS s) 10).toInt := by
    have := hI.2.2.2.1
    have := hI.2.2.2.2
    omega
  unfold GT
  generalize hx8 : sl g (oS s) 8 = x8 at *
  generalize hRg : RUN (rl g) (g 4) m (sl g (oS s)) = T at *
  have ge := @oS_ge s
  have le := @oS_le s
  have Ls : sl (setS (HD g s m x8 (T 8)) (oS s) T) (oS s) = T := setS_sl h17
  have Lo : sl (setS (HD g s m x8 (T 8)) (oS s) T) (oS (1 - s)) = sl g (oS (1 - s)) := by
    rw [setS_o (oS_oth hs)]
    funext i
    have ge2 := @oS_ge (1 - s)
    have le2 := @oS_le (1 - s)
    unfold sl
    split
    · exact HD_o (by omega) (by omega) (by omega) (by omega) (by omega)
    · rfl
  have Gn : ∀ j, j < 37 ∨ 71 ≤ j → j ≠ 0 → j ≠ 9 → j ≠ 11 → j ≠ 6 → j ≠ 7 → setS (HD g s m x8 (T 8)) (oS s) T j = g j := by
    intro j hj z0 z9 z11 z6 z7
    rcases hj with hj | hj
    · rw [setS_lo hj, HD_o z0 z9 z11 z6 z7]
    · rw [setS_hi hj, HD_o z0 z9 z11 z6 z7]
  have G7 : setS (HD g s m x8 (T 8)) (oS s) T 7 = g 7 + m := by rw [setS_lo (by omega), HD_7]
  have Gx : ∀ j, j < 37 → j ≠ 6 → j ≠ 7 → setS (HD g s m x8 (T 8)) (oS s) T j = (if x8 = 0 ∧ T 8 ≠ 0 then NOTE g s else g) j := fun j hj z6 z7 => by rw [setS_lo hj, HD_x z6 z7]
  generalize setS (HD g s m x8 (T 8)) (oS s) T = G at Ls Lo Gn G7 Gx ⊢
  refine ⟨IVX_of hs ?_ ?_ ?_ ?_ ?_ ?_, by rw [G7, e7]⟩
  · rw [Ls, Gn 2 (by omega) (by omega) (by omega) (by omega) (by omega) (by omega), Gn 3 (by omega) (by omega) (by omega) (by omega) (by omega) (by omega)]
    exact r1
  · rw [Lo, Gn 2 (by omega) (by omega) (by omega) (by omega) (by omega) (by omega), Gn 3 (by omega) (by omega) (by omega) (by omega) (by omega) (by omega)]
    exact hIo
  · rw [Ls, Lo, G7, e7, Gn 8 (by omega) (by omega) (by omega) (by omega) (by omega) (by omega), r2, r3, z_add (by omega) (by omega)]
    omega
  · rw [FELL_s hs, Ls, Lo, Gx 9 (by omega) (by omega) (by omega)]
    by_cases hq : x8 = 0 ∧ T 8 ≠ 0
    · rw [if_pos hq, NOTE_9]
      refine Or.inr ⟨?_, Or.inl (hRB.resolve_left hq.2)⟩
      by_cases h9 : g 9 = -1
      · rw [if_pos h9]
        rcases hs with rfl | rfl <;> decide
      · rw [if_neg h9]
        rcases hf with ⟨z1, -⟩ | ⟨z1, -⟩
        · exact absurd z1 h9
        · exact z1
    · rw [if_neg hq]
      rcases hf with ⟨z1, z2, z3⟩ | ⟨z1, z2⟩
      · refine Or.inl ⟨z1, ?_, z3⟩
        exact Classical.byContradiction (fun z4 => hq ⟨z2, z4⟩)
      · refine Or.inr ⟨z1, z2.imp r8 id⟩
  · rw [Gx 0 (by omega) (by omega) (by omega), Gx 11 (by omega) (by omega) (by omega)]
    split
    · rw [NOTE_0, NOTE_11]
      split
      · exact fun _ => WON_0 hs
      · intro h4
        rw [g0] at h4
        exact absurd h4 (by decide)
    · intro h4
      rw [g0] at h4
      exact absurd h4 (by decide)
  · unfold LOGI
    rw [Gn 8 (by omega) (by omega) (by omega) (by omega) (by omega) (by omega), Gn 1 (by omega) (by omega) (by omega) (by omega) (by omega) (by omega), G7, e7, Gn 71 (by omega) (by omega) (by omega) (by omega) (by omega) (by omega), Gn 76 (by omega) (by omega) (by omega) (by omega) (by omega) (by omega)]
    refine ⟨fun i z1 z2 => ?_, fun z => ⟨(hl.2 z).1, by have := (hl.2 z).2; omega⟩⟩
    rw [Gn _ (by omega) (by omega) (by omega) (by omega) (by omega) (by omega), Gn _ (by omega) (by omega) (by omega) (by omega) (by omega) (by omega), Gn _ (by omega) (by omega) (by omega) (by omega) (by omega) (by omega), Gn _ (by omega) (by omega) (by omega) (by omega) (by omega) (by omega)]
    exact hl.1 i z1 z2
theorem IVX_MV {t : Int} {g : Nat → Int32} (ht : t ≤ 512) (hv : VL t g) (h : IVX g) : IVX (MV g (sl g (oS (g 1))) (g 1)) ∧ ∀ j, j < 37 → j ≠ 1 → j ≠ 8 → MV g (sl g (oS (g 1))) (g 1) j = g j := by
  have hs := hv.1
  generalize hse : g 1 = s at hs
  have hV := VLs hv hs
  have hI := IVs h hs
  have hIo := IVs h (s_oth hs)
  have hsum := IV_sum h hs
  have hf := (FELL_s hs).mp h.2.2.2.1
  have hl := h.2.2.2.2.2
  have h4 := h.2.2.2.2.1
  have e1 : (1 : Int32).toInt = 1 := rfl
  obtain ⟨v0, v2, v3, v4, v5, v6, v7, v8, v9, vf, -⟩ := hV
  have q8 := hv.2.2.2.2.1.2.2.2
  have e8 : (g 8 + 1).toInt = (g 8).toInt + 1 := by rw [z_add (by rw [e1]; omega) (by rw [e1]; omega), e1]
  have h17 : ∀ i, 17 ≤ i → FIN (rl g) (g 4) (g 2) (sl g (oS s)) i = 0 := FIN_top (fun i hi => sl_top hi)
  have c1 : (sl g (oS s) 1).toInt ≤ 6000 := by
    have := hIo.2.1
    omega
  have c0 : 0 ≤ (sl g (oS s) 1).toInt := hI.2.1
  have r1 := @IS_FIN (rl g) (g 4) (g 2) (g 3) (g 2).toInt.toNat (sl g (oS s)) hI v7.1 c1
  obtain ⟨f6, f7, f1⟩ := @FIN_r67 (rl g) (g 4) (g 2) (sl g (oS s))
  have f8 : FIN (rl g) (g 4) (g 2) (sl g (oS s)) 8 = sl g (oS s) 8 := FIN_o (by omega) (by omega) (by omega) (by omega) (by omega) (by omega) (by omega)
  have f10 : FIN (rl g) (g 4) (g 2) (sl g (oS s)) 10 = sl g (oS s) 10 := FIN_o (by omega) (by omega) (by omega) (by omega) (by omega) (by omega) (by omega)
  unfold MV
  generalize hga : GAIN (rl g) (g 4) (sl g (oS s)) = ga
  generalize hT : FIN (rl g) (g 4) (g 2) (sl g (oS s)) = T at *
  generalize hth : sl g (oS s) 6 = th at *
  generalize hlo : sl g (oS s) 7 = lo at *
  have ge := @oS_ge s
  have le := @oS_le s
  have Ls : sl (setS (upd (LOGX g s th lo ga (T 0)) 1 (1 - s)) (oS s) T) (oS s) = T := setS_sl h17
  have Lo : sl (setS (upd (LOGX g s th lo ga (T 0)) 1 (1 - s)) (oS s) T) (oS (1 - s)) = sl g (oS (1 - s)) := by
    have := @oS_ge (1 - s)
    have := @oS_le (1 - s)
    rw [setS_o (oS_oth hs), sl_u2 (by omega), LOGX_sl (by omega) (by omega)]
  have Gx : ∀ j, j < 37 → j ≠ 1 → j ≠ 8 → setS (upd (LOGX g s th lo ga (T 0)) 1 (1 - s)) (oS s) T j = g j := fun j q q1 q8 => by rw [setS_lo q, u_n q1, LOGX_lo (by omega) q8]
  have G1 : setS (upd (LOGX g s th lo ga (T 0)) 1 (1 - s)) (oS s) T 1 = 1 - s := by rw [setS_lo (by omega), u_s]
  have G8 : setS (upd (LOGX g s th lo ga (T 0)) 1 (1 - s)) (oS s) T 8 = g 8 + 1 := by rw [setS_lo (by omega), u_n (by omega), LOGX_8]
  have G71 : setS (upd (LOGX g s th lo ga (T 0)) 1 (1 - s)) (oS s) T 71 = s := by rw [setS_hi (by omega), u_n (by omega)]; rfl
  have G76 : setS (upd (LOGX g s th lo ga (T 0)) 1 (1 - s)) (oS s) T 76 = g 7 := by rw [setS_hi (by omega), u_n (by omega)]; rfl
  have Gl : ∀ j, 77 ≤ j → j < 311 → setS (upd (LOGX g s th lo ga (T 0)) 1 (1 - s)) (oS s) T j = g (j - 6) := fun j z1 z2 => by
    rw [setS_hi (by omega), u_n (by omega)]
    unfold LOGX
    rw [if_neg (by omega), if_neg (by omega), if_neg (by omega), if_neg (by omega), if_neg (by omega), if_neg (by omega), if_neg (by omega), if_pos (by omega)]
  generalize setS (upd (LOGX g s th lo ga (T 0)) 1 (1 - s)) (oS s) T = G at Ls Lo Gx G1 G8 G71 G76 Gl ⊢
  refine ⟨IVX_of hs ?_ ?_ ?_ ?_ ?_ ?_, Gx⟩
  · rw [Ls, Gx 2 (by omega) (by omega) (by omega), Gx 3 (by omega) (by omega) (by omega)]
    exact r1
  · rw [Lo, Gx 2 (by omega) (by omega) (by omega), Gx 3 (by omega) (by omega) (by omega)]
    exact hIo
  · rw [Ls, Lo, Gx 7 (by omega) (by omega) (by omega), G8, e8, f10, f1, z_add (by rw [e1]; omega) (by rw [e1]; omega), e1]
    omega
  · rw [FELL_s hs, Ls, Lo, Gx 9 (by omega) (by omega) (by omega), f8]
    exact hf
  · rw [Gx 0 (by omega) (by omega) (by omega), Gx 11 (by omega) (by omega) (by omega)]
    exact h4
  · unfold LOGI
    rw [G8, e8, G1, G71, G76, Gx 7 (by omega) (by omega) (by omega)]
    refine ⟨fun i z1 z2 => ?_, fun z => ⟨?_, Int.le_refl _⟩⟩
    · have hg7 : ∀ k, k < 40 → 0 < k → G (71 + 6 * k) = g (71 + 6 * (k - 1)) ∧ G (71 + 6 * k + 5) = g (71 + 6 * (k - 1) + 5) := fun k k1 k2 => by
        rw [Gl _ (by omega) (by omega), Gl _ (by omega) (by omega)]
        exact ⟨congrArg g (by omega), congrArg g (by omega)⟩
      obtain ⟨a1, a2⟩ := hg7 (i + 1) z1 (by omega)
      rw [a1, a2, Nat.add_sub_cancel]
      by_cases hi0 : i = 0
      · subst hi0
        obtain ⟨l1, l2⟩ := hl.2 (by omega)
        rw [hse] at l1
        refine ⟨?_, ?_⟩
        · show ¬ G 71 = g 71
          rw [G71, l1]
          rcases hs with rfl | rfl <;> decide
        · show (g 76).toInt ≤ (G 76).toInt
          rw [G76]
          exact l2
      · obtain ⟨b1, b2⟩ := hg7 i (by omega) (by omega)
        rw [b1, b2]
        have := hl.1 (i - 1) (by omega) (by omega)
        rw [show i - 1 + 1 = i by omega] at this
        exact this
    · rcases hs with rfl | rfl <;> decide
