theorem ag_tick {t : Int} {N : Nat} {a b c : Mem} {p : Int32} (hN : 10010 ≤ N) (ht : t ≤ 512) (h : REL t a b) : AGR (t + 1) (f_L_tick N p a c) (f_X9_tick N p b) := by
  have e1 : (1 : Int64).toInt = 1 := rfl
  have e9 : (9999 : Int64).toInt = 9999 := rfl
  have f1 : (1 : Int32).toInt = 1 := rfl
  have f0 : (0 : Int32).toInt = 0 := rfl
  have f9 : (9999 : Int32).toInt = 9999 := rfl
  have e00 : (0 : Int32).toNatClampNeg = 0 := rfl
  have hmo := REL_mono h (show t ≤ t + 1 by omega)
  unfold f_L_tick f_X8_tick f_X9_tick
  simp only [b_T, q_in, Int32.toInt_toInt64, e1, e9, pass1]
  by_cases hp : 1 ≤ p.toInt ∧ p.toInt ≤ 9999
  · rw [if_neg (show ¬ p < 1 by rw [z_lt, f1]; omega), if_pos (show p ≤ 9999 by rw [z_le, f9]; omega)]
    simp only [hp, and_self, reduceIte, i10, b_T2]
    obtain ⟨hr, h00⟩ := @REL_t t a b 0 h
    generalize up2 b 0 0 0 = b0 at hr h00 ⊢
    obtain ⟨b1, q1, q2, q3, q4, q5, q6⟩ := REM (N := N) (by omega) hr
    obtain ⟨h03, hR, hpr, het, hVR⟩ := REL_rules q2
    rw [q1, b_P]
    have hst := q2.2.1
    have hvl := q2.2.2.1
    have k0 : f_X8_remember a 8 5 = b1 1 0 := hst.2.1.1
    have k1 : f_X8_remember a 8 6 = b1 1 1 := hst.2.1.2.1
    rw [k0]
    have hsd : b1 1 1 = 0 ∨ b1 1 1 = 1 := hvl.1
    by_cases hz : b1 1 0 = 1
    · rw [if_pos hz]
      obtain ⟨a', z1, z2, z3⟩ := @c_letRun t N (f_X8_remember a) (b1 1) (b1 1 1) p (by omega) ht hst hvl rfl (by omega) hp.2
      have hV : VS (120000 * (t + 1)) (9999 * t) t (rl (b1 1)) (b1 1 2) (b1 1 4) (sl (b1 1) (oS (b1 1 1))) := by
        obtain ⟨k, -, -, -, hV⟩ := REL_side q2 hsd
        exact hV
      have hrt := (@r_ticks N b1 (b1 1 1) p (b1 1) (sl (b1 1) (oS (b1 1 1))) _ _ _ hN h03 hsd hz rfl (by omega) hp.2 hVR hV (by omega) (by omega))
      obtain ⟨hrt, hP1, hP2⟩ := hrt
      rw [KK_id] at hrt
      have eKK : KK b1 (b1 1 1) (HD (b1 1) (b1 1 1) (PASS (b1 1) (sl (b1 1) (oS (b1 1 1))) p) (sl (b1 1) (oS (b1 1 1)) 8) (RUN (rl (b1 1)) (b1 1 4) (PASS (b1 1) (sl (b1 1) (oS (b1 1 1))) p) (sl (b1 1) (oS (b1 1 1))) 8)) (RUN (rl (b1 1)) (b1 1 4) (PASS (b1 1) (sl (b1 1) (oS (b1 1 1))) p) (sl (b1 1) (oS (b1 1 1)))) = upR b1 1 (GT (b1 1) (sl (b1 1) (oS (b1 1 1))) (b1 1 1) (PASS (b1 1) (sl (b1 1) (oS (b1 1 1))) p)) := rfl
      rw [eKK] at hrt
      have hvG := VL_GT ht hvl (s := b1 1 1) rfl hP1 (by omega)
      have hG1 : GT (b1 1) (sl (b1 1) (oS (b1 1 1))) (b1 1 1) (PASS (b1 1) (sl (b1 1) (oS (b1 1 1))) p) 1 = b1 1 1 := by
        unfold GT
        rw [setS_lo (by omega), HD_lo (by omega) (by omega) (by omega) (by omega) (by omega)]
      rw [z1, b_P, hrt, b_P]
      generalize GT (b1 1) (sl (b1 1) (oS (b1 1 1))) (b1 1 1) (PASS (b1 1) (sl (b1 1) (oS (b1 1 1))) p) = G at z2 hvG hG1 ⊢
      have hres : REL (t + 1) a' (upR b1 1 G) := REL_now z3 (fun j _ => by rw [R_n (by omega)]) (fun k h4 h8 => R_n (by omega)) (by omega) (by rw [R_s]; exact z2) (by rw [R_s]; exact hvG) q2
      have h3' : upR b1 1 G 0 3 = 0 := by rw [R_n (by omega)]; exact h03
      rw [r_mv h3', b_P, R_s, hG1, r_of h3' hsd (by decide) (by decide), b_P, R_s, e00]
      obtain ⟨k, y1, y2, y3⟩ := StP_side z2 hsd
      have em : f_X6_mover 8 a' = k := by
        unfold f_X6_mover
        simp only [b_T]
        have : a' 8 6 = G 1 := z2.2.1.2.1
        rw [this, hG1, y1]
      have el : a' k 1 = sl G (oS (b1 1 1)) 0 := by rw [← y3]; rfl
      rw [em, el]
      exact ag_ok rfl rfl hres (by rw [R_n (by omega), q4 0 (by omega), h00])
    · rw [if_neg hz]
      have hrt : f_X9_ticks N p b1 = some b1 := by
        obtain ⟨f, rfl⟩ : ∃ f, N = f + 1 := ⟨N - 1, by omega⟩
        unfold f_X9_ticks
        rw [f_X9_ticks_2_s, if_neg (by rw [z_le, f0]; omega), r_st h03, b_P, if_neg hz, if_pos rfl]
      rw [hrt, b_P, r_mv h03, b_P, r_of h03 hsd (by decide) (by decide), b_P, e00]
      obtain ⟨k, y1, y2, y3⟩ := StP_side hst hsd
      have em : f_X6_mover 8 (f_X8_remember a) = k := by
        unfold f_X6_mover
        simp only [b_T]
        rw [k1, y1]
      have el : f_X8_remember a k 1 = sl (b1 1) (oS (b1 1 1)) 0 := by rw [← y3]; rfl
      rw [em, el]
      exact ag_ok rfl rfl (REL_mono q2 (by omega)) (by rw [q4 0 (by omega), h00])
  · simp only [hp, reduceIte, eq_self, b_T2]
    by_cases hp1 : p < 1
    · rw [if_pos hp1]
      exact ag_er rfl rfl hmo (by decide)
    · have z2 := z_nlt hp1
      rw [if_neg hp1, if_neg (by rw [z_le, f9]; omega)]
      exact ag_er rfl rfl hmo (by decide)
theorem GAIN_b {L T M : Int} {R : Nat → Int32} {pr et : Int32} {S : Nat → Int32} (hR : VR R pr et) (h : VS L T M R pr et S) (hL : L ≤ 2000000000) : (S 8 = 1 → GAIN R et S = 0) ∧ (S 8 = 0 → S 5 = 1 → (GAIN R et S).toInt = et.toInt - (S 0).toInt) ∧ (S 8 = 0 → S 5 = 0 → 0 ≤ (GAIN R et S).toInt ∧ (GAIN R et S).toInt ≤ 1998) ∧ -L ≤ (GAIN R et S).toInt ∧ (GAIN R et S).toInt ≤ 9999 := by
  have e0 : (0 : Int32).toInt = 0 := rfl
  obtain ⟨v0, v2, v3, v4, v5, v6, v7, v8, v9, vf, vx, ve, vd⟩ := h
  have hper := hR.at v2.1 v2.2
  obtain ⟨r1, r2, r3, r4, -⟩ := id hR
  have hsub : (et - S 0).toInt = et.toInt - (S 0).toInt := z_sub (by omega) (by omega)
  have hadd : (rn R (S 2) 2 + mnI (S 7) (rn R (S 2) 4)).toInt = (rn R (S 2) 2).toInt + min (S 7).toInt (rn R (S 2) 4).toInt := by
    rw [z_add (by rw [z_mn]; omega) (by rw [z_mn]; omega), z_mn]
  unfold GAIN
  rcases v8 with h8 | h8
  · rw [if_pos h8]
    rcases v5 with h5 | h5
    · rw [if_pos h5, hadd]
      exact ⟨fun h9 => by rw [h8] at h9; exact absurd h9 (by decide), fun _ h9 => by rw [h5] at h9; exact absurd h9 (by decide), fun _ _ => by omega, by omega, by omega⟩
    · rw [if_neg (by rw [h5]; decide), hsub]
      exact ⟨fun h9 => by rw [h8] at h9; exact absurd h9 (by decide), fun _ _ => rfl, fun _ h9 => by rw [h5] at h9; exact absurd h9 (by decide), by omega, by omega⟩
  · rw [if_neg (by rw [h8]; decide), e0]
    exact ⟨fun _ => rfl, fun h9 => by rw [h8] at h9; exact absurd h9 (by decide), fun h9 => by rw [h8] at h9; exact absurd h9 (by decide), by omega, by omega⟩
theorem VS_FIN {L L1 T M M1 : Int} {R : Nat → Int32} {pr et : Int32} {S : Nat → Int32} (hR : VR R pr et) (h : VS L T M R pr et S) (hL : L + 110000 ≤ L1) (hL1 : L1 ≤ 2000000000) (hM : M + 1 ≤ M1) (hM1 : M1 ≤ 2000000000) (hT : 0 ≤ T) : VS L1 T M1 R pr et (FIN R et pr S) := by
  have e0 : (0 : Int32).toInt = 0 := rfl
  have e1 : (1 : Int32).toInt = 1 := rfl
  obtain ⟨ga, gb, gc, gd, ge⟩ := GAIN_b hR h (by omega)
  obtain ⟨v0, v2, v3, v4, v5, v6, v7, v8, v9, vf, vx, ve, vd⟩ := h
  have hper := hR.at v2.1 v2.2
  obtain ⟨r1, r2, r3, r4, -⟩ := id hR
  have hg0 : (S 0 + GAIN R et S).toInt = (S 0).toInt + (GAIN R et S).toInt := z_add (by omega) (by omega)
  have h3 : (S 3 + 1).toInt = (S 3).toInt + 1 := by rw [z_add (by rw [e1]; omega) (by rw [e1]; omega), e1]
  have hl0 : S 8 = 0 → 1 ≤ ((S 0).toInt + (GAIN R et S).toInt) := by
    intro h8
    have hne : S 0 ≠ 0 := fun h9 => by
      have := vf.2 h9
      rw [h8] at this
      exact absurd this (by decide)
    have : (S 0).toInt ≠ 0 := fun h9 => hne (z_eq.2 (h9.trans e0.symm))
    rcases v5 with h5 | h5
    · have := gc h8 h5
      omega
    · have := gb h8 h5
      have := (vx h5).2
      omega
  have hl1 : S 8 = 1 → S 0 + GAIN R et S = 0 := by
    intro h8
    rw [ga h8, vf.1 h8]
    rfl
  have F : ∀ j, j ≠ 0 → j ≠ 1 → j ≠ 3 → FIN1 R et S j = S j := fun j z0 z1 z3 => by
    unfold FIN1
    rw [u_n z3, u_n z1, u_n z0]
  have F0 : FIN1 R et S 0 = S 0 + GAIN R et S := by unfold FIN1; rw [u_n (by omega), u_n (by omega), u_s]
  have F3 : FIN1 R et S 3 = S 3 + 1 := by unfold FIN1; rw [u_s]
  have D : ∀ (X : Nat → Int32) j, j ≠ 6 → j ≠ 7 → DROP X j = X j := fun X j z6 z7 => by
    unfold DROP
    rw [u_n z7, u_n z6]
  have D6 : ∀ X : Nat → Int32, DROP X 6 = 0 := fun X => by unfold DROP; rw [u_n (by omega), u_s]
  have D7 : ∀ X : Nat → Int32, DROP X 7 = 0 := fun X => by unfold DROP; rw [u_s]
  unfold FIN FIN2
  rw [F 2 (by omega) (by omega) (by omega)]
  generalize FIN1 R et S = X at F F0 F3 ⊢
  have plain : (rn R (S 2) 0 ≠ 0 → (S 3).toInt + 1 < (rn R (S 2) 0).toInt) → VS L1 T M1 R pr et (DROP X) := by
    intro hd
    unfold VS
    rw [D6, D7, D X 0 (by omega) (by omega), D X 2 (by omega) (by omega), D X 3 (by omega) (by omega), D X 4 (by omega) (by omega), D X 5 (by omega) (by omega), D X 8 (by omega) (by omega), D X 9 (by omega) (by omega), F0, F3, F 2 (by omega) (by omega) (by omega), F 4 (by omega) (by omega) (by omega), F 5 (by omega) (by omega) (by omega), F 8 (by omega) (by omega) (by omega), F 9 (by omega) (by omega) (by omega), hg0, h3, e0]
    refine ⟨⟨?_, by omega⟩, v2, ⟨by omega, by omega⟩, v4, v5, ⟨by omega, by omega⟩, ⟨by omega, by omega⟩, v8, v9, ⟨hl1, fun h9 => ?_⟩, vx, ve, hd⟩
    · rcases v8 with h8 | h8
      · have := hl0 h8
        omega
      · have := z_eq.1 (hl1 h8)
        rw [hg0, e0] at this
        omega
    · rcases v8 with h8 | h8
      · have := hl0 h8
        have := z_eq.1 h9
        rw [hg0, e0] at this
        omega
      · exact h8
  by_cases hr : rn R (S 2) 0 = 0
  · rw [if_pos hr]
    exact plain (fun h9 => absurd hr h9)
  · rw [if_neg hr, F3]
    have hlt := vd hr
    by_cases hd : rn R (S 2) 0 = S 3 + 1
    · rw [if_pos hd]
      have hm : (mnI (S 2 + 1) (pr - 1)).toInt = min ((S 2).toInt + 1) (pr.toInt - 1) := by
        rw [z_mn, z_add (by rw [e1]; omega) (by rw [e1]; omega), z_sub (by rw [e1]; omega) (by rw [e1]; omega), e1]
      have hper2 := hR.at (p := mnI (S 2 + 1) (pr - 1)) (by rw [hm]; omega) (by rw [hm]; omega)
      have n5 : S 5 = 0 := by
        rcases v5 with h5 | h5
        · exact h5
        · exact absurd (vx h5).1 hr
      have N1 : ∀ j, j ≠ 2 → j ≠ 3 → j ≠ 11 → NEXT1 pr X j = X j := fun j z2 z3 z11 => by
        unfold NEXT1
        rw [u_n z3, u_n z2, u_n z11]
      have N12 : NEXT1 pr X 2 = mnI (S 2 + 1) (pr - 1) := by unfold NEXT1; rw [u_n (by omega), u_s, F 2 (by omega) (by omega) (by omega)]
      have N13 : NEXT1 pr X 3 = 0 := by unfold NEXT1; rw [u_s]
      have X8 : X 8 = S 8 := F 8 (by omega) (by omega) (by omega)
      have hN : ∀ j, j ≠ 0 → NEXT R pr X j = NEXT1 pr X j := fun j z0 => by
        unfold NEXT
        split
        · rw [u_n z0]
        · rfl
      have hadd : (S 0 + GAIN R et S + rn R (mnI (S 2 + 1) (pr - 1)) 1).toInt = (S 0).toInt + (GAIN R et S).toInt + (rn R (mnI (S 2 + 1) (pr - 1)) 1).toInt := by rw [z_add (by rw [hg0]; omega) (by rw [hg0]; omega), hg0]
      have hN0 : (S 8 = 0 → NEXT R pr X 0 = S 0 + GAIN R et S + rn R (mnI (S 2 + 1) (pr - 1)) 1) ∧ (S 8 = 1 → NEXT R pr X 0 = 0) := by
        unfold NEXT
        rw [X8, F0, F 2 (by omega) (by omega) (by omega)]
        refine ⟨fun h8 => by rw [if_pos h8, u_s], fun h8 => ?_⟩
        rw [if_neg (by rw [h8]; decide), N1 0 (by omega) (by omega) (by omega), F0, hl1 h8]
      unfold VS
      rw [D6, D7, D _ 0 (by omega) (by omega), D _ 2 (by omega) (by omega), D _ 3 (by omega) (by omega), D _ 4 (by omega) (by omega), D _ 5 (by omega) (by omega), D _ 8 (by omega) (by omega), D _ 9 (by omega) (by omega), hN 2 (by omega), hN 3 (by omega), hN 4 (by omega), hN 5 (by omega), hN 8 (by omega), hN 9 (by omega), N12, N13, N1 4 (by omega) (by omega) (by omega), N1 5 (by omega) (by omega) (by omega), N1 8 (by omega) (by omega) (by omega), N1 9 (by omega) (by omega) (by omega), F 4 (by omega) (by omega) (by omega), F 5 (by omega) (by omega) (by omega), X8, F 9 (by omega) (by omega) (by omega), hm, e0]
      rcases v8 with h8 | h8
      · have hle := hl0 h8
        rw [hN0.1 h8, hadd]
        refine ⟨⟨by omega, by omega⟩, ⟨by omega, by omega⟩, ⟨by omega, by omega⟩, v4, v5, ⟨by omega, by omega⟩, ⟨by omega, by omega⟩, Or.inl h8, v9, ⟨fun h9 => by rw [h8] at h9; exact absurd h9 (by decide), fun h9 => ?_⟩, fun h9 => by rw [n5] at h9; exact absurd h9 (by decide), ve, fun h9 => ?_⟩
        · have := z_eq.1 h9
          rw [hadd, e0] at this
          omega
        · have : (rn R (mnI (S 2 + 1) (pr - 1)) 0).toInt ≠ 0 := fun h10 => h9 (z_eq.2 (h10.trans e0.symm))
          omega
      · rw [hN0.2 h8, e0]
        refine ⟨⟨by omega, by omega⟩, ⟨by omega, by omega⟩, ⟨by omega, by omega⟩, v4, v5, ⟨by omega, by omega⟩, ⟨by omega, by omega⟩, Or.inr h8, v9, ⟨fun _ => rfl, fun _ => h8⟩, fun h9 => by rw [n5] at h9; exact absurd h9 (by decide), ve, fun h9 => ?_⟩
        have : (rn R (mnI (S 2 + 1) (pr - 1)) 0).toInt ≠ 0 := fun h10 => h9 (z_eq.2 (h10.trans e0.symm))
        omega
    · rw [if_neg hd]
      refine plain (fun _ => ?_)
      have : (rn R (S 2) 0).toInt ≠ (S 3).toInt + 1 := fun h9 => hd (z_eq.2 (by rw [h3]; exact h9))
      omega

