/-! what each change of the class does to the row, out of the class's side alone -/
theorem kk_bec {t : Int} {a b : Mem} {v : Int32} (h : REL t a b) (h4 : b 1 0 ≠ 4) : ∃ b', REL t (up2 (f_X8_remember a) 8 5 v) b' ∧ b' 1 = upd (b 1) 0 v ∧ up2 (f_X8_remember a) 8 5 v 8 6 = b 1 1 := by
  obtain ⟨b', q1, q2, q3, q4, q5⟩ := @r_bec t 1560 a b v (by omega) h h4
  exact ⟨b', q2, q4, q5⟩
theorem kk_start {t : Int} {a b : Mem} (h : REL t a b) (h1 : b 1 0 = 0) : ∃ a' b', f_X8_start a = some (.ok (b 1 1, a')) ∧ REL t a' b' ∧ b' 1 = upd (b 1) 0 1 := by
  obtain ⟨-, ⟨h0, -⟩, -⟩ := REL_hd h
  unfold f_X8_start
  simp only [b_T, h0]
  rw [if_pos h1]
  obtain ⟨b', q2, q4, q5⟩ := @kk_bec t a b 1 h (by rw [h1]; decide)
  rw [q5]
  exact ⟨_, b', rfl, q2, q4⟩
theorem kk_pause {t : Int} {a b : Mem} (h : REL t a b) : ∃ v a' b', catchI (f_X8_pause a) a = some (v, a') ∧ REL t a' b' ∧ (b' 1 = b 1 ∨ (b 1 0 = 1 ∧ b' 1 = upd (b 1) 0 2)) := by
  obtain ⟨-, ⟨h0, -⟩, -⟩ := REL_hd h
  unfold f_X8_pause
  simp only [b_T, h0]
  by_cases h1 : b 1 0 = 1
  · rw [if_pos h1]
    obtain ⟨b', q2, q4, q5⟩ := @kk_bec t a b 2 h (by rw [h1]; decide)
    exact ⟨_, _, b', rfl, q2, Or.inr ⟨h1, q4⟩⟩
  · rw [if_neg h1]
    exact ⟨_, _, b, rfl, h, Or.inl rfl⟩
theorem kk_proceed {t : Int} {a b : Mem} (h : REL t a b) : ∃ v a' b', catchI (f_X8_proceed a) a = some (v, a') ∧ REL t a' b' ∧ (b' 1 = b 1 ∨ (b 1 0 = 2 ∧ b' 1 = upd (b 1) 0 1)) := by
  obtain ⟨-, ⟨h0, -⟩, -⟩ := REL_hd h
  unfold f_X8_proceed
  simp only [b_T, h0]
  by_cases h1 : b 1 0 = 2
  · rw [if_pos h1]
    obtain ⟨b', q2, q4, q5⟩ := @kk_bec t a b 1 h (by rw [h1]; decide)
    exact ⟨_, _, b', rfl, q2, Or.inr ⟨h1, q4⟩⟩
  · rw [if_neg h1]
    exact ⟨_, _, b, rfl, h, Or.inl rfl⟩
theorem kk_seal {t : Int} {a b : Mem} (h : REL t a b) : ∃ v a' b', catchI (f_X8_seal a) a = some (v, a') ∧ REL t a' b' ∧ (b' 1 = b 1 ∨ (b 1 0 = 1 ∧ b' 1 = upd (b 1) 0 3)) := by
  unfold f_X8_seal
  simp only [b_T]
  by_cases h1 : f_X6_ticksToSealing 8 a = 0
  · rw [if_pos h1]
    have h10 : b 1 0 = 1 := by
      rw [c_seal h] at h1
      by_cases h9 : b 1 0 = 1
      · exact h9
      · rw [if_neg h9] at h1
        exact absurd h1 (by decide)
    obtain ⟨b', q2, q4, q5⟩ := @kk_bec t a b 3 h (by rw [h10]; decide)
    exact ⟨_, _, b', rfl, q2, Or.inr ⟨h10, q4⟩⟩
  · rw [if_neg h1]
    exact ⟨_, _, b, rfl, h, Or.inl rfl⟩
theorem pass_t {t : Int} {g : Nat → Int32} {n : Int32} (ht : t ≤ 512) (hv : VL t g) (hn : 1 ≤ n.toInt) : 1 ≤ (PASS g (sl g (oS (g 1))) n).toInt ∧ (PASS g (sl g (oS (g 1))) n).toInt ≤ n.toInt := by
  have e0 : (0 : Int32).toInt = 0 := rfl
  obtain ⟨h1, hR, hw, hb, -⟩ := hv
  have hV : VS (120000 * (t + 1)) (9999 * t) t (rl g) (g 2) (g 4) (sl g (oS (g 1))) := by
    rcases h1 with h1 | h1
    · rw [h1]; exact hw
    · rw [h1]; exact hb
  obtain ⟨v0, v2, v3, v4, v5, v6, v7, v8, v9, vf, vx, ve, vd⟩ := hV
  have hper := hR.at v2.1 v2.2
  obtain ⟨r1, r2, r3, r4, -⟩ := hR
  obtain ⟨t1, t2, t3, t4⟩ := @TFI_t (rl g) (g 4) (sl g (oS (g 1))) r3 r4 hper.2.2.2.1.1 hper.2.2.2.1.2 v6.1 v0.1 (by omega) v4.1 v4.2
  have hcap := @capI_ge (rl g) (g 4) (sl g (oS (g 1))) r3 v4.1
  unfold PASS
  split
  · rename_i hq
    have hs0 : (sl g (oS (g 1)) 0).toInt ≠ 0 := by
      intro h9
      have := vf.2 (z_eq.2 (h9.trans e0.symm))
      rw [hq.2] at this
      exact absurd this (by decide)
    rw [z_mn]
    omega
  · omega
theorem kk_tick {t : Int} {N : Nat} {a b : Mem} {p : Int32} (hN : 10010 ≤ N) (ht : t ≤ 512) (h : REL t a b) (hp1 : 1 ≤ p.toInt) (hp2 : p.toInt ≤ 9999) : ∃ v a' b', f_X8_tick N p a = some (.ok (v, a')) ∧ REL (t + 1) a' b' ∧ ((¬ b 1 0 = 1 ∧ b' 1 = b 1) ∨ (b 1 0 = 1 ∧ b' 1 = GT (b 1) (sl (b 1) (oS (b 1 1))) (b 1 1) (PASS (b 1) (sl (b 1) (oS (b 1 1))) p))) := by
  have f1 : (1 : Int32).toInt = 1 := rfl
  have f9 : (9999 : Int32).toInt = 9999 := rfl
  unfold f_X8_tick
  simp only [b_T]
  rw [if_neg (show ¬ p < 1 by rw [z_lt, f1]; omega), if_pos (show p ≤ 9999 by rw [z_le, f9]; omega)]
  obtain ⟨b1, q1, q2, q3, q4, q5, q6⟩ := REM (N := 1560) (by omega) h
  have hst := q2.2.1
  have hvl := q2.2.2.1
  have k0 : f_X8_remember a 8 5 = b1 1 0 := hst.2.1.1
  rw [k0]
  by_cases hz : b1 1 0 = 1
  · rw [if_pos hz]
    obtain ⟨a', z1, z2, z3⟩ := @c_letRun t N (f_X8_remember a) (b1 1) (b1 1 1) p (by omega) ht hst hvl rfl (by omega) hp2
    obtain ⟨hP1, hP2⟩ := pass_t ht hvl hp1
    have hvG := VL_GT ht hvl (s := b1 1 1) rfl (m := PASS (b1 1) (sl (b1 1) (oS (b1 1 1))) p) (by omega) (by omega)
    rw [z1, b_P]
    have hres : REL (t + 1) a' (upR b1 1 (GT (b1 1) (sl (b1 1) (oS (b1 1 1))) (b1 1 1) (PASS (b1 1) (sl (b1 1) (oS (b1 1 1))) p))) := REL_now z3 (fun j _ => by rw [R_n (by omega)]) (fun k h4 h8 => R_n (by omega)) (by omega) (by rw [R_s]; exact z2) (by rw [R_s]; exact hvG) q2
    rw [q3] at hz
    exact ⟨_, a', _, rfl, hres, Or.inr ⟨hz, by rw [R_s, q3]⟩⟩
  · rw [if_neg hz]
    rw [q3] at hz
    exact ⟨_, _, b1, rfl, REL_mono q2 (by omega), Or.inl ⟨hz, q3⟩⟩
theorem kk_mv {t : Int} {a b : Mem} (ht : t ≤ 512) (h : REL t a b) : ∃ x a' b', f_X6_makeMove 8 a = (x, a') ∧ REL (t + 1) a' b' ∧ b' 1 = MV (b 1) (sl (b 1) (oS (b 1 1))) (b 1 1) := by
  have hst := h.2.1
  have hvl := h.2.2.1
  obtain ⟨a', z1, z2, z3⟩ := @c_move t a (b 1) (b 1 1) ht hst hvl rfl
  have hvG := VL_MV ht hvl (s := b 1 1) rfl
  exact ⟨_, a', upR b 1 (MV (b 1) (sl (b 1) (oS (b 1 1))) (b 1 1)), z1, REL_now z3 (fun j _ => by rw [R_n (by omega)]) (fun k h4 h8 => R_n (by omega)) (by omega) (by rw [R_s]; exact z2) (by rw [R_s]; exact hvG) h, R_s⟩
theorem kk_move {t : Int} {a b : Mem} (ht : t ≤ 512) (h : REL t a b) : ∃ v a' b', catchI (f_X8_move a) a = some (v, a') ∧ REL (t + 1) a' b' ∧ (b' 1 = b 1 ∨ (b 1 0 = 1 ∧ b' 1 = MV (b 1) (sl (b 1) (oS (b 1 1))) (b 1 1))) := by
  obtain ⟨-, ⟨h0, -⟩, -⟩ := REL_hd h
  unfold f_X8_move
  simp only [b_T, h0]
  by_cases h1 : b 1 0 = 1
  · rw [if_pos h1]
    obtain ⟨b1, q1, q2, q3, q4, q5, q6⟩ := REM (N := 1560) (by omega) h
    obtain ⟨x, a', b', z1, z2, z3⟩ := kk_mv ht q2
    rw [z1, b_T2]
    rw [q3] at z3
    exact ⟨_, a', b', rfl, z2, Or.inr ⟨h1, z3⟩⟩
  · rw [if_neg h1]
    exact ⟨_, _, b, rfl, REL_mono h (by omega), Or.inl rfl⟩
theorem kk_open {t : Int} {a b : Mem} (ht : t ≤ 512) (h : REL t a b) : ∃ v a' b', catchI (f_X8_open a) a = some (v, a') ∧ REL (t + 1) a' b' ∧ (b' 1 = b 1 ∨ (b 1 0 = 3 ∧ b' 1 = MV (upd (upd (b 1) 0 1) 6 0) (sl (upd (upd (b 1) 0 1) 6 0) (oS (b 1 1))) (b 1 1))) := by
  obtain ⟨-, ⟨h0, -⟩, -⟩ := REL_hd h
  unfold f_X8_open
  simp only [b_T, h0]
  by_cases h1 : b 1 0 = 3
  · rw [if_pos h1]
    obtain ⟨b1, q2, q4, q5⟩ := @kk_bec t a b 1 h (by rw [h1]; decide)
    have hw := REL_w (j := 10) (i := 6) (x := 0) (y := 0) q2 (StP_h10 q2.2.1) (VL_6 q2.2.2.1)
    obtain ⟨x, a', b', z1, z2, z3⟩ := kk_mv ht hw
    rw [z1, b_T2]
    rw [R_s, q4, u_n (show (1 : Nat) ≠ 6 by omega), u_n (show (1 : Nat) ≠ 0 by omega)] at z3
    exact ⟨_, a', b', rfl, z2, Or.inr ⟨h1, z3⟩⟩
  · rw [if_neg h1]
    exact ⟨_, _, b, rfl, REL_mono h (by omega), Or.inl rfl⟩
theorem kk_claim {t : Int} {a b : Mem} {p : Int32} (hp : p = 0 ∨ p = 1) (h : REL t a b) : ∃ v a' b', catchI (f_X8_claim p a) a = some (v, a') ∧ REL t a' b' ∧ (b' 1 = b 1 ∨ (b 1 0 ≠ 4 ∧ ∃ x : Int32, 0 ≤ x.toInt ∧ b' 1 = upd (upd (b 1) 0 4) 11 x)) := by
  obtain ⟨-, ⟨h0, -⟩, -⟩ := REL_hd h
  unfold f_X8_claim f_X8_other
  simp only [b_T, k_side, hp, reduceIte, bXc_0, h0]
  obtain ⟨k, hk, hk2, hS, hV⟩ := REL_side h (s_oth hp)
  obtain ⟨v0, v2, v3, v4, v5, v6, v7, v8, -⟩ := hV
  have eS8 : nb (a k 9) = sl (b 1) (oS (1 - p)) 8 := by rw [← hS]; rfl
  rw [hk, eS8]
  by_cases h1 : b 1 0 = 4
  · rw [if_pos h1]
    exact ⟨_, _, b, rfl, h, Or.inl rfl⟩
  · rw [if_neg h1]
    rcases v8 with h8 | h8
    · rw [h8, if_pos rfl]
      exact ⟨_, _, b, rfl, h, Or.inl rfl⟩
    · rw [h8, if_neg (by decide)]
      obtain ⟨b1, q1, q2, q3, q4, q5, q6⟩ := REM (N := 1560) (by omega) h
      have fin : ∀ v : Int32, 0 ≤ v.toInt → ∃ (w : Int32) (a' b' : Mem), catchI (some (.ok (f_X6_endWith 8 v (f_X8_remember a) 8 7, f_X6_endWith 8 v (f_X8_remember a)))) a = some (w, a') ∧ REL t a' b' ∧ (b' 1 = b 1 ∨ (b 1 0 ≠ 4 ∧ ∃ x : Int32, 0 ≤ x.toInt ∧ b' 1 = upd (upd (b 1) 0 4) 11 x)) := by
        intro v hv
        obtain ⟨e1, e2⟩ := @REL_end t (f_X8_remember a) b1 v q2
        exact ⟨_, _, _, rfl, e1, Or.inr ⟨h1, v, hv, by rw [R_s, q3]⟩⟩
      rw [k_won q2 hp]
      split
      · refine fin _ ?_
        split
        · decide
        · rcases hp with rfl | rfl <;> decide
      · exact fin 2 (by decide)
theorem kk_give {t : Int} {a b : Mem} {p q : Int32} (ht : t ≤ 512) (hp : p = 0 ∨ p = 1) (hq0 : -9999 ≤ q.toInt) (hq1 : q.toInt ≤ 9999) (h : REL t a b) : ∃ v a' b', catchI (f_X8_give p q a) a = some (v, a') ∧ REL (t + 1) a' b' ∧ (b' 1 = b 1 ∨ (b 1 0 ≠ 4 ∧ sl (b 1) (oS p) 8 = 0 ∧ 1 ≤ (sl (b 1) (oS p) 0 + q).toInt ∧ b' 1 = setS (b 1) (oS p) (upd (sl (b 1) (oS p)) 0 (sl (b 1) (oS p) 0 + q)))) := by
  have f0 : (-9999 : Int32).toInt = -9999 := rfl
  have f9 : (9999 : Int32).toInt = 9999 := rfl
  have f1 : (1 : Int32).toInt = 1 := rfl
  have hmo := REL_mono h (show t ≤ t + 1 by omega)
  obtain ⟨-, ⟨h0, -⟩, -⟩ := REL_hd h
  unfold f_X8_give
  simp only [b_T, k_side, hp, reduceIte, bXc_0, h0]
  obtain ⟨k, hk, hk2, hS, hV⟩ := REL_side h hp
  obtain ⟨v0, v2, v3, v4, v5, v6, v7, v8, v9, vf, -⟩ := hV
  have eS0 : a k 1 = sl (b 1) (oS p) 0 := by rw [← hS]; rfl
  have eS8 : nb (a k 9) = sl (b 1) (oS p) 8 := by rw [← hS]; rfl
  rw [if_neg (show ¬ q < -9999 by rw [z_lt, f0]; omega), if_pos (show q ≤ 9999 by rw [z_le, f9]; omega), hk, eS8, eS0]
  by_cases h1 : b 1 0 = 4
  · rw [if_pos h1]
    exact ⟨_, _, b, rfl, hmo, Or.inl rfl⟩
  · rw [if_neg h1]
    rcases v8 with h8 | h8
    · rw [h8, if_pos rfl]
      have hsum : (sl (b 1) (oS p) 0 + q).toInt = (sl (b 1) (oS p) 0).toInt + q.toInt := z_add (by omega) (by omega)
      by_cases hl : (1 : Int32) ≤ sl (b 1) (oS p) 0 + q
      · have hl2 := z_le.1 hl
        rw [f1] at hl2
        rw [if_pos hl]
        obtain ⟨b1, q1, q2, q3, q4, q5, q6⟩ := REM (N := 1560) (by omega) h
        have ek : f_X6_sideOf 8 p (f_X8_remember a) = k := (REM_side h q2 hp q6).trans hk
        have ea : f_X8_remember a k = a k := q6 k (by omega) (by omega)
        have ea1 : f_X8_remember a (k + 1) = a (k + 1) := q6 (k + 1) (by omega) (by omega)
        have hS1 : sI (f_X8_remember a) k = sl (b 1) (oS p) := by rw [sI_fr ea ea1, hS]
        have hres := @REL_S t (t + 1) (f_X8_remember a) (up2 (f_X8_remember a) k 1 (sl (b 1) (oS p) 0 + q)) b1 (upd (sl (b 1) (oS p)) 0 (sl (b 1) (oS p) 0 + q)) p k q2 (by omega) hp ek hk2 (fun k1 z1 z2 => p2_n z1) (by rw [sI_w1, hS1]) (by rw [u_n (by omega), q3]) (by
          obtain ⟨k', -, -, -, hV⟩ := REL_side h hp
          rw [q3]
          exact VS_0 (VS_mono hV (by omega) (by omega) (by omega)) (by omega) (by omega) h8)
        rw [q3] at hres
        rw [ea, eS0]
        exact ⟨_, _, _, rfl, hres, Or.inr ⟨h1, rfl, by omega, R_s⟩⟩
      · rw [if_neg hl]
        exact ⟨_, _, b, rfl, hmo, Or.inl rfl⟩
    · rw [h8, if_neg (by decide)]
      exact ⟨_, _, b, rfl, hmo, Or.inl rfl⟩
theorem kk_setBare {t : Int} {a b : Mem} {p v : Int32} (hv : v = 0 ∨ v = 1) (hp : p = 0 ∨ p = 1) (h : REL t a b) : ∃ w a' b', f_X8_setBare p v a = some (.ok (w, a')) ∧ REL t a' b' ∧ b' 1 = setS (b 1) (oS p) (upd (sl (b 1) (oS p)) 9 v) := by
  unfold f_X8_setBare
  simp only [b_T, k_side, hp, reduceIte, bXc_0]
  obtain ⟨k, hk, hk2, hS, hV⟩ := REL_side h hp
  obtain ⟨b1, q1, q2, q3, q4, q5, q6⟩ := REM (N := 1560) (by omega) h
  have ek : f_X6_sideOf 8 p (f_X8_remember a) = k := (REM_side h q2 hp q6).trans hk
  have ea : f_X8_remember a k = a k := q6 k (by omega) (by omega)
  have ea1 : f_X8_remember a (k + 1) = a (k + 1) := q6 (k + 1) (by omega) (by omega)
  have hS1 : sI (f_X8_remember a) k = sl (b 1) (oS p) := by rw [sI_fr ea ea1, hS]
  have hnv : nb v = v := by rcases hv with rfl | rfl <;> rfl
  have hres := @REL_S t t (f_X8_remember a) (up2 (f_X8_remember a) k 10 v) b1 (upd (sl (b 1) (oS p)) 9 v) p k q2 (by omega) hp ek hk2 (fun k1 z1 z2 => p2_n z1) (by rw [sI_w10, hS1, hnv]) (by rw [u_n (by omega), q3]) (by
    rw [q3]
    exact VS_9 hV hv)
  rw [q3] at hres
  rw [ek]
  exact ⟨_, _, _, rfl, hres, R_s⟩
theorem kk_setClaims {t : Int} {a b : Mem} {v : Int32} (hv : v = 0 ∨ v = 1) (h : REL t a b) : ∃ b', REL t (f_X8_setClaims v a).2 b' ∧ b' 1 = upd (b 1) 10 v := by
  unfold f_X8_setClaims
  simp only [b_T]
  obtain ⟨b1, q1, q2, q3, q4, q5, q6⟩ := REM (N := 1560) (by omega) h
  have hnv : nb v = v := by rcases hv with rfl | rfl <;> rfl
  have hres := REL_w (j := 4) (i := 10) (x := v) (y := nb v) q2 (StP_h4 q2.2.1) (VL_10 q2.2.2.1 (by rw [hnv]; exact hv))
  rw [hnv] at hres
  exact ⟨_, hres, by rw [R_s, q3]⟩
theorem kk_setPeriod {t : Int} {a b : Mem} {p w v : Int32} (hp : 0 ≤ p.toInt ∧ p.toInt < (b 1 2).toInt) (hw : 2 ≤ w.toInt ∧ w.toInt ≤ 4) (hv : 0 ≤ v.toInt ∧ v.toInt ≤ 999) (h : REL t a b) : ∃ x a' b', f_X8_setPeriod p w v a = some (.ok (x, a')) ∧ REL t a' b' ∧ ∃ j, b' 1 = upd (b 1) (12 + j) v ∧ j < 25 ∧ j % 5 ≠ 0 ∧ j % 5 ≠ 1 := by
  obtain ⟨h03, hR, hpr, het, hVR⟩ := REL_rules h
  have f2 : (2 : Int32).toInt = 2 := rfl
  have f4 : (4 : Int32).toInt = 4 := rfl
  have f0 : (0 : Int32).toInt = 0 := rfl
  have f9 : (999 : Int32).toInt = 999 := rfl
  unfold f_X8_setPeriod
  simp only [b_T, k_per, hpr, Nat.reduceAdd, hp, and_self, reduceIte, bXc_0]
  rw [if_neg (show ¬ w < 2 by rw [z_lt, f2]; omega), if_neg (show ¬ (4 : Int32) < w by rw [z_lt, f4]; omega)]
  rw [if_neg (show ¬ v < 0 by rw [z_lt, f0]; omega), if_pos (show v ≤ 999 by rw [z_le, f9]; omega)]
  obtain ⟨b1, q1, q2, q3, q4, q5, q6⟩ := REM (N := 1560) (by omega) h
  have hp5 : p.toInt < 5 := by have := hVR.2.1; omega
  have c5 : (5 : Int32).toInt = 5 := rfl
  have c12 : (12 : Int32).toInt = 12 := rfl
  have hm : ((5 : Int32) * p).toInt = 5 * p.toInt := by rw [z_mul (by rw [c5]; omega) (by rw [c5]; omega), c5]
  have ha : ((12 : Int32) + (5 : Int32) * p).toInt = 12 + 5 * p.toInt := by rw [z_add (by rw [hm, c12]; omega) (by rw [hm, c12]; omega), hm, c12]
  have hb : (((12 : Int32) + (5 : Int32) * p) + w).toInt = 12 + 5 * p.toInt + w.toInt := by rw [z_add (by rw [ha]; omega) (by rw [ha]; omega), ha]
  have hm' : (p * (5 : Int32)).toInt = p.toInt * 5 := by rw [z_mul (by rw [c5]; omega) (by rw [c5]; omega), c5]
  have hb' : (p * (5 : Int32) + w).toInt = p.toInt * 5 + w.toInt := by rw [z_add (by rw [hm']; omega) (by rw [hm']; omega), hm']
  have hbn : (((12 : Int32) + (5 : Int32) * p) + w).toNatClampNeg = 12 + (5 * p.toNatClampNeg + w.toNatClampNeg) := by rw [z_tn, z_tn, z_tn, hb]; omega
  have hbn' : (p * (5 : Int32) + w).toNatClampNeg = 5 * p.toNatClampNeg + w.toNatClampNeg := by rw [z_tn, z_tn, z_tn, hb']; omega
  have hix : 5 * p.toNatClampNeg + w.toNatClampNeg < 25 := by rw [z_tn, z_tn]; omega
  have hwn : 2 ≤ w.toNatClampNeg ∧ w.toNatClampNeg ≤ 4 := by rw [z_tn]; omega
  unfold f_X4_setNumber
  simp only [b_T, Nat.reduceAdd]
  rw [z_put (by rw [hb']; omega) (by rw [hb']; omega), hbn']
  have hmod : (5 * p.toNatClampNeg + w.toNatClampNeg) % 5 ≠ 0 ∧ (5 * p.toNatClampNeg + w.toNatClampNeg) % 5 ≠ 1 := by omega
  refine ⟨_, _, upR b1 1 (upd (b1 1) (12 + (5 * p.toNatClampNeg + w.toNatClampNeg)) v), rfl, ?_, _, by rw [R_s, q3], hix, hmod.1, hmod.2⟩
  clear hmod
  obtain ⟨-, ⟨w1, ⟨k0, k1, k2, k3, k4, k5, k6, k7, k9, k10, k11, kR⟩, s1, s2, mm, lg⟩, ⟨v1, v2, v3, v4, v5, v6, v7, v8⟩, -⟩ := id q2
  generalize f_X8_remember a = a1 at q2 q6 w1 k0 k1 k2 k3 k4 k5 k6 k7 k9 k10 k11 kR s1 s2 mm lg ⊢
  generalize hj : 5 * p.toNatClampNeg + w.toNatClampNeg = j at hix ⊢
  have hrl : rl (upd (b1 1) (12 + j) v) = upd (rl (b1 1)) j v := rl_u hix
  have hr0 : ∀ p', rn (upd (rl (b1 1)) j v) p' 0 = rn (rl (b1 1)) p' 0 := fun p' => rn_u (by omega)
  have hg : ∀ i, i < 12 → upd (b1 1) (12 + j) v i = b1 1 i := fun i hi => u_n (by omega)
  have hfr : ∀ k, k ≠ 10 → upR a1 10 (upd (a1 10) j v) k = a1 k := fun k hk => R_n hk
  have hsd : ∀ x, sI (upR a1 10 (upd (a1 10) j v)) (sdr 8 x) = sI a1 (sdr 8 x) ∧ upR a1 10 (upd (a1 10) j v) (sdr 8 x) = a1 (sdr 8 x) := by
    intro x
    have := @sdr_or 8 x
    exact ⟨sI_fr (hfr _ (by omega)) (hfr _ (by omega)), hfr _ (by omega)⟩
  refine REL_now (fun k hk => hfr k (by omega)) (fun j _ => by rw [R_n (by omega)]) (fun k h4 h8 => R_n (by omega)) (Int.le_refl t) ?_ ?_ q2
  · rw [R_s]
    unfold StP WS HR
    rw [hfr 8 (by omega), hfr (8 + 1) (by omega), hg 0 (by omega), hg 1 (by omega), hg 2 (by omega), hg 3 (by omega), hg 4 (by omega), hg 5 (by omega), hg 6 (by omega), hg 7 (by omega), hg 8 (by omega), hg 9 (by omega), hg 10 (by omega), hg 11 (by omega), hrl, (hsd _).1, (hsd _).1, (hsd _).2, (hsd _).2, sl_u2 (by omega), sl_u2 (by omega)]
    refine ⟨w1, ⟨k0, k1, k2, k3, k4, k5, k6, k7, k9, k10, k11, ?_⟩, s1, s2, mm, LG_fr (hfr _ (by omega)) (hfr _ (by omega)) (hg 8 (by omega)) (fun i z1 z2 => u_n (by omega)) lg⟩
    rw [← kR]
    funext i
    unfold rI upd
    by_cases hi : i < 25
    · rw [if_pos hi, show (8 + 1 + 1 : Nat) = 10 from rfl, R_s]
      by_cases hij : i = j
      · rw [if_pos hij, if_pos hij]
      · rw [if_neg hij, if_neg hij]
        exact (if_pos hi).symm
    · rw [if_neg hi, if_neg (by omega)]
      exact (if_neg hi).symm
  · rw [R_s]
    unfold VL
    rw [hrl, hg 0 (by omega), hg 1 (by omega), hg 2 (by omega), hg 4 (by omega), hg 5 (by omega), hg 6 (by omega), hg 7 (by omega), hg 8 (by omega), hg 10 (by omega), hg 11 (by omega), sl_u2 (by omega), sl_u2 (by omega)]
    refine ⟨v1, ⟨v2.1, v2.2.1, v2.2.2.1, v2.2.2.2.1, fun p' hp' => ?_⟩, VS_R hr0 v3, VS_R hr0 v4, v5, v6, v7, fun i z1 z2 => by rw [u_n (by omega), u_n (by omega)]; exact v8 i z1 z2⟩
    obtain ⟨y0, y1, y2, y3, y4⟩ := v2.2.2.2.2 p' hp'
    have hu : ∀ i, (upd (rl (b1 1)) j v i = v ∧ i = j) ∨ upd (rl (b1 1)) j v i = rl (b1 1) i := by
      intro i
      by_cases hi : i = j
      · subst hi
        exact Or.inl ⟨u_s, rfl⟩
      · exact Or.inr (u_n hi)
    refine ⟨?_, ?_, ?_, ?_, ?_⟩
    · rcases hu (5 * p') with ⟨z1, z2⟩ | z1
      · omega
      · rw [z1]; exact y0
    · rcases hu (5 * p' + 1) with ⟨z1, z2⟩ | z1
      · omega
      · rw [z1]; exact y1
    · rcases hu (5 * p' + 2) with ⟨z1, z2⟩ | z1
      · rw [z1]; exact hv
      · rw [z1]; exact y2
    · rcases hu (5 * p' + 3) with ⟨z1, z2⟩ | z1
      · rw [z1]; exact hv
      · rw [z1]; exact y3
    · rcases hu (5 * p' + 4) with ⟨z1, z2⟩ | z1
      · rw [z1]; exact hv
      · rw [z1]; exact y4
theorem kk_swap {t : Int} {a b : Mem} (h : REL t a b) : ∃ v a' b', catchI (f_X8_swap a) a = some (v, a') ∧ REL t a' b' ∧ (b' 1 = b 1 ∨ ((b 1 0 = 0 ∨ b 1 0 = 2) ∧ b' 1 = swS (b 1) 17)) := by
  obtain ⟨-, ⟨h0, -⟩, -⟩ := REL_hd h
  unfold f_X8_swap
  simp only [b_T, h0]
  obtain ⟨b1, q1, q2, q3, q4, q5, q6⟩ := REM (N := 1560) (by omega) h
  have hs := REL_swap q2
  by_cases h1 : b 1 0 = 0
  · rw [if_pos h1]
    exact ⟨_, _, _, rfl, hs, Or.inr ⟨Or.inl h1, by rw [R_s, q3]⟩⟩
  · rw [if_neg h1]
    by_cases h2 : b 1 0 = 2
    · rw [if_pos h2]
      exact ⟨_, _, _, rfl, hs, Or.inr ⟨Or.inr h2, by rw [R_s, q3]⟩⟩
    · rw [if_neg h2]
      exact ⟨_, _, b, rfl, h, Or.inl rfl⟩
