theorem back_REL {t : Int} {N : Nat} {a b0 b1 : Mem} {x : Int32} (hN : 312 ≤ N) (h : REL t a b0) (h3 : ∀ j, j < 311 → b1 3 j = b0 1 j) (h0 : ∀ j, j ≠ 10 → b1 0 j = b0 0 j) (hk : ∀ k, 4 ≤ k → k ≤ 8 → b1 k = b0 k) : ∃ b', f_X9_layBack N x b1 = some (x, b') ∧ REL t a b' ∧ b' 0 0 = b0 0 0 := by
  rw [r_back hN]
  have hg : ∀ j, j < 311 → (fun j => if 0 ≤ j ∧ j < 0 + 311 then b1 3 (0 + (j - 0)) else b1 1 j) j = b0 1 j := by
    intro j hj
    show (if 0 ≤ j ∧ j < 0 + 311 then b1 3 (0 + (j - 0)) else b1 1 j) = b0 1 j
    rw [if_pos (by omega), show 0 + (j - 0) = j by omega, h3 j hj]
  refine ⟨_, rfl, ?_, ?_⟩
  · exact REL_now (fun _ _ => rfl) (fun j hj => by rw [R_n (by omega), h0 j (by omega)]) (fun k h4 h8 => by rw [R_n (by omega), hk k h4 h8]) (Int.le_refl t) (by rw [R_s]; exact StP_g hg h.2.1) (by rw [R_s]; exact VL_g hg h.2.2.1) h
  · rw [R_n (by omega), h0 0 (by omega)]
theorem aside_REL {t : Int} {N : Nat} {a b0 : Mem} (hN : 312 ≤ N) (h : REL t a b0) : ∃ b1, f_X9_keepAside N b0 = some b1 ∧ REL t a b1 ∧ (∀ k, k ≠ 3 → b1 k = b0 k) ∧ ∀ j, j < 311 → b1 3 j = b0 1 j := by
  rw [r_aside hN]
  refine ⟨_, rfl, ?_, fun k hk => R_n hk, fun j hj => ?_⟩
  · exact REL_b (by rw [R_n (by omega)]) (by rw [R_n (by omega)]) (by rw [R_n (by omega)]) (by rw [R_n (by omega)]) (by rw [R_n (by omega)]) (by rw [R_n (by omega)]) (fun k hk => R_n (by omega)) h
  · rw [R_s]
    show (if 0 ≤ j ∧ j < 0 + 311 then b0 1 (0 + (j - 0)) else b0 3 j) = b0 1 j
    rw [if_pos (by omega), show 0 + (j - 0) = j by omega]
theorem RUN_left {L T M : Int} {g S : Nat → Int32} {n : Int32} (hR : VR (rl g) (g 2) (g 4)) (hV : VS L T M (rl g) (g 2) (g 4) S) (hL : L ≤ 2000000000) (hT : T ≤ 2000000000) (hn : 0 ≤ n.toInt) (hn2 : n.toInt ≤ 9999) : RUN (rl g) (g 4) (PASS g S n) S 0 = RUN (rl g) (g 4) n S 0 := by
  have e0 : (0 : Int32).toInt = 0 := rfl
  obtain ⟨v0, v2, v3, v4, v5, v6, v7, v8, v9, vf, vx, ve, vd⟩ := id hV
  have hper := hR.at v2.1 v2.2
  obtain ⟨r1, r2, r3, r4, -⟩ := id hR
  unfold PASS
  by_cases hq : g 10 = 0 ∧ S 8 = 0
  · rw [if_pos hq]
    obtain ⟨t1, t2, t3, t4⟩ := @TFI_t (rl g) (g 4) S r3 r4 hper.2.2.2.1.1 hper.2.2.2.1.2 v6.1 v0.1 (by omega) v4.1 v4.2
    have hcap := @capI_ge (rl g) (g 4) S r3 v4.1
    have h0 : 0 < (S 0).toInt := by
      have : (S 0).toInt ≠ 0 := by
        intro h9
        have := vf.2 (z_eq.2 (h9.trans e0.symm))
        rw [hq.2] at this
        exact absurd this (by decide)
      omega
    by_cases hlt : n.toInt ≤ (TFI (rl g) (g 4) S).toInt
    · have : mnI n (TFI (rl g) (g 4) S) = n := by rw [z_eq, z_mn]; omega
      rw [this]
    · have hm : mnI n (TFI (rl g) (g 4) S) = TFI (rl g) (g 4) S := by rw [z_eq, z_mn]; omega
      rw [hm]
      have key : ∀ m : Int32, (TFI (rl g) (g 4) S).toInt ≤ m.toInt → m.toInt ≤ 9999 → RUN (rl g) (g 4) m S 0 = 0 := by
        intro m h1 h2
        have hV2 := VS_RUN (T1 := T + 9999) (m := m) hR (VS_mono hV (show L ≤ L + 9999 by omega) (Int.le_refl _) (Int.le_refl _)) (by omega) (by omega) (by omega) (by omega)
        have hf := RUN_fell (n := m) r3 r4 hper.2.2.2.1.1 hper.2.2.2.1.2 v6.1 h0 (by omega) v4.1 v4.2 ve hq.2 (by omega)
        obtain ⟨-, -, -, -, -, -, -, y8, -, yf, -⟩ := hV2
        rcases y8 with y8 | y8
        · have := hf.1 y8
          omega
        · exact yf.1 y8
      rw [key _ (by omega) (by omega), key n (by omega) (by omega)]
  · rw [if_neg hq]
theorem ag_leftIn {t : Int} {N : Nat} {a b c : Mem} {p q : Int32} (hN : 10010 ≤ N) (ht : t ≤ 512) (h : REL t a b) : AGR t (f_L_leftIn N p q a c) (f_X9_leftIn N p q b) := by
  have e0 : (0 : Int64).toInt = 0 := rfl
  have e9 : (9999 : Int64).toInt = 9999 := rfl
  have f0 : (0 : Int32).toInt = 0 := rfl
  have e00 : (0 : Int32).toNatClampNeg = 0 := rfl
  unfold f_L_leftIn f_X8_leftIn f_X9_leftIn
  simp only [b_T, k_side, k_ticks, q_side, q_in, Int32.toInt_toInt64, e0, e9, pass2, Nat.reduceAdd]
  by_cases hp : p = 0 ∨ p = 1
  · simp only [hp, reduceIte, i10, bXc_0]
    by_cases hq : 0 ≤ q.toInt ∧ q.toInt ≤ 9999
    · simp only [hq, and_self, reduceIte, i10, bXc_0, b_T2]
      obtain ⟨hr, h00⟩ := @REL_t t a b 0 h
      generalize up2 b 0 0 0 = b0 at hr h00 ⊢
      obtain ⟨b1, q1, q2, q3, q4⟩ := aside_REL (N := N) (by omega) hr
      obtain ⟨h03, hR, hpr, het, hVR⟩ := REL_rules q2
      have hst := q2.2.1
      have hvl := q2.2.2.1
      have k0 : a 8 5 = b1 1 0 := hst.2.1.1
      have k1 : a 8 6 = b1 1 1 := hst.2.1.2.1
      have hsd : b1 1 1 = 0 ∨ b1 1 1 = 1 := hvl.1
      obtain ⟨k, y1, y2, y3, hVp⟩ := REL_side q2 hp
      have el : a k 1 = sl (b1 1) (oS p) 0 := by rw [← y3]; rfl
      rw [q1, b_P, k0, k1, y1, el]
      have fin : ∀ (x : Int32) (a' b2 : Mem), REL t a' b0 → (∀ k, k ≠ 1 → b2 k = b1 k) → AGR t (some (0, a', upR c 0 (upd (c 0) 0 x))) (bP2 (f_X9_layBack N x b2) fun x22 b23 => some (x22, b23)) := by
        intro x a' b2 hra hb2
        obtain ⟨b', z1, z2, z3⟩ := @back_REL t N a' b0 b2 x (by omega) hra (fun j hj => by rw [hb2 3 (by omega), q4 j hj]) (fun j _ => by rw [hb2 0 (by omega), q3 0 (by omega)]) (fun k h4 h8 => by rw [hb2 k (by omega), q3 k (by omega)])
        rw [z1, b_P2]
        exact ag_ok rfl rfl z2 (by rw [z3, h00])
      by_cases hz : b1 1 0 = 1
      · rw [if_pos hz]
        have hV : VS (120000 * (t + 1)) (9999 * t) t (rl (b1 1)) (b1 1 2) (b1 1 4) (sl (b1 1) (oS (b1 1 1))) := by
          obtain ⟨k, -, -, -, hV⟩ := REL_side q2 hsd
          exact hV
        obtain ⟨hrt, hP1, hP2⟩ := @r_ticks N b1 (b1 1 1) q (b1 1) (sl (b1 1) (oS (b1 1 1))) _ _ _ hN h03 hsd hz rfl hq.1 hq.2 hVR hV (by omega) (by omega)
        rw [KK_id] at hrt
        rw [hrt, b_P]
        by_cases hps : p = b1 1 1
        · rw [if_pos hps]
          unfold f_X7_leftBehind
          simp only [b_T]
          obtain ⟨cF, cS⟩ := @c_cpy5 a 18 k (by omega) (by omega) (by omega)
          have hSS : sI (f_X5_copyFrom 18 k a) 18 = sl (b1 1) (oS p) := by rw [cS, y3]
          obtain ⟨v0, v2, v3, v4, -⟩ := hVp
          have h55 := VR_5 hVR
          obtain ⟨a', w1, w2, w3⟩ := @c_run N 18 (rl (b1 1)) (b1 1 4) q (f_X5_copyFrom 18 k a) (by omega) (by omega) hVR.2.2.1 (by rw [rI_fr (cF 10 (by omega) (by omega)), hR]) (by rw [cF 9 (by omega) (by omega), het]) (by rw [hSS]; exact v0.1) (by rw [hSS]; exact v2.1) (by rw [hSS]; omega) (by rw [hSS]; exact v4.1) (by rw [hSS]; exact v4.2)
          have ea : a' 18 1 = RUN (rl (b1 1)) (b1 1 4) q (sl (b1 1) (oS p)) 0 := by
            have : sI a' 18 0 = RUN (rl (b1 1)) (b1 1 4) q (sl (b1 1) (oS p)) 0 := by rw [w2, hSS]
            exact this
          have hra : REL t a' b0 := REL_tr (fun k1 hk1 => by rw [w3 k1 (by omega) (by omega), cF k1 (by omega) (by omega)]) hr
          rw [w1, b_P, ea, hps, KK_of h03 hsd (by decide) (by decide), b_P, e00, RUN_left hVR hV (by omega) (by omega) hq.1 hq.2]
          exact fin _ a' _ hra (fun k1 hk1 => KK_n hk1)
        · rw [if_neg hps]
          have hoth : p = 1 - b1 1 1 := by
            rcases hp with rfl | rfl
            · rcases hsd with h9 | h9
              · exact absurd h9.symm hps
              · rw [h9]; rfl
            · rcases hsd with h9 | h9
              · rw [h9]; rfl
              · exact absurd h9.symm hps
          rw [hoth, KK_oth h03 hsd (by decide) (by decide), b_P, e00, HD_sl oS_ge]
          exact fin _ a _ hr (fun k1 hk1 => KK_n hk1)
      · rw [if_neg hz]
        have hrt : f_X9_ticks N q b1 = some b1 := by
          obtain ⟨f, rfl⟩ : ∃ f, N = f + 1 := ⟨N - 1, by omega⟩
          unfold f_X9_ticks
          rw [f_X9_ticks_2_s]
          split
          · rfl
          · rw [r_st h03, b_P, if_neg hz, if_pos rfl]
        rw [hrt, b_P, r_of h03 hp (by decide) (by decide), b_P, e00]
        exact fin _ a _ hr (fun _ _ => rfl)
    · simp only [hq, reduceIte, eq_self, bXc_2, b_T2]
      exact ag_er rfl rfl h (by decide)
  · simp only [hp, reduceIte, eq_self, bXc_3, b_T2]
    exact ag_er rfl rfl h (by decide)

