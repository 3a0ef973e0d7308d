theorem VS_0 {L T M : Int} {R : Nat → Int32} {pr et v : Int32} {S : Nat → Int32} (h : VS L T M R pr et S) (h1 : 0 < v.toInt) (h2 : v.toInt ≤ L) (h8 : S 8 = 0) : VS L T M R pr et (upd S 0 v) := by
  obtain ⟨v0, v2, v3, v4, v5, v6, v7, v8, v9, vf, vx, ve, vd⟩ := h
  have e0 : (0 : Int32).toInt = 0 := rfl
  unfold VS
  rw [u_s, u_n (by omega), u_n (by omega), u_n (by omega), u_n (by omega), u_n (by omega), u_n (by omega), u_n (by omega), u_n (by omega)]
  refine ⟨⟨by omega, h2⟩, v2, v3, v4, v5, v6, v7, v8, v9, ⟨fun h9 => ?_, fun h9 => ?_⟩, vx, ve, vd⟩
  · rw [h8] at h9
    exact absurd h9 (by decide)
  · rw [h9, e0] at h1
    omega
theorem VS_9 {L T M : Int} {R : Nat → Int32} {pr et v : Int32} {S : Nat → Int32} (h : VS L T M R pr et S) (h1 : v = 0 ∨ v = 1) : VS L T M R pr et (upd S 9 v) := by
  obtain ⟨v0, v2, v3, v4, v5, v6, v7, v8, v9, vf, vx, ve, vd⟩ := h
  unfold VS
  rw [u_s, u_n (by omega), u_n (by omega), u_n (by omega), u_n (by omega), u_n (by omega), u_n (by omega), u_n (by omega), u_n (by omega)]
  exact ⟨v0, v2, v3, v4, v5, v6, v7, v8, h1, vf, vx, ve, vd⟩
theorem REL_S {t u : Int} {a a1 b : Mem} {S : Nat → Int32} {p : Int32} {k : Nat} (h : REL t a b) (hu : t ≤ u) (hp : p = 0 ∨ p = 1) (hk : f_X6_sideOf 8 p a = k) (hk2 : k = 13 ∨ k = 15) (hf : ∀ k1, k1 ≠ k → k1 ≠ k + 1 → a1 k1 = a k1) (hS : sI a1 k = S) (hm : S 1 = sl (b 1) (oS p) 1) (hV : VS (120000 * (u + 1)) (9999 * u) u (rl (b 1)) (b 1 2) (b 1 4) S) : REL u a1 (upR b 1 (setS (b 1) (oS p) S)) := REL_now (fun k1 q => hf k1 (by omega) (by omega)) (fun j _ => by rw [R_n (by omega)]) (fun k h4 h8 => R_n (by omega)) hu (by rw [R_s]; exact StP_S h.2.1 hp hk hf hS hm) (by rw [R_s]; exact VL_S h.2.2.1 hu hp (fun i hi => by rw [← hS, sI_top hi]) hV) h
theorem REM_side {t : Int} {a b b1 : Mem} {p : Int32} (h : REL t a b) (h1 : REL t (f_X8_remember a) b1) (hp : p = 0 ∨ p = 1) (h6 : ∀ k, 1 ≤ k → k < 24 ∨ 78 ≤ k → f_X8_remember a k = a k) : f_X6_sideOf 8 p (f_X8_remember a) = f_X6_sideOf 8 p a := by
  unfold f_X6_sideOf
  rw [h6 8 (by omega) (by omega)]
theorem ag_give {t : Int} {N : Nat} {a b c : Mem} {p q : Int32} (hN : 1560 ≤ N) (ht : t ≤ 512) (h : REL t a b) : AGR (t + 1) (f_L_give p q a c) (f_X9_give N p q b) := by
  have e0 : (-9999 : Int64).toInt = -9999 := rfl
  have e9 : (9999 : Int64).toInt = 9999 := rfl
  have f0 : (-9999 : Int32).toInt = -9999 := rfl
  have f9 : (9999 : Int32).toInt = 9999 := rfl
  have f1 : (1 : Int32).toInt = 1 := rfl
  have hmo := REL_mono h (show t ≤ t + 1 by omega)
  obtain ⟨h03, -⟩ := REL_rules h
  obtain ⟨-, ⟨h0, -⟩, -⟩ := REL_hd h
  unfold f_L_give f_X8_give f_X9_give f_X9_give_54 f_X9_give_55
  simp only [b_T, r_st h03, b_P, k_side, q_side, q_in, Int32.toInt_toInt64, e0, e9, pass3, h0]
  by_cases hp : p = 0 ∨ p = 1
  · simp only [hp, reduceIte, i10, bXc_0, r_fl h03 hp, r_of h03 hp (show 0 ≤ (0 : Int32).toInt by decide) (show (0 : Int32).toInt < 17 by decide), b_P]
    obtain ⟨k, hk, hk2, hS, hV⟩ := REL_side h hp
    obtain ⟨v0, v2, v3, v4, v5, v6, v7, v8, v9, vf, -⟩ := hV
    have eS0 : a k 1 = sl (b 1) (oS p) 0 := by rw [← hS]; rfl
    have eS8 : nb (a k 9) = sl (b 1) (oS p) 8 := by rw [← hS]; rfl
    by_cases hq : -9999 ≤ q.toInt ∧ q.toInt ≤ 9999
    · simp only [hq, and_self, reduceIte, i10]
      rw [if_neg (show ¬ q < -9999 by rw [z_lt, f0]; omega), if_pos (show q ≤ 9999 by rw [z_le, f9]; omega), hk, eS8, eS0]
      by_cases h1 : b 1 0 = 4
      · simp only [h1, reduceIte, i10, eq_self, b_T2]
        exact ag_er rfl rfl hmo (by decide)
      · simp only [h1, reduceIte, i10, eq_self, b_T2]
        rcases v8 with h8 | h8
        · simp only [h8, reduceIte, eq_self, i01]
          have hsum : (sl (b 1) (oS p) 0 + q).toInt = (sl (b 1) (oS p) 0).toInt + q.toInt := z_add (by omega) (by omega)
          by_cases hl : (1 : Int32) ≤ sl (b 1) (oS p) 0 + q
          · have hl2 := z_le.1 hl
            rw [f1] at hl2
            rw [if_pos hl]
            have hnl : ¬ sl (b 1) (oS p) 0 + (0 : Int32) + q < 1 ∨ True := Or.inr trivial
            have e00 : (0 : Int32).toNatClampNeg = 0 := rfl
            rw [e00, if_neg (show ¬ sl (b 1) (oS p) 0 + q < 1 by rw [z_lt, f1]; omega)]
            simp only [i10, reduceIte, b_T2]
            obtain ⟨hr, h00⟩ := @REL_t t a b 0 h
            have hb1 : (up2 b 0 0 0) 1 = b 1 := p2_n (by omega)
            generalize up2 b 0 0 0 = b0 at hr h00 hb1 ⊢
            obtain ⟨b1, q1, q2, q3, q4, q5, q6⟩ := REM hN hr
            have h03b := (REL_rules q2).1
            rw [q1, b_P, r_add h03b hp (by decide) (by decide), b_P, e00, r_of (by rw [R_n (by omega)]; exact h03b) hp (by decide) (by decide), b_P, R_s, e00, sl_setS (by omega), u_s, q3, hb1]
            have ek : f_X6_sideOf 8 p (f_X8_remember a) = k := (REM_side hr q2 hp q6).trans hk
            have ea : f_X8_remember a k = a k := q6 k (by omega) (by omega)
            have ea1 : f_X8_remember a (k + 1) = a (k + 1) := q6 (k + 1) (by omega) (by omega)
            have hS1 : sI (f_X8_remember a) k = sl (b 1) (oS p) := by rw [sI_fr ea ea1, hS]
            have hres := @REL_S t (t + 1) (f_X8_remember a) (up2 (f_X8_remember a) k 1 (sl (b 1) (oS p) 0 + q)) b1 (upd (sl (b 1) (oS p)) 0 (sl (b 1) (oS p) 0 + q)) p k q2 (by omega) hp ek hk2 (fun k1 z1 z2 => p2_n z1) (by rw [sI_w1, hS1]) (by rw [u_n (by omega), q3, hb1]) (by
              obtain ⟨k', -, -, -, hV⟩ := REL_side h hp
              rw [q3, hb1]
              exact VS_0 (VS_mono hV (by omega) (by omega) (by omega)) (by omega) (by omega) h8)
            rw [q3, hb1] at hres
            rw [ea, eS0, p2_s, u_s]
            exact ag_ok rfl rfl hres (by rw [R_n (by omega), q4 0 (by omega), h00])
          · have hl2 := z_nle hl
            rw [f1] at hl2
            have e00 : (0 : Int32).toNatClampNeg = 0 := rfl
            rw [if_neg hl, e00, if_pos (show sl (b 1) (oS p) 0 + q < 1 by rw [z_lt, f1]; omega)]
            simp only [reduceIte, b_T2]
            exact ag_er rfl rfl hmo (by decide)
        · simp only [h8, reduceIte, eq_self, i10]
          exact ag_er rfl rfl hmo (by decide)
    · have e1 : (if q < (-9999 : Int32) then (some (.error 2) : Option (Except Nat (Int32 × Mem))) else if q ≤ (9999 : Int32) then (if b 1 0 = 4 then some (.error 1) else if nb (a (f_X6_sideOf 8 p a) 9) = 0 then (if (1 : Int32) ≤ a (f_X6_sideOf 8 p a) 1 + q then some (.ok (up2 (f_X8_remember a) (f_X6_sideOf 8 p a) 1 (f_X8_remember a (f_X6_sideOf 8 p a) 1 + q) (f_X6_sideOf 8 p a) 1, up2 (f_X8_remember a) (f_X6_sideOf 8 p a) 1 (f_X8_remember a (f_X6_sideOf 8 p a) 1 + q))) else some (.error 1)) else some (.error 1)) else some (.error 2)) = some (.error 2) := by
        by_cases z1 : q < (-9999 : Int32)
        · rw [if_pos z1]
        · have z2 := z_nlt z1
          rw [if_neg z1, if_neg (by rw [z_le, f9]; omega)]
      rw [e1]
      have e2 : ∀ x7 : Int32, (bT2 (if (1 : Int32) = 0 then ((0 : Int32), up2 b 0 0 1) else if (0 : Int32) = 0 then (0, up2 b 0 0 2) else if x7 = 0 then (0, up2 b 0 0 3) else (1, up2 b 0 0 0)) fun x9 b10 => if x9 = 0 then (some ((0 : Int32), b10)) else (bP (f_X9_remember N b10) fun b14 => bP (f_X9_add N p (0 : Int32) q b14) fun b17 => bP (f_X9_of N p (0 : Int32) b17) fun x20 => some (x20, b17))) = some (0, up2 b 0 0 2) := by
        intro x7
        simp only [i10, reduceIte, b_T2]
      simp only [hq, reduceIte]
      have e3 := e2 0
      have e4 := e2 1
      simp only [i10, reduceIte, eq_self, b_T2, hq] at e3 e4 ⊢
      refine ag_er (k := 2) (y := 0) rfl ?_ hmo (by decide)
      repeat' split
      all_goals rfl
  · simp only [hp, reduceIte, eq_self, bXc_3, b_T2]
    exact ag_er rfl rfl hmo (by decide)
theorem ag_setBare {t : Int} {N : Nat} {a b c : Mem} {p v : Int32} (hN : 1560 ≤ N) (hv : v = 0 ∨ v = 1) (h : REL t a b) : AGR t (f_L_setBare p v a c) (f_X9_setBare N p v b) := by
  unfold f_L_setBare f_X8_setBare f_X9_setBare f_X9_setBare_33
  simp only [b_T, k_side, q_side, pass1]
  by_cases hp : p = 0 ∨ p = 1
  · simp only [hp, reduceIte, i10, bXc_0, b_T2]
    obtain ⟨hr, h00⟩ := @REL_t t a b 0 h
    generalize up2 b 0 0 0 = b0 at hr h00 ⊢
    obtain ⟨k, hk, hk2, hS, hV⟩ := REL_side hr hp
    obtain ⟨b1, q1, q2, q3, q4, q5, q6⟩ := REM hN hr
    have h03b := (REL_rules q2).1
    have e9 : (9 : Int32).toNatClampNeg = 9 := rfl
    have ek : f_X6_sideOf 8 p (f_X8_remember a) = k := (REM_side hr q2 hp q6).trans hk
    have ea : f_X8_remember a k = a k := q6 k (by omega) (by omega)
    have ea1 : f_X8_remember a (k + 1) = a (k + 1) := q6 (k + 1) (by omega) (by omega)
    have hS1 : sI (f_X8_remember a) k = sl (b0 1) (oS p) := by rw [sI_fr ea ea1, hS]
    have eS9 : nb (a k 10) = sl (b0 1) (oS p) 9 := by rw [← hS]; rfl
    have v9 : sl (b0 1) (oS p) 9 = 0 ∨ sl (b0 1) (oS p) 9 = 1 := hV.2.2.2.2.2.2.2.2.1
    have hnv : nb v = v := by rcases hv with rfl | rfl <;> rfl
    have hres := @REL_S t t (f_X8_remember a) (up2 (f_X8_remember a) k 10 v) b1 (upd (sl (b0 1) (oS p)) 9 v) p k q2 (by omega) hp ek hk2 (fun k1 z1 z2 => p2_n z1) (by rw [sI_w10, hS1, hnv]) (by rw [u_n (by omega), q3]) (by
      rw [q3]
      exact VS_9 hV hv)
    rw [q3] at hres
    rw [q1, b_P, r_of h03b hp (by decide) (by decide), b_P, e9, q3, ek, ea, eS9]
    have fin : ∀ x : Int32, AGR t (some (0, up2 (f_X8_remember a) k 10 v, upR c 0 (upd (c 0) 0 x))) (if v = 0 then bP (f_X9_put N p 9 0 b1) fun b18 => some (x, b18) else bP (f_X9_put N p 9 1 b1) fun b21 => some (x, b21)) := by
      intro x
      rcases hv with rfl | rfl
      · rw [if_pos rfl, r_put h03b hp (by decide) (by decide), b_P, e9, q3]
        exact ag_ok rfl rfl hres (by rw [R_n (by omega), q4 0 (by omega), h00])
      · rw [if_neg (by decide), r_put h03b hp (by decide) (by decide), b_P, e9, q3]
        exact ag_ok rfl rfl hres (by rw [R_n (by omega), q4 0 (by omega), h00])
    rcases v9 with z9 | z9
    · rw [z9, if_neg (show ¬ (0 : Int32) = 1 by decide)]
      exact fin 0
    · rw [z9, if_pos rfl]
      exact fin 1
  · simp only [hp, reduceIte, eq_self, bXc_3, b_T2]
    exact ag_er rfl rfl h (by decide)
theorem an_setClaims {t : Int} {N : Nat} {a b : Mem} {v : Int32} (hN : 1560 ≤ N) (hv : v = 0 ∨ v = 1) (h : REL t a b) : ∃ y b', f_X9_setClaims N v b = some (y, b') ∧ (f_X8_setClaims v a).1 = y ∧ REL t (f_X8_setClaims v a).2 b' := by
  unfold f_X9_setClaims f_X8_setClaims f_X9_setClaims_25
  simp only [b_T]
  obtain ⟨hr, h00⟩ := @REL_t t a b 0 h
  generalize up2 b 0 0 0 = b0 at hr h00 ⊢
  obtain ⟨b1, q1, q2, q3, q4, q5, q6⟩ := REM hN hr
  have hnv : nb v = v := by rcases hv with rfl | rfl <;> rfl
  have e10 : (10 : Int32).toNatClampNeg = 10 := rfl
  have hres := REL_w (j := 4) (i := 10) (x := v) (y := nb v) q2 (StP_h4 q2.2.1) (VL_10 q2.2.2.1 (by rw [hnv]; exact hv))
  rw [hnv] at hres
  obtain ⟨-, ⟨h0, h1, h2, h3, h4, h5, h6, h7, h9, h10, h11, hR⟩, hvl⟩ := REL_hd q2
  obtain ⟨-, -, -, -, -, v10, -⟩ := hvl
  rw [q1, b_P, e10, h10]
  have fin : ∀ x : Int32, ∃ y b', (if v = 0 then some (x, upR b1 1 (upd (b1 1) 10 0)) else some (x, upR b1 1 (upd (b1 1) 10 1))) = some (y, b') ∧ x = y ∧ REL t (up2 (f_X8_remember a) 8 4 v) b' := by
    intro x
    rcases hv with rfl | rfl
    · exact ⟨x, _, rfl, rfl, hres⟩
    · exact ⟨x, _, rfl, rfl, hres⟩
  rcases v10 with z9 | z9
  · rw [z9, if_neg (show ¬ (0 : Int32) = 1 by decide)]
    exact fin 0
  · rw [z9, if_pos rfl]
    exact fin 1
theorem k_won {t : Int} {a b : Mem} {p : Int32} (h : REL t a b) (hp : p = 0 ∨ p = 1) : f_X6_resultOfFall 8 (1 - p) a = if sl (b 1) (oS p) 9 = 1 then 2 else p := by
  obtain ⟨k, hk, hk2, hS, hV⟩ := REL_side h hp
  have v9 : sl (b 1) (oS p) 9 = 0 ∨ sl (b 1) (oS p) 9 = 1 := hV.2.2.2.2.2.2.2.2.1
  have eS9 : nb (a k 10) = sl (b 1) (oS p) 9 := by rw [← hS]; rfl
  have e1 : (1 : Int32) - (1 - p) = p := by rcases hp with rfl | rfl <;> decide
  unfold f_X6_resultOfFall f_X8_other
  simp only [b_T]
  rw [e1, hk, eS9]
  rcases v9 with z9 | z9
  · rw [z9, if_pos rfl, if_neg (by decide)]
  · rw [z9, if_neg (by decide), if_pos rfl]
theorem r_won {N : Nat} {b : Mem} {p : Int32} (h : b 0 3 = 0) (hp : p = 0 ∨ p = 1) : f_X9_wonBy N p b = some (if sl (b 1) (oS p) 9 = 1 then 2 else p) := by
  unfold f_X9_wonBy
  rw [r_of h hp (by decide) (by decide), b_P]
  show (if sl (b 1) (oS p) 9 = 1 then _ else _) = _
  split <;> rfl
theorem ag_claim {t : Int} {N : Nat} {a b c : Mem} {p : Int32} (hN : 1560 ≤ N) (h : REL t a b) : AGR t (f_L_claim p a c) (f_X9_claim N p b) := by
  obtain ⟨h03, -⟩ := REL_rules h
  obtain ⟨-, ⟨h0, -⟩, -⟩ := REL_hd h
  unfold f_L_claim f_X8_claim f_X9_claim f_X9_claim_34 f_X9_claim_35 f_X8_other
  simp only [b_T, r_st h03, b_P, k_side, q_side, pass2, h0]
  by_cases hp : p = 0 ∨ p = 1
  · simp only [hp, reduceIte, i10, bXc_0]
    obtain ⟨k, hk, hk2, hS, hV⟩ := REL_side h (s_oth hp)
    obtain ⟨v0, v2, v3, v4, v5, v6, v7, v8, -⟩ := hV
    have eS8 : nb (a k 9) = sl (b 1) (oS (1 - p)) 8 := by rw [← hS]; rfl
    rw [hk, eS8, r_fl h03 (s_oth hp), b_P]
    by_cases h1 : b 1 0 = 4
    · simp only [h1, reduceIte, i10, eq_self, b_T2]
      exact ag_er rfl rfl h (by decide)
    · simp only [h1, reduceIte, i10, eq_self]
      rcases v8 with h8 | h8
      · simp only [h8, i01, reduceIte, eq_self, b_T2]
        exact ag_er rfl rfl h (by decide)
      · simp only [h8, i10, reduceIte, eq_self, b_T2]
        obtain ⟨hr, h00⟩ := @REL_t t a b 0 h
        generalize up2 b 0 0 0 = b0 at hr h00 ⊢
        obtain ⟨b1, q1, q2, q3, q4, q5, q6⟩ := REM hN hr
        have h03b := (REL_rules q2).1
        obtain ⟨k', hk', hk2', hS', hV'⟩ := REL_side q2 hp
        have w8 : sl (b1 1) (oS p) 8 = 0 ∨ sl (b1 1) (oS p) 8 = 1 := hV'.2.2.2.2.2.2.2.1
        have eS8' : nb (f_X8_remember a k' 9) = sl (b1 1) (oS p) 8 := by rw [← hS']; rfl
        have fin : ∀ v : Int32, AGR t (some (0, f_X6_endWith 8 v (f_X8_remember a), upR c 0 (upd (c 0) 0 (f_X6_endWith 8 v (f_X8_remember a) 8 7)))) (some ((upR b1 1 (upd (upd (b1 1) 0 4) 11 v)) 1 (11 : Int32).toNatClampNeg, upR b1 1 (upd (upd (b1 1) 0 4) 11 v))) := by
          intro v
          obtain ⟨e1, e2⟩ := @REL_end t (f_X8_remember a) b1 v q2
          rw [e2]
          exact ag_ok rfl (by rw [R_s]; rfl) e1 (by rw [R_n (by omega), q4 0 (by omega), h00])
        rw [q1, b_P, r_fl h03b hp, b_P, hk', eS8', r_won h03b hp, b_P, r_end h03b, b_P, r_end h03b, b_P, k_won q2 hp]
        rcases w8 with z8 | z8
        · simp only [z8, i01, reduceIte, eq_self]
          exact fin _
        · simp only [z8, i10, reduceIte, eq_self]
          exact fin _
  · by_cases h1 : b 1 0 = 4
    · simp only [hp, h1, reduceIte, eq_self, i10, bXc_3, b_T2]
      exact ag_er rfl rfl h (by decide)
    · simp only [hp, h1, reduceIte, eq_self, i10, bXc_3, b_T2]
      exact ag_er rfl rfl h (by decide)

