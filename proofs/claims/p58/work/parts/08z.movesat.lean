theorem z_as {x y : Int32} : x + (y - x) = y := by
  rw [Int32.add_comm, Int32.sub_add_cancel]
theorem w_tail {N : Nat} {R : Nat → Int32} {et pr pace x4 : Int32} {L M : Int} {b : Mem} {D : Nat → Int32} (hR : VR R pr et) (hV : VS L 2147000000 M R pr et D) (hM : M ≤ 2000000000) (h03 : b 0 3 = 0) (hRb : rl (b 1) = R) (heb : b 1 4 = et) (hpb : b 1 2 = pr) (hW : W5 b D) (h8 : D 8 = 0) (h7 : D 7 = x4) : ∃ b', (bP (f_X9_ofPeriod N (b 0 6) (4 : Int32) b) fun x12 => bT (mnI x4 x12) fun x14 => if (nb (b 0 9)) = 0 then (bP (f_X9_ofPeriod N (b 0 6) (2 : Int32) b) fun x36 => f_X9_walkOn_141 N b (((b 0 5) + x36) + x14)) else (f_X9_walkOn_141 N b (b (rowM (b 0 3)) ((4 : Int32)).toNatClampNeg))) = some (1, b') ∧ FR5 b b' ∧ W5 b' (FIN R et pr (THK D pace)) := by
  have e0 : (0 : Int32).toInt = 0 := rfl
  have e1 : (1 : Int32).toInt = 1 := rfl
  have n0 : (0 : Int32).toNatClampNeg = 0 := rfl
  have n1 : (1 : Int32).toNatClampNeg = 1 := rfl
  have n2 : (2 : Int32).toNatClampNeg = 2 := rfl
  have n4 : (4 : Int32).toNatClampNeg = 4 := rfl
  obtain ⟨v0, v2, v3, v4, v5, v6, v7, v8, v9, vf, vx, ve, vd⟩ := id hV
  obtain ⟨W0, W2, W3, W4, W9⟩ := id hW
  obtain ⟨r1, r2, r3, r4, -⟩ := id hR
  have T : ∀ j, j ≠ 6 → j ≠ 10 → THK D pace j = D j := fun j z6 z10 => THK_n z6 z10
  have hgain : GAIN R et (THK D pace) = if D 5 = 0 then rn R (D 2) 2 + mnI x4 (rn R (D 2) 4) else et - D 0 := by
    unfold GAIN
    rw [T 8 (by omega) (by omega), T 5 (by omega) (by omega), T 2 (by omega) (by omega), T 7 (by omega) (by omega), T 0 (by omega) (by omega), h7, if_pos h8]
  have F : ∀ j, j ≠ 0 → j ≠ 1 → j ≠ 3 → j ≠ 6 → j ≠ 10 → FIN1 R et (THK D pace) j = D j := fun j z0 z1 z3 z6 z10 => by
    unfold FIN1
    rw [u_n z3, u_n z1, u_n z0, T j z6 z10]
  have F0 : FIN1 R et (THK D pace) 0 = D 0 + GAIN R et (THK D pace) := by unfold FIN1; rw [u_n (by omega), u_n (by omega), u_s, T 0 (by omega) (by omega)]
  have F3 : FIN1 R et (THK D pace) 3 = D 3 + 1 := by unfold FIN1; rw [u_s, T 3 (by omega) (by omega)]
  have h31 : (D 3 + 1).toInt = (D 3).toInt + 1 := by rw [z_add (by rw [e1]; omega) (by rw [e1]; omega), e1]
  have tail : ∃ b', f_X9_walkOn_141 N b (D 0 + GAIN R et (THK D pace)) = some (1, b') ∧ FR5 b b' ∧ W5 b' (FIN R et pr (THK D pace)) := by
    unfold f_X9_walkOn_141
    simp only [b_T]
    have x7 : up2 b 0 5 (D 0 + GAIN R et (THK D pace)) 0 7 = D 3 := by rw [p2_s, u_n (by omega)]; exact W3
    rw [x7]
    have y5 : up2 (up2 b 0 5 (D 0 + GAIN R et (THK D pace))) 0 7 (D 3 + 1) 0 5 = D 0 + GAIN R et (THK D pace) := by rw [p2_s, u_n (by omega), p2_s, u_s]
    have y6 : up2 (up2 b 0 5 (D 0 + GAIN R et (THK D pace))) 0 7 (D 3 + 1) 0 6 = D 2 := by rw [p2_s, u_n (by omega), p2_s, u_n (by omega)]; exact W2
    have y7 : up2 (up2 b 0 5 (D 0 + GAIN R et (THK D pace))) 0 7 (D 3 + 1) 0 7 = D 3 + 1 := by rw [p2_s, u_s]
    have y8 : up2 (up2 b 0 5 (D 0 + GAIN R et (THK D pace))) 0 7 (D 3 + 1) 0 8 = D 4 := by rw [p2_s, u_n (by omega), p2_s, u_n (by omega)]; exact W4
    have y9 : nb (up2 (up2 b 0 5 (D 0 + GAIN R et (THK D pace))) 0 7 (D 3 + 1) 0 9) = D 5 := by rw [p2_s, u_n (by omega), p2_s, u_n (by omega)]; exact W9
    have yF : FR5 b (up2 (up2 b 0 5 (D 0 + GAIN R et (THK D pace))) 0 7 (D 3 + 1)) := FR5_t (FR5_w (by omega)) (FR5_w (by omega))
    generalize up2 (up2 b 0 5 (D 0 + GAIN R et (THK D pace))) 0 7 (D 3 + 1) = b2 at y5 y6 y7 y8 y9 yF ⊢
    have b23 : b2 0 3 = 0 := by rw [yF.2 3 (by omega)]; exact h03
    have b21 : b2 1 = b 1 := yF.1 1 (by omega)
    rw [y6, r_ofP b23 v2.1 (by omega) (by decide) (by decide), b_P, n0, b21, hRb, y7, b23]
    show ∃ b', (if D 3 + 1 = rn R (D 2) 0 then (bP (f_X9_ofPeriod N (up2 (up2 b2 0 6 (mnI (D 2 + 1) (b2 1 2 - 1))) 0 7 0 0 6) 1 (up2 (up2 b2 0 6 (mnI (D 2 + 1) (b2 1 2 - 1))) 0 7 0)) fun x30 => some ((1 : Int32), up2 (up2 (up2 b2 0 6 (mnI (D 2 + 1) (b2 1 2 - 1))) 0 7 0) 0 5 (up2 (up2 b2 0 6 (mnI (D 2 + 1) (b2 1 2 - 1))) 0 7 0 0 5 + x30))) else some (1, b2)) = some (1, b') ∧ FR5 b b' ∧ W5 b' (FIN R et pr (THK D pace))
    rw [b21, hpb]
    have hF2 : FIN2 R pr (FIN1 R et (THK D pace)) = if rn R (D 2) 0 = 0 then FIN1 R et (THK D pace) else if rn R (D 2) 0 = D 3 + 1 then NEXT R pr (FIN1 R et (THK D pace)) else FIN1 R et (THK D pace) := by
      unfold FIN2
      rw [F 2 (by omega) (by omega) (by omega) (by omega) (by omega), F3]
    have DR : ∀ (X : Nat → Int32) j, j ≠ 6 → j ≠ 7 → DROP X j = X j := fun X j z6 z7 => by
      unfold DROP
      rw [u_n z7, u_n z6]
    by_cases hd : D 3 + 1 = rn R (D 2) 0
    · rw [if_pos hd]
      have hne : ¬ rn R (D 2) 0 = 0 := by
        intro h9
        rw [h9] at hd
        have := z_eq.1 hd
        rw [h31, e0] at this
        omega
      rw [if_neg hne, if_pos hd.symm] at hF2
      have hm : (mnI (D 2 + 1) (pr - 1)).toInt = min ((D 2).toInt + 1) (pr.toInt - 1) := by
        rw [z_mn, z_add (by rw [e1]; omega) (by rw [e1]; omega), z_sub (by rw [e1]; omega) (by rw [e1]; omega), e1]
      have z6 : up2 (up2 b2 0 6 (mnI (D 2 + 1) (pr - 1))) 0 7 0 0 6 = mnI (D 2 + 1) (pr - 1) := by rw [p2_s, u_n (by omega), p2_s, u_s]
      have z5 : up2 (up2 b2 0 6 (mnI (D 2 + 1) (pr - 1))) 0 7 0 0 5 = D 0 + GAIN R et (THK D pace) := by rw [p2_s, u_n (by omega), p2_s, u_n (by omega), y5]
      have z7 : up2 (up2 b2 0 6 (mnI (D 2 + 1) (pr - 1))) 0 7 0 0 7 = 0 := by rw [p2_s, u_s]
      have z8 : up2 (up2 b2 0 6 (mnI (D 2 + 1) (pr - 1))) 0 7 0 0 8 = D 4 := by rw [p2_s, u_n (by omega), p2_s, u_n (by omega), y8]
      have z9 : nb (up2 (up2 b2 0 6 (mnI (D 2 + 1) (pr - 1))) 0 7 0 0 9) = D 5 := by rw [p2_s, u_n (by omega), p2_s, u_n (by omega), y9]
      have zF : FR5 b (up2 (up2 b2 0 6 (mnI (D 2 + 1) (pr - 1))) 0 7 0) := FR5_t yF (FR5_t (FR5_w (by omega)) (FR5_w (by omega)))
      generalize up2 (up2 b2 0 6 (mnI (D 2 + 1) (pr - 1))) 0 7 0 = b3 at z5 z6 z7 z8 z9 zF ⊢
      have b33 : b3 0 3 = 0 := by rw [zF.2 3 (by omega)]; exact h03
      rw [z6, r_ofP b33 (by rw [hm]; omega) (by rw [hm]; omega) (by decide) (by decide), b_P, n1, zF.1 1 (by omega), hRb, z5]
      refine ⟨_, rfl, FR5_t zF (FR5_w (by omega)), ?_⟩
      unfold FIN
      rw [hF2]
      have N1 : ∀ j, j ≠ 2 → j ≠ 3 → j ≠ 11 → NEXT1 pr (FIN1 R et (THK D pace)) j = FIN1 R et (THK D pace) j := fun j z2 z3 z11 => by
        unfold NEXT1
        rw [u_n z3, u_n z2, u_n z11]
      have hN : NEXT R pr (FIN1 R et (THK D pace)) = upd (NEXT1 pr (FIN1 R et (THK D pace))) 0 (D 0 + GAIN R et (THK D pace) + rn R (mnI (D 2 + 1) (pr - 1)) 1) := by
        unfold NEXT
        rw [F 8 (by omega) (by omega) (by omega) (by omega) (by omega), if_pos h8, F0, F 2 (by omega) (by omega) (by omega) (by omega) (by omega)]
      rw [hN]
      refine ⟨?_, ?_, ?_, ?_, ?_⟩
      · rw [p2_s, u_s, DR _ 0 (by omega) (by omega), u_s]
      · rw [p2_s, u_n (by omega), z6, DR _ 2 (by omega) (by omega), u_n (by omega)]
        unfold NEXT1
        rw [u_n (by omega), u_s, F 2 (by omega) (by omega) (by omega) (by omega) (by omega)]
      · rw [p2_s, u_n (by omega), z7, DR _ 3 (by omega) (by omega), u_n (by omega)]
        unfold NEXT1
        rw [u_s]
      · rw [p2_s, u_n (by omega), z8, DR _ 4 (by omega) (by omega), u_n (by omega), N1 4 (by omega) (by omega) (by omega), F 4 (by omega) (by omega) (by omega) (by omega) (by omega)]
      · rw [p2_s, u_n (by omega), z9, DR _ 5 (by omega) (by omega), u_n (by omega), N1 5 (by omega) (by omega) (by omega), F 5 (by omega) (by omega) (by omega) (by omega) (by omega)]
    · rw [if_neg hd]
      have hF2' : FIN2 R pr (FIN1 R et (THK D pace)) = FIN1 R et (THK D pace) := by
        rw [hF2]
        split
        · rfl
        · rw [if_neg (fun h9 => hd h9.symm)]
      refine ⟨b2, rfl, yF, ?_⟩
      unfold FIN
      rw [hF2']
      refine ⟨?_, ?_, ?_, ?_, ?_⟩
      · rw [y5, DR _ 0 (by omega) (by omega), F0]
      · rw [y6, DR _ 2 (by omega) (by omega), F 2 (by omega) (by omega) (by omega) (by omega) (by omega)]
      · rw [y7, DR _ 3 (by omega) (by omega), F3]
      · rw [y8, DR _ 4 (by omega) (by omega), F 4 (by omega) (by omega) (by omega) (by omega) (by omega)]
      · rw [y9, DR _ 5 (by omega) (by omega), F 5 (by omega) (by omega) (by omega) (by omega) (by omega)]
  have hrow : b (rowM (b 0 3)) 4 = et := by rw [h03]; exact heb
  rw [W2, r_ofP h03 v2.1 (by omega) (by decide) (by decide), b_P, r_ofP h03 v2.1 (by omega) (by decide) (by decide)]
  simp only [b_T]
  rw [b_P, n2, n4, hRb, W9, W0, hrow]
  by_cases h5 : D 5 = 0
  · rw [if_pos h5]
    rw [if_pos h5] at hgain
    have e : D 0 + rn R (D 2) 2 + mnI x4 (rn R (D 2) 4) = D 0 + GAIN R et (THK D pace) := by rw [hgain, Int32.add_assoc]
    rw [e]
    exact tail
  · rw [if_neg h5]
    rw [if_neg h5] at hgain
    have e : et = D 0 + GAIN R et (THK D pace) := by rw [hgain, z_as]
    have key := tail
    rw [← e] at key
    exact key
theorem w_one {N : Nat} {R : Nat → Int32} {et pr pace : Int32} {L M : Int} {b : Mem} {S : Nat → Int32} (hN : 20 ≤ N) (hR : VR R pr et) (hL : 9999 ≤ L) (hL2 : L ≤ 2000000000) (hM : M ≤ 2000000000) (hp : 0 ≤ pace.toInt) (hp2 : pace.toInt ≤ 9999) (h03 : b 0 3 = 0) (hRb : rl (b 1) = R) (heb : b 1 4 = et) (hpb : b 1 2 = pr) (hW : W5 b S) (hV : VS L 0 M R pr et S) (h8 : S 8 = 0) :
    (RUN R et pace S 8 = 0 ∧ ∃ b', f_X9_walkOn N pace b = some (1, b') ∧ FR5 b b' ∧ W5 b' (FIN R et pr (RUN R et pace S))) ∨ (RUN R et pace S 8 ≠ 0 ∧ ∃ b', f_X9_walkOn N pace b = some (0, b') ∧ FR5 b b') := by
  have e0 : (0 : Int32).toInt = 0 := rfl
  have n3 : (3 : Int32).toNatClampNeg = 3 := rfl
  obtain ⟨v0, v2, v3, v4, v5, v6, v7, v8, v9, vf, vx, ve, vd⟩ := id hV
  have hper := hR.at v2.1 v2.2
  have h55 := VR_5 hR
  have hf := FREE_t hper.2.2.2.1.1 v6.1
  have hc : (mxI 0 (pace - rn R (S 2) 3)).toInt = max 0 (pace.toInt - (rn R (S 2) 3).toInt) := by rw [z_mx, z_sub (by omega) (by omega), e0]
  have hcc : mxI 0 (pace - FREE R S) = mxI 0 (pace - rn R (S 2) 3) := by
    rw [z_eq, hc, z_mx, z_sub (by omega) (by omega), e0]
    omega
  have hRUN : RUN R et pace S = THK (Dn R et (mxI 0 (pace - rn R (S 2) 3)).toNatClampNeg S) pace := by rw [RUN_THK, hcc]
  have h8r : RUN R et pace S 8 = Dn R et (mxI 0 (pace - rn R (S 2) 3)).toNatClampNeg S 8 := by rw [hRUN, THK_n (by omega) (by omega)]
  obtain ⟨-, W2, -⟩ := id hW
  unfold f_X9_walkOn
  rw [W2, r_ofP h03 v2.1 (by omega) (by decide) (by decide), b_P, n3, hRb]
  simp only [b_T]
  generalize mxI 0 (pace - rn R (S 2) 3) = c at hc hRUN h8r ⊢
  have hV2 : VS L 2147000000 M R pr et S := VS_T hV (by omega) (by omega)
  rcases @w_drain N R et pr c L M hR hL hL2 9 N c b S (by omega) (by omega) h03 hRb heb hW hV2 h8 (by omega) (by omega) with ⟨r1, b', r2, r3⟩ | ⟨r1, b', r2, r3, r4⟩
  · exact Or.inr ⟨by rw [h8r]; exact r1, b', r2, r3⟩
  · refine Or.inl ⟨by rw [h8r]; exact r1, ?_⟩
    obtain ⟨d1, d2, d3, d4⟩ := Dn_cap hR hV2 hL h8 c.toNatClampNeg (by rw [z_tn]; omega) r1
    have h7z : S 7 = 0 := z_eq.2 (by rw [e0]; omega)
    have h7 : Dn R et c.toNatClampNeg S 7 = c := by rw [d3, h7z, Int32.zero_add, z_of (by omega)]
    obtain ⟨b2, t1, t2, t3⟩ := @w_tail N R et pr pace c L M b' _ hR d1 hM (by rw [r2.2 3 (by omega)]; exact h03) (by rw [r2.1 1 (by omega)]; exact hRb) (by rw [r2.1 1 (by omega)]; exact heb) (by rw [r2.1 1 (by omega)]; exact hpb) r3 r1 h7
    rw [r4, t1]
    exact ⟨b2, rfl, FR5_t r2 t2, by rw [hRUN]; exact t3⟩
theorem r_mvAt {N : Nat} {R : Nat → Int32} {et pr pace p : Int32} (hN : 300 ≤ N) (hR : VR R pr et) (hp : 0 ≤ pace.toInt) (hp2 : pace.toInt ≤ 9999) (hs : p = 0 ∨ p = 1) : ∀ (n k fu lim : Nat) (b : Mem) (S : Nat → Int32) (L M : Int), k + n = lim → lim ≤ 200 → n + 1 ≤ fu → b 0 3 = 0 → sl (b 1) (oS p) 8 = 0 → rl (b 1) = R → b 1 4 = et → b 1 2 = pr → W5 b S → VS L 0 M R pr et S → S 8 = 0 → 9999 ≤ L → L + 110000 * n ≤ 1900000000 → M + n ≤ 1900000000 → ∃ b', f_X9_movesAt_65 N p pace (nI lim) fu (nI k) b = some (nI (k + MC R et pr pace n S), b') ∧ FR5 b b' := by
  intro n
  induction n with
  | zero =>
    intro k fu lim b S L M hk hlim hf h03 hfe hRb heb hpb hW hV h8 hL hL2 hM
    obtain ⟨f, rfl⟩ : ∃ f, fu = f + 1 := ⟨fu - 1, by omega⟩
    have : k = lim := by omega
    subst this
    rw [f_X9_movesAt_65_s, r_fl h03 hs, b_P, hfe, if_neg (show ¬ (0 : Int32) = 1 by decide), if_pos rfl, if_pos (Int32.le_refl _)]
    exact ⟨b, rfl, FR5_i⟩
  | succ n ih =>
    intro k fu lim b S L M hk hlim hf h03 hfe hRb heb hpb hW hV h8 hL hL2 hM
    obtain ⟨f, rfl⟩ : ∃ f, fu = f + 1 := ⟨fu - 1, by omega⟩
    have hlt : ¬ nI lim ≤ nI k := fun h9 => by have := (nI_lei (by omega) (by omega)).1 h9; omega
    obtain ⟨w1, w2⟩ := VS_one (pace := pace) hR hV hL (by omega) (by omega) hp hp2
    rw [f_X9_movesAt_65_s, r_fl h03 hs, b_P, hfe, if_neg (show ¬ (0 : Int32) = 1 by decide), if_pos rfl, if_neg hlt]
    unfold MC
    rcases @w_one N R et pr pace L M b S (by omega) hR hL (by omega) (by omega) hp hp2 h03 hRb heb hpb hW hV h8 with ⟨r1, b1, r2, r3, r4⟩ | ⟨r1, b1, r2, r3⟩
    · rw [r2, b_P2, if_neg (by decide), if_pos r1]
      simp only [b_T, nI_1]
      obtain ⟨b', i1, i2⟩ := ih (k + 1) f lim b1 _ (L + 110000) (M + 1) (by omega) hlim (by omega) (by rw [r3.2 3 (by omega)]; exact h03) (by rw [r3.1 1 (by omega)]; exact hfe) (by rw [r3.1 1 (by omega)]; exact hRb) (by rw [r3.1 1 (by omega)]; exact heb) (by rw [r3.1 1 (by omega)]; exact hpb) r4 w2 (by rw [FIN_8, r1]) (by omega) (by omega) (by omega)
      rw [i1, show k + 1 + MC R et pr pace n (FIN R et pr (RUN R et pace S)) = k + (MC R et pr pace n (FIN R et pr (RUN R et pace S)) + 1) by omega]
      exact ⟨b', rfl, FR5_t r3 i2⟩
    · rw [r2, b_P2, if_pos rfl, if_neg r1]
      exact ⟨b1, rfl, r3⟩
def CN (R : Nat → Int32) (et pr pace more : Int32) (m : Nat) (S : Nat → Int32) : Nat := if S 8 = 0 then MC R et pr pace m (upd (DROP S) 0 (S 0 + more)) else 0
theorem VS_start {L T M : Int} {R : Nat → Int32} {pr et more : Int32} {S : Nat → Int32} (hV : VS L T M R pr et S) (h8 : S 8 = 0) (hm : 0 ≤ more.toInt) (hm2 : more.toInt ≤ 100000) (hL : L ≤ 1800000000) : VS (L + 100000) 0 M R pr et (upd (DROP S) 0 (S 0 + more)) := by
  have e0 : (0 : Int32).toInt = 0 := rfl
  obtain ⟨v0, v2, v3, v4, v5, v6, v7, v8, v9, vf, vx, ve, vd⟩ := id hV
  have hz : (S 0).toInt ≠ 0 := by
    intro h9
    have := vf.2 (z_eq.2 (h9.trans e0.symm))
    rw [h8] at this
    exact absurd this (by decide)
  have ha : (S 0 + more).toInt = (S 0).toInt + more.toInt := z_add (by omega) (by omega)
  have D : ∀ j, j ≠ 0 → j ≠ 6 → j ≠ 7 → upd (DROP S) 0 (S 0 + more) j = S j := fun j z0 z6 z7 => by
    unfold DROP
    rw [u_n z0, u_n z7, u_n z6]
  have D6 : upd (DROP S) 0 (S 0 + more) 6 = 0 := by unfold DROP; rw [u_n (by omega), u_n (by omega), u_s]
  have D7 : upd (DROP S) 0 (S 0 + more) 7 = 0 := by unfold DROP; rw [u_n (by omega), u_s]
  unfold VS
  rw [u_s, D6, D7, D 2 (by omega) (by omega) (by omega), D 3 (by omega) (by omega) (by omega), D 4 (by omega) (by omega) (by omega), D 5 (by omega) (by omega) (by omega), D 8 (by omega) (by omega) (by omega), D 9 (by omega) (by omega) (by omega), ha, e0]
  refine ⟨⟨by omega, by omega⟩, v2, v3, v4, v5, ⟨by omega, by omega⟩, ⟨by omega, by omega⟩, v8, v9, ⟨fun h9 => by rw [h8] at h9; exact absurd h9 (by decide), fun h9 => ?_⟩, vx, ve, vd⟩
  have := z_eq.1 h9
  rw [ha, e0] at this
  omega
theorem both_mv {t : Int} {N m : Nat} {a b : Mem} {p pace more : Int32} (hN : 300 ≤ N) (ht : t ≤ 512) (hm : m ≤ 200) (h : REL t a b) (hp : p = 0 ∨ p = 1) (hpc : 0 ≤ pace.toInt ∧ pace.toInt ≤ 9999) (hmo : 0 ≤ more.toInt ∧ more.toInt ≤ 100000) : (∃ a', f_X7_movesAt N 9 (f_X6_sideOf 8 p a) pace more (nI m) a = some (nI (CN (rl (b 1)) (b 1 4) (b 1 2) pace more m (sl (b 1) (oS p))), a') ∧ REL t a' b ∧ f_X6_sideOf 8 p a' = f_X6_sideOf 8 p a) ∧ ∃ b', f_X9_movesAt N p pace (nI m) more b = some (nI (CN (rl (b 1)) (b 1 4) (b 1 2) pace more m (sl (b 1) (oS p))), b') ∧ FR5 b b' := by
  have n0 : (0 : Int32).toNatClampNeg = 0 := rfl
  have n2 : (2 : Int32).toNatClampNeg = 2 := rfl
  have n3 : (3 : Int32).toNatClampNeg = 3 := rfl
  have n4 : (4 : Int32).toNatClampNeg = 4 := rfl
  have n5 : (5 : Int32).toNatClampNeg = 5 := rfl
  obtain ⟨k, hk, hk2, hS, hV⟩ := REL_side h hp
  obtain ⟨h03, hR, hpr, het, hVR⟩ := REL_rules h
  have hV2 := hV
  obtain ⟨v0, v2, v3, v4, v5, v6, v7, v8, v9, vf, vx, ve, vd⟩ := hV2
  have h80 : 0 ≤ t := by omega
  constructor
  · rw [hk]
    have eS8 : nb (a k 9) = sl (b 1) (oS p) 8 := by rw [← hS]; rfl
    unfold f_X7_movesAt CN
    rw [eS8]
    by_cases h8 : sl (b 1) (oS p) 8 = 0
    · rw [if_pos h8, if_pos h8]
      simp only [b_T]
      obtain ⟨cF, cS⟩ := @c_cpy5 a 18 k (by omega) (by omega) (by omega)
      obtain ⟨dS, dF⟩ := @c_drop (f_X5_copyFrom 18 k a) 18
      have e1 : f_X5_dropMove 18 (f_X5_copyFrom 18 k a) 18 1 = sl (b 1) (oS p) 0 := by
        have : sI (f_X5_dropMove 18 (f_X5_copyFrom 18 k a)) 18 0 = DROP (sl (b 1) (oS p)) 0 := by rw [dS, cS, hS]
        have e2 : DROP (sl (b 1) (oS p)) 0 = sl (b 1) (oS p) 0 := by unfold DROP; rw [u_n (by omega), u_n (by omega)]
        rw [e2] at this
        exact this
      rw [e1]
      have gS : sI (up2 (f_X5_dropMove 18 (f_X5_copyFrom 18 k a)) 18 1 (sl (b 1) (oS p) 0 + more)) 18 = upd (DROP (sl (b 1) (oS p))) 0 (sl (b 1) (oS p) 0 + more) := by rw [sI_w1, dS, cS, hS]
      have gF : ∀ q, q ≠ 18 → q ≠ 19 → up2 (f_X5_dropMove 18 (f_X5_copyFrom 18 k a)) 18 1 (sl (b 1) (oS p) 0 + more) q = a q := fun q z1 z2 => by rw [p2_n z1, dF q z1, cF q z1 z2]
      generalize up2 (f_X5_dropMove 18 (f_X5_copyFrom 18 k a)) 18 1 (sl (b 1) (oS p) 0 + more) = a8 at gS gF ⊢
      obtain ⟨a', i1, i2⟩ := @c_mvAt N (rl (b 1)) (b 1 4) (b 1 2) pace hN hVR hpc.1 hpc.2 m 0 N m a8 (120000 * (t + 1) + 100000) t (by omega) hm (by omega) (by rw [rI_fr (gF 10 (by omega) (by omega)), hR]) (by rw [gF 9 (by omega) (by omega), het]) (by rw [gF 9 (by omega) (by omega), hpr]) (by rw [gS]; exact VS_start hV h8 hmo.1 hmo.2 (by omega)) (by rw [gS, u_n (by omega)]; unfold DROP; rw [u_n (by omega), u_n (by omega)]; exact h8) (by omega) (by omega) (by omega)
      rw [gS, Nat.zero_add] at i1
      have fr : ∀ q, q < 17 ∨ 22 ≤ q → a' q = a q := fun q hq => by rw [i2 q (by omega), gF q (by omega) (by omega)]
      refine ⟨a', i1, REL_tr fr h, ?_⟩
      rw [← hk]
      unfold f_X6_sideOf
      rw [fr 8 (by omega)]
    · rw [if_neg h8, if_neg h8]
      exact ⟨a, rfl, h, hk⟩
  · unfold f_X9_movesAt f_X9_movesAt_59 CN
    simp only [b_T]
    have q1 : ∀ x, up2 b 0 5 x 0 3 = 0 := fun x => by rw [p2_s, u_n (by omega)]; exact h03
    rw [r_of h03 hp (by decide) (by decide), b_P, n0, r_of (q1 _) hp (by decide) (by decide), b_P, n2, p2_n (show (1 : Nat) ≠ 0 by omega)]
    have q2 : ∀ x y, up2 (up2 b 0 5 x) 0 6 y 0 3 = 0 := fun x y => by rw [p2_s, u_n (by omega)]; exact q1 x
    rw [r_of (q2 _ _) hp (by decide) (by decide), b_P, n3, p2_n (show (1 : Nat) ≠ 0 by omega), p2_n (show (1 : Nat) ≠ 0 by omega)]
    have q3 : ∀ x y z, up2 (up2 (up2 b 0 5 x) 0 6 y) 0 7 z 0 3 = 0 := fun x y z => by rw [p2_s, u_n (by omega)]; exact q2 x y
    rw [r_of (q3 _ _ _) hp (by decide) (by decide), b_P, n4, p2_n (show (1 : Nat) ≠ 0 by omega), p2_n (show (1 : Nat) ≠ 0 by omega), p2_n (show (1 : Nat) ≠ 0 by omega)]
    have q4 : ∀ x y z u, up2 (up2 (up2 (up2 b 0 5 x) 0 6 y) 0 7 z) 0 8 u 0 3 = 0 := fun x y z u => by rw [p2_s, u_n (by omega)]; exact q3 x y z
    rw [r_of (q4 _ _ _ _) hp (by decide) (by decide), b_P, n5, p2_n (show (1 : Nat) ≠ 0 by omega), p2_n (show (1 : Nat) ≠ 0 by omega), p2_n (show (1 : Nat) ≠ 0 by omega), p2_n (show (1 : Nat) ≠ 0 by omega)]
    generalize hSS : sl (b 1) (oS p) = S at hS hV v0 v2 v3 v4 v5 v6 v7 v8 v9 vf vx ve vd ⊢
    have fin : ∀ x24 : Int32, nb x24 = S 5 → ∃ b', f_X9_movesAt_65 N p pace (nI m) N 0 (up2 (up2 (up2 (up2 (up2 b 0 5 (S 0 + more)) 0 6 (S 2)) 0 7 (S 3)) 0 8 (S 4)) 0 9 x24) = some (nI (if S 8 = 0 then MC (rl (b 1)) (b 1 4) (b 1 2) pace m (upd (DROP S) 0 (S 0 + more)) else 0), b') ∧ FR5 b b' := by
      intro x24 hx
      have wF : FR5 b (up2 (up2 (up2 (up2 (up2 b 0 5 (S 0 + more)) 0 6 (S 2)) 0 7 (S 3)) 0 8 (S 4)) 0 9 x24) := FR5_t (FR5_w (by omega)) (FR5_t (FR5_w (by omega)) (FR5_t (FR5_w (by omega)) (FR5_t (FR5_w (by omega)) (FR5_w (by omega)))))
      have wW : W5 (up2 (up2 (up2 (up2 (up2 b 0 5 (S 0 + more)) 0 6 (S 2)) 0 7 (S 3)) 0 8 (S 4)) 0 9 x24) (upd (DROP S) 0 (S 0 + more)) := by
        have D : ∀ j, j ≠ 0 → j ≠ 6 → j ≠ 7 → upd (DROP S) 0 (S 0 + more) j = S j := fun j z0 z6 z7 => by
          unfold DROP
          rw [u_n z0, u_n z7, u_n z6]
        refine ⟨?_, ?_, ?_, ?_, ?_⟩
        · rw [p2_s, u_n (by omega), p2_s, u_n (by omega), p2_s, u_n (by omega), p2_s, u_n (by omega), p2_s, u_s, u_s]
        · rw [p2_s, u_n (by omega), p2_s, u_n (by omega), p2_s, u_n (by omega), p2_s, u_s, D 2 (by omega) (by omega) (by omega)]
        · rw [p2_s, u_n (by omega), p2_s, u_n (by omega), p2_s, u_s, D 3 (by omega) (by omega) (by omega)]
        · rw [p2_s, u_n (by omega), p2_s, u_s, D 4 (by omega) (by omega) (by omega)]
        · rw [p2_s, u_s, D 5 (by omega) (by omega) (by omega), hx]
      generalize up2 (up2 (up2 (up2 (up2 b 0 5 (S 0 + more)) 0 6 (S 2)) 0 7 (S 3)) 0 8 (S 4)) 0 9 x24 = b5 at wF wW ⊢
      have b51 : b5 1 = b 1 := wF.1 1 (by omega)
      have b53 : b5 0 3 = 0 := by rw [wF.2 3 (by omega)]; exact h03
      by_cases h8 : S 8 = 0
      · rw [if_pos h8]
        obtain ⟨b', i1, i2⟩ := @r_mvAt N (rl (b 1)) (b 1 4) (b 1 2) pace p hN hVR hpc.1 hpc.2 hp m 0 N m b5 (upd (DROP S) 0 (S 0 + more)) (120000 * (t + 1) + 100000) t (by omega) hm (by omega) b53 (by rw [b51, hSS]; exact h8) (by rw [b51]) (by rw [b51]) (by rw [b51]) wW (VS_start hV h8 hmo.1 hmo.2 (by omega)) (by rw [u_n (by omega)]; unfold DROP; rw [u_n (by omega), u_n (by omega)]; exact h8) (by omega) (by omega) (by omega)
        rw [Nat.zero_add, nI_0] at i1
        exact ⟨b', i1, FR5_t wF i2⟩
      · rw [if_neg h8]
        obtain ⟨f, rfl⟩ : ∃ f, N = f + 1 := ⟨N - 1, by omega⟩
        rw [f_X9_movesAt_65_s, r_fl b53 hp, b_P, b51, hSS]
        have h81 : S 8 = 1 := by
          rcases v8 with h9 | h9
          · exact absurd h9 h8
          · exact h9
        rw [if_pos h81, if_neg (by decide)]
        exact ⟨b5, rfl, wF⟩
    rcases v5 with h5 | h5
    · rw [if_neg (show ¬ S 5 = 1 by rw [h5]; decide)]
      exact fin 0 (by rw [h5]; rfl)
    · rw [if_pos h5]
      exact fin 1 (by rw [h5]; rfl)

