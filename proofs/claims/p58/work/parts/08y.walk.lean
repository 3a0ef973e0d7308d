theorem d1_cap {L T M : Int} {R : Nat → Int32} {pr et : Int32} {S : Nat → Int32} (hV : VS L T M R pr et S) (he : 0 ≤ et.toInt) (hT : T ≤ 2147000000) (h8 : S 8 = 0) (h8' : d1 R et S 8 = 0) : capI R et (d1 R et S) = capI R et S - 1 ∧ d1 R et S 7 = S 7 + 1 ∧ ((d1 R et S 4 = S 4 ∧ d1 R et S 5 = S 5 ∧ (d1 R et S 0).toInt + 1 = (S 0).toInt) ∨ (d1 R et S 5 = 1 ∧ (d1 R et S 4).toInt + 1 = (S 4).toInt ∧ d1 R et S 0 = et)) := by
  have e0 : (0 : Int32).toInt = 0 := rfl
  have e1 : (1 : Int32).toInt = 1 := rfl
  obtain ⟨v0, v2, v3, v4, v5, v6, v7, v8, v9, vf, vx, ve, vd⟩ := hV
  have b0 := z_hi (S 0)
  have hz : (S 0).toInt ≠ 0 := by
    intro h9
    have := vf.2 (z_eq.2 (h9.trans e0.symm))
    rw [h8] at this
    exact absurd this (by decide)
  have hs0 : (S 0 - 1).toInt = (S 0).toInt - 1 := by rw [z_sub (by rw [e1]; omega) (by rw [e1]; omega), e1]
  have l2 : LOSE S 1 2 = S 2 := LOSE_lo (by omega) (by omega) (by omega)
  have l4 : LOSE S 1 4 = S 4 := LOSE_lo (by omega) (by omega) (by omega)
  have l5 : LOSE S 1 5 = S 5 := LOSE_lo (by omega) (by omega) (by omega)
  by_cases h1 : 1 < (S 0).toInt
  · rw [d1_lo h1] at h8' ⊢
    unfold capI
    rw [LOSE_0, l2, l4, l5, LOSE_7, hs0]
    exact ⟨by omega, rfl, Or.inl ⟨rfl, rfl, by omega⟩⟩
  · have hone : S 0 = 1 := by rw [z_eq, e1]; omega
    rw [d1_1 hone] at h8' ⊢
    unfold OUT1 at h8' ⊢
    rw [l2, l4] at h8' ⊢
    by_cases hq : rn R (S 2) 0 = 0 ∧ 0 < S 4
    · have hq4 := z_lt.1 hq.2
      rw [e0] at hq4
      have hs4 : (S 4 - 1).toInt = (S 4).toInt - 1 := by rw [z_sub (by rw [e1]; omega) (by rw [e1]; omega), e1]
      rw [if_pos hq]
      have m0 : upd (upd (upd (LOSE S 1) 4 (S 4 - 1)) 5 1) 0 et 0 = et := u_s
      have m2 : upd (upd (upd (LOSE S 1) 4 (S 4 - 1)) 5 1) 0 et 2 = S 2 := by rw [u_n (by omega), u_n (by omega), u_n (by omega), l2]
      have m4 : upd (upd (upd (LOSE S 1) 4 (S 4 - 1)) 5 1) 0 et 4 = S 4 - 1 := by rw [u_n (by omega), u_n (by omega), u_s]
      have m5 : upd (upd (upd (LOSE S 1) 4 (S 4 - 1)) 5 1) 0 et 5 = 1 := by rw [u_n (by omega), u_s]
      have m7 : upd (upd (upd (LOSE S 1) 4 (S 4 - 1)) 5 1) 0 et 7 = S 7 + 1 := by rw [u_n (by omega), u_n (by omega), u_n (by omega), LOSE_7]
      unfold capI
      rw [m0, m2, m4, m5, m7, hs4, if_pos hq.1, if_pos hq.1, Int.sub_mul, hone, e1]
      exact ⟨by omega, rfl, Or.inr ⟨rfl, by omega, rfl⟩⟩
    · rw [if_neg hq, u_s] at h8'
      exact absurd h8' (by decide)
theorem Dn_cap {L M : Int} {R : Nat → Int32} {pr et : Int32} {S : Nat → Int32} (hR : VR R pr et) (hV : VS L 2147000000 M R pr et S) (hL : 9999 ≤ L) (h8 : S 8 = 0) : ∀ c : Nat, (S 7).toInt + c ≤ 2147000000 → Dn R et c S 8 = 0 → VS L 2147000000 M R pr et (Dn R et c S) ∧ capI R et (Dn R et c S) = capI R et S - c ∧ Dn R et c S 7 = S 7 + nI c ∧ ((Dn R et c S 4 = S 4 ∧ Dn R et c S 5 = S 5 ∧ (Dn R et c S 0).toInt + c = (S 0).toInt) ∨ (Dn R et c S 5 = 1 ∧ (Dn R et c S 4).toInt + 1 ≤ (S 4).toInt ∧ (Dn R et c S 0).toInt ≤ et.toInt)) := by
  intro c
  induction c with
  | zero =>
    intro _ _
    refine ⟨hV, ?_, ?_, Or.inl ⟨rfl, rfl, ?_⟩⟩
    · show capI R et S = capI R et S - 0
      omega
    · show S 7 = S 7 + nI 0
      rw [nI_0, Int32.add_zero]
    · show (S 0).toInt + 0 = (S 0).toInt
      omega
  | succ c ih =>
    intro hc hf
    have hf0 : Dn R et c S 8 = 0 := by
      apply Classical.byContradiction
      intro h9
      rw [Dn_s] at hf
      exact d1_8 h9 hf
    obtain ⟨i1, i2, i3, i4⟩ := ih (by omega) hf0
    rw [Dn_s] at hf
    obtain ⟨d2, d3, d4⟩ := d1_cap i1 hR.2.2.1 (Int.le_refl _) hf0 hf
    have hd := @VS_Dn L 2147000000 M R pr et (c + 1) S hR hV hL hc (by omega)
    rw [Dn_s] at hd ⊢
    refine ⟨hd, by omega, by rw [d3, i3, Int32.add_assoc, nI_1], ?_⟩
    rcases i4 with ⟨j1, j2, j3⟩ | ⟨j1, j2, j3⟩
    · rcases d4 with ⟨k1, k2, k3⟩ | ⟨k1, k2, k3⟩
      · exact Or.inl ⟨by rw [k1, j1], by rw [k2, j2], by omega⟩
      · rw [j1] at k2
        exact Or.inr ⟨k1, by omega, by rw [k3]; omega⟩
    · rcases d4 with ⟨k1, k2, k3⟩ | ⟨k1, k2, k3⟩
      · exact Or.inr ⟨by rw [k2, j1], by rw [k1]; omega, by omega⟩
      · exact Or.inr ⟨k1, by omega, by rw [k3]; omega⟩
def MC (R : Nat → Int32) (et pr pace : Int32) : Nat → (Nat → Int32) → Nat
  | 0, _ => 0
  | n + 1, S => if RUN R et pace S 8 = 0 then MC R et pr pace n (FIN R et pr (RUN R et pace S)) + 1 else 0
theorem MC_le {R : Nat → Int32} {et pr pace : Int32} : ∀ (n : Nat) (S : Nat → Int32), MC R et pr pace n S ≤ n := by
  intro n
  induction n with
  | zero => intro S; exact Nat.le_refl 0
  | succ n ih =>
    intro S
    unfold MC
    split
    · have := ih (FIN R et pr (RUN R et pace S))
      omega
    · omega
theorem FIN_8 {R : Nat → Int32} {et pr : Int32} {S : Nat → Int32} : FIN R et pr S 8 = S 8 := by
  unfold FIN DROP
  rw [u_n (by omega), u_n (by omega)]
  have F : FIN1 R et S 8 = S 8 := by
    unfold FIN1
    rw [u_n (by omega), u_n (by omega), u_n (by omega)]
  unfold FIN2
  split
  · exact F
  · split
    · unfold NEXT NEXT1
      split
      · rw [u_n (by omega), u_n (by omega), u_n (by omega), u_n (by omega), F]
      · rw [u_n (by omega), u_n (by omega), u_n (by omega), F]
    · exact F

theorem VS_one {L M : Int} {R : Nat → Int32} {pr et pace : Int32} {S : Nat → Int32} (hR : VR R pr et) (hV : VS L 0 M R pr et S) (hL : 9999 ≤ L) (hL1 : L + 110000 ≤ 2000000000) (hM : M + 1 ≤ 2000000000) (hp : 0 ≤ pace.toInt) (hp2 : pace.toInt ≤ 9999) : VS L 9999 M R pr et (RUN R et pace S) ∧ VS (L + 110000) 0 (M + 1) R pr et (FIN R et pr (RUN R et pace S)) := by
  have e0 : (0 : Int32).toInt = 0 := rfl
  have h1 := VS_RUN (T1 := 9999) (m := pace) hR hV hL hp (by omega) (by omega)
  have h2 : VS (L + 110000) 9999 (M + 1) R pr et (FIN R et pr (RUN R et pace S)) := VS_FIN hR h1 (by omega) (by omega) (by omega) (by omega) (by omega)
  refine ⟨h1, VS_T h2 ?_ ?_⟩
  · rw [FIN_67.1, e0]; omega
  · rw [FIN_67.2, e0]; omega
theorem c_mvAt {N : Nat} {R : Nat → Int32} {et pr pace : Int32} (hN : 300 ≤ N) (hR : VR R pr et) (hp : 0 ≤ pace.toInt) (hp2 : pace.toInt ≤ 9999) : ∀ (n k fu lim : Nat) (a : Mem) (L M : Int), k + n = lim → lim ≤ 200 → n + 1 ≤ fu → rI a 9 = R → a 9 3 = et → a 9 1 = pr → VS L 0 M R pr et (sI a 18) → sI a 18 8 = 0 → 9999 ≤ L → L + 110000 * n ≤ 1900000000 → M + n ≤ 1900000000 → ∃ a', f_X7_movesAt_41 N 9 pace (nI lim) fu (nI k) a = some (nI (k + MC R et pr pace n (sI a 18)), a') ∧ ∀ q, q < 17 ∨ 20 ≤ q → a' q = a q := by
  intro n
  induction n with
  | zero =>
    intro k fu lim a L M hk hlim hf hRa hea hpa hV h8 hL hL2 hM
    obtain ⟨f, rfl⟩ : ∃ f, fu = f + 1 := ⟨fu - 1, by omega⟩
    have : k = lim := by omega
    subst this
    rw [f_X7_movesAt_41_s, if_pos (Int32.le_refl _)]
    exact ⟨a, rfl, fun _ _ => rfl⟩
  | succ n ih =>
    intro k fu lim a L M hk hlim hf hRa hea hpa hV h8 hL hL2 hM
    obtain ⟨f, rfl⟩ : ∃ f, fu = f + 1 := ⟨fu - 1, by omega⟩
    have hlt : ¬ nI lim ≤ nI k := fun h9 => by have := (nI_lei (by omega) (by omega)).1 h9; omega
    obtain ⟨v0, v2, v3, v4, -⟩ := id hV
    have h55 := VR_5 hR
    obtain ⟨a1, c1, c2, c3⟩ := @c_run N 18 R et pace a (by omega) (by omega) hR.2.2.1 hRa hea v0.1 v2.1 (by omega) v4.1 v4.2
    obtain ⟨w1, w2⟩ := VS_one (pace := pace) hR hV hL (by omega) (by omega) hp hp2
    rw [f_X7_movesAt_41_s, if_neg hlt, c1, b_P]
    have e8 : nb (a1 18 9) = RUN R et pace (sI a 18) 8 := by rw [← c2]; rfl
    rw [e8]
    unfold MC
    by_cases hz : RUN R et pace (sI a 18) 8 = 0
    · rw [if_pos hz, if_pos hz]
      have ea9 : a1 9 = a 9 := c3 9 (by omega) (by omega)
      have eR : rI a1 9 = R := by rw [rI_fr (c3 10 (by omega) (by omega)), hRa]
      obtain ⟨a2, f1, f2, f3⟩ := @c_fin a1 18 (by omega) (by rw [ea9, hpa]; exact ⟨hR.1, hR.2.1⟩) (by rw [c2]; exact w1.2.1.1) (by rw [c2]; have := w1.2.1.2; omega)
      rw [eR, ea9, hea, hpa, c2] at f2
      rw [f1, b_T2]
      simp only [b_T, nI_1]
      obtain ⟨a', i1, i2⟩ := ih (k + 1) f lim a2 (L + 110000) (M + 1) (by omega) hlim (by omega) (by rw [rI_fr (f3 10 (by omega)), eR]) (by rw [f3 9 (by omega), ea9, hea]) (by rw [f3 9 (by omega), ea9, hpa]) (by rw [f2]; exact w2) (by rw [f2, FIN_8, hz]) (by omega) (by omega) (by omega)
      rw [f2] at i1
      refine ⟨a', ?_, fun q hq => by rw [i2 q hq, f3 q (by omega), c3 q (by omega) (by omega)]⟩
      rw [i1, show k + 1 + MC R et pr pace n (FIN R et pr (RUN R et pace (sI a 18))) = k + (MC R et pr pace n (FIN R et pr (RUN R et pace (sI a 18))) + 1) by omega]
    · rw [if_neg hz, if_neg hz]
      exact ⟨a1, rfl, fun q hq => c3 q (by omega) (by omega)⟩
def W5 (b : Mem) (S : Nat → Int32) : Prop := b 0 5 = S 0 ∧ b 0 6 = S 2 ∧ b 0 7 = S 3 ∧ b 0 8 = S 4 ∧ nb (b 0 9) = S 5
def FR5 (b b1 : Mem) : Prop := (∀ k, k ≠ 0 → b1 k = b k) ∧ ∀ j, j < 5 ∨ 9 < j → b1 0 j = b 0 j
theorem FR5_t {b b1 b2 : Mem} (h : FR5 b b1) (h2 : FR5 b1 b2) : FR5 b b2 := ⟨fun k hk => (h2.1 k hk).trans (h.1 k hk), fun j hj => (h2.2 j hj).trans (h.2 j hj)⟩
theorem FR5_w {b : Mem} {j : Nat} {x : Int32} (hj : 5 ≤ j ∧ j ≤ 9) : FR5 b (up2 b 0 j x) := ⟨fun k hk => p2_n hk, fun j1 hj1 => by rw [p2_s, u_n (by omega)]⟩
theorem FR5_i {b : Mem} : FR5 b b := ⟨fun _ _ => rfl, fun _ _ => rfl⟩
theorem w_drain {N : Nat} {R : Nat → Int32} {et pr x4 : Int32} {L M : Int} (hR : VR R pr et) (hL : 9999 ≤ L) (hL2 : L ≤ 2000000000) : ∀ (n fu : Nat) (c : Int32) (b : Mem) (S : Nat → Int32), (S 4).toInt ≤ n → n + 1 ≤ fu → b 0 3 = 0 → rl (b 1) = R → b 1 4 = et → W5 b S → VS L 2147000000 M R pr et S → S 8 = 0 → 0 ≤ c.toInt → (S 7).toInt + c.toInt ≤ 2147000000 →
    (Dn R et c.toNatClampNeg S 8 ≠ 0 ∧ ∃ b', f_X9_walkOn_18 N x4 fu c b = some (0, b') ∧ FR5 b b') ∨ (Dn R et c.toNatClampNeg S 8 = 0 ∧ ∃ b', FR5 b b' ∧ W5 b' (Dn R et c.toNatClampNeg S) ∧ f_X9_walkOn_18 N x4 fu c b = bP (f_X9_ofPeriod N (b' 0 6) (4 : Int32) b') fun x12 => bT (mnI x4 x12) fun x14 => if (nb (b' 0 9)) = 0 then (bP (f_X9_ofPeriod N (b' 0 6) (2 : Int32) b') fun x36 => f_X9_walkOn_141 N b' (((b' 0 5) + x36) + x14)) else (f_X9_walkOn_141 N b' (b' (rowM (b' 0 3)) ((4 : Int32)).toNatClampNeg))) := by
  have e0 : (0 : Int32).toInt = 0 := rfl
  have e1 : (1 : Int32).toInt = 1 := rfl
  intro n
  induction n with
  | zero =>
    intro fu c b S hn hf h03 hRb heb hW hV h8 hc hc7
    obtain ⟨f, rfl⟩ : ∃ f, fu = f + 1 := ⟨fu - 1, by omega⟩
    obtain ⟨v0, v2, v3, v4, v5, v6, v7, v8, v9, vf, vx, ve, vd⟩ := id hV
    obtain ⟨W0, W2, W3, W4, W9⟩ := hW
    have h55 := VR_5 hR
    have hz : (S 0).toInt ≠ 0 := by
      intro h9
      have := vf.2 (z_eq.2 (h9.trans e0.symm))
      rw [h8] at this
      exact absurd this (by decide)
    rw [f_X9_walkOn_18_s, W0]
    by_cases hlt : c < S 0
    · have hlt2 := z_lt.1 hlt
      have hD : Dn R et c.toNatClampNeg S = LOSE S c := by rw [Dn_lo (by rw [z_tn]; omega), z_of hc]
      rw [if_pos hlt, hD]
      refine Or.inr ⟨by rw [LOSE_lo (by omega) (by omega) (by omega)]; exact h8, up2 b 0 5 (S 0 - c), FR5_w (by omega), ?_, rfl⟩
      refine ⟨by rw [p2_s, u_s, LOSE_0], by rw [p2_s, u_n (by omega), LOSE_lo (by omega) (by omega) (by omega)]; exact W2, by rw [p2_s, u_n (by omega), LOSE_lo (by omega) (by omega) (by omega)]; exact W3, by rw [p2_s, u_n (by omega), LOSE_lo (by omega) (by omega) (by omega)]; exact W4, by rw [p2_s, u_n (by omega), LOSE_lo (by omega) (by omega) (by omega)]; exact W9⟩
    · have hlt2 := z_nlt hlt
      have hcap : ¬ ((c.toNatClampNeg : Int) < capI R et S) := by
        unfold capI
        have h4z : (S 4).toInt = 0 := by omega
        rw [h4z, z_tn]
        split <;> omega
      have hfe := (@Dn_fell R et hR.2.2.1 c.toNatClampNeg S (by omega) h8 v4.1 ve)
      have hne : Dn R et c.toNatClampNeg S 8 ≠ 0 := fun h9 => hcap (hfe.1 h9)
      rw [if_neg hlt, W2, r_ofP h03 v2.1 (by omega) (by decide) (by decide), b_P, hRb, W4]
      refine Or.inl ⟨hne, b, ?_, FR5_i⟩
      by_cases hpos : 0 < rn R (S 2) (0 : Int32).toNatClampNeg
      · rw [if_pos hpos]
      · rw [if_neg hpos, if_pos (z_eq.2 (by rw [e0]; omega))]
  | succ n ih =>
    intro fu c b S hn hf h03 hRb heb hW hV h8 hc hc7
    obtain ⟨f, rfl⟩ : ∃ f, fu = f + 1 := ⟨fu - 1, by omega⟩
    obtain ⟨v0, v2, v3, v4, v5, v6, v7, v8, v9, vf, vx, ve, vd⟩ := id hV
    obtain ⟨W0, W2, W3, W4, W9⟩ := id hW
    have h55 := VR_5 hR
    have hz : (S 0).toInt ≠ 0 := by
      intro h9
      have := vf.2 (z_eq.2 (h9.trans e0.symm))
      rw [h8] at this
      exact absurd this (by decide)
    rw [f_X9_walkOn_18_s, W0]
    by_cases hlt : c < S 0
    · have hlt2 := z_lt.1 hlt
      have hD : Dn R et c.toNatClampNeg S = LOSE S c := by rw [Dn_lo (by rw [z_tn]; omega), z_of hc]
      rw [if_pos hlt, hD]
      refine Or.inr ⟨by rw [LOSE_lo (by omega) (by omega) (by omega)]; exact h8, up2 b 0 5 (S 0 - c), FR5_w (by omega), ?_, rfl⟩
      refine ⟨by rw [p2_s, u_s, LOSE_0], by rw [p2_s, u_n (by omega), LOSE_lo (by omega) (by omega) (by omega)]; exact W2, by rw [p2_s, u_n (by omega), LOSE_lo (by omega) (by omega) (by omega)]; exact W3, by rw [p2_s, u_n (by omega), LOSE_lo (by omega) (by omega) (by omega)]; exact W4, by rw [p2_s, u_n (by omega), LOSE_lo (by omega) (by omega) (by omega)]; exact W9⟩
    · have hlt2 := z_nlt hlt
      have hDs : Dn R et c.toNatClampNeg S = Dn R et (c - S 0).toNatClampNeg (OUT1 R et (LOSE S (S 0))) := by
        rw [← Dn_full (by omega), ← Dn_add]
        congr 1
        rw [z_tn, z_tn, z_tn, z_sub (by omega) (by omega)]
        omega
      rw [if_neg hlt, W2, r_ofP h03 v2.1 (by omega) (by decide) (by decide), b_P, hRb, W4]
      have l2 : LOSE S (S 0) 2 = S 2 := LOSE_lo (by omega) (by omega) (by omega)
      have l4 : LOSE S (S 0) 4 = S 4 := LOSE_lo (by omega) (by omega) (by omega)
      have hO : OUT1 R et (LOSE S (S 0)) = if rn R (S 2) 0 = 0 ∧ 0 < S 4 then upd (upd (upd (LOSE S (S 0)) 4 (S 4 - 1)) 5 1) 0 et else upd (LOSE S (S 0)) 8 1 := by
        unfold OUT1
        rw [l2, l4]
      have hmv : 0 ≤ (rn R (S 2) 0).toInt := (hR.at v2.1 v2.2).1.1
      have e00 : (0 : Int32).toNatClampNeg = 0 := rfl
      rw [e00]
      by_cases hpos : 0 < rn R (S 2) 0
      · have hpos2 := z_lt.1 hpos
        rw [e0] at hpos2
        have hno : ¬ (rn R (S 2) 0 = 0 ∧ 0 < S 4) := fun h9 => by rw [h9.1, e0] at hpos2; omega
        rw [if_pos hpos]
        refine Or.inl ⟨?_, b, rfl, FR5_i⟩
        rw [hDs, hO, if_neg hno]
        refine Dn_8 ?_
        rw [u_s]
        decide
      · have hpos2 := z_nlt hpos
        rw [e0] at hpos2
        have hmz : rn R (S 2) 0 = 0 := z_eq.2 (by rw [e0]; omega)
        rw [if_neg hpos]
        by_cases hx : S 4 = 0
        · have hno : ¬ (rn R (S 2) 0 = 0 ∧ 0 < S 4) := fun h9 => by have := h9.2; rw [hx] at this; exact absurd this (by decide)
          rw [if_pos hx]
          refine Or.inl ⟨?_, b, rfl, FR5_i⟩
          rw [hDs, hO, if_neg hno]
          refine Dn_8 ?_
          rw [u_s]
          decide
        · have hx1 : 0 < (S 4).toInt := by
            have : (S 4).toInt ≠ 0 := fun h9 => hx (z_eq.2 (h9.trans e0.symm))
            omega
          have hyes : rn R (S 2) 0 = 0 ∧ 0 < S 4 := ⟨hmz, z_lt.2 (by rw [e0]; exact hx1)⟩
          rw [if_neg hx]
          simp only [b_T]
          have h48 : up2 b 0 8 (S 4 - 1) 0 3 = 0 := by rw [p2_s, u_n (by omega)]; exact h03
          have hb4 : up2 (up2 b 0 8 (S 4 - 1)) 0 9 1 (rowM (up2 (up2 b 0 8 (S 4 - 1)) 0 9 1 0 3)) (4 : Int32).toNatClampNeg = et := by
            have : up2 (up2 b 0 8 (S 4 - 1)) 0 9 1 0 3 = 0 := by rw [p2_s, u_n (by omega)]; exact h48
            rw [this]
            show up2 (up2 b 0 8 (S 4 - 1)) 0 9 1 1 4 = et
            rw [p2_n (by omega), p2_n (by omega)]
            exact heb
          rw [hb4]
          have hs4 : (S 4 - 1).toInt = (S 4).toInt - 1 := by rw [z_sub (by rw [e1]; omega) (by rw [e1]; omega), e1]
          have hcs : (c - S 0).toInt = c.toInt - (S 0).toInt := z_sub (by omega) (by omega)
          have hS' : OUT1 R et (LOSE S (S 0)) = upd (upd (upd (LOSE S (S 0)) 4 (S 4 - 1)) 5 1) 0 et := by rw [hO, if_pos hyes]
          have hfull := @Dn_full R et S (by omega)
          have hVS' : VS L 2147000000 M R pr et (OUT1 R et (LOSE S (S 0))) := by
            rw [← hfull]
            exact VS_Dn hR hV hL (by rw [z_tn]; omega) (by omega)
          rw [hDs]
          have h7 : OUT1 R et (LOSE S (S 0)) 7 = S 7 + S 0 := by
            rw [OUT1_lo (by omega) (by omega) (by omega) (by omega), LOSE_7]
          have o8 : OUT1 R et (LOSE S (S 0)) 8 = 0 := by
            rw [hS', u_n (by omega), u_n (by omega), u_n (by omega), LOSE_lo (by omega) (by omega) (by omega), h8]
          have o4 : OUT1 R et (LOSE S (S 0)) 4 = S 4 - 1 := by rw [hS', u_n (by omega), u_n (by omega), u_s]
          have o0 : OUT1 R et (LOSE S (S 0)) 0 = et := by rw [hS', u_s]
          have o5 : OUT1 R et (LOSE S (S 0)) 5 = 1 := by rw [hS', u_n (by omega), u_s]
          have o2 : OUT1 R et (LOSE S (S 0)) 2 = S 2 := by rw [OUT1_lo (by omega) (by omega) (by omega) (by omega), l2]
          have o3 : OUT1 R et (LOSE S (S 0)) 3 = S 3 := by rw [OUT1_lo (by omega) (by omega) (by omega) (by omega), LOSE_lo (by omega) (by omega) (by omega)]
          generalize OUT1 R et (LOSE S (S 0)) = S1 at hVS' h7 o8 o4 o0 o5 o2 o3 ⊢
          have fr : FR5 b (up2 (up2 (up2 b 0 8 (S 4 - 1)) 0 9 1) 0 5 et) := FR5_t (FR5_t (FR5_w (by omega)) (FR5_w (by omega))) (FR5_w (by omega))
          have hW' : W5 (up2 (up2 (up2 b 0 8 (S 4 - 1)) 0 9 1) 0 5 et) S1 := by
            refine ⟨by rw [p2_s, u_s, o0], by rw [p2_s, u_n (by omega), p2_s, u_n (by omega), p2_s, u_n (by omega), o2]; exact W2, by rw [p2_s, u_n (by omega), p2_s, u_n (by omega), p2_s, u_n (by omega), o3]; exact W3, by rw [p2_s, u_n (by omega), p2_s, u_n (by omega), p2_s, u_s, o4], by rw [p2_s, u_n (by omega), p2_s, u_s, o5]; rfl⟩
          generalize up2 (up2 (up2 b 0 8 (S 4 - 1)) 0 9 1) 0 5 et = b3 at fr hW' ⊢
          rcases ih f (c - S 0) b3 S1 (by rw [o4, hs4]; omega) (by omega) (by rw [fr.2 3 (by omega)]; exact h03) (by rw [fr.1 1 (by omega)]; exact hRb) (by rw [fr.1 1 (by omega)]; exact heb) hW' hVS' o8 (by omega) (by rw [h7, z_add (by omega) (by omega)]; omega) with ⟨r1, b', r2, r3⟩ | ⟨r1, b', r2, r3, r4⟩
          · exact Or.inl ⟨r1, b', r2, FR5_t fr r3⟩
          · exact Or.inr ⟨r1, b', FR5_t fr r2, r3, r4⟩

