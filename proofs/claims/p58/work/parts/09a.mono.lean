def GE (R : Nat → Int32) (et : Int32) (S X : Nat → Int32) : Prop := S 2 = X 2 ∧ S 3 = X 3 ∧ capI R et X ≤ capI R et S ∧ (S 5 = 1 → X 5 = 1) ∧ (S 5 = 0 → X 5 = 0 → S 4 = X 4) ∧ (S 5 = 0 → X 5 = 1 → (X 4).toInt + 1 ≤ (S 4).toInt ∧ (X 0).toInt ≤ et.toInt) ∧ (X 4).toInt ≤ (S 4).toInt
theorem run_facts {L M : Int} {R : Nat → Int32} {et pr pace : Int32} {S : Nat → Int32} (hR : VR R pr et) (hV : VS L 0 M R pr et S) (hL : 9999 ≤ L) (hL2 : L ≤ 2000000000) (hp : 0 ≤ pace.toInt) (hp2 : pace.toInt ≤ 9999) (h8 : S 8 = 0) : (RUN R et pace S 8 = 0 ↔ max 0 (pace.toInt - (rn R (S 2) 3).toInt) < capI R et S) ∧ (RUN R et pace S 8 = 0 → capI R et (RUN R et pace S) = capI R et S - max 0 (pace.toInt - (rn R (S 2) 3).toInt) ∧ (RUN R et pace S 7).toInt = max 0 (pace.toInt - (rn R (S 2) 3).toInt) ∧ ((RUN R et pace S 4 = S 4 ∧ RUN R et pace S 5 = S 5) ∨ (RUN R et pace S 5 = 1 ∧ (RUN R et pace S 4).toInt + 1 ≤ (S 4).toInt ∧ (RUN R et pace S 0).toInt ≤ et.toInt))) := by
  have e0 : (0 : Int32).toInt = 0 := rfl
  obtain ⟨v0, v2, v3, v4, v5, v6, v7, v8, v9, vf, vx, ve, vd⟩ := id hV
  have hper := hR.at v2.1 v2.2
  have hf := FREE_t hper.2.2.2.1.1 v6.1
  have hc : (mxI 0 (pace - FREE R S)).toInt = max 0 (pace.toInt - (rn R (S 2) 3).toInt) := by
    rw [z_mx, z_sub (by omega) (by omega), e0]
    omega
  have hz : (S 0).toInt ≠ 0 := by
    intro h9
    have := vf.2 (z_eq.2 (h9.trans e0.symm))
    rw [h8] at this
    exact absurd this (by decide)
  have hcn : ((mxI 0 (pace - FREE R S)).toNatClampNeg : Int) = max 0 (pace.toInt - (rn R (S 2) 3).toInt) := by rw [z_tn, hc]; omega
  have hfe := @Dn_fell R et hR.2.2.1 (mxI 0 (pace - FREE R S)).toNatClampNeg S (by omega) h8 v4.1 ve
  have T : ∀ j, j ≠ 6 → j ≠ 10 → RUN R et pace S j = Dn R et (mxI 0 (pace - FREE R S)).toNatClampNeg S j := fun j z6 z10 => by rw [RUN_THK, THK_n z6 z10]
  have hcap : capI R et (RUN R et pace S) = capI R et (Dn R et (mxI 0 (pace - FREE R S)).toNatClampNeg S) := by
    unfold capI
    rw [T 0 (by omega) (by omega), T 2 (by omega) (by omega), T 4 (by omega) (by omega)]
  rw [T 8 (by omega) (by omega), hcap, T 7 (by omega) (by omega), T 4 (by omega) (by omega), T 5 (by omega) (by omega), T 0 (by omega) (by omega), ← hcn]
  generalize (mxI 0 (pace - FREE R S)).toNatClampNeg = c at hcn hfe ⊢
  refine ⟨hfe, fun hd => ?_⟩
  obtain ⟨d1, d2, d3, d4⟩ := Dn_cap hR (VS_T hV (by omega) (by omega)) hL h8 c (by omega) hd
  have h7z : S 7 = 0 := z_eq.2 (by rw [e0]; omega)
  refine ⟨d2, by rw [d3, h7z, Int32.zero_add, z_nI (by omega)], ?_⟩
  rcases d4 with ⟨j1, j2, -⟩ | ⟨j1, j2, j3⟩
  · exact Or.inl ⟨j1, j2⟩
  · exact Or.inr ⟨j1, j2, j3⟩
theorem FIN_vals {L T M : Int} {R : Nat → Int32} {et pr : Int32} {S : Nat → Int32} (hR : VR R pr et) (hV : VS L T M R pr et S) (hL : L ≤ 1900000000) (hM : M ≤ 1900000000) (h8 : S 8 = 0) : FIN R et pr S 4 = S 4 ∧ FIN R et pr S 5 = S 5 ∧ (((rn R (S 2) 0 = 0 ∨ rn R (S 2) 0 ≠ S 3 + 1) ∧ FIN R et pr S 2 = S 2 ∧ FIN R et pr S 3 = S 3 + 1 ∧ (FIN R et pr S 0).toInt = (S 0).toInt + (GAIN R et S).toInt) ∨ ((rn R (S 2) 0 ≠ 0 ∧ rn R (S 2) 0 = S 3 + 1) ∧ FIN R et pr S 2 = mnI (S 2 + 1) (pr - 1) ∧ FIN R et pr S 3 = 0 ∧ (FIN R et pr S 0).toInt = (S 0).toInt + (GAIN R et S).toInt + (rn R (mnI (S 2 + 1) (pr - 1)) 1).toInt)) := by
  have e0 : (0 : Int32).toInt = 0 := rfl
  have e1 : (1 : Int32).toInt = 1 := rfl
  obtain ⟨ga, gb, gc, gd, ge⟩ := GAIN_b hR hV (by omega)
  obtain ⟨v0, v2, v3, v4, v5, v6, v7, v8, v9, vf, vx, ve, vd⟩ := id hV
  obtain ⟨r1, r2, r3, r4, -⟩ := id hR
  have hg0 : (S 0 + GAIN R et S).toInt = (S 0).toInt + (GAIN R et S).toInt := z_add (by omega) (by omega)
  have F : ∀ j, j ≠ 0 → j ≠ 1 → j ≠ 3 → FIN1 R et S j = S j := fun j z0 z1 z3 => by
    unfold FIN1
    rw [u_n z3, u_n z1, u_n z0]
  have F0 : FIN1 R et S 0 = S 0 + GAIN R et S := by unfold FIN1; rw [u_n (by omega), u_n (by omega), u_s]
  have F3 : FIN1 R et S 3 = S 3 + 1 := by unfold FIN1; rw [u_s]
  have D : ∀ (X : Nat → Int32) j, j ≠ 6 → j ≠ 7 → DROP X j = X j := fun X j z6 z7 => by
    unfold DROP
    rw [u_n z7, u_n z6]
  unfold FIN
  rw [D _ 4 (by omega) (by omega), D _ 5 (by omega) (by omega), D _ 2 (by omega) (by omega), D _ 3 (by omega) (by omega), D _ 0 (by omega) (by omega)]
  unfold FIN2
  rw [F 2 (by omega) (by omega) (by omega), F3]
  by_cases hr : rn R (S 2) 0 = 0
  · rw [if_pos hr, F 4 (by omega) (by omega) (by omega), F 5 (by omega) (by omega) (by omega), F 2 (by omega) (by omega) (by omega), F3, F0]
    exact ⟨rfl, rfl, Or.inl ⟨Or.inl hr, rfl, rfl, hg0⟩⟩
  · rw [if_neg hr]
    by_cases hd : rn R (S 2) 0 = S 3 + 1
    · rw [if_pos hd]
      have hm : (mnI (S 2 + 1) (pr - 1)).toInt = min ((S 2).toInt + 1) (pr.toInt - 1) := by
        rw [z_mn, z_add (by rw [e1]; omega) (by rw [e1]; omega), z_sub (by rw [e1]; omega) (by rw [e1]; omega), e1]
      have hper2 := hR.at (p := mnI (S 2 + 1) (pr - 1)) (by rw [hm]; omega) (by rw [hm]; omega)
      have hadd : (S 0 + GAIN R et S + rn R (mnI (S 2 + 1) (pr - 1)) 1).toInt = (S 0).toInt + (GAIN R et S).toInt + (rn R (mnI (S 2 + 1) (pr - 1)) 1).toInt := by rw [z_add (by rw [hg0]; omega) (by rw [hg0]; omega), hg0]
      have hN : NEXT R pr (FIN1 R et S) = upd (NEXT1 pr (FIN1 R et S)) 0 (S 0 + GAIN R et S + rn R (mnI (S 2 + 1) (pr - 1)) 1) := by
        unfold NEXT
        rw [F 8 (by omega) (by omega) (by omega), if_pos h8, F0, F 2 (by omega) (by omega) (by omega)]
      have N1 : ∀ j, j ≠ 2 → j ≠ 3 → j ≠ 11 → NEXT1 pr (FIN1 R et S) j = FIN1 R et S j := fun j z2 z3 z11 => by
        unfold NEXT1
        rw [u_n z3, u_n z2, u_n z11]
      rw [hN, u_n (by omega), u_n (by omega), u_n (by omega), u_n (by omega), u_s, N1 4 (by omega) (by omega) (by omega), N1 5 (by omega) (by omega) (by omega), F 4 (by omega) (by omega) (by omega), F 5 (by omega) (by omega) (by omega)]
      refine ⟨rfl, rfl, Or.inr ⟨⟨hr, hd⟩, ?_, ?_, hadd⟩⟩
      · unfold NEXT1
        rw [u_n (by omega), u_s, F 2 (by omega) (by omega) (by omega)]
      · unfold NEXT1
        rw [u_s]
    · rw [if_neg hd, F 4 (by omega) (by omega) (by omega), F 5 (by omega) (by omega) (by omega), F 2 (by omega) (by omega) (by omega), F3, F0]
      exact ⟨rfl, rfl, Or.inl ⟨Or.inr hd, rfl, rfl, hg0⟩⟩
theorem GE_step {L M : Int} {R : Nat → Int32} {et pr p q : Int32} {S X : Nat → Int32} (hR : VR R pr et) (hVS : VS L 0 M R pr et S) (hVX : VS L 0 M R pr et X) (hL : 9999 ≤ L) (hL2 : L ≤ 1800000000) (hM : M ≤ 1800000000) (hp : 0 ≤ p.toInt) (hpq : p.toInt ≤ q.toInt) (hq : q.toInt ≤ 9999) (h8S : S 8 = 0) (h8X : X 8 = 0) (hG : GE R et S X) (hx : RUN R et q X 8 = 0) : RUN R et p S 8 = 0 ∧ GE R et (FIN R et pr (RUN R et p S)) (FIN R et pr (RUN R et q X)) := by
  have e0 : (0 : Int32).toInt = 0 := rfl
  have e1 : (1 : Int32).toInt = 1 := rfl
  obtain ⟨g2, g3, gc, g5, g4, g4x, gle⟩ := hG
  obtain ⟨x1, x2⟩ := run_facts (pace := q) hR hVX hL (by omega) (by omega) hq h8X
  obtain ⟨s1, s2⟩ := run_facts (pace := p) hR hVS hL (by omega) hp (by omega) h8S
  rw [← g2] at x1 x2
  have hs : RUN R et p S 8 = 0 := by
    rw [s1]
    have := x1.1 hx
    omega
  refine ⟨hs, ?_⟩
  obtain ⟨sc, s7, sd⟩ := s2 hs
  obtain ⟨xc, x7, xd⟩ := x2 hx
  have wS := (VS_one (pace := p) hR hVS hL (by omega) (by omega) hp (by omega)).1
  have wX := (VS_one (pace := q) hR hVX hL (by omega) (by omega) (by omega) hq).1
  have rS : ∀ j, j < 12 → j ≠ 0 → j ≠ 4 → j ≠ 5 → j ≠ 7 → j ≠ 8 → j ≠ 6 → j ≠ 10 → RUN R et p S j = S j := fun j h h0 h4 h5 h7 h8 h6 h10 => RUN_n h h0 h4 h5 h7 h8 h6 h10
  have rX : ∀ j, j < 12 → j ≠ 0 → j ≠ 4 → j ≠ 5 → j ≠ 7 → j ≠ 8 → j ≠ 6 → j ≠ 10 → RUN R et q X j = X j := fun j h h0 h4 h5 h7 h8 h6 h10 => RUN_n h h0 h4 h5 h7 h8 h6 h10
  have rS2 := rS 2 (by omega) (by omega) (by omega) (by omega) (by omega) (by omega) (by omega) (by omega)
  have rS3 := rS 3 (by omega) (by omega) (by omega) (by omega) (by omega) (by omega) (by omega) (by omega)
  have rX2 := rX 2 (by omega) (by omega) (by omega) (by omega) (by omega) (by omega) (by omega) (by omega)
  have rX3 := rX 3 (by omega) (by omega) (by omega) (by omega) (by omega) (by omega) (by omega) (by omega)
  generalize RUN R et p S = S1 at hs sc s7 sd wS rS2 rS3 ⊢
  generalize RUN R et q X = X1 at hx xc x7 xd wX rX2 rX3 ⊢
  clear rS rX s1 s2 x1 x2
  obtain ⟨fS4, fS5, fS⟩ := FIN_vals hR wS (by omega) (by omega) hs
  obtain ⟨fX4, fX5, fX⟩ := FIN_vals hR wX (by omega) (by omega) hx
  obtain ⟨-, gSb, gSc, -, -⟩ := GAIN_b hR wS (by omega)
  obtain ⟨-, gXb, gXc, -, -⟩ := GAIN_b hR wX (by omega)
  obtain ⟨a0, a2, a3, a4, a5, a6, a7, a8, a9, af, ax, ae, ad'⟩ := id wS
  obtain ⟨c0, c2, c3, c4, c5, c6, c7, c8, c9, cf, cx, ce, cd'⟩ := id wX
  obtain ⟨r1, r2, r3, r4, -⟩ := id hR
  have hpos : ∀ Y : Nat → Int32, Y 8 = 0 → (Y 8 = 1 ↔ Y 0 = 0) → 0 ≤ (Y 0).toInt → 1 ≤ (Y 0).toInt := by
    intro Y y8 yf y0
    have : (Y 0).toInt ≠ 0 := by
      intro h9
      have := yf.2 (z_eq.2 (h9.trans e0.symm))
      rw [y8] at this
      exact absurd this (by decide)
    omega
  have pS := hpos S1 hs af a0.1
  have pX := hpos X1 hx cf c0.1
  have hper := hR.at a2.1 a2.2
  rw [rS2] at hper
  have gainS0 : S1 5 = 0 → (GAIN R et S1).toInt = (rn R (S 2) 2).toInt + min (S1 7).toInt (rn R (S 2) 4).toInt := by
    intro h5
    unfold GAIN
    rw [if_pos hs, if_pos h5, rS2, z_add (by rw [z_mn]; omega) (by rw [z_mn]; omega), z_mn]
  have gainX0 : X1 5 = 0 → (GAIN R et X1).toInt = (rn R (S 2) 2).toInt + min (X1 7).toInt (rn R (S 2) 4).toInt := by
    intro h5
    unfold GAIN
    rw [if_pos hx, if_pos h5, rX2, ← g2, z_add (by rw [z_mn]; omega) (by rw [z_mn]; omega), z_mn]
  have capS1 : capI R et S1 = (S1 0).toInt + (if rn R (S 2) 0 = 0 then (S1 4).toInt * et.toInt else 0) := by unfold capI; rw [rS2]
  have capX1 : capI R et X1 = (X1 0).toInt + (if rn R (S 2) 0 = 0 then (X1 4).toInt * et.toInt else 0) := by unfold capI; rw [rX2, ← g2]
  have hS5 : S 5 = 0 ∨ S 5 = 1 := hVS.2.2.2.2.1
  have hX5 : X 5 = 0 ∨ X 5 = 1 := hVX.2.2.2.2.1
  have n01 : ¬ ((0 : Int32) = 1) := by decide
  have ns : S1 5 = 1 → X1 5 = 1 := by
    intro h51
    apply Classical.byContradiction
    intro hn
    have hx50 : X1 5 = 0 := by
      rcases c5 with h | h
      · exact h
      · exact absurd h hn
    rcases xd with ⟨y1, y2⟩ | ⟨y1, y2, y3⟩
    · rw [y2] at hx50
      have hs50 : S 5 = 0 := by
        rcases hS5 with h | h
        · exact h
        · rw [g5 h] at hx50
          exact absurd hx50 (by decide)
      have h44 := g4 hs50 hx50
      rcases sd with ⟨z1, z2⟩ | ⟨z1, z2, z3⟩
      · rw [z2, hs50] at h51
        exact n01 h51
      · have hrn := (ax h51).1
        rw [rS2] at hrn
        rw [if_pos hrn] at capS1 capX1
        have hm : ((S1 4).toInt + 1) * et.toInt ≤ (S 4).toInt * et.toInt := Int.mul_le_mul_of_nonneg_right z2 r3
        rw [Int.add_mul, Int.one_mul] at hm
        rw [y1, ← h44] at capX1
        omega
    · rw [y1] at hx50
      exact absurd hx50 (by decide)
  have n4 : S1 5 = 0 → X1 5 = 0 → S1 4 = X1 4 := by
    intro h1 h2
    rcases sd with ⟨z1, z2⟩ | ⟨z1, z2, z3⟩
    · rcases xd with ⟨y1, y2⟩ | ⟨y1, y2, y3⟩
      · rw [z1, y1]
        exact g4 (by rw [← z2]; exact h1) (by rw [← y2]; exact h2)
      · rw [y1] at h2
        exact absurd h2 (by decide)
    · rw [z1] at h1
      exact absurd h1 (by decide)
  have n4x : S1 5 = 0 → X1 5 = 1 → (X1 4).toInt + 1 ≤ (S1 4).toInt := by
    intro h1 h2
    rcases sd with ⟨z1, z2⟩ | ⟨z1, z2, z3⟩
    · have hs50 : S 5 = 0 := by rw [← z2]; exact h1
      rw [z1]
      rcases xd with ⟨y1, y2⟩ | ⟨y1, y2, y3⟩
      · rw [y1]
        exact (g4x hs50 (by rw [← y2]; exact h2)).1
      · rcases hX5 with h | h
        · have := g4 hs50 h
          rw [this]
          exact y2
        · have := (g4x hs50 h).1
          omega
    · rw [z1] at h1
      exact absurd h1 (by decide)
  have nle : (X1 4).toInt ≤ (S1 4).toInt := by
    have xle : (X1 4).toInt ≤ (X 4).toInt := by
      rcases xd with ⟨y1, y2⟩ | ⟨y1, y2, y3⟩
      · rw [y1]; omega
      · omega
    rcases sd with ⟨z1, z2⟩ | ⟨z1, z2, z3⟩
    · rw [z1]; omega
    · have hrn := (ax z1).1
      rw [rS2] at hrn
      rw [if_pos hrn] at capS1 capX1
      apply Classical.byContradiction
      intro hn
      have hlt : (S1 4).toInt + 1 ≤ (X1 4).toInt := by omega
      have hm : ((S1 4).toInt + 1) * et.toInt ≤ (X1 4).toInt * et.toInt := Int.mul_le_mul_of_nonneg_right hlt r3
      rw [Int.add_mul, Int.one_mul] at hm
      omega
  have mle : (X1 4).toInt * et.toInt ≤ (S1 4).toInt * et.toInt := Int.mul_le_mul_of_nonneg_right nle r3
  have mx : S1 5 = 0 → X1 5 = 1 → (X1 4).toInt * et.toInt + et.toInt ≤ (S1 4).toInt * et.toInt := by
    intro h1 h2
    have hm : ((X1 4).toInt + 1) * et.toInt ≤ (S1 4).toInt * et.toInt := Int.mul_le_mul_of_nonneg_right (n4x h1 h2) r3
    rw [Int.add_mul, Int.one_mul] at hm
    exact hm
  have c44 : S1 5 = 0 → X1 5 = 0 → (S1 4).toInt * et.toInt = (X1 4).toInt * et.toInt := fun h1 h2 => by rw [n4 h1 h2]
  unfold GE capI
  rw [fS4, fS5, fX4, fX5]
  rw [rS2, rS3] at fS
  rw [rX2, rX3, ← g2, ← g3] at fX
  have leX0 : S1 5 = 0 → X1 5 = 1 → ((S1 0).toInt + (GAIN R et S1).toInt) ≥ 1 := by
    intro h1 _
    rw [gainS0 h1]
    omega
  rcases fS with ⟨bS, fS2, fS3, fS0⟩ | ⟨bS, fS2, fS3, fS0⟩
  · rcases fX with ⟨bX, fX2, fX3, fX0⟩ | ⟨bX, fX2, fX3, fX0⟩
    · rw [fS2, fS3, fX2, fX3, fS0, fX0]
      refine ⟨rfl, rfl, ?_, ns, n4, fun h1 h2 => ⟨n4x h1 h2, ?_⟩, nle⟩
      · by_cases hr : rn R (S 2) 0 = 0
        · rw [if_pos hr, if_pos hr]
          rw [if_pos hr] at capS1 capX1
          rcases a5 with hS | hS
          · rcases c5 with hX | hX
            · have := c44 hS hX
              rw [gainS0 hS, gainX0 hX, s7, x7]
              omega
            · have := mx hS hX
              have := leX0 hS hX
              rw [gXb hx hX]
              omega
          · have hX := ns hS
            rw [gSb hs hS, gXb hx hX]
            omega
        · rw [if_neg hr, if_neg hr]
          rw [if_neg hr] at capS1 capX1
          have hS : S1 5 = 0 := by
            rcases a5 with h | h
            · exact h
            · have := (ax h).1
              rw [rS2] at this
              exact absurd this hr
          have hX : X1 5 = 0 := by
            rcases c5 with h | h
            · exact h
            · have := (cx h).1
              rw [rX2, ← g2] at this
              exact absurd this hr
          rw [gainS0 hS, gainX0 hX, s7, x7]
          omega
      · rw [gXb hx h2]
        omega
    · rcases bS with h | h
      · exact absurd h bX.1
      · exact absurd bX.2 h
  · rcases fX with ⟨bX, fX2, fX3, fX0⟩ | ⟨bX, fX2, fX3, fX0⟩
    · rcases bX with h | h
      · exact absurd h bS.1
      · exact absurd bS.2 h
    · have hr := bS.1
      have hS : S1 5 = 0 := by
        rcases a5 with h | h
        · exact h
        · have := (ax h).1
          rw [rS2] at this
          exact absurd this hr
      have hX : X1 5 = 0 := by
        rcases c5 with h | h
        · exact h
        · have := (cx h).1
          rw [rX2, ← g2] at this
          exact absurd this hr
      rw [if_neg hr] at capS1 capX1
      rw [fS2, fS3, fX2, fX3, fS0, fX0, n4 hS hX]
      refine ⟨rfl, rfl, ?_, ns, fun _ _ => rfl, fun h1 h2 => ?_, by omega⟩
      · rw [gainS0 hS, gainX0 hX, s7, x7]
        split <;> omega
      · rw [hX] at h2
        exact absurd h2 n01
theorem MC_mono {R : Nat → Int32} {et pr p q : Int32} (hR : VR R pr et) (hp : 0 ≤ p.toInt) (hpq : p.toInt ≤ q.toInt) (hq : q.toInt ≤ 9999) : ∀ (n : Nat) (S X : Nat → Int32) (L M : Int), VS L 0 M R pr et S → VS L 0 M R pr et X → 9999 ≤ L → L + 110000 * n ≤ 1800000000 → M + n ≤ 1800000000 → S 8 = 0 → X 8 = 0 → GE R et S X → MC R et pr q n X = n → MC R et pr p n S = n := by
  intro n
  induction n with
  | zero => intro S X L M _ _ _ _ _ _ _ _ _; rfl
  | succ n ih =>
    intro S X L M hVS hVX hL hL2 hM h8S h8X hG hx
    unfold MC at hx ⊢
    by_cases hf : RUN R et q X 8 = 0
    · rw [if_pos hf] at hx
      obtain ⟨k1, k2⟩ := GE_step hR hVS hVX hL (by omega) (by omega) hp hpq hq h8S h8X hG hf
      rw [if_pos k1]
      have w1 := (VS_one (pace := p) hR hVS hL (by omega) (by omega) hp (by omega)).2
      have w2 := (VS_one (pace := q) hR hVX hL (by omega) (by omega) (by omega) hq).2
      rw [ih _ _ (L + 110000) (M + 1) w1 w2 (by omega) (by omega) (by omega) (by rw [FIN_8, k1]) (by rw [FIN_8, hf]) k2 (by omega)]
    · rw [if_neg hf] at hx
      omega

