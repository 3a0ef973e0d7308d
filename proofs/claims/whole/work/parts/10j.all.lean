set_option maxRecDepth 100000 in
set_option maxHeartbeats 4000000 in
theorem g_switch {t : Int} {N Ln : Nat} {xs : Nat → Int32} {i : Int32} {a b c : Mem} (hN : 200000 ≤ N) (h0 : 0 ≤ i.toInt) (h1 : i.toInt + 6 ≤ Ln) (hLn : Ln ≤ 3072) (ht0 : 0 ≤ t) (ht : t ≤ 512) (h : REL t a b) {k : Int32} : ∃ a' b' c', f_switch N Ln xs k i a b c = some (a', b', c') ∧ REL (t + 1) a' b' := by
  unfold f_switch
  by_cases z0 : k = (0 : Int32)
  · rw [if_pos z0]
    exact g_case_0 hN h0 h1 hLn ht0 ht h
  rw [if_neg z0]
  by_cases z1 : k = (1 : Int32)
  · rw [if_pos z1]
    exact g_case_1 hN h0 h1 hLn ht0 ht h
  rw [if_neg z1]
  by_cases z2 : k = (2 : Int32)
  · rw [if_pos z2]
    exact g_case_2 hN h0 h1 hLn ht0 ht h
  rw [if_neg z2]
  by_cases z3 : k = (3 : Int32)
  · rw [if_pos z3]
    exact g_case_3 hN h0 h1 hLn ht0 ht h
  rw [if_neg z3]
  by_cases z4 : k = (4 : Int32)
  · rw [if_pos z4]
    exact g_case_4 hN h0 h1 hLn ht0 ht h
  rw [if_neg z4]
  by_cases z5 : k = (5 : Int32)
  · rw [if_pos z5]
    exact g_case_5 hN h0 h1 hLn ht0 ht h
  rw [if_neg z5]
  by_cases z6 : k = (6 : Int32)
  · rw [if_pos z6]
    exact g_case_6 hN h0 h1 hLn ht0 ht h
  rw [if_neg z6]
  by_cases z7 : k = (7 : Int32)
  · rw [if_pos z7]
    exact g_case_7 hN h0 h1 hLn ht0 ht h
  rw [if_neg z7]
  by_cases z8 : k = (8 : Int32)
  · rw [if_pos z8]
    exact g_case_8 hN h0 h1 hLn ht0 ht h
  rw [if_neg z8]
  by_cases z9 : k = (9 : Int32)
  · rw [if_pos z9]
    exact g_case_9 hN h0 h1 hLn ht0 ht h
  rw [if_neg z9]
  by_cases z10 : k = (10 : Int32)
  · rw [if_pos z10]
    exact g_case_10 hN h0 h1 hLn ht0 ht h
  rw [if_neg z10]
  by_cases z11 : k = (11 : Int32)
  · rw [if_pos z11]
    exact g_case_11 hN h0 h1 hLn ht0 ht h
  rw [if_neg z11]
  by_cases z12 : k = (12 : Int32)
  · rw [if_pos z12]
    exact g_case_12 hN h0 h1 hLn ht0 ht h
  rw [if_neg z12]
  by_cases z13 : k = (13 : Int32)
  · rw [if_pos z13]
    exact g_case_13 hN h0 h1 hLn ht0 ht h
  rw [if_neg z13]
  by_cases z14 : k = (14 : Int32)
  · rw [if_pos z14]
    exact g_case_14 hN h0 h1 hLn ht0 ht h
  rw [if_neg z14]
  by_cases z15 : k = (15 : Int32)
  · rw [if_pos z15]
    exact g_case_15 hN h0 h1 hLn ht0 ht h
  rw [if_neg z15]
  by_cases z16 : k = (16 : Int32)
  · rw [if_pos z16]
    exact g_case_16 hN h0 h1 hLn ht0 ht h
  rw [if_neg z16]
  by_cases z17 : k = (17 : Int32)
  · rw [if_pos z17]
    exact g_case_17 hN h0 h1 hLn ht0 ht h
  rw [if_neg z17]
  by_cases z18 : k = (18 : Int32)
  · rw [if_pos z18]
    exact g_case_18 hN h0 h1 hLn ht0 ht h
  rw [if_neg z18]
  by_cases z19 : k = (19 : Int32)
  · rw [if_pos z19]
    exact g_case_19 hN h0 h1 hLn ht0 ht h
  rw [if_neg z19]
  by_cases z20 : k = (20 : Int32)
  · rw [if_pos z20]
    exact g_case_20 hN h0 h1 hLn ht0 ht h
  rw [if_neg z20]
  by_cases z21 : k = (21 : Int32)
  · rw [if_pos z21]
    exact g_case_21 hN h0 h1 hLn ht0 ht h
  rw [if_neg z21]
  by_cases z22 : k = (22 : Int32)
  · rw [if_pos z22]
    exact g_case_22 hN h0 h1 hLn ht0 ht h
  rw [if_neg z22]
  by_cases z23 : k = (23 : Int32)
  · rw [if_pos z23]
    exact g_case_23 hN h0 h1 hLn ht0 ht h
  rw [if_neg z23]
  by_cases z24 : k = (24 : Int32)
  · rw [if_pos z24]
    exact g_case_24 hN h0 h1 hLn ht0 ht h
  rw [if_neg z24]
  by_cases z25 : k = (25 : Int32)
  · rw [if_pos z25]
    exact g_case_25 hN h0 h1 hLn ht0 ht h
  rw [if_neg z25]
  by_cases z26 : k = (26 : Int32)
  · rw [if_pos z26]
    exact g_case_26 hN h0 h1 hLn ht0 ht h
  rw [if_neg z26]
  by_cases z27 : k = (27 : Int32)
  · rw [if_pos z27]
    exact g_case_27 hN h0 h1 hLn ht0 ht h
  rw [if_neg z27]
  by_cases z28 : k = (28 : Int32)
  · rw [if_pos z28]
    exact g_case_28 hN h0 h1 hLn ht0 ht h
  rw [if_neg z28]
  by_cases z29 : k = (29 : Int32)
  · rw [if_pos z29]
    exact g_case_29 hN h0 h1 hLn ht0 ht h
  rw [if_neg z29]
  by_cases z30 : k = (30 : Int32)
  · rw [if_pos z30]
    exact g_case_30 hN h0 h1 hLn ht0 ht h
  rw [if_neg z30]
  by_cases z31 : k = (31 : Int32)
  · rw [if_pos z31]
    exact g_case_31 hN h0 h1 hLn ht0 ht h
  rw [if_neg z31]
  by_cases z32 : k = (32 : Int32)
  · rw [if_pos z32]
    exact g_case_32 hN h0 h1 hLn ht0 ht h
  rw [if_neg z32]
  by_cases z33 : k = (33 : Int32)
  · rw [if_pos z33]
    exact g_case_33 hN h0 h1 hLn ht0 ht h
  rw [if_neg z33]
  by_cases z34 : k = (34 : Int32)
  · rw [if_pos z34]
    exact g_case_34 hN h0 h1 hLn ht0 ht h
  rw [if_neg z34]
  by_cases z35 : k = (35 : Int32)
  · rw [if_pos z35]
    exact g_case_35 hN h0 h1 hLn ht0 ht h
  rw [if_neg z35]
  by_cases z36 : k = (36 : Int32)
  · rw [if_pos z36]
    exact g_case_36 hN h0 h1 hLn ht0 ht h
  rw [if_neg z36]
  by_cases z37 : k = (37 : Int32)
  · rw [if_pos z37]
    exact g_case_37 hN h0 h1 hLn ht0 ht h
  rw [if_neg z37]
  by_cases z38 : k = (38 : Int32)
  · rw [if_pos z38]
    exact g_case_38 hN h0 h1 hLn ht0 ht h
  rw [if_neg z38]
  by_cases z39 : k = (39 : Int32)
  · rw [if_pos z39]
    exact g_case_39 hN h0 h1 hLn ht0 ht h
  rw [if_neg z39]
  by_cases z40 : k = (40 : Int32)
  · rw [if_pos z40]
    exact g_case_40 hN h0 h1 hLn ht0 ht h
  rw [if_neg z40]
  by_cases z41 : k = (41 : Int32)
  · rw [if_pos z41]
    exact g_case_41 hN h0 h1 hLn ht0 ht h
  rw [if_neg z41]
  by_cases z42 : k = (42 : Int32)
  · rw [if_pos z42]
    exact g_case_42 hN h0 h1 hLn ht0 ht h
  rw [if_neg z42]
  by_cases z43 : k = (43 : Int32)
  · rw [if_pos z43]
    exact g_case_43 hN h0 h1 hLn ht0 ht h
  rw [if_neg z43]
  by_cases z44 : k = (44 : Int32)
  · rw [if_pos z44]
    exact g_case_44 hN h0 h1 hLn ht0 ht h
  rw [if_neg z44]
  by_cases z45 : k = (45 : Int32)
  · rw [if_pos z45]
    exact g_case_45 hN h0 h1 hLn ht0 ht h
  rw [if_neg z45]
  by_cases z46 : k = (46 : Int32)
  · rw [if_pos z46]
    exact g_case_46 hN h0 h1 hLn ht0 ht h
  rw [if_neg z46]
  by_cases z47 : k = (47 : Int32)
  · rw [if_pos z47]
    exact g_case_47 hN h0 h1 hLn ht0 ht h
  rw [if_neg z47]
  by_cases z48 : k = (48 : Int32)
  · rw [if_pos z48]
    exact g_case_48 hN h0 h1 hLn ht0 ht h
  rw [if_neg z48]
  by_cases z49 : k = (49 : Int32)
  · rw [if_pos z49]
    exact g_case_49 hN h0 h1 hLn ht0 ht h
  rw [if_neg z49]
  by_cases z50 : k = (50 : Int32)
  · rw [if_pos z50]
    exact g_case_50 hN h0 h1 hLn ht0 ht h
  rw [if_neg z50]
  by_cases z51 : k = (51 : Int32)
  · rw [if_pos z51]
    exact g_case_51 hN h0 h1 hLn ht0 ht h
  rw [if_neg z51]
  by_cases z52 : k = (52 : Int32)
  · rw [if_pos z52]
    exact g_case_52 hN h0 h1 hLn ht0 ht h
  rw [if_neg z52]
  by_cases z53 : k = (53 : Int32)
  · rw [if_pos z53]
    exact g_case_53 hN h0 h1 hLn ht0 ht h
  rw [if_neg z53]
  by_cases z54 : k = (54 : Int32)
  · rw [if_pos z54]
    exact g_case_54 hN h0 h1 hLn ht0 ht h
  rw [if_neg z54]
  exact ⟨a, b, c, rfl, REL_mono h (by omega)⟩
theorem law_all {N Ln : Nat} {xs : Nat → Int32} (hN : 200000 ≤ N) (hLn : Ln ≤ 3072) : ∀ (fu k : Nat) (a b c : Mem), k + fu = 513 → k ≤ 512 → REL k a b → f_law N Ln xs fu (nI (6 * k)) a b c = some () := by
  have e6 : (6 : Int32).toInt = 6 := rfl
  intro fu
  induction fu with
  | zero =>
    intro k a b c h1 h2
    omega
  | succ fu ih =>
    intro k a b c h1 h2 h
    have eL : (nI Ln).toInt = Ln := z_nI (by omega)
    have e1 : (nI Ln - 6).toInt = (Ln : Int) - 6 := by rw [z_sub (by rw [eL, e6]; omega) (by rw [eL, e6]; omega), eL, e6]
    have ek : (nI (6 * k)).toInt = ((6 * k : Nat) : Int) := z_nI (by omega)
    rw [f_law_s]
    by_cases hlt : nI Ln - (6 : Int32) < nI (6 * k)
    · rw [if_pos hlt]
    · rw [if_neg hlt]
      have h3 := z_nlt hlt
      rw [e1, ek] at h3
      rw [z_cN (by omega) (by omega)]
      obtain ⟨a', b', c', e, r⟩ := @g_switch k N Ln xs (nI (6 * k)) a b c hN (by rw [ek]; omega) (by rw [ek]; omega) hLn (by omega) (by omega) h (xs (nI (6 * k)).toNatClampNeg &&& 63)
      rw [e, b_P3]
      have e7 : nI (6 * k) + 6 = nI (6 * (k + 1)) := by
        rw [z_eq, z_add (by rw [ek, e6]; omega) (by rw [ek, e6]; omega), ek, e6, z_nI (by omega)]
        omega
      rw [e7]
      refine ih (k + 1) a' b' c' (by omega) (by omega) ?_
      have e8 : ((k + 1 : Nat) : Int) = (k : Int) + 1 := by omega
      rw [e8]
      exact r
theorem r_layN {N : Nat} : ∀ (d x fu : Nat) (b : Mem), b 0 3 = 0 → x + d = 311 → d + 1 ≤ fu → ∃ b1, f_X9_layPlain_2 N fu (nI x) b = some b1 ∧ (∀ k, k ≠ 1 → b1 k = b k) ∧ ∀ j, j < 311 → b1 1 j = if j = 5 ∨ j = 9 ∨ j = 11 then -1 else if x ≤ j then 0 else b 1 j := by
  have r02 : ∀ (m : Mem) (f : Nat → Int32), upR m 1 f 0 = m 0 := fun m f => R_n (by omega)
  have rm1 : rowM 0 = 1 := rfl
  have k5 : (5 : Int32).toNatClampNeg = 5 := rfl
  have k9 : (9 : Int32).toNatClampNeg = 9 := rfl
  have k11 : (11 : Int32).toNatClampNeg = 11 := rfl
  have e311 : (311 : Int32).toInt = 311 := rfl
  intro d
  induction d with
  | zero =>
    intro x fu b h3 hx hf
    obtain ⟨f, rfl⟩ : ∃ f, fu = f + 1 := ⟨fu - 1, by omega⟩
    have hx2 : x = 311 := by omega
    subst hx2
    rw [f_X9_layPlain_2_s, if_pos (show (311 : Int32) ≤ nI 311 by decide)]
    simp only [b_T, r02, h3, rm1, R_s, R_R, k5, k9, k11]
    refine ⟨_, rfl, fun k z => R_n z, fun j hj => ?_⟩
    rw [R_s]
    unfold upd
    by_cases j11 : j = 11
    · rw [if_pos j11, if_pos (by omega)]
    · rw [if_neg j11]
      by_cases j9 : j = 9
      · rw [if_pos j9, if_pos (by omega)]
      · rw [if_neg j9]
        by_cases j5 : j = 5
        · rw [if_pos j5, if_pos (by omega)]
        · rw [if_neg j5, if_neg (by omega), if_neg (by omega)]
  | succ d ih =>
    intro x fu b h3 hx hf
    obtain ⟨f, rfl⟩ : ∃ f, fu = f + 1 := ⟨fu - 1, by omega⟩
    rw [f_X9_layPlain_2_s, if_neg (show ¬ (311 : Int32) ≤ nI x by rw [z_le, z_nI (by omega), e311]; omega), z_cN (by omega) (by omega)]
    simp only [b_T]
    rw [h3, rm1, nI_1, z_tN (by omega)]
    obtain ⟨b1, w1, w2, w3⟩ := ih (x + 1) f (upR b 1 (upd (b 1) x 0)) (by rw [r02]; exact h3) (by omega) (by omega)
    refine ⟨b1, w1, fun k z => by rw [w2 k z, R_n z], fun j hj => ?_⟩
    rw [w3 j hj, R_s]
    by_cases j1 : j = 5 ∨ j = 9 ∨ j = 11
    · rw [if_pos j1, if_pos j1]
    · rw [if_neg j1, if_neg j1]
      by_cases j2 : j = x
      · subst j2
        rw [if_neg (by omega), if_pos (by omega), u_s]
      · by_cases j3 : x ≤ j
        · rw [if_pos (by omega), if_pos j3]
        · rw [if_neg (by omega), if_neg j3, u_n j2]
def G9 : Nat → Int32 := fun j => if j = 2 then 1 else if j = 13 ∨ j = 37 ∨ j = 54 then 3000 else if j = 5 ∨ j = 9 ∨ j = 11 then -1 else 0
theorem st_A0 : StP a0 8 G9 := by
  refine ⟨Or.inl ⟨rfl, by decide⟩, ⟨rfl, rfl, rfl, rfl, rfl, rfl, rfl, rfl, rfl, rfl, rfl, ?_⟩, ?_, ?_, rfl, by decide, by decide, by decide, fun i w hi h2 hw => ?_⟩
  · funext i
    by_cases hi : i < 25
    · exact (by decide +kernel : ∀ i, i < 25 → rI a0 (8 + 1) i = rl G9 i) i hi
    · unfold rI rl
      rw [if_neg hi, if_neg hi]
  · funext i
    by_cases hi : i < 17
    · exact (by decide +kernel : ∀ i, i < 17 → sI a0 (sdr 8 (a0 8 2)) i = sl G9 37 i) i hi
    · unfold sI sl
      rw [if_neg hi, if_neg hi]
  · funext i
    by_cases hi : i < 17
    · exact (by decide +kernel : ∀ i, i < 17 → sI a0 (sdr 8 (a0 8 3)) i = sl G9 54 i) i hi
    · unfold sI sl
      rw [if_neg hi, if_neg hi]
  · have e8 : (G9 8).toInt = 0 := rfl
    omega
theorem sl_G9 : sl G9 37 = SZ 3000 0 ∧ sl G9 54 = SZ 3000 0 := ⟨sl_sz rfl rfl (by decide +kernel), sl_sz rfl rfl (by decide +kernel)⟩
theorem vl_G9 : VL 0 G9 := by
  have hR : VR (rl G9) (G9 2) (G9 4) := by
    refine ⟨by decide, by decide, by decide, by decide, fun p hp => ?_⟩
    have e1 : (G9 2).toInt = 1 := rfl
    have hp0 : p = 0 := by omega
    subst hp0
    decide +kernel
  have h9 : VS (120000 * (0 + 1)) (9999 * 0) 0 (rl G9) (G9 2) (G9 4) (SZ 3000 0) := VS_z hR (by decide) (by decide) (by decide) (by decide) (by decide) (by decide) (fun h => absurd h (by decide))
  unfold VL
  rw [sl_G9.1, sl_G9.2]
  refine ⟨Or.inl rfl, hR, h9, h9, ⟨by decide, by decide, by decide, by decide⟩, Or.inl rfl, fun _ => rfl, fun i hi h8 => ?_⟩
  have e8 : (G9 8).toInt = 0 := rfl
  omega
theorem rel_start {N : Nat} (hN : 312 ≤ N) : ∃ b', f_X9_ctor N bz = some b' ∧ REL 0 a0 b' := by
  have k2 : (2 : Int32).toNatClampNeg = 2 := rfl
  have k13 : (13 : Int32).toNatClampNeg = 13 := rfl
  have k0 : (0 : Int32).toNatClampNeg = 0 := rfl
  have rm0 : rowM 0 = 1 := rfl
  obtain ⟨b2, w1, w2, w3⟩ := @r_layN N 311 0 N bz rfl (by omega) (by omega)
  have w1' : f_X9_layPlain_2 N N 0 bz = some b2 := w1
  have b23 : b2 0 3 = 0 := by rw [w2 0 (by omega)]; rfl
  have r0 : ∀ (m : Mem) (f : Nat → Int32), upR m 1 f 0 = m 0 := fun m f => R_n (by omega)
  unfold f_X9_ctor f_X9_layPlain
  rw [w1', b_P]
  simp only [b_T, r0, b23, rm0, k2, k13, R_s, R_R]
  rw [r_put (by rw [r0]; exact b23) (Or.inl rfl) (by decide) (by decide), b_P, r_put (by rw [r0, r0]; exact b23) (Or.inr rfl) (by decide) (by decide), b_P, k0, R_s, R_R, R_R, R_s, oS_0, oS_1, ← setS_u (by omega), ← setS_u (by omega)]
  refine ⟨_, rfl, ?_⟩
  have hg : ∀ j, j < 311 → (upR b2 1 (upd (upd (upd (upd (b2 1) 2 1) 13 3000) (37 + 0) 3000) (54 + 0) 3000)) 1 j = G9 j := by
    intro j hj
    rw [R_s]
    unfold upd G9
    by_cases j54 : j = 54 + 0
    · rw [if_pos j54, if_neg (by omega), if_pos (by omega)]
    · rw [if_neg j54]
      by_cases j37 : j = 37 + 0
      · rw [if_pos j37, if_neg (by omega), if_pos (by omega)]
      · rw [if_neg j37]
        by_cases j13 : j = 13
        · rw [if_pos j13, if_neg (by omega), if_pos (by omega)]
        · rw [if_neg j13]
          by_cases j2 : j = 2
          · rw [if_pos j2, if_pos j2]
          · rw [if_neg j2, if_neg j2, if_neg (by omega), w3 j hj]
            by_cases z : j = 5 ∨ j = 9 ∨ j = 11
            · rw [if_pos z, if_pos z]
            · rw [if_neg z, if_neg z, if_pos (Nat.zero_le j)]
  have hk : ∀ k, k ≠ 1 → (upR b2 1 (upd (upd (upd (upd (b2 1) 2 1) 13 3000) (37 + 0) 3000) (54 + 0) 3000)) k = bz k := fun k z => by rw [R_n z, w2 k z]
  generalize upR b2 1 (upd (upd (upd (upd (b2 1) 2 1) 13 3000) (37 + 0) 3000) (54 + 0) 3000) = b' at hg hk ⊢
  refine ⟨by rw [hk 0 (by omega)]; rfl, StP_g hg st_A0, VL_g hg vl_G9, ⟨0, 0, by omega, by omega, rfl, rfl, by rw [hk 0 (by omega)]; rfl, fun j hj => ?_, fun j hj => absurd hj (by omega)⟩, fun i hi => ⟨?_, ?_, fun h9 => ?_⟩, ⟨0, by omega, rfl, by rw [hk 0 (by omega)]; rfl, fun j hj => absurd hj (by omega)⟩, ⟨by rw [hk 0 (by omega)]; rfl, by rw [hk 0 (by omega)]; rfl⟩, ⟨0, by omega, rfl, by rw [hk 0 (by omega)]; rfl, fun j hj => absurd hj (by omega)⟩⟩
  · exact Or.inl ((by decide +kernel : ∀ j, j < 6 → a0 (pastR j) 2 = 0 ∧ a0 (pastR j) 3 ≠ 0) j hj)
  · exact Or.inl ((by decide +kernel : ∀ j, j < 2 → a0 (slotR j) 2 = 0 ∧ a0 (slotR j) 3 ≠ 0) i hi)
  · rw [hk 6 (by omega)]
    exact (by decide +kernel : ∀ j, j < 2 → nb (a0 (slotR j) 11) = bz 6 j) i hi
  · rw [hk 6 (by omega)] at h9
    exact absurd ((by decide +kernel : ∀ j, j < 2 → bz 6 j = 0) i hi) h9
