theorem MV_lo {g S : Nat → Int32} {s : Int32} {j : Nat} (h : j < 37) (h1 : j ≠ 1) (h8 : j ≠ 8) : MV g S s j = g j := by
  unfold MV
  rw [setS_lo h, u_n h1, LOGX_lo (by omega) h8]
theorem MV_1 {g S : Nat → Int32} {s : Int32} : MV g S s 1 = 1 - s := by
  unfold MV
  rw [setS_lo (by omega), u_s]
theorem MV_rl {g S : Nat → Int32} {s : Int32} : rl (MV g S s) = rl g := by
  unfold MV
  rw [setS_rl, rl_lo (by omega), LOGX_rl]
theorem MV_s {g S : Nat → Int32} {s : Int32} (h : ∀ i, 17 ≤ i → S i = 0) : sl (MV g S s) (oS s) = FIN (rl g) (g 4) (g 2) S := by
  unfold MV
  exact setS_sl (FIN_top h)
theorem MV_o {g S : Nat → Int32} {s : Int32} (hs : s = 0 ∨ s = 1) : sl (MV g S s) (oS (1 - s)) = sl g (oS (1 - s)) := by
  have := @oS_ge (1 - s)
  have := @oS_le (1 - s)
  unfold MV
  rw [setS_o (oS_oth hs), sl_u2 (by omega), LOGX_sl (by omega) (by omega)]
theorem VS_T {L T T1 M : Int} {R : Nat → Int32} {pr et : Int32} {S : Nat → Int32} (h : VS L T M R pr et S) (h6 : (S 6).toInt ≤ T1) (h7 : (S 7).toInt ≤ T1) : VS L T1 M R pr et S := by
  obtain ⟨v0, v2, v3, v4, v5, v6, v7, v8, v9, vf, vx, ve, vd⟩ := h
  exact ⟨v0, v2, v3, v4, v5, ⟨v6.1, h6⟩, ⟨v7.1, h7⟩, v8, v9, vf, vx, ve, vd⟩
theorem FIN_67 {R : Nat → Int32} {et pr : Int32} {S : Nat → Int32} : FIN R et pr S 6 = 0 ∧ FIN R et pr S 7 = 0 := by
  unfold FIN DROP
  exact ⟨by rw [u_n (by omega), u_s], by rw [u_s]⟩
theorem FIN_9 {R : Nat → Int32} {et pr : Int32} {S : Nat → Int32} : FIN R et pr S 9 = S 9 := by
  unfold FIN DROP
  rw [u_n (by omega), u_n (by omega)]
  have F : FIN1 R et S 9 = S 9 := by
    unfold FIN1
    rw [u_n (by omega), u_n (by omega), u_n (by omega)]
  unfold FIN2
  split
  · exact F
  · split
    · unfold NEXT NEXT1
      split
      · rw [u_n (by omega), u_n (by omega), u_n (by omega), u_n (by omega), F]
      · rw [u_n (by omega), u_n (by omega), u_n (by omega), F]
    · exact F
theorem RUN_top {R : Nat → Int32} {et m : Int32} {S : Nat → Int32} (hs : sp S < 17) (h : ∀ i, 17 ≤ i → S i = 0) : ∀ i, 17 ≤ i → RUN R et m S i = 0 := by
  intro i hi
  rw [RUN_THK, THK_n (by omega) (by omega)]
  exact Dn_top hs h i hi
def tr (s : Int32) : Nat := if s = 0 then 18 else 20
theorem tr_or {s : Int32} : tr s = 18 ∨ tr s = 20 := by unfold tr; split <;> omega
theorem tr_ne {s : Int32} (hs : s = 0 ∨ s = 1) : tr (1 - s) ≠ tr s ∧ tr (1 - s) ≠ tr s + 1 ∧ tr (1 - s) + 1 ≠ tr s ∧ tr (1 - s) + 1 ≠ tr s + 1 := by
  rcases hs with rfl | rfl <;> decide
def PRR (a0 b0 : Mem) (k : Nat) (lf : Int32) (a b : Mem) : Prop := (∀ q, q < 17 ∨ 22 ≤ q → a q = a0 q) ∧ (∀ q, q ≠ 0 → q ≠ 1 → b q = b0 q) ∧ (∀ j, j ≠ 10 → b 0 j = b0 0 j) ∧ b 0 3 = 0 ∧ b 1 0 = 1 ∧ b 1 10 = 0 ∧ b 1 11 = -1 ∧ (b 1 1 = 0 ∨ b 1 1 = 1) ∧ a 17 2 = b 1 1 ∧ a 17 3 = nI k ∧ b 0 10 = nI k ∧ a 17 4 = lf ∧ a 17 5 = -1 ∧ (∀ s, s = 0 ∨ s = 1 → sI a (tr s) = sl (b 1) (oS s) ∧ VS (61560000 + 110000 * k) 5200000 (600 + k) (rl (b 1)) (b 1 2) (b 1 4) (sl (b 1) (oS s)) ∧ sl (b 1) (oS s) 9 = sl (b0 1) (oS s) 9) ∧ rI a 9 = rl (b 1) ∧ a 9 3 = b 1 4 ∧ a 9 1 = b 1 2 ∧ VR (rl (b 1)) (b 1 2) (b 1 4)
def pcO (s pw pb : Int32) : Int32 := if s = 0 then pw else pb
theorem c_can {N : Nat} {a : Mem} {s pw pb : Int32} (h : a 17 2 = s) : f_X7_canMove N 9 pw pb a = f_X7_canMove_33 N 9 a (tr s) (pcO s pw pb) := by
  unfold f_X7_canMove f_X7_canMove_18 tr pcO
  rw [h]
  by_cases hs : s = 0
  · rw [if_pos hs, if_pos hs, if_pos hs, if_pos hs]
  · rw [if_neg hs, if_neg hs, if_neg hs, if_neg hs]
theorem play_step {N fu k : Nat} {a0 b0 a b : Mem} {lf lg pw pb mv : Int32} (hN : 10010 ≤ N) (hk : k ≤ 10001) (hw : 1 ≤ pw.toInt ∧ pw.toInt ≤ 9999) (hb : 1 ≤ pb.toInt ∧ pb.toInt ≤ 9999) (hl : 0 ≤ lf.toInt) (hg : lf = lg ∨ (9999 ≤ lf.toInt ∧ lf.toInt ≤ lg.toInt)) (h : PRR a0 b0 k lf a b) (hmv : ¬ mv ≤ nI k) :
    (lf.toInt < (mxI 0 (pcO (b 1 1) pw pb - sl (b 1) (oS (b 1 1)) 6)).toInt ∧ f_X7_canMove N 9 pw pb a = some (0, a) ∧ ∃ b2, f_X9_play_17 N pw pb mv (fu + 1) lg b = some b2 ∧ b2 0 10 = nI k ∧ (∀ q, q ≠ 0 → q ≠ 1 → b2 q = b0 q) ∧ ∀ j, j ≠ 10 → b2 0 j = b0 0 j)
    ∨ (∃ a2 b2 l2, f_X7_canMove N 9 pw pb a = some (0, a2) ∧ f_X9_play_17 N pw pb mv (fu + 1) lg b = f_X9_play_17 N pw pb mv fu l2 b2 ∧ (∀ q, q < 17 ∨ 22 ≤ q → a2 q = a0 q) ∧ (∀ q, q ≠ 0 → q ≠ 1 → b2 q = b0 q) ∧ (∀ j, j ≠ 10 → b2 0 j = b0 0 j) ∧ b2 0 3 = 0 ∧ b2 1 0 = 4 ∧ a2 17 3 = nI k ∧ b2 0 10 = nI k ∧ a2 17 5 = b 1 1 ∧ b2 1 11 = WON (b0 1) (b 1 1) ∧ (∀ s, s = 0 ∨ s = 1 → sI a2 (tr s) 0 = sl (b2 1) (oS s) 0))
    ∨ (∃ a2 a3 b2, f_X7_canMove N 9 pw pb a = some (1, a2) ∧ f_X7_finishMove 9 a2 = a3 ∧ f_X9_play_17 N pw pb mv (fu + 1) lg b = f_X9_play_17 N pw pb mv fu (lg - mxI 0 (pcO (b 1 1) pw pb - sl (b 1) (oS (b 1 1)) 6)) b2 ∧ PRR a0 b0 (k + 1) (lf - mxI 0 (pcO (b 1 1) pw pb - sl (b 1) (oS (b 1 1)) 6)) a3 b2 ∧ (mxI 0 (pcO (b 1 1) pw pb - sl (b 1) (oS (b 1 1)) 6)).toInt ≤ lf.toInt ∧ b2 1 1 = 1 - b 1 1 ∧ sl (b2 1) (oS (b 1 1)) 6 = 0 ∧ sl (b2 1) (oS (1 - b 1 1)) 6 = sl (b 1) (oS (1 - b 1 1)) 6) := by
  have e0 : (0 : Int32).toInt = 0 := rfl
  have e6 : (6 : Int32).toNatClampNeg = 6 := rfl
  obtain ⟨ha, hbq, hbj, h03, g0, g10, g11, hsd, a2s, a3k, b10, a4l, a5n, hsides, hR, het, hpr, hVR⟩ := h
  generalize hs : b 1 1 = s at hsd a2s hsides ⊢
  obtain ⟨hS, hV, h9⟩ := hsides s hsd
  obtain ⟨hSo, hVo, h9o⟩ := hsides (1 - s) (s_oth hsd)
  have hpc : 1 ≤ (pcO s pw pb).toInt ∧ (pcO s pw pb).toInt ≤ 9999 := by
    unfold pcO
    split
    · exact hw
    · exact hb
  have hpo : f_X9_paceOf s pw pb b = pcO s pw pb := rfl
  have h17 : ∀ i, 17 ≤ i → sl (b 1) (oS s) i = 0 := fun i hi => sl_top hi
  have hbK : b = KK b s (b 1) (sl (b 1) (oS s)) := KK_id.symm
  have hof6 : f_X9_of N s 6 b = some (sl (b 1) (oS s) 6) := r_of h03 hsd (by decide) (by decide)
  rw [c_can a2s, f_X9_play_17_s, r_st h03, b_P, if_pos g0, if_neg (by decide), b10, if_neg hmv, r_mv h03, b_P, hs]
  simp only [b_T]
  rw [hof6, b_P, hpo]
  generalize hSS : sl (b 1) (oS s) = S at hS hV h9 h17 hbK ⊢
  obtain ⟨v0, v2, v3, v4, v5, v6, v7, v8, v9, vf, vx, ve, vd⟩ := id hV
  have hper := hVR.at v2.1 v2.2
  obtain ⟨r1, r2, r3, r4, -⟩ := id hVR
  have hwt : (mxI 0 (pcO s pw pb - S 6)).toInt = max 0 ((pcO s pw pb).toInt - (S 6).toInt) := by rw [z_mx, z_sub (by omega) (by omega), e0]
  have hth : a (tr s) 7 = S 6 := by rw [← hS]; rfl
  have hfl : nb (a (tr s) 9) = S 8 := by rw [← hS]; rfl
  have htr := @tr_or s
  unfold f_X7_canMove_33
  simp only [b_T]
  rw [hth, hfl, a4l]
  generalize hww : mxI 0 (pcO s pw pb - S 6) = w at hwt ⊢
  have hw1 : 0 ≤ w.toInt ∧ w.toInt ≤ 9999 := by omega
  by_cases hwl : w ≤ lf
  · have hwl2 := z_le.1 hwl
    have hwg : w ≤ lg := by
      rw [z_le]
      rcases hg with rfl | hg <;> omega
    have hwg2 := z_le.1 hwg
    have hmin : mnI w lg = w := by rw [z_eq, z_mn]; omega
    rw [if_pos hwl, hmin]
    obtain ⟨hrt, hP1, hP2⟩ := @r_ticks N b s w (b 1) S _ _ _ hN h03 hsd g0 hs hw1.1 hw1.2 hVR hV (by omega) (by omega)
    rw [← hbK] at hrt
    obtain ⟨a9, c1, c2, c3⟩ := @c_run N (tr s) (rl (b 1)) (b 1 4) w a (by omega) (by omega) r3 hR het (by rw [hS]; exact v0.1) (by rw [hS]; exact v2.1) (by rw [hS]; omega) (by rw [hS]; exact v4.1) (by rw [hS]; exact v4.2)
    rw [hS] at c2
    rw [hrt, b_P, if_pos hwg, c1, b_P]
    have a94 : a9 17 4 = lf := by rw [c3 17 (by omega) (by omega), a4l]
    rw [a94]
    have y17 : ∀ j, j ≠ 4 → up2 a9 17 4 (lf - w) 17 j = a 17 j := fun j z => by rw [p2_s, u_n z, c3 17 (by omega) (by omega)]
    have y174 : up2 a9 17 4 (lf - w) 17 4 = lf - w := by rw [p2_s, u_s]
    have yk : ∀ q, q ≠ 17 → q ≠ tr s → q ≠ tr s + 1 → up2 a9 17 4 (lf - w) q = a q := fun q z z1 z2 => by rw [p2_n z, c3 q z1 z2]
    have yS : sI (up2 a9 17 4 (lf - w)) (tr s) = RUN (rl (b 1)) (b 1 4) w S := by rw [sI_fr (p2_n (by omega)) (p2_n (by omega)), c2]
    generalize up2 a9 17 4 (lf - w) = a11 at y17 y174 yk yS ⊢
    have yo : sI a11 (tr (1 - s)) = sl (b 1) (oS (1 - s)) := by
      obtain ⟨n1, n2, n3, n4⟩ := tr_ne hsd
      have := @tr_or (1 - s)
      rw [sI_fr (yk _ (by omega) n1 n2) (yk _ (by omega) n3 n4), hSo]
    have y8 : nb (a11 (tr s) 9) = RUN (rl (b 1)) (b 1 4) w S 8 := by rw [← yS]; rfl
    rw [y8, y17 2 (by omega), a2s]
    have hVr := VS_RUN (T1 := 5300000) (m := w) hVR hV (by omega) hw1.1 (by omega) (by omega)
    have hTF : S 8 = 0 → (RUN (rl (b 1)) (b 1 4) w S 8 = 0 ↔ w.toInt < (TFI (rl (b 1)) (b 1 4) S).toInt) := by
      intro h8
      have h0 : 0 < (S 0).toInt := by
        have : (S 0).toInt ≠ 0 := by
          intro h99
          have := vf.2 (z_eq.2 (h99.trans e0.symm))
          rw [h8] at this
          exact absurd this (by decide)
        omega
      exact RUN_fell r3 r4 hper.2.2.2.1.1 hper.2.2.2.1.2 v6.1 h0 (by omega) v4.1 v4.2 ve h8 hw1.1
    have goes : (S 8 = 0 → RUN (rl (b 1)) (b 1 4) w S 8 = 0) → PASS (b 1) S w = w := by
      intro hc
      unfold PASS
      by_cases hq : b 1 10 = 0 ∧ S 8 = 0
      · rw [if_pos hq, z_eq, z_mn]
        have := (hTF hq.2).1 (hc hq.2)
        omega
      · rw [if_neg hq]
    have stepC : (S 8 = 0 → RUN (rl (b 1)) (b 1 4) w S 8 = 0) → (∃ a2 a3 b2, (some ((1 : Int32), a11) : Option (Int32 × Mem)) = some (1, a2) ∧ f_X7_finishMove 9 a2 = a3 ∧ (bP (f_X9_isState N 1 (KK b s (HD (b 1) s (PASS (b 1) S w) (S 8) (RUN (rl (b 1)) (b 1 4) (PASS (b 1) S w) S 8)) (RUN (rl (b 1)) (b 1 4) (PASS (b 1) S w) S))) fun x30 => if x30 = 0 then f_X9_play_17 N pw pb mv fu (lg - w) (KK b s (HD (b 1) s (PASS (b 1) S w) (S 8) (RUN (rl (b 1)) (b 1 4) (PASS (b 1) S w) S 8)) (RUN (rl (b 1)) (b 1 4) (PASS (b 1) S w) S)) else bP2 (f_X9_moveOnce N (KK b s (HD (b 1) s (PASS (b 1) S w) (S 8) (RUN (rl (b 1)) (b 1 4) (PASS (b 1) S w) S 8)) (RUN (rl (b 1)) (b 1 4) (PASS (b 1) S w) S))) fun x34 b35 => f_X9_play_17 N pw pb mv fu (lg - w) (up2 b35 0 10 ((b35 0 10) + (1 : Int32)))) = f_X9_play_17 N pw pb mv fu (lg - w) b2 ∧ PRR a0 b0 (k + 1) (lf - w) a3 b2 ∧ w.toInt ≤ lf.toInt ∧ b2 1 1 = 1 - s ∧ sl (b2 1) (oS s) 6 = 0 ∧ sl (b2 1) (oS (1 - s)) 6 = sl (b 1) (oS (1 - s)) 6) := by
      intro hc
      rw [goes hc]
      have hHD : HD (b 1) s w (S 8) (RUN (rl (b 1)) (b 1 4) w S 8) = upd (upd (b 1) 7 (b 1 7 + w)) 6 (b 1 6 + w) := by
        unfold HD
        rw [if_neg (fun h99 => h99.2 (hc h99.1))]
      rw [hHD]
      have G : ∀ j, j ≠ 6 → j ≠ 7 → upd (upd (b 1) 7 (b 1 7 + w)) 6 (b 1 6 + w) j = b 1 j := fun j z6 z7 => by rw [u_n z6, u_n z7]
      have Grl : rl (upd (upd (b 1) 7 (b 1 7 + w)) 6 (b 1 6 + w)) = rl (b 1) := by rw [rl_lo (by omega), rl_lo (by omega)]
      have Gsl : sl (upd (upd (b 1) 7 (b 1 7 + w)) 6 (b 1 6 + w)) (oS (1 - s)) = sl (b 1) (oS (1 - s)) := by rw [sl_lo (by omega), sl_lo (by omega)]
      generalize upd (upd (b 1) 7 (b 1 7 + w)) 6 (b 1 6 + w) = g2 at G Grl Gsl ⊢
      have hrm := @r_move N b s g2 (RUN (rl (b 1)) (b 1 4) w S) _ _ _ (by omega) h03 hsd (by rw [G 1 (by omega) (by omega)]; exact hs) (by rw [Grl, G 2 (by omega) (by omega), G 4 (by omega) (by omega)]; exact hVR) (by rw [Grl, G 2 (by omega) (by omega), G 4 (by omega) (by omega)]; exact hVr) (by omega) (by omega)
      have eKK : KK b s (upd (LOGX g2 s (RUN (rl (b 1)) (b 1 4) w S 6) (RUN (rl (b 1)) (b 1 4) w S 7) (GAIN (rl g2) (g2 4) (RUN (rl (b 1)) (b 1 4) w S)) (FIN (rl g2) (g2 4) (g2 2) (RUN (rl (b 1)) (b 1 4) w S) 0)) 1 (1 - s)) (FIN (rl g2) (g2 4) (g2 2) (RUN (rl (b 1)) (b 1 4) w S)) = upR b 1 (MV g2 (RUN (rl (b 1)) (b 1 4) w S) s) := rfl
      rw [eKK] at hrm
      have hsp : sp S < 17 := by unfold sp; rw [z_tn]; omega
      have hRtop := @RUN_top (rl (b 1)) (b 1 4) w S hsp h17
      rw [KK_st h03, b_P, G 0 (by omega) (by omega), if_pos g0, if_neg (by decide), hrm, b_P2]
      have b35 : (upR b 1 (MV g2 (RUN (rl (b 1)) (b 1 4) w S) s)) 0 10 + (1 : Int32) = nI (k + 1) := by rw [R_n (by omega), b10, nI_1]
      rw [b35]
      have hFv : VS (61560000 + 110000 * ((k + 1 : Nat) : Int)) 5300000 (600 + ((k + 1 : Nat) : Int)) (rl (b 1)) (b 1 2) (b 1 4) (FIN (rl (b 1)) (b 1 4) (b 1 2) (RUN (rl (b 1)) (b 1 4) w S)) := VS_FIN hVR hVr (by omega) (by omega) (by omega) (by omega) (by omega)
      have hMs := @MV_s g2 (RUN (rl (b 1)) (b 1 4) w S) s hRtop
      rw [Grl, G 4 (by omega) (by omega), G 2 (by omega) (by omega)] at hMs
      have hMo := @MV_o g2 (RUN (rl (b 1)) (b 1 4) w S) s hsd
      rw [Gsl] at hMo
      have hMr := @MV_rl g2 (RUN (rl (b 1)) (b 1 4) w S) s
      rw [Grl] at hMr
      have hM : ∀ j, j < 37 → j ≠ 1 → j ≠ 8 → j ≠ 6 → j ≠ 7 → MV g2 (RUN (rl (b 1)) (b 1 4) w S) s j = b 1 j := fun j z z1 z8 z6 z7 => by rw [MV_lo z z1 z8, G j z6 z7]
      have hM1 := @MV_1 g2 (RUN (rl (b 1)) (b 1 4) w S) s
      have hbm1 : ∀ q, up2 (upR b 1 (MV g2 (RUN (rl (b 1)) (b 1 4) w S) s)) 0 10 (nI (k + 1)) 1 q = MV g2 (RUN (rl (b 1)) (b 1 4) w S) s q := fun q => by rw [p2_n (by omega), R_s]
      have hbm1' : up2 (upR b 1 (MV g2 (RUN (rl (b 1)) (b 1 4) w S) s)) 0 10 (nI (k + 1)) 1 = MV g2 (RUN (rl (b 1)) (b 1 4) w S) s := by rw [p2_n (by omega), R_s]
      have hbm0 : ∀ j, j ≠ 10 → up2 (upR b 1 (MV g2 (RUN (rl (b 1)) (b 1 4) w S) s)) 0 10 (nI (k + 1)) 0 j = b 0 j := fun j z => by rw [p2_s, u_n z, R_n (by omega)]
      have hbm10 : up2 (upR b 1 (MV g2 (RUN (rl (b 1)) (b 1 4) w S) s)) 0 10 (nI (k + 1)) 0 10 = nI (k + 1) := by rw [p2_s, u_s]
      have hbmq : ∀ q, q ≠ 0 → q ≠ 1 → up2 (upR b 1 (MV g2 (RUN (rl (b 1)) (b 1 4) w S) s)) 0 10 (nI (k + 1)) q = b q := fun q z0 z1 => by rw [p2_n z0, R_n z1]
      obtain ⟨a16, f1, f2, f3⟩ := @c_fin a11 (tr s) (by omega) (by rw [yk 9 (by omega) (by omega) (by omega), hpr]; exact ⟨r1, r2⟩) (by rw [yS]; exact hVr.2.1.1) (by rw [yS]; have := hVr.2.1.2; omega)
      have hfm : f_X7_finishMove 9 a11 = up2 (up2 a16 17 2 (1 - s)) 17 3 (nI (k + 1)) := by
        unfold f_X7_finishMove f_X7_finishMove_28 f_X8_other
        simp only [b_T]
        rw [y17 2 (by omega), a2s]
        have d3 : ∀ x, up2 a16 17 2 x 17 3 + (1 : Int32) = nI (k + 1) := fun x => by rw [p2_s, u_n (by omega), f3 17 (by omega), y17 3 (by omega), a3k, nI_1]
        have d2 : a16 17 2 = s := by rw [f3 17 (by omega), y17 2 (by omega), a2s]
        unfold tr at f1
        by_cases hs0 : s = 0
        · rw [if_pos hs0] at f1
          rw [if_pos hs0, f1, b_T2, d2, d3]
        · rw [if_neg hs0] at f1
          rw [if_neg hs0, f1, b_T2, d2, d3]
      refine ⟨a11, _, _, rfl, hfm, rfl, ?_, hwl2, by rw [hbm1, hM1], by rw [hbm1', hMs]; exact FIN_67.1, by rw [hbm1', hMo]⟩
      generalize up2 (upR b 1 (MV g2 (RUN (rl (b 1)) (b 1 4) w S) s)) 0 10 (nI (k + 1)) = b37 at hbm1 hbm1' hbm0 hbm10 hbmq ⊢
      have x17 : ∀ j, j ≠ 2 → j ≠ 3 → up2 (up2 a16 17 2 (1 - s)) 17 3 (nI (k + 1)) 17 j = a11 17 j := fun j z2 z3 => by rw [p2_s, u_n z3, p2_s, u_n z2, f3 17 (by omega)]
      have x172 : up2 (up2 a16 17 2 (1 - s)) 17 3 (nI (k + 1)) 17 2 = 1 - s := by rw [p2_s, u_n (by omega), p2_s, u_s]
      have x173 : up2 (up2 a16 17 2 (1 - s)) 17 3 (nI (k + 1)) 17 3 = nI (k + 1) := by rw [p2_s, u_s]
      have xq : ∀ q, q ≠ 17 → q ≠ tr s → up2 (up2 a16 17 2 (1 - s)) 17 3 (nI (k + 1)) q = a11 q := fun q z z1 => by rw [p2_n z, p2_n z, f3 q z1]
      have xS : sI (up2 (up2 a16 17 2 (1 - s)) 17 3 (nI (k + 1))) (tr s) = FIN (rl (b 1)) (b 1 4) (b 1 2) (RUN (rl (b 1)) (b 1 4) w S) := by
        have q9 : a11 9 = a 9 := yk 9 (by omega) (by omega) (by omega)
        rw [sI_fr (by rw [p2_n (by omega), p2_n (by omega)]) (by rw [p2_n (by omega), p2_n (by omega)]), f2, yS, rI_fr (yk 10 (by omega) (by omega) (by omega)), hR, q9, het, hpr]
      generalize up2 (up2 a16 17 2 (1 - s)) 17 3 (nI (k + 1)) = a13 at x17 x172 x173 xq xS ⊢
      have xo : sI a13 (tr (1 - s)) = sl (b 1) (oS (1 - s)) := by
        obtain ⟨n1, n2, n3, n4⟩ := tr_ne hsd
        have := @tr_or (1 - s)
        rw [sI_fr (xq _ (by omega) n1) (xq _ (by omega) n3), yo]
      refine ⟨fun q hq => by rw [xq q (by omega) (by omega), yk q (by omega) (by omega) (by omega), ha q hq], fun q z0 z1 => by rw [hbmq q z0 z1, hbq q z0 z1], fun j z => by rw [hbm0 j z, hbj j z], by rw [hbm0 3 (by omega), h03], by rw [hbm1, hM 0 (by omega) (by omega) (by omega) (by omega) (by omega), g0], by rw [hbm1, hM 10 (by omega) (by omega) (by omega) (by omega) (by omega), g10], by rw [hbm1, hM 11 (by omega) (by omega) (by omega) (by omega) (by omega), g11], by rw [hbm1, hM1]; exact s_oth hsd, by rw [x172, hbm1, hM1], x173, hbm10, by rw [x17 4 (by omega) (by omega), y174], by rw [x17 5 (by omega) (by omega), y17 5 (by omega), a5n], ?_, ?_, ?_, ?_, ?_⟩
      · have both : ∀ q, (q = s ∨ q = 1 - s) → sI a13 (tr q) = sl (b37 1) (oS q) ∧ VS (61560000 + 110000 * ((k + 1 : Nat) : Int)) 5200000 (600 + ((k + 1 : Nat) : Int)) (rl (b37 1)) (b37 1 2) (b37 1 4) (sl (b37 1) (oS q)) ∧ sl (b37 1) (oS q) 9 = sl (b0 1) (oS q) 9 := by
          intro q hq
          rw [hbm1', hMr, hM 2 (by omega) (by omega) (by omega) (by omega) (by omega), hM 4 (by omega) (by omega) (by omega) (by omega) (by omega)]
          rcases hq with rfl | rfl
          · rw [hMs]
            refine ⟨xS, VS_T hFv ?_ ?_, ?_⟩
            · rw [FIN_67.1, e0]; omega
            · rw [FIN_67.2, e0]; omega
            · rw [FIN_9, RUN_n (by omega) (by omega) (by omega) (by omega) (by omega) (by omega) (by omega) (by omega), h9]
          · rw [hMo]
            exact ⟨xo, VS_mono hVo (by omega) (by omega) (by omega), h9o⟩
        intro q hq
        apply both
        rcases hq with rfl | rfl
        · rcases hsd with h99 | h99
          · exact Or.inl h99.symm
          · exact Or.inr (by rw [h99]; rfl)
        · rcases hsd with h99 | h99
          · exact Or.inr (by rw [h99]; rfl)
          · exact Or.inl h99.symm
      · rw [rI_fr (by rw [xq 10 (by omega) (by omega), yk 10 (by omega) (by omega) (by omega)] : a13 (9 + 1) = a (9 + 1)), hbm1', hMr, hR]
      · rw [xq 9 (by omega) (by omega), yk 9 (by omega) (by omega) (by omega), hbm1, hM 4 (by omega) (by omega) (by omega) (by omega) (by omega), het]
      · rw [xq 9 (by omega) (by omega), yk 9 (by omega) (by omega) (by omega), hbm1, hM 2 (by omega) (by omega) (by omega) (by omega) (by omega), hpr]
      · rw [hbm1', hMr, hM 2 (by omega) (by omega) (by omega) (by omega) (by omega), hM 4 (by omega) (by omega) (by omega) (by omega) (by omega)]
        exact hVR
    by_cases h8' : RUN (rl (b 1)) (b 1 4) w S 8 = 0
    · rw [if_pos h8']
      exact Or.inr (Or.inr (stepC (fun _ => h8')))
    · rw [if_neg h8']
      by_cases h8 : S 8 = 0
      · rw [if_pos h8]
        refine Or.inr (Or.inl ?_)
        have hPw : PASS (b 1) S w = TFI (rl (b 1)) (b 1 4) S := by
          unfold PASS
          rw [if_pos ⟨g10, h8⟩, z_eq, z_mn]
          have : ¬ w.toInt < (TFI (rl (b 1)) (b 1 4) S).toInt := fun h99 => h8' ((hTF h8).2 h99)
          omega
        have hRP : RUN (rl (b 1)) (b 1 4) (PASS (b 1) S w) S 0 = RUN (rl (b 1)) (b 1 4) w S 0 := RUN_left hVR hV (by omega) (by omega) hw1.1 hw1.2
        have hfellP : RUN (rl (b 1)) (b 1 4) (PASS (b 1) S w) S 8 ≠ 0 := by
          intro h99
          have h0 : 0 < (S 0).toInt := by
            have : (S 0).toInt ≠ 0 := by
              intro h98
              have := vf.2 (z_eq.2 (h98.trans e0.symm))
              rw [h8] at this
              exact absurd this (by decide)
            omega
          rw [hPw] at h99
          have := (RUN_fell r3 r4 hper.2.2.2.1.1 hper.2.2.2.1.2 v6.1 h0 (by omega) v4.1 v4.2 ve h8 (by rw [← hPw]; exact hP1)).1 h99
          omega
        have hHD : HD (b 1) s (PASS (b 1) S w) (S 8) (RUN (rl (b 1)) (b 1 4) (PASS (b 1) S w) S 8) = upd (upd (NOTE (b 1) s) 7 (b 1 7 + PASS (b 1) S w)) 6 (b 1 6 + PASS (b 1) S w) := by
          unfold HD
          rw [if_pos ⟨h8, hfellP⟩]
        have hH0 : HD (b 1) s (PASS (b 1) S w) (S 8) (RUN (rl (b 1)) (b 1 4) (PASS (b 1) S w) S 8) 0 = 4 := by
          rw [hHD, u_n (by omega), u_n (by omega)]
          unfold NOTE
          rw [if_pos g10, u_n (by omega), u_s]
        have hH11 : HD (b 1) s (PASS (b 1) S w) (S 8) (RUN (rl (b 1)) (b 1 4) (PASS (b 1) S w) S 8) 11 = WON (b0 1) s := by
          rw [hHD, u_n (by omega), u_n (by omega)]
          unfold NOTE
          rw [if_pos g10, u_s]
          unfold WON
          rw [h9o]
        rw [KK_st h03, b_P, hH0, if_neg (show ¬ (4 : Int32) = 1 by decide), if_pos rfl]
        refine ⟨_, _, _, rfl, rfl, ?_, ?_, ?_, ?_, ?_, ?_, ?_, ?_, ?_, ?_⟩
        · intro q hq
          rw [p2_n (by omega), yk q (by omega) (by omega) (by omega), ha q hq]
        · intro q z0 z1
          rw [KK_n z1, hbq q z0 z1]
        · intro j z
          rw [KK_0, hbj j z]
        · rw [KK_0, h03]
        · rw [KK_r (by omega), hH0]
        · rw [p2_s, u_n (by omega), y17 3 (by omega), a3k]
        · rw [KK_0, b10]
        · rw [p2_s, u_s]
        · rw [KK_r (by omega), hH11]
        · have yq : ∀ q, q ≠ 17 → up2 a11 17 5 s q = a11 q := fun q z => p2_n z
          have both : ∀ q, (q = s ∨ q = 1 - s) → sI (up2 a11 17 5 s) (tr q) 0 = sl (KK b s (HD (b 1) s (PASS (b 1) S w) (S 8) (RUN (rl (b 1)) (b 1 4) (PASS (b 1) S w) S 8)) (RUN (rl (b 1)) (b 1 4) (PASS (b 1) S w) S) 1) (oS q) 0 := by
            intro q hq
            have := @tr_or q
            rw [sI_fr (yq _ (by omega)) (yq _ (by omega)), KK_1]
            rcases hq with rfl | rfl
            · rw [yS, sl_setS (by omega), hRP]
            · rw [yo, setS_o (oS_oth hsd), HD_sl oS_ge]
          intro q hq
          apply both
          rcases hq with rfl | rfl
          · rcases hsd with h99 | h99
            · exact Or.inl h99.symm
            · exact Or.inr (by rw [h99]; rfl)
          · rcases hsd with h99 | h99
            · exact Or.inr (by rw [h99]; rfl)
            · exact Or.inl h99.symm
      · rw [if_neg h8]
        exact Or.inr (Or.inr (stepC (fun h99 => absurd h99 h8)))
  · have hwl2 := z_nle hwl
    obtain rfl : lf = lg := by
      rcases hg with h99 | h99
      · exact h99
      · omega
    have hmin : mnI w lf = lf := by rw [z_eq, z_mn]; omega
    rw [if_neg hwl, hmin]
    obtain ⟨hrt, hP1, hP2⟩ := @r_ticks N b s lf (b 1) S _ _ _ hN h03 hsd g0 hs hl (by omega) hVR hV (by omega) (by omega)
    rw [← hbK] at hrt
    rw [hrt, b_P, if_neg hwl]
    exact Or.inl ⟨by omega, rfl, _, rfl, by rw [KK_0, b10], fun q z0 z1 => by rw [KK_n z1, hbq q z0 z1], fun j z => by rw [KK_0, hbj j z]⟩

