def LOGX (g : Nat → Int32) (s th lo ga le : Int32) : Nat → Int32 := fun j => if j = 8 then g 8 + 1 else if j = 71 then s else if j = 72 then th else if j = 73 then lo else if j = 74 then ga else if j = 75 then le else if j = 76 then g 7 else if 77 ≤ j ∧ j < 311 then g (j - 6) else g j
theorem LOGR_X {g S : Nat → Int32} {s th lo ga : Int32} : LOGR (setS g (oS s) S) s th lo ga = setS (LOGX g s th lo ga (S 0)) (oS s) S := by
  have o1 := @oS_ge s
  have o2 := @oS_le s
  funext j
  unfold LOGR
  rw [setS_lo (by omega), setS_lo (by omega), sl_setS (by omega)]
  by_cases hj : oS s ≤ j ∧ j < oS s + 17
  · have e : setS (LOGX g s th lo ga (S 0)) (oS s) S j = S (j - oS s) := if_pos hj
    rw [e, if_neg (by omega), if_neg (by omega), if_neg (by omega), if_neg (by omega), if_neg (by omega), if_neg (by omega), if_neg (by omega), if_neg (by omega)]
    exact if_pos hj
  · have e : setS (LOGX g s th lo ga (S 0)) (oS s) S j = LOGX g s th lo ga (S 0) j := if_neg hj
    rw [e]
    unfold LOGX
    by_cases h77 : 77 ≤ j ∧ j < 311
    · rw [setS_hi (by omega), if_pos h77, if_pos h77]
    · rw [if_neg h77, if_neg h77]
      have e2 : setS g (oS s) S j = g j := if_neg hj
      rw [e2]
theorem LOGX_lo {g : Nat → Int32} {s th lo ga le : Int32} {j : Nat} (h : j < 71) (h8 : j ≠ 8) : LOGX g s th lo ga le j = g j := by
  unfold LOGX
  rw [if_neg h8, if_neg (by omega), if_neg (by omega), if_neg (by omega), if_neg (by omega), if_neg (by omega), if_neg (by omega), if_neg (by omega)]
theorem LOGX_8 {g : Nat → Int32} {s th lo ga le : Int32} : LOGX g s th lo ga le 8 = g 8 + 1 := if_pos rfl
theorem LOGX_rl {g : Nat → Int32} {s th lo ga le : Int32} : rl (LOGX g s th lo ga le) = rl g := by
  funext i
  unfold rl
  split
  · exact LOGX_lo (by omega) (by omega)
  · rfl
theorem LOGX_sl {g : Nat → Int32} {s th lo ga le : Int32} {o : Nat} (h : 9 ≤ o) (h2 : o + 17 ≤ 71) : sl (LOGX g s th lo ga le) o = sl g o := by
  funext i
  unfold sl
  split
  · exact LOGX_lo (by omega) (by omega)
  · rfl
theorem KK_gain {N : Nat} {b : Mem} {s : Int32} {g S : Nat → Int32} (h : b 0 3 = 0) (hs : s = 0 ∨ s = 1) (h2 : 0 ≤ (S 2).toInt) (h2' : (S 2).toInt < 5) (h8 : S 8 = 0 ∨ S 8 = 1) (h5 : S 5 = 0 ∨ S 5 = 1) : f_X9_gainsOf N s (KK b s g S) = some (GAIN (rl g) (g 4) S) := by
  have e0 : (0 : Int32).toNatClampNeg = 0 := rfl
  have e2 : (2 : Int32).toNatClampNeg = 2 := rfl
  have e4 : (4 : Int32).toNatClampNeg = 4 := rfl
  have e5 : (5 : Int32).toNatClampNeg = 5 := rfl
  have e7 : (7 : Int32).toNatClampNeg = 7 := rfl
  unfold f_X9_gainsOf GAIN
  rw [KK_fl h hs, b_P, KK_of h hs (by decide) (by decide), b_P, e5, KK_of h hs (by decide) (by decide), b_P, e0, KK_rM h, e4, KK_r (by omega), KK_its h hs h2 h2' (by decide) (by decide), b_P, e2, KK_of h hs (by decide) (by decide), b_P, e7, KK_its h hs h2 h2' (by decide) (by decide), b_P, e4]
  rcases h8 with h8 | h8
  · rw [h8, if_neg (show ¬ (0 : Int32) = 1 by decide), if_pos rfl, if_pos rfl]
    rcases h5 with h5 | h5
    · rw [h5, if_neg (show ¬ (0 : Int32) = 1 by decide), if_pos rfl]
    · rw [h5, if_pos rfl, if_neg (by decide)]
  · rw [h8, if_pos rfl, if_neg (by decide), if_neg (by decide)]
theorem KK_begin {N : Nat} {b : Mem} {s : Int32} {g S : Nat → Int32} (h : b 0 3 = 0) (hs : s = 0 ∨ s = 1) (h2 : 0 ≤ (S 2).toInt) (h2' : (S 2).toInt < 5) (hp : 1 ≤ (g 2).toInt ∧ (g 2).toInt ≤ 5) (h8 : S 8 = 0 ∨ S 8 = 1) : f_X9_beginPeriod N s (KK b s g S) = some (KK b s g (NEXT (rl g) (g 2) S)) := by
  have e0 : (0 : Int32).toNatClampNeg = 0 := rfl
  have e1 : (1 : Int32).toNatClampNeg = 1 := rfl
  have e2 : (2 : Int32).toNatClampNeg = 2 := rfl
  have e3 : (3 : Int32).toNatClampNeg = 3 := rfl
  have e11 : (11 : Int32).toNatClampNeg = 11 := rfl
  have f1 : (1 : Int32).toInt = 1 := rfl
  have hm : (mnI (S 2 + 1) (g 2 - 1)).toInt = min ((S 2).toInt + 1) ((g 2).toInt - 1) := by
    rw [z_mn, z_add (by rw [f1]; omega) (by rw [f1]; omega), z_sub (by rw [f1]; omega) (by rw [f1]; omega), f1]
  unfold f_X9_beginPeriod
  rw [KK_of h hs (by decide) (by decide), b_P, e2, KK_rM h, KK_r (by omega), KK_put h hs (by decide) (by decide), b_P, e2, KK_put h hs (by decide) (by decide), b_P, e3, KK_add h hs (by decide) (by decide), b_P, e11, u_n (show (11 : Nat) ≠ 3 by omega), u_n (show (11 : Nat) ≠ 2 by omega)]
  have eN : upd (upd (upd S 2 (mnI (S 2 + 1) (g 2 - 1))) 3 0) 11 (S 11 + 1) = NEXT1 (g 2) S := by
    unfold NEXT1
    rw [u_cm (show (11 : Nat) ≠ 3 by omega), u_cm (show (11 : Nat) ≠ 2 by omega)]
  rw [eN]
  have n2 : NEXT1 (g 2) S 2 = mnI (S 2 + 1) (g 2 - 1) := by unfold NEXT1; rw [u_n (by omega), u_s]
  have n8 : NEXT1 (g 2) S 8 = S 8 := by unfold NEXT1; rw [u_n (by omega), u_n (by omega), u_n (by omega)]
  have n0 : NEXT1 (g 2) S 0 = S 0 := by unfold NEXT1; rw [u_n (by omega), u_n (by omega), u_n (by omega)]
  rw [KK_fl h hs, b_P, n8, KK_its h hs (by rw [n2, hm]; omega) (by rw [n2, hm]; omega) (by decide) (by decide), b_P, e1, n2, KK_add h hs (by decide) (by decide), b_P, e0, n0, KK_add h hs (by decide) (by decide), b_P, e0, n0]
  unfold NEXT
  rcases h8 with h8 | h8
  · rw [h8, if_neg (show ¬ (0 : Int32) = 1 by decide), if_pos rfl, if_pos rfl]
  · rw [h8, if_pos rfl, if_neg (by decide), if_neg (by decide), Int32.add_zero, ← n0, u_id]
theorem FIN_6 {R : Nat → Int32} {et pr : Int32} {S : Nat → Int32} : FIN2 R pr (FIN1 R et S) 6 = S 6 ∧ FIN2 R pr (FIN1 R et S) 7 = S 7 ∧ FIN2 R pr (FIN1 R et S) 1 = S 1 + 1 ∧ FIN2 R pr (FIN1 R et S) 0 = FIN R et pr S 0 := by
  have F : ∀ j, j ≠ 0 → j ≠ 1 → j ≠ 3 → FIN1 R et S j = S j := fun j z0 z1 z3 => by
    unfold FIN1
    rw [u_n z3, u_n z1, u_n z0]
  have F1 : FIN1 R et S 1 = S 1 + 1 := by unfold FIN1; rw [u_n (by omega), u_s]
  have hN : ∀ (X : Nat → Int32) j, j ≠ 0 → j ≠ 2 → j ≠ 3 → j ≠ 11 → FIN2 R pr X j = X j := fun X j z0 z2 z3 z11 => by
    have h1 : NEXT1 pr X j = X j := by unfold NEXT1; rw [u_n z3, u_n z2, u_n z11]
    unfold FIN2
    split
    · rfl
    · split
      · unfold NEXT
        split
        · rw [u_n z0, h1]
        · exact h1
      · rfl
  refine ⟨?_, ?_, ?_, ?_⟩
  · rw [hN _ 6 (by omega) (by omega) (by omega) (by omega), F 6 (by omega) (by omega) (by omega)]
  · rw [hN _ 7 (by omega) (by omega) (by omega) (by omega), F 7 (by omega) (by omega) (by omega)]
  · rw [hN _ 1 (by omega) (by omega) (by omega) (by omega), F1]
  · unfold FIN DROP
    rw [u_n (by omega), u_n (by omega)]
theorem FIN_top {R : Nat → Int32} {et pr : Int32} {S : Nat → Int32} (h : ∀ i, 17 ≤ i → S i = 0) : ∀ i, 17 ≤ i → FIN R et pr S i = 0 := by
  intro i hi
  unfold FIN DROP
  rw [u_n (by omega), u_n (by omega)]
  have F : FIN1 R et S i = 0 := by
    unfold FIN1
    rw [u_n (by omega), u_n (by omega), u_n (by omega), h i hi]
  unfold FIN2
  split
  · exact F
  · split
    · unfold NEXT NEXT1
      split
      · rw [u_n (by omega), u_n (by omega), u_n (by omega), u_n (by omega), F]
      · rw [u_n (by omega), u_n (by omega), u_n (by omega), F]
    · exact F
theorem r_move {N : Nat} {b : Mem} {s : Int32} {g S : Nat → Int32} {L T M : Int} (hN : 300 ≤ N) (h : b 0 3 = 0) (hs : s = 0 ∨ s = 1) (g1 : g 1 = s) (hR : VR (rl g) (g 2) (g 4)) (hV : VS L T M (rl g) (g 2) (g 4) S) (hL : L ≤ 2000000000) (hM : M ≤ 2000000000) : f_X9_moveOnce N (KK b s g S) = some (GAIN (rl g) (g 4) S, KK b s (upd (LOGX g s (S 6) (S 7) (GAIN (rl g) (g 4) S) (FIN (rl g) (g 4) (g 2) S 0)) 1 (1 - s)) (FIN (rl g) (g 4) (g 2) S)) := by
  have e0 : (0 : Int32).toNatClampNeg = 0 := rfl
  have e1 : (1 : Int32).toNatClampNeg = 1 := rfl
  have e3 : (3 : Int32).toNatClampNeg = 3 := rfl
  have e6 : (6 : Int32).toNatClampNeg = 6 := rfl
  have e7 : (7 : Int32).toNatClampNeg = 7 := rfl
  have f0 : (0 : Int32).toInt = 0 := rfl
  have f1 : (1 : Int32).toInt = 1 := rfl
  obtain ⟨v0, v2, v3, v4, v5, v6, v7, v8, v9, vf, vx, ve, vd⟩ := hV
  have hper := hR.at v2.1 v2.2
  obtain ⟨r1, r2, r3, r4, -⟩ := id hR
  obtain ⟨q6, q7, q1, q0⟩ := @FIN_6 (rl g) (g 4) (g 2) S
  have tail : ∀ S2, S2 = FIN2 (rl g) (g 2) (FIN1 (rl g) (g 4) S) → f_X9_moveOnce_61 N s (GAIN (rl g) (g 4) S) (KK b s g S2) = some (GAIN (rl g) (g 4) S, KK b s (upd (LOGX g s (S 6) (S 7) (GAIN (rl g) (g 4) S) (FIN (rl g) (g 4) (g 2) S 0)) 1 (1 - s)) (FIN (rl g) (g 4) (g 2) S)) := by
    intro S2 hS2
    have s6 : S2 6 = S 6 := by rw [hS2]; exact q6
    have s7 : S2 7 = S 7 := by rw [hS2]; exact q7
    have s0 : S2 0 = FIN (rl g) (g 4) (g 2) S 0 := by rw [hS2]; exact q0
    unfold f_X9_moveOnce_61
    rw [KK_of h hs (by decide) (by decide), b_P, e6, KK_of h hs (by decide) (by decide), b_P, e7, r_klog hN (by rw [KK_0]; exact h) hs, b_P, KK_1, LOGR_X, s6, s7, s0]
    have eK : upR (KK b s g S2) 1 (setS (LOGX g s (S 6) (S 7) (GAIN (rl g) (g 4) S) (FIN (rl g) (g 4) (g 2) S 0)) (oS s) S2) = KK b s (LOGX g s (S 6) (S 7) (GAIN (rl g) (g 4) S) (FIN (rl g) (g 4) (g 2) S 0)) S2 := R_R
    rw [eK, KK_put h hs (by decide) (by decide), b_P, e6, KK_put h hs (by decide) (by decide), b_P, e7]
    simp only [b_T]
    rw [KK_rM h, e1, KK_w (by omega), hS2]
    rfl
  unfold f_X9_moveOnce
  rw [KK_mv h, b_P, g1, KK_gain h hs v2.1 (by omega) v8 v5, b_P, KK_add h hs (by decide) (by decide), b_P, e0, KK_add h hs (by decide) (by decide), b_P, e1, u_n (show (1 : Nat) ≠ 0 by omega), KK_add h hs (by decide) (by decide), b_P, e3, u_n (show (3 : Nat) ≠ 1 by omega), u_n (show (3 : Nat) ≠ 0 by omega)]
  have eF : upd (upd (upd S 0 (S 0 + GAIN (rl g) (g 4) S)) 1 (S 1 + 1)) 3 (S 3 + 1) = FIN1 (rl g) (g 4) S := rfl
  rw [eF]
  have F2 : FIN1 (rl g) (g 4) S 2 = S 2 := by unfold FIN1; rw [u_n (by omega), u_n (by omega), u_n (by omega)]
  have F8 : FIN1 (rl g) (g 4) S 8 = S 8 := by unfold FIN1; rw [u_n (by omega), u_n (by omega), u_n (by omega)]
  rw [KK_its h hs (by rw [F2]; exact v2.1) (by rw [F2]; omega) (by decide) (by decide), b_P, e0, KK_of h hs (by decide) (by decide), b_P, e3, b_P, KK_begin h hs (by rw [F2]; exact v2.1) (by rw [F2]; omega) ⟨r1, r2⟩ (by rw [F8]; exact v8), b_P]
  have hF2 : FIN2 (rl g) (g 2) (FIN1 (rl g) (g 4) S) = if rn (rl g) (FIN1 (rl g) (g 4) S 2) 0 = 0 then FIN1 (rl g) (g 4) S else if rn (rl g) (FIN1 (rl g) (g 4) S 2) 0 = FIN1 (rl g) (g 4) S 3 then NEXT (rl g) (g 2) (FIN1 (rl g) (g 4) S) else FIN1 (rl g) (g 4) S := rfl
  rw [F2] at hF2 ⊢
  by_cases hr : rn (rl g) (S 2) 0 ≤ 0
  · have hr2 := z_le.1 hr
    rw [f0] at hr2
    have hz : rn (rl g) (S 2) 0 = 0 := z_eq.2 (by rw [f0]; omega)
    rw [if_pos hr]
    rw [if_pos hz] at hF2
    exact tail _ hF2.symm
  · have hr2 := z_nle hr
    rw [f0] at hr2
    have hz : ¬ rn (rl g) (S 2) 0 = 0 := fun h9 => by rw [h9, f0] at hr2; omega
    rw [if_neg hr]
    rw [if_neg hz] at hF2
    by_cases hd : FIN1 (rl g) (g 4) S 3 = rn (rl g) (S 2) 0
    · rw [if_pos hd]
      rw [if_pos hd.symm] at hF2
      exact tail _ hF2.symm
    · rw [if_neg hd]
      rw [if_neg (fun h9 => hd h9.symm)] at hF2
      exact tail _ hF2.symm
def MV (g S : Nat → Int32) (s : Int32) : Nat → Int32 := setS (upd (LOGX g s (S 6) (S 7) (GAIN (rl g) (g 4) S) (FIN (rl g) (g 4) (g 2) S 0)) 1 (1 - s)) (oS s) (FIN (rl g) (g 4) (g 2) S)
theorem c_move {t : Int} {a : Mem} {g : Nat → Int32} {s : Int32} (ht : t ≤ 512) (h : StP a 8 g) (hv : VL t g) (h1 : g 1 = s) : ∃ a', f_X6_makeMove 8 a = (GAIN (rl g) (g 4) (sl g (oS s)), a') ∧ StP a' 8 (MV g (sl g (oS s)) s) ∧ ∀ k, k < 8 ∨ 17 ≤ k → a' k = a k := by
  obtain ⟨v1, v2, v3, v4, v5, v6, v7, v8⟩ := id hv
  have hs : s = 0 ∨ s = 1 := by rw [← h1]; exact v1
  obtain ⟨k, hk, hk2, hS⟩ := StP_side h hs
  have hV : VS (120000 * (t + 1)) (9999 * t) t (rl g) (g 2) (g 4) (sl g (oS s)) := by
    rcases hs with rfl | rfl
    · exact v3
    · exact v4
  obtain ⟨w, ⟨k0, k1, k2, k3, k4, k5, k6, k7, k9, k10, k11, kR⟩, s1, s2, mm, lg⟩ := id h
  obtain ⟨r1, r2, r3, r4, -⟩ := id v2
  obtain ⟨w0, w2, -⟩ := id hV
  have h17 : ∀ i, 17 ≤ i → sl g (oS s) i = 0 := fun i hi => sl_top hi
  have hmover : f_X6_mover 8 a = k := by
    unfold f_X6_mover
    simp only [b_T]
    rw [k1, h1, hk]
  have eR : rI a 9 = rl g := kR
  have e91 : a 9 1 = g 2 := k2
  have e93 : a 9 3 = g 4 := k4
  generalize hSS : sl g (oS s) = S at hS hV w0 w2 h17 ⊢
  have eS6 : a k 7 = S 6 := by rw [← hS]; rfl
  have eS7 : a k 8 = S 7 := by rw [← hS]; rfl
  obtain ⟨a3, z1, z2, z3⟩ := @c_fin a k (by omega) (by rw [e91]; exact ⟨r1, r2⟩) (by rw [hS]; exact w2.1) (by rw [hS]; omega)
  rw [eR, e93, hS] at z1
  rw [eR, e91, e93, hS] at z2
  have hF17 := @FIN_top (rl g) (g 4) (g 2) S h17
  unfold f_X6_makeMove
  simp only [b_T, Nat.reduceAdd]
  rw [hmover, z1, b_T2, eS6, eS7, z3 8 (by omega), k1, h1, k7]
  have eL : a3 k 1 = FIN (rl g) (g 4) (g 2) S 0 := by rw [← z2]; rfl
  rw [eL]
  refine ⟨_, rfl, ?_⟩
  generalize hga : GAIN (rl g) (g 4) S = ga at z1 ⊢
  have hg' : LG a3 11 (setS g (oS s) (FIN (rl g) (g 4) (g 2) S)) := LG_fr (z3 _ (by omega)) (z3 _ (by omega)) (setS_lo (by omega)) (fun j q1 q2 => setS_hi q1) lg
  have hlg := @LG_add a3 (setS g (oS s) (FIN (rl g) (g 4) (g 2) S)) s (S 6) (S 7) ga hg' (by rw [setS_lo (by omega)]; omega) (by rw [setS_lo (by omega)]; omega)
  have n2 : a3 11 2 = nI (a3 11 2).toNatClampNeg := (z_of hg'.2.1).symm
  have n3 : (a3 11 2).toNatClampNeg < 40 := by rw [z_tn]; have := hg'.2.1; have := hg'.2.2.1; omega
  obtain ⟨-, -, c3, -⟩ := @c_add a3 s (S 6) (S 7) ga (FIN (rl g) (g 4) (g 2) S 0) (g 7) _ n3 n2
  rw [sl_setS (by omega), setS_lo (by omega), LOGR_X] at hlg
  generalize f_X1_add 11 s (S 6) (S 7) ga (FIN (rl g) (g 4) (g 2) S 0) (g 7) a3 = a4 at hlg c3 ⊢
  have a48 : ∀ j, a4 8 j = a 8 j := fun j => by rw [c3 8 (by omega) (by omega), z3 8 (by omega)]
  have eo : f_X8_other (a4 8 6) a4 = 1 - s := by unfold f_X8_other; rw [a48, k1, h1]
  rw [eo]
  have y8 : ∀ j, j ≠ 6 → up2 a4 8 6 (1 - s) 8 j = a 8 j := fun j z => by rw [p2_s, u_n z, a48]
  have y86 : up2 a4 8 6 (1 - s) 8 6 = 1 - s := by rw [p2_s, u_s]
  have yk : ∀ k1, k1 ≠ 8 → k1 ≠ 11 → k1 ≠ 12 → k1 ≠ k → up2 a4 8 6 (1 - s) k1 = a k1 := fun k1 q8 q11 q12 qk => by rw [p2_n q8, c3 k1 q11 q12, z3 k1 qk]
  have yS : sI (up2 a4 8 6 (1 - s)) k = FIN (rl g) (g 4) (g 2) S := by
    rw [sI_fr (p2_n (by omega)) (p2_n (by omega)), sI_fr (c3 k (by omega) (by omega)) (c3 (k + 1) (by omega) (by omega)), z2]
  have ylg : LG (up2 a4 8 6 (1 - s)) 11 (setS (LOGX g s (S 6) (S 7) ga (FIN (rl g) (g 4) (g 2) S 0)) (oS s) (FIN (rl g) (g 4) (g 2) S)) := LG_fr (p2_n (by omega)) (p2_n (by omega)) rfl (fun _ _ _ => rfl) hlg
  generalize up2 a4 8 6 (1 - s) = a5 at y8 y86 yk yS ylg ⊢
  refine ⟨?_, fun k1 hk1 => yk k1 (by omega) (by omega) (by omega) (by omega)⟩
  unfold MV
  rw [hga]
  have Gx : ∀ j, j < 37 → j ≠ 1 → j ≠ 8 → setS (upd (LOGX g s (S 6) (S 7) ga (FIN (rl g) (g 4) (g 2) S 0)) 1 (1 - s)) (oS s) (FIN (rl g) (g 4) (g 2) S) j = g j := fun j q q1 q8 => by rw [setS_lo q, u_n q1, LOGX_lo (by omega) q8]
  have G1 : setS (upd (LOGX g s (S 6) (S 7) ga (FIN (rl g) (g 4) (g 2) S 0)) 1 (1 - s)) (oS s) (FIN (rl g) (g 4) (g 2) S) 1 = 1 - s := by rw [setS_lo (by omega), u_s]
  have G8 : setS (upd (LOGX g s (S 6) (S 7) ga (FIN (rl g) (g 4) (g 2) S 0)) 1 (1 - s)) (oS s) (FIN (rl g) (g 4) (g 2) S) 8 = g 8 + 1 := by rw [setS_lo (by omega), u_n (by omega), LOGX_8]
  have GR : rl (setS (upd (LOGX g s (S 6) (S 7) ga (FIN (rl g) (g 4) (g 2) S 0)) 1 (1 - s)) (oS s) (FIN (rl g) (g 4) (g 2) S)) = rl g := by rw [setS_rl, rl_lo (by omega), LOGX_rl]
  have Gs : sl (setS (upd (LOGX g s (S 6) (S 7) ga (FIN (rl g) (g 4) (g 2) S 0)) 1 (1 - s)) (oS s) (FIN (rl g) (g 4) (g 2) S)) (oS s) = FIN (rl g) (g 4) (g 2) S := setS_sl hF17
  have Go : sl (setS (upd (LOGX g s (S 6) (S 7) ga (FIN (rl g) (g 4) (g 2) S 0)) 1 (1 - s)) (oS s) (FIN (rl g) (g 4) (g 2) S)) (oS (1 - s)) = sl g (oS (1 - s)) := by
    have := @oS_ge (1 - s)
    have := @oS_le (1 - s)
    rw [setS_o (oS_oth hs), sl_u2 (by omega), LOGX_sl (by omega) (by omega)]
  have Gl : ∀ j, 71 ≤ j → j < 311 → setS (upd (LOGX g s (S 6) (S 7) ga (FIN (rl g) (g 4) (g 2) S 0)) 1 (1 - s)) (oS s) (FIN (rl g) (g 4) (g 2) S) j = setS (LOGX g s (S 6) (S 7) ga (FIN (rl g) (g 4) (g 2) S 0)) (oS s) (FIN (rl g) (g 4) (g 2) S) j := fun j q1 q2 => by rw [setS_hi q1, setS_hi q1, u_n (by omega)]
  have hF1 : FIN (rl g) (g 4) (g 2) S 1 = S 1 + 1 := by
    unfold FIN DROP
    rw [u_n (by omega), u_n (by omega)]
    exact FIN_6.2.2.1
  have G88 : setS (LOGX g s (S 6) (S 7) ga (FIN (rl g) (g 4) (g 2) S 0)) (oS s) (FIN (rl g) (g 4) (g 2) S) 8 = g 8 + 1 := by rw [setS_lo (by omega), LOGX_8]
  generalize setS (upd (LOGX g s (S 6) (S 7) ga (FIN (rl g) (g 4) (g 2) S 0)) 1 (1 - s)) (oS s) (FIN (rl g) (g 4) (g 2) S) = G at Gx G1 G8 GR Gs Go Gl ⊢
  have fLG : LG a5 (8 + 3) G := LG_fr rfl rfl (by rw [G8, G88]) Gl ylg
  have hkk := sdr_W w
  have m1 : a5 k 3 = S 1 + 1 := by
    have : sI a5 k 1 = FIN (rl g) (g 4) (g 2) S 1 := by rw [yS]
    rw [hF1] at this
    exact this
  have hRHR : rI a5 (8 + 1) = rl G := by rw [rI_fr (yk (8 + 1 + 1) (by omega) (by omega) (by omega) (by omega)), GR]; exact kR
  have eS1 : S 1 = a k 3 := by rw [← hS]; rfl
  have fin : sI a5 (sdr 8 (a 8 2)) = sl G 37 ∧ sI a5 (sdr 8 (a 8 3)) = sl G 54 ∧ a5 (sdr 8 (a 8 2)) 3 + a5 (sdr 8 (a 8 3)) 3 = g 8 + 1 := by
    rcases hs with rfl | rfl
    · have ek : sdr 8 (a 8 2) = k := hk
      have e54 : oS (1 - 0) = 54 := rfl
      rw [e54] at Go
      rw [oS_0] at Gs
      rw [ek] at mm hkk ⊢
      have hne : sdr 8 (a 8 3) ≠ k ∧ sdr 8 (a 8 3) + 1 ≠ k ∧ sdr 8 (a 8 3) ≠ 8 ∧ sdr 8 (a 8 3) ≠ 11 ∧ sdr 8 (a 8 3) ≠ 12 ∧ sdr 8 (a 8 3) + 1 ≠ 8 ∧ sdr 8 (a 8 3) + 1 ≠ 11 ∧ sdr 8 (a 8 3) + 1 ≠ 12 := by omega
      obtain ⟨n1, n2, n3, n4, n5, n6, n7, n8⟩ := hne
      refine ⟨by rw [yS, Gs], by rw [sI_fr (yk _ n3 n4 n5 n1) (yk _ n6 n7 n8 n2), s2, Go], ?_⟩
      rw [m1, yk _ n3 n4 n5 n1, eS1, ← mm, Int32.add_assoc, Int32.add_comm 1, ← Int32.add_assoc]
    · have ek : sdr 8 (a 8 3) = k := hk
      have e37 : oS (1 - 1) = 37 := rfl
      rw [e37] at Go
      rw [oS_1] at Gs
      rw [ek] at mm hkk ⊢
      have hne : sdr 8 (a 8 2) ≠ k ∧ sdr 8 (a 8 2) + 1 ≠ k ∧ sdr 8 (a 8 2) ≠ 8 ∧ sdr 8 (a 8 2) ≠ 11 ∧ sdr 8 (a 8 2) ≠ 12 ∧ sdr 8 (a 8 2) + 1 ≠ 8 ∧ sdr 8 (a 8 2) + 1 ≠ 11 ∧ sdr 8 (a 8 2) + 1 ≠ 12 := by omega
      obtain ⟨n1, n2, n3, n4, n5, n6, n7, n8⟩ := hne
      refine ⟨by rw [sI_fr (yk _ n3 n4 n5 n1) (yk _ n6 n7 n8 n2), s1, Go], by rw [yS, Gs], ?_⟩
      rw [m1, yk _ n3 n4 n5 n1, eS1, ← mm, Int32.add_assoc]
  unfold StP WS HR
  rw [y8 2 (by omega), y8 3 (by omega), y8 5 (by omega), y86, yk (8 + 1) (by omega) (by omega) (by omega) (by omega), y8 10 (by omega), y8 9 (by omega), y8 8 (by omega), y8 4 (by omega), y8 7 (by omega), hRHR, Gx 0 (by omega) (by omega) (by omega), G1, Gx 2 (by omega) (by omega) (by omega), Gx 3 (by omega) (by omega) (by omega), Gx 4 (by omega) (by omega) (by omega), Gx 5 (by omega) (by omega) (by omega), Gx 6 (by omega) (by omega) (by omega), Gx 7 (by omega) (by omega) (by omega), G8, Gx 9 (by omega) (by omega) (by omega), Gx 10 (by omega) (by omega) (by omega), Gx 11 (by omega) (by omega) (by omega)]
  exact ⟨w, ⟨k0, rfl, k2, k3, k4, k5, k6, k7, k9, k10, k11, rfl⟩, fin.1, fin.2.1, fin.2.2, fLG⟩
theorem VL_MV {t : Int} {g : Nat → Int32} {s : Int32} (ht : t ≤ 512) (hv : VL t g) (h1 : g 1 = s) : VL (t + 1) (MV g (sl g (oS s)) s) := by
  obtain ⟨v1, v2, v3, v4, v5, v6, v7, v8⟩ := id (VL_mono hv (show t ≤ t + 1 by omega))
  obtain ⟨u1, u2, u3, u4, ⟨u5, u6, u7, u8'⟩, u9, u10, u11⟩ := id hv
  have hs : s = 0 ∨ s = 1 := by rw [← h1]; exact v1
  have e1 : (1 : Int32).toInt = 1 := rfl
  have hV : VS (120000 * (t + 1)) (9999 * t) t (rl g) (g 2) (g 4) (sl g (oS s)) := by
    rcases hs with rfl | rfl
    · exact u3
    · exact u4
  have hV2 : VS (120000 * (t + 1 + 1)) (9999 * t) (t + 1) (rl g) (g 2) (g 4) (FIN (rl g) (g 4) (g 2) (sl g (oS s))) := VS_FIN v2 hV (by omega) (by omega) (by omega) (by omega) (by omega)
  have hV3 := VS_mono hV2 (Int.le_refl _) (show 9999 * t ≤ 9999 * (t + 1) by omega) (Int.le_refl _)
  obtain ⟨-, -, -, gd, ge⟩ := GAIN_b v2 hV (by omega)
  have h17 : ∀ i, 17 ≤ i → sl g (oS s) i = 0 := fun i hi => sl_top hi
  obtain ⟨-, -, -, -, -, y6, -⟩ := id hV
  generalize sl g (oS s) = S at hV hV3 gd ge h17 y6 ⊢
  unfold MV
  have h81 : (g 8 + 1).toInt = (g 8).toInt + 1 := by rw [z_add (by rw [e1]; omega) (by rw [e1]; omega), e1]
  have X : ∀ j, j < 71 → j ≠ 1 → j ≠ 8 → upd (LOGX g s (S 6) (S 7) (GAIN (rl g) (g 4) S) (FIN (rl g) (g 4) (g 2) S 0)) 1 (1 - s) j = g j := fun j q q1 q8 => by rw [u_n q1, LOGX_lo q q8]
  have hrl : rl (upd (LOGX g s (S 6) (S 7) (GAIN (rl g) (g 4) S) (FIN (rl g) (g 4) (g 2) S 0)) 1 (1 - s)) = rl g := by rw [rl_lo (by omega), LOGX_rl]
  refine VL_S (t := t + 1) ?_ (Int.le_refl _) hs (FIN_top h17) ?_
  · unfold VL
    rw [hrl, u_s, X 2 (by omega) (by omega) (by omega), X 4 (by omega) (by omega) (by omega), X 5 (by omega) (by omega) (by omega), X 6 (by omega) (by omega) (by omega), X 7 (by omega) (by omega) (by omega), u_n (show (8 : Nat) ≠ 1 by omega), LOGX_8, X 10 (by omega) (by omega) (by omega), X 0 (by omega) (by omega) (by omega), X 11 (by omega) (by omega) (by omega), sl_u2 (by omega), sl_u2 (by omega), LOGX_sl (by omega) (by omega), LOGX_sl (by omega) (by omega), h81]
    refine ⟨s_oth hs, v2, v3, v4, ⟨v5.1, v5.2.1, v5.2.2.1, ⟨by omega, by omega⟩⟩, v6, v7, fun i hi hi2 => ?_⟩
    rw [u_n (by omega), u_n (by omega)]
    by_cases hi0 : i = 0
    · subst hi0
      have x1 : LOGX g s (S 6) (S 7) (GAIN (rl g) (g 4) S) (FIN (rl g) (g 4) (g 2) S 0) (71 + 6 * 0 + 1) = S 6 := rfl
      have x3 : LOGX g s (S 6) (S 7) (GAIN (rl g) (g 4) S) (FIN (rl g) (g 4) (g 2) S 0) (71 + 6 * 0 + 3) = GAIN (rl g) (g 4) S := rfl
      rw [x1, x3]
      exact ⟨⟨y6.1, by omega⟩, ⟨by omega, by omega⟩⟩
    · have hl := u11 (i - 1) (by omega) (by omega)
      have x1 : LOGX g s (S 6) (S 7) (GAIN (rl g) (g 4) S) (FIN (rl g) (g 4) (g 2) S 0) (71 + 6 * i + 1) = g (71 + 6 * (i - 1) + 1) := by
        unfold LOGX
        rw [if_neg (by omega), if_neg (by omega), if_neg (by omega), if_neg (by omega), if_neg (by omega), if_neg (by omega), if_neg (by omega), if_pos (by omega)]
        congr 1
        omega
      have x3 : LOGX g s (S 6) (S 7) (GAIN (rl g) (g 4) S) (FIN (rl g) (g 4) (g 2) S 0) (71 + 6 * i + 3) = g (71 + 6 * (i - 1) + 3) := by
        unfold LOGX
        rw [if_neg (by omega), if_neg (by omega), if_neg (by omega), if_neg (by omega), if_neg (by omega), if_neg (by omega), if_neg (by omega), if_pos (by omega)]
        congr 1
        omega
      rw [x1, x3]
      exact ⟨⟨hl.1.1, by omega⟩, ⟨by omega, hl.2.2⟩⟩
  · rw [hrl, X 2 (by omega) (by omega) (by omega), X 4 (by omega) (by omega) (by omega)]
    exact hV3
theorem both_move {t : Int} {N : Nat} {a b : Mem} (hN : 300 ≤ N) (ht : t ≤ 512) (h : REL t a b) : ∃ x a' b', f_X6_makeMove 8 a = (x, a') ∧ f_X9_moveOnce N b = some (x, b') ∧ REL (t + 1) a' b' ∧ b' 0 = b 0 := by
  obtain ⟨h03, hR, hpr, het, hVR⟩ := REL_rules h
  have hst := h.2.1
  have hvl := h.2.2.1
  have hsd : b 1 1 = 0 ∨ b 1 1 = 1 := hvl.1
  obtain ⟨a', z1, z2, z3⟩ := @c_move t a (b 1) (b 1 1) ht hst hvl rfl
  have hV : VS (120000 * (t + 1)) (9999 * t) t (rl (b 1)) (b 1 2) (b 1 4) (sl (b 1) (oS (b 1 1))) := by
    obtain ⟨k, -, -, -, hV⟩ := REL_side h hsd
    exact hV
  have hrm := @r_move N b (b 1 1) (b 1) (sl (b 1) (oS (b 1 1))) _ _ _ hN h03 hsd rfl hVR hV (by omega) (by omega)
  rw [KK_id] at hrm
  have eKK : KK b (b 1 1) (upd (LOGX (b 1) (b 1 1) (sl (b 1) (oS (b 1 1)) 6) (sl (b 1) (oS (b 1 1)) 7) (GAIN (rl (b 1)) (b 1 4) (sl (b 1) (oS (b 1 1)))) (FIN (rl (b 1)) (b 1 4) (b 1 2) (sl (b 1) (oS (b 1 1))) 0)) 1 (1 - b 1 1)) (FIN (rl (b 1)) (b 1 4) (b 1 2) (sl (b 1) (oS (b 1 1)))) = upR b 1 (MV (b 1) (sl (b 1) (oS (b 1 1))) (b 1 1)) := rfl
  rw [eKK] at hrm
  have hvG := VL_MV ht hvl (s := b 1 1) rfl
  exact ⟨_, a', _, z1, hrm, REL_now z3 (fun j _ => by rw [R_n (by omega)]) (fun k h4 h8 => R_n (by omega)) (by omega) (by rw [R_s]; exact z2) (by rw [R_s]; exact hvG) h, by rw [R_n (by omega)]⟩
theorem ag_move {t : Int} {N : Nat} {a b c : Mem} (hN : 1560 ≤ N) (ht : t ≤ 512) (h : REL t a b) : AGR (t + 1) (f_L_move a c) (f_X9_move N b) := by
  obtain ⟨h03, -⟩ := REL_rules h
  obtain ⟨-, ⟨h0, -⟩, -⟩ := REL_hd h
  have hmo := REL_mono h (show t ≤ t + 1 by omega)
  unfold f_L_move f_X8_move f_X9_move
  simp only [b_T, r_st h03, b_P, pass1, h0]
  by_cases h1 : b 1 0 = 1
  · rw [if_pos h1, if_pos h1, if_neg (by decide)]
    simp only [b_T2, i10, reduceIte]
    obtain ⟨hr, h00⟩ := @REL_t t a b 0 h
    generalize up2 b 0 0 0 = b0 at hr h00 ⊢
    obtain ⟨b1, q1, q2, q3, q4, q5, q6⟩ := REM (N := N) hN hr
    obtain ⟨x, a', b', z1, z2, z3, z4⟩ := both_move (N := N) (by omega) ht q2
    rw [q1, b_P, z1, z2, b_P2]
    exact ag_ok rfl rfl z3 (by rw [z4, q4 0 (by omega), h00])
  · rw [if_neg h1, if_neg h1, if_pos rfl, b_T2, if_pos rfl]
    exact ag_er rfl rfl hmo (by decide)
theorem ag_open {t : Int} {N : Nat} {a b c : Mem} (hN : 1560 ≤ N) (ht : t ≤ 512) (h : REL t a b) : AGR (t + 1) (f_L_open a c) (f_X9_open N b) := by
  obtain ⟨h03, -⟩ := REL_rules h
  obtain ⟨-, ⟨h0, -⟩, -⟩ := REL_hd h
  have hmo := REL_mono h (show t ≤ t + 1 by omega)
  unfold f_L_open f_X8_open f_X9_open
  simp only [b_T, r_st h03, b_P, pass1, h0]
  by_cases h1 : b 1 0 = 3
  · rw [if_pos h1, if_pos h1, if_neg (by decide)]
    simp only [b_T2, i10, reduceIte]
    obtain ⟨hr, h00⟩ := @REL_t t a b 0 h
    have hb1 : (up2 b 0 0 0) 1 = b 1 := p2_n (by omega)
    generalize up2 b 0 0 0 = b0 at hr h00 hb1 ⊢
    obtain ⟨b1, q1, q2, q3, q4, q5⟩ := @r_bec t N a b0 1 hN hr (by rw [hb1, h1]; decide)
    rw [q1, b_P2]
    have e6 : (6 : Int32).toNatClampNeg = 6 := rfl
    have hw := REL_w (j := 10) (i := 6) (x := 0) (y := 0) q2 (StP_h10 q2.2.1) (VL_6 q2.2.2.1)
    obtain ⟨x, a', b', z1, z2, z3, z4⟩ := both_move (N := N) (by omega) ht hw
    rw [e6, z1, z2, b_P2]
    exact ag_ok rfl rfl z3 (by rw [z4, R_n (by omega), q3, h00])
  · rw [if_neg h1, if_neg h1, if_pos rfl, b_T2, if_pos rfl]
    exact ag_er rfl rfl hmo (by decide)

