theorem HD_alt {g : Nat → Int32} {s m x y : Int32} : HD g s m x y = if x = 0 ∧ y ≠ 0 then NOTE (upd (upd g 7 (g 7 + m)) 6 (g 6 + m)) s else upd (upd g 7 (g 7 + m)) 6 (g 6 + m) := by
  unfold HD
  by_cases h : x = 0 ∧ y ≠ 0
  · rw [if_pos h, if_pos h, NOTE_u (by omega) (by omega) (by omega) (by omega) (by omega), NOTE_u (by omega) (by omega) (by omega) (by omega) (by omega)]
  · rw [if_neg h, if_neg h]
def GT (g S : Nat → Int32) (s m : Int32) : Nat → Int32 := setS (HD g s m (S 8) (RUN (rl g) (g 4) m S 8)) (oS s) (RUN (rl g) (g 4) m S)
theorem StP_side {a : Mem} {g : Nat → Int32} {p : Int32} (h : StP a 8 g) (hp : p = 0 ∨ p = 1) : ∃ k, f_X6_sideOf 8 p a = k ∧ (k = 13 ∨ k = 15) ∧ sI a k = sl g (oS p) := by
  obtain ⟨w, -, s1, s2, -, -⟩ := h
  rcases hp with rfl | rfl
  · exact ⟨_, rfl, sdr_or, s1⟩
  · exact ⟨_, rfl, sdr_or, s2⟩
theorem StP_won {a : Mem} {g : Nat → Int32} {s : Int32} (h : StP a 8 g) (hs : s = 0 ∨ s = 1) : f_X6_resultOfFall 8 s a = WON g s := by
  obtain ⟨k, hk, hk2, hS⟩ := StP_side h (s_oth hs)
  have eS9 : nb (a k 10) = sl g (oS (1 - s)) 9 := by rw [← hS]; rfl
  have e1 : (1 : Int32) - (1 - s) = s := by rcases hs with rfl | rfl <;> decide
  unfold f_X6_resultOfFall f_X8_other WON
  simp only [b_T]
  rw [hk, ← eS9]
  unfold nb
  by_cases h9 : a k 10 = 0
  · rw [if_pos h9, if_pos rfl, if_neg (by decide)]
  · rw [if_neg h9, if_neg (by decide), if_pos rfl]
theorem c_note {a : Mem} {g : Nat → Int32} {s : Int32} (h : StP a 8 g) (hs : s = 0 ∨ s = 1) (h1 : g 1 = s) : StP (f_X6_noteFall 8 a) 8 (NOTE g s) ∧ ∀ k, k ≠ 8 → f_X6_noteFall 8 a k = a k := by
  obtain ⟨w, ⟨k0, k1, k2, k3, k4, k5, k6, k7, k9, k10, k11, kR⟩, -⟩ := id h
  have h6 : a 8 6 = s := k1.trans h1
  have key : ∀ (a1 : Mem) (g1 : Nat → Int32), StP a1 8 g1 → a1 8 6 = s → g1 10 = g 10 → StP (f_X6_noteFall_16 8 a1) 8 (if g 10 = 0 then upd (upd g1 0 4) 11 (WON g1 s) else g1) ∧ ∀ k, k ≠ 8 → f_X6_noteFall_16 8 a1 k = a1 k := by
    intro a1 g1 hg1 h16 h110
    have hk10 : nb (a1 8 4) = g 10 := (hg1.2.1.2.2.2.2.2.2.2.2.2.1).trans h110
    unfold f_X6_noteFall_16 f_X6_endWith
    simp only [b_T]
    rw [hk10, h16]
    by_cases hz : g 10 = 0
    · rw [if_pos hz, if_pos hz, StP_won hg1 hs]
      exact ⟨StP_h7 (StP_h5 hg1), fun k hk => by rw [p2_n hk, p2_n hk]⟩
    · rw [if_neg hz, if_neg hz]
      exact ⟨hg1, fun k hk => rfl⟩
  unfold f_X6_noteFall NOTE
  simp only [b_T]
  rw [k9, h6]
  by_cases h9 : g 9 = -1
  · rw [if_pos h9, if_pos h9]
    obtain ⟨q1, q2⟩ := key (up2 a 8 8 s) (upd g 9 s) (StP_h8 h) (by rw [p2_s, u_n (by omega), h6]) (u_n (by omega))
    rw [sl_WON (by omega)] at q1
    exact ⟨q1, fun k hk => by rw [q2 k hk, p2_n hk]⟩
  · rw [if_neg h9, if_neg h9]
    have e : upd g 9 (g 9) = g := u_id
    rw [e]
    obtain ⟨q1, q2⟩ := key a g h h6 rfl
    exact ⟨q1, q2⟩
theorem VS_RUN {L T T1 M : Int} {R : Nat → Int32} {pr et m : Int32} {S : Nat → Int32} (hR : VR R pr et) (h : VS L T M R pr et S) (hL : 9999 ≤ L) (hm : 0 ≤ m.toInt) (hT : T + m.toInt ≤ T1) (hT1 : T1 ≤ 2147000000) : VS L T1 M R pr et (RUN R et m S) := by
  have e0 : (0 : Int32).toInt = 0 := rfl
  obtain ⟨v0, v2, v3, v4, v5, v6, v7, v8, -⟩ := id h
  have h6 : (S 6 + m).toInt = (S 6).toInt + m.toInt := z_add (by omega) (by omega)
  have hper := hR.at v2.1 v2.2
  have hf := FREE_t hper.2.2.2.1.1 v6.1
  have hc : ((mxI 0 (m - FREE R S)).toNatClampNeg : Int) ≤ m.toInt := by
    rw [z_tn, z_mx, z_sub (by omega) (by omega), e0]
    omega
  refine VS_Dn hR (VS_w (x := S 6 + m) (y := S 10 + m) h (by omega) (by omega) (by omega)) hL ?_ (by omega)
  have e7 : upd (upd S 6 (S 6 + m)) 10 (S 10 + m) 7 = S 7 := by rw [u_n (by omega), u_n (by omega)]
  rw [e7]
  omega
theorem c_letRun {t : Int} {N : Nat} {a : Mem} {g : Nat → Int32} {s p : Int32} (hN : 11 ≤ N) (ht : t ≤ 512) (h : StP a 8 g) (hv : VL t g) (h1 : g 1 = s) (hp : 0 ≤ p.toInt) (hp2 : p.toInt ≤ 9999) : ∃ a', f_X6_letRun N 8 p a = some a' ∧ StP a' 8 (GT g (sl g (oS s)) s (PASS g (sl g (oS s)) p)) ∧ ∀ k, k < 8 ∨ 17 ≤ k → a' k = a k := by
  obtain ⟨v1, v2, v3, v4, v5, v6, v7, v8⟩ := id hv
  have hs : s = 0 ∨ s = 1 := by rw [← h1]; exact v1
  obtain ⟨k, hk, hk2, hS⟩ := StP_side h hs
  have hV : VS (120000 * (t + 1)) (9999 * t) t (rl g) (g 2) (g 4) (sl g (oS s)) := by
    rcases hs with rfl | rfl
    · exact v3
    · exact v4
  obtain ⟨w, ⟨k0, k1, k2, k3, k4, k5, k6, k7, k9, k10, k11, kR⟩, -⟩ := id h
  obtain ⟨r1, r2, r3, r4, -⟩ := id v2
  obtain ⟨w0, w2, w3, w4, w5, w6, w7, w8, w9, wf, wx, we, wd⟩ := id hV
  have hmover : f_X6_mover 8 a = k := by
    unfold f_X6_mover
    simp only [b_T]
    rw [k1, h1, hk]
  generalize hSS : sl g (oS s) = S at hS hV w0 w2 w3 w4 w5 w6 w7 w8 w9 wf wx we wd ⊢
  have eS8 : nb (a k 9) = S 8 := by rw [← hS]; rfl
  have main : ∀ m : Int32, 0 ≤ m.toInt → m.toInt ≤ 9999 → ∃ a', f_X6_letRun_38 N 8 a k (S 8) m = some a' ∧ StP a' 8 (GT g S s m) ∧ ∀ k, k < 8 ∨ 17 ≤ k → a' k = a k := by
    intro m hm1 hm2
    unfold f_X6_letRun_38
    simp only [b_T, Nat.reduceAdd]
    have q9 : a 8 9 + m = g 7 + m := by rw [k7]
    have q10 : up2 a 8 9 (g 7 + m) 8 10 = g 6 := by rw [p2_s, u_n (by omega), k6]
    rw [q9, q10]
    have hst : StP (up2 (up2 a 8 9 (g 7 + m)) 8 10 (g 6 + m)) 8 (upd (upd g 7 (g 7 + m)) 6 (g 6 + m)) := StP_h10 (StP_h9 h)
    have hfr : ∀ k1, k1 ≠ 8 → up2 (up2 a 8 9 (g 7 + m)) 8 10 (g 6 + m) k1 = a k1 := fun k1 z => by rw [p2_n z, p2_n z]
    have hsd : f_X6_sideOf 8 s (up2 (up2 a 8 9 (g 7 + m)) 8 10 (g 6 + m)) = k := by
      rw [← hk]
      unfold f_X6_sideOf
      have z2 : up2 (up2 a 8 9 (g 7 + m)) 8 10 (g 6 + m) 8 2 = a 8 2 := by rw [p2_s, u_n (by omega), p2_s, u_n (by omega)]
      have z3 : up2 (up2 a 8 9 (g 7 + m)) 8 10 (g 6 + m) 8 3 = a 8 3 := by rw [p2_s, u_n (by omega), p2_s, u_n (by omega)]
      rw [z2, z3]
    generalize up2 (up2 a 8 9 (g 7 + m)) 8 10 (g 6 + m) = a3 at hst hfr hsd ⊢
    have hS3 : sI a3 k = S := by rw [sI_fr (hfr k (by omega)) (hfr (k + 1) (by omega)), hS]
    have hR3 : rI a3 9 = rl g := by rw [rI_fr (hfr 10 (by omega))]; exact kR
    have he3 : a3 9 3 = g 4 := by rw [hfr 9 (by omega)]; exact k4
    obtain ⟨a4, z1, z2, z3⟩ := @c_run N k (rl g) (g 4) m a3 hN (by omega) r3 hR3 he3 (by rw [hS3]; exact w0.1) (by rw [hS3]; exact w2.1) (by rw [hS3]; omega) (by rw [hS3]; exact w4.1) (by rw [hS3]; exact w4.2)
    rw [hS3] at z2
    rw [z1, b_P]
    have hst4 : StP a4 8 (setS (upd (upd g 7 (g 7 + m)) 6 (g 6 + m)) (oS s) (RUN (rl g) (g 4) m S)) := by
      refine StP_S hst hs hsd z3 z2 ?_
      rw [RUN_n (by omega) (by omega) (by omega) (by omega) (by omega) (by omega) (by omega) (by omega), sl_lo (by omega), sl_lo (by omega), hSS]
    have eF8 : nb (a4 k 9) = RUN (rl g) (g 4) m S 8 := by rw [← z2]; rfl
    have hfr4 : ∀ k, k < 8 ∨ 17 ≤ k → a4 k = a k := fun k1 hk1 => by rw [z3 k1 (by omega) (by omega), hfr k1 (by omega)]
    rw [eF8]
    unfold GT
    rw [HD_alt]
    by_cases h8 : RUN (rl g) (g 4) m S 8 = 0
    · rw [if_pos h8, if_neg (fun h9 => h9.2 h8)]
      exact ⟨a4, rfl, hst4, hfr4⟩
    · rw [if_neg h8]
      by_cases h80 : S 8 = 0
      · rw [if_pos h80, if_pos ⟨h80, h8⟩]
        have hg1 : setS (upd (upd g 7 (g 7 + m)) 6 (g 6 + m)) (oS s) (RUN (rl g) (g 4) m S) 1 = s := by rw [setS_lo (by omega), u_n (by omega), u_n (by omega), h1]
        obtain ⟨n1, n2⟩ := c_note hst4 hs hg1
        refine ⟨_, rfl, ?_, fun k1 hk1 => by rw [n2 k1 (by omega), hfr4 k1 hk1]⟩
        have eN : NOTE (setS (upd (upd g 7 (g 7 + m)) 6 (g 6 + m)) (oS s) (RUN (rl g) (g 4) m S)) s = setS (NOTE (upd (upd g 7 (g 7 + m)) 6 (g 6 + m)) s) (oS s) (RUN (rl g) (g 4) m S) := by
          have eW : WON (setS (upd (upd g 7 (g 7 + m)) 6 (g 6 + m)) (oS s) (RUN (rl g) (g 4) m S)) s = WON (upd (upd g 7 (g 7 + m)) 6 (g 6 + m)) s := WON_sl (setS_o (oS_oth hs))
          unfold NOTE
          rw [eW, setS_lo (by omega), setS_lo (by omega)]
          split
          · rw [setS_up (by omega), setS_up (by omega), setS_up (by omega)]
          · rw [setS_up (by omega)]
        rw [← eN]
        exact n1
      · rw [if_neg h80, if_neg (fun h9 => h80 h9.1)]
        exact ⟨a4, rfl, hst4, hfr4⟩
  have hper := v2.at w2.1 w2.2
  obtain ⟨t1, t2, t3, t4⟩ := @TFI_t (rl g) (g 4) S r3 r4 hper.2.2.2.1.1 hper.2.2.2.1.2 w6.1 w0.1 (by omega) w4.1 w4.2
  have hcap := @capI_ge (rl g) (g 4) S r3 w4.1
  unfold f_X6_letRun
  simp only [b_T, Nat.reduceAdd]
  rw [hmover, eS8, k10]
  unfold PASS
  by_cases hc : g 10 = 0
  · rw [if_pos hc]
    by_cases h8 : S 8 = 0
    · rw [if_pos h8, if_pos ⟨hc, h8⟩, c_ttf (by rw [hS]; exact w2.1) (by rw [hS]; omega), hS, if_pos h8]
      have e1 : rI a 9 = rl g := kR
      have e2 : a 9 3 = g 4 := k4
      rw [e1, e2]
      exact main _ (by rw [z_mn]; omega) (by rw [z_mn]; omega)
    · rw [if_neg h8, if_neg (fun h9 => h8 h9.2)]
      exact main p hp hp2
  · rw [if_neg hc, if_neg (fun h9 => hc h9.1)]
    exact main p hp hp2
theorem VL_GT {t : Int} {g : Nat → Int32} {s m : Int32} (ht : t ≤ 512) (hv : VL t g) (h1 : g 1 = s) (hm : 0 ≤ m.toInt) (hm2 : m.toInt ≤ 9999) : VL (t + 1) (GT g (sl g (oS s)) s m) := by
  have hv2 := VL_mono hv (show t ≤ t + 1 by omega)
  obtain ⟨v1, v2, v3, v4, v5, v6, v7, v8⟩ := id hv2
  obtain ⟨u1, u2, u3, u4, ⟨u5, u6, u7, u8'⟩, -⟩ := id hv
  have hs : s = 0 ∨ s = 1 := by rw [← h1]; exact v1
  have hV : VS (120000 * (t + 1)) (9999 * t) t (rl g) (g 2) (g 4) (sl g (oS s)) := by
    rcases hs with rfl | rfl
    · exact u3
    · exact u4
  have hVR := VS_RUN (T1 := 9999 * (t + 1)) (m := m) v2 (VS_mono hV (show 120000 * (t + 1) ≤ 120000 * (t + 1 + 1) by omega) (Int.le_refl _) (show t ≤ t + 1 by omega)) (by omega) hm (by omega) (by omega)
  have h17 : ∀ i, 17 ≤ i → sl g (oS s) i = 0 := fun i hi => sl_top hi
  generalize sl g (oS s) = S at hV hVR h17 ⊢
  have hlo : ∀ j, j ≠ 0 → j ≠ 6 → j ≠ 7 → j ≠ 9 → j ≠ 11 → HD g s m (S 8) (RUN (rl g) (g 4) m S 8) j = g j := fun j z0 z6 z7 z9 z11 => HD_lo z0 z6 z7 z9 z11
  have h7 : HD g s m (S 8) (RUN (rl g) (g 4) m S 8) 7 = g 7 + m := by unfold HD; rw [u_n (by omega), u_s]
  have h6 : HD g s m (S 8) (RUN (rl g) (g 4) m S 8) 6 = g 6 + m := by unfold HD; rw [u_s]
  have h011 : HD g s m (S 8) (RUN (rl g) (g 4) m S 8) 0 ≠ 4 → HD g s m (S 8) (RUN (rl g) (g 4) m S 8) 11 = -1 := by
    unfold HD
    rw [u_n (by omega), u_n (by omega), u_n (show (11 : Nat) ≠ 6 by omega), u_n (show (11 : Nat) ≠ 7 by omega)]
    split
    · unfold NOTE
      split
      · rw [u_n (by omega), u_s]
        exact fun h9 => absurd rfl h9
      · rw [u_n (by omega), u_n (by omega)]
        exact v7
    · exact v7
  have hvh : VL (t + 1) (HD g s m (S 8) (RUN (rl g) (g 4) m S 8)) := by
    unfold VL
    rw [HD_rl, HD_sl (by omega), HD_sl (by omega), hlo 1 (by omega) (by omega) (by omega) (by omega) (by omega), hlo 2 (by omega) (by omega) (by omega) (by omega) (by omega), hlo 4 (by omega) (by omega) (by omega) (by omega) (by omega), hlo 5 (by omega) (by omega) (by omega) (by omega) (by omega), hlo 8 (by omega) (by omega) (by omega) (by omega) (by omega), hlo 10 (by omega) (by omega) (by omega) (by omega) (by omega), h6, h7, z_add (by omega) (by omega), z_add (by omega) (by omega)]
    refine ⟨v1, v2, v3, v4, ⟨v5.1, ⟨by omega, by omega⟩, ⟨by omega, by omega⟩, v5.2.2.2⟩, v6, h011, fun i z1 z2 => ?_⟩
    rw [hlo _ (by omega) (by omega) (by omega) (by omega) (by omega), hlo _ (by omega) (by omega) (by omega) (by omega) (by omega)]
    exact v8 i z1 z2
  unfold GT
  refine VL_S hvh (Int.le_refl _) hs ?_ ?_
  · intro i hi
    rw [RUN_THK, THK_n (by omega) (by omega)]
    refine Dn_top ?_ h17 i hi
    unfold sp
    rw [z_tn]
    have := hV.2.1
    have := v2.2.1
    omega
  · rw [HD_rl, hlo 2 (by omega) (by omega) (by omega) (by omega) (by omega), hlo 4 (by omega) (by omega) (by omega) (by omega) (by omega)]
    exact hVR

