def VL (t : Int) (g : Nat → Int32) : Prop := (g 1 = 0 ∨ g 1 = 1) ∧ VR (rl g) (g 2) (g 4) ∧ VS (120000 * (t + 1)) (9999 * t) t (rl g) (g 2) (g 4) (sl g 37) ∧ VS (120000 * (t + 1)) (9999 * t) t (rl g) (g 2) (g 4) (sl g 54) ∧ ((-1 ≤ (g 5).toInt ∧ (g 5).toInt ≤ 99999) ∧ (0 ≤ (g 6).toInt ∧ (g 6).toInt ≤ 9999 * t) ∧ (0 ≤ (g 7).toInt ∧ (g 7).toInt ≤ 9999 * t) ∧ (0 ≤ (g 8).toInt ∧ (g 8).toInt ≤ t)) ∧ (g 10 = 0 ∨ g 10 = 1) ∧ (g 0 ≠ 4 → g 11 = -1) ∧ ∀ i : Nat, i < 40 → (i : Int) < (g 8).toInt → (0 ≤ (g (71 + 6 * i + 1)).toInt ∧ (g (71 + 6 * i + 1)).toInt ≤ 9999 * t) ∧ (-(120000 * (t + 1)) ≤ (g (71 + 6 * i + 3)).toInt ∧ (g (71 + 6 * i + 3)).toInt ≤ 10000)
theorem VS_mono {L T M L1 T1 M1 : Int} {R : Nat → Int32} {pr et : Int32} {S : Nat → Int32} (h : VS L T M R pr et S) (hL : L ≤ L1) (hT : T ≤ T1) (hM : M ≤ M1) : VS L1 T1 M1 R pr et S := by
  obtain ⟨v0, v2, v3, v4, v5, v6, v7, v8, v9, vf, vx, ve, vd⟩ := h
  exact ⟨⟨v0.1, by omega⟩, v2, ⟨v3.1, by omega⟩, v4, v5, ⟨v6.1, by omega⟩, ⟨v7.1, by omega⟩, v8, v9, vf, vx, ve, vd⟩
theorem VL_mono {t u : Int} {g : Nat → Int32} (h : VL t g) (hu : t ≤ u) : VL u g := by
  obtain ⟨h1, hR, w, bl, ⟨q5, q6, q7, q8⟩, h10, h11, hl⟩ := h
  exact ⟨h1, hR, VS_mono w (by omega) (by omega) (by omega), VS_mono bl (by omega) (by omega) (by omega), ⟨q5, ⟨q6.1, by omega⟩, ⟨q7.1, by omega⟩, ⟨q8.1, by omega⟩⟩, h10, h11, fun i hi h2 => ⟨⟨(hl i hi h2).1.1, by have := (hl i hi h2).1.2; omega⟩, ⟨by have := (hl i hi h2).2.1; omega, (hl i hi h2).2.2⟩⟩⟩
theorem VL_g {t : Int} {g g1 : Nat → Int32} (h : ∀ j, j < 311 → g1 j = g j) (hs : VL t g) : VL t g1 := by
  obtain ⟨h1, hR, w, bl, q, h10, h11, hl⟩ := hs
  unfold VL
  rw [sl_g h (by omega), sl_g h (by omega), rl_g h, h 0 (by omega), h 1 (by omega), h 2 (by omega), h 4 (by omega), h 5 (by omega), h 6 (by omega), h 7 (by omega), h 8 (by omega), h 10 (by omega), h 11 (by omega)]
  refine ⟨h1, hR, w, bl, q, h10, h11, fun i hi h2 => ?_⟩
  rw [h _ (by omega), h _ (by omega)]
  exact hl i hi h2
def INP (a b : Mem) : Prop := ∃ n : Nat, n ≤ 400 ∧ a 2 1 = nI n ∧ b 0 12 = nI n ∧ ∀ j, j < n → a 3 j = b 4 j ∧ -128 ≤ (b 4 j).toInt ∧ (b 4 j).toInt ≤ 127
def PRS (a b : Mem) : Prop := a 1 5 = b 0 18 ∧ a 1 6 = b 0 19
def OUTP (a b : Mem) : Prop := ∃ n : Nat, n ≤ 256 ∧ a 6 1 = nI n ∧ b 0 29 = nI n ∧ ∀ j, j < n → a 7 j = b 8 j
def PAST (t : Int) (a b : Mem) : Prop := ∃ n x : Nat, n ≤ 6 ∧ x < 6 ∧ a 0 6 = nI n ∧ a 0 7 = nI x ∧ b 0 27 = nI n ∧ (∀ j, j < 6 → WS a (pastR j)) ∧ ∀ j, j < n → StP a (pastR ((x + 6 - n + j) % 6)) (fun i => b 7 (311 * j + i)) ∧ VL t (fun i => b 7 (311 * j + i))
def SLOT (t : Int) (a b : Mem) : Prop := ∀ i, i < 2 → WS a (slotR i) ∧ nb (a (slotR i) 11) = b 6 i ∧ (b 6 i ≠ 0 → StP a (slotR i) (fun j => b 5 (311 * i + j)) ∧ VL t (fun j => b 5 (311 * i + j)))
def REL (t : Int) (a b : Mem) : Prop := b 0 3 = 0 ∧ StP a 8 (b 1) ∧ VL t (b 1) ∧ PAST t a b ∧ SLOT t a b ∧ INP a b ∧ PRS a b ∧ OUTP a b
theorem REL_mono {t u : Int} {a b : Mem} (h : REL t a b) (hu : t ≤ u) : REL u a b := by
  obtain ⟨h3, hs, hv, ⟨n, x, hn, hx, p1, p2, p3, p4, p5⟩, hsl, hi, hp, ho⟩ := h
  exact ⟨h3, hs, VL_mono hv hu, ⟨n, x, hn, hx, p1, p2, p3, p4, fun j hj => ⟨(p5 j hj).1, VL_mono (p5 j hj).2 hu⟩⟩, fun i hi => ⟨(hsl i hi).1, (hsl i hi).2.1, fun hb => ⟨((hsl i hi).2.2 hb).1, VL_mono ((hsl i hi).2.2 hb).2 hu⟩⟩, hi, hp, ho⟩
theorem WS_fr {a a1 : Mem} {k : Nat} (h : a1 k = a k) (hw : WS a k) : WS a1 k := by
  unfold WS at hw ⊢
  rw [h]
  exact hw
theorem REL_a {t : Int} {a a1 b : Mem} (h0 : a1 0 = a 0) (h5 : a1 1 5 = a 1 5) (h6 : a1 1 6 = a 1 6) (h2 : a1 2 1 = a 2 1) (h3 : a1 3 = a 3) (h61 : a1 6 1 = a 6 1) (h7 : a1 7 = a 7) (hk : ∀ k, (8 ≤ k ∧ k < 17) ∨ (24 ≤ k ∧ k < 96) → a1 k = a k) (h : REL t a b) : REL t a1 b := by
  obtain ⟨hb3, hs, hv, ⟨n, x, hn, hx, p1, p2, p3, p4, p5⟩, hsl, hi, hp, ho⟩ := h
  refine ⟨hb3, StP_fr (fun k1 q1 q2 => hk k1 (by omega)) hs, hv, ⟨n, x, hn, hx, by rw [h0]; exact p1, by rw [h0]; exact p2, p3, fun j hj => WS_fr (hk _ (by unfold pastR; omega)) (p4 j hj), fun j hj => ⟨StP_fr (fun k1 q1 q2 => hk k1 (by unfold pastR at q1 q2; omega)) (p5 j hj).1, (p5 j hj).2⟩⟩, fun i hi => ⟨WS_fr (hk _ (by unfold slotR; omega)) (hsl i hi).1, by rw [hk _ (by unfold slotR; omega)]; exact (hsl i hi).2.1, fun hb => ⟨StP_fr (fun k1 q1 q2 => hk k1 (by unfold slotR at q1 q2; omega)) ((hsl i hi).2.2 hb).1, ((hsl i hi).2.2 hb).2⟩⟩, ?_, ?_, ?_⟩
  · unfold INP at hi ⊢
    rw [h2, h3]
    exact hi
  · unfold PRS at hp ⊢
    rw [h5, h6]
    exact hp
  · unfold OUTP at ho ⊢
    rw [h61, h7]
    exact ho
theorem REL_tr {t : Int} {a a1 b : Mem} (hk : ∀ k, k < 17 ∨ 22 ≤ k → a1 k = a k) (h : REL t a b) : REL t a1 b := REL_a (hk 0 (by omega)) (by rw [hk 1 (by omega)]) (by rw [hk 1 (by omega)]) (by rw [hk 2 (by omega)]) (hk 3 (by omega)) (by rw [hk 6 (by omega)]) (hk 7 (by omega)) (fun k hk1 => hk k (by omega)) h
theorem REL_b {t : Int} {a b b1 : Mem} (h3 : b1 0 3 = b 0 3) (h12 : b1 0 12 = b 0 12) (h18 : b1 0 18 = b 0 18) (h19 : b1 0 19 = b 0 19) (h27 : b1 0 27 = b 0 27) (h29 : b1 0 29 = b 0 29) (hk : ∀ k, k = 1 ∨ (4 ≤ k ∧ k ≤ 8) → b1 k = b k) (h : REL t a b) : REL t a b1 := by
  obtain ⟨hb3, hs, hv, hpa, hsl, hi, hp, ho⟩ := h
  unfold REL PAST SLOT INP PRS OUTP at *
  rw [h3, h12, h18, h19, h27, h29, hk 1 (by omega), hk 4 (by omega), hk 5 (by omega), hk 6 (by omega), hk 7 (by omega), hk 8 (by omega)]
  exact ⟨hb3, hs, hv, hpa, hsl, hi, hp, ho⟩
theorem REL_bw {t : Int} {a b : Mem} {j : Nat} {x : Int32} (hj : j ≠ 3 ∧ j ≠ 12 ∧ j ≠ 18 ∧ j ≠ 19 ∧ j ≠ 27 ∧ j ≠ 29) (h : REL t a b) : REL t a (up2 b 0 j x) := by
  obtain ⟨j3, j12, j18, j19, j27, j29⟩ := hj
  exact REL_b (by rw [p2_s, u_n (Ne.symm j3)]) (by rw [p2_s, u_n (Ne.symm j12)]) (by rw [p2_s, u_n (Ne.symm j18)]) (by rw [p2_s, u_n (Ne.symm j19)]) (by rw [p2_s, u_n (Ne.symm j27)]) (by rw [p2_s, u_n (Ne.symm j29)]) (fun k hk => p2_n (by omega)) h
theorem REL_now {t u : Int} {a a1 b b1 : Mem} (ha : ∀ k, k < 8 ∨ 17 ≤ k → a1 k = a k) (hb0 : ∀ j, j = 3 ∨ j = 12 ∨ j = 18 ∨ j = 19 ∨ j = 27 ∨ j = 29 → b1 0 j = b 0 j) (hb : ∀ k, 4 ≤ k → k ≤ 8 → b1 k = b k) (hu : t ≤ u) (hs1 : StP a1 8 (b1 1)) (hv1 : VL u (b1 1)) (h : REL t a b) : REL u a1 b1 := by
  obtain ⟨hb3, hs, hv, ⟨n, x, hn, hx, p1, p2, p3, p4, p5⟩, hsl, hi, hp, ho⟩ := REL_mono h hu
  refine ⟨by rw [hb0 3 (by omega)]; exact hb3, hs1, hv1, ⟨n, x, hn, hx, by rw [ha 0 (by omega)]; exact p1, by rw [ha 0 (by omega)]; exact p2, by rw [hb0 27 (by omega)]; exact p3, fun j hj => WS_fr (ha _ (by unfold pastR; omega)) (p4 j hj), fun j hj => ?_⟩, fun i hi => ⟨WS_fr (ha _ (by unfold slotR; omega)) (hsl i hi).1, ?_, fun hb9 => ?_⟩, ?_, ?_, ?_⟩
  · rw [hb 7 (by omega) (by omega)]
    exact ⟨StP_fr (fun k1 q1 q2 => ha k1 (by unfold pastR at q1 q2; omega)) (p5 j hj).1, (p5 j hj).2⟩
  · rw [hb 6 (by omega) (by omega), ha _ (by unfold slotR; omega)]
    exact (hsl i hi).2.1
  · rw [hb 6 (by omega) (by omega)] at hb9
    rw [hb 5 (by omega) (by omega)]
    exact ⟨StP_fr (fun k1 q1 q2 => ha k1 (by unfold slotR at q1 q2; omega)) ((hsl i hi).2.2 hb9).1, ((hsl i hi).2.2 hb9).2⟩
  · unfold INP at hi ⊢
    rw [ha 2 (by omega), ha 3 (by omega), hb 4 (by omega) (by omega), hb0 12 (by omega)]
    exact hi
  · unfold PRS at hp ⊢
    rw [ha 1 (by omega), hb0 18 (by omega), hb0 19 (by omega)]
    exact hp
  · unfold OUTP at ho ⊢
    rw [ha 6 (by omega), ha 7 (by omega), hb 8 (by omega) (by omega), hb0 29 (by omega)]
    exact ho
theorem six1 : ∀ x, x < 6 → ((nI x + (1 : Int32)) - (nI x + (1 : Int32)) / (6 : Int32) * (6 : Int32)) = nI ((x + 1) % 6) := by decide +kernel
theorem six2 : ∀ n, n ≤ 6 → mnI (nI n + (1 : Int32)) (6 : Int32) = nI (min (n + 1) 6) := by
  intro n h
  have : n < 7 := by omega
  exact (by decide +kernel : ∀ n, n < 7 → mnI (nI n + (1 : Int32)) (6 : Int32) = nI (min (n + 1) 6)) n this
theorem stA_x {m x : Nat} {f : Nat → Nat} (h : x < m) (hm : m < 2147483648) : stA m f (nI x) = some (f x) := by
  rw [stA_in (nI_in h hm), z_tN (by omega)]
theorem REM {t : Int} {N : Nat} {a b : Mem} (hN : 1560 ≤ N) (h : REL t a b) : ∃ b1, f_X9_remember N b = some b1 ∧ REL t (f_X8_remember a) b1 ∧ b1 1 = b 1 ∧ (∀ j, j ≠ 27 → b1 0 j = b 0 j) ∧ (∀ k, k ≠ 0 → k ≠ 7 → b1 k = b k) ∧ ∀ k, 1 ≤ k → k < 24 ∨ 78 ≤ k → f_X8_remember a k = a k := by
  obtain ⟨hb3, hs, hv, ⟨n, x, hn, hx, p1, p2, p3, p4, p5⟩, hsl, hi, hp, ho⟩ := h
  obtain ⟨cS, cF, c2, c3, c11⟩ := @c_cpy6 a (pastR x) 8 (b 1) (by unfold pastR; omega) (p4 x hx) hs
  have hrem : f_X8_remember a = up2 (up2 (f_X6_copyFrom (pastR x) 8 a) 0 7 (nI ((x + 1) % 6))) 0 6 (nI (min (n + 1) 6)) := by
    unfold f_X8_remember f_X8_remember_24
    have e0 : f_X6_copyFrom (pastR x) 8 a 0 = a 0 := cF 0 (by unfold pastR; omega)
    rw [p2, stA_x hx (by omega)]
    show up2 (up2 (f_X6_copyFrom (pastR x) 8 a) 0 7 _) 0 6 _ = _
    rw [e0, p2, six1 x hx]
    have e6 : up2 (f_X6_copyFrom (pastR x) 8 a) 0 7 (nI ((x + 1) % 6)) 0 6 = nI n := by rw [p2_s, u_n (by omega), e0, p1]
    rw [e6, six2 n hn]
  have hf : ∀ k, k ≠ 0 → (k < pastR x ∨ pastR x + 9 ≤ k) → f_X8_remember a k = a k := by
    intro k h0 hk
    rw [hrem, p2_n h0, p2_n h0, cF k hk]
  have hf2 : ∀ k, k ≠ 0 → f_X8_remember a k = f_X6_copyFrom (pastR x) 8 a k := by
    intro k h0
    rw [hrem, p2_n h0, p2_n h0]
  refine ⟨_, r_rmb hN hn p3, ?_, ?_, ?_, ?_, ?_⟩
  · have b1 : (up2 (upR b 7 (pastN n (b 7) (b 1))) 0 27 (nI (min (n + 1) 6))) 1 = b 1 := by rw [p2_n (by omega), R_n (by omega)]
    have b7 : (up2 (upR b 7 (pastN n (b 7) (b 1))) 0 27 (nI (min (n + 1) 6))) 7 = pastN n (b 7) (b 1) := by rw [p2_n (by omega), R_s]
    have bj : ∀ j, j ≠ 27 → (up2 (upR b 7 (pastN n (b 7) (b 1))) 0 27 (nI (min (n + 1) 6))) 0 j = b 0 j := by
      intro j hj
      rw [p2_s, u_n hj, R_n (by omega)]
    have bk : ∀ k, k ≠ 0 → k ≠ 7 → (up2 (upR b 7 (pastN n (b 7) (b 1))) 0 27 (nI (min (n + 1) 6))) k = b k := by
      intro k h0 h7
      rw [p2_n h0, R_n h7]
    refine ⟨by rw [bj 3 (by omega)]; exact hb3, by rw [b1]; exact StP_fr (fun k1 q1 q2 => hf k1 (by omega) (by unfold pastR; omega)) hs, by rw [b1]; exact hv, ⟨min (n + 1) 6, (x + 1) % 6, by omega, by omega, by rw [hrem, p2_s, u_s], by rw [hrem, p2_s, u_n (by omega), p2_s, u_s], by rw [p2_s, u_s], ?_, ?_⟩, ?_, ?_, ?_, ?_⟩
    · intro j hj
      by_cases hjx : j = x
      · subst hjx
        have := p4 j hj
        unfold WS at this ⊢
        rw [hf2 _ (by unfold pastR; omega), c2, c3]
        exact this
      · exact WS_fr (hf _ (by unfold pastR; omega) (by unfold pastR; omega)) (p4 j hj)
    · intro j hj
      rw [b7]
      have hx6 : (x + 6 - 6) % 6 = x := by omega
      by_cases h6 : n = 6
      · subst h6
        by_cases hj5 : j = 5
        · subst hj5
          have hi1 : ((x + 1) % 6 + 6 - min (6 + 1) 6 + 5) % 6 = x := by omega
          rw [hi1]
          have hg : ∀ i, i < 311 → (fun i => pastN 6 (b 7) (b 1) (311 * 5 + i)) i = b 1 i := by
            intro i hi
            show pastN 6 (b 7) (b 1) (311 * 5 + i) = b 1 i
            unfold pastN
            rw [if_pos rfl, if_pos (by omega), show 311 * 5 + i - 1555 = i by omega]
          exact ⟨StP_g hg (StP_fr (fun k1 q1 q2 => hf2 k1 (by unfold pastR at q1; omega)) cS), VL_g hg hv⟩
        · have hj4 : j < 5 := by omega
          have hi1 : ((x + 1) % 6 + 6 - min (6 + 1) 6 + j) % 6 = (x + 6 - 6 + (j + 1)) % 6 := by omega
          have hne : (x + 6 - 6 + (j + 1)) % 6 ≠ x := by omega
          have hlt : (x + 6 - 6 + (j + 1)) % 6 < 6 := by omega
          rw [hi1]
          have hg : ∀ i, i < 311 → (fun i => pastN 6 (b 7) (b 1) (311 * j + i)) i = (fun i => b 7 (311 * (j + 1) + i)) i := by
            intro i hi
            show pastN 6 (b 7) (b 1) (311 * j + i) = b 7 (311 * (j + 1) + i)
            unfold pastN
            rw [if_pos rfl, if_neg (by omega), if_pos (by omega), show 311 * j + i + 311 = 311 * (j + 1) + i by omega]
          have hh := p5 (j + 1) (by omega)
          exact ⟨StP_g hg (StP_fr (fun k1 q1 q2 => hf k1 (by unfold pastR at q1; omega) (by unfold pastR at q1 q2 ⊢; omega)) hh.1), VL_g hg hh.2⟩
      · by_cases hjn : j = n
        · subst hjn
          have hi1 : ((x + 1) % 6 + 6 - min (j + 1) 6 + j) % 6 = x := by omega
          rw [hi1]
          have hg : ∀ i, i < 311 → (fun i => pastN j (b 7) (b 1) (311 * j + i)) i = b 1 i := by
            intro i hi
            show pastN j (b 7) (b 1) (311 * j + i) = b 1 i
            unfold pastN
            rw [if_neg h6, if_pos (by omega), show 311 * j + i - 311 * j = i by omega]
          exact ⟨StP_g hg (StP_fr (fun k1 q1 q2 => hf2 k1 (by unfold pastR at q1; omega)) cS), VL_g hg hv⟩
        · have hi1 : ((x + 1) % 6 + 6 - min (n + 1) 6 + j) % 6 = (x + 6 - n + j) % 6 := by omega
          have hne : (x + 6 - n + j) % 6 ≠ x := by omega
          have hlt : (x + 6 - n + j) % 6 < 6 := by omega
          rw [hi1]
          have hg : ∀ i, i < 311 → (fun i => pastN n (b 7) (b 1) (311 * j + i)) i = (fun i => b 7 (311 * j + i)) i := by
            intro i hi
            show pastN n (b 7) (b 1) (311 * j + i) = b 7 (311 * j + i)
            unfold pastN
            rw [if_neg h6, if_neg (by omega)]
          have hh := p5 j (by omega)
          exact ⟨StP_g hg (StP_fr (fun k1 q1 q2 => hf k1 (by unfold pastR at q1; omega) (by unfold pastR at q1 q2 ⊢; omega)) hh.1), VL_g hg hh.2⟩
    · intro i hi
      rw [bk 6 (by omega) (by omega), bk 5 (by omega) (by omega)]
      have hkk : ∀ k1, slotR i ≤ k1 → k1 < slotR i + 9 → f_X8_remember a k1 = a k1 := fun k1 q1 q2 => hf k1 (by unfold slotR at q1; omega) (by unfold slotR at q1; unfold pastR; omega)
      exact ⟨WS_fr (hkk _ (by omega) (by omega)) (hsl i hi).1, by rw [hkk _ (by omega) (by omega)]; exact (hsl i hi).2.1, fun hb => ⟨StP_fr hkk ((hsl i hi).2.2 hb).1, ((hsl i hi).2.2 hb).2⟩⟩
    · unfold INP at hi ⊢
      rw [hf 2 (by omega) (by unfold pastR; omega), hf 3 (by omega) (by unfold pastR; omega), bj 12 (by omega), bk 4 (by omega) (by omega)]
      exact hi
    · unfold PRS at hp ⊢
      rw [hf 1 (by omega) (by unfold pastR; omega), bj 18 (by omega), bj 19 (by omega)]
      exact hp
    · unfold OUTP at ho ⊢
      rw [hf 6 (by omega) (by unfold pastR; omega), hf 7 (by omega) (by unfold pastR; omega), bj 29 (by omega), bk 8 (by omega) (by omega)]
      exact ho
  · rw [p2_n (by omega), R_n (by omega)]
  · intro j hj
    rw [p2_s, u_n hj, R_n (by omega)]
  · intro k h0 h7
    rw [p2_n h0, R_n h7]
  · intro k h1 hk
    exact hf k (by omega) (by unfold pastR; omega)

