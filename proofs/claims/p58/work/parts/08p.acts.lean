theorem rl_u {g : Nat → Int32} {w : Nat} {v : Int32} (h : w < 25) : rl (upd g (12 + w) v) = upd (rl g) w v := by
  funext i
  unfold rl upd
  by_cases h1 : i < 25
  · simp [h1, Nat.add_left_cancel_iff]
  · simp [h1, show ¬ i = w by omega]
theorem rn_u {R : Nat → Int32} {p : Int32} {w j : Nat} {v : Int32} (h : 5 * p.toNatClampNeg + w ≠ j) : rn (upd R j v) p w = rn R p w := u_n h
theorem VS_R {L T M : Int} {R R1 : Nat → Int32} {pr et : Int32} {S : Nat → Int32} (h0 : ∀ p, rn R1 p 0 = rn R p 0) (h : VS L T M R pr et S) : VS L T M R1 pr et S := by
  unfold VS at h ⊢
  rw [h0]
  exact h
theorem ag_setPeriod {t : Int} {N : Nat} {a b c : Mem} {p w v : Int32} (hN : 1560 ≤ N) (h : REL t a b) : AGR t (f_L_setPeriod p w v a c) (f_X9_setPeriod N p w v b) := by
  obtain ⟨h03, hR, hpr, het, hVR⟩ := REL_rules h
  have e2 : (2 : Int64).toInt = 2 := rfl
  have e4 : (4 : Int64).toInt = 4 := rfl
  have e0 : (0 : Int64).toInt = 0 := rfl
  have e9 : (999 : Int64).toInt = 999 := rfl
  have f2 : (2 : Int32).toInt = 2 := rfl
  have f4 : (4 : Int32).toInt = 4 := rfl
  have f0 : (0 : Int32).toInt = 0 := rfl
  have f9 : (999 : Int32).toInt = 999 := rfl
  unfold f_L_setPeriod f_X8_setPeriod f_X9_setPeriod f_X9_setPeriod_36 f_X9_setPeriod_37
  simp only [b_T, k_per, hpr, q_per hVR.1 hVR.2.1, b_P, q_in, Int32.toInt_toInt64, e2, e4, e0, e9, pass2, Nat.reduceAdd]
  by_cases hp : 0 ≤ p.toInt ∧ p.toInt < (b 1 2).toInt
  · simp only [hp, and_self, reduceIte, i10, bXc_0]
    by_cases hw : 2 ≤ w.toInt ∧ w.toInt ≤ 4
    · rw [if_neg (show ¬ w < 2 by rw [z_lt, f2]; omega), if_neg (show ¬ (4 : Int32) < w by rw [z_lt, f4]; omega)]
      simp only [hw, and_self, reduceIte, i10]
      by_cases hv : 0 ≤ v.toInt ∧ v.toInt ≤ 999
      · rw [if_neg (show ¬ v < 0 by rw [z_lt, f0]; omega), if_pos (show v ≤ 999 by rw [z_le, f9]; omega)]
        simp only [hv, and_self, reduceIte, i10, b_T2]
        obtain ⟨hr, h00⟩ := @REL_t t a b 0 h
        have hb1 : (up2 b 0 0 0) 1 = b 1 := p2_n (by omega)
        generalize up2 b 0 0 0 = b0 at hr h00 hb1 ⊢
        obtain ⟨b1, q1, q2, q3, q4, q5, q6⟩ := REM hN hr
        obtain ⟨h03b, hRb, hprb, hetb, hVRb⟩ := REL_rules q2
        have hp5 : p.toInt < 5 := by have := hVR.2.1; omega
        have c5 : (5 : Int32).toInt = 5 := rfl
        have c12 : (12 : Int32).toInt = 12 := rfl
        have hm : ((5 : Int32) * p).toInt = 5 * p.toInt := by rw [z_mul (by rw [c5]; omega) (by rw [c5]; omega), c5]
        have ha : ((12 : Int32) + (5 : Int32) * p).toInt = 12 + 5 * p.toInt := by rw [z_add (by rw [hm, c12]; omega) (by rw [hm, c12]; omega), hm, c12]
        have hb : (((12 : Int32) + (5 : Int32) * p) + w).toInt = 12 + 5 * p.toInt + w.toInt := by rw [z_add (by rw [ha]; omega) (by rw [ha]; omega), ha]
        have hm' : (p * (5 : Int32)).toInt = p.toInt * 5 := by rw [z_mul (by rw [c5]; omega) (by rw [c5]; omega), c5]
        have hb' : (p * (5 : Int32) + w).toInt = p.toInt * 5 + w.toInt := by rw [z_add (by rw [hm']; omega) (by rw [hm']; omega), hm']
        have hbn : (((12 : Int32) + (5 : Int32) * p) + w).toNatClampNeg = 12 + (5 * p.toNatClampNeg + w.toNatClampNeg) := by rw [z_tn, z_tn, z_tn, hb]; omega
        have hbn' : (p * (5 : Int32) + w).toNatClampNeg = 5 * p.toNatClampNeg + w.toNatClampNeg := by rw [z_tn, z_tn, z_tn, hb']; omega
        have hix : 5 * p.toNatClampNeg + w.toNatClampNeg < 25 := by rw [z_tn, z_tn]; omega
        have hwn : 2 ≤ w.toNatClampNeg ∧ w.toNatClampNeg ≤ 4 := by rw [z_tn]; omega
        rw [q1, b_P, r_ofP h03b hp.1 hp5 (by omega) (by omega), b_P, z_cI (by rw [hb]; omega) (by rw [hb]; omega), c_num hp.1 hp5 (by omega) (by omega), hRb, hbn]
        unfold f_X4_setNumber
        simp only [b_T, Nat.reduceAdd]
        rw [z_put (by rw [hb']; omega) (by rw [hb']; omega), hbn']
        refine ag_ok rfl rfl ?_ (by rw [R_n (by omega), q4 0 (by omega), h00])
        obtain ⟨-, ⟨w1, ⟨k0, k1, k2, k3, k4, k5, k6, k7, k9, k10, k11, kR⟩, s1, s2, mm, lg⟩, ⟨v1, v2, v3, v4, v5, v6, v7, v8⟩, -⟩ := id q2
        generalize f_X8_remember a = a1 at q2 q6 w1 k0 k1 k2 k3 k4 k5 k6 k7 k9 k10 k11 kR s1 s2 mm lg ⊢
        generalize hj : 5 * p.toNatClampNeg + w.toNatClampNeg = j at hix ⊢
        have hrl : rl (upd (b1 1) (12 + j) v) = upd (rl (b1 1)) j v := rl_u hix
        have hr0 : ∀ p', rn (upd (rl (b1 1)) j v) p' 0 = rn (rl (b1 1)) p' 0 := fun p' => rn_u (by omega)
        have hg : ∀ i, i < 12 → upd (b1 1) (12 + j) v i = b1 1 i := fun i hi => u_n (by omega)
        have hfr : ∀ k, k ≠ 10 → upR a1 10 (upd (a1 10) j v) k = a1 k := fun k hk => R_n hk
        have hsd : ∀ x, sI (upR a1 10 (upd (a1 10) j v)) (sdr 8 x) = sI a1 (sdr 8 x) ∧ upR a1 10 (upd (a1 10) j v) (sdr 8 x) = a1 (sdr 8 x) := by
          intro x
          have := @sdr_or 8 x
          exact ⟨sI_fr (hfr _ (by omega)) (hfr _ (by omega)), hfr _ (by omega)⟩
        refine REL_now (fun k hk => hfr k (by omega)) (fun j _ => by rw [R_n (by omega)]) (fun k h4 h8 => R_n (by omega)) (Int.le_refl t) ?_ ?_ q2
        · rw [R_s]
          unfold StP WS HR
          rw [hfr 8 (by omega), hfr (8 + 1) (by omega), hg 0 (by omega), hg 1 (by omega), hg 2 (by omega), hg 3 (by omega), hg 4 (by omega), hg 5 (by omega), hg 6 (by omega), hg 7 (by omega), hg 8 (by omega), hg 9 (by omega), hg 10 (by omega), hg 11 (by omega), hrl, (hsd _).1, (hsd _).1, (hsd _).2, (hsd _).2, sl_u2 (by omega), sl_u2 (by omega)]
          refine ⟨w1, ⟨k0, k1, k2, k3, k4, k5, k6, k7, k9, k10, k11, ?_⟩, s1, s2, mm, LG_fr (hfr _ (by omega)) (hfr _ (by omega)) (hg 8 (by omega)) (fun i z1 z2 => u_n (by omega)) lg⟩
          rw [← kR]
          funext i
          unfold rI upd
          by_cases hi : i < 25
          · rw [if_pos hi, show (8 + 1 + 1 : Nat) = 10 from rfl, R_s]
            by_cases hij : i = j
            · rw [if_pos hij, if_pos hij]
            · rw [if_neg hij, if_neg hij]
              exact (if_pos hi).symm
          · rw [if_neg hi, if_neg (by omega)]
            exact (if_neg hi).symm
        · rw [R_s]
          unfold VL
          rw [hrl, hg 0 (by omega), hg 1 (by omega), hg 2 (by omega), hg 4 (by omega), hg 5 (by omega), hg 6 (by omega), hg 7 (by omega), hg 8 (by omega), hg 10 (by omega), hg 11 (by omega), sl_u2 (by omega), sl_u2 (by omega)]
          refine ⟨v1, ⟨v2.1, v2.2.1, v2.2.2.1, v2.2.2.2.1, fun p' hp' => ?_⟩, VS_R hr0 v3, VS_R hr0 v4, v5, v6, v7, fun i z1 z2 => by rw [u_n (by omega), u_n (by omega)]; exact v8 i z1 z2⟩
          obtain ⟨y0, y1, y2, y3, y4⟩ := v2.2.2.2.2 p' hp'
          have hu : ∀ i, (upd (rl (b1 1)) j v i = v ∧ i = j) ∨ upd (rl (b1 1)) j v i = rl (b1 1) i := by
            intro i
            by_cases hi : i = j
            · subst hi
              exact Or.inl ⟨u_s, rfl⟩
            · exact Or.inr (u_n hi)
          refine ⟨?_, ?_, ?_, ?_, ?_⟩
          · rcases hu (5 * p') with ⟨z1, z2⟩ | z1
            · omega
            · rw [z1]; exact y0
          · rcases hu (5 * p' + 1) with ⟨z1, z2⟩ | z1
            · omega
            · rw [z1]; exact y1
          · rcases hu (5 * p' + 2) with ⟨z1, z2⟩ | z1
            · rw [z1]; exact hv
            · rw [z1]; exact y2
          · rcases hu (5 * p' + 3) with ⟨z1, z2⟩ | z1
            · rw [z1]; exact hv
            · rw [z1]; exact y3
          · rcases hu (5 * p' + 4) with ⟨z1, z2⟩ | z1
            · rw [z1]; exact hv
            · rw [z1]; exact y4
      · simp only [hv, reduceIte, eq_self, i10, b_T2]
        by_cases z1 : v < 0
        · rw [if_pos z1]
          exact ag_er rfl rfl h (by decide)
        · have z2 := z_nlt z1
          rw [if_neg z1, if_neg (by rw [z_le, f9]; omega)]
          exact ag_er rfl rfl h (by decide)
    · simp only [hw, reduceIte, eq_self, i10, b_T2]
      by_cases z1 : w < 2
      · rw [if_pos z1]
        exact ag_er rfl rfl h (by decide)
      · have z2 := z_nlt z1
        rw [if_neg z1, if_pos (by rw [z_lt, f4]; omega)]
        exact ag_er rfl rfl h (by decide)
  · simp only [hp, reduceIte, eq_self, bXc_3, b_T2]
    refine ag_er (k := 1) (y := 0) rfl ?_ h (by decide)
    repeat' split
    all_goals rfl
def swS (g : Nat → Int32) (x : Nat) : Nat → Int32 := setS (setS g 37 (fun i => if i < x then sl g 54 i else sl g 37 i)) 54 (fun i => if i < x then sl g 37 i else sl g 54 i)
theorem swS_0 {g : Nat → Int32} : swS g 0 = g := by
  unfold swS
  have e1 : (fun i => if i < 0 then sl g 54 i else sl g 37 i) = sl g 37 := by
    funext i
    rw [if_neg (by omega)]
  have e2 : (fun i => if i < 0 then sl g 37 i else sl g 54 i) = sl g 54 := by
    funext i
    rw [if_neg (by omega)]
  rw [e1, e2, setS_id, setS_id]
theorem swS_s1 {g : Nat → Int32} {x i : Nat} (h : i < 17) : sl (swS g x) 37 i = if i < x then sl g 54 i else sl g 37 i := by
  unfold swS
  rw [setS_o (by omega), sl_setS h]
theorem swS_s2 {g : Nat → Int32} {x i : Nat} (h : i < 17) : sl (swS g x) 54 i = if i < x then sl g 37 i else sl g 54 i := by
  unfold swS
  rw [sl_setS h]
theorem swS_n {g : Nat → Int32} {x j : Nat} (h : j < 37 ∨ 71 ≤ j) : swS g x j = g j := by
  unfold swS setS
  rw [if_neg (by omega), if_neg (by omega)]
theorem swS_at {g : Nat → Int32} {x j : Nat} : swS g x j = if 54 ≤ j ∧ j < 71 then (if j - 54 < x then sl g 37 (j - 54) else sl g 54 (j - 54)) else if 37 ≤ j ∧ j < 54 then (if j - 37 < x then sl g 54 (j - 37) else sl g 37 (j - 37)) else g j := rfl
theorem swS_step {g : Nat → Int32} {x : Nat} (hx : x < 17) : setS (setS (swS g x) 37 (upd (sl (swS g x) 37) x (sl (swS g x) 54 x))) 54 (upd (sl (swS g x) 54) x (sl (swS g x) 37 x)) = swS g (x + 1) := by
  funext j
  rw [swS_at]
  unfold setS
  by_cases h1 : 54 ≤ j ∧ j < 71
  · rw [if_pos (show 54 ≤ j ∧ j < 54 + 17 by omega), if_pos h1]
    by_cases h2 : j - 54 = x
    · rw [h2, u_s, if_pos (by omega), swS_s1 hx, if_neg (by omega)]
    · rw [u_n h2, swS_s2 (by omega)]
      by_cases h3 : j - 54 < x
      · rw [if_pos h3, if_pos (by omega)]
      · rw [if_neg h3, if_neg (by omega)]
  · rw [if_neg (show ¬ (54 ≤ j ∧ j < 54 + 17) by omega), if_neg h1]
    by_cases h4 : 37 ≤ j ∧ j < 54
    · rw [if_pos (show 37 ≤ j ∧ j < 37 + 17 by omega), if_pos h4]
      by_cases h2 : j - 37 = x
      · rw [h2, u_s, if_pos (by omega), swS_s2 hx, if_neg (by omega)]
      · rw [u_n h2, swS_s1 (by omega)]
        by_cases h3 : j - 37 < x
        · rw [if_pos h3, if_pos (by omega)]
        · rw [if_neg h3, if_neg (by omega)]
    · rw [if_neg (show ¬ (37 ≤ j ∧ j < 37 + 17) by omega), if_neg h4, swS_n (by omega)]
theorem r_swap {N : Nat} {b : Mem} (h : b 0 3 = 0) (hN : 18 ≤ N) : f_X9_swap_36 N N 0 b = bP2 (f_X9_ahead N (upR b 1 (swS (b 1) 17))) fun x17 b18 => some (x17, b18) := by
  have key : ∀ (n x fu : Nat), x + n = 17 → n + 1 ≤ fu → f_X9_swap_36 N fu (nI x) (upR b 1 (swS (b 1) x)) = bP2 (f_X9_ahead N (upR b 1 (swS (b 1) 17))) fun x17 b18 => some (x17, b18) := by
    intro n
    induction n with
    | zero =>
      intro x fu hx hf
      obtain ⟨f, rfl⟩ : ∃ f, fu = f + 1 := ⟨fu - 1, by omega⟩
      have hx3 : x = 17 := by omega
      subst hx3
      rw [f_X9_swap_36_s, if_pos (by decide)]
    | succ n ih =>
      intro x fu hx hf
      obtain ⟨f, rfl⟩ : ∃ f, fu = f + 1 := ⟨fu - 1, by omega⟩
      have ex : (nI x).toInt = x := z_nI (by omega)
      have en : (nI x).toNatClampNeg = x := z_tN (by omega)
      have e17 : (17 : Int32).toInt = 17 := rfl
      have h3 : ∀ f, upR b 1 f 0 3 = 0 := fun f => by rw [R_n (by omega)]; exact h
      rw [f_X9_swap_36_s, if_neg (by rw [z_le, e17, ex]; omega), r_of (h3 _) (Or.inl rfl) (by omega) (by omega), b_P, r_of (h3 _) (Or.inr rfl) (by omega) (by omega), b_P, r_put (h3 _) (Or.inl rfl) (by omega) (by omega), b_P, R_R, R_s, en, r_put (h3 _) (Or.inr rfl) (by omega) (by omega), b_P, R_R, R_s, en, b_T, nI_1, oS_0, oS_1, setS_o (show 37 + 17 ≤ 54 ∨ 54 + 17 ≤ 37 by omega), swS_step (by omega)]
      exact ih (x + 1) f (by omega) (by omega)
  have hk := key 17 0 N (by omega) (by omega)
  rw [swS_0, R_id] at hk
  exact hk
theorem REL_swap {t : Int} {a b : Mem} (h : REL t a b) : REL t (f_X6_swapSides 8 a) (upR b 1 (swS (b 1) 17)) := by
  obtain ⟨-, ⟨w1, ⟨k0, k1, k2, k3, k4, k5, k6, k7, k9, k10, k11, kR⟩, s1, s2, mm, lg⟩, ⟨v1, v2, v3, v4, v5, v6, v7, v8⟩, -⟩ := id h
  unfold f_X6_swapSides
  simp only [b_T]
  have e2 : up2 (up2 a 8 2 (a 8 3)) 8 3 (a 8 2) 8 2 = a 8 3 := by rw [p2_s, u_n (by omega), p2_s, u_s]
  have e3 : up2 (up2 a 8 2 (a 8 3)) 8 3 (a 8 2) 8 3 = a 8 2 := by rw [p2_s, u_s]
  have ej : ∀ j, j ≠ 2 → j ≠ 3 → up2 (up2 a 8 2 (a 8 3)) 8 3 (a 8 2) 8 j = a 8 j := fun j z2 z3 => by rw [p2_s, u_n z3, p2_s, u_n z2]
  have ek : ∀ k, k ≠ 8 → up2 (up2 a 8 2 (a 8 3)) 8 3 (a 8 2) k = a k := fun k z => by rw [p2_n z, p2_n z]
  generalize up2 (up2 a 8 2 (a 8 3)) 8 3 (a 8 2) = a1 at e2 e3 ej ek ⊢
  have hsd : ∀ x, sI a1 (sdr 8 x) = sI a (sdr 8 x) ∧ a1 (sdr 8 x) = a (sdr 8 x) := by
    intro x
    have := @sdr_or 8 x
    exact ⟨sI_fr (ek _ (by omega)) (ek _ (by omega)), ek _ (by omega)⟩
  have g1 : sl (swS (b 1) 17) 37 = sl (b 1) 54 := by
    funext i
    by_cases hi : i < 17
    · rw [swS_s1 hi, if_pos hi]
    · rw [sl_top (by omega), sl_top (by omega)]
  have g2 : sl (swS (b 1) 17) 54 = sl (b 1) 37 := by
    funext i
    by_cases hi : i < 17
    · rw [swS_s2 hi, if_pos hi]
    · rw [sl_top (by omega), sl_top (by omega)]
  have gr : rl (swS (b 1) 17) = rl (b 1) := by
    funext i
    unfold rl
    by_cases hi : i < 25
    · rw [if_pos hi, if_pos hi, swS_n (by omega)]
    · rw [if_neg hi, if_neg hi]
  have gn : ∀ j, j < 37 ∨ 71 ≤ j → swS (b 1) 17 j = b 1 j := fun j hj => swS_n hj
  refine REL_now (fun k hk => ek k (by omega)) (fun j _ => by rw [R_n (by omega)]) (fun k h4 h8 => R_n (by omega)) (Int.le_refl t) ?_ ?_ h
  · rw [R_s]
    unfold StP WS HR
    rw [e2, e3, (hsd _).1, (hsd _).1, (hsd _).2, (hsd _).2, ej 5 (by omega) (by omega), ej 6 (by omega) (by omega), ej 10 (by omega) (by omega), ej 9 (by omega) (by omega), ej 8 (by omega) (by omega), ej 4 (by omega) (by omega), ej 7 (by omega) (by omega), ek (8 + 1) (by omega), rI_fr (ek (8 + 1 + 1) (by omega)), g1, g2, gr, gn 0 (by omega), gn 1 (by omega), gn 2 (by omega), gn 3 (by omega), gn 4 (by omega), gn 5 (by omega), gn 6 (by omega), gn 7 (by omega), gn 8 (by omega), gn 9 (by omega), gn 10 (by omega), gn 11 (by omega)]
    refine ⟨?_, ⟨k0, k1, k2, k3, k4, k5, k6, k7, k9, k10, k11, kR⟩, s2, s1, ?_, LG_fr (ek _ (by omega)) (ek _ (by omega)) (gn 8 (by omega)) (fun j z1 z2 => gn j (by omega)) lg⟩
    · rcases w1 with ⟨z1, z2⟩ | ⟨z1, z2⟩
      · exact Or.inr ⟨z2, z1⟩
      · exact Or.inl ⟨z2, z1⟩
    · rw [Int32.add_comm]
      exact mm
  · rw [R_s]
    unfold VL
    rw [g1, g2, gr, gn 0 (by omega), gn 1 (by omega), gn 2 (by omega), gn 4 (by omega), gn 5 (by omega), gn 6 (by omega), gn 7 (by omega), gn 8 (by omega), gn 10 (by omega), gn 11 (by omega)]
    exact ⟨v1, v2, v4, v3, v5, v6, v7, fun i z1 z2 => by rw [gn _ (by omega), gn _ (by omega)]; exact v8 i z1 z2⟩
theorem ag_swap {t : Int} {N : Nat} {a b c : Mem} (hN : 1560 ≤ N) (h : REL t a b) : AGR t (f_L_swap a c) (f_X9_swap N b) := by
  obtain ⟨h03, -⟩ := REL_rules h
  obtain ⟨-, ⟨h0, -⟩, -⟩ := REL_hd h
  unfold f_L_swap f_X8_swap f_X9_swap f_X9_swap_17 f_X9_swap_22
  simp only [b_T, r_st h03, b_P, pass1, h0, i10, reduceIte, eq_self, b_T2]
  have good : AGR t (some (0, f_X6_swapSides 8 (f_X8_remember a), upR c 0 (upd (c 0) 0 (f_X6_whiteAhead 8 (f_X6_swapSides 8 (f_X8_remember a)))))) (bP (f_X9_remember N (up2 b 0 0 0)) fun b11 => f_X9_swap_36 N N 0 b11) := by
    obtain ⟨hr, h00⟩ := @REL_t t a b 0 h
    generalize up2 b 0 0 0 = b0 at hr h00 ⊢
    obtain ⟨b1, q1, q2, q3, q4, q5, q6⟩ := REM hN hr
    obtain ⟨h03b, -⟩ := REL_rules q2
    rw [q1, b_P, r_swap h03b (by omega)]
    obtain ⟨y, b2, r1, r2, r3⟩ := @an_ahead t N _ _ (REL_swap q2)
    have r4 : b2 0 0 = 0 := by
      unfold f_X9_ahead at r1
      simp only [b_T] at r1
      have h3 : (up2 (upR b1 1 (swS (b1 1) 17)) 0 0 0) 0 3 = 0 := by rw [p2_s, u_n (by omega), R_n (by omega)]; exact h03b
      rw [r_of h3 (Or.inl rfl) (by decide) (by decide), b_P, r_of h3 (Or.inr rfl) (by decide) (by decide), b_P] at r1
      have := (Prod.mk.inj (Option.some.inj r1)).2
      rw [← this, p2_s, u_s]
    rw [r1, b_P2]
    have r5 : f_X6_whiteAhead 8 (f_X6_swapSides 8 (f_X8_remember a)) = y := r2
    rw [r5]
    exact ag_ok rfl rfl r3 r4
  by_cases h1 : b 1 0 = 0
  · simp only [h1, reduceIte, i10]
    exact good
  · simp only [h1, reduceIte, eq_self]
    by_cases h2 : b 1 0 = 2
    · simp only [h2, reduceIte, i10]
      exact good
    · simp only [h2, reduceIte, eq_self]
      exact ag_er rfl rfl h (by decide)

