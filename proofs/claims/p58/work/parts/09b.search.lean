theorem REL_FR5 {t : Int} {a b b1 : Mem} (h : REL t a b) (hf : FR5 b b1) : REL t a b1 ∧ b1 0 0 = b 0 0 := ⟨REL_b (hf.2 3 (by omega)) (hf.2 12 (by omega)) (hf.2 18 (by omega)) (hf.2 19 (by omega)) (hf.2 27 (by omega)) (hf.2 29 (by omega)) (fun k hk => hf.1 k (by omega)) h, hf.2 0 (by omega)⟩
theorem GE_start {R : Nat → Int32} {et m1 m2 : Int32} {S : Nat → Int32} (h1 : (S 0 + m1).toInt ≤ (S 0 + m2).toInt) : GE R et (upd (DROP S) 0 (S 0 + m2)) (upd (DROP S) 0 (S 0 + m1)) := by
  have D : ∀ x j, j ≠ 0 → j ≠ 6 → j ≠ 7 → upd (DROP S) 0 x j = S j := fun x j z0 z6 z7 => by
    unfold DROP
    rw [u_n z0, u_n z7, u_n z6]
  unfold GE capI
  rw [D _ 2 (by omega) (by omega) (by omega), D _ 3 (by omega) (by omega) (by omega), D _ 4 (by omega) (by omega) (by omega), D _ 5 (by omega) (by omega) (by omega), D _ 2 (by omega) (by omega) (by omega), D _ 3 (by omega) (by omega) (by omega), D _ 4 (by omega) (by omega) (by omega), D _ 5 (by omega) (by omega) (by omega), u_s, u_s]
  refine ⟨rfl, rfl, by omega, fun h => h, fun _ _ => rfl, fun h h2 => ?_, Int.le_refl _⟩
  rw [h] at h2
  exact absurd h2 (by decide)
theorem START_8 {S : Nat → Int32} {x : Int32} : upd (DROP S) 0 x 8 = S 8 := by
  unfold DROP
  rw [u_n (by omega), u_n (by omega), u_n (by omega)]
theorem CN_pace {t : Int} {R : Nat → Int32} {et pr p q : Int32} {m : Nat} {S : Nat → Int32} (ht : t ≤ 512) (ht0 : 0 ≤ t) (hm : m ≤ 200) (hR : VR R pr et) (hV : VS (120000 * (t + 1)) (9999 * t) t R pr et S) (hp : 0 ≤ p.toInt) (hpq : p.toInt ≤ q.toInt) (hq : q.toInt ≤ 9999) (h : CN R et pr q 0 m S = m) : CN R et pr p 0 m S = m := by
  unfold CN at h ⊢
  by_cases h8 : S 8 = 0
  · rw [if_pos h8] at h ⊢
    have hst := VS_start (more := 0) hV h8 (by decide) (by decide) (by omega)
    exact MC_mono hR hp hpq hq m _ _ _ _ hst hst (by omega) (by omega) (by omega) (by rw [START_8]; exact h8) (by rw [START_8]; exact h8) (GE_start (Int.le_refl _)) h
  · rw [if_neg h8] at h ⊢
    exact h
theorem CN_more {t : Int} {R : Nat → Int32} {et pr p m1 m2 : Int32} {m : Nat} {S : Nat → Int32} (ht : t ≤ 512) (ht0 : 0 ≤ t) (hm : m ≤ 200) (hR : VR R pr et) (hV : VS (120000 * (t + 1)) (9999 * t) t R pr et S) (hp : 0 ≤ p.toInt) (hp2 : p.toInt ≤ 9999) (h1 : 0 ≤ m1.toInt) (h12 : m1.toInt ≤ m2.toInt) (h2 : m2.toInt ≤ 100000) (h : CN R et pr p m1 m S = m) : CN R et pr p m2 m S = m := by
  unfold CN at h ⊢
  by_cases h8 : S 8 = 0
  · rw [if_pos h8] at h ⊢
    have hs1 := VS_start (more := m1) hV h8 (by omega) (by omega) (by omega)
    have hs2 := VS_start (more := m2) hV h8 (by omega) (by omega) (by omega)
    have v0 := hV.1
    exact MC_mono hR hp (Int.le_refl _) hp2 m _ _ _ _ hs2 hs1 (by omega) (by omega) (by omega) (by rw [START_8]; exact h8) (by rw [START_8]; exact h8) (GE_start (by rw [z_add (by omega) (by omega), z_add (by omega) (by omega)]; omega)) h
  · rw [if_neg h8] at h ⊢
    exact h
theorem CN_le {R : Nat → Int32} {et pr p m1 : Int32} {m : Nat} {S : Nat → Int32} : CN R et pr p m1 m S ≤ m := by
  unfold CN
  split
  · exact MC_le _ _
  · omega
theorem c_gp {t : Int} {N m k : Nat} {b : Mem} {p : Int32} (hN : 300 ≤ N) (ht : t ≤ 512) (hm : m ≤ 200) (hp : p = 0 ∨ p = 1) : ∀ (n i fu : Nat) (lo hi : Int32) (a : Mem), REL t a b → f_X6_sideOf 8 p a = k → 0 ≤ lo.toInt → lo.toInt < hi.toInt → hi.toInt ≤ 10000 → hi.toInt - lo.toInt ≤ ((2 ^ n : Nat) : Int) → i + n ≤ 20 → n + 1 ≤ fu → (lo = 0 ∨ CN (rl (b 1)) (b 1 4) (b 1 2) lo 0 m (sl (b 1) (oS p)) = m) → (hi.toInt = 10000 ∨ CN (rl (b 1)) (b 1 4) (b 1 2) hi 0 m (sl (b 1) (oS p)) < m) →
    ∃ lo' hi' a', f_X7_greatestPace_11 N 9 k (nI m) fu lo hi (nI i) a = some ((if lo' = 0 then -1 else lo'), a') ∧ REL t a' b ∧ 0 ≤ lo'.toInt ∧ hi'.toInt = lo'.toInt + 1 ∧ hi'.toInt ≤ 10000 ∧ (lo' = 0 ∨ CN (rl (b 1)) (b 1 4) (b 1 2) lo' 0 m (sl (b 1) (oS p)) = m) ∧ (hi'.toInt = 10000 ∨ CN (rl (b 1)) (b 1 4) (b 1 2) hi' 0 m (sl (b 1) (oS p)) < m) := by
  have e1 : (1 : Int32).toInt = 1 := rfl
  have e2 : (2 : Int32).toInt = 2 := rfl
  have e20 : (20 : Int32).toInt = 20 := rfl
  intro n
  induction n with
  | zero =>
    intro i fu lo hi a hr hk h0 hlt hhi hd hi20 hf hlo hhi2
    obtain ⟨f, rfl⟩ : ∃ f, fu = f + 1 := ⟨fu - 1, by omega⟩
    have hd1 : ((2 ^ 0 : Nat) : Int) = 1 := rfl
    rw [hd1] at hd
    have hs : (hi - lo).toInt = hi.toInt - lo.toInt := z_sub (by omega) (by omega)
    rw [f_X7_greatestPace_11_s, if_pos (show hi - lo ≤ 1 by rw [z_le, hs, e1]; omega)]
    refine ⟨lo, hi, a, ?_, hr, h0, by omega, hhi, hlo, hhi2⟩
    by_cases hz : lo = 0
    · simp only [if_pos hz, ite_self]
    · simp only [if_neg hz, ite_self]
  | succ n ih =>
    intro i fu lo hi a hr hk h0 hlt hhi hd hi20 hf hlo hhi2
    obtain ⟨f, rfl⟩ : ∃ f, fu = f + 1 := ⟨fu - 1, by omega⟩
    have hs : (hi - lo).toInt = hi.toInt - lo.toInt := z_sub (by omega) (by omega)
    have hpw : (2 ^ (n + 1) : Nat) = 2 ^ n * 2 := Nat.pow_succ 2 n
    by_cases hone : hi - lo ≤ 1
    · have h1 := z_le.1 hone
      rw [hs, e1] at h1
      rw [f_X7_greatestPace_11_s, if_pos hone]
      refine ⟨lo, hi, a, ?_, hr, h0, by omega, hhi, hlo, hhi2⟩
      by_cases hz : lo = 0
      · simp only [if_pos hz, ite_self]
      · simp only [if_neg hz, ite_self]
    · have h1 := z_nle hone
      rw [hs, e1] at h1
      have hadd : (lo + hi).toInt = lo.toInt + hi.toInt := z_add (by omega) (by omega)
      have hmid : ((lo + hi) / 2).toInt = (lo.toInt + hi.toInt) / 2 := by rw [z_div (by omega) (by decide), hadd, e2]
      rw [f_X7_greatestPace_11_s, if_neg (show ¬ (20 : Int32) ≤ nI i by rw [z_le, e20, z_nI (by omega)]; omega), if_neg hone]
      simp only [b_T, nI_1]
      generalize (lo + hi) / 2 = mid at hmid ⊢
      obtain ⟨⟨a', c1, c2, c3⟩, -⟩ := @both_mv t N m a b p mid 0 hN ht hm hr hp (by omega) (by decide)
      rw [hk] at c1 c3
      rw [c1, b_P2]
      have hle := @CN_le (rl (b 1)) (b 1 4) (b 1 2) mid 0 m (sl (b 1) (oS p))
      by_cases hc : CN (rl (b 1)) (b 1 4) (b 1 2) mid 0 m (sl (b 1) (oS p)) < m
      · rw [if_pos (show nI (CN (rl (b 1)) (b 1 4) (b 1 2) mid 0 m (sl (b 1) (oS p))) < nI m from nI_lt hc (by omega))]
        exact ih (i + 1) f lo mid a' c2 c3 h0 (by omega) (by omega) (by rw [hpw] at hd; omega) (by omega) (by omega) hlo (Or.inr hc)
      · rw [if_neg (show ¬ nI (CN (rl (b 1)) (b 1 4) (b 1 2) mid 0 m (sl (b 1) (oS p))) < nI m from nI_nlt (by omega) (by omega))]
        exact ih (i + 1) f mid hi a' c2 c3 (by omega) (by omega) hhi (by rw [hpw] at hd; omega) (by omega) (by omega) (Or.inr (by omega)) hhi2
theorem r_gp {t : Int} {N m : Nat} {a : Mem} {p lo : Int32} {b0 : Mem} (hN : 300 ≤ N) (ht : t ≤ 512) (hm : m ≤ 200) (hp : p = 0 ∨ p = 1) (h0 : 0 ≤ lo.toInt) (hlo9 : lo.toInt ≤ 9999) (hlo : lo = 0 ∨ CN (rl (b0 1)) (b0 1 4) (b0 1 2) lo 0 m (sl (b0 1) (oS p)) = m) (hno : ∀ x : Int32, lo.toInt < x.toInt → x.toInt ≤ 9999 → CN (rl (b0 1)) (b0 1 4) (b0 1 2) x 0 m (sl (b0 1) (oS p)) ≠ m) : ∀ (n fu : Nat) (x : Int32) (b : Mem), x.toInt = lo.toInt + n → x.toInt ≤ 9999 → n + 1 ≤ fu → REL t a b → FR5 b0 b → ∃ b', f_X9_greatestPace_4 N p (nI m) fu x b = some ((if lo = 0 then -1 else lo), b') ∧ REL t a b' ∧ FR5 b0 b' := by
  have e0 : (0 : Int32).toInt = 0 := rfl
  have e1 : (1 : Int32).toInt = 1 := rfl
  intro n
  induction n with
  | zero =>
    intro fu x b hx hx9 hf hr hfr
    obtain ⟨f, rfl⟩ : ∃ f, fu = f + 1 := ⟨fu - 1, by omega⟩
    have hxl : x = lo := z_eq.2 (by omega)
    subst hxl
    rw [f_X9_greatestPace_4_s]
    by_cases hz : x = 0
    · rw [if_pos (by rw [z_le, hz]; omega), if_pos hz]
      exact ⟨b, rfl, hr, hfr⟩
    · have hpos : 0 < x.toInt := by
        have : x.toInt ≠ 0 := fun h9 => hz (z_eq.2 (h9.trans e0.symm))
        omega
      rw [if_neg (show ¬ x ≤ 0 by rw [z_le, e0]; omega), if_neg hz]
      obtain ⟨-, b', c1, c2⟩ := @both_mv t N m a b p x 0 hN ht hm hr hp (by omega) (by decide)
      rw [hfr.1 1 (by omega)] at c1
      rcases hlo with h9 | h9
      · exact absurd h9 hz
      · rw [c1, b_P2, h9, if_pos rfl]
        exact ⟨b', rfl, (REL_FR5 hr c2).1, FR5_t hfr c2⟩
  | succ n ih =>
    intro fu x b hx hx9 hf hr hfr
    obtain ⟨f, rfl⟩ : ∃ f, fu = f + 1 := ⟨fu - 1, by omega⟩
    obtain ⟨-, b', c1, c2⟩ := @both_mv t N m a b p x 0 hN ht hm hr hp (by omega) (by decide)
    rw [hfr.1 1 (by omega)] at c1
    have hne := hno x (by omega) hx9
    have hle := @CN_le (rl (b0 1)) (b0 1 4) (b0 1 2) x 0 m (sl (b0 1) (oS p))
    have hne2 : ¬ nI (CN (rl (b0 1)) (b0 1 4) (b0 1 2) x 0 m (sl (b0 1) (oS p))) = nI m := by
      intro h9
      have := z_eq.1 h9
      rw [z_nI (by omega), z_nI (by omega)] at this
      omega
    rw [f_X9_greatestPace_4_s, if_neg (show ¬ x ≤ 0 by rw [z_le, e0]; omega), c1, b_P2, if_neg hne2]
    simp only [b_T]
    have hx1 : (x + (-1 : Int32)).toInt = x.toInt - 1 := by rw [z_m1, z_sub (by rw [e1]; omega) (by rw [e1]; omega), e1]
    have g1 : (x + (-1 : Int32)).toInt = lo.toInt + n := by
      rw [hx1]
      clear hno hlo c1 c2 hne hle hne2 ih hfr hr
      omega
    have g2 : (x + (-1 : Int32)).toInt ≤ 9999 := by
      rw [hx1]
      clear hno hlo c1 c2 hne hle hne2 ih hfr hr
      omega
    exact ih f _ b' g1 g2 (by omega) (REL_FR5 hr c2).1 (FR5_t hfr c2)
theorem both_gp {t : Int} {N m : Nat} {a b : Mem} {p : Int32} (hN : 20000 ≤ N) (ht : t ≤ 512) (hm : m ≤ 200) (h : REL t a b) (hp : p = 0 ∨ p = 1) : ∃ x a' b', f_X7_greatestPace N 9 (f_X6_sideOf 8 p a) (nI m) a = some (x, a') ∧ f_X9_greatestPace N p (nI m) b = some (x, b') ∧ REL t a' b' ∧ b' 0 0 = b 0 0 := by
  obtain ⟨k, hk, hk2, hS, hV⟩ := REL_side h hp
  obtain ⟨h03, hR, hpr, het, hVR⟩ := REL_rules h
  have ht0 : 0 ≤ t := by have := hV.2.2.1; omega
  obtain ⟨lo, hi, a', c1, c2, c3, c4, c5, c6, c7⟩ := @c_gp t N m k b p (by omega) ht hm hp 14 0 N 0 10000 a h hk (by decide) (by decide) (by decide) (by decide) (by omega) (by omega) (Or.inl rfl) (Or.inl rfl)
  have hno : ∀ x : Int32, lo.toInt < x.toInt → x.toInt ≤ 9999 → CN (rl (b 1)) (b 1 4) (b 1 2) x 0 m (sl (b 1) (oS p)) ≠ m := by
    intro x h1 h2 h3
    rcases c7 with h9 | h9
    · omega
    · have := @CN_pace t (rl (b 1)) (b 1 4) (b 1 2) hi x m (sl (b 1) (oS p)) ht ht0 hm hVR hV (by omega) (by omega) h2 h3
      omega
  obtain ⟨b', d1, d2, d3⟩ := @r_gp t N m a' p lo b (by omega) ht hm hp c3 (by omega) c6 hno (9999 - lo.toInt).toNat N 9999 b (by have : (9999 : Int32).toInt = 9999 := rfl; omega) (by decide) (by omega) c2 FR5_i
  refine ⟨_, a', b', ?_, d1, d2, (REL_FR5 c2 d3).2⟩
  unfold f_X7_greatestPace
  rw [hk]
  exact c1
theorem ag_lasts {t : Int} {N : Nat} {a b c : Mem} {p q : Int32} (hN : 20000 ≤ N) (ht : t ≤ 512) (h : REL t a b) : AGR t (f_L_lasts N p q a c) (f_X9_lasts N p q b) := by
  unfold f_L_lasts f_X8_lasts f_X9_lasts
  simp only [b_T, k_side, k_pace, q_side, q_pace, pass2, Nat.reduceAdd]
  by_cases hp : p = 0 ∨ p = 1
  · simp only [hp, reduceIte, i10, bXc_0]
    by_cases hq : 1 ≤ q.toInt ∧ q.toInt ≤ 9999
    · simp only [hq, and_self, reduceIte, i10, bXc_0, b_T2]
      obtain ⟨hr, h00⟩ := @REL_t t a b 0 h
      generalize up2 b 0 0 0 = b0 at hr h00 ⊢
      obtain ⟨⟨a', c1, c2, c3⟩, b', d1, d2⟩ := @both_mv t N 200 a b0 p q 0 (by omega) ht (by omega) hr hp (by omega) (by decide)
      have c1' : f_X7_movesAt N 9 (f_X6_sideOf 8 p a) q 0 200 a = _ := c1
      have d1' : f_X9_movesAt N p q 200 0 b0 = _ := d1
      rw [c1', b_P2, d1', b_P2]
      exact ag_ok rfl rfl (REL_FR5 c2 d2).1 (by rw [(REL_FR5 c2 d2).2, h00])
    · simp only [hq, reduceIte, eq_self, bXc_2, b_T2]
      exact ag_er rfl rfl h (by decide)
  · simp only [hp, reduceIte, eq_self, bXc_3, b_T2]
    exact ag_er rfl rfl h (by decide)
theorem ag_paceFor {t : Int} {N : Nat} {a b c : Mem} {p q : Int32} (hN : 20000 ≤ N) (ht : t ≤ 512) (h : REL t a b) : AGR t (f_L_paceFor N p q a c) (f_X9_paceFor N p q b) := by
  unfold f_L_paceFor f_X8_paceFor f_X9_paceFor
  simp only [b_T, k_side, k_pm, q_side, q_pm, pass2, Nat.reduceAdd]
  by_cases hp : p = 0 ∨ p = 1
  · simp only [hp, reduceIte, i10, bXc_0]
    by_cases hq : 1 ≤ q.toInt ∧ q.toInt ≤ 200
    · simp only [hq, and_self, reduceIte, i10, bXc_0, b_T2]
      obtain ⟨hr, h00⟩ := @REL_t t a b 0 h
      generalize up2 b 0 0 0 = b0 at hr h00 ⊢
      have hqn : q = nI q.toNatClampNeg := (z_of (by omega)).symm
      obtain ⟨x, a', b', c1, c2, c3, c4⟩ := @both_gp t N q.toNatClampNeg a b0 p hN ht (by rw [z_tn]; omega) hr hp
      rw [← hqn] at c1 c2
      rw [c1, b_P2, c2, b_P2]
      exact ag_ok rfl rfl c3 (by rw [c4, h00])
    · simp only [hq, reduceIte, eq_self, bXc_2, b_T2]
      exact ag_er rfl rfl h (by decide)
  · simp only [hp, reduceIte, eq_self, bXc_3, b_T2]
    exact ag_er rfl rfl h (by decide)
theorem ag_pace {t : Int} {N : Nat} {a b c : Mem} {p : Int32} (hN : 20000 ≤ N) (ht : t ≤ 512) (h : REL t a b) : AGR t (f_L_pace N p a c) (f_X9_pace N p b) := by
  have e0 : (0 : Int32).toInt = 0 := rfl
  have em1 : (-1 : Int32).toInt = -1 := rfl
  unfold f_L_pace f_X8_pace f_X9_pace
  simp only [b_T, k_side, q_side, pass1, Nat.reduceAdd]
  by_cases hp : p = 0 ∨ p = 1
  · simp only [hp, reduceIte, i10, bXc_0, b_T2]
    obtain ⟨hr, h00⟩ := @REL_t t a b 0 h
    generalize up2 b 0 0 0 = b0 at hr h00 ⊢
    obtain ⟨k, hk, hk2, hS, hV⟩ := REL_side hr hp
    obtain ⟨h03, hR, hpr, het, hVR⟩ := REL_rules hr
    have h5 := VR_5 hVR
    obtain ⟨v0, v2, v3, v4, v5, v6, v7, v8, v9, vf, vx, ve, vd⟩ := id hV
    have hper := hVR.at v2.1 v2.2
    have hc : f_X5_movesToPeriodEnd (f_X6_sideOf 8 p a) 9 a = if rn (rl (b0 1)) (sl (b0 1) (oS p) 2) 0 = 0 then -1 else rn (rl (b0 1)) (sl (b0 1) (oS p) 2) 0 - sl (b0 1) (oS p) 3 := by
      rw [hk, c_mtp (by rw [hS]; exact v2.1) (by rw [hS]; omega), hS, hR]
    rw [hc, r_mleft h03 hp v2.1 (by omega), b_P, b_P]
    by_cases hz : rn (rl (b0 1)) (sl (b0 1) (oS p) 2) 0 = 0
    · rw [if_pos hz, if_pos rfl, if_pos rfl]
      exact ag_ok rfl rfl hr h00
    · have hlt := vd hz
      rw [if_neg hz]
      have hs : (rn (rl (b0 1)) (sl (b0 1) (oS p) 2) 0 - sl (b0 1) (oS p) 3).toInt = (rn (rl (b0 1)) (sl (b0 1) (oS p) 2) 0).toInt - (sl (b0 1) (oS p) 3).toInt := z_sub (by omega) (by omega)
      generalize rn (rl (b0 1)) (sl (b0 1) (oS p) 2) 0 - sl (b0 1) (oS p) 3 = q at hs ⊢
      have hne : ¬ q = -1 := by rw [z_eq, em1]; omega
      rw [if_neg hne, if_neg hne]
      have hqn : q = nI q.toNatClampNeg := (z_of (by omega)).symm
      obtain ⟨x, a', b', c1, c2, c3, c4⟩ := @both_gp t N q.toNatClampNeg a b0 p hN ht (by rw [z_tn]; omega) hr hp
      rw [← hqn] at c1 c2
      rw [c1, b_P2, c2, b_P2]
      exact ag_ok rfl rfl c3 (by rw [c4, h00])
  · simp only [hp, reduceIte, eq_self, bXc_3, b_T2]
    exact ag_er rfl rfl h (by decide)
theorem c_lm {t : Int} {N m k : Nat} {b : Mem} {p pc : Int32} (hN : 300 ≤ N) (ht : t ≤ 512) (hm : m ≤ 200) (hp : p = 0 ∨ p = 1) (hpc : 0 ≤ pc.toInt ∧ pc.toInt ≤ 9999) : ∀ (n i fu : Nat) (lo hi : Int32) (a : Mem), REL t a b → f_X6_sideOf 8 p a = k → -1 ≤ lo.toInt → lo.toInt < hi.toInt → hi.toInt ≤ 100000 → hi.toInt - lo.toInt ≤ ((2 ^ n : Nat) : Int) → i + n ≤ 20 → n + 1 ≤ fu → (lo.toInt = -1 ∨ CN (rl (b 1)) (b 1 4) (b 1 2) pc lo m (sl (b 1) (oS p)) < m) → (hi.toInt = 100000 ∨ CN (rl (b 1)) (b 1 4) (b 1 2) pc hi m (sl (b 1) (oS p)) = m) →
    ∃ lo' hi' a', f_X7_leastMore_10 N 9 k (nI m) pc fu lo hi (nI i) a = some ((if hi' ≤ 99999 then hi' else -1), a') ∧ REL t a' b ∧ -1 ≤ lo'.toInt ∧ hi'.toInt = lo'.toInt + 1 ∧ hi'.toInt ≤ 100000 ∧ (lo'.toInt = -1 ∨ CN (rl (b 1)) (b 1 4) (b 1 2) pc lo' m (sl (b 1) (oS p)) < m) ∧ (hi'.toInt = 100000 ∨ CN (rl (b 1)) (b 1 4) (b 1 2) pc hi' m (sl (b 1) (oS p)) = m) := by
  have e1 : (1 : Int32).toInt = 1 := rfl
  have e2 : (2 : Int32).toInt = 2 := rfl
  have e20 : (20 : Int32).toInt = 20 := rfl
  have fin : ∀ (hi : Int32) (a : Mem), f_X7_leastMore_67 N hi a = some ((if hi ≤ 99999 then hi else -1), a) := by
    intro hi a
    unfold f_X7_leastMore_67
    split <;> rfl
  intro n
  induction n with
  | zero =>
    intro i fu lo hi a hr hk h0 hlt hhi hd hi20 hf hlo hhi2
    obtain ⟨f, rfl⟩ : ∃ f, fu = f + 1 := ⟨fu - 1, by omega⟩
    have hd1 : ((2 ^ 0 : Nat) : Int) = 1 := rfl
    rw [hd1] at hd
    have hs : (hi - lo).toInt = hi.toInt - lo.toInt := z_sub (by omega) (by omega)
    rw [f_X7_leastMore_10_s, if_pos (show hi - lo ≤ 1 by rw [z_le, hs, e1]; omega), fin, ite_self]
    exact ⟨lo, hi, a, rfl, hr, h0, by omega, hhi, hlo, hhi2⟩
  | succ n ih =>
    intro i fu lo hi a hr hk h0 hlt hhi hd hi20 hf hlo hhi2
    obtain ⟨f, rfl⟩ : ∃ f, fu = f + 1 := ⟨fu - 1, by omega⟩
    have hs : (hi - lo).toInt = hi.toInt - lo.toInt := z_sub (by omega) (by omega)
    have hpw : (2 ^ (n + 1) : Nat) = 2 ^ n * 2 := Nat.pow_succ 2 n
    by_cases hone : hi - lo ≤ 1
    · have h1 := z_le.1 hone
      rw [hs, e1] at h1
      rw [f_X7_leastMore_10_s, if_pos hone, fin, ite_self]
      exact ⟨lo, hi, a, rfl, hr, h0, by omega, hhi, hlo, hhi2⟩
    · have h1 := z_nle hone
      rw [hs, e1] at h1
      have hadd : (hi + lo).toInt = hi.toInt + lo.toInt := z_add (by omega) (by omega)
      have hmid : ((hi + lo) / 2).toInt = (hi.toInt + lo.toInt) / 2 := by rw [z_div (by omega) (by decide), hadd, e2]
      rw [f_X7_leastMore_10_s, if_neg (show ¬ (20 : Int32) ≤ nI i by rw [z_le, e20, z_nI (by omega)]; omega), if_neg hone]
      simp only [b_T, nI_1]
      generalize (hi + lo) / 2 = mid at hmid ⊢
      obtain ⟨⟨a', c1, c2, c3⟩, -⟩ := @both_mv t N m a b p pc mid hN ht hm hr hp hpc (by omega)
      rw [hk] at c1 c3
      rw [c1, b_P2]
      have hle := @CN_le (rl (b 1)) (b 1 4) (b 1 2) pc mid m (sl (b 1) (oS p))
      by_cases hc : CN (rl (b 1)) (b 1 4) (b 1 2) pc mid m (sl (b 1) (oS p)) < m
      · rw [if_pos (show nI (CN (rl (b 1)) (b 1 4) (b 1 2) pc mid m (sl (b 1) (oS p))) < nI m from nI_lt hc (by omega))]
        exact ih (i + 1) f mid hi a' c2 c3 (by omega) (by omega) hhi (by rw [hpw] at hd; omega) (by omega) (by omega) (Or.inr hc) hhi2
      · rw [if_neg (show ¬ nI (CN (rl (b 1)) (b 1 4) (b 1 2) pc mid m (sl (b 1) (oS p))) < nI m from nI_nlt (by omega) (by omega))]
        exact ih (i + 1) f lo mid a' c2 c3 h0 (by omega) (by omega) (by rw [hpw] at hd; omega) (by omega) (by omega) hlo (Or.inr (by omega))
theorem r_lm {t : Int} {N m : Nat} {a : Mem} {p pc hi : Int32} {b0 : Mem} (hN : 300 ≤ N) (ht : t ≤ 512) (hm : m ≤ 200) (hp : p = 0 ∨ p = 1) (hpc : 0 ≤ pc.toInt ∧ pc.toInt ≤ 9999) (hhi : hi.toInt ≤ 100000) (hhi2 : hi.toInt = 100000 ∨ CN (rl (b0 1)) (b0 1 4) (b0 1 2) pc hi m (sl (b0 1) (oS p)) = m) (hno : ∀ x : Int32, 0 ≤ x.toInt → x.toInt < hi.toInt → CN (rl (b0 1)) (b0 1 4) (b0 1 2) pc x m (sl (b0 1) (oS p)) ≠ m) : ∀ (n fu : Nat) (x : Int32) (b : Mem), x.toInt + n = hi.toInt → 0 ≤ x.toInt → n + 1 ≤ fu → REL t a b → FR5 b0 b → ∃ b', f_X9_needs_35 N p (nI m) pc fu x b = some ((if hi ≤ 99999 then hi else -1), b') ∧ REL t a b' ∧ FR5 b0 b' := by
  have e1 : (1 : Int32).toInt = 1 := rfl
  have e9 : (99999 : Int32).toInt = 99999 := rfl
  intro n
  induction n with
  | zero =>
    intro fu x b hx hx0 hf hr hfr
    obtain ⟨f, rfl⟩ : ∃ f, fu = f + 1 := ⟨fu - 1, by omega⟩
    have hxl : x = hi := z_eq.2 (by omega)
    subst hxl
    rw [f_X9_needs_35_s]
    by_cases hz : x ≤ 99999
    · have hz2 := z_le.1 hz
      rw [e9] at hz2
      rw [if_neg (show ¬ (99999 : Int32) < x by rw [z_lt, e9]; omega), if_pos hz]
      obtain ⟨-, b', c1, c2⟩ := @both_mv t N m a b p pc x hN ht hm hr hp hpc (by omega)
      rw [hfr.1 1 (by omega)] at c1
      rcases hhi2 with h9 | h9
      · omega
      · rw [c1, b_P2, h9, if_pos rfl]
        exact ⟨b', rfl, (REL_FR5 hr c2).1, FR5_t hfr c2⟩
    · have hz2 := z_nle hz
      rw [e9] at hz2
      rw [if_pos (show (99999 : Int32) < x by rw [z_lt, e9]; omega), if_neg hz]
      exact ⟨b, rfl, hr, hfr⟩
  | succ n ih =>
    intro fu x b hx hx0 hf hr hfr
    obtain ⟨f, rfl⟩ : ∃ f, fu = f + 1 := ⟨fu - 1, by omega⟩
    obtain ⟨-, b', c1, c2⟩ := @both_mv t N m a b p pc x hN ht hm hr hp hpc (by omega)
    rw [hfr.1 1 (by omega)] at c1
    have hne := hno x hx0 (by omega)
    have hle := @CN_le (rl (b0 1)) (b0 1 4) (b0 1 2) pc x m (sl (b0 1) (oS p))
    have hne2 : ¬ nI (CN (rl (b0 1)) (b0 1 4) (b0 1 2) pc x m (sl (b0 1) (oS p))) = nI m := by
      intro h9
      have := z_eq.1 h9
      rw [z_nI (by omega), z_nI (by omega)] at this
      omega
    rw [f_X9_needs_35_s, if_neg (show ¬ (99999 : Int32) < x by rw [z_lt, e9]; omega), c1, b_P2, if_neg hne2]
    simp only [b_T]
    have hx1 : (x + (1 : Int32)).toInt = x.toInt + 1 := by rw [z_add (by rw [e1]; omega) (by rw [e1]; omega), e1]
    have g1 : (x + (1 : Int32)).toInt + n = hi.toInt := by
      rw [hx1]
      clear hno hhi2 c1 c2 hne hle hne2 ih hfr hr
      omega
    have g2 : 0 ≤ (x + (1 : Int32)).toInt := by
      rw [hx1]
      clear hno hhi2 c1 c2 hne hle hne2 ih hfr hr
      omega
    exact ih f _ b' g1 g2 (by omega) (REL_FR5 hr c2).1 (FR5_t hfr c2)

