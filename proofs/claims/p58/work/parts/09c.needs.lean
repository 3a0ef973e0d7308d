theorem lm_consts : (-1 : Int32).toInt = -1 ∧ (100000 : Int32).toInt = 100000 ∧ ((2 ^ 17 : Nat) : Int) = 131072 ∧ (0 : Int32).toInt = 0 := by
  refine ⟨by decide, by decide, by decide, by decide⟩
theorem both_lm1 {t : Int} {N m k : Nat} {a b : Mem} {p pc : Int32} (hN : 300 ≤ N) (ht : t ≤ 512) (hm : m ≤ 200) (h : REL t a b) (hp : p = 0 ∨ p = 1) (hk : f_X6_sideOf 8 p a = k) (hpc : 0 ≤ pc.toInt ∧ pc.toInt ≤ 9999) : ∃ lo' hi' a', f_X7_leastMore N 9 k (nI m) pc a = some ((if hi' ≤ 99999 then hi' else -1), a') ∧ REL t a' b ∧ -1 ≤ lo'.toInt ∧ hi'.toInt = lo'.toInt + 1 ∧ hi'.toInt ≤ 100000 ∧ (lo'.toInt = -1 ∨ CN (rl (b 1)) (b 1 4) (b 1 2) pc lo' m (sl (b 1) (oS p)) < m) ∧ (hi'.toInt = 100000 ∨ CN (rl (b 1)) (b 1 4) (b 1 2) pc hi' m (sl (b 1) (oS p)) = m) := by
  obtain ⟨y1, y2, y3, y4⟩ := lm_consts
  have hh := @c_lm t N m k b p pc hN ht hm hp hpc 17 0 N (-1) 100000 a h hk (by rw [y1]; omega) (by rw [y1, y2]; omega) (by rw [y2]; omega) (by rw [y1, y2, y3]; omega) (by omega) (by omega) (Or.inl y1) (Or.inl y2)
  rw [nI_0] at hh
  unfold f_X7_leastMore
  exact hh
theorem both_lm {t : Int} {N m : Nat} {a b : Mem} {p pc : Int32} (hN : 200000 ≤ N) (ht : t ≤ 512) (hm : m ≤ 200) (h : REL t a b) (hp : p = 0 ∨ p = 1) (hpc : 1 ≤ pc.toInt ∧ pc.toInt ≤ 9999) : ∃ x a' b', f_X7_leastMore N 9 (f_X6_sideOf 8 p a) (nI m) pc a = some (x, a') ∧ f_X9_needs_35 N p (nI m) pc N 0 b = some (x, b') ∧ REL t a' b' ∧ b' 0 0 = b 0 0 := by
  obtain ⟨k, hk, hk2, hS, hV⟩ := REL_side h hp
  obtain ⟨h03, hR, hpr, het, hVR⟩ := REL_rules h
  have ht0 : 0 ≤ t := by have := hV.2.2.1; omega
  obtain ⟨lo, hi, a', c1, c2, c3, c4, c5, c6, c7⟩ := @both_lm1 t N m k a b p pc (by omega) ht hm h hp hk ⟨by omega, by omega⟩
  have hno : ∀ x : Int32, 0 ≤ x.toInt → x.toInt < hi.toInt → CN (rl (b 1)) (b 1 4) (b 1 2) pc x m (sl (b 1) (oS p)) ≠ m := by
    intro x h1 h2 h3
    rcases c6 with h9 | h9
    · omega
    · have z1 : x.toInt ≤ lo.toInt := by omega
      have z2 : lo.toInt ≤ 100000 := by omega
      have := @CN_more t (rl (b 1)) (b 1 4) (b 1 2) pc x lo m (sl (b 1) (oS p)) ht ht0 hm hVR hV (by omega) hpc.2 h1 z1 z2 h3
      omega
  have e00 : (0 : Int32).toInt = 0 := rfl
  have w1 : (0 : Int32).toInt + (hi.toInt.toNat : Int) = hi.toInt := by
    clear hno c1 c6 c7
    omega
  have w2 : hi.toInt.toNat + 1 ≤ N := by
    clear hno c1 c6 c7
    omega
  have w3 : 0 ≤ (0 : Int32).toInt := by omega
  obtain ⟨b', d1, d2, d3⟩ := @r_lm t N m a' p pc hi b (by omega) ht hm hp ⟨by omega, by omega⟩ c5 c7 hno hi.toInt.toNat N 0 b w1 w3 w2 c2 FR5_i
  rw [hk]
  exact ⟨_, a', b', c1, d1, d2, (REL_FR5 c2 d3).2⟩
theorem bXc_0n {α : Type} {k : Option (Except Nat α)} : bXc 0 k = k := if_pos rfl
theorem bXc_2n {α : Type} {k : Option (Except Nat α)} : bXc 2 k = some (.error 2) := if_neg (by decide)
theorem bXc_3n {α : Type} {k : Option (Except Nat α)} : bXc 3 k = some (.error 3) := if_neg (by decide)
theorem ag_needs {t : Int} {N : Nat} {a b c : Mem} {p q pc : Int32} (hN : 200000 ≤ N) (ht : t ≤ 512) (h : REL t a b) : AGR t (f_L_needs N p q pc a c) (f_X9_needs N p q pc b) := by
  unfold f_L_needs f_X8_needs f_X9_needs f_X9_needs_23 f_X9_needs_24
  simp only [b_T, k_side, k_pm, k_pace, q_side, q_pm, q_pace, pass2, Nat.reduceAdd]
  by_cases hp : p = 0 ∨ p = 1
  · simp only [hp, reduceIte, i10, bXc_0n]
    by_cases hq : 1 ≤ q.toInt ∧ q.toInt ≤ 200
    · simp only [hq, and_self, reduceIte, i10, bXc_0n]
      by_cases hpc : 1 ≤ pc.toInt ∧ pc.toInt ≤ 9999
      · simp only [hpc, and_self, reduceIte, i10, bXc_0n, b_T2]
        obtain ⟨hr, h00⟩ := @REL_t t a b 0 h
        generalize up2 b 0 0 0 = b0 at hr h00 ⊢
        have hqn : q = nI q.toNatClampNeg := (z_of (by omega)).symm
        have hqm : q.toNatClampNeg ≤ 200 := by rw [z_tn]; omega
        obtain ⟨x, a', b', c1, c2, c3, c4⟩ := @both_lm t N q.toNatClampNeg a b0 p pc hN ht hqm hr hp hpc
        rw [← hqn] at c1 c2
        rw [c1, b_P2, c2]
        exact ag_ok rfl rfl c3 (by rw [c4, h00])
      · simp only [hpc, reduceIte, eq_self, i10, bXc_2n, b_T2]
        exact ag_er rfl rfl h (by decide)
    · simp only [hq, reduceIte, eq_self, i10, bXc_2n, b_T2]
      exact ag_er rfl rfl h (by decide)
  · simp only [hp, reduceIte, eq_self, bXc_3n, b_T2]
    refine ag_er (k := 1) (y := 0) rfl ?_ h (by decide)
    repeat' split
    all_goals rfl

