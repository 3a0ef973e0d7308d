theorem r_lay {N : Nat} : ∀ (d x fu : Nat) (b : Mem), b 0 3 = 1 → x + d = 311 → d + 1 ≤ fu → ∃ b1, f_X9_layPlain_2 N fu (nI x) b = some b1 ∧ (∀ k, k ≠ 2 → b1 k = b k) ∧ ∀ j, j < 311 → b1 2 j = if j = 5 ∨ j = 9 ∨ j = 11 then -1 else if x ≤ j then 0 else b 2 j := by
  have r02 : ∀ (m : Mem) (f : Nat → Int32), upR m 2 f 0 = m 0 := fun m f => R_n (by omega)
  have rm1 : rowM 1 = 2 := rfl
  have k5 : (5 : Int32).toNatClampNeg = 5 := rfl
  have k9 : (9 : Int32).toNatClampNeg = 9 := rfl
  have k11 : (11 : Int32).toNatClampNeg = 11 := rfl
  have e311 : (311 : Int32).toInt = 311 := rfl
  intro d
  induction d with
  | zero =>
    intro x fu b h3 hx hf
    obtain ⟨f, rfl⟩ : ∃ f, fu = f + 1 := ⟨fu - 1, by omega⟩
    have hx2 : x = 311 := by omega
    subst hx2
    rw [f_X9_layPlain_2_s, if_pos (show (311 : Int32) ≤ nI 311 by decide)]
    simp only [b_T, r02, h3, rm1, R_s, R_R, k5, k9, k11]
    refine ⟨_, rfl, fun k z => R_n z, fun j hj => ?_⟩
    rw [R_s]
    unfold upd
    by_cases j11 : j = 11
    · rw [if_pos j11, if_pos (by omega)]
    · rw [if_neg j11]
      by_cases j9 : j = 9
      · rw [if_pos j9, if_pos (by omega)]
      · rw [if_neg j9]
        by_cases j5 : j = 5
        · rw [if_pos j5, if_pos (by omega)]
        · rw [if_neg j5, if_neg (by omega), if_neg (by omega)]
  | succ d ih =>
    intro x fu b h3 hx hf
    obtain ⟨f, rfl⟩ : ∃ f, fu = f + 1 := ⟨fu - 1, by omega⟩
    rw [f_X9_layPlain_2_s, if_neg (show ¬ (311 : Int32) ≤ nI x by rw [z_le, z_nI (by omega), e311]; omega), z_cN (by omega) (by omega)]
    simp only [b_T]
    rw [row2 h3, nI_1, z_tN (by omega)]
    obtain ⟨b1, w1, w2, w3⟩ := ih (x + 1) f (upR b 2 (upd (b 2) x 0)) (by rw [r02]; exact h3) (by omega) (by omega)
    refine ⟨b1, w1, fun k z => by rw [w2 k z, R_n z], fun j hj => ?_⟩
    rw [w3 j hj, R_s]
    by_cases j1 : j = 5 ∨ j = 9 ∨ j = 11
    · rw [if_pos j1, if_pos j1]
    · rw [if_neg j1, if_neg j1]
      by_cases j2 : j = x
      · subst j2
        rw [if_neg (by omega), if_pos (by omega), u_s]
      · by_cases j3 : x ≤ j
        · rw [if_pos (by omega), if_pos j3]
        · rw [if_neg (by omega), if_neg j3, u_n j2]

