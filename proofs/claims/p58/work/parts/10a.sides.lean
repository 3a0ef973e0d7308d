def HH (b : Mem) (s : Int32) : Int32 := if nb (b 0 21) = 0 then 0 else if b 0 22 = s then b 0 23 else 0
theorem put2 {N : Nat} {b : Mem} {v : Int32} (h3 : b 0 3 = 1) : f_X9_put N 0 0 v b = some (upR b 2 (upd (b 2) 37 v)) ∧ f_X9_put N 0 4 v b = some (upR b 2 (upd (b 2) 41 v)) ∧ f_X9_put N 1 0 v b = some (upR b 2 (upd (b 2) 54 v)) ∧ f_X9_put N 1 4 v b = some (upR b 2 (upd (b 2) 58 v)) := by
  unfold f_X9_put
  rw [row2 h3]
  exact ⟨rfl, rfl, rfl, rfl⟩
theorem r_sides {N : Nat} {b : Mem} (hN : 4 ≤ N) (h3 : b 0 3 = 1) : ∃ b1, f_X9_setSides N b = some b1 ∧ (∀ k, k ≠ 2 → b1 k = b k) ∧ b1 2 = upd (upd (upd (upd (b 2) 37 (b 2 13 + HH b 0)) 41 (b 2 3)) 54 (b 2 13 + HH b 1)) 58 (b 2 3) := by
  have k3 : (3 : Int32).toNatClampNeg = 3 := rfl
  have r02 : ∀ (m : Mem) (f : Nat → Int32), upR m 2 f 0 = m 0 := fun m f => R_n (by omega)
  have hof : ∀ m : Mem, m 0 3 = 1 → f_X9_ofPeriod N 0 1 m = some (m 2 13) := fun m hm => op2 (c := 0) (w := 1) hm (by omega) (by omega)
  have s0 : ∀ (fu : Nat) (m : Mem), m 0 3 = 1 → f_X9_setSides_2 N (fu + 1) 0 m = f_X9_setSides_2 N fu 1 (upR m 2 (upd (upd (m 2) 37 (m 2 13 + HH m 0)) 41 (m 2 3))) := by
    intro fu m hm
    have hp : ∀ v : Int32, (bP (f_X9_put N 0 0 v m) fun b9 => bP (f_X9_put N 0 4 (b9 (rowM (b9 0 3)) ((3 : Int32)).toNatClampNeg) b9) fun b12 => bT ((0 : Int32) + (1 : Int32)) fun x14 => f_X9_setSides_2 N fu x14 b12) = f_X9_setSides_2 N fu 1 (upR m 2 (upd (upd (m 2) 37 v) 41 (m 2 3))) := by
      intro v
      have hm2 : upR m 2 (upd (m 2) 37 v) 0 3 = 1 := by rw [r02]; exact hm
      rw [(put2 hm).1, b_P, row2 hm2, k3, (put2 hm2).2.1, b_P, b_T, R_s, R_R, u_n (by omega)]
      rfl
    rw [f_X9_setSides_2_s, if_neg (show ¬ (2 : Int32) ≤ 0 by decide), hof m hm, b_P]
    unfold HH
    by_cases h1 : nb (m 0 21) = 0
    · rw [if_pos h1, if_pos h1]
      exact hp _
    · rw [if_neg h1, if_neg h1]
      by_cases h2 : m 0 22 = 0
      · rw [if_pos h2, if_pos h2]
        exact hp _
      · rw [if_neg h2, if_neg h2]
        exact hp _
  have s1 : ∀ (fu : Nat) (m : Mem), m 0 3 = 1 → f_X9_setSides_2 N (fu + 1) 1 m = f_X9_setSides_2 N fu 2 (upR m 2 (upd (upd (m 2) 54 (m 2 13 + HH m 1)) 58 (m 2 3))) := by
    intro fu m hm
    have hp : ∀ v : Int32, (bP (f_X9_put N 1 0 v m) fun b9 => bP (f_X9_put N 1 4 (b9 (rowM (b9 0 3)) ((3 : Int32)).toNatClampNeg) b9) fun b12 => bT ((1 : Int32) + (1 : Int32)) fun x14 => f_X9_setSides_2 N fu x14 b12) = f_X9_setSides_2 N fu 2 (upR m 2 (upd (upd (m 2) 54 v) 58 (m 2 3))) := by
      intro v
      have hm2 : upR m 2 (upd (m 2) 54 v) 0 3 = 1 := by rw [r02]; exact hm
      rw [(put2 hm).2.2.1, b_P, row2 hm2, k3, (put2 hm2).2.2.2, b_P, b_T, R_s, R_R, u_n (by omega)]
      rfl
    rw [f_X9_setSides_2_s, if_neg (show ¬ (2 : Int32) ≤ 1 by decide), hof m hm, b_P]
    unfold HH
    by_cases h1 : nb (m 0 21) = 0
    · rw [if_pos h1, if_pos h1]
      exact hp _
    · rw [if_neg h1, if_neg h1]
      by_cases h2 : m 0 22 = 1
      · rw [if_pos h2, if_pos h2]
        exact hp _
      · rw [if_neg h2, if_neg h2]
        exact hp _
  obtain ⟨f, hf⟩ : ∃ f, N = f + 1 + 1 + 1 := ⟨N - 3, by omega⟩
  unfold f_X9_setSides
  have e : f_X9_setSides_2 N N 0 b = f_X9_setSides_2 N (f + 1 + 1 + 1) 0 b := by rw [← hf]
  have hA : HH (upR b 2 (upd (upd (b 2) 37 (b 2 13 + HH b 0)) 41 (b 2 3))) 1 = HH b 1 := by
    unfold HH
    rw [r02]
  rw [e, s0 _ b h3, s1 _ _ (by rw [r02]; exact h3), f_X9_setSides_2_s, if_pos (show (2 : Int32) ≤ 2 by decide), hA, R_s, R_R]
  refine ⟨_, rfl, fun k z => R_n z, ?_⟩
  rw [R_s, u_n (by omega), u_n (by omega), u_n (by omega), u_n (by omega)]

