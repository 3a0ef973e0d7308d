theorem z_lgl (x y : Int64) : (lg_cmp x y < 0) ↔ x.toInt < y.toInt := by
  unfold lg_cmp
  simp only [gt_iff_lt, Int64.lt_iff_toInt_lt, ← Int64.toInt_inj]
  repeat' split
  all_goals (constructor <;> intro hh <;> first | omega | decide | exact absurd hh (by decide))
theorem z_lgg (x y : Int64) : (0 < lg_cmp x y) ↔ y.toInt < x.toInt := by
  unfold lg_cmp
  simp only [gt_iff_lt, Int64.lt_iff_toInt_lt, ← Int64.toInt_inj]
  repeat' split
  all_goals (constructor <;> intro hh <;> first | omega | decide | exact absurd hh (by decide))
theorem z_lg0 (x : Int64) : lg_cmp x x = 0 := by
  unfold lg_cmp
  rw [if_neg (by rw [gt_iff_lt, Int64.lt_iff_toInt_lt]; omega), if_pos rfl]
theorem q_in {x l h : Int64} {b : Mem} : f_X9_in x l h b = if l.toInt ≤ x.toInt ∧ x.toInt ≤ h.toInt then 1 else 0 := by
  unfold f_X9_in
  by_cases h1 : x.toInt < l.toInt
  · rw [if_pos ((z_lgl x l).2 h1), if_neg (by omega)]
  · rw [if_neg (fun h9 => h1 ((z_lgl x l).1 h9))]
    by_cases h2 : h.toInt < x.toInt
    · rw [if_pos ((z_lgg x h).2 h2), if_neg (by omega)]
    · rw [if_neg (fun h9 => h2 ((z_lgg x h).1 h9)), if_pos (by omega)]
theorem z_01 {p : Int32} : (0 ≤ p.toInt ∧ p.toInt ≤ 1) ↔ (p = 0 ∨ p = 1) := by
  have e0 : (0 : Int32).toInt = 0 := rfl
  have e1 : (1 : Int32).toInt = 1 := rfl
  rw [z_eq, z_eq, e0, e1]
  omega
theorem q_side {p : Int32} {b : Mem} : f_X9_isSide p b = if p = 0 ∨ p = 1 then 1 else 0 := by
  unfold f_X9_isSide
  rw [b_T, q_in, Int32.toInt_toInt64]
  have e0 : (0 : Int64).toInt = 0 := rfl
  have e1 : (1 : Int64).toInt = 1 := rfl
  rw [e0, e1]
  by_cases h : p = 0 ∨ p = 1
  · rw [if_pos h, if_pos (z_01.2 h)]
  · rw [if_neg h, if_neg (fun h9 => h (z_01.1 h9))]
theorem q_keep {p : Int32} {b : Mem} : f_X9_isKeep p b = if p = 0 ∨ p = 1 then 1 else 0 := q_side
theorem k_two {p : Int32} : (if p < 0 then (3 : Nat) else (if p < (2 : Int32) then (0) else (3))) = if p = 0 ∨ p = 1 then 0 else 3 := by
  have e0 : (0 : Int32).toInt = 0 := rfl
  have e2 : (2 : Int32).toInt = 2 := rfl
  by_cases h : p = 0 ∨ p = 1
  · rw [if_pos h]
    have := z_01.2 h
    rw [if_neg (by rw [z_lt, e0]; omega), if_pos (by rw [z_lt, e2]; omega)]
  · rw [if_neg h]
    have := fun h9 => h (z_01.1 h9)
    by_cases h1 : p < 0
    · rw [if_pos h1]
    · rw [if_neg h1]
      have h2 := z_nlt h1
      rw [if_neg]
      intro h3
      have h4 := z_lt.1 h3
      rw [e2] at h4
      rw [e0] at h2
      exact this ⟨by omega, by omega⟩
theorem k_side {p : Int32} {a : Mem} : f_X8_requireSide p a = if p = 0 ∨ p = 1 then 0 else 3 := k_two
theorem k_slot {p : Int32} {a : Mem} : f_X8_requireSlot p a = if p = 0 ∨ p = 1 then 0 else 3 := k_two
theorem k_rng {p lo hi : Int32} {x y : Nat} : (if p < lo then x else (if p ≤ hi then y else x)) = if lo.toInt ≤ p.toInt ∧ p.toInt ≤ hi.toInt then y else x := by
  by_cases h1 : p < lo
  · rw [if_pos h1, if_neg (fun h => by have := z_lt.1 h1; omega)]
  · rw [if_neg h1]
    have h2 := z_nlt h1
    by_cases h3 : p ≤ hi
    · have := z_le.1 h3
      rw [if_pos h3, if_pos ⟨by omega, by omega⟩]
    · have := z_nle h3
      rw [if_neg h3, if_neg (fun h => by omega)]
theorem k_pace {p : Int32} {a : Mem} : f_X8_requirePace p a = if 1 ≤ p.toInt ∧ p.toInt ≤ 9999 then 0 else 2 := k_rng
theorem k_pm {p : Int32} {a : Mem} : f_X8_requirePaceMoves p a = if 1 ≤ p.toInt ∧ p.toInt ≤ 200 then 0 else 2 := k_rng
theorem k_ticks {p : Int32} {a : Mem} : f_X8_requireTicks p a = if 0 ≤ p.toInt ∧ p.toInt ≤ 9999 then 0 else 2 := k_rng
theorem q_pace {p : Int32} {b : Mem} : f_X9_isPace p b = if 1 ≤ p.toInt ∧ p.toInt ≤ 9999 then 1 else 0 := by
  unfold f_X9_isPace
  rw [b_T, q_in, Int32.toInt_toInt64]
  rfl
theorem q_pm {p : Int32} {b : Mem} : f_X9_areMoves p b = if 1 ≤ p.toInt ∧ p.toInt ≤ 200 then 1 else 0 := by
  unfold f_X9_areMoves
  rw [b_T, q_in, Int32.toInt_toInt64]
  rfl
theorem q_per {N : Nat} {p : Int32} {b : Mem} (h1 : 1 ≤ (b 1 2).toInt) (h2 : (b 1 2).toInt ≤ 5) : f_X9_isPeriod N p b = some (if 0 ≤ p.toInt ∧ p.toInt < (b 1 2).toInt then 1 else 0) := by
  have e1 : (1 : Int32).toInt = 1 := rfl
  have e0 : (0 : Int64).toInt = 0 := rfl
  unfold f_X9_isPeriod
  rw [b_T, q_in, Int32.toInt_toInt64, Int32.toInt_toInt64, e0]
  have e2 : (b 1 (2 : Int32).toNatClampNeg - 1).toInt = (b 1 2).toInt - 1 := by
    show (b 1 2 - 1).toInt = _
    rw [z_sub (by rw [e1]; omega) (by rw [e1]; omega), e1]
  rw [e2]
  by_cases h : 0 ≤ p.toInt ∧ p.toInt < (b 1 2).toInt
  · rw [if_pos h, if_pos (by omega)]
  · rw [if_neg h, if_neg (by omega)]
theorem k_per {p : Int32} {a : Mem} : f_X8_requirePeriod p a = if 0 ≤ p.toInt ∧ p.toInt < (a 9 1).toInt then 0 else 3 := by
  have e0 : (0 : Int32).toInt = 0 := rfl
  unfold f_X8_requirePeriod
  by_cases h1 : p < 0
  · have := z_lt.1 h1
    rw [if_pos h1, if_neg (by omega)]
  · have := z_nlt h1
    rw [if_neg h1]
    by_cases h2 : p < a (8 + 1) 1
    · have h3 := z_lt.1 h2
      rw [if_pos h2, if_pos ⟨by omega, h3⟩]
    · have h3 := z_nlt h2
      rw [if_neg h2, if_neg (fun h => h3 h.2)]
theorem pass3 {x y z : Int32} {b : Mem} : f_X9_passes3 x y z b = if x = 0 then (0, up2 b 0 0 1) else if y = 0 then (0, up2 b 0 0 2) else if z = 0 then (0, up2 b 0 0 3) else (1, up2 b 0 0 0) := by
  have key : ∀ v : Int32, f_X9_passes3_26 b v = if v = 0 then (1, up2 b 0 0 v) else (0, up2 b 0 0 v) := by
    intro v
    unfold f_X9_passes3_26
    rw [b_T]
    have e : up2 b 0 0 v 0 0 = v := by rw [p2_s, u_s]
    rw [e]
  unfold f_X9_passes3
  rw [key, key, key, key]
  rfl
theorem pass2 {x y : Int32} {b : Mem} : f_X9_passes2 x y b = if x = 0 then (0, up2 b 0 0 1) else if y = 0 then (0, up2 b 0 0 2) else (1, up2 b 0 0 0) := by
  unfold f_X9_passes2
  rw [pass3]
  by_cases h : x = 0
  · simp only [if_pos h]; rfl
  · by_cases h2 : y = 0
    · simp only [if_neg h, if_pos h2]; rfl
    · simp only [if_neg h, if_neg h2]; rfl
theorem pass1 {x : Int32} {b : Mem} : f_X9_passes x b = if x = 0 then (0, up2 b 0 0 1) else (1, up2 b 0 0 0) := by
  unfold f_X9_passes
  rw [pass3]
  by_cases h : x = 0
  · simp only [if_pos h]; rfl
  · simp only [if_neg h]; rfl
theorem bXc_0 {α : Type} {k : Option (Except Nat α)} : bXc 0 k = k := rfl
theorem bXc_2 {α : Type} {k : Option (Except Nat α)} : bXc 2 k = some (.error 2) := rfl
theorem bXc_3 {α : Type} {k : Option (Except Nat α)} : bXc 3 k = some (.error 3) := rfl
theorem REL_t {t : Int} {a b : Mem} {v : Int32} (h : REL t a b) : REL t a (up2 b 0 0 v) ∧ up2 b 0 0 v 0 0 = v := ⟨REL_bw (by omega) h, by rw [p2_s, u_s]⟩
def AGR (u : Int) (L : Option (Int32 × Mem × Mem)) (M : Option (Int32 × Mem)) : Prop := ∃ x a' c' y b', L = some (x, a', c') ∧ M = some (y, b') ∧ REL u a' b' ∧ b' 0 0 = x ∧ (x = 0 → c' 0 0 = y)
theorem ag_ok {u : Int} {L : Option (Int32 × Mem × Mem)} {M : Option (Int32 × Mem)} {a' b' c : Mem} {q : Int32} (h1 : L = some (0, a', upR c 0 (upd (c 0) 0 q))) (h2 : M = some (q, b')) (h3 : REL u a' b') (h4 : b' 0 0 = 0) : AGR u L M := ⟨0, a', _, q, b', h1, h2, h3, h4, fun _ => by rw [R_s, u_s]⟩
theorem ag_er {u : Int} {L : Option (Int32 × Mem × Mem)} {M : Option (Int32 × Mem)} {a b c : Mem} {k y : Int32} (h1 : L = some (k, a, c)) (h2 : M = some (y, up2 b 0 0 k)) (h3 : REL u a b) (h4 : k ≠ 0) : AGR u L M := ⟨k, a, c, y, _, h1, h2, (REL_t h3).1, (REL_t h3).2, fun h => absurd h h4⟩
theorem glue2 {u : Int} {a b c : Mem} {x y : Int32} {a' b' : Mem} (h1 : x = y) (h2 : REL u a' b') : ∃ a9 b9 c9, (if x = y then (some (a', b', c)) else (none : Option (Mem × Mem × Mem))) = some (a9, b9, c9) ∧ REL u a9 b9 := ⟨a', b', c, if_pos h1, h2⟩
theorem REL_side {t : Int} {a b : Mem} {p : Int32} (h : REL t a b) (hp : p = 0 ∨ p = 1) : ∃ k, f_X6_sideOf 8 p a = k ∧ (k = 13 ∨ k = 15) ∧ sI a k = sl (b 1) (oS p) ∧ VS (120000 * (t + 1)) (9999 * t) t (rl (b 1)) (b 1 2) (b 1 4) (sl (b 1) (oS p)) := by
  obtain ⟨-, ⟨w, -, s1, s2, -, -⟩, ⟨-, -, v1, v2, -⟩, -⟩ := h
  rcases hp with rfl | rfl
  · exact ⟨_, rfl, sdr_or, s1, v1⟩
  · exact ⟨_, rfl, sdr_or, s2, v2⟩
theorem REL_rules {t : Int} {a b : Mem} (h : REL t a b) : b 0 3 = 0 ∧ rI a 9 = rl (b 1) ∧ a 9 1 = b 1 2 ∧ a 9 3 = b 1 4 ∧ VR (rl (b 1)) (b 1 2) (b 1 4) := by
  obtain ⟨h3, ⟨w, ⟨h0, h1, h2, h3', h4, h5, h6, h7, h9, h10, h11, hR⟩, s1, s2, -, -⟩, ⟨-, hv, v1, v2, -⟩, -⟩ := h
  exact ⟨h3, hR, h2, h4, hv⟩

