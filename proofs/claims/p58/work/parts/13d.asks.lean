/-! the asks' answers out of the row; the acts all keep it -/
theorem a_prop {t : Int} {a b : Mem} (h : REL t a b) : ∀ k, k < 12 → f_X8_property (nI k) a = some (.ok (b 1 k)) := by
  obtain ⟨-, ⟨h0, h1, h2, h3, h4, h5, h6, h7, h9, h10, h11, hR⟩, hs1, hs2, hm, -⟩ := h.2.1
  have hv := h.2.2.1
  have v10 := hv.2.2.2.2.2.1
  have e : ∀ j, j < 12 → ∀ k, k < 12 → (nI k = nI j ↔ k = j) := fun j hj k hk => nI_eq (by omega) (by omega)
  intro k hk
  unfold f_X8_property
  have c0 : (0 : Int32) = nI 0 := rfl
  have c1 : (1 : Int32) = nI 1 := rfl
  match k, hk with
  | 0, _ => rw [if_pos (by decide), h0]
  | 1, _ => rw [if_neg (by decide), if_pos (by decide), h1]
  | 2, _ => rw [if_neg (by decide), if_neg (by decide), if_pos (by decide), h2]
  | 3, _ => rw [if_neg (by decide), if_neg (by decide), if_neg (by decide), if_pos (by decide), h3]
  | 4, _ => rw [if_neg (by decide), if_neg (by decide), if_neg (by decide), if_neg (by decide), if_pos (by decide), h4]
  | 5, _ => rw [if_neg (by decide), if_neg (by decide), if_neg (by decide), if_neg (by decide), if_neg (by decide), if_pos (by decide), h5]
  | 6, _ => rw [if_neg (by decide), if_neg (by decide), if_neg (by decide), if_neg (by decide), if_neg (by decide), if_neg (by decide), if_pos (by decide), h6]
  | 7, _ => rw [if_neg (by decide), if_neg (by decide), if_neg (by decide), if_neg (by decide), if_neg (by decide), if_neg (by decide), if_neg (by decide), if_pos (by decide), h7]
  | 8, _ => rw [if_neg (by decide), if_neg (by decide), if_neg (by decide), if_neg (by decide), if_neg (by decide), if_neg (by decide), if_neg (by decide), if_neg (by decide), if_pos (by decide), hm]
  | 9, _ => rw [if_neg (by decide), if_neg (by decide), if_neg (by decide), if_neg (by decide), if_neg (by decide), if_neg (by decide), if_neg (by decide), if_neg (by decide), if_neg (by decide), if_pos (by decide), h9]
  | 10, _ =>
    rw [if_neg (by decide), if_neg (by decide), if_neg (by decide), if_neg (by decide), if_neg (by decide), if_neg (by decide), if_neg (by decide), if_neg (by decide), if_neg (by decide), if_neg (by decide), if_pos (by decide), h10]
    rcases v10 with z | z
    · rw [z, if_pos rfl]
    · rw [z, if_neg (by decide)]
  | 11, _ => rw [if_neg (by decide), if_neg (by decide), if_neg (by decide), if_neg (by decide), if_neg (by decide), if_neg (by decide), if_neg (by decide), if_neg (by decide), if_neg (by decide), if_neg (by decide), if_neg (by decide), if_pos (by decide), h11]
  | _ + 12, h => exact absurd h (by omega)
theorem a_side {t : Int} {a b : Mem} {p : Int32} (h : REL t a b) (hp : p = 0 ∨ p = 1) : (∀ k, k < 11 → f_X8_side p (nI k) a = some (.ok (sl (b 1) (oS p) k))) ∧ f_X8_side p (nI 11) a = some (.ok (MTE (rl (b 1)) (sl (b 1) (oS p)))) ∧ ∀ q : Nat, (q : Int) < (b 1 2).toInt → f_X8_spent p (nI q) a = some (.ok (sl (b 1) (oS p) (12 + q))) := by
  obtain ⟨h03, hR, hpr, het, hVR⟩ := REL_rules h
  obtain ⟨k, hk, hk2, hS, hV⟩ := REL_side h hp
  obtain ⟨v0, v2, v3, v4, v5, v6, v7, v8, v9, -⟩ := hV
  have h55 := hVR.2.1
  refine ⟨fun j hj => ?_, ?_, fun q hq => ?_⟩
  · unfold f_X8_side
    simp only [b_T, k_side, hp, reduceIte, bXc_0]
    rw [hk]
    match j, hj with
    | 0, _ => rw [ if_pos (by decide), ← hS]; rfl
    | 1, _ => rw [if_neg (by decide),  if_pos (by decide), ← hS]; rfl
    | 2, _ => rw [if_neg (by decide), if_neg (by decide),  if_pos (by decide), ← hS]; rfl
    | 3, _ => rw [if_neg (by decide), if_neg (by decide), if_neg (by decide),  if_pos (by decide), ← hS]; rfl
    | 4, _ => rw [if_neg (by decide), if_neg (by decide), if_neg (by decide), if_neg (by decide),  if_pos (by decide), ← hS]; rfl
    | 5, _ =>
      have e : nb (a k 6) = sl (b 1) (oS p) 5 := congrFun hS 5
      rw [if_neg (by decide), if_neg (by decide), if_neg (by decide), if_neg (by decide), if_neg (by decide),  if_pos (by decide), e]
      rcases v5 with z | z
      · rw [z, if_pos rfl]
      · rw [z, if_neg (by decide)]
    | 6, _ => rw [if_neg (by decide), if_neg (by decide), if_neg (by decide), if_neg (by decide), if_neg (by decide), if_neg (by decide),  if_pos (by decide), ← hS]; rfl
    | 7, _ => rw [if_neg (by decide), if_neg (by decide), if_neg (by decide), if_neg (by decide), if_neg (by decide), if_neg (by decide), if_neg (by decide),  if_pos (by decide), ← hS]; rfl
    | 8, _ =>
      have e : nb (a k 9) = sl (b 1) (oS p) 8 := congrFun hS 8
      rw [if_neg (by decide), if_neg (by decide), if_neg (by decide), if_neg (by decide), if_neg (by decide), if_neg (by decide), if_neg (by decide), if_neg (by decide),  if_pos (by decide), e]
      rcases v8 with z | z
      · rw [z, if_pos rfl]
      · rw [z, if_neg (by decide)]
    | 9, _ =>
      have e : nb (a k 10) = sl (b 1) (oS p) 9 := congrFun hS 9
      rw [if_neg (by decide), if_neg (by decide), if_neg (by decide), if_neg (by decide), if_neg (by decide), if_neg (by decide), if_neg (by decide), if_neg (by decide), if_neg (by decide),  if_pos (by decide), e]
      rcases v9 with z | z
      · rw [z, if_pos rfl]
      · rw [z, if_neg (by decide)]
    | 10, _ => rw [if_neg (by decide), if_neg (by decide), if_neg (by decide), if_neg (by decide), if_neg (by decide), if_neg (by decide), if_neg (by decide), if_neg (by decide), if_neg (by decide), if_neg (by decide),  if_pos (by decide), ← hS]; rfl
  · unfold f_X8_side
    simp only [b_T, k_side, hp, reduceIte, bXc_0]
    rw [hk, if_neg (by decide), if_neg (by decide), if_neg (by decide), if_neg (by decide), if_neg (by decide), if_neg (by decide), if_neg (by decide), if_neg (by decide), if_neg (by decide), if_neg (by decide), if_neg (by decide), if_pos (by decide)]
    unfold f_X5_movesToPeriodEnd MTE
    have e2 : a k 2 = sl (b 1) (oS p) 2 := congrFun hS 2
    have e4 : a k 4 = sl (b 1) (oS p) 3 := congrFun hS 3
    simp only [Nat.reduceAdd]
    rw [e2, e4, c_end v2.1 (by omega), c_num v2.1 (by omega) (by decide) (by decide), hR]
    simp only [b_T]
    by_cases hz : rn (rl (b 1)) (sl (b 1) (oS p) 2) 0 = 0
    · rw [if_pos hz, if_neg (by decide), if_pos hz]
    · rw [if_neg hz, if_pos rfl, if_neg hz]
      rfl
  · unfold f_X8_spent
    have hq5 : q < 5 := by omega
    have eq : (nI q).toInt = q := nI_toInt (by omega)
    have hqq : 0 ≤ (nI q).toInt ∧ (nI q).toInt < (b 1 2).toInt := by omega
    simp only [b_T, k_side, k_per, hp, reduceIte, bXc_0, hpr]
    rw [if_pos hqq, bXc_0, hk, z_at (by omega) (by omega), z_tN (by omega), ← hS, Nat.add_comm 12 q, sI_rs hq5]
theorem a_ANS {t : Int} {a b : Mem} (h : REL t a b) : ANS a (b 1) := by
  obtain ⟨h03, hR, hpr, het, hVR⟩ := REL_rules h
  have h55 := hVR.2.1
  have f0 : (0 : Int32).toInt = 0 := rfl
  refine ⟨fun d hd => ?_, a_prop h, fun x h1 h2 => ?_, fun i w hi h8 hw => ?_, ?_⟩
  · match d, hd with
    | 0, _ => exact a_side h (Or.inl rfl)
    | 1, _ => exact a_side h (Or.inr rfl)
  · unfold f_X8_period
    simp only [b_T, k_per, hpr, Nat.reduceAdd]
    rw [if_pos ⟨h1, h2⟩, bXc_0, if_neg (by decide), if_pos (by decide), c_num h1 (by omega) (by decide) (by decide), hR]
    rfl
  · have hc : i < CNT (b 1) := by unfold CNT; omega
    have h40 := @CNT_40 (b 1)
    unfold f_X8_logged
    simp only [b_T, Nat.reduceAdd, REL_cnt h]
    have ei : (nI i).toInt = i := nI_toInt (by omega)
    have ew : (nI w).toInt = w := nI_toInt (by omega)
    rw [if_neg (show ¬ nI i < 0 by rw [z_lt, f0]; omega), if_pos (show nI i < nI (CNT (b 1)) by rw [z_lt, ei, z_nI (by omega)]; omega), if_neg (show ¬ nI w < 0 by rw [z_lt, f0]; omega), if_pos (show nI w < 6 by rw [z_lt, ew]; show (w : Int) < 6; omega), c_log h hc (by omega) (by rw [ew]; omega), z_tN (by omega)]
  · unfold f_X8_ahead f_X6_whiteAhead
    obtain ⟨-, -, s1, s2, -⟩ := h.2.1
    have e1 : a (sdr 8 (a 8 2)) 1 = sl (b 1) 37 0 := congrFun s1 0
    have e2 : a (sdr 8 (a 8 3)) 1 = sl (b 1) 54 0 := congrFun s2 0
    rw [b_T, e1, e2]
    rfl
theorem i_IVS {t : Int} {g : Nat → Int32} {p : Int32} (hp : p = 0 ∨ p = 1) (hv : VL t g) (h : IVX g) : IVS (rl g) (g 2) (g 3) (sl g (oS p)) := by
  have f0 : (0 : Int32).toInt = 0 := rfl
  obtain ⟨v0, v2, v3, v4, v5, v6, v7, v8, v9, vf, vx, ve, vm⟩ := VLs hv hp
  obtain ⟨i1, i2, ⟨i3, i4⟩, i5, i6⟩ := IVs h hp
  refine ⟨fun z => by rw [z_lt, f0] at z; omega, vf.symm, z_le.2 i1, v2, z_le.2 i3, fun z z2 => ?_, fun z => ⟨fun z2 => ?_, fun z2 => ?_⟩, z_le.2 i6, z_le.2 i5⟩
  · rw [z_lt, f0] at z
    rw [z_le] at z2
    have := vm (fun z3 => by rw [z3, f0] at z; omega)
    omega
  · rw [(vx z).1] at z2
    exact absurd z2 (by decide)
  · have := i4 z
    rw [z2] at this
    omega
theorem i_IVG {t : Int} {g : Nat → Int32} (hv : VL t g) (h : IVX g) : IVG g := by
  have f0 : (0 : Int32).toInt = 0 := rfl
  have hV0 := VLs hv (Or.inl rfl : (0 : Int32) = 0 ∨ (0 : Int32) = 1)
  have hV1 := VLs hv (Or.inr rfl : (1 : Int32) = 0 ∨ (1 : Int32) = 1)
  have w8 : sl g 37 8 = 0 ∨ sl g 37 8 = 1 := hV0.2.2.2.2.2.2.2.1
  have b8 : sl g 54 8 = 0 ∨ sl g 54 8 = 1 := hV1.2.2.2.2.2.2.2.1
  have hv0 := hv
  obtain ⟨-, ⟨r1, r2, -⟩, -, -, ⟨-, -, v7, v8⟩, -, v11, -⟩ := hv
  obtain ⟨x1, x2, ⟨x3, x4⟩, x5, x6, ⟨x7, x8⟩⟩ := id h
  have y10 : (sl g 37 10 + sl g 54 10).toInt = (sl g 37 10).toInt + (sl g 54 10).toInt := by
    have l1 := z_lo (g 7)
    have l2 := z_hi (g 7)
    exact z_add (by omega) (by omega)
  have y1 : (sl g 37 1 + sl g 54 1).toInt = (sl g 37 1).toInt + (sl g 54 1).toInt := by
    have l1 := z_lo (g 8)
    have l2 := z_hi (g 8)
    exact z_add (by omega) (by omega)
  refine ⟨⟨by omega, by omega⟩, fun d hd => ?_, by rw [z_eq, y10, x3], by rw [z_eq, y1, x4], ?_, ⟨fun z z2 => ?_, fun z => ?_⟩, v8.1, fun i z1 z2 => ?_, fun z => (x8 z).1⟩
  · match d, hd with
    | 0, _ => exact i_IVS (Or.inl rfl) hv0 h
    | 1, _ => exact i_IVS (Or.inr rfl) hv0 h
  · rcases x5 with ⟨z1, z2, z3⟩ | ⟨z1, z2⟩
    · rw [z1, z2, z3]
      decide
    · constructor
      · intro z
        rw [z_lt, f0] at z
        omega
      · intro z
        rcases w8 with e1 | e1 <;> rcases b8 with e2 | e2 <;> rw [e1, e2] at z z2
        · exact absurd z2 (by decide)
        · exact absurd z (by decide)
        · exact absurd z (by decide)
        · exact absurd z (by decide)
  · have := x6 z
    rw [z_lt, f0] at z2
    omega
  · exact Classical.byContradiction fun z2 => z (by rw [v11 z2]; decide)
  · obtain ⟨q1, q2⟩ := x7 i z1 z2
    exact ⟨q1, z_le.2 q2⟩
