def sp (S : Nat → Int32) : Nat := (S 2).toNatClampNeg + 12
def LOSE (S : Nat → Int32) (m : Int32) : Nat → Int32 := upd (upd (upd S 0 (S 0 - m)) 7 (S 7 + m)) (sp S) (S (sp S) + m)
def OUT1 (R : Nat → Int32) (et : Int32) (S : Nat → Int32) : Nat → Int32 := if rn R (S 2) 0 = 0 ∧ 0 < S 4 then upd (upd (upd S 4 (S 4 - 1)) 5 1) 0 et else upd S 8 1
def d1 (R : Nat → Int32) (et : Int32) (S : Nat → Int32) : Nat → Int32 := if S 0 = 0 then S else if 0 < S 0 - 1 then LOSE S 1 else OUT1 R et (LOSE S 1)
def Dn (R : Nat → Int32) (et : Int32) : Nat → (Nat → Int32) → (Nat → Int32)
  | 0, S => S
  | n + 1, S => Dn R et n (d1 R et S)
theorem sp_ge {S : Nat → Int32} : 12 ≤ sp S := by unfold sp; omega
theorem LOSE_lo {S : Nat → Int32} {m : Int32} {j : Nat} (h : j < 12) (h0 : j ≠ 0) (h7 : j ≠ 7) : LOSE S m j = S j := by
  have := @sp_ge S
  unfold LOSE
  rw [u_n (by omega), u_n h7, u_n h0]
theorem LOSE_0 {S : Nat → Int32} {m : Int32} : LOSE S m 0 = S 0 - m := by
  have := @sp_ge S
  unfold LOSE
  rw [u_n (by omega), u_n (by omega), u_s]
theorem LOSE_7 {S : Nat → Int32} {m : Int32} : LOSE S m 7 = S 7 + m := by
  have := @sp_ge S
  unfold LOSE
  rw [u_n (by omega), u_s]
theorem LOSE_hi {S : Nat → Int32} {m : Int32} {j : Nat} (h : 12 ≤ j) (h1 : j ≠ sp S) : LOSE S m j = S j := by
  unfold LOSE
  rw [u_n h1, u_n (by omega), u_n (by omega)]
theorem LOSE_sp {S : Nat → Int32} {m : Int32} : LOSE S m (sp S) = S (sp S) + m := by
  unfold LOSE
  rw [u_s]
theorem LOSE_spE {S : Nat → Int32} {m : Int32} : sp (LOSE S m) = sp S := by
  unfold sp
  rw [LOSE_lo (by omega) (by omega) (by omega)]
theorem LOSE_LOSE {S : Nat → Int32} {m n : Int32} : LOSE (LOSE S m) n = LOSE S (m + n) := by
  funext j
  by_cases h0 : j = 0
  · subst h0
    rw [LOSE_0, LOSE_0, LOSE_0, Int32.sub_sub]
  · by_cases h7 : j = 7
    · subst h7
      rw [LOSE_7, LOSE_7, LOSE_7, Int32.add_assoc]
    · by_cases h12 : j < 12
      · rw [LOSE_lo h12 h0 h7, LOSE_lo h12 h0 h7, LOSE_lo h12 h0 h7]
      · by_cases hs : j = sp S
        · subst hs
          have e := @LOSE_sp (LOSE S m) n
          rw [LOSE_spE] at e
          rw [e, LOSE_sp, LOSE_sp, Int32.add_assoc]
        · rw [LOSE_hi (by omega) (by rw [LOSE_spE]; exact hs), LOSE_hi (by omega) hs, LOSE_hi (by omega) hs]
theorem LOSE_z {S : Nat → Int32} : LOSE S 0 = S := by
  unfold LOSE
  rw [Int32.sub_zero, Int32.add_zero, Int32.add_zero, u_id, u_id, u_id]
theorem Dn_0 {R : Nat → Int32} {et : Int32} {n : Nat} {S : Nat → Int32} (h : S 0 = 0) : Dn R et n S = S := by
  induction n with
  | zero => rfl
  | succ n ih =>
    show Dn R et n (d1 R et S) = S
    unfold d1
    rw [if_pos h, ih]
theorem Dn_add {R : Nat → Int32} {et : Int32} {m n : Nat} {S : Nat → Int32} : Dn R et (m + n) S = Dn R et n (Dn R et m S) := by
  induction m generalizing S with
  | zero => rw [Nat.zero_add]; rfl
  | succ m ih =>
    rw [Nat.succ_add]
    show Dn R et (m + n) (d1 R et S) = Dn R et n (Dn R et m (d1 R et S))
    exact ih
theorem Dn_s {R : Nat → Int32} {et : Int32} {n : Nat} {S : Nat → Int32} : Dn R et (n + 1) S = d1 R et (Dn R et n S) := Dn_add
theorem d1_lo {R : Nat → Int32} {et : Int32} {S : Nat → Int32} (h : 1 < (S 0).toInt) : d1 R et S = LOSE S 1 := by
  have e0 : (0 : Int32).toInt = 0 := rfl
  have e1 : (1 : Int32).toInt = 1 := rfl
  have h2 := z_hi (S 0)
  unfold d1
  rw [if_neg (by rw [z_eq, e0]; omega), if_pos (by rw [z_lt, z_sub (by rw [e1]; omega) (by rw [e1]; omega), e0, e1]; omega)]
theorem d1_1 {R : Nat → Int32} {et : Int32} {S : Nat → Int32} (h : S 0 = 1) : d1 R et S = OUT1 R et (LOSE S 1) := by
  unfold d1
  rw [if_neg (by rw [h]; decide), if_neg (by rw [h]; decide)]
theorem Dn_lo {R : Nat → Int32} {et : Int32} {m : Nat} {S : Nat → Int32} (h : (m : Int) < (S 0).toInt) : Dn R et m S = LOSE S (nI m) := by
  induction m with
  | zero =>
    show S = LOSE S (nI 0)
    rw [nI_0, LOSE_z]
  | succ m ih =>
    have h2 := z_hi (S 0)
    rw [Dn_s, ih (by omega), d1_lo, LOSE_LOSE, nI_1]
    rw [LOSE_0, z_sub (by rw [z_nI (by omega)]; omega) (by rw [z_nI (by omega)]; omega), z_nI (by omega)]
    omega
theorem Dn_full {R : Nat → Int32} {et : Int32} {S : Nat → Int32} (h : 0 < (S 0).toInt) : Dn R et (S 0).toNatClampNeg S = OUT1 R et (LOSE S (S 0)) := by
  have h2 := z_hi (S 0)
  obtain ⟨m, hm⟩ : ∃ m, (S 0).toNatClampNeg = m + 1 := ⟨(S 0).toInt.toNat - 1, by rw [z_tn]; omega⟩
  have e : nI (m + 1) = S 0 := by rw [← hm, z_of (by omega)]
  have hm2 : (m : Int) + 1 = (S 0).toInt := by rw [z_tn] at hm; omega
  rw [hm, Dn_s, Dn_lo (by omega), d1_1, LOSE_LOSE, nI_1, e]
  rw [LOSE_0, ← e, z_eq, z_sub (by rw [z_nI (by omega), z_nI (by omega)]; omega) (by rw [z_nI (by omega), z_nI (by omega)]; omega), z_nI (by omega), z_nI (by omega)]
  have e1 : (1 : Int32).toInt = 1 := rfl
  omega
def VR (R : Nat → Int32) (pr et : Int32) : Prop := 1 ≤ pr.toInt ∧ pr.toInt ≤ 5 ∧ 0 ≤ et.toInt ∧ et.toInt ≤ 9999 ∧ ∀ p : Nat, (p : Int) < pr.toInt → (0 ≤ (R (5 * p)).toInt ∧ (R (5 * p)).toInt ≤ 60) ∧ (1 ≤ (R (5 * p + 1)).toInt ∧ (R (5 * p + 1)).toInt ≤ 99999) ∧ (0 ≤ (R (5 * p + 2)).toInt ∧ (R (5 * p + 2)).toInt ≤ 999) ∧ (0 ≤ (R (5 * p + 3)).toInt ∧ (R (5 * p + 3)).toInt ≤ 999) ∧ (0 ≤ (R (5 * p + 4)).toInt ∧ (R (5 * p + 4)).toInt ≤ 999)
def VS (Lb Tb Mb : Int) (R : Nat → Int32) (pr et : Int32) (S : Nat → Int32) : Prop := (0 ≤ (S 0).toInt ∧ (S 0).toInt ≤ Lb) ∧ (0 ≤ (S 2).toInt ∧ (S 2).toInt < pr.toInt) ∧ (0 ≤ (S 3).toInt ∧ (S 3).toInt ≤ Mb) ∧ (0 ≤ (S 4).toInt ∧ (S 4).toInt ≤ 9) ∧ (S 5 = 0 ∨ S 5 = 1) ∧ (0 ≤ (S 6).toInt ∧ (S 6).toInt ≤ Tb) ∧ (0 ≤ (S 7).toInt ∧ (S 7).toInt ≤ Tb) ∧ (S 8 = 0 ∨ S 8 = 1) ∧ (S 9 = 0 ∨ S 9 = 1) ∧ (S 8 = 1 ↔ S 0 = 0) ∧ (S 5 = 1 → rn R (S 2) 0 = 0 ∧ 1 ≤ et.toInt) ∧ (0 < (S 4).toInt → 1 ≤ et.toInt) ∧ (rn R (S 2) 0 ≠ 0 → (S 3).toInt < (rn R (S 2) 0).toInt)
theorem VR.at {R : Nat → Int32} {pr et : Int32} (h : VR R pr et) {p : Int32} (h1 : 0 ≤ p.toInt) (h2 : p.toInt < pr.toInt) : (0 ≤ (rn R p 0).toInt ∧ (rn R p 0).toInt ≤ 60) ∧ (1 ≤ (rn R p 1).toInt ∧ (rn R p 1).toInt ≤ 99999) ∧ (0 ≤ (rn R p 2).toInt ∧ (rn R p 2).toInt ≤ 999) ∧ (0 ≤ (rn R p 3).toInt ∧ (rn R p 3).toInt ≤ 999) ∧ (0 ≤ (rn R p 4).toInt ∧ (rn R p 4).toInt ≤ 999) := h.2.2.2.2 p.toNatClampNeg (by rw [z_tn]; omega)
theorem OUT1_lo {R : Nat → Int32} {et : Int32} {S : Nat → Int32} {j : Nat} (h0 : j ≠ 0) (h4 : j ≠ 4) (h5 : j ≠ 5) (h8 : j ≠ 8) : OUT1 R et S j = S j := by
  unfold OUT1
  split
  · rw [u_n h0, u_n h5, u_n h4]
  · rw [u_n h8]
theorem d1_n {R : Nat → Int32} {et : Int32} {S : Nat → Int32} {j : Nat} (h : j < 12) (h0 : j ≠ 0) (h4 : j ≠ 4) (h5 : j ≠ 5) (h7 : j ≠ 7) (h8 : j ≠ 8) : d1 R et S j = S j := by
  unfold d1
  split
  · rfl
  · split
    · exact LOSE_lo h h0 h7
    · rw [OUT1_lo h0 h4 h5 h8, LOSE_lo h h0 h7]
theorem Dn_n {R : Nat → Int32} {et : Int32} {n : Nat} {S : Nat → Int32} {j : Nat} (h : j < 12) (h0 : j ≠ 0) (h4 : j ≠ 4) (h5 : j ≠ 5) (h7 : j ≠ 7) (h8 : j ≠ 8) : Dn R et n S j = S j := by
  induction n with
  | zero => rfl
  | succ n ih => rw [Dn_s, d1_n h h0 h4 h5 h7 h8, ih]
theorem d1_top {R : Nat → Int32} {et : Int32} {S : Nat → Int32} (hs : sp S < 17) (h : ∀ i, 17 ≤ i → S i = 0) : ∀ i, 17 ≤ i → d1 R et S i = 0 := by
  intro i hi
  unfold d1
  split
  · exact h i hi
  · split
    · rw [LOSE_hi (by omega) (by omega), h i hi]
    · rw [OUT1_lo (by omega) (by omega) (by omega) (by omega), LOSE_hi (by omega) (by omega), h i hi]
theorem Dn_top {R : Nat → Int32} {et : Int32} {n : Nat} {S : Nat → Int32} (hs : sp S < 17) (h : ∀ i, 17 ≤ i → S i = 0) : ∀ i, 17 ≤ i → Dn R et n S i = 0 := by
  induction n with
  | zero => exact h
  | succ n ih =>
    rw [Dn_s]
    refine d1_top ?_ ih
    unfold sp at hs ⊢
    rw [Dn_n (by omega) (by omega) (by omega) (by omega) (by omega) (by omega)]
    exact hs
theorem VS_d1 {Lb Tb Mb : Int} {R : Nat → Int32} {pr et : Int32} {S : Nat → Int32} (hR : VR R pr et) (h : VS Lb Tb Mb R pr et S) (hL : 9999 ≤ Lb) (hT : (S 7).toInt + 1 ≤ Tb) (hT2 : Tb ≤ 2147483647) : VS Lb Tb Mb R pr et (d1 R et S) := by
  obtain ⟨h0, h2, h3, h4, h5, h6, h7, h8, h9, hf, hx, he, hd⟩ := h
  have e0 : (0 : Int32).toInt = 0 := rfl
  have e1 : (1 : Int32).toInt = 1 := rfl
  have b0 := z_hi (S 0)
  obtain ⟨hr1, hr2, hr3, hr4, -⟩ := hR
  by_cases hz : S 0 = 0
  · unfold d1
    rw [if_pos hz]
    exact ⟨h0, h2, h3, h4, h5, h6, h7, h8, h9, hf, hx, he, hd⟩
  · have n8 : S 8 = 0 := by
      rcases h8 with h8 | h8
      · exact h8
      · exact absurd (hf.1 h8) hz
    have hz0 : 0 < (S 0).toInt := by
      have : (S 0).toInt ≠ 0 := fun h => hz (z_eq.2 (h.trans e0.symm))
      omega
    have hs7 : (S 7 + 1).toInt = (S 7).toInt + 1 := by rw [z_add (by rw [e1]; omega) (by rw [e1]; omega), e1]
    have hs0 : (S 0 - 1).toInt = (S 0).toInt - 1 := by rw [z_sub (by rw [e1]; omega) (by rw [e1]; omega), e1]
    unfold d1
    rw [if_neg hz]
    have q0 := @LOSE_0 S 1
    have q7 := @LOSE_7 S 1
    have q2 : LOSE S 1 2 = S 2 := LOSE_lo (by omega) (by omega) (by omega)
    have q3 : LOSE S 1 3 = S 3 := LOSE_lo (by omega) (by omega) (by omega)
    have q4 : LOSE S 1 4 = S 4 := LOSE_lo (by omega) (by omega) (by omega)
    have q5 : LOSE S 1 5 = S 5 := LOSE_lo (by omega) (by omega) (by omega)
    have q6 : LOSE S 1 6 = S 6 := LOSE_lo (by omega) (by omega) (by omega)
    have q8 : LOSE S 1 8 = S 8 := LOSE_lo (by omega) (by omega) (by omega)
    have q9 : LOSE S 1 9 = S 9 := LOSE_lo (by omega) (by omega) (by omega)
    by_cases hp : 0 < S 0 - 1
    · rw [if_pos hp]
      have hp2 := z_lt.1 hp
      rw [hs0, e0] at hp2
      unfold VS
      rw [q0, q2, q3, q4, q5, q6, q7, q8, q9, hs7, hs0]
      refine ⟨⟨by omega, by omega⟩, h2, h3, h4, h5, h6, ⟨by omega, by omega⟩, h8, h9, ⟨fun h => absurd (h.symm.trans n8) (by decide), fun h => ?_⟩, hx, he, hd⟩
      have := z_eq.1 h
      rw [hs0, e0] at this
      omega
    · rw [if_neg hp]
      have hp2 : ¬ (0 < (S 0).toInt - 1) := by
        intro h
        apply hp
        rw [z_lt, hs0, e0]
        exact h
      unfold OUT1
      rw [q2, q4]
      by_cases hq : rn R (S 2) 0 = 0 ∧ 0 < S 4
      · rw [if_pos hq]
        have hq4 := z_lt.1 hq.2
        rw [e0] at hq4
        have het := he hq4
        have hs4 : (S 4 - 1).toInt = (S 4).toInt - 1 := by rw [z_sub (by rw [e1]; omega) (by rw [e1]; omega), e1]
        have m0 : upd (upd (upd (LOSE S 1) 4 (S 4 - 1)) 5 1) 0 et 0 = et := u_s
        have m4 : upd (upd (upd (LOSE S 1) 4 (S 4 - 1)) 5 1) 0 et 4 = S 4 - 1 := by rw [u_n (by omega), u_n (by omega), u_s]
        have m5 : upd (upd (upd (LOSE S 1) 4 (S 4 - 1)) 5 1) 0 et 5 = 1 := by rw [u_n (by omega), u_s]
        have mm : ∀ j, j ≠ 0 → j ≠ 4 → j ≠ 5 → upd (upd (upd (LOSE S 1) 4 (S 4 - 1)) 5 1) 0 et j = LOSE S 1 j := fun j z0 z4 z5 => by rw [u_n z0, u_n z5, u_n z4]
        unfold VS
        rw [m0, m4, m5, mm 2 (by omega) (by omega) (by omega), mm 3 (by omega) (by omega) (by omega), mm 6 (by omega) (by omega) (by omega), mm 7 (by omega) (by omega) (by omega), mm 8 (by omega) (by omega) (by omega), mm 9 (by omega) (by omega) (by omega), q2, q3, q6, q7, q8, q9, hs7, hs4]
        refine ⟨⟨by omega, by omega⟩, h2, h3, ⟨by omega, by omega⟩, Or.inr rfl, h6, ⟨by omega, by omega⟩, h8, h9, ⟨fun h => absurd (h.symm.trans n8) (by decide), fun h => ?_⟩, fun _ => ⟨hq.1, het⟩, fun _ => het, hd⟩
        rw [h] at het
        exact absurd het (by decide)
      · rw [if_neg hq]
        have m8 : upd (LOSE S 1) 8 1 8 = 1 := u_s
        have mm : ∀ j, j ≠ 8 → upd (LOSE S 1) 8 1 j = LOSE S 1 j := fun j z => u_n z
        unfold VS
        rw [m8, mm 0 (by omega), mm 2 (by omega), mm 3 (by omega), mm 4 (by omega), mm 5 (by omega), mm 6 (by omega), mm 7 (by omega), mm 9 (by omega), q0, q2, q3, q4, q5, q6, q7, q9, hs7, hs0]
        refine ⟨⟨by omega, by omega⟩, h2, h3, h4, h5, h6, ⟨by omega, by omega⟩, Or.inr rfl, h9, ⟨fun _ => ?_, fun _ => rfl⟩, hx, he, hd⟩
        rw [z_eq, hs0, e0]
        omega
theorem d1_7 {R : Nat → Int32} {et : Int32} {S : Nat → Int32} (h1 : 0 ≤ (S 7).toInt) (h2 : (S 7).toInt < 2147483647) : (S 7).toInt ≤ (d1 R et S 7).toInt ∧ (d1 R et S 7).toInt ≤ (S 7).toInt + 1 := by
  have e1 : (1 : Int32).toInt = 1 := rfl
  unfold d1
  split
  · omega
  · split
    · rw [LOSE_7, z_add (by rw [e1]; omega) (by rw [e1]; omega), e1]
      omega
    · rw [OUT1_lo (by omega) (by omega) (by omega) (by omega), LOSE_7, z_add (by rw [e1]; omega) (by rw [e1]; omega), e1]
      omega
theorem VS_Dn {Lb Tb Mb : Int} {R : Nat → Int32} {pr et : Int32} {n : Nat} {S : Nat → Int32} (hR : VR R pr et) (h : VS Lb Tb Mb R pr et S) (hL : 9999 ≤ Lb) (hT : (S 7).toInt + n ≤ Tb) (hT2 : Tb ≤ 2147483647) : VS Lb Tb Mb R pr et (Dn R et n S) := by
  induction n generalizing S with
  | zero => exact h
  | succ n ih =>
    have h7 := h.2.2.2.2.2.2.1
    have hd := @d1_7 R et S h7.1 (by omega)
    exact ih (VS_d1 hR h hL (by omega) hT2) (by omega)
def FREE (R S : Nat → Int32) : Int32 := mxI 0 (rn R (S 2) 3 - S 6)
def RUN (R : Nat → Int32) (et n : Int32) (S : Nat → Int32) : Nat → Int32 := Dn R et (mxI 0 (n - FREE R S)).toNatClampNeg (upd (upd S 6 (S 6 + n)) 10 (S 10 + n))
theorem VS_w {Lb Tb Mb Tb1 : Int} {R : Nat → Int32} {pr et : Int32} {S : Nat → Int32} {x y : Int32} (h : VS Lb Tb Mb R pr et S) (h1 : 0 ≤ x.toInt) (h2 : x.toInt ≤ Tb1) (h3 : (S 7).toInt ≤ Tb1) : VS Lb Tb1 Mb R pr et (upd (upd S 6 x) 10 y) := by
  obtain ⟨h0, h2, h3, h4, h5, h6, h7, h8, h9, hf, hx, he, hd⟩ := h
  have m6 : upd (upd S 6 x) 10 y 6 = x := by rw [u_n (by omega), u_s]
  have mm : ∀ j, j ≠ 6 → j ≠ 10 → upd (upd S 6 x) 10 y j = S j := fun j z6 z10 => by rw [u_n z10, u_n z6]
  unfold VS
  rw [m6, mm 0 (by omega) (by omega), mm 2 (by omega) (by omega), mm 3 (by omega) (by omega), mm 4 (by omega) (by omega), mm 5 (by omega) (by omega), mm 7 (by omega) (by omega), mm 8 (by omega) (by omega), mm 9 (by omega) (by omega)]
  exact ⟨h0, h2, h3, h4, h5, ⟨by omega, by omega⟩, ⟨by omega, by omega⟩, h8, h9, hf, hx, he, hd⟩

