theorem NOTE_lo {g : Nat → Int32} {s : Int32} {j : Nat} (h0 : j ≠ 0) (h9 : j ≠ 9) (h11 : j ≠ 11) : NOTE g s j = g j := by
  unfold NOTE
  split
  · rw [u_n h11, u_n h0, u_n h9]
  · rw [u_n h9]
theorem NOTE_u {g : Nat → Int32} {s x : Int32} {j : Nat} (h : j < 37) (h0 : j ≠ 0) (h9 : j ≠ 9) (h10 : j ≠ 10) (h11 : j ≠ 11) : NOTE (upd g j x) s = upd (NOTE g s) j x := by
  unfold NOTE
  rw [u_n (Ne.symm h10), u_n (Ne.symm h9), sl_WON h]
  split
  · rw [u_cm (Ne.symm h9), u_cm (Ne.symm h0), u_cm (Ne.symm h11)]
  · rw [u_cm (Ne.symm h9)]
def HD (g : Nat → Int32) (s m x y : Int32) : Nat → Int32 := upd (upd (if x = 0 ∧ y ≠ 0 then NOTE g s else g) 7 (g 7 + m)) 6 (g 6 + m)
theorem HD_lo {g : Nat → Int32} {s m x y : Int32} {j : Nat} (h0 : j ≠ 0) (h6 : j ≠ 6) (h7 : j ≠ 7) (h9 : j ≠ 9) (h11 : j ≠ 11) : HD g s m x y j = g j := by
  unfold HD
  rw [u_n h6, u_n h7]
  split
  · exact NOTE_lo h0 h9 h11
  · rfl
theorem HD_sl {g : Nat → Int32} {s m x y : Int32} {o : Nat} (ho : 37 ≤ o) : sl (HD g s m x y) o = sl g o := by
  funext i
  unfold sl
  split
  · exact HD_lo (by omega) (by omega) (by omega) (by omega) (by omega)
  · rfl
theorem HD_rl {g : Nat → Int32} {s m x y : Int32} : rl (HD g s m x y) = rl g := by
  funext i
  unfold rl
  split
  · exact HD_lo (by omega) (by omega) (by omega) (by omega) (by omega)
  · rfl
theorem WON_sl {g g1 : Nat → Int32} {s : Int32} (h : sl g1 (oS (1 - s)) = sl g (oS (1 - s))) : WON g1 s = WON g s := by
  unfold WON
  rw [h]
theorem HD_HD {g : Nat → Int32} {s m n x y z : Int32} (h2 : y ≠ 0 → z ≠ 0) (h3 : x ≠ 0 → y ≠ 0) : HD (HD g s m x y) s n y z = HD g s (m + n) x z := by
  have e10 : HD g s m x y 10 = g 10 := HD_lo (by omega) (by omega) (by omega) (by omega) (by omega)
  have eW : WON (HD g s m x y) s = WON g s := WON_sl (HD_sl oS_ge)
  have e7 : HD g s m x y 7 = g 7 + m := by unfold HD; rw [u_n (by omega), u_s]
  have e6 : HD g s m x y 6 = g 6 + m := by unfold HD; rw [u_s]
  unfold HD at e7 e6 ⊢
  rw [e7, e6, Int32.add_assoc, Int32.add_assoc]
  by_cases hx : x = 0
  · by_cases hy : y = 0
    · rw [if_neg (show ¬ (x = 0 ∧ y ≠ 0) from fun h => h.2 hy)]
      by_cases hz : z = 0
      · rw [if_neg (show ¬ (y = 0 ∧ z ≠ 0) from fun h => h.2 hz), if_neg (show ¬ (x = 0 ∧ z ≠ 0) from fun h => h.2 hz), u_cm (show (7 : Nat) ≠ 6 by omega), u_uu, u_uu]
      · rw [if_pos (show y = 0 ∧ z ≠ 0 from ⟨hy, hz⟩), if_pos (show x = 0 ∧ z ≠ 0 from ⟨hx, hz⟩), NOTE_u (by omega) (by omega) (by omega) (by omega) (by omega), NOTE_u (by omega) (by omega) (by omega) (by omega) (by omega), u_cm (show (7 : Nat) ≠ 6 by omega), u_uu, u_uu]
    · have hz := h2 hy
      rw [if_neg (show ¬ (y = 0 ∧ z ≠ 0) from fun h => hy h.1), if_pos (show x = 0 ∧ y ≠ 0 from ⟨hx, hy⟩), if_pos (show x = 0 ∧ z ≠ 0 from ⟨hx, hz⟩), u_cm (show (7 : Nat) ≠ 6 by omega), u_uu, u_uu]
  · have hy := h3 hx
    rw [if_neg (show ¬ (y = 0 ∧ z ≠ 0) from fun h => hy h.1), if_neg (show ¬ (x = 0 ∧ y ≠ 0) from fun h => hx h.1), if_neg (show ¬ (x = 0 ∧ z ≠ 0) from fun h => hx h.1), u_cm (show (7 : Nat) ≠ 6 by omega), u_uu, u_uu]
theorem d1_8 {R : Nat → Int32} {et : Int32} {S : Nat → Int32} (h : S 8 ≠ 0) : d1 R et S 8 ≠ 0 := by
  unfold d1
  split
  · exact h
  · split
    · rw [LOSE_lo (by omega) (by omega) (by omega)]
      exact h
    · unfold OUT1
      split
      · rw [u_n (by omega), u_n (by omega), u_n (by omega), LOSE_lo (by omega) (by omega) (by omega)]
        exact h
      · rw [u_s]
        decide
theorem TK1_8 {R : Nat → Int32} {et : Int32} {S : Nat → Int32} (h : S 8 ≠ 0) : TK1 R et S 8 ≠ 0 := by
  have e : THK S 1 8 = S 8 := THK_n (by omega) (by omega)
  unfold TK1
  split
  · rw [e]
    exact h
  · exact d1_8 (by rw [e]; exact h)
theorem Dn_8 {R : Nat → Int32} {et : Int32} {n : Nat} {S : Nat → Int32} (h : S 8 ≠ 0) : Dn R et n S 8 ≠ 0 := by
  induction n with
  | zero => exact h
  | succ n ih => rw [Dn_s]; exact d1_8 ih
theorem RUN_8 {R : Nat → Int32} {et n : Int32} {S : Nat → Int32} (h : S 8 ≠ 0) : RUN R et n S 8 ≠ 0 := by
  rw [RUN_THK, THK_n (by omega) (by omega)]
  exact Dn_8 h
theorem r_tick1 {N : Nat} {b : Mem} {s : Int32} {g S : Nat → Int32} (h : b 0 3 = 0) (hs : s = 0 ∨ s = 1) (g0 : g 0 = 1) (g1 : g 1 = s) (h2 : 0 ≤ (S 2).toInt) (h2' : (S 2).toInt < 5) (h8 : S 8 = 0 ∨ S 8 = 1) (hf : S 8 = 1 → S 0 = 0) : f_X9_tickOnce N (KK b s g S) = some (KK b s (HD g s 1 (S 8) (TK1 (rl g) (g 4) S 8)) (TK1 (rl g) (g 4) S)) := by
  have e0 : ((0 : Int32)).toNatClampNeg = 0 := rfl
  have e4 : ((4 : Int32)).toNatClampNeg = 4 := rfl
  have e5 : ((5 : Int32)).toNatClampNeg = 5 := rfl
  have e6 : ((6 : Int32)).toNatClampNeg = 6 := rfl
  have e7 : ((7 : Int32)).toNatClampNeg = 7 := rfl
  have e10 : ((10 : Int32)).toNatClampNeg = 10 := rfl
  have e12 : (12 : Int32).toInt = 12 := rfl
  have e2n : ((2 : Int32)).toNatClampNeg = 2 := rfl
  have e3n : ((3 : Int32)).toNatClampNeg = 3 := rfl
  unfold f_X9_tickOnce
  rw [KK_st h, b_P, if_pos g0, if_neg (by decide), KK_mv h, b_P, g1, KK_rM h, e7, KK_r (by omega), KK_w (by omega), b_T, KK_rM h, e6, KK_r (by omega), u_n (show (6 : Nat) ≠ 7 by omega), KK_w (by omega), b_T]
  rw [KK_add h hs (by decide) (by decide), b_P, e6, KK_add h hs (by decide) (by decide), b_P, e10, u_n (show (10 : Nat) ≠ 6 by omega)]
  have eT : upd (upd S 6 (S 6 + 1)) 10 (S 10 + 1) = THK S 1 := rfl
  rw [eT]
  have t0 : THK S 1 0 = S 0 := THK_n (by omega) (by omega)
  have t2 : THK S 1 2 = S 2 := THK_n (by omega) (by omega)
  have t8 : THK S 1 8 = S 8 := THK_n (by omega) (by omega)
  have t6 : THK S 1 6 = S 6 + 1 := by unfold THK; rw [u_n (by omega), u_s]
  have hq : TK1 (rl g) (g 4) S = if S 6 + 1 ≤ rn (rl g) (S 2) 3 then THK S 1 else d1 (rl g) (g 4) (THK S 1) := rfl
  rw [hq]
  generalize THK S 1 = T at t0 t2 t8 t6 ⊢
  have hRg : rl (upd (upd g 7 (g 7 + 1)) 6 (g 6 + 1)) = rl g := by rw [rl_lo (by omega), rl_lo (by omega)]
  have same : ∀ y, y = S 8 → HD g s 1 (S 8) y = upd (upd g 7 (g 7 + 1)) 6 (g 6 + 1) := by
    intro y hy
    unfold HD
    rw [if_neg (fun h9 => h9.2 (hy.trans h9.1))]
  rw [KK_of h hs (by decide) (by decide), b_P, e6, KK_its h hs (by rw [t2]; exact h2) (by rw [t2]; exact h2') (by decide) (by decide), b_P, e3n, hRg, t6, t2]
  by_cases hd : S 6 + 1 ≤ rn (rl g) (S 2) 3
  · rw [if_pos hd, if_pos hd, same _ t8]
  · rw [if_neg hd, if_neg hd, KK_of h hs (by decide) (by decide), b_P, e0]
    by_cases hz : T 0 = 0
    · have : d1 (rl g) (g 4) T = T := by unfold d1; rw [if_pos hz]
      rw [if_pos hz, this, same _ t8]
    · have n8 : S 8 = 0 := by
        rcases h8 with h8 | h8
        · exact h8
        · exact absurd (t0.trans (hf h8)) hz
      rw [if_neg hz, KK_add h hs (by decide) (by decide), b_P, e0, KK_add h hs (by decide) (by decide), b_P, e7, KK_of h hs (by decide) (by decide), b_P, e2n]
      have q2 : upd (upd T 0 (T 0 + -1)) 7 (upd T 0 (T 0 + -1) 7 + 1) 2 = S 2 := by rw [u_n (by omega), u_n (by omega), t2]
      have hw : ((12 : Int32) + S 2).toInt = 12 + (S 2).toInt := by rw [z_add (by rw [e12]; omega) (by rw [e12]; omega), e12]
      have hwn : ((12 : Int32) + S 2).toNatClampNeg = sp T := by
        unfold sp
        rw [t2, z_tn, z_tn, hw]
        omega
      rw [q2, KK_add h hs (by rw [hw]; omega) (by rw [hw]; omega), b_P, hwn]
      have eL : upd (upd (upd T 0 (T 0 + -1)) 7 (upd T 0 (T 0 + -1) 7 + 1)) (sp T) (upd (upd T 0 (T 0 + -1)) 7 (upd T 0 (T 0 + -1) 7 + 1) (sp T) + 1) = LOSE T 1 := by
        have := @sp_ge T
        unfold LOSE
        rw [u_n (show sp T ≠ 7 by omega), u_n (show sp T ≠ 0 by omega), u_n (show (7 : Nat) ≠ 0 by omega), z_m1]
      rw [eL, KK_of h hs (by decide) (by decide), b_P, e0, LOSE_0]
      have l2 : LOSE T 1 2 = S 2 := by rw [LOSE_lo (by omega) (by omega) (by omega), t2]
      have l4 : LOSE T 1 4 = T 4 := LOSE_lo (by omega) (by omega) (by omega)
      have l8 : LOSE T 1 8 = S 8 := by rw [LOSE_lo (by omega) (by omega) (by omega), t8]
      have hd1 : d1 (rl g) (g 4) T = if 0 < T 0 - 1 then LOSE T 1 else OUT1 (rl g) (g 4) (LOSE T 1) := by
        unfold d1
        rw [if_neg hz]
      rw [hd1]
      by_cases hp : T 0 - 1 ≤ 0
      · rw [if_pos hp, if_neg (Int32.not_lt.2 hp), KK_its h hs (by rw [l2]; exact h2) (by rw [l2]; exact h2') (by decide) (by decide), b_P, e0, hRg, l2]
        have fall : ¬ (rn (rl g) (S 2) 0 = 0 ∧ 0 < T 4) → (bP (f_X9_fall N s (KK b s (upd (upd g 7 (g 7 + 1)) 6 (g 6 + 1)) (LOSE T 1))) fun b57 => some b57) = some (KK b s (HD g s 1 (S 8) (OUT1 (rl g) (g 4) (LOSE T 1) 8)) (OUT1 (rl g) (g 4) (LOSE T 1))) := by
          intro hn
          have hO : OUT1 (rl g) (g 4) (LOSE T 1) = upd (LOSE T 1) 8 1 := by
            unfold OUT1
            rw [l2, l4, if_neg hn]
          rw [KK_fall h hs, b_P, hO, u_s]
          unfold HD
          rw [if_pos ⟨n8, by decide⟩, NOTE_u (by omega) (by omega) (by omega) (by omega) (by omega), NOTE_u (by omega) (by omega) (by omega) (by omega) (by omega)]
        by_cases hr : rn (rl g) (S 2) 0 = 0
        · rw [if_pos hr, KK_of h hs (by decide) (by decide), b_P, e4, l4]
          by_cases h4 : T 4 ≤ 0
          · rw [if_pos h4]
            exact fall (fun h9 => (Int32.not_lt.2 h4) h9.2)
          · rw [if_neg h4, KK_add h hs (by decide) (by decide), b_P, e4, KK_put h hs (by decide) (by decide), b_P, e5, KK_rM h, KK_r (by omega), u_n (show (4 : Nat) ≠ 6 by omega), u_n (show (4 : Nat) ≠ 7 by omega), KK_put h hs (by decide) (by decide), b_P, e0, l4, z_m1]
            have hO : OUT1 (rl g) (g 4) (LOSE T 1) = upd (upd (upd (LOSE T 1) 4 (T 4 - 1)) 5 1) 0 (g 4) := by
              unfold OUT1
              rw [l2, l4, if_pos ⟨hr, Int32.not_le.1 h4⟩]
            rw [hO, same]
            rw [u_n (by omega), u_n (by omega), u_n (by omega), l8]
        · rw [if_neg hr]
          exact fall (fun h9 => hr h9.1)
      · rw [if_neg hp, if_pos (Int32.not_le.1 hp), same _ l8]
def capI (R : Nat → Int32) (et : Int32) (S : Nat → Int32) : Int := (S 0).toInt + (if rn R (S 2) 0 = 0 then (S 4).toInt * et.toInt else 0)
theorem capI_ge {R : Nat → Int32} {et : Int32} {S : Nat → Int32} (he : 0 ≤ et.toInt) (h4 : 0 ≤ (S 4).toInt) : (S 0).toInt ≤ capI R et S := by
  unfold capI
  split
  · have := Int.mul_nonneg h4 he
    omega
  · omega
theorem Dn_fell {R : Nat → Int32} {et : Int32} (he : 0 ≤ et.toInt) {c : Nat} : ∀ {S : Nat → Int32}, 0 < (S 0).toInt → S 8 = 0 → 0 ≤ (S 4).toInt → (0 < (S 4).toInt → 1 ≤ et.toInt) → (Dn R et c S 8 = 0 ↔ (c : Int) < capI R et S) := by
  have e0 : (0 : Int32).toInt = 0 := rfl
  have e1 : (1 : Int32).toInt = 1 := rfl
  induction c with
  | zero =>
    intro S h0 h8 h4 hx
    have := @capI_ge R et S he h4
    constructor
    · intro _; omega
    · intro _; exact h8
  | succ c ih =>
    intro S h0 h8 h4 hx
    have b0 := z_hi (S 0)
    have b4 := z_hi (S 4)
    show (Dn R et c (d1 R et S) 8 = 0 ↔ _)
    have hs0 : (S 0 - 1).toInt = (S 0).toInt - 1 := by rw [z_sub (by rw [e1]; omega) (by rw [e1]; omega), e1]
    by_cases h1 : 1 < (S 0).toInt
    · have l0 : LOSE S 1 0 = S 0 - 1 := LOSE_0
      have l2 : LOSE S 1 2 = S 2 := LOSE_lo (by omega) (by omega) (by omega)
      have l4 : LOSE S 1 4 = S 4 := LOSE_lo (by omega) (by omega) (by omega)
      have l8 : LOSE S 1 8 = S 8 := LOSE_lo (by omega) (by omega) (by omega)
      rw [d1_lo h1, ih (by rw [l0, hs0]; omega) (by rw [l8]; exact h8) (by rw [l4]; exact h4) (by rw [l4]; exact hx)]
      unfold capI
      rw [l0, l2, l4, hs0]
      constructor <;> intro h <;> omega
    · have hone : S 0 = 1 := by rw [z_eq, e1]; omega
      have l0 : LOSE S 1 0 = 0 := by rw [LOSE_0, hone]; rfl
      have l2 : LOSE S 1 2 = S 2 := LOSE_lo (by omega) (by omega) (by omega)
      have l4 : LOSE S 1 4 = S 4 := LOSE_lo (by omega) (by omega) (by omega)
      have l8 : LOSE S 1 8 = S 8 := LOSE_lo (by omega) (by omega) (by omega)
      rw [d1_1 hone]
      unfold OUT1
      rw [l2, l4]
      by_cases hq : rn R (S 2) 0 = 0 ∧ 0 < S 4
      · have hq4 := z_lt.1 hq.2
        rw [e0] at hq4
        have het := hx hq4
        have hs4 : (S 4 - 1).toInt = (S 4).toInt - 1 := by rw [z_sub (by rw [e1]; omega) (by rw [e1]; omega), e1]
        rw [if_pos hq]
        have m0 : upd (upd (upd (LOSE S 1) 4 (S 4 - 1)) 5 1) 0 et 0 = et := u_s
        have m2 : upd (upd (upd (LOSE S 1) 4 (S 4 - 1)) 5 1) 0 et 2 = S 2 := by rw [u_n (by omega), u_n (by omega), u_n (by omega), l2]
        have m4 : upd (upd (upd (LOSE S 1) 4 (S 4 - 1)) 5 1) 0 et 4 = S 4 - 1 := by rw [u_n (by omega), u_n (by omega), u_s]
        have m8 : upd (upd (upd (LOSE S 1) 4 (S 4 - 1)) 5 1) 0 et 8 = 0 := by rw [u_n (by omega), u_n (by omega), u_n (by omega), l8, h8]
        rw [ih (by rw [m0]; omega) m8 (by rw [m4, hs4]; omega) (fun _ => het)]
        unfold capI
        rw [m0, m2, m4, hs4, if_pos hq.1, if_pos hq.1, Int.sub_mul, hone, e1]
        constructor <;> intro h <;> omega
      · rw [if_neg hq, Dn_0 (by rw [u_n (by omega), l0]), u_s]
        have hc : capI R et S = 1 := by
          unfold capI
          rw [hone, e1]
          by_cases hr : rn R (S 2) 0 = 0
          · rw [if_pos hr]
            have : (S 4).toInt = 0 := by
              have : ¬ (0 < S 4) := fun h => hq ⟨hr, h⟩
              rw [z_lt, e0] at this
              omega
            rw [this, Int.zero_mul]
            rfl
          · rw [if_neg hr]
            rfl
        rw [hc]
        constructor
        · intro h; exact absurd h (by decide)
        · intro h; omega
def TFI (R : Nat → Int32) (et : Int32) (S : Nat → Int32) : Int32 := FREE R S + S 0 + (if rn R (S 2) 0 = 0 then S 4 * et else 0)
theorem TFI_t {R : Nat → Int32} {et : Int32} {S : Nat → Int32} (he : 0 ≤ et.toInt) (he' : et.toInt ≤ 9999) (h3 : 0 ≤ (rn R (S 2) 3).toInt) (h3' : (rn R (S 2) 3).toInt ≤ 999) (h6 : 0 ≤ (S 6).toInt) (h0 : 0 ≤ (S 0).toInt) (h0' : (S 0).toInt ≤ 2147000000) (h4 : 0 ≤ (S 4).toInt) (h4' : (S 4).toInt ≤ 9) : (TFI R et S).toInt = (FREE R S).toInt + capI R et S ∧ (FREE R S).toInt ≤ 999 ∧ 0 ≤ (FREE R S).toInt ∧ capI R et S ≤ (S 0).toInt + 90000 := by
  have hf := FREE_t h3 h6
  have e0 : (0 : Int32).toInt = 0 := rfl
  have hm1 := Int.mul_nonneg h4 he
  have hm2 : (S 4).toInt * et.toInt ≤ 9 * 9999 := Int.mul_le_mul h4' he' he (by omega)
  have hz : (FREE R S + S 0).toInt = (FREE R S).toInt + (S 0).toInt := z_add (by omega) (by omega)
  unfold TFI capI
  by_cases hr : rn R (S 2) 0 = 0
  · rw [if_pos hr, if_pos hr]
    have hm : (S 4 * et).toInt = (S 4).toInt * et.toInt := z_mul (by omega) (by omega)
    rw [z_add (by rw [hm, hz]; omega) (by rw [hm, hz]; omega), hm, hz]
    omega
  · rw [if_neg hr, if_neg hr, Int32.add_zero, hz]
    omega
theorem RUN_fell {R : Nat → Int32} {et n : Int32} {S : Nat → Int32} (he : 0 ≤ et.toInt) (he' : et.toInt ≤ 9999) (h3 : 0 ≤ (rn R (S 2) 3).toInt) (h3' : (rn R (S 2) 3).toInt ≤ 999) (h6 : 0 ≤ (S 6).toInt) (h0 : 0 < (S 0).toInt) (h0' : (S 0).toInt ≤ 2147000000) (h4 : 0 ≤ (S 4).toInt) (h4' : (S 4).toInt ≤ 9) (hx : 0 < (S 4).toInt → 1 ≤ et.toInt) (h8 : S 8 = 0) (hn : 0 ≤ n.toInt) : (RUN R et n S 8 = 0 ↔ n.toInt < (TFI R et S).toInt) := by
  obtain ⟨t1, t2, t3, t4⟩ := @TFI_t R et S he he' h3 h3' h6 (by omega) h0' h4 h4'
  have hc := @capI_ge R et S he h4
  have bn := z_hi n
  have e0 : (0 : Int32).toInt = 0 := rfl
  rw [RUN_THK, THK_n (by omega) (by omega), Dn_fell he h0 h8 h4 hx, t1, z_tn, z_mx, z_sub (by omega) (by omega), e0]
  omega
def PASS (g S : Nat → Int32) (n : Int32) : Int32 := if g 10 = 0 ∧ S 8 = 0 then mnI n (TFI (rl g) (g 4) S) else n
theorem HD_z {g : Nat → Int32} {s x : Int32} : HD g s 0 x x = g := by
  unfold HD
  rw [if_neg (fun h => h.2 h.1), Int32.add_zero, Int32.add_zero, u_id, u_id]
theorem r_ticks {N : Nat} {b : Mem} {s n : Int32} {g S : Nat → Int32} {Lb Tb Mb : Int} (hN : 10010 ≤ N) (h : b 0 3 = 0) (hs : s = 0 ∨ s = 1) (g0 : g 0 = 1) (g1 : g 1 = s) (hn : 0 ≤ n.toInt) (hn' : n.toInt ≤ 9999) (hR : VR (rl g) (g 2) (g 4)) (hV : VS Lb Tb Mb (rl g) (g 2) (g 4) S) (hL : Lb ≤ 2147000000) (hT : Tb ≤ 2147000000) :
    f_X9_ticks N n (KK b s g S) = some (KK b s (HD g s (PASS g S n) (S 8) (RUN (rl g) (g 4) (PASS g S n) S 8)) (RUN (rl g) (g 4) (PASS g S n) S)) ∧ 0 ≤ (PASS g S n).toInt ∧ (PASS g S n).toInt ≤ n.toInt := by
  have e0 : (0 : Int32).toInt = 0 := rfl
  obtain ⟨v0, v2, v3, v4, v5, v6, v7, v8, v9, vf, vx, ve, vd⟩ := hV
  have hper := hR.at v2.1 v2.2
  have hR1 := hR
  obtain ⟨r1, r2, r3, r4, -⟩ := hR1
  have hfell : g 10 = 0 ∧ S 8 = 0 → ∀ m : Int32, 0 ≤ m.toInt → (RUN (rl g) (g 4) m S 8 = 0 ↔ m.toInt < (TFI (rl g) (g 4) S).toInt) := by
    intro hq m hm
    refine RUN_fell r3 r4 hper.2.2.2.1.1 hper.2.2.2.1.2 v6.1 ?_ (by omega) v4.1 v4.2 ve hq.2 hm
    have : (S 0).toInt ≠ 0 := by
      intro h9
      have := vf.2 (z_eq.2 (h9.trans e0.symm))
      rw [hq.2] at this
      exact absurd this (by decide)
    omega
  obtain ⟨t1, t2, t3, t4⟩ := @TFI_t (rl g) (g 4) S r3 r4 hper.2.2.2.1.1 hper.2.2.2.1.2 v6.1 v0.1 (by omega) v4.1 v4.2
  have hcap := @capI_ge (rl g) (g 4) S r3 v4.1
  have hP : 0 ≤ (PASS g S n).toInt ∧ (PASS g S n).toInt ≤ n.toInt := by
    unfold PASS
    split
    · rw [z_mn]
      omega
    · omega
  refine ⟨?_, hP⟩
  have key : ∀ (fu m : Nat), (m : Int) ≤ (PASS g S n).toInt → (PASS g S n).toInt - m + 2 ≤ fu → f_X9_ticks_2 N n fu (nI m) (KK b s (HD g s (nI m) (S 8) (RUN (rl g) (g 4) (nI m) S 8)) (RUN (rl g) (g 4) (nI m) S)) = some (KK b s (HD g s (PASS g S n) (S 8) (RUN (rl g) (g 4) (PASS g S n) S 8)) (RUN (rl g) (g 4) (PASS g S n) S)) := by
    intro fu
    induction fu with
    | zero => intro m h1 h2; omega
    | succ fu ih =>
      intro m h1 h2
      have em : (nI m).toInt = m := z_nI (by omega)
      unfold f_X9_ticks_2
      by_cases hmn : n ≤ nI m
      · rw [if_pos hmn]
        have := z_le.1 hmn
        have e : nI m = PASS g S n := by rw [z_eq]; omega
        rw [e]
      · rw [if_neg hmn]
        have hmn2 := z_nle hmn
        rw [em] at hmn2
        by_cases hlt : (m : Int) < (PASS g S n).toInt
        · -- not at an end
          have hx0 : HD g s (nI m) (S 8) (RUN (rl g) (g 4) (nI m) S 8) 0 = 1 := by
            unfold HD
            rw [u_n (by omega), u_n (by omega)]
            by_cases hq : S 8 = 0 ∧ RUN (rl g) (g 4) (nI m) S 8 ≠ 0
            · rw [if_pos hq]
              unfold NOTE
              by_cases h10 : g 10 = 0
              · exfalso
                have hh := hfell ⟨h10, hq.1⟩ (nI m) (by omega)
                apply hq.2
                rw [hh, em]
                unfold PASS at hlt
                rw [if_pos ⟨h10, hq.1⟩, z_mn] at hlt
                omega
              · rw [if_neg h10, u_n (by omega), g0]
            · rw [if_neg hq, g0]
          have hx1 : HD g s (nI m) (S 8) (RUN (rl g) (g 4) (nI m) S 8) 1 = s := by rw [HD_lo (by omega) (by omega) (by omega) (by omega) (by omega), g1]
          have hx2 : RUN (rl g) (g 4) (nI m) S 2 = S 2 := RUN_n (by omega) (by omega) (by omega) (by omega) (by omega) (by omega) (by omega) (by omega)
          have hVR : VS Lb (Tb + n.toInt) Mb (rl g) (g 2) (g 4) (RUN (rl g) (g 4) (nI m) S) ∨ True := Or.inr trivial
          have h8' : (RUN (rl g) (g 4) (nI m) S 8 = 0 ∨ RUN (rl g) (g 4) (nI m) S 8 = 1) ∧ (RUN (rl g) (g 4) (nI m) S 8 = 1 → RUN (rl g) (g 4) (nI m) S 0 = 0) := by
            rw [RUN_THK, THK_n (by omega) (by omega), THK_n (by omega) (by omega)]
            have hc : ((mxI 0 (nI m - FREE (rl g) S)).toNatClampNeg : Int) ≤ m := by
              rw [z_tn, z_mx, z_sub (by omega) (by omega), em, e0]
              omega
            have hV9 := @VS_Dn (max Lb 9999) (Tb + 9999) Mb (rl g) (g 2) (g 4) (mxI 0 (nI m - FREE (rl g) S)).toNatClampNeg S hR ⟨⟨v0.1, by omega⟩, v2, v3, v4, v5, ⟨v6.1, by omega⟩, ⟨v7.1, by omega⟩, v8, v9, vf, vx, ve, vd⟩ (by omega) (by omega) (by omega)
            obtain ⟨-, -, -, -, -, -, -, w8, -, wf, -⟩ := hV9
            exact ⟨w8, fun h9 => wf.1 h9⟩
          rw [KK_st h, b_P, if_pos hx0, if_neg (by decide), r_tick1 h hs hx0 hx1 (by rw [hx2]; exact v2.1) (by rw [hx2]; omega) h8'.1 h8'.2, b_P, b_T, nI_1, HD_rl, HD_lo (show (4 : Nat) ≠ 0 by omega) (by omega) (by omega) (by omega) (by omega), ← RUN_s hper.2.2.2.1.1 v6.1 (by omega)]
          have eH := @HD_HD g s (nI m) 1 (S 8) (RUN (rl g) (g 4) (nI m) S 8) (RUN (rl g) (g 4) (nI (m + 1)) S 8) (fun h9 => by rw [RUN_s hper.2.2.2.1.1 v6.1 (by omega)]; exact TK1_8 h9) (fun h9 => RUN_8 h9)
          rw [eH, nI_1]
          exact ih (m + 1) (by omega) (by omega)
        · -- the flag has fallen and ends the game
          have hq : g 10 = 0 ∧ S 8 = 0 := by
            apply Classical.byContradiction
            intro h9
            unfold PASS at hlt h1
            rw [if_neg h9] at hlt h1
            omega
          have em2 : nI m = PASS g S n := by rw [z_eq]; omega
          have hlt2 := hlt
          unfold PASS at hlt2 h1
          rw [if_pos hq, z_mn] at hlt2 h1
          have hne : RUN (rl g) (g 4) (nI m) S 8 ≠ 0 := by
            intro h9
            have := (hfell hq (nI m) (by omega)).1 h9
            omega
          have hx0 : HD g s (nI m) (S 8) (RUN (rl g) (g 4) (nI m) S 8) 0 = 4 := by
            unfold HD
            rw [u_n (by omega), u_n (by omega), if_pos ⟨hq.2, hne⟩]
            unfold NOTE
            rw [if_pos hq.1, u_n (by omega), u_s]
          rw [KK_st h, b_P, hx0, if_pos (by decide), em2]
  unfold f_X9_ticks
  have := key N 0 (by omega) (by omega)
  rw [nI_0, RUN_z, HD_z] at this
  exact this

