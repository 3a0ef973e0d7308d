def KK (b : Mem) (s : Int32) (g S : Nat → Int32) : Mem := upR b 1 (setS g (oS s) S)
theorem KK_id {b : Mem} {s : Int32} : KK b s (b 1) (sl (b 1) (oS s)) = b := by
  unfold KK
  rw [setS_id, R_id]
theorem KK_0 {b : Mem} {s : Int32} {g S : Nat → Int32} : KK b s g S 0 = b 0 := R_n (by omega)
theorem KK_1 {b : Mem} {s : Int32} {g S : Nat → Int32} : KK b s g S 1 = setS g (oS s) S := R_s
theorem KK_n {b : Mem} {s : Int32} {g S : Nat → Int32} {k : Nat} (h : k ≠ 1) : KK b s g S k = b k := R_n h
theorem KK_rM {b : Mem} {s : Int32} {g S : Nat → Int32} (h : b 0 3 = 0) : rowM (KK b s g S 0 3) = 1 := by rw [KK_0, h]; rfl
theorem KK_r {b : Mem} {s : Int32} {g S : Nat → Int32} {j : Nat} (hj : j < 37) : KK b s g S 1 j = g j := by rw [KK_1, setS_lo hj]
theorem KK_w {b : Mem} {s : Int32} {g S : Nat → Int32} {j : Nat} {v : Int32} (hj : j < 37) : upR (KK b s g S) 1 (upd (KK b s g S 1) j v) = KK b s (upd g j v) S := by
  unfold KK
  rw [R_R, R_s, setS_up hj]
theorem setS_slu {g g1 : Nat → Int32} {o w : Nat} {v : Int32} {S : Nat → Int32} : setS g1 o (upd (sl (setS g o S) o) w v) = setS g1 o (upd S w v) := by
  funext j
  unfold setS upd sl
  by_cases h1 : o ≤ j ∧ j < o + 17
  · rw [if_pos h1, if_pos h1]
    by_cases h2 : j - o = w
    · rw [if_pos h2, if_pos h2]
    · rw [if_neg h2, if_neg h2, if_pos (show j - o < 17 by omega)]
      show (if o ≤ o + (j - o) ∧ o + (j - o) < o + 17 then S (o + (j - o) - o) else g (o + (j - o))) = S (j - o)
      rw [if_pos (by omega), show o + (j - o) - o = j - o by omega]
  · rw [if_neg h1, if_neg h1]
theorem sl_setS {g : Nat → Int32} {o i : Nat} {S : Nat → Int32} (h : i < 17) : sl (setS g o S) o i = S i := by
  unfold sl setS
  rw [if_pos h, if_pos (by omega), show o + i - o = i by omega]
theorem oS_oth {s : Int32} (hs : s = 0 ∨ s = 1) : oS s + 17 ≤ oS (1 - s) ∨ oS (1 - s) + 17 ≤ oS s := by
  rcases hs with rfl | rfl <;> decide
theorem s_oth {s : Int32} (hs : s = 0 ∨ s = 1) : 1 - s = 0 ∨ 1 - s = 1 := by
  rcases hs with rfl | rfl <;> decide
theorem KK_of {N : Nat} {b : Mem} {s w : Int32} {g S : Nat → Int32} (h : b 0 3 = 0) (hs : s = 0 ∨ s = 1) (h1 : 0 ≤ w.toInt) (h2 : w.toInt < 17) : f_X9_of N s w (KK b s g S) = some (S w.toNatClampNeg) := by
  rw [r_of (by rw [KK_0, h]) hs h1 h2, KK_1, sl_setS (by rw [z_tn]; omega)]
theorem KK_oth {N : Nat} {b : Mem} {s w : Int32} {g S : Nat → Int32} (h : b 0 3 = 0) (hs : s = 0 ∨ s = 1) (h1 : 0 ≤ w.toInt) (h2 : w.toInt < 17) : f_X9_of N (1 - s) w (KK b s g S) = some (sl g (oS (1 - s)) w.toNatClampNeg) := by
  rw [r_of (by rw [KK_0, h]) (s_oth hs) h1 h2, KK_1, setS_o (oS_oth hs)]
theorem KK_add {N : Nat} {b : Mem} {s w v : Int32} {g S : Nat → Int32} (h : b 0 3 = 0) (hs : s = 0 ∨ s = 1) (h1 : 0 ≤ w.toInt) (h2 : w.toInt < 17) : f_X9_add N s w v (KK b s g S) = some (KK b s g (upd S w.toNatClampNeg (S w.toNatClampNeg + v))) := by
  rw [r_add (by rw [KK_0, h]) hs h1 h2, KK_1, sl_setS (by rw [z_tn]; omega), setS_slu, setS_setS]
  unfold KK
  rw [R_R]
theorem KK_put {N : Nat} {b : Mem} {s w v : Int32} {g S : Nat → Int32} (h : b 0 3 = 0) (hs : s = 0 ∨ s = 1) (h1 : 0 ≤ w.toInt) (h2 : w.toInt < 17) : f_X9_put N s w v (KK b s g S) = some (KK b s g (upd S w.toNatClampNeg v)) := by
  rw [r_put (by rw [KK_0, h]) hs h1 h2, KK_1, setS_slu, setS_setS]
  unfold KK
  rw [R_R]
theorem KK_its {N : Nat} {b : Mem} {s w : Int32} {g S : Nat → Int32} (h : b 0 3 = 0) (hs : s = 0 ∨ s = 1) (hp1 : 0 ≤ (S 2).toInt) (hp2 : (S 2).toInt < 5) (h1 : 0 ≤ w.toInt) (h2 : w.toInt < 5) : f_X9_its N s w (KK b s g S) = some (rn (rl g) (S 2) w.toNatClampNeg) := by
  have e : sl (KK b s g S 1) (oS s) 2 = S 2 := by rw [KK_1, sl_setS (by omega)]
  rw [r_its (by rw [KK_0, h]) hs (by rw [e]; exact hp1) (by rw [e]; exact hp2) h1 h2, e, KK_1, setS_rl]
theorem KK_st {N : Nat} {b : Mem} {s p : Int32} {g S : Nat → Int32} (h : b 0 3 = 0) : f_X9_isState N p (KK b s g S) = some (if g 0 = p then 1 else 0) := by
  rw [r_st (by rw [KK_0, h]), KK_r (by omega)]
theorem KK_mv {N : Nat} {b : Mem} {s : Int32} {g S : Nat → Int32} (h : b 0 3 = 0) : f_X9_mover N (KK b s g S) = some (g 1) := by
  rw [r_mv (by rw [KK_0, h]), KK_r (by omega)]
theorem KK_fl {N : Nat} {b : Mem} {s : Int32} {g S : Nat → Int32} (h : b 0 3 = 0) (hs : s = 0 ∨ s = 1) : f_X9_fell N s (KK b s g S) = some (if S 8 = 1 then 1 else 0) := by
  rw [r_fl (by rw [KK_0, h]) hs, KK_1, sl_setS (by omega)]
def WON (g : Nat → Int32) (s : Int32) : Int32 := if sl g (oS (1 - s)) 9 = 1 then 2 else 1 - s
def NOTE (g : Nat → Int32) (s : Int32) : Nat → Int32 := if g 10 = 0 then upd (upd (upd g 9 (if g 9 = -1 then s else g 9)) 0 4) 11 (WON g s) else upd g 9 (if g 9 = -1 then s else g 9)
theorem sl_WON {g : Nat → Int32} {s : Int32} {j : Nat} {v : Int32} (h : j < 37) : WON (upd g j v) s = WON g s := by
  unfold WON
  rw [sl_lo h]
theorem KK_won {N : Nat} {b : Mem} {s : Int32} {g S : Nat → Int32} (h : b 0 3 = 0) (hs : s = 0 ∨ s = 1) : f_X9_wonBy N (1 - s) (KK b s g S) = some (WON g s) := by
  unfold f_X9_wonBy WON
  rw [KK_oth h hs (by decide) (by decide), b_P]
  show (if sl g (oS (1 - s)) 9 = 1 then _ else _) = _
  split <;> rfl
theorem KK_fall {N : Nat} {b : Mem} {s : Int32} {g S : Nat → Int32} (h : b 0 3 = 0) (hs : s = 0 ∨ s = 1) : f_X9_fall N s (KK b s g S) = some (KK b s (NOTE g s) (upd S 8 1)) := by
  have e8 : ((8 : Int32)).toNatClampNeg = 8 := rfl
  have e9 : ((9 : Int32)).toNatClampNeg = 9 := rfl
  have e10 : ((10 : Int32)).toNatClampNeg = 10 := rfl
  have e11 : ((11 : Int32)).toNatClampNeg = 11 := rfl
  have e0 : ((0 : Int32)).toNatClampNeg = 0 := rfl
  have key : ∀ x4 : Int32, f_X9_fall_36 N s (KK b s g (upd S 8 1)) x4 = some (KK b s (if g 10 = 0 then upd (upd (upd g 9 x4) 0 4) 11 (WON g s) else upd g 9 x4) (upd S 8 1)) := by
    intro x4
    unfold f_X9_fall_36
    rw [KK_rM h, e9, KK_w (by omega), b_T, KK_rM h, e10, KK_r (by omega), u_n (by omega)]
    by_cases h10 : g 10 = 0
    · rw [if_pos h10, if_pos h10, KK_won h hs, b_P, sl_WON (by omega)]
      unfold f_X9_endGame
      rw [KK_rM h, e0, KK_w (by omega), b_T, KK_rM h, e11, KK_w (by omega), b_T, b_P]
    · rw [if_neg h10, if_neg h10]
  unfold f_X9_fall
  rw [KK_put h hs (by decide) (by decide), b_P, e8, KK_rM h, e9, KK_r (by omega)]
  unfold NOTE
  by_cases hm : g 9 = -1
  · rw [if_pos hm, key, if_pos hm]
  · rw [if_neg hm, key, if_neg hm]
def THK (S : Nat → Int32) (m : Int32) : Nat → Int32 := upd (upd S 6 (S 6 + m)) 10 (S 10 + m)
def TK1 (R : Nat → Int32) (et : Int32) (S : Nat → Int32) : Nat → Int32 := if S 6 + 1 ≤ rn R (S 2) 3 then THK S 1 else d1 R et (THK S 1)
theorem THK_n {S : Nat → Int32} {m : Int32} {j : Nat} (h6 : j ≠ 6) (h10 : j ≠ 10) : THK S m j = S j := by
  unfold THK
  rw [u_n h10, u_n h6]
theorem LOSE_u {S : Nat → Int32} {m x : Int32} {j : Nat} (hj : j < 12) (h0 : j ≠ 0) (h2 : j ≠ 2) (h7 : j ≠ 7) : LOSE (upd S j x) m = upd (LOSE S m) j x := by
  have e2 : sp (upd S j x) = sp S := by unfold sp; rw [u_n (Ne.symm h2)]
  have hs := @sp_ge S
  unfold LOSE
  rw [e2, u_n (Ne.symm h0), u_n (Ne.symm h7), u_n (show sp S ≠ j by omega), u_cm (Ne.symm h0), u_cm (Ne.symm h7), u_cm (show sp S ≠ j by omega)]
theorem OUT1_u {R : Nat → Int32} {et x : Int32} {S : Nat → Int32} {j : Nat} (h0 : j ≠ 0) (h2 : j ≠ 2) (h4 : j ≠ 4) (h5 : j ≠ 5) (h8 : j ≠ 8) : OUT1 R et (upd S j x) = upd (OUT1 R et S) j x := by
  unfold OUT1
  rw [u_n (Ne.symm h2), u_n (Ne.symm h4)]
  split
  · rw [u_cm (Ne.symm h4), u_cm (Ne.symm h5), u_cm (Ne.symm h0)]
  · rw [u_cm (Ne.symm h8)]
theorem d1_u {R : Nat → Int32} {et x : Int32} {S : Nat → Int32} {j : Nat} (hj : j < 12) (h0 : j ≠ 0) (h2 : j ≠ 2) (h4 : j ≠ 4) (h5 : j ≠ 5) (h7 : j ≠ 7) (h8 : j ≠ 8) : d1 R et (upd S j x) = upd (d1 R et S) j x := by
  unfold d1
  rw [u_n (Ne.symm h0), LOSE_u hj h0 h2 h7, OUT1_u h0 h2 h4 h5 h8]
  split
  · rfl
  · split <;> rfl
theorem Dn_u {R : Nat → Int32} {et x : Int32} {n : Nat} {S : Nat → Int32} {j : Nat} (hj : j < 12) (h0 : j ≠ 0) (h2 : j ≠ 2) (h4 : j ≠ 4) (h5 : j ≠ 5) (h7 : j ≠ 7) (h8 : j ≠ 8) : Dn R et n (upd S j x) = upd (Dn R et n S) j x := by
  induction n generalizing S with
  | zero => rfl
  | succ n ih =>
    show Dn R et n (d1 R et (upd S j x)) = upd (Dn R et n (d1 R et S)) j x
    rw [d1_u hj h0 h2 h4 h5 h7 h8, ih]
theorem Dn_THK {R : Nat → Int32} {et m : Int32} {n : Nat} {S : Nat → Int32} : Dn R et n (THK S m) = THK (Dn R et n S) m := by
  unfold THK
  rw [Dn_u (by omega) (by omega) (by omega) (by omega) (by omega) (by omega) (by omega), Dn_u (by omega) (by omega) (by omega) (by omega) (by omega) (by omega) (by omega), Dn_n (by omega) (by omega) (by omega) (by omega) (by omega) (by omega), Dn_n (by omega) (by omega) (by omega) (by omega) (by omega) (by omega)]
theorem THK_THK {S : Nat → Int32} {m n : Int32} : THK (THK S m) n = THK S (m + n) := by
  unfold THK
  have e6 : upd (upd S 6 (S 6 + m)) 10 (S 10 + m) 6 = S 6 + m := by rw [u_n (by omega), u_s]
  rw [e6, u_s, u_cm (show (6 : Nat) ≠ 10 by omega), u_uu, u_uu, Int32.add_assoc, Int32.add_assoc]
theorem RUN_THK {R : Nat → Int32} {et n : Int32} {S : Nat → Int32} : RUN R et n S = THK (Dn R et (mxI 0 (n - FREE R S)).toNatClampNeg S) n := Dn_THK
theorem RUN_n {R : Nat → Int32} {et n : Int32} {S : Nat → Int32} {j : Nat} (h : j < 12) (h0 : j ≠ 0) (h4 : j ≠ 4) (h5 : j ≠ 5) (h7 : j ≠ 7) (h8 : j ≠ 8) (h6 : j ≠ 6) (h10 : j ≠ 10) : RUN R et n S j = S j := by
  rw [RUN_THK, THK_n h6 h10, Dn_n h h0 h4 h5 h7 h8]
theorem RUN_6 {R : Nat → Int32} {et n : Int32} {S : Nat → Int32} : RUN R et n S 6 = S 6 + n := by
  rw [RUN_THK]
  unfold THK
  rw [u_n (by omega), u_s, Dn_n (by omega) (by omega) (by omega) (by omega) (by omega) (by omega)]
theorem RUN_z {R : Nat → Int32} {et : Int32} {S : Nat → Int32} : RUN R et 0 S = S := by
  have e : mxI 0 (0 - FREE R S) = 0 := by
    have e0 : (0 : Int32).toInt = 0 := rfl
    have h1 : 0 ≤ (FREE R S).toInt := by unfold FREE; rw [z_mx, e0]; omega
    have h2 := z_hi (FREE R S)
    rw [z_eq, z_mx, z_sub (by rw [e0]; omega) (by rw [e0]; omega), e0]
    omega
  rw [RUN_THK, e]
  show THK S 0 = S
  unfold THK
  rw [Int32.add_zero, Int32.add_zero, u_id, u_id]
theorem FREE_t {R S : Nat → Int32} (h1 : 0 ≤ (rn R (S 2) 3).toInt) (h2 : 0 ≤ (S 6).toInt) : (FREE R S).toInt = max 0 ((rn R (S 2) 3).toInt - (S 6).toInt) := by
  have b1 := z_hi (rn R (S 2) 3)
  have b2 := z_hi (S 6)
  unfold FREE
  rw [z_mx, z_sub (by omega) (by omega)]
  rfl
theorem RUN_s {R : Nat → Int32} {et : Int32} {n : Nat} {S : Nat → Int32} (h1 : 0 ≤ (rn R (S 2) 3).toInt) (h2 : 0 ≤ (S 6).toInt) (h3 : (S 6).toInt + n + 1 ≤ 2147483647) : RUN R et (nI (n + 1)) S = TK1 R et (RUN R et (nI n) S) := by
  have e0 : (0 : Int32).toInt = 0 := rfl
  have e1 : (1 : Int32).toInt = 1 := rfl
  have hf := FREE_t h1 h2
  have b1 := z_hi (rn R (S 2) 3)
  have en : (nI n).toInt = n := z_nI (by omega)
  have en1 : (nI (n + 1)).toInt = (n + 1 : Nat) := z_nI (by omega)
  have hc : (mxI 0 (nI n - FREE R S)).toInt = max 0 ((n : Int) - (FREE R S).toInt) := by
    rw [z_mx, z_sub (by rw [en]; omega) (by rw [en]; omega), en]
    rfl
  have hc1 : (mxI 0 (nI (n + 1) - FREE R S)).toInt = max 0 ((n + 1 : Nat) - (FREE R S).toInt) := by
    rw [z_mx, z_sub (by rw [en1]; omega) (by rw [en1]; omega), en1]
    rfl
  have h6 : (S 6 + nI n + 1).toInt = (S 6).toInt + n + 1 := by
    rw [z_add (by rw [z_add (by rw [en]; omega) (by rw [en]; omega), en, e1]; omega) (by rw [z_add (by rw [en]; omega) (by rw [en]; omega), en, e1]; omega), z_add (by rw [en]; omega) (by rw [en]; omega), en, e1]
  unfold TK1
  rw [RUN_6, RUN_n (by omega) (by omega) (by omega) (by omega) (by omega) (by omega) (by omega) (by omega)]
  rw [RUN_THK, RUN_THK]
  by_cases hd : S 6 + nI n + 1 ≤ rn R (S 2) 3
  · rw [if_pos hd, THK_THK, nI_1]
    have := z_le.1 hd
    congr 1
    congr 1
    rw [z_tn, z_tn, hc, hc1]
    omega
  · rw [if_neg hd]
    have := z_nle hd
    have ee : (mxI 0 (nI (n + 1) - FREE R S)).toNatClampNeg = (mxI 0 (nI n - FREE R S)).toNatClampNeg + 1 := by
      rw [z_tn, z_tn, hc, hc1]
      omega
    rw [ee, Dn_s, THK_THK, nI_1]
    unfold THK
    rw [d1_u (by omega) (by omega) (by omega) (by omega) (by omega) (by omega) (by omega), d1_u (by omega) (by omega) (by omega) (by omega) (by omega) (by omega) (by omega), d1_n (by omega) (by omega) (by omega) (by omega) (by omega) (by omega), d1_n (by omega) (by omega) (by omega) (by omega) (by omega) (by omega)]

