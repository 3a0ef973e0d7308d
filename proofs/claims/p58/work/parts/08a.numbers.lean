theorem z_bm {x : Int} (h1 : -2147483648 ≤ x) (h2 : x ≤ 2147483647) : x.bmod (2 ^ 32) = x := Int.bmod_eq_of_le_mul_two (y := 4294967296) (by omega) (by omega)
theorem z_add {x y : Int32} (h1 : -2147483648 ≤ x.toInt + y.toInt) (h2 : x.toInt + y.toInt ≤ 2147483647) : (x + y).toInt = x.toInt + y.toInt := by rw [Int32.toInt_add, z_bm h1 h2]
theorem z_sub {x y : Int32} (h1 : -2147483648 ≤ x.toInt - y.toInt) (h2 : x.toInt - y.toInt ≤ 2147483647) : (x - y).toInt = x.toInt - y.toInt := by rw [Int32.toInt_sub, z_bm h1 h2]
theorem z_mul {x y : Int32} (h1 : -2147483648 ≤ x.toInt * y.toInt) (h2 : x.toInt * y.toInt ≤ 2147483647) : (x * y).toInt = x.toInt * y.toInt := by rw [Int32.toInt_mul, z_bm h1 h2]
theorem z_lo (x : Int32) : -2147483648 ≤ x.toInt := x.le_toInt
theorem z_hi (x : Int32) : x.toInt ≤ 2147483647 := by
  have h : x.toInt < 2147483648 := x.toInt_lt
  omega
theorem z_div {x y : Int32} (h1 : 0 ≤ x.toInt) (h2 : 0 < y.toInt) : (x / y).toInt = x.toInt / y.toInt := by
  rw [Int32.toInt_div, Int.tdiv_eq_ediv_of_nonneg h1, z_bm]
  · have := Int.ediv_nonneg h1 (Int.le_of_lt h2)
    omega
  · have h3 : x.toInt / y.toInt ≤ x.toInt := Int.ediv_le_self _ h1
    have h4 := z_hi x
    omega
theorem z_lt {x y : Int32} : x < y ↔ x.toInt < y.toInt := Int32.lt_iff_toInt_lt
theorem z_le {x y : Int32} : x ≤ y ↔ x.toInt ≤ y.toInt := Int32.le_iff_toInt_le
theorem z_eq {x y : Int32} : x = y ↔ x.toInt = y.toInt := Int32.toInt_inj.symm
theorem z_nlt {x y : Int32} (h : ¬ x < y) : ¬ x.toInt < y.toInt := fun h2 => h (z_lt.2 h2)
theorem z_nle {x y : Int32} (h : ¬ x ≤ y) : ¬ x.toInt ≤ y.toInt := fun h2 => h (z_le.2 h2)
theorem z_mx {x y : Int32} : (mxI x y).toInt = max x.toInt y.toInt := by
  unfold mxI
  by_cases h : x < y
  · rw [if_pos h]
    have := z_lt.1 h
    omega
  · rw [if_neg h]
    have := z_nlt h
    omega
theorem z_mn {x y : Int32} : (mnI x y).toInt = min x.toInt y.toInt := by
  unfold mnI
  by_cases h : y < x
  · rw [if_pos h]
    have := z_lt.1 h
    omega
  · rw [if_neg h]
    have := z_nlt h
    omega
theorem z_tn (x : Int32) : x.toNatClampNeg = x.toInt.toNat := rfl
theorem z_m1 (x : Int32) : x + (-1 : Int32) = x - 1 := by rw [Int32.sub_eq_add_neg]
theorem z_nI {n : Nat} (h : n < 2147483648) : (nI n).toInt = (n : Int) := nI_toInt h
theorem z_of {x : Int32} (h : 0 ≤ x.toInt) : nI x.toNatClampNeg = x := Int32.ofNat_toNatClampNeg x (z_le.2 h)
theorem z_s0 {x y : Int32} (h : x - y = 0) : x = y := by
  have h2 := Int32.sub_eq_iff_eq_add.1 h
  rwa [Int32.zero_add] at h2
theorem mxI_c {x y : Int32} : mxI x y = mxI y x := by
  rw [z_eq, z_mx, z_mx]
  omega
theorem mnI_c {x y : Int32} : mnI x y = mnI y x := by
  rw [z_eq, z_mn, z_mn]
  omega
theorem u_s {f : Nat → Int32} {k : Nat} {x : Int32} : upd f k x k = x := if_pos rfl
theorem u_n {f : Nat → Int32} {k j : Nat} {x : Int32} (h : j ≠ k) : upd f k x j = f j := if_neg h
theorem u_lo {f : Nat → Int32} {q j : Nat} {x : Int32} (h : j < 12) : upd f (q + 12) x j = f j := if_neg (by omega)
theorem u_id {f : Nat → Int32} {k : Nat} : upd f k (f k) = f := by
  funext j
  unfold upd
  split
  · rename_i h; rw [h]
  · rfl
theorem u_uu {f : Nat → Int32} {k : Nat} {x y : Int32} : upd (upd f k x) k y = upd f k y := by
  funext j
  unfold upd
  split <;> rfl
theorem u_cm {f : Nat → Int32} {k j : Nat} {x y : Int32} (h : j ≠ k) : upd (upd f k x) j y = upd (upd f j y) k x := by
  funext i
  unfold upd
  by_cases h1 : i = j
  · subst h1; simp [h]
  · simp [h1]
theorem R_s {a : Mem} {k : Nat} {g : Nat → Int32} : upR a k g k = g := if_pos rfl
theorem R_n {a : Mem} {k k1 : Nat} {g : Nat → Int32} (h : k1 ≠ k) : upR a k g k1 = a k1 := if_neg h
theorem R_R {a : Mem} {k : Nat} {g g1 : Nat → Int32} : upR (upR a k g) k g1 = upR a k g1 := by
  funext k1
  unfold upR
  split <;> rfl
theorem R_id {a : Mem} {k : Nat} : upR a k (a k) = a := by
  funext k1
  unfold upR
  split
  · rename_i h; rw [h]
  · rfl
theorem R_cm {a : Mem} {k j : Nat} {g g1 : Nat → Int32} (h : j ≠ k) : upR (upR a k g) j g1 = upR (upR a j g1) k g := by
  funext i
  unfold upR
  by_cases h1 : i = j
  · subst h1; simp [h]
  · simp [h1]
theorem p2_n {a : Mem} {k j k1 : Nat} {x : Int32} (h : k1 ≠ k) : up2 a k j x k1 = a k1 := if_neg h
theorem p2_s {a : Mem} {k j : Nat} {x : Int32} : up2 a k j x k = upd (a k) j x := if_pos rfl
theorem nb_nb {x : Int32} : nb (nb x) = nb x := nb_id nb_B
theorem nb_0 : nb 0 = 0 := rfl
theorem nb_1 : nb 1 = 1 := rfl
theorem nb_z {x : Int32} : nb x = 0 ↔ x = 0 := by
  unfold nb
  by_cases h : x = 0
  · simp [h]
  · simp [h]
def oS (s : Int32) : Nat := if s = 0 then 37 else 54
def sl (g : Nat → Int32) (o : Nat) : Nat → Int32 := fun i => if i < 17 then g (o + i) else 0
def rl (g : Nat → Int32) : Nat → Int32 := fun i => if i < 25 then g (12 + i) else 0
def sI (a : Mem) (k : Nat) : Nat → Int32 := fun i => if i < 17 then (if i = 0 then a k 1 else if i = 1 then a k 3 else if i = 2 then a k 2 else if i = 3 then a k 4 else if i = 4 then a k 5 else if i = 5 then nb (a k 6) else if i = 6 then a k 7 else if i = 7 then a k 8 else if i = 8 then nb (a k 9) else if i = 9 then nb (a k 10) else if i = 10 then a k 11 else if i = 11 then a k 12 else a (k + 1) (i - 12)) else 0
def rI (a : Mem) (k : Nat) : Nat → Int32 := fun i => if i < 25 then a (k + 1) i else 0
theorem oS_ge {s : Int32} : 37 ≤ oS s := by unfold oS; split <;> omega
theorem oS_le {s : Int32} : oS s ≤ 54 := by unfold oS; split <;> omega
theorem oS_0 : oS 0 = 37 := rfl
theorem oS_1 : oS 1 = 54 := rfl
theorem sl_i {g : Nat → Int32} {o i : Nat} (h : i < 17) : sl g o i = g (o + i) := if_pos h
theorem sl_u1 {g : Nat → Int32} {o w : Nat} {v : Int32} (h : w < 17) : sl (upd g (o + w) v) o = upd (sl g o) w v := by
  funext i
  unfold sl upd
  by_cases h1 : i < 17
  · simp [h1, Nat.add_left_cancel_iff]
  · simp [h1, show ¬ i = w by omega]
theorem sl_u2 {g : Nat → Int32} {o j : Nat} {v : Int32} (h : j < o ∨ o + 17 ≤ j) : sl (upd g j v) o = sl g o := by
  funext i
  unfold sl upd
  by_cases h1 : i < 17
  · simp [h1, show ¬ o + i = j by omega]
  · simp [h1]
theorem sl_lo {g : Nat → Int32} {s : Int32} {j : Nat} {v : Int32} (h : j < 37) : sl (upd g j v) (oS s) = sl g (oS s) := sl_u2 (Or.inl (Nat.lt_of_lt_of_le h oS_ge))
theorem rl_u1 {g : Nat → Int32} {s : Int32} {w : Nat} {v : Int32} : rl (upd g (oS s + w) v) = rl g := by
  funext i
  have := @oS_ge s
  unfold rl upd
  by_cases h1 : i < 25
  · simp [h1, show ¬ 12 + i = oS s + w by omega]
  · simp [h1]
theorem rl_lo {g : Nat → Int32} {j : Nat} {v : Int32} (h : j < 12) : rl (upd g j v) = rl g := by
  funext i
  unfold rl upd
  by_cases h1 : i < 25
  · simp [h1, show ¬ 12 + i = j by omega]
  · simp [h1]
theorem rl_hi {g : Nat → Int32} {j : Nat} {v : Int32} (h : 37 ≤ j) : rl (upd g j v) = rl g := by
  funext i
  unfold rl upd
  by_cases h1 : i < 25
  · simp [h1, show ¬ 12 + i = j by omega]
  · simp [h1]
theorem hd_u1 {g : Nat → Int32} {s : Int32} {w j : Nat} {v : Int32} (h : j < 37) : upd g (oS s + w) v j = g j := by
  have := @oS_ge s
  exact u_n (by omega)
def setS (g : Nat → Int32) (o : Nat) (S : Nat → Int32) : Nat → Int32 := fun j => if o ≤ j ∧ j < o + 17 then S (j - o) else g j
theorem setS_u {g : Nat → Int32} {o w : Nat} {v : Int32} (h : w < 17) : upd g (o + w) v = setS g o (upd (sl g o) w v) := by
  funext j
  unfold setS upd sl
  by_cases h1 : o ≤ j ∧ j < o + 17
  · rw [if_pos h1]
    have e : o + (j - o) = j := by omega
    by_cases h2 : j = o + w
    · rw [if_pos h2, if_pos (show j - o = w by omega)]
    · rw [if_neg h2, if_neg (show ¬ j - o = w by omega), if_pos (show j - o < 17 by omega), e]
  · rw [if_neg h1, if_neg (by omega)]
theorem setS_uS {g : Nat → Int32} {o w : Nat} {v : Int32} {S : Nat → Int32} (h : w < 17) : upd (setS g o S) (o + w) v = setS g o (upd S w v) := by
  funext j
  unfold setS upd
  by_cases h1 : o ≤ j ∧ j < o + 17
  · simp only [if_pos h1]
    by_cases h2 : j = o + w
    · rw [if_pos h2, if_pos (show j - o = w by omega)]
    · rw [if_neg h2, if_neg (show ¬ j - o = w by omega)]
  · simp only [if_neg h1]
    rw [if_neg (by omega)]
theorem setS_sl {g : Nat → Int32} {o : Nat} {S : Nat → Int32} (h : ∀ i, 17 ≤ i → S i = 0) : sl (setS g o S) o = S := by
  funext i
  unfold sl setS
  by_cases h1 : i < 17
  · rw [if_pos h1, if_pos (by omega), show o + i - o = i by omega]
  · rw [if_neg h1, h i (by omega)]
theorem setS_id {g : Nat → Int32} {o : Nat} : setS g o (sl g o) = g := by
  funext j
  unfold setS sl
  by_cases h1 : o ≤ j ∧ j < o + 17
  · rw [if_pos h1, if_pos (by omega), show o + (j - o) = j by omega]
  · rw [if_neg h1]
theorem setS_lo {g : Nat → Int32} {s : Int32} {S : Nat → Int32} {j : Nat} (h : j < 37) : setS g (oS s) S j = g j := by
  have := @oS_ge s
  exact if_neg (by omega)
theorem setS_o {g : Nat → Int32} {o o1 : Nat} {S : Nat → Int32} (h : o + 17 ≤ o1 ∨ o1 + 17 ≤ o) : sl (setS g o S) o1 = sl g o1 := by
  funext i
  unfold sl setS
  by_cases h1 : i < 17
  · rw [if_pos h1, if_pos h1, if_neg (by omega)]
  · rw [if_neg h1, if_neg h1]
theorem setS_rl {g : Nat → Int32} {s : Int32} {S : Nat → Int32} : rl (setS g (oS s) S) = rl g := by
  funext i
  have := @oS_ge s
  unfold rl setS
  by_cases h1 : i < 25
  · rw [if_pos h1, if_pos h1, if_neg (by omega)]
  · rw [if_neg h1, if_neg h1]
theorem setS_up {g : Nat → Int32} {s : Int32} {S : Nat → Int32} {j : Nat} {v : Int32} (h : j < 37) : upd (setS g (oS s) S) j v = setS (upd g j v) (oS s) S := by
  have := @oS_ge s
  funext i
  show (if i = j then v else if oS s ≤ i ∧ i < oS s + 17 then S (i - oS s) else g i) = (if oS s ≤ i ∧ i < oS s + 17 then S (i - oS s) else if i = j then v else g i)
  by_cases h1 : i = j
  · subst h1
    rw [if_pos rfl, if_neg (by omega), if_pos rfl]
  · rw [if_neg h1, if_neg h1]
theorem setS_setS {g : Nat → Int32} {o : Nat} {S S1 : Nat → Int32} : setS (setS g o S) o S1 = setS g o S1 := by
  funext i
  unfold setS
  split <;> rfl

