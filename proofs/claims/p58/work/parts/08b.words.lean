theorem sI_top {a : Mem} {k i : Nat} (h : 17 ≤ i) : sI a k i = 0 := if_neg (by omega)
theorem sl_top {g : Nat → Int32} {o i : Nat} (h : 17 ≤ i) : sl g o i = 0 := if_neg (by omega)
theorem sI_w1 {a : Mem} {k : Nat} {x : Int32} : sI (up2 a k 1 x) k = upd (sI a k) 0 x := by
  funext i
  by_cases h : i = 0
  · subst h
    simp [sI, up2, upR, upd]
  · simp [sI, up2, upR, upd, h]
theorem sI_w2 {a : Mem} {k : Nat} {x : Int32} : sI (up2 a k 2 x) k = upd (sI a k) 2 x := by
  funext i
  by_cases h : i = 2
  · subst h
    simp [sI, up2, upR, upd]
  · simp [sI, up2, upR, upd, h]
theorem sI_w3 {a : Mem} {k : Nat} {x : Int32} : sI (up2 a k 3 x) k = upd (sI a k) 1 x := by
  funext i
  by_cases h : i = 1
  · subst h
    simp [sI, up2, upR, upd]
  · simp [sI, up2, upR, upd, h]
theorem sI_w4 {a : Mem} {k : Nat} {x : Int32} : sI (up2 a k 4 x) k = upd (sI a k) 3 x := by
  funext i
  by_cases h : i = 3
  · subst h
    simp [sI, up2, upR, upd]
  · simp [sI, up2, upR, upd, h]
theorem sI_w5 {a : Mem} {k : Nat} {x : Int32} : sI (up2 a k 5 x) k = upd (sI a k) 4 x := by
  funext i
  by_cases h : i = 4
  · subst h
    simp [sI, up2, upR, upd]
  · simp [sI, up2, upR, upd, h]
theorem sI_w6 {a : Mem} {k : Nat} {x : Int32} : sI (up2 a k 6 x) k = upd (sI a k) 5 (nb x) := by
  funext i
  by_cases h : i = 5
  · subst h
    simp [sI, up2, upR, upd]
  · simp [sI, up2, upR, upd, h]
theorem sI_w7 {a : Mem} {k : Nat} {x : Int32} : sI (up2 a k 7 x) k = upd (sI a k) 6 x := by
  funext i
  by_cases h : i = 6
  · subst h
    simp [sI, up2, upR, upd]
  · simp [sI, up2, upR, upd, h]
theorem sI_w8 {a : Mem} {k : Nat} {x : Int32} : sI (up2 a k 8 x) k = upd (sI a k) 7 x := by
  funext i
  by_cases h : i = 7
  · subst h
    simp [sI, up2, upR, upd]
  · simp [sI, up2, upR, upd, h]
theorem sI_w9 {a : Mem} {k : Nat} {x : Int32} : sI (up2 a k 9 x) k = upd (sI a k) 8 (nb x) := by
  funext i
  by_cases h : i = 8
  · subst h
    simp [sI, up2, upR, upd]
  · simp [sI, up2, upR, upd, h]
theorem sI_w10 {a : Mem} {k : Nat} {x : Int32} : sI (up2 a k 10 x) k = upd (sI a k) 9 (nb x) := by
  funext i
  by_cases h : i = 9
  · subst h
    simp [sI, up2, upR, upd]
  · simp [sI, up2, upR, upd, h]
theorem sI_w11 {a : Mem} {k : Nat} {x : Int32} : sI (up2 a k 11 x) k = upd (sI a k) 10 x := by
  funext i
  by_cases h : i = 10
  · subst h
    simp [sI, up2, upR, upd]
  · simp [sI, up2, upR, upd, h]
theorem sI_w12 {a : Mem} {k : Nat} {x : Int32} : sI (up2 a k 12 x) k = upd (sI a k) 11 x := by
  funext i
  by_cases h : i = 11
  · subst h
    simp [sI, up2, upR, upd]
  · simp [sI, up2, upR, upd, h]
theorem sI_r1 {a : Mem} {k : Nat} : sI a k 0 = a k 1 := rfl
theorem sI_r2 {a : Mem} {k : Nat} : sI a k 2 = a k 2 := rfl
theorem sI_r3 {a : Mem} {k : Nat} : sI a k 1 = a k 3 := rfl
theorem sI_r4 {a : Mem} {k : Nat} : sI a k 3 = a k 4 := rfl
theorem sI_r5 {a : Mem} {k : Nat} : sI a k 4 = a k 5 := rfl
theorem sI_r6 {a : Mem} {k : Nat} : sI a k 5 = nb (a k 6) := rfl
theorem sI_r7 {a : Mem} {k : Nat} : sI a k 6 = a k 7 := rfl
theorem sI_r8 {a : Mem} {k : Nat} : sI a k 7 = a k 8 := rfl
theorem sI_r9 {a : Mem} {k : Nat} : sI a k 8 = nb (a k 9) := rfl
theorem sI_r10 {a : Mem} {k : Nat} : sI a k 9 = nb (a k 10) := rfl
theorem sI_r11 {a : Mem} {k : Nat} : sI a k 10 = a k 11 := rfl
theorem sI_r12 {a : Mem} {k : Nat} : sI a k 11 = a k 12 := rfl
theorem sI_rs {a : Mem} {k j : Nat} (h : j < 5) : sI a k (j + 12) = a (k + 1) j := by
  unfold sI
  rw [if_pos (by omega), if_neg (by omega), if_neg (by omega), if_neg (by omega), if_neg (by omega), if_neg (by omega), if_neg (by omega), if_neg (by omega), if_neg (by omega), if_neg (by omega), if_neg (by omega), if_neg (by omega), if_neg (by omega)]
  rfl
theorem sI_ws {a : Mem} {k j : Nat} {x : Int32} (h : j < 5) : sI (upR a (k + 1) (upd (a (k + 1)) j x)) k = upd (sI a k) (j + 12) x := by
  funext i
  by_cases h1 : i = j + 12
  · subst h1
    rw [sI_rs h, R_s, u_s, u_s]
  · rw [u_n h1]
    by_cases h2 : i < 12
    · unfold sI
      simp only [upR, Nat.left_eq_add, Nat.succ_ne_self, if_false, reduceIte, show ∀ q, (k = k + 1) = False from fun _ => eq_false (by omega)]
      by_cases h3 : i < 11
      · simp [upR, upd, h2, show i < 17 by omega, show ¬ i = 11 by omega]
        have : i = 0 ∨ i = 1 ∨ i = 2 ∨ i = 3 ∨ i = 4 ∨ i = 5 ∨ i = 6 ∨ i = 7 ∨ i = 8 ∨ i = 9 ∨ i = 10 := by omega
        rcases this with rfl | rfl | rfl | rfl | rfl | rfl | rfl | rfl | rfl | rfl | rfl <;> simp
      · have : i = 11 := by omega
        subst this
        simp [upR]
    · by_cases h3 : i < 17
      · obtain ⟨q, rfl⟩ : ∃ q, i = q + 12 := ⟨i - 12, by omega⟩
        rw [sI_rs (by omega), sI_rs (by omega), R_s, u_n (by omega)]
      · rw [sI_top (by omega), sI_top (by omega)]
theorem sI_fr {a a1 : Mem} {k : Nat} (h1 : a1 k = a k) (h2 : a1 (k + 1) = a (k + 1)) : sI a1 k = sI a k := by
  unfold sI
  rw [h1, h2]
theorem rI_fr {a a1 : Mem} {k : Nat} (h2 : a1 (k + 1) = a (k + 1)) : rI a1 k = rI a k := by
  unfold rI
  rw [h2]
theorem sI_of {a : Mem} {k : Nat} {S : Nat → Int32} (h : sI a k = S) : a k 1 = S 0 ∧ a k 2 = S 2 ∧ a k 3 = S 1 ∧ a k 4 = S 3 ∧ a k 5 = S 4 ∧ nb (a k 6) = S 5 ∧ a k 7 = S 6 ∧ a k 8 = S 7 ∧ nb (a k 9) = S 8 ∧ nb (a k 10) = S 9 ∧ a k 11 = S 10 ∧ a k 12 = S 11 ∧ ∀ j, j < 5 → a (k + 1) j = S (j + 12) := by
  subst h
  exact ⟨rfl, rfl, rfl, rfl, rfl, rfl, rfl, rfl, rfl, rfl, rfl, rfl, fun j hj => (sI_rs hj).symm⟩
theorem z_in {x : Int32} {n : Nat} (h1 : 0 ≤ x.toInt) (h2 : x.toInt < (n : Int)) : ¬ (x < 0 ∨ n ≤ x.toNatClampNeg) := by
  rw [z_lt, z_tn]
  have e : (0 : Int32).toInt = 0 := rfl
  omega
theorem z_cI {α : Type} {x : Int32} {n : Nat} {k : Option α} (h1 : 0 ≤ x.toInt) (h2 : x.toInt < (n : Int)) : chkI x n k = k := if_neg (z_in h1 h2)
theorem z_at {x : Int32} {n : Nat} {g : Nat → Int32} (h1 : 0 ≤ x.toInt) (h2 : x.toInt < (n : Int)) : atI n g x = g x.toNatClampNeg := if_neg (z_in h1 h2)
theorem z_put {x y : Int32} {n : Nat} {g : Nat → Int32} (h1 : 0 ≤ x.toInt) (h2 : x.toInt < (n : Int)) : putI n g x y = upd g x.toNatClampNeg y := if_neg (z_in h1 h2)

def rn (R : Nat → Int32) (p : Int32) (w : Nat) : Int32 := R (5 * p.toNatClampNeg + w)
theorem c_num {a : Mem} {k : Nat} {p w : Int32} (h1 : 0 ≤ p.toInt) (h2 : p.toInt < 5) (h3 : 0 ≤ w.toInt) (h4 : w.toInt < 5) : f_X4_number k p w a = rn (rI a k) p w.toNatClampNeg := by
  have e5 : (5 : Int32).toInt = 5 := rfl
  have e0 : (0 : Int32).toInt = 0 := rfl
  have e25 : (nI 25).toInt = 25 := rfl
  have hm : (p * (5 : Int32)).toInt = p.toInt * 5 := by rw [z_mul (by rw [e5]; omega) (by rw [e5]; omega), e5]
  have ha : (p * (5 : Int32) + w).toInt = p.toInt * 5 + w.toInt := by rw [z_add (by rw [hm]; omega) (by rw [hm]; omega), hm]
  unfold f_X4_number
  dsimp only [bT]
  rw [if_neg (by rw [z_lt, ha]; omega), if_neg (by rw [z_le, ha, e25]; omega)]
  unfold rn rI
  rw [z_tn, z_tn, z_tn, ha, if_pos (by omega), show (p.toInt * 5 + w.toInt).toNat = 5 * p.toInt.toNat + w.toInt.toNat by omega]
theorem c_end {a : Mem} {k : Nat} {p : Int32} (h1 : 0 ≤ p.toInt) (h2 : p.toInt < 5) : f_X4_isEndless k p a = if rn (rI a k) p 0 = 0 then 1 else 0 := by
  unfold f_X4_isEndless
  dsimp only [bT]
  rw [c_num h1 h2 (by decide) (by decide)]
  rfl

theorem b_P {α β : Type} {x : α} {k : α → Option β} : bP (some x) k = k x := rfl
theorem b_P2 {α γ β : Type} {x : α} {y : γ} {k : α → γ → Option β} : bP2 (some (x, y)) k = k x y := rfl
theorem b_T {α β : Type} {x : α} {k : α → β} : bT x k = k x := rfl
theorem b_T2 {α γ β : Type} {x : α} {y : γ} {k : α → γ → β} : bT2 (x, y) k = k x y := rfl
theorem r_ix {s w : Int32} (hs : s = 0 ∨ s = 1) (h1 : 0 ≤ w.toInt) (h2 : w.toInt < 17) : (((37 : Int32) + ((17 : Int32) * s)) + w).toInt = oS s + w.toNatClampNeg := by
  rw [z_tn]
  rcases hs with rfl | rfl
  · have e : ((37 : Int32) + ((17 : Int32) * 0)).toInt = 37 := rfl
    rw [z_add (by rw [e]; omega) (by rw [e]; omega), e, oS_0]
    omega
  · have e : ((37 : Int32) + ((17 : Int32) * 1)).toInt = 54 := rfl
    rw [z_add (by rw [e]; omega) (by rw [e]; omega), e, oS_1]
    omega
theorem r_of {N : Nat} {s w : Int32} {b : Mem} (h : b 0 3 = 0) (hs : s = 0 ∨ s = 1) (h1 : 0 ≤ w.toInt) (h2 : w.toInt < 17) : f_X9_of N s w b = some (sl (b 1) (oS s) w.toNatClampNeg) := by
  have e := r_ix hs h1 h2
  have hw : w.toNatClampNeg < 17 := by rw [z_tn]; omega
  have := @oS_le s
  unfold f_X9_of
  rw [z_cI (by omega) (by omega), z_tn (_ + w), e, sl_i hw, h]
  rfl
theorem r_put {N : Nat} {s w v : Int32} {b : Mem} (h : b 0 3 = 0) (hs : s = 0 ∨ s = 1) (h1 : 0 ≤ w.toInt) (h2 : w.toInt < 17) : f_X9_put N s w v b = some (upR b 1 (setS (b 1) (oS s) (upd (sl (b 1) (oS s)) w.toNatClampNeg v))) := by
  have e := r_ix hs h1 h2
  have hw : w.toNatClampNeg < 17 := by rw [z_tn]; omega
  have := @oS_le s
  unfold f_X9_put
  dsimp only [bT]
  rw [z_cI (by omega) (by omega), z_tn (_ + w), e, h, ← setS_u hw]
  rfl
theorem r_add {N : Nat} {s w v : Int32} {b : Mem} (h : b 0 3 = 0) (hs : s = 0 ∨ s = 1) (h1 : 0 ≤ w.toInt) (h2 : w.toInt < 17) : f_X9_add N s w v b = some (upR b 1 (setS (b 1) (oS s) (upd (sl (b 1) (oS s)) w.toNatClampNeg (sl (b 1) (oS s) w.toNatClampNeg + v)))) := by
  have e := r_ix hs h1 h2
  have hw : w.toNatClampNeg < 17 := by rw [z_tn]; omega
  have := @oS_le s
  unfold f_X9_add
  dsimp only [bT]
  rw [z_cI (by omega) (by omega), z_cI (by omega) (by omega), z_tn (_ + w), e, h, ← setS_u hw, sl_i hw]
  rfl
theorem r_ofP {N : Nat} {p w : Int32} {b : Mem} (h : b 0 3 = 0) (hp1 : 0 ≤ p.toInt) (hp2 : p.toInt < 5) (h1 : 0 ≤ w.toInt) (h2 : w.toInt < 5) : f_X9_ofPeriod N p w b = some (rn (rl (b 1)) p w.toNatClampNeg) := by
  have e5 : (5 : Int32).toInt = 5 := rfl
  have e12 : (12 : Int32).toInt = 12 := rfl
  have hm : ((5 : Int32) * p).toInt = 5 * p.toInt := by rw [z_mul (by rw [e5]; omega) (by rw [e5]; omega), e5]
  have ha : ((12 : Int32) + (5 : Int32) * p).toInt = 12 + 5 * p.toInt := by rw [z_add (by rw [hm, e12]; omega) (by rw [hm, e12]; omega), hm, e12]
  have hb : (((12 : Int32) + (5 : Int32) * p) + w).toInt = 12 + 5 * p.toInt + w.toInt := by rw [z_add (by rw [ha]; omega) (by rw [ha]; omega), ha]
  unfold f_X9_ofPeriod
  rw [z_cI (by omega) (by omega), z_tn, hb, h]
  unfold rn rl
  rw [if_pos (by rw [z_tn, z_tn]; omega), z_tn, z_tn, show (12 + 5 * p.toInt + w.toInt).toNat = 12 + (5 * p.toInt.toNat + w.toInt.toNat) by omega]
  rfl
theorem r_its {N : Nat} {s w : Int32} {b : Mem} (h : b 0 3 = 0) (hs : s = 0 ∨ s = 1) (hp1 : 0 ≤ (sl (b 1) (oS s) 2).toInt) (hp2 : (sl (b 1) (oS s) 2).toInt < 5) (h1 : 0 ≤ w.toInt) (h2 : w.toInt < 5) : f_X9_its N s w b = some (rn (rl (b 1)) (sl (b 1) (oS s) 2) w.toNatClampNeg) := by
  unfold f_X9_its
  rw [r_of h hs (by decide) (by decide), b_P]
  show bP (f_X9_ofPeriod N (sl (b 1) (oS s) 2) w b) _ = _
  rw [r_ofP h hp1 hp2 h1 h2, b_P]
theorem r_st {N : Nat} {p : Int32} {b : Mem} (h : b 0 3 = 0) : f_X9_isState N p b = some (if b 1 0 = p then 1 else 0) := by
  unfold f_X9_isState
  rw [h]
  show (if b 1 0 = p then _ else _) = _
  split <;> rfl
theorem r_mv {N : Nat} {b : Mem} (h : b 0 3 = 0) : f_X9_mover N b = some (b 1 1) := by
  unfold f_X9_mover
  rw [h]
  rfl
theorem r_fl {N : Nat} {s : Int32} {b : Mem} (h : b 0 3 = 0) (hs : s = 0 ∨ s = 1) : f_X9_fell N s b = some (if sl (b 1) (oS s) 8 = 1 then 1 else 0) := by
  unfold f_X9_fell
  rw [r_of h hs (by decide) (by decide), b_P]
  show (if sl (b 1) (oS s) 8 = 1 then _ else _) = _
  split <;> rfl

