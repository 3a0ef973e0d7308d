theorem dbl_a : (32 : UInt64).toNat % 64 = 32 := by decide +kernel
theorem dbl_b : (2 : Nat) ^ 32 = 4294967296 := by decide +kernel
theorem dbl_c : (2 : Nat) ^ 64 = 18446744073709551616 := by decide +kernel
theorem dbl_id (u : UInt64) : dbl (dHi u) (dLo u) = u := by
  have hu : u.toNat < 2 ^ 64 := u.toNat_lt
  rw [dbl_c] at hu
  have h1 : ((u >>> 32).toUInt32).toUInt64.toNat = u.toNat / 4294967296 := by
    rw [UInt32.toNat_toUInt64, UInt64.toNat_toUInt32, UInt64.toNat_shiftRight, dbl_a, Nat.shiftRight_eq_div_pow, dbl_b]
    omega
  have h2 : (u.toUInt32).toUInt64.toNat = u.toNat % 4294967296 := by
    rw [UInt32.toNat_toUInt64, UInt64.toNat_toUInt32, dbl_b]
  show ((u >>> 32).toUInt32.toUInt64 <<< 32) ||| (u.toUInt32).toUInt64 = u
  apply UInt64.toNat_inj.1
  rw [UInt64.toNat_or, UInt64.toNat_shiftLeft, h1, h2, dbl_a]
  have h3 : (u.toNat / 4294967296) <<< 32 % 2 ^ 64 = (u.toNat / 4294967296) <<< 32 := by
    rw [Nat.shiftLeft_eq, dbl_b, dbl_c]
    omega
  rw [h3, ← Nat.shiftLeft_add_eq_or_of_lt (by rw [dbl_b]; omega), Nat.shiftLeft_eq, dbl_b]
  omega
def AGD (u : Int) (L : Option (Int32 × Mem × Mem)) (M : Option (UInt64 × Mem)) : Prop := ∃ x a' c' y b', L = some (x, a', c') ∧ M = some (y, b') ∧ REL u a' b' ∧ b' 0 0 = x ∧ (x = 0 → NN64 y ∧ dbl (c' 1 0) (c' 1 1) = y)
def AGF (u : Int) (L : Option (Int32 × Mem × Mem)) (M : Option (UInt32 × Mem)) : Prop := ∃ x a' c' y b', L = some (x, a', c') ∧ M = some (y, b') ∧ REL u a' b' ∧ b' 0 0 = x ∧ (x = 0 → NN32 y ∧ dbl (c' 1 0) (c' 1 1) = FP.f2d y)
theorem ag_okD {u : Int} {L : Option (Int32 × Mem × Mem)} {M : Option (UInt64 × Mem)} {a' b' c : Mem} {q : UInt64} (hq : NN64 q) (h1 : L = some (0, a', upR c 1 (upd (upd (c 1) 0 (dHi q)) 1 (dLo q)))) (h2 : M = some (q, b')) (h3 : REL u a' b') (h4 : b' 0 0 = 0) : AGD u L M := ⟨0, a', _, q, b', h1, h2, h3, h4, fun _ => ⟨hq, by rw [R_s, u_n (by omega), u_s, u_s, dbl_id]⟩⟩
theorem ag_erD {u : Int} {L : Option (Int32 × Mem × Mem)} {M : Option (UInt64 × Mem)} {a b c : Mem} {k : Int32} {y : UInt64} (h1 : L = some (k, a, c)) (h2 : M = some (y, up2 b 0 0 k)) (h3 : REL u a b) (h4 : k ≠ 0) : AGD u L M := ⟨k, a, c, y, _, h1, h2, (REL_t h3).1, (REL_t h3).2, fun h => absurd h h4⟩
theorem ag_okF {u : Int} {L : Option (Int32 × Mem × Mem)} {M : Option (UInt32 × Mem)} {a' b' c : Mem} {q : UInt32} (hq : NN32 q) (h1 : L = some (0, a', upR c 1 (upd (upd (c 1) 0 (dHi (FP.f2d q))) 1 (dLo (FP.f2d q))))) (h2 : M = some (q, b')) (h3 : REL u a' b') (h4 : b' 0 0 = 0) : AGF u L M := ⟨0, a', _, q, b', h1, h2, h3, h4, fun _ => ⟨hq, by rw [R_s, u_n (by omega), u_s, u_s, dbl_id]⟩⟩
theorem ag_erF {u : Int} {L : Option (Int32 × Mem × Mem)} {M : Option (UInt32 × Mem)} {a b c : Mem} {k : Int32} {y : UInt32} (h1 : L = some (k, a, c)) (h2 : M = some (y, up2 b 0 0 k)) (h3 : REL u a b) (h4 : k ≠ 0) : AGF u L M := ⟨k, a, c, y, _, h1, h2, (REL_t h3).1, (REL_t h3).2, fun h => absurd h h4⟩
theorem cmp_0 {x : UInt64} (h : NN64 x) : Op.cmpValue (FP.dcmp x x) .l = 0 := by
  rw [nn_cmp h]
  rfl
theorem glueD {u : Int} {L : Option (Int32 × Mem × Mem)} {M : Option (UInt64 × Mem)} (h : AGD u L M) : ∃ a' b' c', (bP3 L fun x3 a4 c5 => bP2 M fun x8 b9 => bT (f_X9_thrown b9) fun x12 => if x12 = x3 then (if x3 = 0 then (if (Op.cmpValue (FP.dcmp (dbl (c5 1 0) (c5 1 1)) x8) .l) = 0 then (some (a4, b9, c5)) else (if (Op.cmpValue (FP.dcmp (dbl (c5 1 0) (c5 1 1)) (dbl (c5 1 0) (c5 1 1))) .l) = 0 then (none) else (if (Op.cmpValue (FP.dcmp x8 x8) .l) = 0 then (none) else (some (a4, b9, c5))))) else (some (a4, b9, c5))) else (none)) = some (a', b', c') ∧ REL u a' b' := by
  obtain ⟨x, a', c', y, b', rfl, rfl, hr, h0, hq⟩ := h
  refine ⟨a', b', c', ?_, hr⟩
  rw [b_P3, b_P2, b_T]
  unfold f_X9_thrown
  rw [if_pos h0]
  by_cases hx : x = 0
  · rw [if_pos hx, (hq hx).2, if_pos (cmp_0 (hq hx).1)]
  · rw [if_neg hx]
theorem glueF {u : Int} {L : Option (Int32 × Mem × Mem)} {M : Option (UInt32 × Mem)} (h : AGF u L M) : ∃ a' b' c', (bP3 L fun x3 a4 c5 => bP2 M fun x8 b9 => bT (f_X9_thrown b9) fun x12 => if x12 = x3 then (if x3 = 0 then (chkP ((FP.f2d x8) &&& 0x7fffffffffffffff ≤ 0x7ff0000000000000) <| if (Op.cmpValue (FP.dcmp (dbl (c5 1 0) (c5 1 1)) (FP.f2d x8)) .l) = 0 then (some (a4, b9, c5)) else (if (Op.cmpValue (FP.dcmp (dbl (c5 1 0) (c5 1 1)) (dbl (c5 1 0) (c5 1 1))) .l) = 0 then (none) else (if (Op.cmpValue (FP.fcmp x8 x8) .l) = 0 then (none) else (some (a4, b9, c5))))) else (some (a4, b9, c5))) else (none)) = some (a', b', c') ∧ REL u a' b' := by
  obtain ⟨x, a', c', y, b', rfl, rfl, hr, h0, hq⟩ := h
  refine ⟨a', b', c', ?_, hr⟩
  rw [b_P3, b_P2, b_T]
  unfold f_X9_thrown chkP
  rw [if_pos h0]
  by_cases hx : x = 0
  · have h1 := nn_f2d (hq hx).1
    rw [if_pos hx, (hq hx).2, if_pos (msk64 h1), if_pos (cmp_0 h1)]
  · rw [if_neg hx]
theorem ag_meanThink {t : Int} {N : Nat} {a b c : Mem} {p : Int32} (hN : 41 ≤ N) (h : REL t a b) : AGD t (f_L_meanThink N p a c) (f_X9_meanThink N p b) := by
  have e0 : (0 : Int32).toInt = 0 := rfl
  unfold f_L_meanThink f_X8_meanThink f_X9_meanThink f_X1_movesOf
  simp only [b_T, k_side, q_side, pass1, Nat.reduceAdd]
  by_cases hp : p = 0 ∨ p = 1
  · simp only [hp, reduceIte, i10, bXc_0, b_T2]
    obtain ⟨hr, h00⟩ := @REL_t t a b 0 h
    generalize up2 b 0 0 0 = b0 at hr h00 ⊢
    have h40 := @CNT_40 (b0 1)
    obtain ⟨v, hv, q1, q2⟩ := @zl_mean t N a b0 hr p (CNT (b0 1)) 0 N 0 (by omega) (by omega) (by omega)
    rw [nI_0] at q1 q2
    obtain ⟨s, r1, r2⟩ := @zs_sum t N a b0 hr p 1 hN (by decide) (by decide)
    rw [q1, q2, b_P, r1, b_P]
    unfold FMT
    rw [r2, b_P]
    by_cases hv0 : v = 0
    · subst hv0
      rw [if_neg (show ¬ (0 : Int32) < nI 0 by decide), if_pos (show nI 0 = (0 : Int32) from rfl)]
      exact ag_okD nn_0 rfl rfl hr h00
    · have hne : nI v ≠ 0 := fun z => hv0 (by have := (z_eq).1 z; rw [z_nI (by omega), e0] at this; omega)
      have hm := msk64 (nn_q64 (s := s) hne)
      rw [if_pos (show (0 : Int32) < nI v by rw [z_lt, e0, z_nI (by omega)]; omega), if_neg hne]
      unfold chkP
      rw [if_pos hm, if_pos hm]
      exact ag_okD (nn_q64 hne) rfl rfl hr h00
  · simp only [hp, reduceIte, eq_self, bXc_3, b_T2]
    exact ag_erD rfl rfl h (by decide)
theorem lead1 {c : Nat} (hc0 : c ≠ 0) : FP.Core.leading c 1 = (c.log2 : Int) := by
  have hlow : 2 ^ c.log2 ≤ c := Nat.log2_self_le hc0
  have h1 : Nat.log2 1 = 0 := by decide +kernel
  unfold FP.Core.leading
  rw [h1]
  generalize c.log2 = L at hlow
  have e1 : ((L : Int) - ((0 : Nat) : Int)).toNat = L := by omega
  have e2 : (-((L : Int) - ((0 : Nat) : Int))).toNat = 0 := by omega
  show (if 1 * 2 ^ ((L : Int) - ((0 : Nat) : Int)).toNat ≤ c * 2 ^ (-((L : Int) - ((0 : Nat) : Int))).toNat then (L : Int) - ((0 : Nat) : Int) else (L : Int) - ((0 : Nat) : Int) - 1) = (L : Int)
  rw [e1, e2, if_pos (by rw [Nat.one_mul, Nat.pow_zero, Nat.mul_one]; exact hlow)]
  omega
theorem rf32 {g : Bool} {c : Nat} (h2 : c < 4294967296) : ∃ s k q, FP.Core.roundRatio FP.Core.b32 g c 1 0 = .fin s k q ∧ k < 16777216 ∧ q ≤ 100 := by
  unfold FP.Core.roundRatio
  by_cases hc0 : c = 0
  · rw [if_pos hc0, k32_n]
    exact ⟨_, _, _, rfl, by decide, by decide⟩
  · have hlow : 2 ^ c.log2 ≤ c := Nat.log2_self_le hc0
    have hk : c.log2 ≤ 31 := by
      apply Classical.byContradiction
      intro hh
      have h3 : (2 : Nat) ^ 32 ≤ 2 ^ c.log2 := Nat.pow_le_pow_right (by omega) (by omega)
      rw [dbl_b] at h3
      omega
    have hq : FP.Core.quantum FP.Core.b32 c 1 0 ≤ 8 := by
      unfold FP.Core.quantum
      rw [lead1 hc0, k32_n, k32_pp]
      omega
    rw [if_neg hc0]
    generalize FP.Core.quantum FP.Core.b32 c 1 0 = q at hq
    unfold FP.Core.roundAt FP.Core.settle FP.Core.bound
    generalize FP.Core.nearest (FP.Core.unitsNum c 0 q) (FP.Core.unitsDen 1 0 q) = m
    rw [k32_p, k32_t, k32_x]
    by_cases h1 : m < 16777216
    · rw [if_pos h1, if_pos (by omega)]
      exact ⟨_, _, _, rfl, h1, by omega⟩
    · rw [if_neg h1, if_pos (by omega)]
      exact ⟨_, _, _, rfl, by decide, by omega⟩
theorem ed32 {s : Bool} {c : Nat} {q : Int} (h : c < 16777216) (hq : q ≤ 100) : ∃ s' c' q', FP.Core.decode FP.Core.b32 (FP.Core.encode FP.Core.b32 (.fin s c q) % 4294967296) = .fin s' c' q' := by
  have hs : s.toNat ≤ 1 := by cases s <;> decide
  unfold FP.Core.encode FP.Core.assemble
  simp only [k32_t, k32_e, k32_n]
  generalize s.toNat = z at hs
  unfold FP.Core.decode FP.Core.fieldE
  rw [k32_t, k32_e]
  by_cases h3 : c < 8388608
  · rw [if_pos h3, if_neg (by omega), if_pos (by omega)]
    exact ⟨_, _, _, rfl⟩
  · rw [if_neg h3, if_neg (by omega), if_neg (by omega)]
    exact ⟨_, _, _, rfl⟩
theorem df32 {i : Int32} : ∃ s c q, FP.Core.decode FP.Core.b32 (FP.i2f i).toNat = .fin s c q := by
  have z1 := i.toInt_lt
  have z2 := i.le_toInt
  obtain ⟨s, k, q, r1, r2, r3⟩ := @rf32 (decide (i.toInt < 0)) i.toInt.natAbs (by omega)
  have e : (FP.i2f i).toNat = FP.Core.encode FP.Core.b32 (.fin s k q) % 4294967296 := by
    show (UInt32.ofNat (FP.Core.encode FP.Core.b32 (FP.Core.roundRatio FP.Core.b32 (decide (i.toInt < 0)) i.toInt.natAbs 1 0))).toNat = _
    rw [of32_n, r1]
  rw [e]
  exact ed32 r2 r3
theorem nn_f32 {s n : Int32} (hn : n ≠ 0) (hb : n.toInt.natAbs < 16777216) : NN32 (FP.fdiv (FP.i2f s) (FP.i2f n)) := by
  obtain ⟨s2, c2, p2, e2, h2⟩ := di32 hn hb
  show NN32 (UInt32.ofNat (FP.Core.encode FP.Core.b32 (FP.Core.quotient FP.Core.b32 (FP.Core.decode FP.Core.b32 (FP.i2f s).toNat) (FP.Core.decode FP.Core.b32 (FP.i2f n).toNat))))
  rw [e2]
  apply nn_en32
  obtain ⟨s1, c1, p1, e1⟩ := @df32 s
  rw [e1]
  show TM32 (if c2 = 0 then _ else _)
  rw [if_neg h2]
  exact rr32
theorem ag_share {t : Int} {N : Nat} {a b c : Mem} {p : Int32} (ht : t ≤ 512) (h : REL t a b) : AGF t (f_L_share N p a c) (f_X9_share N p b) := by
  have e0 : (0 : Int32).toInt = 0 := rfl
  unfold f_L_share f_X8_share f_X9_share
  simp only [b_T, k_side, q_side, pass1]
  by_cases hp : p = 0 ∨ p = 1
  · simp only [hp, reduceIte, i10, bXc_0, b_T2]
    obtain ⟨hr, h00⟩ := @REL_t t a b 0 h
    generalize up2 b 0 0 0 = b0 at hr h00 ⊢
    obtain ⟨k, hk, hk2, hS, hV⟩ := REL_side hr hp
    have h03 := hr.1
    have e9 : a 8 9 = b0 1 7 := hr.2.1.2.1.2.2.2.2.2.2.2.1
    have hv7 := hr.2.2.1.2.2.2.2.1.2.2.1
    have e11 : a k 11 = sl (b0 1) (oS p) 10 := by
      have : sI a k 10 = sl (b0 1) (oS p) 10 := by rw [hS]
      exact this
    have n7 : (7 : Int32).toNatClampNeg = 7 := rfl
    rw [e9, n7, hk, e11]
    by_cases hz : b0 1 7 = 0
    · rw [if_neg (show ¬ (0 : Int32) < b0 1 7 by rw [hz]; decide), if_pos hz]
      show AGF t (chkP (FP.f2d FP.fconst0 &&& 0x7fffffffffffffff ≤ 0x7ff0000000000000) (some (0, a, upR c 1 (upd (upd (c 1) 0 (dHi (FP.f2d FP.fconst0))) 1 (dLo (FP.f2d FP.fconst0)))))) _
      unfold chkP
      rw [if_pos (msk64 (nn_f2d nn_f0))]
      exact ag_okF nn_f0 rfl rfl hr h00
    · have hpos : (0 : Int32) < b0 1 7 := by
        have h9 : (b0 1 7).toInt ≠ 0 := fun z => hz (by rw [z_eq, z, e0])
        rw [z_lt, e0]
        omega
      have hnn := @nn_f32 (sl (b0 1) (oS p) 10) (b0 1 7) hz (by omega)
      have n10 : (10 : Int32).toNatClampNeg = 10 := rfl
      rw [if_pos hpos, if_neg hz, r_of h03 hp (by decide) (by decide), n10, b_P]
      unfold chkP
      rw [if_pos (msk32 hnn)]
      show AGF t (if FP.f2d (FP.fdiv (FP.i2f (sl (b0 1) (oS p) 10)) (FP.i2f (b0 1 7))) &&& 0x7fffffffffffffff ≤ 0x7ff0000000000000 then (some (0, a, upR c 1 (upd (upd (c 1) 0 (dHi (FP.f2d (FP.fdiv (FP.i2f (sl (b0 1) (oS p) 10)) (FP.i2f (b0 1 7)))))) 1 (dLo (FP.f2d (FP.fdiv (FP.i2f (sl (b0 1) (oS p) 10)) (FP.i2f (b0 1 7)))))))) else none) _
      rw [if_pos (msk64 (nn_f2d hnn)), if_pos (msk32 hnn)]
      exact ag_okF hnn rfl rfl hr h00
  · simp only [hp, reduceIte, eq_self, bXc_3, b_T2]
    exact ag_erF rfl rfl h (by decide)
