def TM64 (d : FP.Core.Datum) : Prop := match d with | .nan => False | .inf _ => True | .fin _ c q => c < 9007199254740992 ∧ q ≤ 971
theorem k64_p : 2 ^ FP.Core.b64.p = 9007199254740992 := by decide +kernel
theorem k64_t : FP.Core.b64.tails = 4503599627370496 := by decide +kernel
theorem k64_e : FP.Core.b64.exps = 2048 := by decide +kernel
theorem k64_x : FP.Core.b64.qmax = 971 := by decide +kernel
theorem k64_n : FP.Core.b64.qmin = (-1074) := by decide +kernel
theorem k64_pp : FP.Core.b64.p = 53 := rfl
theorem st64 {s : Bool} {c : Nat} {q : Int} : TM64 (FP.Core.settle FP.Core.b64 s c q) := by
  unfold FP.Core.settle FP.Core.bound
  rw [k64_p, k64_t, k64_x]
  by_cases h1 : c < 9007199254740992
  · rw [if_pos h1]
    by_cases h2 : q ≤ 971
    · rw [if_pos h2]; exact ⟨h1, h2⟩
    · rw [if_neg h2]; exact trivial
  · rw [if_neg h1]
    by_cases h2 : q + 1 ≤ 971
    · rw [if_pos h2]; exact ⟨by decide, h2⟩
    · rw [if_neg h2]; exact trivial
theorem rr64 {s : Bool} {A B : Nat} {e : Int} : TM64 (FP.Core.roundRatio FP.Core.b64 s A B e) := by
  unfold FP.Core.roundRatio
  by_cases h : A = 0
  · rw [if_pos h, k64_n]
    exact ⟨by decide, by decide⟩
  · rw [if_neg h]
    exact st64
theorem en64 {d : FP.Core.Datum} (h : TM64 d) : FP.Core.encode FP.Core.b64 d % 9223372036854775808 ≤ 9218868437227405312 := by
  cases d with
  | nan => exact absurd h id
  | inf s => cases s <;> decide +kernel
  | fin s c q =>
    obtain ⟨h1, h2⟩ := h
    have hs : s.toNat ≤ 1 := by cases s <;> decide
    unfold FP.Core.encode FP.Core.assemble
    simp only [k64_t, k64_e, k64_n]
    generalize s.toNat = z at hs
    by_cases h3 : c < 4503599627370496
    · rw [if_pos h3]; omega
    · rw [if_neg h3]; omega
def NN64 (x : UInt64) : Prop := x.toNat % 9223372036854775808 ≤ 9218868437227405312
theorem of64_n {n : Nat} : (UInt64.ofNat n).toNat = n % 18446744073709551616 := rfl
theorem nn_en64 {d : FP.Core.Datum} (h : TM64 d) : NN64 (UInt64.ofNat (FP.Core.encode FP.Core.b64 d)) := by
  have h1 := en64 h
  unfold NN64
  rw [of64_n]
  generalize FP.Core.encode FP.Core.b64 d = n at h1
  omega
theorem de64 {n : Nat} (h : n % 9223372036854775808 ≤ 9218868437227405312) : FP.Core.decode FP.Core.b64 n ≠ .nan := by
  unfold FP.Core.decode FP.Core.fieldE FP.Core.fieldT
  rw [k64_t, k64_e]
  by_cases h1 : n / 4503599627370496 % 2048 = 2048 - 1
  · rw [if_pos h1]
    by_cases h2 : n % 4503599627370496 = 0
    · rw [if_pos h2]; exact FP.Core.Datum.noConfusion
    · exfalso; omega
  · rw [if_neg h1]
    by_cases h2 : n / 4503599627370496 % 2048 = 0
    · rw [if_pos h2]; exact FP.Core.Datum.noConfusion
    · rw [if_neg h2]; exact FP.Core.Datum.noConfusion
theorem fi64 {i : Int} (h : i ≠ 0) (h2 : i.natAbs < 4294967296) : ∃ s k t : Nat, s ≤ 1 ∧ k ≤ 31 ∧ t < 4503599627370496 ∧ FP.Core.fromInt FP.Core.b64 i = (s * 2048 + (k + 1023)) * 4503599627370496 + t := by
  have hc0 : i.natAbs ≠ 0 := by omega
  show ∃ s k t : Nat, s ≤ 1 ∧ k ≤ 31 ∧ t < 4503599627370496 ∧ FP.Core.encode FP.Core.b64 (FP.Core.roundRatio FP.Core.b64 (decide (i < 0)) i.natAbs 1 0) = (s * 2048 + (k + 1023)) * 4503599627370496 + t
  generalize decide (i < 0) = g
  generalize i.natAbs = c at hc0 h2
  clear h
  have hlow : 2 ^ c.log2 ≤ c := Nat.log2_self_le hc0
  have hup : c < 2 ^ (c.log2 + 1) := Nat.lt_log2_self
  have hk : c.log2 ≤ 31 := by
    apply Classical.byContradiction
    intro hh
    have h3 : (2 : Nat) ^ (31 + 1) ≤ 2 ^ c.log2 := Nat.pow_le_pow_right (by omega) (by omega)
    have h4 : (2 : Nat) ^ (31 + 1) = 4294967296 := by decide +kernel
    omega
  generalize hL : c.log2 = L at hlow hup hk
  have hlead : FP.Core.leading c 1 = (L : Int) := by
    have h1 : Nat.log2 1 = 0 := by decide +kernel
    unfold FP.Core.leading
    rw [h1, hL]
    have e1 : ((L : Int) - ((0 : Nat) : Int)).toNat = L := by omega
    have e2 : (-((L : Int) - ((0 : Nat) : Int))).toNat = 0 := by omega
    show (if 1 * 2 ^ ((L : Int) - ((0 : Nat) : Int)).toNat ≤ c * 2 ^ (-((L : Int) - ((0 : Nat) : Int))).toNat then (L : Int) - ((0 : Nat) : Int) else (L : Int) - ((0 : Nat) : Int) - 1) = (L : Int)
    rw [e1, e2, if_pos (by rw [Nat.one_mul, Nat.pow_zero, Nat.mul_one]; exact hlow)]
    omega
  have hq : FP.Core.quantum FP.Core.b64 c 1 0 = (L : Int) - (53 - 1) := by
    unfold FP.Core.quantum
    rw [hlead, k64_n, k64_pp]
    omega
  unfold FP.Core.roundRatio
  rw [if_neg hc0, hq]
  unfold FP.Core.roundAt FP.Core.unitsNum FP.Core.unitsDen
  have e3 : (0 - ((L : Int) - (53 - 1))).toNat = 53 - 1 - L := by omega
  have e4 : (((L : Int) - (53 - 1)) - 0).toNat = 0 := by omega
  rw [e3, e4, Nat.pow_zero, Nat.mul_one]
  have hm1 : 4503599627370496 ≤ c * 2 ^ (53 - 1 - L) := by
    have h5 : 2 ^ L * 2 ^ (53 - 1 - L) ≤ c * 2 ^ (53 - 1 - L) := Nat.mul_le_mul_right _ hlow
    rw [← Nat.pow_add, show L + (53 - 1 - L) = 53 - 1 by omega] at h5
    have h6 : (2 : Nat) ^ (53 - 1) = 4503599627370496 := by decide +kernel
    rw [h6] at h5
    exact h5
  have hm2 : c * 2 ^ (53 - 1 - L) < 9007199254740992 := by
    have h5 : c * 2 ^ (53 - 1 - L) < 2 ^ (L + 1) * 2 ^ (53 - 1 - L) := Nat.mul_lt_mul_of_pos_right hup (Nat.pow_pos (by omega))
    rw [← Nat.pow_add, show L + 1 + (53 - 1 - L) = 53 by omega] at h5
    have h6 : (2 : Nat) ^ 53 = 9007199254740992 := by decide +kernel
    rw [h6] at h5
    exact h5
  generalize c * 2 ^ (53 - 1 - L) = m at hm1 hm2
  have hn : FP.Core.nearest m 1 = m := by
    unfold FP.Core.nearest
    rw [Nat.mod_one, if_pos (by decide), Nat.div_one]
  rw [hn]
  unfold FP.Core.settle FP.Core.bound
  rw [k64_p, k64_x, if_pos hm2, if_pos (by omega)]
  unfold FP.Core.encode FP.Core.assemble
  simp only [k64_t, k64_e, k64_n]
  rw [if_neg (by omega)]
  have hg : g.toNat ≤ 1 := by cases g <;> decide
  have e5 : (((L : Int) - (53 - 1)) - (-1074)).toNat + 1 = L + 1023 := by omega
  refine ⟨g.toNat, L, m - 4503599627370496, hg, hk, by omega, ?_⟩
  rw [e5]
theorem di64 {i : Int32} (h : i ≠ 0) : ∃ s c q, FP.Core.decode FP.Core.b64 (FP.i2d i).toNat = .fin s c q ∧ c ≠ 0 := by
  have hi : i.toInt ≠ 0 := fun h9 => h (Int32.toInt_inj.1 h9)
  have hb : i.toInt.natAbs < 4294967296 := by
    have z1 := i.toInt_lt
    have z2 := i.le_toInt
    omega
  obtain ⟨s, k, t, q1, q2, q3, q4⟩ := fi64 hi hb
  have hx : (FP.i2d i).toNat = (s * 2048 + (k + 1023)) * 4503599627370496 + t := by
    show (UInt64.ofNat (FP.Core.fromInt FP.Core.b64 i.toInt)).toNat = _
    rw [of64_n, q4]
    omega
  rw [hx]
  unfold FP.Core.decode FP.Core.fieldE
  rw [k64_t, k64_e, if_neg (by omega), if_neg (by omega)]
  exact ⟨_, _, _, rfl, by omega⟩
theorem d064 : FP.Core.decode FP.Core.b64 (FP.i2d 0).toNat = .fin false 0 (-1074) := by decide +kernel
theorem nn_q64 {s n : Int32} (hn : n ≠ 0) : NN64 (FP.ddiv (FP.i2d s) (FP.i2d n)) := by
  obtain ⟨s2, c2, p2, e2, h2⟩ := di64 hn
  show NN64 (UInt64.ofNat (FP.Core.encode FP.Core.b64 (FP.Core.quotient FP.Core.b64 (FP.Core.decode FP.Core.b64 (FP.i2d s).toNat) (FP.Core.decode FP.Core.b64 (FP.i2d n).toNat))))
  rw [e2]
  apply nn_en64
  by_cases hs : s = 0
  · rw [hs, d064]
    show TM64 (if c2 = 0 then _ else _)
    rw [if_neg h2]
    exact rr64
  · obtain ⟨s1, c1, p1, e1, h1⟩ := di64 hs
    rw [e1]
    show TM64 (if c2 = 0 then _ else _)
    rw [if_neg h2]
    exact rr64
theorem m64_a : (0x7fffffffffffffff : UInt64).toNat = 9223372036854775808 - 1 := by decide +kernel
theorem m64_b : (0x7ff0000000000000 : UInt64).toNat = 9218868437227405312 := by decide +kernel
theorem m64_c : (2 : Nat) ^ 63 - 1 = 9223372036854775808 - 1 := by decide +kernel
theorem m64_d : (2 : Nat) ^ 63 = 9223372036854775808 := by decide +kernel
theorem msk64 {x : UInt64} (h : NN64 x) : x &&& 0x7fffffffffffffff ≤ 0x7ff0000000000000 := by
  unfold NN64 at h
  rw [UInt64.le_iff_toNat_le, UInt64.toNat_and, m64_a, m64_b, ← m64_c, Nat.and_two_pow_sub_one_eq_mod, m64_d]
  exact h
def TM32 (d : FP.Core.Datum) : Prop := match d with | .nan => False | .inf _ => True | .fin _ c q => c < 16777216 ∧ q ≤ 104
theorem k32_p : 2 ^ FP.Core.b32.p = 16777216 := by decide +kernel
theorem k32_t : FP.Core.b32.tails = 8388608 := by decide +kernel
theorem k32_e : FP.Core.b32.exps = 256 := by decide +kernel
theorem k32_x : FP.Core.b32.qmax = 104 := by decide +kernel
theorem k32_n : FP.Core.b32.qmin = (-149) := by decide +kernel
theorem k32_pp : FP.Core.b32.p = 24 := rfl
theorem st32 {s : Bool} {c : Nat} {q : Int} : TM32 (FP.Core.settle FP.Core.b32 s c q) := by
  unfold FP.Core.settle FP.Core.bound
  rw [k32_p, k32_t, k32_x]
  by_cases h1 : c < 16777216
  · rw [if_pos h1]
    by_cases h2 : q ≤ 104
    · rw [if_pos h2]; exact ⟨h1, h2⟩
    · rw [if_neg h2]; exact trivial
  · rw [if_neg h1]
    by_cases h2 : q + 1 ≤ 104
    · rw [if_pos h2]; exact ⟨by decide, h2⟩
    · rw [if_neg h2]; exact trivial
theorem rr32 {s : Bool} {A B : Nat} {e : Int} : TM32 (FP.Core.roundRatio FP.Core.b32 s A B e) := by
  unfold FP.Core.roundRatio
  by_cases h : A = 0
  · rw [if_pos h, k32_n]
    exact ⟨by decide, by decide⟩
  · rw [if_neg h]
    exact st32
theorem en32 {d : FP.Core.Datum} (h : TM32 d) : FP.Core.encode FP.Core.b32 d % 2147483648 ≤ 2139095040 := by
  cases d with
  | nan => exact absurd h id
  | inf s => cases s <;> decide +kernel
  | fin s c q =>
    obtain ⟨h1, h2⟩ := h
    have hs : s.toNat ≤ 1 := by cases s <;> decide
    unfold FP.Core.encode FP.Core.assemble
    simp only [k32_t, k32_e, k32_n]
    generalize s.toNat = z at hs
    by_cases h3 : c < 8388608
    · rw [if_pos h3]; omega
    · rw [if_neg h3]; omega
def NN32 (x : UInt32) : Prop := x.toNat % 2147483648 ≤ 2139095040
theorem of32_n {n : Nat} : (UInt32.ofNat n).toNat = n % 4294967296 := rfl
theorem nn_en32 {d : FP.Core.Datum} (h : TM32 d) : NN32 (UInt32.ofNat (FP.Core.encode FP.Core.b32 d)) := by
  have h1 := en32 h
  unfold NN32
  rw [of32_n]
  generalize FP.Core.encode FP.Core.b32 d = n at h1
  omega
theorem de32 {n : Nat} (h : n % 2147483648 ≤ 2139095040) : FP.Core.decode FP.Core.b32 n ≠ .nan := by
  unfold FP.Core.decode FP.Core.fieldE FP.Core.fieldT
  rw [k32_t, k32_e]
  by_cases h1 : n / 8388608 % 256 = 256 - 1
  · rw [if_pos h1]
    by_cases h2 : n % 8388608 = 0
    · rw [if_pos h2]; exact FP.Core.Datum.noConfusion
    · exfalso; omega
  · rw [if_neg h1]
    by_cases h2 : n / 8388608 % 256 = 0
    · rw [if_pos h2]; exact FP.Core.Datum.noConfusion
    · rw [if_neg h2]; exact FP.Core.Datum.noConfusion
theorem fi32 {i : Int} (h : i ≠ 0) (h2 : i.natAbs < 16777216) : ∃ s k t : Nat, s ≤ 1 ∧ k ≤ 23 ∧ t < 8388608 ∧ FP.Core.fromInt FP.Core.b32 i = (s * 256 + (k + 127)) * 8388608 + t := by
  have hc0 : i.natAbs ≠ 0 := by omega
  show ∃ s k t : Nat, s ≤ 1 ∧ k ≤ 23 ∧ t < 8388608 ∧ FP.Core.encode FP.Core.b32 (FP.Core.roundRatio FP.Core.b32 (decide (i < 0)) i.natAbs 1 0) = (s * 256 + (k + 127)) * 8388608 + t
  generalize decide (i < 0) = g
  generalize i.natAbs = c at hc0 h2
  clear h
  have hlow : 2 ^ c.log2 ≤ c := Nat.log2_self_le hc0
  have hup : c < 2 ^ (c.log2 + 1) := Nat.lt_log2_self
  have hk : c.log2 ≤ 23 := by
    apply Classical.byContradiction
    intro hh
    have h3 : (2 : Nat) ^ (23 + 1) ≤ 2 ^ c.log2 := Nat.pow_le_pow_right (by omega) (by omega)
    have h4 : (2 : Nat) ^ (23 + 1) = 16777216 := by decide +kernel
    omega
  generalize hL : c.log2 = L at hlow hup hk
  have hlead : FP.Core.leading c 1 = (L : Int) := by
    have h1 : Nat.log2 1 = 0 := by decide +kernel
    unfold FP.Core.leading
    rw [h1, hL]
    have e1 : ((L : Int) - ((0 : Nat) : Int)).toNat = L := by omega
    have e2 : (-((L : Int) - ((0 : Nat) : Int))).toNat = 0 := by omega
    show (if 1 * 2 ^ ((L : Int) - ((0 : Nat) : Int)).toNat ≤ c * 2 ^ (-((L : Int) - ((0 : Nat) : Int))).toNat then (L : Int) - ((0 : Nat) : Int) else (L : Int) - ((0 : Nat) : Int) - 1) = (L : Int)
    rw [e1, e2, if_pos (by rw [Nat.one_mul, Nat.pow_zero, Nat.mul_one]; exact hlow)]
    omega
  have hq : FP.Core.quantum FP.Core.b32 c 1 0 = (L : Int) - (24 - 1) := by
    unfold FP.Core.quantum
    rw [hlead, k32_n, k32_pp]
    omega
  unfold FP.Core.roundRatio
  rw [if_neg hc0, hq]
  unfold FP.Core.roundAt FP.Core.unitsNum FP.Core.unitsDen
  have e3 : (0 - ((L : Int) - (24 - 1))).toNat = 24 - 1 - L := by omega
  have e4 : (((L : Int) - (24 - 1)) - 0).toNat = 0 := by omega
  rw [e3, e4, Nat.pow_zero, Nat.mul_one]
  have hm1 : 8388608 ≤ c * 2 ^ (24 - 1 - L) := by
    have h5 : 2 ^ L * 2 ^ (24 - 1 - L) ≤ c * 2 ^ (24 - 1 - L) := Nat.mul_le_mul_right _ hlow
    rw [← Nat.pow_add, show L + (24 - 1 - L) = 24 - 1 by omega] at h5
    have h6 : (2 : Nat) ^ (24 - 1) = 8388608 := by decide +kernel
    rw [h6] at h5
    exact h5
  have hm2 : c * 2 ^ (24 - 1 - L) < 16777216 := by
    have h5 : c * 2 ^ (24 - 1 - L) < 2 ^ (L + 1) * 2 ^ (24 - 1 - L) := Nat.mul_lt_mul_of_pos_right hup (Nat.pow_pos (by omega))
    rw [← Nat.pow_add, show L + 1 + (24 - 1 - L) = 24 by omega] at h5
    have h6 : (2 : Nat) ^ 24 = 16777216 := by decide +kernel
    rw [h6] at h5
    exact h5
  generalize c * 2 ^ (24 - 1 - L) = m at hm1 hm2
  have hn : FP.Core.nearest m 1 = m := by
    unfold FP.Core.nearest
    rw [Nat.mod_one, if_pos (by decide), Nat.div_one]
  rw [hn]
  unfold FP.Core.settle FP.Core.bound
  rw [k32_p, k32_x, if_pos hm2, if_pos (by omega)]
  unfold FP.Core.encode FP.Core.assemble
  simp only [k32_t, k32_e, k32_n]
  rw [if_neg (by omega)]
  have hg : g.toNat ≤ 1 := by cases g <;> decide
  have e5 : (((L : Int) - (24 - 1)) - (-149)).toNat + 1 = L + 127 := by omega
  refine ⟨g.toNat, L, m - 8388608, hg, hk, by omega, ?_⟩
  rw [e5]
theorem di32 {i : Int32} (h : i ≠ 0) (hb : i.toInt.natAbs < 16777216) : ∃ s c q, FP.Core.decode FP.Core.b32 (FP.i2f i).toNat = .fin s c q ∧ c ≠ 0 := by
  have hi : i.toInt ≠ 0 := fun h9 => h (Int32.toInt_inj.1 h9)
  obtain ⟨s, k, t, q1, q2, q3, q4⟩ := fi32 hi hb
  have hx : (FP.i2f i).toNat = (s * 256 + (k + 127)) * 8388608 + t := by
    show (UInt32.ofNat (FP.Core.fromInt FP.Core.b32 i.toInt)).toNat = _
    rw [of32_n, q4]
    omega
  rw [hx]
  unfold FP.Core.decode FP.Core.fieldE
  rw [k32_t, k32_e, if_neg (by omega), if_neg (by omega)]
  exact ⟨_, _, _, rfl, by omega⟩
theorem d032 : FP.Core.decode FP.Core.b32 (FP.i2f 0).toNat = .fin false 0 (-149) := by decide +kernel
theorem nn_q32 {s n : Int32} (hn : n ≠ 0) (hb : n.toInt.natAbs < 16777216) (hb1 : s.toInt.natAbs < 16777216) : NN32 (FP.fdiv (FP.i2f s) (FP.i2f n)) := by
  obtain ⟨s2, c2, p2, e2, h2⟩ := di32 hn hb
  show NN32 (UInt32.ofNat (FP.Core.encode FP.Core.b32 (FP.Core.quotient FP.Core.b32 (FP.Core.decode FP.Core.b32 (FP.i2f s).toNat) (FP.Core.decode FP.Core.b32 (FP.i2f n).toNat))))
  rw [e2]
  apply nn_en32
  by_cases hs : s = 0
  · rw [hs, d032]
    show TM32 (if c2 = 0 then _ else _)
    rw [if_neg h2]
    exact rr32
  · obtain ⟨s1, c1, p1, e1, h1⟩ := di32 hs hb1
    rw [e1]
    show TM32 (if c2 = 0 then _ else _)
    rw [if_neg h2]
    exact rr32
theorem m32_a : (0x7fffffff : UInt32).toNat = 2147483648 - 1 := by decide +kernel
theorem m32_b : (0x7f800000 : UInt32).toNat = 2139095040 := by decide +kernel
theorem m32_c : (2 : Nat) ^ 31 - 1 = 2147483648 - 1 := by decide +kernel
theorem m32_d : (2 : Nat) ^ 31 = 2147483648 := by decide +kernel
theorem msk32 {x : UInt32} (h : NN32 x) : x &&& 0x7fffffff ≤ 0x7f800000 := by
  unfold NN32 at h
  rw [UInt32.le_iff_toNat_le, UInt32.toNat_and, m32_a, m32_b, ← m32_c, Nat.and_two_pow_sub_one_eq_mod, m32_d]
  exact h
theorem nn_0 : NN64 FP.dconst0 := by unfold NN64; decide +kernel
theorem nn_f0 : NN32 FP.fconst0 := by unfold NN32; decide +kernel
theorem nn_f2d {x : UInt32} (h : NN32 x) : NN64 (FP.f2d x) := by
  have h1 := de32 h
  unfold FP.f2d
  have h2 : FP.Core.fIsNaN x = false := decide_eq_false h1
  rw [h2]
  show NN64 (UInt64.ofNat (FP.Core.encode FP.Core.b64 (FP.Core.round FP.Core.b64 (FP.Core.decode FP.Core.b32 x.toNat))))
  apply nn_en64
  cases hd : FP.Core.decode FP.Core.b32 x.toNat with
  | nan => exact absurd hd h1
  | inf s => exact trivial
  | fin s c q => exact rr64
theorem nn_cmp {x : UInt64} (h : NN64 x) : FP.dcmp x x = some .eq := by
  have h1 := de64 h
  show FP.Core.order (FP.Core.decode FP.Core.b64 x.toNat) (FP.Core.decode FP.Core.b64 x.toNat) = some .eq
  cases hd : FP.Core.decode FP.Core.b64 x.toNat with
  | nan => exact absurd hd h1
  | inf s => cases s <;> rfl
  | fin s c q =>
    show some (compare (FP.Core.signed s (FP.Core.inUnits c q (min q q))) (FP.Core.signed s (FP.Core.inUnits c q (min q q)))) = some .eq
    generalize FP.Core.signed s (FP.Core.inUnits c q (min q q)) = z
    show some (if z < z then Ordering.lt else if z = z then Ordering.eq else Ordering.gt) = some .eq
    rw [if_neg (Int.lt_irrefl z), if_pos rfl]
