def OUTn (n : Nat) (a b : Mem) : Prop := a 6 1 = nI n ∧ b 0 29 = nI n ∧ ∀ j, j < n → a 7 j = b 8 j
def FRO (a a1 : Mem) : Prop := (∀ k, k ≠ 6 → k ≠ 7 → a1 k = a k) ∧ ∀ j, j ≠ 1 → a1 6 j = a 6 j
def FRB (b b1 : Mem) : Prop := (∀ k, k ≠ 0 → k ≠ 8 → b1 k = b k) ∧ ∀ j, j ≠ 29 → b1 0 j = b 0 j
theorem FRO_i {a : Mem} : FRO a a := ⟨fun _ _ _ => rfl, fun _ _ => rfl⟩
theorem FRB_i {a : Mem} : FRB a a := ⟨fun _ _ _ => rfl, fun _ _ => rfl⟩
theorem FRO_t {a a1 a2 : Mem} (h : FRO a a1) (h2 : FRO a1 a2) : FRO a a2 := ⟨fun k z2 z3 => (h2.1 k z2 z3).trans (h.1 k z2 z3), fun j z => (h2.2 j z).trans (h.2 j z)⟩
theorem FRB_t {a a1 a2 : Mem} (h : FRB a a1) (h2 : FRB a1 a2) : FRB a a2 := ⟨fun k z2 z3 => (h2.1 k z2 z3).trans (h.1 k z2 z3), fun j z => (h2.2 j z).trans (h.2 j z)⟩

theorem o_add {N n : Nat} {x : Int32} {a b : Mem} (hn : n < 256) (h : OUTn n a b) : ∃ b1, f_X9_write N x b = some b1 ∧ OUTn (n + 1) (f_X2_add x a) b1 ∧ FRO a (f_X2_add x a) ∧ FRB b b1 := by
  have e0 : (0 : Int32).toInt = 0 := rfl
  obtain ⟨h1, h2, h3⟩ := h
  have en : (nI n).toInt = n := z_nI (by omega)
  unfold f_X2_add f_X9_write
  simp only [b_T]
  rw [h1, h2, if_neg (show ¬ nI n < 0 by rw [z_lt, e0, en]; omega), if_neg (show ¬ nI 256 ≤ nI n from fun h9 => by have := (nI_lei (by omega) (by omega)).1 h9; omega), z_cN (by omega) (by omega), z_tN (by omega)]
  generalize vp_nar .byte ((Int32.toInt8 x).toInt32) = v
  have ea : upR a 7 (upd (a 7) n v) 6 1 + (1 : Int32) = nI (n + 1) := by rw [R_n (by omega), h1, nI_1]
  have eb : upR b 8 (upd (b 8) n v) 0 29 + (1 : Int32) = nI (n + 1) := by rw [R_n (by omega), h2, nI_1]
  rw [ea, eb]
  refine ⟨_, rfl, ⟨by rw [p2_s, u_s], by rw [p2_s, u_s], fun j hj => ?_⟩, ⟨fun k z6 z7 => by rw [p2_n z6, R_n z7], fun j z => by rw [p2_s, u_n z, R_n (by omega)]⟩, ⟨fun k z0 z8 => by rw [p2_n z0, R_n z8], fun j z => by rw [p2_s, u_n z, R_n (by omega)]⟩⟩
  rw [p2_n (by omega), R_s, p2_n (by omega), R_s]
  by_cases hjn : j = n
  · subst hjn
    rw [u_s, u_s]
  · rw [u_n hjn, u_n hjn]
    exact h3 j (by omega)
theorem z6_bm {x : Int} (h1 : -9223372036854775808 ≤ x) (h2 : x ≤ 9223372036854775807) : x.bmod (2 ^ 64) = x := Int.bmod_eq_of_le_mul_two (y := 18446744073709551616) (by omega) (by omega)
theorem z6_mul {x y : Int64} (h1 : 0 ≤ x.toInt * y.toInt) (h2 : x.toInt * y.toInt ≤ 9223372036854775807) : (x * y).toInt = x.toInt * y.toInt := by rw [Int64.toInt_mul, z6_bm (by omega) h2]
theorem z6_sub {x y : Int64} (h1 : 0 ≤ x.toInt - y.toInt) (h2 : x.toInt - y.toInt ≤ 9223372036854775807) : (x - y).toInt = x.toInt - y.toInt := by rw [Int64.toInt_sub, z6_bm (by omega) h2]
theorem z6_add {x y : Int64} (h1 : 0 ≤ x.toInt + y.toInt) (h2 : x.toInt + y.toInt ≤ 9223372036854775807) : (x + y).toInt = x.toInt + y.toInt := by rw [Int64.toInt_add, z6_bm (by omega) h2]
theorem z6_div {x y : Int64} (h1 : 0 ≤ x.toInt) (h2 : 0 < y.toInt) (h3 : x.toInt ≤ 9000000000000000000) : (x / y).toInt = x.toInt / y.toInt := by
  rw [Int64.toInt_div, Int.tdiv_eq_ediv_of_nonneg h1, z6_bm]
  · have := Int.ediv_nonneg h1 (Int.le_of_lt h2)
    omega
  · have h4 : x.toInt / y.toInt ≤ x.toInt := Int.ediv_le_self _ h1
    omega
theorem ch_dig : ∀ k, k < 10 → (Int32.toUInt32 (nI (48 + k)) % 65536).toInt32 = nI (48 + k) := by decide +kernel

theorem dig_eq {v u : Int} {x3 x8 : Int64} {x2 x7 : Int32} (h3 : x3.toInt = v) (h2 : x2.toInt = v) (h8 : x8.toInt = u) (h7 : x7.toInt = u) (hv : 0 ≤ v) (hv2 : v ≤ 2147483647) (hu : 0 < u) : ((Int32.toUInt32 (Int64.toInt32 ((48 : Int64) + ((x3 / x8) - (x3 / x8) / (10 : Int64) * (10 : Int64)))) % 65536).toInt32) = ((48 : Int32) + ((x2 / x7) - (x2 / x7) / (10 : Int32) * (10 : Int32))) := by
  have e10 : (10 : Int64).toInt = 10 := rfl
  have e48 : (48 : Int64).toInt = 48 := rfl
  have f10 : (10 : Int32).toInt = 10 := rfl
  have f48 : (48 : Int32).toInt = 48 := rfl
  have q0 : 0 ≤ v / u := Int.ediv_nonneg hv (by omega)
  have q1 : v / u ≤ v := Int.ediv_le_self _ hv
  have d1 : (x3 / x8).toInt = v / u := by rw [z6_div (by omega) (by omega) (by omega), h3, h8]
  have d2 : ((x3 / x8) / (10 : Int64)).toInt = v / u / 10 := by rw [z6_div (by omega) (by decide) (by omega), d1, e10]
  have d3 : ((x3 / x8) / (10 : Int64) * (10 : Int64)).toInt = v / u / 10 * 10 := by rw [z6_mul (by rw [d2, e10]; omega) (by rw [d2, e10]; omega), d2, e10]
  have d4 : ((x3 / x8) - (x3 / x8) / (10 : Int64) * (10 : Int64)).toInt = v / u - v / u / 10 * 10 := by rw [z6_sub (by rw [d1, d3]; omega) (by rw [d1, d3]; omega), d1, d3]
  have d5 : ((48 : Int64) + ((x3 / x8) - (x3 / x8) / (10 : Int64) * (10 : Int64))).toInt = 48 + (v / u - v / u / 10 * 10) := by rw [z6_add (by rw [d4, e48]; omega) (by rw [d4, e48]; omega), d4, e48]
  have g1 : (x2 / x7).toInt = v / u := by rw [z_div (by omega) (by omega), h2, h7]
  have g2 : ((x2 / x7) / (10 : Int32)).toInt = v / u / 10 := by rw [z_div (by omega) (by decide), g1, f10]
  have g3 : ((x2 / x7) / (10 : Int32) * (10 : Int32)).toInt = v / u / 10 * 10 := by rw [z_mul (by rw [g2, f10]; omega) (by rw [g2, f10]; omega), g2, f10]
  have g4 : ((x2 / x7) - (x2 / x7) / (10 : Int32) * (10 : Int32)).toInt = v / u - v / u / 10 * 10 := by rw [z_sub (by rw [g1, g3]; omega) (by rw [g1, g3]; omega), g1, g3]
  have g5 : ((48 : Int32) + ((x2 / x7) - (x2 / x7) / (10 : Int32) * (10 : Int32))).toInt = 48 + (v / u - v / u / 10 * 10) := by rw [z_add (by rw [g4, f48]; omega) (by rw [g4, f48]; omega), g4, f48]
  have hk : (v / u - v / u / 10 * 10).toNat < 10 := by omega
  have k1 : Int64.toInt32 ((48 : Int64) + ((x3 / x8) - (x3 / x8) / (10 : Int64) * (10 : Int64))) = nI (48 + (v / u - v / u / 10 * 10).toNat) := by
    rw [z_eq, Int64.toInt_toInt32, d5, z_nI (by omega), z_bm (by omega) (by omega)]
    omega
  have k2 : ((48 : Int32) + ((x2 / x7) - (x2 / x7) / (10 : Int32) * (10 : Int32))) = nI (48 + (v / u - v / u / 10 * 10).toNat) := by
    rw [z_eq, g5, z_nI (by omega)]
    omega
  rw [k1, k2, ch_dig _ hk]
theorem o_digs {N : Nat} {v : Int} {x3 : Int64} {x2 : Int32} (h3 : x3.toInt = v) (h2 : x2.toInt = v) (hv : 0 ≤ v) (hv2 : v ≤ 2147483647) : ∀ (d fu n : Nat) (x8 : Int64) (x9 x7 : Int32) (a b : Mem), x8.toInt = ((10 ^ d : Nat) : Int) → x7.toInt = ((10 ^ d : Nat) : Int) → d ≤ 9 → 0 ≤ x9.toInt → x9.toInt + d ≤ 9 → OUTn n a b → n + d + 1 ≤ 256 → d + 2 ≤ fu → ∃ a' b', f_X2_addNumber_59 N x3 fu x8 x9 a = some a' ∧ f_X9_writeInt_36 N x2 fu x7 b = some b' ∧ OUTn (n + d + 1) a' b' ∧ FRO a a' ∧ FRB b b' := by
  have e0 : (0 : Int32).toInt = 0 := rfl
  have e1 : (1 : Int32).toInt = 1 := rfl
  have e10 : (10 : Int32).toInt = 10 := rfl
  have l0 : (0 : Int64).toInt = 0 := rfl
  have l10 : (10 : Int64).toInt = 10 := rfl
  intro d
  induction d with
  | zero =>
    intro fu n x8 x9 x7 a b hx8 hx7 hd h90 h9 ho hn hf
    obtain ⟨f, rfl⟩ : ∃ f, fu = f + 2 := ⟨fu - 2, by omega⟩
    have p1 : ((10 ^ 0 : Nat) : Int) = 1 := rfl
    rw [p1] at hx8 hx7
    obtain ⟨b1, w1, w2, w3, w4⟩ := @o_add N n ((48 : Int32) + ((x2 / x7) - (x2 / x7) / (10 : Int32) * (10 : Int32))) a b (by omega) ho
    have hg := dig_eq h3 h2 hx8 hx7 hv hv2 (by omega)
    rw [f_X2_addNumber_59_s, f_X9_writeInt_36_s, if_neg (show ¬ (10 : Int32) ≤ x9 by rw [z_le, e10]; omega), if_neg (show ¬ lg_cmp x8 0 ≤ 0 from fun h => by have := Int64.le_iff_toInt_le.1 ((lg_cmp_le x8 0).1 h); rw [l0] at this; omega), if_neg (show ¬ x7 ≤ 0 by rw [z_le, e0]; omega)]
    unfold chkP
    rw [if_pos (show ¬ x8 = 0 from fun h => by rw [h, l0] at hx8; omega), if_pos (show ¬ (10 : Int64) = 0 by decide), if_pos (show ¬ x7 = 0 from fun h => by rw [h, e0] at hx7; omega), hg, w1, b_P]
    simp only [b_T]
    rw [if_pos (show ¬ (10 : Int64) = 0 by decide)]
    have hz8 : (x8 / (10 : Int64)).toInt = 0 := by rw [z6_div (by omega) (by decide) (by omega), hx8, l10]; rfl
    have hz7 : (x7 / (10 : Int32)).toInt = 0 := by rw [z_div (by omega) (by decide), hx7, e10]; rfl
    rw [f_X2_addNumber_59_s, f_X9_writeInt_36_s, if_pos (show x7 / 10 ≤ 0 by rw [z_le, hz7, e0]; omega)]
    have hc : lg_cmp (x8 / (10 : Int64)) 0 ≤ 0 := (lg_cmp_le _ _).2 (Int64.le_iff_toInt_le.2 (by rw [hz8, l0]; omega))
    refine ⟨_, b1, ?_, rfl, w2, w3, w4⟩
    rw [if_pos hc, ite_self]
  | succ d ih =>
    intro fu n x8 x9 x7 a b hx8 hx7 hd h90 h9 ho hn hf
    obtain ⟨f, rfl⟩ : ∃ f, fu = f + 1 := ⟨fu - 1, by omega⟩
    have hpw : (10 ^ (d + 1) : Nat) = 10 ^ d * 10 := Nat.pow_succ 10 d
    have hpp : 0 < (10 ^ d : Nat) := Nat.pow_pos (by omega)
    have hple : (10 ^ d : Nat) ≤ 10 ^ 8 := Nat.pow_le_pow_right (by omega) (by omega)
    have h108 : (10 ^ 8 : Nat) = 100000000 := rfl
    rw [hpw] at hx8 hx7
    generalize (10 ^ d : Nat) = P at hx8 hx7 hpp hple ih
    obtain ⟨b1, w1, w2, w3, w4⟩ := @o_add N n ((48 : Int32) + ((x2 / x7) - (x2 / x7) / (10 : Int32) * (10 : Int32))) a b (by omega) ho
    have hg := dig_eq h3 h2 hx8 hx7 hv hv2 (by omega)
    rw [f_X2_addNumber_59_s, f_X9_writeInt_36_s, if_neg (show ¬ (10 : Int32) ≤ x9 by rw [z_le, e10]; omega), if_neg (show ¬ lg_cmp x8 0 ≤ 0 from fun h => by have := Int64.le_iff_toInt_le.1 ((lg_cmp_le x8 0).1 h); rw [l0] at this; omega), if_neg (show ¬ x7 ≤ 0 by rw [z_le, e0]; omega)]
    unfold chkP
    rw [if_pos (show ¬ x8 = 0 from fun h => by rw [h, l0] at hx8; omega), if_pos (show ¬ (10 : Int64) = 0 by decide), if_pos (show ¬ x7 = 0 from fun h => by rw [h, e0] at hx7; omega), hg, w1, b_P]
    simp only [b_T]
    rw [if_pos (show ¬ (10 : Int64) = 0 by decide)]
    have hz8 : (x8 / (10 : Int64)).toInt = (P : Int) := by rw [z6_div (by omega) (by decide) (by omega), hx8, l10]; omega
    have hz7 : (x7 / (10 : Int32)).toInt = (P : Int) := by rw [z_div (by omega) (by decide), hx7, e10]; omega
    have hz9 : (x9 + (1 : Int32)).toInt = x9.toInt + 1 := by rw [z_add (by rw [e1]; omega) (by rw [e1]; omega), e1]
    obtain ⟨a', b', r1, r2, r3, r4, r5⟩ := ih f (n + 1) (x8 / 10) (x9 + 1) (x7 / 10) _ b1 hz8 hz7 (by omega) (by omega) (by omega) w2 (by omega) (by omega)
    refine ⟨a', b', r1, r2, ?_, FRO_t w3 r4, FRB_t w4 r5⟩
    have : n + 1 + d + 1 = n + (d + 1) + 1 := by omega
    rw [← this]
    exact r3
theorem o_unit {N : Nat} {v : Int} {x3 : Int64} {x2 : Int32} {a b : Mem} (h3 : x3.toInt = v) (h2 : x2.toInt = v) (hv : 0 ≤ v) (hv2 : v < 1000000000) : ∀ (k e fu : Nat) (x5 : Int64) (x6 x4 : Int32), e + k = 9 → x5.toInt = ((10 ^ e : Nat) : Int) → x4.toInt = ((10 ^ e : Nat) : Int) → x6.toInt = e + 1 → k + 1 ≤ fu → (e = 0 ∨ ((10 ^ e : Nat) : Int) ≤ v) → ∃ (d : Nat) (x : Int64) (y : Int32), d ≤ 9 ∧ (d = 0 ∨ ((10 ^ d : Nat) : Int) ≤ v) ∧ x.toInt = ((10 ^ d : Nat) : Int) ∧ y.toInt = ((10 ^ d : Nat) : Int) ∧ f_X2_addNumber_24 N x3 a fu x5 x6 = f_X2_addNumber_56 N x3 a x ∧ f_X9_writeInt_17 N b x2 fu x4 = bP (f_X9_writeInt_36 N x2 N y b) fun b18 => some b18 := by
  have e0 : (0 : Int32).toInt = 0 := rfl
  have e1 : (1 : Int32).toInt = 1 := rfl
  have e10 : (10 : Int32).toInt = 10 := rfl
  have l0 : (0 : Int64).toInt = 0 := rfl
  have l10 : (10 : Int64).toInt = 10 := rfl
  intro k
  induction k with
  | zero =>
    intro e fu x5 x6 x4 he hx5 hx4 hx6 hf hle
    exfalso
    have h9 : e = 9 := by omega
    subst h9
    have : ((10 ^ 9 : Nat) : Int) = 1000000000 := rfl
    omega
  | succ k ih =>
    intro e fu x5 x6 x4 he hx5 hx4 hx6 hf hle
    obtain ⟨f, rfl⟩ : ∃ f, fu = f + 1 := ⟨fu - 1, by omega⟩
    have hpw : (10 ^ (e + 1) : Nat) = 10 ^ e * 10 := Nat.pow_succ 10 e
    have hpp : 0 < (10 ^ e : Nat) := Nat.pow_pos (by omega)
    have hple : (10 ^ e : Nat) ≤ 10 ^ 8 := Nat.pow_le_pow_right (by omega) (by omega)
    have h108 : (10 ^ 8 : Nat) = 100000000 := rfl
    have hd : (x2 / x4).toInt = v / ((10 ^ e : Nat) : Int) := by rw [z_div (by omega) (by omega), h2, hx4]
    have hm : ((10 : Int64) * x5).toInt = 10 * ((10 ^ e : Nat) : Int) := by rw [z6_mul (by rw [l10]; omega) (by rw [l10]; omega), l10, hx5]
    have hm4 : (x4 * (10 : Int32)).toInt = ((10 ^ e : Nat) : Int) * 10 := by rw [z_mul (by rw [e10]; omega) (by rw [e10]; omega), e10, hx4]
    have hdiv : v / ((10 ^ e : Nat) : Int) < 10 ↔ v < 10 * ((10 ^ e : Nat) : Int) := by
      rw [Int.ediv_lt_iff_lt_mul (by omega)]
    rw [f_X2_addNumber_24_s, f_X9_writeInt_17_s, if_neg (show ¬ (10 : Int32) ≤ x6 by rw [z_le, e10]; omega)]
    unfold chkP
    rw [if_pos (show ¬ x4 = 0 from fun h => by rw [h, e0] at hx4; omega)]
    by_cases hc : v < 10 * ((10 ^ e : Nat) : Int)
    · rw [if_pos (show 0 < lg_cmp (10 * x5) x3 from (z_lgg _ _).2 (by rw [hm, h3]; exact hc)), if_pos (show x2 / x4 < 10 by rw [z_lt, hd, e10]; exact hdiv.2 hc)]
      exact ⟨e, x5, x4, by omega, hle, hx5, hx4, rfl, rfl⟩
    · rw [if_neg (show ¬ 0 < lg_cmp (10 * x5) x3 from fun h => by have := (z_lgg _ _).1 h; rw [hm, h3] at this; exact hc this), if_neg (show ¬ x2 / x4 < 10 by rw [z_lt, hd, e10]; exact fun h => hc (hdiv.1 h))]
      simp only [b_T]
      refine ih (e + 1) f _ _ _ (by omega) (by rw [hm, hpw]; omega) (by rw [hm4, hpw]; omega) (by rw [z_add (by rw [e1]; omega) (by rw [e1]; omega), e1, hx6]; omega) (by omega) (Or.inr (by rw [hpw]; omega))
theorem o_abs {N n m : Nat} {v : Int} {x3 : Int64} {x2 : Int32} {a b : Mem} (hN : 20 ≤ N) (h3 : x3.toInt = v) (h2 : x2.toInt = v) (hv : 0 ≤ v) (hv2 : v < ((10 ^ m : Nat) : Int)) (hm : 1 ≤ m) (hm9 : m ≤ 9) (ho : OUTn n a b) (hn : n + m ≤ 256) : ∃ (k : Nat) (a' b' : Mem), 1 ≤ k ∧ k ≤ m ∧ f_X2_addNumber_18 N x3 a = some a' ∧ f_X9_writeInt_17 N b x2 N 1 = some b' ∧ OUTn (n + k) a' b' ∧ FRO a a' ∧ FRB b b' := by
  have hp9 : (10 ^ m : Nat) ≤ 10 ^ 9 := Nat.pow_le_pow_right (by omega) hm9
  have h109 : (10 ^ 9 : Nat) = 1000000000 := rfl
  obtain ⟨d, x, y, d1, d2, d3, d4, d5, d6⟩ := @o_unit N v x3 x2 a b h3 h2 hv (by omega) 9 0 N 1 1 1 (by omega) rfl rfl (by decide) (by omega) (Or.inl rfl)
  have hdm : d + 1 ≤ m := by
    rcases d2 with h | h
    · omega
    · apply Classical.byContradiction
      intro hh
      have : (10 ^ m : Nat) ≤ 10 ^ d := Nat.pow_le_pow_right (by omega) (by omega)
      omega
  obtain ⟨a', b', r1, r2, r3, r4, r5⟩ := @o_digs N v x3 x2 h3 h2 hv (by omega) d N n x 0 y a b d3 d4 d1 (by decide) (by have : (0 : Int32).toInt = 0 := rfl; omega) ho (by omega) (by omega)
  refine ⟨d + 1, a', b', by omega, hdm, ?_, ?_, r3, r4, r5⟩
  · unfold f_X2_addNumber_18
    rw [d5]
    exact r1
  · rw [d6, r2, b_P]
theorem o_num {N n m : Nat} {p : Int32} {a b : Mem} (hN : 20 ≤ N) (hp1 : -((10 ^ m : Nat) : Int) < p.toInt) (hp2 : p.toInt < ((10 ^ m : Nat) : Int)) (hm : 1 ≤ m) (hm9 : m ≤ 9) (ho : OUTn n a b) (hn : n + m + 1 ≤ 256) : ∃ (k : Nat) (a' b' : Mem), k ≤ m + 1 ∧ (0 ≤ p.toInt → k ≤ m) ∧ f_X2_addNumber N p a = some a' ∧ f_X9_writeInt N p b = some b' ∧ OUTn (n + k) a' b' ∧ FRO a a' ∧ FRB b b' := by
  have e0 : (0 : Int32).toInt = 0 := rfl
  have l0 : (0 : Int64).toInt = 0 := rfl
  have hp9 : (10 ^ m : Nat) ≤ 10 ^ 9 := Nat.pow_le_pow_right (by omega) hm9
  have h109 : (10 ^ 9 : Nat) = 1000000000 := rfl
  have h64 : (Int32.toInt64 p).toInt = p.toInt := Int32.toInt_toInt64 p
  unfold f_X2_addNumber f_X9_writeInt f_X9_writeInt_10 abI
  simp only [b_T]
  by_cases h0 : 0 ≤ p.toInt
  · have q1 : 0 ≤ lg_cmp (Int32.toInt64 p) 0 := (lg_cmp_ge _ _).2 (Int64.le_iff_toInt_le.2 (by rw [h64, l0]; exact h0))
    rw [if_pos q1, if_pos (show 0 ≤ p by rw [z_le, e0]; exact h0), if_pos (show 0 ≤ p by rw [z_le, e0]; exact h0)]
    obtain ⟨k, a', b', k1, k2, r1, r2, r3, r4, r5⟩ := @o_abs N n m p.toInt (Int32.toInt64 p) p a b hN h64 rfl h0 hp2 hm hm9 ho (by omega)
    exact ⟨k, a', b', by omega, fun _ => k2, r1, r2, r3, r4, r5⟩
  · have q1 : ¬ 0 ≤ lg_cmp (Int32.toInt64 p) 0 := fun h => by have := Int64.le_iff_toInt_le.1 ((lg_cmp_ge _ _).1 h); rw [h64, l0] at this; exact h0 this
    have hn0 : ¬ 0 ≤ p := by rw [z_le, e0]; exact h0
    rw [if_neg q1, if_neg hn0, if_neg hn0]
    obtain ⟨b1, w1, w2, w3, w4⟩ := @o_add N n 45 a b (by omega) ho
    have hneg : (-(Int32.toInt64 p)).toInt = -p.toInt := by rw [Int64.toInt_neg, h64, z6_bm (by omega) (by omega)]
    have hneg2 : (0 - p).toInt = -p.toInt := by rw [z_sub (by rw [e0]; omega) (by rw [e0]; omega), e0]; omega
    obtain ⟨k, a', b', k1, k2, r1, r2, r3, r4, r5⟩ := @o_abs N (n + 1) m (-p.toInt) (-(Int32.toInt64 p)) (0 - p) (f_X2_add 45 a) b1 hN hneg hneg2 (by omega) (by omega) hm hm9 w2 (by omega)
    rw [w1, b_P]
    refine ⟨k + 1, a', b', by omega, fun h => absurd h h0, r1, r2, ?_, FRO_t w3 r4, FRB_t w4 r5⟩
    have : n + 1 + k = n + (k + 1) := by omega
    rw [← this]
    exact r3

