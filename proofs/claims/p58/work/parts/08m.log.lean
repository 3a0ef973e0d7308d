def CNT (g : Nat → Int32) : Nat := min 40 (g 8).toInt.toNat
theorem CNT_40 {g : Nat → Int32} : CNT g ≤ 40 := by unfold CNT; omega
theorem CNT_i {g : Nat → Int32} (h : 0 ≤ (g 8).toInt) : mnI 40 (g 8) = nI (CNT g) := by
  have e40 : (40 : Int32).toInt = 40 := rfl
  have := @CNT_40 g
  rw [z_eq, z_mn, z_nI (by omega), e40]
  unfold CNT
  omega
theorem CNT_lt {g : Nat → Int32} {i : Nat} (h : i < CNT g) : i < 40 ∧ (i : Int) < (g 8).toInt := by
  unfold CNT at h
  omega
theorem REL_log {t : Int} {a b : Mem} (h : REL t a b) : LG a 11 (b 1) ∧ 0 ≤ (b 1 8).toInt ∧ (b 1 8).toInt ≤ t := ⟨h.2.1.2.2.2.2.2, h.2.2.1.2.2.2.2.1.2.2.2.1, h.2.2.1.2.2.2.2.1.2.2.2.2⟩
theorem REL_cnt {t : Int} {a b : Mem} (h : REL t a b) : a 11 1 = nI (CNT (b 1)) := by
  obtain ⟨⟨h1, -⟩, h0, -⟩ := REL_log h
  rw [h1, CNT_i h0]
theorem r_many {t : Int} {N : Nat} {a b : Mem} (h : REL t a b) : f_X9_logMany N b = some (nI (CNT (b 1))) := by
  obtain ⟨-, h0, -⟩ := REL_log h
  unfold f_X9_logMany
  rw [← CNT_i h0]
  rfl
theorem z_rem {x m : Int32} (h1 : 0 ≤ x.toInt) (h2 : 0 < m.toInt) : (x - x / m * m).toInt = x.toInt % m.toInt := by
  have d1 : (x / m).toInt = x.toInt / m.toInt := z_div h1 h2
  have b1 := z_hi x
  have q1 : x.toInt / m.toInt * m.toInt + x.toInt % m.toInt = x.toInt := Int.ediv_mul_add_emod _ _
  have q2 := Int.emod_nonneg x.toInt (show m.toInt ≠ 0 by omega)
  have q3 : 0 ≤ x.toInt / m.toInt := Int.ediv_nonneg h1 (by omega)
  have q4 : 0 ≤ x.toInt / m.toInt * m.toInt := Int.mul_nonneg q3 (by omega)
  have m1 : (x / m * m).toInt = x.toInt / m.toInt * m.toInt := by rw [z_mul (by rw [d1]; omega) (by rw [d1]; omega), d1]
  rw [z_sub (by rw [m1]; omega) (by rw [m1]; omega), m1]
  omega
theorem c_log {t : Int} {a b : Mem} (h : REL t a b) {i : Nat} {w : Int32} (hi : i < CNT (b 1)) (h1 : 0 ≤ w.toInt) (h2 : w.toInt < 6) : f_X1_number 11 (nI i) w a = b 1 (71 + 6 * i + w.toNatClampNeg) := by
  obtain ⟨⟨l1, l2, l3, l4⟩, -⟩ := REL_log h
  obtain ⟨i1, i2⟩ := CNT_lt hi
  have e40 : (40 : Int32).toInt = 40 := rfl
  have e6 : (6 : Int32).toInt = 6 := rfl
  have ei : (nI i).toInt = i := z_nI (by omega)
  have a1 : (a 11 2 + (40 : Int32)).toInt = (a 11 2).toInt + 40 := by rw [z_add (by rw [e40]; omega) (by rw [e40]; omega), e40]
  have a2 : (a 11 2 + (40 : Int32) - nI i).toInt = (a 11 2).toInt + 40 - i := by rw [z_sub (by rw [a1, ei]; omega) (by rw [a1, ei]; omega), a1, ei]
  have a3 : ((a 11 2 + (40 : Int32) - nI i) - (a 11 2 + (40 : Int32) - nI i) / (40 : Int32) * (40 : Int32)).toInt = ((a 11 2).toInt + 40 - i) % 40 := by rw [z_rem (by rw [a2]; omega) (by decide), a2, e40]
  unfold f_X1_number
  simp only [b_T, Nat.reduceAdd]
  have a4 : (((a 11 2 + (40 : Int32) - nI i) - (a 11 2 + (40 : Int32) - nI i) / (40 : Int32) * (40 : Int32)) * (6 : Int32)).toInt = ((a 11 2).toInt + 40 - i) % 40 * 6 := by rw [z_mul (by rw [a3, e6]; omega) (by rw [a3, e6]; omega), a3, e6]
  have a5 : (((a 11 2 + (40 : Int32) - nI i) - (a 11 2 + (40 : Int32) - nI i) / (40 : Int32) * (40 : Int32)) * (6 : Int32) + w).toInt = ((a 11 2).toInt + 40 - i) % 40 * 6 + w.toInt := by rw [z_add (by rw [a4]; omega) (by rw [a4]; omega), a4]
  rw [z_at (by rw [a5]; omega) (by rw [a5]; omega), ← l4 i w.toNatClampNeg i1 i2 (by rw [z_tn]; omega), z_tn, a5, z_tn, z_tn]
  congr 1
  omega
theorem r_log {t : Int} {N : Nat} {a b : Mem} (h : REL t a b) {i : Nat} {w : Int32} (hi : i < CNT (b 1)) (h1 : 0 ≤ w.toInt) (h2 : w.toInt < 6) : f_X9_ofLog N (nI i) w b = some (b 1 (71 + 6 * i + w.toNatClampNeg)) := by
  obtain ⟨i1, i2⟩ := CNT_lt hi
  have e71 : (71 : Int32).toInt = 71 := rfl
  have e6 : (6 : Int32).toInt = 6 := rfl
  have ei : (nI i).toInt = i := z_nI (by omega)
  have a1 : ((6 : Int32) * nI i).toInt = 6 * i := by rw [z_mul (by rw [e6, ei]; omega) (by rw [e6, ei]; omega), e6, ei]
  have a2 : ((71 : Int32) + (6 : Int32) * nI i).toInt = 71 + 6 * i := by rw [z_add (by rw [e71, a1]; omega) (by rw [e71, a1]; omega), e71, a1]
  have a3 : ((71 : Int32) + (6 : Int32) * nI i + w).toInt = 71 + 6 * i + w.toInt := by rw [z_add (by rw [a2]; omega) (by rw [a2]; omega), a2]
  unfold f_X9_ofLog
  rw [z_cI (by rw [a3]; omega) (by rw [a3]; omega), z_tn, a3, z_tn, show (71 + 6 * (i : Int) + w.toInt).toNat = 71 + 6 * i + w.toInt.toNat by omega]
theorem nI_lei {x y : Nat} (hx : x < 2147483648) (hy : y < 2147483648) : (nI x ≤ nI y) ↔ x ≤ y := by
  rw [z_le, z_nI hx, z_nI hy]
  omega
theorem ag_logged {t : Int} {N : Nat} {a b c : Mem} {p q : Int32} (h : REL t a b) : AGR t (f_L_logged p q a c) (f_X9_logged N p q b) := by
  have e0 : (0 : Int64).toInt = 0 := rfl
  have e5 : (5 : Int64).toInt = 5 := rfl
  have f0 : (0 : Int32).toInt = 0 := rfl
  have f1 : (1 : Int32).toInt = 1 := rfl
  have f6 : (6 : Int32).toInt = 6 := rfl
  have h40 := @CNT_40 (b 1)
  have ec : (nI (CNT (b 1))).toInt = CNT (b 1) := z_nI (by omega)
  have e1 : (nI (CNT (b 1)) - 1).toInt = CNT (b 1) - 1 := by rw [z_sub (by rw [ec, f1]; omega) (by rw [ec, f1]; omega), ec, f1]
  unfold f_L_logged f_X8_logged f_X9_logged
  simp only [b_T, r_many h, b_P, q_in, Int32.toInt_toInt64, e0, e5, e1, pass2, Nat.reduceAdd, REL_cnt h]
  by_cases hp : 0 ≤ p.toInt ∧ p.toInt ≤ CNT (b 1) - 1
  · rw [if_neg (show ¬ p < 0 by rw [z_lt, f0]; omega), if_pos (show p < nI (CNT (b 1)) by rw [z_lt, ec]; omega)]
    simp only [hp, and_self, reduceIte, i10]
    by_cases hq : 0 ≤ q.toInt ∧ q.toInt ≤ 5
    · rw [if_neg (show ¬ q < 0 by rw [z_lt, f0]; omega), if_pos (show q < 6 by rw [z_lt, f6]; omega)]
      simp only [hq, and_self, reduceIte, i10, b_T2]
      obtain ⟨hr, h00⟩ := @REL_t t a b 0 h
      have hb1 : (up2 b 0 0 0) 1 = b 1 := p2_n (by omega)
      generalize up2 b 0 0 0 = b0 at hr h00 hb1 ⊢
      have hpi : p = nI p.toNatClampNeg := (z_of hp.1).symm
      have hlt : p.toNatClampNeg < CNT (b0 1) := by rw [z_tn, hb1]; omega
      rw [hpi, c_log hr hlt hq.1 (by omega), r_log hr hlt hq.1 (by omega), b_P]
      exact ag_ok rfl rfl hr h00
    · simp only [hq, reduceIte, eq_self, b_T2]
      by_cases hq1 : q < 0
      · rw [if_pos hq1]
        exact ag_er rfl rfl h (by decide)
      · have h1 := z_nlt hq1
        rw [if_neg hq1, if_neg (by rw [z_lt, f6]; omega)]
        exact ag_er rfl rfl h (by decide)
  · simp only [hp, reduceIte, eq_self, b_T2]
    by_cases hp1 : p < 0
    · rw [if_pos hp1]
      exact ag_er rfl rfl h (by decide)
    · have h1 := z_nlt hp1
      rw [if_neg hp1, if_neg (by rw [z_lt, ec]; omega)]
      exact ag_er rfl rfl h (by decide)
theorem zl_sum {t : Int} {N : Nat} {a b : Mem} (h : REL t a b) {s w : Int32} (h1 : 0 ≤ w.toInt) (h2 : w.toInt < 6) : ∀ (n i fu : Nat) (x : Int32), i + n = CNT (b 1) → n + 1 ≤ fu → ∃ v, f_X1_sumOf_5 N 11 s w a fu x (nI i) = some v ∧ f_X9_sumOf_5 N s w b fu x (nI i) = some v := by
  have h40 := @CNT_40 (b 1)
  intro n
  induction n with
  | zero =>
    intro i fu x hi hf
    obtain ⟨f, rfl⟩ : ∃ f, fu = f + 1 := ⟨fu - 1, by omega⟩
    rw [f_X1_sumOf_5_s, f_X9_sumOf_5_s, r_many h, b_P, REL_cnt h, if_pos ((nI_lei (by omega) (by omega)).2 (by omega)), if_pos ((nI_lei (by omega) (by omega)).2 (by omega))]
    exact ⟨x, rfl, rfl⟩
  | succ n ih =>
    intro i fu x hi hf
    obtain ⟨f, rfl⟩ : ∃ f, fu = f + 1 := ⟨fu - 1, by omega⟩
    rw [f_X1_sumOf_5_s, f_X9_sumOf_5_s, r_many h, b_P, REL_cnt h, if_neg (fun h9 => by have := (nI_lei (by omega) (by omega)).1 h9; omega), if_neg (fun h9 => by have := (nI_lei (by omega) (by omega)).1 h9; omega)]
    rw [c_log h (by omega) (by decide) (by decide), r_log h (by omega) (by decide) (by decide), b_P, c_log h (by omega) h1 h2, r_log h (by omega) h1 h2, b_P, b_T, Int32.add_zero]
    simp only [b_T, nI_1]
    by_cases hs : b 1 (71 + 6 * i + (0 : Int32).toNatClampNeg) = s
    · rw [if_pos hs, if_pos hs]
      exact ih (i + 1) f _ (by omega) (by omega)
    · rw [if_neg hs, if_neg hs]
      exact ih (i + 1) f _ (by omega) (by omega)
theorem zs_sum {t : Int} {N : Nat} {a b : Mem} (h : REL t a b) {s w : Int32} (hN : 41 ≤ N) (h1 : 0 ≤ w.toInt) (h2 : w.toInt < 6) : ∃ v, f_X1_sumOf N 11 s w a = some v ∧ f_X9_sumOf N s w b = some v := by
  have h40 := @CNT_40 (b 1)
  exact zl_sum h h1 h2 (CNT (b 1)) 0 N 0 (by omega) (by omega)
theorem zl_long {t : Int} {N : Nat} {a b : Mem} (h : REL t a b) {s : Int32} : ∀ (n i fu : Nat) (x : Int32), i + n = CNT (b 1) → n + 1 ≤ fu → ∃ v, f_X1_greatestThink_4 N 11 s a fu x (nI i) = some v ∧ f_X9_longest_17 N s b fu x (nI i) = some (v, b) := by
  have h40 := @CNT_40 (b 1)
  intro n
  induction n with
  | zero =>
    intro i fu x hi hf
    obtain ⟨f, rfl⟩ : ∃ f, fu = f + 1 := ⟨fu - 1, by omega⟩
    rw [f_X1_greatestThink_4_s, f_X9_longest_17_s, r_many h, b_P, REL_cnt h, if_pos ((nI_lei (by omega) (by omega)).2 (by omega)), if_pos ((nI_lei (by omega) (by omega)).2 (by omega))]
    exact ⟨x, rfl, rfl⟩
  | succ n ih =>
    intro i fu x hi hf
    obtain ⟨f, rfl⟩ : ∃ f, fu = f + 1 := ⟨fu - 1, by omega⟩
    rw [f_X1_greatestThink_4_s, f_X9_longest_17_s, r_many h, b_P, REL_cnt h, if_neg (fun h9 => by have := (nI_lei (by omega) (by omega)).1 h9; omega), if_neg (fun h9 => by have := (nI_lei (by omega) (by omega)).1 h9; omega)]
    rw [c_log h (by omega) (by decide) (by decide), r_log h (by omega) (by decide) (by decide), b_P, c_log h (by omega) (by decide) (by decide), r_log h (by omega) (by decide) (by decide), b_P]
    simp only [b_T, nI_1]
    by_cases hs : b 1 (71 + 6 * i + (0 : Int32).toNatClampNeg) = s
    · rw [if_pos hs, if_pos hs]
      exact ih (i + 1) f _ (by omega) (by omega)
    · rw [if_neg hs, if_neg hs]
      exact ih (i + 1) f _ (by omega) (by omega)
theorem zl_with {t : Int} {N : Nat} {a b : Mem} (h : REL t a b) {s q : Int32} : ∀ (n i fu : Nat) (x : Int32), i + n = CNT (b 1) → n + 1 ≤ fu → ∃ v, f_X1_movesWithin_5 N 11 s q a fu x (nI i) = some v ∧ f_X9_within_27 N s q b fu x (nI i) = some (v, b) := by
  have h40 := @CNT_40 (b 1)
  intro n
  induction n with
  | zero =>
    intro i fu x hi hf
    obtain ⟨f, rfl⟩ : ∃ f, fu = f + 1 := ⟨fu - 1, by omega⟩
    rw [f_X1_movesWithin_5_s, f_X9_within_27_s, r_many h, b_P, REL_cnt h, if_pos ((nI_lei (by omega) (by omega)).2 (by omega)), if_pos ((nI_lei (by omega) (by omega)).2 (by omega))]
    exact ⟨x, rfl, rfl⟩
  | succ n ih =>
    intro i fu x hi hf
    obtain ⟨f, rfl⟩ : ∃ f, fu = f + 1 := ⟨fu - 1, by omega⟩
    rw [f_X1_movesWithin_5_s, f_X9_within_27_s, r_many h, b_P, REL_cnt h, if_neg (fun h9 => by have := (nI_lei (by omega) (by omega)).1 h9; omega), if_neg (fun h9 => by have := (nI_lei (by omega) (by omega)).1 h9; omega)]
    rw [c_log h (by omega) (by decide) (by decide), r_log h (by omega) (by decide) (by decide), b_P, c_log h (by omega) (by decide) (by decide), r_log h (by omega) (by decide) (by decide), b_P, Int32.add_zero]
    simp only [b_T, nI_1]
    by_cases hs : b 1 (71 + 6 * i + (0 : Int32).toNatClampNeg) = s
    · rw [if_pos hs, if_pos hs]
      by_cases hq : q < b 1 (71 + 6 * i + (1 : Int32).toNatClampNeg)
      · rw [if_pos hq, if_pos hq]
        exact ih (i + 1) f _ (by omega) (by omega)
      · rw [if_neg hq, if_neg hq]
        exact ih (i + 1) f _ (by omega) (by omega)
    · rw [if_neg hs, if_neg hs]
      exact ih (i + 1) f _ (by omega) (by omega)
def FMT (N : Nat) (s : Int32) (b6 : Mem) (x9 : Int32) : Option (UInt64 × Mem) := if x9 = 0 then (some (FP.dconst0, b6)) else (bP (f_X9_sumOf N s (1 : Int32) b6) fun x17 => chkP ((FP.ddiv (FP.i2d x17) (FP.i2d x9)) &&& 0x7fffffffffffffff ≤ 0x7ff0000000000000) <| some ((FP.ddiv (FP.i2d x17) (FP.i2d x9)), b6))
theorem zl_mean {t : Int} {N : Nat} {a b : Mem} (h : REL t a b) {s : Int32} : ∀ (n i fu m : Nat), i + n = CNT (b 1) → n + 1 ≤ fu → m ≤ i → ∃ v, v ≤ 40 ∧ f_X1_movesOf_4 N 11 s a fu (nI m) (nI i) = some (nI v) ∧ f_X9_meanThink_17 N s b fu (nI m) (nI i) = FMT N s b (nI v) := by
  have h40 := @CNT_40 (b 1)
  intro n
  induction n with
  | zero =>
    intro i fu m hi hf hm
    obtain ⟨f, rfl⟩ : ∃ f, fu = f + 1 := ⟨fu - 1, by omega⟩
    rw [f_X1_movesOf_4_s, f_X9_meanThink_17_s, r_many h, b_P, REL_cnt h, if_pos ((nI_lei (by omega) (by omega)).2 (by omega)), if_pos ((nI_lei (by omega) (by omega)).2 (by omega))]
    exact ⟨m, by omega, rfl, rfl⟩
  | succ n ih =>
    intro i fu m hi hf hm
    obtain ⟨f, rfl⟩ : ∃ f, fu = f + 1 := ⟨fu - 1, by omega⟩
    rw [f_X1_movesOf_4_s, f_X9_meanThink_17_s, r_many h, b_P, REL_cnt h, if_neg (fun h9 => by have := (nI_lei (by omega) (by omega)).1 h9; omega), if_neg (fun h9 => by have := (nI_lei (by omega) (by omega)).1 h9; omega), c_log h (by omega) (by decide) (by decide), r_log h (by omega) (by decide) (by decide), b_P, Int32.add_zero]
    simp only [b_T, nI_1]
    by_cases hs : b 1 (71 + 6 * i + (0 : Int32).toNatClampNeg) = s
    · rw [if_pos hs, if_pos hs]
      exact ih (i + 1) f (m + 1) (by omega) (by omega) (by omega)
    · rw [if_neg hs, if_neg hs]
      exact ih (i + 1) f m (by omega) (by omega) (by omega)
theorem zl_slow {t : Int} {N : Nat} {a b : Mem} (h : REL t a b) : ∀ (n i fu : Nat) (x : Int32), i + n = CNT (b 1) → n + 1 ≤ fu → (x = -1 ∨ ∃ j, j < i ∧ x = nI j) → ∃ v, f_X1_slowestIndex_4 N 11 a fu x (nI i) = some v ∧ f_X9_slowest_9 N b fu x (nI i) = some (v, b) := by
  have h40 := @CNT_40 (b 1)
  intro n
  induction n with
  | zero =>
    intro i fu x hi hf hx
    obtain ⟨f, rfl⟩ : ∃ f, fu = f + 1 := ⟨fu - 1, by omega⟩
    rw [f_X1_slowestIndex_4_s, f_X9_slowest_9_s, r_many h, b_P, REL_cnt h, if_pos ((nI_lei (by omega) (by omega)).2 (by omega)), if_pos ((nI_lei (by omega) (by omega)).2 (by omega))]
    exact ⟨x, rfl, rfl⟩
  | succ n ih =>
    intro i fu x hi hf hx
    obtain ⟨f, rfl⟩ : ∃ f, fu = f + 1 := ⟨fu - 1, by omega⟩
    have hn : ¬ nI (CNT (b 1)) ≤ nI i := fun h9 => by have := (nI_lei (by omega) (by omega)).1 h9; omega
    rw [f_X1_slowestIndex_4_s, f_X9_slowest_9_s, r_many h, b_P, REL_cnt h, if_neg hn, if_neg hn]
    simp only [b_T, nI_1]
    by_cases hm : x = -1
    · rw [if_pos hm, if_pos hm]
      exact ih (i + 1) f _ (by omega) (by omega) (Or.inr ⟨i, by omega, rfl⟩)
    · rw [if_neg hm, if_neg hm]
      rcases hx with hx | ⟨j, hj, rfl⟩
      · exact absurd hx hm
      · rw [c_log h (by omega) (by decide) (by decide), c_log h (by omega) (by decide) (by decide), r_log h (by omega) (by decide) (by decide), b_P, r_log h (by omega) (by decide) (by decide), b_P]
        by_cases hs : b 1 (71 + 6 * i + (1 : Int32).toNatClampNeg) ≤ b 1 (71 + 6 * j + (1 : Int32).toNatClampNeg)
        · rw [if_pos hs, if_pos hs]
          exact ih (i + 1) f _ (by omega) (by omega) (Or.inr ⟨j, by omega, rfl⟩)
        · rw [if_neg hs, if_neg hs]
          exact ih (i + 1) f _ (by omega) (by omega) (Or.inr ⟨i, by omega, rfl⟩)
theorem an_slowest {t : Int} {N : Nat} {a b : Mem} (hN : 41 ≤ N) (h : REL t a b) : ∃ y b', f_X9_slowest N b = some (y, b') ∧ f_X8_slowest N a = some y ∧ REL t a b' := by
  unfold f_X9_slowest f_X8_slowest f_X1_slowestIndex
  simp only [b_T, Nat.reduceAdd]
  obtain ⟨hr, h00⟩ := @REL_t t a b 0 h
  generalize up2 b 0 0 0 = b0 at hr h00 ⊢
  have h40 := @CNT_40 (b0 1)
  obtain ⟨v, q1, q2⟩ := @zl_slow t N a b0 hr (CNT (b0 1)) 0 N (-1) (by omega) (by omega) (Or.inl rfl)
  rw [nI_0] at q1 q2
  rw [q1, q2, b_P]
  exact ⟨v, b0, rfl, rfl, hr⟩
theorem ag_longest {t : Int} {N : Nat} {a b c : Mem} {p : Int32} (hN : 41 ≤ N) (h : REL t a b) : AGR t (f_L_longest N p a c) (f_X9_longest N p b) := by
  unfold f_L_longest f_X8_longest f_X9_longest f_X1_greatestThink
  simp only [b_T, k_side, q_side, pass1, Nat.reduceAdd]
  by_cases hp : p = 0 ∨ p = 1
  · simp only [hp, reduceIte, i10, bXc_0, b_T2]
    obtain ⟨hr, h00⟩ := @REL_t t a b 0 h
    generalize up2 b 0 0 0 = b0 at hr h00 ⊢
    have h40 := @CNT_40 (b0 1)
    obtain ⟨v, q1, q2⟩ := @zl_long t N a b0 hr p (CNT (b0 1)) 0 N 0 (by omega) (by omega)
    rw [nI_0] at q1 q2
    rw [q1, q2, b_P]
    exact ag_ok rfl rfl hr h00
  · simp only [hp, reduceIte, eq_self, bXc_3, b_T2]
    exact ag_er rfl rfl h (by decide)
theorem ag_gained {t : Int} {N : Nat} {a b c : Mem} {p : Int32} (hN : 41 ≤ N) (h : REL t a b) : AGR t (f_L_gained N p a c) (f_X9_gained N p b) := by
  unfold f_L_gained f_X8_gained f_X9_gained
  simp only [b_T, k_side, q_side, pass1, Nat.reduceAdd]
  by_cases hp : p = 0 ∨ p = 1
  · simp only [hp, reduceIte, i10, bXc_0, b_T2]
    obtain ⟨hr, h00⟩ := @REL_t t a b 0 h
    generalize up2 b 0 0 0 = b0 at hr h00 ⊢
    obtain ⟨v, q1, q2⟩ := @zs_sum t N a b0 hr p 3 hN (by decide) (by decide)
    rw [q1, q2, b_P, b_P]
    exact ag_ok rfl rfl hr h00
  · simp only [hp, reduceIte, eq_self, bXc_3, b_T2]
    exact ag_er rfl rfl h (by decide)
theorem ag_within {t : Int} {N : Nat} {a b c : Mem} {p q : Int32} (hN : 41 ≤ N) (h : REL t a b) : AGR t (f_L_within N p q a c) (f_X9_within N p q b) := by
  have e0 : (0 : Int64).toInt = 0 := rfl
  have e9 : (9999 : Int64).toInt = 9999 := rfl
  unfold f_L_within f_X8_within f_X9_within f_X1_movesWithin
  simp only [b_T, k_side, k_ticks, q_side, q_in, Int32.toInt_toInt64, e0, e9, pass2, Nat.reduceAdd]
  by_cases hp : p = 0 ∨ p = 1
  · simp only [hp, reduceIte, i10, bXc_0]
    by_cases hq : 0 ≤ q.toInt ∧ q.toInt ≤ 9999
    · simp only [hq, and_self, reduceIte, i10, bXc_0, b_T2]
      obtain ⟨hr, h00⟩ := @REL_t t a b 0 h
      generalize up2 b 0 0 0 = b0 at hr h00 ⊢
      have h40 := @CNT_40 (b0 1)
      obtain ⟨v, q1, q2⟩ := @zl_with t N a b0 hr p q (CNT (b0 1)) 0 N 0 (by omega) (by omega)
      rw [nI_0] at q1 q2
      rw [q1, q2, b_P]
      exact ag_ok rfl rfl hr h00
    · simp only [hq, reduceIte, eq_self, bXc_2, b_T2]
      exact ag_er rfl rfl h (by decide)
  · simp only [hp, reduceIte, eq_self, bXc_3, b_T2]
    exact ag_er rfl rfl h (by decide)

