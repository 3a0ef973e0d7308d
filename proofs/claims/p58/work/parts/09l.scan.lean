def STL (N : Nat) (b1 : Mem) : Option Mem := bT (up2 b1 0 15 (b1 0 14)) fun b12 => bP (f_X9_byteAt N (b12 0 14) b12) fun x15 => if x15 = (-1 : Int32) then (bT (up2 b12 0 16 (0 : Int32)) fun b71 => some b71) else (bT (f_X9_in (Int32.toInt64 x15) (97 : Int64) (122 : Int64) b12) fun x19 => if x19 = 0 then (bT (f_X9_in (Int32.toInt64 x15) (48 : Int64) (57 : Int64) b12) fun x23 => if x23 = 0 then (bT (up2 b12 0 16 (3 : Int32)) fun b26 => bT (up2 b26 0 17 x15) fun b28 => bT (up2 b28 0 14 ((b28 0 14) + (1 : Int32))) fun b30 => some b30) else (bT (up2 b12 0 17 (0 : Int32)) fun b32 => bP (f_X9_scan_144 N N b32) fun b51 => bT (up2 b51 0 16 (2 : Int32)) fun b53 => some b53)) else (bP (f_X9_scan_83 N N b12) fun b67 => bT (up2 b67 0 16 (1 : Int32)) fun b69 => some b69))
def BYT (n : Nat) (a b : Mem) : Prop := n ≤ 400 ∧ a 2 1 = nI n ∧ b 0 13 = nI n ∧ ∀ j, j < n → a 3 j = b 4 j ∧ -128 ≤ (b 4 j).toInt ∧ (b 4 j).toInt ≤ 127
def FA (a a1 : Mem) : Prop := (∀ k, k ≠ 1 → a1 k = a k) ∧ ∀ j, j ≠ 7 → j ≠ 8 → j ≠ 9 → j ≠ 10 → a1 1 j = a 1 j
def FB (b b1 : Mem) : Prop := (∀ k, k ≠ 0 → b1 k = b k) ∧ ∀ j, j ≠ 14 → j ≠ 15 → j ≠ 16 → j ≠ 17 → b1 0 j = b 0 j
theorem FA_i {a : Mem} : FA a a := ⟨fun _ _ => rfl, fun _ _ _ _ _ => rfl⟩
theorem FB_i {b : Mem} : FB b b := ⟨fun _ _ => rfl, fun _ _ _ _ _ => rfl⟩
theorem FA_t {a a1 a2 : Mem} (h : FA a a1) (h2 : FA a1 a2) : FA a a2 := ⟨fun k z => (h2.1 k z).trans (h.1 k z), fun j z7 z8 z9 z10 => (h2.2 j z7 z8 z9 z10).trans (h.2 j z7 z8 z9 z10)⟩
theorem FB_t {b b1 b2 : Mem} (h : FB b b1) (h2 : FB b1 b2) : FB b b2 := ⟨fun k z => (h2.1 k z).trans (h.1 k z), fun j z7 z8 z9 z10 => (h2.2 j z7 z8 z9 z10).trans (h.2 j z7 z8 z9 z10)⟩
theorem BYT_fr {n : Nat} {a b a1 b1 : Mem} (hf : FA a a1) (hg : FB b b1) (h : BYT n a b) : BYT n a1 b1 := by
  obtain ⟨h1, h2, h3, h4⟩ := h
  refine ⟨h1, by rw [hf.1 2 (by omega)]; exact h2, by rw [hg.2 13 (by omega) (by omega) (by omega) (by omega)]; exact h3, fun j hj => ?_⟩
  rw [hf.1 3 (by omega), hg.1 4 (by omega)]
  exact h4 j hj
def BYz (b : Mem) (p : Nat) : Nat := (b 4 p &&& 255).toInt.toNat
theorem a255 (x : Int32) : 0 ≤ (x &&& 255).toInt ∧ (x &&& 255).toInt < 256 := by
  have h1 : (x &&& 255).toBitVec.toNat ≤ 255 := by
    show (x.toBitVec &&& 255#32).toNat ≤ 255
    rw [BitVec.toNat_and]
    exact Nat.and_le_right
  have h2 : (x &&& 255).toInt = (x &&& 255).toBitVec.toInt := rfl
  rw [h2, BitVec.toInt_eq_toNat_of_lt (by omega)]
  omega
theorem b_by {b : Mem} {p : Nat} : (b 4 p &&& 255) = nI (BYz b p) ∧ BYz b p < 256 := by
  obtain ⟨h1, h2⟩ := a255 (b 4 p)
  have h3 : BYz b p < 256 := by unfold BYz; omega
  refine ⟨?_, h3⟩
  rw [z_eq, z_nI (by omega)]
  unfold BYz
  omega
theorem b_at {N n p : Nat} {a b : Mem} (h : BYT n a b) (hp : p < n) : f_X0_byteAt (nI p) a = nI (BYz b p) ∧ f_X9_byteAt N (nI p) b = some (nI (BYz b p)) := by
  have e0 : (0 : Int32).toInt = 0 := rfl
  obtain ⟨h1, h2, h3, h4⟩ := h
  unfold f_X0_byteAt f_X9_byteAt
  have q : ¬ nI n ≤ nI p := fun z => by have := (nI_lei (by omega) (by omega)).1 z; omega
  rw [h2, h3, if_neg (show ¬ nI p < 0 by rw [z_lt, z_nI (by omega), e0]; omega), if_neg q, if_neg q, if_neg (show ¬ nI 400 ≤ nI p from fun z => by have := (nI_lei (by omega) (by omega)).1 z; omega), z_cN (by omega) (by omega), z_tN (by omega), (h4 p hp).1, b_by.1]
  exact ⟨rfl, rfl⟩
theorem b_out {N n : Nat} {a b : Mem} (h : BYT n a b) : f_X9_byteAt N (nI n) b = some (-1) := by
  unfold f_X9_byteAt
  rw [h.2.2.1, if_pos (by rw [z_le]; omega)]
def KD (m : Nat) : Nat := if m = 32 ∨ m = 10 then 1 else if 97 ≤ m ∧ m ≤ 122 then 2 else if 48 ≤ m ∧ m ≤ 57 then 3 else 4
theorem k_kd0 : ∀ m, m < 256 → (if nI m = (32 : Int32) then ((1 : Int32)) else (if nI m = (10 : Int32) then ((1 : Int32)) else (if nI m < (97 : Int32) then (f_X3_kindOf_28 (nI m)) else (if (122 : Int32) < nI m then (f_X3_kindOf_28 (nI m)) else ((2 : Int32)))))) = nI (KD m) := by decide +kernel
theorem k_kd {m : Nat} {a : Mem} (h : m < 256) : f_X3_kindOf (nI m) a = nI (KD m) := k_kd0 m h
theorem k_10 : ∀ m, m < 256 → (nI m = 32 ↔ m = 32) ∧ (nI m = 10 ↔ m = 10) ∧ nI m ≠ -1 := by decide +kernel
theorem KD_r (m : Nat) : 1 ≤ KD m ∧ KD m ≤ 4 ∧ (KD m = 1 ↔ m = 32 ∨ m = 10) ∧ (KD m = 2 ↔ 97 ≤ m ∧ m ≤ 122) ∧ (KD m = 3 ↔ 48 ≤ m ∧ m ≤ 57) := by
  unfold KD
  split
  · omega
  · split
    · omega
    · split <;> omega
theorem in_a {m : Nat} {b : Mem} (h : m < 256) : f_X9_in (Int32.toInt64 (nI m)) 97 122 b = if KD m = 2 then 1 else 0 := by
  have e1 : (97 : Int64).toInt = 97 := rfl
  have e2 : (122 : Int64).toInt = 122 := rfl
  rw [q_in, Int32.toInt_toInt64, e1, e2, z_nI (by omega)]
  obtain ⟨-, -, -, h2, -⟩ := KD_r m
  by_cases hk : KD m = 2
  · rw [if_pos hk, if_pos (by omega)]
  · rw [if_neg hk, if_neg (by omega)]
theorem in_0 {m : Nat} {b : Mem} (h : m < 256) : f_X9_in (Int32.toInt64 (nI m)) 48 57 b = if KD m = 3 then 1 else 0 := by
  have e1 : (48 : Int64).toInt = 48 := rfl
  have e2 : (57 : Int64).toInt = 57 := rfl
  rw [q_in, Int32.toInt_toInt64, e1, e2, z_nI (by omega)]
  obtain ⟨-, -, -, -, h2⟩ := KD_r m
  by_cases hk : KD m = 3
  · rw [if_pos hk, if_pos (by omega)]
  · rw [if_neg hk, if_neg (by omega)]
theorem in_m1 {b : Mem} : f_X9_in (Int32.toInt64 (-1 : Int32)) 97 122 b = 0 ∧ f_X9_in (Int32.toInt64 (-1 : Int32)) 48 57 b = 0 := by
  rw [q_in, q_in]
  exact ⟨if_neg (by decide), if_neg (by decide)⟩
theorem nI_inj2 {x y : Nat} (hx : x < 2147483648) (hy : y < 2147483648) : nI x = nI y ↔ x = y := by
  rw [z_eq, z_nI hx, z_nI hy]
  omega
theorem sc_word {N n : Nat} : ∀ (d p fu fu' : Nat) (a b : Mem), BYT n a b → p + d = n → a 1 9 = nI p → a 1 7 = 2 → b 0 14 = nI p → d + 1 ≤ fu → d + 1 ≤ fu' → ∃ (e : Nat) (a1 b1 : Mem), p ≤ e ∧ e ≤ n ∧ (p < n → KD (BYz b p) = 2 → p < e) ∧ f_X3_readToken_138 N fu a = some a1 ∧ f_X9_scan_83 N fu' b = some b1 ∧ FA a a1 ∧ FB b b1 ∧ a1 1 9 = nI e ∧ b1 0 14 = nI e ∧ a1 1 7 = 2 ∧ a1 1 8 = a 1 8 ∧ b1 0 15 = b 0 15 := by
  intro d
  induction d with
  | zero =>
    intro p fu fu' a b h hp h9 h7 h14 hf hf'
    obtain ⟨f, rfl⟩ : ∃ f, fu = f + 1 := ⟨fu - 1, by omega⟩
    obtain ⟨f', rfl⟩ : ∃ f, fu' = f + 1 := ⟨fu' - 1, by omega⟩
    have hpn : p = n := by omega
    subst hpn
    rw [f_X3_readToken_138_s, f_X9_scan_83_s, h14, b_out h, b_P]
    simp only [b_T]
    rw [in_m1.1, if_pos rfl, h9, h.2.1, if_pos (by rw [z_le]; omega)]
    exact ⟨p, a, b, by omega, by omega, fun z => absurd z (by omega), rfl, rfl, FA_i, FB_i, h9, h14, h7, rfl, rfl⟩
  | succ d ih =>
    intro p fu fu' a b h hp h9 h7 h14 hf hf'
    obtain ⟨f, rfl⟩ : ∃ f, fu = f + 1 := ⟨fu - 1, by omega⟩
    obtain ⟨f', rfl⟩ : ∃ f, fu' = f + 1 := ⟨fu' - 1, by omega⟩
    have hn4 := h.1
    obtain ⟨q1, q2⟩ := @b_at N n p a b h (by omega)
    have hb := (@b_by b p).2
    obtain ⟨k1, k2, -⟩ := KD_r (BYz b p)
    rw [f_X3_readToken_138_s, f_X9_scan_83_s, h14, q2, b_P]
    simp only [b_T]
    rw [in_a hb, h9, h.2.1, if_neg (show ¬ nI n ≤ nI p from fun z => by have := (nI_lei (by omega) (by omega)).1 z; omega), q1, k_kd hb, h7]
    by_cases hk : KD (BYz b p) = 2
    · rw [if_pos hk, if_neg (show ¬ (1 : Int32) = 0 by decide), hk, if_pos (show nI 2 = (2 : Int32) from rfl), if_neg (show ¬ (2 : Int32) = 3 by decide), nI_1]
      have fa : FA a (up2 a 1 9 (nI (p + 1))) := ⟨fun k z => p2_n z, fun j z7 z8 z9 z10 => by rw [p2_s, u_n z9]⟩
      have fb : FB b (up2 b 0 14 (nI (p + 1))) := ⟨fun k z => p2_n z, fun j z7 z8 z9 z10 => by rw [p2_s, u_n z7]⟩
      obtain ⟨e, a1, b1, l1, l2, -, r1, r2, f1, f2, v1, v2, v3, v4, v5⟩ := ih (p + 1) f f' _ _ (BYT_fr fa fb h) (by omega) (by rw [p2_s, u_s]) (by rw [p2_s, u_n (by omega)]; exact h7) (by rw [p2_s, u_s]) (by omega) (by omega)
      exact ⟨e, a1, b1, by omega, l2, fun _ _ => by omega, r1, r2, FA_t fa f1, FB_t fb f2, v1, v2, v3, by rw [v4, p2_s, u_n (by omega)], by rw [v5, p2_s, u_n (by omega)]⟩
    · rw [if_neg hk, if_pos rfl, if_neg (show ¬ nI (KD (BYz b p)) = (2 : Int32) from fun z => hk ((nI_inj2 (by omega) (by omega)).1 z))]
      exact ⟨p, a, b, by omega, by omega, fun _ z => absurd z hk, rfl, rfl, FA_i, FB_i, h9, h14, h7, rfl, rfl⟩
theorem dig_c {x m : Nat} (h1 : 48 ≤ m) (h2 : m ≤ 57) : mnI ((((10 : Int32) * nI (min x 1000000)) + nI m) - (48 : Int32)) (1000000 : Int32) = nI (min (10 * x + (m - 48)) 1000000) := by
  have e10 : (10 : Int32).toInt = 10 := rfl
  have e48 : (48 : Int32).toInt = 48 := rfl
  have e6 : (1000000 : Int32).toInt = 1000000 := rfl
  have ex : (nI (min x 1000000)).toInt = ((min x 1000000 : Nat) : Int) := z_nI (by omega)
  have em : (nI m).toInt = m := z_nI (by omega)
  have g1 : ((10 : Int32) * nI (min x 1000000)).toInt = 10 * ((min x 1000000 : Nat) : Int) := by rw [z_mul (by rw [e10, ex]; omega) (by rw [e10, ex]; omega), e10, ex]
  have g2 : (((10 : Int32) * nI (min x 1000000)) + nI m).toInt = 10 * ((min x 1000000 : Nat) : Int) + m := by rw [z_add (by rw [g1, em]; omega) (by rw [g1, em]; omega), g1, em]
  have g3 : ((((10 : Int32) * nI (min x 1000000)) + nI m) - (48 : Int32)).toInt = 10 * ((min x 1000000 : Nat) : Int) + m - 48 := by rw [z_sub (by rw [g2, e48]; omega) (by rw [g2, e48]; omega), g2, e48]
  rw [z_eq, z_mn, g3, e6, z_nI (by omega)]
  omega
theorem dig_r {x m : Nat} (h1 : 48 ≤ m) (h2 : m ≤ 57) : mnI (999999 : Int32) ((((10 : Int32) * nI (min x 999999)) + nI m) - (48 : Int32)) = nI (min (10 * x + (m - 48)) 999999) := by
  have e10 : (10 : Int32).toInt = 10 := rfl
  have e48 : (48 : Int32).toInt = 48 := rfl
  have e6 : (999999 : Int32).toInt = 999999 := rfl
  have ex : (nI (min x 999999)).toInt = ((min x 999999 : Nat) : Int) := z_nI (by omega)
  have em : (nI m).toInt = m := z_nI (by omega)
  have g1 : ((10 : Int32) * nI (min x 999999)).toInt = 10 * ((min x 999999 : Nat) : Int) := by rw [z_mul (by rw [e10, ex]; omega) (by rw [e10, ex]; omega), e10, ex]
  have g2 : (((10 : Int32) * nI (min x 999999)) + nI m).toInt = 10 * ((min x 999999 : Nat) : Int) + m := by rw [z_add (by rw [g1, em]; omega) (by rw [g1, em]; omega), g1, em]
  have g3 : ((((10 : Int32) * nI (min x 999999)) + nI m) - (48 : Int32)).toInt = 10 * ((min x 999999 : Nat) : Int) + m - 48 := by rw [z_sub (by rw [g2, e48]; omega) (by rw [g2, e48]; omega), g2, e48]
  rw [z_eq, z_mn, g3, e6, z_nI (by omega)]
  omega
theorem sc_num {N n : Nat} : ∀ (d p x fu fu' : Nat) (a b : Mem), BYT n a b → p + d = n → a 1 9 = nI p → a 1 7 = 3 → a 1 10 = nI (min x 1000000) → b 0 14 = nI p → b 0 17 = nI (min x 999999) → d + 1 ≤ fu → d + 1 ≤ fu' → ∃ (e y : Nat) (a1 b1 : Mem), p ≤ e ∧ e ≤ n ∧ (p < n → KD (BYz b p) = 3 → p < e) ∧ f_X3_readToken_138 N fu a = some a1 ∧ f_X9_scan_144 N fu' b = some b1 ∧ FA a a1 ∧ FB b b1 ∧ a1 1 9 = nI e ∧ b1 0 14 = nI e ∧ a1 1 7 = 3 ∧ a1 1 8 = a 1 8 ∧ b1 0 15 = b 0 15 ∧ a1 1 10 = nI (min y 1000000) ∧ b1 0 17 = nI (min y 999999) := by
  intro d
  induction d with
  | zero =>
    intro p x fu fu' a b h hp h9 h7 h10 h14 h17 hf hf'
    obtain ⟨f, rfl⟩ : ∃ f, fu = f + 1 := ⟨fu - 1, by omega⟩
    obtain ⟨f', rfl⟩ : ∃ f, fu' = f + 1 := ⟨fu' - 1, by omega⟩
    have hpn : p = n := by omega
    subst hpn
    rw [f_X3_readToken_138_s, f_X9_scan_144_s, h14, b_out h, b_P]
    simp only [b_T]
    rw [in_m1.2, if_pos rfl, h9, h.2.1, if_pos (by rw [z_le]; omega)]
    exact ⟨p, x, a, b, by omega, by omega, fun z => absurd z (by omega), rfl, rfl, FA_i, FB_i, h9, h14, h7, rfl, rfl, h10, h17⟩
  | succ d ih =>
    intro p x fu fu' a b h hp h9 h7 h10 h14 h17 hf hf'
    obtain ⟨f, rfl⟩ : ∃ f, fu = f + 1 := ⟨fu - 1, by omega⟩
    obtain ⟨f', rfl⟩ : ∃ f, fu' = f + 1 := ⟨fu' - 1, by omega⟩
    have hn4 := h.1
    obtain ⟨q1, q2⟩ := @b_at N n p a b h (by omega)
    have hb := (@b_by b p).2
    obtain ⟨k1, k2, -, -, k5⟩ := KD_r (BYz b p)
    rw [f_X3_readToken_138_s, f_X9_scan_144_s, h14, q2, b_P]
    simp only [b_T]
    rw [in_0 hb, h9, h.2.1, if_neg (show ¬ nI n ≤ nI p from fun z => by have := (nI_lei (by omega) (by omega)).1 z; omega), q1, k_kd hb, h7]
    by_cases hk : KD (BYz b p) = 3
    · obtain ⟨m1, m2⟩ := k5.1 hk
      rw [if_pos hk, if_neg (show ¬ (1 : Int32) = 0 by decide), hk, if_pos (show nI 3 = (3 : Int32) from rfl), if_pos rfl, b_P, h10, h17, dig_c m1 m2, dig_r m1 m2]
      have g9 : up2 a 1 10 (nI (min (10 * x + (BYz b p - 48)) 1000000)) 1 9 + (1 : Int32) = nI (p + 1) := by rw [p2_s, u_n (by omega), h9, nI_1]
      have g14 : up2 b 0 17 (nI (min (10 * x + (BYz b p - 48)) 999999)) 0 14 + (1 : Int32) = nI (p + 1) := by rw [p2_s, u_n (by omega), h14, nI_1]
      rw [g9, g14]
      have fa : FA a (up2 (up2 a 1 10 (nI (min (10 * x + (BYz b p - 48)) 1000000))) 1 9 (nI (p + 1))) := ⟨fun k z => by rw [p2_n z, p2_n z], fun j z7 z8 z9 z10 => by rw [p2_s, u_n z9, p2_s, u_n z10]⟩
      have fb : FB b (up2 (up2 b 0 17 (nI (min (10 * x + (BYz b p - 48)) 999999))) 0 14 (nI (p + 1))) := ⟨fun k z => by rw [p2_n z, p2_n z], fun j z7 z8 z9 z10 => by rw [p2_s, u_n z7, p2_s, u_n z10]⟩
      obtain ⟨e, y, a1, b1, l1, l2, -, r1, r2, f1, f2, v1, v2, v3, v4, v5, v6, v7⟩ := ih (p + 1) (10 * x + (BYz b p - 48)) f f' _ _ (BYT_fr fa fb h) (by omega) (by rw [p2_s, u_s]) (by rw [p2_s, u_n (by omega), p2_s, u_n (by omega)]; exact h7) (by rw [p2_s, u_n (by omega), p2_s, u_s]) (by rw [p2_s, u_s]) (by rw [p2_s, u_n (by omega), p2_s, u_s]) (by omega) (by omega)
      exact ⟨e, y, a1, b1, by omega, l2, fun _ _ => by omega, r1, r2, FA_t fa f1, FB_t fb f2, v1, v2, v3, by rw [v4, p2_s, u_n (by omega), p2_s, u_n (by omega)], by rw [v5, p2_s, u_n (by omega), p2_s, u_n (by omega)], v6, v7⟩
    · rw [if_neg hk, if_pos rfl, if_neg (show ¬ nI (KD (BYz b p)) = (3 : Int32) from fun z => hk ((nI_inj2 (by omega) (by omega)).1 z))]
      exact ⟨p, x, a, b, by omega, by omega, fun _ z => absurd z hk, rfl, rfl, FA_i, FB_i, h9, h14, h7, rfl, rfl, h10, h17⟩

