theorem sh_bits {x : BitVec 32} {k : Nat} (hk : k ≤ 24) : (x >>> k).signExtend 8 = (x.sshiftRight k).signExtend 8 := by
  apply BitVec.eq_of_getLsbD_eq_iff.2
  intro i hi
  rw [BitVec.getLsbD_signExtend, BitVec.getLsbD_signExtend, BitVec.getLsbD_ushiftRight, BitVec.getLsbD_sshiftRight]
  simp [show i < 32 by omega, show k + i < 32 by omega, show ¬ 32 ≤ i by omega]
theorem sh_24 (p : Int32) : Int32.toInt8 (((p).toUInt32 >>> ((24 : Int32).toUInt32 &&& Int32.toUInt32 31)).toInt32) = Int32.toInt8 (p >>> ((24 : Int32) &&& 31)) := Int8.toBitVec.inj (sh_bits (x := p.toBitVec) (k := 24) (by omega))
theorem sh_16 (p : Int32) : Int32.toInt8 (((p).toUInt32 >>> ((16 : Int32).toUInt32 &&& Int32.toUInt32 31)).toInt32) = Int32.toInt8 (p >>> ((16 : Int32) &&& 31)) := Int8.toBitVec.inj (sh_bits (x := p.toBitVec) (k := 16) (by omega))
theorem sh_8 (p : Int32) : Int32.toInt8 (((p).toUInt32 >>> ((8 : Int32).toUInt32 &&& Int32.toUInt32 31)).toInt32) = Int32.toInt8 (p >>> ((8 : Int32) &&& 31)) := Int8.toBitVec.inj (sh_bits (x := p.toBitVec) (k := 8) (by omega))
theorem sh_0 (p : Int32) : Int32.toInt8 (((p).toUInt32 >>> ((0 : Int32).toUInt32 &&& Int32.toUInt32 31)).toInt32) = Int32.toInt8 (p >>> ((0 : Int32) &&& 31)) := Int8.toBitVec.inj (sh_bits (x := p.toBitVec) (k := 0) (by omega))
theorem nar_rng (x : Int32) : -128 ≤ (vp_nar .byte x).toInt ∧ (vp_nar .byte x).toInt ≤ 127 := by
  show -128 ≤ (x.toInt8.toInt32).toInt ∧ (x.toInt8.toInt32).toInt ≤ 127
  rw [Int8.toInt_toInt32]
  have h1 : x.toInt8.toInt < 128 := x.toInt8.toInt_lt
  have h2 : -128 ≤ x.toInt8.toInt := x.toInt8.le_toInt
  omega
def INPn (n : Nat) (a b : Mem) : Prop := a 2 1 = nI n ∧ b 0 12 = nI n ∧ ∀ j, j < n → a 3 j = b 4 j ∧ -128 ≤ (b 4 j).toInt ∧ (b 4 j).toInt ≤ 127
def FRI (a a1 : Mem) : Prop := (∀ k, k ≠ 2 → k ≠ 3 → a1 k = a k) ∧ ∀ j, j ≠ 1 → a1 2 j = a 2 j
def FRJ (b b1 : Mem) : Prop := (∀ k, k ≠ 0 → k ≠ 4 → b1 k = b k) ∧ ∀ j, j ≠ 12 → b1 0 j = b 0 j
theorem FRI_t {a a1 a2 : Mem} (h : FRI a a1) (h2 : FRI a1 a2) : FRI a a2 := ⟨fun k z2 z3 => (h2.1 k z2 z3).trans (h.1 k z2 z3), fun j z => (h2.2 j z).trans (h.2 j z)⟩
theorem FRJ_t {a a1 a2 : Mem} (h : FRJ a a1) (h2 : FRJ a1 a2) : FRJ a a2 := ⟨fun k z2 z3 => (h2.1 k z2 z3).trans (h.1 k z2 z3), fun j z => (h2.2 j z).trans (h.2 j z)⟩
theorem four_step {N fu n : Nat} {p x : Int32} {a b : Mem} (hx : 0 ≤ x.toInt) (hsh : Int32.toInt8 (((p).toUInt32 >>> ((x).toUInt32 &&& Int32.toUInt32 31)).toInt32) = Int32.toInt8 (p >>> (x &&& 31))) (hn : n < 400) (h : INPn n a b) : ∃ a1 b1, f_X0_addFour_3 N p (fu + 1) x a = f_X0_addFour_3 N p fu (x + (-8 : Int32)) a1 ∧ f_X9_appendFour_3 N p (fu + 1) x b = f_X9_appendFour_3 N p fu (x + (-8 : Int32)) b1 ∧ INPn (n + 1) a1 b1 ∧ FRI a a1 ∧ FRJ b b1 := by
  have e0 : (0 : Int32).toInt = 0 := rfl
  obtain ⟨h1, h2, h3⟩ := h
  have en : (nI n).toInt = n := z_nI (by omega)
  have hx0 : ¬ x < 0 := by rw [z_lt, e0]; omega
  have hn0 : ¬ nI n < 0 := by rw [z_lt, e0, en]; omega
  have hn4 : ¬ nI 400 ≤ nI n := fun h9 => by have := (nI_lei (by omega) (by omega)).1 h9; omega
  rw [f_X0_addFour_3_s, f_X9_appendFour_3_s, if_neg hx0, if_neg hx0, h1, h2, if_neg hn0, if_neg hn4, z_cN hn (by omega), hsh, z_tN (by omega)]
  simp only [b_T]
  generalize hv : vp_nar .byte ((Int32.toInt8 (p >>> (x &&& 31))).toInt32) = v
  have hvr := nar_rng ((Int32.toInt8 (p >>> (x &&& 31))).toInt32)
  rw [hv] at hvr
  have ea : upR a 3 (upd (a 3) n v) 2 1 + (1 : Int32) = nI (n + 1) := by rw [R_n (by omega), h1, nI_1]
  have eb : upR b 4 (upd (b 4) n v) 0 12 + (1 : Int32) = nI (n + 1) := by rw [R_n (by omega), h2, nI_1]
  rw [ea, eb]
  refine ⟨_, _, rfl, rfl, ⟨by rw [p2_s, u_s], by rw [p2_s, u_s], fun j hj => ?_⟩, ⟨fun k z2 z3 => by rw [p2_n z2, R_n z3], fun j z => by rw [p2_s, u_n z, R_n (by omega)]⟩, ⟨fun k z0 z4 => by rw [p2_n z0, R_n z4], fun j z => by rw [p2_s, u_n z, R_n (by omega)]⟩⟩
  rw [p2_n (by omega), R_s, p2_n (by omega), R_s]
  by_cases hjn : j = n
  · subst hjn
    rw [u_s, u_s]
    exact ⟨rfl, hvr.1, hvr.2⟩
  · rw [u_n hjn, u_n hjn]
    exact h3 j (by omega)
theorem both_four {N n : Nat} {p : Int32} {a b : Mem} (hN : 6 ≤ N) (hn : n + 4 ≤ 400) (h : INPn n a b) : ∃ a1 b1, f_X0_addFour N p a = some a1 ∧ f_X9_appendFour N p b = some b1 ∧ INPn (n + 4) a1 b1 ∧ FRI a a1 ∧ FRJ b b1 := by
  obtain ⟨f, rfl⟩ : ∃ f, N = f + 5 := ⟨N - 5, by omega⟩
  unfold f_X0_addFour f_X9_appendFour
  generalize hM : f + 5 = M
  have hfu : ∀ y : Nat, M = f + 5 := fun _ => hM.symm
  obtain ⟨a1, b1, p1, q1, i1, r1, s1⟩ := @four_step M (f + 4) n p 24 a b (by decide) (sh_24 p) (by omega) h
  obtain ⟨a2, b2, p2', q2, i2, r2, s2⟩ := @four_step M (f + 3) (n + 1) p 16 a1 b1 (by decide) (sh_16 p) (by omega) i1
  obtain ⟨a3, b3, p3, q3, i3, r3, s3⟩ := @four_step M (f + 2) (n + 2) p 8 a2 b2 (by decide) (sh_8 p) (by omega) i2
  obtain ⟨a4, b4, p4, q4, i4, r4, s4⟩ := @four_step M (f + 1) (n + 3) p 0 a3 b3 (by decide) (sh_0 p) (by omega) i3
  have k1 : (24 : Int32) + (-8 : Int32) = 16 := by decide
  have k2 : (16 : Int32) + (-8 : Int32) = 8 := by decide
  have k3 : (8 : Int32) + (-8 : Int32) = 0 := by decide
  have k4 : (0 : Int32) + (-8 : Int32) = -8 := by decide
  rw [k1] at p1 q1
  rw [k2] at p2' q2
  rw [k3] at p3 q3
  rw [k4] at p4 q4
  refine ⟨a4, b4, ?_, ?_, i4, FRI_t r1 (FRI_t r2 (FRI_t r3 r4)), FRJ_t s1 (FRJ_t s2 (FRJ_t s3 s4))⟩
  · have : f_X0_addFour_3 M p M 24 a = f_X0_addFour_3 M p (f + 4 + 1) 24 a := by rw [hfu 0]
    rw [this, p1, p2', p3, p4, f_X0_addFour_3_s, if_pos (by decide)]
  · have : f_X9_appendFour_3 M p M 24 b = f_X9_appendFour_3 M p (f + 4 + 1) 24 b := by rw [hfu 0]
    rw [this, q1, q2, q3, q4, f_X9_appendFour_3_s, if_pos (by decide)]
theorem REL_inp {t : Int} {n : Nat} {a b a1 b1 : Mem} (hn : n ≤ 400) (h : REL t a b) (hi : INPn n a1 b1) (hf : FRI a a1) (hg : FRJ b b1) : REL t a1 b1 := by
  obtain ⟨hb3, hs, hv, ⟨m, x, hm, hx, p1, p2, p3, p4, p5⟩, hsl, -, hp, ho⟩ := h
  have fk : ∀ k, k ≠ 2 → k ≠ 3 → a1 k = a k := hf.1
  refine ⟨by rw [hg.2 3 (by omega)]; exact hb3, by rw [hg.1 1 (by omega) (by omega)]; exact StP_fr (fun k1 q1 q2 => fk k1 (by omega) (by omega)) hs, by rw [hg.1 1 (by omega) (by omega)]; exact hv, ⟨m, x, hm, hx, by rw [fk 0 (by omega) (by omega)]; exact p1, by rw [fk 0 (by omega) (by omega)]; exact p2, by rw [hg.2 27 (by omega)]; exact p3, fun j hj => WS_fr (fk _ (by unfold pastR; omega) (by unfold pastR; omega)) (p4 j hj), fun j hj => ?_⟩, fun i hi => ?_, ⟨n, hn, hi⟩, ?_, ?_⟩
  · rw [hg.1 7 (by omega) (by omega)]
    exact ⟨StP_fr (fun k1 q1 q2 => fk k1 (by unfold pastR at q1; omega) (by unfold pastR at q1; omega)) (p5 j hj).1, (p5 j hj).2⟩
  · rw [hg.1 6 (by omega) (by omega), hg.1 5 (by omega) (by omega)]
    have hkk : ∀ k1, slotR i ≤ k1 → k1 < slotR i + 9 → a1 k1 = a k1 := fun k1 q1 q2 => fk k1 (by unfold slotR at q1; omega) (by unfold slotR at q1; omega)
    exact ⟨WS_fr (hkk _ (by omega) (by omega)) (hsl i hi).1, by rw [hkk _ (by omega) (by omega)]; exact (hsl i hi).2.1, fun hb => ⟨StP_fr hkk ((hsl i hi).2.2 hb).1, ((hsl i hi).2.2 hb).2⟩⟩
  · unfold PRS at hp ⊢
    rw [fk 1 (by omega) (by omega), hg.2 18 (by omega), hg.2 19 (by omega)]
    exact hp
  · unfold OUTP at ho ⊢
    rw [fk 6 (by omega) (by omega), fk 7 (by omega) (by omega), hg.1 8 (by omega) (by omega), hg.2 29 (by omega)]
    exact ho
theorem ag_append {t : Int} {N : Nat} {a b c : Mem} {p0 p1 p2 p3 p4 : Int32} (hN : 6 ≤ N) (h : REL t a b) : AGR t (f_L_append N p0 p1 p2 p3 p4 a c) (f_X9_append N p0 p1 p2 p3 p4 b) := by
  obtain ⟨n, hn, i1, i2, i3⟩ := h.2.2.2.2.2.1
  have e20 : (20 : Int32).toInt = 20 := rfl
  have e400 : (400 : Int32).toInt = 400 := rfl
  have en : (nI n).toInt = n := z_nI (by omega)
  have ea : (nI n + (20 : Int32)).toInt = n + 20 := by rw [z_add (by rw [en, e20]; omega) (by rw [en, e20]; omega), en, e20]
  unfold f_L_append f_X8_append f_X9_append f_X9_append_19
  simp only [pass1]
  rw [i1, i2]
  by_cases hf : n + 20 ≤ 400
  · rw [if_pos (show nI n + 20 ≤ 400 by rw [z_le, ea, e400]; omega), if_neg (show ¬ (400 : Int32) < nI n + 20 by rw [z_lt, ea, e400]; omega), if_neg (show ¬ (1 : Int32) = 0 by decide)]
    simp only [b_T2, i10, reduceIte]
    obtain ⟨hr, h00⟩ := @REL_t t a b 0 h
    have hi0 : INPn n a (up2 b 0 0 0) := ⟨i1, by rw [p2_s, u_n (by omega)]; exact i2, fun j hj => by rw [p2_n (by omega)]; exact i3 j hj⟩
    generalize up2 b 0 0 0 = b0 at hr h00 hi0 ⊢
    obtain ⟨a1, b1, s1, t1, u1, v1, w1⟩ := @both_four N n p0 a b0 hN (by omega) hi0
    obtain ⟨a2, b2, s2, t2, u2, v2, w2⟩ := @both_four N (n + 4) p1 a1 b1 hN (by omega) u1
    obtain ⟨a3, b3, s3, t3, u3, v3, w3⟩ := @both_four N (n + 8) p2 a2 b2 hN (by omega) u2
    obtain ⟨a4, b4, s4, t4, u4, v4, w4⟩ := @both_four N (n + 12) p3 a3 b3 hN (by omega) u3
    obtain ⟨a5, b5, s5, t5, u5, v5, w5⟩ := @both_four N (n + 16) p4 a4 b4 hN (by omega) u4
    rw [s1, b_P, s2, b_P, s3, b_P, s4, b_P, s5, b_P, t1, b_P, t2, b_P, t3, b_P, t4, b_P, t5, b_P, u5.1, u5.2.1]
    have fa := FRI_t v1 (FRI_t v2 (FRI_t v3 (FRI_t v4 v5)))
    have fb := FRJ_t w1 (FRJ_t w2 (FRJ_t w3 (FRJ_t w4 w5)))
    exact ag_ok rfl rfl (REL_inp (by omega) hr u5 fa fb) (by rw [fb.2 0 (by omega), h00])
  · rw [if_neg (show ¬ nI n + 20 ≤ 400 by rw [z_le, ea, e400]; omega), if_pos (show (400 : Int32) < nI n + 20 by rw [z_lt, ea, e400]; omega)]
    simp only [b_T2, reduceIte]
    exact ag_er rfl rfl h (by decide)
theorem an_truncate {t : Int} {a b c : Mem} {p : Int32} (h : REL t a b) : ∃ x a', f_L_truncate p a c = some (x, a', c) ∧ REL t a' (f_X9_truncate p b) ∧ f_X9_truncate p b 0 0 = x := by
  obtain ⟨n, hn, i1, i2, i3⟩ := h.2.2.2.2.2.1
  have e0 : (0 : Int32).toInt = 0 := rfl
  have l0 : (0 : Int64).toInt = 0 := rfl
  have en : (nI n).toInt = n := z_nI (by omega)
  unfold f_L_truncate f_X8_truncate f_X9_truncate
  simp only [b_T, pass1, q_in, Int32.toInt_toInt64, l0]
  rw [i1, i2, en]
  by_cases hp : 0 ≤ p.toInt ∧ p.toInt ≤ n
  · rw [if_neg (show ¬ p < 0 by rw [z_lt, e0]; omega), if_pos (show p ≤ nI n by rw [z_le, en]; omega), if_pos hp, if_neg (show ¬ (1 : Int32) = 0 by decide)]
    simp only [b_T2, i10, reduceIte]
    obtain ⟨hr, h00⟩ := @REL_t t a b 0 h
    have hb4 : ∀ j, up2 b 0 0 0 4 j = b 4 j := fun j => by rw [p2_n (by omega)]
    generalize up2 b 0 0 0 = b0 at hr h00 hb4 ⊢
    have hpn : p = nI p.toNatClampNeg := (z_of hp.1).symm
    have hpl : p.toNatClampNeg ≤ n := by rw [z_tn]; omega
    refine ⟨0, _, rfl, REL_inp (n := p.toNatClampNeg) (by omega) hr ⟨by rw [p2_s, u_s]; exact hpn, by rw [p2_s, u_s]; exact hpn, fun j hj => by rw [p2_n (by omega), p2_n (by omega), hb4]; exact i3 j (by omega)⟩ ⟨fun k z2 z3 => p2_n z2, fun j z => by rw [p2_s, u_n z]⟩ ⟨fun k z0 z4 => p2_n z0, fun j z => by rw [p2_s, u_n z]⟩, by rw [p2_s, u_n (by omega), h00]⟩
  · have e : (if p < 0 then (some (.error 2) : Option (Except Nat Mem)) else if p ≤ nI n then some (.ok (up2 a 2 1 p)) else some (.error 2)) = some (.error 2) := by
      by_cases z1 : p < 0
      · rw [if_pos z1]
      · have z2 := z_nlt z1
        rw [if_neg z1, if_neg (by rw [z_le, en]; omega)]
    rw [e, if_neg hp, if_pos rfl]
    simp only [b_T2, reduceIte]
    exact ⟨1, a, rfl, (REL_t h).1, (REL_t h).2⟩

