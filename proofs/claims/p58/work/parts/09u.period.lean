theorem p_fld {c : Nat} {o w : Nat} {x : Int32} (hc : c ≤ 5) (ho : o ≤ 40) (hw : w < 5) (hx : x = nI (o + 5 * c)) : x + nI w = nI (o + 5 * c + w) := by
  rw [hx, z_eq, z_add (by rw [z_nI (by omega), z_nI (by omega)]; omega) (by rw [z_nI (by omega), z_nI (by omega)]; omega), z_nI (by omega), z_nI (by omega), z_nI (by omega)]
  omega
theorem c5_m {c : Nat} (hc : c ≤ 5) : nI c * (5 : Int32) = nI (0 + 5 * c) ∧ (12 : Int32) + ((5 : Int32) * nI c) = nI (12 + 5 * c) := by
  have e5 : (5 : Int32).toInt = 5 := rfl
  have e12 : (12 : Int32).toInt = 12 := rfl
  have g1 : ((5 : Int32) * nI c).toInt = 5 * c := by rw [z_mul (by rw [e5, z_nI (by omega)]; omega) (by rw [e5, z_nI (by omega)]; omega), e5, z_nI (by omega)]
  refine ⟨?_, ?_⟩
  · rw [z_eq, z_mul (by rw [e5, z_nI (by omega)]; omega) (by rw [e5, z_nI (by omega)]; omega), e5, z_nI (by omega), z_nI (by omega)]
    omega
  · rw [z_eq, z_add (by rw [e12, g1]; omega) (by rw [e12, g1]; omega), e12, g1, z_nI (by omega)]
    omega
theorem set_n {c w : Nat} {x : Int32} {a : Mem} (hc : c < 5) (hw : w < 5) : f_X4_setNumber 4 (nI c) (nI w) x a = upR a 5 (upd (a 5) (5 * c + w) x) := by
  unfold f_X4_setNumber
  rw [b_T, (c5_m (by omega)).1, p_fld (c := c) (o := 0) (by omega) (by omega) hw rfl, z_put (by rw [z_nI (by omega)]; omega) (by rw [z_nI (by omega)]; omega), z_tN (by omega)]
  have : 0 + 5 * c + w = 5 * c + w := by omega
  rw [this]
theorem PG_set {n e : Nat} {p w x : Int32} {a b : Mem} (h : PGz n e a b) : PGz n e (f_X4_setNumber 4 p w x a) b := by
  unfold f_X4_setNumber
  rw [b_T]
  exact PG_fr (R_n (by omega)) (R_n (by omega)) rfl (fun j _ _ => by rw [R_n (by omega)]) (fun _ _ _ => rfl) h
theorem set_f {p w x : Int32} {a : Mem} {k : Nat} (h : k ≠ 5) : f_X4_setNumber 4 p w x a k = a k := by
  unfold f_X4_setNumber
  rw [b_T, R_n h]
theorem op2 {N c w : Nat} {b : Mem} (h : b 0 3 = 1) (hc : c ≤ 5) (hw : w < 5) : f_X9_ofPeriod N (nI c) (nI w) b = some (b 2 (12 + 5 * c + w)) := by
  unfold f_X9_ofPeriod
  rw [(c5_m hc).2, p_fld (c := c) (o := 12) hc (by omega) hw rfl, z_cN (by omega) (by omega), row2 h, z_tN (by omega)]
def CP43 (N : Nat) (x1 : Int32) (a3 : Mem) : Option Mem := f_X3_readPeriod_43 N x1 a3
theorem p_43 {N n e c : Nat} {q x1 : Int32} {a b : Mem} (hN : 402 ≤ N) (hw : a 1 5 = 0 → f_X3_isWord N 0 a = some 1) (hq : f_X9_errsIf q 4 b = b) (hc : a 1 5 = 0 → c < 5 ∧ x1 = nI c ∧ a 4 1 = nI c ∧ b 2 2 = nI c) (hb3 : b 0 3 = 1) (h : PGz n e a b) : ∃ (e1 : Nat) (a1 b1 : Mem) (v : Nat → Int32), f_X3_readPeriod_43 N x1 a = some a1 ∧ f_X9_parsePeriod_47 N x1 b q = some b1 ∧ PGz n e1 a1 b1 ∧ b1 0 3 = 1 ∧ FRC a a1 ∧ FRR b b1 ∧ (a1 1 5 = 0 → a 1 5 = 0 ∧ (a1 1 7 = 0 ∨ e + 1 ≤ e1) ∧ (∀ j, j < 5 → a1 1 j = a 1 j) ∧ (∀ j, j ≠ 1 → a1 4 j = a 4 j) ∧ a1 4 1 = nI (c + 1) ∧ (∀ j, a1 5 j = if 5 * c ≤ j ∧ j < 5 * c + 5 then v (j - 5 * c) else a 5 j) ∧ (∀ j, j < 311 → b1 2 j = if j = 2 then nI (c + 1) else if 12 + 5 * c ≤ j ∧ j < 12 + 5 * c + 5 then v (j - (12 + 5 * c)) else b 2 j) ∧ (∀ j, (j = 20 ∨ j = 21 ∨ j = 22 ∨ j = 23) → b1 0 j = b 0 j) ∧ (0 ≤ (v 0).toInt ∧ (v 0).toInt ≤ 60) ∧ (1 ≤ (v 1).toInt ∧ (v 1).toInt ≤ 99999) ∧ (0 ≤ (v 2).toInt ∧ (v 2).toInt ≤ 999) ∧ (0 ≤ (v 3).toInt ∧ (v 3).toInt ≤ 999) ∧ (0 ≤ (v 4).toInt ∧ (v 4).toInt ≤ 999)) := by
  obtain ⟨e1, a1, b1, t1, t2, t3, t4, t5, t6, t7, -⟩ := @p_tk N n e 0 a b hN wk_0.2.2.1 hw h
  obtain ⟨e2, x2, y2, a20, a2, b2, u0, u1, u2, u3, u4, u5, u6⟩ := @p_na N n e1 1 36 0 60 a1 b1 hN wk_1 (by decide) (by decide) t3
  have s2 := @PG_set n e2 x1 0 x2 a2 b2 u3
  obtain ⟨e3, x3, y3, a30, a3, b3, v0, v1, v2, v3, v4, v5, v6⟩ := @p_na N n e2 2 37 1 99999 _ b2 hN wk_2 (by decide) (by decide) s2
  have s3 := @PG_set n e3 x1 1 x3 a3 b3 v3
  obtain ⟨e4, x4, y4, a4, b4, w1, w2, w3, w4, w5, w6⟩ := @p_op N n e3 3 38 _ b3 hN wk_3 s3
  have s4 := @PG_set n e4 x1 2 x4 a4 b4 w3
  obtain ⟨e5, x5, y5, a5, b5, z1, z2, z3, z4, z5, z6⟩ := @p_op N n e4 4 39 _ b4 hN wk_4 s4
  have s5 := @PG_set n e5 x1 3 x5 a5 b5 z3
  obtain ⟨e6, x6, y6, a6, b6, o1, o2, o3, o4, o5, o6⟩ := @p_op N n e5 5 40 _ b5 hN wk_5 s5
  have s6 := @PG_set n e6 x1 4 x6 a6 b6 o3
  obtain ⟨e7, a7, b7, r1, r2, r3, r4, r5, r6⟩ := @p_se N n e6 _ b6 hN s6
  unfold f_X3_readPeriod_43 f_X9_parsePeriod_47
  simp only [b_T, hq]
  rw [t1, b_P, u0, b_P, u1, b_P2, v0, b_P, v1, b_P2, w1, b_P2, z1, b_P2, o1, b_P2, r1, b_P, t2, b_P, u2, b_P2, v2, b_P2, w2, b_P2, z2, b_P2, o2, b_P2, r2, b_P]
  have f15 : ∀ {p w x : Int32} {m : Mem} {j : Nat}, f_X4_setNumber 4 p w x m 1 j = m 1 j := fun {p w x m j} => by rw [set_f (by omega)]
  have gb := FG_t t5 (FG_t u5 (FG_t v5 (FG_t w5 (FG_t z5 (FG_t o5 r5)))))
  have h73 : b7 0 3 = 1 := by rw [gb.2 3 (by omega)]; exact hb3
  have fcc : FRC a (up2 a7 4 1 (a7 4 1 + 1)) := fun k k1 k4 k5 => by
    rw [p2_n k4, r4.1 k k1, set_f k5, o4.1 k k1, set_f k5, z4.1 k k1, set_f k5, w4.1 k k1, set_f k5, v4.1 k k1, set_f k5, u4.1 k k1, t4.1 k k1]
  have pg : PGz n e7 (up2 a7 4 1 (a7 4 1 + 1)) b7 := PG_fr (p2_n (by omega)) (p2_n (by omega)) rfl (fun j _ _ => by rw [p2_n (by omega)]) (fun _ _ _ => rfl) r3
  have h5 : up2 a7 4 1 (a7 4 1 + 1) 1 5 = a7 1 5 := by rw [p2_n (by omega)]
  have h7 : up2 a7 4 1 (a7 4 1 + 1) 1 7 = a7 1 7 := by rw [p2_n (by omega)]
  rw [good_i]
  by_cases hg : a7 1 5 = 0
  · have hb18 : b7 0 18 = 0 := by rw [← r3.2.1]; exact hg
    obtain ⟨g1, g2, g3⟩ := r6 hg
    rw [f15] at g1
    obtain ⟨g4, g5, g6, g7⟩ := o6 g1
    rw [f15] at g4
    obtain ⟨g8, g9, g10, g11⟩ := z6 g4
    rw [f15] at g8
    obtain ⟨g12, g13, g14, g15⟩ := w6 g8
    rw [f15] at g12
    obtain ⟨g16, g17, g18, g19⟩ := v6 g12
    rw [f15] at g16
    obtain ⟨g20, g21, g22, g23⟩ := u6 g16
    rw [t6] at g20
    obtain ⟨c1, c2, c3, c4⟩ := hc g20
    subst c2
    have k2 : (2 : Int32).toNatClampNeg = 2 := rfl
    rw [if_pos hb18, if_neg (show ¬ (1 : Int32) = 0 by decide), row2 h73, (c5_m (c := c) (by omega)).2, k2]
    have hb2 : b7 2 = b 2 := gb.1 2 (by omega)
    have ep : ∀ w : Nat, w < 5 → nI (12 + 5 * c) + nI w = nI (12 + 5 * c + w) := fun w hw5 => p_fld (c := c) (o := 12) (by omega) (by omega) hw5 rfl
    have e0' : nI (12 + 5 * c) + (0 : Int32) = nI (12 + 5 * c + 0) := ep 0 (by omega)
    have e1' : nI (12 + 5 * c) + (1 : Int32) = nI (12 + 5 * c + 1) := ep 1 (by omega)
    have e2' : nI (12 + 5 * c) + (2 : Int32) = nI (12 + 5 * c + 2) := ep 2 (by omega)
    have e3' : nI (12 + 5 * c) + (3 : Int32) = nI (12 + 5 * c + 3) := ep 3 (by omega)
    have e4' : nI (12 + 5 * c) + (4 : Int32) = nI (12 + 5 * c + 4) := ep 4 (by omega)
    have r02 : ∀ (m : Mem) (f : Nat → Int32), upR m 2 f 0 = m 0 := fun m f => R_n (by omega)
    have rm1 : rowM 1 = 2 := rfl
    simp only [r02, h73, rm1, R_s, R_R, e0', e1', e2', e3', e4']
    rw [z_cN (by omega) (by omega), z_cN (by omega) (by omega), z_cN (by omega) (by omega), z_cN (by omega) (by omega), z_cN (by omega) (by omega), z_tN (by omega), z_tN (by omega), z_tN (by omega), z_tN (by omega), z_tN (by omega), hb2, c4, nI_1]
    have t0' : f_X4_setNumber 4 (nI c) 0 x2 a2 = upR a2 5 (upd (a2 5) (5 * c + 0) x2) := set_n (w := 0) c1 (by omega)
    have t1' : f_X4_setNumber 4 (nI c) 1 x3 a3 = upR a3 5 (upd (a3 5) (5 * c + 1) x3) := set_n (w := 1) c1 (by omega)
    have t2' : f_X4_setNumber 4 (nI c) 2 x4 a4 = upR a4 5 (upd (a4 5) (5 * c + 2) x4) := set_n (w := 2) c1 (by omega)
    have t3' : f_X4_setNumber 4 (nI c) 3 x5 a5 = upR a5 5 (upd (a5 5) (5 * c + 3) x5) := set_n (w := 3) c1 (by omega)
    have t4' : f_X4_setNumber 4 (nI c) 4 x6 a6 = upR a6 5 (upd (a6 5) (5 * c + 4) x6) := set_n (w := 4) c1 (by omega)
    have h57 : a7 5 = upd (upd (upd (upd (upd (a 5) (5 * c + 0) x2) (5 * c + 1) x3) (5 * c + 2) x4) (5 * c + 3) x5) (5 * c + 4) x6 := by
      rw [r4.1 5 (by omega), t4', R_s, o4.1 5 (by omega), t3', R_s, z4.1 5 (by omega), t2', R_s, w4.1 5 (by omega), t1', R_s, v4.1 5 (by omega), t0', R_s, u4.1 5 (by omega), t4.1 5 (by omega)]
    have h47 : a7 4 = a 4 := by
      rw [r4.1 4 (by omega), set_f (by omega), o4.1 4 (by omega), set_f (by omega), z4.1 4 (by omega), set_f (by omega), w4.1 4 (by omega), set_f (by omega), v4.1 4 (by omega), set_f (by omega), u4.1 4 (by omega), t4.1 4 (by omega)]
    have h17 : ∀ j, j < 5 → a7 1 j = a 1 j := fun j hj => by
      rw [r4.2 j (by omega), f15, o4.2 j (by omega), f15, z4.2 j (by omega), f15, w4.2 j (by omega), f15, v4.2 j (by omega), f15, u4.2 j (by omega), t4.2 j (by omega)]
    have fbz : ∀ f : Nat → Int32, PGz n e7 (up2 a7 4 1 (a7 4 1 + 1)) (upR b7 2 f) := fun f => PG_fr rfl rfl (R_n (by omega)) (fun _ _ _ => rfl) (fun j _ _ => by rw [R_n (by omega)]) pg
    refine ⟨e7, _, _, fun w => if w = 0 then x2 else if w = 1 then x3 else if w = 2 then x4 else if w = 3 then x5 else x6, rfl, rfl, fbz _, by rw [r02]; exact h73, fcc, FRR_t (FG_R gb) ⟨fun k k0 k2 => R_n k2, fun j z => by rw [R_n (by omega)]⟩, fun _ => ⟨g20, ?_, fun j hj => ?_, fun j hj => ?_, ?_, fun j => ?_, fun j hj => ?_, fun j hj => ?_, g23, g19, g15, g11, g7⟩⟩
    · rw [h7]
      exact g3.imp id fun z => by omega
    · rw [p2_n (by omega)]; exact h17 j hj
    · rw [p2_s, u_n hj, h47]
    · rw [p2_s, u_s, h47, c3, nI_1]
    · rw [p2_n (by omega), h57]
      unfold upd
      by_cases j4 : j = 5 * c + 4
      · subst j4
        rw [if_pos rfl, if_pos (by omega), show 5 * c + 4 - 5 * c = 4 by omega]
        rfl
      · by_cases j3 : j = 5 * c + 3
        · subst j3
          rw [if_neg (by omega), if_pos rfl, if_pos (by omega), show 5 * c + 3 - 5 * c = 3 by omega]
          rfl
        · by_cases j2 : j = 5 * c + 2
          · subst j2
            rw [if_neg (by omega), if_neg (by omega), if_pos rfl, if_pos (by omega), show 5 * c + 2 - 5 * c = 2 by omega]
            rfl
          · by_cases j1 : j = 5 * c + 1
            · subst j1
              rw [if_neg (by omega), if_neg (by omega), if_neg (by omega), if_pos rfl, if_pos (by omega), show 5 * c + 1 - 5 * c = 1 by omega]
              rfl
            · by_cases j0 : j = 5 * c + 0
              · subst j0
                rw [if_neg (by omega), if_neg (by omega), if_neg (by omega), if_neg (by omega), if_pos rfl, if_pos (by omega), show 5 * c + 0 - 5 * c = 0 by omega]
                rfl
              · rw [if_neg (by omega), if_neg (by omega), if_neg (by omega), if_neg (by omega), if_neg (by omega), if_neg (by omega)]
    · rw [R_s, ← g22, ← g18, ← g14, ← g10, ← g6]
      unfold upd
      by_cases j4 : j = 12 + 5 * c + 4
      · subst j4
        rw [if_pos rfl, if_neg (by omega), if_pos (by omega), show 12 + 5 * c + 4 - (12 + 5 * c) = 4 by omega]
        rfl
      · by_cases j3 : j = 12 + 5 * c + 3
        · subst j3
          rw [if_neg (by omega), if_pos rfl, if_neg (by omega), if_pos (by omega), show 12 + 5 * c + 3 - (12 + 5 * c) = 3 by omega]
          rfl
        · by_cases j2 : j = 12 + 5 * c + 2
          · subst j2
            rw [if_neg (by omega), if_neg (by omega), if_pos rfl, if_neg (by omega), if_pos (by omega), show 12 + 5 * c + 2 - (12 + 5 * c) = 2 by omega]
            rfl
          · by_cases j1 : j = 12 + 5 * c + 1
            · subst j1
              rw [if_neg (by omega), if_neg (by omega), if_neg (by omega), if_pos rfl, if_neg (by omega), if_pos (by omega), show 12 + 5 * c + 1 - (12 + 5 * c) = 1 by omega]
              rfl
            · by_cases j0 : j = 12 + 5 * c + 0
              · subst j0
                rw [if_neg (by omega), if_neg (by omega), if_neg (by omega), if_neg (by omega), if_pos rfl, if_neg (by omega), if_pos (by omega), show 12 + 5 * c + 0 - (12 + 5 * c) = 0 by omega]
                rfl
              · by_cases jj : j = 2
                · subst jj
                  rw [if_neg (by omega), if_neg (by omega), if_neg (by omega), if_neg (by omega), if_neg (by omega), if_pos rfl, if_pos rfl]
                · rw [if_neg (by omega), if_neg (by omega), if_neg (by omega), if_neg (by omega), if_neg (by omega), if_neg jj, if_neg jj, if_neg (by omega)]
    · rw [r02]
      exact gb.2 j (by omega)
  · have hb18 : b7 0 18 ≠ 0 := by rw [← r3.2.1]; exact hg
    rw [if_neg hb18, if_pos rfl]
    exact ⟨e7, _, b7, fun _ => 0, rfl, rfl, pg, h73, fcc, FG_R gb, fun z => absurd (h5.symm.trans z) hg⟩

