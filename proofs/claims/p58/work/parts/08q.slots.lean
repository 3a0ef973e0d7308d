theorem StP_11 {a : Mem} {k : Nat} {g : Nat → Int32} {x : Int32} (h : StP a k g) : StP (up2 a k 11 x) k g := by
  have ej : ∀ j, j ≠ 11 → up2 a k 11 x k j = a k j := fun j z => by rw [p2_s, u_n z]
  have ek : ∀ k1, k1 ≠ k → up2 a k 11 x k1 = a k1 := fun k1 z => p2_n z
  have hsd : ∀ y, sI (up2 a k 11 x) (sdr k y) = sI a (sdr k y) ∧ up2 a k 11 x (sdr k y) = a (sdr k y) := by
    intro y
    have := @sdr_or k y
    exact ⟨sI_fr (ek _ (by omega)) (ek _ (by omega)), ek _ (by omega)⟩
  unfold StP WS HR LG at h ⊢
  rw [ej 2 (by omega), ej 3 (by omega), (hsd _).1, (hsd _).1, (hsd _).2, (hsd _).2, ej 5 (by omega), ej 6 (by omega), ej 10 (by omega), ej 9 (by omega), ej 8 (by omega), ej 4 (by omega), ej 7 (by omega), ek (k + 1) (by omega), rI_fr (ek (k + 1 + 1) (by omega)), ek (k + 3) (by omega), ek (k + 3 + 1) (by omega)]
  exact h
theorem p_nI {p : Int32} (hp : p = 0 ∨ p = 1) : ∃ i, i < 2 ∧ p = nI i := by
  rcases hp with rfl | rfl
  · exact ⟨0, by omega, rfl⟩
  · exact ⟨1, by omega, rfl⟩
theorem ag_keep {t : Int} {N : Nat} {a b c : Mem} {p : Int32} (hN : 1560 ≤ N) (h : REL t a b) : AGR t (f_L_keep p a c) (f_X9_keep N p b) := by
  unfold f_L_keep f_X8_keep f_X9_keep
  simp only [b_T, k_slot, q_keep, pass1]
  by_cases hp : p = 0 ∨ p = 1
  · simp only [hp, reduceIte, i10, bXc_0, b_T2]
    obtain ⟨hr, h00⟩ := @REL_t t a b 0 h
    generalize up2 b 0 0 0 = b0 at hr h00 ⊢
    obtain ⟨i, hi, rfl⟩ := p_nI hp
    rw [stA_x hi (by omega), r_kp (by omega) hi]
    obtain ⟨hb3, hs, hv, hpa, hsl, hin, hpr, ho⟩ := hr
    have h7 : a 8 9 = b0 1 7 := hs.2.1.2.2.2.2.2.2.2.1
    obtain ⟨cS, cF, c2, c3, c11⟩ := @c_cpy6 a (slotR i) 8 (b0 1) (by unfold slotR; omega) (hsl i hi).1 hs
    have eF : ∀ k, (k < slotR i ∨ slotR i + 9 ≤ k) → up2 (f_X6_copyFrom (slotR i) 8 a) (slotR i) 11 1 k = a k := fun k hk => by rw [p2_n (by omega), cF k hk]
    have e9 : up2 (f_X6_copyFrom (slotR i) 8 a) (slotR i) 11 1 8 9 = b0 1 7 := by rw [eF 8 (by unfold slotR; omega), h7]
    have b6 : ∀ j, (upR (upR b0 5 fun j => if 311 * i ≤ j ∧ j < 311 * i + 311 then b0 1 (0 + (j - 311 * i)) else b0 5 j) 6 (upd (b0 6) i 1)) 6 j = upd (b0 6) i 1 j := fun j => by rw [R_s]
    have b5 : ∀ j, (upR (upR b0 5 fun j => if 311 * i ≤ j ∧ j < 311 * i + 311 then b0 1 (0 + (j - 311 * i)) else b0 5 j) 6 (upd (b0 6) i 1)) 5 j = if 311 * i ≤ j ∧ j < 311 * i + 311 then b0 1 (0 + (j - 311 * i)) else b0 5 j := fun j => by rw [R_n (by omega), R_s]
    have bk : ∀ k, k ≠ 5 → k ≠ 6 → (upR (upR b0 5 fun j => if 311 * i ≤ j ∧ j < 311 * i + 311 then b0 1 (0 + (j - 311 * i)) else b0 5 j) 6 (upd (b0 6) i 1)) k = b0 k := fun k z5 z6 => by rw [R_n z6, R_n z5]
    show AGR t (some (0, up2 (f_X6_copyFrom (slotR i) 8 a) (slotR i) 11 1, upR c 0 (upd (c 0) 0 (up2 (f_X6_copyFrom (slotR i) 8 a) (slotR i) 11 1 8 9)))) _
    rw [e9]
    generalize (upR (upR b0 5 fun j => if 311 * i ≤ j ∧ j < 311 * i + 311 then b0 1 (0 + (j - 311 * i)) else b0 5 j) 6 (upd (b0 6) i 1)) = b1 at b6 b5 bk ⊢
    have cS2 := @StP_11 _ _ _ 1 cS
    have cw : up2 (f_X6_copyFrom (slotR i) 8 a) (slotR i) 11 1 (slotR i) 11 = 1 := by rw [p2_s, u_s]
    have cw2 : up2 (f_X6_copyFrom (slotR i) 8 a) (slotR i) 11 1 (slotR i) 2 = a (slotR i) 2 ∧ up2 (f_X6_copyFrom (slotR i) 8 a) (slotR i) 11 1 (slotR i) 3 = a (slotR i) 3 := by rw [p2_s, u_n (by omega), u_n (by omega)]; exact ⟨c2, c3⟩
    generalize up2 (f_X6_copyFrom (slotR i) 8 a) (slotR i) 11 1 = a1 at eF cS2 cw cw2 ⊢
    refine ag_ok rfl rfl ?_ (by rw [bk 0 (by omega) (by omega), h00])
    obtain ⟨n, x, hn, hx, p1, p2, p3, p4, p5⟩ := hpa
    have fp : ∀ j, j < 6 → ∀ k1, pastR j ≤ k1 → k1 < pastR j + 9 → a1 k1 = a k1 := fun j hj k1 q1 q2 => eF k1 (by unfold pastR at q1 q2; unfold slotR; omega)
    refine ⟨by rw [bk 0 (by omega) (by omega)]; exact hb3, by rw [bk 1 (by omega) (by omega)]; exact StP_fr (fun k1 q1 q2 => eF k1 (by unfold slotR; omega)) hs, by rw [bk 1 (by omega) (by omega)]; exact hv, ⟨n, x, hn, hx, by rw [eF 0 (by unfold slotR; omega)]; exact p1, by rw [eF 0 (by unfold slotR; omega)]; exact p2, by rw [bk 0 (by omega) (by omega)]; exact p3, fun j hj => WS_fr (fp j hj _ (by omega) (by omega)) (p4 j hj), fun j hj => ?_⟩, ?_, ?_, ?_, ?_⟩
    · rw [bk 7 (by omega) (by omega)]
      exact ⟨StP_fr (fp _ (by omega)) (p5 j hj).1, (p5 j hj).2⟩
    · intro q hq
      by_cases hqi : q = i
      · subst hqi
        refine ⟨?_, ?_, fun _ => ?_⟩
        · have := (hsl q hq).1
          unfold WS at this ⊢
          rw [cw2.1, cw2.2]
          exact this
        · rw [cw, b6, u_s]
          rfl
        · have hg : ∀ j, j < 311 → (fun j => b1 5 (311 * q + j)) j = b0 1 j := by
            intro j hj
            show b1 5 (311 * q + j) = b0 1 j
            rw [b5, if_pos (by omega)]
            congr 1
            omega
          exact ⟨StP_g hg cS2, VL_g hg hv⟩
      · have fq : ∀ k1, slotR q ≤ k1 → k1 < slotR q + 9 → a1 k1 = a k1 := fun k1 q1 q2 => eF k1 (by unfold slotR at q1 q2 ⊢; omega)
        refine ⟨WS_fr (fq _ (by omega) (by omega)) (hsl q hq).1, ?_, fun hb => ?_⟩
        · rw [fq _ (by omega) (by omega), b6, u_n hqi]
          exact (hsl q hq).2.1
        · rw [b6, u_n hqi] at hb
          have hg : ∀ j, j < 311 → (fun j => b1 5 (311 * q + j)) j = (fun j => b0 5 (311 * q + j)) j := by
            intro j hj
            show b1 5 (311 * q + j) = b0 5 (311 * q + j)
            rw [b5, if_neg (by omega)]
          exact ⟨StP_g hg (StP_fr fq ((hsl q hq).2.2 hb).1), VL_g hg ((hsl q hq).2.2 hb).2⟩
    · unfold INP at hin ⊢
      rw [eF 2 (by unfold slotR; omega), eF 3 (by unfold slotR; omega), bk 0 (by omega) (by omega), bk 4 (by omega) (by omega)]
      exact hin
    · unfold PRS at hpr ⊢
      rw [eF 1 (by unfold slotR; omega), bk 0 (by omega) (by omega)]
      exact hpr
    · unfold OUTP at ho ⊢
      rw [eF 6 (by unfold slotR; omega), eF 7 (by unfold slotR; omega), bk 0 (by omega) (by omega), bk 8 (by omega) (by omega)]
      exact ho
  · simp only [hp, reduceIte, eq_self, bXc_3, b_T2]
    exact ag_er rfl rfl h (by decide)
theorem ag_restore {t : Int} {N : Nat} {a b c : Mem} {p : Int32} (hN : 1560 ≤ N) (h : REL t a b) : AGR t (f_L_restore p a c) (f_X9_restore N p b) := by
  unfold f_L_restore f_X8_restore f_X9_restore f_X9_restore_21 f_X9_restore_26
  simp only [b_T, k_slot, q_keep, pass2]
  by_cases hp : p = 0 ∨ p = 1
  · simp only [hp, reduceIte, i10, bXc_0]
    obtain ⟨i, hi, rfl⟩ := p_nI hp
    rw [stA_x hi (by omega), z_cN hi (by omega), z_tN (by omega)]
    have hk := (h.2.2.2.2.1 i hi).2.1
    show AGR t (match (if nb (a (slotR i) 11) = 0 then (some (.error 1) : Option (Except Nat (Int32 × Mem))) else some (.ok (f_X6_copyFrom 8 (slotR i) (f_X8_remember a) 8 9, f_X6_copyFrom 8 (slotR i) (f_X8_remember a)))) with | none => none | some (.error k) => (if k = 3 then some (1, a, c) else if k = 1 then some (2, a, c) else none) | some (.ok q) => some (0, q.2, upR c 0 (upd (c 0) 0 q.1))) _
    rw [hk]
    by_cases h6 : b 6 i = 0
    · simp only [h6, reduceIte, eq_self, b_T2]
      exact ag_er rfl rfl h (by decide)
    · simp only [h6, reduceIte, i10, b_T2]
      obtain ⟨hr, h00⟩ := @REL_t t a b 0 h
      have hb6 : (up2 b 0 0 0) 6 = b 6 := p2_n (by omega)
      generalize up2 b 0 0 0 = b0 at hr h00 hb6 ⊢
      obtain ⟨b1, q1, q2, q3, q4, q5, q6⟩ := REM hN hr
      rw [q1, b_P, r_rs (by omega) hi]
      have hslo := (q2.2.2.2.2.1 i hi).2.2 (by rw [q5 6 (by omega) (by omega), hb6]; exact h6)
      obtain ⟨cS, cF, -⟩ := @c_cpy6 (f_X8_remember a) 8 (slotR i) _ (by unfold slotR; omega) q2.2.1.1 hslo.1
      have hg : ∀ j, j < 311 → (fun j => if 0 ≤ j ∧ j < 0 + 311 then b1 5 (311 * i + (j - 0)) else b1 1 j) j = (fun j => b1 5 (311 * i + j)) j := by
        intro j hj
        show (if 0 ≤ j ∧ j < 0 + 311 then b1 5 (311 * i + (j - 0)) else b1 1 j) = b1 5 (311 * i + j)
        rw [if_pos (by omega)]
        rfl
      have e9 : f_X6_copyFrom 8 (slotR i) (f_X8_remember a) 8 9 = b1 5 (311 * i + 7) := cS.2.1.2.2.2.2.2.2.2.1
      rw [e9]
      refine ag_ok rfl rfl ?_ (by rw [R_n (by omega), q4 0 (by omega), h00])
      exact REL_now (fun k hk => cF k (by omega)) (fun j _ => by rw [R_n (by omega)]) (fun k h4 h8 => R_n (by omega)) (Int.le_refl t) (by rw [R_s]; exact StP_g hg cS) (by rw [R_s]; exact VL_g hg hslo.2) q2
  · simp only [hp, reduceIte, eq_self, bXc_3, b_T2]
    exact ag_er rfl rfl h (by decide)
theorem six3 : ∀ x, x < 6 → ((((nI x + (6 : Int32)) - (1 : Int32)) - ((nI x + (6 : Int32)) - (1 : Int32)) / (6 : Int32) * (6 : Int32))) = nI ((x + 5) % 6) := by decide +kernel
theorem ag_undo {t : Int} {N : Nat} {a b c : Mem} (hN : 1560 ≤ N) (h : REL t a b) : AGR t (f_L_undo a c) (f_X9_undo N b) := by
  obtain ⟨hb3, hs, hv, ⟨n, x, hn, hx, p1, p2, p3, p4, p5⟩, hsl, hin, hpr, ho⟩ := id h
  unfold f_L_undo f_X8_undo f_X9_undo f_X9_undo_13
  simp only [b_T, pass1, p1, p3, eq_self, reduceIte, i10, b_T2]
  have f0 : (0 : Int32).toInt = 0 := rfl
  by_cases h0 : n = 0
  · subst h0
    rw [if_neg (by decide), if_pos (by decide)]
    exact ag_er rfl rfl h (by decide)
  · have en : (nI n).toInt = n := z_nI (by omega)
    obtain ⟨m, rfl⟩ : ∃ m, n = m + 1 := ⟨n - 1, by omega⟩
    rw [if_pos (by rw [z_lt, f0, en]; omega), if_neg (by rw [z_le, f0, en]; omega)]
    obtain ⟨hr, h00⟩ := @REL_t t a b 0 h
    have hb1 : ∀ k, k ≠ 0 → (up2 b 0 0 0) k = b k := fun k z => p2_n z
    have hb0 : ∀ j, j ≠ 0 → (up2 b 0 0 0) 0 j = b 0 j := fun j z => by rw [p2_s, u_n z]
    generalize up2 b 0 0 0 = b0 at hr h00 hb1 hb0 ⊢
    have e27 : b0 0 27 = nI (m + 1) := by rw [hb0 27 (by omega), p3]
    have e07 : up2 (up2 a 0 7 (((a 0 7 + (6 : Int32)) - (1 : Int32)) - ((a 0 7 + (6 : Int32)) - (1 : Int32)) / (6 : Int32) * (6 : Int32))) 0 6 (nI (m + 1) - 1) = up2 (up2 a 0 7 (nI ((x + 5) % 6))) 0 6 (nI m) := by
      rw [p2, six3 x hx, nI_pred]
    have ea6 : ∀ y, up2 a 0 7 y 0 6 = nI (m + 1) := fun y => by rw [p2_s, u_n (by omega), p1]
    have ea7 : up2 (up2 a 0 7 (nI ((x + 5) % 6))) 0 6 (nI m) 0 7 = nI ((x + 5) % 6) := by rw [p2_s, u_n (by omega), p2_s, u_s]
    rw [ea6, e07, ea7, stA_x (show (x + 5) % 6 < 6 by omega) (by omega), e27, nI_pred]
    have hx1 : (x + 6 - (m + 1) + m) % 6 = (x + 5) % 6 := by omega
    have hold := p5 m (by omega)
    rw [hx1] at hold
    have ek : ∀ k, k ≠ 0 → up2 (up2 a 0 7 (nI ((x + 5) % 6))) 0 6 (nI m) k = a k := fun k z => by rw [p2_n z, p2_n z]
    have e06 : up2 (up2 a 0 7 (nI ((x + 5) % 6))) 0 6 (nI m) 0 6 = nI m := by rw [p2_s, u_s]
    generalize up2 (up2 a 0 7 (nI ((x + 5) % 6))) 0 6 (nI m) = a4 at ea7 ek e06 ⊢
    have hs4 : StP a4 (pastR ((x + 5) % 6)) (fun i => b 7 (311 * m + i)) := StP_fr (fun k1 q1 q2 => ek k1 (by unfold pastR at q1; omega)) hold.1
    have w4 : WS a4 8 := WS_fr (ek 8 (by omega)) hs.1
    obtain ⟨cS, cF, -⟩ := @c_cpy6 a4 8 (pastR ((x + 5) % 6)) _ (by unfold pastR; omega) w4 hs4
    have e27' : (up2 b0 0 27 (nI m)) 0 27 = nI m := by rw [p2_s, u_s]
    rw [r_un (n := m) (by omega) (by omega) e27']
    show AGR t (some (0, f_X6_copyFrom 8 (pastR ((x + 5) % 6)) a4, upR c 0 (upd (c 0) 0 (f_X6_copyFrom 8 (pastR ((x + 5) % 6)) a4 0 6)))) _
    have ec6 : f_X6_copyFrom 8 (pastR ((x + 5) % 6)) a4 0 6 = nI m := by rw [cF 0 (by omega), e06]
    have b27 : (up2 b0 0 27 (nI m)) 7 = b 7 := by rw [p2_n (by omega), hb1 7 (by omega)]
    rw [ec6, b27]
    generalize hf : (fun j => if 0 ≤ j ∧ j < 0 + 311 then b 7 (311 * m + (j - 0)) else up2 b0 0 27 (nI m) 1 j) = f9
    have hg : ∀ j, j < 311 → f9 j = (fun i => b 7 (311 * m + i)) j := by
      intro j hj
      rw [← hf]
      show (if 0 ≤ j ∧ j < 0 + 311 then b 7 (311 * m + (j - 0)) else up2 b0 0 27 (nI m) 1 j) = b 7 (311 * m + j)
      rw [if_pos (by omega)]
      rfl
    have bk : ∀ k, k ≠ 0 → k ≠ 1 → upR (up2 b0 0 27 (nI m)) 1 f9 k = b k := fun k z0 z1 => by rw [R_n z1, p2_n z0, hb1 k z0]
    have bj : ∀ j, j ≠ 0 → j ≠ 27 → upR (up2 b0 0 27 (nI m)) 1 f9 0 j = b 0 j := fun j z0 z27 => by rw [R_n (by omega), p2_s, u_n z27, hb0 j z0]
    have b00 : upR (up2 b0 0 27 (nI m)) 1 f9 0 0 = 0 := by rw [R_n (by omega), p2_s, u_n (by omega), h00]
    have b027 : upR (up2 b0 0 27 (nI m)) 1 f9 0 27 = nI m := by rw [R_n (by omega), p2_s, u_s]
    have b1 : upR (up2 b0 0 27 (nI m)) 1 f9 1 = f9 := R_s
    generalize upR (up2 b0 0 27 (nI m)) 1 f9 = b9 at bk bj b00 b027 b1 ⊢
    have fk : ∀ k, k ≠ 0 → (k < 8 ∨ 17 ≤ k) → f_X6_copyFrom 8 (pastR ((x + 5) % 6)) a4 k = a k := fun k z0 z => by rw [cF k (by omega), ek k z0]
    refine ag_ok rfl rfl ⟨by rw [bj 3 (by omega) (by omega)]; exact hb3, by rw [b1]; exact StP_g hg cS, by rw [b1]; exact VL_g hg hold.2, ⟨m, (x + 5) % 6, by omega, by omega, ec6, by rw [cF 0 (by omega), ea7], b027, fun j hj => WS_fr (fk _ (by unfold pastR; omega) (by unfold pastR; omega)) (p4 j hj), fun j hj => ?_⟩, fun i hi => ⟨WS_fr (fk _ (by unfold slotR; omega) (by unfold slotR; omega)) (hsl i hi).1, ?_, fun hb => ?_⟩, ?_, ?_, ?_⟩ b00
    · rw [bk 7 (by omega) (by omega)]
      have hjx : ((x + 5) % 6 + 6 - m + j) % 6 = (x + 6 - (m + 1) + j) % 6 := by omega
      rw [hjx]
      exact ⟨StP_fr (fun k1 q1 q2 => fk k1 (by unfold pastR at q1; omega) (by unfold pastR at q1; omega)) (p5 j (by omega)).1, (p5 j (by omega)).2⟩
    · rw [bk 6 (by omega) (by omega), fk _ (by unfold slotR; omega) (by unfold slotR; omega)]
      exact (hsl i hi).2.1
    · rw [bk 6 (by omega) (by omega)] at hb
      rw [bk 5 (by omega) (by omega)]
      exact ⟨StP_fr (fun k1 q1 q2 => fk k1 (by unfold slotR at q1; omega) (by unfold slotR at q1; omega)) ((hsl i hi).2.2 hb).1, ((hsl i hi).2.2 hb).2⟩
    · unfold INP at hin ⊢
      rw [fk 2 (by omega) (by omega), fk 3 (by omega) (by omega), bj 12 (by omega) (by omega), bk 4 (by omega) (by omega)]
      exact hin
    · unfold PRS at hpr ⊢
      rw [fk 1 (by omega) (by omega), bj 18 (by omega) (by omega), bj 19 (by omega) (by omega)]
      exact hpr
    · unfold OUTP at ho ⊢
      rw [fk 6 (by omega) (by omega), fk 7 (by omega) (by omega), bj 29 (by omega) (by omega), bk 8 (by omega) (by omega)]
      exact ho

