theorem w_1st {N w : Nat} {a : Mem} (hN : 1 ≤ N) (h0 : 0 < strLn w) (h1 : strLn w < 100) (h : f_X3_isWord N w a = some 1) : f_X0_byteAt (a 1 8 + 0) a = strCh w 0 := by
  obtain ⟨f, hf⟩ : ∃ f, N = f + 1 := ⟨N - 1, by omega⟩
  unfold f_X3_isWord at h
  simp only [b_T] at h
  by_cases z1 : a 1 7 = 2
  · rw [if_pos z1] at h
    by_cases z2 : a 1 9 - a 1 8 = nI (strLn w)
    · rw [if_pos z2] at h
      have e : f_X3_isWord_28 N w a N 0 = f_X3_isWord_28 N w a (f + 1) 0 := by rw [← hf]
      rw [e, f_X3_isWord_28_s] at h
      simp only [b_T] at h
      rw [if_neg (show ¬ nI (strLn w) ≤ 0 from fun z => by have := (nI_lei (x := strLn w) (y := 0) (by omega) (by omega)).1 z; omega), show (0 : Int32) = nI 0 from rfl, z_cN (by omega) (by omega), z_tN (by omega)] at h
      by_cases z3 : f_X0_byteAt (a 1 8 + nI 0) a = strCh w 0
      · exact z3
      · rw [if_neg z3] at h
        exact absurd (Option.some.inj h) (by decide)
    · rw [if_neg z2] at h
      exact absurd (Option.some.inj h) (by decide)
  · rw [if_neg z1] at h
    exact absurd (Option.some.inj h) (by decide)
theorem w_dis {N : Nat} {a : Mem} (hN : 1 ≤ N) (h9 : f_X3_isWord N 9 a = some 1) (h10 : f_X3_isWord N 10 a = some 1) : False := by
  have e1 := w_1st hN wk_9.2.1 wk_9.2.2.1 h9
  have e2 := w_1st hN wk_10.2.1 wk_10.2.2.1 h10
  exact absurd (e1.symm.trans e2) (by decide +kernel)
theorem p_tq {N n e w : Nat} {q : Int32} {a b : Mem} (hN : 402 ≤ N) (hw : strLn w < 100) (hv : a 1 5 = 0 → ∃ v : Int32, f_X3_isWord N w a = some v ∧ (v = 0 ∨ v = 1) ∧ (v = 0 ↔ q ≠ 0)) (h : PGz n e a b) : ∃ (e1 : Nat) (a1 b1 : Mem), f_X3_takeWord N w a = some a1 ∧ f_X9_goOn N (f_X9_errsIf q 1 b) = some b1 ∧ PGz n e1 a1 b1 ∧ FE a a1 ∧ FGz b b1 ∧ (a1 1 5 = 0 → a 1 5 = 0 ∧ e ≤ e1 ∧ q = 0) := by
  obtain ⟨f1, f2⟩ := @p_fi n e 1 q a b (by decide) h
  rw [tw_c]
  by_cases hg : a 1 5 = 0
  · obtain ⟨v, v1, v2, v3⟩ := hv hg
    rw [v1, b_P]
    by_cases hv0 : v = 0
    · obtain ⟨g1, g2, g3, g4, g5⟩ := f2 (v3.1 hv0)
      obtain ⟨e1, a1, b1, r1, r2, r3, r4, r5, r6, r7, -⟩ := @p_go N n e _ _ hN g2
      rw [if_pos hv0, g1]
      exact ⟨e1, a1, b1, r1, r2, r3, FE_t g3 r4, FG_t g4 r5, fun z => absurd (r6.symm.trans z) g5⟩
    · have hq : q = 0 := Classical.byContradiction fun z => hv0 (v3.2 z)
      obtain ⟨e1, a1, b1, r1, r2, r3, r4, r5, r6, r7, -⟩ := @p_go N n e a b hN h
      rw [if_neg hv0, (f1 hq).2]
      exact ⟨e1, a1, b1, r1, r2, r3, r4, r5, fun _ => ⟨hg, r7, hq⟩⟩
  · have hb : b 0 18 ≠ 0 := by rw [← h.2.1]; exact hg
    obtain ⟨v, v1, v2⟩ := @cw_tot N w a hw (by omega)
    have e1 : f_X9_errsIf q 1 b = b := by
      by_cases hq : q = 0
      · exact (f1 hq).2
      · rw [(f2 hq).1, errs_b hb]
    obtain ⟨e1', a1, b1, r1, r2, r3, r4, r5, r6, r7, -⟩ := @p_go N n e a b hN h
    rw [v1, b_P, fail_b hg, ite_self, e1]
    exact ⟨e1', a1, b1, r1, r2, r3, r4, r5, fun z => absurd (r6.symm.trans z) hg⟩
def HCT (N w : Nat) (a12 : Mem) : Option Mem := bP (f_X3_takeWord N w a12) fun a15 => bP2 (f_X3_takeNumber N (1 : Int32) (9999 : Int32) a15) fun x18 a19 => bT (up2 a19 1 4 x18) fun a21 => bP (f_X3_takeSemicolon N a21) fun a24 => some a24
theorem p_hn {N n e w : Nat} {q : Int32} {a b : Mem} (hN : 402 ≤ N) (hw : strLn w < 100) (hv : a 1 5 = 0 → ∃ v : Int32, f_X3_isWord N w a = some v ∧ (v = 0 ∨ v = 1) ∧ (v = 0 ↔ q ≠ 0)) (h : PGz n e a b) : ∃ (e1 : Nat) (a1 b1 : Mem), HCT N w a = some a1 ∧ f_X9_parseHand_63 N b q = some b1 ∧ PGz n e1 a1 b1 ∧ (∀ k, k ≠ 1 → a1 k = a k) ∧ (∀ j, j < 4 → a1 1 j = a 1 j) ∧ (∀ k, k ≠ 0 → b1 k = b k) ∧ (∀ j, (j < 14 ∨ 19 < j) → j ≠ 23 → b1 0 j = b 0 j) ∧ (a1 1 5 = 0 → a 1 5 = 0 ∧ q = 0 ∧ (a1 1 7 = 0 ∨ e + 1 ≤ e1) ∧ a1 1 4 = b1 0 23 ∧ 1 ≤ (b1 0 23).toInt ∧ (b1 0 23).toInt ≤ 9999) := by
  obtain ⟨e1, a1, b1, t1, t2, t3, t4, t5, t6⟩ := @p_tq N n e w q a b hN hw hv h
  obtain ⟨e2, x, y, a2, b2, u1, u2, u3, u4, u5, u6⟩ := @p_nu N n e1 1 9999 a1 b1 hN (by decide) (by decide) t3
  unfold HCT f_X9_parseHand_63
  rw [t1, b_P, u1, b_P2, b_T, b_T, t2, b_P, u2, b_P2, b_T]
  have s1' : ∀ k, k ≠ 1 → up2 a2 1 4 x k = a2 k := fun k z => p2_n z
  have s2' : ∀ j, j ≠ 4 → up2 a2 1 4 x 1 j = a2 1 j := fun j z => by rw [p2_s, u_n z]
  have s3' : up2 a2 1 4 x 1 4 = x := by rw [p2_s, u_s]
  have r1' : ∀ k, k ≠ 0 → up2 b2 0 23 y k = b2 k := fun k z => p2_n z
  have r2' : ∀ j, j ≠ 23 → up2 b2 0 23 y 0 j = b2 0 j := fun j z => by rw [p2_s, u_n z]
  have r3' : up2 b2 0 23 y 0 23 = y := by rw [p2_s, u_s]
  generalize up2 a2 1 4 x = aa at s1' s2' s3' ⊢
  generalize up2 b2 0 23 y = bb at r1' r2' r3' ⊢
  have p1 : PGz n e2 aa bb := PG_fr (s1' 2 (by omega)) (s1' 3 (by omega)) (r1' 4 (by omega)) (fun j _ _ => s2' j (by omega)) (fun j _ _ => r2' j (by omega)) u3
  obtain ⟨e3, a3, b3, v1, v2, v3, v4, v5, v6⟩ := @p_se N n e2 aa bb hN p1
  rw [v1, b_P, v2, b_P]
  have fa := FE_t t4 u4
  have gb := FG_t t5 u5
  refine ⟨e3, a3, b3, rfl, rfl, v3, fun k z => by rw [v4.1 k z, s1' k z]; exact fa.1 k z, fun j z => by rw [v4.2 j (by omega), s2' j (by omega)]; exact fa.2 j (by omega), fun k z => by rw [v5.1 k z, r1' k z]; exact gb.1 k z, fun j z z3 => by rw [v5.2 j z, r2' j z3]; exact gb.2 j z, fun z => ?_⟩
  obtain ⟨y1, y2, y3⟩ := v6 z
  rw [s2' 5 (by omega)] at y1
  obtain ⟨y4, y5, y6, y7, y8⟩ := u6 y1
  obtain ⟨y9, y10, y11⟩ := t6 y4
  have h4 : a3 1 4 = x := by rw [v4.2 4 (by omega)]; exact s3'
  have h23 : b3 0 23 = y := by rw [v5.2 23 (by omega)]; exact r3'
  rw [h4, h23, ← y6]
  exact ⟨y9, y11, y3.imp id fun z => by omega, rfl, y7, y8⟩

