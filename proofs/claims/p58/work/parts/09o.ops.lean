theorem goOn_b {N : Nat} {b : Mem} (h : b 0 18 ≠ 0) : f_X9_goOn N b = some b := by
  unfold f_X9_goOn
  rw [good_i, if_neg h, b_T, if_pos rfl]
theorem bP2_id {α β : Type} {x : Option (α × β)} : (bP2 x fun y z => some (y, z)) = x := by
  cases x with
  | none => rfl
  | some p => rfl
theorem tw_c {N w : Nat} {a : Mem} : f_X3_takeWord N w a = bP (f_X3_isWord N w a) fun x2 => if x2 = 0 then GOC N (f_X3_fail 1 a) else GOC N a := rfl
theorem tw_r {N r : Nat} {b : Mem} : f_X9_takeWord N r b = bP (f_X9_isWord N r b) fun x2 => if x2 = 0 then f_X9_goOn N (f_X9_errs 1 b) else f_X9_goOn N b := by
  unfold f_X9_takeWord
  simp only [b_T, bP_id]
theorem p_tw {N n e w r : Nat} {a b : Mem} (hN : 402 ≤ N) (hk : WOKz w r) (h : PGz n e a b) : ∃ (e1 : Nat) (a1 b1 : Mem), f_X3_takeWord N w a = some a1 ∧ f_X9_takeWord N r b = some b1 ∧ PGz n e1 a1 b1 ∧ FE a a1 ∧ FGz b b1 ∧ (a1 1 5 = 0 → a 1 5 = 0 ∧ e ≤ e1) := by
  obtain ⟨v, u, q1, q2, q3, q4, q5⟩ := @p_word N n e w r a b hN hk h
  rw [tw_c, tw_r, q1, q2, b_P, b_P]
  by_cases hg : a 1 5 = 0
  · rw [q4 hg]
    rcases q3 with rfl | rfl
    · rw [if_pos rfl, if_pos rfl]
      obtain ⟨f1, f2, f3, f4⟩ := @p_fail n e 1 a b (by decide) h
      obtain ⟨e1, a1, b1, r1, r2, r3, r4, r5, r6, r7, -⟩ := @p_go N n e _ _ hN f1
      exact ⟨e1, a1, b1, r1, r2, r3, FE_t f2 r4, FG_t f3 r5, fun z => absurd (r6.symm.trans z) f4⟩
    · rw [if_neg (show ¬ (1 : Int32) = 0 by decide), if_neg (show ¬ (1 : Int32) = 0 by decide)]
      obtain ⟨e1, a1, b1, r1, r2, r3, r4, r5, r6, r7, -⟩ := @p_go N n e a b hN h
      exact ⟨e1, a1, b1, r1, r2, r3, r4, r5, fun _ => ⟨hg, r7⟩⟩
  · have hb : b 0 18 ≠ 0 := by rw [← h.2.1]; exact hg
    obtain ⟨e1, a1, b1, r1, r2, r3, r4, r5, r6, r7, -⟩ := @p_go N n e a b hN h
    rw [q5 hg, if_pos rfl, fail_b hg, errs_b hb, ite_self]
    exact ⟨e1, a1, b1, r1, r2, r3, r4, r5, fun z => absurd (r6.symm.trans z) hg⟩
theorem p_tk {N n e w : Nat} {a b : Mem} (hN : 402 ≤ N) (hw : strLn w < 100) (hv : a 1 5 = 0 → f_X3_isWord N w a = some 1) (h : PGz n e a b) : ∃ (e1 : Nat) (a1 b1 : Mem), f_X3_takeWord N w a = some a1 ∧ f_X9_goOn N b = some b1 ∧ PGz n e1 a1 b1 ∧ FE a a1 ∧ FGz b b1 ∧ a1 1 5 = a 1 5 ∧ e ≤ e1 ∧ (a 1 5 = 0 → a1 1 7 = 0 ∨ e + 1 ≤ e1) := by
  obtain ⟨e1, a1, b1, r1, r2, r3, r4, r5, r6, r7, r8⟩ := @p_go N n e a b hN h
  refine ⟨e1, a1, b1, ?_, r2, r3, r4, r5, r6, r7, r8⟩
  rw [tw_c]
  by_cases hg : a 1 5 = 0
  · rw [hv hg, b_P, if_neg (show ¬ (1 : Int32) = 0 by decide)]
    exact r1
  · obtain ⟨v, v1, v2⟩ := @cw_tot N w a hw (by omega)
    rw [v1, b_P, fail_b hg, ite_self]
    exact r1
theorem n37_b {N : Nat} {a : Mem} (h : a 1 5 ≠ 0) : f_X3_takeNumber_37 N a = some (0, a) := if_neg h
theorem p_nu {N n e : Nat} {lo hi : Int32} {a b : Mem} (hN : 402 ≤ N) (h0 : lo.toInt ≤ 99999) (h1 : hi.toInt ≤ 99999) (h : PGz n e a b) : ∃ (e1 : Nat) (x y : Int32) (a1 b1 : Mem), f_X3_takeNumber N lo hi a = some (x, a1) ∧ f_X9_number N lo hi b = some (y, b1) ∧ PGz n e1 a1 b1 ∧ FE a a1 ∧ FGz b b1 ∧ (a1 1 5 = 0 → a 1 5 = 0 ∧ e ≤ e1 ∧ x = y ∧ lo.toInt ≤ x.toInt ∧ x.toInt ≤ hi.toInt) := by
  by_cases hg : a 1 5 = 0
  · have hb : b 0 18 = 0 := by rw [← h.2.1]; exact hg
    obtain ⟨s, l1, l2, t1, t2, t3, t4, tk⟩ := h.2.2.2 hg
    have bad : ∀ c : Int32, c ≠ 0 → f_X3_takeNumber N lo hi a = f_X3_takeNumber_37 N (f_X3_fail c a) → f_X9_numberHere lo hi b = (lo, f_X9_errs c b) → ∃ (e1 : Nat) (x y : Int32) (a1 b1 : Mem), f_X3_takeNumber N lo hi a = some (x, a1) ∧ f_X9_number N lo hi b = some (y, b1) ∧ PGz n e1 a1 b1 ∧ FE a a1 ∧ FGz b b1 ∧ (a1 1 5 = 0 → a 1 5 = 0 ∧ e ≤ e1 ∧ x = y ∧ lo.toInt ≤ x.toInt ∧ x.toInt ≤ hi.toInt) := by
      intro c hc c1 c2
      obtain ⟨f1, f2, f3, f4⟩ := @p_fail n e c a b hc h
      rw [c1, n37_b f4]
      unfold f_X9_number
      rw [c2, b_T2, goOn_b (by rw [← f1.2.1]; exact f4), b_P]
      exact ⟨e, 0, lo, _, _, rfl, rfl, f1, f2, f3, fun z => absurd z f4⟩
    have hgd : ∀ {c : Int32}, c ≠ 0 → f_X9_good (f_X9_errs c b) = 0 := by
      intro c hc
      rw [good_i, errs_g hb, p2_s, u_n (by omega), p2_s, u_s, if_neg hc]
    by_cases hk : a 1 7 = 3
    · have hb16 : b 0 16 = 2 ∧ ∃ x : Nat, a 1 10 = nI (min x 1000000) ∧ b 0 17 = nI (min x 999999) := by
        rcases tk with ⟨z, -⟩ | ⟨z, -⟩ | ⟨-, z⟩ | ⟨z, -⟩
        · exact absurd (z.symm.trans hk) (by decide)
        · exact absurd (z.symm.trans hk) (by decide)
        · exact z
        · exact absurd (z.symm.trans hk) (by decide)
      obtain ⟨hb16, x, x1, x2⟩ := hb16
      have y1 : (nI (min x 1000000)).toInt = ((min x 1000000 : Nat) : Int) := z_nI (by omega)
      have y2 : (nI (min x 999999)).toInt = ((min x 999999 : Nat) : Int) := z_nI (by omega)
      have hin : f_X9_in (Int32.toInt64 (b 0 17)) (Int32.toInt64 lo) (Int32.toInt64 hi) b = if lo.toInt ≤ ((min x 999999 : Nat) : Int) ∧ ((min x 999999 : Nat) : Int) ≤ hi.toInt then 1 else 0 := by
        rw [q_in, Int32.toInt_toInt64, Int32.toInt_toInt64, Int32.toInt_toInt64, x2, y2]
      by_cases hr : lo.toInt ≤ ((min x 999999 : Nat) : Int) ∧ ((min x 999999 : Nat) : Int) ≤ hi.toInt
      · have hx : min x 1000000 = min x 999999 := by omega
        have c1 : f_X3_takeNumber N lo hi a = f_X3_takeNumber_37 N a := by
          unfold f_X3_takeNumber
          rw [if_pos hk, x1, if_neg (show ¬ nI (min x 1000000) < lo by rw [z_lt, y1]; omega), if_pos (show nI (min x 1000000) ≤ hi by rw [z_le, y1]; omega)]
        have c2 : f_X9_numberHere lo hi b = (b 0 17, b) := by
          unfold f_X9_numberHere f_X9_numberHere_20 f_X9_numberHere_47
          rw [good_i, if_pos hb, b_T, if_neg (show ¬ (1 : Int32) = 0 by decide), if_pos hb16, b_T, if_neg (show ¬ (1 : Int32) = 0 by decide), hin, if_pos hr, b_T, if_neg (show ¬ (1 : Int32) = 0 by decide), b_T, if_neg (show ¬ (1 : Int32) = 0 by decide)]
        obtain ⟨e1, a1, b1, r1, r2, r3, r4, r5, r6, r7, -⟩ := @p_go N n e a b hN h
        unfold GOC at r1
        rw [if_pos hg, bP_id] at r1
        rw [c1]
        unfold f_X3_takeNumber_37 f_X9_number
        rw [if_pos hg, b_T, r1, b_P, c2, b_T2, r2, b_P]
        refine ⟨e1, _, _, a1, b1, rfl, rfl, r3, r4, r5, fun _ => ⟨hg, r7, by rw [x1, x2, hx], ?_, ?_⟩⟩
        · rw [x1, y1]; omega
        · rw [x1, y1]; omega
      · refine bad 2 (by decide) ?_ ?_
        · unfold f_X3_takeNumber f_X3_takeNumber_32
          rw [if_pos hk, x1]
          by_cases z1 : nI (min x 1000000) < lo
          · rw [if_pos z1]
            rfl
          · have z2 : ¬ nI (min x 1000000) ≤ hi := by
              rw [z_lt, y1] at z1
              rw [z_le, y1]
              omega
            rw [if_neg z1, if_neg z2]
            rfl
        · unfold f_X9_numberHere f_X9_numberHere_20 f_X9_numberHere_47
          rw [good_i, if_pos hb, b_T, if_neg (show ¬ (1 : Int32) = 0 by decide), if_pos hb16, b_T, if_neg (show ¬ (1 : Int32) = 0 by decide), hin, if_neg hr, b_T, if_pos rfl, b_T, hgd (by decide), b_T, if_pos rfl]
    · have hb16 : ¬ b 0 16 = 2 := by
        rcases tk with ⟨-, z⟩ | ⟨-, z⟩ | ⟨z, -⟩ | ⟨-, z, -⟩
        · rw [z]; decide
        · rw [z]; decide
        · exact absurd z hk
        · rw [z]; decide
      refine bad 1 (by decide) ?_ ?_
      · unfold f_X3_takeNumber
        rw [if_neg hk]
        rfl
      · unfold f_X9_numberHere f_X9_numberHere_20 f_X9_numberHere_47
        rw [good_i, if_pos hb, b_T, if_neg (show ¬ (1 : Int32) = 0 by decide), if_neg hb16, b_T, hgd (by decide), b_T, if_pos rfl, b_T, if_pos rfl]
  · have hb : b 0 18 ≠ 0 := by rw [← h.2.1]; exact hg
    have c1 : f_X3_takeNumber N lo hi a = some (0, a) := by
      unfold f_X3_takeNumber f_X3_takeNumber_32
      simp only [fail_b hg, b_T, n37_b hg, ite_self]
    have c2 : f_X9_number N lo hi b = some (lo, b) := by
      unfold f_X9_number f_X9_numberHere f_X9_numberHere_20 f_X9_numberHere_47
      rw [good_i, if_neg hb, b_T, if_pos rfl, b_T, if_pos rfl, b_T, if_pos rfl, b_T2, goOn_b hb, b_P]
    exact ⟨e, 0, lo, a, b, c1, c2, h, FE_i, FG_i, fun z => absurd z hg⟩
theorem p_na {N n e w r : Nat} {lo hi : Int32} {a b : Mem} (hN : 402 ≤ N) (hk : WOKz w r) (h0 : lo.toInt ≤ 99999) (h1 : hi.toInt ≤ 99999) (h : PGz n e a b) : ∃ (e1 : Nat) (x y : Int32) (a0 a1 b1 : Mem), f_X3_takeWord N w a = some a0 ∧ f_X3_takeNumber N lo hi a0 = some (x, a1) ∧ f_X9_numberAfter N r lo hi b = some (y, b1) ∧ PGz n e1 a1 b1 ∧ FE a a1 ∧ FGz b b1 ∧ (a1 1 5 = 0 → a 1 5 = 0 ∧ e ≤ e1 ∧ x = y ∧ lo.toInt ≤ x.toInt ∧ x.toInt ≤ hi.toInt) := by
  obtain ⟨e0, a0, b0, q1, q2, q3, q4, q5, q6⟩ := @p_tw N n e w r a b hN hk h
  obtain ⟨e1, x, y, a1, b1, r1, r2, r3, r4, r5, r6⟩ := @p_nu N n e0 lo hi a0 b0 hN h0 h1 q3
  refine ⟨e1, x, y, a0, a1, b1, q1, r1, ?_, r3, FE_t q4 r4, FG_t q5 r5, fun z => ?_⟩
  · unfold f_X9_numberAfter
    rw [q2, b_P, r2]
    rfl
  · obtain ⟨z1, z2, z3⟩ := r6 z
    obtain ⟨z4, z5⟩ := q6 z1
    exact ⟨z4, Nat.le_trans z5 z2, z3⟩
theorem p_op {N n e w r : Nat} {a b : Mem} (hN : 402 ≤ N) (hk : WOKz w r) (h : PGz n e a b) : ∃ (e1 : Nat) (x y : Int32) (a1 b1 : Mem), f_X3_takeOption N w a = some (x, a1) ∧ f_X9_numberIf N r b = some (y, b1) ∧ PGz n e1 a1 b1 ∧ FE a a1 ∧ FGz b b1 ∧ (a1 1 5 = 0 → a 1 5 = 0 ∧ e ≤ e1 ∧ x = y ∧ 0 ≤ x.toInt ∧ x.toInt ≤ 999) := by
  have e0 : (0 : Int32).toInt = 0 := rfl
  have e9 : (999 : Int32).toInt = 999 := rfl
  obtain ⟨v, u, q1, q2, q3, q4, q5⟩ := @p_word N n e w r a b hN hk h
  unfold f_X3_takeOption f_X9_numberIf
  rw [q2, b_P]
  by_cases hg : a 1 5 = 0
  · rw [if_pos hg, q1, b_P, q4 hg]
    rcases q3 with rfl | rfl
    · rw [if_pos rfl, if_pos rfl]
      exact ⟨e, 0, 0, a, b, rfl, rfl, h, FE_i, FG_i, fun _ => ⟨hg, Nat.le_refl e, rfl, by decide, by decide⟩⟩
    · rw [if_neg (show ¬ (1 : Int32) = 0 by decide), if_neg (show ¬ (1 : Int32) = 0 by decide)]
      obtain ⟨e1, x, y, a0, a1, b1, r1, r2, r3, r4, r5, r6, r7⟩ := @p_na N n e w r 0 999 a b hN hk (by decide) (by decide) h
      rw [r1, b_P, r2, r3]
      exact ⟨e1, x, y, a1, b1, rfl, rfl, r4, r5, r6, r7⟩
  · rw [if_neg hg, q5 hg, if_pos rfl]
    exact ⟨e, 0, 0, a, b, rfl, rfl, h, FE_i, FG_i, fun z => absurd z hg⟩
theorem p_se {N n e : Nat} {a b : Mem} (hN : 402 ≤ N) (h : PGz n e a b) : ∃ (e1 : Nat) (a1 b1 : Mem), f_X3_takeSemicolon N a = some a1 ∧ f_X9_semicolon N b = some b1 ∧ PGz n e1 a1 b1 ∧ FE a a1 ∧ FGz b b1 ∧ (a1 1 5 = 0 → a 1 5 = 0 ∧ e ≤ e1 ∧ (a1 1 7 = 0 ∨ e + 1 ≤ e1)) := by
  have c17 : ∀ a : Mem, f_X3_takeSemicolon_17 N a = GOC N (f_X3_fail 1 a) := fun a => rfl
  have c0 : f_X3_takeSemicolon N a = if (a 1 7) = (4 : Int32) then (if (a 1 10) = (59 : Int32) then GOC N a else GOC N (f_X3_fail 1 a)) else GOC N (f_X3_fail 1 a) := rfl
  have c1 : f_X9_semicolon N b = if f_X9_good b = 0 then f_X9_goOn N (f_X9_errs 1 b) else (if (b 0 16) = (3 : Int32) then (if (b 0 17) = (59 : Int32) then f_X9_goOn N b else f_X9_goOn N (f_X9_errs 1 b)) else f_X9_goOn N (f_X9_errs 1 b)) := by
    unfold f_X9_semicolon
    simp only [b_T, bP_id]
  rw [c0, c1]
  by_cases hg : a 1 5 = 0
  · have hb : b 0 18 = 0 := by rw [← h.2.1]; exact hg
    obtain ⟨s, l1, l2, t1, t2, t3, t4, tk⟩ := h.2.2.2 hg
    obtain ⟨f1, f2, f3, f4⟩ := @p_fail n e 1 a b (by decide) h
    obtain ⟨e1, a1, b1, r1, r2, r3, r4, r5, r6, r7, -⟩ := @p_go N n e _ _ hN f1
    obtain ⟨e2, a2, b2, s1, s2, s3, s4, s5, s6, s7, s8⟩ := @p_go N n e a b hN h
    rw [good_i, if_pos hb, if_neg (show ¬ (1 : Int32) = 0 by decide), r1, r2, s1, s2]
    by_cases hk : a 1 7 = 4
    · have hb16 : b 0 16 = 3 ∧ a 1 10 = b 0 17 := by
        rcases tk with ⟨z, -⟩ | ⟨z, -⟩ | ⟨z, -⟩ | ⟨-, z⟩
        · exact absurd (z.symm.trans hk) (by decide)
        · exact absurd (z.symm.trans hk) (by decide)
        · exact absurd (z.symm.trans hk) (by decide)
        · exact z
      rw [if_pos hk, if_pos hb16.1, hb16.2]
      by_cases h59 : b 0 17 = 59
      · rw [if_pos h59, if_pos h59]
        exact ⟨e2, a2, b2, rfl, rfl, s3, s4, s5, fun _ => ⟨hg, s7, s8 hg⟩⟩
      · rw [if_neg h59, if_neg h59]
        exact ⟨e1, a1, b1, rfl, rfl, r3, FE_t f2 r4, FG_t f3 r5, fun z => absurd (r6.symm.trans z) f4⟩
    · have hb16 : ¬ b 0 16 = 3 := by
        rcases tk with ⟨-, z⟩ | ⟨-, z⟩ | ⟨-, z, -⟩ | ⟨z, -⟩
        · rw [z]; decide
        · rw [z]; decide
        · rw [z]; decide
        · exact absurd z hk
      rw [if_neg hk, if_neg hb16]
      exact ⟨e1, a1, b1, rfl, rfl, r3, FE_t f2 r4, FG_t f3 r5, fun z => absurd (r6.symm.trans z) f4⟩
  · have hb : b 0 18 ≠ 0 := by rw [← h.2.1]; exact hg
    obtain ⟨e1, a1, b1, r1, r2, r3, r4, r5, r6, r7, -⟩ := @p_go N n e a b hN h
    rw [good_i, if_neg hb, if_pos rfl, fail_b hg, errs_b hb, r2, ite_self, ite_self, r1]
    exact ⟨e1, a1, b1, rfl, rfl, r3, r4, r5, fun z => absurd (r6.symm.trans z) hg⟩
theorem p_fi {n e : Nat} {c p : Int32} {a b : Mem} (hc : c ≠ 0) (h : PGz n e a b) : (p = 0 → PGz n e a (f_X9_errsIf p c b) ∧ f_X9_errsIf p c b = b) ∧ (p ≠ 0 → f_X9_errsIf p c b = f_X9_errs c b ∧ PGz n e (f_X3_fail c a) (f_X9_errs c b) ∧ FE a (f_X3_fail c a) ∧ FGz b (f_X9_errs c b) ∧ f_X3_fail c a 1 5 ≠ 0) := by
  unfold f_X9_errsIf
  refine ⟨fun hp => ?_, fun hp => ?_⟩
  · rw [if_pos hp, b_T, ite_self]
    exact ⟨h, rfl⟩
  · obtain ⟨f1, f2, f3, f4⟩ := @p_fail n e c a b hc h
    refine ⟨?_, f1, f2, f3, f4⟩
    rw [if_neg hp, b_T, good_i]
    by_cases hb : b 0 18 = 0
    · rw [if_pos hb, if_neg (show ¬ (1 : Int32) = 0 by decide), b_T]
    · rw [if_neg hb, if_pos rfl, errs_b hb]
theorem wk_0 : WOKz 0 35 := by unfold WOKz; decide +kernel
theorem wk_1 : WOKz 1 36 := by unfold WOKz; decide +kernel
theorem wk_2 : WOKz 2 37 := by unfold WOKz; decide +kernel
theorem wk_3 : WOKz 3 38 := by unfold WOKz; decide +kernel
theorem wk_4 : WOKz 4 39 := by unfold WOKz; decide +kernel
theorem wk_5 : WOKz 5 40 := by unfold WOKz; decide +kernel
theorem wk_6 : WOKz 6 41 := by unfold WOKz; decide +kernel
theorem wk_7 : WOKz 7 42 := by unfold WOKz; decide +kernel
theorem wk_8 : WOKz 8 43 := by unfold WOKz; decide +kernel
theorem wk_9 : WOKz 9 45 := by unfold WOKz; decide +kernel
theorem wk_10 : WOKz 10 44 := by unfold WOKz; decide +kernel
theorem wk_11 : WOKz 11 46 := by unfold WOKz; decide +kernel

