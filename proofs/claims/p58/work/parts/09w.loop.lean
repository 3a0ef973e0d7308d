theorem s_step {N n e c : Nat} {a b : Mem} (hN : 402 ≤ N) (hg : a 1 5 = 0) (hk : a 1 7 ≠ 0) (h : PSz n e c a b) : ∃ (e1 c1 : Nat) (a1 b1 : Mem), (∀ (fu : Nat) (x : Int32), ¬ (400 : Int32) ≤ x → f_X3_readText_24 N (fu + 1) x a = f_X3_readText_24 N fu (x + (1 : Int32)) a1) ∧ f_X9_parseStatement N b = some b1 ∧ PSz n e1 c1 a1 b1 ∧ FRC a a1 ∧ FRR b b1 ∧ (a1 1 5 = 0 → (a1 1 7 = 0 ∨ e + 1 ≤ e1) ∧ c ≤ c1 ∧ (f_X3_isWord N 0 a = some 1 → 1 ≤ c1)) := by
  have n10 : ¬ (1 : Int32) = 0 := by decide
  have no : ∀ {P : Prop}, f_X3_isWord N 0 a = some 0 → f_X3_isWord N 0 a = some 1 → P := fun z1 z2 => absurd (Option.some.inj (z1.symm.trans z2)) (by decide)
  obtain ⟨v0, u0, p0, q0, k0, l0, -⟩ := @p_word N n e 0 35 a b hN wk_0 h.1
  obtain ⟨v6, u6, p6, q6, k6, l6, -⟩ := @p_word N n e 6 41 a b hN wk_6 h.1
  obtain ⟨v7, u7, p7, q7, k7, l7, -⟩ := @p_word N n e 7 42 a b hN wk_7 h.1
  obtain ⟨v8, u8, p8, q8, k8, l8, -⟩ := @p_word N n e 8 43 a b hN wk_8 h.1
  obtain ⟨v11, u11, p11, q11, k11, l11, -⟩ := @p_word N n e 11 46 a b hN wk_11 h.1
  rw [l0 hg] at q0
  rw [l6 hg] at q6
  rw [l7 hg] at q7
  rw [l8 hg] at q8
  rw [l11 hg] at q11
  unfold f_X9_parseStatement
  rcases k0 with rfl | rfl
  · rcases k6 with rfl | rfl
    · rcases k7 with rfl | rfl
      · rcases k8 with rfl | rfl
        · rcases k11 with rfl | rfl
          · obtain ⟨f1, f2, f3, f4⟩ := @p_fail n e 1 a b (by decide) h.1
            refine ⟨e, c, f_X3_fail 1 a, f_X9_errs 1 b, fun fu x hx => ?_, ?_, ⟨f1, by rw [f3.2 3 (by omega)]; exact h.2.1, fun z => absurd z f4⟩, FE_C f2, FG_R f3, fun z => absurd z f4⟩
            · rw [f_X3_readText_24_s, if_neg hx, if_pos hg, if_neg hk, p0, b_P, if_pos rfl, p6, b_P, if_pos rfl, p7, b_P, if_pos rfl, p8, b_P, if_pos rfl, p11, b_P, if_pos rfl, b_T, b_T]
            · rw [q0, b_P, if_pos rfl, q6, b_P, if_pos rfl, q7, b_P, if_pos rfl, q8, b_P, if_pos rfl, q11, b_P, if_pos rfl, b_T]
          · obtain ⟨e1, a1, b1, r1, r2, r3, r4, r5, r6⟩ := @s_claims N n e c a b hN (fun _ => p11) h
            refine ⟨e1, c, a1, b1, fun fu x hx => ?_, ?_, r3, r4, r5, fun z => ⟨(r6 z).2, Nat.le_refl c, fun y => no p0 y⟩⟩
            · rw [f_X3_readText_24_s, if_neg hx, if_pos hg, if_neg hk, p0, b_P, if_pos rfl, p6, b_P, if_pos rfl, p7, b_P, if_pos rfl, p8, b_P, if_pos rfl, p11, b_P, if_neg n10, r1, b_P, b_T]
            · rw [q0, b_P, if_pos rfl, q6, b_P, if_pos rfl, q7, b_P, if_pos rfl, q8, b_P, if_pos rfl, q11, b_P, if_neg n10, r2, b_P]
        · obtain ⟨e1, a1, b1, r1, r2, r3, r4, r5, r6⟩ := @s_hand N n e c a b hN (fun _ => p8) h
          refine ⟨e1, c, a1, b1, fun fu x hx => ?_, ?_, r3, r4, r5, fun z => ⟨(r6 z).2, Nat.le_refl c, fun y => no p0 y⟩⟩
          · rw [f_X3_readText_24_s, if_neg hx, if_pos hg, if_neg hk, p0, b_P, if_pos rfl, p6, b_P, if_pos rfl, p7, b_P, if_pos rfl, p8, b_P, if_neg n10, r1, b_P, b_T]
          · rw [q0, b_P, if_pos rfl, q6, b_P, if_pos rfl, q7, b_P, if_pos rfl, q8, b_P, if_neg n10, r2, b_P]
      · obtain ⟨e1, a1, b1, r1, r2, r3, r4, r5, r6⟩ := @s_session N n e c a b hN (fun _ => p7) h
        refine ⟨e1, c, a1, b1, fun fu x hx => ?_, ?_, r3, r4, r5, fun z => ⟨(r6 z).2, Nat.le_refl c, fun y => no p0 y⟩⟩
        · rw [f_X3_readText_24_s, if_neg hx, if_pos hg, if_neg hk, p0, b_P, if_pos rfl, p6, b_P, if_pos rfl, p7, b_P, if_neg n10, r1, b_P, b_T]
        · rw [q0, b_P, if_pos rfl, q6, b_P, if_pos rfl, q7, b_P, if_neg n10, r2, b_P]
    · obtain ⟨e1, a1, b1, r1, r2, r3, r4, r5, r6⟩ := @s_extra N n e c a b hN (fun _ => p6) h
      refine ⟨e1, c, a1, b1, fun fu x hx => ?_, ?_, r3, r4, r5, fun z => ⟨(r6 z).2, Nat.le_refl c, fun y => no p0 y⟩⟩
      · rw [f_X3_readText_24_s, if_neg hx, if_pos hg, if_neg hk, p0, b_P, if_pos rfl, p6, b_P, if_neg n10, r1, b_P, b_T]
      · rw [q0, b_P, if_pos rfl, q6, b_P, if_neg n10, r2, b_P]
  · obtain ⟨e1, a1, b1, r1, r2, r3, r4, r5, r6⟩ := @s_period N n e c a b hN hg p0 h
    refine ⟨e1, c + 1, a1, b1, fun fu x hx => ?_, ?_, r3, r4, r5, fun z => ⟨r6 z, by omega, fun _ => by omega⟩⟩
    · rw [f_X3_readText_24_s, if_neg hx, if_pos hg, if_neg hk, p0, b_P, if_neg n10, r1, b_P, b_T]
    · rw [q0, b_P, if_neg n10, r2, b_P]
theorem s_loop {N n : Nat} (hN : 402 ≤ N) : ∀ (d i fu fu' e c : Nat) (a b : Mem), i + d = 400 → PSz n e c a b → (a 1 5 = 0 → (a 1 7 = 0 ∨ i + 1 ≤ e) ∧ (1 ≤ c ∨ f_X3_isWord N 0 a = some 1)) → d + 1 ≤ fu → d + 1 ≤ fu' → ∃ (e1 c1 : Nat) (a1 b1 : Mem), f_X3_readText_24 N fu (nI i) a = some (if a1 1 5 = 0 then 1 else 0, a1) ∧ f_X9_load_79 N fu' b = f_X9_load_100 N b1 ∧ PSz n e1 c1 a1 b1 ∧ FRC a a1 ∧ FRR b b1 ∧ (a1 1 5 = 0 → 1 ≤ c1) := by
  have e400 : (400 : Int32).toInt = 400 := rfl
  have n10 : ¬ (1 : Int32) = 0 := by decide
  have stop : ∀ (e c fu fu' : Nat) (x : Int32) (a b : Mem), PSz n e c a b → (a 1 5 = 0 → a 1 7 = 0 ∧ (1 ≤ c ∨ f_X3_isWord N 0 a = some 1)) → ∃ (e1 c1 : Nat) (a1 b1 : Mem), f_X3_readText_24 N (fu + 1) x a = some (if a1 1 5 = 0 then 1 else 0, a1) ∧ f_X9_load_79 N (fu' + 1) b = f_X9_load_100 N b1 ∧ PSz n e1 c1 a1 b1 ∧ FRC a a1 ∧ FRR b b1 ∧ (a1 1 5 = 0 → 1 ≤ c1) := by
    intro e c fu fu' x a b h hi
    rw [f_X3_readText_24_s, f_X9_load_79_s, good_i]
    simp only [b_T]
    by_cases hg : a 1 5 = 0
    · obtain ⟨z1, z2⟩ := hi hg
      have hb : b 0 18 = 0 := by rw [← h.1.2.1]; exact hg
      obtain ⟨s, -, -, -, -, -, -, tk⟩ := h.1.2.2.2 hg
      have hb16 : b 0 16 = 0 := by
        rcases tk with ⟨-, z⟩ | ⟨z, -⟩ | ⟨z, -⟩ | ⟨z, -⟩
        · exact z
        · exact absurd (z.symm.trans z1) (by decide)
        · exact absurd (z.symm.trans z1) (by decide)
        · exact absurd (z.symm.trans z1) (by decide)
      have hc : 1 ≤ c := by
        rcases z2 with z2 | z2
        · exact z2
        · exfalso
          unfold f_X3_isWord at z2
          rw [if_neg (show ¬ a 1 7 = 2 by rw [z1]; decide)] at z2
          exact absurd (Option.some.inj z2) (by decide)
      have e136 : f_X3_readText_136 N a = some (1, a) := if_pos hg
      rw [if_pos hg, if_pos z1, ite_self, e136, if_pos hb, if_neg n10, if_pos hb16]
      exact ⟨e, c, a, b, by rw [if_pos hg], rfl, h, fun k _ _ _ => rfl, ⟨fun k _ _ => rfl, fun j _ => rfl⟩, fun _ => hc⟩
    · have e136 : f_X3_readText_136 N a = some (0, a) := if_neg hg
      rw [if_neg hg, ite_self, e136, if_neg (show ¬ b 0 18 = 0 by rw [← h.1.2.1]; exact hg), if_pos rfl]
      exact ⟨e, c, a, b, by rw [if_neg hg], rfl, h, fun k _ _ _ => rfl, ⟨fun k _ _ => rfl, fun j _ => rfl⟩, fun z => absurd z hg⟩
  intro d
  induction d with
  | zero =>
    intro i fu fu' e c a b hi h hinv hf hf'
    obtain ⟨f, rfl⟩ : ∃ f, fu = f + 1 := ⟨fu - 1, by omega⟩
    obtain ⟨f', rfl⟩ : ∃ f, fu' = f + 1 := ⟨fu' - 1, by omega⟩
    refine stop e c f f' (nI i) a b h fun hg => ?_
    obtain ⟨z1, z2⟩ := hinv hg
    obtain ⟨s, l1, l2, -⟩ := h.1.2.2.2 hg
    have hn := h.1.1.1
    rcases z1 with z1 | z1
    · exact ⟨z1, z2⟩
    · exfalso
      omega
  | succ d ih =>
    intro i fu fu' e c a b hi h hinv hf hf'
    obtain ⟨f, rfl⟩ : ∃ f, fu = f + 1 := ⟨fu - 1, by omega⟩
    obtain ⟨f', rfl⟩ : ∃ f, fu' = f + 1 := ⟨fu' - 1, by omega⟩
    by_cases hs : a 1 5 = 0 ∧ a 1 7 ≠ 0
    · obtain ⟨hg, hk⟩ := hs
      obtain ⟨z1, z2⟩ := hinv hg
      have hb : b 0 18 = 0 := by rw [← h.1.2.1]; exact hg
      obtain ⟨s, -, -, -, -, -, -, tk⟩ := h.1.2.2.2 hg
      have hb16 : ¬ b 0 16 = 0 := by
        rcases tk with ⟨z, -⟩ | ⟨-, z⟩ | ⟨-, z, -⟩ | ⟨-, z, -⟩
        · exact absurd z hk
        · rw [z]; decide
        · rw [z]; decide
        · rw [z]; decide
      obtain ⟨e1, c1, a1, b1, r1, r2, r3, r4, r5, r6⟩ := @s_step N n e c a b hN hg hk h
      have hx : ¬ (400 : Int32) ≤ nI i := by rw [z_le, z_nI (by omega), e400]; omega
      rw [r1 f (nI i) hx, nI_1, f_X9_load_79_s, good_i, if_pos hb, b_T, if_neg n10, if_neg hb16, r2, b_P]
      have hie : i + 1 ≤ e := by
        rcases z1 with z1 | z1
        · exact absurd z1 hk
        · exact z1
      obtain ⟨e2, c2, a2, b2, w1, w2, w3, w4, w5, w6⟩ := ih (i + 1) f f' e1 c1 a1 b1 (by omega) r3 (fun z => by
        obtain ⟨y1, y2, y3⟩ := r6 z
        refine ⟨y1.imp id fun y => by omega, Or.inl ?_⟩
        rcases z2 with z2 | z2
        · omega
        · exact y3 z2) (by omega) (by omega)
      exact ⟨e2, c2, a2, b2, w1, w2, w3, FRC_t r4 w4, FRR_t r5 w5, w6⟩
    · refine stop e c f f' (nI i) a b h fun hg => ?_
      obtain ⟨z1, z2⟩ := hinv hg
      exact ⟨Classical.byContradiction fun hk => hs ⟨hg, hk⟩, z2⟩

