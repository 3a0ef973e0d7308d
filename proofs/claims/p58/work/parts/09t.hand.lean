theorem p_hs {N n e : Nat} {a b : Mem} (hN : 402 ≤ N) (h : PGz n e a b) : ∃ (s s' q : Int32) (w : Nat), strLn w < 100 ∧ (s = 0 ∨ s = 1) ∧ (bP (f_X3_isWord N 9 a) fun x9 => if x9 = 0 then HCT N 10 (up2 a 1 3 1) else HCT N 9 (up2 a 1 3 0)) = HCT N w (up2 a 1 3 s) ∧ (bP (f_X9_isWord N 44 b) fun x10 => if x10 = 0 then (f_X9_parseHand_34 N b (0 : Int32)) else (f_X9_parseHand_34 N b (1 : Int32))) = f_X9_parseHand_63 N (up2 b 0 22 s') q ∧ (up2 a 1 3 s 1 5 = 0 → ∃ v : Int32, f_X3_isWord N w (up2 a 1 3 s) = some v ∧ (v = 0 ∨ v = 1) ∧ (v = 0 ↔ q ≠ 0)) ∧ (a 1 5 = 0 → q = 0 → s = s') := by
  have hB : ∀ s', PGz n e a (up2 b 0 22 s') := fun s' => PG_fr rfl rfl (p2_n (by omega)) (fun _ _ _ => rfl) (fun j _ _ => by rw [p2_s, u_n (by omega)]) h
  have hA : ∀ s s', PGz n e (up2 a 1 3 s) (up2 b 0 22 s') := fun s s' => PG_fr (p2_n (by omega)) (p2_n (by omega)) rfl (fun j _ _ => by rw [p2_s, u_n (by omega)]) (fun _ _ _ => rfl) (hB s')
  have h5 : ∀ s, up2 a 1 3 s 1 5 = a 1 5 := fun s => by rw [p2_s, u_n (by omega)]
  obtain ⟨v9, u9, w1, w2, w3, w4, w5⟩ := @p_word N n e 9 45 a b hN wk_9 h
  obtain ⟨v10, u10, x1, x2, x3, x4, x5⟩ := @p_word N n e 10 44 a b hN wk_10 h
  have k45 : ∀ s', ∃ u, f_X9_isWord N 45 (up2 b 0 22 s') = some u ∧ (a 1 5 = 0 → u = v9) ∧ (a 1 5 ≠ 0 → u = 0) := by
    intro s'
    obtain ⟨v, u, y1, y2, y3, y4, y5⟩ := @p_word N n e 9 45 a _ hN wk_9 (hB s')
    have : v = v9 := Option.some.inj (y1.symm.trans w1)
    exact ⟨u, y2, fun z => by rw [y4 z, this], y5⟩
  have k44 : ∀ s', ∃ u, f_X9_isWord N 44 (up2 b 0 22 s') = some u ∧ (a 1 5 = 0 → u = v10) ∧ (a 1 5 ≠ 0 → u = 0) := by
    intro s'
    obtain ⟨v, u, y1, y2, y3, y4, y5⟩ := @p_word N n e 10 44 a _ hN wk_10 (hB s')
    have : v = v10 := Option.some.inj (y1.symm.trans x1)
    exact ⟨u, y2, fun z => by rw [y4 z, this], y5⟩
  have k9 : ∀ s, a 1 5 = 0 → f_X3_isWord N 9 (up2 a 1 3 s) = some v9 := by
    intro s hg
    obtain ⟨v, u, y1, y2, y3, y4, y5⟩ := @p_word N n e 9 45 _ _ hN wk_9 (hA s 0)
    obtain ⟨u', z1, z2, z3⟩ := k45 0
    have e1 : u = u' := Option.some.inj (y2.symm.trans z1)
    rw [y1, ← y4 (by rw [h5]; exact hg), e1, z2 hg]
  have k10 : ∀ s, a 1 5 = 0 → f_X3_isWord N 10 (up2 a 1 3 s) = some v10 := by
    intro s hg
    obtain ⟨v, u, y1, y2, y3, y4, y5⟩ := @p_word N n e 10 44 _ _ hN wk_10 (hA s 0)
    obtain ⟨u', z1, z2, z3⟩ := k44 0
    have e1 : u = u' := Option.some.inj (y2.symm.trans z1)
    rw [y1, ← y4 (by rw [h5]; exact hg), e1, z2 hg]
  have n10 : ¬ (1 : Int32) = 0 := by decide
  rw [w1, x2, b_P, b_P]
  by_cases hg : a 1 5 = 0
  · rw [x4 hg]
    rcases w3 with rfl | rfl
    · rcases x3 with rfl | rfl
      · obtain ⟨ua, a1, a2, a3⟩ := k44 0
        obtain ⟨ub, b1, b2, b3⟩ := k45 0
        refine ⟨1, 0, 1, 10, wk_10.2.2.1, Or.inr rfl, by rw [if_pos rfl], ?_, fun _ => ⟨0, k10 1 hg, Or.inl rfl, by decide⟩, fun _ z => absurd z n10⟩
        rw [if_pos rfl]
        unfold f_X9_parseHand_34
        rw [b_T, a1, b_P, a2 hg, if_pos rfl, b1, b_P, b2 hg, if_pos rfl]
      · obtain ⟨ua, a1, a2, a3⟩ := k44 1
        refine ⟨1, 1, 0, 10, wk_10.2.2.1, Or.inr rfl, by rw [if_pos rfl], ?_, fun _ => ⟨1, k10 1 hg, Or.inr rfl, by decide⟩, fun _ _ => rfl⟩
        rw [if_neg n10]
        unfold f_X9_parseHand_34
        rw [b_T, a1, b_P, a2 hg, if_neg n10]
        rfl
    · rcases x3 with rfl | rfl
      · obtain ⟨ua, a1, a2, a3⟩ := k44 0
        obtain ⟨ub, b1, b2, b3⟩ := k45 0
        refine ⟨0, 0, 0, 9, wk_9.2.2.1, Or.inl rfl, by rw [if_neg n10], ?_, fun _ => ⟨1, k9 0 hg, Or.inr rfl, by decide⟩, fun _ _ => rfl⟩
        rw [if_pos rfl]
        unfold f_X9_parseHand_34
        rw [b_T, a1, b_P, a2 hg, if_pos rfl, b1, b_P, b2 hg, if_neg n10]
        rfl
      · exact absurd (w_dis (by omega) w1 x1) id
  · rw [x5 hg, if_pos rfl]
    obtain ⟨ua, a1, a2, a3⟩ := k44 0
    obtain ⟨ub, b1, b2, b3⟩ := k45 0
    have hr : f_X9_parseHand_34 N b 0 = f_X9_parseHand_63 N (up2 b 0 22 0) 1 := by
      unfold f_X9_parseHand_34
      rw [b_T, a1, b_P, a3 hg, if_pos rfl, b1, b_P, b3 hg, if_pos rfl]
    rcases w3 with rfl | rfl
    · exact ⟨1, 0, 1, 10, wk_10.2.2.1, Or.inr rfl, by rw [if_pos rfl], hr, fun z => absurd (by rw [h5] at z; exact z) hg, fun z => absurd z hg⟩
    · exact ⟨0, 0, 1, 9, wk_9.2.2.1, Or.inl rfl, by rw [if_neg n10], hr, fun z => absurd (by rw [h5] at z; exact z) hg, fun z => absurd z hg⟩
theorem s_hand {N n e c : Nat} {a b : Mem} (hN : 402 ≤ N) (hw : a 1 5 = 0 → f_X3_isWord N 8 a = some 1) (h : PSz n e c a b) : ∃ (e1 : Nat) (a1 b1 : Mem), f_X3_readHand N a = some a1 ∧ f_X9_parseHand N b = some b1 ∧ PSz n e1 c a1 b1 ∧ FRC a a1 ∧ FRR b b1 ∧ (a1 1 5 = 0 → a 1 5 = 0 ∧ (a1 1 7 = 0 ∨ e + 1 ≤ e1)) := by
  obtain ⟨g, h3, hd⟩ := h
  obtain ⟨p, c1, c2⟩ : ∃ p : Int32, f_X3_readHand N a = f_X3_readHand_14 N a p ∧ (p = 0 ↔ a 1 3 = -1) := by
    unfold f_X3_readHand
    by_cases z : a 1 3 = -1
    · exact ⟨0, if_pos z, ⟨fun _ => z, fun _ => rfl⟩⟩
    · exact ⟨1, if_neg z, ⟨fun y => absurd y (by decide), fun y => absurd y z⟩⟩
  have hpq : a 1 5 = 0 → (p = 0 ↔ nb (b 0 21) = 0) := by
    intro hg
    obtain ⟨-, -, -, -, -, -, -, -, d9, -⟩ := hd hg
    rw [c2]
    rcases d9 with ⟨z1, z2⟩ | ⟨z1, z2, -⟩
    · rw [z1, z2]; exact ⟨fun _ => rfl, fun _ => rfl⟩
    · rw [z1]
      refine ⟨fun z => ?_, fun z => absurd z (by decide)⟩
      rw [z] at z2
      exact absurd z2 (by decide)
  obtain ⟨a0, b0, r1, r2, r3, r4, r5, r6⟩ := @p_ff n e p (nb (b 0 21)) a b hpq g
  have w0 : a0 1 5 = 0 → f_X3_isWord N 8 a0 = some 1 := fun z => by
    obtain ⟨y1, -⟩ := r6 z
    subst y1
    exact hw z
  have hcc : f_X3_readHand N a = bP (f_X3_takeWord N 8 a0) fun a6 => bP (f_X3_isWord N 9 a6) fun x9 => if x9 = 0 then HCT N 10 (up2 a6 1 3 1) else HCT N 9 (up2 a6 1 3 0) := by
    rw [c1]
    unfold f_X3_readHand_14
    rw [r1, b_T]
    rfl
  have hrr : f_X9_parseHand N b = bP (f_X9_goOn N (up2 b0 0 21 1)) fun b7 => bP (f_X9_isWord N 44 b7) fun x10 => if x10 = 0 then (f_X9_parseHand_34 N b7 (0 : Int32)) else (f_X9_parseHand_34 N b7 (1 : Int32)) := by
    unfold f_X9_parseHand
    rw [r2, b_T, b_T]
  rw [hcc, hrr]
  have q1' : ∀ k, k ≠ 0 → up2 b0 0 21 1 k = b0 k := fun k z => p2_n z
  have q2' : ∀ j, j ≠ 21 → up2 b0 0 21 1 0 j = b0 0 j := fun j z => by rw [p2_s, u_n z]
  have q3' : up2 b0 0 21 1 0 21 = 1 := by rw [p2_s, u_s]
  clear hcc hrr
  generalize up2 b0 0 21 1 = bq at q1' q2' q3' ⊢
  have p0 : PGz n e a0 bq := PG_fr rfl rfl (q1' 4 (by omega)) (fun _ _ _ => rfl) (fun j _ _ => q2' j (by omega)) r3
  obtain ⟨e1, a1, b1, t1, t2, t3, t4, t5, t6, t7, -⟩ := @p_tk N n e 8 a0 bq hN wk_8.2.2.1 w0 p0
  rw [t1, b_P, t2, b_P]
  obtain ⟨s, s', q, w, o1, o2, o3, o4, o5, o6⟩ := @p_hs N n e1 a1 b1 hN t3
  rw [o3, o4]
  have s1' : ∀ k, k ≠ 1 → up2 a1 1 3 s k = a1 k := fun k z => p2_n z
  have s2' : ∀ j, j ≠ 3 → up2 a1 1 3 s 1 j = a1 1 j := fun j z => by rw [p2_s, u_n z]
  have s3' : up2 a1 1 3 s 1 3 = s := by rw [p2_s, u_s]
  have r1' : ∀ k, k ≠ 0 → up2 b1 0 22 s' k = b1 k := fun k z => p2_n z
  have r2' : ∀ j, j ≠ 22 → up2 b1 0 22 s' 0 j = b1 0 j := fun j z => by rw [p2_s, u_n z]
  have r3' : up2 b1 0 22 s' 0 22 = s' := by rw [p2_s, u_s]
  clear o3 o4
  generalize up2 a1 1 3 s = aa at s1' s2' s3' o5 ⊢
  generalize up2 b1 0 22 s' = bb at r1' r2' r3' ⊢
  have p1 : PGz n e1 aa bb := PG_fr (s1' 2 (by omega)) (s1' 3 (by omega)) (r1' 4 (by omega)) (fun j _ _ => s2' j (by omega)) (fun j _ _ => r2' j (by omega)) t3
  obtain ⟨e3, a3, b3, v1, v2, v3, v4, v5, v6, v7, v8⟩ := @p_hn N n e1 w q aa bb hN o1 o5 p1
  rw [v1, v2]
  have fa := FE_t r4 t4
  have hak : ∀ k, k ≠ 1 → a3 k = a k := fun k z => by rw [v4 k z, s1' k z]; exact fa.1 k z
  have hbk : ∀ k, k ≠ 0 → b3 k = b k := fun k z => by rw [v6 k z, r1' k z, t5.1 k z, q1' k z, r5.1 k z]
  have hbj : ∀ j, (j < 14 ∨ 19 < j) → j ≠ 21 → j ≠ 22 → j ≠ 23 → b3 0 j = b 0 j := fun j z z1 z2 z3 => by rw [v7 j z z3, r2' j z2, t5.2 j z, q2' j z1, r5.2 j z]
  have good : a3 1 5 = 0 → a 1 5 = 0 ∧ s = s' ∧ (a3 1 7 = 0 ∨ e + 1 ≤ e3) ∧ a3 1 4 = b3 0 23 ∧ 1 ≤ (b3 0 23).toInt ∧ (b3 0 23).toInt ≤ 9999 := by
    intro z
    obtain ⟨y1, y2, y3, y4⟩ := v8 z
    rw [s2' 5 (by omega)] at y1
    have y5 := y1
    rw [t6] at y1
    obtain ⟨y6, -⟩ := r6 y1
    rw [y6] at y1
    exact ⟨y1, o6 y5 y2, y3.imp id fun z => by omega, y4⟩
  refine ⟨e3, a3, b3, rfl, rfl, ⟨v3, ?_, fun z => ?_⟩, fun k z1 z4 z5 => hak k z1, ⟨fun k z0 z2 => hbk k z0, fun j z => hbj j (by omega) (by omega) (by omega) (by omega)⟩, fun z => ?_⟩
  · rw [hbj 3 (by omega) (by omega) (by omega) (by omega)]; exact h3
  · obtain ⟨y1, y2, y3, y4⟩ := good z
    obtain ⟨d1, d2, d3, d4, d5, d6, d7, d8, d9, d10⟩ := hd y1
    have h21 : b3 0 21 = 1 := by rw [v7 21 (by omega) (by omega), r2' 21 (by omega), t5.2 21 (by omega)]; exact q3'
    have h22 : b3 0 22 = s' := by rw [v7 22 (by omega) (by omega)]; exact r3'
    have h13 : a3 1 3 = s := by rw [v5 3 (by omega)]; exact s3'
    have h12 : a3 1 2 = a 1 2 := by rw [v5 2 (by omega), s2' 2 (by omega)]; exact fa.2 2 (by omega)
    unfold DR PNN at *
    rw [hak 4 (by omega), hak 5 (by omega), h12, h13, hbk 2 (by omega), h21, h22, hbj 20 (by omega) (by omega) (by omega) (by omega)]
    exact ⟨d1, d2, d3, d4, d5, d6, d7, d8, Or.inr ⟨rfl, o2, y2, y4⟩, d10⟩
  · obtain ⟨y1, y2, y3, y4⟩ := good z
    exact ⟨y1, y3⟩

