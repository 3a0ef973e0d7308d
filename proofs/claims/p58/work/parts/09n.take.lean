def FE (a a1 : Mem) : Prop := (∀ k, k ≠ 1 → a1 k = a k) ∧ ∀ j, (j < 5 ∨ 10 < j) → a1 1 j = a 1 j
def FGz (b b1 : Mem) : Prop := (∀ k, k ≠ 0 → b1 k = b k) ∧ ∀ j, (j < 14 ∨ 19 < j) → b1 0 j = b 0 j
theorem FE_i {a : Mem} : FE a a := ⟨fun _ _ => rfl, fun _ _ => rfl⟩
theorem FG_i {b : Mem} : FGz b b := ⟨fun _ _ => rfl, fun _ _ => rfl⟩
theorem FE_t {a a1 a2 : Mem} (h : FE a a1) (h2 : FE a1 a2) : FE a a2 := ⟨fun k z => (h2.1 k z).trans (h.1 k z), fun j z => (h2.2 j z).trans (h.2 j z)⟩
theorem FG_t {b b1 b2 : Mem} (h : FGz b b1) (h2 : FGz b1 b2) : FGz b b2 := ⟨fun k z => (h2.1 k z).trans (h.1 k z), fun j z => (h2.2 j z).trans (h.2 j z)⟩
theorem FA_E {a a1 : Mem} (h : FA a a1) : FE a a1 := ⟨h.1, fun j z => h.2 j (by omega) (by omega) (by omega) (by omega)⟩
theorem FB_G {b b1 : Mem} (h : FB b b1) : FGz b b1 := ⟨h.1, fun j z => h.2 j (by omega) (by omega) (by omega) (by omega)⟩
def PGz (n e : Nat) (a b : Mem) : Prop := BYT n a b ∧ a 1 5 = b 0 18 ∧ a 1 6 = b 0 19 ∧ (a 1 5 = 0 → TOK n e a b)
theorem PG_fr {n e : Nat} {a b a1 b1 : Mem} (h2 : a1 2 = a 2) (h3 : a1 3 = a 3) (h4 : b1 4 = b 4) (hj : ∀ j, 5 ≤ j → j ≤ 10 → a1 1 j = a 1 j) (hi : ∀ j, 13 ≤ j → j ≤ 19 → b1 0 j = b 0 j) (h : PGz n e a b) : PGz n e a1 b1 := by
  obtain ⟨g1, g2, g3, g4⟩ := h
  unfold PGz BYT TOK TKz at *
  rw [h2, h3, h4, hj 5 (by omega) (by omega), hj 6 (by omega) (by omega), hj 7 (by omega) (by omega), hj 8 (by omega) (by omega), hj 9 (by omega) (by omega), hj 10 (by omega) (by omega), hi 13 (by omega) (by omega), hi 14 (by omega) (by omega), hi 15 (by omega) (by omega), hi 16 (by omega) (by omega), hi 17 (by omega) (by omega), hi 18 (by omega) (by omega), hi 19 (by omega) (by omega)]
  exact ⟨g1, g2, g3, g4⟩
theorem good_i {b : Mem} : f_X9_good b = if b 0 18 = 0 then 1 else 0 := rfl
theorem errs_g {c : Int32} {b : Mem} (h : b 0 18 = 0) : f_X9_errs c b = up2 (up2 b 0 18 c) 0 19 (b 0 15) := by
  unfold f_X9_errs
  rw [good_i, if_pos h, b_T, if_neg (show ¬ (1 : Int32) = 0 by decide), b_T, b_T, p2_s, u_n (by omega)]
theorem errs_b {c : Int32} {b : Mem} (h : b 0 18 ≠ 0) : f_X9_errs c b = b := by
  unfold f_X9_errs
  rw [good_i, if_neg h, b_T, if_pos rfl]
theorem fail_g {c : Int32} {a : Mem} (h : a 1 5 = 0) : f_X3_fail c a = up2 (up2 a 1 5 c) 1 6 (a 1 8) := by
  unfold f_X3_fail
  rw [if_pos h, b_T, b_T, p2_s, u_n (by omega)]
theorem fail_b {c : Int32} {a : Mem} (h : a 1 5 ≠ 0) : f_X3_fail c a = a := by
  unfold f_X3_fail
  rw [if_neg h]
theorem p_fail {n e : Nat} {c : Int32} {a b : Mem} (hc : c ≠ 0) (h : PGz n e a b) : PGz n e (f_X3_fail c a) (f_X9_errs c b) ∧ FE a (f_X3_fail c a) ∧ FGz b (f_X9_errs c b) ∧ f_X3_fail c a 1 5 ≠ 0 := by
  obtain ⟨g1, g2, g3, g4⟩ := h
  by_cases hg : a 1 5 = 0
  · obtain ⟨s, -, -, t1, t2, -⟩ := g4 hg
    rw [fail_g hg, errs_g (by rw [← g2]; exact hg)]
    have fa : FE a (up2 (up2 a 1 5 c) 1 6 (a 1 8)) := ⟨fun k z => by rw [p2_n z, p2_n z], fun j z => by rw [p2_s, u_n (by omega), p2_s, u_n (by omega)]⟩
    have fb : FGz b (up2 (up2 b 0 18 c) 0 19 (b 0 15)) := ⟨fun k z => by rw [p2_n z, p2_n z], fun j z => by rw [p2_s, u_n (by omega), p2_s, u_n (by omega)]⟩
    have a5 : up2 (up2 a 1 5 c) 1 6 (a 1 8) 1 5 = c := by rw [p2_s, u_n (by omega), p2_s, u_s]
    have b18 : up2 (up2 b 0 18 c) 0 19 (b 0 15) 0 18 = c := by rw [p2_s, u_n (by omega), p2_s, u_s]
    refine ⟨⟨?_, by rw [a5, b18], by rw [p2_s, u_s, p2_s, u_s, t1, t2], fun z => absurd (a5.symm.trans z) hc⟩, fa, fb, by rw [a5]; exact hc⟩
    obtain ⟨q1, q2, q3, q4⟩ := g1
    refine ⟨q1, by rw [fa.1 2 (by omega)]; exact q2, by rw [fb.2 13 (by omega)]; exact q3, fun j hj => ?_⟩
    rw [fa.1 3 (by omega), fb.1 4 (by omega)]
    exact q4 j hj
  · rw [fail_b hg, errs_b (by rw [← g2]; exact hg)]
    exact ⟨⟨g1, g2, g3, g4⟩, FE_i, FG_i, hg⟩
def GOC (N : Nat) (a : Mem) : Option Mem := if (a 1 5) = 0 then (bP (f_X3_readToken N a) fun a7 => some a7) else (some a)
theorem p_go {N n e : Nat} {a b : Mem} (hN : 402 ≤ N) (h : PGz n e a b) : ∃ (e1 : Nat) (a1 b1 : Mem), GOC N a = some a1 ∧ f_X9_goOn N b = some b1 ∧ PGz n e1 a1 b1 ∧ FE a a1 ∧ FGz b b1 ∧ a1 1 5 = a 1 5 ∧ e ≤ e1 ∧ (a 1 5 = 0 → a1 1 7 = 0 ∨ e + 1 ≤ e1) := by
  obtain ⟨g1, g2, g3, g4⟩ := h
  unfold GOC f_X9_goOn
  rw [good_i, b_T]
  by_cases hg : a 1 5 = 0
  · obtain ⟨s, l1, l2, t1, t2, t3, t4, -⟩ := g4 hg
    obtain ⟨e1, a1, b1, r1, r2, f1, f2, w, m1, m2⟩ := @scan_tok N n e a b hN g1 l2 t3 t4
    rw [if_pos hg, if_pos (show b 0 18 = 0 by rw [← g2]; exact hg), if_neg (show ¬ (1 : Int32) = 0 by decide), r1, r2, b_P, b_P]
    have a5 : a1 1 5 = a 1 5 := f1.2 5 (by omega) (by omega) (by omega) (by omega)
    exact ⟨e1, a1, b1, rfl, rfl, ⟨BYT_fr f1 f2 g1, by rw [a5, f2.2 18 (by omega) (by omega) (by omega) (by omega)]; exact g2, by rw [f1.2 6 (by omega) (by omega) (by omega) (by omega), f2.2 19 (by omega) (by omega) (by omega) (by omega)]; exact g3, fun _ => w⟩, FA_E f1, FB_G f2, a5, m1, fun _ => m2⟩
  · rw [if_neg hg, if_neg (show ¬ b 0 18 = 0 by rw [← g2]; exact hg), if_pos rfl]
    exact ⟨e, a, b, rfl, rfl, ⟨g1, g2, g3, g4⟩, FE_i, FG_i, rfl, Nat.le_refl e, fun z => absurd z hg⟩
def WOKz (w r : Nat) : Prop := sBy w = sBy r ∧ 0 < strLn w ∧ strLn w < 100 ∧ ∀ j, j < strLn w → 97 ≤ ((sBy w).getD j 'a').toNat ∧ ((sBy w).getD j 'a').toNat ≤ 122
theorem x255 : ∀ k, k < 256 → ((nI k - 128) &&& 255) = nI ((k + 128) % 256) := by decide +kernel
theorem x_raw {x : Int32} {c : Nat} (h1 : -128 ≤ x.toInt) (h2 : x.toInt ≤ 127) (hc : c ≤ 122) : (x &&& 255 = nI c) ↔ x = nI c := by
  have e128 : (128 : Int32).toInt = 128 := rfl
  have hk : (x.toInt + 128).toNat < 256 := by omega
  have hx : x = nI (x.toInt + 128).toNat - 128 := by
    rw [z_eq, z_sub (by rw [z_nI (by omega), e128]; omega) (by rw [z_nI (by omega), e128]; omega), z_nI (by omega), e128]
    omega
  have h3 : x &&& 255 = nI (((x.toInt + 128).toNat + 128) % 256) := by
    have := x255 _ hk
    rw [← hx] at this
    exact this
  rw [h3, nI_inj2 (by omega) (by omega), z_eq, z_nI (by omega)]
  omega
theorem cw_loop {N w : Nat} {a : Mem} (hw : strLn w < 100) : ∀ (d j fu : Nat), j + d = strLn w → d + 1 ≤ fu → ∃ v, f_X3_isWord_28 N w a fu (nI j) = some v ∧ (v = 0 ∨ v = 1) := by
  intro d
  induction d with
  | zero =>
    intro j fu hj hf
    obtain ⟨f, rfl⟩ : ∃ f, fu = f + 1 := ⟨fu - 1, by omega⟩
    rw [f_X3_isWord_28_s, b_T, if_pos ((nI_lei (by omega) (by omega)).2 (by omega))]
    exact ⟨1, rfl, Or.inr rfl⟩
  | succ d ih =>
    intro j fu hj hf
    obtain ⟨f, rfl⟩ : ∃ f, fu = f + 1 := ⟨fu - 1, by omega⟩
    rw [f_X3_isWord_28_s, b_T, if_neg (fun z => by have := (nI_lei (by omega) (by omega)).1 z; omega), b_T, z_cN (by omega) (by omega), b_T, b_T, nI_1]
    by_cases hq : f_X0_byteAt (a 1 8 + nI j) a = strCh w (nI j).toNatClampNeg
    · rw [if_pos hq]
      exact ih (j + 1) f (by omega) (by omega)
    · rw [if_neg hq]
      exact ⟨0, rfl, Or.inl rfl⟩
theorem cw_tot {N w : Nat} {a : Mem} (hw : strLn w < 100) (hN : 101 ≤ N) : ∃ v, f_X3_isWord N w a = some v ∧ (v = 0 ∨ v = 1) := by
  unfold f_X3_isWord
  simp only [b_T]
  by_cases h1 : a 1 7 = 2
  · rw [if_pos h1]
    by_cases h2 : a 1 9 - a 1 8 = nI (strLn w)
    · rw [if_pos h2]
      exact cw_loop hw (strLn w) 0 N (by omega) (by omega)
    · rw [if_neg h2]
      exact ⟨0, rfl, Or.inl rfl⟩
  · rw [if_neg h1]
    exact ⟨0, rfl, Or.inl rfl⟩
theorem rw_0 {N r : Nat} {b : Mem} (hr : 0 < strLn r) (hr2 : strLn r < 100) (hN : 1 ≤ N) : f_X9_isWord_35 N r b = some 0 := by
  unfold f_X9_isWord_35 f_X9_isWord_36
  obtain ⟨f, hf⟩ : ∃ f, N = f + 1 := ⟨N - 1, by omega⟩
  have e : f_X9_isWord_39 N r b N 0 0 = f_X9_isWord_39 N r b (f + 1) 0 0 := by rw [← hf]
  rw [e, f_X9_isWord_39_s, b_T, if_neg (show ¬ nI (strLn r) ≤ 0 from fun z => by have := (nI_lei (x := strLn r) (y := 0) (by omega) (by omega)).1 z; omega), if_pos rfl]
theorem w_loop {N n s e w r : Nat} {a b : Mem} (hk : WOKz w r) (h : BYT n a b) (h8 : a 1 8 = nI s) (h15 : b 0 15 = nI s) (he : s + strLn w ≤ n) : ∀ (d j fu fu' : Nat), j + d = strLn w → d + 1 ≤ fu → d + 2 ≤ fu' → ∃ v, f_X3_isWord_28 N w a fu (nI j) = some v ∧ f_X9_isWord_39 N r b fu' 1 (nI j) = some v ∧ (v = 0 ∨ v = 1) := by
  obtain ⟨k1, k2, k3, k4⟩ := hk
  have hL : strLn r = strLn w := by unfold strLn; rw [k1]
  have hn := h.1
  intro d
  induction d with
  | zero =>
    intro j fu fu' hj hf hf'
    obtain ⟨f, rfl⟩ : ∃ f, fu = f + 1 := ⟨fu - 1, by omega⟩
    obtain ⟨f', rfl⟩ : ∃ f, fu' = f + 1 := ⟨fu' - 1, by omega⟩
    have hle : nI (strLn w) ≤ nI j := (nI_lei (by omega) (by omega)).2 (by omega)
    rw [f_X3_isWord_28_s, f_X9_isWord_39_s, hL]
    simp only [b_T]
    rw [if_pos hle, if_pos hle]
    exact ⟨1, rfl, rfl, Or.inr rfl⟩
  | succ d ih =>
    intro j fu fu' hj hf hf'
    obtain ⟨f, rfl⟩ : ∃ f, fu = f + 1 := ⟨fu - 1, by omega⟩
    obtain ⟨f', rfl⟩ : ∃ f, fu' = f + 1 := ⟨fu' - 1, by omega⟩
    have hle : ¬ nI (strLn w) ≤ nI j := fun z => by have := (nI_lei (by omega) (by omega)).1 z; omega
    have hs : nI s + nI j = nI (s + j) := by
      rw [z_eq, z_add (by rw [z_nI (by omega), z_nI (by omega)]; omega) (by rw [z_nI (by omega), z_nI (by omega)]; omega), z_nI (by omega), z_nI (by omega), z_nI (by omega)]
      omega
    have hc : strCh r j = strCh w j := by unfold strCh; rw [k1]
    obtain ⟨q3, q4⟩ := k4 j (by omega)
    have hch : strCh w j = nI ((sBy w).getD j 'a').toNat := rfl
    obtain ⟨z1, z2, z3⟩ := h.2.2.2 (s + j) (by omega)
    have hx := @x_raw (b 4 (s + j)) _ z2 z3 q4
    have hb1 : f_X0_byteAt (nI (s + j)) a = b 4 (s + j) &&& 255 := by rw [(@b_at N n (s + j) a b h (by omega)).1, b_by.1]
    rw [f_X3_isWord_28_s, f_X9_isWord_39_s, hL]
    simp only [b_T]
    rw [if_neg hle, if_neg hle, if_neg (show ¬ (1 : Int32) = 0 by decide), h8, h15, hs, hb1, z_cN (by omega) (by omega), z_cN (by omega) (by omega), z_cN (by omega) (by omega), z_tN (by omega), z_tN (by omega), hc, hch, nI_1]
    by_cases hq : b 4 (s + j) = nI ((sBy w).getD j 'a').toNat
    · rw [if_pos hq, if_pos (hx.2 hq)]
      exact ih (j + 1) f f' (by omega) (by omega) (by omega)
    · rw [if_neg hq, if_neg (fun z => hq (hx.1 z))]
      obtain ⟨f'', rfl⟩ : ∃ f, f' = f + 1 := ⟨f' - 1, by omega⟩
      refine ⟨0, rfl, ?_, Or.inl rfl⟩
      rw [f_X9_isWord_39_s, b_T]
      by_cases h9 : nI (strLn r) ≤ nI (j + 1)
      · rw [if_pos h9]
      · rw [if_neg h9, if_pos rfl]
theorem p_word {N n e w r : Nat} {a b : Mem} (hN : 402 ≤ N) (hk : WOKz w r) (h : PGz n e a b) : ∃ v u : Int32, f_X3_isWord N w a = some v ∧ f_X9_isWord N r b = some u ∧ (v = 0 ∨ v = 1) ∧ (a 1 5 = 0 → u = v) ∧ (a 1 5 ≠ 0 → u = 0) := by
  obtain ⟨g1, g2, g3, g4⟩ := h
  have hL : strLn r = strLn w := by unfold strLn; rw [hk.1]
  have hn := g1.1
  obtain ⟨k1, k2, k3, k4⟩ := hk
  have r0 := @rw_0 N r b (by omega) (by omega) (by omega)
  by_cases hg : a 1 5 = 0
  · have hb : b 0 18 = 0 := by rw [← g2]; exact hg
    obtain ⟨s, l1, l2, t1, t2, t3, t4, tk⟩ := g4 hg
    by_cases hw7 : a 1 7 = 2
    · have hb16 : b 0 16 = 1 := by
        rcases tk with ⟨z, -⟩ | ⟨-, z⟩ | ⟨z, -⟩ | ⟨z, -⟩
        · exact absurd (z.symm.trans hw7) (by decide)
        · exact z
        · exact absurd (z.symm.trans hw7) (by decide)
        · exact absurd (z.symm.trans hw7) (by decide)
      have hd : nI e - nI s = nI (e - s) := by
        rw [z_eq, z_sub (by rw [z_nI (by omega), z_nI (by omega)]; omega) (by rw [z_nI (by omega), z_nI (by omega)]; omega), z_nI (by omega), z_nI (by omega), z_nI (by omega)]
        omega
      unfold f_X3_isWord f_X9_isWord
      simp only [b_T]
      rw [good_i, if_pos hb, if_neg (show ¬ (1 : Int32) = 0 by decide), if_pos hw7, if_pos hb16, t1, t2, t3, t4, hd, hL]
      by_cases hl : nI (e - s) = nI (strLn w)
      · have hle : e - s = strLn w := (nI_inj2 (by omega) (by omega)).1 hl
        rw [if_pos hl, if_pos hl]
        unfold f_X9_isWord_36
        obtain ⟨v, v1, v2, v3⟩ := @w_loop N n s e w r a b ⟨k1, k2, k3, k4⟩ g1 t1 t2 (by omega) (strLn w) 0 N N (by omega) (by omega) (by omega)
        exact ⟨v, v, v1, v2, v3, fun _ => rfl, fun z => absurd hg z⟩
      · rw [if_neg hl, if_neg hl, r0]
        exact ⟨0, 0, rfl, rfl, Or.inl rfl, fun _ => rfl, fun z => absurd hg z⟩
    · have hb16 : ¬ b 0 16 = 1 := by
        rcases tk with ⟨-, z⟩ | ⟨z, -⟩ | ⟨-, z, -⟩ | ⟨-, z, -⟩
        · rw [z]; decide
        · exact absurd z hw7
        · rw [z]; decide
        · rw [z]; decide
      unfold f_X3_isWord f_X9_isWord
      simp only [b_T]
      rw [good_i, if_pos hb, if_neg (show ¬ (1 : Int32) = 0 by decide), if_neg hw7, if_neg hb16, r0]
      exact ⟨0, 0, rfl, rfl, Or.inl rfl, fun _ => rfl, fun z => absurd hg z⟩
  · obtain ⟨v, v1, v2⟩ := @cw_tot N w a k3 (by omega)
    refine ⟨v, 0, v1, ?_, v2, fun z => absurd z hg, fun _ => rfl⟩
    unfold f_X9_isWord
    rw [good_i, if_neg (show ¬ b 0 18 = 0 by rw [← g2]; exact hg), b_T, if_pos rfl, r0]

