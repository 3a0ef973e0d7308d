/-! the statements of the made text, read by the class -/
theorem tx_47 : txB 47 = txB 0 ++ 32 :: (txB 1 ++ [32]) := by decide +kernel
theorem tx_48 : txB 48 = 32 :: (txB 2 ++ [32]) := by decide +kernel
theorem tx_49 : txB 49 = 32 :: (txB 3 ++ [32]) := by decide +kernel
theorem tx_50 : txB 50 = 32 :: (txB 4 ++ [32]) := by decide +kernel
theorem tx_51 : txB 51 = 32 :: (txB 5 ++ [32]) := by decide +kernel
theorem tx_52 : txB 52 = [59] := by decide +kernel
theorem tx_53 : txB 53 = txB 6 ++ [32] := by decide +kernel
theorem tx_54 : txB 54 = txB 7 ++ [32] := by decide +kernel
theorem tx_55 : txB 55 = txB 8 ++ 32 :: (txB 10 ++ [32]) := by decide +kernel
theorem tx_56 : txB 56 = txB 11 ++ [59] := by decide +kernel
theorem tOpt_o {G : GG} {i i' k j n : Nat} (h : txB i = 32 :: (txB i' ++ [32])) : tOpt G i k j n = oT i' (dN G k 2 = 0) (dN G j n) := by
  unfold tOpt oT
  rw [h]
  by_cases hc : dN G k 2 = 0
  · rw [if_pos hc, if_pos hc]
    simp only [List.cons_append, List.append_assoc, List.nil_append]
  · rw [if_neg hc, if_neg hc]
theorem tP_e {G : GG} {p : Nat} {r : List Nat} : tP G p ++ r = txB 0 ++ 32 :: (txB 1 ++ 32 :: (numT (mvN G p) ++ 32 :: (txB 2 ++ 32 :: (numT (5 + dN G (7 + p) 90) ++ (oT 3 (dN G (10 + p) 2 = 0) (dN G (13 + p) 9) ++ (oT 4 (dN G (16 + p) 2 = 0) (dN G (19 + p) 6) ++ (oT 5 (dN G (22 + p) 2 = 0) (dN G (25 + p) 9) ++ 59 :: r))))))) := by
  unfold tP
  rw [tx_47, tx_48, tOpt_o tx_49, tOpt_o tx_50, tOpt_o tx_51, tx_52]
  simp only [List.cons_append, List.append_assoc, List.nil_append]
theorem oT_n {i j : Nat} {c : Prop} [Decidable c] {x : Nat} {r : List Nat} (hj : j < 12) (hji : j ≠ i) (h : NXT i r) : NXT i (oT j c x ++ r) := by
  unfold oT
  by_cases hc : c
  · rw [if_pos hc]
    exact Or.inl ⟨j, numT x ++ r, hj, hji, by simp only [List.cons_append, List.append_assoc]⟩
  · rw [if_neg hc]
    exact h
theorem n_semi {i : Nat} {r : List Nat} : NXT i (59 :: r) := Or.inr ⟨r, rfl⟩
/-- what taking and setting the numbers of a period leave -/
def PFR (a a1 : Mem) : Prop := (∀ k, k ≠ 1 → k ≠ 5 → a1 k = a k) ∧ ∀ j, j < 7 → a1 1 j = a 1 j
theorem PFR_t {a a1 a2 : Mem} (h : PFR a a1) (h2 : PFR a1 a2) : PFR a a2 := ⟨fun k z1 z5 => (h2.1 k z1 z5).trans (h.1 k z1 z5), fun j z => (h2.2 j z).trans (h.2 j z)⟩
theorem PFR_A {a a1 : Mem} (h : FA a a1) : PFR a a1 := ⟨fun k z _ => h.1 k z, fun j z => h.2 j (by omega) (by omega) (by omega) (by omega)⟩
theorem PFR_5 {a : Mem} {f : Nat → Int32} : PFR a (upR a 5 f) := ⟨fun k _ z => R_n z, fun j _ => by rw [R_n (by omega)]⟩
theorem sn_w {p w : Nat} {v : Int32} {a : Mem} (hp : p < 5) (hw : w < 5) : f_X4_setNumber 4 (nI p) (nI w) v a = upR a 5 (upd (a 5) (5 * p + w) v) := by
  have e5 : (5 : Int32).toInt = 5 := rfl
  have ep : (nI p).toInt = p := nI_toInt (by omega)
  have ew : (nI w).toInt = w := nI_toInt (by omega)
  have hm : (nI p * (5 : Int32)).toInt = p * 5 := by rw [z_mul (by rw [e5, ep]; omega) (by rw [e5, ep]; omega), e5, ep]
  have ha : (nI p * (5 : Int32) + nI w).toInt = p * 5 + w := by rw [z_add (by rw [hm, ew]; omega) (by rw [hm, ew]; omega), hm, ew]
  unfold f_X4_setNumber
  simp only [b_T, Nat.reduceAdd]
  rw [z_put (by rw [ha]; omega) (by rw [ha]; omega), z_tn, ha, show ((p : Int) * 5 + w).toNat = 5 * p + w by omega]
theorem mvN_l (G : GG) (p : Nat) : mvN G p ≤ 6 := by
  unfold mvN
  have := dN_lt G (4 + p) (n := 6) (by omega) (by omega)
  split <;> omega
theorem st_per {N p : Nat} {G : GG} {t r : List Nat} {a : Mem} (hN : 402 ≤ N) (hp : p < 5) (h : TKC t (tP G p ++ r) a) (h41 : a 4 1 = nI p) (hE : p = 0 ∨ a 5 (5 * (p - 1)) ≠ 0) : ∃ a1, f_X3_readPeriod N a = some a1 ∧ TKC t r a1 ∧ a1 4 1 = nI (p + 1) ∧ a1 5 (5 * p) = nI (mvN G p) ∧ (∀ j, j ≠ 1 → a1 4 j = a 4 j) ∧ ∀ j, j < 7 → a1 1 j = a 1 j := by
  rw [tP_e] at h
  have m6 := mvN_l G p
  have d1 := dN_lt G (7 + p) (n := 90) (by omega) (by omega)
  have d2 := dN_lt G (13 + p) (n := 9) (by omega) (by omega)
  have d3 := dN_lt G (19 + p) (n := 6) (by omega) (by omega)
  have d4 := dN_lt G (25 + p) (n := 9) (by omega) (by omega)
  have hk5 : ∀ {a : Mem} {f : Nat → Int32} {q : List Nat}, TKC t q a → TKC t q (upR a 5 f) := fun {a f q} z => TKC_fr (R_n (by omega)) (R_n (by omega)) (fun j _ _ => by rw [R_n (by omega)]) z
  have n5 : NXT 5 (59 :: r) := n_semi
  have n4 : NXT 4 (oT 5 (dN G (22 + p) 2 = 0) (dN G (25 + p) 9) ++ 59 :: r) := oT_n (by omega) (by omega) n_semi
  have n3 : NXT 3 (oT 4 (dN G (16 + p) 2 = 0) (dN G (19 + p) 6) ++ (oT 5 (dN G (22 + p) 2 = 0) (dN G (25 + p) 9) ++ 59 :: r)) := oT_n (by omega) (by omega) (oT_n (by omega) (by omega) n_semi)
  have n2 : NXT 2 (oT 3 (dN G (10 + p) 2 = 0) (dN G (13 + p) 9) ++ (oT 4 (dN G (16 + p) 2 = 0) (dN G (19 + p) 6) ++ (oT 5 (dN G (22 + p) 2 = 0) (dN G (25 + p) 9) ++ 59 :: r))) := oT_n (by omega) (by omega) (oT_n (by omega) (by omega) (oT_n (by omega) (by omega) n_semi))
  have s0 : ∀ v (a : Mem), f_X4_setNumber 4 (nI p) (0 : Int32) v a = upR a 5 (upd (a 5) (5 * p + 0) v) := fun v a => sn_w (w := 0) hp (by omega)
  have s1 : ∀ v (a : Mem), f_X4_setNumber 4 (nI p) (1 : Int32) v a = upR a 5 (upd (a 5) (5 * p + 1) v) := fun v a => sn_w (w := 1) hp (by omega)
  have s2 : ∀ v (a : Mem), f_X4_setNumber 4 (nI p) (2 : Int32) v a = upR a 5 (upd (a 5) (5 * p + 2) v) := fun v a => sn_w (w := 2) hp (by omega)
  have s3 : ∀ v (a : Mem), f_X4_setNumber 4 (nI p) (3 : Int32) v a = upR a 5 (upd (a 5) (5 * p + 3) v) := fun v a => sn_w (w := 3) hp (by omega)
  have s4 : ∀ v (a : Mem), f_X4_setNumber 4 (nI p) (4 : Int32) v a = upR a 5 (upd (a 5) (5 * p + 4) v) := fun v a => sn_w (w := 4) hp (by omega)
  have key : ∃ a1, f_X3_readPeriod_43 N (nI p) a = some a1 ∧ TKC t r a1 ∧ a1 4 1 = nI (p + 1) ∧ a1 5 (5 * p) = nI (mvN G p) ∧ (∀ j, j ≠ 1 → a1 4 j = a 4 j) ∧ ∀ j, j < 7 → a1 1 j = a 1 j := by
    obtain ⟨a5, q1, f1, c1⟩ := tk_word (i := 0) hN (by omega) h (Or.inl rfl) sp_k
    obtain ⟨a8, q2, f2, c2⟩ := tk_word (i := 1) hN (by omega) c1 (Or.inr rfl) sp_k
    obtain ⟨a12, q3, f3, c3⟩ := tk_num (lo := 0) (hi := 60) hN (by omega) (by omega) (by omega) (by omega) c2 (Or.inr rfl) sp_k3
    have q3' : f_X3_takeNumber N (0 : Int32) (60 : Int32) a8 = some (nI (mvN G p), a12) := q3
    obtain ⟨a18, q4, f4, c4⟩ := tk_word (i := 2) hN (by omega) (hk5 (f := upd (a12 5) (5 * p + 0) (nI (mvN G p))) c3) (Or.inr rfl) sp_k
    obtain ⟨a22, q5, f5, c5⟩ := tk_num (lo := 1) (hi := 99999) hN (by omega) (by omega) (by omega) (by omega) c4 (Or.inr rfl) (fun x r' e => (NXT_k n2 x r' e).2)
    have q5' : f_X3_takeNumber N (1 : Int32) (99999 : Int32) a18 = some (nI (5 + dN G (7 + p) 90), a22) := q5
    obtain ⟨v3, a29, q6, f6, c6⟩ := tk_opt (i := 3) hN (by omega) (by omega) (hk5 (f := upd (a22 5) (5 * p + 1) (nI (5 + dN G (7 + p) 90))) c5) n3
    obtain ⟨v4, a36, q7, f7, c7⟩ := tk_opt (i := 4) hN (by omega) (by omega) (hk5 (f := upd (a29 5) (5 * p + 2) v3) c6) n4
    obtain ⟨v5, a43, q8, f8, c8⟩ := tk_opt (i := 5) hN (by omega) (by omega) (hk5 (f := upd (a36 5) (5 * p + 3) v4) c7) n5
    obtain ⟨a49, q9, f9, c9⟩ := tk_semi hN (hk5 (f := upd (a43 5) (5 * p + 4) v5) c8) (Or.inl rfl)
    unfold f_X3_readPeriod_43
    rw [q1, b_P, q2, b_P, q3', b_P2, s0, b_T, q4, b_P, q5', b_P2, s1, b_T, q6, b_P2, s2, b_T, q7, b_P2, s3, b_T, q8, b_P2, s4, b_T, q9, b_P, b_T]
    have F : PFR a a49 := PFR_t (PFR_A f1) (PFR_t (PFR_A f2) (PFR_t (PFR_A f3) (PFR_t PFR_5 (PFR_t (PFR_A f4) (PFR_t (PFR_A f5) (PFR_t PFR_5 (PFR_t (PFR_A f6) (PFR_t PFR_5 (PFR_t (PFR_A f7) (PFR_t PFR_5 (PFR_t (PFR_A f8) (PFR_t PFR_5 (PFR_A f9)))))))))))))
    have e4 : a49 4 = a 4 := F.1 4 (by omega) (by omega)
    have e5 : a49 5 (5 * p) = nI (mvN G p) := by
      rw [f9.1 5 (by omega), R_s, u_n (by omega), f8.1 5 (by omega), R_s, u_n (by omega), f7.1 5 (by omega), R_s, u_n (by omega), f6.1 5 (by omega), R_s, u_n (by omega), f5.1 5 (by omega), f4.1 5 (by omega), R_s]
      exact u_s
    refine ⟨_, rfl, TKC_fr (p2_n (by omega)) (p2_n (by omega)) (fun j _ _ => by rw [p2_n (by omega)]) c9, by rw [p2_s, u_s, e4, h41, nI_1], by rw [p2_n (by omega)]; exact e5, fun j hj => by rw [p2_s, u_n hj, e4], fun j hj => by rw [p2_n (by omega)]; exact F.2 j hj⟩
  unfold f_X3_readPeriod
  simp only [b_T]
  rw [h41, if_pos (show nI p < (5 : Int32) from (nI_lti (x := p) (y := 5) (by omega) (by omega)).2 hp)]
  by_cases hp0 : p = 0
  · rw [if_pos (show nI p ≤ 0 by rw [hp0]; decide)]
    exact key
  · have e1 : nI p - 1 = nI (p - 1) := by
      have e1' : (1 : Int32).toInt = 1 := rfl
      rw [z_eq, z_sub (by rw [z_nI (by omega), e1']; omega) (by rw [z_nI (by omega), e1']; omega), z_nI (by omega), z_nI (by omega), e1']
      omega
    have ep : (nI (p - 1)).toInt = ((p - 1 : Nat) : Int) := nI_toInt (by omega)
    have hr : rn (rI a 4) (nI (p - 1)) 0 = a 5 (5 * (p - 1)) := by
      unfold rn rI
      rw [z_tN (by omega), if_pos (by omega)]
      rfl
    rw [if_neg (show ¬ nI p ≤ 0 from fun z => by rw [z_le, z_nI (by omega)] at z; have e0 : (0 : Int32).toInt = 0 := rfl; omega), e1, c_end (by omega) (by omega), hr, if_neg (hE.resolve_left hp0), if_pos rfl]
    exact key
theorem fi_0 {a : Mem} : f_X3_failIf 0 a = a := if_pos rfl
theorem st_ext {N x y : Nat} {t r : List Nat} {a : Mem} (hN : 402 ≤ N) (hx : 1 ≤ x ∧ x ≤ 9) (hy : 1 ≤ y ∧ y < 100) (h : TKC t (txB 6 ++ 32 :: (numT x ++ 32 :: (txB 2 ++ 32 :: (numT y ++ 59 :: r)))) a) (h42 : a 4 2 = 0) : ∃ a1, f_X3_readExtra N a = some a1 ∧ TKC t r a1 ∧ (∀ j, j ≠ 2 → j ≠ 3 → a1 4 j = a 4 j) ∧ ∀ j, j < 7 → a1 1 j = a 1 j := by
  have hk4 : ∀ {a : Mem} {j : Nat} {v : Int32} {q : List Nat}, TKC t q a → TKC t q (up2 a 4 j v) := fun {a j v q} z => TKC_fr (p2_n (by omega)) (p2_n (by omega)) (fun j _ _ => by rw [p2_n (by omega)]) z
  obtain ⟨a6, q1, f1, c1⟩ := tk_word (i := 6) hN (by omega) h (Or.inl rfl) sp_k
  obtain ⟨a10, q2, f2, c2⟩ := tk_num (lo := 1) (hi := 9) hN (by omega) hx.1 hx.2 (by omega) c1 (Or.inr rfl) sp_k3
  have q2' : f_X3_takeNumber N (1 : Int32) (9 : Int32) a6 = some (nI x, a10) := q2
  obtain ⟨a15, q3, f3, c3⟩ := tk_word (i := 2) hN (by omega) (hk4 (j := 2) (v := nI x) c2) (Or.inr rfl) sp_k
  obtain ⟨a19, q4, f4, c4⟩ := tk_num (lo := 1) (hi := 9999) hN (by omega) hy.1 (by omega) (by omega) c3 (Or.inr rfl) se_k3
  have q4' : f_X3_takeNumber N (1 : Int32) (9999 : Int32) a15 = some (nI y, a19) := q4
  obtain ⟨a24, q5, f5, c5⟩ := tk_semi hN (hk4 (j := 3) (v := nI y) c4) (Or.inl rfl)
  unfold f_X3_readExtra f_X3_readExtra_16
  rw [if_pos h42, fi_0, b_T, q1, b_P, q2', b_P2, b_T, q3, b_P, q4', b_P2, b_T, q5, b_P]
  refine ⟨a24, rfl, c5, fun j j2 j3 => ?_, fun j hj => ?_⟩
  · rw [f5.1 4 (by omega), p2_s, u_n j3, f4.1 4 (by omega), f3.1 4 (by omega), p2_s, u_n j2, f2.1 4 (by omega), f1.1 4 (by omega)]
  · rw [f5.2 j (by omega) (by omega) (by omega) (by omega), p2_n (by omega), f4.2 j (by omega) (by omega) (by omega) (by omega), f3.2 j (by omega) (by omega) (by omega) (by omega), p2_n (by omega), f2.2 j (by omega) (by omega) (by omega) (by omega), f1.2 j (by omega) (by omega) (by omega) (by omega)]
theorem st_ses {N x : Nat} {t r : List Nat} {a : Mem} (hN : 402 ≤ N) (hx : 1 ≤ x ∧ x < 100) (h : TKC t (txB 7 ++ 32 :: (numT x ++ 59 :: r)) a) (h44 : a 4 4 = -1) : ∃ a1, f_X3_readSession N a = some a1 ∧ TKC t r a1 ∧ (∀ j, j ≠ 4 → a1 4 j = a 4 j) ∧ ∀ j, j < 7 → a1 1 j = a 1 j := by
  have hk4 : ∀ {a : Mem} {j : Nat} {v : Int32} {q : List Nat}, TKC t q a → TKC t q (up2 a 4 j v) := fun {a j v q} z => TKC_fr (p2_n (by omega)) (p2_n (by omega)) (fun j _ _ => by rw [p2_n (by omega)]) z
  obtain ⟨a6, q1, f1, c1⟩ := tk_word (i := 7) hN (by omega) h (Or.inl rfl) sp_k
  obtain ⟨a10, q2, f2, c2⟩ := tk_num (lo := 1) (hi := 99999) hN hx.2 hx.1 (by omega) (by omega) c1 (Or.inr rfl) se_k3
  have q2' : f_X3_takeNumber N (1 : Int32) (99999 : Int32) a6 = some (nI x, a10) := q2
  obtain ⟨a24, q5, f5, c5⟩ := tk_semi hN (hk4 (j := 4) (v := nI x) c2) (Or.inl rfl)
  unfold f_X3_readSession f_X3_readSession_17
  rw [if_pos h44, fi_0, b_T, q1, b_P, q2', b_P2, b_T, q5, b_P]
  refine ⟨a24, rfl, c5, fun j j2 => ?_, fun j hj => ?_⟩
  · rw [f5.1 4 (by omega), p2_s, u_n j2, f2.1 4 (by omega), f1.1 4 (by omega)]
  · rw [f5.2 j (by omega) (by omega) (by omega) (by omega), p2_n (by omega), f2.2 j (by omega) (by omega) (by omega) (by omega), f1.2 j (by omega) (by omega) (by omega) (by omega)]
theorem st_hand {N x : Nat} {t r : List Nat} {a : Mem} (hN : 402 ≤ N) (hx : 1 ≤ x ∧ x < 100) (h : TKC t (txB 8 ++ 32 :: (txB 10 ++ 32 :: (numT x ++ 59 :: r))) a) (h13 : a 1 3 = -1) : ∃ a1, f_X3_readHand N a = some a1 ∧ TKC t r a1 ∧ a1 4 = a 4 ∧ a1 1 2 = a 1 2 ∧ a1 1 3 = 1 ∧ a1 1 4 = nI x := by
  have hk1 : ∀ {a : Mem} {j : Nat} {v : Int32} {q : List Nat}, j < 5 → TKC t q a → TKC t q (up2 a 1 j v) := fun {a j v q} hj z => TKC_fr (p2_n (by omega)) (p2_n (by omega)) (fun i _ _ => by rw [p2_s, u_n (by omega)]) z
  obtain ⟨a6, q1, f1, c1⟩ := tk_word (i := 8) hN (by omega) h (Or.inl rfl) sp_k
  have w9 : f_X3_isWord N 9 a6 = some 0 := by rw [iw_w (i := 9) (j := 10) hN c1 (by omega) (by omega) (Or.inr rfl) sp_k, if_neg (by omega)]
  obtain ⟨a15, q2, f2, c2⟩ := tk_word (i := 10) hN (by omega) (hk1 (j := 3) (v := 1) (by omega) c1) (Or.inr rfl) sp_k
  obtain ⟨a19, q3, f3, c3⟩ := tk_num (lo := 1) (hi := 9999) hN hx.2 hx.1 (by omega) (by omega) c2 (Or.inr rfl) se_k3
  have q3' : f_X3_takeNumber N (1 : Int32) (9999 : Int32) a15 = some (nI x, a19) := q3
  obtain ⟨a24, q5, f5, c5⟩ := tk_semi hN (hk1 (j := 4) (v := nI x) (by omega) c3) (Or.inl rfl)
  unfold f_X3_readHand f_X3_readHand_14
  rw [if_pos h13, fi_0, b_T, q1, b_P, w9, b_P, if_pos rfl, b_T, q2, b_P, q3', b_P2, b_T, q5, b_P]
  refine ⟨a24, rfl, c5, ?_, ?_, ?_, ?_⟩
  · rw [f5.1 4 (by omega), p2_n (by omega), f3.1 4 (by omega), f2.1 4 (by omega), p2_n (by omega), f1.1 4 (by omega)]
  · rw [f5.2 2 (by omega) (by omega) (by omega) (by omega), p2_s, u_n (by omega), f3.2 2 (by omega) (by omega) (by omega) (by omega), f2.2 2 (by omega) (by omega) (by omega) (by omega), p2_s, u_n (by omega), f1.2 2 (by omega) (by omega) (by omega) (by omega)]
  · rw [f5.2 3 (by omega) (by omega) (by omega) (by omega), p2_s, u_n (by omega), f3.2 3 (by omega) (by omega) (by omega) (by omega), f2.2 3 (by omega) (by omega) (by omega) (by omega), p2_s, u_s]
  · rw [f5.2 4 (by omega) (by omega) (by omega) (by omega), p2_s, u_s]
theorem st_cla {N : Nat} {t r : List Nat} {a : Mem} (hN : 402 ≤ N) (h : TKC t (txB 11 ++ 59 :: r) a) (h12 : a 1 2 = 0) : ∃ a1, f_X3_readClaims N a = some a1 ∧ TKC t r a1 ∧ a1 4 = a 4 ∧ a1 1 2 = 1 ∧ a1 1 3 = a 1 3 ∧ a1 1 4 = a 1 4 := by
  obtain ⟨a6, q1, f1, c1⟩ := tk_word (i := 11) hN (by omega) h (Or.inl rfl) se_k
  obtain ⟨a24, q5, f5, c5⟩ := tk_semi hN c1 (Or.inl rfl)
  unfold f_X3_readClaims
  have hnb : nb (a 1 2) = 0 := by rw [h12]; rfl
  rw [hnb, fi_0, b_T, q1, b_P, q5, b_P, b_T]
  refine ⟨_, rfl, TKC_fr (p2_n (by omega)) (p2_n (by omega)) (fun i _ _ => by rw [p2_s, u_n (by omega)]) c5, ?_, ?_, ?_, ?_⟩
  · rw [p2_n (by omega), f5.1 4 (by omega), f1.1 4 (by omega)]
  · rw [p2_s, u_s]
  · rw [p2_s, u_n (by omega), f5.2 3 (by omega) (by omega) (by omega) (by omega), f1.2 3 (by omega) (by omega) (by omega) (by omega)]
  · rw [p2_s, u_n (by omega), f5.2 4 (by omega) (by omega) (by omega) (by omega), f1.2 4 (by omega) (by omega) (by omega) (by omega)]

/-! the loop over the statements -/
theorem lp_0 {N fu x : Nat} {t r : List Nat} {a : Mem} (hN : 402 ≤ N) (hx : x < 400) (h : TKC t (txB 0 ++ r) a) (hr : ∀ x r', r = x :: r' → KD x ≠ 2) : f_X3_readText_24 N (fu + 1) (nI x) a = bP (f_X3_readPeriod N a) fun a1 => f_X3_readText_24 N fu (nI (x + 1)) a1 := by
  obtain ⟨j1, j2, -⟩ := txb_w 0 (by omega)
  obtain ⟨h7, -⟩ := h.2.2.1 (txB 0) r (Or.inl rfl) j1 (fun x hx => (j2 x hx).1) hr
  rw [f_X3_readText_24_s, if_neg (show ¬ (400 : Int32) ≤ nI x from fun z => by have := (nI_lei (x := 400) (by omega) (by omega)).1 z; omega), if_pos h.2.1, if_neg (by rw [h7]; decide), iw_w (i := 0) (j := 0) hN h (by omega) (by omega) (Or.inl rfl) hr, if_pos rfl, b_P, if_neg (by decide)]
  simp only [b_T, nI_1]
theorem lp_6 {N fu x : Nat} {t r : List Nat} {a : Mem} (hN : 402 ≤ N) (hx : x < 400) (h : TKC t (txB 6 ++ r) a) (hr : ∀ x r', r = x :: r' → KD x ≠ 2) : f_X3_readText_24 N (fu + 1) (nI x) a = bP (f_X3_readExtra N a) fun a1 => f_X3_readText_24 N fu (nI (x + 1)) a1 := by
  obtain ⟨j1, j2, -⟩ := txb_w 6 (by omega)
  obtain ⟨h7, -⟩ := h.2.2.1 (txB 6) r (Or.inl rfl) j1 (fun x hx => (j2 x hx).1) hr
  rw [f_X3_readText_24_s, if_neg (show ¬ (400 : Int32) ≤ nI x from fun z => by have := (nI_lei (x := 400) (by omega) (by omega)).1 z; omega), if_pos h.2.1, if_neg (by rw [h7]; decide), iw_w (i := 0) (j := 6) hN h (by omega) (by omega) (Or.inl rfl) hr, if_neg (by omega), b_P, if_pos rfl, iw_w (i := 6) (j := 6) hN h (by omega) (by omega) (Or.inl rfl) hr, if_pos rfl, b_P, if_neg (by decide)]
  simp only [b_T, nI_1]
theorem lp_7 {N fu x : Nat} {t r : List Nat} {a : Mem} (hN : 402 ≤ N) (hx : x < 400) (h : TKC t (txB 7 ++ r) a) (hr : ∀ x r', r = x :: r' → KD x ≠ 2) : f_X3_readText_24 N (fu + 1) (nI x) a = bP (f_X3_readSession N a) fun a1 => f_X3_readText_24 N fu (nI (x + 1)) a1 := by
  obtain ⟨j1, j2, -⟩ := txb_w 7 (by omega)
  obtain ⟨h7, -⟩ := h.2.2.1 (txB 7) r (Or.inl rfl) j1 (fun x hx => (j2 x hx).1) hr
  rw [f_X3_readText_24_s, if_neg (show ¬ (400 : Int32) ≤ nI x from fun z => by have := (nI_lei (x := 400) (by omega) (by omega)).1 z; omega), if_pos h.2.1, if_neg (by rw [h7]; decide), iw_w (i := 0) (j := 7) hN h (by omega) (by omega) (Or.inl rfl) hr, if_neg (by omega), b_P, if_pos rfl, iw_w (i := 6) (j := 7) hN h (by omega) (by omega) (Or.inl rfl) hr, if_neg (by omega), b_P, if_pos rfl, iw_w (i := 7) (j := 7) hN h (by omega) (by omega) (Or.inl rfl) hr, if_pos rfl, b_P, if_neg (by decide)]
  simp only [b_T, nI_1]
theorem lp_8 {N fu x : Nat} {t r : List Nat} {a : Mem} (hN : 402 ≤ N) (hx : x < 400) (h : TKC t (txB 8 ++ r) a) (hr : ∀ x r', r = x :: r' → KD x ≠ 2) : f_X3_readText_24 N (fu + 1) (nI x) a = bP (f_X3_readHand N a) fun a1 => f_X3_readText_24 N fu (nI (x + 1)) a1 := by
  obtain ⟨j1, j2, -⟩ := txb_w 8 (by omega)
  obtain ⟨h7, -⟩ := h.2.2.1 (txB 8) r (Or.inl rfl) j1 (fun x hx => (j2 x hx).1) hr
  rw [f_X3_readText_24_s, if_neg (show ¬ (400 : Int32) ≤ nI x from fun z => by have := (nI_lei (x := 400) (by omega) (by omega)).1 z; omega), if_pos h.2.1, if_neg (by rw [h7]; decide), iw_w (i := 0) (j := 8) hN h (by omega) (by omega) (Or.inl rfl) hr, if_neg (by omega), b_P, if_pos rfl, iw_w (i := 6) (j := 8) hN h (by omega) (by omega) (Or.inl rfl) hr, if_neg (by omega), b_P, if_pos rfl, iw_w (i := 7) (j := 8) hN h (by omega) (by omega) (Or.inl rfl) hr, if_neg (by omega), b_P, if_pos rfl, iw_w (i := 8) (j := 8) hN h (by omega) (by omega) (Or.inl rfl) hr, if_pos rfl, b_P, if_neg (by decide)]
  simp only [b_T, nI_1]
theorem lp_11 {N fu x : Nat} {t r : List Nat} {a : Mem} (hN : 402 ≤ N) (hx : x < 400) (h : TKC t (txB 11 ++ r) a) (hr : ∀ x r', r = x :: r' → KD x ≠ 2) : f_X3_readText_24 N (fu + 1) (nI x) a = bP (f_X3_readClaims N a) fun a1 => f_X3_readText_24 N fu (nI (x + 1)) a1 := by
  obtain ⟨j1, j2, -⟩ := txb_w 11 (by omega)
  obtain ⟨h7, -⟩ := h.2.2.1 (txB 11) r (Or.inl rfl) j1 (fun x hx => (j2 x hx).1) hr
  rw [f_X3_readText_24_s, if_neg (show ¬ (400 : Int32) ≤ nI x from fun z => by have := (nI_lei (x := 400) (by omega) (by omega)).1 z; omega), if_pos h.2.1, if_neg (by rw [h7]; decide), iw_w (i := 0) (j := 11) hN h (by omega) (by omega) (Or.inl rfl) hr, if_neg (by omega), b_P, if_pos rfl, iw_w (i := 6) (j := 11) hN h (by omega) (by omega) (Or.inl rfl) hr, if_neg (by omega), b_P, if_pos rfl, iw_w (i := 7) (j := 11) hN h (by omega) (by omega) (Or.inl rfl) hr, if_neg (by omega), b_P, if_pos rfl, iw_w (i := 8) (j := 11) hN h (by omega) (by omega) (Or.inl rfl) hr, if_neg (by omega), b_P, if_pos rfl, iw_w (i := 11) (j := 11) hN h (by omega) (by omega) (Or.inl rfl) hr, if_pos rfl, b_P, if_neg (by decide)]
  simp only [b_T, nI_1]
theorem lp_end {N fu x : Nat} {t : List Nat} {a : Mem} (hx : x < 400) (h : TKC t [] a) : f_X3_readText_24 N (fu + 1) (nI x) a = some (1, a) := by
  rw [f_X3_readText_24_s, if_neg (show ¬ (400 : Int32) ≤ nI x from fun z => by have := (nI_lei (x := 400) (by omega) (by omega)).1 z; omega), if_pos h.2.1, if_pos (h.2.2.2.2.2 rfl)]
  unfold f_X3_readText_136
  rw [if_pos h.2.1]
theorem lp_per {N : Nat} {G : GG} {t r : List Nat} (hN : 402 ≤ N) : ∀ (w p x fu : Nat) (a : Mem), w + p ≤ 5 → x + w ≤ 300 → w ≤ fu → TKC t (tPs G w p ++ r) a → a 4 1 = nI p → (p = 0 ∨ a 5 (5 * (p - 1)) ≠ 0) → ∃ (a1 : Mem) (x1 fu1 : Nat), f_X3_readText_24 N fu (nI x) a = f_X3_readText_24 N fu1 (nI x1) a1 ∧ TKC t r a1 ∧ a1 4 1 = nI (p + mdN G w p) ∧ (∀ j, j ≠ 1 → a1 4 j = a 4 j) ∧ (∀ j, j < 7 → a1 1 j = a 1 j) ∧ fu ≤ fu1 + w ∧ x1 ≤ x + w := by
  intro w
  induction w with
  | zero =>
    intro p x fu a _ _ _ h h41 _
    exact ⟨a, x, fu, rfl, h, h41, fun _ _ => rfl, fun _ _ => rfl, by omega, by omega⟩
  | succ w ih =>
    intro p x fu a hw hx hf h h41 hE
    obtain ⟨f, rfl⟩ : ∃ f, fu = f + 1 := ⟨fu - 1, by omega⟩
    have e : tPs G (w + 1) p ++ r = tP G p ++ ((if mvN G p = 0 then [] else tPs G w (p + 1)) ++ r) := by
      show (tP G p ++ (if mvN G p = 0 then [] else tPs G w (p + 1))) ++ r = _
      rw [List.append_assoc]
    rw [e] at h
    obtain ⟨a1, q1, c1, v1, v2, v3, v4⟩ := st_per hN (by omega) h h41 hE
    have h2 := h
    rw [tP_e] at h2
    rw [lp_0 hN (by omega) h2 sp_k, q1, b_P]
    have em : mdN G (w + 1) p = 1 + (if mvN G p = 0 then 0 else mdN G w (p + 1)) := rfl
    rw [em]
    by_cases hm : mvN G p = 0
    · rw [if_pos hm] at c1 ⊢
      exact ⟨a1, x + 1, f, rfl, c1, v1, v3, v4, by omega, by omega⟩
    · rw [if_neg hm] at c1 ⊢
      have m6 := mvN_l G p
      obtain ⟨a2, x1, fu1, r1, c2, u1, u2, u3, u4, u5⟩ := ih (p + 1) (x + 1) f a1 (by omega) (by omega) (by omega) c1 v1 (Or.inr (by
        rw [Nat.add_sub_cancel, v2]
        intro z
        have := (nI_inj2 (x := mvN G p) (y := 0) (by omega) (by omega)).1 z
        exact hm this))
      exact ⟨a2, x1, fu1, r1, c2, by rw [u1]; exact congrArg nI (by omega), fun j hj => (u2 j hj).trans (v3 j hj), fun j hj => (u3 j hj).trans (v4 j hj), by omega, by omega⟩
theorem clr_f {a : Mem} : f_X3_clear a 2 = a 2 ∧ f_X3_clear a 3 = a 3 ∧ f_X3_clear a 4 1 = 0 ∧ f_X3_clear a 4 2 = 0 ∧ f_X3_clear a 4 4 = -1 ∧ f_X3_clear a 1 2 = 0 ∧ f_X3_clear a 1 3 = -1 ∧ f_X3_clear a 1 5 = 0 ∧ f_X3_clear a 1 9 = 0 := by
  unfold f_X3_clear f_X4_clear
  simp [bT, up2, upR, upd]
theorem sg_ext {N x fu : Nat} {G : GG} {t r : List Nat} {a : Mem} (hN : 402 ≤ N) (hx : x < 300) (hf : 1 ≤ fu) (h : TKC t (tEx G ++ r) a) (h42 : a 4 2 = 0) : ∃ (a1 : Mem) (x1 fu1 : Nat), f_X3_readText_24 N fu (nI x) a = f_X3_readText_24 N fu1 (nI x1) a1 ∧ TKC t r a1 ∧ a1 4 1 = a 4 1 ∧ a1 4 4 = a 4 4 ∧ (∀ j, j < 7 → a1 1 j = a 1 j) ∧ fu ≤ fu1 + 1 ∧ x1 ≤ x + 1 := by
  have d29 := dN_lt G 29 (n := 3) (by omega) (by omega)
  have d30 := dN_lt G 30 (n := 20) (by omega) (by omega)
  unfold tEx at h
  by_cases hc : dN G 28 2 = 0
  · rw [if_pos hc, tx_53, tx_48, tx_52] at h
    simp only [List.cons_append, List.append_assoc, List.nil_append] at h
    obtain ⟨f, rfl⟩ : ∃ f, fu = f + 1 := ⟨fu - 1, by omega⟩
    obtain ⟨a7, q, c7, s1, s2⟩ := st_ext hN ⟨by omega, by omega⟩ ⟨by omega, by omega⟩ h h42
    exact ⟨a7, x + 1, f, by rw [lp_6 hN (by omega) h sp_k, q, b_P], c7, s1 1 (by omega) (by omega), s1 4 (by omega) (by omega), s2, by omega, by omega⟩
  · rw [if_neg hc] at h
    exact ⟨a, x, fu, rfl, h, rfl, rfl, fun _ _ => rfl, by omega, by omega⟩
theorem sg_ses {N x fu : Nat} {G : GG} {t r : List Nat} {a : Mem} (hN : 402 ≤ N) (hx : x < 300) (hf : 1 ≤ fu) (h : TKC t (tSe G ++ r) a) (h44 : a 4 4 = -1) : ∃ (a1 : Mem) (x1 fu1 : Nat), f_X3_readText_24 N fu (nI x) a = f_X3_readText_24 N fu1 (nI x1) a1 ∧ TKC t r a1 ∧ a1 4 1 = a 4 1 ∧ (∀ j, j < 7 → a1 1 j = a 1 j) ∧ fu ≤ fu1 + 1 ∧ x1 ≤ x + 1 := by
  have d32 := dN_lt G 32 (n := 80) (by omega) (by omega)
  unfold tSe at h
  by_cases hc : dN G 31 2 = 0
  · rw [if_pos hc, tx_54, tx_52] at h
    simp only [List.cons_append, List.append_assoc, List.nil_append] at h
    obtain ⟨f, rfl⟩ : ∃ f, fu = f + 1 := ⟨fu - 1, by omega⟩
    obtain ⟨a8, q, c8, s1, s2⟩ := st_ses hN ⟨by omega, by omega⟩ h h44
    exact ⟨a8, x + 1, f, by rw [lp_7 hN (by omega) h sp_k, q, b_P], c8, s1 1 (by omega), s2, by omega, by omega⟩
  · rw [if_neg hc] at h
    exact ⟨a, x, fu, rfl, h, rfl, fun _ _ => rfl, by omega, by omega⟩
theorem sg_hand {N x fu : Nat} {G : GG} {t r : List Nat} {a : Mem} (hN : 402 ≤ N) (hx : x < 300) (hf : 1 ≤ fu) (h : TKC t (tHa G ++ r) a) (h13 : a 1 3 = -1) : ∃ (a1 : Mem) (x1 fu1 : Nat), f_X3_readText_24 N fu (nI x) a = f_X3_readText_24 N fu1 (nI x1) a1 ∧ TKC t r a1 ∧ a1 4 1 = a 4 1 ∧ a1 1 2 = a 1 2 ∧ ((a1 1 3 = -1 ∧ hndV G = 0) ∨ (a1 1 3 = 1 ∧ a1 1 4 = hndV G)) ∧ fu ≤ fu1 + 1 ∧ x1 ≤ x + 1 := by
  have d34 := dN_lt G 34 (n := 20) (by omega) (by omega)
  unfold tHa at h
  unfold hndV
  by_cases hc : dN G 33 3 = 0
  · rw [if_pos hc, tx_55, tx_52] at h
    simp only [List.cons_append, List.append_assoc, List.nil_append] at h
    obtain ⟨f, rfl⟩ : ∃ f, fu = f + 1 := ⟨fu - 1, by omega⟩
    obtain ⟨a9, q, c9, s1, s2, s3, s4⟩ := st_hand hN ⟨by omega, by omega⟩ h h13
    exact ⟨a9, x + 1, f, by rw [lp_8 hN (by omega) h sp_k, q, b_P], c9, by rw [s1], s2, Or.inr ⟨s3, by rw [if_pos hc]; exact s4⟩, by omega, by omega⟩
  · rw [if_neg hc] at h
    exact ⟨a, x, fu, rfl, h, rfl, rfl, Or.inl ⟨h13, if_neg hc⟩, by omega, by omega⟩
theorem sg_cla {N x fu : Nat} {G : GG} {t : List Nat} {a : Mem} (hN : 402 ≤ N) (hx : x < 300) (hf : 2 ≤ fu) (h : TKC t (tCl G) a) (h12 : a 1 2 = 0) : ∃ (a1 : Mem), f_X3_readText_24 N fu (nI x) a = some (1, a1) ∧ a1 4 1 = a 4 1 ∧ a1 1 2 = clmV G ∧ a1 1 3 = a 1 3 ∧ a1 1 4 = a 1 4 := by
  unfold tCl at h
  unfold clmV
  obtain ⟨f, rfl⟩ : ∃ f, fu = f + 2 := ⟨fu - 2, by omega⟩
  by_cases hc : dN G 35 2 = 0
  · rw [if_pos hc, tx_56] at h
    obtain ⟨a10, q, c10, s1, s2, s3, s4⟩ := st_cla hN h h12
    rw [lp_11 hN (by omega) h se_k, q, b_P, lp_end (by omega) c10, if_pos hc]
    exact ⟨a10, rfl, by rw [s1], s2, s3, s4⟩
  · rw [if_neg hc] at h
    rw [lp_end (by omega) h, if_neg hc]
    exact ⟨a, rfl, rfl, h12, rfl, rfl⟩
theorem sg_w0 {N : Nat} {G : GG} {t r : List Nat} {a : Mem} (hN : 402 ≤ N) (h : TKC t (tPs G (nPs G) 0 ++ r) a) : f_X3_isWord N 0 a = some 1 := by
  have hn : nPs G = dN G 0 3 + 1 := Nat.add_comm _ _
  generalize dN G 0 3 = n at hn
  rw [hn] at h
  have e2 : tPs G (n + 1) 0 = tP G 0 ++ (if mvN G 0 = 0 then [] else tPs G n (0 + 1)) := rfl
  rw [e2, List.append_assoc, tP_e] at h
  rw [iw_w (i := 0) (j := 0) hN h (by omega) (by omega) (Or.inl rfl) sp_k, if_pos rfl]
theorem TXT_e (G : GG) : TXT G = tPs G (nPs G) 0 ++ (tEx G ++ (tSe G ++ (tHa G ++ tCl G))) := by
  unfold TXT
  simp only [List.append_assoc]
theorem pt_run {N : Nat} {G : GG} {t : List Nat} {a5 : Mem} (hN : 402 ≤ N) (c1 : TKC t (tPs G (nPs G) 0 ++ (tEx G ++ (tSe G ++ (tHa G ++ tCl G)))) a5) (k41 : a5 4 1 = nI 0) (k42 : a5 4 2 = 0) (k44 : a5 4 4 = -1) (k12 : a5 1 2 = 0) (k13 : a5 1 3 = -1) : ∃ a1, f_X3_readText_22 N a5 = some (1, a1) ∧ a1 4 1 = nI (MD G) ∧ a1 1 2 = clmV G ∧ ((a1 1 3 = -1 ∧ hndV G = 0) ∨ (a1 1 3 = 1 ∧ a1 1 4 = hndV G)) := by
  have hnp : nPs G ≤ 3 := by
    have := dN_lt G 0 (n := 3) (by omega) (by omega)
    unfold nPs
    omega
  have ee : f_X3_readText_22 N a5 = f_X3_readText_24 N N (nI 0) a5 := rfl
  rw [ee]
  obtain ⟨a6, x6, fu6, g1, c6, u1, u2, u3, u4, u5⟩ := lp_per hN (nPs G) 0 0 N a5 (by omega) (by omega) (by omega) c1 k41 (Or.inl rfl)
  rw [g1]
  obtain ⟨a7, x7, fu7, g2, c7, v1, v2, v3, v4, v5⟩ := sg_ext (x := x6) (fu := fu6) hN (by omega) (by omega) c6 (by rw [u2 2 (by omega)]; exact k42)
  rw [g2]
  obtain ⟨a8, x8, fu8, g3, c8, t1, t2, t4, t5⟩ := sg_ses (x := x7) (fu := fu7) hN (by omega) (by omega) c7 (by rw [v2, u2 4 (by omega)]; exact k44)
  rw [g3]
  obtain ⟨a9, x9, fu9, g4, c9, y1, y2, y3, y4, y5⟩ := sg_hand (x := x8) (fu := fu8) hN (by omega) (by omega) c8 (by rw [t2 3 (by omega), v3 3 (by omega), u3 3 (by omega)]; exact k13)
  rw [g4]
  obtain ⟨a10, g5, z1, z2, z3, z4⟩ := sg_cla (x := x9) (fu := fu9) hN (by omega) (by omega) c9 (by rw [y2, t2 2 (by omega), v3 2 (by omega), u3 2 (by omega)]; exact k12)
  rw [g5]
  refine ⟨a10, rfl, ?_, z2, by rw [z3, z4]; exact y3⟩
  rw [z1, y1, t1, v1, u1, Nat.zero_add]
  rfl
theorem pt_all {N : Nat} {G : GG} {a : Mem} (hN : 402 ≤ N) (hi : INB (TXT G) a) : ∃ a1, f_X3_readText N a = some (1, a1) ∧ a1 4 1 = nI (MD G) ∧ a1 1 2 = clmV G ∧ ((a1 1 3 = -1 ∧ hndV G = 0) ∨ (a1 1 3 = 1 ∧ a1 1 4 = hndV G)) := by
  obtain ⟨k2, k3, k41, k42, k44, k12, k13, k15, k19⟩ := @clr_f a
  have hE := TXT_e G
  generalize TXT G = t at hi hE
  unfold f_X3_readText
  rw [b_T]
  obtain ⟨a5, q1, f1, c1⟩ := @rd_cls N t t (f_X3_clear a) hN ⟨INB_fr k2 k3 hi, k15, 0, Nat.zero_le _, k19, List.drop_zero⟩
  have c2 : TKC t (tPs G (nPs G) 0 ++ (tEx G ++ (tSe G ++ (tHa G ++ tCl G)))) a5 := by
    rw [← hE]
    exact c1
  rw [q1, b_P, sg_w0 hN c2, b_P, if_neg (by decide)]
  have r4 : a5 4 = f_X3_clear a 4 := f1.1 4 (by omega)
  have r1 : ∀ j, j < 7 → a5 1 j = f_X3_clear a 1 j := fun j hj => f1.2 j (by omega) (by omega) (by omega) (by omega)
  exact pt_run hN c2 (by rw [r4]; exact k41) (by rw [r4]; exact k42) (by rw [r4]; exact k44) (by rw [r1 2 (by omega)]; exact k12) (by rw [r1 3 (by omega)]; exact k13)
