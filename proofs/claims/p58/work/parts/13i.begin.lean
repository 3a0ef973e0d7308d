/-! load over that text; the game as it begins -/
def G9 : Nat → Int32 := fun j => if j = 2 then 1 else if j = 13 ∨ j = 37 ∨ j = 54 then 3000 else if j = 5 ∨ j = 9 ∨ j = 11 then -1 else 0
theorem st_A0 : StP a0 8 G9 := by
  refine ⟨Or.inl ⟨rfl, by decide⟩, ⟨rfl, rfl, rfl, rfl, rfl, rfl, rfl, rfl, rfl, rfl, rfl, ?_⟩, ?_, ?_, rfl, by decide, by decide, by decide, fun i w hi h2 hw => ?_⟩
  · funext i
    by_cases hi : i < 25
    · exact (by decide +kernel : ∀ i, i < 25 → rI a0 (8 + 1) i = rl G9 i) i hi
    · unfold rI rl
      rw [if_neg hi, if_neg hi]
  · funext i
    by_cases hi : i < 17
    · exact (by decide +kernel : ∀ i, i < 17 → sI a0 (sdr 8 (a0 8 2)) i = sl G9 37 i) i hi
    · unfold sI sl
      rw [if_neg hi, if_neg hi]
  · funext i
    by_cases hi : i < 17
    · exact (by decide +kernel : ∀ i, i < 17 → sI a0 (sdr 8 (a0 8 3)) i = sl G9 54 i) i hi
    · unfold sI sl
      rw [if_neg hi, if_neg hi]
  · have e8 : (G9 8).toInt = 0 := rfl
    omega
theorem sl_G9 : sl G9 37 = SZ 3000 0 ∧ sl G9 54 = SZ 3000 0 := ⟨sl_sz rfl rfl (by decide +kernel), sl_sz rfl rfl (by decide +kernel)⟩
theorem vl_G9 : VL 0 G9 := by
  have hR : VR (rl G9) (G9 2) (G9 4) := by
    refine ⟨by decide, by decide, by decide, by decide, fun p hp => ?_⟩
    have e1 : (G9 2).toInt = 1 := rfl
    have hp0 : p = 0 := by omega
    subst hp0
    decide +kernel
  have h9 : VS (120000 * (0 + 1)) (9999 * 0) 0 (rl G9) (G9 2) (G9 4) (SZ 3000 0) := VS_z hR (by decide) (by decide) (by decide) (by decide) (by decide) (by decide) (fun h => absurd h (by decide))
  unfold VL
  rw [sl_G9.1, sl_G9.2]
  refine ⟨Or.inl rfl, hR, h9, h9, ⟨by decide, by decide, by decide, by decide⟩, Or.inl rfl, fun _ => rfl, fun i hi h8 => ?_⟩
  have e8 : (G9 8).toInt = 0 := rfl
  omega
theorem rel_new : ∃ b', REL 0 a0 b' := by
  refine ⟨fun k j => if k = 1 then G9 j else if k = 0 then (if j = 19 then -1 else 0) else 0, ?_⟩
  have e1 : (fun k j => if k = 1 then G9 j else if k = 0 then (if j = 19 then -1 else 0) else 0 : Mem) 1 = G9 := by
    funext j
    rfl
  have hk : ∀ k, k ≠ 0 → k ≠ 1 → ∀ j, (fun k j => if k = 1 then G9 j else if k = 0 then (if j = 19 then -1 else 0) else 0 : Mem) k j = 0 := by
    intro k z0 z1 j
    show (if k = 1 then G9 j else if k = 0 then (if j = 19 then -1 else 0) else 0 : Int32) = 0
    rw [if_neg z1, if_neg z0]
  have hz : ∀ j, j ≠ 19 → (fun k j => if k = 1 then G9 j else if k = 0 then (if j = 19 then -1 else 0) else 0 : Mem) 0 j = 0 := by
    intro j z
    show (if (0 : Nat) = 1 then G9 j else if (0 : Nat) = 0 then (if j = 19 then -1 else 0) else 0 : Int32) = 0
    rw [if_neg (by omega), if_pos rfl, if_neg z]
  have h19 : (fun k j => if k = 1 then G9 j else if k = 0 then (if j = 19 then -1 else 0) else 0 : Mem) 0 19 = -1 := rfl
  generalize (fun k j => if k = 1 then G9 j else if k = 0 then (if j = 19 then -1 else 0) else 0 : Mem) = b' at e1 hk hz h19 ⊢
  refine ⟨hz 3 (by omega), by rw [e1]; exact st_A0, by rw [e1]; exact vl_G9, ⟨0, 0, by omega, by omega, rfl, rfl, hz 27 (by omega), fun j hj => ?_, fun j hj => absurd hj (by omega)⟩, fun i hi => ⟨?_, ?_, fun h9 => ?_⟩, ⟨0, by omega, rfl, hz 12 (by omega), fun j hj => absurd hj (by omega)⟩, ⟨(hz 18 (by omega)).symm, h19.symm⟩, ⟨0, by omega, rfl, hz 29 (by omega), fun j hj => absurd hj (by omega)⟩⟩
  · exact Or.inl ((by decide +kernel : ∀ j, j < 6 → a0 (pastR j) 2 = 0 ∧ a0 (pastR j) 3 ≠ 0) j hj)
  · exact Or.inl ((by decide +kernel : ∀ j, j < 2 → a0 (slotR j) 2 = 0 ∧ a0 (slotR j) 3 ≠ 0) i hi)
  · rw [hk 6 (by omega) (by omega)]
    exact (by decide +kernel : ∀ j, j < 2 → nb (a0 (slotR j) 11) = 0) i hi
  · exact absurd (hk 6 (by omega) (by omega) i) h9
theorem ld_good {t : Int} {N : Nat} {a b a1 : Mem} (hN : 1560 ≤ N) (ht : 0 ≤ t) (h : REL t a b) (hrt : f_X3_readText N a = some (1, a1)) : ∃ (a' b' b1 : Mem) (c1 : Nat), f_X8_load N a = some (a1 4 1, a') ∧ a' 1 5 = 0 ∧ DR c1 a1 b1 ∧ 1 ≤ c1 ∧ (∀ j, j < 311 → b' 1 j = LDG (b1 2) (b1 2 13 + HH b1 0) (b1 2 13 + HH b1 1) j) ∧ REL t a' b' := by
  obtain ⟨e1, c1, n, a9, b1, b2, r1, -, -, pz, hr, hc, -, -⟩ := @p_load t N a b (by omega) h
  have n10 : ¬ (1 : Int32) = 0 := by decide
  have r9 := hrt
  rw [r1] at r9
  injection r9 with r9
  injection r9 with r9 r8
  subst r8
  have hg : a9 1 5 = 0 := Classical.byContradiction fun z => by
    rw [if_neg z] at r9
    exact absurd r9 (by decide)
  unfold f_X8_load
  rw [hrt, b_P2]
  dsimp only [bT]
  rw [if_neg n10]
  have d := pz.2.2 hg
  have hc1 := hc hg
  obtain ⟨b47, q1, q2, q3, q4, q5, q6⟩ := REM hN hr
  have i1 : f_X8_remember (up2 a9 2 1 0) 1 = a9 1 := by rw [q6 1 (by omega) (by omega), p2_n (by omega)]
  have i4 : f_X8_remember (up2 a9 2 1 0) 4 = a9 4 := by rw [q6 4 (by omega) (by omega), p2_n (by omega)]
  have i5 : f_X8_remember (up2 a9 2 1 0) 5 = a9 5 := by rw [q6 5 (by omega) (by omega), p2_n (by omega)]
  generalize f_X8_remember (up2 a9 2 1 0) = a7 at q2 q6 i1 i4 i5 ⊢
  obtain ⟨g, hgj⟩ : ∃ g : Nat → Int32, ∀ j, j < 311 → g j = LDG (b1 2) (b1 2 13 + HH b1 0) (b1 2 13 + HH b1 1) j := ⟨_, fun _ _ => rfl⟩
  have hg0 := hgj
  obtain ⟨⟨c5, d1, d2⟩, ⟨d3, d4⟩, d5, ⟨dc, d10⟩, da, pn, dx, ds, dh, dp⟩ := id d
  have zz : ∀ j, j < 12 → (j < 2 ∨ 6 ≤ j) → j ≠ 10 → b1 2 j = PLN j := fun j h1 h2 h3 => dp j (by omega) h2 h3 (by omega)
  have hT := (pn 0 (by omega)).2.1
  have hT0 : 1 ≤ (b1 2 13).toInt ∧ (b1 2 13).toInt ≤ 99999 := hT
  have a51 : a9 5 1 = b1 2 13 := da 1 (by omega)
  have hf : ∀ T0 T1 j, j < 37 → LDG (b1 2) T0 T1 j = b1 2 j := fun T0 T1 j hj => ldg_n (by omega) (by omega) (by omega) (by omega)
  obtain ⟨w1, w2⟩ := @ldg_s (b1 2) (b1 2 13) (b1 2 13) fun j q1 q2 => by rw [dp j (by omega) (by omega) (by omega) (by omega)]; exact pln_0 (by omega) (by omega)
  obtain ⟨u1, u2⟩ := @c_su6 a7 (nb (a7 1 2)) (LDG (b1 2) (b1 2 13) (b1 2 13)) q2.2.1.1 (by rw [hf _ _ 0 (by omega), zz 0 (by omega) (by omega) (by omega)]; rfl) (by rw [hf _ _ 1 (by omega), zz 1 (by omega) (by omega) (by omega)]; rfl) (by rw [i4, hf _ _ 2 (by omega), d1, d2]) (by rw [i4, hf _ _ 3 (by omega), d3]) (by rw [i4, hf _ _ 4 (by omega), d4]) (by rw [i4, hf _ _ 5 (by omega), d5]) (by rw [hf _ _ 6 (by omega), zz 6 (by omega) (by omega) (by omega)]; rfl) (by rw [hf _ _ 7 (by omega), zz 7 (by omega) (by omega) (by omega)]; rfl) (by rw [hf _ _ 8 (by omega), zz 8 (by omega) (by omega) (by omega)]; rfl) (by rw [hf _ _ 9 (by omega), zz 9 (by omega) (by omega) (by omega)]; rfl) (by rw [hf _ _ 10 (by omega), i1, nb_nb, dc]) (by rw [hf _ _ 11 (by omega), zz 11 (by omega) (by omega) (by omega)]; rfl) (by
    rw [ldg_r]
    funext i
    unfold rI rl
    by_cases hi : i < 25
    · rw [if_pos hi, if_pos hi, i5]; exact da i hi
    · rw [if_neg hi, if_neg hi]) (by rw [w1, i5, i4, a51, d3]) (by rw [w2, i5, i4, a51, d3])
  generalize f_X6_setUp 8 4 (nb (a7 1 2)) a7 = a12 at u1 u2 ⊢
  have i12 : a12 1 = a9 1 := by rw [u2 1 (by omega), i1]
  have y12 : a12 9 1 = b1 2 2 := by rw [show a12 9 1 = a12 (8 + 1) 1 from rfl, u1.2.1.2.2.1, hf _ _ 2 (by omega)]
  have fin : ∀ a18 : Mem, (∀ k, k < 8 ∨ 17 ≤ k → a18 k = a12 k) → StP a18 8 g → VL t g → REL t a18 (upR b47 1 g) := fun a18 f1 f2 f3 => REL_now (fun k q => by rw [f1 k q, u2 k q]) (fun j _ => by rw [R_n (by omega)]) (fun k k4 k8 => R_n (by omega)) (by omega) (by rw [R_s]; exact f2) (by rw [R_s]; exact f3) q2
  have e0 : (0 : Int32).toInt = 0 := rfl
  rw [i12]
  rcases dh with ⟨h21, h13⟩ | ⟨h21, h13, h22, h23, hh1, hh2⟩
  · have H0 : ∀ s, HH b1 s = 0 := fun s => by
      unfold HH
      rw [h21]
      rfl
    rw [H0, H0, Int32.add_zero] at hgj
    rw [if_pos h13]
    refine ⟨_, _, b1, c1, by rw [show a12 (8 + 1) 1 = b1 2 2 from y12, d1, d2], by rw [i12]; exact hg, d, hc1, fun j hj => by rw [R_s]; exact hg0 j hj, fin a12 (fun k _ => rfl) (StP_g hgj u1) (VL_g hgj (VL_ld ht hc1 d hT0.1 (by omega) hT0.1 (by omega)))⟩
  · have hn1 : ¬ a9 1 3 = -1 := by
      rcases h13 with z | z
      · rw [z]; decide
      · rw [z]; decide
    rw [if_neg hn1]
    obtain ⟨k, k1, k2, k3⟩ := StP_side u1 h13
    have k3' : a12 k 1 = sl (LDG (b1 2) (b1 2 13) (b1 2 13)) (oS (a9 1 3)) 0 := congrFun k3 0
    rw [k1]
    have hne : (up2 a12 k 1 (a12 k 1 + a9 1 4)) (8 + 1) 1 = b1 2 2 := by rw [p2_n (by omega)]; exact y12
    rw [h23]
    have hsum : (b1 2 13 + b1 0 23).toInt = (b1 2 13).toInt + (b1 0 23).toInt := z_add (by omega) (by omega)
    have hne2 : (up2 a12 k 1 (a12 k 1 + b1 0 23)) (8 + 1) 1 = b1 2 2 := by rw [p2_n (by omega)]; exact y12
    have hst := @StP_S a12 (up2 a12 k 1 (a12 k 1 + b1 0 23)) _ (upd (sl (LDG (b1 2) (b1 2 13) (b1 2 13)) (oS (a9 1 3))) 0 (a12 k 1 + b1 0 23)) (a9 1 3) k u1 h13 k1 (fun k9 z1 z2 => p2_n z1) (by rw [sI_w1, k3]) (u_n (by omega))
    have hgo : ∀ j, j < 311 → g j = setS (LDG (b1 2) (b1 2 13) (b1 2 13)) (oS (a9 1 3)) (upd (sl (LDG (b1 2) (b1 2 13) (b1 2 13)) (oS (a9 1 3))) 0 (a12 k 1 + b1 0 23)) j := by
      intro j hj
      rw [hgj j hj, ← setS_u (by omega), k3', sl_i (by omega)]
      rcases h13 with z | z
      · have hA : HH b1 0 = b1 0 23 := by
          unfold HH
          rw [h21, if_neg (by decide), ← h22, z, if_pos rfl]
        have hB : HH b1 1 = 0 := by
          unfold HH
          rw [h21, if_neg (by decide), ← h22, z, if_neg (by decide)]
        rw [hA, hB, z, oS_0, Int32.add_zero]
        have h37 : LDG (b1 2) (b1 2 13) (b1 2 13) (37 + 0) = b1 2 13 := by
          unfold LDG
          rw [u_n (by omega), u_n (by omega), u_n (by omega), u_s]
        rw [h37]
        by_cases z1 : j = 37
        · rw [z1, u_s]
          unfold LDG
          rw [u_n (by omega), u_n (by omega), u_n (by omega), u_s]
        · rw [u_n (by omega)]
          unfold LDG upd
          simp only [if_neg z1]
      · have hA : HH b1 1 = b1 0 23 := by
          unfold HH
          rw [h21, if_neg (by decide), ← h22, z, if_pos rfl]
        have hB : HH b1 0 = 0 := by
          unfold HH
          rw [h21, if_neg (by decide), ← h22, z, if_neg (by decide)]
        rw [hA, hB, z, oS_1, Int32.add_zero]
        have h54 : LDG (b1 2) (b1 2 13) (b1 2 13) (54 + 0) = b1 2 13 := by
          unfold LDG
          rw [u_n (by omega), u_s]
        rw [h54]
        by_cases z1 : j = 54
        · rw [z1, u_s]
          unfold LDG
          rw [u_n (by omega), u_s]
        · rw [u_n (by omega)]
          unfold LDG upd
          simp only [if_neg z1]
    have hHH : ∀ s, 1 ≤ (b1 2 13 + HH b1 s).toInt ∧ (b1 2 13 + HH b1 s).toInt ≤ 120000 := by
      intro s
      unfold HH
      rw [h21, if_neg (by decide)]
      by_cases z : b1 0 22 = s
      · rw [if_pos z]; omega
      · rw [if_neg z, Int32.add_zero]; omega
    refine ⟨_, _, b1, c1, by rw [hne2, d1, d2], by rw [p2_n (by omega), i12]; exact hg, d, hc1, fun j hj => by rw [R_s]; exact hg0 j hj, fin _ (fun k9 z => p2_n (by omega)) (StP_g hgo hst) (VL_g hgj (VL_ld ht hc1 d (hHH 0).1 (hHH 0).2 (hHH 1).1 (hHH 1).2))⟩
theorem tx_asc : ∀ i, i < 57 → ∀ x ∈ txB i, x < 128 := by decide +kernel
theorem num_asc : ∀ x, x < 100 → ∀ y ∈ numT x, y < 128 := by decide +kernel
theorem asc_a {s t : List Nat} (h1 : ∀ x ∈ s, x < 128) (h2 : ∀ x ∈ t, x < 128) : ∀ x ∈ s ++ t, x < 128 := fun x hx => (List.mem_append.mp hx).elim (h1 x) (h2 x)
theorem asc_n : ∀ x ∈ ([] : List Nat), x < 128 := fun x hx => by cases hx
theorem tOpt_a (G : GG) {i k j n : Nat} (hi : i < 57) (h0 : 0 < n) (hn : n ≤ 100) : ∀ x ∈ tOpt G i k j n, x < 128 := by
  unfold tOpt
  have := dN_lt G j (n := n) h0 (by omega)
  split
  · exact asc_a (tx_asc i hi) (num_asc _ (by omega))
  · exact asc_n
theorem tP_a (G : GG) (p : Nat) : ∀ x ∈ tP G p, x < 128 := by
  unfold tP
  have m6 := mvN_l G p
  have d1 := dN_lt G (7 + p) (n := 90) (by omega) (by omega)
  exact asc_a (asc_a (asc_a (asc_a (asc_a (asc_a (asc_a (tx_asc _ (by omega)) (num_asc _ (by omega))) (tx_asc _ (by omega))) (num_asc _ (by omega))) (tOpt_a G (by omega) (by omega) (by omega))) (tOpt_a G (by omega) (by omega) (by omega))) (tOpt_a G (by omega) (by omega) (by omega))) (tx_asc _ (by omega))
theorem tPs_a (G : GG) : ∀ w p, ∀ x ∈ tPs G w p, x < 128 := by
  intro w
  induction w with
  | zero => intro p; exact asc_n
  | succ w ih =>
    intro p
    show ∀ x ∈ tP G p ++ (if mvN G p = 0 then [] else tPs G w (p + 1)), x < 128
    refine asc_a (tP_a G p) ?_
    split
    · exact asc_n
    · exact ih (p + 1)
theorem TXT_a (G : GG) (j : Nat) : (TXT G).getD j 0 < 128 := by
  have d29 := dN_lt G 29 (n := 3) (by omega) (by omega)
  have d30 := dN_lt G 30 (n := 20) (by omega) (by omega)
  have d32 := dN_lt G 32 (n := 80) (by omega) (by omega)
  have d34 := dN_lt G 34 (n := 20) (by omega) (by omega)
  have h : ∀ x ∈ TXT G, x < 128 := by
    unfold TXT tEx tSe tHa tCl
    refine asc_a (asc_a (asc_a (asc_a (tPs_a G _ _) ?_) ?_) ?_) ?_
    · split
      · exact asc_a (asc_a (asc_a (asc_a (tx_asc _ (by omega)) (num_asc _ (by omega))) (tx_asc _ (by omega))) (num_asc _ (by omega))) (tx_asc _ (by omega))
      · exact asc_n
    · split
      · exact asc_a (asc_a (tx_asc _ (by omega)) (num_asc _ (by omega))) (tx_asc _ (by omega))
      · exact asc_n
    · split
      · exact asc_a (asc_a (tx_asc _ (by omega)) (num_asc _ (by omega))) (tx_asc _ (by omega))
      · exact asc_n
    · split
      · exact tx_asc _ (by omega)
      · exact asc_n
  rw [List.getD_eq_getElem?_getD]
  by_cases hj : j < (TXT G).length
  · rw [List.getElem?_eq_getElem hj]
    exact h _ (List.getElem_mem hj)
  · rw [List.getElem?_eq_none (by omega)]
    exact Nat.zero_lt_succ _
theorem TXT_l (G : GG) : 0 < (TXT G).length ∧ (TXT G).length ≤ 202 := by
  have dl : ∀ x, dlen x ≤ 2 := fun x => by unfold dlen; split <;> omega
  have n3 := dN_lt G 0 (n := 3) (by omega) (by omega)
  have hnp : nPs G ≤ 3 := by unfold nPs; omega
  have hPl : (tPs G (nPs G) 0).length ≤ 153 := by have := tPs_l G (nPs G) 0; omega
  have hEl : (tEx G).length ≤ 17 := by
    unfold tEx
    split
    · have d1 := dl (1 + dN G 29 3)
      have d2 := dl (2 + dN G 30 20)
      simp only [List.length_append, txl_53, txl_48, txl_52, numT_len]
      omega
    · exact Nat.zero_le _
  have hSl : (tSe G).length ≤ 11 := by
    unfold tSe
    split
    · have d1 := dl (1 + dN G 32 80)
      simp only [List.length_append, txl_54, txl_52, numT_len]
      omega
    · exact Nat.zero_le _
  have hHl : (tHa G).length ≤ 14 := by
    unfold tHa
    split
    · have d1 := dl (1 + dN G 34 20)
      simp only [List.length_append, txl_55, txl_52, numT_len]
      omega
    · exact Nat.zero_le _
  have hCl : (tCl G).length ≤ 7 := by
    unfold tCl
    split
    · rw [txl_56]
      omega
    · exact Nat.zero_le _
  refine ⟨?_, ?_⟩
  · have e : nPs G = dN G 0 3 + 1 := Nat.add_comm _ _
    have : 0 < (tPs G (nPs G) 0).length := by
      rw [e]
      show 0 < (tP G 0 ++ _).length
      rw [List.length_append]
      unfold tP
      simp only [List.length_append, txl_52]
      omega
    unfold TXT
    simp only [List.length_append]
    omega
  · unfold TXT
    simp only [List.length_append]
    omega
theorem SUMS_z {T E : Int32} : ∀ n, SUMS (SZ T E) n = 0 := by
  intro n
  induction n with
  | zero => rfl
  | succ n ih =>
    show SUMS (SZ T E) n + SZ T E (12 + n) = 0
    rw [ih, sz_n (by omega) (by omega)]
    rfl
theorem IS_z {T E : Int32} {n : Nat} : IS E n (SZ T E) := by
  have s4 : SZ T E 4 = E := rfl
  unfold IS
  rw [SUMS_z, s4, sz_n (by omega) (by omega), sz_n (by omega) (by omega), sz_n (by omega) (by omega), sz_n (by omega) (by omega), sz_n (by omega) (by omega)]
  exact ⟨Int.le_refl _, Int.le_refl _, ⟨Int.le_refl _, fun z => absurd z (by decide)⟩, Int.le_refl _, Int.le_refl _⟩
theorem IVX_z {g : Nat → Int32} {T0 T1 : Int32} (h37 : sl g 37 = SZ T0 (g 3)) (h54 : sl g 54 = SZ T1 (g 3)) (h0 : g 0 = 0) (h7 : g 7 = 0) (h8 : g 8 = 0) (h9 : g 9 = -1) : IVX g := by
  have z0 : (0 : Int32).toInt = 0 := rfl
  unfold IVX FELL LOGI
  rw [h37, h54, h7, h8, h9, h0, z0, sz_n (T := T0) (i := 10) (by omega) (by omega), sz_n (T := T1) (i := 10) (by omega) (by omega), sz_n (T := T0) (i := 1) (by omega) (by omega), sz_n (T := T1) (i := 1) (by omega) (by omega), sz_n (T := T0) (i := 8) (by omega) (by omega), sz_n (T := T1) (i := 8) (by omega) (by omega)]
  exact ⟨IS_z, IS_z, ⟨rfl, rfl⟩, Or.inl ⟨rfl, rfl, rfl⟩, fun z => absurd z (by decide), fun i _ z2 => absurd z2 (by omega), fun z => absurd z (by omega)⟩
theorem LDP_of {t : Int} {N : Nat} {G : GG} {a b : Mem} (hN : 10010 ≤ N) (ht : 0 ≤ t) (h : REL t a b) (h21 : a 2 1 = nI 0) : ∃ a4 b4, LDP G N a a4 ∧ REL t a4 b4 ∧ IVX (b4 1) := by
  obtain ⟨l1, l2⟩ := TXT_l G
  obtain ⟨v, a1, a2, q1, q2, q3, q4⟩ := @fd_all N G (TXT G) a (by omega) (TXT_a G) (by omega) l1 h21
  have hr2 : ∃ b2, REL t a2 b2 := by
    refine ⟨fun k j => if k = 4 then a2 3 j else if k = 0 then (if j = 12 then nI (TXT G).length else b 0 j) else b k j, REL_inp (n := (TXT G).length) (by omega) h ⟨q3.2.1, rfl, fun j hj => ⟨rfl, ?_⟩⟩ q4 ⟨fun k z0 z4 => ?_, fun j z => ?_⟩⟩
    · show -128 ≤ (a2 3 j).toInt ∧ (a2 3 j).toInt ≤ 127
      have := q3.1.2 j
      rw [q3.2.2 j hj, z_nI (by omega)]
      omega
    · funext j
      show (if k = 4 then a2 3 j else if k = 0 then (if j = 12 then nI (TXT G).length else b 0 j) else b k j) = b k j
      rw [if_neg z4, if_neg z0]
    · show (if (0 : Nat) = 4 then a2 3 j else if (0 : Nat) = 0 then (if j = 12 then nI (TXT G).length else b 0 j) else b 0 j) = b 0 j
      rw [if_neg (by omega), if_pos rfl, if_neg z]
  obtain ⟨b2, hr2⟩ := hr2
  obtain ⟨a3, p1, p2MD, p2', p4⟩ := @pt_all N G a2 (by omega) q3
  obtain ⟨a5, b5, b1, c1, u1, u2, d, hc1, hg, hr5⟩ := @ld_good t N a2 b2 a3 (by omega) ht hr2 p1
  obtain ⟨⟨c5, d1, d2⟩, ⟨d3, d4⟩, d5, ⟨dc, d10⟩, da, pn, dx, ds, dh, dp⟩ := id d
  have hf : ∀ j, j < 37 → b5 1 j = b1 2 j := fun j hj => by rw [hg j (by omega)]; exact ldg_n (by omega) (by omega) (by omega) (by omega)
  have zz : ∀ j, j < 12 → (j < 2 ∨ 6 ≤ j) → j ≠ 10 → b5 1 j = PLN j := fun j h1 h2 h3 => (hf j (by omega)).trans (dp j (by omega) h2 h3 (by omega))
  obtain ⟨w1, w2⟩ := @ldg_s (b1 2) (b1 2 13 + HH b1 0) (b1 2 13 + HH b1 1) fun j q1 q2 => by rw [dp j (by omega) (by omega) (by omega) (by omega)]; exact pln_0 (by omega) (by omega)
  have e3 : b5 1 3 = b1 2 3 := hf 3 (by omega)
  have s37 : sl (b5 1) 37 = SZ (b1 2 13 + HH b1 0) (b5 1 3) := by
    rw [e3, ← w1]
    funext i
    unfold sl
    split
    · exact hg _ (by omega)
    · rfl
  have s54 : sl (b5 1) 54 = SZ (b1 2 13 + HH b1 1) (b5 1 3) := by
    rw [e3, ← w2]
    funext i
    unfold sl
    split
    · exact hg _ (by omega)
    · rfl
  have g0 : b5 1 0 = 0 := zz 0 (by omega) (by omega) (by omega)
  have g1 : b5 1 1 = 0 := zz 1 (by omega) (by omega) (by omega)
  have hix : IVX (b5 1) := IVX_z s37 s54 g0 (zz 7 (by omega) (by omega) (by omega)) (zz 8 (by omega) (by omega) (by omega)) (zz 9 (by omega) (by omega) (by omega))
  have hv := hr5.2.2.1
  obtain ⟨h03, hR, hpr, het, hVR⟩ := REL_rules hr5
  have f0 : (0 : Int32).toInt = 0 := rfl
  have hp1 := hVR.1
  have hp5 := hVR.2.1
  obtain ⟨a6, b6, t1, t2, t3⟩ := kk_start hr5 g0
  have hH0 : HH b1 0 = 0 := by
    unfold HH
    rcases dh with ⟨z1, -⟩ | ⟨z1, -, z3, -⟩
    · rw [z1]
      rfl
    · rw [z1, if_neg (by decide)]
      rcases p4 with ⟨y1, -⟩ | ⟨y1, -⟩
      · rw [← z3, y1]
        rfl
      · rw [← z3, y1]
        rfl
  have hH1 : HH b1 1 = hndV G := by
    unfold HH
    rcases dh with ⟨z1, z2⟩ | ⟨z1, z2, z3, z4, -⟩
    · rcases p4 with ⟨-, y2⟩ | ⟨y1, -⟩
      · rw [z1, y2]
        rfl
      · rw [z2] at y1
        exact absurd y1 (by decide)
    · rcases p4 with ⟨y1, -⟩ | ⟨y1, y2⟩
      · rw [y1] at z2
        exact absurd z2 (by decide)
      · rw [z1, if_neg (by decide), ← z3, y1, if_pos rfl, ← z4, y2]
  have hcl : b5 1 10 = clmV G := by
    rw [hf 10 (by omega), ← dc, p2']
    unfold clmV
    split <;> rfl
  have hmd : b5 1 2 = nI (MD G) := by rw [hf 2 (by omega), d2, ← d1, p2MD]
  refine ⟨a6, b6, ⟨v, a1, a2, a5, b1 2 13, q1, q2, ?_, ?_, ?_, ?_, ?_, ?_, ?_, ?_, ?_⟩, t2, ?_⟩
  · rw [u1, p2MD]
  · exact u2
  · rw [← hmd]
    exact a_prop hr5 2 (by omega)
  · have := a_prop hr5 0 (by omega)
    rw [g0] at this
    exact this
  · rw [← hcl]
    exact a_prop hr5 10 (by omega)
  · have := (a_side hr5 (Or.inl rfl : (0 : Int32) = 0 ∨ (0 : Int32) = 1)).1 0 (by omega)
    rw [oS_0, s37, hH0, Int32.add_zero] at this
    exact this
  · unfold f_X8_period
    simp only [b_T, k_per, hpr, Nat.reduceAdd]
    rw [if_pos ⟨by rw [f0]; omega, by rw [f0]; omega⟩, bXc_0, if_neg (by decide), if_pos (by decide), c_num (by decide) (by decide) (by decide) (by decide), hR]
    have e13 : rn (rl (b5 1)) 0 (1 : Int32).toNatClampNeg = b1 2 13 := hf 13 (by omega)
    rw [e13]
  · have := (a_side hr5 (Or.inr rfl : (1 : Int32) = 0 ∨ (1 : Int32) = 1)).1 0 (by omega)
    rw [oS_1, s54, hH1] at this
    exact this
  · rw [t1, g1]
  · rw [t3]
    exact IVX_u hix (by omega) (Or.inl rfl) (fun _ => by decide)
