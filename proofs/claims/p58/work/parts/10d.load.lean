def LDG (f : Nat → Int32) (T0 T1 : Int32) : Nat → Int32 := upd (upd (upd (upd f 37 T0) 41 (f 3)) 54 T1) 58 (f 3)
theorem ldg_n {f : Nat → Int32} {T0 T1 : Int32} {j : Nat} (h1 : j ≠ 37) (h2 : j ≠ 41) (h3 : j ≠ 54) (h4 : j ≠ 58) : LDG f T0 T1 j = f j := by
  unfold LDG
  rw [u_n h4, u_n h3, u_n h2, u_n h1]
theorem ldg_s {f : Nat → Int32} {T0 T1 : Int32} (h : ∀ j, 37 ≤ j → j < 71 → f j = 0) : sl (LDG f T0 T1) 37 = SZ T0 (f 3) ∧ sl (LDG f T0 T1) 54 = SZ T1 (f 3) := by
  refine ⟨sl_sz ?_ ?_ fun i hi z0 z4 => ?_, sl_sz ?_ ?_ fun i hi z0 z4 => ?_⟩
  · unfold LDG
    rw [u_n (by omega), u_n (by omega), u_n (by omega), u_s]
  · unfold LDG
    rw [u_n (by omega), u_n (by omega), u_s]
  · rw [ldg_n (by omega) (by omega) (by omega) (by omega)]
    exact h _ (by omega) (by omega)
  · unfold LDG
    rw [u_n (by omega), u_s]
  · unfold LDG
    rw [u_s]
  · rw [ldg_n (by omega) (by omega) (by omega) (by omega)]
    exact h _ (by omega) (by omega)
theorem ldg_r {f : Nat → Int32} {T0 T1 : Int32} : rl (LDG f T0 T1) = rl f := by
  unfold LDG
  rw [rl_hi (by omega), rl_hi (by omega), rl_hi (by omega), rl_hi (by omega)]
theorem pln_0 {j : Nat} (h1 : j ≠ 9) (h2 : j ≠ 11) : PLN j = 0 := if_neg (by omega)
theorem VL_ld {t : Int} {c : Nat} {a b : Mem} {T0 T1 : Int32} (ht : 0 ≤ t) (hc : 1 ≤ c) (d : DR c a b) (h1 : 1 ≤ T0.toInt) (h2 : T0.toInt ≤ 120000) (h3 : 1 ≤ T1.toInt) (h4 : T1.toInt ≤ 120000) : VL t (LDG (b 2) T0 T1) := by
  obtain ⟨⟨c5, d1, d2⟩, -, -, ⟨-, d10⟩, -, pn, dx, ds, -, dp⟩ := d
  have z0 : (0 : Int32).toInt = 0 := rfl
  have hR : VR (rl (b 2)) (b 2 2) (b 2 4) := by
    have hc2 : (b 2 2).toInt = c := by rw [d2, z_nI (by omega)]
    refine ⟨by omega, by omega, ?_, ?_, fun p hp => ?_⟩
    · rcases dx with ⟨-, -, h⟩ | ⟨-, -, h, -⟩
      · rw [h, z0]; omega
      · omega
    · rcases dx with ⟨-, -, h⟩ | ⟨-, -, -, h⟩
      · rw [h, z0]; omega
      · exact h
    · have hp5 : p < c := by omega
      have r : ∀ w, w < 5 → rl (b 2) (5 * p + w) = b 2 (12 + 5 * p + w) := fun w hw => by
        unfold rl
        rw [if_pos (by omega), show 12 + (5 * p + w) = 12 + 5 * p + w by omega]
      have q := pn p hp5
      rw [show rl (b 2) (5 * p) = b 2 (12 + 5 * p) from r 0 (by omega), r 1 (by omega), r 2 (by omega), r 3 (by omega), r 4 (by omega)]
      exact q
  have e1 : 0 ≤ (b 2 3).toInt := by
    rcases dx with ⟨-, h, -⟩ | ⟨-, h, -⟩
    · rw [h, z0]; omega
    · omega
  have e2 : (b 2 3).toInt ≤ 9 := by
    rcases dx with ⟨-, h, -⟩ | ⟨-, h, -⟩
    · rw [h, z0]; omega
    · omega
  have e3 : 0 < (b 2 3).toInt → 1 ≤ (b 2 4).toInt := by
    intro h9
    rcases dx with ⟨-, h, -⟩ | ⟨-, -, h, -⟩
    · rw [h, z0] at h9; omega
    · exact h
  obtain ⟨s1, s2⟩ := @ldg_s (b 2) T0 T1 fun j q1 q2 => by rw [dp j (by omega) (by omega) (by omega) (by omega)]; exact pln_0 (by omega) (by omega)
  have hf : ∀ j, j < 37 → LDG (b 2) T0 T1 j = b 2 j := fun j hj => ldg_n (by omega) (by omega) (by omega) (by omega)
  unfold VL
  rw [s1, s2, ldg_r, hf 0 (by omega), hf 1 (by omega), hf 2 (by omega), hf 4 (by omega), hf 5 (by omega), hf 6 (by omega), hf 7 (by omega), hf 8 (by omega), hf 10 (by omega), hf 11 (by omega), dp 0 (by omega) (by omega) (by omega) (by omega), dp 1 (by omega) (by omega) (by omega) (by omega), dp 6 (by omega) (by omega) (by omega) (by omega), dp 7 (by omega) (by omega) (by omega) (by omega), dp 8 (by omega) (by omega) (by omega) (by omega), dp 11 (by omega) (by omega) (by omega) (by omega), pln_0 (j := 0) (by omega) (by omega), pln_0 (j := 1) (by omega) (by omega), pln_0 (j := 6) (by omega) (by omega), pln_0 (j := 7) (by omega) (by omega), pln_0 (j := 8) (by omega) (by omega), z0]
  have hm : (-1 : Int32).toInt = -1 := rfl
  refine ⟨Or.inl rfl, hR, VS_z hR h1 (by omega) (by omega) (by omega) e1 e2 e3, VS_z hR h3 (by omega) (by omega) (by omega) e1 e2 e3, ⟨⟨?_, ?_⟩, ⟨by omega, by omega⟩, ⟨by omega, by omega⟩, ⟨by omega, by omega⟩⟩, d10, fun _ => rfl, fun i hi h9 => by omega⟩
  · rcases ds with h | h
    · rw [h, hm]; omega
    · omega
  · rcases ds with h | h
    · rw [h, hm]; omega
    · omega
theorem an_load {t : Int} {N : Nat} {a b : Mem} (hN : 1560 ≤ N) (ht : 0 ≤ t) (h : REL t a b) : ∃ y b', f_X9_load N b = some (y, b') ∧ ∃ a', f_X8_load N a = some (y, a') ∧ REL t a' b' := by
  obtain ⟨e1, c1, n, a1, b1, b2, r1, r2, s1, pz, hr, hc, z0, z2⟩ := @p_load t N a b (by omega) h
  have n10 : ¬ (1 : Int32) = 0 := by decide
  unfold f_X8_load
  rw [r1, b_P2, r2]
  unfold f_X9_load_100
  rw [s1, b_P]
  dsimp only [bT]
  have hgood : f_X9_good (up2 b2 0 3 0) = if a1 1 5 = 0 then 1 else 0 := by
    unfold f_X9_good
    rw [p2_s, u_n (by omega), z0, ← pz.1.2.1]
  rw [hgood]
  by_cases hg : a1 1 5 = 0
  · rw [if_pos hg, if_neg n10, if_neg n10]
    have d := pz.2.2 hg
    have hc1 := hc hg
    obtain ⟨b47, q1, q2, q3, q4, q5, q6⟩ := REM hN hr
    rw [q1, b_P, r_ld128 (by omega), b_P]
    have i1 : f_X8_remember (up2 a1 2 1 0) 1 = a1 1 := by rw [q6 1 (by omega) (by omega), p2_n (by omega)]
    have i4 : f_X8_remember (up2 a1 2 1 0) 4 = a1 4 := by rw [q6 4 (by omega) (by omega), p2_n (by omega)]
    have i5 : f_X8_remember (up2 a1 2 1 0) 5 = a1 5 := by rw [q6 5 (by omega) (by omega), p2_n (by omega)]
    generalize f_X8_remember (up2 a1 2 1 0) = a9 at q2 q6 i1 i4 i5 ⊢
    have hb2 : b47 2 = LDG (b1 2) (b1 2 13 + HH b1 0) (b1 2 13 + HH b1 1) := by
      rw [q5 2 (by omega) (by omega), p2_n (by omega), z2]
      rfl
    have hgj : ∀ j, j < 311 → (fun j => if 0 ≤ j ∧ j < 0 + 311 then b47 2 (0 + (j - 0)) else b47 1 j) j = LDG (b1 2) (b1 2 13 + HH b1 0) (b1 2 13 + HH b1 1) j := by
      intro j hj
      show (if 0 ≤ j ∧ j < 0 + 311 then b47 2 (0 + (j - 0)) else b47 1 j) = _
      rw [if_pos (by omega), hb2, show 0 + (j - 0) = j by omega]
    generalize (fun j => if 0 ≤ j ∧ j < 0 + 311 then b47 2 (0 + (j - 0)) else b47 1 j) = g at hgj ⊢
    obtain ⟨⟨c5, d1, d2⟩, ⟨d3, d4⟩, d5, ⟨dc, d10⟩, da, pn, dx, ds, dh, dp⟩ := id d
    have zz : ∀ j, j < 12 → (j < 2 ∨ 6 ≤ j) → j ≠ 10 → b1 2 j = PLN j := fun j h1 h2 h3 => dp j (by omega) h2 h3 (by omega)
    have hT := (pn 0 (by omega)).2.1
    have hT0 : 1 ≤ (b1 2 13).toInt ∧ (b1 2 13).toInt ≤ 99999 := hT
    have a51 : a1 5 1 = b1 2 13 := da 1 (by omega)
    have hf : ∀ T0 T1 j, j < 37 → LDG (b1 2) T0 T1 j = b1 2 j := fun T0 T1 j hj => ldg_n (by omega) (by omega) (by omega) (by omega)
    obtain ⟨w1, w2⟩ := @ldg_s (b1 2) (b1 2 13) (b1 2 13) fun j q1 q2 => by rw [dp j (by omega) (by omega) (by omega) (by omega)]; exact pln_0 (by omega) (by omega)
    obtain ⟨u1, u2⟩ := @c_su6 a9 (nb (a9 1 2)) (LDG (b1 2) (b1 2 13) (b1 2 13)) q2.2.1.1 (by rw [hf _ _ 0 (by omega), zz 0 (by omega) (by omega) (by omega)]; rfl) (by rw [hf _ _ 1 (by omega), zz 1 (by omega) (by omega) (by omega)]; rfl) (by rw [i4, hf _ _ 2 (by omega), d1, d2]) (by rw [i4, hf _ _ 3 (by omega), d3]) (by rw [i4, hf _ _ 4 (by omega), d4]) (by rw [i4, hf _ _ 5 (by omega), d5]) (by rw [hf _ _ 6 (by omega), zz 6 (by omega) (by omega) (by omega)]; rfl) (by rw [hf _ _ 7 (by omega), zz 7 (by omega) (by omega) (by omega)]; rfl) (by rw [hf _ _ 8 (by omega), zz 8 (by omega) (by omega) (by omega)]; rfl) (by rw [hf _ _ 9 (by omega), zz 9 (by omega) (by omega) (by omega)]; rfl) (by rw [hf _ _ 10 (by omega), i1, nb_nb, dc]) (by rw [hf _ _ 11 (by omega), zz 11 (by omega) (by omega) (by omega)]; rfl) (by
      rw [ldg_r]
      funext i
      unfold rI rl
      by_cases hi : i < 25
      · rw [if_pos hi, if_pos hi, i5]; exact da i hi
      · rw [if_neg hi, if_neg hi]) (by rw [w1, i5, i4, a51, d3]) (by rw [w2, i5, i4, a51, d3])
    generalize f_X6_setUp 8 4 (nb (a9 1 2)) a9 = a12 at u1 u2 ⊢
    have i12 : a12 1 = a1 1 := by rw [u2 1 (by omega), i1]
    have y12 : a12 9 1 = b1 2 2 := by rw [show a12 9 1 = a12 (8 + 1) 1 from rfl, u1.2.1.2.2.1, hf _ _ 2 (by omega)]
    have yg : g 2 = b1 2 2 := by rw [hgj 2 (by omega), hf _ _ 2 (by omega)]
    have b60 : (upR b47 1 g) 1 ((2 : Int32)).toNatClampNeg = b1 2 2 := by rw [R_s]; exact yg
    have fin : ∀ a18 : Mem, (∀ k, k < 8 ∨ 17 ≤ k → a18 k = a12 k) → StP a18 8 g → VL t g → REL t a18 (upR b47 1 g) := fun a18 f1 f2 f3 => REL_now (fun k q => by rw [f1 k q, u2 k q]) (fun j _ => by rw [R_n (by omega)]) (fun k k4 k8 => R_n (by omega)) (by omega) (by rw [R_s]; exact f2) (by rw [R_s]; exact f3) q2
    have e0 : (0 : Int32).toInt = 0 := rfl
    rw [i12]
    rcases dh with ⟨h21, h13⟩ | ⟨h21, h13, h22, h23, hh1, hh2⟩
    · have H0 : ∀ s, HH b1 s = 0 := fun s => by
        unfold HH
        rw [h21]
        rfl
      rw [H0, H0, Int32.add_zero] at hgj
      rw [if_pos h13]
      refine ⟨b1 2 2, _, by rw [b60], _, by rw [show a12 (8 + 1) 1 = b1 2 2 from y12], fin a12 (fun k _ => rfl) (StP_g hgj u1) (VL_g hgj (VL_ld ht hc1 d hT0.1 (by omega) hT0.1 (by omega)))⟩
    · have hn1 : ¬ a1 1 3 = -1 := by
        rcases h13 with z | z
        · rw [z]; decide
        · rw [z]; decide
      rw [if_neg hn1]
      obtain ⟨k, k1, k2, k3⟩ := StP_side u1 h13
      have k3' : a12 k 1 = sl (LDG (b1 2) (b1 2 13) (b1 2 13)) (oS (a1 1 3)) 0 := congrFun k3 0
      rw [k1]
      have hne : (up2 a12 k 1 (a12 k 1 + a1 1 4)) (8 + 1) 1 = b1 2 2 := by rw [p2_n (by omega)]; exact y12
      rw [h23]
      have hsum : (b1 2 13 + b1 0 23).toInt = (b1 2 13).toInt + (b1 0 23).toInt := z_add (by omega) (by omega)
      have hne2 : (up2 a12 k 1 (a12 k 1 + b1 0 23)) (8 + 1) 1 = b1 2 2 := by rw [p2_n (by omega)]; exact y12
      have hst := @StP_S a12 (up2 a12 k 1 (a12 k 1 + b1 0 23)) _ (upd (sl (LDG (b1 2) (b1 2 13) (b1 2 13)) (oS (a1 1 3))) 0 (a12 k 1 + b1 0 23)) (a1 1 3) k u1 h13 k1 (fun k9 z1 z2 => p2_n z1) (by rw [sI_w1, k3]) (u_n (by omega))
      have hgo : ∀ j, j < 311 → g j = setS (LDG (b1 2) (b1 2 13) (b1 2 13)) (oS (a1 1 3)) (upd (sl (LDG (b1 2) (b1 2 13) (b1 2 13)) (oS (a1 1 3))) 0 (a12 k 1 + b1 0 23)) j := by
        intro j hj
        rw [hgj j hj, ← setS_u (by omega), k3', sl_i (by omega)]
        rcases h13 with z | z
        · have hA : HH b1 0 = b1 0 23 := by
            unfold HH
            rw [h21, if_neg (by decide), ← h22, z, if_pos rfl]
          have hB : HH b1 1 = 0 := by
            unfold HH
            rw [h21, if_neg (by decide), ← h22, z, if_neg (by decide)]
          rw [hA, hB, z, oS_0, Int32.add_zero]
          have h37 : LDG (b1 2) (b1 2 13) (b1 2 13) (37 + 0) = b1 2 13 := by
            unfold LDG
            rw [u_n (by omega), u_n (by omega), u_n (by omega), u_s]
          rw [h37]
          by_cases z1 : j = 37
          · rw [z1, u_s]
            unfold LDG
            rw [u_n (by omega), u_n (by omega), u_n (by omega), u_s]
          · rw [u_n (by omega)]
            unfold LDG upd
            simp only [if_neg z1]
        · have hA : HH b1 1 = b1 0 23 := by
            unfold HH
            rw [h21, if_neg (by decide), ← h22, z, if_pos rfl]
          have hB : HH b1 0 = 0 := by
            unfold HH
            rw [h21, if_neg (by decide), ← h22, z, if_neg (by decide)]
          rw [hA, hB, z, oS_1, Int32.add_zero]
          have h54 : LDG (b1 2) (b1 2 13) (b1 2 13) (54 + 0) = b1 2 13 := by
            unfold LDG
            rw [u_n (by omega), u_s]
          rw [h54]
          by_cases z1 : j = 54
          · rw [z1, u_s]
            unfold LDG
            rw [u_n (by omega), u_s]
          · rw [u_n (by omega)]
            unfold LDG upd
            simp only [if_neg z1]
      have hHH : ∀ s, 1 ≤ (b1 2 13 + HH b1 s).toInt ∧ (b1 2 13 + HH b1 s).toInt ≤ 120000 := by
        intro s
        unfold HH
        rw [h21, if_neg (by decide)]
        by_cases z : b1 0 22 = s
        · rw [if_pos z]; omega
        · rw [if_neg z, Int32.add_zero]; omega
      refine ⟨b1 2 2, _, by rw [b60], _, by rw [hne2], fin _ (fun k9 z => p2_n (by omega)) (StP_g hgo hst) (VL_g hgj (VL_ld ht hc1 d (hHH 0).1 (hHH 0).2 (hHH 1).1 (hHH 1).2))⟩
  · rw [if_neg hg, if_pos rfl, if_pos rfl]
    exact ⟨-4, _, rfl, _, rfl, hr⟩

