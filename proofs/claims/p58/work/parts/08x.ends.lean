def RES (a0 b0 a b : Mem) : Prop := (∀ q, q < 17 ∨ 22 ≤ q → a q = a0 q) ∧ (∀ q, q ≠ 0 → q ≠ 1 → b q = b0 q) ∧ (∀ j, j ≠ 10 → b 0 j = b0 0 j) ∧ b 0 3 = 0 ∧ a 17 3 = b 0 10 ∧ (∀ s, s = 0 ∨ s = 1 → sI a (tr s) 0 = sl (b 1) (oS s) 0) ∧ ((a 17 5 = -1 ∧ b 1 11 = -1) ∨ ∃ s, (s = 0 ∨ s = 1) ∧ a 17 5 = s ∧ b 1 11 = WON (b0 1) s)
theorem play_end {N fu : Nat} {b : Mem} {pw pb mv lf : Int32} (h : b 0 3 = 0) (h4 : b 1 0 = 4) : f_X9_play_17 N pw pb mv (fu + 1) lf b = some b := by
  rw [f_X9_play_17_s, r_st h, b_P, h4, if_neg (show ¬ (4 : Int32) = 1 by decide), if_pos rfl]
theorem play_all {N m : Nat} {a0 b0 : Mem} {pw pb : Int32} (hN : 10010 ≤ N) (hm : m ≤ 400) (hw : 1 ≤ pw.toInt ∧ pw.toInt ≤ 9999) (hb : 1 ≤ pb.toInt ∧ pb.toInt ≤ 9999) : ∀ (n k fu : Nat) (a b : Mem) (lf lg : Int32), k + n = m → n + 2 ≤ fu → PRR a0 b0 k lf a b → 9999 * (n : Int) ≤ lf.toInt → lf.toInt ≤ lg.toInt → ∃ a' b', f_X7_play_10 N 8 pw pb (nI m) fu (nI k) a = some a' ∧ f_X9_play_17 N pw pb (nI m) fu lg b = some b' ∧ RES a0 b0 a' b' := by
  have e0 : (0 : Int32).toInt = 0 := rfl
  intro n
  induction n with
  | zero =>
    intro k fu a b lf lg hk hf h hlf hlg
    obtain ⟨f, rfl⟩ : ∃ f, fu = f + 1 := ⟨fu - 1, by omega⟩
    obtain ⟨ha, hbq, hbj, h03, g0, g10, g11, hsd, a2s, a3k, b10, a4l, a5n, hsides, -⟩ := h
    have hkm : k = m := by omega
    subst hkm
    rw [f_X7_play_10_s, if_pos (Int32.le_refl _), f_X9_play_17_s, r_st h03, b_P, if_pos g0, if_neg (by decide), b10, if_pos (Int32.le_refl _)]
    exact ⟨a, b, rfl, rfl, ha, hbq, hbj, h03, by rw [a3k, b10], fun s hs => by rw [(hsides s hs).1], Or.inl ⟨a5n, g11⟩⟩
  | succ n ih =>
    intro k fu a b lf lg hk hf h hlf hlg
    obtain ⟨f, rfl⟩ : ∃ f, fu = f + 1 := ⟨fu - 1, by omega⟩
    have hmv : ¬ nI m ≤ nI k := fun h9 => by have := (nI_lei (by omega) (by omega)).1 h9; omega
    have hh := @play_step N f k a0 b0 a b lf lg pw pb (nI m) hN (by omega) hw hb (by omega) (Or.inr ⟨by omega, hlg⟩) h hmv
    rw [f_X7_play_10_s, if_neg hmv]
    simp only [Nat.reduceAdd, b_T, nI_1]
    rcases hh with ⟨hA, -⟩ | ⟨a2, b2, l2, c1, c2, ha, hbq, hbj, h03, h4, a3k, b10, a5, b11, hl⟩ | ⟨a2, a3, b2, c1, c2, c3, hP, hwl, -⟩
    · exfalso
      obtain ⟨-, -, -, -, -, -, -, hsd, -, -, -, -, -, hsides, -⟩ := h
      obtain ⟨-, hV, -⟩ := hsides (b 1 1) hsd
      have h6 := hV.2.2.2.2.2.1
      have hpc : 1 ≤ (pcO (b 1 1) pw pb).toInt ∧ (pcO (b 1 1) pw pb).toInt ≤ 9999 := by
        unfold pcO
        split
        · exact hw
        · exact hb
      rw [z_mx, z_sub (by omega) (by omega), e0] at hA
      omega
    · obtain ⟨f2, rfl⟩ : ∃ f2, f = f2 + 1 := ⟨f - 1, by omega⟩
      have hsd : b 1 1 = 0 ∨ b 1 1 = 1 := h.2.2.2.2.2.2.2.1
      rw [c1, b_P2, if_pos rfl, c2, play_end h03 h4]
      exact ⟨a2, b2, rfl, rfl, ha, hbq, hbj, h03, by rw [a3k, b10], hl, Or.inr ⟨b 1 1, hsd, a5, b11⟩⟩
    · rw [c1, b_P2, if_neg (by decide), c2, c3]
      have hwl9 := hwl
      refine ih (k + 1) f a3 b2 _ _ (by omega) (by omega) hP ?_ ?_
      · obtain ⟨-, -, -, -, -, -, -, hsd, -, -, -, -, -, hsides, -⟩ := h
        obtain ⟨-, hV, -⟩ := hsides (b 1 1) hsd
        have h6 := hV.2.2.2.2.2.1
        have hpc : 1 ≤ (pcO (b 1 1) pw pb).toInt ∧ (pcO (b 1 1) pw pb).toInt ≤ 9999 := by
          unfold pcO
          split
          · exact hw
          · exact hb
        have hwt : (mxI 0 (pcO (b 1 1) pw pb - sl (b 1) (oS (b 1 1)) 6)).toInt = max 0 ((pcO (b 1 1) pw pb).toInt - (sl (b 1) (oS (b 1 1)) 6).toInt) := by rw [z_mx, z_sub (by omega) (by omega), e0]
        have hlh := z_hi lf
        have hlh2 := z_hi lg
        rw [z_sub (by omega) (by omega)]
        omega
      · obtain ⟨-, -, -, -, -, -, -, hsd, -, -, -, -, -, hsides, -⟩ := h
        obtain ⟨-, hV, -⟩ := hsides (b 1 1) hsd
        have h6 := hV.2.2.2.2.2.1
        have hpc : 1 ≤ (pcO (b 1 1) pw pb).toInt ∧ (pcO (b 1 1) pw pb).toInt ≤ 9999 := by
          unfold pcO
          split
          · exact hw
          · exact hb
        have hwt : (mxI 0 (pcO (b 1 1) pw pb - sl (b 1) (oS (b 1 1)) 6)).toInt = max 0 ((pcO (b 1 1) pw pb).toInt - (sl (b 1) (oS (b 1 1)) 6).toInt) := by rw [z_mx, z_sub (by omega) (by omega), e0]
        have hlh := z_hi lf
        have hlh2 := z_hi lg
        rw [z_sub (by omega) (by omega), z_sub (by omega) (by omega)]
        omega
def ind (x : Int32) : Int := if 0 < x.toInt then 1 else 0
theorem ind_01 {x : Int32} : 0 ≤ ind x ∧ ind x ≤ 1 := by unfold ind; split <;> omega
theorem play_for {N : Nat} {a0 b0 : Mem} {pw pb : Int32} (hN : 10010 ≤ N) (hw : 1 ≤ pw.toInt ∧ pw.toInt ≤ 9999) (hb : 1 ≤ pb.toInt ∧ pb.toInt ≤ 9999) : ∀ (n k fu : Nat) (a b : Mem) (lf : Int32), k + n = 10001 → n + 2 ≤ fu → PRR a0 b0 k lf a b → 0 ≤ lf.toInt → lf.toInt + ind (sl (b 1) (oS (b 1 1)) 6) + ind (sl (b 1) (oS (1 - b 1 1)) 6) + (k : Int) ≤ 10001 → ∃ a' b', f_X7_playFor_10 N 8 pw pb fu (nI k) a = some a' ∧ f_X9_play_17 N pw pb 2147483647 fu lf b = some b' ∧ a' 17 3 = b' 0 10 ∧ (∀ q, q < 17 ∨ 22 ≤ q → a' q = a0 q) ∧ (∀ q, q ≠ 0 → q ≠ 1 → b' q = b0 q) ∧ (∀ j, j ≠ 10 → b' 0 j = b0 0 j) := by
  have e0 : (0 : Int32).toInt = 0 := rfl
  have ebig : (2147483647 : Int32).toInt = 2147483647 := rfl
  intro n
  induction n with
  | zero =>
    intro k fu a b lf hk hf h hl0 hlf
    obtain ⟨f, rfl⟩ : ∃ f, fu = f + 1 := ⟨fu - 1, by omega⟩
    have hkm : k = 10001 := by omega
    subst hkm
    have hmv : ¬ (2147483647 : Int32) ≤ nI 10001 := by decide
    have hh := @play_step N f 10001 a0 b0 a b lf lf pw pb 2147483647 hN (by omega) hw hb (by omega) (Or.inl rfl) h hmv
    obtain ⟨ha, hbq, hbj, h03, g0, g10, g11, hsd, a2s, a3k, b10, a4l, a5n, hsides, -⟩ := h
    rw [f_X7_playFor_10_s, if_pos (by decide)]
    rcases hh with ⟨hA, -, b2, c2, c3, c4, c5⟩ | ⟨a2, b2, l2, c1, c2, ha2, hbq2, hbj2, h032, h4, a3k2, b102, a5, b11, hl⟩ | ⟨a2, a3, b2, c1, c2, c3, hP, hwl, -⟩
    · exact ⟨a, b2, rfl, c2, by rw [a3k, c3], ha, c4, c5⟩
    · obtain ⟨f2, rfl⟩ : ∃ f2, f = f2 + 1 := ⟨f - 1, by omega⟩
      rw [c2, play_end h032 h4]
      exact ⟨a, b2, rfl, rfl, by rw [a3k, b102], ha, hbq2, hbj2⟩
    · exfalso
      obtain ⟨-, hV, -⟩ := hsides (b 1 1) hsd
      have h6 := hV.2.2.2.2.2.1
      have hpc : 1 ≤ (pcO (b 1 1) pw pb).toInt ∧ (pcO (b 1 1) pw pb).toInt ≤ 9999 := by
        unfold pcO
        split
        · exact hw
        · exact hb
      rw [z_mx, z_sub (by omega) (by omega), e0] at hwl
      have i1 := @ind_01 (sl (b 1) (oS (b 1 1)) 6)
      have i2 := @ind_01 (sl (b 1) (oS (1 - b 1 1)) 6)
      have i3 : ind (sl (b 1) (oS (b 1 1)) 6) = 0 := by omega
      unfold ind at i3
      by_cases hpos : 0 < (sl (b 1) (oS (b 1 1)) 6).toInt
      · rw [if_pos hpos] at i3
        omega
      · omega
  | succ n ih =>
    intro k fu a b lf hk hf h hl0 hlf
    obtain ⟨f, rfl⟩ : ∃ f, fu = f + 1 := ⟨fu - 1, by omega⟩
    have ek : (nI k).toInt = k := z_nI (by omega)
    have hmv : ¬ (2147483647 : Int32) ≤ nI k := by rw [z_le, ebig, ek]; omega
    have hh := @play_step N f k a0 b0 a b lf lf pw pb 2147483647 hN (by omega) hw hb (by omega) (Or.inl rfl) h hmv
    have elim : ¬ (10001 : Int32) ≤ nI k := by
      have e : (10001 : Int32).toInt = 10001 := rfl
      rw [z_le, e, ek]
      omega
    rw [f_X7_playFor_10_s, if_neg elim]
    simp only [Nat.reduceAdd, b_T, nI_1]
    rcases hh with ⟨hA, c1, b2, c2, c3, c4, c5⟩ | ⟨a2, b2, l2, c1, c2, ha, hbq, hbj, h03, h4, a3k, b10, a5, b11, hl⟩ | ⟨a2, a3, b2, c1, c2, c3, hP, hwl, hs1, ht1, ht2⟩
    · obtain ⟨ha, hbq, hbj, h03, g0, g10, g11, hsd, a2s, a3k, -⟩ := h
      rw [c1, b_P2, if_pos rfl, c2]
      exact ⟨a, b2, rfl, rfl, by rw [a3k, c3], ha, c4, c5⟩
    · obtain ⟨f2, rfl⟩ : ∃ f2, f = f2 + 1 := ⟨f - 1, by omega⟩
      rw [c1, b_P2, if_pos rfl, c2, play_end h03 h4]
      exact ⟨a2, b2, rfl, rfl, by rw [a3k, b10], ha, hbq, hbj⟩
    · obtain ⟨-, -, -, -, -, -, -, hsd, -, -, -, -, -, hsides, -⟩ := h
      obtain ⟨-, hV, -⟩ := hsides (b 1 1) hsd
      have h6 := hV.2.2.2.2.2.1
      have hpc : 1 ≤ (pcO (b 1 1) pw pb).toInt ∧ (pcO (b 1 1) pw pb).toInt ≤ 9999 := by
        unfold pcO
        split
        · exact hw
        · exact hb
      have hwt : (mxI 0 (pcO (b 1 1) pw pb - sl (b 1) (oS (b 1 1)) 6)).toInt = max 0 ((pcO (b 1 1) pw pb).toInt - (sl (b 1) (oS (b 1 1)) 6).toInt) := by rw [z_mx, z_sub (by omega) (by omega), e0]
      have hlh := z_hi lf
      have hls : (lf - mxI 0 (pcO (b 1 1) pw pb - sl (b 1) (oS (b 1 1)) 6)).toInt = lf.toInt - max 0 ((pcO (b 1 1) pw pb).toInt - (sl (b 1) (oS (b 1 1)) 6).toInt) := by rw [z_sub (by omega) (by omega), hwt]
      rw [c1, b_P2, if_neg (by decide), c2, c3]
      refine ih (k + 1) f a3 b2 _ (by omega) (by omega) hP (by omega) ?_
      have e11 : (1 : Int32) - (1 - b 1 1) = b 1 1 := by rcases hsd with h9 | h9 <;> rw [h9] <;> rfl
      have i2 := @ind_01 (sl (b 1) (oS (1 - b 1 1)) 6)
      rw [hs1, e11, ht1, ht2, hls]
      have iz : ind 0 = 0 := rfl
      rw [iz]
      unfold ind at hlf ⊢
      by_cases hpos : 0 < (sl (b 1) (oS (b 1 1)) 6).toInt
      · rw [if_pos hpos] at hlf
        omega
      · rw [if_neg hpos] at hlf
        omega
theorem begin_PRR {t : Int} {a b1 : Mem} {lf : Int32} (ht : t ≤ 512) (h : REL t a b1) (hz : b1 1 0 = 1) : PRR a b1 0 lf (f_X7_begin 8 lf a) (up2 (upR b1 1 (upd (b1 1) 10 0)) 0 10 0) := by
  obtain ⟨h03, ⟨w, ⟨k0, k1, k2, k3, k4, k5, k6, k7, k9, k10, k11, kR⟩, s1, s2, mm, lg⟩, ⟨v1, v2, v3, v4, ⟨-, -, -, v8⟩, v10, v11, -⟩, -⟩ := id h
  have d2 := @sdr_or 8 (a 8 2)
  have d3 := @sdr_or 8 (a 8 3)
  unfold f_X7_begin
  simp only [b_T]
  obtain ⟨cF, cS⟩ := @c_cpy5 a 18 (sdr 8 (a 8 2)) (by omega) (by omega) (by omega)
  have e8 : f_X5_copyFrom 18 (sdr 8 (a 8 2)) a 8 = a 8 := cF 8 (by omega) (by omega)
  rw [e8]
  generalize f_X5_copyFrom 18 (sdr 8 (a 8 2)) a = a2 at cF cS e8 ⊢
  obtain ⟨cF2, cS2⟩ := @c_cpy5 a2 20 (sdr 8 (a 8 3)) (by omega) (by omega) (by omega)
  have e8' : f_X5_copyFrom 20 (sdr 8 (a 8 3)) a2 8 = a 8 := by rw [cF2 8 (by omega) (by omega), e8]
  rw [e8']
  generalize f_X5_copyFrom 20 (sdr 8 (a 8 3)) a2 = a3 at cF2 cS2 ⊢
  have q17 : ∀ q, q ≠ 17 → up2 (up2 (up2 (up2 a3 17 2 (a 8 6)) 17 3 0) 17 4 lf) 17 5 (-1) q = a3 q := fun q z => by rw [p2_n z, p2_n z, p2_n z, p2_n z]
  have f2 : up2 (up2 (up2 (up2 a3 17 2 (a 8 6)) 17 3 0) 17 4 lf) 17 5 (-1) 17 2 = a 8 6 := by rw [p2_s, u_n (by omega), p2_s, u_n (by omega), p2_s, u_n (by omega), p2_s, u_s]
  have f3 : up2 (up2 (up2 (up2 a3 17 2 (a 8 6)) 17 3 0) 17 4 lf) 17 5 (-1) 17 3 = 0 := by rw [p2_s, u_n (by omega), p2_s, u_n (by omega), p2_s, u_s]
  have f4 : up2 (up2 (up2 (up2 a3 17 2 (a 8 6)) 17 3 0) 17 4 lf) 17 5 (-1) 17 4 = lf := by rw [p2_s, u_n (by omega), p2_s, u_s]
  have f5 : up2 (up2 (up2 (up2 a3 17 2 (a 8 6)) 17 3 0) 17 4 lf) 17 5 (-1) 17 5 = -1 := by rw [p2_s, u_s]
  generalize up2 (up2 (up2 (up2 a3 17 2 (a 8 6)) 17 3 0) 17 4 lf) 17 5 (-1) = a9 at q17 f2 f3 f4 f5 ⊢
  have fr : ∀ q, q < 17 ∨ 22 ≤ q → a9 q = a q := fun q hq => by rw [q17 q (by omega), cF2 q (by omega) (by omega), cF q (by omega) (by omega)]
  have S18 : sI a9 18 = sl (b1 1) 37 := by
    rw [sI_fr (q17 18 (by omega)) (q17 19 (by omega)), sI_fr (cF2 18 (by omega) (by omega)) (cF2 19 (by omega) (by omega)), cS, s1]
  have S20 : sI a9 20 = sl (b1 1) 54 := by
    rw [sI_fr (q17 20 (by omega)) (q17 21 (by omega)), cS2, sI_fr (cF _ (by omega) (by omega)) (cF _ (by omega) (by omega)), s2]
  have B1 : ∀ j, j ≠ 10 → up2 (upR b1 1 (upd (b1 1) 10 0)) 0 10 0 1 j = b1 1 j := fun j z => by rw [p2_n (by omega), R_s, u_n z]
  have B10 : up2 (upR b1 1 (upd (b1 1) 10 0)) 0 10 0 1 10 = 0 := by rw [p2_n (by omega), R_s, u_s]
  have Brl : rl (up2 (upR b1 1 (upd (b1 1) 10 0)) 0 10 0 1) = rl (b1 1) := by rw [p2_n (by omega), R_s, rl_lo (by omega)]
  have Bsl : ∀ s, sl (up2 (upR b1 1 (upd (b1 1) 10 0)) 0 10 0 1) (oS s) = sl (b1 1) (oS s) := fun s => by rw [p2_n (by omega), R_s, sl_lo (by omega)]
  refine ⟨fr, fun q z0 z1 => by rw [p2_n z0, R_n z1], fun j z => by rw [p2_s, u_n z, R_n (by omega)], by rw [p2_s, u_n (by omega), R_n (by omega)]; exact h03, by rw [B1 0 (by omega)]; exact hz, B10, by rw [B1 11 (by omega)]; exact v11 (by rw [hz]; decide), by rw [B1 1 (by omega)]; exact v1, by rw [f2, B1 1 (by omega)]; exact k1, f3, by rw [p2_s, u_s]; rfl, f4, f5, ?_, ?_, ?_, ?_, ?_⟩
  · intro s hs
    rw [Bsl, Brl, B1 2 (by omega), B1 4 (by omega)]
    rcases hs with rfl | rfl
    · exact ⟨S18, VS_mono v3 (by omega) (by omega) (by omega), rfl⟩
    · exact ⟨S20, VS_mono v4 (by omega) (by omega) (by omega), rfl⟩
  · rw [rI_fr (fr 10 (by omega)), Brl]
    exact kR
  · rw [fr 9 (by omega), B1 4 (by omega)]
    exact k4
  · rw [fr 9 (by omega), B1 2 (by omega)]
    exact k2
  · rw [Brl, B1 2 (by omega), B1 4 (by omega)]
    exact v2
theorem both_play {t : Int} {N m : Nat} {a b1 : Mem} {pw pb : Int32} (hN : 10010 ≤ N) (ht : t ≤ 512) (hm : m ≤ 400) (hw : 1 ≤ pw.toInt ∧ pw.toInt ≤ 9999) (hb : 1 ≤ pb.toInt ∧ pb.toInt ≤ 9999) (h : REL t a b1) (hz : b1 1 0 = 1) : ∃ a' b', f_X7_play N 8 pw pb (nI m) a = some a' ∧ f_X9_play N pw pb (nI m) 2147483647 b1 = some b' ∧ RES a b1 a' b' := by
  have h03 := (REL_rules h).1
  have e10 : (10 : Int32).toNatClampNeg = 10 := rfl
  obtain ⟨a', b', q1, q2, q3⟩ := @play_all N m a b1 pw pb hN hm hw hb m 0 N _ _ 3999600 2147483647 (by omega) (by omega) (@begin_PRR t a b1 3999600 ht h hz) (by rw [show (3999600 : Int32).toInt = 3999600 by decide]; omega) (by decide)
  refine ⟨a', b', ?_, ?_, q3⟩
  · unfold f_X7_play
    exact q1
  · unfold f_X9_play
    simp only [b_T]
    rw [h03]
    exact q2
theorem q_paces {p q : Int32} {b : Mem} : f_X9_arePaces p q b = if (1 ≤ p.toInt ∧ p.toInt ≤ 9999) ∧ (1 ≤ q.toInt ∧ q.toInt ≤ 9999) then 1 else 0 := by
  unfold f_X9_arePaces
  simp only [b_T, q_pace]
  by_cases hp : 1 ≤ p.toInt ∧ p.toInt ≤ 9999
  · by_cases hq : 1 ≤ q.toInt ∧ q.toInt ≤ 9999
    · rw [if_pos hp, if_neg (by decide), if_pos hq, if_neg (by decide), if_pos ⟨hp, hq⟩]
    · rw [if_pos hp, if_neg (by decide), if_neg hq, if_pos rfl, if_neg (fun h => hq h.2)]
  · rw [if_neg hp, if_pos rfl, if_neg (fun h => hp h.1)]
theorem RES_back {t : Int} {N : Nat} {a a' b0 b1 b' : Mem} {x : Int32} (hN : 312 ≤ N) (hr : REL t a b0) (q3 : ∀ k, k ≠ 3 → b1 k = b0 k) (q4 : ∀ j, j < 311 → b1 3 j = b0 1 j) (h1 : ∀ q, q < 17 ∨ 22 ≤ q → a' q = a q) (h2 : ∀ q, q ≠ 0 → q ≠ 1 → b' q = b1 q) (h3 : ∀ j, j ≠ 10 → b' 0 j = b1 0 j) : ∃ b9, f_X9_layBack N x b' = some (x, b9) ∧ REL t a' b9 ∧ b9 0 0 = b0 0 0 := back_REL hN (REL_tr h1 hr) (fun j hj => by rw [h2 3 (by omega) (by omega), q4 j hj]) (fun j z => by rw [h3 j z, q3 0 (by omega)]) (fun k z4 z8 => by rw [h2 k (by omega) (by omega), q3 k (by omega)])
theorem ag_ends {t : Int} {N : Nat} {a b c : Mem} {p q : Int32} (hN : 10010 ≤ N) (ht : t ≤ 512) (h : REL t a b) : AGR t (f_L_ends N p q a c) (f_X9_ends N p q b) := by
  unfold f_L_ends f_X8_ends f_X9_ends
  simp only [b_T, k_pace, q_paces, pass1]
  by_cases hp : 1 ≤ p.toInt ∧ p.toInt ≤ 9999
  · by_cases hq : 1 ≤ q.toInt ∧ q.toInt ≤ 9999
    · simp only [hp, hq, and_self, reduceIte, i10, bXc_0, b_T2]
      obtain ⟨hr, h00⟩ := @REL_t t a b 0 h
      generalize up2 b 0 0 0 = b0 at hr h00 ⊢
      have h03 := (REL_rules hr).1
      have k0 : a 8 5 = b0 1 0 := hr.2.1.2.1.1
      rw [r_st h03, b_P, k0]
      by_cases hz : b0 1 0 = 1
      · rw [if_pos hz, if_pos hz, if_neg (by decide)]
        obtain ⟨b1, q1, q2, q3, q4⟩ := aside_REL (N := N) (by omega) hr
        obtain ⟨a', b', w1, w2, w3⟩ := @both_play t N 400 a b1 p q hN ht (by omega) hp hq q2 (by rw [q3 1 (by omega)]; exact hz)
        have w1' : f_X7_play N 8 p q 400 a = some a' := w1
        have w2' : f_X9_play N p q 400 2147483647 b1 = some b' := w2
        rw [q1, b_P, w1', b_P, w2', b_P]
        obtain ⟨r1, r2, r3, r4, r5, r6, r7⟩ := w3
        have e11 : b' (rowM (b' 0 3)) (11 : Int32).toNatClampNeg = b' 1 11 := by rw [r4]; rfl
        rw [e11]
        obtain ⟨b9, y1, y2, y3⟩ := @RES_back t N a a' b0 b1 b' (b' 1 11) (by omega) hr q3 q4 r1 r2 r3
        rw [y1, b_P2]
        have hst : StP a' 8 (b1 1) := StP_fr (fun k1 z1 z2 => r1 k1 (by omega)) q2.2.1
        rcases r7 with ⟨z5, z11⟩ | ⟨s, hs, z5, z11⟩
        · rw [z5, if_pos rfl, z11]
          exact ag_ok rfl rfl y2 (by rw [y3, h00])
        · rw [z5, if_neg (show ¬ s = -1 by rcases hs with rfl | rfl <;> decide), StP_won hst hs, z11]
          exact ag_ok rfl rfl y2 (by rw [y3, h00])
      · rw [if_neg hz, if_neg hz, if_pos rfl]
        exact ag_ok rfl rfl hr h00
    · simp only [hp, hq, and_false, and_self, reduceIte, i10, eq_self, bXc_0, bXc_2, b_T2]
      exact ag_er rfl rfl h (by decide)
  · simp only [hp, false_and, reduceIte, eq_self, bXc_2, b_T2]
    exact ag_er rfl rfl h (by decide)
theorem ag_endsAfter {t : Int} {N : Nat} {a b c : Mem} {p q : Int32} (hN : 10010 ≤ N) (ht : t ≤ 512) (h : REL t a b) : AGR t (f_L_endsAfter N p q a c) (f_X9_endsAfter N p q b) := by
  unfold f_L_endsAfter f_X8_endsAfter f_X9_endsAfter
  simp only [b_T, k_pace, q_paces, pass1]
  by_cases hp : 1 ≤ p.toInt ∧ p.toInt ≤ 9999
  · by_cases hq : 1 ≤ q.toInt ∧ q.toInt ≤ 9999
    · simp only [hp, hq, and_self, reduceIte, i10, bXc_0, b_T2]
      obtain ⟨hr, h00⟩ := @REL_t t a b 0 h
      generalize up2 b 0 0 0 = b0 at hr h00 ⊢
      have h03 := (REL_rules hr).1
      have k0 : a 8 5 = b0 1 0 := hr.2.1.2.1.1
      rw [r_st h03, b_P, k0]
      by_cases hz : b0 1 0 = 1
      · rw [if_pos hz, if_pos hz, if_neg (by decide)]
        obtain ⟨b1, q1, q2, q3, q4⟩ := aside_REL (N := N) (by omega) hr
        obtain ⟨a', b', w1, w2, w3⟩ := @both_play t N 400 a b1 p q hN ht (by omega) hp hq q2 (by rw [q3 1 (by omega)]; exact hz)
        have w1' : f_X7_play N 8 p q 400 a = some a' := w1
        have w2' : f_X9_play N p q 400 2147483647 b1 = some b' := w2
        rw [q1, b_P, w1', b_P, w2', b_P]
        obtain ⟨r1, r2, r3, r4, r5, r6, r7⟩ := w3
        obtain ⟨b9, y1, y2, y3⟩ := @RES_back t N a a' b0 b1 b' (b' 0 10) (by omega) hr q3 q4 r1 r2 r3
        rw [y1, b_P2, r5]
        exact ag_ok rfl rfl y2 (by rw [y3, h00])
      · rw [if_neg hz, if_neg hz, if_pos rfl]
        exact ag_ok rfl rfl hr h00
    · simp only [hp, hq, and_false, and_self, reduceIte, i10, eq_self, bXc_0, bXc_2, b_T2]
      exact ag_er rfl rfl h (by decide)
  · simp only [hp, false_and, reduceIte, eq_self, bXc_2, b_T2]
    exact ag_er rfl rfl h (by decide)
theorem ag_movesIn {t : Int} {N : Nat} {a b c : Mem} {p q n : Int32} (hN : 10010 ≤ N) (ht : t ≤ 512) (h : REL t a b) : AGR t (f_L_movesIn N p q n a c) (f_X9_movesIn N p q n b) := by
  have e1 : (1 : Int64).toInt = 1 := rfl
  have e9 : (9999 : Int64).toInt = 9999 := rfl
  have f1 : (1 : Int32).toInt = 1 := rfl
  have f9 : (9999 : Int32).toInt = 9999 := rfl
  unfold f_L_movesIn f_X8_movesIn f_X9_movesIn f_X9_movesIn_25 f_X9_movesIn_26
  simp only [b_T, k_pace, q_paces, pass1, q_in, Int32.toInt_toInt64, e1, e9]
  by_cases hp : 1 ≤ p.toInt ∧ p.toInt ≤ 9999
  · by_cases hq : 1 ≤ q.toInt ∧ q.toInt ≤ 9999
    · simp only [hp, hq, and_self, reduceIte, i10, bXc_0]
      by_cases hn : 1 ≤ n.toInt ∧ n.toInt ≤ 9999
      · rw [if_neg (show ¬ n < 1 by rw [z_lt, f1]; omega), if_pos (show n ≤ 9999 by rw [z_le, f9]; omega)]
        simp only [hn, and_self, reduceIte, i10, b_T2]
        obtain ⟨hr, h00⟩ := @REL_t t a b 0 h
        generalize up2 b 0 0 0 = b0 at hr h00 ⊢
        have h03 := (REL_rules hr).1
        have k0 : a 8 5 = b0 1 0 := hr.2.1.2.1.1
        rw [r_st h03, b_P, k0]
        by_cases hz : b0 1 0 = 1
        · rw [if_pos hz, if_pos hz, if_neg (by decide)]
          obtain ⟨b1, q1, q2, q3, q4⟩ := aside_REL (N := N) (by omega) hr
          have h03b := (REL_rules q2).1
          have i1 := @ind_01 (sl (up2 (upR b1 1 (upd (b1 1) 10 0)) 0 10 0 1) (oS (up2 (upR b1 1 (upd (b1 1) 10 0)) 0 10 0 1 1)) 6)
          have i2 := @ind_01 (sl (up2 (upR b1 1 (upd (b1 1) 10 0)) 0 10 0 1) (oS (1 - up2 (upR b1 1 (upd (b1 1) 10 0)) 0 10 0 1 1)) 6)
          obtain ⟨a', b', w1, w2, r5, r1, r2, r3⟩ := @play_for N a b1 p q hN hp hq 10001 0 N _ _ n (by omega) (by omega) (@begin_PRR t a b1 n ht q2 (by rw [q3 1 (by omega)]; exact hz)) (by omega) (by omega)
          have w1' : f_X7_playFor N 8 p q n a = some a' := w1
          have w2' : f_X9_play N p q 2147483647 n b1 = some b' := by
            unfold f_X9_play
            simp only [b_T]
            rw [h03b]
            exact w2
          rw [q1, b_P, w1', b_P, w2', b_P]
          obtain ⟨b9, y1, y2, y3⟩ := @RES_back t N a a' b0 b1 b' (b' 0 10) (by omega) hr q3 q4 r1 r2 r3
          rw [y1, b_P2, r5]
          exact ag_ok rfl rfl y2 (by rw [y3, h00])
        · rw [if_neg hz, if_neg hz, if_pos rfl]
          exact ag_ok rfl rfl hr h00
      · simp only [hn, reduceIte, eq_self, b_T2]
        by_cases z1 : n < 1
        · rw [if_pos z1]
          exact ag_er rfl rfl h (by decide)
        · have z2 := z_nlt z1
          rw [if_neg z1, if_neg (by rw [z_le, f9]; omega)]
          exact ag_er rfl rfl h (by decide)
    · simp only [hp, hq, and_false, and_self, reduceIte, i10, eq_self, bXc_0, bXc_2, b_T2]
      exact ag_er rfl rfl h (by decide)
  · simp only [hp, false_and, reduceIte, eq_self, bXc_2, b_T2]
    exact ag_er rfl rfl h (by decide)
theorem ag_aheadAfter {t : Int} {N : Nat} {a b c : Mem} {p q n : Int32} (hN : 10010 ≤ N) (ht : t ≤ 512) (h : REL t a b) : AGR t (f_L_aheadAfter N p q n a c) (f_X9_aheadAfter N p q n b) := by
  have e0 : (0 : Int64).toInt = 0 := rfl
  have e4 : (400 : Int64).toInt = 400 := rfl
  have f0 : (0 : Int32).toInt = 0 := rfl
  have f4 : (400 : Int32).toInt = 400 := rfl
  have e00 : (0 : Int32).toNatClampNeg = 0 := rfl
  unfold f_L_aheadAfter f_X8_aheadAfter f_X9_aheadAfter f_X9_aheadAfter_25 f_X9_aheadAfter_26
  simp only [b_T, k_pace, q_paces, pass1, q_in, Int32.toInt_toInt64, e0, e4]
  by_cases hp : 1 ≤ p.toInt ∧ p.toInt ≤ 9999
  · by_cases hq : 1 ≤ q.toInt ∧ q.toInt ≤ 9999
    · simp only [hp, hq, and_self, reduceIte, i10, bXc_0]
      by_cases hn : 0 ≤ n.toInt ∧ n.toInt ≤ 400
      · rw [if_neg (show ¬ n < 0 by rw [z_lt, f0]; omega), if_pos (show n ≤ 400 by rw [z_le, f4]; omega)]
        simp only [hn, and_self, reduceIte, i10, b_T2]
        obtain ⟨hr, h00⟩ := @REL_t t a b 0 h
        generalize up2 b 0 0 0 = b0 at hr h00 ⊢
        have h03 := (REL_rules hr).1
        have k0 : a 8 5 = b0 1 0 := hr.2.1.2.1.1
        rw [r_st h03, b_P, k0]
        by_cases hz : b0 1 0 = 1
        · rw [if_pos hz, if_pos hz, if_neg (by decide)]
          obtain ⟨b1, q1, q2, q3, q4⟩ := aside_REL (N := N) (by omega) hr
          have hni : n = nI n.toNatClampNeg := (z_of hn.1).symm
          obtain ⟨a', b', w1, w2, w3⟩ := @both_play t N n.toNatClampNeg a b1 p q hN ht (by rw [z_tn]; omega) hp hq q2 (by rw [q3 1 (by omega)]; exact hz)
          rw [← hni] at w1 w2
          rw [q1, b_P, w1, b_P, w2, b_P]
          obtain ⟨r1, r2, r3, r4, r5, r6, r7⟩ := w3
          have l0 : a' 18 1 = sl (b' 1) (oS 0) 0 := r6 0 (Or.inl rfl)
          have l1 : a' 20 1 = sl (b' 1) (oS 1) 0 := r6 1 (Or.inr rfl)
          rw [r_of r4 (Or.inl rfl) (by decide) (by decide), b_P, r_of r4 (Or.inr rfl) (by decide) (by decide), b_P, e00]
          obtain ⟨b9, y1, y2, y3⟩ := @RES_back t N a a' b0 b1 b' (sl (b' 1) (oS 0) 0 - sl (b' 1) (oS 1) 0) (by omega) hr q3 q4 r1 r2 r3
          rw [y1, b_P2, l0, l1]
          exact ag_ok rfl rfl y2 (by rw [y3, h00])
        · rw [if_neg hz, if_neg hz, if_pos rfl]
          exact ag_ok rfl rfl hr h00
      · simp only [hn, reduceIte, eq_self, b_T2]
        by_cases z1 : n < 0
        · rw [if_pos z1]
          exact ag_er rfl rfl h (by decide)
        · have z2 := z_nlt z1
          rw [if_neg z1, if_neg (by rw [z_le, f4]; omega)]
          exact ag_er rfl rfl h (by decide)
    · simp only [hp, hq, and_false, and_self, reduceIte, i10, eq_self, bXc_0, bXc_2, b_T2]
      exact ag_er rfl rfl h (by decide)
  · simp only [hp, false_and, reduceIte, eq_self, bXc_2, b_T2]
    exact ag_er rfl rfl h (by decide)

