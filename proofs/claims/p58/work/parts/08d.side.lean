theorem c_free {a : Mem} {k : Nat} (h1 : 0 ≤ (sI a k 2).toInt) (h2 : (sI a k 2).toInt < 5) : f_X5_freeTicks k 9 a = FREE (rI a 9) (sI a k) := by
  unfold f_X5_freeTicks FREE
  dsimp only [bT]
  rw [c_num (p := a k 2) h1 h2 (by decide) (by decide)]
  rfl
theorem c_runOut {a : Mem} {k : Nat} (hk : 12 < k) (h1 : 0 ≤ (sI a k 2).toInt) (h2 : (sI a k 2).toInt < 5) : sI (f_X5_runOut k 9 a) k = OUT1 (rI a 9) (a 9 3) (sI a k) ∧ ∀ k1, k1 ≠ k → f_X5_runOut k 9 a k1 = a k1 := by
  unfold f_X5_runOut OUT1
  dsimp only [bT]
  rw [c_end (p := a k 2) h1 h2]
  have e2 : sI a k 2 = a k 2 := rfl
  have e4 : sI a k 4 = a k 5 := rfl
  rw [e2, e4]
  by_cases hr : rn (rI a 9) (a k 2) 0 = 0
  · rw [if_pos hr, if_neg (by decide)]
    by_cases h4 : a k 5 ≤ 0
    · rw [if_pos h4, if_neg (fun h => (Int32.not_lt.2 h4) h.2), sI_w9]
      exact ⟨rfl, fun k1 h => p2_n h⟩
    · rw [if_neg h4, if_pos ⟨hr, Int32.not_le.1 h4⟩, sI_w1, sI_w6, sI_w5, p2_n (by omega), p2_n (by omega)]
      exact ⟨rfl, fun k1 h => by rw [p2_n h, p2_n h, p2_n h]⟩
  · rw [if_neg hr, if_pos rfl, if_neg (fun h => hr h.1), sI_w9]
    exact ⟨rfl, fun k1 h => p2_n h⟩
theorem c_part {a : Mem} {k : Nat} {m : Int32} (h1 : 0 ≤ (sI a k 2).toInt) (h2 : (sI a k 2).toInt < 5) :
    sI (upR (up2 (up2 a k 1 (a k 1 - m)) k 8 ((up2 a k 1 (a k 1 - m)) k 8 + m)) (k + 1) (putI 5 ((up2 (up2 a k 1 (a k 1 - m)) k 8 ((up2 a k 1 (a k 1 - m)) k 8 + m)) (k + 1)) ((up2 (up2 a k 1 (a k 1 - m)) k 8 ((up2 a k 1 (a k 1 - m)) k 8 + m)) k 2) (atI 5 ((up2 (up2 a k 1 (a k 1 - m)) k 8 ((up2 a k 1 (a k 1 - m)) k 8 + m)) (k + 1)) ((up2 (up2 a k 1 (a k 1 - m)) k 8 ((up2 a k 1 (a k 1 - m)) k 8 + m)) k 2) + m))) k = LOSE (sI a k) m := by
  have e2 : (up2 (up2 a k 1 (a k 1 - m)) k 8 ((up2 a k 1 (a k 1 - m)) k 8 + m)) k 2 = a k 2 := by simp [up2, upR, upd]
  have e8 : (up2 a k 1 (a k 1 - m)) k 8 = a k 8 := by simp [up2, upR, upd]
  have e9 : (up2 (up2 a k 1 (a k 1 - m)) k 8 ((up2 a k 1 (a k 1 - m)) k 8 + m)) (k + 1) = a (k + 1) := by rw [p2_n (by omega), p2_n (by omega)]
  have h3 : (a k 2).toNatClampNeg < 5 := by
    rw [z_tn]
    have e : sI a k 2 = a k 2 := rfl
    rw [e] at h2
    omega
  have e10 : sI a k (sp (sI a k)) = a (k + 1) (a k 2).toNatClampNeg := sI_rs h3
  rw [e2, e9, z_at (x := a k 2) h1 h2, z_put (x := a k 2) h1 h2, ← e9, sI_ws h3, e9, e8, sI_w8, sI_w1]
  unfold LOSE
  rw [e10]
  rfl
theorem W_OUT1 {R : Nat → Int32} {et : Int32} {S : Nat → Int32} (he : 0 ≤ et.toInt) (h0 : 0 ≤ (S 0).toInt) (h2 : 0 ≤ (S 2).toInt) (h2' : (S 2).toInt < 5) (h4 : 0 ≤ (S 4).toInt) (hz : S 0 = 0) : 0 ≤ (OUT1 R et S 0).toInt ∧ 0 ≤ (OUT1 R et S 2).toInt ∧ (OUT1 R et S 2).toInt < 5 ∧ 0 ≤ (OUT1 R et S 4).toInt ∧ (OUT1 R et S 0 = 0 ∨ (OUT1 R et S 4).toInt + 1 = (S 4).toInt) := by
  have e0 : (0 : Int32).toInt = 0 := rfl
  have e1 : (1 : Int32).toInt = 1 := rfl
  have b4 := z_hi (S 4)
  unfold OUT1
  by_cases hq : rn R (S 2) 0 = 0 ∧ 0 < S 4
  · rw [if_pos hq]
    have hq4 := z_lt.1 hq.2
    rw [e0] at hq4
    simp only [upd, Nat.reduceEqDiff, reduceIte]
    rw [z_sub (by rw [e1]; omega) (by rw [e1]; omega), e1]
    refine ⟨he, h2, h2', by omega, Or.inr (by omega)⟩
  · rw [if_neg hq]
    simp only [upd, Nat.reduceEqDiff, reduceIte]
    exact ⟨h0, h2, h2', h4, Or.inl hz⟩
theorem c_loop {N k : Nat} (hk : 12 < k) {R : Nat → Int32} {et : Int32} (het : 0 ≤ et.toInt) : ∀ (fu : Nat) (i c : Int32) (a : Mem), rI a 9 = R → a 9 3 = et → 0 ≤ (sI a k 0).toInt → 0 ≤ (sI a k 2).toInt → (sI a k 2).toInt < 5 → 0 ≤ (sI a k 4).toInt → 0 ≤ i.toInt → i.toInt ≤ 10 → 0 ≤ c.toInt → (sI a k 0 = 0 ∨ c = 0 ∨ i.toInt + (sI a k 4).toInt ≤ 9) → 11 ≤ fu + i.toInt →
    ∃ a', f_X5_run_35 N k 9 fu c i a = some a' ∧ sI a' k = Dn R et c.toNatClampNeg (sI a k) ∧ ∀ k1, k1 ≠ k → k1 ≠ k + 1 → a' k1 = a k1 := by
  intro fu
  induction fu with
  | zero => intro i c a _ _ _ _ _ _ _ _ _ _ _; omega
  | succ fu ih =>
    intro i c a hR he h0 h2 h2' h4 hi0 hi1 hc hor hfu
    have e0 : (0 : Int32).toInt = 0 := rfl
    have e1 : (1 : Int32).toInt = 1 := rfl
    have e9 : (9 : Int32).toInt = 9 := rfl
    have eS0 : sI a k 0 = a k 1 := rfl
    unfold f_X5_run_35
    have stop : (sI a k 0 = 0 ∨ c = 0) → ∃ a', some a = some a' ∧ sI a' k = Dn R et c.toNatClampNeg (sI a k) ∧ ∀ k1, k1 ≠ k → k1 ≠ k + 1 → a' k1 = a k1 := by
      intro h
      refine ⟨a, rfl, ?_, fun _ _ _ => rfl⟩
      rcases h with h | h
      · rw [Dn_0 h]
      · rw [h]; rfl
    by_cases hi : (9 : Int32) < i
    · rw [if_pos hi]
      apply stop
      have := z_lt.1 hi
      rw [e9] at this
      rcases hor with h | h | h
      · exact Or.inl h
      · exact Or.inr h
      · omega
    · rw [if_neg hi]
      have hi9 : i.toInt ≤ 9 := by
        have := z_nlt hi
        rw [e9] at this
        omega
      by_cases hcz : c ≤ 0
      · rw [if_pos hcz]
        have := z_le.1 hcz
        rw [e0] at this
        exact stop (Or.inr (z_eq.2 (by rw [e0]; omega)))
      · rw [if_neg hcz]
        have hc1 : 0 < c.toInt := by
          have := z_nle hcz
          rw [e0] at this
          omega
        by_cases hlz : a k 1 ≤ 0
        · rw [if_pos hlz]
          have := z_le.1 hlz
          rw [e0] at this
          rw [eS0] at h0
          exact stop (Or.inl (z_eq.2 (by rw [e0, eS0]; omega)))
        · rw [if_neg hlz]
          have hl1 : 0 < (sI a k 0).toInt := by
            have := z_nle hlz
            rw [e0] at this
            rw [eS0]
            omega
          have h9 : i.toInt + (sI a k 4).toInt ≤ 9 := by
            rcases hor with h | h | h
            · rw [h, e0] at hl1; omega
            · rw [h, e0] at hc1; omega
            · exact h
          dsimp only [bT]
          have hpart := @c_part a k (mnI c (a k 1)) h2 h2'
          have hfr : ∀ k1, k1 ≠ k → k1 ≠ k + 1 → (upR (up2 (up2 a k 1 (a k 1 - (mnI c (a k 1)))) k 8 ((up2 a k 1 (a k 1 - (mnI c (a k 1)))) k 8 + (mnI c (a k 1)))) (k + 1) (putI 5 ((up2 (up2 a k 1 (a k 1 - (mnI c (a k 1)))) k 8 ((up2 a k 1 (a k 1 - (mnI c (a k 1)))) k 8 + (mnI c (a k 1)))) (k + 1)) ((up2 (up2 a k 1 (a k 1 - (mnI c (a k 1)))) k 8 ((up2 a k 1 (a k 1 - (mnI c (a k 1)))) k 8 + (mnI c (a k 1)))) k 2) (atI 5 ((up2 (up2 a k 1 (a k 1 - (mnI c (a k 1)))) k 8 ((up2 a k 1 (a k 1 - (mnI c (a k 1)))) k 8 + (mnI c (a k 1)))) (k + 1)) ((up2 (up2 a k 1 (a k 1 - (mnI c (a k 1)))) k 8 ((up2 a k 1 (a k 1 - (mnI c (a k 1)))) k 8 + (mnI c (a k 1)))) k 2) + (mnI c (a k 1))))) k1 = a k1 := by
            intro k1 q1 q2
            rw [R_n q2, p2_n q1, p2_n q1]
          generalize (upR (up2 (up2 a k 1 (a k 1 - (mnI c (a k 1)))) k 8 ((up2 a k 1 (a k 1 - (mnI c (a k 1)))) k 8 + (mnI c (a k 1)))) (k + 1) (putI 5 ((up2 (up2 a k 1 (a k 1 - (mnI c (a k 1)))) k 8 ((up2 a k 1 (a k 1 - (mnI c (a k 1)))) k 8 + (mnI c (a k 1)))) (k + 1)) ((up2 (up2 a k 1 (a k 1 - (mnI c (a k 1)))) k 8 ((up2 a k 1 (a k 1 - (mnI c (a k 1)))) k 8 + (mnI c (a k 1)))) k 2) (atI 5 ((up2 (up2 a k 1 (a k 1 - (mnI c (a k 1)))) k 8 ((up2 a k 1 (a k 1 - (mnI c (a k 1)))) k 8 + (mnI c (a k 1)))) (k + 1)) ((up2 (up2 a k 1 (a k 1 - (mnI c (a k 1)))) k 8 ((up2 a k 1 (a k 1 - (mnI c (a k 1)))) k 8 + (mnI c (a k 1)))) k 2) + (mnI c (a k 1))))) = a3 at hpart hfr ⊢
          have q9 : a3 9 = a 9 := hfr 9 (by omega) (by omega)
          have q10 : a3 10 = a 10 := hfr 10 (by omega) (by omega)
          have qR : rI a3 9 = R := by rw [rI_fr q10, hR]
          have q0 : a3 k 1 = a k 1 - mnI c (a k 1) := by
            have : sI a3 k 0 = LOSE (sI a k) (mnI c (a k 1)) 0 := by rw [hpart]
            rw [LOSE_0] at this
            exact this
          have q2 : sI a3 k 2 = sI a k 2 := by rw [hpart, LOSE_lo (by omega) (by omega) (by omega)]
          have q4 : sI a3 k 4 = sI a k 4 := by rw [hpart, LOSE_lo (by omega) (by omega) (by omega)]
          have hi1' : (i + 1).toInt = i.toInt + 1 := by rw [z_add (by rw [e1]; omega) (by rw [e1]; omega), e1]
          have bc := z_hi c
          have bl := z_hi (sI a k 0)
          by_cases hcl : (sI a k 0).toInt ≤ c.toInt
          · have hm : mnI c (a k 1) = sI a k 0 := by
              rw [z_eq, z_mn, ← eS0]
              omega
            rw [hm] at hpart q0 ⊢
            rw [if_pos (by rw [q0, ← eS0, Int32.sub_self])]
            obtain ⟨o1, o2⟩ := @c_runOut a3 k hk (by rw [q2]; exact h2) (by rw [q2]; exact h2')
            rw [qR, q9, he, hpart] at o1
            have hL0 : LOSE (sI a k) (sI a k 0) 0 = 0 := by rw [LOSE_0, Int32.sub_self]
            have hL2 : LOSE (sI a k) (sI a k 0) 2 = sI a k 2 := LOSE_lo (by omega) (by omega) (by omega)
            have hL4 : LOSE (sI a k) (sI a k 0) 4 = sI a k 4 := LOSE_lo (by omega) (by omega) (by omega)
            obtain ⟨w0, w2, w2', w4, w5⟩ := @W_OUT1 R et (LOSE (sI a k) (sI a k 0)) het (by rw [hL0, e0]; omega) (by rw [hL2]; exact h2) (by rw [hL2]; exact h2') (by rw [hL4]; exact h4) hL0
            rw [hL4] at w5
            have hcs : (c - sI a k 0).toInt = c.toInt - (sI a k 0).toInt := z_sub (by omega) (by omega)
            obtain ⟨a', r1, r2, r3⟩ := ih (i + 1) (c - sI a k 0) (f_X5_runOut k 9 a3) (by rw [rI_fr (o2 10 (by omega)), qR]) (by rw [o2 9 (by omega), q9, he]) (by rw [o1]; exact w0) (by rw [o1]; exact w2) (by rw [o1]; exact w2') (by rw [o1]; exact w4) (by omega) (by omega) (by omega) (by
              rw [o1]
              rcases w5 with w5 | w5
              · exact Or.inl w5
              · exact Or.inr (Or.inr (by omega))) (by omega)
            refine ⟨a', r1, ?_, fun k1 p1 p2 => by rw [r3 k1 p1 p2, o2 k1 p1, hfr k1 p1 p2]⟩
            rw [r2, o1, ← Dn_full hl1, ← Dn_add]
            congr 1
            rw [z_tn, z_tn, z_tn, hcs]
            omega
          · have hm : mnI c (a k 1) = c := by
              rw [z_eq, z_mn, ← eS0]
              omega
            rw [hm] at hpart q0 ⊢
            have hs0 : (a k 1 - c).toInt = (sI a k 0).toInt - c.toInt := z_sub (by rw [← eS0]; omega) (by rw [← eS0]; omega)
            rw [if_neg (by rw [q0, z_eq, e0, hs0]; omega)]
            have hcs : (c - c).toInt = 0 := by rw [Int32.sub_self]; rfl
            obtain ⟨a', r1, r2, r3⟩ := ih (i + 1) (c - c) a3 qR (by rw [q9, he]) (by
              have : sI a3 k 0 = a k 1 - c := q0
              rw [this, hs0]
              omega) (by rw [q2]; exact h2) (by rw [q2]; exact h2') (by rw [q4]; exact h4) (by omega) (by omega) (by omega) (Or.inr (Or.inl (Int32.sub_self c))) (by omega)
            refine ⟨a', r1, ?_, fun k1 p1 p2 => by rw [r3 k1 p1 p2, hfr k1 p1 p2]⟩
            have ez : (c - c).toNatClampNeg = 0 := by rw [z_tn, hcs]; rfl
            rw [r2, ez, hpart]
            show LOSE (sI a k) c = _
            rw [Dn_lo (by rw [z_tn]; omega), z_of hc]
theorem c_run {N k : Nat} {R : Nat → Int32} {et p : Int32} {a : Mem} (hN : 11 ≤ N) (hk : 12 < k) (het : 0 ≤ et.toInt) (hR : rI a 9 = R) (he : a 9 3 = et) (h0 : 0 ≤ (sI a k 0).toInt) (h2 : 0 ≤ (sI a k 2).toInt) (h2' : (sI a k 2).toInt < 5) (h4 : 0 ≤ (sI a k 4).toInt) (h4' : (sI a k 4).toInt ≤ 9) :
    ∃ a', f_X5_run N k 9 p a = some a' ∧ sI a' k = RUN R et p (sI a k) ∧ ∀ k1, k1 ≠ k → k1 ≠ k + 1 → a' k1 = a k1 := by
  unfold f_X5_run
  dsimp only [bT]
  rw [c_free h2 h2', hR]
  have e7 : (up2 a k 7 (a k 7 + p)) k 11 = a k 11 := by simp [up2, upR, upd]
  rw [e7]
  have eS : sI (up2 (up2 a k 7 (a k 7 + p)) k 11 (a k 11 + p)) k = upd (upd (sI a k) 6 (sI a k 6 + p)) 10 (sI a k 10 + p) := by
    rw [sI_w11, sI_w7]
    rfl
  have hf : ∀ k1, k1 ≠ k → (up2 (up2 a k 7 (a k 7 + p)) k 11 (a k 11 + p)) k1 = a k1 := by
    intro k1 h
    rw [p2_n h, p2_n h]
  generalize up2 (up2 a k 7 (a k 7 + p)) k 11 (a k 11 + p) = a3 at eS hf ⊢
  have s0 : sI a3 k 0 = sI a k 0 := by rw [eS]; simp [upd]
  have s2 : sI a3 k 2 = sI a k 2 := by rw [eS]; simp [upd]
  have s4 : sI a3 k 4 = sI a k 4 := by rw [eS]; simp [upd]
  have e0 : (0 : Int32).toInt = 0 := rfl
  obtain ⟨a', r1, r2, r3⟩ := @c_loop N k hk R et het N 0 (mxI 0 (p - FREE R (sI a k))) a3 (by rw [rI_fr (hf 10 (by omega)), hR]) (by rw [hf 9 (by omega), he]) (by rw [s0]; exact h0) (by rw [s2]; exact h2) (by rw [s2]; exact h2') (by rw [s4]; exact h4) (by omega) (by omega) (by rw [z_mx, e0]; omega) (Or.inr (Or.inr (by rw [s4, e0]; omega))) (by rw [e0]; omega)
  refine ⟨a', r1, ?_, fun k1 p1 p2 => by rw [r3 k1 p1 p2, hf k1 p1]⟩
  rw [r2, eS]
  rfl
def GAIN (R : Nat → Int32) (et : Int32) (S : Nat → Int32) : Int32 := if S 8 = 0 then (if S 5 = 0 then rn R (S 2) 2 + mnI (S 7) (rn R (S 2) 4) else et - S 0) else 0
def FIN1 (R : Nat → Int32) (et : Int32) (S : Nat → Int32) : Nat → Int32 := upd (upd (upd S 0 (S 0 + GAIN R et S)) 1 (S 1 + 1)) 3 (S 3 + 1)
def NEXT1 (pr : Int32) (S : Nat → Int32) : Nat → Int32 := upd (upd (upd S 11 (S 11 + 1)) 2 (mnI (S 2 + 1) (pr - 1))) 3 0
def NEXT (R : Nat → Int32) (pr : Int32) (S : Nat → Int32) : Nat → Int32 := if S 8 = 0 then upd (NEXT1 pr S) 0 (S 0 + rn R (mnI (S 2 + 1) (pr - 1)) 1) else NEXT1 pr S
def FIN2 (R : Nat → Int32) (pr : Int32) (S : Nat → Int32) : Nat → Int32 := if rn R (S 2) 0 = 0 then S else if rn R (S 2) 0 = S 3 then NEXT R pr S else S
def DROP (S : Nat → Int32) : Nat → Int32 := upd (upd S 6 0) 7 0
def FIN (R : Nat → Int32) (et pr : Int32) (S : Nat → Int32) : Nat → Int32 := DROP (FIN2 R pr (FIN1 R et S))
theorem c_gains {a : Mem} {k : Nat} (h1 : 0 ≤ (sI a k 2).toInt) (h2 : (sI a k 2).toInt < 5) : f_X5_gains k 9 a = GAIN (rI a 9) (a 9 3) (sI a k) := by
  unfold f_X5_gains GAIN
  dsimp only [bT]
  rw [c_num (p := a k 2) h1 h2 (by decide) (by decide), c_num (p := a k 2) h1 h2 (by decide) (by decide)]
  rfl
theorem c_drop {a : Mem} {k : Nat} : sI (f_X5_dropMove k a) k = DROP (sI a k) ∧ ∀ k1, k1 ≠ k → f_X5_dropMove k a k1 = a k1 := by
  unfold f_X5_dropMove
  dsimp only [bT]
  rw [sI_w8, sI_w7]
  exact ⟨rfl, fun k1 h => by rw [p2_n h, p2_n h]⟩
theorem c_mtp {a : Mem} {k : Nat} (h1 : 0 ≤ (sI a k 2).toInt) (h2 : (sI a k 2).toInt < 5) : f_X5_movesToPeriodEnd k 9 a = if rn (rI a 9) (sI a k 2) 0 = 0 then -1 else rn (rI a 9) (sI a k 2) 0 - sI a k 3 := by
  unfold f_X5_movesToPeriodEnd
  dsimp only [bT]
  rw [c_end (p := a k 2) h1 h2, c_num (p := a k 2) h1 h2 (by decide) (by decide)]
  have e2 : sI a k 2 = a k 2 := rfl
  rw [e2]
  by_cases h : rn (rI a 9) (a k 2) 0 = 0
  · rw [if_pos h, if_pos h, if_neg (by decide)]
  · rw [if_neg h, if_neg h, if_pos rfl]
    rfl
theorem c_next {a : Mem} {k : Nat} (hk : 12 < k) (hp : 1 ≤ (a 9 1).toInt ∧ (a 9 1).toInt ≤ 5) (h1 : 0 ≤ (sI a k 2).toInt) (h2 : (sI a k 2).toInt < 5) : sI (f_X5_beginNextPeriod k 9 a) k = NEXT (rI a 9) (a 9 1) (sI a k) ∧ ∀ k1, k1 ≠ k → f_X5_beginNextPeriod k 9 a k1 = a k1 := by
  have e1 : (1 : Int32).toInt = 1 := rfl
  have e2 : sI a k 2 = a k 2 := rfl
  unfold f_X5_beginNextPeriod
  dsimp only [bT]
  have q2 : (up2 a k 12 (a k 12 + 1)) k 2 = a k 2 := by simp [up2, upR, upd]
  have q9 : (up2 a k 12 (a k 12 + 1)) 9 1 = a 9 1 := by rw [p2_n (by omega)]
  rw [q2, q9]
  have hS : sI (up2 (up2 (up2 a k 12 (a k 12 + 1)) k 2 (mnI (a k 2 + 1) (a 9 1 - 1))) k 4 0) k = NEXT1 (a 9 1) (sI a k) := by
    rw [sI_w4, sI_w2, sI_w12]
    rfl
  have hf : ∀ k1, k1 ≠ k → (up2 (up2 (up2 a k 12 (a k 12 + 1)) k 2 (mnI (a k 2 + 1) (a 9 1 - 1))) k 4 0) k1 = a k1 := by
    intro k1 h
    rw [p2_n h, p2_n h, p2_n h]
  generalize up2 (up2 (up2 a k 12 (a k 12 + 1)) k 2 (mnI (a k 2 + 1) (a 9 1 - 1))) k 4 0 = a3 at hS hf ⊢
  have t8 : nb (a3 k 9) = sI a k 8 := by
    have : sI a3 k 8 = NEXT1 (a 9 1) (sI a k) 8 := by rw [hS]
    exact this
  have t2 : a3 k 2 = mnI (sI a k 2 + 1) (a 9 1 - 1) := by
    have : sI a3 k 2 = NEXT1 (a 9 1) (sI a k) 2 := by rw [hS]
    exact this
  have t0 : a3 k 1 = sI a k 0 := by
    have : sI a3 k 0 = NEXT1 (a 9 1) (sI a k) 0 := by rw [hS]
    exact this
  unfold NEXT
  rw [t8]
  by_cases h8 : sI a k 8 = 0
  · rw [if_pos h8, if_pos h8, sI_w1, hS, t0]
    have hz : (mnI (sI a k 2 + 1) (a 9 1 - 1)).toInt = min ((sI a k 2).toInt + 1) ((a 9 1).toInt - 1) := by
      rw [z_mn, z_add (by rw [e1]; omega) (by rw [e1]; omega), z_sub (by rw [e1]; omega) (by rw [e1]; omega), e1]
    rw [c_num (p := a3 k 2) (by rw [t2, hz]; omega) (by rw [t2, hz]; omega) (by decide) (by decide), t2, rI_fr (hf 10 (by omega))]
    exact ⟨rfl, fun k1 h => by rw [p2_n h, hf k1 h]⟩
  · rw [if_neg h8, if_neg h8]
    exact ⟨hS, hf⟩
theorem c_fin {a : Mem} {k : Nat} (hk : 12 < k) (hp : 1 ≤ (a 9 1).toInt ∧ (a 9 1).toInt ≤ 5) (h1 : 0 ≤ (sI a k 2).toInt) (h2 : (sI a k 2).toInt < 5) : ∃ a', f_X5_finishMove k 9 a = (GAIN (rI a 9) (a 9 3) (sI a k), a') ∧ sI a' k = FIN (rI a 9) (a 9 3) (a 9 1) (sI a k) ∧ ∀ k1, k1 ≠ k → a' k1 = a k1 := by
  unfold f_X5_finishMove
  dsimp only [bT]
  rw [c_gains h1 h2]
  generalize hg : GAIN (rI a 9) (a 9 3) (sI a k) = g
  have q3 : (up2 a k 1 (a k 1 + g)) k 3 = a k 3 := by simp [up2, upR, upd]
  have q4 : (up2 (up2 a k 1 (a k 1 + g)) k 3 (a k 3 + 1)) k 4 = a k 4 := by simp [up2, upR, upd]
  rw [q3, q4]
  have hS : sI (up2 (up2 (up2 a k 1 (a k 1 + g)) k 3 (a k 3 + 1)) k 4 (a k 4 + 1)) k = FIN1 (rI a 9) (a 9 3) (sI a k) := by
    rw [sI_w4, sI_w3, sI_w1]
    unfold FIN1
    rw [hg]
    rfl
  have hf : ∀ k1, k1 ≠ k → (up2 (up2 (up2 a k 1 (a k 1 + g)) k 3 (a k 3 + 1)) k 4 (a k 4 + 1)) k1 = a k1 := by
    intro k1 h
    rw [p2_n h, p2_n h, p2_n h]
  generalize up2 (up2 (up2 a k 1 (a k 1 + g)) k 3 (a k 3 + 1)) k 4 (a k 4 + 1) = a3 at hS hf ⊢
  have t2 : sI a3 k 2 = sI a k 2 := by rw [hS]; simp [FIN1, upd]
  have tR : rI a3 9 = rI a 9 := rI_fr (hf 10 (by omega))
  have t9 : a3 9 = a 9 := hf 9 (by omega)
  rw [c_mtp (a := a3) (by rw [t2]; exact h1) (by rw [t2]; exact h2), tR]
  unfold FIN FIN2
  rw [← hS]
  by_cases hr : rn (rI a 9) (sI a3 k 2) 0 = 0
  · rw [if_pos hr, if_pos hr, if_neg (by decide)]
    obtain ⟨o1, o2⟩ := @c_drop a3 k
    exact ⟨_, rfl, by rw [o1], fun k1 h => by rw [o2 k1 h, hf k1 h]⟩
  · rw [if_neg hr, if_neg hr]
    by_cases hd : rn (rI a 9) (sI a3 k 2) 0 = sI a3 k 3
    · rw [if_pos hd, if_pos (by rw [hd, Int32.sub_self])]
      obtain ⟨n1, n2⟩ := @c_next a3 k hk (by rw [t9]; exact hp) (by rw [t2]; exact h1) (by rw [t2]; exact h2)
      obtain ⟨o1, o2⟩ := @c_drop (f_X5_beginNextPeriod k 9 a3) k
      exact ⟨_, rfl, by rw [o1, n1, tR, t9], fun k1 h => by rw [o2 k1 h, n2 k1 h, hf k1 h]⟩
    · rw [if_neg hd, if_neg (fun h => hd (z_s0 h))]
      obtain ⟨o1, o2⟩ := @c_drop a3 k
      exact ⟨_, rfl, by rw [o1], fun k1 h => by rw [o2 k1 h, hf k1 h]⟩

