/-! what holds of the row beside VL, and that every change keeps it -/
def IS (ex : Int32) (np : Nat) (S : Nat → Int32) : Prop := (S 7).toInt ≤ (S 6).toInt ∧ 0 ≤ (S 1).toInt ∧ ((S 4).toInt ≤ ex.toInt ∧ (S 5 = 1 → (S 4).toInt < ex.toInt)) ∧ (S 7).toInt ≤ (SUMS S np).toInt ∧ (SUMS S np).toInt ≤ (S 10).toInt
def FELL (g : Nat → Int32) : Prop := (g 9 = -1 ∧ sl g 37 8 = 0 ∧ sl g 54 8 = 0) ∨ (0 ≤ (g 9).toInt ∧ (sl g 37 8 = 1 ∨ sl g 54 8 = 1))
def LOGI (g : Nat → Int32) : Prop := (∀ i : Nat, i + 1 < 40 → (i : Int) + 1 < (g 8).toInt → ¬ g (71 + 6 * i) = g (71 + 6 * (i + 1)) ∧ (g (71 + 6 * (i + 1) + 5)).toInt ≤ (g (71 + 6 * i + 5)).toInt) ∧ (0 < (g 8).toInt → g 71 = 1 - g 1 ∧ (g 76).toInt ≤ (g 7).toInt)
def IVX (g : Nat → Int32) : Prop := IS (g 3) (g 2).toInt.toNat (sl g 37) ∧ IS (g 3) (g 2).toInt.toNat (sl g 54) ∧ ((sl g 37 10).toInt + (sl g 54 10).toInt = (g 7).toInt ∧ (sl g 37 1).toInt + (sl g 54 1).toInt = (g 8).toInt) ∧ FELL g ∧ (g 0 = 4 → 0 ≤ (g 11).toInt) ∧ LOGI g
def MON (g g1 : Nat → Int32) : Prop := (g 0 = 4 → g1 0 = 4 ∧ g1 11 = g 11 ∧ g1 7 = g 7) ∧ (g 7).toInt ≤ (g1 7).toInt ∧ (g 0 ≠ 1 → g1 7 = g 7)
theorem MON_id {g : Nat → Int32} : MON g g := ⟨fun h => ⟨h, rfl, rfl⟩, Int.le_refl _, fun _ => rfl⟩
theorem SUMS_c {S T : Nat → Int32} {np : Nat} (h : ∀ p, p < np → T (12 + p) = S (12 + p)) : SUMS T np = SUMS S np := by
  induction np with
  | zero => rfl
  | succ n ih =>
    show SUMS T n + T (12 + n) = SUMS S n + S (12 + n)
    rw [ih (fun p hp => h p (by omega)), h n (by omega)]
theorem SUMS_u {S : Nat → Int32} {np k : Nat} {x : Int32} (h : k < 12) : SUMS (upd S k x) np = SUMS S np := SUMS_c (fun p _ => u_n (by omega))
theorem SUMS_a {S : Nat → Int32} {np p : Nat} {m : Int32} (h : p < np) : SUMS (upd S (12 + p) (S (12 + p) + m)) np = SUMS S np + m := by
  induction np with
  | zero => exact absurd h (Nat.not_lt_zero _)
  | succ n ih =>
    show SUMS _ n + upd S (12 + p) (S (12 + p) + m) (12 + n) = SUMS S n + S (12 + n) + m
    by_cases hp : p = n
    · subst hp
      rw [u_s, SUMS_c (S := S) (fun q hq => u_n (by omega)), Int32.add_assoc]
    · rw [ih (by omega), u_n (by omega), Int32.add_assoc, Int32.add_assoc, Int32.add_comm m]
theorem LOSE_sum {S : Nat → Int32} {np : Nat} {m : Int32} (h : (S 2).toNatClampNeg < np) : SUMS (LOSE S m) np = SUMS S np + m := by
  have e : sp S = 12 + (S 2).toNatClampNeg := Nat.add_comm _ _
  have e2 : upd (upd S 0 (S 0 - m)) 7 (S 7 + m) (12 + (S 2).toNatClampNeg) = S (12 + (S 2).toNatClampNeg) := by rw [u_n (by omega), u_n (by omega)]
  unfold LOSE
  rw [e]
  have h9 := @SUMS_a (upd (upd S 0 (S 0 - m)) 7 (S 7 + m)) np (S 2).toNatClampNeg m h
  rw [e2] at h9
  rw [h9, SUMS_u (by omega), SUMS_u (by omega)]
/-- the extras -/
def qExt (e : Int) (S : Nat → Int32) : Prop := 0 ≤ (S 4).toInt ∧ (S 4).toInt ≤ e ∧ (S 5 = 1 → (S 4).toInt < e)
theorem OUT1_x {R : Nat → Int32} {et : Int32} {S : Nat → Int32} {e : Int} {np : Nat} (h : qExt e S) : qExt e (OUT1 R et S) ∧ OUT1 R et S 7 = S 7 ∧ SUMS (OUT1 R et S) np = SUMS S np ∧ OUT1 R et S 2 = S 2 := by
  have e0 : (0 : Int32).toInt = 0 := rfl
  have e1 : (1 : Int32).toInt = 1 := rfl
  obtain ⟨h0, h1, h2⟩ := h
  have hb := z_hi (S 4)
  refine ⟨?_, OUT1_lo (by omega) (by omega) (by omega) (by omega), SUMS_c (fun p _ => OUT1_lo (by omega) (by omega) (by omega) (by omega)), OUT1_lo (by omega) (by omega) (by omega) (by omega)⟩
  unfold OUT1
  split
  · rename_i hq
    have hq4 := z_lt.1 hq.2
    rw [e0] at hq4
    have hs4 : (S 4 - 1).toInt = (S 4).toInt - 1 := by rw [z_sub (by rw [e1]; omega) (by rw [e1]; omega), e1]
    unfold qExt
    have m4 : upd (upd (upd S 4 (S 4 - 1)) 5 1) 0 et 4 = S 4 - 1 := by rw [u_n (by omega), u_n (by omega), u_s]
    rw [m4, hs4]
    exact ⟨by omega, by omega, fun _ => by omega⟩
  · unfold qExt
    rw [u_n (by omega), u_n (by omega)]
    exact ⟨h0, h1, h2⟩
theorem LOSE_x {S : Nat → Int32} {m : Int32} {e : Int} (h : qExt e S) : qExt e (LOSE S m) := by
  unfold qExt
  rw [LOSE_lo (by omega) (by omega) (by omega), LOSE_lo (by omega) (by omega) (by omega)]
  exact h
theorem d1_x {R : Nat → Int32} {et : Int32} {S : Nat → Int32} {e : Int} {np : Nat} (h : qExt e S) (hp : (S 2).toNatClampNeg < np) : qExt e (d1 R et S) ∧ ∃ j : Nat, j ≤ 1 ∧ d1 R et S 7 = S 7 + nI j ∧ SUMS (d1 R et S) np = SUMS S np + nI j := by
  have n1 : (1 : Int32) = nI 1 := rfl
  have n0' : nI 0 = 0 := nI_0
  unfold d1
  split
  · exact ⟨h, 0, by omega, by rw [n0', Int32.add_zero], by rw [n0', Int32.add_zero]⟩
  · have hl : LOSE S 1 7 = S 7 + 1 := LOSE_7
    have hs : SUMS (LOSE S 1) np = SUMS S np + 1 := LOSE_sum hp
    split
    · exact ⟨LOSE_x h, 1, by omega, hl, hs⟩
    · obtain ⟨o1, o2, o3, o4⟩ := @OUT1_x R et (LOSE S 1) e np (LOSE_x h)
      exact ⟨o1, 1, by omega, o2.trans hl, o3.trans hs⟩
theorem Dn_x {R : Nat → Int32} {et : Int32} {n : Nat} {S : Nat → Int32} {e : Int} {np : Nat} (h : qExt e S) (hp : (S 2).toNatClampNeg < np) : qExt e (Dn R et n S) ∧ ∃ j : Nat, j ≤ n ∧ Dn R et n S 7 = S 7 + nI j ∧ SUMS (Dn R et n S) np = SUMS S np + nI j := by
  induction n with
  | zero => exact ⟨h, 0, by omega, by rw [nI_0, Int32.add_zero]; rfl, by rw [nI_0, Int32.add_zero]; rfl⟩
  | succ n ih =>
    obtain ⟨q, j, j1, j2, j3⟩ := ih
    rw [Dn_s]
    have e2 : Dn R et n S 2 = S 2 := Dn_n (by omega) (by omega) (by omega) (by omega) (by omega) (by omega)
    obtain ⟨q', k, k1, k2, k3⟩ := @d1_x R et (Dn R et n S) e np q (by rw [e2]; exact hp)
    exact ⟨q', j + k, by omega, by rw [k2, j2, Int32.add_assoc, nI_add], by rw [k3, j3, Int32.add_assoc, nI_add]⟩
theorem IS_RUN {R : Nat → Int32} {et ex n : Int32} {np : Nat} {S : Nat → Int32} (h : IS ex np S) (hp : (S 2).toNatClampNeg < np) (h4 : 0 ≤ (S 4).toInt) (h7 : 0 ≤ (S 7).toInt) (h6 : (S 6).toInt ≤ 6000000) (h10 : (S 10).toInt ≤ 6000000) (hn : 0 ≤ n.toInt) (hn2 : n.toInt ≤ 9999) : IS ex np (RUN R et n S) ∧ RUN R et n S 1 = S 1 ∧ RUN R et n S 10 = S 10 + n := by
  obtain ⟨a1, a2, a3, a4, a5⟩ := h
  have e0 : (0 : Int32).toInt = 0 := rfl
  unfold RUN
  have hF : 0 ≤ (FREE R S).toInt := by
    unfold FREE
    rw [z_mx, e0]
    omega
  have hk : (mxI 0 (n - FREE R S)).toNatClampNeg ≤ n.toInt.toNat := by
    rw [z_tn, z_mx, e0]
    have hF2 := z_hi (FREE R S)
    rw [z_sub (by omega) (by omega)]
    omega
  generalize (mxI 0 (n - FREE R S)).toNatClampNeg = k at hk ⊢
  have t6 : upd (upd S 6 (S 6 + n)) 10 (S 10 + n) 6 = S 6 + n := by rw [u_n (by omega), u_s]
  have t10 : upd (upd S 6 (S 6 + n)) 10 (S 10 + n) 10 = S 10 + n := u_s
  have tt : ∀ j, j ≠ 6 → j ≠ 10 → upd (upd S 6 (S 6 + n)) 10 (S 10 + n) j = S j := fun j z6 z10 => by rw [u_n z10, u_n z6]
  have hs : SUMS (upd (upd S 6 (S 6 + n)) 10 (S 10 + n)) np = SUMS S np := by rw [SUMS_u (by omega), SUMS_u (by omega)]
  generalize upd (upd S 6 (S 6 + n)) 10 (S 10 + n) = T at t6 t10 tt hs ⊢
  obtain ⟨q, j, j1, j2, j3⟩ := @Dn_x R et k T ex.toInt np (by unfold qExt; rw [tt 4 (by omega) (by omega), tt 5 (by omega) (by omega)]; exact ⟨h4, a3.1, a3.2⟩) (by rw [tt 2 (by omega) (by omega)]; exact hp)
  have d6 : Dn R et k T 6 = S 6 + n := by rw [Dn_n (by omega) (by omega) (by omega) (by omega) (by omega) (by omega), t6]
  have d10 : Dn R et k T 10 = S 10 + n := by rw [Dn_n (by omega) (by omega) (by omega) (by omega) (by omega) (by omega), t10]
  have d1' : Dn R et k T 1 = S 1 := by rw [Dn_n (by omega) (by omega) (by omega) (by omega) (by omega) (by omega), tt 1 (by omega) (by omega)]
  have ej : (nI j).toInt = j := nI_toInt (by omega)
  rw [tt 7 (by omega) (by omega)] at j2
  rw [hs] at j3
  have f7 : (Dn R et k T 7).toInt = (S 7).toInt + j := by rw [j2, z_add (by rw [ej]; omega) (by rw [ej]; omega), ej]
  have fs : (SUMS (Dn R et k T) np).toInt = (SUMS S np).toInt + j := by rw [j3, z_add (by rw [ej]; omega) (by rw [ej]; omega), ej]
  refine ⟨?_, d1', d10⟩
  unfold IS
  rw [d6, d10, d1', f7, fs, z_add (by omega) (by omega), z_add (x := S 10) (by omega) (by omega)]
  exact ⟨by omega, a2, ⟨q.2.1, q.2.2⟩, by omega, by omega⟩
theorem FIN_o {R : Nat → Int32} {et pr : Int32} {S : Nat → Int32} {j : Nat} (h0 : j ≠ 0) (h1 : j ≠ 1) (h2 : j ≠ 2) (h3 : j ≠ 3) (h6 : j ≠ 6) (h7 : j ≠ 7) (h11 : j ≠ 11) : FIN R et pr S j = S j := by
  have f1 : FIN1 R et S j = S j := by
    unfold FIN1
    rw [u_n h3, u_n h1, u_n h0]
  have n1 : ∀ T : Nat → Int32, NEXT1 pr T j = T j := fun T => by
    unfold NEXT1
    rw [u_n h3, u_n h2, u_n h11]
  have nx : ∀ T : Nat → Int32, NEXT R pr T j = T j := fun T => by
    unfold NEXT
    split
    · rw [u_n h0, n1]
    · exact n1 T
  unfold FIN DROP
  rw [u_n h7, u_n h6]
  unfold FIN2
  split
  · exact f1
  · split
    · rw [nx, f1]
    · exact f1
theorem FIN_r67 {R : Nat → Int32} {et pr : Int32} {S : Nat → Int32} : FIN R et pr S 6 = 0 ∧ FIN R et pr S 7 = 0 ∧ FIN R et pr S 1 = S 1 + 1 := by
  refine ⟨?_, ?_, ?_⟩
  · unfold FIN DROP
    rw [u_n (by omega), u_s]
  · unfold FIN DROP
    rw [u_s]
  · unfold FIN DROP
    rw [u_n (by omega), u_n (by omega)]
    exact FIN_6.2.2.1
theorem IS_FIN {R : Nat → Int32} {et pr ex : Int32} {np : Nat} {S : Nat → Int32} (h : IS ex np S) (h7 : 0 ≤ (S 7).toInt) (h1 : (S 1).toInt ≤ 6000) : IS ex np (FIN R et pr S) := by
  obtain ⟨a1, a2, a3, a4, a5⟩ := h
  obtain ⟨f6, f7, f1⟩ := @FIN_r67 R et pr S
  have e0 : (0 : Int32).toInt = 0 := rfl
  have e1 : (1 : Int32).toInt = 1 := rfl
  have hs : SUMS (FIN R et pr S) np = SUMS S np := SUMS_c (fun p _ => FIN_o (by omega) (by omega) (by omega) (by omega) (by omega) (by omega) (by omega))
  unfold IS
  rw [f6, f7, f1, hs, FIN_o (by omega) (by omega) (by omega) (by omega) (by omega) (by omega) (by omega), FIN_o (by omega) (by omega) (by omega) (by omega) (by omega) (by omega) (by omega), FIN_o (by omega) (by omega) (by omega) (by omega) (by omega) (by omega) (by omega), e0, z_add (by omega) (by omega), e1]
  exact ⟨by omega, by omega, a3, by omega, a5⟩
/-- rows that agree where IVX looks -/
theorem IVX_c {g g1 : Nat → Int32} (h : IVX g) (hw : ∀ j, j = 1 ∨ j = 4 ∨ j = 5 ∨ j = 6 ∨ j = 7 ∨ j = 8 ∨ j = 10 ∨ (12 ≤ j ∧ j < 17) → sl g1 37 j = sl g 37 j) (hb : ∀ j, j = 1 ∨ j = 4 ∨ j = 5 ∨ j = 6 ∨ j = 7 ∨ j = 8 ∨ j = 10 ∨ (12 ≤ j ∧ j < 17) → sl g1 54 j = sl g 54 j) (h1 : ∀ j, j = 1 ∨ j = 2 ∨ j = 3 ∨ j = 7 ∨ j = 8 ∨ j = 9 ∨ 71 ≤ j → g1 j = g j) (hn : (g 2).toInt ≤ 5) (h0 : g1 0 = 4 → 0 ≤ (g1 11).toInt) : IVX g1 := by
  obtain ⟨i1, i2, ⟨i3, i4⟩, i5, i6, ⟨i7, i8⟩⟩ := h
  have sw : SUMS (sl g1 37) (g 2).toInt.toNat = SUMS (sl g 37) (g 2).toInt.toNat := SUMS_c (fun p hp => hw _ (by omega))
  have sb : SUMS (sl g1 54) (g 2).toInt.toNat = SUMS (sl g 54) (g 2).toInt.toNat := SUMS_c (fun p hp => hb _ (by omega))
  unfold IVX IS FELL LOGI
  rw [h1 2 (by omega), h1 3 (by omega), h1 7 (by omega), h1 8 (by omega), h1 9 (by omega), h1 1 (by omega), h1 71 (by omega), h1 76 (by omega), sw, sb, hw 1 (by omega), hw 4 (by omega), hw 5 (by omega), hw 6 (by omega), hw 7 (by omega), hw 8 (by omega), hw 10 (by omega), hb 1 (by omega), hb 4 (by omega), hb 5 (by omega), hb 6 (by omega), hb 7 (by omega), hb 8 (by omega), hb 10 (by omega)]
  refine ⟨i1, i2, ⟨i3, i4⟩, i5, h0, ⟨fun i z1 z2 => ?_, i8⟩⟩
  rw [h1 _ (by omega), h1 _ (by omega), h1 _ (by omega), h1 _ (by omega)]
  exact i7 i z1 z2
theorem IVX_u {g : Nat → Int32} {k : Nat} {v : Int32} (h : IVX g) (hn : (g 2).toInt ≤ 5) (hk : k = 0 ∨ k = 6 ∨ k = 10 ∨ (12 ≤ k ∧ k < 37)) (h0 : k = 0 → v ≠ 4) : IVX (upd g k v) := by
  refine IVX_c h (fun j _ => ?_) (fun j _ => ?_) (fun j hj => u_n (by omega)) hn (fun h4 => ?_)
  · rw [sl_u2 (by omega)]
  · rw [sl_u2 (by omega)]
  · rw [u_n (by omega)]
    by_cases hk0 : k = 0
    · subst hk0
      rw [u_s] at h4
      exact absurd h4 (h0 rfl)
    · rw [u_n (Ne.symm hk0)] at h4
      exact h.2.2.2.2.1 h4
theorem IVX_end {g : Nat → Int32} {x : Int32} (h : IVX g) (hn : (g 2).toInt ≤ 5) (hx : 0 ≤ x.toInt) : IVX (upd (upd g 0 4) 11 x) := by
  refine IVX_c h (fun j _ => ?_) (fun j _ => ?_) (fun j hj => by rw [u_n (by omega), u_n (by omega)]) hn (fun _ => by rw [u_s]; exact hx)
  · rw [sl_u2 (by omega), sl_u2 (by omega)]
  · rw [sl_u2 (by omega), sl_u2 (by omega)]
theorem oS2 {p : Int32} (hp : p = 0 ∨ p = 1) : oS p = 37 ∨ oS p = 54 := by
  rcases hp with rfl | rfl
  · exact Or.inl rfl
  · exact Or.inr rfl
theorem IVX_S {g : Nat → Int32} {p : Int32} {k : Nat} {v : Int32} (h : IVX g) (hp : p = 0 ∨ p = 1) (hn : (g 2).toInt ≤ 5) (hk : k = 0 ∨ k = 9) : IVX (setS g (oS p) (upd (sl g (oS p)) k v)) := by
  have h17 : ∀ i, 17 ≤ i → upd (sl g (oS p)) k v i = 0 := fun i hi => by rw [u_n (by omega)]; exact sl_top hi
  have key : ∀ o, (o = 37 ∨ o = 54) → ∀ j, j ≠ k → sl (setS g (oS p) (upd (sl g (oS p)) k v)) o j = sl g o j := by
    intro o ho j hj
    by_cases e : o = oS p
    · subst e
      rw [setS_sl h17, u_n hj]
    · have e2 : sl (setS g (oS p) (upd (sl g (oS p)) k v)) o = sl g o := by
        have := oS2 hp
        exact setS_o (by omega)
      rw [e2]
  have ge := @oS_ge p
  have le := @oS_le p
  refine IVX_c h (fun j hj => key 37 (Or.inl rfl) j (by omega)) (fun j hj => key 54 (Or.inr rfl) j (by omega)) (fun j hj => ?_) hn (fun h4 => ?_)
  · rcases Nat.lt_or_ge j 37 with h9 | h9
    · exact setS_lo h9
    · exact setS_hi (by omega)
  · rw [setS_lo (by omega)] at h4 ⊢
    exact h.2.2.2.2.1 h4
theorem sw_37 {g : Nat → Int32} : sl (swS g 17) 37 = sl g 54 := by
  funext i
  by_cases hi : i < 17
  · rw [swS_s1 hi, if_pos hi]
  · rw [sl_top (by omega), sl_top (by omega)]
theorem sw_54 {g : Nat → Int32} : sl (swS g 17) 54 = sl g 37 := by
  funext i
  by_cases hi : i < 17
  · rw [swS_s2 hi, if_pos hi]
  · rw [sl_top (by omega), sl_top (by omega)]
theorem IVX_sw {g : Nat → Int32} (h : IVX g) : IVX (swS g 17) := by
  obtain ⟨i1, i2, ⟨i3, i4⟩, i5, i6, ⟨i7, i8⟩⟩ := h
  have gn : ∀ j, j < 37 ∨ 71 ≤ j → swS g 17 j = g j := fun j hj => swS_n hj
  unfold IVX FELL LOGI
  rw [sw_37, sw_54, gn 0 (by omega), gn 1 (by omega), gn 2 (by omega), gn 3 (by omega), gn 7 (by omega), gn 8 (by omega), gn 9 (by omega), gn 11 (by omega), gn 71 (by omega), gn 76 (by omega)]
  refine ⟨i2, i1, ⟨by omega, by omega⟩, ?_, i6, ⟨fun i z1 z2 => ?_, i8⟩⟩
  · rcases i5 with ⟨z1, z2, z3⟩ | ⟨z1, z2⟩
    · exact Or.inl ⟨z1, z3, z2⟩
    · exact Or.inr ⟨z1, z2.symm⟩
  · rw [gn _ (by omega), gn _ (by omega), gn _ (by omega), gn _ (by omega)]
    exact i7 i z1 z2
