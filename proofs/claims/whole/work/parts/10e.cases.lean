theorem rel1 {t : Int} {X : Option (Mem × Mem × Mem)} (h : ∃ a' b' c', X = some (a', b', c') ∧ REL t a' b') : ∃ a' b' c', X = some (a', b', c') ∧ REL (t + 1) a' b' := by
  obtain ⟨a', b', c', h1, h2⟩ := h
  exact ⟨a', b', c', h1, REL_mono h2 (by omega)⟩
theorem cI1 {α : Type} {i : Int32} {Ln : Nat} {k : Option α} (h0 : 0 ≤ i.toInt) (h1 : i.toInt + 6 ≤ Ln) (hLn : Ln ≤ 3072) : chkI (i + (1 : Int32)) Ln k = k := by
  have e : (1 : Int32).toInt = 1 := rfl
  have e0 : (0 : Int32).toInt = 0 := rfl
  have hs : (i + (1 : Int32)).toInt = i.toInt + 1 := by
    rw [z_add (by rw [e]; omega) (by rw [e]; omega), e]
  unfold chkI
  rw [if_neg]
  intro h
  rcases h with h | h
  · have := z_lt.1 h
    rw [hs, e0] at this
    omega
  · rw [z_tn, hs] at h
    omega
theorem cI2 {α : Type} {i : Int32} {Ln : Nat} {k : Option α} (h0 : 0 ≤ i.toInt) (h1 : i.toInt + 6 ≤ Ln) (hLn : Ln ≤ 3072) : chkI (i + (2 : Int32)) Ln k = k := by
  have e : (2 : Int32).toInt = 2 := rfl
  have e0 : (0 : Int32).toInt = 0 := rfl
  have hs : (i + (2 : Int32)).toInt = i.toInt + 2 := by
    rw [z_add (by rw [e]; omega) (by rw [e]; omega), e]
  unfold chkI
  rw [if_neg]
  intro h
  rcases h with h | h
  · have := z_lt.1 h
    rw [hs, e0] at this
    omega
  · rw [z_tn, hs] at h
    omega
theorem cI3 {α : Type} {i : Int32} {Ln : Nat} {k : Option α} (h0 : 0 ≤ i.toInt) (h1 : i.toInt + 6 ≤ Ln) (hLn : Ln ≤ 3072) : chkI (i + (3 : Int32)) Ln k = k := by
  have e : (3 : Int32).toInt = 3 := rfl
  have e0 : (0 : Int32).toInt = 0 := rfl
  have hs : (i + (3 : Int32)).toInt = i.toInt + 3 := by
    rw [z_add (by rw [e]; omega) (by rw [e]; omega), e]
  unfold chkI
  rw [if_neg]
  intro h
  rcases h with h | h
  · have := z_lt.1 h
    rw [hs, e0] at this
    omega
  · rw [z_tn, hs] at h
    omega
theorem cI4 {α : Type} {i : Int32} {Ln : Nat} {k : Option α} (h0 : 0 ≤ i.toInt) (h1 : i.toInt + 6 ≤ Ln) (hLn : Ln ≤ 3072) : chkI (i + (4 : Int32)) Ln k = k := by
  have e : (4 : Int32).toInt = 4 := rfl
  have e0 : (0 : Int32).toInt = 0 := rfl
  have hs : (i + (4 : Int32)).toInt = i.toInt + 4 := by
    rw [z_add (by rw [e]; omega) (by rw [e]; omega), e]
  unfold chkI
  rw [if_neg]
  intro h
  rcases h with h | h
  · have := z_lt.1 h
    rw [hs, e0] at this
    omega
  · rw [z_tn, hs] at h
    omega
theorem cI5 {α : Type} {i : Int32} {Ln : Nat} {k : Option α} (h0 : 0 ≤ i.toInt) (h1 : i.toInt + 6 ≤ Ln) (hLn : Ln ≤ 3072) : chkI (i + (5 : Int32)) Ln k = k := by
  have e : (5 : Int32).toInt = 5 := rfl
  have e0 : (0 : Int32).toInt = 0 := rfl
  have hs : (i + (5 : Int32)).toInt = i.toInt + 5 := by
    rw [z_add (by rw [e]; omega) (by rw [e]; omega), e]
  unfold chkI
  rw [if_neg]
  intro h
  rcases h with h | h
  · have := z_lt.1 h
    rw [hs, e0] at this
    omega
  · rw [z_tn, hs] at h
    omega
theorem glueB {u : Int} {L : Option (Int32 × Mem × Mem)} {M : Option (Int32 × Mem)} (hb : ∀ a' c', L = some (0, a', c') → c' 0 0 = 0 ∨ c' 0 0 = 1) (h : AGR u L M) : ∃ a' b' c', (bP3 L fun x7 a8 c9 => bP2 M fun x16 b17 => bT (f_X9_thrown b17) fun x20 => if x20 = x7 then (if x7 = 0 then (if x16 = 0 then (if (lg_cmp (Int32.toInt64 (c9 0 0)) (0 : Int64)) = 0 then (some (a8, b17, c9)) else (none)) else (if (lg_cmp (Int32.toInt64 (c9 0 0)) (1 : Int64)) = 0 then (some (a8, b17, c9)) else (none))) else (some (a8, b17, c9))) else (none)) = some (a', b', c') ∧ REL u a' b' := by
  obtain ⟨x, a', c', y, b', rfl, rfl, hr, h0, hq⟩ := h
  refine ⟨a', b', c', ?_, hr⟩
  rw [b_P3, b_P2, b_T]
  unfold f_X9_thrown
  rw [if_pos h0]
  by_cases hx : x = 0
  · subst hx
    rw [if_pos rfl]
    have hy := hq rfl
    rcases hb a' c' rfl with z | z
    · rw [← hy, z, if_pos rfl]
      exact if_pos (z_lg0 _)
    · rw [← hy, z, if_neg (by decide)]
      exact if_pos (z_lg0 _)
  · rw [if_neg hx]
theorem bare01 {p v : Int32} {a c a' c' : Mem} (h : f_L_setBare p v a c = some (0, a', c')) : c' 0 0 = 0 ∨ c' 0 0 = 1 := by
  unfold f_L_setBare at h
  split at h
  · cases h
  · split at h
    · injection h with h
      injection h with h
      exact absurd h (by decide)
    · cases h
  · split at h
    · injection h with h
      injection h with h h2
      injection h2 with h2 h3
      rw [← h3, R_s, u_s]
      exact Or.inl rfl
    · injection h with h
      injection h with h h2
      injection h2 with h2 h3
      rw [← h3, R_s, u_s]
      exact Or.inr rfl
set_option maxRecDepth 10000 in
theorem g_case_0 {t : Int} {N Ln : Nat} {xs : Nat → Int32} {i : Int32} {a b c : Mem} (hN : 200000 ≤ N) (h0 : 0 ≤ i.toInt) (h1 : i.toInt + 6 ≤ Ln) (hLn : Ln ≤ 3072) (ht0 : 0 ≤ t) (ht : t ≤ 512) (h : REL t a b) : ∃ a' b' c', f_case_0 N Ln xs i a b c = some (a', b', c') ∧ REL (t + 1) a' b' := by
  unfold f_case_0
  simp only [cI1 h0 h1 hLn, cI2 h0 h1 hLn, cI3 h0 h1 hLn, cI4 h0 h1 hLn, cI5 h0 h1 hLn]
  exact rel1 (glue (ag_append (by omega) h))
set_option maxRecDepth 10000 in
theorem g_case_1 {t : Int} {N Ln : Nat} {xs : Nat → Int32} {i : Int32} {a b c : Mem} (hN : 200000 ≤ N) (h0 : 0 ≤ i.toInt) (h1 : i.toInt + 6 ≤ Ln) (hLn : Ln ≤ 3072) (ht0 : 0 ≤ t) (ht : t ≤ 512) (h : REL t a b) : ∃ a' b' c', f_case_1 N Ln xs i a b c = some (a', b', c') ∧ REL (t + 1) a' b' := by
  unfold f_case_1
  simp only [cI1 h0 h1 hLn]
  obtain ⟨x, a', e1, e2, e3⟩ := @an_truncate t a b c (xs (i + 1).toNatClampNeg) h
  refine rel1 ⟨a', _, c, ?_, e2⟩
  rw [e1, b_P3, b_T, b_T]
  unfold f_X9_thrown
  rw [if_pos e3]
set_option maxRecDepth 10000 in
theorem g_case_2 {t : Int} {N Ln : Nat} {xs : Nat → Int32} {i : Int32} {a b c : Mem} (hN : 200000 ≤ N) (h0 : 0 ≤ i.toInt) (h1 : i.toInt + 6 ≤ Ln) (hLn : Ln ≤ 3072) (ht0 : 0 ≤ t) (ht : t ≤ 512) (h : REL t a b) : ∃ a' b' c', f_case_2 N Ln xs i a b c = some (a', b', c') ∧ REL (t + 1) a' b' := by
  unfold f_case_2
  obtain ⟨y, b', e1, a', e2, e3⟩ := an_load (N := N) (by omega) ht0 h
  refine rel1 ⟨a', b', c, ?_, e3⟩
  rw [e2, b_P2, e1, b_P2, if_pos rfl]
set_option maxRecDepth 10000 in
theorem g_case_3 {t : Int} {N Ln : Nat} {xs : Nat → Int32} {i : Int32} {a b c : Mem} (hN : 200000 ≤ N) (h0 : 0 ≤ i.toInt) (h1 : i.toInt + 6 ≤ Ln) (hLn : Ln ≤ 3072) (ht0 : 0 ≤ t) (ht : t ≤ 512) (h : REL t a b) : ∃ a' b' c', f_case_3 N Ln xs i a b c = some (a', b', c') ∧ REL (t + 1) a' b' := by
  unfold f_case_3
  obtain ⟨e1, e2⟩ := an_errorCode h
  refine rel1 ⟨a, _, c, ?_, e2⟩
  rw [b_T]
  unfold bT2
  exact if_pos e1
set_option maxRecDepth 10000 in
theorem g_case_4 {t : Int} {N Ln : Nat} {xs : Nat → Int32} {i : Int32} {a b c : Mem} (hN : 200000 ≤ N) (h0 : 0 ≤ i.toInt) (h1 : i.toInt + 6 ≤ Ln) (hLn : Ln ≤ 3072) (ht0 : 0 ≤ t) (ht : t ≤ 512) (h : REL t a b) : ∃ a' b' c', f_case_4 N Ln xs i a b c = some (a', b', c') ∧ REL (t + 1) a' b' := by
  unfold f_case_4
  obtain ⟨e1, e2⟩ := an_errorPosition h
  refine rel1 ⟨a, _, c, ?_, e2⟩
  rw [b_T]
  unfold bT2
  exact if_pos e1
set_option maxRecDepth 10000 in
theorem g_case_5 {t : Int} {N Ln : Nat} {xs : Nat → Int32} {i : Int32} {a b c : Mem} (hN : 200000 ≤ N) (h0 : 0 ≤ i.toInt) (h1 : i.toInt + 6 ≤ Ln) (hLn : Ln ≤ 3072) (ht0 : 0 ≤ t) (ht : t ≤ 512) (h : REL t a b) : ∃ a' b' c', f_case_5 N Ln xs i a b c = some (a', b', c') ∧ REL (t + 1) a' b' := by
  unfold f_case_5
  simp only [cI1 h0 h1 hLn]
  exact rel1 (glue (ag_property h))
set_option maxRecDepth 10000 in
theorem g_case_6 {t : Int} {N Ln : Nat} {xs : Nat → Int32} {i : Int32} {a b c : Mem} (hN : 200000 ≤ N) (h0 : 0 ≤ i.toInt) (h1 : i.toInt + 6 ≤ Ln) (hLn : Ln ≤ 3072) (ht0 : 0 ≤ t) (ht : t ≤ 512) (h : REL t a b) : ∃ a' b' c', f_case_6 N Ln xs i a b c = some (a', b', c') ∧ REL (t + 1) a' b' := by
  unfold f_case_6
  simp only [cI1 h0 h1 hLn, cI2 h0 h1 hLn]
  exact rel1 (glue (ag_period h))
set_option maxRecDepth 10000 in
theorem g_case_7 {t : Int} {N Ln : Nat} {xs : Nat → Int32} {i : Int32} {a b c : Mem} (hN : 200000 ≤ N) (h0 : 0 ≤ i.toInt) (h1 : i.toInt + 6 ≤ Ln) (hLn : Ln ≤ 3072) (ht0 : 0 ≤ t) (ht : t ≤ 512) (h : REL t a b) : ∃ a' b' c', f_case_7 N Ln xs i a b c = some (a', b', c') ∧ REL (t + 1) a' b' := by
  unfold f_case_7
  simp only [cI1 h0 h1 hLn, cI2 h0 h1 hLn]
  exact rel1 (glue (ag_side h))
set_option maxRecDepth 10000 in
theorem g_case_8 {t : Int} {N Ln : Nat} {xs : Nat → Int32} {i : Int32} {a b c : Mem} (hN : 200000 ≤ N) (h0 : 0 ≤ i.toInt) (h1 : i.toInt + 6 ≤ Ln) (hLn : Ln ≤ 3072) (ht0 : 0 ≤ t) (ht : t ≤ 512) (h : REL t a b) : ∃ a' b' c', f_case_8 N Ln xs i a b c = some (a', b', c') ∧ REL (t + 1) a' b' := by
  unfold f_case_8
  simp only [cI1 h0 h1 hLn, cI2 h0 h1 hLn]
  exact rel1 (glue (ag_logged h))
set_option maxRecDepth 10000 in
theorem g_case_9 {t : Int} {N Ln : Nat} {xs : Nat → Int32} {i : Int32} {a b c : Mem} (hN : 200000 ≤ N) (h0 : 0 ≤ i.toInt) (h1 : i.toInt + 6 ≤ Ln) (hLn : Ln ≤ 3072) (ht0 : 0 ≤ t) (ht : t ≤ 512) (h : REL t a b) : ∃ a' b' c', f_case_9 N Ln xs i a b c = some (a', b', c') ∧ REL (t + 1) a' b' := by
  unfold f_case_9
  simp only [cI1 h0 h1 hLn]
  exact rel1 (glue (ag_flagIn h))
set_option maxRecDepth 10000 in
theorem g_case_10 {t : Int} {N Ln : Nat} {xs : Nat → Int32} {i : Int32} {a b c : Mem} (hN : 200000 ≤ N) (h0 : 0 ≤ i.toInt) (h1 : i.toInt + 6 ≤ Ln) (hLn : Ln ≤ 3072) (ht0 : 0 ≤ t) (ht : t ≤ 512) (h : REL t a b) : ∃ a' b' c', f_case_10 N Ln xs i a b c = some (a', b', c') ∧ REL (t + 1) a' b' := by
  unfold f_case_10
  simp only [cI1 h0 h1 hLn]
  exact rel1 (glue (ag_delayLeft h))
set_option maxRecDepth 10000 in
theorem g_case_11 {t : Int} {N Ln : Nat} {xs : Nat → Int32} {i : Int32} {a b c : Mem} (hN : 200000 ≤ N) (h0 : 0 ≤ i.toInt) (h1 : i.toInt + 6 ≤ Ln) (hLn : Ln ≤ 3072) (ht0 : 0 ≤ t) (ht : t ≤ 512) (h : REL t a b) : ∃ a' b' c', f_case_11 N Ln xs i a b c = some (a', b', c') ∧ REL (t + 1) a' b' := by
  unfold f_case_11
  simp only [cI1 h0 h1 hLn]
  exact rel1 (glue (ag_shown ht h))
set_option maxRecDepth 10000 in
theorem g_case_12 {t : Int} {N Ln : Nat} {xs : Nat → Int32} {i : Int32} {a b c : Mem} (hN : 200000 ≤ N) (h0 : 0 ≤ i.toInt) (h1 : i.toInt + 6 ≤ Ln) (hLn : Ln ≤ 3072) (ht0 : 0 ≤ t) (ht : t ≤ 512) (h : REL t a b) : ∃ a' b' c', f_case_12 N Ln xs i a b c = some (a', b', c') ∧ REL (t + 1) a' b' := by
  unfold f_case_12
  simp only [cI1 h0 h1 hLn]
  exact rel1 (glue (ag_pace (by omega) ht h))
set_option maxRecDepth 10000 in
theorem g_case_13 {t : Int} {N Ln : Nat} {xs : Nat → Int32} {i : Int32} {a b c : Mem} (hN : 200000 ≤ N) (h0 : 0 ≤ i.toInt) (h1 : i.toInt + 6 ≤ Ln) (hLn : Ln ≤ 3072) (ht0 : 0 ≤ t) (ht : t ≤ 512) (h : REL t a b) : ∃ a' b' c', f_case_13 N Ln xs i a b c = some (a', b', c') ∧ REL (t + 1) a' b' := by
  unfold f_case_13
  simp only [cI1 h0 h1 hLn, cI2 h0 h1 hLn]
  exact rel1 (glue (ag_lasts (by omega) ht h))
set_option maxRecDepth 10000 in
theorem g_case_14 {t : Int} {N Ln : Nat} {xs : Nat → Int32} {i : Int32} {a b c : Mem} (hN : 200000 ≤ N) (h0 : 0 ≤ i.toInt) (h1 : i.toInt + 6 ≤ Ln) (hLn : Ln ≤ 3072) (ht0 : 0 ≤ t) (ht : t ≤ 512) (h : REL t a b) : ∃ a' b' c', f_case_14 N Ln xs i a b c = some (a', b', c') ∧ REL (t + 1) a' b' := by
  unfold f_case_14
  obtain ⟨y, b', e1, e2, e3⟩ := an_ahead (N := N) h
  refine rel1 ⟨a, b', c, ?_, e3⟩
  rw [b_T, e1, b_P2, if_pos e2]
set_option maxRecDepth 10000 in
theorem g_case_15 {t : Int} {N Ln : Nat} {xs : Nat → Int32} {i : Int32} {a b c : Mem} (hN : 200000 ≤ N) (h0 : 0 ≤ i.toInt) (h1 : i.toInt + 6 ≤ Ln) (hLn : Ln ≤ 3072) (ht0 : 0 ≤ t) (ht : t ≤ 512) (h : REL t a b) : ∃ a' b' c', f_case_15 N Ln xs i a b c = some (a', b', c') ∧ REL (t + 1) a' b' := by
  unfold f_case_15
  simp only [cI1 h0 h1 hLn]
  exact rel1 (glue (ag_longest (by omega) h))
set_option maxRecDepth 10000 in
theorem g_case_16 {t : Int} {N Ln : Nat} {xs : Nat → Int32} {i : Int32} {a b c : Mem} (hN : 200000 ≤ N) (h0 : 0 ≤ i.toInt) (h1 : i.toInt + 6 ≤ Ln) (hLn : Ln ≤ 3072) (ht0 : 0 ≤ t) (ht : t ≤ 512) (h : REL t a b) : ∃ a' b' c', f_case_16 N Ln xs i a b c = some (a', b', c') ∧ REL (t + 1) a' b' := by
  unfold f_case_16
  simp only [cI1 h0 h1 hLn]
  exact rel1 (glueD (ag_meanThink (by omega) h))
set_option maxRecDepth 10000 in
theorem g_case_17 {t : Int} {N Ln : Nat} {xs : Nat → Int32} {i : Int32} {a b c : Mem} (hN : 200000 ≤ N) (h0 : 0 ≤ i.toInt) (h1 : i.toInt + 6 ≤ Ln) (hLn : Ln ≤ 3072) (ht0 : 0 ≤ t) (ht : t ≤ 512) (h : REL t a b) : ∃ a' b' c', f_case_17 N Ln xs i a b c = some (a', b', c') ∧ REL (t + 1) a' b' := by
  unfold f_case_17
  simp only [cI1 h0 h1 hLn]
  exact rel1 (glueF (ag_share ht h))
set_option maxRecDepth 10000 in
theorem g_case_18 {t : Int} {N Ln : Nat} {xs : Nat → Int32} {i : Int32} {a b c : Mem} (hN : 200000 ≤ N) (h0 : 0 ≤ i.toInt) (h1 : i.toInt + 6 ≤ Ln) (hLn : Ln ≤ 3072) (ht0 : 0 ≤ t) (ht : t ≤ 512) (h : REL t a b) : ∃ a' b' c', f_case_18 N Ln xs i a b c = some (a', b', c') ∧ REL (t + 1) a' b' := by
  unfold f_case_18
  simp only [cI1 h0 h1 hLn, cI2 h0 h1 hLn]
  exact rel1 (glue (ag_leftIn (by omega) ht h))
set_option maxRecDepth 10000 in
theorem g_case_19 {t : Int} {N Ln : Nat} {xs : Nat → Int32} {i : Int32} {a b c : Mem} (hN : 200000 ≤ N) (h0 : 0 ≤ i.toInt) (h1 : i.toInt + 6 ≤ Ln) (hLn : Ln ≤ 3072) (ht0 : 0 ≤ t) (ht : t ≤ 512) (h : REL t a b) : ∃ a' b' c', f_case_19 N Ln xs i a b c = some (a', b', c') ∧ REL (t + 1) a' b' := by
  unfold f_case_19
  obtain ⟨y, b', e1, e2, e3⟩ := an_overIn (N := N) h
  refine rel1 ⟨a, b', c, ?_, e3⟩
  rw [b_T, e1, b_P2, if_pos e2]
set_option maxRecDepth 10000 in
theorem g_case_20 {t : Int} {N Ln : Nat} {xs : Nat → Int32} {i : Int32} {a b c : Mem} (hN : 200000 ≤ N) (h0 : 0 ≤ i.toInt) (h1 : i.toInt + 6 ≤ Ln) (hLn : Ln ≤ 3072) (ht0 : 0 ≤ t) (ht : t ≤ 512) (h : REL t a b) : ∃ a' b' c', f_case_20 N Ln xs i a b c = some (a', b', c') ∧ REL (t + 1) a' b' := by
  unfold f_case_20
  obtain ⟨y, b', e1, e2, e3⟩ := an_canSeal (N := N) ht h
  refine rel1 ⟨a, b', c, ?_, e3⟩
  rw [b_T, e1, b_P2, if_pos e2]
set_option maxRecDepth 10000 in
theorem g_case_21 {t : Int} {N Ln : Nat} {xs : Nat → Int32} {i : Int32} {a b c : Mem} (hN : 200000 ≤ N) (h0 : 0 ≤ i.toInt) (h1 : i.toInt + 6 ≤ Ln) (hLn : Ln ≤ 3072) (ht0 : 0 ≤ t) (ht : t ≤ 512) (h : REL t a b) : ∃ a' b' c', f_case_21 N Ln xs i a b c = some (a', b', c') ∧ REL (t + 1) a' b' := by
  unfold f_case_21
  obtain ⟨y, b', e1, e2, e3⟩ := an_sealIn (N := N) h
  refine rel1 ⟨a, b', c, ?_, e3⟩
  rw [b_T, e1, b_P2, if_pos e2]
set_option maxRecDepth 10000 in
theorem g_case_22 {t : Int} {N Ln : Nat} {xs : Nat → Int32} {i : Int32} {a b c : Mem} (hN : 200000 ≤ N) (h0 : 0 ≤ i.toInt) (h1 : i.toInt + 6 ≤ Ln) (hLn : Ln ≤ 3072) (ht0 : 0 ≤ t) (ht : t ≤ 512) (h : REL t a b) : ∃ a' b' c', f_case_22 N Ln xs i a b c = some (a', b', c') ∧ REL (t + 1) a' b' := by
  unfold f_case_22
  simp only [cI1 h0 h1 hLn, cI2 h0 h1 hLn]
  exact rel1 (glue (ag_ends (by omega) ht h))
set_option maxRecDepth 10000 in
theorem g_case_23 {t : Int} {N Ln : Nat} {xs : Nat → Int32} {i : Int32} {a b c : Mem} (hN : 200000 ≤ N) (h0 : 0 ≤ i.toInt) (h1 : i.toInt + 6 ≤ Ln) (hLn : Ln ≤ 3072) (ht0 : 0 ≤ t) (ht : t ≤ 512) (h : REL t a b) : ∃ a' b' c', f_case_23 N Ln xs i a b c = some (a', b', c') ∧ REL (t + 1) a' b' := by
  unfold f_case_23
  simp only [cI1 h0 h1 hLn, cI2 h0 h1 hLn]
  exact rel1 (glue (ag_endsAfter (by omega) ht h))
set_option maxRecDepth 10000 in
theorem g_case_24 {t : Int} {N Ln : Nat} {xs : Nat → Int32} {i : Int32} {a b c : Mem} (hN : 200000 ≤ N) (h0 : 0 ≤ i.toInt) (h1 : i.toInt + 6 ≤ Ln) (hLn : Ln ≤ 3072) (ht0 : 0 ≤ t) (ht : t ≤ 512) (h : REL t a b) : ∃ a' b' c', f_case_24 N Ln xs i a b c = some (a', b', c') ∧ REL (t + 1) a' b' := by
  unfold f_case_24
  simp only [cI1 h0 h1 hLn, cI2 h0 h1 hLn, cI3 h0 h1 hLn]
  exact rel1 (glue (ag_movesIn (by omega) ht h))
set_option maxRecDepth 10000 in
theorem g_case_25 {t : Int} {N Ln : Nat} {xs : Nat → Int32} {i : Int32} {a b c : Mem} (hN : 200000 ≤ N) (h0 : 0 ≤ i.toInt) (h1 : i.toInt + 6 ≤ Ln) (hLn : Ln ≤ 3072) (ht0 : 0 ≤ t) (ht : t ≤ 512) (h : REL t a b) : ∃ a' b' c', f_case_25 N Ln xs i a b c = some (a', b', c') ∧ REL (t + 1) a' b' := by
  unfold f_case_25
  simp only [cI1 h0 h1 hLn]
  exact rel1 (glue (ag_gained (by omega) h))
set_option maxRecDepth 10000 in
theorem g_case_26 {t : Int} {N Ln : Nat} {xs : Nat → Int32} {i : Int32} {a b c : Mem} (hN : 200000 ≤ N) (h0 : 0 ≤ i.toInt) (h1 : i.toInt + 6 ≤ Ln) (hLn : Ln ≤ 3072) (ht0 : 0 ≤ t) (ht : t ≤ 512) (h : REL t a b) : ∃ a' b' c', f_case_26 N Ln xs i a b c = some (a', b', c') ∧ REL (t + 1) a' b' := by
  unfold f_case_26
  simp only [cI1 h0 h1 hLn]
  exact rel1 (glue (ag_finished h))
set_option maxRecDepth 10000 in
theorem g_case_27 {t : Int} {N Ln : Nat} {xs : Nat → Int32} {i : Int32} {a b c : Mem} (hN : 200000 ≤ N) (h0 : 0 ≤ i.toInt) (h1 : i.toInt + 6 ≤ Ln) (hLn : Ln ≤ 3072) (ht0 : 0 ≤ t) (ht : t ≤ 512) (h : REL t a b) : ∃ a' b' c', f_case_27 N Ln xs i a b c = some (a', b', c') ∧ REL (t + 1) a' b' := by
  unfold f_case_27
  simp only [cI1 h0 h1 hLn, cI2 h0 h1 hLn]
  exact rel1 (glue (ag_spent h))
set_option maxRecDepth 10000 in
theorem g_case_28 {t : Int} {N Ln : Nat} {xs : Nat → Int32} {i : Int32} {a b c : Mem} (hN : 200000 ≤ N) (h0 : 0 ≤ i.toInt) (h1 : i.toInt + 6 ≤ Ln) (hLn : Ln ≤ 3072) (ht0 : 0 ≤ t) (ht : t ≤ 512) (h : REL t a b) : ∃ a' b' c', f_case_28 N Ln xs i a b c = some (a', b', c') ∧ REL (t + 1) a' b' := by
  unfold f_case_28
  obtain ⟨y, b', e1, e2, e3⟩ := an_slowest (N := N) (by omega) h
  refine rel1 ⟨a, b', c, ?_, e3⟩
  rw [e2, b_P, e1, b_P2, if_pos rfl]
set_option maxRecDepth 10000 in
theorem g_case_29 {t : Int} {N Ln : Nat} {xs : Nat → Int32} {i : Int32} {a b c : Mem} (hN : 200000 ≤ N) (h0 : 0 ≤ i.toInt) (h1 : i.toInt + 6 ≤ Ln) (hLn : Ln ≤ 3072) (ht0 : 0 ≤ t) (ht : t ≤ 512) (h : REL t a b) : ∃ a' b' c', f_case_29 N Ln xs i a b c = some (a', b', c') ∧ REL (t + 1) a' b' := by
  unfold f_case_29
  simp only [cI1 h0 h1 hLn, cI2 h0 h1 hLn]
  exact rel1 (glue (ag_within (by omega) h))
set_option maxRecDepth 10000 in
theorem g_case_30 {t : Int} {N Ln : Nat} {xs : Nat → Int32} {i : Int32} {a b c : Mem} (hN : 200000 ≤ N) (h0 : 0 ≤ i.toInt) (h1 : i.toInt + 6 ≤ Ln) (hLn : Ln ≤ 3072) (ht0 : 0 ≤ t) (ht : t ≤ 512) (h : REL t a b) : ∃ a' b' c', f_case_30 N Ln xs i a b c = some (a', b', c') ∧ REL (t + 1) a' b' := by
  unfold f_case_30
  simp only [cI1 h0 h1 hLn, cI2 h0 h1 hLn]
  exact rel1 (glue (ag_paceFor (by omega) ht h))
set_option maxRecDepth 10000 in
theorem g_case_31 {t : Int} {N Ln : Nat} {xs : Nat → Int32} {i : Int32} {a b c : Mem} (hN : 200000 ≤ N) (h0 : 0 ≤ i.toInt) (h1 : i.toInt + 6 ≤ Ln) (hLn : Ln ≤ 3072) (ht0 : 0 ≤ t) (ht : t ≤ 512) (h : REL t a b) : ∃ a' b' c', f_case_31 N Ln xs i a b c = some (a', b', c') ∧ REL (t + 1) a' b' := by
  unfold f_case_31
  simp only [cI1 h0 h1 hLn, cI2 h0 h1 hLn, cI3 h0 h1 hLn]
  exact rel1 (glue (ag_needs (by omega) ht h))
set_option maxRecDepth 10000 in
theorem g_case_32 {t : Int} {N Ln : Nat} {xs : Nat → Int32} {i : Int32} {a b c : Mem} (hN : 200000 ≤ N) (h0 : 0 ≤ i.toInt) (h1 : i.toInt + 6 ≤ Ln) (hLn : Ln ≤ 3072) (ht0 : 0 ≤ t) (ht : t ≤ 512) (h : REL t a b) : ∃ a' b' c', f_case_32 N Ln xs i a b c = some (a', b', c') ∧ REL (t + 1) a' b' := by
  unfold f_case_32
  simp only [cI1 h0 h1 hLn, cI2 h0 h1 hLn, cI3 h0 h1 hLn]
  exact rel1 (glue (ag_aheadAfter (by omega) ht h))
set_option maxRecDepth 10000 in
theorem g_case_33 {t : Int} {N Ln : Nat} {xs : Nat → Int32} {i : Int32} {a b c : Mem} (hN : 200000 ≤ N) (h0 : 0 ≤ i.toInt) (h1 : i.toInt + 6 ≤ Ln) (hLn : Ln ≤ 3072) (ht0 : 0 ≤ t) (ht : t ≤ 512) (h : REL t a b) : ∃ a' b' c', f_case_33 N Ln xs i a b c = some (a', b', c') ∧ REL (t + 1) a' b' := by
  unfold f_case_33
  exact rel1 (glue (ag_start (by omega) h))
set_option maxRecDepth 10000 in
theorem g_case_34 {t : Int} {N Ln : Nat} {xs : Nat → Int32} {i : Int32} {a b c : Mem} (hN : 200000 ≤ N) (h0 : 0 ≤ i.toInt) (h1 : i.toInt + 6 ≤ Ln) (hLn : Ln ≤ 3072) (ht0 : 0 ≤ t) (ht : t ≤ 512) (h : REL t a b) : ∃ a' b' c', f_case_34 N Ln xs i a b c = some (a', b', c') ∧ REL (t + 1) a' b' := by
  unfold f_case_34
  simp only [cI1 h0 h1 hLn]
  exact glue (ag_tick (by omega) ht h)
set_option maxRecDepth 10000 in
theorem g_case_35 {t : Int} {N Ln : Nat} {xs : Nat → Int32} {i : Int32} {a b c : Mem} (hN : 200000 ≤ N) (h0 : 0 ≤ i.toInt) (h1 : i.toInt + 6 ≤ Ln) (hLn : Ln ≤ 3072) (ht0 : 0 ≤ t) (ht : t ≤ 512) (h : REL t a b) : ∃ a' b' c', f_case_35 N Ln xs i a b c = some (a', b', c') ∧ REL (t + 1) a' b' := by
  unfold f_case_35
  exact glue (ag_move (by omega) ht h)
set_option maxRecDepth 10000 in
theorem g_case_36 {t : Int} {N Ln : Nat} {xs : Nat → Int32} {i : Int32} {a b c : Mem} (hN : 200000 ≤ N) (h0 : 0 ≤ i.toInt) (h1 : i.toInt + 6 ≤ Ln) (hLn : Ln ≤ 3072) (ht0 : 0 ≤ t) (ht : t ≤ 512) (h : REL t a b) : ∃ a' b' c', f_case_36 N Ln xs i a b c = some (a', b', c') ∧ REL (t + 1) a' b' := by
  unfold f_case_36
  exact rel1 (glue (ag_pause (by omega) h))
set_option maxRecDepth 10000 in
theorem g_case_37 {t : Int} {N Ln : Nat} {xs : Nat → Int32} {i : Int32} {a b c : Mem} (hN : 200000 ≤ N) (h0 : 0 ≤ i.toInt) (h1 : i.toInt + 6 ≤ Ln) (hLn : Ln ≤ 3072) (ht0 : 0 ≤ t) (ht : t ≤ 512) (h : REL t a b) : ∃ a' b' c', f_case_37 N Ln xs i a b c = some (a', b', c') ∧ REL (t + 1) a' b' := by
  unfold f_case_37
  exact rel1 (glue (ag_proceed (by omega) h))
set_option maxRecDepth 10000 in
theorem g_case_38 {t : Int} {N Ln : Nat} {xs : Nat → Int32} {i : Int32} {a b c : Mem} (hN : 200000 ≤ N) (h0 : 0 ≤ i.toInt) (h1 : i.toInt + 6 ≤ Ln) (hLn : Ln ≤ 3072) (ht0 : 0 ≤ t) (ht : t ≤ 512) (h : REL t a b) : ∃ a' b' c', f_case_38 N Ln xs i a b c = some (a', b', c') ∧ REL (t + 1) a' b' := by
  unfold f_case_38
  exact rel1 (glue (ag_seal (by omega) ht h))
set_option maxRecDepth 10000 in
theorem g_case_39 {t : Int} {N Ln : Nat} {xs : Nat → Int32} {i : Int32} {a b c : Mem} (hN : 200000 ≤ N) (h0 : 0 ≤ i.toInt) (h1 : i.toInt + 6 ≤ Ln) (hLn : Ln ≤ 3072) (ht0 : 0 ≤ t) (ht : t ≤ 512) (h : REL t a b) : ∃ a' b' c', f_case_39 N Ln xs i a b c = some (a', b', c') ∧ REL (t + 1) a' b' := by
  unfold f_case_39
  exact glue (ag_open (by omega) ht h)
set_option maxRecDepth 10000 in
theorem g_case_40 {t : Int} {N Ln : Nat} {xs : Nat → Int32} {i : Int32} {a b c : Mem} (hN : 200000 ≤ N) (h0 : 0 ≤ i.toInt) (h1 : i.toInt + 6 ≤ Ln) (hLn : Ln ≤ 3072) (ht0 : 0 ≤ t) (ht : t ≤ 512) (h : REL t a b) : ∃ a' b' c', f_case_40 N Ln xs i a b c = some (a', b', c') ∧ REL (t + 1) a' b' := by
  unfold f_case_40
  simp only [cI1 h0 h1 hLn]
  exact rel1 (glue (ag_claim (by omega) h))
set_option maxRecDepth 10000 in
theorem g_case_41 {t : Int} {N Ln : Nat} {xs : Nat → Int32} {i : Int32} {a b c : Mem} (hN : 200000 ≤ N) (h0 : 0 ≤ i.toInt) (h1 : i.toInt + 6 ≤ Ln) (hLn : Ln ≤ 3072) (ht0 : 0 ≤ t) (ht : t ≤ 512) (h : REL t a b) : ∃ a' b' c', f_case_41 N Ln xs i a b c = some (a', b', c') ∧ REL (t + 1) a' b' := by
  unfold f_case_41
  simp only [cI1 h0 h1 hLn]
  exact rel1 (glue (ag_resign (by omega) h))
set_option maxRecDepth 10000 in
theorem g_case_42 {t : Int} {N Ln : Nat} {xs : Nat → Int32} {i : Int32} {a b c : Mem} (hN : 200000 ≤ N) (h0 : 0 ≤ i.toInt) (h1 : i.toInt + 6 ≤ Ln) (hLn : Ln ≤ 3072) (ht0 : 0 ≤ t) (ht : t ≤ 512) (h : REL t a b) : ∃ a' b' c', f_case_42 N Ln xs i a b c = some (a', b', c') ∧ REL (t + 1) a' b' := by
  unfold f_case_42
  simp only [cI1 h0 h1 hLn, cI2 h0 h1 hLn]
  exact glue (ag_give (by omega) ht h)
set_option maxRecDepth 10000 in
theorem g_case_43 {t : Int} {N Ln : Nat} {xs : Nat → Int32} {i : Int32} {a b c : Mem} (hN : 200000 ≤ N) (h0 : 0 ≤ i.toInt) (h1 : i.toInt + 6 ≤ Ln) (hLn : Ln ≤ 3072) (ht0 : 0 ≤ t) (ht : t ≤ 512) (h : REL t a b) : ∃ a' b' c', f_case_43 N Ln xs i a b c = some (a', b', c') ∧ REL (t + 1) a' b' := by
  unfold f_case_43
  simp only [cI1 h0 h1 hLn, cI2 h0 h1 hLn]
  by_cases hx : xs (i + 2).toNatClampNeg = 0
  · simp only [if_pos hx]
    exact rel1 (glueB (fun a' c' => bare01) (ag_setBare (by omega) (Or.inl rfl) h))
  · simp only [if_neg hx]
    exact rel1 (glueB (fun a' c' => bare01) (ag_setBare (by omega) (Or.inr rfl) h))
set_option maxRecDepth 10000 in
theorem g_case_44 {t : Int} {N Ln : Nat} {xs : Nat → Int32} {i : Int32} {a b c : Mem} (hN : 200000 ≤ N) (h0 : 0 ≤ i.toInt) (h1 : i.toInt + 6 ≤ Ln) (hLn : Ln ≤ 3072) (ht0 : 0 ≤ t) (ht : t ≤ 512) (h : REL t a b) : ∃ a' b' c', f_case_44 N Ln xs i a b c = some (a', b', c') ∧ REL (t + 1) a' b' := by
  unfold f_case_44
  simp only [cI1 h0 h1 hLn]
  by_cases hx : xs (i + 1).toNatClampNeg = 0
  · simp only [if_pos hx]
    obtain ⟨y, b', e1, e2, e3⟩ := @an_setClaims t N a b 0 (by omega) (Or.inl rfl) h
    refine rel1 ⟨_, b', c, ?_, e3⟩
    rw [e1]
    unfold bT2
    exact if_pos e2
  · simp only [if_neg hx]
    obtain ⟨y, b', e1, e2, e3⟩ := @an_setClaims t N a b 1 (by omega) (Or.inr rfl) h
    refine rel1 ⟨_, b', c, ?_, e3⟩
    rw [e1]
    unfold bT2
    exact if_pos e2
set_option maxRecDepth 10000 in
theorem g_case_45 {t : Int} {N Ln : Nat} {xs : Nat → Int32} {i : Int32} {a b c : Mem} (hN : 200000 ≤ N) (h0 : 0 ≤ i.toInt) (h1 : i.toInt + 6 ≤ Ln) (hLn : Ln ≤ 3072) (ht0 : 0 ≤ t) (ht : t ≤ 512) (h : REL t a b) : ∃ a' b' c', f_case_45 N Ln xs i a b c = some (a', b', c') ∧ REL (t + 1) a' b' := by
  unfold f_case_45
  simp only [cI1 h0 h1 hLn, cI2 h0 h1 hLn, cI3 h0 h1 hLn]
  exact rel1 (glue (ag_setPeriod (by omega) h))
set_option maxRecDepth 10000 in
theorem g_case_46 {t : Int} {N Ln : Nat} {xs : Nat → Int32} {i : Int32} {a b c : Mem} (hN : 200000 ≤ N) (h0 : 0 ≤ i.toInt) (h1 : i.toInt + 6 ≤ Ln) (hLn : Ln ≤ 3072) (ht0 : 0 ≤ t) (ht : t ≤ 512) (h : REL t a b) : ∃ a' b' c', f_case_46 N Ln xs i a b c = some (a', b', c') ∧ REL (t + 1) a' b' := by
  unfold f_case_46
  exact rel1 (glue (ag_swap (by omega) h))
set_option maxRecDepth 10000 in
theorem g_case_47 {t : Int} {N Ln : Nat} {xs : Nat → Int32} {i : Int32} {a b c : Mem} (hN : 200000 ≤ N) (h0 : 0 ≤ i.toInt) (h1 : i.toInt + 6 ≤ Ln) (hLn : Ln ≤ 3072) (ht0 : 0 ≤ t) (ht : t ≤ 512) (h : REL t a b) : ∃ a' b' c', f_case_47 N Ln xs i a b c = some (a', b', c') ∧ REL (t + 1) a' b' := by
  unfold f_case_47
  simp only [cI1 h0 h1 hLn]
  exact rel1 (glue (ag_keep (by omega) h))
set_option maxRecDepth 10000 in
theorem g_case_48 {t : Int} {N Ln : Nat} {xs : Nat → Int32} {i : Int32} {a b c : Mem} (hN : 200000 ≤ N) (h0 : 0 ≤ i.toInt) (h1 : i.toInt + 6 ≤ Ln) (hLn : Ln ≤ 3072) (ht0 : 0 ≤ t) (ht : t ≤ 512) (h : REL t a b) : ∃ a' b' c', f_case_48 N Ln xs i a b c = some (a', b', c') ∧ REL (t + 1) a' b' := by
  unfold f_case_48
  simp only [cI1 h0 h1 hLn]
  exact rel1 (glue (ag_restore (by omega) h))
set_option maxRecDepth 10000 in
theorem g_case_49 {t : Int} {N Ln : Nat} {xs : Nat → Int32} {i : Int32} {a b c : Mem} (hN : 200000 ≤ N) (h0 : 0 ≤ i.toInt) (h1 : i.toInt + 6 ≤ Ln) (hLn : Ln ≤ 3072) (ht0 : 0 ≤ t) (ht : t ≤ 512) (h : REL t a b) : ∃ a' b' c', f_case_49 N Ln xs i a b c = some (a', b', c') ∧ REL (t + 1) a' b' := by
  unfold f_case_49
  exact rel1 (glue (ag_undo (by omega) h))
set_option maxRecDepth 10000 in
theorem g_case_50 {t : Int} {N Ln : Nat} {xs : Nat → Int32} {i : Int32} {a b c : Mem} (hN : 200000 ≤ N) (h0 : 0 ≤ i.toInt) (h1 : i.toInt + 6 ≤ Ln) (hLn : Ln ≤ 3072) (ht0 : 0 ≤ t) (ht : t ≤ 512) (h : REL t a b) : ∃ a' b' c', f_case_50 N Ln xs i a b c = some (a', b', c') ∧ REL (t + 1) a' b' := by
  unfold f_case_50
  obtain ⟨e1, e2⟩ := an_undoCount h
  refine rel1 ⟨a, _, c, ?_, e2⟩
  rw [b_T]
  unfold bT2
  exact if_pos e1
set_option maxRecDepth 10000 in
theorem g_case_51 {t : Int} {N Ln : Nat} {xs : Nat → Int32} {i : Int32} {a b c : Mem} (hN : 200000 ≤ N) (h0 : 0 ≤ i.toInt) (h1 : i.toInt + 6 ≤ Ln) (hLn : Ln ≤ 3072) (ht0 : 0 ≤ t) (ht : t ≤ 512) (h : REL t a b) : ∃ a' b' c', f_case_51 N Ln xs i a b c = some (a', b', c') ∧ REL (t + 1) a' b' := by
  unfold f_case_51
  obtain ⟨y, b', e1, a', e2, e3⟩ := an_writeClock (N := N) ht0 ht (by omega) h
  refine rel1 ⟨a', b', c, ?_, e3⟩
  rw [e2, b_P2, e1, b_P2, if_pos rfl]
set_option maxRecDepth 10000 in
theorem g_case_52 {t : Int} {N Ln : Nat} {xs : Nat → Int32} {i : Int32} {a b c : Mem} (hN : 200000 ≤ N) (h0 : 0 ≤ i.toInt) (h1 : i.toInt + 6 ≤ Ln) (hLn : Ln ≤ 3072) (ht0 : 0 ≤ t) (ht : t ≤ 512) (h : REL t a b) : ∃ a' b' c', f_case_52 N Ln xs i a b c = some (a', b', c') ∧ REL (t + 1) a' b' := by
  unfold f_case_52
  obtain ⟨y, b', e1, a', e2, e3⟩ := an_writeLog (N := N) ht (by omega) h
  refine rel1 ⟨a', b', c, ?_, e3⟩
  rw [e2, b_P2, e1, b_P2, if_pos rfl]
set_option maxRecDepth 10000 in
theorem g_case_53 {t : Int} {N Ln : Nat} {xs : Nat → Int32} {i : Int32} {a b c : Mem} (hN : 200000 ≤ N) (h0 : 0 ≤ i.toInt) (h1 : i.toInt + 6 ≤ Ln) (hLn : Ln ≤ 3072) (ht0 : 0 ≤ t) (ht : t ≤ 512) (h : REL t a b) : ∃ a' b' c', f_case_53 N Ln xs i a b c = some (a', b', c') ∧ REL (t + 1) a' b' := by
  unfold f_case_53
  obtain ⟨y, b', e1, a', e2, e3⟩ := an_writePeriods (N := N) (by omega) h
  refine rel1 ⟨a', b', c, ?_, e3⟩
  rw [e2, b_P2, e1, b_P2, if_pos rfl]
