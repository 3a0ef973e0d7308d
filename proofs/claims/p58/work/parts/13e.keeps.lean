/-! every act keeps what holds -/
def KP (t : Int) (g : Nat → Int32) (a' : Mem) : Prop := ∃ b', REL t a' b' ∧ IVX (b' 1) ∧ MON g (b' 1)
def KTk (g : Nat → Int32) (a' : Mem) : Prop := g 0 = 1 → f_X8_property (nI 0) a' = some (.ok 1) → ¬ f_X8_property (nI 7) a' = some (.ok (g 7))
theorem MON_n {g g1 : Nat → Int32} (h0 : g 0 ≠ 4 ∨ (g1 0 = g 0 ∧ g1 11 = g 11)) (h7 : g1 7 = g 7) : MON g g1 := by
  refine ⟨fun h4 => ?_, by rw [h7]; exact Int.le_refl _, fun _ => h7⟩
  rcases h0 with z | ⟨z1, z2⟩
  · exact absurd h4 z
  · exact ⟨z1.trans h4, z2, h7⟩
theorem a_ACT {t : Int} {N : Nat} {a b : Mem} (hN : 10010 ≤ N) (ht : t ≤ 512) (h : REL t a b) (hi : IVX (b 1)) : ACT N a (b 1 2) (KP (t + 1) (b 1)) (KTk (b 1)) := by
  have hv := h.2.2.1
  have hn : (b 1 2).toInt ≤ 5 := hv.2.1.2.1
  have hn1 : 1 ≤ (b 1 2).toInt := hv.2.1.1
  have up : ∀ {a' b' : Mem}, REL t a' b' → REL (t + 1) a' b' := fun z => REL_mono z (by omega)
  have same : ∀ {a' b' : Mem}, REL (t + 1) a' b' → b' 1 = b 1 → KP (t + 1) (b 1) a' := fun {a' b'} z e => ⟨b', z, by rw [e]; exact hi, by rw [e]; exact MON_id⟩
  have st : ∀ {a' b' : Mem} {v : Int32}, REL (t + 1) a' b' → b 1 0 ≠ 4 → v ≠ 4 → b' 1 = upd (b 1) 0 v → KP (t + 1) (b 1) a' := fun {a' b' v} z h4 hv4 e => ⟨b', z, by rw [e]; exact IVX_u hi hn (Or.inl rfl) (fun _ => hv4), by rw [e]; exact MON_n (Or.inl h4) (u_n (by omega))⟩
  have mv : ∀ {a' b' : Mem} {G : Nat → Int32}, REL (t + 1) a' b' → VL t G → IVX G → (G 0 = b 1 0 ∧ G 11 = b 1 11 ∨ b 1 0 ≠ 4) → G 7 = b 1 7 → b' 1 = MV G (sl G (oS (G 1))) (G 1) → KP (t + 1) (b 1) a' := by
    intro a' b' G z vG iG h0 h7 e
    obtain ⟨m1, m2⟩ := IVX_MV ht vG iG
    refine ⟨b', z, by rw [e]; exact m1, MON_n ?_ (by rw [e, m2 7 (by omega) (by omega) (by omega)]; exact h7)⟩
    rcases h0 with ⟨z1, z2⟩ | z1
    · exact Or.inr ⟨by rw [e, m2 0 (by omega) (by omega) (by omega)]; exact z1, by rw [e, m2 11 (by omega) (by omega) (by omega)]; exact z2⟩
    · exact Or.inl z1
  refine ⟨fun p p1 p2 => ?_, ?_, ?_, ?_, ?_, ?_, fun p hp => ?_, fun p x hp x1 x2 => ?_, fun p x hp hx => ?_, fun x hx => ?_, ⟨?_, hn1, hn, fun p w x p1 p2 w1 w2 x1 x2 => ?_⟩, ?_⟩
  · obtain ⟨v, a', b', q1, q2, q3⟩ := kk_tick hN ht h p1 (by omega)
    refine ⟨v, a', q1, ?_, fun g0 k0 k7 => ?_⟩
    · rcases q3 with ⟨z1, z2⟩ | ⟨z1, z2⟩
      · exact same q2 z2
      · obtain ⟨m1, m2⟩ := pass_t ht hv p1
        obtain ⟨i1, i2⟩ := IVX_GT ht hv hi z1 m1 (by omega)
        refine ⟨b', q2, by rw [z2]; exact i1, fun h4 => ?_, by rw [z2, i2]; omega, fun h1 => absurd z1 h1⟩
        rw [z1] at h4
        exact absurd h4 (by decide)
    · rcases q3 with ⟨z1, z2⟩ | ⟨z1, z2⟩
      · exact z1 g0
      · obtain ⟨m1, m2⟩ := pass_t ht hv p1
        obtain ⟨i1, i2⟩ := IVX_GT ht hv hi z1 m1 (by omega)
        rw [a_prop q2 7 (by omega)] at k7
        injection k7 with k7
        injection k7 with k7
        rw [z2] at k7
        rw [k7] at i2
        omega
  · obtain ⟨v, a', b', q1, q2, q3⟩ := kk_move ht h
    refine ⟨v, a', q1, ?_⟩
    rcases q3 with z | ⟨z1, z2⟩
    · exact same q2 z
    · exact mv q2 hv hi (Or.inl ⟨rfl, rfl⟩) rfl z2
  · obtain ⟨v, a', b', q1, q2, q3⟩ := kk_pause h
    refine ⟨v, a', q1, ?_⟩
    rcases q3 with z | ⟨z1, z2⟩
    · exact same (up q2) z
    · exact st (up q2) (by rw [z1]; decide) (by decide) z2
  · obtain ⟨v, a', b', q1, q2, q3⟩ := kk_proceed h
    refine ⟨v, a', q1, ?_⟩
    rcases q3 with z | ⟨z1, z2⟩
    · exact same (up q2) z
    · exact st (up q2) (by rw [z1]; decide) (by decide) z2
  · obtain ⟨v, a', b', q1, q2, q3⟩ := kk_seal h
    refine ⟨v, a', q1, ?_⟩
    rcases q3 with z | ⟨z1, z2⟩
    · exact same (up q2) z
    · exact st (up q2) (by rw [z1]; decide) (by decide) z2
  · obtain ⟨v, a', b', q1, q2, q3⟩ := kk_open ht h
    refine ⟨v, a', q1, ?_⟩
    rcases q3 with z | ⟨z1, z2⟩
    · exact same q2 z
    · have h4 : b 1 0 ≠ 4 := by rw [z1]; decide
      obtain ⟨b3, s1, s2, -⟩ := @kk_bec t a b 1 h h4
      have hv1 : VL t (upd (b 1) 0 1) := by
        have := s1.2.2.1
        rw [s2] at this
        exact this
      have hv2 := VL_6 hv1
      have hi2 : IVX (upd (upd (b 1) 0 1) 6 0) := IVX_u (IVX_u hi hn (Or.inl rfl) (fun _ => by decide)) (by rw [u_n (by omega)]; exact hn) (Or.inr (Or.inl rfl)) (fun z => absurd z (by omega))
      have e1 : upd (upd (b 1) 0 1) 6 0 1 = b 1 1 := by rw [u_n (by omega), u_n (by omega)]
      refine mv q2 hv2 hi2 (Or.inr h4) (by rw [u_n (by omega), u_n (by omega)]) ?_
      rw [e1]
      exact z2
  · obtain ⟨v, a', b', q1, q2, q3⟩ := kk_claim hp h
    refine ⟨v, a', q1, ?_⟩
    rcases q3 with z | ⟨z1, x, x0, z2⟩
    · exact same (up q2) z
    · exact ⟨b', up q2, by rw [z2]; exact IVX_end hi hn x0, by rw [z2]; exact MON_n (Or.inl z1) (by rw [u_n (by omega), u_n (by omega)])⟩
  · obtain ⟨v, a', b', q1, q2, q3⟩ := kk_give ht hp (show -9999 ≤ x.toInt by omega) (by omega) h
    refine ⟨v, a', q1, ?_⟩
    rcases q3 with z | ⟨z1, -, -, z2⟩
    · exact same q2 z
    · have := @oS_ge p
      exact ⟨b', q2, by rw [z2]; exact IVX_S hi hp hn (Or.inl rfl), by rw [z2]; exact MON_n (Or.inl z1) (setS_lo (by omega))⟩
  · obtain ⟨v, a', b', q1, q2, z2⟩ := kk_setBare hx hp h
    have := @oS_ge p
    exact ⟨v, a', q1, b', up q2, by rw [z2]; exact IVX_S hi hp hn (Or.inr rfl), by rw [z2]; exact MON_n (Or.inr ⟨setS_lo (by omega), setS_lo (by omega)⟩) (setS_lo (by omega))⟩
  · obtain ⟨b', q2, z2⟩ := kk_setClaims hx h
    exact ⟨b', up q2, by rw [z2]; exact IVX_u hi hn (Or.inr (Or.inr (Or.inl rfl))) (fun z => absurd z (by omega)), by rw [z2]; exact MON_n (Or.inr ⟨u_n (by omega), u_n (by omega)⟩) (u_n (by omega))⟩
  · exact a_prop h 2 (by omega)
  · obtain ⟨v, a', b', q1, q2, j, z2, j1, -⟩ := kk_setPeriod ⟨p1, p2⟩ ⟨w1, w2⟩ ⟨x1, (by omega : x.toInt ≤ 999)⟩ h
    exact ⟨v, a', q1, b', up q2, by rw [z2]; exact IVX_u hi hn (Or.inr (Or.inr (Or.inr ⟨by omega, by omega⟩))) (fun z => absurd z (by omega)), by rw [z2]; exact MON_n (Or.inr ⟨u_n (by omega), u_n (by omega)⟩) (u_n (by omega))⟩
  · obtain ⟨v, a', b', q1, q2, q3⟩ := kk_swap h
    refine ⟨v, a', q1, ?_⟩
    rcases q3 with z | ⟨z1, z2⟩
    · exact same (up q2) z
    · exact ⟨b', up q2, by rw [z2]; exact IVX_sw hi, by rw [z2]; exact MON_n (Or.inr ⟨swS_n (by omega), swS_n (by omega)⟩) (swS_n (by omega))⟩
