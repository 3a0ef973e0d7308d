theorem BY_fr {b b1 : Mem} {p : Nat} (h : FB b b1) : BYz b1 p = BYz b p := by
  unfold BYz
  rw [h.1 4 (by omega)]
theorem sc_skip {N n : Nat} : ∀ (d p fu fu' : Nat) (a b : Mem), BYT n a b → p + d = n → a 1 8 = nI p → b 0 14 = nI p → d + 1 ≤ fu → d + 1 ≤ fu' → ∃ (s : Nat) (a1 b1 : Mem), p ≤ s ∧ s ≤ n ∧ (s = n ∨ s < n ∧ KD (BYz b1 s) ≠ 1) ∧ f_X3_readToken_8 N fu a = f_X3_readToken_53 N a1 ∧ f_X9_scan_0 N fu' b = STL N b1 ∧ FA a a1 ∧ FB b b1 ∧ a1 1 8 = nI s ∧ b1 0 14 = nI s := by
  intro d
  induction d with
  | zero =>
    intro p fu fu' a b h hp h8 h14 hf hf'
    obtain ⟨f, rfl⟩ : ∃ f, fu = f + 1 := ⟨fu - 1, by omega⟩
    obtain ⟨f', rfl⟩ : ∃ f, fu' = f + 1 := ⟨fu' - 1, by omega⟩
    have hpn : p = n := by omega
    subst hpn
    have q2 : f_X9_byteAt N (b 0 14) b = some (-1) := by rw [h14]; exact b_out h
    rw [f_X3_readToken_8_s, f_X9_scan_0_s, q2, b_P, if_neg (show ¬ (-1 : Int32) = 32 by decide), b_P, if_neg (show ¬ (-1 : Int32) = 10 by decide), h8, h.2.1, if_pos (by rw [z_le]; omega)]
    exact ⟨p, a, b, by omega, by omega, Or.inl rfl, rfl, rfl, FA_i, FB_i, h8, h14⟩
  | succ d ih =>
    intro p fu fu' a b h hp h8 h14 hf hf'
    obtain ⟨f, rfl⟩ : ∃ f, fu = f + 1 := ⟨fu - 1, by omega⟩
    obtain ⟨f', rfl⟩ : ∃ f, fu' = f + 1 := ⟨fu' - 1, by omega⟩
    have hn4 := h.1
    obtain ⟨q1, q2⟩ := @b_at N n p a b h (by omega)
    have q2' : f_X9_byteAt N (b 0 14) b = some (nI (BYz b p)) := by rw [h14]; exact q2
    have hb := (@b_by b p).2
    obtain ⟨k1, k2, k3, -⟩ := KD_r (BYz b p)
    obtain ⟨t1, t2, -⟩ := k_10 (BYz b p) hb
    rw [f_X3_readToken_8_s, f_X9_scan_0_s, q2', b_P, b_P]
    rw [h8, h.2.1, if_neg (show ¬ nI n ≤ nI p from fun z => by have := (nI_lei (by omega) (by omega)).1 z; omega), q1, b_T, k_kd hb, b_T]
    have fa : FA a (up2 a 1 8 (nI (p + 1))) := ⟨fun k z => p2_n z, fun j z7 z8 z9 z10 => by rw [p2_s, u_n z8]⟩
    have fb : FB b (up2 b 0 14 (nI (p + 1))) := ⟨fun k z => p2_n z, fun j z7 z8 z9 z10 => by rw [p2_s, u_n z7]⟩
    by_cases hk : KD (BYz b p) = 1
    · obtain ⟨s, a1, b1, l1, l2, l3, r1, r2, f1, f2, v1, v2⟩ := ih (p + 1) f f' _ _ (BYT_fr fa fb h) (by omega) (by rw [p2_s, u_s]) (by rw [p2_s, u_s]) (by omega) (by omega)
      rw [hk, if_pos (show nI 1 = (1 : Int32) from rfl), nI_1, b_T, r1]
      refine ⟨s, a1, b1, by omega, l2, l3, rfl, ?_, FA_t fa f1, FB_t fb f2, v1, v2⟩
      by_cases h32 : BYz b p = 32
      · rw [if_pos (t1.2 h32), b_T, h14, nI_1, r2]
      · rw [if_neg (fun z => h32 (t1.1 z)), if_pos (t2.2 (by have := k3.1 hk; omega)), b_T, h14, nI_1, r2]
    · have k4 : ¬ (BYz b p = 32 ∨ BYz b p = 10) := fun z => hk (k3.2 z)
      rw [if_neg (show ¬ nI (KD (BYz b p)) = (1 : Int32) from fun z => hk ((nI_inj2 (by omega) (by omega)).1 z)), if_neg (fun z => k4 (Or.inl (t1.1 z))), if_neg (fun z => k4 (Or.inr (t2.1 z)))]
      exact ⟨p, a, b, by omega, by omega, Or.inr ⟨by omega, hk⟩, rfl, rfl, FA_i, FB_i, h8, h14⟩
def TKz (a b : Mem) : Prop := (a 1 7 = 0 ∧ b 0 16 = 0) ∨ (a 1 7 = 2 ∧ b 0 16 = 1) ∨ (a 1 7 = 3 ∧ b 0 16 = 2 ∧ ∃ x : Nat, a 1 10 = nI (min x 1000000) ∧ b 0 17 = nI (min x 999999)) ∨ (a 1 7 = 4 ∧ b 0 16 = 3 ∧ a 1 10 = b 0 17)
def TOK (n e : Nat) (a b : Mem) : Prop := ∃ s : Nat, s ≤ e ∧ e ≤ n ∧ a 1 8 = nI s ∧ b 0 15 = nI s ∧ a 1 9 = nI e ∧ b 0 14 = nI e ∧ TKz a b
theorem scan_tok {N n e : Nat} {a b : Mem} (hN : 402 ≤ N) (h : BYT n a b) (he : e ≤ n) (h9 : a 1 9 = nI e) (h14 : b 0 14 = nI e) : ∃ (e1 : Nat) (a1 b1 : Mem), f_X3_readToken N a = some a1 ∧ f_X9_scan N b = some b1 ∧ FA a a1 ∧ FB b b1 ∧ TOK n e1 a1 b1 ∧ e ≤ e1 ∧ (a1 1 7 = 0 ∨ e + 1 ≤ e1) := by
  have hn4 := h.1
  have fa0 : FA a (up2 a 1 8 (nI e)) := ⟨fun k z => p2_n z, fun j z7 z8 z9 z10 => by rw [p2_s, u_n z8]⟩
  obtain ⟨s, a1, b1, l1, l2, l3, r1, r2, f1, f2, v1, v2⟩ := @sc_skip N n (n - e) e N N _ b (BYT_fr fa0 FB_i h) (by omega) (by rw [p2_s, u_s]) h14 (by omega) (by omega)
  unfold f_X3_readToken f_X9_scan
  rw [b_T, h9, r1, r2]
  have h1 := BYT_fr (FA_t fa0 f1) f2 h
  have fa1 := FA_t fa0 f1
  clear r1 r2 f1
  unfold f_X3_readToken_53 STL
  simp only [b_T]
  rw [v1, v2]
  have fa2 : FA a1 (up2 (up2 a1 1 9 (nI s)) 1 10 0) := ⟨fun k z => by rw [p2_n z, p2_n z], fun j z7 z8 z9 z10 => by rw [p2_s, u_n z10, p2_s, u_n z9]⟩
  have fb2 : FB b1 (up2 b1 0 15 (nI s)) := ⟨fun k z => p2_n z, fun j z7 z8 z9 z10 => by rw [p2_s, u_n z8]⟩
  have a28 : up2 (up2 a1 1 9 (nI s)) 1 10 0 1 8 = nI s := by rw [p2_s, u_n (by omega), p2_s, u_n (by omega)]; exact v1
  have a29 : up2 (up2 a1 1 9 (nI s)) 1 10 0 1 9 = nI s := by rw [p2_s, u_n (by omega), p2_s, u_s]
  have a210 : up2 (up2 a1 1 9 (nI s)) 1 10 0 1 10 = 0 := by rw [p2_s, u_s]
  have b214 : up2 b1 0 15 (nI s) 0 14 = nI s := by rw [p2_s, u_n (by omega)]; exact v2
  have b215 : up2 b1 0 15 (nI s) 0 15 = nI s := by rw [p2_s, u_s]
  have h2 := BYT_fr fa2 fb2 h1
  have fa3 := FA_t fa1 fa2
  have fb3 := FB_t f2 fb2
  have l4 : s = n ∨ s < n ∧ KD (BYz (up2 b1 0 15 (nI s)) s) ≠ 1 := by rw [BY_fr fb2]; exact l3
  clear l3 fa2 fb2 h1 v1 v2 fa1 f2
  generalize up2 (up2 a1 1 9 (nI s)) 1 10 0 = a2 at a28 a29 a210 h2 fa3 ⊢
  generalize up2 b1 0 15 (nI s) = b2 at b214 b215 h2 fb3 l4 ⊢
  rw [a28, b214, h2.2.1]
  rcases l4 with l4 | ⟨l4, l5⟩
  · subst l4
    rw [if_neg (show ¬ nI s < nI s by rw [z_lt]; omega), b_out h2, b_P, if_pos rfl]
    refine ⟨s, _, _, rfl, rfl, FA_t fa3 ⟨fun k z => p2_n z, fun j z7 z8 z9 z10 => by rw [p2_s, u_n z7]⟩, FB_t fb3 ⟨fun k z => p2_n z, fun j z7 z8 z9 z10 => by rw [p2_s, u_n z9]⟩, ⟨s, by omega, by omega, ?_, ?_, ?_, ?_, Or.inl ⟨by rw [p2_s, u_s], by rw [p2_s, u_s]⟩⟩, by omega, Or.inl (by rw [p2_s, u_s])⟩
    · rw [p2_s, u_n (by omega)]; exact a28
    · rw [p2_s, u_n (by omega)]; exact b215
    · rw [p2_s, u_n (by omega)]; exact a29
    · rw [p2_s, u_n (by omega)]; exact b214
  · obtain ⟨q1, q2⟩ := @b_at N n s a2 b2 h2 l4
    have hb := (@b_by b2 s).2
    obtain ⟨k1, k2, k3, k4, k5⟩ := KD_r (BYz b2 s)
    obtain ⟨-, -, t3⟩ := k_10 (BYz b2 s) hb
    rw [if_pos (show nI s < nI n by rw [z_lt, z_nI (by omega), z_nI (by omega)]; omega), q1, k_kd hb, q2, b_P, if_neg t3, in_a hb, in_0 hb]
    have e17 : up2 a2 1 7 (nI (KD (BYz b2 s))) 1 7 = nI (KD (BYz b2 s)) := by rw [p2_s, u_s]
    have e18 : up2 a2 1 7 (nI (KD (BYz b2 s))) 1 8 = nI s := by rw [p2_s, u_n (by omega)]; exact a28
    have e19 : up2 a2 1 7 (nI (KD (BYz b2 s))) 1 9 = nI s := by rw [p2_s, u_n (by omega)]; exact a29
    have e110 : up2 a2 1 7 (nI (KD (BYz b2 s))) 1 10 = 0 := by rw [p2_s, u_n (by omega)]; exact a210
    have fa4 : FA a2 (up2 a2 1 7 (nI (KD (BYz b2 s)))) := ⟨fun k z => p2_n z, fun j z7 z8 z9 z10 => by rw [p2_s, u_n z7]⟩
    have h3 := BYT_fr fa4 FB_i h2
    have fa5 := FA_t fa3 fa4
    obtain ⟨q3, -⟩ := @b_at N n s _ b2 h3 l4
    clear fa4
    generalize up2 a2 1 7 (nI (KD (BYz b2 s))) = a3 at e17 e18 e19 e110 h3 fa5 q3 ⊢
    rw [e17, e18, q3]
    by_cases hk2 : KD (BYz b2 s) = 2
    · rw [hk2] at e17 ⊢
      rw [if_neg (show ¬ nI 2 = (4 : Int32) by decide), if_pos rfl, if_neg (show ¬ (1 : Int32) = 0 by decide)]
      obtain ⟨e1, a4, b4, z1, z2, z3, z4, z5, z6, z7, z8, z9, z10, z11, z12⟩ := @sc_word N n (n - s) s N N a3 b2 h3 (by omega) e19 e17 b214 (by omega) (by omega)
      rw [z4, z5, b_P]
      refine ⟨e1, a4, _, rfl, rfl, FA_t fa5 z6, FB_t (FB_t fb3 z7) ⟨fun k z => p2_n z, fun j y7 y8 y9 y10 => by rw [p2_s, u_n y9]⟩, ⟨s, by omega, z2, by rw [z11]; exact e18, ?_, z8, ?_, Or.inr (Or.inl ⟨z10, by rw [p2_s, u_s]⟩)⟩, by omega, Or.inr (by have := z3 l4 hk2; omega)⟩
      · rw [p2_s, u_n (by omega), z12]; exact b215
      · rw [p2_s, u_n (by omega)]; exact z9
    · by_cases hk3 : KD (BYz b2 s) = 3
      · rw [hk3] at e17 ⊢
        rw [if_neg (show ¬ nI 3 = (4 : Int32) by decide), if_neg (show ¬ (3 : Nat) = 2 by decide), if_pos rfl, if_pos rfl, if_neg (show ¬ (1 : Int32) = 0 by decide)]
        have fb6 : FB b2 (up2 b2 0 17 0) := ⟨fun k z => p2_n z, fun j y7 y8 y9 y10 => by rw [p2_s, u_n y10]⟩
        obtain ⟨e1, y, a4, b4, z1, z2, z3, z4, z5, z6, z7, z8, z9, z10, z11, z12, z13, z14⟩ := @sc_num N n (n - s) s 0 N N a3 _ (BYT_fr FA_i fb6 h3) (by omega) e19 e17 (by rw [e110]; rfl) (by rw [p2_s, u_n (by omega)]; exact b214) (by rw [p2_s, u_s]; rfl) (by omega) (by omega)
        rw [z4, z5, b_P]
        rw [BY_fr fb6] at z3
        refine ⟨e1, a4, _, rfl, rfl, FA_t fa5 z6, FB_t (FB_t (FB_t fb3 fb6) z7) ⟨fun k z => p2_n z, fun j y7 y8 y9 y10 => by rw [p2_s, u_n y9]⟩, ⟨s, by omega, z2, by rw [z11]; exact e18, ?_, z8, ?_, Or.inr (Or.inr (Or.inl ⟨z10, by rw [p2_s, u_s], y, z13, by rw [p2_s, u_n (by omega)]; exact z14⟩))⟩, by omega, Or.inr (by have := z3 l4 hk3; omega)⟩
        · rw [p2_s, u_n (by omega), z12, p2_s, u_n (by omega)]; exact b215
        · rw [p2_s, u_n (by omega)]; exact z9
      · have hk4 : KD (BYz b2 s) = 4 := by omega
        rw [hk4] at e17 ⊢
        rw [if_pos (show nI 4 = (4 : Int32) from rfl), if_neg (show ¬ (4 : Nat) = 2 by decide), if_pos rfl, if_neg (show ¬ (4 : Nat) = 3 by decide), if_pos rfl]
        have g9 : up2 a3 1 10 (nI (BYz b2 s)) 1 8 + (1 : Int32) = nI (s + 1) := by rw [p2_s, u_n (by omega), e18, nI_1]
        have g14 : up2 (up2 b2 0 16 3) 0 17 (nI (BYz b2 s)) 0 14 + (1 : Int32) = nI (s + 1) := by rw [p2_s, u_n (by omega), p2_s, u_n (by omega), b214, nI_1]
        rw [g9, g14]
        refine ⟨s + 1, _, _, rfl, rfl, FA_t fa5 ⟨fun k z => by rw [p2_n z, p2_n z], fun j y7 y8 y9 y10 => by rw [p2_s, u_n y9, p2_s, u_n y10]⟩, FB_t fb3 ⟨fun k z => by rw [p2_n z, p2_n z, p2_n z], fun j y7 y8 y9 y10 => by rw [p2_s, u_n y7, p2_s, u_n y10, p2_s, u_n y9]⟩, ⟨s, by omega, by omega, ?_, ?_, by rw [p2_s, u_s], by rw [p2_s, u_s], Or.inr (Or.inr (Or.inr ⟨?_, ?_, ?_⟩))⟩, by omega, Or.inr (by omega)⟩
        · rw [p2_s, u_n (by omega), p2_s, u_n (by omega)]; exact e18
        · rw [p2_s, u_n (by omega), p2_s, u_n (by omega), p2_s, u_n (by omega)]; exact b215
        · rw [p2_s, u_n (by omega), p2_s, u_n (by omega)]; exact e17
        · rw [p2_s, u_n (by omega), p2_s, u_n (by omega), p2_s, u_s]
        · rw [p2_s, u_n (by omega), p2_s, u_s, p2_s, u_n (by omega), p2_s, u_s]

