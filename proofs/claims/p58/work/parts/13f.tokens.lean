/-! the class's parser over a text that is known -/
theorem nI_lti {x y : Nat} (hx : x < 2147483648) (hy : y < 2147483648) : (nI x < nI y) ↔ x < y := by
  rw [z_lt, z_nI hx, z_nI hy]
  omega
def INB (t : List Nat) (a : Mem) : Prop := (t.length ≤ 400 ∧ ∀ j, t.getD j 0 < 128) ∧ a 2 1 = nI t.length ∧ ∀ j, j < t.length → a 3 j = nI (t.getD j 0)
theorem INB_fr {t : List Nat} {a a1 : Mem} (h2 : a1 2 = a 2) (h3 : a1 3 = a 3) (h : INB t a) : INB t a1 := ⟨h.1, by rw [h2]; exact h.2.1, fun j hj => by rw [h3]; exact h.2.2 j hj⟩
theorem i255 : ∀ m, m < 128 → nI m &&& 255 = nI m := by decide +kernel
theorem i_at {t : List Nat} {a : Mem} {p : Nat} (h : INB t a) (hp : p < t.length) : f_X0_byteAt (nI p) a = nI (t.getD p 0) := by
  have e0 : (0 : Int32).toInt = 0 := rfl
  have hn4 := h.1.1
  unfold f_X0_byteAt
  rw [h.2.1, if_neg (show ¬ nI p < 0 by rw [z_lt, z_nI (by omega), e0]; omega), if_neg (show ¬ nI t.length ≤ nI p from fun z => by have := (nI_lei (by omega) (by omega)).1 z; omega), if_neg (show ¬ nI 400 ≤ nI p from fun z => by have := (nI_lei (by omega) (by omega)).1 z; omega), z_tN (by omega), h.2.2 p hp, i255 _ (h.1.2 p)]
theorem dr_c {t : List Nat} {p x : Nat} {r : List Nat} (h : t.drop p = x :: r) : p < t.length ∧ t.getD p 0 = x ∧ t.drop (p + 1) = r := by
  have h1 : p < t.length := by
    rcases Nat.lt_or_ge p t.length with h1 | h1
    · exact h1
    · rw [List.drop_eq_nil_of_le h1] at h
      cases h
  rw [List.drop_eq_getElem_cons h1] at h
  injection h with h2 h3
  exact ⟨h1, by rw [List.getD_eq_getElem?_getD, List.getElem?_eq_getElem h1]; exact h2, h3⟩
theorem dr_n {t : List Nat} {p : Nat} (h : t.drop p = []) : t.length ≤ p := List.drop_eq_nil_iff.mp h
theorem tw_run {N : Nat} {t : List Nat} : ∀ (w r : List Nat) (p fu : Nat) (a : Mem), INB t a → t.drop p = w ++ r → (∀ x ∈ w, KD x = 2) → (∀ x r', r = x :: r' → KD x ≠ 2) → a 1 7 = 2 → a 1 9 = nI p → p ≤ t.length → w.length + 1 ≤ fu → ∃ a1, f_X3_readToken_138 N fu a = some a1 ∧ FA a a1 ∧ a1 1 9 = nI (p + w.length) ∧ a1 1 7 = 2 ∧ a1 1 8 = a 1 8 := by
  intro w
  induction w with
  | nil =>
    intro r p fu a h hd hw hr h7 h9 hp hf
    obtain ⟨f, rfl⟩ : ∃ f, fu = f + 1 := ⟨fu - 1, by omega⟩
    have hn4 := h.1.1
    rw [f_X3_readToken_138_s, h9, h.2.1]
    refine ⟨a, ?_, FA_i, h9, h7, rfl⟩
    cases r with
    | nil =>
      have := dr_n hd
      rw [if_pos (by rw [z_le, z_nI (by omega), z_nI (by omega)]; omega)]
    | cons x r' =>
      obtain ⟨d1, d2, d3⟩ := dr_c hd
      have hx : t.getD p 0 < 128 := h.1.2 p
      have hkx := hr x r' rfl
      obtain ⟨k1, k2, -⟩ := KD_r x
      rw [if_neg (show ¬ nI t.length ≤ nI p from fun z => by have := (nI_lei (by omega) (by omega)).1 z; omega), i_at h d1, d2]
      rw [d2] at hx
      simp only [b_T]
      rw [k_kd (by omega), h7, if_neg (show ¬ nI (KD x) = (2 : Int32) from fun z => hkx ((nI_inj2 (by omega) (by omega)).1 z))]
  | cons x w ih =>
    intro r p fu a h hd hw hr h7 h9 hp hf
    obtain ⟨f, rfl⟩ : ∃ f, fu = f + 1 := ⟨fu - 1, by omega⟩
    have hn4 := h.1.1
    obtain ⟨d1, d2, d3⟩ := dr_c hd
    have hx : t.getD p 0 < 128 := h.1.2 p
    rw [d2] at hx
    have hkx := hw x (List.mem_cons_self ..)
    have fa : FA a (up2 a 1 9 (nI (p + 1))) := ⟨fun k z => p2_n z, fun j z7 z8 z9 z10 => by rw [p2_s, u_n z9]⟩
    rw [f_X3_readToken_138_s, h9, h.2.1, if_neg (show ¬ nI t.length ≤ nI p from fun z => by have := (nI_lei (by omega) (by omega)).1 z; omega), i_at h d1, d2]
    simp only [b_T]
    rw [k_kd (by omega), h7, hkx, if_pos (show nI 2 = (2 : Int32) from rfl), if_neg (show ¬ (2 : Int32) = 3 by decide), nI_1]
    simp only [List.length_cons] at hf ⊢
    obtain ⟨a1, r1, f1, v1, v2, v3⟩ := ih r (p + 1) f (up2 a 1 9 (nI (p + 1))) (INB_fr (fa.1 2 (by omega)) (fa.1 3 (by omega)) h) d3 (fun y hy => hw y (List.mem_cons_of_mem _ hy)) hr (by rw [p2_s, u_n (by omega)]; exact h7) (by rw [p2_s, u_s]) (by omega) (by omega)
    exact ⟨a1, r1, FA_t fa f1, by rw [v1]; exact congrArg nI (by omega), v2, by rw [v3, p2_s, u_n (by omega)]⟩
def VAL : List Nat → Nat → Nat
  | [], x => x
  | m :: w, x => VAL w (10 * x + (m - 48))
theorem tn_run {N : Nat} {t : List Nat} : ∀ (w r : List Nat) (p fu x0 : Nat) (a : Mem), INB t a → t.drop p = w ++ r → (∀ x ∈ w, KD x = 3) → (∀ x r', r = x :: r' → KD x ≠ 3) → a 1 7 = 3 → a 1 10 = nI (min x0 1000000) → a 1 9 = nI p → p ≤ t.length → w.length + 1 ≤ fu → ∃ a1, f_X3_readToken_138 N fu a = some a1 ∧ FA a a1 ∧ a1 1 9 = nI (p + w.length) ∧ a1 1 7 = 3 ∧ a1 1 10 = nI (min (VAL w x0) 1000000) := by
  intro w
  induction w with
  | nil =>
    intro r p fu x0 a h hd hw hr h7 h10 h9 hp hf
    obtain ⟨f, rfl⟩ : ∃ f, fu = f + 1 := ⟨fu - 1, by omega⟩
    have hn4 := h.1.1
    rw [f_X3_readToken_138_s, h9, h.2.1]
    refine ⟨a, ?_, FA_i, h9, h7, h10⟩
    cases r with
    | nil =>
      have := dr_n hd
      rw [if_pos (by rw [z_le, z_nI (by omega), z_nI (by omega)]; omega)]
    | cons x r' =>
      obtain ⟨d1, d2, d3⟩ := dr_c hd
      have hx : t.getD p 0 < 128 := h.1.2 p
      have hkx := hr x r' rfl
      obtain ⟨k1, k2, -⟩ := KD_r x
      rw [if_neg (show ¬ nI t.length ≤ nI p from fun z => by have := (nI_lei (by omega) (by omega)).1 z; omega), i_at h d1, d2]
      rw [d2] at hx
      simp only [b_T]
      rw [k_kd (by omega), h7, if_neg (show ¬ nI (KD x) = (3 : Int32) from fun z => hkx ((nI_inj2 (by omega) (by omega)).1 z))]
  | cons x w ih =>
    intro r p fu x0 a h hd hw hr h7 h10 h9 hp hf
    obtain ⟨f, rfl⟩ : ∃ f, fu = f + 1 := ⟨fu - 1, by omega⟩
    have hn4 := h.1.1
    obtain ⟨d1, d2, d3⟩ := dr_c hd
    have hx : t.getD p 0 < 128 := h.1.2 p
    rw [d2] at hx
    have hkx := hw x (List.mem_cons_self ..)
    obtain ⟨m1, m2⟩ := (KD_r x).2.2.2.2.1 hkx
    rw [f_X3_readToken_138_s, h9, h.2.1, if_neg (show ¬ nI t.length ≤ nI p from fun z => by have := (nI_lei (by omega) (by omega)).1 z; omega), i_at h d1, d2]
    simp only [b_T]
    rw [k_kd (by omega), h7, hkx, if_pos (show nI 3 = (3 : Int32) from rfl), if_pos rfl, h10, dig_c m1 m2]
    have g9 : up2 a 1 10 (nI (min (10 * x0 + (x - 48)) 1000000)) 1 9 + (1 : Int32) = nI (p + 1) := by rw [p2_s, u_n (by omega), h9, nI_1]
    rw [g9]
    have fa : FA a (up2 (up2 a 1 10 (nI (min (10 * x0 + (x - 48)) 1000000))) 1 9 (nI (p + 1))) := ⟨fun k z => by rw [p2_n z, p2_n z], fun j z7 z8 z9 z10 => by rw [p2_s, u_n z9, p2_s, u_n z10]⟩
    simp only [List.length_cons] at hf ⊢
    obtain ⟨a1, r1, f1, v1, v2, v3⟩ := ih r (p + 1) f (10 * x0 + (x - 48)) _ (INB_fr (fa.1 2 (by omega)) (fa.1 3 (by omega)) h) d3 (fun y hy => hw y (List.mem_cons_of_mem _ hy)) hr (by rw [p2_s, u_n (by omega), p2_s, u_n (by omega)]; exact h7) (by rw [p2_s, u_n (by omega), p2_s, u_s]) (by rw [p2_s, u_s]) (by omega) (by omega)
    exact ⟨a1, r1, FA_t fa f1, by rw [v1]; exact congrArg nI (by omega), v2, v3⟩
def BLK (r0 r : List Nat) : Prop := r0 = r ∨ r0 = 32 :: r
theorem rt_base {N fu s : Nat} {t r : List Nat} {a : Mem} (h : INB t a) (h8 : a 1 8 = nI s) (hd : t.drop s = r) (hs : s ≤ t.length) (hr : ∀ x r', r = x :: r' → KD x ≠ 1) : f_X3_readToken_8 N (fu + 1) a = f_X3_readToken_53 N a := by
  have hn4 := h.1.1
  rw [f_X3_readToken_8_s, h8, h.2.1]
  cases r with
  | nil =>
    have := dr_n hd
    rw [if_pos (by rw [z_le, z_nI (by omega), z_nI (by omega)]; omega)]
  | cons x r' =>
    obtain ⟨d1, d2, d3⟩ := dr_c hd
    have hx : t.getD s 0 < 128 := h.1.2 s
    have hkx := hr x r' rfl
    obtain ⟨k1, k2, -⟩ := KD_r x
    rw [if_neg (show ¬ nI t.length ≤ nI s from fun z => by have := (nI_lei (by omega) (by omega)).1 z; omega), i_at h d1, d2]
    rw [d2] at hx
    simp only [b_T]
    rw [k_kd (by omega), if_neg (show ¬ nI (KD x) = (1 : Int32) from fun z => hkx ((nI_inj2 (by omega) (by omega)).1 z))]
theorem rt_skip {N p : Nat} {t r0 r : List Nat} {a : Mem} (hN : 3 ≤ N) (h : INB t a) (h9 : a 1 9 = nI p) (hd : t.drop p = r0) (hp : p ≤ t.length) (hb : BLK r0 r) (hr : ∀ x r', r = x :: r' → KD x ≠ 1) : ∃ a1 s, f_X3_readToken N a = f_X3_readToken_53 N a1 ∧ FA a a1 ∧ a1 1 8 = nI s ∧ t.drop s = r ∧ s ≤ t.length := by
  obtain ⟨f, rfl⟩ : ∃ f, N = f + 2 := ⟨N - 2, by omega⟩
  have hn4 := h.1.1
  have fa : ∀ v, FA a (up2 a 1 8 v) := fun v => ⟨fun k z => p2_n z, fun j z7 z8 z9 z10 => by rw [p2_s, u_n z8]⟩
  unfold f_X3_readToken
  rw [b_T, h9]
  have h0 := INB_fr ((fa (nI p)).1 2 (by omega)) ((fa (nI p)).1 3 (by omega)) h
  rcases hb with rfl | rfl
  · exact ⟨_, p, rt_base h0 (by rw [p2_s, u_s]) hd hp hr, fa _, by rw [p2_s, u_s], hd, hp⟩
  · obtain ⟨d1, d2, d3⟩ := dr_c hd
    have a8 : up2 a 1 8 (nI p) 1 8 = nI p := by rw [p2_s, u_s]
    generalize hM : f + 2 = M
    have e : f_X3_readToken_8 M M (up2 a 1 8 (nI p)) = f_X3_readToken_8 M (f + 1 + 1) (up2 a 1 8 (nI p)) := by rw [← hM]
    rw [e, f_X3_readToken_8_s, a8, h0.2.1, if_neg (show ¬ nI t.length ≤ nI p from fun z => by have := (nI_lei (by omega) (by omega)).1 z; omega), i_at h0 d1, d2]
    simp only [b_T]
    rw [k_kd (by omega), if_pos (by decide), nI_1]
    have fb : FA (up2 a 1 8 (nI p)) (up2 (up2 a 1 8 (nI p)) 1 8 (nI (p + 1))) := ⟨fun k z => p2_n z, fun j z7 z8 z9 z10 => by rw [p2_s, u_n z8]⟩
    exact ⟨_, p + 1, rt_base (INB_fr (fb.1 2 (by omega)) (fb.1 3 (by omega)) h0) (by rw [p2_s, u_s]) d3 (by omega) hr, FA_t (fa _) fb, by rw [p2_s, u_s], d3, by omega⟩
def TKC (t r0 : List Nat) (a : Mem) : Prop := INB t a ∧ a 1 5 = 0 ∧ (∀ w r, BLK r0 (w ++ r) → w ≠ [] → (∀ x ∈ w, KD x = 2) → (∀ x r', r = x :: r' → KD x ≠ 2) → a 1 7 = 2 ∧ ∃ s, s + w.length ≤ t.length ∧ a 1 8 = nI s ∧ a 1 9 = nI (s + w.length) ∧ t.drop s = w ++ r) ∧ (∀ w r, BLK r0 (w ++ r) → w ≠ [] → (∀ x ∈ w, KD x = 3) → (∀ x r', r = x :: r' → KD x ≠ 3) → a 1 7 = 3 ∧ a 1 10 = nI (min (VAL w 0) 1000000) ∧ ∃ e, e ≤ t.length ∧ a 1 9 = nI e ∧ t.drop e = r) ∧ (∀ r, BLK r0 (59 :: r) → a 1 7 = 4 ∧ a 1 10 = 59 ∧ ∃ e, e ≤ t.length ∧ a 1 9 = nI e ∧ t.drop e = r) ∧ (r0 = [] → a 1 7 = 0)
theorem TKC_fr {t r0 : List Nat} {a a1 : Mem} (h2 : a1 2 = a 2) (h3 : a1 3 = a 3) (hj : ∀ j, 5 ≤ j → j ≤ 10 → a1 1 j = a 1 j) (h : TKC t r0 a) : TKC t r0 a1 := by
  unfold TKC at h ⊢
  rw [hj 5 (by omega) (by omega), hj 7 (by omega) (by omega), hj 8 (by omega) (by omega), hj 9 (by omega) (by omega), hj 10 (by omega) (by omega)]
  exact ⟨INB_fr h2 h3 h.1, h.2⟩
def RDY (t r : List Nat) (a : Mem) : Prop := INB t a ∧ a 1 5 = 0 ∧ ∃ e, e ≤ t.length ∧ a 1 9 = nI e ∧ t.drop e = r
theorem dr_len {t w r : List Nat} {s : Nat} (hs : s ≤ t.length) (h : t.drop s = w ++ r) : s + w.length ≤ t.length ∧ t.drop (s + w.length) = r := by
  have h1 := congrArg List.length h
  rw [List.length_drop, List.length_append] at h1
  refine ⟨by omega, ?_⟩
  rw [← List.drop_drop, h, List.drop_left]
theorem rt_stop {N s : Nat} {t : List Nat} {a : Mem} (h : INB t a) (h8 : a 1 8 = nI s) (hs : s ≤ t.length) : f_X3_readToken_53 N a = (if s < t.length then (if KD (t.getD s 0) = 4 then some (up2 (up2 (up2 (up2 (up2 a 1 9 (nI s)) 1 10 0) 1 7 (nI (KD (t.getD s 0)))) 1 10 (nI (t.getD s 0))) 1 9 (nI (s + 1))) else f_X3_readToken_138 N N (up2 (up2 (up2 a 1 9 (nI s)) 1 10 0) 1 7 (nI (KD (t.getD s 0))))) else some (up2 (up2 (up2 a 1 9 (nI s)) 1 10 0) 1 7 0)) := by
  have hn4 := h.1.1
  have hx : t.getD s 0 < 128 := h.1.2 s
  obtain ⟨k1, k2, -⟩ := KD_r (t.getD s 0)
  unfold f_X3_readToken_53
  simp only [b_T]
  rw [h8]
  have F : ∀ k, k ≠ 1 → up2 (up2 a 1 9 (nI s)) 1 10 0 k = a k := fun k z => by rw [p2_n z, p2_n z]
  have F8 : up2 (up2 a 1 9 (nI s)) 1 10 0 1 8 = nI s := by rw [p2_s, u_n (by omega), p2_s, u_n (by omega)]; exact h8
  have h2 := INB_fr (F 2 (by omega)) (F 3 (by omega)) h
  generalize up2 (up2 a 1 9 (nI s)) 1 10 0 = a7 at F F8 h2 ⊢
  rw [F8, h2.2.1]
  by_cases hl : s < t.length
  · rw [if_pos ((nI_lti (by omega) (by omega)).2 hl), if_pos hl, i_at h2 hl, k_kd (by omega)]
    have F2 : ∀ k, k ≠ 1 → up2 a7 1 7 (nI (KD (t.getD s 0))) k = a7 k := fun k z => p2_n z
    have G8 : up2 a7 1 7 (nI (KD (t.getD s 0))) 1 8 = nI s := by rw [p2_s, u_n (by omega)]; exact F8
    have G7 : up2 a7 1 7 (nI (KD (t.getD s 0))) 1 7 = nI (KD (t.getD s 0)) := by rw [p2_s, u_s]
    have h3 := INB_fr (F2 2 (by omega)) (F2 3 (by omega)) h2
    generalize up2 a7 1 7 (nI (KD (t.getD s 0))) = a16 at F2 G8 G7 h3 ⊢
    rw [G7, G8, i_at h3 hl]
    by_cases h4 : KD (t.getD s 0) = 4
    · rw [if_pos h4, if_pos (by rw [h4]; rfl)]
      have : up2 a16 1 10 (nI (t.getD s 0)) 1 8 + (1 : Int32) = nI (s + 1) := by rw [p2_s, u_n (by omega), G8, nI_1]
      rw [this]
    · rw [if_neg h4, if_neg (show ¬ nI (KD (t.getD s 0)) = (4 : Int32) from fun z => h4 ((nI_inj2 (by omega) (by omega)).1 z))]
  · rw [if_neg (fun z => hl ((nI_lti (by omega) (by omega)).1 z)), if_neg hl]
theorem rd_tot {N : Nat} {t r : List Nat} {a : Mem} (hN : 402 ≤ N) (h : RDY t r a) : ∃ a1, f_X3_readToken N a = some a1 ∧ FA a a1 := by
  obtain ⟨h1, h5, e, he, h9, hd⟩ := h
  obtain ⟨e1, a1, b1, q1, -, q3, -⟩ := @scan_tok N t.length e a (fun k j => if k = 4 then a 3 j else if j = 13 then nI t.length else if j = 14 then nI e else 0) hN ⟨h1.1.1, h1.2.1, rfl, fun j hj => ⟨rfl, by
    show -128 ≤ (a 3 j).toInt ∧ (a 3 j).toInt ≤ 127
    have := h1.1.2 j
    rw [h1.2.2 j hj, z_nI (by omega)]
    omega⟩⟩ he h9 rfl
  exact ⟨a1, q1, q3⟩
theorem rd_cls {N : Nat} {t r0 : List Nat} {a : Mem} (hN : 402 ≤ N) (h : RDY t r0 a) : ∃ a1, f_X3_readToken N a = some a1 ∧ FA a a1 ∧ TKC t r0 a1 := by
  obtain ⟨a1, q1, q2⟩ := rd_tot hN h
  obtain ⟨h1, h5, p, hp, h9, hd⟩ := h
  have hn4 := h1.1.1
  refine ⟨a1, q1, q2, INB_fr (q2.1 2 (by omega)) (q2.1 3 (by omega)) h1, (q2.2 5 (by omega) (by omega) (by omega) (by omega)).trans h5, fun w r hb hw hk hr => ?_, fun w r hb hw hk hr => ?_, fun r hb => ?_, fun h0 => ?_⟩
  · obtain ⟨x, w', rfl⟩ : ∃ x w', w = x :: w' := List.exists_cons_of_ne_nil hw
    have hkx := hk x (List.mem_cons_self ..)
    obtain ⟨a2, s, r1, f1, v1, v2, v3⟩ := @rt_skip N p t r0 _ a (by omega) h1 h9 hd hp hb (fun y r' e => by
      injection e with e1 e2
      rw [← e1, hkx]
      decide)
    have h2 := INB_fr (f1.1 2 (by omega)) (f1.1 3 (by omega)) h1
    obtain ⟨d1, d2, d3⟩ := dr_c v2
    rw [r1, rt_stop h2 v1 v3, if_pos d1, d2, if_neg (by rw [hkx]; decide), hkx] at q1
    have F : ∀ k, k ≠ 1 → up2 (up2 (up2 a2 1 9 (nI s)) 1 10 0) 1 7 (nI 2) k = a2 k := fun k z => by rw [p2_n z, p2_n z, p2_n z]
    obtain ⟨g1, g2⟩ := dr_len v3 v2
    obtain ⟨a3, s1, s2, s3, s4, s5⟩ := @tw_run N t (x :: w') r s N (up2 (up2 (up2 a2 1 9 (nI s)) 1 10 0) 1 7 (nI 2)) (INB_fr (F 2 (by omega)) (F 3 (by omega)) h2) v2 hk hr (by rw [p2_s, u_s]; rfl) (by rw [p2_s, u_n (by omega), p2_s, u_n (by omega), p2_s, u_s]) v3 (by omega)
    rw [s1] at q1
    cases q1
    exact ⟨s4, s, g1, by rw [s5, p2_s, u_n (by omega), p2_s, u_n (by omega), p2_s, u_n (by omega)]; exact v1, s3, v2⟩
  · obtain ⟨x, w', rfl⟩ : ∃ x w', w = x :: w' := List.exists_cons_of_ne_nil hw
    have hkx := hk x (List.mem_cons_self ..)
    obtain ⟨a2, s, r1, f1, v1, v2, v3⟩ := @rt_skip N p t r0 _ a (by omega) h1 h9 hd hp hb (fun y r' e => by
      injection e with e1 e2
      rw [← e1, hkx]
      decide)
    have h2 := INB_fr (f1.1 2 (by omega)) (f1.1 3 (by omega)) h1
    obtain ⟨d1, d2, d3⟩ := dr_c v2
    rw [r1, rt_stop h2 v1 v3, if_pos d1, d2, if_neg (by rw [hkx]; decide), hkx] at q1
    have F : ∀ k, k ≠ 1 → up2 (up2 (up2 a2 1 9 (nI s)) 1 10 0) 1 7 (nI 3) k = a2 k := fun k z => by rw [p2_n z, p2_n z, p2_n z]
    obtain ⟨g1, g2⟩ := dr_len v3 v2
    obtain ⟨a3, s1, s2, s3, s4, s5⟩ := @tn_run N t (x :: w') r s N 0 (up2 (up2 (up2 a2 1 9 (nI s)) 1 10 0) 1 7 (nI 3)) (INB_fr (F 2 (by omega)) (F 3 (by omega)) h2) v2 hk hr (by rw [p2_s, u_s]; rfl) (by rw [p2_s, u_n (by omega), p2_s, u_s]; rfl) (by rw [p2_s, u_n (by omega), p2_s, u_n (by omega), p2_s, u_s]) v3 (by omega)
    rw [s1] at q1
    cases q1
    exact ⟨s4, s5, _, g1, s3, g2⟩
  · obtain ⟨a2, s, r1, f1, v1, v2, v3⟩ := @rt_skip N p t r0 _ a (by omega) h1 h9 hd hp hb (fun y r' e => by
      injection e with e1 e2
      rw [← e1]
      decide)
    have h2 := INB_fr (f1.1 2 (by omega)) (f1.1 3 (by omega)) h1
    obtain ⟨d1, d2, d3⟩ := dr_c v2
    rw [r1, rt_stop h2 v1 v3, if_pos d1, d2, if_pos (by decide)] at q1
    cases q1
    exact ⟨by rw [p2_s, u_n (by omega), p2_s, u_n (by omega), p2_s, u_s]; rfl, by rw [p2_s, u_n (by omega), p2_s, u_s]; rfl, s + 1, by omega, by rw [p2_s, u_s], d3⟩
  · obtain ⟨a2, s, r1, f1, v1, v2, v3⟩ := @rt_skip N p t r0 [] a (by omega) h1 h9 hd hp (Or.inl h0) (fun y r' e => by cases e)
    have h2 := INB_fr (f1.1 2 (by omega)) (f1.1 3 (by omega)) h1
    have := dr_n v2
    rw [r1, rt_stop h2 v1 v3, if_neg (by omega)] at q1
    cases q1
    rw [p2_s, u_s]
/-! what the parser takes -/
theorem txb_w : ∀ i, i < 12 → txB i ≠ [] ∧ (∀ x ∈ txB i, KD x = 2 ∧ x < 128) ∧ (txB i).length < 100 ∧ ∀ j, j < 12 → (txB j = txB i ↔ j = i) := by decide +kernel
theorem iw_loop {N i s : Nat} {t w r : List Nat} {a : Mem} (h : INB t a) (hi : i < 12) (h8 : a 1 8 = nI s) (hs : s ≤ t.length) (hd : t.drop s = w ++ r) (hl : w.length = strLn i) : ∀ (d j fu : Nat), j + d = strLn i → d + 1 ≤ fu → f_X3_isWord_28 N i a fu (nI j) = some (if w.drop j = (txB i).drop j then 1 else 0) := by
  have hn4 := h.1.1
  have htl := txB_len i
  obtain ⟨-, hw2, hw3, -⟩ := txb_w i hi
  obtain ⟨g1, g2⟩ := dr_len hs hd
  intro d
  induction d with
  | zero =>
    intro j fu hj hf
    obtain ⟨f, rfl⟩ : ∃ f, fu = f + 1 := ⟨fu - 1, by omega⟩
    rw [f_X3_isWord_28_s, b_T, if_pos ((nI_lei (by omega) (by omega)).2 (by omega)), List.drop_eq_nil_of_le (by omega), List.drop_eq_nil_of_le (by omega), if_pos rfl]
  | succ d ih =>
    intro j fu hj hf
    obtain ⟨f, rfl⟩ : ∃ f, fu = f + 1 := ⟨fu - 1, by omega⟩
    have hjw : j < w.length := by omega
    have hjt : j < (txB i).length := by omega
    have hgd : t.getD (s + j) 0 = w[j] := by
      have h9 : (t.drop s)[j]? = (w ++ r)[j]? := by rw [hd]
      rw [List.getElem?_drop, List.getElem?_append_left hjw, List.getElem?_eq_getElem hjw] at h9
      rw [List.getD_eq_getElem?_getD, h9]
      rfl
    have hcd : strCh i j = nI (txB i)[j] := by
      rw [← txB_get (by omega), List.getD_eq_getElem?_getD, List.getElem?_eq_getElem hjt]
      rfl
    have hb1 : w[j] < 128 := by rw [← hgd]; exact h.1.2 _
    have hb2 : (txB i)[j] < 128 := (hw2 _ (List.getElem_mem hjt)).2
    rw [f_X3_isWord_28_s, b_T, if_neg (fun z => by have := (nI_lei (by omega) (by omega)).1 z; omega), b_T, z_cN (by omega) (by omega), b_T, b_T, nI_1, h8, nI_add, i_at h (by omega), z_tN (by omega), hgd, hcd, List.drop_eq_getElem_cons hjw, List.drop_eq_getElem_cons hjt, ih (j + 1) f (by omega) (by omega)]
    by_cases hq : w[j] = (txB i)[j]
    · rw [if_pos (congrArg nI hq)]
      by_cases hr : w.drop (j + 1) = (txB i).drop (j + 1)
      · rw [if_pos hr, if_pos (by rw [hq, hr])]
      · rw [if_neg hr, if_neg (fun z => by injection z with z1 z2; exact hr z2)]
    · rw [if_neg (fun z => hq ((nI_inj2 (by omega) (by omega)).1 z)), if_neg (fun z => by injection z with z1 z2; exact hq z1)]
theorem iw_w {N i j : Nat} {t r0 r : List Nat} {a : Mem} (hN : 402 ≤ N) (h : TKC t r0 a) (hi : i < 12) (hj : j < 12) (hb : BLK r0 (txB j ++ r)) (hr : ∀ x r', r = x :: r' → KD x ≠ 2) : f_X3_isWord N i a = some (if j = i then 1 else 0) := by
  obtain ⟨h1, h5, hw, -⟩ := h
  have hn4 := h1.1.1
  obtain ⟨j1, j2, j3, -⟩ := txb_w j hj
  obtain ⟨i1, i2, i3, i4⟩ := txb_w i hi
  have hli := txB_len i
  obtain ⟨h7, s, s1, h8, h9, hd⟩ := hw (txB j) r hb j1 (fun x hx => (j2 x hx).1) hr
  unfold f_X3_isWord
  simp only [b_T]
  have hsub : nI (s + (txB j).length) - nI s = nI (txB j).length := by
    rw [z_eq, z_sub (by rw [z_nI (by omega), z_nI (by omega)]; omega) (by rw [z_nI (by omega), z_nI (by omega)]; omega), z_nI (by omega), z_nI (by omega), z_nI (by omega)]
    omega
  rw [if_pos h7, h8, h9, hsub]
  by_cases hl : (txB j).length = strLn i
  · rw [hl, if_pos rfl]
    have e := @iw_loop N i s t (txB j) r a h1 hi h8 (by omega) hd hl (strLn i) 0 N (by omega) (by omega)
    have e0 : (0 : Int32) = nI 0 := rfl
    rw [e0, e, List.drop_zero, List.drop_zero]
    by_cases hji : j = i
    · rw [if_pos hji, if_pos ((i4 j hj).2 hji)]
    · rw [if_neg hji, if_neg (fun z => hji ((i4 j hj).1 z))]
      rfl
  · rw [if_neg (fun z => hl ((nI_inj2 (by omega) (by omega)).1 z)), if_neg (fun z => hl (by rw [z, hli]))]
theorem iw_s {N i : Nat} {t r0 r : List Nat} {a : Mem} (h : TKC t r0 a) (hb : BLK r0 (59 :: r)) : f_X3_isWord N i a = some 0 := by
  obtain ⟨h7, -⟩ := h.2.2.2.2.1 r hb
  unfold f_X3_isWord
  rw [h7, if_neg (by decide)]
theorem tk_word {N i : Nat} {t r0 r : List Nat} {a : Mem} (hN : 402 ≤ N) (hi : i < 12) (h : TKC t r0 a) (hb : BLK r0 (txB i ++ r)) (hr : ∀ x r', r = x :: r' → KD x ≠ 2) : ∃ a1, f_X3_takeWord N i a = some a1 ∧ FA a a1 ∧ TKC t r a1 := by
  have h5 := h.2.1
  obtain ⟨j1, j2, j3, -⟩ := txb_w i hi
  obtain ⟨h7, s, s1, h8, h9, hd⟩ := h.2.2.1 (txB i) r hb j1 (fun x hx => (j2 x hx).1) hr
  obtain ⟨a1, q1, q2, q3⟩ := @rd_cls N t r a hN ⟨h.1, h5, _, s1, h9, (dr_len (by omega) hd).2⟩
  unfold f_X3_takeWord
  rw [iw_w hN h hi hi hb hr, if_pos rfl, b_P, if_neg (by decide), if_pos h5, q1, b_P]
  exact ⟨a1, rfl, q2, q3⟩
theorem numT_k : ∀ x, x < 100 → numT x ≠ [] ∧ (∀ y ∈ numT x, KD y = 3) ∧ VAL (numT x) 0 = x := by decide +kernel
theorem tk_num {N x lo hi : Nat} {t r0 r : List Nat} {a : Mem} (hN : 402 ≤ N) (hx : x < 100) (h1 : lo ≤ x) (h2 : x ≤ hi) (hh : hi < 1000000) (h : TKC t r0 a) (hb : BLK r0 (numT x ++ r)) (hr : ∀ x r', r = x :: r' → KD x ≠ 3) : ∃ a1, f_X3_takeNumber N (nI lo) (nI hi) a = some (nI x, a1) ∧ FA a a1 ∧ TKC t r a1 := by
  have h5 := h.2.1
  obtain ⟨j1, j2, j3⟩ := numT_k x hx
  obtain ⟨h7, h10, e, s1, h9, hd⟩ := h.2.2.2.1 (numT x) r hb j1 j2 hr
  rw [j3, Nat.min_eq_left (by omega)] at h10
  obtain ⟨a1, q1, q2, q3⟩ := @rd_cls N t r a hN ⟨h.1, h5, _, s1, h9, hd⟩
  unfold f_X3_takeNumber f_X3_takeNumber_37
  rw [if_pos h7, h10, if_neg (fun z => by have := (nI_lti (by omega) (by omega)).1 z; omega), if_pos ((nI_lei (by omega) (by omega)).2 h2), if_pos h5, b_T, q1, b_P]
  exact ⟨a1, rfl, q2, q3⟩
theorem tk_semi {N : Nat} {t r0 r : List Nat} {a : Mem} (hN : 402 ≤ N) (h : TKC t r0 a) (hb : BLK r0 (59 :: r)) : ∃ a1, f_X3_takeSemicolon N a = some a1 ∧ FA a a1 ∧ TKC t r a1 := by
  have h5 := h.2.1
  obtain ⟨h7, h10, e, s1, h9, hd⟩ := h.2.2.2.2.1 r hb
  obtain ⟨a1, q1, q2, q3⟩ := @rd_cls N t r a hN ⟨h.1, h5, _, s1, h9, hd⟩
  unfold f_X3_takeSemicolon
  rw [if_pos h7, if_pos h10, if_pos h5, q1, b_P]
  exact ⟨a1, rfl, q2, q3⟩
def oT (i : Nat) (c : Prop) [Decidable c] (x : Nat) : List Nat := if c then 32 :: (txB i ++ 32 :: numT x) else []
def NXT (i : Nat) (r : List Nat) : Prop := (∃ j r', j < 12 ∧ j ≠ i ∧ r = 32 :: (txB j ++ 32 :: r')) ∨ ∃ r', r = 59 :: r'
theorem NXT_k {i : Nat} {r : List Nat} (h : NXT i r) : ∀ x r', r = x :: r' → KD x ≠ 2 ∧ KD x ≠ 3 := by
  rintro x r' e
  rcases h with ⟨j, r2, -, -, rfl⟩ | ⟨r2, rfl⟩
  · injection e with e1 e2
    subst e1
    exact ⟨by decide, by decide⟩
  · injection e with e1 e2
    subst e1
    exact ⟨by decide, by decide⟩
theorem sp_k {q : List Nat} : ∀ x r', 32 :: q = x :: r' → KD x ≠ 2 := by
  rintro x r' e
  injection e with e1 e2
  subst e1
  decide
theorem sp_k3 {q : List Nat} : ∀ x r', 32 :: q = x :: r' → KD x ≠ 3 := by
  rintro x r' e
  injection e with e1 e2
  subst e1
  decide
theorem se_k3 {q : List Nat} : ∀ x r', 59 :: q = x :: r' → KD x ≠ 3 := by
  rintro x r' e
  injection e with e1 e2
  subst e1
  decide
theorem se_k {q : List Nat} : ∀ x r', 59 :: q = x :: r' → KD x ≠ 2 := by
  rintro x r' e
  injection e with e1 e2
  subst e1
  decide
theorem tk_opt {N i x : Nat} {c : Prop} [Decidable c] {t r : List Nat} {a : Mem} (hN : 402 ≤ N) (hi : i < 12) (hx : x < 100) (h : TKC t (oT i c x ++ r) a) (hn : NXT i r) : ∃ v a1, f_X3_takeOption N i a = some (v, a1) ∧ FA a a1 ∧ TKC t r a1 := by
  have h5 := h.2.1
  unfold f_X3_takeOption
  rw [if_pos h5]
  by_cases hc : c
  · have e : oT i c x ++ r = 32 :: (txB i ++ (32 :: (numT x ++ r))) := by
      unfold oT
      rw [if_pos hc]
      simp only [List.cons_append, List.append_assoc]
    rw [e] at h
    obtain ⟨a1, q1, q2, q3⟩ := tk_word hN hi h (Or.inr rfl) sp_k
    obtain ⟨a2, s1, s2, s3⟩ := tk_num (lo := 0) (hi := 999) hN hx (by omega) (by omega) (by omega) q3 (Or.inr rfl) (fun y r' e => (NXT_k hn y r' e).2)
    have s1' : f_X3_takeNumber N (0 : Int32) (999 : Int32) a1 = some (nI x, a2) := s1
    rw [iw_w hN h hi hi (Or.inr rfl) sp_k, if_pos rfl, b_P, if_neg (by decide), q1, b_P, s1', b_P2]
    exact ⟨_, a2, rfl, FA_t q2 s2, s3⟩
  · have e : oT i c x ++ r = r := by
      unfold oT
      rw [if_neg hc]
      rfl
    rw [e] at h
    have hz : f_X3_isWord N i a = some 0 := by
      rcases hn with ⟨j, r', hj, hji, rfl⟩ | ⟨r', rfl⟩
      · rw [iw_w hN h hi hj (Or.inr rfl) sp_k, if_neg hji]
      · exact iw_s h (Or.inl rfl)
    rw [hz, b_P, if_pos rfl]
    exact ⟨0, a, rfl, FA_i, h⟩
