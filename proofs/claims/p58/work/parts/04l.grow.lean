def Inv (G : GG) (n : Nat) (L : List Nat) (f : Nat → va_E) : Prop := L.Nodup ∧ L.length = n ∧ ∀ k, k < n → k ≠ 22 → k ≠ 23 → f (ad L k) = cnt G L k (a0 k)
theorem rch_blk : ∀ i, i < 9 → ∀ k, k < 24 + 9 * i → rch k < 24 + 9 * i := by decide +kernel
theorem ty_blk0 : ∀ i, i < 8 → ty (24 + 9 * i + 0) = 6 := by decide +kernel
theorem ty_blk1 : ∀ i, i < 8 → ty (24 + 9 * i + 1) = 4 := by decide +kernel
theorem ty_blk2 : ∀ i, i < 8 → ty (24 + 9 * i + 2) = 21 := by decide +kernel
theorem ty_blk3 : ∀ i, i < 8 → ty (24 + 9 * i + 3) = 1 := by decide +kernel
theorem ty_blk4 : ∀ i, i < 8 → ty (24 + 9 * i + 4) = 22 := by decide +kernel
theorem ty_blk5 : ∀ i, i < 8 → ty (24 + 9 * i + 5) = 5 := by decide +kernel
theorem ty_blk6 : ∀ i, i < 8 → ty (24 + 9 * i + 6) = 23 := by decide +kernel
theorem ty_blk7 : ∀ i, i < 8 → ty (24 + 9 * i + 7) = 5 := by decide +kernel
theorem ty_blk8 : ∀ i, i < 8 → ty (24 + 9 * i + 8) = 23 := by decide +kernel
theorem a0_blk {i t : Nat} (ht : t < 9) : a0 (24 + 9 * i + t) = blkA t := by
  unfold a0
  rw [if_neg (by omega), if_neg (by omega), if_neg (by omega), if_neg (by omega), if_neg (by omega)]
  congr 1
  omega
set_option maxRecDepth 100000 in
set_option maxHeartbeats 4000000 in
theorem grow {G : GG} {n i : Nat} {L : List Nat} {f : Nat → va_E} (hI : Inv G n L f) (hn : n = 24 + 9 * i) (hi : i < 8) {q k1 k2 k3 k4 k5 k6 k7 k8 : Nat} (h_q : q ∉ L) (h_k1 : k1 ∉ (L ++ [q])) (h_k2 : k2 ∉ ((L ++ [q]) ++ [k1])) (h_k3 : k3 ∉ (((L ++ [q]) ++ [k1]) ++ [k2])) (h_k4 : k4 ∉ ((((L ++ [q]) ++ [k1]) ++ [k2]) ++ [k3])) (h_k5 : k5 ∉ (((((L ++ [q]) ++ [k1]) ++ [k2]) ++ [k3]) ++ [k4])) (h_k6 : k6 ∉ ((((((L ++ [q]) ++ [k1]) ++ [k2]) ++ [k3]) ++ [k4]) ++ [k5])) (h_k7 : k7 ∉ (((((((L ++ [q]) ++ [k1]) ++ [k2]) ++ [k3]) ++ [k4]) ++ [k5]) ++ [k6])) (h_k8 : k8 ∉ ((((((((L ++ [q]) ++ [k1]) ++ [k2]) ++ [k3]) ++ [k4]) ++ [k5]) ++ [k6]) ++ [k7])) : Inv G (n + 9) (((((((((L ++ [q]) ++ [k1]) ++ [k2]) ++ [k3]) ++ [k4]) ++ [k5]) ++ [k6]) ++ [k7]) ++ [k8]) (va_up (va_up (va_up (va_up (va_up (va_up (va_up (va_up (va_up (va_up f q (.inr (6, df6))) k4 (aI G 240 z0)) k3 (.inr (1, [.ref k4, .int 0, .int 0]))) q (.inr (6, [.ref k1, .ref k3, .ref k5, .ref k7, .int 0, .int 0, .int 0, .int (-1), .int (-1), .int 0, .int 0, .int 0]))) k1 (.inr (4, [.ref k2, .int (1), .int 0, .int 0, .int (-1)]))) k2 (aI G 25 tm0)) k6 (aI G 5 z0)) k5 (.inr (5, [.ref k6, .int 3000, .int 0, .int 0, .int 0, .int 0, .int 0, .int 0, .int 0, .int 0, .int 0, .int 0, .int 0]))) k8 (aI G 5 z0)) k7 (.inr (5, [.ref k8, .int 3000, .int 0, .int 0, .int 0, .int 0, .int 0, .int 0, .int 0, .int 0, .int 0, .int 0, .int 0]))) ∧ ad (((((((((L ++ [q]) ++ [k1]) ++ [k2]) ++ [k3]) ++ [k4]) ++ [k5]) ++ [k6]) ++ [k7]) ++ [k8]) (n + 0) = q ∧ ∀ k, k < n → ad (((((((((L ++ [q]) ++ [k1]) ++ [k2]) ++ [k3]) ++ [k4]) ++ [k5]) ++ [k6]) ++ [k7]) ++ [k8]) k = ad L k := by
  obtain ⟨hnd, hlen, hall⟩ := hI
  have n_q_k1 : q ≠ k1 := fun h => h_k1 (by rw [← h]; simp)
  have n_q_k2 : q ≠ k2 := fun h => h_k2 (by rw [← h]; simp)
  have n_q_k3 : q ≠ k3 := fun h => h_k3 (by rw [← h]; simp)
  have n_q_k4 : q ≠ k4 := fun h => h_k4 (by rw [← h]; simp)
  have n_q_k5 : q ≠ k5 := fun h => h_k5 (by rw [← h]; simp)
  have n_q_k6 : q ≠ k6 := fun h => h_k6 (by rw [← h]; simp)
  have n_q_k7 : q ≠ k7 := fun h => h_k7 (by rw [← h]; simp)
  have n_q_k8 : q ≠ k8 := fun h => h_k8 (by rw [← h]; simp)
  have n_k1_k2 : k1 ≠ k2 := fun h => h_k2 (by rw [← h]; simp)
  have n_k1_k3 : k1 ≠ k3 := fun h => h_k3 (by rw [← h]; simp)
  have n_k1_k4 : k1 ≠ k4 := fun h => h_k4 (by rw [← h]; simp)
  have n_k1_k5 : k1 ≠ k5 := fun h => h_k5 (by rw [← h]; simp)
  have n_k1_k6 : k1 ≠ k6 := fun h => h_k6 (by rw [← h]; simp)
  have n_k1_k7 : k1 ≠ k7 := fun h => h_k7 (by rw [← h]; simp)
  have n_k1_k8 : k1 ≠ k8 := fun h => h_k8 (by rw [← h]; simp)
  have n_k2_k3 : k2 ≠ k3 := fun h => h_k3 (by rw [← h]; simp)
  have n_k2_k4 : k2 ≠ k4 := fun h => h_k4 (by rw [← h]; simp)
  have n_k2_k5 : k2 ≠ k5 := fun h => h_k5 (by rw [← h]; simp)
  have n_k2_k6 : k2 ≠ k6 := fun h => h_k6 (by rw [← h]; simp)
  have n_k2_k7 : k2 ≠ k7 := fun h => h_k7 (by rw [← h]; simp)
  have n_k2_k8 : k2 ≠ k8 := fun h => h_k8 (by rw [← h]; simp)
  have n_k3_k4 : k3 ≠ k4 := fun h => h_k4 (by rw [← h]; simp)
  have n_k3_k5 : k3 ≠ k5 := fun h => h_k5 (by rw [← h]; simp)
  have n_k3_k6 : k3 ≠ k6 := fun h => h_k6 (by rw [← h]; simp)
  have n_k3_k7 : k3 ≠ k7 := fun h => h_k7 (by rw [← h]; simp)
  have n_k3_k8 : k3 ≠ k8 := fun h => h_k8 (by rw [← h]; simp)
  have n_k4_k5 : k4 ≠ k5 := fun h => h_k5 (by rw [← h]; simp)
  have n_k4_k6 : k4 ≠ k6 := fun h => h_k6 (by rw [← h]; simp)
  have n_k4_k7 : k4 ≠ k7 := fun h => h_k7 (by rw [← h]; simp)
  have n_k4_k8 : k4 ≠ k8 := fun h => h_k8 (by rw [← h]; simp)
  have n_k5_k6 : k5 ≠ k6 := fun h => h_k6 (by rw [← h]; simp)
  have n_k5_k7 : k5 ≠ k7 := fun h => h_k7 (by rw [← h]; simp)
  have n_k5_k8 : k5 ≠ k8 := fun h => h_k8 (by rw [← h]; simp)
  have n_k6_k7 : k6 ≠ k7 := fun h => h_k7 (by rw [← h]; simp)
  have n_k6_k8 : k6 ≠ k8 := fun h => h_k8 (by rw [← h]; simp)
  have n_k7_k8 : k7 ≠ k8 := fun h => h_k8 (by rw [← h]; simp)
  have eL : (((((((((L ++ [q]) ++ [k1]) ++ [k2]) ++ [k3]) ++ [k4]) ++ [k5]) ++ [k6]) ++ [k7]) ++ [k8]) = L ++ [q, k1, k2, k3, k4, k5, k6, k7, k8] := by simp only [List.append_assoc, List.cons_append, List.nil_append]
  have hold : ∀ k, k < n → ad (((((((((L ++ [q]) ++ [k1]) ++ [k2]) ++ [k3]) ++ [k4]) ++ [k5]) ++ [k6]) ++ [k7]) ++ [k8]) k = ad L k := fun k hk => by rw [eL]; exact ad_app (by omega)
  have e0 : ad (((((((((L ++ [q]) ++ [k1]) ++ [k2]) ++ [k3]) ++ [k4]) ++ [k5]) ++ [k6]) ++ [k7]) ++ [k8]) (n + 0) = q := by rw [eL, ad_app2 hlen]; rfl
  have e1 : ad (((((((((L ++ [q]) ++ [k1]) ++ [k2]) ++ [k3]) ++ [k4]) ++ [k5]) ++ [k6]) ++ [k7]) ++ [k8]) (n + 1) = k1 := by rw [eL, ad_app2 hlen]; rfl
  have e2 : ad (((((((((L ++ [q]) ++ [k1]) ++ [k2]) ++ [k3]) ++ [k4]) ++ [k5]) ++ [k6]) ++ [k7]) ++ [k8]) (n + 2) = k2 := by rw [eL, ad_app2 hlen]; rfl
  have e3 : ad (((((((((L ++ [q]) ++ [k1]) ++ [k2]) ++ [k3]) ++ [k4]) ++ [k5]) ++ [k6]) ++ [k7]) ++ [k8]) (n + 3) = k3 := by rw [eL, ad_app2 hlen]; rfl
  have e4 : ad (((((((((L ++ [q]) ++ [k1]) ++ [k2]) ++ [k3]) ++ [k4]) ++ [k5]) ++ [k6]) ++ [k7]) ++ [k8]) (n + 4) = k4 := by rw [eL, ad_app2 hlen]; rfl
  have e5 : ad (((((((((L ++ [q]) ++ [k1]) ++ [k2]) ++ [k3]) ++ [k4]) ++ [k5]) ++ [k6]) ++ [k7]) ++ [k8]) (n + 5) = k5 := by rw [eL, ad_app2 hlen]; rfl
  have e6 : ad (((((((((L ++ [q]) ++ [k1]) ++ [k2]) ++ [k3]) ++ [k4]) ++ [k5]) ++ [k6]) ++ [k7]) ++ [k8]) (n + 6) = k6 := by rw [eL, ad_app2 hlen]; rfl
  have e7 : ad (((((((((L ++ [q]) ++ [k1]) ++ [k2]) ++ [k3]) ++ [k4]) ++ [k5]) ++ [k6]) ++ [k7]) ++ [k8]) (n + 7) = k7 := by rw [eL, ad_app2 hlen]; rfl
  have e8 : ad (((((((((L ++ [q]) ++ [k1]) ++ [k2]) ++ [k3]) ++ [k4]) ++ [k5]) ++ [k6]) ++ [k7]) ++ [k8]) (n + 8) = k8 := by rw [eL, ad_app2 hlen]; rfl
  refine ⟨⟨(nodup_snoc (nodup_snoc (nodup_snoc (nodup_snoc (nodup_snoc (nodup_snoc (nodup_snoc (nodup_snoc (nodup_snoc hnd h_q) h_k1) h_k2) h_k3) h_k4) h_k5) h_k6) h_k7) h_k8), by simp [hlen], fun k hk h22 h23 => ?_⟩, e0, hold⟩
  by_cases hkn : k < n
  · rw [hold k hkn]
    have hx : ad L k ∈ L := by
      unfold ad
      rw [List.getD_eq_getElem?_getD, List.getElem?_eq_getElem (by omega)]
      exact List.getElem_mem _
    have hr : rch k < L.length := by rw [hlen]; subst hn; exact rch_blk i (by omega) k hkn
    have x_q : ad L k ≠ q := fun h => h_q (by rw [← h]; simp [hx])
    have x_k1 : ad L k ≠ k1 := fun h => h_k1 (by rw [← h]; simp [hx])
    have x_k2 : ad L k ≠ k2 := fun h => h_k2 (by rw [← h]; simp [hx])
    have x_k3 : ad L k ≠ k3 := fun h => h_k3 (by rw [← h]; simp [hx])
    have x_k4 : ad L k ≠ k4 := fun h => h_k4 (by rw [← h]; simp [hx])
    have x_k5 : ad L k ≠ k5 := fun h => h_k5 (by rw [← h]; simp [hx])
    have x_k6 : ad L k ≠ k6 := fun h => h_k6 (by rw [← h]; simp [hx])
    have x_k7 : ad L k ≠ k7 := fun h => h_k7 (by rw [← h]; simp [hx])
    have x_k8 : ad L k ≠ k8 := fun h => h_k8 (by rw [← h]; simp [hx])
    rw [eL, cnt_app (by subst hn; omega) h22 h23 hr, ← hall k hkn h22 h23]
    simp only [va_up, if_neg x_q, if_neg x_k1, if_neg x_k2, if_neg x_k3, if_neg x_k4, if_neg x_k5, if_neg x_k6, if_neg x_k7, if_neg x_k8]
  · by_cases hk0 : k = n + 0
    · rw [hk0, e0]
      have ht := ty_blk0 i hi
      have ha := a0_blk (i := i) (t := 0) (by decide)
      rw [← hn] at ht ha
      rw [cnt_6 ht, ha]
      refine ((up_n n_q_k7 (up_n n_q_k8 (up_n n_q_k5 (up_n n_q_k6 (up_n n_q_k2 (up_n n_q_k1 up_s)))))) : _ = ((.inr (6, [.ref k1, .ref k3, .ref k5, .ref k7, .int 0, .int 0, .int 0, .int (-1), .int (-1), .int 0, .int 0, .int 0])) : va_E)).trans ?_
      simp only [cl6]
      rw [show n + 0 + 1 = n + 1 by omega, show n + 0 + 3 = n + 3 by omega, show sdr (n + 0) (blkA 0 2) = n + 5 by rfl, show sdr (n + 0) (blkA 0 3) = n + 7 by rfl, e1, e3, e5, e7]
      rfl
    by_cases hk1 : k = n + 1
    · rw [hk1, e1]
      have ht := ty_blk1 i hi
      have ha := a0_blk (i := i) (t := 1) (by decide)
      rw [← hn] at ht ha
      rw [cnt_4 ht, ha]
      refine ((up_n n_k1_k7 (up_n n_k1_k8 (up_n n_k1_k5 (up_n n_k1_k6 (up_n n_k1_k2 up_s))))) : _ = ((.inr (4, [.ref k2, .int (1), .int 0, .int 0, .int (-1)])) : va_E)).trans ?_
      simp only [cl4]
      rw [show n + 1 + 1 = n + 2 by omega, e2]
      rfl
    by_cases hk2 : k = n + 2
    · rw [hk2, e2]
      have ht := ty_blk2 i hi
      have ha := a0_blk (i := i) (t := 2) (by decide)
      rw [← hn] at ht ha
      rw [cnt_21 ht, ha]
      refine ((up_n n_k2_k7 (up_n n_k2_k8 (up_n n_k2_k5 (up_n n_k2_k6 up_s)))) : _ = ((aI G 25 tm0) : va_E)).trans ?_
      rfl
    by_cases hk3 : k = n + 3
    · rw [hk3, e3]
      have ht := ty_blk3 i hi
      have ha := a0_blk (i := i) (t := 3) (by decide)
      rw [← hn] at ht ha
      rw [cnt_1 ht, ha]
      refine ((up_n n_k3_k7 (up_n n_k3_k8 (up_n n_k3_k5 (up_n n_k3_k6 (up_n (Ne.symm n_k2_k3) (up_n (Ne.symm n_k1_k3) (up_n (Ne.symm n_q_k3) up_s))))))) : _ = ((.inr (1, [.ref k4, .int 0, .int 0])) : va_E)).trans ?_
      simp only [cl1]
      rw [show n + 3 + 1 = n + 4 by omega, e4]
      rfl
    by_cases hk4 : k = n + 4
    · rw [hk4, e4]
      have ht := ty_blk4 i hi
      have ha := a0_blk (i := i) (t := 4) (by decide)
      rw [← hn] at ht ha
      rw [cnt_22 ht, ha]
      refine ((up_n n_k4_k7 (up_n n_k4_k8 (up_n n_k4_k5 (up_n n_k4_k6 (up_n (Ne.symm n_k2_k4) (up_n (Ne.symm n_k1_k4) (up_n (Ne.symm n_q_k4) (up_n (Ne.symm n_k3_k4) up_s)))))))) : _ = ((aI G 240 z0) : va_E)).trans ?_
      rfl
    by_cases hk5 : k = n + 5
    · rw [hk5, e5]
      have ht := ty_blk5 i hi
      have ha := a0_blk (i := i) (t := 5) (by decide)
      rw [← hn] at ht ha
      rw [cnt_5 ht, ha]
      refine ((up_n n_k5_k7 (up_n n_k5_k8 up_s)) : _ = ((.inr (5, [.ref k6, .int 3000, .int 0, .int 0, .int 0, .int 0, .int 0, .int 0, .int 0, .int 0, .int 0, .int 0, .int 0])) : va_E)).trans ?_
      simp only [cl5]
      rw [show n + 5 + 1 = n + 6 by omega, e6]
      rfl
    by_cases hk6 : k = n + 6
    · rw [hk6, e6]
      have ht := ty_blk6 i hi
      have ha := a0_blk (i := i) (t := 6) (by decide)
      rw [← hn] at ht ha
      rw [cnt_23 ht, ha]
      refine ((up_n n_k6_k7 (up_n n_k6_k8 (up_n (Ne.symm n_k5_k6) up_s))) : _ = ((aI G 5 z0) : va_E)).trans ?_
      rfl
    by_cases hk7 : k = n + 7
    · rw [hk7, e7]
      have ht := ty_blk7 i hi
      have ha := a0_blk (i := i) (t := 7) (by decide)
      rw [← hn] at ht ha
      rw [cnt_5 ht, ha]
      refine (up_s : _ = ((.inr (5, [.ref k8, .int 3000, .int 0, .int 0, .int 0, .int 0, .int 0, .int 0, .int 0, .int 0, .int 0, .int 0, .int 0])) : va_E)).trans ?_
      simp only [cl5]
      rw [show n + 7 + 1 = n + 8 by omega, e8]
      rfl
    by_cases hk8 : k = n + 8
    · rw [hk8, e8]
      have ht := ty_blk8 i hi
      have ha := a0_blk (i := i) (t := 8) (by decide)
      rw [← hn] at ht ha
      rw [cnt_23 ht, ha]
      refine ((up_n (Ne.symm n_k7_k8) up_s) : _ = ((aI G 5 z0) : va_E)).trans ?_
      rfl
    exact absurd hk (by omega)

