theorem rch_96 : ∀ k, k < 96 → rch k < 96 := by decide +kernel
/-- what the reference's cells hold when its fields are laid -/
def bz : Mem := fun k => if k = 0 then (fun j => if j = 19 then -1 else 0) else z0
theorem start105 {G : GG} {L : List Nat} {f g : Nat → va_E} {q k1 k2 k3 k4 k5 k6 k7 k8 : Nat} {c : Mem} (hnd : L.Nodup) (hlen : L.length = 97) (hq : ad L 96 = q) (hcl : ∀ k, k < 96 → f (ad L k) = cnt G L k (a0 k)) (hk1 : k1 ∉ L) (hk2 : k2 ∉ (L ++ [k1])) (hk3 : k3 ∉ ((L ++ [k1]) ++ [k2])) (hk4 : k4 ∉ (((L ++ [k1]) ++ [k2]) ++ [k3])) (hk5 : k5 ∉ ((((L ++ [k1]) ++ [k2]) ++ [k3]) ++ [k4])) (hk6 : k6 ∉ (((((L ++ [k1]) ++ [k2]) ++ [k3]) ++ [k4]) ++ [k5])) (hk7 : k7 ∉ ((((((L ++ [k1]) ++ [k2]) ++ [k3]) ++ [k4]) ++ [k5]) ++ [k6])) (hk8 : k8 ∉ (((((((L ++ [k1]) ++ [k2]) ++ [k3]) ++ [k4]) ++ [k5]) ++ [k6]) ++ [k7])) (hold9 : ∀ x, x ∈ L → x ≠ q → g x = f x) (hf_q : g q = (.inr (9, [.int 0, .ref k1, .ref k2, .ref k1, .ref k3, .int 0, .int 0, .int 0, .int 0, .int 0, .int 0, .ref k4, .int 0, .int 0, .int 0, .int 0, .int 0, .int 0, .int 0, .int (-1), .int 0, .int 0, .int 0, .int 0, .ref k5, .ref k6, .ref k7, .int 0, .ref k8, .int 0]))) (hf_k1 : g k1 = (aI G 311 z0)) (hf_k2 : g k2 = (aI G 311 z0)) (hf_k3 : g k3 = (aI G 311 z0)) (hf_k4 : g k4 = (aB G 400 z0)) (hf_k5 : g k5 = (aI G 622 z0)) (hf_k6 : g k6 = (aZ G 2 z0)) (hf_k7 : g k7 = (aI G 1866 z0)) (hf_k8 : g k8 = (aB G 300 z0)) : LOK ((((((((L ++ [k1]) ++ [k2]) ++ [k3]) ++ [k4]) ++ [k5]) ++ [k6]) ++ [k7]) ++ [k8]) ∧ ∀ x ∈ ((((((((L ++ [k1]) ++ [k2]) ++ [k3]) ++ [k4]) ++ [k5]) ++ [k6]) ++ [k7]) ++ [k8]), g x = FW G ((((((((L ++ [k1]) ++ [k2]) ++ [k3]) ++ [k4]) ++ [k5]) ++ [k6]) ++ [k7]) ++ [k8]) a0 bz c x := by
  have eL : ((((((((L ++ [k1]) ++ [k2]) ++ [k3]) ++ [k4]) ++ [k5]) ++ [k6]) ++ [k7]) ++ [k8]) = L ++ [k1, k2, k3, k4, k5, k6, k7, k8] := by simp only [List.append_assoc, List.cons_append, List.nil_append]
  have hLO : LOK ((((((((L ++ [k1]) ++ [k2]) ++ [k3]) ++ [k4]) ++ [k5]) ++ [k6]) ++ [k7]) ++ [k8]) := ⟨(nodup_snoc (nodup_snoc (nodup_snoc (nodup_snoc (nodup_snoc (nodup_snoc (nodup_snoc (nodup_snoc hnd hk1) hk2) hk3) hk4) hk5) hk6) hk7) hk8), by simp only [List.length_append, List.length_cons, List.length_nil]; omega, by simp only [List.length_append, List.length_cons, List.length_nil]; omega⟩
  have hold : ∀ k, k < 97 → ad ((((((((L ++ [k1]) ++ [k2]) ++ [k3]) ++ [k4]) ++ [k5]) ++ [k6]) ++ [k7]) ++ [k8]) k = ad L k := fun k hk => by rw [eL]; exact ad_app (by omega)
  have e0 : ad ((((((((L ++ [k1]) ++ [k2]) ++ [k3]) ++ [k4]) ++ [k5]) ++ [k6]) ++ [k7]) ++ [k8]) (97 + 0) = k1 := by rw [eL, ad_app2 hlen]; rfl
  have e1 : ad ((((((((L ++ [k1]) ++ [k2]) ++ [k3]) ++ [k4]) ++ [k5]) ++ [k6]) ++ [k7]) ++ [k8]) (97 + 1) = k2 := by rw [eL, ad_app2 hlen]; rfl
  have e2 : ad ((((((((L ++ [k1]) ++ [k2]) ++ [k3]) ++ [k4]) ++ [k5]) ++ [k6]) ++ [k7]) ++ [k8]) (97 + 2) = k3 := by rw [eL, ad_app2 hlen]; rfl
  have e3 : ad ((((((((L ++ [k1]) ++ [k2]) ++ [k3]) ++ [k4]) ++ [k5]) ++ [k6]) ++ [k7]) ++ [k8]) (97 + 3) = k4 := by rw [eL, ad_app2 hlen]; rfl
  have e4 : ad ((((((((L ++ [k1]) ++ [k2]) ++ [k3]) ++ [k4]) ++ [k5]) ++ [k6]) ++ [k7]) ++ [k8]) (97 + 4) = k5 := by rw [eL, ad_app2 hlen]; rfl
  have e5 : ad ((((((((L ++ [k1]) ++ [k2]) ++ [k3]) ++ [k4]) ++ [k5]) ++ [k6]) ++ [k7]) ++ [k8]) (97 + 5) = k6 := by rw [eL, ad_app2 hlen]; rfl
  have e6 : ad ((((((((L ++ [k1]) ++ [k2]) ++ [k3]) ++ [k4]) ++ [k5]) ++ [k6]) ++ [k7]) ++ [k8]) (97 + 6) = k7 := by rw [eL, ad_app2 hlen]; rfl
  have e7 : ad ((((((((L ++ [k1]) ++ [k2]) ++ [k3]) ++ [k4]) ++ [k5]) ++ [k6]) ++ [k7]) ++ [k8]) (97 + 7) = k8 := by rw [eL, ad_app2 hlen]; rfl
  refine ⟨hLO, fun x hx => ?_⟩
  obtain ⟨k, hk, rfl⟩ := ad_of hx
  have hk5 : k < 105 := by simp only [List.length_append, List.length_cons, List.length_nil] at hk; omega
  rw [FW_at hLO hk5]
  by_cases h96 : k < 96
  · rw [rv_a h96, hold k (by omega)]
    have mx : ad L k ∈ L := ad_memL (by omega)
    have nx : ad L k ≠ q := fun h => by
      rw [← hq] at h
      exact absurd (ad_inj hnd (by omega) (by omega) h) (by omega)
    rw [hold9 _ mx nx, hcl k h96]
    have pp : ∀ j, j < 97 → ad L j = ad ((((((((L ++ [k1]) ++ [k2]) ++ [k3]) ++ [k4]) ++ [k5]) ++ [k6]) ++ [k7]) ++ [k8]) j := fun j hj => (hold j hj).symm
    by_cases h22 : k = 22
    · subst h22
      rw [cnt_26 rfl, cnt_26 rfl]
      refine congrArg (fun z => aO G 6 z) ?_
      funext j
      by_cases hj : j < 6
      · rw [if_pos hj, if_pos hj, pp (pastR j) (by unfold pastR; omega)]
      · rw [if_neg hj, if_neg hj]
    · by_cases h23 : k = 23
      · subst h23
        rw [cnt_27 rfl, cnt_27 rfl]
        refine congrArg (fun z => aO G 2 z) ?_
        funext j
        by_cases hj : j < 2
        · rw [if_pos hj, if_pos hj, pp (slotR j) (by unfold slotR; omega)]
        · rw [if_neg hj, if_neg hj]
      · rw [eL, cnt_app h96 h22 h23 (by rw [hlen]; exact Nat.lt_of_lt_of_le (rch_96 k h96) (by decide))]
  · by_cases c0 : k = 96
    · subst c0
      rw [hold 96 (by omega), hq, hf_q, cnt_9 rfl]
      simp only [cl9]
      have r0 : ad ((((((((L ++ [k1]) ++ [k2]) ++ [k3]) ++ [k4]) ++ [k5]) ++ [k6]) ++ [k7]) ++ [k8]) (rowR (rv a0 bz c 96 3)) = k1 := e0
      rw [r0, show ad ((((((((L ++ [k1]) ++ [k2]) ++ [k3]) ++ [k4]) ++ [k5]) ++ [k6]) ++ [k7]) ++ [k8]) 97 = k1 from e0, show ad ((((((((L ++ [k1]) ++ [k2]) ++ [k3]) ++ [k4]) ++ [k5]) ++ [k6]) ++ [k7]) ++ [k8]) 98 = k2 from e1, show ad ((((((((L ++ [k1]) ++ [k2]) ++ [k3]) ++ [k4]) ++ [k5]) ++ [k6]) ++ [k7]) ++ [k8]) 99 = k3 from e2, show ad ((((((((L ++ [k1]) ++ [k2]) ++ [k3]) ++ [k4]) ++ [k5]) ++ [k6]) ++ [k7]) ++ [k8]) 100 = k4 from e3, show ad ((((((((L ++ [k1]) ++ [k2]) ++ [k3]) ++ [k4]) ++ [k5]) ++ [k6]) ++ [k7]) ++ [k8]) 101 = k5 from e4, show ad ((((((((L ++ [k1]) ++ [k2]) ++ [k3]) ++ [k4]) ++ [k5]) ++ [k6]) ++ [k7]) ++ [k8]) 102 = k6 from e5, show ad ((((((((L ++ [k1]) ++ [k2]) ++ [k3]) ++ [k4]) ++ [k5]) ++ [k6]) ++ [k7]) ++ [k8]) 103 = k7 from e6, show ad ((((((((L ++ [k1]) ++ [k2]) ++ [k3]) ++ [k4]) ++ [k5]) ++ [k6]) ++ [k7]) ++ [k8]) 104 = k8 from e7]
      rfl
    by_cases c1 : k = 97
    · subst c1
      rw [show ad ((((((((L ++ [k1]) ++ [k2]) ++ [k3]) ++ [k4]) ++ [k5]) ++ [k6]) ++ [k7]) ++ [k8]) 97 = k1 from e0, hf_k1, cnt_31 rfl]
      rfl
    by_cases c2 : k = 98
    · subst c2
      rw [show ad ((((((((L ++ [k1]) ++ [k2]) ++ [k3]) ++ [k4]) ++ [k5]) ++ [k6]) ++ [k7]) ++ [k8]) 98 = k2 from e1, hf_k2, cnt_31 rfl]
      rfl
    by_cases c3 : k = 99
    · subst c3
      rw [show ad ((((((((L ++ [k1]) ++ [k2]) ++ [k3]) ++ [k4]) ++ [k5]) ++ [k6]) ++ [k7]) ++ [k8]) 99 = k3 from e2, hf_k3, cnt_31 rfl]
      rfl
    by_cases c4 : k = 100
    · subst c4
      rw [show ad ((((((((L ++ [k1]) ++ [k2]) ++ [k3]) ++ [k4]) ++ [k5]) ++ [k6]) ++ [k7]) ++ [k8]) 100 = k4 from e3, hf_k4, cnt_32 rfl]
      rfl
    by_cases c5 : k = 101
    · subst c5
      rw [show ad ((((((((L ++ [k1]) ++ [k2]) ++ [k3]) ++ [k4]) ++ [k5]) ++ [k6]) ++ [k7]) ++ [k8]) 101 = k5 from e4, hf_k5, cnt_33 rfl]
      rfl
    by_cases c6 : k = 102
    · subst c6
      rw [show ad ((((((((L ++ [k1]) ++ [k2]) ++ [k3]) ++ [k4]) ++ [k5]) ++ [k6]) ++ [k7]) ++ [k8]) 102 = k6 from e5, hf_k6, cnt_34 rfl]
      rfl
    by_cases c7 : k = 103
    · subst c7
      rw [show ad ((((((((L ++ [k1]) ++ [k2]) ++ [k3]) ++ [k4]) ++ [k5]) ++ [k6]) ++ [k7]) ++ [k8]) 103 = k7 from e6, hf_k7, cnt_35 rfl]
      rfl
    by_cases c8 : k = 104
    · subst c8
      rw [show ad ((((((((L ++ [k1]) ++ [k2]) ++ [k3]) ++ [k4]) ++ [k5]) ++ [k6]) ++ [k7]) ++ [k8]) 104 = k8 from e7, hf_k8, cnt_36 rfl]
      rfl
    exact absurd hk5 (by omega)
