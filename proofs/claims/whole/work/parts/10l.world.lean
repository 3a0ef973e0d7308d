theorem cnt_appA {G : GG} {L M : List Nat} {k : Nat} {v : Nat → Int32} (hk : k < 96) (hl : 96 ≤ L.length) : cnt G (L ++ M) k v = cnt G L k v := by
  by_cases h22 : k = 22
  · subst h22
    rw [cnt_26 rfl, cnt_26 rfl]
    refine congrArg (fun z => aO G 6 z) ?_
    funext j
    by_cases hj : j < 6
    · rw [if_pos hj, if_pos hj, ad_app (by unfold pastR; omega)]
    · rw [if_neg hj, if_neg hj]
  · by_cases h23 : k = 23
    · subst h23
      rw [cnt_27 rfl, cnt_27 rfl]
      refine congrArg (fun z => aO G 2 z) ?_
      funext j
      by_cases hj : j < 2
      · rw [if_pos hj, if_pos hj, ad_app (by unfold slotR; omega)]
      · rw [if_neg hj, if_neg hj]
    · exact cnt_app hk h22 h23 (Nat.lt_of_lt_of_le (rch_96 k hk) hl)
theorem cnt_appB {G : GG} {L M : List Nat} {k : Nat} {v : Nat → Int32} (hk : k < 105) (hl : L.length = 105) : cnt G (L ++ M) k v = cnt G L k v := by
  by_cases h96 : k < 96
  · exact cnt_appA h96 (by omega)
  · have r : ∀ j, j < 105 → ad (L ++ M) j = ad L j := fun j hj => ad_app (by omega)
    have rr : ∀ x, rowR x < 105 := fun x => by
      unfold rowR
      split
      · omega
      · omega
    have hc : k = 96 ∨ k = 97 ∨ k = 98 ∨ k = 99 ∨ k = 100 ∨ k = 101 ∨ k = 102 ∨ k = 103 ∨ k = 104 := by omega
    rcases hc with rfl | rfl | rfl | rfl | rfl | rfl | rfl | rfl | rfl
    · rw [cnt_9 rfl, cnt_9 rfl]
      simp only [cl9]
      rw [r 97 (by omega), r 98 (by omega), r _ (rr _), r 99 (by omega), r 100 (by omega), r 101 (by omega), r 102 (by omega), r 103 (by omega), r 104 (by omega)]
    · rw [cnt_31 rfl, cnt_31 rfl]
    · rw [cnt_31 rfl, cnt_31 rfl]
    · rw [cnt_31 rfl, cnt_31 rfl]
    · rw [cnt_32 rfl, cnt_32 rfl]
    · rw [cnt_33 rfl, cnt_33 rfl]
    · rw [cnt_34 rfl, cnt_34 rfl]
    · rw [cnt_35 rfl, cnt_35 rfl]
    · rw [cnt_36 rfl, cnt_36 rfl]
def cz : Mem := fun _ => z0
theorem az_long (N : Nat) : ∀ cA : ClassId, vp_cell cA (N, .inr (.inl (fun _ => 0))) = arrV cA N (fun _ => defaultValue .long) := fun cA => rfl
theorem az_double (N : Nat) : ∀ cA : ClassId, vp_cell cA (N, .inr (.inr (.inr (.inl (fun _ => 0))))) = arrV cA N (fun _ => defaultValue .double) := fun cA => rfl
theorem start107 {G : GG} {L : List Nat} {a b c : Mem} {q3 q4 : Nat} {f : Nat → va_E} (hL : LOK L) (hlen : L.length = 105) (h3 : q3 ∉ L) (h4 : q4 ∉ L ++ [q3]) (hf3 : f q3 = aL G 1 (fun _ => 0)) (hf4 : f q4 = aD G 1 (fun _ => 0)) (hold : ∀ x ∈ L, f x = FW G L a b c x) : LOK ((L ++ [q3]) ++ [q4]) ∧ ((L ++ [q3]) ++ [q4]).length = 107 ∧ ad ((L ++ [q3]) ++ [q4]) 105 = q3 ∧ ad ((L ++ [q3]) ++ [q4]) 106 = q4 ∧ (∀ k, k < 105 → ad ((L ++ [q3]) ++ [q4]) k = ad L k) ∧ ∀ x ∈ (L ++ [q3]) ++ [q4], f x = FW G ((L ++ [q3]) ++ [q4]) a b cz x := by
  have eL : (L ++ [q3]) ++ [q4] = L ++ [q3, q4] := by simp only [List.append_assoc, List.cons_append, List.nil_append]
  have hlen7 : ((L ++ [q3]) ++ [q4]).length = 107 := by rw [eL, List.length_append, hlen]; rfl
  have hO : LOK ((L ++ [q3]) ++ [q4]) := ⟨nodup_snoc (nodup_snoc hL.1 h3) h4, by omega, by omega⟩
  have e5 : ad ((L ++ [q3]) ++ [q4]) 105 = q3 := by rw [eL, show (105 : Nat) = 105 + 0 from rfl, ad_app2 hlen]; rfl
  have e6 : ad ((L ++ [q3]) ++ [q4]) 106 = q4 := by rw [eL, show (106 : Nat) = 105 + 1 from rfl, ad_app2 hlen]; rfl
  have eo : ∀ k, k < 105 → ad ((L ++ [q3]) ++ [q4]) k = ad L k := fun k hk => by rw [eL]; exact ad_app (by omega)
  refine ⟨hO, hlen7, e5, e6, eo, fun x hx => ?_⟩
  obtain ⟨k, hk, rfl⟩ := ad_of hx
  rw [FW_atL hO hk]
  by_cases h105 : k < 105
  · rw [eo k h105, hold _ (ad_memL (by omega)), FW_at hL h105, eL, cnt_appB h105 hlen]
    unfold rv
    rw [if_pos h105, if_pos h105]
  · by_cases c5 : k = 105
    · subst c5
      rw [e5, hf3, cnt_41 rfl]
      have : (fun i : Nat => (rv a b cz 105 i).toInt64) = fun _ => 0 := by
        funext i
        show (0 : Int32).toInt64 = 0
        decide
      rw [this]
    · have c6 : k = 106 := by omega
      subst c6
      rw [e6, hf4, cnt_42 rfl]
      have : (fun i : Nat => dbl (rv a b cz 106 (2 * i)) (rv a b cz 106 (2 * i + 1))) = fun _ => 0 := by
        funext i
        show dbl 0 0 = 0
        decide
      rw [this]
