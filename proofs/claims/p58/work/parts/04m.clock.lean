set_option maxRecDepth 100000 in
set_option maxHeartbeats 8000000 in
theorem start24 {G : GG} {f : Nat → va_E} {q k1 k2 k3 k4 k5 k6 k7 k8 k9 k10 k11 k12 k13 k14 k15 k16 k17 k18 k19 k20 k21 k22 k23 : Nat} (hk1 : k1 ∉ [q]) (hk2 : k2 ∉ ([q] ++ [k1])) (hk3 : k3 ∉ (([q] ++ [k1]) ++ [k2])) (hk4 : k4 ∉ ((([q] ++ [k1]) ++ [k2]) ++ [k3])) (hk5 : k5 ∉ (((([q] ++ [k1]) ++ [k2]) ++ [k3]) ++ [k4])) (hk6 : k6 ∉ ((((([q] ++ [k1]) ++ [k2]) ++ [k3]) ++ [k4]) ++ [k5])) (hk7 : k7 ∉ (((((([q] ++ [k1]) ++ [k2]) ++ [k3]) ++ [k4]) ++ [k5]) ++ [k6])) (hk8 : k8 ∉ ((((((([q] ++ [k1]) ++ [k2]) ++ [k3]) ++ [k4]) ++ [k5]) ++ [k6]) ++ [k7])) (hk9 : k9 ∉ (((((((([q] ++ [k1]) ++ [k2]) ++ [k3]) ++ [k4]) ++ [k5]) ++ [k6]) ++ [k7]) ++ [k8])) (hk10 : k10 ∉ ((((((((([q] ++ [k1]) ++ [k2]) ++ [k3]) ++ [k4]) ++ [k5]) ++ [k6]) ++ [k7]) ++ [k8]) ++ [k9])) (hk11 : k11 ∉ (((((((((([q] ++ [k1]) ++ [k2]) ++ [k3]) ++ [k4]) ++ [k5]) ++ [k6]) ++ [k7]) ++ [k8]) ++ [k9]) ++ [k10])) (hk12 : k12 ∉ ((((((((((([q] ++ [k1]) ++ [k2]) ++ [k3]) ++ [k4]) ++ [k5]) ++ [k6]) ++ [k7]) ++ [k8]) ++ [k9]) ++ [k10]) ++ [k11])) (hk13 : k13 ∉ (((((((((((([q] ++ [k1]) ++ [k2]) ++ [k3]) ++ [k4]) ++ [k5]) ++ [k6]) ++ [k7]) ++ [k8]) ++ [k9]) ++ [k10]) ++ [k11]) ++ [k12])) (hk14 : k14 ∉ ((((((((((((([q] ++ [k1]) ++ [k2]) ++ [k3]) ++ [k4]) ++ [k5]) ++ [k6]) ++ [k7]) ++ [k8]) ++ [k9]) ++ [k10]) ++ [k11]) ++ [k12]) ++ [k13])) (hk15 : k15 ∉ (((((((((((((([q] ++ [k1]) ++ [k2]) ++ [k3]) ++ [k4]) ++ [k5]) ++ [k6]) ++ [k7]) ++ [k8]) ++ [k9]) ++ [k10]) ++ [k11]) ++ [k12]) ++ [k13]) ++ [k14])) (hk16 : k16 ∉ ((((((((((((((([q] ++ [k1]) ++ [k2]) ++ [k3]) ++ [k4]) ++ [k5]) ++ [k6]) ++ [k7]) ++ [k8]) ++ [k9]) ++ [k10]) ++ [k11]) ++ [k12]) ++ [k13]) ++ [k14]) ++ [k15])) (hk17 : k17 ∉ (((((((((((((((([q] ++ [k1]) ++ [k2]) ++ [k3]) ++ [k4]) ++ [k5]) ++ [k6]) ++ [k7]) ++ [k8]) ++ [k9]) ++ [k10]) ++ [k11]) ++ [k12]) ++ [k13]) ++ [k14]) ++ [k15]) ++ [k16])) (hk18 : k18 ∉ ((((((((((((((((([q] ++ [k1]) ++ [k2]) ++ [k3]) ++ [k4]) ++ [k5]) ++ [k6]) ++ [k7]) ++ [k8]) ++ [k9]) ++ [k10]) ++ [k11]) ++ [k12]) ++ [k13]) ++ [k14]) ++ [k15]) ++ [k16]) ++ [k17])) (hk19 : k19 ∉ (((((((((((((((((([q] ++ [k1]) ++ [k2]) ++ [k3]) ++ [k4]) ++ [k5]) ++ [k6]) ++ [k7]) ++ [k8]) ++ [k9]) ++ [k10]) ++ [k11]) ++ [k12]) ++ [k13]) ++ [k14]) ++ [k15]) ++ [k16]) ++ [k17]) ++ [k18])) (hk20 : k20 ∉ ((((((((((((((((((([q] ++ [k1]) ++ [k2]) ++ [k3]) ++ [k4]) ++ [k5]) ++ [k6]) ++ [k7]) ++ [k8]) ++ [k9]) ++ [k10]) ++ [k11]) ++ [k12]) ++ [k13]) ++ [k14]) ++ [k15]) ++ [k16]) ++ [k17]) ++ [k18]) ++ [k19])) (hk21 : k21 ∉ (((((((((((((((((((([q] ++ [k1]) ++ [k2]) ++ [k3]) ++ [k4]) ++ [k5]) ++ [k6]) ++ [k7]) ++ [k8]) ++ [k9]) ++ [k10]) ++ [k11]) ++ [k12]) ++ [k13]) ++ [k14]) ++ [k15]) ++ [k16]) ++ [k17]) ++ [k18]) ++ [k19]) ++ [k20])) (hk22 : k22 ∉ ((((((((((((((((((((([q] ++ [k1]) ++ [k2]) ++ [k3]) ++ [k4]) ++ [k5]) ++ [k6]) ++ [k7]) ++ [k8]) ++ [k9]) ++ [k10]) ++ [k11]) ++ [k12]) ++ [k13]) ++ [k14]) ++ [k15]) ++ [k16]) ++ [k17]) ++ [k18]) ++ [k19]) ++ [k20]) ++ [k21])) (hk23 : k23 ∉ (((((((((((((((((((((([q] ++ [k1]) ++ [k2]) ++ [k3]) ++ [k4]) ++ [k5]) ++ [k6]) ++ [k7]) ++ [k8]) ++ [k9]) ++ [k10]) ++ [k11]) ++ [k12]) ++ [k13]) ++ [k14]) ++ [k15]) ++ [k16]) ++ [k17]) ++ [k18]) ++ [k19]) ++ [k20]) ++ [k21]) ++ [k22])) (hf_q : f q = (.inr (8, [.ref k1, .ref k2, .ref k6, .ref k8, .ref k17, .ref k22, .int 0, .int 0, .ref k23]))) (hf_k1 : f k1 = (.inr (3, [.ref k2, .ref k4, .int 0, .int (-1), .int 0, .int 0, .int (-1), .int 0, .int 0, .int 0, .int 0]))) (hf_k2 : f k2 = (.inr (0, [.ref k3, .int 0]))) (hf_k3 : f k3 = (aB G 400 z0)) (hf_k4 : f k4 = (.inr (4, [.ref k5, .int 0, .int 0, .int 0, .int (-1)]))) (hf_k5 : f k5 = (aI G 25 z0)) (hf_k6 : f k6 = (.inr (2, [.ref k7, .int 0]))) (hf_k7 : f k7 = (aB G 256 z0)) (hf_k8 : f k8 = (.inr (6, [.ref k9, .ref k11, .ref k13, .ref k15, .int 0, .int 0, .int 0, .int (-1), .int (-1), .int 0, .int 0, .int 0]))) (hf_k9 : f k9 = (.inr (4, [.ref k10, .int (1), .int 0, .int 0, .int (-1)]))) (hf_k10 : f k10 = (aI G 25 tm0)) (hf_k11 : f k11 = (.inr (1, [.ref k12, .int 0, .int 0]))) (hf_k12 : f k12 = (aI G 240 z0)) (hf_k13 : f k13 = (.inr (5, [.ref k14, .int 3000, .int 0, .int 0, .int 0, .int 0, .int 0, .int 0, .int 0, .int 0, .int 0, .int 0, .int 0]))) (hf_k14 : f k14 = (aI G 5 z0)) (hf_k15 : f k15 = (.inr (5, [.ref k16, .int 3000, .int 0, .int 0, .int 0, .int 0, .int 0, .int 0, .int 0, .int 0, .int 0, .int 0, .int 0]))) (hf_k16 : f k16 = (aI G 5 z0)) (hf_k17 : f k17 = (.inr (7, [.ref k18, .ref k20, .int 0, .int 0, .int 0, .int 0]))) (hf_k18 : f k18 = (.inr (5, [.ref k19, .int 0, .int 0, .int 0, .int 0, .int 0, .int 0, .int 0, .int 0, .int 0, .int 0, .int 0, .int 0]))) (hf_k19 : f k19 = (aI G 5 z0)) (hf_k20 : f k20 = (.inr (5, [.ref k21, .int 0, .int 0, .int 0, .int 0, .int 0, .int 0, .int 0, .int 0, .int 0, .int 0, .int 0, .int 0]))) (hf_k21 : f k21 = (aI G 5 z0)) (hf_k22 : f k22 = (aO G 6 (fun _ => none))) (hf_k23 : f k23 = (aO G 2 (fun _ => none))) : Inv G 24 ((((((((((((((((((((((([q] ++ [k1]) ++ [k2]) ++ [k3]) ++ [k4]) ++ [k5]) ++ [k6]) ++ [k7]) ++ [k8]) ++ [k9]) ++ [k10]) ++ [k11]) ++ [k12]) ++ [k13]) ++ [k14]) ++ [k15]) ++ [k16]) ++ [k17]) ++ [k18]) ++ [k19]) ++ [k20]) ++ [k21]) ++ [k22]) ++ [k23]) f ∧ ((((((((((((((((((((((([q] ++ [k1]) ++ [k2]) ++ [k3]) ++ [k4]) ++ [k5]) ++ [k6]) ++ [k7]) ++ [k8]) ++ [k9]) ++ [k10]) ++ [k11]) ++ [k12]) ++ [k13]) ++ [k14]) ++ [k15]) ++ [k16]) ++ [k17]) ++ [k18]) ++ [k19]) ++ [k20]) ++ [k21]) ++ [k22]) ++ [k23]).head? = some q ∧ f (ad ((((((((((((((((((((((([q] ++ [k1]) ++ [k2]) ++ [k3]) ++ [k4]) ++ [k5]) ++ [k6]) ++ [k7]) ++ [k8]) ++ [k9]) ++ [k10]) ++ [k11]) ++ [k12]) ++ [k13]) ++ [k14]) ++ [k15]) ++ [k16]) ++ [k17]) ++ [k18]) ++ [k19]) ++ [k20]) ++ [k21]) ++ [k22]) ++ [k23]) 22) = aO G 6 (fun j => if j < 0 then some (ad ((((((((((((((((((((((([q] ++ [k1]) ++ [k2]) ++ [k3]) ++ [k4]) ++ [k5]) ++ [k6]) ++ [k7]) ++ [k8]) ++ [k9]) ++ [k10]) ++ [k11]) ++ [k12]) ++ [k13]) ++ [k14]) ++ [k15]) ++ [k16]) ++ [k17]) ++ [k18]) ++ [k19]) ++ [k20]) ++ [k21]) ++ [k22]) ++ [k23]) (pastR j)) else none) ∧ f (ad ((((((((((((((((((((((([q] ++ [k1]) ++ [k2]) ++ [k3]) ++ [k4]) ++ [k5]) ++ [k6]) ++ [k7]) ++ [k8]) ++ [k9]) ++ [k10]) ++ [k11]) ++ [k12]) ++ [k13]) ++ [k14]) ++ [k15]) ++ [k16]) ++ [k17]) ++ [k18]) ++ [k19]) ++ [k20]) ++ [k21]) ++ [k22]) ++ [k23]) 23) = aO G 2 (fun j => if j < 0 then some (ad ((((((((((((((((((((((([q] ++ [k1]) ++ [k2]) ++ [k3]) ++ [k4]) ++ [k5]) ++ [k6]) ++ [k7]) ++ [k8]) ++ [k9]) ++ [k10]) ++ [k11]) ++ [k12]) ++ [k13]) ++ [k14]) ++ [k15]) ++ [k16]) ++ [k17]) ++ [k18]) ++ [k19]) ++ [k20]) ++ [k21]) ++ [k22]) ++ [k23]) (slotR j)) else none) := by
  have eL : ((((((((((((((((((((((([q] ++ [k1]) ++ [k2]) ++ [k3]) ++ [k4]) ++ [k5]) ++ [k6]) ++ [k7]) ++ [k8]) ++ [k9]) ++ [k10]) ++ [k11]) ++ [k12]) ++ [k13]) ++ [k14]) ++ [k15]) ++ [k16]) ++ [k17]) ++ [k18]) ++ [k19]) ++ [k20]) ++ [k21]) ++ [k22]) ++ [k23]) = [q, k1, k2, k3, k4, k5, k6, k7, k8, k9, k10, k11, k12, k13, k14, k15, k16, k17, k18, k19, k20, k21, k22, k23] := by simp only [List.append_assoc, List.cons_append, List.nil_append]
  have hnd := (nodup_snoc (nodup_snoc (nodup_snoc (nodup_snoc (nodup_snoc (nodup_snoc (nodup_snoc (nodup_snoc (nodup_snoc (nodup_snoc (nodup_snoc (nodup_snoc (nodup_snoc (nodup_snoc (nodup_snoc (nodup_snoc (nodup_snoc (nodup_snoc (nodup_snoc (nodup_snoc (nodup_snoc (nodup_snoc (nodup_snoc (show [q].Nodup from List.pairwise_singleton _ _) hk1) hk2) hk3) hk4) hk5) hk6) hk7) hk8) hk9) hk10) hk11) hk12) hk13) hk14) hk15) hk16) hk17) hk18) hk19) hk20) hk21) hk22) hk23)
  rw [eL] at hnd ⊢
  refine ⟨⟨hnd, rfl, fun k hk h22 h23 => ?_⟩, rfl, ?_, ?_⟩
  · match k, hk with
    | 0, _ =>
      show f q = _
      rw [hf_q, cnt_8 rfl]
      rfl
    | 1, _ =>
      show f k1 = _
      rw [hf_k1, cnt_3 rfl]
      rfl
    | 2, _ =>
      show f k2 = _
      rw [hf_k2, cnt_0 rfl]
      rfl
    | 3, _ =>
      show f k3 = _
      rw [hf_k3, cnt_24 rfl]
      rfl
    | 4, _ =>
      show f k4 = _
      rw [hf_k4, cnt_4 rfl]
      rfl
    | 5, _ =>
      show f k5 = _
      rw [hf_k5, cnt_21 rfl]
      rfl
    | 6, _ =>
      show f k6 = _
      rw [hf_k6, cnt_2 rfl]
      rfl
    | 7, _ =>
      show f k7 = _
      rw [hf_k7, cnt_25 rfl]
      rfl
    | 8, _ =>
      show f k8 = _
      rw [hf_k8, cnt_6 rfl]
      rfl
    | 9, _ =>
      show f k9 = _
      rw [hf_k9, cnt_4 rfl]
      rfl
    | 10, _ =>
      show f k10 = _
      rw [hf_k10, cnt_21 rfl]
      rfl
    | 11, _ =>
      show f k11 = _
      rw [hf_k11, cnt_1 rfl]
      rfl
    | 12, _ =>
      show f k12 = _
      rw [hf_k12, cnt_22 rfl]
      rfl
    | 13, _ =>
      show f k13 = _
      rw [hf_k13, cnt_5 rfl]
      rfl
    | 14, _ =>
      show f k14 = _
      rw [hf_k14, cnt_23 rfl]
      rfl
    | 15, _ =>
      show f k15 = _
      rw [hf_k15, cnt_5 rfl]
      rfl
    | 16, _ =>
      show f k16 = _
      rw [hf_k16, cnt_23 rfl]
      rfl
    | 17, _ =>
      show f k17 = _
      rw [hf_k17, cnt_7 rfl]
      rfl
    | 18, _ =>
      show f k18 = _
      rw [hf_k18, cnt_5 rfl]
      rfl
    | 19, _ =>
      show f k19 = _
      rw [hf_k19, cnt_23 rfl]
      rfl
    | 20, _ =>
      show f k20 = _
      rw [hf_k20, cnt_5 rfl]
      rfl
    | 21, _ =>
      show f k21 = _
      rw [hf_k21, cnt_23 rfl]
      rfl
    | 22, _ =>
      exact absurd rfl h22
    | 23, _ =>
      exact absurd rfl h23
    | n + 24, h =>
      exact absurd h (by omega)
  · show f k22 = _
    rw [hf_k22]
    simp only [Nat.not_lt_zero, if_false]
  · show f k23 = _
    rw [hf_k23]
    simp only [Nat.not_lt_zero, if_false]
theorem ad_inj {L : List Nat} (hnd : L.Nodup) {a b : Nat} (ha : a < L.length) (hb : b < L.length) (h : ad L a = ad L b) : a = b := by
  unfold ad at h
  rw [List.getD_eq_getElem?_getD, List.getD_eq_getElem?_getD, List.getElem?_eq_getElem ha, List.getElem?_eq_getElem hb] at h
  have h1 : L[a] = L[b] := h
  rw [← List.Nodup.idxOf_getElem hnd a ha, ← List.Nodup.idxOf_getElem hnd b hb, h1]
theorem clock_post {G : GG} {L : List Nat} {f : Nat → va_E} {q : Nat} (hI : Inv G (24 + 9 * (6 + 2)) L f) (hh : L.head? = some q) (hrow : f (ad L 23) = aO G 2 (fun j => if j < 2 then some (ad L (slotR j)) else none)) (hoth : f (ad L 22) = aO G 6 (fun j => if j < 6 then some (ad L (pastR j)) else none)) : (none : Option Value) = none ∧ L.Nodup ∧ L.length = 96 ∧ L.head? = some q ∧ ∀ k, k < 96 → f (ad L k) = cnt G L k (a0 k) := by
  refine ⟨rfl, hI.1, hI.2.1, hh, fun k hk => ?_⟩
  by_cases h1 : k = 22
  · rw [h1, hoth, cnt_26 rfl]
  · by_cases h2 : k = 23
    · rw [h2, hrow, cnt_27 rfl]
    · exact hI.2.2 k hk h1 h2
set_option maxRecDepth 100000 in
set_option maxHeartbeats 4000000 in
theorem loopB {l : Launch} (hl : l.stackTraces = false) {G : GG} {q : Nat} {f0 : Nat → va_E} {p : Program} {e : Env} {s : State} {m : MethodId} {below : List Frame} {meth : Method} {c : Code} {A : Nat → Prop} {ar : Array Value} {Q : State → Prop} (hQ : Q = vx_MQ below (Qg G A (fun r L1 f1 => r = none ∧ L1.Nodup ∧ L1.length = 96 ∧ L1.head? = some q ∧ ∀ k, k < 96 → f1 (ad L1 k) = cnt G L1 k (a0 k))) (Xg G A [q] f0 px0) ar s 95 3640 A) (X : Cx G p l s m ar meth c A RX8 cX8_init 2 none []) : ∀ d i : Nat, i + d = 2 → ∀ (L : List Nat) (f : Nat → va_E), (Inv G (24 + 9 * (6 + i)) L f ∧ L.head? = some q ∧ f (ad L 23) = aO G 2 (fun j => if j < i then some (ad L (slotR j)) else none) ∧ f (ad L 22) = aO G 6 (fun j => if j < 6 then some (ad L (pastR j)) else none)) → J G p l e ({ frames := 5, cells := 95, slots := 3640, locals := 101 } : Room) s m ar below meth c A Q 2 (23 + 9 * (6 + i)) (1072 + 321 * (6 + i)) 108 [some (.ref q), some (.int (nI i))] [] L f  := by
  intro d
  induction d with
  | zero =>
    intro i hi L f hP
    have hi2 : i = 2 := by omega
    subst hi2
    obtain ⟨hI, hh, hrow, hoth⟩ := hP
    have hq0 : ad L 0 = q := by
      cases L with
      | nil =>
        cases hh
      | cons x t =>
        exact Option.some.inj hh
    have hlen := hI.2.1
    have mq : q ∈ L := by
      cases L with
      | nil =>
        cases hh
      | cons x t =>
        cases hh
        exact List.mem_cons_self
    have hf0 : f q = .inr (8, cl8 L 0 (a0 0)) := by
      rw [← hq0, hI.2.2 0 (by omega) (by decide) (by decide), cnt_8 rfl]
    have mrow : ad L 23 ∈ L := by
      unfold ad
      rw [List.getD_eq_getElem?_getD, List.getElem?_eq_getElem (by omega)]
      exact List.getElem_mem _
    refine j_iload_n X (i := 1) dX8_init_108 rfl rfl ?_
    refine j_aload_n X (i := 0) dX8_init_109 rfl rfl ?_
    refine j_getf X 8 8 rfl cw_X8 fl_X8_46 (by decide) dX8_init_110 mq hf0 rfl ?_
    refine j_alenN X (k9 := 5) dX8_init_113 mrow hrow rfl ?_
    refine j_icmp_ge X (tgt := 136) dX8_init_114 (by decide) (fun h => ?_) (fun h => absurd (by decide) h)
    exact q_vret X hQ dX8_init_136 rfl ⟨(by decide), (by decide)⟩ (clock_post hI hh hrow hoth)
  | succ d ih =>
    intro i hi L f hP
    have hi2 : i < 2 := by omega
    obtain ⟨hI, hh, hrow, hoth⟩ := hP
    have hq0 : ad L 0 = q := by
      cases L with
      | nil =>
        cases hh
      | cons x t =>
        exact Option.some.inj hh
    have hlen := hI.2.1
    have mq : q ∈ L := by
      cases L with
      | nil =>
        cases hh
      | cons x t =>
        cases hh
        exact List.mem_cons_self
    have hf0 : f q = .inr (8, cl8 L 0 (a0 0)) := by
      rw [← hq0, hI.2.2 0 (by omega) (by decide) (by decide), cnt_8 rfl]
    have mrow : ad L 23 ∈ L := by
      unfold ad
      rw [List.getD_eq_getElem?_getD, List.getElem?_eq_getElem (by omega)]
      exact List.getElem_mem _
    refine j_iload_n X (i := 1) dX8_init_108 rfl rfl ?_
    refine j_aload_n X (i := 0) dX8_init_109 rfl rfl ?_
    refine j_getf X 8 8 rfl cw_X8 fl_X8_46 (by decide) dX8_init_110 mq hf0 rfl ?_
    refine j_alenN X (k9 := 5) dX8_init_113 mrow hrow rfl ?_
    refine j_icmp_ge X (tgt := 136) dX8_init_114 (by decide) (fun h => absurd ((nI_leI (by decide) (by omega)).mp h) (by omega)) (fun h => ?_)
    refine j_aload_n X (i := 0) dX8_init_117 rfl rfl ?_
    refine j_getf X 8 8 rfl cw_X8 fl_X8_46 (by decide) dX8_init_118 mq hf0 rfl ?_
    refine j_iload_n X (i := 1) dX8_init_121 rfl rfl ?_
    refine j_new X 6 cw_X6 tyX6 tyX6_ok cl_X8_28 is_X6 in_X6 rfl df6_ok ⟨(by show _ ≤ 95; omega), (by show _ ≤ 3640; omega)⟩ dX8_init_122 (fun q9 hq9 => ?_)
    refine j_dup X dX8_init_125 rfl ?_
    refine j_callI X (k_X6_init hl (List.mem_append_right L (List.mem_singleton.mpr rfl)) up_s) ml_X8_30 im_yX6_init in_X6 cd_yX6_init rfl hi_yX6_init dX8_init_126 ⟨(by decide), (by decide)⟩ ⟨(by show _ ≤ 95; omega), (by show _ ≤ 3640; omega)⟩ (Nat.le_of_ble_eq_true rfl) (fun _ h => h.elim) (fun r9 L9 f9 h9 => ?_)
    obtain ⟨h91, k1, k2, k3, k4, k5, k6, k7, k8, hk1, hk2, hk3, hk4, hk5, hk6, hk7, hk8, h92, h93⟩ := h9
    subst r9
    obtain ⟨hI2, hq2, hold⟩ := grow hI rfl (by omega : 6 + i < 8) hq9 hk1 hk2 hk3 hk4 hk5 hk6 hk7 hk8
    rw [← h92, ← h93] at hI2
    rw [← h92] at hq2 hold
    have hsub : ∀ x ∈ L, x ∈ L9 := fun x hx => by rw [h92]; simp [hx]
    have hkeep : ∀ x ∈ L, f9 x = f x := by
      intro x hx
      have x0 : x ≠ q9 := fun h => hq9 (h ▸ hx)
      have x1 : x ≠ k1 := fun h => hk1 (by rw [← h]; simp [hx])
      have x2 : x ≠ k2 := fun h => hk2 (by rw [← h]; simp [hx])
      have x3 : x ≠ k3 := fun h => hk3 (by rw [← h]; simp [hx])
      have x4 : x ≠ k4 := fun h => hk4 (by rw [← h]; simp [hx])
      have x5 : x ≠ k5 := fun h => hk5 (by rw [← h]; simp [hx])
      have x6 : x ≠ k6 := fun h => hk6 (by rw [← h]; simp [hx])
      have x7 : x ≠ k7 := fun h => hk7 (by rw [← h]; simp [hx])
      have x8 : x ≠ k8 := fun h => hk8 (by rw [← h]; simp [hx])
      rw [h93]
      simp only [va_up, if_neg x0, if_neg x1, if_neg x2, if_neg x3, if_neg x4, if_neg x5, if_neg x6, if_neg x7, if_neg x8]
    have mq9 : q9 ∈ L9 := by rw [h92]; simp
    have hf9 : ∃ vs, f9 q9 = .inr (6, vs) := by
      have h8 := hI2.2.2 (24 + 9 * (6 + i) + 0) (by omega) (by omega) (by omega)
      rw [hq2] at h8
      rw [cnt_6 (ty_blk0 (6 + i) (by omega))] at h8
      exact ⟨_, h8⟩
    obtain ⟨vs, hvs⟩ := hf9
    have er : ad L9 23 = ad L 23 := hold 23 (by omega)
    dsimp only [Option.toList, List.nil_append]
    refine j_aast X dX8_init_129 (hsub _ mrow) ((hkeep _ mrow).trans hrow) mq9 hvs (vp_in_nI hi2 (by decide)) ?_
    refine j_iinc X (nI (i + 1)) dX8_init_130 rfl (nI_succ i).symm (by decide) (lvOK_s rfl okPrev_ref) ?_
    dsimp only [List.set]
    refine j_goto X (tgt := 108) dX8_init_133 (by decide) ?_
    refine J.widen (c1 := 23 + 9 * (6 + (i + 1))) (s1 := 1072 + 321 * (6 + (i + 1))) (by omega) (by omega) ?_
    refine ih (i + 1) (by omega) L9 _ ⟨⟨hI2.1, by rw [hI2.2.1]; omega, fun k hk h22 h23 => ?_⟩, ?_, ?_, ?_⟩
    · rw [va_up_ne]
      · exact hI2.2.2 k (by omega) h22 h23
      · rw [← er]
        intro h8
        exact h23 (ad_inj hI2.1 (by rw [hI2.2.1]; omega) (by rw [hI2.2.1]; omega) h8)
    · rw [h92]
      simp only [List.append_assoc]
      rw [List.head?_append, hh]
      rfl
    · rw [er, va_up_self]
      refine congrArg (fun z => aO G 2 z) ?_
      funext j
      rw [nI_clamp (by omega)]
      unfold va_up
      by_cases hj : j = i
      · subst hj
        rw [if_pos rfl, if_pos (by omega)]
        have e8 : slotR j = 24 + 9 * (6 + j) + 0 := by unfold slotR; omega
        rw [e8, hq2]
      · rw [if_neg hj]
        show (if j < i then some (ad L (slotR j)) else none) = _
        by_cases hj2 : j < i
        · rw [if_pos hj2, if_pos (by omega), hold (slotR j) (by unfold slotR; omega)]
        · rw [if_neg hj2, if_neg (by omega)]
    · have er2 : ad L9 22 = ad L 22 := hold 22 (by omega)
      rw [va_up_ne]
      · rw [er2, hkeep _ (by unfold ad; rw [List.getD_eq_getElem?_getD, List.getElem?_eq_getElem (by omega)]; exact List.getElem_mem _), hoth]
        skip
        have e7 : (fun j => if j < 6 then some (ad L (pastR j)) else none) = (fun j => if j < 6 then some (ad L9 (pastR j)) else none) := by
          funext j
          by_cases hj : j < 6
          · rw [if_pos hj, if_pos hj, hold (pastR j) (by unfold pastR; omega)]
          · rw [if_neg hj, if_neg hj]
        rw [e7]
      · rw [er2]
        intro h8
        exact absurd (ad_inj hI.1 (by omega) (by omega) h8) (by decide)
set_option maxRecDepth 100000 in
set_option maxHeartbeats 4000000 in
theorem loopA {l : Launch} (hl : l.stackTraces = false) {G : GG} {q : Nat} {f0 : Nat → va_E} {p : Program} {e : Env} {s : State} {m : MethodId} {below : List Frame} {meth : Method} {c : Code} {A : Nat → Prop} {ar : Array Value} {Q : State → Prop} (hQ : Q = vx_MQ below (Qg G A (fun r L1 f1 => r = none ∧ L1.Nodup ∧ L1.length = 96 ∧ L1.head? = some q ∧ ∀ k, k < 96 → f1 (ad L1 k) = cnt G L1 k (a0 k))) (Xg G A [q] f0 px0) ar s 95 3640 A) (X : Cx G p l s m ar meth c A RX8 cX8_init 2 none []) : ∀ d i : Nat, i + d = 6 → ∀ (L : List Nat) (f : Nat → va_E), (Inv G (24 + 9 * (0 + i)) L f ∧ L.head? = some q ∧ f (ad L 22) = aO G 6 (fun j => if j < i then some (ad L (pastR j)) else none) ∧ f (ad L 23) = aO G 2 (fun j => if j < 0 then some (ad L (slotR j)) else none)) → J G p l e ({ frames := 5, cells := 95, slots := 3640, locals := 101 } : Room) s m ar below meth c A Q 2 (23 + 9 * (0 + i)) (1072 + 321 * (0 + i)) 78 [some (.ref q), some (.int (nI i))] [] L f  := by
  intro d
  induction d with
  | zero =>
    intro i hi L f hP
    have hi2 : i = 6 := by omega
    subst hi2
    obtain ⟨hI, hh, hrow, hoth⟩ := hP
    have hq0 : ad L 0 = q := by
      cases L with
      | nil =>
        cases hh
      | cons x t =>
        exact Option.some.inj hh
    have hlen := hI.2.1
    have mq : q ∈ L := by
      cases L with
      | nil =>
        cases hh
      | cons x t =>
        cases hh
        exact List.mem_cons_self
    have hf0 : f q = .inr (8, cl8 L 0 (a0 0)) := by
      rw [← hq0, hI.2.2 0 (by omega) (by decide) (by decide), cnt_8 rfl]
    have mrow : ad L 22 ∈ L := by
      unfold ad
      rw [List.getD_eq_getElem?_getD, List.getElem?_eq_getElem (by omega)]
      exact List.getElem_mem _
    refine j_iload_n X (i := 1) dX8_init_78 rfl rfl ?_
    refine j_aload_n X (i := 0) dX8_init_79 rfl rfl ?_
    refine j_getf X 8 5 rfl cw_X8 fl_X8_42 (by decide) dX8_init_80 mq hf0 rfl ?_
    refine j_alenN X (k9 := 5) dX8_init_83 mrow hrow rfl ?_
    refine j_icmp_ge X (tgt := 106) dX8_init_84 (by decide) (fun h => ?_) (fun h => absurd (by decide) h)
    refine j_iconst X (0) dX8_init_106 (by decide) ?_
    refine j_istore_n X (i := 1) dX8_init_107 rfl (by decide) (lvOK_s rfl okPrev_ref) ?_
    dsimp only [List.set]
    exact loopB hl hQ X 2 0 rfl L f ⟨hI, hh, hoth, hrow⟩
  | succ d ih =>
    intro i hi L f hP
    have hi2 : i < 6 := by omega
    obtain ⟨hI, hh, hrow, hoth⟩ := hP
    have hq0 : ad L 0 = q := by
      cases L with
      | nil =>
        cases hh
      | cons x t =>
        exact Option.some.inj hh
    have hlen := hI.2.1
    have mq : q ∈ L := by
      cases L with
      | nil =>
        cases hh
      | cons x t =>
        cases hh
        exact List.mem_cons_self
    have hf0 : f q = .inr (8, cl8 L 0 (a0 0)) := by
      rw [← hq0, hI.2.2 0 (by omega) (by decide) (by decide), cnt_8 rfl]
    have mrow : ad L 22 ∈ L := by
      unfold ad
      rw [List.getD_eq_getElem?_getD, List.getElem?_eq_getElem (by omega)]
      exact List.getElem_mem _
    refine j_iload_n X (i := 1) dX8_init_78 rfl rfl ?_
    refine j_aload_n X (i := 0) dX8_init_79 rfl rfl ?_
    refine j_getf X 8 5 rfl cw_X8 fl_X8_42 (by decide) dX8_init_80 mq hf0 rfl ?_
    refine j_alenN X (k9 := 5) dX8_init_83 mrow hrow rfl ?_
    refine j_icmp_ge X (tgt := 106) dX8_init_84 (by decide) (fun h => absurd ((nI_leI (by decide) (by omega)).mp h) (by omega)) (fun h => ?_)
    refine j_aload_n X (i := 0) dX8_init_87 rfl rfl ?_
    refine j_getf X 8 5 rfl cw_X8 fl_X8_42 (by decide) dX8_init_88 mq hf0 rfl ?_
    refine j_iload_n X (i := 1) dX8_init_91 rfl rfl ?_
    refine j_new X 6 cw_X6 tyX6 tyX6_ok cl_X8_28 is_X6 in_X6 rfl df6_ok ⟨(by show _ ≤ 95; omega), (by show _ ≤ 3640; omega)⟩ dX8_init_92 (fun q9 hq9 => ?_)
    refine j_dup X dX8_init_95 rfl ?_
    refine j_callI X (k_X6_init hl (List.mem_append_right L (List.mem_singleton.mpr rfl)) up_s) ml_X8_30 im_yX6_init in_X6 cd_yX6_init rfl hi_yX6_init dX8_init_96 ⟨(by decide), (by decide)⟩ ⟨(by show _ ≤ 95; omega), (by show _ ≤ 3640; omega)⟩ (Nat.le_of_ble_eq_true rfl) (fun _ h => h.elim) (fun r9 L9 f9 h9 => ?_)
    obtain ⟨h91, k1, k2, k3, k4, k5, k6, k7, k8, hk1, hk2, hk3, hk4, hk5, hk6, hk7, hk8, h92, h93⟩ := h9
    subst r9
    obtain ⟨hI2, hq2, hold⟩ := grow hI rfl (by omega : 0 + i < 8) hq9 hk1 hk2 hk3 hk4 hk5 hk6 hk7 hk8
    rw [← h92, ← h93] at hI2
    rw [← h92] at hq2 hold
    have hsub : ∀ x ∈ L, x ∈ L9 := fun x hx => by rw [h92]; simp [hx]
    have hkeep : ∀ x ∈ L, f9 x = f x := by
      intro x hx
      have x0 : x ≠ q9 := fun h => hq9 (h ▸ hx)
      have x1 : x ≠ k1 := fun h => hk1 (by rw [← h]; simp [hx])
      have x2 : x ≠ k2 := fun h => hk2 (by rw [← h]; simp [hx])
      have x3 : x ≠ k3 := fun h => hk3 (by rw [← h]; simp [hx])
      have x4 : x ≠ k4 := fun h => hk4 (by rw [← h]; simp [hx])
      have x5 : x ≠ k5 := fun h => hk5 (by rw [← h]; simp [hx])
      have x6 : x ≠ k6 := fun h => hk6 (by rw [← h]; simp [hx])
      have x7 : x ≠ k7 := fun h => hk7 (by rw [← h]; simp [hx])
      have x8 : x ≠ k8 := fun h => hk8 (by rw [← h]; simp [hx])
      rw [h93]
      simp only [va_up, if_neg x0, if_neg x1, if_neg x2, if_neg x3, if_neg x4, if_neg x5, if_neg x6, if_neg x7, if_neg x8]
    have mq9 : q9 ∈ L9 := by rw [h92]; simp
    have hf9 : ∃ vs, f9 q9 = .inr (6, vs) := by
      have h8 := hI2.2.2 (24 + 9 * (0 + i) + 0) (by omega) (by omega) (by omega)
      rw [hq2] at h8
      rw [cnt_6 (ty_blk0 (0 + i) (by omega))] at h8
      exact ⟨_, h8⟩
    obtain ⟨vs, hvs⟩ := hf9
    have er : ad L9 22 = ad L 22 := hold 22 (by omega)
    dsimp only [Option.toList, List.nil_append]
    refine j_aast X dX8_init_99 (hsub _ mrow) ((hkeep _ mrow).trans hrow) mq9 hvs (vp_in_nI hi2 (by decide)) ?_
    refine j_iinc X (nI (i + 1)) dX8_init_100 rfl (nI_succ i).symm (by decide) (lvOK_s rfl okPrev_ref) ?_
    dsimp only [List.set]
    refine j_goto X (tgt := 78) dX8_init_103 (by decide) ?_
    refine J.widen (c1 := 23 + 9 * (0 + (i + 1))) (s1 := 1072 + 321 * (0 + (i + 1))) (by omega) (by omega) ?_
    refine ih (i + 1) (by omega) L9 _ ⟨⟨hI2.1, by rw [hI2.2.1]; omega, fun k hk h22 h23 => ?_⟩, ?_, ?_, ?_⟩
    · rw [va_up_ne]
      · exact hI2.2.2 k (by omega) h22 h23
      · rw [← er]
        intro h8
        exact h22 (ad_inj hI2.1 (by rw [hI2.2.1]; omega) (by rw [hI2.2.1]; omega) h8)
    · rw [h92]
      simp only [List.append_assoc]
      rw [List.head?_append, hh]
      rfl
    · rw [er, va_up_self]
      refine congrArg (fun z => aO G 6 z) ?_
      funext j
      rw [nI_clamp (by omega)]
      unfold va_up
      by_cases hj : j = i
      · subst hj
        rw [if_pos rfl, if_pos (by omega)]
        have e8 : pastR j = 24 + 9 * (0 + j) + 0 := by unfold pastR; omega
        rw [e8, hq2]
      · rw [if_neg hj]
        show (if j < i then some (ad L (pastR j)) else none) = _
        by_cases hj2 : j < i
        · rw [if_pos hj2, if_pos (by omega), hold (pastR j) (by unfold pastR; omega)]
        · rw [if_neg hj2, if_neg (by omega)]
    · have er2 : ad L9 23 = ad L 23 := hold 23 (by omega)
      rw [va_up_ne]
      · rw [er2, hkeep _ (by unfold ad; rw [List.getD_eq_getElem?_getD, List.getElem?_eq_getElem (by omega)]; exact List.getElem_mem _), hoth]
        simp only [Nat.not_lt_zero, if_false]
      · rw [er2]
        intro h8
        exact absurd (ad_inj hI.1 (by omega) (by omega) h8) (by decide)

