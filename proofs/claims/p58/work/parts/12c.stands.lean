/-! stands, by contract: out of what holds of the class's row -/
def MTE (R S : Nat → Int32) : Int32 := if rn R (S 2) 0 = 0 then -1 else rn R (S 2) 0 - S 3
def SUMS (S : Nat → Int32) : Nat → Int32
  | 0 => 0
  | p + 1 => SUMS S p + S (12 + p)
/-- what the asks answer -/
def ANS (a : Mem) (g : Nat → Int32) : Prop := (∀ d, d < 2 → (∀ k, k < 11 → f_X8_side (nI d) (nI k) a = some (.ok (sl g (oS (nI d)) k))) ∧ f_X8_side (nI d) (nI 11) a = some (.ok (MTE (rl g) (sl g (oS (nI d))))) ∧ ∀ p : Nat, (p : Int) < (g 2).toInt → f_X8_spent (nI d) (nI p) a = some (.ok (sl g (oS (nI d)) (12 + p)))) ∧ (∀ k, k < 12 → f_X8_property (nI k) a = some (.ok (g k))) ∧ (∀ x : Int32, 0 ≤ x.toInt → x.toInt < (g 2).toInt → f_X8_period x (nI 0) a = some (.ok (rn (rl g) x 0))) ∧ (∀ i w : Nat, i < 40 → (i : Int) < (g 8).toInt → w < 6 → f_X8_logged (nI i) (nI w) a = some (.ok (g (71 + 6 * i + w)))) ∧ f_X8_ahead a = sl g (oS (nI 0)) 0 - sl g (oS (nI 1)) 0
/-- what holds of a side -/
def IVS (R : Nat → Int32) (np ex : Int32) (S : Nat → Int32) : Prop := ¬ S 0 < 0 ∧ (S 0 = 0 ↔ S 8 = 1) ∧ S 7 ≤ S 6 ∧ (0 ≤ (S 2).toInt ∧ (S 2).toInt < np.toInt) ∧ S 4 ≤ ex ∧ (0 < rn R (S 2) 0 → ¬ rn R (S 2) 0 ≤ S 3) ∧ (S 5 = 1 → ¬ 0 < rn R (S 2) 0 ∧ ¬ S 4 = ex) ∧ SUMS S np.toInt.toNat ≤ S 10 ∧ S 7 ≤ SUMS S np.toInt.toNat
/-- what holds of the row -/
def IVG (g : Nat → Int32) : Prop := (0 ≤ (g 2).toInt ∧ (g 2).toInt ≤ 5) ∧ (∀ d, d < 2 → IVS (rl g) (g 2) (g 3) (sl g (oS (nI d)))) ∧ sl g 37 10 + sl g 54 10 = g 7 ∧ sl g 37 1 + sl g 54 1 = g 8 ∧ (g 9 < 0 ↔ sl g 37 8 + sl g 54 8 ≤ 0) ∧ (g 0 = 4 ↔ ¬ g 11 < 0) ∧ 0 ≤ (g 8).toInt ∧ (∀ i : Nat, i + 1 < 40 → (i : Int) + 1 < (g 8).toInt → ¬ g (71 + 6 * i) = g (71 + 6 * (i + 1)) ∧ g (71 + 6 * (i + 1) + 5) ≤ g (71 + 6 * i + 5)) ∧ (0 < (g 8).toInt → g 71 = 1 - g 1)
theorem i_nlt {x y : Int32} (h : x ≤ y) : ¬ y < x := Int32.not_lt.mpr h
theorem i_pos {x : Int32} (h : ¬ x ≤ 0) : 0 < x := Int32.not_le.mp h
set_option maxRecDepth 100000 in
set_option maxHeartbeats 8000000 in
theorem m_stands {l : Launch} (hl : l.stackTraces = false) {G : GG} {L : List Nat} (hL : LOK L) {a b c : Mem} {g : Nat → Int32} (hA : ANS a g) (hG : IVG g) : Ct l G yL_stands (.code yL_stands cL_stands 8 (some .boolean)) 8 152 500 5000 [.ref (ad L 0)] L (FW G L a b c) px0 (stay L (fun r f1 => f1 = FW G L a b c ∧ r = some (.int 1))) := by
  refine Ct.ofq (own := RL) hl rfl (by decide) [some (.ref (ad L 0)), none, none, none, none, none, none, none] rfl (Nat.le_of_ble_eq_true rfl) ?_
  intro p e s m below meth c9 A ar Q hQ X
  have hg8 := hG.2.2.2.2.2.2.1
  have hg8b : (g 8).toInt ≤ 2147483647 := z_hi _
  have hmin : (if (g 8) < (40 : Int32) then g 8 else (40 : Int32)) = nI (min 40 (g 8).toInt.toNat) := by
    rw [z_eq, nI_toInt (by omega)]
    split
    · rename_i h
      have h7 := Int32.lt_iff_toInt_lt.mp h
      rw [show (40 : Int32).toInt = 40 by decide] at h7
      omega
    · rename_i h
      have h7 := z_nlt h
      rw [show (40 : Int32).toInt = 40 by decide] at h7 ⊢
      omega
  obtain ⟨x3, hx3⟩ : ∃ x3 : Int32, 0 + sl g (oS (nI 0)) 8 + sl g (oS (nI 1)) 8 = x3 := ⟨_, rfl⟩
  have hf3 : g 9 < 0 ↔ x3 ≤ 0 := by
    rw [← hx3, Int32.zero_add]
    exact hG.2.2.2.2.1
  have hx1 : 0 + sl g (oS (nI 0)) 10 + sl g (oS (nI 1)) 10 = g 7 := by
    rw [Int32.zero_add]
    exact hG.2.2.1
  have hx2 : 0 + sl g (oS (nI 0)) 1 + sl g (oS (nI 1)) 1 = g 8 := by
    rw [Int32.zero_add]
    exact hG.2.2.2.1
  have k474 : ∀ v5 v6 v7 : Option Value, J G p l e { frames := 8, cells := 500, slots := 5000, locals := 152 } s m ar below meth c9 A Q 8 (450) (4500) 474 [some (.ref (ad L 0)), some (.int (g 7)), some (.int (g 8)), some (.int x3), some (.int (nI (min 40 (g 8).toInt.toNat))), v5, v6, v7] [] L (FW G L a b c) := by
    intro v5 v6 v7
    refine j_aload_n X (i := 0) dL_stands_474 rfl rfl ?_
    refine j_callV0 X 8 (m_X8_ahead hl hL hA.2.2.2.2) ml_L_185 im_yX8_ahead se_yX8_ahead in_X8 cd_yX8_ahead hy_yX8_ahead dL_stands_475 rfl (inL hL t_0 (by decide)) (FW8 hL t_0) ⟨(by decide), (by decide)⟩ ⟨(by dsimp only; omega), (by dsimp only; omega)⟩ (Nat.le_of_ble_eq_true rfl) (fun _ h => h.elim) (fun r9 L9 f9 h9 => ?_)
    obtain ⟨h91, h92, h93⟩ := h9
    subst r9
    subst f9
    subst L9
    dsimp only [Option.toList, List.cons_append, List.nil_append, List.append]
    refine j_aload_n X (i := 0) dL_stands_478 rfl rfl ?_
    refine j_iconst X (0) dL_stands_479 (by decide) ?_
    refine j_iconst X (0) dL_stands_480 (by decide) ?_
    refine j_callV2 X 8 (m_X8_side hl hL ((hA.1 0 (by omega)).1 0 (by omega))) ml_L_91 im_yX8_side se_yX8_side in_X8 cd_yX8_side hy_yX8_side dL_stands_481 rfl (inL hL t_0 (by decide)) (FW8 hL t_0) ⟨(by decide), (by decide)⟩ ⟨(by dsimp only; omega), (by dsimp only; omega)⟩ (Nat.le_of_ble_eq_true rfl) (fun E hE => by obtain ⟨n9, hn9, -⟩ := hE; cases hn9) (fun r9 L9 f9 h9 => ?_)
    obtain ⟨h91, v9, hk9, h92, h93⟩ := h9
    cases hk9
    subst r9
    subst f9
    subst L9
    dsimp only [Option.toList, List.cons_append, List.nil_append, List.append]
    refine j_aload_n X (i := 0) dL_stands_484 rfl rfl ?_
    refine j_iconst X (1) dL_stands_485 (by decide) ?_
    refine j_iconst X (0) dL_stands_486 (by decide) ?_
    refine j_callV2 X 8 (m_X8_side hl hL ((hA.1 1 (by omega)).1 0 (by omega))) ml_L_91 im_yX8_side se_yX8_side in_X8 cd_yX8_side hy_yX8_side dL_stands_487 rfl (inL hL t_0 (by decide)) (FW8 hL t_0) ⟨(by decide), (by decide)⟩ ⟨(by dsimp only; omega), (by dsimp only; omega)⟩ (Nat.le_of_ble_eq_true rfl) (fun E hE => by obtain ⟨n9, hn9, -⟩ := hE; cases hn9) (fun r9 L9 f9 h9 => ?_)
    obtain ⟨h91, v9, hk9, h92, h93⟩ := h9
    cases hk9
    subst r9
    subst f9
    subst L9
    dsimp only [Option.toList, List.cons_append, List.nil_append, List.append]
    refine j_isub X dL_stands_490 ?_
    refine j_icmp_ne X (tgt := 498) dL_stands_491 (by decide) (fun h => absurd rfl h) (fun _ => ?_)
    refine j_iconst X (1) dL_stands_494 (by decide) ?_
    refine j_goto X (tgt := 499) dL_stands_495 (by decide) ?_
    exact q_zret X hQ dL_stands_499 rfl rfl ⟨(by omega), (by omega)⟩ ⟨rfl, rfl, rfl⟩
  have k451 : ∀ v5 v6 v7 : Option Value, J G p l e { frames := 8, cells := 500, slots := 5000, locals := 152 } s m ar below meth c9 A Q 8 (440) (4400) 451 [some (.ref (ad L 0)), some (.int (g 7)), some (.int (g 8)), some (.int x3), some (.int (nI (min 40 (g 8).toInt.toNat))), v5, v6, v7] [] L (FW G L a b c) := by
    intro v5 v6 v7
    refine j_iload X (i := 4) dL_stands_451 rfl ?_
    refine j_if_le X (tgt := 474) dL_stands_453 (by decide) (fun _ => ?_) (fun h => ?_)
    · refine J.widen (c1 := 450) (s1 := 4500) (by omega) (by omega) ?_
      exact k474 _ _ _
    · have h8 : 0 < (g 8).toInt := by
        have h7 := z_nle h
        rw [nI_toInt (by omega), show (0 : Int32).toInt = 0 by decide] at h7
        omega
      refine j_aload_n X (i := 0) dL_stands_456 rfl rfl ?_
      refine j_iconst X (0) dL_stands_457 (by decide) ?_
      refine j_iconst X (0) dL_stands_458 (by decide) ?_
      refine j_callV2 X 8 (m_X8_logged hl hL (hA.2.2.2.1 (0) 0 (by omega) (by omega) (by omega))) ml_L_182 im_yX8_logged se_yX8_logged in_X8 cd_yX8_logged hy_yX8_logged dL_stands_459 rfl (inL hL t_0 (by decide)) (FW8 hL t_0) ⟨(by decide), (by decide)⟩ ⟨(by dsimp only; omega), (by dsimp only; omega)⟩ (Nat.le_of_ble_eq_true rfl) (fun E hE => by obtain ⟨n9, hn9, -⟩ := hE; cases hn9) (fun r9 L9 f9 h9 => ?_)
      obtain ⟨h91, v9, hk9, h92, h93⟩ := h9
      cases hk9
      subst r9
      subst f9
      subst L9
      dsimp only [Option.toList, List.cons_append, List.nil_append, List.append]
      refine j_iconst X (1) dL_stands_462 (by decide) ?_
      refine j_aload_n X (i := 0) dL_stands_463 rfl rfl ?_
      refine j_iconst X (1) dL_stands_464 (by decide) ?_
      refine j_callV1 X 8 (m_X8_property hl hL (hA.2.1 1 (by omega))) ml_L_87 im_yX8_property se_yX8_property in_X8 cd_yX8_property hy_yX8_property dL_stands_465 rfl (inL hL t_0 (by decide)) (FW8 hL t_0) ⟨(by decide), (by decide)⟩ ⟨(by dsimp only; omega), (by dsimp only; omega)⟩ (Nat.le_of_ble_eq_true rfl) (fun E hE => by obtain ⟨n9, hn9, -⟩ := hE; cases hn9) (fun r9 L9 f9 h9 => ?_)
      obtain ⟨h91, v9, hk9, h92, h93⟩ := h9
      cases hk9
      subst r9
      subst f9
      subst L9
      dsimp only [Option.toList, List.cons_append, List.nil_append, List.append]
      refine j_isub X dL_stands_468 ?_
      refine j_icmp_eq X (tgt := 474) dL_stands_469 (by decide) (fun _ => ?_) (fun h => absurd (hG.2.2.2.2.2.2.2.2 h8) h)
      refine J.widen (c1 := 450) (s1 := 4500) (by omega) (by omega) ?_
      exact k474 _ _ _
  have kl : ∀ (w i c1 s1 : Nat), i + w = min 40 (g 8).toInt.toNat → c1 + 4 * w ≤ 430 → s1 + 24 * w ≤ 4300 → ∀ v6 v7 : Option Value, J G p l e { frames := 8, cells := 500, slots := 5000, locals := 152 } s m ar below meth c9 A Q 8 (c1) (s1) 396 [some (.ref (ad L 0)), some (.int (g 7)), some (.int (g 8)), some (.int x3), some (.int (nI (min 40 (g 8).toInt.toNat))), some (.int (nI i)), v6, v7] [] L (FW G L a b c) := by
    intro w
    induction w with
    | zero =>
      intro i c1 s1 hi hc1 hs1 v6 v7
      refine j_iload X (i := 5) dL_stands_396 rfl ?_
      refine j_iconst X (1) dL_stands_398 (by decide) ?_
      refine j_iadd X dL_stands_399 ?_
      rw [show nI i + (1 : Int32) = nI (i + 1) from nI_add i 1]
      refine j_iload X (i := 4) dL_stands_400 rfl ?_
      refine j_icmp_ge X (tgt := 451) dL_stands_402 (by decide) (fun _ => ?_) (fun h => absurd (nI_le (by omega) (by omega)) h)
      refine J.widen (c1 := 440) (s1 := 4400) (by omega) (by omega) ?_
      exact k451 _ _ _
    | succ w ih =>
      intro i c1 s1 hi hc1 hs1 v6 v7
      by_cases hlast : w = 0
      · have e9 : i + 1 = min 40 (g 8).toInt.toNat := by omega
        subst hlast
        refine j_iload X (i := 5) dL_stands_396 rfl ?_
        refine j_iconst X (1) dL_stands_398 (by decide) ?_
        refine j_iadd X dL_stands_399 ?_
        rw [show nI i + (1 : Int32) = nI (i + 1) from nI_add i 1]
        refine j_iload X (i := 4) dL_stands_400 rfl ?_
        refine j_icmp_ge X (tgt := 451) dL_stands_402 (by decide) (fun _ => ?_) (fun h => absurd (nI_le (by omega) (by omega)) h)
        refine J.widen (c1 := 440) (s1 := 4400) (by omega) (by omega) ?_
        exact k451 _ _ _
      · skip
        refine j_iload X (i := 5) dL_stands_396 rfl ?_
        refine j_iconst X (1) dL_stands_398 (by decide) ?_
        refine j_iadd X dL_stands_399 ?_
        rw [show nI i + (1 : Int32) = nI (i + 1) from nI_add i 1]
        refine j_iload X (i := 4) dL_stands_400 rfl ?_
        refine j_icmp_ge X (tgt := 451) dL_stands_402 (by decide) (fun h => absurd h (nI_ge (by omega) (by omega))) (fun _ => ?_)
        obtain ⟨hne, hle⟩ := hG.2.2.2.2.2.2.2.1 i (by omega) (by omega)
        refine j_aload_n X (i := 0) dL_stands_405 rfl rfl ?_
        refine j_iload X (i := 5) dL_stands_406 rfl ?_
        refine j_iconst X (0) dL_stands_408 (by decide) ?_
        refine j_callV2 X 8 (m_X8_logged hl hL (hA.2.2.2.1 (i) 0 (by omega) (by omega) (by omega))) ml_L_182 im_yX8_logged se_yX8_logged in_X8 cd_yX8_logged hy_yX8_logged dL_stands_409 rfl (inL hL t_0 (by decide)) (FW8 hL t_0) ⟨(by decide), (by decide)⟩ ⟨(by dsimp only; omega), (by dsimp only; omega)⟩ (Nat.le_of_ble_eq_true rfl) (fun E hE => by obtain ⟨n9, hn9, -⟩ := hE; cases hn9) (fun r9 L9 f9 h9 => ?_)
        obtain ⟨h91, v9, hk9, h92, h93⟩ := h9
        cases hk9
        subst r9
        subst f9
        subst L9
        dsimp only [Option.toList, List.cons_append, List.nil_append, List.append]
        refine j_aload_n X (i := 0) dL_stands_412 rfl rfl ?_
        refine j_iload X (i := 5) dL_stands_413 rfl ?_
        refine j_iconst X (1) dL_stands_415 (by decide) ?_
        refine j_iadd X dL_stands_416 ?_
        rw [show nI i + (1 : Int32) = nI (i + 1) from nI_add i 1]
        refine j_iconst X (0) dL_stands_417 (by decide) ?_
        refine j_callV2 X 8 (m_X8_logged hl hL (hA.2.2.2.1 (i + 1) 0 (by omega) (by omega) (by omega))) ml_L_182 im_yX8_logged se_yX8_logged in_X8 cd_yX8_logged hy_yX8_logged dL_stands_418 rfl (inL hL t_0 (by decide)) (FW8 hL t_0) ⟨(by decide), (by decide)⟩ ⟨(by dsimp only; omega), (by dsimp only; omega)⟩ (Nat.le_of_ble_eq_true rfl) (fun E hE => by obtain ⟨n9, hn9, -⟩ := hE; cases hn9) (fun r9 L9 f9 h9 => ?_)
        obtain ⟨h91, v9, hk9, h92, h93⟩ := h9
        cases hk9
        subst r9
        subst f9
        subst L9
        dsimp only [Option.toList, List.cons_append, List.nil_append, List.append]
        refine j_icmp_eq X (tgt := 443) dL_stands_421 (by decide) (fun h => absurd h hne) (fun _ => ?_)
        refine j_aload_n X (i := 0) dL_stands_424 rfl rfl ?_
        refine j_iload X (i := 5) dL_stands_425 rfl ?_
        refine j_iconst X (5) dL_stands_427 (by decide) ?_
        refine j_callV2 X 8 (m_X8_logged hl hL (hA.2.2.2.1 (i) 5 (by omega) (by omega) (by omega))) ml_L_182 im_yX8_logged se_yX8_logged in_X8 cd_yX8_logged hy_yX8_logged dL_stands_428 rfl (inL hL t_0 (by decide)) (FW8 hL t_0) ⟨(by decide), (by decide)⟩ ⟨(by dsimp only; omega), (by dsimp only; omega)⟩ (Nat.le_of_ble_eq_true rfl) (fun E hE => by obtain ⟨n9, hn9, -⟩ := hE; cases hn9) (fun r9 L9 f9 h9 => ?_)
        obtain ⟨h91, v9, hk9, h92, h93⟩ := h9
        cases hk9
        subst r9
        subst f9
        subst L9
        dsimp only [Option.toList, List.cons_append, List.nil_append, List.append]
        refine j_aload_n X (i := 0) dL_stands_431 rfl rfl ?_
        refine j_iload X (i := 5) dL_stands_432 rfl ?_
        refine j_iconst X (1) dL_stands_434 (by decide) ?_
        refine j_iadd X dL_stands_435 ?_
        rw [show nI i + (1 : Int32) = nI (i + 1) from nI_add i 1]
        refine j_iconst X (5) dL_stands_436 (by decide) ?_
        refine j_callV2 X 8 (m_X8_logged hl hL (hA.2.2.2.1 (i + 1) 5 (by omega) (by omega) (by omega))) ml_L_182 im_yX8_logged se_yX8_logged in_X8 cd_yX8_logged hy_yX8_logged dL_stands_437 rfl (inL hL t_0 (by decide)) (FW8 hL t_0) ⟨(by decide), (by decide)⟩ ⟨(by dsimp only; omega), (by dsimp only; omega)⟩ (Nat.le_of_ble_eq_true rfl) (fun E hE => by obtain ⟨n9, hn9, -⟩ := hE; cases hn9) (fun r9 L9 f9 h9 => ?_)
        obtain ⟨h91, v9, hk9, h92, h93⟩ := h9
        cases hk9
        subst r9
        subst f9
        subst L9
        dsimp only [Option.toList, List.cons_append, List.nil_append, List.append]
        refine j_icmp_ge X (tgt := 445) dL_stands_440 (by decide) (fun _ => ?_) (fun h => absurd hle h)
        refine j_iinc X (nI (i + 1)) dL_stands_445 rfl (nI_add i 1) (by decide) (by first | exact lvOK_0 | exact lvOK_s rfl okPrev_none | exact lvOK_s rfl okPrev_int | exact lvOK_s rfl okPrev_ref | exact lvOK_s rfl okPrev_null) ?_
        dsimp only [List.set]
        refine j_goto X (tgt := 396) dL_stands_448 (by decide) ?_
        exact ih (i + 1) _ _ (by omega) (by omega) (by omega) _ _
  have k385 : ∀ v4 v5 v6 v7 : Option Value, J G p l e { frames := 8, cells := 500, slots := 5000, locals := 152 } s m ar below meth c9 A Q 8 (230) (2300) 385 [some (.ref (ad L 0)), some (.int (g 7)), some (.int (g 8)), some (.int x3), v4, v5, v6, v7] [] L (FW G L a b c) := by
    intro v4 v5 v6 v7
    refine j_bipush X (40) dL_stands_385 (by decide) ?_
    refine j_iload_n X (i := 2) dL_stands_387 rfl rfl ?_
    refine j_mmin X ml_L_30 dL_stands_388 ⟨(by decide), (Nat.le_of_ble_eq_true rfl)⟩ ⟨(by dsimp only; omega), (by dsimp only; omega)⟩ ?_
    rw [hmin]
    refine j_istore X (i := 4) dL_stands_391 (by decide) (by first | exact lvOK_0 | exact lvOK_s rfl okPrev_none | exact lvOK_s rfl okPrev_int | exact lvOK_s rfl okPrev_ref | exact lvOK_s rfl okPrev_null) ?_
    dsimp only [List.set]
    refine j_iconst X (0) dL_stands_393 (by decide) ?_
    refine j_istore X (i := 5) dL_stands_394 (by decide) (by first | exact lvOK_0 | exact lvOK_s rfl okPrev_none | exact lvOK_s rfl okPrev_int | exact lvOK_s rfl okPrev_ref | exact lvOK_s rfl okPrev_null) ?_
    dsimp only [List.set]
    exact kl (min 40 (g 8).toInt.toNat) 0 _ _ (by omega) (by omega) (by omega) _ _
  have k380 : ∀ (v4 v5 v6 v7 : Option Value) (v : Int32), J G p l e { frames := 8, cells := 500, slots := 5000, locals := 152 } s m ar below meth c9 A Q 8 (220) (2200) 380 [some (.ref (ad L 0)), some (.int (g 7)), some (.int (g 8)), some (.int x3), v4, v5, v6, v7] [.int v, .int v] L (FW G L a b c) := by
    intro v4 v5 v6 v7 v
    refine j_icmp_eq X (tgt := 385) dL_stands_380 (by decide) (fun _ => ?_) (fun h => absurd rfl h)
    refine J.widen (c1 := 230) (s1 := 2300) (by omega) (by omega) ?_
    exact k385 _ _ _ _
  have k352 : ∀ v4 v5 v6 v7 : Option Value, J G p l e { frames := 8, cells := 500, slots := 5000, locals := 152 } s m ar below meth c9 A Q 8 (212) (2120) 352 [some (.ref (ad L 0)), some (.int (g 7)), some (.int (g 8)), some (.int x3), v4, v5, v6, v7] [] L (FW G L a b c) := by
    intro v4 v5 v6 v7
    refine j_aload_n X (i := 0) dL_stands_352 rfl rfl ?_
    refine j_iconst X (0) dL_stands_353 (by decide) ?_
    refine j_callV1 X 8 (m_X8_property hl hL (hA.2.1 0 (by omega))) ml_L_87 im_yX8_property se_yX8_property in_X8 cd_yX8_property hy_yX8_property dL_stands_354 rfl (inL hL t_0 (by decide)) (FW8 hL t_0) ⟨(by decide), (by decide)⟩ ⟨(by dsimp only; omega), (by dsimp only; omega)⟩ (Nat.le_of_ble_eq_true rfl) (fun E hE => by obtain ⟨n9, hn9, -⟩ := hE; cases hn9) (fun r9 L9 f9 h9 => ?_)
    obtain ⟨h91, v9, hk9, h92, h93⟩ := h9
    cases hk9
    subst r9
    subst f9
    subst L9
    dsimp only [Option.toList, List.cons_append, List.nil_append, List.append]
    refine j_iconst X (4) dL_stands_357 (by decide) ?_
    refine j_icmp_ne X (tgt := 365) dL_stands_358 (by decide) (fun h => ?_) (fun h => ?_)
    · skip
      refine j_iconst X (0) dL_stands_365 (by decide) ?_
      refine j_aload_n X (i := 0) dL_stands_366 rfl rfl ?_
      refine j_bipush X (11) dL_stands_367 (by decide) ?_
      refine j_callV1 X 8 (m_X8_property hl hL (hA.2.1 11 (by omega))) ml_L_87 im_yX8_property se_yX8_property in_X8 cd_yX8_property hy_yX8_property dL_stands_369 rfl (inL hL t_0 (by decide)) (FW8 hL t_0) ⟨(by decide), (by decide)⟩ ⟨(by dsimp only; omega), (by dsimp only; omega)⟩ (Nat.le_of_ble_eq_true rfl) (fun E hE => by obtain ⟨n9, hn9, -⟩ := hE; cases hn9) (fun r9 L9 f9 h9 => ?_)
      obtain ⟨h91, v9, hk9, h92, h93⟩ := h9
      cases hk9
      subst r9
      subst f9
      subst L9
      dsimp only [Option.toList, List.cons_append, List.nil_append, List.append]
      refine j_if_lt X (tgt := 379) dL_stands_372 (by decide) (fun _ => ?_) (fun h7 => absurd (hG.2.2.2.2.2.1.mpr h7) h)
      refine j_iconst X (0) dL_stands_379 (by decide) ?_
      refine J.widen (c1 := 220) (s1 := 2200) (by omega) (by omega) ?_
      exact k380 _ _ _ _ _
    · skip
      refine j_iconst X (1) dL_stands_361 (by decide) ?_
      refine j_goto X (tgt := 366) dL_stands_362 (by decide) ?_
      refine j_aload_n X (i := 0) dL_stands_366 rfl rfl ?_
      refine j_bipush X (11) dL_stands_367 (by decide) ?_
      refine j_callV1 X 8 (m_X8_property hl hL (hA.2.1 11 (by omega))) ml_L_87 im_yX8_property se_yX8_property in_X8 cd_yX8_property hy_yX8_property dL_stands_369 rfl (inL hL t_0 (by decide)) (FW8 hL t_0) ⟨(by decide), (by decide)⟩ ⟨(by dsimp only; omega), (by dsimp only; omega)⟩ (Nat.le_of_ble_eq_true rfl) (fun E hE => by obtain ⟨n9, hn9, -⟩ := hE; cases hn9) (fun r9 L9 f9 h9 => ?_)
      obtain ⟨h91, v9, hk9, h92, h93⟩ := h9
      cases hk9
      subst r9
      subst f9
      subst L9
      dsimp only [Option.toList, List.cons_append, List.nil_append, List.append]
      refine j_if_lt X (tgt := 379) dL_stands_372 (by decide) (fun h7 => absurd h7 (hG.2.2.2.2.2.1.mp h)) (fun _ => ?_)
      refine j_iconst X (1) dL_stands_375 (by decide) ?_
      refine j_goto X (tgt := 380) dL_stands_376 (by decide) ?_
      refine J.widen (c1 := 220) (s1 := 2200) (by omega) (by omega) ?_
      exact k380 _ _ _ _ _
  have k349 : ∀ (v4 v5 v6 v7 : Option Value) (v : Int32), J G p l e { frames := 8, cells := 500, slots := 5000, locals := 152 } s m ar below meth c9 A Q 8 (210) (2100) 349 [some (.ref (ad L 0)), some (.int (g 7)), some (.int (g 8)), some (.int x3), v4, v5, v6, v7] [.int v, .int v] L (FW G L a b c) := by
    intro v4 v5 v6 v7 v
    refine j_icmp_ne X (tgt := 383) dL_stands_349 (by decide) (fun h => absurd rfl h) (fun _ => ?_)
    refine J.widen (c1 := 212) (s1 := 2120) (by omega) (by omega) ?_
    exact k352 _ _ _ _
  have k306 : ∀ v4 v5 v6 v7 : Option Value, J G p l e { frames := 8, cells := 500, slots := 5000, locals := 152 } s m ar below meth c9 A Q 8 (203) (2030) 306 [some (.ref (ad L 0)), some (.int (g 7)), some (.int (g 8)), some (.int x3), v4, v5, v6, v7] [] L (FW G L a b c) := by
    intro v4 v5 v6 v7
    refine j_iload_n X (i := 1) dL_stands_306 rfl rfl ?_
    refine j_aload_n X (i := 0) dL_stands_307 rfl rfl ?_
    refine j_bipush X (7) dL_stands_308 (by decide) ?_
    refine j_callV1 X 8 (m_X8_property hl hL (hA.2.1 7 (by omega))) ml_L_87 im_yX8_property se_yX8_property in_X8 cd_yX8_property hy_yX8_property dL_stands_310 rfl (inL hL t_0 (by decide)) (FW8 hL t_0) ⟨(by decide), (by decide)⟩ ⟨(by dsimp only; omega), (by dsimp only; omega)⟩ (Nat.le_of_ble_eq_true rfl) (fun E hE => by obtain ⟨n9, hn9, -⟩ := hE; cases hn9) (fun r9 L9 f9 h9 => ?_)
    obtain ⟨h91, v9, hk9, h92, h93⟩ := h9
    cases hk9
    subst r9
    subst f9
    subst L9
    dsimp only [Option.toList, List.cons_append, List.nil_append, List.append]
    refine j_icmp_ne X (tgt := 383) dL_stands_313 (by decide) (fun h => absurd rfl h) (fun _ => ?_)
    refine j_iload_n X (i := 2) dL_stands_316 rfl rfl ?_
    refine j_aload_n X (i := 0) dL_stands_317 rfl rfl ?_
    refine j_bipush X (8) dL_stands_318 (by decide) ?_
    refine j_callV1 X 8 (m_X8_property hl hL (hA.2.1 8 (by omega))) ml_L_87 im_yX8_property se_yX8_property in_X8 cd_yX8_property hy_yX8_property dL_stands_320 rfl (inL hL t_0 (by decide)) (FW8 hL t_0) ⟨(by decide), (by decide)⟩ ⟨(by dsimp only; omega), (by dsimp only; omega)⟩ (Nat.le_of_ble_eq_true rfl) (fun E hE => by obtain ⟨n9, hn9, -⟩ := hE; cases hn9) (fun r9 L9 f9 h9 => ?_)
    obtain ⟨h91, v9, hk9, h92, h93⟩ := h9
    cases hk9
    subst r9
    subst f9
    subst L9
    dsimp only [Option.toList, List.cons_append, List.nil_append, List.append]
    refine j_icmp_ne X (tgt := 383) dL_stands_323 (by decide) (fun h => absurd rfl h) (fun _ => ?_)
    refine j_aload_n X (i := 0) dL_stands_326 rfl rfl ?_
    refine j_bipush X (9) dL_stands_327 (by decide) ?_
    refine j_callV1 X 8 (m_X8_property hl hL (hA.2.1 9 (by omega))) ml_L_87 im_yX8_property se_yX8_property in_X8 cd_yX8_property hy_yX8_property dL_stands_329 rfl (inL hL t_0 (by decide)) (FW8 hL t_0) ⟨(by decide), (by decide)⟩ ⟨(by dsimp only; omega), (by dsimp only; omega)⟩ (Nat.le_of_ble_eq_true rfl) (fun E hE => by obtain ⟨n9, hn9, -⟩ := hE; cases hn9) (fun r9 L9 f9 h9 => ?_)
    obtain ⟨h91, v9, hk9, h92, h93⟩ := h9
    cases hk9
    subst r9
    subst f9
    subst L9
    dsimp only [Option.toList, List.cons_append, List.nil_append, List.append]
    refine j_if_lt X (tgt := 339) dL_stands_332 (by decide) (fun h => ?_) (fun h => ?_)
    · skip
      refine j_iconst X (0) dL_stands_339 (by decide) ?_
      refine j_iload_n X (i := 3) dL_stands_340 rfl rfl ?_
      refine j_if_le X (tgt := 348) dL_stands_341 (by decide) (fun _ => ?_) (fun h7 => absurd (hf3.mp h) h7)
      refine j_iconst X (0) dL_stands_348 (by decide) ?_
      refine J.widen (c1 := 210) (s1 := 2100) (by omega) (by omega) ?_
      exact k349 _ _ _ _ _
    · skip
      refine j_iconst X (1) dL_stands_335 (by decide) ?_
      refine j_goto X (tgt := 340) dL_stands_336 (by decide) ?_
      refine j_iload_n X (i := 3) dL_stands_340 rfl rfl ?_
      refine j_if_le X (tgt := 348) dL_stands_341 (by decide) (fun h7 => absurd (hf3.mpr h7) h) (fun _ => ?_)
      refine j_iconst X (1) dL_stands_344 (by decide) ?_
      refine j_goto X (tgt := 349) dL_stands_345 (by decide) ?_
      refine J.widen (c1 := 210) (s1 := 2100) (by omega) (by omega) ?_
      exact k349 _ _ _ _ _
  have hbody : ∀ (d c0 s0 : Nat) (x1 x2 x3 : Int32) (v5 v6 v7 : Option Value), d < 2 → c0 + 100 ≤ 300 → s0 + 1000 ≤ 3000 → (∀ w5 w6 w7 : Option Value, J G p l e { frames := 8, cells := 500, slots := 5000, locals := 152 } s m ar below meth c9 A Q 8 (c0 + 100) (s0 + 1000) 9 [some (.ref (ad L 0)), some (.int (x1 + sl g (oS (nI d)) 10)), some (.int (x2 + sl g (oS (nI d)) 1)), some (.int (x3 + sl g (oS (nI d)) 8)), some (.int (nI (d + 1))), w5, w6, w7] [] L (FW G L a b c)) → J G p l e { frames := 8, cells := 500, slots := 5000, locals := 152 } s m ar below meth c9 A Q 8 (c0) (s0) 9 [some (.ref (ad L 0)), some (.int (x1)), some (.int (x2)), some (.int (x3)), some (.int (nI d)), v5, v6, v7] [] L (FW G L a b c) := by
    intro d c0 s0 x1 x2 x3 v5 v6 v7 hd hcl hsl hnext
    have hI := hG.2.1 d hd
    have hnp := hG.1
    have k268 : J G p l e { frames := 8, cells := 500, slots := 5000, locals := 152 } s m ar below meth c9 A Q 8 (c0 + 90) (s0 + 900) 268 [some (.ref (ad L 0)), some (.int (x1)), some (.int (x2)), some (.int (x3)), some (.int (nI d)), some (.int (rn (rl g) (sl g (oS (nI d)) 2) 0)), some (.int (SUMS (sl g (oS (nI d))) (g 2).toInt.toNat)), some (.int (nI (g 2).toInt.toNat))] [] L (FW G L a b c) := by
      refine j_iload_n X (i := 1) dL_stands_268 rfl rfl ?_
      refine j_aload_n X (i := 0) dL_stands_269 rfl rfl ?_
      refine j_iload X (i := 4) dL_stands_270 rfl ?_
      refine j_bipush X (10) dL_stands_272 (by decide) ?_
      refine j_callV2 X 8 (m_X8_side hl hL ((hA.1 _ hd).1 10 (by omega))) ml_L_91 im_yX8_side se_yX8_side in_X8 cd_yX8_side hy_yX8_side dL_stands_274 rfl (inL hL t_0 (by decide)) (FW8 hL t_0) ⟨(by decide), (by decide)⟩ ⟨(by dsimp only; omega), (by dsimp only; omega)⟩ (Nat.le_of_ble_eq_true rfl) (fun E hE => by obtain ⟨n9, hn9, -⟩ := hE; cases hn9) (fun r9 L9 f9 h9 => ?_)
      obtain ⟨h91, v9, hk9, h92, h93⟩ := h9
      cases hk9
      subst r9
      subst f9
      subst L9
      dsimp only [Option.toList, List.cons_append, List.nil_append, List.append]
      refine j_iadd X dL_stands_277 ?_
      refine j_istore_n X (i := 1) dL_stands_278 rfl (by decide) (by first | exact lvOK_0 | exact lvOK_s rfl okPrev_none | exact lvOK_s rfl okPrev_int | exact lvOK_s rfl okPrev_ref | exact lvOK_s rfl okPrev_null) ?_
      dsimp only [List.set]
      refine j_iload_n X (i := 2) dL_stands_279 rfl rfl ?_
      refine j_aload_n X (i := 0) dL_stands_280 rfl rfl ?_
      refine j_iload X (i := 4) dL_stands_281 rfl ?_
      refine j_iconst X (1) dL_stands_283 (by decide) ?_
      refine j_callV2 X 8 (m_X8_side hl hL ((hA.1 _ hd).1 1 (by omega))) ml_L_91 im_yX8_side se_yX8_side in_X8 cd_yX8_side hy_yX8_side dL_stands_284 rfl (inL hL t_0 (by decide)) (FW8 hL t_0) ⟨(by decide), (by decide)⟩ ⟨(by dsimp only; omega), (by dsimp only; omega)⟩ (Nat.le_of_ble_eq_true rfl) (fun E hE => by obtain ⟨n9, hn9, -⟩ := hE; cases hn9) (fun r9 L9 f9 h9 => ?_)
      obtain ⟨h91, v9, hk9, h92, h93⟩ := h9
      cases hk9
      subst r9
      subst f9
      subst L9
      dsimp only [Option.toList, List.cons_append, List.nil_append, List.append]
      refine j_iadd X dL_stands_287 ?_
      refine j_istore_n X (i := 2) dL_stands_288 rfl (by decide) (by first | exact lvOK_0 | exact lvOK_s rfl okPrev_none | exact lvOK_s rfl okPrev_int | exact lvOK_s rfl okPrev_ref | exact lvOK_s rfl okPrev_null) ?_
      dsimp only [List.set]
      refine j_iload_n X (i := 3) dL_stands_289 rfl rfl ?_
      refine j_aload_n X (i := 0) dL_stands_290 rfl rfl ?_
      refine j_iload X (i := 4) dL_stands_291 rfl ?_
      refine j_bipush X (8) dL_stands_293 (by decide) ?_
      refine j_callV2 X 8 (m_X8_side hl hL ((hA.1 _ hd).1 8 (by omega))) ml_L_91 im_yX8_side se_yX8_side in_X8 cd_yX8_side hy_yX8_side dL_stands_295 rfl (inL hL t_0 (by decide)) (FW8 hL t_0) ⟨(by decide), (by decide)⟩ ⟨(by dsimp only; omega), (by dsimp only; omega)⟩ (Nat.le_of_ble_eq_true rfl) (fun E hE => by obtain ⟨n9, hn9, -⟩ := hE; cases hn9) (fun r9 L9 f9 h9 => ?_)
      obtain ⟨h91, v9, hk9, h92, h93⟩ := h9
      cases hk9
      subst r9
      subst f9
      subst L9
      dsimp only [Option.toList, List.cons_append, List.nil_append, List.append]
      refine j_iadd X dL_stands_298 ?_
      refine j_istore_n X (i := 3) dL_stands_299 rfl (by decide) (by first | exact lvOK_0 | exact lvOK_s rfl okPrev_none | exact lvOK_s rfl okPrev_int | exact lvOK_s rfl okPrev_ref | exact lvOK_s rfl okPrev_null) ?_
      dsimp only [List.set]
      refine j_iinc X (nI (d + 1)) dL_stands_300 rfl (nI_add d 1) (by decide) (by first | exact lvOK_0 | exact lvOK_s rfl okPrev_none | exact lvOK_s rfl okPrev_int | exact lvOK_s rfl okPrev_ref | exact lvOK_s rfl okPrev_null) ?_
      dsimp only [List.set]
      refine j_goto X (tgt := 9) dL_stands_303 (by decide) ?_
      refine J.widen (c1 := c0 + 100) (s1 := s0 + 1000) (by omega) (by omega) ?_
      exact hnext _ _ _
    have k240 : J G p l e { frames := 8, cells := 500, slots := 5000, locals := 152 } s m ar below meth c9 A Q 8 (c0 + 80) (s0 + 800) 240 [some (.ref (ad L 0)), some (.int (x1)), some (.int (x2)), some (.int (x3)), some (.int (nI d)), some (.int (rn (rl g) (sl g (oS (nI d)) 2) 0)), some (.int (SUMS (sl g (oS (nI d))) (g 2).toInt.toNat)), some (.int (nI (g 2).toInt.toNat))] [] L (FW G L a b c) := by
      refine j_iload X (i := 6) dL_stands_240 rfl ?_
      refine j_aload_n X (i := 0) dL_stands_242 rfl rfl ?_
      refine j_iload X (i := 4) dL_stands_243 rfl ?_
      refine j_bipush X (10) dL_stands_245 (by decide) ?_
      refine j_callV2 X 8 (m_X8_side hl hL ((hA.1 _ hd).1 10 (by omega))) ml_L_91 im_yX8_side se_yX8_side in_X8 cd_yX8_side hy_yX8_side dL_stands_247 rfl (inL hL t_0 (by decide)) (FW8 hL t_0) ⟨(by decide), (by decide)⟩ ⟨(by dsimp only; omega), (by dsimp only; omega)⟩ (Nat.le_of_ble_eq_true rfl) (fun E hE => by obtain ⟨n9, hn9, -⟩ := hE; cases hn9) (fun r9 L9 f9 h9 => ?_)
      obtain ⟨h91, v9, hk9, h92, h93⟩ := h9
      cases hk9
      subst r9
      subst f9
      subst L9
      dsimp only [Option.toList, List.cons_append, List.nil_append, List.append]
      refine j_icmp_gt X (tgt := 266) dL_stands_250 (by decide) (fun h => absurd h (i_nlt hI.2.2.2.2.2.2.2.1)) (fun _ => ?_)
      refine j_iload X (i := 6) dL_stands_253 rfl ?_
      refine j_aload_n X (i := 0) dL_stands_255 rfl rfl ?_
      refine j_iload X (i := 4) dL_stands_256 rfl ?_
      refine j_bipush X (7) dL_stands_258 (by decide) ?_
      refine j_callV2 X 8 (m_X8_side hl hL ((hA.1 _ hd).1 7 (by omega))) ml_L_91 im_yX8_side se_yX8_side in_X8 cd_yX8_side hy_yX8_side dL_stands_260 rfl (inL hL t_0 (by decide)) (FW8 hL t_0) ⟨(by decide), (by decide)⟩ ⟨(by dsimp only; omega), (by dsimp only; omega)⟩ (Nat.le_of_ble_eq_true rfl) (fun E hE => by obtain ⟨n9, hn9, -⟩ := hE; cases hn9) (fun r9 L9 f9 h9 => ?_)
      obtain ⟨h91, v9, hk9, h92, h93⟩ := h9
      cases hk9
      subst r9
      subst f9
      subst L9
      dsimp only [Option.toList, List.cons_append, List.nil_append, List.append]
      refine j_icmp_ge X (tgt := 268) dL_stands_263 (by decide) (fun _ => ?_) (fun h => absurd hI.2.2.2.2.2.2.2.2 h)
      refine J.widen (c1 := c0 + 90) (s1 := s0 + 900) (by omega) (by omega) ?_
      exact k268
    have kp : ∀ (w q c1 s1 : Nat), q + w = (g 2).toInt.toNat → c1 + 3 * w ≤ c0 + 70 → s1 + 18 * w ≤ s0 + 700 → J G p l e { frames := 8, cells := 500, slots := 5000, locals := 152 } s m ar below meth c9 A Q 8 (c1) (s1) 211 [some (.ref (ad L 0)), some (.int (x1)), some (.int (x2)), some (.int (x3)), some (.int (nI d)), some (.int (rn (rl g) (sl g (oS (nI d)) 2) 0)), some (.int (SUMS (sl g (oS (nI d))) q)), some (.int (nI q))] [] L (FW G L a b c) := by
      intro w
      induction w with
      | zero =>
        intro q c1 s1 hq hc1 hs1
        obtain rfl : q = (g 2).toInt.toNat := by omega
        refine j_iload X (i := 7) dL_stands_211 rfl ?_
        refine j_aload_n X (i := 0) dL_stands_213 rfl rfl ?_
        refine j_iconst X (2) dL_stands_214 (by decide) ?_
        refine j_callV1 X 8 (m_X8_property hl hL (hA.2.1 2 (by omega))) ml_L_87 im_yX8_property se_yX8_property in_X8 cd_yX8_property hy_yX8_property dL_stands_215 rfl (inL hL t_0 (by decide)) (FW8 hL t_0) ⟨(by decide), (by decide)⟩ ⟨(by dsimp only; omega), (by dsimp only; omega)⟩ (Nat.le_of_ble_eq_true rfl) (fun E hE => by obtain ⟨n9, hn9, -⟩ := hE; cases hn9) (fun r9 L9 f9 h9 => ?_)
        obtain ⟨h91, v9, hk9, h92, h93⟩ := h9
        cases hk9
        subst r9
        subst f9
        subst L9
        dsimp only [Option.toList, List.cons_append, List.nil_append, List.append]
        refine j_icmp_ge X (tgt := 240) dL_stands_218 (by decide) (fun h => ?_) (fun h => absurd (Int32.le_iff_toInt_le.mpr (by rw [nI_toInt (by omega)]; omega)) h)
        refine J.widen (c1 := c0 + 80) (s1 := s0 + 800) (by omega) (by omega) ?_
        exact k240
      | succ w ih =>
        intro q c1 s1 hq hc1 hs1
        refine j_iload X (i := 7) dL_stands_211 rfl ?_
        refine j_aload_n X (i := 0) dL_stands_213 rfl rfl ?_
        refine j_iconst X (2) dL_stands_214 (by decide) ?_
        refine j_callV1 X 8 (m_X8_property hl hL (hA.2.1 2 (by omega))) ml_L_87 im_yX8_property se_yX8_property in_X8 cd_yX8_property hy_yX8_property dL_stands_215 rfl (inL hL t_0 (by decide)) (FW8 hL t_0) ⟨(by decide), (by decide)⟩ ⟨(by dsimp only; omega), (by dsimp only; omega)⟩ (Nat.le_of_ble_eq_true rfl) (fun E hE => by obtain ⟨n9, hn9, -⟩ := hE; cases hn9) (fun r9 L9 f9 h9 => ?_)
        obtain ⟨h91, v9, hk9, h92, h93⟩ := h9
        cases hk9
        subst r9
        subst f9
        subst L9
        dsimp only [Option.toList, List.cons_append, List.nil_append, List.append]
        refine j_icmp_ge X (tgt := 240) dL_stands_218 (by decide) (fun h => absurd (Int32.le_iff_toInt_le.mp h) (by rw [nI_toInt (by omega)]; omega)) (fun h => ?_)
        refine j_iload X (i := 6) dL_stands_221 rfl ?_
        refine j_aload_n X (i := 0) dL_stands_223 rfl rfl ?_
        refine j_iload X (i := 4) dL_stands_224 rfl ?_
        refine j_iload X (i := 7) dL_stands_226 rfl ?_
        refine j_callV2 X 8 (m_X8_spent hl hL ((hA.1 _ hd).2.2 q (by omega))) ml_L_174 im_yX8_spent se_yX8_spent in_X8 cd_yX8_spent hy_yX8_spent dL_stands_228 rfl (inL hL t_0 (by decide)) (FW8 hL t_0) ⟨(by decide), (by decide)⟩ ⟨(by dsimp only; omega), (by dsimp only; omega)⟩ (Nat.le_of_ble_eq_true rfl) (fun E hE => by obtain ⟨n9, hn9, -⟩ := hE; cases hn9) (fun r9 L9 f9 h9 => ?_)
        obtain ⟨h91, v9, hk9, h92, h93⟩ := h9
        cases hk9
        subst r9
        subst f9
        subst L9
        dsimp only [Option.toList, List.cons_append, List.nil_append, List.append]
        refine j_iadd X dL_stands_231 ?_
        refine j_istore X (i := 6) dL_stands_232 (by decide) (by first | exact lvOK_0 | exact lvOK_s rfl okPrev_none | exact lvOK_s rfl okPrev_int | exact lvOK_s rfl okPrev_ref | exact lvOK_s rfl okPrev_null) ?_
        dsimp only [List.set]
        refine j_iinc X (nI (q + 1)) dL_stands_234 rfl (nI_add q 1) (by decide) (by first | exact lvOK_0 | exact lvOK_s rfl okPrev_none | exact lvOK_s rfl okPrev_int | exact lvOK_s rfl okPrev_ref | exact lvOK_s rfl okPrev_null) ?_
        dsimp only [List.set]
        refine j_goto X (tgt := 211) dL_stands_237 (by decide) ?_
        exact ih (q + 1) _ _ (by omega) (by omega) (by omega)
    have k205 : J G p l e { frames := 8, cells := 500, slots := 5000, locals := 152 } s m ar below meth c9 A Q 8 (c0 + 50) (s0 + 500) 205 [some (.ref (ad L 0)), some (.int (x1)), some (.int (x2)), some (.int (x3)), some (.int (nI d)), some (.int (rn (rl g) (sl g (oS (nI d)) 2) 0)), v6, v7] [] L (FW G L a b c) := by
      refine j_iconst X (0) dL_stands_205 (by decide) ?_
      refine j_istore X (i := 6) dL_stands_206 (by decide) (by first | exact lvOK_0 | exact lvOK_s rfl okPrev_none | exact lvOK_s rfl okPrev_int | exact lvOK_s rfl okPrev_ref | exact lvOK_s rfl okPrev_null) ?_
      dsimp only [List.set]
      refine j_iconst X (0) dL_stands_208 (by decide) ?_
      refine j_istore X (i := 7) dL_stands_209 (by decide) (by first | exact lvOK_0 | exact lvOK_s rfl okPrev_none | exact lvOK_s rfl okPrev_int | exact lvOK_s rfl okPrev_ref | exact lvOK_s rfl okPrev_null) ?_
      dsimp only [List.set]
      exact kp (g 2).toInt.toNat 0 _ _ (by omega) (by omega) (by omega)
    have k172 : J G p l e { frames := 8, cells := 500, slots := 5000, locals := 152 } s m ar below meth c9 A Q 8 (c0 + 40) (s0 + 400) 172 [some (.ref (ad L 0)), some (.int (x1)), some (.int (x2)), some (.int (x3)), some (.int (nI d)), some (.int (rn (rl g) (sl g (oS (nI d)) 2) 0)), v6, v7] [] L (FW G L a b c) := by
      refine j_aload_n X (i := 0) dL_stands_172 rfl rfl ?_
      refine j_iload X (i := 4) dL_stands_173 rfl ?_
      refine j_iconst X (5) dL_stands_175 (by decide) ?_
      refine j_callV2 X 8 (m_X8_side hl hL ((hA.1 _ hd).1 5 (by omega))) ml_L_91 im_yX8_side se_yX8_side in_X8 cd_yX8_side hy_yX8_side dL_stands_176 rfl (inL hL t_0 (by decide)) (FW8 hL t_0) ⟨(by decide), (by decide)⟩ ⟨(by dsimp only; omega), (by dsimp only; omega)⟩ (Nat.le_of_ble_eq_true rfl) (fun E hE => by obtain ⟨n9, hn9, -⟩ := hE; cases hn9) (fun r9 L9 f9 h9 => ?_)
      obtain ⟨h91, v9, hk9, h92, h93⟩ := h9
      cases hk9
      subst r9
      subst f9
      subst L9
      dsimp only [Option.toList, List.cons_append, List.nil_append, List.append]
      refine j_iconst X (1) dL_stands_179 (by decide) ?_
      refine j_icmp_ne X (tgt := 205) dL_stands_180 (by decide) (fun _ => ?_) (fun h => ?_)
      · refine J.widen (c1 := c0 + 50) (s1 := s0 + 500) (by omega) (by omega) ?_
        exact k205
      · obtain ⟨h8, h6⟩ := hI.2.2.2.2.2.2.1 h
        refine j_iload X (i := 5) dL_stands_183 rfl ?_
        refine j_if_gt X (tgt := 203) dL_stands_185 (by decide) (fun h => absurd h h8) (fun _ => ?_)
        refine j_aload_n X (i := 0) dL_stands_188 rfl rfl ?_
        refine j_iload X (i := 4) dL_stands_189 rfl ?_
        refine j_iconst X (4) dL_stands_191 (by decide) ?_
        refine j_callV2 X 8 (m_X8_side hl hL ((hA.1 _ hd).1 4 (by omega))) ml_L_91 im_yX8_side se_yX8_side in_X8 cd_yX8_side hy_yX8_side dL_stands_192 rfl (inL hL t_0 (by decide)) (FW8 hL t_0) ⟨(by decide), (by decide)⟩ ⟨(by dsimp only; omega), (by dsimp only; omega)⟩ (Nat.le_of_ble_eq_true rfl) (fun E hE => by obtain ⟨n9, hn9, -⟩ := hE; cases hn9) (fun r9 L9 f9 h9 => ?_)
        obtain ⟨h91, v9, hk9, h92, h93⟩ := h9
        cases hk9
        subst r9
        subst f9
        subst L9
        dsimp only [Option.toList, List.cons_append, List.nil_append, List.append]
        refine j_aload_n X (i := 0) dL_stands_195 rfl rfl ?_
        refine j_iconst X (3) dL_stands_196 (by decide) ?_
        refine j_callV1 X 8 (m_X8_property hl hL (hA.2.1 3 (by omega))) ml_L_87 im_yX8_property se_yX8_property in_X8 cd_yX8_property hy_yX8_property dL_stands_197 rfl (inL hL t_0 (by decide)) (FW8 hL t_0) ⟨(by decide), (by decide)⟩ ⟨(by dsimp only; omega), (by dsimp only; omega)⟩ (Nat.le_of_ble_eq_true rfl) (fun E hE => by obtain ⟨n9, hn9, -⟩ := hE; cases hn9) (fun r9 L9 f9 h9 => ?_)
        obtain ⟨h91, v9, hk9, h92, h93⟩ := h9
        cases hk9
        subst r9
        subst f9
        subst L9
        dsimp only [Option.toList, List.cons_append, List.nil_append, List.append]
        refine j_icmp_ne X (tgt := 205) dL_stands_200 (by decide) (fun _ => ?_) (fun h => absurd h h6)
        refine J.widen (c1 := c0 + 50) (s1 := s0 + 500) (by omega) (by omega) ?_
        exact k205
    have k155 : J G p l e { frames := 8, cells := 500, slots := 5000, locals := 152 } s m ar below meth c9 A Q 8 (c0 + 36) (s0 + 360) 155 [some (.ref (ad L 0)), some (.int (x1)), some (.int (x2)), some (.int (x3)), some (.int (nI d)), some (.int (rn (rl g) (sl g (oS (nI d)) 2) 0)), v6, v7] [] L (FW G L a b c) := by
      refine j_iload X (i := 5) dL_stands_155 rfl ?_
      refine j_if_le X (tgt := 172) dL_stands_157 (by decide) (fun _ => ?_) (fun h => ?_)
      · refine J.widen (c1 := c0 + 40) (s1 := s0 + 400) (by omega) (by omega) ?_
        exact k172
      · have h8 := hI.2.2.2.2.2.1 (i_pos h)
        refine j_aload_n X (i := 0) dL_stands_160 rfl rfl ?_
        refine j_iload X (i := 4) dL_stands_161 rfl ?_
        refine j_iconst X (3) dL_stands_163 (by decide) ?_
        refine j_callV2 X 8 (m_X8_side hl hL ((hA.1 _ hd).1 3 (by omega))) ml_L_91 im_yX8_side se_yX8_side in_X8 cd_yX8_side hy_yX8_side dL_stands_164 rfl (inL hL t_0 (by decide)) (FW8 hL t_0) ⟨(by decide), (by decide)⟩ ⟨(by dsimp only; omega), (by dsimp only; omega)⟩ (Nat.le_of_ble_eq_true rfl) (fun E hE => by obtain ⟨n9, hn9, -⟩ := hE; cases hn9) (fun r9 L9 f9 h9 => ?_)
        obtain ⟨h91, v9, hk9, h92, h93⟩ := h9
        cases hk9
        subst r9
        subst f9
        subst L9
        dsimp only [Option.toList, List.cons_append, List.nil_append, List.append]
        refine j_iload X (i := 5) dL_stands_167 rfl ?_
        refine j_icmp_ge X (tgt := 203) dL_stands_169 (by decide) (fun h => absurd h h8) (fun _ => ?_)
        refine J.widen (c1 := c0 + 40) (s1 := s0 + 400) (by omega) (by omega) ?_
        exact k172
    have k152 : ∀ v : Int32, v = MTE (rl g) (sl g (oS (nI d))) → J G p l e { frames := 8, cells := 500, slots := 5000, locals := 152 } s m ar below meth c9 A Q 8 (c0 + 36) (s0 + 360) 152 [some (.ref (ad L 0)), some (.int (x1)), some (.int (x2)), some (.int (x3)), some (.int (nI d)), some (.int (rn (rl g) (sl g (oS (nI d)) 2) 0)), v6, v7] [.int v, .int (MTE (rl g) (sl g (oS (nI d))))] L (FW G L a b c) := by
      intro v hv
      refine j_icmp_ne X (tgt := 203) dL_stands_152 (by decide) (fun h => absurd hv.symm h) (fun _ => ?_)
      exact k155
    have k111 : J G p l e { frames := 8, cells := 500, slots := 5000, locals := 152 } s m ar below meth c9 A Q 8 (c0 + 28) (s0 + 280) 111 [some (.ref (ad L 0)), some (.int (x1)), some (.int (x2)), some (.int (x3)), some (.int (nI d)), v5, v6, v7] [] L (FW G L a b c) := by
      refine j_aload_n X (i := 0) dL_stands_111 rfl rfl ?_
      refine j_aload_n X (i := 0) dL_stands_112 rfl rfl ?_
      refine j_iload X (i := 4) dL_stands_113 rfl ?_
      refine j_iconst X (2) dL_stands_115 (by decide) ?_
      refine j_callV2 X 8 (m_X8_side hl hL ((hA.1 _ hd).1 2 (by omega))) ml_L_91 im_yX8_side se_yX8_side in_X8 cd_yX8_side hy_yX8_side dL_stands_116 rfl (inL hL t_0 (by decide)) (FW8 hL t_0) ⟨(by decide), (by decide)⟩ ⟨(by dsimp only; omega), (by dsimp only; omega)⟩ (Nat.le_of_ble_eq_true rfl) (fun E hE => by obtain ⟨n9, hn9, -⟩ := hE; cases hn9) (fun r9 L9 f9 h9 => ?_)
      obtain ⟨h91, v9, hk9, h92, h93⟩ := h9
      cases hk9
      subst r9
      subst f9
      subst L9
      dsimp only [Option.toList, List.cons_append, List.nil_append, List.append]
      refine j_iconst X (0) dL_stands_119 (by decide) ?_
      refine j_callV2 X 8 (m_X8_period hl hL (hA.2.2.1 _ hI.2.2.2.1.1 hI.2.2.2.1.2)) ml_L_94 im_yX8_period se_yX8_period in_X8 cd_yX8_period hy_yX8_period dL_stands_120 rfl (inL hL t_0 (by decide)) (FW8 hL t_0) ⟨(by decide), (by decide)⟩ ⟨(by dsimp only; omega), (by dsimp only; omega)⟩ (Nat.le_of_ble_eq_true rfl) (fun E hE => by obtain ⟨n9, hn9, -⟩ := hE; cases hn9) (fun r9 L9 f9 h9 => ?_)
      obtain ⟨h91, v9, hk9, h92, h93⟩ := h9
      cases hk9
      subst r9
      subst f9
      subst L9
      dsimp only [Option.toList, List.cons_append, List.nil_append, List.append]
      refine j_istore X (i := 5) dL_stands_123 (by decide) (by first | exact lvOK_0 | exact lvOK_s rfl okPrev_none | exact lvOK_s rfl okPrev_int | exact lvOK_s rfl okPrev_ref | exact lvOK_s rfl okPrev_null) ?_
      dsimp only [List.set]
      refine j_aload_n X (i := 0) dL_stands_125 rfl rfl ?_
      refine j_iload X (i := 4) dL_stands_126 rfl ?_
      refine j_bipush X (11) dL_stands_128 (by decide) ?_
      refine j_callV2 X 8 (m_X8_side hl hL ((hA.1 _ hd).2.1)) ml_L_91 im_yX8_side se_yX8_side in_X8 cd_yX8_side hy_yX8_side dL_stands_130 rfl (inL hL t_0 (by decide)) (FW8 hL t_0) ⟨(by decide), (by decide)⟩ ⟨(by dsimp only; omega), (by dsimp only; omega)⟩ (Nat.le_of_ble_eq_true rfl) (fun E hE => by obtain ⟨n9, hn9, -⟩ := hE; cases hn9) (fun r9 L9 f9 h9 => ?_)
      obtain ⟨h91, v9, hk9, h92, h93⟩ := h9
      cases hk9
      subst r9
      subst f9
      subst L9
      dsimp only [Option.toList, List.cons_append, List.nil_append, List.append]
      refine j_iload X (i := 5) dL_stands_133 rfl ?_
      refine j_if_ne X (tgt := 142) dL_stands_135 (by decide) (fun h => ?_) (fun h => ?_)
      · skip
        refine j_iload X (i := 5) dL_stands_142 rfl ?_
        refine j_aload_n X (i := 0) dL_stands_144 rfl rfl ?_
        refine j_iload X (i := 4) dL_stands_145 rfl ?_
        refine j_iconst X (3) dL_stands_147 (by decide) ?_
        refine j_callV2 X 8 (m_X8_side hl hL ((hA.1 _ hd).1 3 (by omega))) ml_L_91 im_yX8_side se_yX8_side in_X8 cd_yX8_side hy_yX8_side dL_stands_148 rfl (inL hL t_0 (by decide)) (FW8 hL t_0) ⟨(by decide), (by decide)⟩ ⟨(by dsimp only; omega), (by dsimp only; omega)⟩ (Nat.le_of_ble_eq_true rfl) (fun E hE => by obtain ⟨n9, hn9, -⟩ := hE; cases hn9) (fun r9 L9 f9 h9 => ?_)
        obtain ⟨h91, v9, hk9, h92, h93⟩ := h9
        cases hk9
        subst r9
        subst f9
        subst L9
        dsimp only [Option.toList, List.cons_append, List.nil_append, List.append]
        refine j_isub X dL_stands_151 ?_
        refine J.widen (c1 := c0 + 36) (s1 := s0 + 360) (by omega) (by omega) ?_
        exact k152 _ (by unfold MTE; rw [if_neg h])
      · skip
        refine j_iconst X (-1) dL_stands_138 (by decide) ?_
        refine j_goto X (tgt := 152) dL_stands_139 (by decide) ?_
        refine J.widen (c1 := c0 + 36) (s1 := s0 + 360) (by omega) (by omega) ?_
        exact k152 _ (by unfold MTE; rw [if_pos h])
    have k60 : J G p l e { frames := 8, cells := 500, slots := 5000, locals := 152 } s m ar below meth c9 A Q 8 (c0 + 12) (s0 + 120) 60 [some (.ref (ad L 0)), some (.int (x1)), some (.int (x2)), some (.int (x3)), some (.int (nI d)), v5, v6, v7] [] L (FW G L a b c) := by
      refine j_aload_n X (i := 0) dL_stands_60 rfl rfl ?_
      refine j_iload X (i := 4) dL_stands_61 rfl ?_
      refine j_bipush X (7) dL_stands_63 (by decide) ?_
      refine j_callV2 X 8 (m_X8_side hl hL ((hA.1 _ hd).1 7 (by omega))) ml_L_91 im_yX8_side se_yX8_side in_X8 cd_yX8_side hy_yX8_side dL_stands_65 rfl (inL hL t_0 (by decide)) (FW8 hL t_0) ⟨(by decide), (by decide)⟩ ⟨(by dsimp only; omega), (by dsimp only; omega)⟩ (Nat.le_of_ble_eq_true rfl) (fun E hE => by obtain ⟨n9, hn9, -⟩ := hE; cases hn9) (fun r9 L9 f9 h9 => ?_)
      obtain ⟨h91, v9, hk9, h92, h93⟩ := h9
      cases hk9
      subst r9
      subst f9
      subst L9
      dsimp only [Option.toList, List.cons_append, List.nil_append, List.append]
      refine j_aload_n X (i := 0) dL_stands_68 rfl rfl ?_
      refine j_iload X (i := 4) dL_stands_69 rfl ?_
      refine j_bipush X (6) dL_stands_71 (by decide) ?_
      refine j_callV2 X 8 (m_X8_side hl hL ((hA.1 _ hd).1 6 (by omega))) ml_L_91 im_yX8_side se_yX8_side in_X8 cd_yX8_side hy_yX8_side dL_stands_73 rfl (inL hL t_0 (by decide)) (FW8 hL t_0) ⟨(by decide), (by decide)⟩ ⟨(by dsimp only; omega), (by dsimp only; omega)⟩ (Nat.le_of_ble_eq_true rfl) (fun E hE => by obtain ⟨n9, hn9, -⟩ := hE; cases hn9) (fun r9 L9 f9 h9 => ?_)
      obtain ⟨h91, v9, hk9, h92, h93⟩ := h9
      cases hk9
      subst r9
      subst f9
      subst L9
      dsimp only [Option.toList, List.cons_append, List.nil_append, List.append]
      refine j_icmp_gt X (tgt := 109) dL_stands_76 (by decide) (fun h => absurd h (i_nlt hI.2.2.1)) (fun _ => ?_)
      refine j_aload_n X (i := 0) dL_stands_79 rfl rfl ?_
      refine j_iload X (i := 4) dL_stands_80 rfl ?_
      refine j_iconst X (2) dL_stands_82 (by decide) ?_
      refine j_callV2 X 8 (m_X8_side hl hL ((hA.1 _ hd).1 2 (by omega))) ml_L_91 im_yX8_side se_yX8_side in_X8 cd_yX8_side hy_yX8_side dL_stands_83 rfl (inL hL t_0 (by decide)) (FW8 hL t_0) ⟨(by decide), (by decide)⟩ ⟨(by dsimp only; omega), (by dsimp only; omega)⟩ (Nat.le_of_ble_eq_true rfl) (fun E hE => by obtain ⟨n9, hn9, -⟩ := hE; cases hn9) (fun r9 L9 f9 h9 => ?_)
      obtain ⟨h91, v9, hk9, h92, h93⟩ := h9
      cases hk9
      subst r9
      subst f9
      subst L9
      dsimp only [Option.toList, List.cons_append, List.nil_append, List.append]
      refine j_aload_n X (i := 0) dL_stands_86 rfl rfl ?_
      refine j_iconst X (2) dL_stands_87 (by decide) ?_
      refine j_callV1 X 8 (m_X8_property hl hL (hA.2.1 2 (by omega))) ml_L_87 im_yX8_property se_yX8_property in_X8 cd_yX8_property hy_yX8_property dL_stands_88 rfl (inL hL t_0 (by decide)) (FW8 hL t_0) ⟨(by decide), (by decide)⟩ ⟨(by dsimp only; omega), (by dsimp only; omega)⟩ (Nat.le_of_ble_eq_true rfl) (fun E hE => by obtain ⟨n9, hn9, -⟩ := hE; cases hn9) (fun r9 L9 f9 h9 => ?_)
      obtain ⟨h91, v9, hk9, h92, h93⟩ := h9
      cases hk9
      subst r9
      subst f9
      subst L9
      dsimp only [Option.toList, List.cons_append, List.nil_append, List.append]
      refine j_icmp_ge X (tgt := 109) dL_stands_91 (by decide) (fun h => absurd (Int32.le_iff_toInt_le.mp h) (by have := hI.2.2.2.1.2; omega)) (fun _ => ?_)
      refine j_aload_n X (i := 0) dL_stands_94 rfl rfl ?_
      refine j_iload X (i := 4) dL_stands_95 rfl ?_
      refine j_iconst X (4) dL_stands_97 (by decide) ?_
      refine j_callV2 X 8 (m_X8_side hl hL ((hA.1 _ hd).1 4 (by omega))) ml_L_91 im_yX8_side se_yX8_side in_X8 cd_yX8_side hy_yX8_side dL_stands_98 rfl (inL hL t_0 (by decide)) (FW8 hL t_0) ⟨(by decide), (by decide)⟩ ⟨(by dsimp only; omega), (by dsimp only; omega)⟩ (Nat.le_of_ble_eq_true rfl) (fun E hE => by obtain ⟨n9, hn9, -⟩ := hE; cases hn9) (fun r9 L9 f9 h9 => ?_)
      obtain ⟨h91, v9, hk9, h92, h93⟩ := h9
      cases hk9
      subst r9
      subst f9
      subst L9
      dsimp only [Option.toList, List.cons_append, List.nil_append, List.append]
      refine j_aload_n X (i := 0) dL_stands_101 rfl rfl ?_
      refine j_iconst X (3) dL_stands_102 (by decide) ?_
      refine j_callV1 X 8 (m_X8_property hl hL (hA.2.1 3 (by omega))) ml_L_87 im_yX8_property se_yX8_property in_X8 cd_yX8_property hy_yX8_property dL_stands_103 rfl (inL hL t_0 (by decide)) (FW8 hL t_0) ⟨(by decide), (by decide)⟩ ⟨(by dsimp only; omega), (by dsimp only; omega)⟩ (Nat.le_of_ble_eq_true rfl) (fun E hE => by obtain ⟨n9, hn9, -⟩ := hE; cases hn9) (fun r9 L9 f9 h9 => ?_)
      obtain ⟨h91, v9, hk9, h92, h93⟩ := h9
      cases hk9
      subst r9
      subst f9
      subst L9
      dsimp only [Option.toList, List.cons_append, List.nil_append, List.append]
      refine j_icmp_le X (tgt := 111) dL_stands_106 (by decide) (fun _ => ?_) (fun h => absurd hI.2.2.2.2.1 h)
      refine J.widen (c1 := c0 + 28) (s1 := s0 + 280) (by omega) (by omega) ?_
      exact k111
    have k57 : ∀ v : Int32, J G p l e { frames := 8, cells := 500, slots := 5000, locals := 152 } s m ar below meth c9 A Q 8 (c0 + 12) (s0 + 120) 57 [some (.ref (ad L 0)), some (.int (x1)), some (.int (x2)), some (.int (x3)), some (.int (nI d)), v5, v6, v7] [.int v, .int v] L (FW G L a b c) := by
      intro v
      refine j_icmp_ne X (tgt := 109) dL_stands_57 (by decide) (fun h => absurd rfl h) (fun _ => ?_)
      exact k60
    have k15 : J G p l e { frames := 8, cells := 500, slots := 5000, locals := 152 } s m ar below meth c9 A Q 8 (c0) (s0) 15 [some (.ref (ad L 0)), some (.int (x1)), some (.int (x2)), some (.int (x3)), some (.int (nI d)), v5, v6, v7] [] L (FW G L a b c) := by
      refine j_aload_n X (i := 0) dL_stands_15 rfl rfl ?_
      refine j_iload X (i := 4) dL_stands_16 rfl ?_
      refine j_iconst X (0) dL_stands_18 (by decide) ?_
      refine j_callV2 X 8 (m_X8_side hl hL ((hA.1 _ hd).1 0 (by omega))) ml_L_91 im_yX8_side se_yX8_side in_X8 cd_yX8_side hy_yX8_side dL_stands_19 rfl (inL hL t_0 (by decide)) (FW8 hL t_0) ⟨(by decide), (by decide)⟩ ⟨(by dsimp only; omega), (by dsimp only; omega)⟩ (Nat.le_of_ble_eq_true rfl) (fun E hE => by obtain ⟨n9, hn9, -⟩ := hE; cases hn9) (fun r9 L9 f9 h9 => ?_)
      obtain ⟨h91, v9, hk9, h92, h93⟩ := h9
      cases hk9
      subst r9
      subst f9
      subst L9
      dsimp only [Option.toList, List.cons_append, List.nil_append, List.append]
      refine j_if_lt X (tgt := 109) dL_stands_22 (by decide) (fun h => absurd h hI.1) (fun _ => ?_)
      refine j_aload_n X (i := 0) dL_stands_25 rfl rfl ?_
      refine j_iload X (i := 4) dL_stands_26 rfl ?_
      refine j_iconst X (0) dL_stands_28 (by decide) ?_
      refine j_callV2 X 8 (m_X8_side hl hL ((hA.1 _ hd).1 0 (by omega))) ml_L_91 im_yX8_side se_yX8_side in_X8 cd_yX8_side hy_yX8_side dL_stands_29 rfl (inL hL t_0 (by decide)) (FW8 hL t_0) ⟨(by decide), (by decide)⟩ ⟨(by dsimp only; omega), (by dsimp only; omega)⟩ (Nat.le_of_ble_eq_true rfl) (fun E hE => by obtain ⟨n9, hn9, -⟩ := hE; cases hn9) (fun r9 L9 f9 h9 => ?_)
      obtain ⟨h91, v9, hk9, h92, h93⟩ := h9
      cases hk9
      subst r9
      subst f9
      subst L9
      dsimp only [Option.toList, List.cons_append, List.nil_append, List.append]
      refine j_if_ne X (tgt := 39) dL_stands_32 (by decide) (fun h => ?_) (fun h => ?_)
      · skip
        refine j_iconst X (0) dL_stands_39 (by decide) ?_
        refine j_aload_n X (i := 0) dL_stands_40 rfl rfl ?_
        refine j_iload X (i := 4) dL_stands_41 rfl ?_
        refine j_bipush X (8) dL_stands_43 (by decide) ?_
        refine j_callV2 X 8 (m_X8_side hl hL ((hA.1 _ hd).1 8 (by omega))) ml_L_91 im_yX8_side se_yX8_side in_X8 cd_yX8_side hy_yX8_side dL_stands_45 rfl (inL hL t_0 (by decide)) (FW8 hL t_0) ⟨(by decide), (by decide)⟩ ⟨(by dsimp only; omega), (by dsimp only; omega)⟩ (Nat.le_of_ble_eq_true rfl) (fun E hE => by obtain ⟨n9, hn9, -⟩ := hE; cases hn9) (fun r9 L9 f9 h9 => ?_)
        obtain ⟨h91, v9, hk9, h92, h93⟩ := h9
        cases hk9
        subst r9
        subst f9
        subst L9
        dsimp only [Option.toList, List.cons_append, List.nil_append, List.append]
        refine j_iconst X (1) dL_stands_48 (by decide) ?_
        refine j_icmp_ne X (tgt := 56) dL_stands_49 (by decide) (fun _ => ?_) (fun h7 => absurd (hI.2.1.mpr h7) h)
        refine j_iconst X (0) dL_stands_56 (by decide) ?_
        refine J.widen (c1 := c0 + 12) (s1 := s0 + 120) (by omega) (by omega) ?_
        exact k57 _
      · skip
        refine j_iconst X (1) dL_stands_35 (by decide) ?_
        refine j_goto X (tgt := 40) dL_stands_36 (by decide) ?_
        refine j_aload_n X (i := 0) dL_stands_40 rfl rfl ?_
        refine j_iload X (i := 4) dL_stands_41 rfl ?_
        refine j_bipush X (8) dL_stands_43 (by decide) ?_
        refine j_callV2 X 8 (m_X8_side hl hL ((hA.1 _ hd).1 8 (by omega))) ml_L_91 im_yX8_side se_yX8_side in_X8 cd_yX8_side hy_yX8_side dL_stands_45 rfl (inL hL t_0 (by decide)) (FW8 hL t_0) ⟨(by decide), (by decide)⟩ ⟨(by dsimp only; omega), (by dsimp only; omega)⟩ (Nat.le_of_ble_eq_true rfl) (fun E hE => by obtain ⟨n9, hn9, -⟩ := hE; cases hn9) (fun r9 L9 f9 h9 => ?_)
        obtain ⟨h91, v9, hk9, h92, h93⟩ := h9
        cases hk9
        subst r9
        subst f9
        subst L9
        dsimp only [Option.toList, List.cons_append, List.nil_append, List.append]
        refine j_iconst X (1) dL_stands_48 (by decide) ?_
        refine j_icmp_ne X (tgt := 56) dL_stands_49 (by decide) (fun h7 => absurd (hI.2.1.mp h) h7) (fun _ => ?_)
        refine j_iconst X (1) dL_stands_52 (by decide) ?_
        refine j_goto X (tgt := 57) dL_stands_53 (by decide) ?_
        refine J.widen (c1 := c0 + 12) (s1 := s0 + 120) (by omega) (by omega) ?_
        exact k57 _
    refine j_iload X (i := 4) dL_stands_9 rfl ?_
    refine j_iconst X (2) dL_stands_11 (by decide) ?_
    refine j_icmp_ge X (tgt := 306) dL_stands_12 (by decide) (fun h => absurd h (nI_ge (a := d) (b := 2) (by omega) (by omega))) (fun _ => ?_)
    exact k15
  refine j_iconst X (0) dL_stands_0 (by decide) ?_
  refine j_istore_n X (i := 1) dL_stands_1 rfl (by decide) (by first | exact lvOK_0 | exact lvOK_s rfl okPrev_none | exact lvOK_s rfl okPrev_int | exact lvOK_s rfl okPrev_ref | exact lvOK_s rfl okPrev_null) ?_
  dsimp only [List.set]
  refine j_iconst X (0) dL_stands_2 (by decide) ?_
  refine j_istore_n X (i := 2) dL_stands_3 rfl (by decide) (by first | exact lvOK_0 | exact lvOK_s rfl okPrev_none | exact lvOK_s rfl okPrev_int | exact lvOK_s rfl okPrev_ref | exact lvOK_s rfl okPrev_null) ?_
  dsimp only [List.set]
  refine j_iconst X (0) dL_stands_4 (by decide) ?_
  refine j_istore_n X (i := 3) dL_stands_5 rfl (by decide) (by first | exact lvOK_0 | exact lvOK_s rfl okPrev_none | exact lvOK_s rfl okPrev_int | exact lvOK_s rfl okPrev_ref | exact lvOK_s rfl okPrev_null) ?_
  dsimp only [List.set]
  refine j_iconst X (0) dL_stands_6 (by decide) ?_
  refine j_istore X (i := 4) dL_stands_7 (by decide) (by first | exact lvOK_0 | exact lvOK_s rfl okPrev_none | exact lvOK_s rfl okPrev_int | exact lvOK_s rfl okPrev_ref | exact lvOK_s rfl okPrev_null) ?_
  dsimp only [List.set]
  refine hbody 0 0 0 0 0 0 _ _ _ (by omega) (by omega) (by omega) (fun w5 w6 w7 => ?_)
  refine hbody 1 (0 + 100) (0 + 1000) _ _ _ _ _ _ (by omega) (by omega) (by omega) (fun u5 u6 u7 => ?_)
  rw [hx1, hx2, hx3]
  refine j_iload X (i := 4) dL_stands_9 rfl ?_
  refine j_iconst X (2) dL_stands_11 (by decide) ?_
  refine j_icmp_ge X (tgt := 306) dL_stands_12 (by decide) (fun _ => ?_) (fun h => absurd (nI_le (a := 2) (b := 2) (by omega) (by omega)) h)
  refine J.widen (c1 := 203) (s1 := 2030) (by omega) (by omega) ?_
  exact k306 _ _ _ _
