def LOGR (g : Nat → Int32) (s th lo ga : Int32) : Nat → Int32 := fun j => if j = 8 then g 8 + 1 else if j = 71 then s else if j = 72 then th else if j = 73 then lo else if j = 74 then ga else if j = 75 then sl g (oS s) 0 else if j = 76 then g 7 else if 77 ≤ j ∧ j < 311 then g (j - 6) else g j
theorem r_klog {N : Nat} {b : Mem} {s th lo ga : Int32} (hN : 300 ≤ N) (h : b 0 3 = 0) (hs : s = 0 ∨ s = 1) : f_X9_keepLog N s th lo ga b = some (upR b 1 (LOGR (b 1) s th lo ga)) := by
  have key : ∀ (n x fu : Nat), x = 76 + n → x < 311 → n + 1 ≤ fu → f_X9_keepLog_5 N s th lo ga fu (nI x) (upR b 1 (fun j => if x < j ∧ j < 311 then b 1 (j - 6) else b 1 j)) = some (upR b 1 (LOGR (b 1) s th lo ga)) := by
    intro n
    induction n with
    | zero =>
      intro x fu hx hx2 hf
      obtain ⟨f, rfl⟩ : ∃ f, fu = f + 1 := ⟨fu - 1, by omega⟩
      subst hx
      have e71 : (71 : Int32).toNatClampNeg = 71 := rfl
      have e72 : (72 : Int32).toNatClampNeg = 72 := rfl
      have e73 : (73 : Int32).toNatClampNeg = 73 := rfl
      have e74 : (74 : Int32).toNatClampNeg = 74 := rfl
      have e75 : (75 : Int32).toNatClampNeg = 75 := rfl
      have e76 : (76 : Int32).toNatClampNeg = 76 := rfl
      have e7 : (7 : Int32).toNatClampNeg = 7 := rfl
      have e8 : (8 : Int32).toNatClampNeg = 8 := rfl
      have e0 : (0 : Int32).toNatClampNeg = 0 := rfl
      have h3 : ∀ f, upR b 1 f 0 3 = 0 := fun f => by rw [R_n (by omega)]; exact h
      have hM : ∀ f, rowM (upR b 1 f 0 3) = 1 := fun f => by rw [h3]; rfl
      have hW : ∀ (f : Nat → Int32) (f1 : Nat → Int32), upR (upR b 1 f) 1 f1 = upR b 1 f1 := fun f f1 => R_R
      rw [f_X9_keepLog_5_s, if_pos (by decide)]
      simp only [b_T, hM, hW, R_s, e71, e72, e73, e74, e75, e76, e7, e8]
      rw [r_of (h3 _) hs (by decide) (by decide), b_P, R_s, e0]
      congr 2
      funext j
      have hsl : sl (upd (upd (upd (upd (fun j => if 76 + 0 < j ∧ j < 311 then b 1 (j - 6) else b 1 j) 71 s) 72 th) 73 lo) 74 ga) (oS s) 0 = sl (b 1) (oS s) 0 := by
        have o1 := @oS_ge s
        have o2 := @oS_le s
        rw [sl_i (by omega), sl_i (by omega), u_n (by omega), u_n (by omega), u_n (by omega), u_n (by omega)]
        exact if_neg (by omega)
      rw [hsl]
      unfold LOGR
      by_cases j8 : j = 8
      · subst j8
        rw [if_pos rfl, u_s, u_n (by omega), u_n (by omega), u_n (by omega), u_n (by omega), u_n (by omega), u_n (by omega)]
        rfl
      · rw [if_neg j8, u_n j8]
        by_cases j76 : j = 76
        · subst j76
          rw [u_s, u_n (by omega), u_n (by omega), u_n (by omega), u_n (by omega), u_n (by omega)]
          rfl
        · rw [u_n j76]
          by_cases j75 : j = 75
          · subst j75
            rw [u_s]
            rfl
          · rw [u_n j75]
            by_cases j74 : j = 74
            · subst j74
              rw [u_s]
              rfl
            · rw [u_n j74]
              by_cases j73 : j = 73
              · subst j73
                rw [u_s]
                rfl
              · rw [u_n j73]
                by_cases j72 : j = 72
                · subst j72
                  rw [u_s]
                  rfl
                · rw [u_n j72]
                  by_cases j71 : j = 71
                  · subst j71
                    rw [u_s]
                    rfl
                  · rw [u_n j71, if_neg j71, if_neg j72, if_neg j73, if_neg j74, if_neg j75, if_neg j76]
                    by_cases hj : 77 ≤ j ∧ j < 311
                    · rw [if_pos hj]
                      exact if_pos (by omega)
                    · rw [if_neg hj]
                      exact if_neg (by omega)
    | succ n ih =>
      intro x fu hx hx2 hf
      obtain ⟨f, rfl⟩ : ∃ f, fu = f + 1 := ⟨fu - 1, by omega⟩
      have ex : (nI x).toInt = x := z_nI (by omega)
      have e77 : (77 : Int32).toInt = 77 := rfl
      have e6 : (6 : Int32).toInt = 6 := rfl
      have e1 : (1 : Int32).toInt = 1 := rfl
      have es : nI x - (6 : Int32) = nI (x - 6) := by
        rw [z_eq, z_sub (by rw [ex, e6]; omega) (by rw [ex, e6]; omega), ex, e6, z_nI (by omega)]
        omega
      have em : nI x + (-1 : Int32) = nI (x - 1) := by
        rw [z_m1, z_eq, z_sub (by rw [ex, e1]; omega) (by rw [ex, e1]; omega), ex, e1, z_nI (by omega)]
        omega
      have h3 : ∀ f, upR b 1 f 0 3 = 0 := fun f => by rw [R_n (by omega)]; exact h
      have hM : ∀ f, rowM (upR b 1 f 0 3) = 1 := fun f => by rw [h3]; rfl
      rw [f_X9_keepLog_5_s, if_neg (by rw [z_lt, ex, e77]; omega), es, em, z_cN (by omega) (by omega), z_cN (by omega) (by omega)]
      simp only [b_T, hM]
      rw [R_R, R_s, z_tN (by omega), z_tN (by omega)]
      have e : upd (fun j => if x < j ∧ j < 311 then b 1 (j - 6) else b 1 j) x (if x < x - 6 ∧ x - 6 < 311 then b 1 (x - 6 - 6) else b 1 (x - 6)) = fun j => if x - 1 < j ∧ j < 311 then b 1 (j - 6) else b 1 j := by
        funext j
        show (if j = x then _ else if x < j ∧ j < 311 then b 1 (j - 6) else b 1 j) = (if x - 1 < j ∧ j < 311 then b 1 (j - 6) else b 1 j)
        by_cases h1 : j = x
        · subst h1
          rw [if_pos rfl, if_neg (by omega), if_pos (by omega)]
        · rw [if_neg h1]
          by_cases h2 : x < j ∧ j < 311
          · rw [if_pos h2, if_pos (by omega)]
          · rw [if_neg h2, if_neg (by omega)]
      rw [e]
      exact ih (x - 1) f (by omega) (by omega) (by omega)
  unfold f_X9_keepLog
  have hk := key 234 310 N (by omega) (by omega) (by omega)
  have e0 : upR b 1 (fun j => if 310 < j ∧ j < 311 then b 1 (j - 6) else b 1 j) = b := by
    have : (fun j => if 310 < j ∧ j < 311 then b 1 (j - 6) else b 1 j) = b 1 := by
      funext j
      rw [if_neg (by omega)]
    rw [this, R_id]
  rw [e0] at hk
  exact hk
theorem forty1 : ∀ x, x < 40 → ((nI x + (1 : Int32)) - (nI x + (1 : Int32)) / (40 : Int32) * (40 : Int32)) = nI ((x + 1) % 40) := by decide +kernel
theorem c_add {a : Mem} {s th lo ga le ti : Int32} {x : Nat} (hx : x < 40) (h2 : a 11 2 = nI x) : f_X1_add 11 s th lo ga le ti a 11 1 = mnI (a 11 1 + 1) 40 ∧ f_X1_add 11 s th lo ga le ti a 11 2 = nI ((x + 1) % 40) ∧ (∀ k, k ≠ 11 → k ≠ 12 → f_X1_add 11 s th lo ga le ti a k = a k) ∧ ∀ j, f_X1_add 11 s th lo ga le ti a 12 j = if j = (x + 1) % 40 * 6 + 5 then ti else if j = (x + 1) % 40 * 6 + 4 then le else if j = (x + 1) % 40 * 6 + 3 then ga else if j = (x + 1) % 40 * 6 + 2 then lo else if j = (x + 1) % 40 * 6 + 1 then th else if j = (x + 1) % 40 * 6 then s else a 12 j := by
  have hy : (x + 1) % 40 < 40 := by omega
  unfold f_X1_add
  simp only [b_T, Nat.reduceAdd]
  rw [h2, forty1 x hx]
  generalize (x + 1) % 40 = y at hy ⊢
  have e6 : (6 : Int32).toInt = 6 := rfl
  have ey : (nI y).toInt = y := z_nI (by omega)
  have hy6 : nI y * (6 : Int32) = nI (y * 6) := by
    rw [z_eq, z_mul (by rw [ey, e6]; omega) (by rw [ey, e6]; omega), ey, e6, z_nI (by omega)]
    omega
  have hw : ∀ w : Nat, w < 6 → nI (y * 6) + nI w = nI (y * 6 + w) := fun w _ => nI_add _ _
  have hp : ∀ (w : Nat) (f : Nat → Int32) (v : Int32), w < 6 → putI 240 f (nI (y * 6 + w)) v = upd f (y * 6 + w) v := fun w f v hw => by
    rw [z_put (by rw [z_nI (by omega)]; omega) (by rw [z_nI (by omega)]; omega), z_tN (by omega)]
  have e2 : up2 (up2 a 11 2 (nI y)) 11 1 (mnI (up2 a 11 2 (nI y) 11 1 + 1) 40) 11 2 = nI y := by rw [p2_s, u_n (by omega), p2_s, u_s]
  have ea : up2 a 11 2 (nI y) 11 1 = a 11 1 := by rw [p2_s, u_n (by omega)]
  rw [e2, ea, hy6]
  have w0 : nI (y * 6) + (0 : Int32) = nI (y * 6 + 0) := hw 0 (by omega)
  have w1 : nI (y * 6) + (1 : Int32) = nI (y * 6 + 1) := hw 1 (by omega)
  have w2 : nI (y * 6) + (2 : Int32) = nI (y * 6 + 2) := hw 2 (by omega)
  have w3 : nI (y * 6) + (3 : Int32) = nI (y * 6 + 3) := hw 3 (by omega)
  have w4 : nI (y * 6) + (4 : Int32) = nI (y * 6 + 4) := hw 4 (by omega)
  have w5 : nI (y * 6) + (5 : Int32) = nI (y * 6 + 5) := hw 5 (by omega)
  rw [w0, w1, w2, w3, w4, w5]
  simp only [R_R, R_s, hp 0 _ _ (by omega), hp 1 _ _ (by omega), hp 2 _ _ (by omega), hp 3 _ _ (by omega), hp 4 _ _ (by omega), hp 5 _ _ (by omega)]
  refine ⟨?_, ?_, ?_, ?_⟩
  · rw [R_n (by omega), p2_s, u_s]
  · rw [R_n (by omega), p2_s, u_n (by omega), p2_s, u_s]
  · intro k z11 z12
    rw [R_n z12, p2_n z11, p2_n z11]
  · intro j
    rw [p2_n (show (12 : Nat) ≠ 11 by omega), p2_n (show (12 : Nat) ≠ 11 by omega)]
    rfl
theorem LG_add {a : Mem} {g : Nat → Int32} {s th lo ga : Int32} (h : LG a 11 g) (h8 : 0 ≤ (g 8).toInt) (h8' : (g 8).toInt ≤ 2147000000) : LG (f_X1_add 11 s th lo ga (sl g (oS s) 0) (g 7) a) 11 (LOGR g s th lo ga) := by
  obtain ⟨l1, l2, l3, l4⟩ := h
  have e1 : (1 : Int32).toInt = 1 := rfl
  have e40 : (40 : Int32).toInt = 40 := rfl
  have hx : (a 11 2).toNatClampNeg < 40 := by rw [z_tn]; omega
  have h2 : a 11 2 = nI (a 11 2).toNatClampNeg := (z_of l2).symm
  obtain ⟨c1, c2, c3, c4⟩ := @c_add a s th lo ga (sl g (oS s) 0) (g 7) _ hx h2
  have hL8 : LOGR g s th lo ga 8 = g 8 + 1 := if_pos rfl
  have h81 : (g 8 + 1).toInt = (g 8).toInt + 1 := by rw [z_add (by rw [e1]; omega) (by rw [e1]; omega), e1]
  generalize hxx : (a 11 2).toNatClampNeg = x at hx h2 c1 c2 c3 c4 l4
  have hy : (x + 1) % 40 < 40 := by omega
  have c1' : f_X1_add 11 s th lo ga (sl g (oS s) 0) (g 7) a 11 1 = mnI 40 (g 8 + 1) := by
    rw [c1, l1, z_eq, z_mn, z_mn, h81, z_add (by rw [z_mn, e1, e40]; omega) (by rw [z_mn, e1, e40]; omega), z_mn, e1, e40]
    omega
  unfold LG
  rw [c1', c2, hL8, h81, z_nI (by omega), z_tN (by omega)]
  refine ⟨rfl, by omega, by omega, fun i w hi hi2 hw => ?_⟩
  rw [show (11 + 1 : Nat) = 12 from rfl, c4]
  unfold LOGR
  by_cases hi0 : i = 0
  · subst hi0
    have q : ((x + 1) % 40 + 40 - 0) % 40 = (x + 1) % 40 := by omega
    rw [q]
    have : w = 0 ∨ w = 1 ∨ w = 2 ∨ w = 3 ∨ w = 4 ∨ w = 5 := by omega
    rcases this with rfl | rfl | rfl | rfl | rfl | rfl
    · rw [if_neg (by omega), if_neg (by omega), if_neg (by omega), if_neg (by omega), if_neg (by omega), if_pos (by omega)]; rfl
    · rw [if_neg (by omega), if_neg (by omega), if_neg (by omega), if_neg (by omega), if_pos (by omega)]; rfl
    · rw [if_neg (by omega), if_neg (by omega), if_neg (by omega), if_pos (by omega)]; rfl
    · rw [if_neg (by omega), if_neg (by omega), if_pos (by omega)]; rfl
    · rw [if_neg (by omega), if_pos (by omega)]; rfl
    · rw [if_pos (by omega)]; rfl
  · have q : ((x + 1) % 40 + 40 - i) % 40 = (x + 40 - (i - 1)) % 40 := by omega
    have qn : (x + 40 - (i - 1)) % 40 ≠ (x + 1) % 40 := by omega
    rw [q]
    have hl := l4 (i - 1) w (by omega) (by omega) hw
    generalize (x + 40 - (i - 1)) % 40 = z at qn hl ⊢
    rw [if_neg (by omega), if_neg (by omega), if_neg (by omega), if_neg (by omega), if_neg (by omega), if_neg (by omega)]
    rw [if_neg (by omega), if_neg (by omega), if_neg (by omega), if_neg (by omega), if_neg (by omega), if_neg (by omega), if_neg (by omega), if_pos (by omega)]
    rw [show (11 + 1 : Nat) = 12 from rfl] at hl
    rw [hl]
    congr 1
    omega

