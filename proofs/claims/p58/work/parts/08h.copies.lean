
theorem cpl {α : Type} (L9 : Nat → Int32 → Mem → Option α) (F9 : Mem → Option α) (D Sr d s : Nat) (hDS : D ≠ Sr) (P : Mem → Prop) (hP : ∀ (b : Mem) (f : Nat → Int32), P b → P (upR b D f)) (step : ∀ (fu x : Nat) (b : Mem), x < 311 → P b → L9 (fu + 1) (nI x) b = L9 fu (nI (x + 1)) (upR b D (upd (b D) (d + x) (b Sr (s + x))))) (stop : ∀ (fu : Nat) (b : Mem), P b → L9 (fu + 1) (nI 311) b = F9 b) {N : Nat} (hN : 312 ≤ N) (b : Mem) (hb : P b) : L9 N (nI 0) b = F9 (upR b D (fun j => if d ≤ j ∧ j < d + 311 then b Sr (s + (j - d)) else b D j)) := by
  have key : ∀ (n x fu : Nat), x + n = 311 → n + 1 ≤ fu → L9 fu (nI x) (upR b D (fun j => if d ≤ j ∧ j < d + x then b Sr (s + (j - d)) else b D j)) = F9 (upR b D (fun j => if d ≤ j ∧ j < d + 311 then b Sr (s + (j - d)) else b D j)) := by
    intro n
    induction n with
    | zero =>
      intro x fu hx hf
      obtain ⟨f, rfl⟩ : ∃ f, fu = f + 1 := ⟨fu - 1, by omega⟩
      have hx3 : x = 311 := by omega
      subst hx3
      exact stop f _ (hP _ _ hb)
    | succ n ih =>
      intro x fu hx hf
      obtain ⟨f, rfl⟩ : ∃ f, fu = f + 1 := ⟨fu - 1, by omega⟩
      rw [step f x _ (by omega) (hP _ _ hb)]
      have e : (upR (upR b D (fun j => if d ≤ j ∧ j < d + x then b Sr (s + (j - d)) else b D j)) D (upd ((upR b D (fun j => if d ≤ j ∧ j < d + x then b Sr (s + (j - d)) else b D j)) D) (d + x) ((upR b D (fun j => if d ≤ j ∧ j < d + x then b Sr (s + (j - d)) else b D j)) Sr (s + x)))) = upR b D (fun j => if d ≤ j ∧ j < d + (x + 1) then b Sr (s + (j - d)) else b D j) := by
        rw [R_R, R_s, R_n (Ne.symm hDS)]
        congr 1
        funext j
        show (if j = d + x then b Sr (s + x) else if d ≤ j ∧ j < d + x then b Sr (s + (j - d)) else b D j) = (if d ≤ j ∧ j < d + (x + 1) then b Sr (s + (j - d)) else b D j)
        by_cases h1 : j = d + x
        · subst h1
          rw [if_pos rfl, if_pos (by omega), show d + x - d = x by omega]
        · rw [if_neg h1]
          by_cases h2 : d ≤ j ∧ j < d + x
          · rw [if_pos h2, if_pos (by omega)]
          · rw [if_neg h2, if_neg (by omega)]
      rw [e]
      exact ih (x + 1) f (by omega) (by omega)
  have hk := key 311 0 N (by omega) (by omega)
  have e0 : upR b D (fun j => if d ≤ j ∧ j < d + 0 then b Sr (s + (j - d)) else b D j) = b := by
    have : (fun j => if d ≤ j ∧ j < d + 0 then b Sr (s + (j - d)) else b D j) = b D := by
      funext j
      rw [if_neg (by omega)]
    rw [this, R_id]
  rw [e0] at hk
  exact hk
theorem z_311 {x : Nat} (h : x < 311) : ¬ (311 : Int32) ≤ nI x := nI_ge (a := x) (b := 311) h (by decide)
theorem z_311s : (311 : Int32) ≤ nI 311 := by decide
theorem z_cN {α : Type} {x n : Nat} {k : Option α} (h : x < n) (hn : n < 2147483648) : chkI (nI x) n k = k := if_neg (nI_in h hn)
theorem z_tN {x : Nat} (h : x < 2147483648) : (nI x).toNatClampNeg = x := nI_clamp h
theorem z_ix {m x : Nat} (hm : m ≤ 6) (hx : x < 311) : (311 : Int32) * nI m + nI x = nI (311 * m + x) := by
  have e : (311 : Int32).toInt = 311 := rfl
  have em : (nI m).toInt = m := z_nI (by omega)
  have ex : (nI x).toInt = x := z_nI (by omega)
  have h1 : ((311 : Int32) * nI m).toInt = 311 * m := by rw [z_mul (by rw [e, em]; omega) (by rw [e, em]; omega), e, em]
  rw [z_eq, z_add (by rw [h1, ex]; omega) (by rw [h1, ex]; omega), h1, ex, z_nI (by omega)]
  omega
theorem r_aside {N : Nat} {b : Mem} (hN : 312 ≤ N) : f_X9_keepAside N b = some (upR b 3 (fun j => if 0 ≤ j ∧ j < 0 + 311 then b 1 (0 + (j - 0)) else b 3 j)) := by
  unfold f_X9_keepAside
  refine cpl (f_X9_keepAside_2 N) (fun b => some b) 3 1 0 0 (by decide) (fun _ => True) (fun _ _ _ => trivial) ?_ ?_ hN b trivial
  · intro fu x b1 hx _
    rw [f_X9_keepAside_2_s, if_neg (z_311 hx), z_cN (by omega) (by omega), z_cN (by omega) (by omega), z_tN (by omega), b_T, b_T, nI_1, Nat.zero_add]
  · intro fu b1 _
    rw [f_X9_keepAside_2_s, if_pos z_311s]
theorem r_back {N : Nat} {p0 : Int32} {b : Mem} (hN : 312 ≤ N) : f_X9_layBack N p0 b = some (p0, upR b 1 (fun j => if 0 ≤ j ∧ j < 0 + 311 then b 3 (0 + (j - 0)) else b 1 j)) := by
  unfold f_X9_layBack
  refine cpl (f_X9_layBack_2 N p0) (fun b => some (p0, b)) 1 3 0 0 (by decide) (fun _ => True) (fun _ _ _ => trivial) ?_ ?_ hN b trivial
  · intro fu x b1 hx _
    rw [f_X9_layBack_2_s, if_neg (z_311 hx), z_cN (by omega) (by omega), z_cN (by omega) (by omega), z_tN (by omega), b_T, b_T, nI_1, Nat.zero_add]
  · intro fu b1 _
    rw [f_X9_layBack_2_s, if_pos z_311s]
theorem r_ld128 {N : Nat} {b : Mem} (hN : 312 ≤ N) : f_X9_load_128 N N 0 b = some (upR b 1 (fun j => if 0 ≤ j ∧ j < 0 + 311 then b 2 (0 + (j - 0)) else b 1 j)) := by
  refine cpl (f_X9_load_128 N) (fun b => some b) 1 2 0 0 (by decide) (fun _ => True) (fun _ _ _ => trivial) ?_ ?_ hN b trivial
  · intro fu x b1 hx _
    rw [f_X9_load_128_s, if_neg (z_311 hx), z_cN (by omega) (by omega), z_cN (by omega) (by omega), z_tN (by omega), b_T, b_T, nI_1, Nat.zero_add]
  · intro fu b1 _
    rw [f_X9_load_128_s, if_pos z_311s]
theorem r_kp {N p : Nat} {b : Mem} (hN : 312 ≤ N) (hp : p < 2) : f_X9_keep_15 N (nI p) N 0 b = some (b 1 7, upR (upR b 5 (fun j => if 311 * p ≤ j ∧ j < 311 * p + 311 then b 1 (0 + (j - 311 * p)) else b 5 j)) 6 (upd (b 6) p 1)) := by
  have h := cpl (f_X9_keep_15 N (nI p)) (fun b10 => chkI (nI p) 2 <| bT (upR b10 6 (upd (b10 6) (nI p).toNatClampNeg (vp_nar .boolean (1 : Int32)))) fun b13 => some ((b13 1 ((7 : Int32)).toNatClampNeg), b13)) 5 1 (311 * p) 0 (by decide) (fun _ => True) (fun _ _ _ => trivial) (by
    intro fu x b1 hx _
    rw [f_X9_keep_15_s, if_neg (z_311 hx), z_cN (by omega) (by omega), z_ix (by omega) hx, z_cN (by omega) (by omega), z_tN (by omega), z_tN (by omega), b_T, b_T, nI_1, Nat.zero_add]) (by
    intro fu b1 _
    rw [f_X9_keep_15_s, if_pos z_311s]) hN b trivial
  rw [nI_0] at h
  rw [h, z_cN hp (by omega), z_tN (by omega), b_T, R_n (show (6 : Nat) ≠ 5 by omega), R_n (show (1 : Nat) ≠ 6 by omega), R_n (show (1 : Nat) ≠ 5 by omega)]
  rfl
theorem r_rs {N p : Nat} {b : Mem} (hN : 312 ≤ N) (hp : p < 2) : f_X9_restore_40 N (nI p) N 0 b = some (b 5 (311 * p + 7), upR b 1 (fun j => if 0 ≤ j ∧ j < 0 + 311 then b 5 (311 * p + (j - 0)) else b 1 j)) := by
  have h := cpl (f_X9_restore_40 N (nI p)) (fun b17 => some ((b17 1 ((7 : Int32)).toNatClampNeg), b17)) 1 5 0 (311 * p) (by decide) (fun _ => True) (fun _ _ _ => trivial) (by
    intro fu x b1 hx _
    rw [f_X9_restore_40_s, if_neg (z_311 hx), z_ix (by omega) hx, z_cN (by omega) (by omega), z_cN (by omega) (by omega), z_tN (by omega), z_tN (by omega), b_T, b_T, nI_1, Nat.zero_add]) (by
    intro fu b1 _
    rw [f_X9_restore_40_s, if_pos z_311s]) hN b trivial
  rw [nI_0] at h
  rw [h, R_s]
  rfl
theorem r_un {N n : Nat} {b : Mem} (hN : 312 ≤ N) (hn : n < 6) (hb : b 0 27 = nI n) : f_X9_undo_33 N N 0 b = some (nI n, upR b 1 (fun j => if 0 ≤ j ∧ j < 0 + 311 then b 7 (311 * n + (j - 0)) else b 1 j)) := by
  have h := cpl (f_X9_undo_33 N) (fun b10 => some ((b10 0 27), b10)) 1 7 0 (311 * n) (by decide) (fun b => b 0 27 = nI n) (fun b f h => h) (by
    intro fu x b1 hx hb1
    rw [f_X9_undo_33_s, if_neg (z_311 hx), hb1, z_ix (by omega) hx, z_cN (by omega) (by omega), z_cN (by omega) (by omega), z_tN (by omega), z_tN (by omega), b_T, b_T, nI_1, Nat.zero_add]) (by
    intro fu b1 _
    rw [f_X9_undo_33_s, if_pos z_311s]) hN b hb
  rw [nI_0] at h
  rw [h, R_n (show (0 : Nat) ≠ 1 by omega), hb]
theorem r_rm5 {N n : Nat} {b : Mem} (hN : 312 ≤ N) (hn : n < 6) (hb : b 0 27 = nI n) : f_X9_remember_52 N b = some (up2 (upR b 7 (fun j => if 311 * n ≤ j ∧ j < 311 * n + 311 then b 1 (0 + (j - 311 * n)) else b 7 j)) 0 27 (nI (n + 1))) := by
  unfold f_X9_remember_52
  have h := cpl (f_X9_remember_54 N) (fun b3 => some (up2 b3 0 27 (nI (n + 1)))) 7 1 (311 * n) 0 (by decide) (fun b => b 0 27 = nI n) (fun b f h => h) (by
    intro fu x b1 hx hb1
    rw [f_X9_remember_54_s, if_neg (z_311 hx), hb1, z_cN (by omega) (by omega), z_ix (by omega) hx, z_cN (by omega) (by omega), z_tN (by omega), z_tN (by omega), b_T, b_T, nI_1, Nat.zero_add]) (by
    intro fu b1 hb1
    rw [f_X9_remember_54_s, if_pos z_311s, hb1, nI_1]
    rfl) hN b hb
  rw [nI_0] at h
  exact h
theorem r_rm1 {N : Nat} {b : Mem} (hN : 1560 ≤ N) (hb : b 0 27 = nI 6) : f_X9_remember_13 N N 311 b = f_X9_remember_52 N (up2 (upR b 7 (fun j => if j < 1555 then b 7 (j + 311) else b 7 j)) 0 27 (nI 5)) := by
  have key : ∀ (n x fu : Nat), x + n = 1866 → 311 ≤ x → n + 1 ≤ fu → f_X9_remember_13 N fu (nI x) (upR b 7 (fun j => if j + 311 < x then b 7 (j + 311) else b 7 j)) = f_X9_remember_52 N (up2 (upR b 7 (fun j => if j < 1555 then b 7 (j + 311) else b 7 j)) 0 27 (nI 5)) := by
    intro n
    induction n with
    | zero =>
      intro x fu hx h3 hf
      obtain ⟨f, rfl⟩ : ∃ f, fu = f + 1 := ⟨fu - 1, by omega⟩
      have hx3 : x = 1866 := by omega
      subst hx3
      rw [f_X9_remember_13_s, if_pos (by decide), R_n (show (0 : Nat) ≠ 7 by omega), hb, nI_pred, b_T]
      congr 3
      funext j
      by_cases h1 : j < 1555
      · rw [if_pos (by omega), if_pos h1]
      · rw [if_neg (by omega), if_neg h1]
    | succ n ih =>
      intro x fu hx h3 hf
      obtain ⟨f, rfl⟩ : ∃ f, fu = f + 1 := ⟨fu - 1, by omega⟩
      have ex : (nI x).toInt = x := z_nI (by omega)
      have e311 : (311 : Int32).toInt = 311 := rfl
      have es : nI x - (311 : Int32) = nI (x - 311) := by
        rw [z_eq, z_sub (by rw [ex, e311]; omega) (by rw [ex, e311]; omega), ex, e311, z_nI (by omega)]
        omega
      rw [f_X9_remember_13_s, if_neg (show ¬ (1866 : Int32) ≤ nI x from nI_ge (a := x) (b := 1866) (by omega) (by decide)), es, z_cN (by omega) (by omega), z_cN (by omega) (by omega), z_tN (by omega), z_tN (by omega), R_R, R_s, b_T, nI_1]
      have e : upd (fun j => if j + 311 < x then b 7 (j + 311) else b 7 j) (x - 311) (if x + 311 < x then b 7 (x + 311) else b 7 x) = fun j => if j + 311 < x + 1 then b 7 (j + 311) else b 7 j := by
        funext j
        show (if j = x - 311 then (if x + 311 < x then b 7 (x + 311) else b 7 x) else if j + 311 < x then b 7 (j + 311) else b 7 j) = (if j + 311 < x + 1 then b 7 (j + 311) else b 7 j)
        by_cases h1 : j = x - 311
        · rw [if_pos h1, if_neg (by omega), if_pos (by omega), show j + 311 = x by omega]
        · rw [if_neg h1]
          by_cases h2 : j + 311 < x
          · rw [if_pos h2, if_pos (by omega)]
          · rw [if_neg h2, if_neg (by omega)]
      rw [e]
      exact ih (x + 1) f (by omega) (by omega) (by omega)
  have hk := key 1555 311 N (by omega) (by omega) (by omega)
  have e0 : upR b 7 (fun j => if j + 311 < 311 then b 7 (j + 311) else b 7 j) = b := by
    have : (fun j => if j + 311 < 311 then b 7 (j + 311) else b 7 j) = b 7 := by
      funext j
      rw [if_neg (by omega)]
    rw [this, R_id]
  rw [e0] at hk
  exact hk

def pastN (n : Nat) (p now : Nat → Int32) : Nat → Int32 := if n = 6 then (fun j => if 1555 ≤ j ∧ j < 1866 then now (j - 1555) else if j < 1555 then p (j + 311) else p j) else fun j => if 311 * n ≤ j ∧ j < 311 * n + 311 then now (j - 311 * n) else p j
theorem r_rmb {N n : Nat} {b : Mem} (hN : 1560 ≤ N) (hn : n ≤ 6) (hb : b 0 27 = nI n) : f_X9_remember N b = some (up2 (upR b 7 (pastN n (b 7) (b 1))) 0 27 (nI (min (n + 1) 6))) := by
  unfold f_X9_remember pastN
  by_cases h6 : n = 6
  · subst h6
    rw [if_pos (show b 0 27 = (6 : Int32) from hb), r_rm1 hN hb, r_rm5 (n := 5) (by omega) (by omega) (by rw [p2_s, u_s]), p2_n (show (1 : Nat) ≠ 0 by omega), R_n (show (1 : Nat) ≠ 7 by omega), p2_n (show (7 : Nat) ≠ 0 by omega), R_s, if_pos rfl]
    unfold up2
    rw [R_cm (show (7 : Nat) ≠ 0 by omega), R_R, R_R, R_s, R_n (show (0 : Nat) ≠ 7 by omega), u_uu, R_n (show (0 : Nat) ≠ 7 by omega), show min (6 + 1) 6 = 5 + 1 by omega]
    have e : (fun j => if 311 * 5 ≤ j ∧ j < 311 * 5 + 311 then b 1 (0 + (j - 311 * 5)) else if j < 1555 then b 7 (j + 311) else b 7 j) = (fun j => if 1555 ≤ j ∧ j < 1866 then b 1 (j - 1555) else if j < 1555 then b 7 (j + 311) else b 7 j) := by
      funext j
      rw [show (0 + (j - 311 * 5)) = j - 1555 by omega]
    rw [e]
  · have hne : ¬ b 0 27 = (6 : Int32) := by
      rw [hb]
      intro h9
      have h8 := z_eq.1 h9
      rw [z_nI (by omega)] at h8
      have e6 : (6 : Int32).toInt = 6 := rfl
      omega
    rw [if_neg hne, r_rm5 (n := n) (by omega) (by omega) hb, if_neg h6, show min (n + 1) 6 = n + 1 by omega]
    have e : (fun j => if 311 * n ≤ j ∧ j < 311 * n + 311 then b 1 (0 + (j - 311 * n)) else b 7 j) = (fun j => if 311 * n ≤ j ∧ j < 311 * n + 311 then b 1 (j - 311 * n) else b 7 j) := by
      funext j
      rw [Nat.zero_add]
    rw [e]

