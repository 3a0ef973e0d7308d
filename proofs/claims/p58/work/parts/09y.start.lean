def LDI (b : Mem) : Mem := up2 (up2 (up2 (up2 (up2 (up2 (up2 (up2 (up2 b 0 0 0) 0 13 (up2 b 0 0 0 0 12)) 0 12 0) 0 14 0) 0 18 0) 0 19 (-1)) 0 20 0) 0 21 0) 0 3 1
theorem ldi_k {b : Mem} {k : Nat} (h : k ≠ 0) : LDI b k = b k := by
  unfold LDI
  rw [p2_n h, p2_n h, p2_n h, p2_n h, p2_n h, p2_n h, p2_n h, p2_n h, p2_n h]
theorem ldi_j {b : Mem} {j : Nat} (h0 : j ≠ 0) (h3 : j ≠ 3) (h12 : j ≠ 12) (h : j < 13 ∨ 23 < j) : LDI b 0 j = b 0 j := by
  unfold LDI
  rw [p2_s, u_n h3, p2_s, u_n (by omega), p2_s, u_n (by omega), p2_s, u_n (by omega), p2_s, u_n (by omega), p2_s, u_n (by omega), p2_s, u_n h12, p2_s, u_n (by omega), p2_s, u_n h0]
theorem ldi_s {b : Mem} : LDI b 0 3 = 1 ∧ LDI b 0 21 = 0 ∧ LDI b 0 20 = 0 ∧ LDI b 0 19 = -1 ∧ LDI b 0 18 = 0 ∧ LDI b 0 14 = 0 ∧ LDI b 0 12 = 0 ∧ LDI b 0 13 = b 0 12 ∧ LDI b 0 0 = 0 := by
  unfold LDI
  refine ⟨?_, ?_, ?_, ?_, ?_, ?_, ?_, ?_, ?_⟩
  · rw [p2_s, u_s]
  · rw [p2_s, u_n (by omega), p2_s, u_s]
  · rw [p2_s, u_n (by omega), p2_s, u_n (by omega), p2_s, u_s]
  · rw [p2_s, u_n (by omega), p2_s, u_n (by omega), p2_s, u_n (by omega), p2_s, u_s]
  · rw [p2_s, u_n (by omega), p2_s, u_n (by omega), p2_s, u_n (by omega), p2_s, u_n (by omega), p2_s, u_s]
  · rw [p2_s, u_n (by omega), p2_s, u_n (by omega), p2_s, u_n (by omega), p2_s, u_n (by omega), p2_s, u_n (by omega), p2_s, u_s]
  · rw [p2_s, u_n (by omega), p2_s, u_n (by omega), p2_s, u_n (by omega), p2_s, u_n (by omega), p2_s, u_n (by omega), p2_s, u_n (by omega), p2_s, u_s]
  · rw [p2_s, u_n (by omega), p2_s, u_n (by omega), p2_s, u_n (by omega), p2_s, u_n (by omega), p2_s, u_n (by omega), p2_s, u_n (by omega), p2_s, u_n (by omega), p2_s, u_s, p2_s, u_n (by omega)]
  · rw [p2_s, u_n (by omega), p2_s, u_n (by omega), p2_s, u_n (by omega), p2_s, u_n (by omega), p2_s, u_n (by omega), p2_s, u_n (by omega), p2_s, u_n (by omega), p2_s, u_n (by omega), p2_s, u_s]
theorem ldi_e {N : Nat} {b : Mem} : f_X9_load N b = bP (f_X9_layPlain N (LDI b)) fun b20 => bP (f_X9_scan N b20) fun b23 => bP (f_X9_isWord N 35 b23) fun x26 => if x26 = 0 then (f_X9_load_75 N b23 (1 : Int32)) else (f_X9_load_75 N b23 (0 : Int32)) := rfl
theorem clr {a : Mem} : (∀ k, k ≠ 1 → k ≠ 4 → k ≠ 5 → f_X3_clear a k = a k) ∧ f_X3_clear a 1 2 = 0 ∧ f_X3_clear a 1 3 = -1 ∧ f_X3_clear a 1 5 = 0 ∧ f_X3_clear a 1 6 = -1 ∧ f_X3_clear a 1 9 = 0 ∧ f_X3_clear a 4 1 = 0 ∧ f_X3_clear a 4 2 = 0 ∧ f_X3_clear a 4 3 = 0 ∧ f_X3_clear a 4 4 = -1 ∧ f_X3_clear a 5 = fillI 25 (a 5) 0 := by
  unfold f_X3_clear f_X4_clear
  simp only [b_T, Nat.reduceAdd]
  refine ⟨fun k k1 k4 k5 => ?_, ?_, ?_, ?_, ?_, ?_, ?_, ?_, ?_, ?_, ?_⟩
  · rw [p2_n k1, p2_n k1, p2_n k1, p2_n k1, p2_n k1, p2_n k1, p2_n k4, p2_n k4, p2_n k4, p2_n k4, R_n k5]
  · rw [p2_s, u_n (by omega), p2_s, u_n (by omega), p2_s, u_n (by omega), p2_s, u_n (by omega), p2_s, u_n (by omega), p2_s, u_s]
  · rw [p2_s, u_n (by omega), p2_s, u_n (by omega), p2_s, u_n (by omega), p2_s, u_n (by omega), p2_s, u_s]
  · rw [p2_s, u_n (by omega), p2_s, u_n (by omega), p2_s, u_s]
  · rw [p2_s, u_n (by omega), p2_s, u_s]
  · rw [p2_s, u_s]
  · rw [p2_n (by omega), p2_n (by omega), p2_n (by omega), p2_n (by omega), p2_n (by omega), p2_n (by omega), p2_s, u_n (by omega), p2_s, u_n (by omega), p2_s, u_n (by omega), p2_s, u_s]
  · rw [p2_n (by omega), p2_n (by omega), p2_n (by omega), p2_n (by omega), p2_n (by omega), p2_n (by omega), p2_s, u_n (by omega), p2_s, u_n (by omega), p2_s, u_s]
  · rw [p2_n (by omega), p2_n (by omega), p2_n (by omega), p2_n (by omega), p2_n (by omega), p2_n (by omega), p2_s, u_n (by omega), p2_s, u_s]
  · rw [p2_n (by omega), p2_n (by omega), p2_n (by omega), p2_n (by omega), p2_n (by omega), p2_n (by omega), p2_s, u_s]
  · rw [p2_n (by omega), p2_n (by omega), p2_n (by omega), p2_n (by omega), p2_n (by omega), p2_n (by omega), p2_n (by omega), p2_n (by omega), p2_n (by omega), p2_n (by omega), R_s]

