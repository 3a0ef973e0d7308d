/-! ===== THE TYPED WORLD: every cell of the system has a number (its role) and holds a row of numbers; a: the class, b: the reference, c: the law ===== -/
abbrev Mem : Type := Nat → Nat → Int32
def upR (a : Mem) (k : Nat) (g : Nat → Int32) : Mem := fun k1 => if k1 = k then g else a k1
def up2 (a : Mem) (k j : Nat) (x : Int32) : Mem := upR a k (upd (a k) j x)
def tyL : List Nat := [8, 3, 0, 24, 4, 21, 2, 25, 6, 4, 21, 1, 22, 5, 23, 5, 23, 7, 5, 23, 5, 23, 26, 27, 6, 4, 21, 1, 22, 5, 23, 5, 23, 6, 4, 21, 1, 22, 5, 23, 5, 23, 6, 4, 21, 1, 22, 5, 23, 5, 23, 6, 4, 21, 1, 22, 5, 23, 5, 23, 6, 4, 21, 1, 22, 5, 23, 5, 23, 6, 4, 21, 1, 22, 5, 23, 5, 23, 6, 4, 21, 1, 22, 5, 23, 5, 23, 6, 4, 21, 1, 22, 5, 23, 5, 23]
def ty (k : Nat) : Nat := tyL.getD k 99
def ad (L : List Nat) (k : Nat) : Nat := L.getD k 0
def LOK (L : List Nat) : Prop := L.Nodup ∧ L.length = 96
def nb (x : Int32) : Int32 := if x = 0 then 0 else 1
def sdr (k : Nat) (x : Int32) : Nat := if x = 0 then k + 5 else k + 7
def rowR (x : Int32) : Nat := if x = 0 then 97 else 98
def rowM (x : Int32) : Nat := if x = 0 then 1 else 2
def rv (a b c : Mem) (k : Nat) : Nat → Int32 := a k
def dbl (x y : Int32) : UInt64 := (x.toUInt32.toUInt64 <<< 32) ||| y.toUInt32.toUInt64
abbrev aZ (G : GG) (n : Nat) (g : Nat → Int32) : va_E := .inl (G.2.1 2, n, .inl g)
abbrev aL (G : GG) (n : Nat) (g : Nat → Int64) : va_E := .inl (G.2.1 3, n, .inr (.inl g))
abbrev aD (G : GG) (n : Nat) (g : Nat → UInt64) : va_E := .inl (G.2.1 4, n, .inr (.inr (.inr (.inl g))))
abbrev aO (G : GG) (n : Nat) (g : Nat → Option Nat) : va_E := .inl (G.2.1 5, n, .inr (.inr (.inr (.inr g))))
def pastR (i : Nat) : Nat := 24 + 9 * i
def slotR (i : Nat) : Nat := 78 + 9 * i
abbrev cl0 (L : List Nat) (k : Nat) (v : Nat → Int32) : List Value := [.ref (ad L (k + 1)), .int (v 1)]
abbrev cl1 (L : List Nat) (k : Nat) (v : Nat → Int32) : List Value := [.ref (ad L (k + 1)), .int (v 1), .int (v 2)]
abbrev cl2 (L : List Nat) (k : Nat) (v : Nat → Int32) : List Value := [.ref (ad L (7)), .int (v 1)]
abbrev cl3 (L : List Nat) (k : Nat) (v : Nat → Int32) : List Value := [.ref (ad L (2)), .ref (ad L (4)), .int (nb (v 2)), .int (v 3), .int (v 4), .int (v 5), .int (v 6), .int (v 7), .int (v 8), .int (v 9), .int (v 10)]
abbrev cl4 (L : List Nat) (k : Nat) (v : Nat → Int32) : List Value := [.ref (ad L (k + 1)), .int (v 1), .int (v 2), .int (v 3), .int (v 4)]
abbrev cl5 (L : List Nat) (k : Nat) (v : Nat → Int32) : List Value := [.ref (ad L (k + 1)), .int (v 1), .int (v 2), .int (v 3), .int (v 4), .int (v 5), .int (nb (v 6)), .int (v 7), .int (v 8), .int (nb (v 9)), .int (nb (v 10)), .int (v 11), .int (v 12)]
abbrev cl6 (L : List Nat) (k : Nat) (v : Nat → Int32) : List Value := [.ref (ad L (k + 1)), .ref (ad L (k + 3)), .ref (ad L (sdr k (v 2))), .ref (ad L (sdr k (v 3))), .int (nb (v 4)), .int (v 5), .int (v 6), .int (v 7), .int (v 8), .int (v 9), .int (v 10), .int (nb (v 11))]
abbrev cl7 (L : List Nat) (k : Nat) (v : Nat → Int32) : List Value := [.ref (ad L (18)), .ref (ad L (20)), .int (v 2), .int (v 3), .int (v 4), .int (v 5)]
abbrev cl8 (L : List Nat) (k : Nat) (v : Nat → Int32) : List Value := [.ref (ad L (1)), .ref (ad L (2)), .ref (ad L (6)), .ref (ad L (8)), .ref (ad L (17)), .ref (ad L (22)), .int (v 6), .int (v 7), .ref (ad L (23))]
def cntA (G : GG) (L : List Nat) (k : Nat) (v : Nat → Int32) : va_E := if ty k = 0 then .inr (0, cl0 L k v) else if ty k = 1 then .inr (1, cl1 L k v) else if ty k = 2 then .inr (2, cl2 L k v) else if ty k = 3 then .inr (3, cl3 L k v) else if ty k = 4 then .inr (4, cl4 L k v) else if ty k = 5 then .inr (5, cl5 L k v) else if ty k = 6 then .inr (6, cl6 L k v) else if ty k = 7 then .inr (7, cl7 L k v) else if ty k = 8 then .inr (8, cl8 L k v) else aI G 0 v
def cntB (G : GG) (L : List Nat) (k : Nat) (v : Nat → Int32) : va_E := if ty k = 21 then aI G 25 v else if ty k = 22 then aI G 240 v else if ty k = 23 then aI G 5 v else if ty k = 24 then aB G 400 v else if ty k = 25 then aB G 256 v else if ty k = 26 then aO G 6 (fun i => if i < 6 then some (ad L (pastR i)) else none) else if ty k = 27 then aO G 2 (fun i => if i < 2 then some (ad L (slotR i)) else none) else aI G 0 v
def cnt (G : GG) (L : List Nat) (k : Nat) (v : Nat → Int32) : va_E := if ty k < 9 then cntA G L k v else cntB G L k v
def FW (G : GG) (L : List Nat) (a b c : Mem) : Nat → va_E := fun x => cnt G L (L.idxOf x) (rv a b c (L.idxOf x))
theorem ty_lt7 {k t : Nat} (h : ty k = t) (ht : t ≠ 99) : k < 96 := by
  by_cases hk : k < 96
  · exact hk
  · exfalso
    have h2 : tyL.getD k 99 = 99 := by
      have h3 : tyL.length = 96 := by decide +kernel
      rw [List.getD_eq_getElem?_getD, List.getElem?_eq_none (by omega)]
      rfl
    exact ht (h.symm.trans h2)
theorem ty_lt {k t : Nat} (h : ty k = t) (ht : t ≠ 99 ∧ t ≠ 41 ∧ t ≠ 42) : k < 96 := ty_lt7 h ht.1
theorem lenL {L : List Nat} (hL : LOK L) {k : Nat} (hk : k < 96) : k < L.length := by rw [hL.2]; exact hk
theorem ad_eqL {L : List Nat} {k : Nat} (h : k < L.length) : ad L k = L[k] := by
  unfold ad
  rw [List.getD_eq_getElem?_getD, List.getElem?_eq_getElem h]
  rfl
theorem ad_memL {L : List Nat} {k : Nat} (h : k < L.length) : ad L k ∈ L := by
  rw [ad_eqL h]
  exact List.getElem_mem h
theorem ad_mem {L : List Nat} (hL : LOK L) {k : Nat} (hk : k < 96) : ad L k ∈ L := ad_memL (lenL hL hk)
theorem inL {L : List Nat} (hL : LOK L) {k t : Nat} (h : ty k = t) (ht : t ≠ 99 ∧ t ≠ 41 ∧ t ≠ 42) : ad L k ∈ L := ad_mem hL (ty_lt h ht)
theorem ad_ix {L : List Nat} (hL : LOK L) {k : Nat} (h : k < L.length) : L.idxOf (ad L k) = k := by
  rw [ad_eqL h]
  exact List.Nodup.idxOf_getElem hL.1 k h
theorem ad_of {L : List Nat} {x : Nat} (hx : x ∈ L) : ∃ k, k < L.length ∧ x = ad L k := by
  obtain ⟨k, h, e⟩ := List.getElem_of_mem hx
  exact ⟨k, h, by rw [ad_eqL h]; exact e.symm⟩
theorem FW_atL {G : GG} {L : List Nat} {a b c : Mem} (hL : LOK L) {k : Nat} (hk : k < L.length) : FW G L a b c (ad L k) = cnt G L k (rv a b c k) := by
  unfold FW
  rw [ad_ix hL hk]
theorem FW_at {G : GG} {L : List Nat} {a b c : Mem} (hL : LOK L) {k : Nat} (hk : k < 96) : FW G L a b c (ad L k) = cnt G L k (rv a b c k) := FW_atL hL (lenL hL hk)
theorem rv_a {a b c : Mem} {k : Nat} (h : k < 96) : rv a b c k = a k := rfl
theorem tyL_lo : ∀ k, k < 96 → (ty k ≤ 8 ∨ (21 ≤ ty k ∧ ty k ≤ 27)) → k < 96 := by decide +kernel
theorem lo_of {k t : Nat} (h : ty k = t) (ht : (t ≤ 8 ∨ (21 ≤ t ∧ t ≤ 27))) : k < 96 := tyL_lo k (ty_lt h (by omega)) (by rw [h]; exact ht)
theorem upR_s {a : Mem} {k : Nat} {g : Nat → Int32} : upR a k g k = g := if_pos rfl
theorem upR_n {a : Mem} {k k1 : Nat} {g : Nat → Int32} (h : k1 ≠ k) : upR a k g k1 = a k1 := if_neg h
/-- a write of one cell -/
theorem FW_upL {G : GG} {L : List Nat} {a b c a1 b1 c1 : Mem} (hL : LOK L) {k : Nat} (hk : k < L.length) (e : va_E) (h1 : cnt G L k (rv a1 b1 c1 k) = e) (h2 : ∀ k1, k1 ≠ k → rv a1 b1 c1 k1 = rv a b c k1) : ∀ x ∈ L, va_up (FW G L a b c) (ad L k) e x = FW G L a1 b1 c1 x := by
  intro x hx
  obtain ⟨k1, hk1, rfl⟩ := ad_of hx
  by_cases h : k1 = k
  · subst h
    rw [va_up_self, FW_atL hL hk1, h1]
  · rw [va_up_ne, FW_atL hL hk1, FW_atL hL hk1, h2 k1 h]
    intro h9
    apply h
    rw [← ad_ix hL hk1, h9, ad_ix hL hk]
theorem FW_up {G : GG} {L : List Nat} {a b c a1 b1 c1 : Mem} (hL : LOK L) {k : Nat} (hk : k < 96) (e : va_E) (h1 : cnt G L k (rv a1 b1 c1 k) = e) (h2 : ∀ k1, k1 ≠ k → rv a1 b1 c1 k1 = rv a b c k1) : ∀ x ∈ L, va_up (FW G L a b c) (ad L k) e x = FW G L a1 b1 c1 x := FW_upL hL (lenL hL hk) e h1 h2
theorem rv_upa {a b c : Mem} {k : Nat} {g : Nat → Int32} (hk : k < 96) : rv (upR a k g) b c k = g := by rw [rv_a hk, upR_s]
theorem rv_upa_n {a b c : Mem} {k : Nat} {g : Nat → Int32} : ∀ k1, k1 ≠ k → rv (upR a k g) b c k1 = rv a b c k1 := by
  intro k1 h
  unfold rv
  rw [upR_n h]
theorem rv_up2a {a b c : Mem} {k j : Nat} {x : Int32} (hk : k < 96) : rv (up2 a k j x) b c k = upd (a k) j x := rv_upa hk
theorem rv_up2a_n {a b c : Mem} {k j : Nat} {x : Int32} : ∀ k1, k1 ≠ k → rv (up2 a k j x) b c k1 = rv a b c k1 := rv_upa_n
theorem nb_B {x : Int32} : isB (nb x) := by
  unfold nb
  split
  · exact Or.inl rfl
  · exact Or.inr rfl
theorem nb_id {x : Int32} (h : isB x) : nb x = x := by rcases h with rfl | rfl <;> decide
theorem isB_0 : isB 0 := Or.inl rfl
theorem isB_1 : isB 1 := Or.inr rfl
theorem cnt_0 {G : GG} {L : List Nat} {k : Nat} {v : Nat → Int32} (h : ty k = 0) : cnt G L k v = .inr (0, cl0 L k v) := by unfold cnt cntA; rw [if_pos (by omega)]; simp only [h, Nat.reduceEqDiff, reduceIte]
theorem FW0 {G : GG} {L : List Nat} {a b c : Mem} (hL : LOK L) {k : Nat} (h : ty k = 0) : FW G L a b c (ad L k) = .inr (0, cl0 L k (a k)) := by rw [FW_at hL (ty_lt h (by decide)), cnt_0 h, rv_a (lo_of h (by decide))]
theorem cnt_1 {G : GG} {L : List Nat} {k : Nat} {v : Nat → Int32} (h : ty k = 1) : cnt G L k v = .inr (1, cl1 L k v) := by unfold cnt cntA; rw [if_pos (by omega)]; simp only [h, Nat.reduceEqDiff, reduceIte]
theorem FW1 {G : GG} {L : List Nat} {a b c : Mem} (hL : LOK L) {k : Nat} (h : ty k = 1) : FW G L a b c (ad L k) = .inr (1, cl1 L k (a k)) := by rw [FW_at hL (ty_lt h (by decide)), cnt_1 h, rv_a (lo_of h (by decide))]
theorem cnt_2 {G : GG} {L : List Nat} {k : Nat} {v : Nat → Int32} (h : ty k = 2) : cnt G L k v = .inr (2, cl2 L k v) := by unfold cnt cntA; rw [if_pos (by omega)]; simp only [h, Nat.reduceEqDiff, reduceIte]
theorem FW2 {G : GG} {L : List Nat} {a b c : Mem} (hL : LOK L) {k : Nat} (h : ty k = 2) : FW G L a b c (ad L k) = .inr (2, cl2 L k (a k)) := by rw [FW_at hL (ty_lt h (by decide)), cnt_2 h, rv_a (lo_of h (by decide))]
theorem cnt_3 {G : GG} {L : List Nat} {k : Nat} {v : Nat → Int32} (h : ty k = 3) : cnt G L k v = .inr (3, cl3 L k v) := by unfold cnt cntA; rw [if_pos (by omega)]; simp only [h, Nat.reduceEqDiff, reduceIte]
theorem FW3 {G : GG} {L : List Nat} {a b c : Mem} (hL : LOK L) {k : Nat} (h : ty k = 3) : FW G L a b c (ad L k) = .inr (3, cl3 L k (a k)) := by rw [FW_at hL (ty_lt h (by decide)), cnt_3 h, rv_a (lo_of h (by decide))]
theorem cnt_4 {G : GG} {L : List Nat} {k : Nat} {v : Nat → Int32} (h : ty k = 4) : cnt G L k v = .inr (4, cl4 L k v) := by unfold cnt cntA; rw [if_pos (by omega)]; simp only [h, Nat.reduceEqDiff, reduceIte]
theorem FW4 {G : GG} {L : List Nat} {a b c : Mem} (hL : LOK L) {k : Nat} (h : ty k = 4) : FW G L a b c (ad L k) = .inr (4, cl4 L k (a k)) := by rw [FW_at hL (ty_lt h (by decide)), cnt_4 h, rv_a (lo_of h (by decide))]
theorem cnt_5 {G : GG} {L : List Nat} {k : Nat} {v : Nat → Int32} (h : ty k = 5) : cnt G L k v = .inr (5, cl5 L k v) := by unfold cnt cntA; rw [if_pos (by omega)]; simp only [h, Nat.reduceEqDiff, reduceIte]
theorem FW5 {G : GG} {L : List Nat} {a b c : Mem} (hL : LOK L) {k : Nat} (h : ty k = 5) : FW G L a b c (ad L k) = .inr (5, cl5 L k (a k)) := by rw [FW_at hL (ty_lt h (by decide)), cnt_5 h, rv_a (lo_of h (by decide))]
theorem cnt_6 {G : GG} {L : List Nat} {k : Nat} {v : Nat → Int32} (h : ty k = 6) : cnt G L k v = .inr (6, cl6 L k v) := by unfold cnt cntA; rw [if_pos (by omega)]; simp only [h, Nat.reduceEqDiff, reduceIte]
theorem FW6 {G : GG} {L : List Nat} {a b c : Mem} (hL : LOK L) {k : Nat} (h : ty k = 6) : FW G L a b c (ad L k) = .inr (6, cl6 L k (a k)) := by rw [FW_at hL (ty_lt h (by decide)), cnt_6 h, rv_a (lo_of h (by decide))]
theorem cnt_7 {G : GG} {L : List Nat} {k : Nat} {v : Nat → Int32} (h : ty k = 7) : cnt G L k v = .inr (7, cl7 L k v) := by unfold cnt cntA; rw [if_pos (by omega)]; simp only [h, Nat.reduceEqDiff, reduceIte]
theorem FW7 {G : GG} {L : List Nat} {a b c : Mem} (hL : LOK L) {k : Nat} (h : ty k = 7) : FW G L a b c (ad L k) = .inr (7, cl7 L k (a k)) := by rw [FW_at hL (ty_lt h (by decide)), cnt_7 h, rv_a (lo_of h (by decide))]
theorem cnt_8 {G : GG} {L : List Nat} {k : Nat} {v : Nat → Int32} (h : ty k = 8) : cnt G L k v = .inr (8, cl8 L k v) := by unfold cnt cntA; rw [if_pos (by omega)]; simp only [h, Nat.reduceEqDiff, reduceIte]
theorem FW8 {G : GG} {L : List Nat} {a b c : Mem} (hL : LOK L) {k : Nat} (h : ty k = 8) : FW G L a b c (ad L k) = .inr (8, cl8 L k (a k)) := by rw [FW_at hL (ty_lt h (by decide)), cnt_8 h, rv_a (lo_of h (by decide))]
theorem cnt_21 {G : GG} {L : List Nat} {k : Nat} {v : Nat → Int32} (h : ty k = 21) : cnt G L k v = aI G 25 v := by unfold cnt cntB; rw [if_neg (by omega)]; simp only [h, Nat.reduceEqDiff, reduceIte]
theorem FW21 {G : GG} {L : List Nat} {a b c : Mem} (hL : LOK L) {k : Nat} (h : ty k = 21) : FW G L a b c (ad L k) = aI G 25 (a k) := by rw [FW_at hL (ty_lt h (by decide)), cnt_21 h, rv_a (lo_of h (by decide))]
theorem cnt_22 {G : GG} {L : List Nat} {k : Nat} {v : Nat → Int32} (h : ty k = 22) : cnt G L k v = aI G 240 v := by unfold cnt cntB; rw [if_neg (by omega)]; simp only [h, Nat.reduceEqDiff, reduceIte]
theorem FW22 {G : GG} {L : List Nat} {a b c : Mem} (hL : LOK L) {k : Nat} (h : ty k = 22) : FW G L a b c (ad L k) = aI G 240 (a k) := by rw [FW_at hL (ty_lt h (by decide)), cnt_22 h, rv_a (lo_of h (by decide))]
theorem cnt_23 {G : GG} {L : List Nat} {k : Nat} {v : Nat → Int32} (h : ty k = 23) : cnt G L k v = aI G 5 v := by unfold cnt cntB; rw [if_neg (by omega)]; simp only [h, Nat.reduceEqDiff, reduceIte]
theorem FW23 {G : GG} {L : List Nat} {a b c : Mem} (hL : LOK L) {k : Nat} (h : ty k = 23) : FW G L a b c (ad L k) = aI G 5 (a k) := by rw [FW_at hL (ty_lt h (by decide)), cnt_23 h, rv_a (lo_of h (by decide))]
theorem cnt_24 {G : GG} {L : List Nat} {k : Nat} {v : Nat → Int32} (h : ty k = 24) : cnt G L k v = aB G 400 v := by unfold cnt cntB; rw [if_neg (by omega)]; simp only [h, Nat.reduceEqDiff, reduceIte]
theorem FW24 {G : GG} {L : List Nat} {a b c : Mem} (hL : LOK L) {k : Nat} (h : ty k = 24) : FW G L a b c (ad L k) = aB G 400 (a k) := by rw [FW_at hL (ty_lt h (by decide)), cnt_24 h, rv_a (lo_of h (by decide))]
theorem cnt_25 {G : GG} {L : List Nat} {k : Nat} {v : Nat → Int32} (h : ty k = 25) : cnt G L k v = aB G 256 v := by unfold cnt cntB; rw [if_neg (by omega)]; simp only [h, Nat.reduceEqDiff, reduceIte]
theorem FW25 {G : GG} {L : List Nat} {a b c : Mem} (hL : LOK L) {k : Nat} (h : ty k = 25) : FW G L a b c (ad L k) = aB G 256 (a k) := by rw [FW_at hL (ty_lt h (by decide)), cnt_25 h, rv_a (lo_of h (by decide))]
theorem cnt_26 {G : GG} {L : List Nat} {k : Nat} {v : Nat → Int32} (h : ty k = 26) : cnt G L k v = aO G 6 (fun i => if i < 6 then some (ad L (pastR i)) else none) := by unfold cnt cntB; rw [if_neg (by omega)]; simp only [h, Nat.reduceEqDiff, reduceIte]
theorem FW26 {G : GG} {L : List Nat} {a b c : Mem} (hL : LOK L) {k : Nat} (h : ty k = 26) : FW G L a b c (ad L k) = aO G 6 (fun i => if i < 6 then some (ad L (pastR i)) else none) := by rw [FW_at hL (ty_lt h (by decide)), cnt_26 h]
theorem cnt_27 {G : GG} {L : List Nat} {k : Nat} {v : Nat → Int32} (h : ty k = 27) : cnt G L k v = aO G 2 (fun i => if i < 2 then some (ad L (slotR i)) else none) := by unfold cnt cntB; rw [if_neg (by omega)]; simp only [h, Nat.reduceEqDiff, reduceIte]
theorem FW27 {G : GG} {L : List Nat} {a b c : Mem} (hL : LOK L) {k : Nat} (h : ty k = 27) : FW G L a b c (ad L k) = aO G 2 (fun i => if i < 2 then some (ad L (slotR i)) else none) := by rw [FW_at hL (ty_lt h (by decide)), cnt_27 h]
theorem ty4_0 {k : Nat} (h : ty k = 4) : ty (k + 1) = 21 := (by decide +kernel : ∀ k, k < 96 → ty k = 4 → ty (k + 1) = 21) k (ty_lt h (by decide)) h
theorem ty1_0 {k : Nat} (h : ty k = 1) : ty (k + 1) = 22 := (by decide +kernel : ∀ k, k < 96 → ty k = 1 → ty (k + 1) = 22) k (ty_lt h (by decide)) h
theorem ty5_0 {k : Nat} (h : ty k = 5) : ty (k + 1) = 23 := (by decide +kernel : ∀ k, k < 96 → ty k = 5 → ty (k + 1) = 23) k (ty_lt h (by decide)) h
theorem ty6_0 {k : Nat} (h : ty k = 6) : ty (k + 1) = 4 := (by decide +kernel : ∀ k, k < 96 → ty k = 6 → ty (k + 1) = 4) k (ty_lt h (by decide)) h
theorem ty6_1 {k : Nat} (h : ty k = 6) : ty (k + 3) = 1 := (by decide +kernel : ∀ k, k < 96 → ty k = 6 → ty (k + 3) = 1) k (ty_lt h (by decide)) h
theorem ty6_5 {k : Nat} (h : ty k = 6) : ty (k + 5) = 5 := (by decide +kernel : ∀ k, k < 96 → ty k = 6 → ty (k + 5) = 5) k (ty_lt h (by decide)) h
theorem ty6_7 {k : Nat} (h : ty k = 6) : ty (k + 7) = 5 := (by decide +kernel : ∀ k, k < 96 → ty k = 6 → ty (k + 7) = 5) k (ty_lt h (by decide)) h
theorem ty6_s {k : Nat} (h : ty k = 6) {x : Int32} : ty (sdr k x) = 5 := by
  unfold sdr
  split
  · exact ty6_5 h
  · exact ty6_7 h
theorem ty_past : ∀ i, i < 6 → ty (pastR i) = 6 := by decide +kernel
theorem ty_slot : ∀ i, i < 2 → ty (slotR i) = 6 := by decide +kernel
