/-! what the class's cells hold at first, and worlds that grow -/
def blkA : Nat → Nat → Int32
  | 0 => fun j => if j = 3 then 1 else if j = 7 then -1 else if j = 8 then -1 else 0
  | 1 => fun j => if j = 1 then 1 else if j = 4 then -1 else 0
  | 2 => tm0
  | 5 => fun j => if j = 1 then 3000 else 0
  | 7 => fun j => if j = 1 then 3000 else 0
  | _ => z0
def a0 : Mem := fun k => if k = 1 then (fun j => if j = 3 then -1 else if j = 6 then -1 else 0) else if k = 4 then (fun j => if j = 4 then -1 else 0) else if k < 8 then z0 else if k < 17 then blkA (k - 8) else if k < 24 then z0 else blkA ((k - 24) % 9)
theorem ad_app {L M : List Nat} {k : Nat} (h : k < L.length) : ad (L ++ M) k = ad L k := by
  unfold ad
  rw [List.getD_eq_getElem?_getD, List.getD_eq_getElem?_getD, List.getElem?_append_left h]
theorem ad_app2 {L M : List Nat} {n k : Nat} (hn : L.length = n) : ad (L ++ M) (n + k) = ad M k := by
  unfold ad
  subst hn
  rw [List.getD_eq_getElem?_getD, List.getD_eq_getElem?_getD, List.getElem?_append_right (by omega)]
  congr 2
  omega
theorem nodup_snoc {L : List Nat} {x : Nat} (h : L.Nodup) (hx : x ∉ L) : (L ++ [x]).Nodup := by
  rw [List.nodup_append]
  refine ⟨h, List.pairwise_singleton _ _, ?_⟩
  intro a ha b hb hab
  subst hab
  rw [List.mem_singleton] at hb
  subst hb
  exact hx ha
/-- how far a cell's references go -/
def rch (k : Nat) : Nat := if ty k = 6 then k + 8 else if ty k = 0 ∨ ty k = 1 ∨ ty k = 4 ∨ ty k = 5 then k + 1 else 23
theorem cnt_app {G : GG} {L M : List Nat} {k : Nat} {v : Nat → Int32} (hk : k < 96) (h26 : k ≠ 22) (h27 : k ≠ 23) (hr : rch k < L.length) : cnt G (L ++ M) k v = cnt G L k v := by
  have hT : ty k = 0 ∨ ty k = 1 ∨ ty k = 2 ∨ ty k = 3 ∨ ty k = 4 ∨ ty k = 5 ∨ ty k = 6 ∨ ty k = 7 ∨ ty k = 8 ∨ ty k = 21 ∨ ty k = 22 ∨ ty k = 23 ∨ ty k = 24 ∨ ty k = 25 := by
    have : ∀ k, k < 96 → (k = 22 ∨ k = 23 ∨ ty k = 0 ∨ ty k = 1 ∨ ty k = 2 ∨ ty k = 3 ∨ ty k = 4 ∨ ty k = 5 ∨ ty k = 6 ∨ ty k = 7 ∨ ty k = 8 ∨ ty k = 21 ∨ ty k = 22 ∨ ty k = 23 ∨ ty k = 24 ∨ ty k = 25) := by decide +kernel
    rcases this k hk with h | h | h
    · exact absurd h h26
    · exact absurd h h27
    · exact h
  unfold rch at hr
  rcases hT with h | h | h | h | h | h | h | h | h | h | h | h | h | h
  · rw [if_neg (by omega), if_pos (by omega)] at hr
    rw [cnt_0 h, cnt_0 h]
    simp only [cl0]
    rw [ad_app (M := M) (show k + 1 < L.length by omega)]
  · rw [if_neg (by omega), if_pos (by omega)] at hr
    rw [cnt_1 h, cnt_1 h]
    simp only [cl1]
    rw [ad_app (M := M) (show k + 1 < L.length by omega)]
  · rw [if_neg (by omega), if_neg (by omega)] at hr
    rw [cnt_2 h, cnt_2 h]
    simp only [cl2]
    rw [ad_app (M := M) (show 7 < L.length by omega)]
  · rw [if_neg (by omega), if_neg (by omega)] at hr
    rw [cnt_3 h, cnt_3 h]
    simp only [cl3]
    rw [ad_app (M := M) (show 2 < L.length by omega), ad_app (M := M) (show 4 < L.length by omega)]
  · rw [if_neg (by omega), if_pos (by omega)] at hr
    rw [cnt_4 h, cnt_4 h]
    simp only [cl4]
    rw [ad_app (M := M) (show k + 1 < L.length by omega)]
  · rw [if_neg (by omega), if_pos (by omega)] at hr
    rw [cnt_5 h, cnt_5 h]
    simp only [cl5]
    rw [ad_app (M := M) (show k + 1 < L.length by omega)]
  · rw [if_pos h] at hr
    rw [cnt_6 h, cnt_6 h]
    have e5 : ∀ x : Int32, ad (L ++ M) (sdr k x) = ad L (sdr k x) := by
      intro x
      refine ad_app ?_
      unfold sdr
      split <;> omega
    simp only [cl6]
    rw [ad_app (M := M) (show k + 1 < L.length by omega), ad_app (M := M) (show k + 3 < L.length by omega), e5, e5]
  · rw [if_neg (by omega), if_neg (by omega)] at hr
    rw [cnt_7 h, cnt_7 h]
    simp only [cl7]
    rw [ad_app (M := M) (show 18 < L.length by omega), ad_app (M := M) (show 20 < L.length by omega)]
  · rw [if_neg (by omega), if_neg (by omega)] at hr
    rw [cnt_8 h, cnt_8 h]
    simp only [cl8]
    rw [ad_app (M := M) (show 1 < L.length by omega), ad_app (M := M) (show 2 < L.length by omega), ad_app (M := M) (show 6 < L.length by omega), ad_app (M := M) (show 8 < L.length by omega), ad_app (M := M) (show 17 < L.length by omega), ad_app (M := M) (show 22 < L.length by omega), ad_app (M := M) (show 23 < L.length by omega)]
  · rw [cnt_21 h, cnt_21 h]
  · rw [cnt_22 h, cnt_22 h]
  · rw [cnt_23 h, cnt_23 h]
  · rw [cnt_24 h, cnt_24 h]
  · rw [cnt_25 h, cnt_25 h]

