/-! rows of the law's own load: what it appends, what it draws; the text made by draws -/
theorem SBW.q {G : GG} {B : List Nat} {h : Nat → va_E} {q : Nat} {t : List Nat} {m : Nat} {L : List Nat} {f : Nat → va_E} (hS : SBW G B h q t m L f) : q ∈ L ∧ ∃ (r : Nat) (n : Int32), f q = oSB r n := by
  obtain ⟨K, r, cap, g, -, -, hq, -, -, -, hf, -⟩ := hS
  exact ⟨hq, r, _, hf⟩
section JROWS
variable {G : GG} {p : Program} {l : Launch} {e : Env} {R : Room} {s : State} {m : MethodId} {args : Array Value} {below : List Frame} {meth : Method} {c : Code} {A : Nat → Prop} {Q : State → Prop} {own : String} {cc : ByteArray} {nL cells slots pc : Nat} {ret : Option FieldType} {tb : List ExceptionTableEntry} {lv : List (Option Value)} {st : List Value} {L : List Nat} {f : Nat → va_E}
theorem j_appS (X : Cx G p l s m args meth c A own cc nL ret tb) (hl : l.stackTraces = false) {B : List Nat} {h : Nat → va_E} {q : Nat} {t : List Nat} {m0 index : Nat} {rest : List Value} {i : Nat} (hi : i < 57) (hm : t.length + strLn i ≤ 400) (hS : SBW G B h q t m0 L f) (h1 : Cond.methodLink own index yJ4_append_15ec4 ∈ BIG) (hdg : decode cc pc = .ok (.invokevirtual index, 3)) (hR : 6 ≤ R.frames ∧ 160 ≤ R.locals) (hc : cells + 1 ≤ R.cells ∧ slots + 802 ≤ R.slots) (hW : (rest.map fun v => v.category).sum ≤ 8) (kk : ∀ (L1 : List Nat) (f1 : Nat → va_E), SBW G B h q (t ++ txB i) 0 L1 f1 → J G p l e R s m args below meth c A Q nL (cells + 1) (slots + 802) (pc + 3) lv (.ref q :: rest) L1 f1) : J G p l e R s m args below meth c A Q nL cells slots pc lv (.ref (G.2.2.1 i) :: .ref q :: rest) L f := by
  obtain ⟨hq, r, n, hf⟩ := hS.q
  refine j_callV1 X 10 (c_appS hl hS hi hm) h1 im_yJ4_append_15ec4 se_yJ4_append_15ec4 in_J4 cd_yJ4_append_15ec4 hy_yJ4_append_15ec4 hdg rfl hq hf ⟨by omega, by omega⟩ hc hW (fun _ h => h.elim) (fun r9 L9 f9 h9 => ?_)
  obtain ⟨rfl, h9⟩ := h9
  exact kk L9 f9 h9
theorem j_appI (X : Cx G p l s m args meth c A own cc nL ret tb) (hl : l.stackTraces = false) {B : List Nat} {h : Nat → va_E} {q : Nat} {t : List Nat} {m0 index : Nat} {rest : List Value} {x : Nat} (hx : x < 100) (hm : t.length + 2 ≤ 400) (hS : SBW G B h q t m0 L f) (h1 : Cond.methodLink own index yJ4_append_bf812 ∈ BIG) (hdg : decode cc pc = .ok (.invokevirtual index, 3)) (hR : 6 ≤ R.frames ∧ 160 ≤ R.locals) (hc : cells + 1 ≤ R.cells ∧ slots + 802 ≤ R.slots) (hW : (rest.map fun v => v.category).sum ≤ 8) (kk : ∀ (L1 : List Nat) (f1 : Nat → va_E), SBW G B h q (t ++ numT x) 0 L1 f1 → J G p l e R s m args below meth c A Q nL (cells + 1) (slots + 802) (pc + 3) lv (.ref q :: rest) L1 f1) : J G p l e R s m args below meth c A Q nL cells slots pc lv (.int (nI x) :: .ref q :: rest) L f := by
  obtain ⟨hq, r, n, hf⟩ := hS.q
  refine j_callV1 X 10 (c_appI hl hS hx hm) h1 im_yJ4_append_bf812 se_yJ4_append_bf812 in_J4 cd_yJ4_append_bf812 hy_yJ4_append_bf812 hdg rfl hq hf ⟨by omega, by omega⟩ hc hW (fun _ h => h.elim) (fun r9 L9 f9 h9 => ?_)
  obtain ⟨rfl, h9⟩ := h9
  exact kk L9 f9 h9
/-- a draw, as a number -/
def dN (G : GG) (k n : Nat) : Nat := (DR0 G k (nI n)).toNatClampNeg
theorem dN_lt (G : GG) (k : Nat) {n : Nat} (h0 : 0 < n) (h : n < 1000000) : dN G k n < n := by
  have h1 := DR0_rng G k (n := nI n) (by rw [nI_toInt (by omega)]; omega)
  rw [nI_toInt (by omega)] at h1
  unfold dN
  rw [z_tn]
  omega
theorem dN_of (G : GG) (k : Nat) {n : Nat} (h0 : 0 < n) (h : n < 1000000) : DR0 G k (nI n) = nI (dN G k n) := by
  have h1 := DR0_rng G k (n := nI n) (by rw [nI_toInt (by omega)]; omega)
  unfold dN
  rw [z_of h1.1]
theorem j_drw (X : Cx G p l s m args meth c A own cc nL ret tb) (hl : l.stackTraces = false) {k n index : Nat} {rest : List Value} (hs : sLn G ≤ 1000) (hk : k < 10000) (h0 : 0 < n) (hn : n < 1000000) (h1 : Cond.methodLink own index yL_draw ∈ BIG) (hdg : decode cc pc = .ok (.invokestatic index, 3)) (hR : 1 ≤ R.frames ∧ 30 ≤ R.locals) (hc : cells ≤ R.cells ∧ slots ≤ R.slots) (hW : (rest.map fun v => v.category).sum ≤ 8) (kk : J G p l e R s m args below meth c A Q nL cells slots (pc + 3) lv (.int (nI (dN G k n)) :: rest) L f) : J G p l e R s m args below meth c A Q nL cells slots pc lv (.int (nI n) :: .int (nI k) :: .ref (G.2.2.1 100) :: rest) L f := by
  refine j_callS3 X (c_draw (k := k) (n := nI n) hl hs hk (nI_ne0 h0 (by omega))) h1 st_yL_draw in_L cd_yL_draw hz_yL_draw hdg ⟨by omega, by omega⟩ ⟨by omega, by omega⟩ hW (fun _ h => h.elim) (fun r9 L9 f9 h9 => ?_)
  obtain ⟨h91, h92, h93⟩ := h9
  subst r9
  subst f9
  subst L9
  rw [dN_of G k h0 hn]
  exact kk
/-- the caller's law with a made text -/
def mkG (G : GG) (w k : Nat) (t : List Nat) : GG := (G.1, G.2.1, (fun i => if i = 101 then w else G.2.2.1 i), fun i => if i = 101 then 1 else if i = 102 then k else if i = 103 then t.length else if 2000 ≤ i then t.getD (i - 2000) 0 else G.2.2.2 i)
theorem Evn_mk {G : GG} {w k : Nat} {t : List Nat} {A : Nat → Prop} {U : State} {H : Heap} (hs : sLn G ≤ 1000) (h : Evn G.2.2.1 G.2.2.2 A U H) (ht : txtOK w k t.length (fun j => nI (t.getD j 0)) A U H) : Evn (mkG G w k t).2.2.1 (mkG G w k t).2.2.2 A U H := by
  obtain ⟨h1, h2, h3, h4, h5, h6, h7, h8, h9, h10, x1, x2, x3, x4, x5, x6⟩ := h
  have a100 : (mkG G w k t).2.2.1 100 = G.2.2.1 100 := rfl
  refine ⟨h1, h2, h3, h4, h5, h6, h7, fun i q hi => ?_, h9, h10, ?_, x2, x3, x4, x5, fun _ => ?_⟩
  · have hi2 : i < 57 := (List.getElem?_eq_some_iff.mp hi).1
    have e1 : (mkG G w k t).2.2.1 i = G.2.2.1 i := if_neg (by omega)
    have e2 : (mkG G w k t).2.2.2 i = G.2.2.2 i := by
      show (if i = 101 then 1 else if i = 102 then k else if i = 103 then t.length else if 2000 ≤ i then t.getD (i - 2000) 0 else G.2.2.2 i) = _
      rw [if_neg (by omega), if_neg (by omega), if_neg (by omega), if_neg (by omega)]
    have h := h8 i q hi
    unfold strOK at h ⊢
    rw [e1, e2]
    exact h
  · obtain ⟨cell, c1, c2, c3, c4, c5, c6, c7⟩ := x1
    refine ⟨cell, c1, c2, c3, c4, c5, fun j hj => ?_, c7⟩
    have hj2 : j < G.2.2.2 100 := hj
    have hs2 : G.2.2.2 100 ≤ 1000 := hs
    rw [c6 j hj]
    show some (Value.int (Int32.ofNat (G.2.2.2 (1000 + j)))) = some (Value.int (Int32.ofNat (if 1000 + j = 101 then 1 else if 1000 + j = 102 then k else if 1000 + j = 103 then t.length else if 2000 ≤ 1000 + j then t.getD (1000 + j - 2000) 0 else G.2.2.2 (1000 + j))))
    rw [if_neg (by omega), if_neg (by omega), if_neg (by omega), if_neg (by omega)]
  · have e : (fun j => nI ((mkG G w k t).2.2.2 (2000 + j))) = fun j => nI (t.getD j 0) := by
      funext j
      show nI (if 2000 + j = 101 then 1 else if 2000 + j = 102 then k else if 2000 + j = 103 then t.length else if 2000 ≤ 2000 + j then t.getD (2000 + j - 2000) 0 else G.2.2.2 (2000 + j)) = _
      rw [if_neg (by omega), if_neg (by omega), if_neg (by omega), if_pos (by omega), Nat.add_sub_cancel_left]
    rw [e]
    exact ht
theorem pl_sub {B K : List Nat} {f : Nat → va_E} {D : va_G} {cl : List vw_C} {H : Heap} (h : va_P D cl (va_pl (B ++ K) f) H) {h0 : Nat → va_E} (hB : ∀ x ∈ B, f x = h0 x) : va_P D cl (va_pl B h0) H := by
  intro k q hk
  obtain ⟨hlt, he⟩ := List.getElem?_eq_some_iff.mp hk
  have hlt2 : k < B.length := by simpa [va_pl] using hlt
  refine h k q ?_
  rw [← hk]
  simp only [va_pl, List.getElem?_map, List.getElem?_append_left hlt2]
  rw [List.getElem?_eq_getElem hlt2]
  simp only [Option.map_some]
  rw [hB _ (List.getElem_mem hlt2)]
theorem pl_subD {B K : List Nat} {f h0 : Nat → va_E} {A : Nat → Prop} (h : va_D A (va_pl (B ++ K) f)) : va_D A (va_pl B h0) := by
  have e : ∀ (k : Nat) (q : Nat × va_E), (va_pl B h0)[k]? = some q → ∃ q2 : Nat × va_E, (va_pl (B ++ K) f)[k]? = some q2 ∧ q2.1 = q.1 := by
    intro k q hk
    obtain ⟨hlt, he⟩ := List.getElem?_eq_some_iff.mp hk
    have hlt2 : k < B.length := by simpa [va_pl] using hlt
    have h1 : (va_pl B h0)[k]? = some (B[k], h0 B[k]) := by
      simp only [va_pl, List.getElem?_map, List.getElem?_eq_getElem hlt2, Option.map_some]
    have h2 : (va_pl (B ++ K) f)[k]? = some (B[k], f B[k]) := by
      simp only [va_pl, List.getElem?_map, List.getElem?_append_left hlt2, List.getElem?_eq_getElem hlt2, Option.map_some]
    rw [h1] at hk
    cases hk
    exact ⟨_, h2, rfl⟩
  refine ⟨fun i j p1 p2 h1 h2 h3 => ?_, fun k q hk => ?_⟩
  · obtain ⟨q1, g1, e1⟩ := e i p1 h1
    obtain ⟨q2, g2, e2⟩ := e j p2 h2
    exact h.1 i j q1 q2 g1 g2 (by rw [e1, e2]; exact h3)
  · obtain ⟨q1, g1, e1⟩ := e k q hk
    rw [← e1]
    exact h.2 k q1 g1

end JROWS
