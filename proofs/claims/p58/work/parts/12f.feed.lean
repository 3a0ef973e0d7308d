/-! the text is fed: the caller's world holds it, the callee's law names it -/
section JROWS
variable {G : GG} {p : Program} {l : Launch} {e : Env} {R : Room} {s : State} {m : MethodId} {args : Array Value} {below : List Frame} {meth : Method} {c : Code} {A : Nat → Prop} {Q : State → Prop} {own : String} {cc : ByteArray} {nL cells slots pc : Nat} {ret : Option FieldType} {tb : List ExceptionTableEntry} {lv : List (Option Value)} {st : List Value} {L : List Nat} {f : Nat → va_E}
theorem j_run2 (X : Cx G p l s m args meth c A own cc nL ret tb) {mc ms : Nat} {rest st0 : List Value} {post : Option Value → List Nat → (Nat → va_E) → Prop} {a : Array Value} {B K : List Nat} {h : Nat → va_E} (hL0 : L = B ++ K)
    (hr : ∀ (H : Heap) (locs : List Loc) (ls : Array Slot), va_P G.1 vwCl (va_pl L f) H → va_D A (va_pl L f) → va_S A s.heap H locs → lv_has ls nL (lvl lv) → vx_Run p l e R s m args below meth c H locs cells slots mc ms (F0 m pc ls st0) rest (Qg G (aA B H.size) post a) (Xg G (aA B H.size) B h px0) (aA B H.size))
    (kk : ∀ (r : Option Value) (L1 : List Nat) (f1 : Nat → va_E), post r L1 f1 → J G p l e R s m args below meth c A Q nL (cells + mc) (slots + ms) (pc + 3) lv (r.toList ++ rest) L1 f1) : J G p l e R s m args below meth c A Q nL cells slots pc lv st0 L f := by
  subst hL0
  intro H locs ls hP hD hS hl T hT XX
  have hLA := X.fA (pl_subD (h0 := h) hD) hS
  rcases hr H locs ls hP hD hS hl T hT XX with ⟨v, st₀, t, T', L', h0, X', hL, e1, e2, ⟨⟨r, L1, f1, hv, hp, hb⟩, hF⟩, st⟩ | ⟨q, st₀, t, T', L', E, ce, h0, X', hL, e1, e2, ⟨⟨hpx, hb⟩, hF⟩, hce, hcv, hcl, st⟩
  · cases hv
    obtain ⟨k1, k2, k3⟩ := vx_keep h0 e1 hS (fun q _ h => hLA q h) hLA hL hF
    obtain ⟨t2, a1, b1⟩ := kk v L1 f1 hp T'.heap (locs ++ L') ls (by rw [e1]; exact hb.1) (hb.2.2.weaken (fun _ _ _ h => hLA _ h)) k3 hl T' rfl X'
    exact ⟨t2, st t2 a1, b1⟩
  · exact hpx.elim
theorem txt_of (X : Cx G p l s m args meth c A own cc nL ret tb) {B : List Nat} {h0 : Nat → va_E} {w n k : Nat} {g : Nat → Int32} {H : Heap} (hP : va_P G.1 vwCl (va_pl L f) H) (hw : w ∈ L) (hk : k ∈ L) (hfw : f w = oStr k) (hfk : f k = aB G n g) (hwB : w ∉ B) (hkB : k ∉ B) : txtOK w k n g (aA B H.size) s H := by
  have hKK := X.2.2.2.2.2.2.2.1
  obtain ⟨q0, hq0⟩ := va_pl_get (X := []) (f := f) hw
  obtain ⟨q1, hq1⟩ := va_pl_get (X := []) (f := f) hk
  rw [hfw] at hq0
  rw [hfk] at hq1
  rw [List.nil_append] at hq0 hq1
  obtain ⟨r, h1, cell, c1, c2, c3, c4⟩ := hP q0 _ hq0
  have hr : r = (RJ0, TJ0, 4) := (Option.some.inj (show some (RJ0, TJ0, 4) = some r from h1)).symm
  subst hr
  have hlw : w < H.size := (Array.getElem?_eq_some_iff.mp c1).1
  have hnw : ¬ aA B H.size w := fun h => h.elim hwB (fun h2 => by omega)
  have hck : H[k]? = some (vp_cell (G.2.1 1) (n, .inl g)) := hP q1 _ hq1
  have hlk : k < H.size := (Array.getElem?_eq_some_iff.mp hck).1
  have hnk : ¬ aA B H.size k := fun h => h.elim hkB (fun h2 => by omega)
  obtain ⟨hS, hfc, kC, hkC, hkind⟩ := hKK.1 9 (RJ0, TJ0, 4) rfl
  refine ⟨⟨cell, c1, by rw [c3]; rfl, by rw [c2]; exact hfc, hnw⟩, ?_, ?_, ?_⟩
  · obtain ⟨cf, kf, fi, fd, hi, hsl⟩ := hS 1 (by decide)
    exact ⟨cf, kf, fi, fd, cell, hi, (u_facts hfc hkC (u_lays X.w cw_J0 (by decide)) hi).1, c1, (by rw [c3]; exact fun h => by cases h), by rw [hsl]; exact c4 1 (by decide), hnw⟩
  · obtain ⟨cf, kf, fi, fd, hi, hsl⟩ := hS 0 (by decide)
    exact ⟨cf, kf, fi, fd, cell, hi, (u_facts hfc hkC (u_lays X.w cw_J0 (by decide)) hi).1, c1, (by rw [c3]; exact fun h => by cases h), by rw [hsl]; exact c4 0 (by decide), hnw⟩
  · refine ⟨_, hck, (hKK.2 1 _ rfl).1 n (fun j => .int (g j)), (fun h => by cases h), ?_, ?_, fun j hj => ?_, hnk⟩
    · show n ≤ (arrV (G.2.1 1) n (fun j => .int (g j))).slots.size
      rw [arrV_size]
      exact Nat.le_refl _
    · show (arrV (G.2.1 1) n (fun j => .int (g j))).slots.size.toInt32 = _
      rw [arrV_size]
    · show (arrV (G.2.1 1) n (fun j => .int (g j))).slots[j]? = _
      exact arrV_read _ _ hj
theorem txt_g {w k n : Nat} {g g2 : Nat → Int32} {A : Nat → Prop} {U : State} {H : Heap} (h : txtOK w k n g A U H) (hg : ∀ j, j < n → g j = g2 j) : txtOK w k n g2 A U H := by
  obtain ⟨h1, h2, h3, cell, c1, c2, c3, c4, c5, c6, c7⟩ := h
  exact ⟨h1, h2, h3, cell, c1, c2, c3, c4, c5, fun j hj => by rw [c6 j hj]; show some (Value.int (g j)) = some (Value.int (g2 j)); rw [hg j hj], c7⟩
theorem j_feed (X : Cx G p l s m args meth c A own cc nL ret tb) (hl : l.stackTraces = false) {B : List Nat} {a b c1 : Mem} {w index N : Nat} {t : List Nat} {rest : List Value} {v : Int32} {a1 a2 : Mem} (hO : LOK B) (hs : sLn G ≤ 1000) (hT : STW G B (FW G B a b c1) w t L f) (h0 : 0 < t.length) (h1 : t.length < 1000) (hb : ∀ j, t.getD j 0 < 128) (hF : ∀ w k : Nat, fFeed (mkG G w k t) N 50 0 0 a = some (v, a1)) (hTr : f_X8_truncate (if nI t.length < v then nI t.length else v) a1 = some (.ok a2)) (hlink : Cond.methodLink own index yL_feed ∈ BIG) (hdg : decode cc pc = .ok (.invokestatic index, 3)) (hR : 8 ≤ R.frames ∧ 148 ≤ R.locals) (hc : cells + 60 ≤ R.cells ∧ slots + 360 ≤ R.slots) (hW : (rest.map fun v => v.category).sum ≤ 8) (kk : J G p l e R s m args below meth c A Q nL (cells + 60) (slots + 360) (pc + 3) lv rest B (FW G B a2 b c1)) : J G p l e R s m args below meth c A Q nL cells slots pc lv (.ref w :: .ref (ad B 0) :: rest) L f := by
  obtain ⟨K, k, g, hLe, hB, hw, hwB, hk, hkB, hfw, hfk, hget⟩ := hT
  have hm : mTX (mkG G w k t) := by
    refine ⟨rfl, h1, fun j => ?_⟩
    show (if 2000 + j = 101 then 1 else if 2000 + j = 102 then k else if 2000 + j = 103 then t.length else if 2000 ≤ 2000 + j then t.getD (2000 + j - 2000) 0 else G.2.2.2 (2000 + j)) < 128
    rw [if_neg (by omega), if_neg (by omega), if_neg (by omega), if_pos (by omega)]
    exact hb _
  have hC := @m_feed l hl (mkG G w k t) B hO hm h0 a b c1 N v a1 a2 (hF w k) hTr
  refine j_run2 X (mc := 60) (ms := 360) (rest := rest) (B := B) (K := K) (h := FW G B a b c1) (post := stay B (fun r f1 => f1 = FW G B a2 b c1 ∧ r = none)) (a := ([.ref (ad B 0), .ref w] : List Value).toArray) hLe (fun H locs ls hP hD hS hl9 => ?_) (fun r L1 f1 h9 => ?_)
  · have hD2 : va_D A (va_pl B (FW G B a b c1)) := by
      subst hLe
      exact pl_subD hD
    have hP2 : va_P G.1 vwCl (va_pl B (FW G B a b c1)) H := by
      subst hLe
      exact pl_sub hP hB
    have htx := txt_g (txt_of X (h0 := f) hP hw hk hfw hfk hwB hkB) hget
    have hE := X.2.2.2.2.2.2.2.2.2.1
    have hKK := X.2.2.2.2.2.2.2.1
    have hfA := X.fA hD2 hS
    have hpre : ∀ U : State, U.heap = H → s.WarmedH U.vm → va_Pc [.ref (ad B 0), .ref w] (Pg (mkG G w k t) (aA B H.size) H.size B (FW G B a b c1)) ([.ref (ad B 0), .ref w] : List Value).toArray U := by
      intro U hU hWm
      refine ⟨rfl, by rw [hU], ⟨by rw [hU]; exact hP2, va_K.moved hWm.alike hKK, hD2.weaken (fun _ _ _ _ => trivial)⟩, ?_⟩
      rw [hU]
      exact Evn_mk hs (((hE.kept hS.2.1).warm hWm).narrow hfA) (htx.moved hWm.alike)
    have hlk : (Cond.methodLink own index yL_feed).before args s = true := X.w _ hlink
    have hrun := vx_runS (n := 2) (As := [.ref (ad B 0), .ref w]) (rest := rest) (g := F0 m pc ls (.ref w :: .ref (ad B 0) :: rest)) (cells := cells) (slots := slots) (H := H) (locs := locs) (e := e) (below := below) (meth := meth) ⟨X.1, X.2.1, X.2.2.1, X.2.2.2.1, X.w⟩ (hC H.size) (va_cwS 2 X.w (big_in (fun w hw => by
      rcases List.mem_append.mp hw with h | h
      · simp only [List.mem_cons, List.not_mem_nil, or_false] at h
        rcases h with rfl | rfl | rfl
        · exact hlink
        · exact st_yL_feed
        · exact in_L
      · rcases List.mem_cons.mp h with rfl | h
        · exact cd_yL_feed
        · exact h)) rfl rfl rfl hz_yL_feed ⟨hR.1, (by show 8 + (4 + 11) + 125 ≤ _; omega)⟩) ⟨Pg_blind, hpre⟩ rfl rfl hl9.1 rfl (lv_room hW) hdg hc
    exact hrun
  · obtain ⟨h91, h92, h93⟩ := h9
    subst r
    subst f1
    subst L1
    exact kk
end JROWS
