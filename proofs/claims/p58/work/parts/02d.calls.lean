section JROWS
variable {G : GG} {p : Program} {l : Launch} {e : Env} {R : Room} {s : State} {m : MethodId} {args : Array Value} {below : List Frame} {meth : Method} {c : Code} {A : Nat → Prop} {Q : State → Prop} {own : String} {cc : ByteArray} {nL cells slots pc : Nat} {ret : Option FieldType} {tb : List ExceptionTableEntry} {lv : List (Option Value)} {st : List Value} {L : List Nat} {f : Nat → va_E}
theorem Cx.fA (X : Cx G p l s m args meth c A own cc nL ret tb) {H : Heap} {locs : List Loc} (hD : va_D A (va_pl L f)) (hS : va_S A s.heap H locs) : ∀ q, aA L H.size q → A q := by
  intro q h
  rcases h with h | h
  · obtain ⟨k, hk⟩ := va_pl_get (X := []) (f := f) h
    exact hD.2 k _ hk
  · exact X.2.2.2.2.2.2.2.2.1 q (Nat.le_trans hS.1 h)
/-- what a callee's start asks -/
theorem Cx.pre (X : Cx G p l s m args meth c A own cc nL ret tb) {H : Heap} {locs : List Loc} (hP : va_P G.1 vwCl (va_pl L f) H) (hD : va_D A (va_pl L f)) (hS : va_S A s.heap H locs) {av : List Value} : ∀ U : State, U.heap = H → s.WarmedH U.vm → va_Pc av (Pg G (aA L H.size) H.size L f) av.toArray U := by
  intro U hU hW
  obtain ⟨-, -, -, -, -, -, -, hK, -, hE, -⟩ := id X
  refine ⟨rfl, by rw [hU], ⟨by rw [hU]; exact hP, va_K.moved hW.alike hK, hD.weaken (fun _ _ _ _ => trivial)⟩, ?_⟩
  rw [hU]
  exact ((hE.kept hS.2.1).warm hW).narrow (X.fA hD hS)
theorem j_run (X : Cx G p l s m args meth c A own cc nL ret tb) {mc ms : Nat} {rest st0 : List Value} {px : String → Prop} {post : Option Value → List Nat → (Nat → va_E) → Prop} {a : Array Value}
    (hr : ∀ (H : Heap) (locs : List Loc) (ls : Array Slot), va_P G.1 vwCl (va_pl L f) H → va_D A (va_pl L f) → va_S A s.heap H locs → lv_has ls nL (lvl lv) → vx_Run p l e R s m args below meth c H locs cells slots mc ms (F0 m pc ls st0) rest (Qg G (aA L H.size) post a) (Xg G (aA L H.size) L f px) (aA L H.size))
    (kx : ∀ E, px E → JX G p l e R s m args below meth c A Q nL (cells + mc) (slots + ms) pc lv rest L f E)
    (kk : ∀ (r : Option Value) (L1 : List Nat) (f1 : Nat → va_E), post r L1 f1 → J G p l e R s m args below meth c A Q nL (cells + mc) (slots + ms) (pc + 3) lv (r.toList ++ rest) L1 f1) : J G p l e R s m args below meth c A Q nL cells slots pc lv st0 L f := by
  intro H locs ls hP hD hS hl T hT XX
  have hLA := X.fA hD hS
  rcases hr H locs ls hP hD hS hl T hT XX with ⟨v, st₀, t, T', L', h0, X', hL, e1, e2, ⟨⟨r, L1, f1, hv, hp, hb⟩, hF⟩, st⟩ | ⟨q, st₀, t, T', L', E, ce, h0, X', hL, e1, e2, ⟨⟨hpx, hb⟩, hF⟩, hce, hcv, hcl, st⟩
  · cases hv
    obtain ⟨k1, k2, k3⟩ := vx_keep h0 e1 hS (fun q _ h => hLA q h) hLA hL hF
    obtain ⟨t2, a1, b1⟩ := kk v L1 f1 hp T'.heap (locs ++ L') ls (by rw [e1]; exact hb.1) (hb.2.2.weaken (fun _ _ _ h => hLA _ h)) k3 hl T' rfl X'
    exact ⟨t2, st t2 a1, b1⟩
  · obtain ⟨k1, k2, k3⟩ := vx_keep h0 e1 hS (fun q _ h => hLA q h) hLA hL hF
    obtain ⟨t2, a1, b1⟩ := kx E hpx T'.heap (locs ++ L') ls q ce (by rw [e1]; exact hb.1) (hb.2.2.weaken (fun _ _ _ h => hLA _ h)) k3 hl (by rw [e1]; exact hce) hcv hcl T' rfl X'
    exact ⟨t2, st.trans a1, b1⟩
/-- a call of a method of the receiver's class -/
theorem j_callV (X : Cx G p l s m args meth c A own cc nL ret tb) {y : MethodName} {bytes : ByteArray} {maxL index fr lo mc ms b ci N : Nat} {rt : Option FieldType} {T : u_T} {C : String} {fs As rest : List Value} {px : String → Prop} {post : Option Value → List Nat → (Nat → va_E) → Prop}
    (hC : Ct l G y (.code y bytes maxL rt) fr lo mc ms (.ref b :: As) L f px post) (h1 : Cond.methodLink own index y ∈ BIG) (h2 : Cond.instanceMethod y ∈ BIG) (h3 : Cond.selects C y y ∈ BIG) (h4 : Cond.initialized C ∈ BIG) (h5 : Cond.code y bytes maxL rt ∈ BIG)
    (hy : y.cls = C ∧ y.cls ≠ "java/lang/invoke/MethodHandle" ∧ y.cls ≠ "java/lang/invoke/VarHandle" ∧ (parseMethodDescriptor y.desc).map (fun d => d.parameters.length) = some As.length)
    (hdg : decode cc pc = .ok (.invokevirtual index, 3)) (hb : b ∈ L) (hf : f b = .inr (ci, fs)) (hci : vwCl[ci]? = some (C, T, N))
    (hR : fr + 1 ≤ R.frames ∧ 8 + (maxL + 11) + lo ≤ R.locals) (hc : cells + mc ≤ R.cells ∧ slots + ms ≤ R.slots) (hW : (rest.map fun v => v.category).sum ≤ 8)
    (kx : ∀ E, px E → JX G p l e R s m args below meth c A Q nL (cells + mc) (slots + ms) pc lv rest L f E)
    (kk : ∀ (r : Option Value) (L1 : List Nat) (f1 : Nat → va_E), post r L1 f1 → J G p l e R s m args below meth c A Q nL (cells + mc) (slots + ms) (pc + 3) lv (r.toList ++ rest) L1 f1) : J G p l e R s m args below meth c A Q nL cells slots pc lv (As.reverse ++ .ref b :: rest) L f := by
  refine j_run X (px := px) (post := post) (a := (Value.ref b :: As).toArray) (fun H locs ls hP hD hS hl => ?_) kx kk
  obtain ⟨q0, hq⟩ := va_pl_get (X := []) (f := f) hb
  rw [hf] at hq
  exact vx_runV (C := C) (n := As.length) ⟨X.1, X.2.1, X.2.2.1, X.2.2.2.1, X.w⟩ (hC H.size) (cwV As.length X.w (big_in (fun w hw => by
    rcases List.mem_append.mp hw with h | h
    · simp only [List.mem_cons, List.not_mem_nil, or_false] at h
      rcases h with rfl | rfl | rfl | rfl
      · exact h1
      · exact h2
      · exact h3
      · exact h4
    · rcases List.mem_cons.mp h with rfl | h
      · exact h5
      · exact h)) rfl rfl rfl hy hR) ⟨Pg_blind, va_recv X.2.2.2.2.2.2.2.1 hP hci hq, X.pre hP hD hS⟩ rfl rfl hl.1 rfl (lv_room hW) hdg hc
/-- a call of a static method -/
theorem j_callS (X : Cx G p l s m args meth c A own cc nL ret tb) {y : MethodName} {bytes : ByteArray} {maxL index fr lo mc ms : Nat} {rt : Option FieldType} {As rest : List Value} {px : String → Prop} {post : Option Value → List Nat → (Nat → va_E) → Prop}
    (hC : Ct l G y (.code y bytes maxL rt) fr lo mc ms As L f px post) (h1 : Cond.methodLink own index y ∈ BIG) (h2 : Cond.static y ∈ BIG) (h4 : Cond.initialized y.cls ∈ BIG) (h5 : Cond.code y bytes maxL rt ∈ BIG)
    (hy : y.cls ≠ "java/lang/invoke/MethodHandle" ∧ y.cls ≠ "java/lang/invoke/VarHandle" ∧ (parseMethodDescriptor y.desc).map (fun d => d.parameters.length) = some As.length)
    (hdg : decode cc pc = .ok (.invokestatic index, 3))
    (hR : fr + 1 ≤ R.frames ∧ 8 + (maxL + 11) + lo ≤ R.locals) (hc : cells + mc ≤ R.cells ∧ slots + ms ≤ R.slots) (hW : (rest.map fun v => v.category).sum ≤ 8)
    (kx : ∀ E, px E → JX G p l e R s m args below meth c A Q nL (cells + mc) (slots + ms) pc lv rest L f E)
    (kk : ∀ (r : Option Value) (L1 : List Nat) (f1 : Nat → va_E), post r L1 f1 → J G p l e R s m args below meth c A Q nL (cells + mc) (slots + ms) (pc + 3) lv (r.toList ++ rest) L1 f1) : J G p l e R s m args below meth c A Q nL cells slots pc lv (As.reverse ++ rest) L f := by
  refine j_run X (px := px) (post := post) (a := As.toArray) (fun H locs ls hP hD hS hl => ?_) kx kk
  exact vx_runS (n := As.length) ⟨X.1, X.2.1, X.2.2.1, X.2.2.2.1, X.w⟩ (hC H.size) (va_cwS As.length X.w (big_in (fun w hw => by
    rcases List.mem_append.mp hw with h | h
    · simp only [List.mem_cons, List.not_mem_nil, or_false] at h
      rcases h with rfl | rfl | rfl
      · exact h1
      · exact h2
      · exact h4
    · rcases List.mem_cons.mp h with rfl | h
      · exact h5
      · exact h)) rfl rfl rfl hy hR) ⟨Pg_blind, X.pre hP hD hS⟩ rfl rfl hl.1 rfl (lv_room hW) hdg hc
/-- a call of a nest mate's private static method -/
theorem j_callSN (X : Cx G p l s m args meth c A own cc nL ret tb) {y : MethodName} {bytes : ByteArray} {maxL index fr lo mc ms : Nat} {rt : Option FieldType} {As rest : List Value} {px : String → Prop} {post : Option Value → List Nat → (Nat → va_E) → Prop}
    (hC : Ct l G y (.code y bytes maxL rt) fr lo mc ms As L f px post) (h1 : (own, index, y) ∈ nestT) (h2 : Cond.static y ∈ BIG) (h4 : Cond.initialized y.cls ∈ BIG) (h5 : Cond.code y bytes maxL rt ∈ BIG)
    (hy : y.cls ≠ "java/lang/invoke/MethodHandle" ∧ y.cls ≠ "java/lang/invoke/VarHandle" ∧ (parseMethodDescriptor y.desc).map (fun d => d.parameters.length) = some As.length)
    (hdg : decode cc pc = .ok (.invokestatic index, 3))
    (hR : fr + 1 ≤ R.frames ∧ 8 + (maxL + 11) + lo ≤ R.locals) (hc : cells + mc ≤ R.cells ∧ slots + ms ≤ R.slots) (hW : (rest.map fun v => v.category).sum ≤ 8)
    (kx : ∀ E, px E → JX G p l e R s m args below meth c A Q nL (cells + mc) (slots + ms) pc lv rest L f E)
    (kk : ∀ (r : Option Value) (L1 : List Nat) (f1 : Nat → va_E), post r L1 f1 → J G p l e R s m args below meth c A Q nL (cells + mc) (slots + ms) (pc + 3) lv (r.toList ++ rest) L1 f1) : J G p l e R s m args below meth c A Q nL cells slots pc lv (As.reverse ++ rest) L f := by
  refine j_run X (px := px) (post := post) (a := As.toArray) (fun H locs ls hP hD hS hl => ?_) kx kk
  have hE := X.2.2.2.2.2.2.2.2.2.1
  exact vx_runSN (n := As.length) ⟨X.1, X.2.1, X.2.2.1, X.2.2.2.1, X.w⟩ (hC H.size) ⟨va_cnB As.length X.w (big_in (fun w hw => by
    rcases List.mem_cons.mp hw with rfl | h
    · exact h5
    · exact h)) rfl rfl rfl (hE.2.2.2.2.1 _ h1) (X.w _ h4) hy hR, X.w _ h2, trivial⟩ ⟨Pg_blind, X.pre hP hD hS⟩ rfl rfl hl.1 rfl (lv_room hW) hdg hc
end JROWS

