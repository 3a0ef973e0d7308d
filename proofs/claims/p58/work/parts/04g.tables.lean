/-! methods with a table: how they are entered, what is caught, how they are called; the law's own rows -/
theorem tb_of {tb1 tb : List ExceptionTableEntry} {hh : List (Nat × Nat × Nat × Nat)} (h1 : tb1.map (fun h => (h.startPc, h.endPc, h.handlerPc, h.catchType)) = hh) (h2 : tb.map (fun h => (h.startPc, h.endPc, h.handlerPc, h.catchType)) = hh) : tb1 = tb := by
  refine (List.map_inj_right (fun x y h => ?_)).mp (h1.trans h2.symm)
  obtain ⟨x1, x2, x3, x4⟩ := x
  obtain ⟨y1, y2, y3, y4⟩ := y
  simp only [Prod.mk.injEq] at h
  obtain ⟨rfl, rfl, rfl, rfl⟩ := h
  rfl
theorem Ct.ofH {l : Launch} {G : GG} {y : MethodName} {own : String} {cc : ByteArray} {maxL fr lo mc ms : Nat} {rt : Option FieldType} {hh : List (Nat × Nat × Nat × Nat)} {av : List Value} {L : List Nat} {f : Nat → va_E} {px : String → Prop} {post : Option Value → List Nat → (Nat → va_E) → Prop} (tb : List ExceptionTableEntry) (htb2 : tb.map (fun h => (h.startPc, h.endPc, h.handlerPc, h.catchType)) = hh) (hl : l.stackTraces = false) (hown : y.cls = own) (hpl : plainName y.cls = true) (lv : List (Option Value)) (hlv : lvl lv = lv_args 0 av) (hn : (lg_sl av).length ≤ maxL)
    (body : ∀ (p : Program) (e : Env) (s : State) (m : MethodId) (below : List Frame) (meth : Method) (c : Code) (A : Nat → Prop) (ar : Array Value) (Q : State → Prop), Q = vx_MQ below (Qg G A post) (Xg G A L f px) ar s mc ms A → Cx G p l s m ar meth c A own cc maxL rt tb → J G p l e { frames := fr, cells := mc, slots := ms, locals := lo } s m ar below meth c A Q maxL 0 0 0 lv [] L f) : Ct l G y (.codeWith y cc maxL rt hh) fr lo mc ms av L f px post := by
  subst hown
  intro sz
  refine vx_ofWH (cc := cc) (maxL := maxL) (ret := rt) (hh := hh) hpl rfl ?_
  intro p e s m args below meth c s₁ B hml hv
  obtain ⟨rfl, hsz, ⟨hP, hK, hD0⟩, hE⟩ := hv
  subst hsz
  have hD : va_D (aA L s.heap.size) (va_pl L f) := ⟨hD0.1, fun k q hk => Or.inl (pl_mem hk)⟩
  have htb : c.exceptionTable.toList = tb := by
    obtain ⟨m9, meth9, c9, hn9, h1, h2, -, -, h3, -⟩ := Cond.codeWith_spec (atoms_spec (ws := .codeWith y cc maxL rt hh :: BIG) B.pre _ List.mem_cons_self)
    cases hn9.symm.trans B.named
    have h4 := B.here.code
    rw [B.state] at h4
    have h5 : s.code? m = some c9 := by
      simp only [State.code?, Vm.method?] at h1 ⊢
      cases hc : s.vm.classes[m.cls]? with
      | none => simp [hc] at h1
      | some k =>
        simp only [hc, Option.bind_eq_bind, Option.bind_some] at h1 ⊢
        rw [h1]
        exact h2
    have h6 : s.code? m = some c := h4
    cases h5.symm.trans h6
    exact tb_of h3 htb2
  have X : Cx G p l s m av.toArray meth c (aA L s.heap.size) y.cls cc maxL rt tb := ⟨B.exec, B.bytes, hml, findClass_of_methodNamed B.named, fun w hw => atoms_spec (ws := .codeWith y cc maxL rt hh :: BIG) B.pre w (List.mem_cons_of_mem _ hw), B.returns, B.notSynchronized, hK, fun q h => Or.inr h, hE, hl, htb⟩
  rw [lg_entry_eq]
  exact body p e s m below meth c _ _ _ rfl X s.heap [] _ hP hD va_S.rf (by rw [hlv]; exact lv_entry av hn)
section JROWS
variable {G : GG} {p : Program} {l : Launch} {e : Env} {R : Room} {s : State} {m : MethodId} {args : Array Value} {below : List Frame} {meth : Method} {c : Code} {A : Nat → Prop} {Q : State → Prop} {own : String} {cc : ByteArray} {nL cells slots pc : Nat} {ret : Option FieldType} {tb : List ExceptionTableEntry} {lv : List (Option Value)} {st : List Value} {L : List Nat} {f : Nat → va_E}
theorem jx_catch (X : Cx G p l s m args meth c A own cc nL ret tb) {E name : String} (pre : List ExceptionTableEntry) (x : ExceptionTableEntry) (suf : List ExceptionTableEntry) (hsplit : tb = pre ++ x :: suf) (hpass : ∀ z ∈ pre, covers z pc = false ∨ (z.catchType ≠ 0 ∧ ∃ nm : String, Cond.classLink own z.catchType nm ∈ BIG ∧ (E, nm) ∈ ncT)) (hx : covers x pc = true) (h0 : x.catchType ≠ 0) (hlink : Cond.classLink own x.catchType name ∈ BIG) (hcast : (E, name) ∈ castT) (kk : ∀ q : Nat, J G p l e R s m args below meth c A Q nL cells slots x.handlerPc lv [.ref q] L f) : JX G p l e R s m args below meth c A Q nL cells slots pc lv st L f E := by
  intro H locs ls q ce hP hD hS hl hcell hv hcl
  obtain ⟨hexec, hb, hml, hown, hw, hrt, hlk, hK, hnew, hE, hst, htb⟩ := X
  exact vx_catch hown pre x suf (htb.trans hsplit) (fun z hz => (hpass z hz).imp id (fun h => ⟨h.1, h.2.elim (fun nm h2 => ⟨nm, hw _ h2.1, hE.2.2.2.2.2.2.1 _ h2.2⟩)⟩)) hx h0 (hw _ hlink) (va_Nw.use rfl (hE.2.2.2.2.2.1 _ hcast)) hcell hv hcl (kk q H locs ls hP hD hS hl)
/-- a call of a static method that has a table -/
theorem j_callSW (X : Cx G p l s m args meth c A own cc nL ret tb) {y : MethodName} {bytes : ByteArray} {maxL index fr lo mc ms : Nat} {rt : Option FieldType} {hh : List (Nat × Nat × Nat × Nat)} {As rest : List Value} {px : String → Prop} {post : Option Value → List Nat → (Nat → va_E) → Prop}
    (hC : Ct l G y (.codeWith y bytes maxL rt hh) fr lo mc ms As L f px post) (h1 : Cond.methodLink own index y ∈ BIG) (h2 : Cond.static y ∈ BIG) (h4 : Cond.initialized y.cls ∈ BIG) (h5 : Cond.codeWith y bytes maxL rt hh ∈ BIG)
    (hy : y.cls ≠ "java/lang/invoke/MethodHandle" ∧ y.cls ≠ "java/lang/invoke/VarHandle" ∧ (parseMethodDescriptor y.desc).map (fun d => d.parameters.length) = some As.length)
    (hdg : decode cc pc = .ok (.invokestatic index, 3))
    (hR : fr + 1 ≤ R.frames ∧ 8 + (maxL + 11) + lo ≤ R.locals) (hc : cells + mc ≤ R.cells ∧ slots + ms ≤ R.slots) (hW : (rest.map fun v => v.category).sum ≤ 8)
    (kx : ∀ E, px E → JX G p l e R s m args below meth c A Q nL (cells + mc) (slots + ms) pc lv rest L f E)
    (kk : ∀ (r : Option Value) (L1 : List Nat) (f1 : Nat → va_E), post r L1 f1 → J G p l e R s m args below meth c A Q nL (cells + mc) (slots + ms) (pc + 3) lv (r.toList ++ rest) L1 f1) : J G p l e R s m args below meth c A Q nL cells slots pc lv (As.reverse ++ rest) L f := by
  refine j_run X (px := px) (post := post) (a := As.toArray) (fun H locs ls hP hD hS hl => ?_) kx kk
  exact vx_runSX (n := As.length) ⟨X.1, X.2.1, X.2.2.1, X.2.2.2.1, X.w⟩ (hC H.size) (vx_cwSW As.length X.w (big_in (fun w hw => by
    rcases List.mem_append.mp hw with h | h
    · simp only [List.mem_cons, List.not_mem_nil, or_false] at h
      rcases h with rfl | rfl | rfl
      · exact h1
      · exact h2
      · exact h4
    · rcases List.mem_cons.mp h with rfl | h
      · exact h5
      · exact h)) rfl rfl rfl hy hR) ⟨Pg_blind, X.pre hP hD hS⟩ rfl rfl hl.1 rfl (lv_room hW) hdg hc
end JROWS
