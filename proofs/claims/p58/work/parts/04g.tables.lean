/-! methods with a table: how they are entered, what is caught, how they are called; the law's own rows -/
theorem tb_of {tb1 tb : List ExceptionTableEntry} {hh : List (Nat × Nat × Nat × Nat)} (h1 : tb1.map (fun h => (h.startPc, h.endPc, h.handlerPc, h.catchType)) = hh) (h2 : tb.map (fun h => (h.startPc, h.endPc, h.handlerPc, h.catchType)) = hh) : tb1 = tb := by
  refine (List.map_inj_right (fun x y h => ?_)).mp (h1.trans h2.symm)
  obtain ⟨x1, x2, x3, x4⟩ := x
  obtain ⟨y1, y2, y3, y4⟩ := y
  simp only [Prod.mk.injEq] at h
  obtain ⟨rfl, rfl, rfl, rfl⟩ := h
  rfl
theorem Ct.ofH {l : Launch} {G : GG} {y : MethodName} {own : String} {cc : ByteArray} {maxL fr lo mc ms : Nat} {rt : Option FieldType} {hh : List (Nat × Nat × Nat × Nat)} {av : List Value} {L : List Nat} {f : Nat → va_E} {px : String → Prop} {post : Option Value → List Nat → (Nat → va_E) → Prop} (tb : List ExceptionTableEntry) (htb2 : tb.map (fun h => (h.startPc, h.endPc, h.handlerPc, h.catchType)) = hh) (hl : l.stackTraces = false) (hown : y.cls = own) (hpl : plainName y.cls = true) (lv : List (Option Value)) (hlv : lvl lv = lv_args 0 av) (hn : (lg_sl av).length ≤ maxL)
    (body : ∀ (p : Program) (e : Env) (s : State) (m : MethodId) (below : List Frame) (meth : Method) (c : Code) (A : Nat → Prop) (ar : Array Value) (Q : State → Prop), Q = vx_MQ below (Qg G A post) (Xg G A L f px) ar s mc ms A → Cx G p l s m ar meth c A own cc maxL rt tb → J G p l e { frames := fr, cells := mc, slots := ms, locals := lo } s m ar below meth c A Q maxL 0 0 0 lv [] L f) : Ct l G y (.codeWith y cc maxL rt hh) fr lo mc ms av L f px post := by
  subst hown
  intro sz
  refine vx_ofWH (cc := cc) (maxL := maxL) (ret := rt) (hh := hh) hpl rfl ?_
  intro p e s m args below meth c s₁ B hml hv
  obtain ⟨rfl, hsz, ⟨hP, hK, hD0⟩, hE⟩ := hv
  subst hsz
  have hD : va_D (aA L s.heap.size) (va_pl L f) := ⟨hD0.1, fun k q hk => Or.inl (pl_mem hk)⟩
  have htb : c.exceptionTable.toList = tb := by
    obtain ⟨m9, meth9, c9, hn9, h1, h2, -, -, h3, -⟩ := Cond.codeWith_spec (atoms_spec (ws := .codeWith y cc maxL rt hh :: BIG) B.pre _ List.mem_cons_self)
    cases hn9.symm.trans B.named
    have h4 := B.here.code
    rw [B.state] at h4
    have h5 : s.code? m = some c9 := by
      simp only [State.code?, Vm.method?] at h1 ⊢
      cases hc : s.vm.classes[m.cls]? with
      | none => simp [hc] at h1
      | some k =>
        simp only [hc, Option.bind_eq_bind, Option.bind_some] at h1 ⊢
        rw [h1]
        exact h2
    have h6 : s.code? m = some c := h4
    cases h5.symm.trans h6
    exact tb_of h3 htb2
  have X : Cx G p l s m av.toArray meth c (aA L s.heap.size) y.cls cc maxL rt tb := ⟨B.exec, B.bytes, hml, findClass_of_methodNamed B.named, fun w hw => atoms_spec (ws := .codeWith y cc maxL rt hh :: BIG) B.pre w (List.mem_cons_of_mem _ hw), B.returns, B.notSynchronized, hK, fun q h => Or.inr h, hE, hl, htb⟩
  rw [lg_entry_eq]
  exact body p e s m below meth c _ _ _ rfl X s.heap [] _ hP hD va_S.rf (by rw [hlv]; exact lv_entry av hn)
section JROWS
variable {G : GG} {p : Program} {l : Launch} {e : Env} {R : Room} {s : State} {m : MethodId} {args : Array Value} {below : List Frame} {meth : Method} {c : Code} {A : Nat → Prop} {Q : State → Prop} {own : String} {cc : ByteArray} {nL cells slots pc : Nat} {ret : Option FieldType} {tb : List ExceptionTableEntry} {lv : List (Option Value)} {st : List Value} {L : List Nat} {f : Nat → va_E}
theorem jx_catch (X : Cx G p l s m args meth c A own cc nL ret tb) {E name : String} (pre : List ExceptionTableEntry) (x : ExceptionTableEntry) (suf : List ExceptionTableEntry) (hsplit : tb = pre ++ x :: suf) (hpass : ∀ z ∈ pre, covers z pc = false ∨ (z.catchType ≠ 0 ∧ ∃ nm : String, Cond.classLink own z.catchType nm ∈ BIG ∧ (E, nm) ∈ ncT)) (hx : covers x pc = true) (h0 : x.catchType ≠ 0) (hlink : Cond.classLink own x.catchType name ∈ BIG) (hcast : (E, name) ∈ castT) (kk : ∀ q : Nat, J G p l e R s m args below meth c A Q nL cells slots x.handlerPc lv [.ref q] L f) : JX G p l e R s m args below meth c A Q nL cells slots pc lv st L f E := by
  intro H locs ls q ce hP hD hS hl hcell hv hcl
  obtain ⟨hexec, hb, hml, hown, hw, hrt, hlk, hK, hnew, hE, hst, htb⟩ := X
  exact vx_catch hown pre x suf (htb.trans hsplit) (fun z hz => (hpass z hz).imp id (fun h => ⟨h.1, h.2.elim (fun nm h2 => ⟨nm, hw _ h2.1, hE.2.2.2.2.2.2.1 _ h2.2⟩)⟩)) hx h0 (hw _ hlink) (va_Nw.use rfl (hE.2.2.2.2.2.1 _ hcast)) hcell hv hcl (kk q H locs ls hP hD hS hl)
/-- a call of a static method that has a table -/
theorem j_callSW (X : Cx G p l s m args meth c A own cc nL ret tb) {y : MethodName} {bytes : ByteArray} {maxL index fr lo mc ms : Nat} {rt : Option FieldType} {hh : List (Nat × Nat × Nat × Nat)} {As rest : List Value} {px : String → Prop} {post : Option Value → List Nat → (Nat → va_E) → Prop}
    (hC : Ct l G y (.codeWith y bytes maxL rt hh) fr lo mc ms As L f px post) (h1 : Cond.methodLink own index y ∈ BIG) (h2 : Cond.static y ∈ BIG) (h4 : Cond.initialized y.cls ∈ BIG) (h5 : Cond.codeWith y bytes maxL rt hh ∈ BIG)
    (hy : y.cls ≠ "java/lang/invoke/MethodHandle" ∧ y.cls ≠ "java/lang/invoke/VarHandle" ∧ (parseMethodDescriptor y.desc).map (fun d => d.parameters.length) = some As.length)
    (hdg : decode cc pc = .ok (.invokestatic index, 3))
    (hR : fr + 1 ≤ R.frames ∧ 8 + (maxL + 11) + lo ≤ R.locals) (hc : cells + mc ≤ R.cells ∧ slots + ms ≤ R.slots) (hW : (rest.map fun v => v.category).sum ≤ 8)
    (kx : ∀ E, px E → JX G p l e R s m args below meth c A Q nL (cells + mc) (slots + ms) pc lv rest L f E)
    (kk : ∀ (r : Option Value) (L1 : List Nat) (f1 : Nat → va_E), post r L1 f1 → J G p l e R s m args below meth c A Q nL (cells + mc) (slots + ms) (pc + 3) lv (r.toList ++ rest) L1 f1) : J G p l e R s m args below meth c A Q nL cells slots pc lv (As.reverse ++ rest) L f := by
  refine j_run X (px := px) (post := post) (a := As.toArray) (fun H locs ls hP hD hS hl => ?_) kx kk
  exact vx_runSX (n := As.length) ⟨X.1, X.2.1, X.2.2.1, X.2.2.2.1, X.w⟩ (hC H.size) (vx_cwSW As.length X.w (big_in (fun w hw => by
    rcases List.mem_append.mp hw with h | h
    · simp only [List.mem_cons, List.not_mem_nil, or_false] at h
      rcases h with rfl | rfl | rfl
      · exact h1
      · exact h2
      · exact h4
    · rcases List.mem_cons.mp h with rfl | h
      · exact h5
      · exact h)) rfl rfl rfl hy hR) ⟨Pg_blind, X.pre hP hD hS⟩ rfl rfl hl.1 rfl (lv_room hW) hdg hc
variable {a b c1 : Mem}
theorem t_last105 (X : Cx G p l s m args meth c A own cc nL ret tb) (hL : LOK L) (h7 : L.length = 107) {x : Int32} {y : Int64} (hx : Int32.toInt64 x = y) {c2 : Mem} (he : upR c1 0 (upd (c1 0) 0 x) = c2) (hdg : decode cc pc = .ok (.lastore, 1)) (kk : J G p l e R s m args below meth c A Q nL cells slots (pc + 1) lv st L (FW G L a b c2)) : J G p l e R s m args below meth c A Q nL cells slots pc lv (.long y :: .int 0 :: .ref (ad L 105) :: st) L (FW G L a b c1) := by
  subst he
  subst hx
  refine j_last X hdg (ad_memL (by omega)) (FWr105 hL h7) (by unfold vp_in; decide) ?_
  refine J.ext (FW_upL hL (by omega) _ ?_ (rv_upc_n (k := 0))) kk
  rw [cnt_41 rfl, rv_upc (k := 0)]
  have e : (fun i => (upd (c1 0) 0 x i).toInt64) = vp_updL (fun i => (c1 0 i).toInt64) (0 : Int32).toNatClampNeg x.toInt64 := by
    funext i
    show (upd (c1 0) 0 x i).toInt64 = if i = (0 : Int32).toNatClampNeg then x.toInt64 else (c1 0 i).toInt64
    rw [show (0 : Int32).toNatClampNeg = 0 by decide]
    unfold upd
    split <;> rfl
  rw [e]
theorem j_lald105 (X : Cx G p l s m args meth c A own cc nL ret tb) (hL : LOK L) (h7 : L.length = 107) (hdg : decode cc pc = .ok (.laload, 1)) (kk : J G p l e R s m args below meth c A Q nL cells slots (pc + 1) lv (.long (Int32.toInt64 (c1 0 0)) :: st) L (FW G L a b c1)) : J G p l e R s m args below meth c A Q nL cells slots pc lv (.int 0 :: .ref (ad L 105) :: st) L (FW G L a b c1) :=
  j_lald X hdg (ad_memL (by omega)) (FWr105 hL h7) (by unfold vp_in; decide) kk
end JROWS
def dHi (u : UInt64) : Int32 := (u >>> 32).toUInt32.toInt32
def dLo (u : UInt64) : Int32 := u.toUInt32.toInt32
theorem dbl_hl (u : UInt64) : dbl (dHi u) (dLo u) = u := by
  unfold dbl dHi dLo
  have h1 : ∀ v : UInt32, v.toInt32.toUInt32 = v := fun v => rfl
  rw [h1, h1]
  have hu := u.toNat_lt
  apply UInt64.toNat_inj.mp
  have e1 : ((u >>> 32).toUInt32.toUInt64 <<< 32).toNat = (u.toNat / 2 ^ 32) <<< 32 := by
    rw [UInt64.toNat_shiftLeft, UInt32.toNat_toUInt64, UInt64.toNat_toUInt32, UInt64.toNat_shiftRight]
    simp only [Nat.shiftRight_eq_div_pow, Nat.shiftLeft_eq]
    show (u.toNat / 2 ^ 32 % 2 ^ 32 * 2 ^ 32) % 2 ^ 64 = u.toNat / 2 ^ 32 * 2 ^ 32
    omega
  have e2 : (u.toUInt32.toUInt64).toNat = u.toNat % 2 ^ 32 := by
    rw [UInt32.toNat_toUInt64, UInt64.toNat_toUInt32]
  rw [UInt64.toNat_or, e1, e2, ← Nat.shiftLeft_add_eq_or_of_lt (by omega), Nat.shiftLeft_eq]
  omega
section JROWS
variable {G : GG} {p : Program} {l : Launch} {e : Env} {R : Room} {s : State} {m : MethodId} {args : Array Value} {below : List Frame} {meth : Method} {c : Code} {A : Nat → Prop} {Q : State → Prop} {own : String} {cc : ByteArray} {nL cells slots pc : Nat} {ret : Option FieldType} {tb : List ExceptionTableEntry} {lv : List (Option Value)} {st : List Value} {L : List Nat} {f : Nat → va_E}
variable {a b c1 : Mem}
theorem t_dast106 (X : Cx G p l s m args meth c A own cc nL ret tb) (hL : LOK L) (h7 : L.length = 107) {y : UInt64} {c2 : Mem} (he : upR c1 1 (upd (upd (c1 1) 0 (dHi y)) 1 (dLo y)) = c2) (hdg : decode cc pc = .ok (.dastore, 1)) (kk : J G p l e R s m args below meth c A Q nL cells slots (pc + 1) lv st L (FW G L a b c2)) : J G p l e R s m args below meth c A Q nL cells slots pc lv (.double y :: .int 0 :: .ref (ad L 106) :: st) L (FW G L a b c1) := by
  subst he
  refine j_dast X hdg (ad_memL (by omega)) (FWr106 hL h7) (by unfold vp_in; decide) ?_
  refine J.ext (FW_upL hL (by omega) _ ?_ (rv_upc_n (k := 1))) kk
  rw [cnt_42 rfl, rv_upc (k := 1)]
  have e : (fun i => dbl (upd (upd (c1 1) 0 (dHi y)) 1 (dLo y) (2 * i)) (upd (upd (c1 1) 0 (dHi y)) 1 (dLo y) (2 * i + 1))) = vf_upd (fun i => dbl (c1 1 (2 * i)) (c1 1 (2 * i + 1))) (0 : Int32).toNatClampNeg y := by
    funext i
    show _ = if i = (0 : Int32).toNatClampNeg then y else _
    rw [show (0 : Int32).toNatClampNeg = 0 by decide]
    by_cases h : i = 0
    · subst h
      rw [if_pos rfl]
      exact dbl_hl y
    · rw [if_neg h]
      unfold upd
      rw [if_neg (by omega), if_neg (by omega), if_neg (by omega), if_neg (by omega)]
  rw [e]
theorem j_dald106 (X : Cx G p l s m args meth c A own cc nL ret tb) (hL : LOK L) (h7 : L.length = 107) (hdg : decode cc pc = .ok (.daload, 1)) (kk : J G p l e R s m args below meth c A Q nL cells slots (pc + 1) lv (.double (dbl (c1 1 0) (c1 1 1)) :: st) L (FW G L a b c1)) : J G p l e R s m args below meth c A Q nL cells slots pc lv (.int 0 :: .ref (ad L 106) :: st) L (FW G L a b c1) :=
  j_dald X hdg (ad_memL (by omega)) (FWr106 hL h7) (by unfold vp_in; decide) kk
end JROWS
