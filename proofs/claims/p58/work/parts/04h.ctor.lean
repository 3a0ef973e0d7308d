/-! ===== BEGIN a constructor that throws (launches without stack traces) ===== -/
section VXIA
variable {p : Program} {l : Launch} {e : Env} {R : Room} {s : State} {m : MethodId} {args : Array Value} {below : List Frame} {meth : Method} {c : Code} {T : State} {locs : List Loc} {cells slots : Nat}
theorem vx_callI (X : Stand p l e R s m args below meth c T locs cells slots) (hexec : p.tables.exec = Jvm.exec) {own : String} {index : Nat} {y : MethodName} {bytes : ByteArray} {maxL : Nat}
    (hown : s.vm.findClass own = some m.cls) (hy1 : y.name = "<init>") (hlink : (Cond.methodLink own index y).before args s = true) (hinst : (Cond.instanceMethod y).before args s = true)
    (hcode : (Cond.code y bytes maxL none).before args s = true) (hy : y.cls ≠ "java/lang/invoke/MethodHandle" ∧ y.cls ≠ "java/lang/invoke/VarHandle")
    {W9 : Nat} {Pre : Pt → Array Value → Prop} {Post : Pt → Array Value → Option Value → Pt → Prop} {PostX : Pt → Array Value → Addr → Pt → Prop} (hK : vx_Back l R p e below s args y 3 W9 Pre Post PostX)
    {g : JFrame} (hg : g.method = m) (hsize : g.locals.size = c.maxLocals) {a : Addr} {argsL rest : List Value} (hlen : ∀ sig, parseMethodDescriptor y.desc = some sig → argsL.length = sig.parameters.length)
    (hstack : g.stack = argsL.reverse ++ .ref a :: rest) (hW : 2 * g.monitorRoom + (rest.map fun v => v.category).sum ≤ W9) (hdg : decode c.code g.pc = .ok (.invokespecial index, 3))
    (hpre : ∀ vm₁, s.WarmedH vm₁ → Pre ⟨T.setVm vm₁, locs, cells, slots⟩ (Value.ref a :: argsL).toArray) :
    (∃ (v : Option Value) (vm₁ : Vm) (B : Pt), s.WarmedH vm₁ ∧ Stand p l e R s m args below meth c B.U B.locs B.cells B.slots ∧ Post ⟨T.setVm vm₁, locs, cells, slots⟩ (Value.ref a :: argsL).toArray v B ∧
      ∀ target, Steps p.tables e below (B.U.setTop { g with pc := g.pc + 3, stack := v.toList ++ rest }) target → Steps p.tables e below (T.setTop g) target) ∨
    (∃ (q : Addr) (vm₁ : Vm) (B : Pt), s.WarmedH vm₁ ∧ Stand p l e R s m args below meth c B.U B.locs B.cells B.slots ∧ PostX ⟨T.setVm vm₁, locs, cells, slots⟩ (Value.ref a :: argsL).toArray q B ∧
      Steps p.tables e below (T.setTop g) ((B.U.setTop { g with stack := rest }).pushFrame (.throwing q))) := by
  subst hg
  have hpl : e.platform.magicAccessors = ({} : Platform).magicAccessors := by rw [X.admits.platform]
  obtain ⟨mk, methM, cM, kP, vm₁, hnamed, hmethM, hcodeM, -, hlocalsM, -, hkP, -, hW₁, hstep₁⟩ := Steps.initColdArgs (e := e) X.here hexec X.warmed hpl hown hy1 hy hlink hinst hcode (f := g) rfl hlen hstack hdg
  have X₁ := X.noted hW₁
  rcases hK g.method meth c ⟨T.setVm vm₁, locs, cells, slots⟩ { g with stack := rest } (.invokespecial index) mk (Value.ref a :: argsL).toArray X₁ rfl hsize hdg hW (X₁.named hnamed) (hpre vm₁ X₁.warmed) with ⟨v, B, X', hpost, hsteps⟩ | ⟨q, B, X', hpost, hsteps⟩
  · exact Or.inl ⟨v, vm₁, B, X₁.warmed, X', hpost, fun target h => hstep₁ _ fun acts => by rw [doInvoke_state]; exact hsteps.trans h⟩
  · exact Or.inr ⟨q, vm₁, B, X₁.warmed, X', hpost, hstep₁ _ fun acts => by rw [doInvoke_state]; exact hsteps⟩
end VXIA
section VXIB
variable {p : Program} {l : Launch} {e : Env} {R : Room} {s : State} {m : MethodId} {args : Array Value} {below : List Frame} {meth : Method} {c : Code} {H : Heap} {locs : List Loc} {cells slots : Nat}
variable {y : MethodName} {bytes cc : ByteArray} {maxL nL mc ms n index : Nat} {ret : Option FieldType} {ws : List Cond} {rm : Room} {Pc : Array Value → State → Prop} {Qc : Array Value → State → Outcome → State → Prop} {XC : String → State → State → Prop} {free : Addr → Prop} {Ts : List Cond} {own C : String} {b : Addr} {As rest : List Value} {g : JFrame}
theorem vx_runI (S : CallFix p m c cc nL s args Ts own) (hM : vx_Met l y ws rm Pc Qc XC mc ms free) (cw : CallB R s args own index y bytes maxL none ws rm mc ms n ∧ y.name = "<init>" ∧ (Cond.instanceMethod y).before args s = true) (hp : PreS s H Pc (.ref b :: As))
    (hg : g.method = m) (hn : As.length = n) (hsize : g.locals.size = nL) (hstack : g.stack = As.reverse ++ .ref b :: rest) (hW : 2 * g.monitorRoom + (rest.map fun v => v.category).sum ≤ 8) (hdg : decode cc g.pc = .ok (.invokespecial index, 3)) (hf : cells + mc ≤ R.cells ∧ slots + ms ≤ R.slots) :
    vx_Run p l e R s m args below meth c H locs cells slots mc ms g rest (Qc (Value.ref b :: As).toArray) XC free := by
  have hK : vx_Back l R p e below s args y 3 8 (PreOf R mc ms Pc) (PostOf Qc mc ms free) (vx_Post XC mc ms free) := vx_callBack cw.1 hM hp.1
  obtain ⟨⟨-, -, -, -, -, -, hcode, -, hy, hlen, hl⟩, hy1, hin⟩ := cw
  obtain ⟨hx, hb, hml, ho, -⟩ := S
  have hPc := hp.2
  intro T hT X
  rcases vx_callI X hx (bytes := bytes) (maxL := maxL) ho hy1 hl hin hcode hy hK hg (hsize.trans hml.symm) (a := b) (argsL := As) (rest := rest) (fun sig h => hn.trans (hlen sig h)) hstack hW (by rw [hb]; exact hdg)
    (fun vm₁ hW₁ => ⟨hf.1, hf.2, hPc (T.setVm vm₁) hT hW₁⟩) with ⟨v, vm₁, ⟨U', l2, c2, s2⟩, hW₁, X', ⟨g', mk, t, L, e1, e2, hq, h1, hL, h2, h3⟩, st⟩ | ⟨q, vm₁, ⟨U', l2, c2, s2⟩, hW₁, X', ⟨g', mk, t, L, E, ce, e1, e2, hq, hce, hcv, hcl, h1, hL, h2, h3⟩, st⟩
  · dsimp only [Pt.U, Pt.locs, Pt.cells, Pt.slots] at X' e1 e2 h1 h2 h3 st
    subst h1; subst h2; subst h3
    exact Or.inl ⟨v, (T.setVm vm₁).calling g' mk (Value.ref b :: As).toArray, t, U', L, hT, X', hL, e1, e2, hq, st⟩
  · dsimp only [Pt.U, Pt.locs, Pt.cells, Pt.slots] at X' e1 e2 h1 h2 h3 st hcl
    subst h1; subst h2; subst h3
    exact Or.inr ⟨q, (T.setVm vm₁).calling g' mk (Value.ref b :: As).toArray, t, U', L, E, ce, hT, X', hL, e1, e2, hq, hce, hcv, vx_cls hW₁ hcl, st⟩
end VXIB
/-! ===== END ===== -/
/-! making objects and rows -/
theorem fresh_of {A : Nat → Prop} {L : List Nat} {f : Nat → va_E} {q : Nat} {e : va_E} (h : va_D A (va_pl L f ++ [(q, e)])) : q ∉ L := by
  intro hq
  obtain ⟨k, hk⟩ := va_pl_get (X := []) (f := f) hq
  rw [List.nil_append] at hk
  have h1 : (va_pl L f ++ [(q, e)])[k]? = some (q, f q) := by
    rw [List.getElem?_append_left (List.getElem?_eq_some_iff.mp hk).1]
    exact hk
  have h2 : (va_pl L f ++ [(q, e)])[(va_pl L f).length]? = some (q, e) := by
    rw [List.getElem?_append_right (Nat.le_refl _)]
    simp
  have h3 := h.1 _ _ _ _ h1 h2 rfl
  have h4 : k < (va_pl L f).length := (List.getElem?_eq_some_iff.mp hk).1
  omega
theorem tc_of {G : GG} {s : State} {tys : List (ClassId × FieldType)} {k9 : Nat} {cA cB : ClassId} {ty : FieldType} (h1 : va_K G.1 vwCl tys s) (ht : tys[k9]? = some (cB, ty)) (h2 : va_K G.1 vwCl (tys ++ [(cA, ty)]) s) : cA = cB := by
  have e1 := (h1.2 k9 _ ht).2
  have e2 := (h2.2 tys.length (cA, ty) (by rw [List.getElem?_append_right (Nat.le_refl _)]; simp)).2
  cases ty with
  | object C =>
    obtain ⟨_, _, -, -, -, g1⟩ := e1
    obtain ⟨_, _, -, -, -, g2⟩ := e2
    exact Option.some.inj (g2.symm.trans g1)
  | _ => exact Option.some.inj (e2.symm.trans e1)
section JROWS
variable {G : GG} {p : Program} {l : Launch} {e : Env} {R : Room} {s : State} {m : MethodId} {args : Array Value} {below : List Frame} {meth : Method} {c : Code} {A : Nat → Prop} {Q : State → Prop} {own : String} {cc : ByteArray} {nL cells slots pc : Nat} {ret : Option FieldType} {tb : List ExceptionTableEntry} {lv : List (Option Value)} {st : List Value} {L : List Nat} {f : Nat → va_E}
theorem j_objInit (X : Cx G p l s m args meth c A own cc nL ret tb) {q index : Nat} (hlink : Cond.methodLink own index Lib.objectInit ∈ BIG) (hdg : decode cc pc = .ok (.invokespecial index, 3)) (hR : 1 ≤ R.frames ∧ (st.map fun v => v.category).sum + 12 ≤ R.locals) (kk : J G p l e R s m args below meth c A Q nL cells slots (pc + 3) lv st L f) : J G p l e R s m args below meth c A Q nL cells slots pc lv (.ref q :: st) L f := by
  intro H locs ls hP hD hS hl
  exact W.objInit X.1 X.2.1 X.2.2.2.1 (X.w _ hlink) (X.w _ im_Lib_objectInit) (X.w _ cd_objectInit) rfl (hl.1.trans X.2.2.1.symm) rfl hdg hR.1 (by have h9 := hR.2; simp only [F0, JFrame.monitorRoom]; simpa using h9) (kk H locs ls hP hD hS hl)
theorem j_new (X : Cx G p l s m args meth c A own cc nL ret tb) (ci : Nat) {C : String} {T : u_T} {N index : Nat} (hin : ∀ w ∈ u_ws C T N, w ∈ BIG) (tyx : Nat → FieldType) (hty : ∀ k, k < N → parseFieldDescriptor (T k).2.2.1 = some (tyx k)) (hcl : Cond.classLink own index C ∈ BIG) (hinst : Cond.instantiable C N ∈ BIG) (hini : Cond.initialized C ∈ BIG) (hc : vwCl[ci]? = some (C, T, N)) {fs : List Value} (hfs : ∀ j, j < N → defaultValue (tyx j) = vp_V fs j) (hcs : cells + 1 ≤ R.cells ∧ slots + N ≤ R.slots) (hdg : decode cc pc = .ok (.new index, 3)) (kk : ∀ q : Nat, q ∉ L → J G p l e R s m args below meth c A Q nL (cells + 1) (slots + N) (pc + 3) lv (.ref q :: st) (L ++ [q]) (va_up f q (.inr (ci, fs)))) : J G p l e R s m args below meth c A Q nL cells slots pc lv st L f := by
  intro H locs ls hP hD hS hl
  refine va_new (D := G.1) X.1 X.2.1 (Ts := BIG) X.w hin tyx hty X.2.2.2.1 (X.w _ hcl) (X.w _ hinst) (X.w _ hini) X.2.2.2.2.2.2.2.1 hP hD hS X.2.2.2.2.2.2.2.2.1 hc hfs hcs.1 hcs.2 hdg (fun q H1 hP1 hD1 hS1 => ?_)
  have hq := fresh_of hD1
  rw [va_pl_push hq] at hP1 hD1
  exact kk q hq H1 locs ls hP1 hD1 hS1 hl
theorem j_newa (X : Cx G p l s m args meth c A own cc nL ret tb) (k9 : Nat) {atype : ArrayType} {ty : FieldType} {cB : ClassId} (ht : (tysOf G.2.1)[k9]? = some (cB, ty)) (harr : Cond.arrayClass (newarray.typeOf atype) ∈ BIG) (hty : newarray.typeOf atype = ty) {n : Int32} {N' : Nat} {a0 : vp_A} (ha : ∀ cA : ClassId, vp_cell cA a0 = arrV cA N' (fun _ => defaultValue ty)) (hn : ¬ n < 0) (hN : n.toNatClampNeg = N') (hbytes : N' * componentBytes ty ≤ 536870912) (hcs : cells + 1 ≤ R.cells ∧ slots + N' ≤ R.slots) (hdg : decode cc pc = .ok (.newarray atype, 2)) (kk : ∀ q : Nat, q ∉ L → J G p l e R s m args below meth c A Q nL (cells + 1) (slots + N') (pc + 2) lv (.ref q :: st) (L ++ [q]) (va_up f q (.inl (cB, a0)))) : J G p l e R s m args below meth c A Q nL cells slots pc lv (.int n :: st) L f := by
  intro H locs ls hP hD hS hl
  refine va_newa (D := G.1) (tys := tysOf G.2.1) X.1 X.2.1 (X.w _ harr) hty X.2.2.2.2.2.2.2.1 hP hD hS X.2.2.2.2.2.2.2.2.1 ha hn hN hbytes hcs.1 hcs.2 hdg (fun q cA H1 hK1 hP1 hD1 hS1 => ?_)
  have hcA := tc_of X.2.2.2.2.2.2.2.1 ht hK1
  subst hcA
  have hq := fresh_of hD1
  rw [va_pl_push hq] at hP1 hD1
  exact kk q hq H1 locs ls hP1 hD1 hS1 hl
theorem j_newq (X : Cx G p l s m args meth c A own cc nL ret tb) (k9 : Nat) {C : String} {index : Nat} {cB : ClassId} (ht : (tysOf G.2.1)[k9]? = some (cB, .object C)) (hcl : Cond.classLink own index C ∈ BIG) (hover : va_AO C s) {n : Int32} {N' : Nat} (hn : ¬ n < 0) (hN : n.toNatClampNeg = N') (hbytes : N' * 4 ≤ 536870912) (hcs : cells + 1 ≤ R.cells ∧ slots + N' ≤ R.slots) (hdg : decode cc pc = .ok (.anewarray index, 3)) (kk : ∀ q : Nat, q ∉ L → J G p l e R s m args below meth c A Q nL (cells + 1) (slots + N') (pc + 3) lv (.ref q :: st) (L ++ [q]) (va_up f q (.inl (cB, N', .inr (.inr (.inr (.inr (fun _ => none)))))))) : J G p l e R s m args below meth c A Q nL cells slots pc lv (.int n :: st) L f := by
  intro H locs ls hP hD hS hl
  refine va_newq (D := G.1) (tys := tysOf G.2.1) X.1 X.2.1 X.2.2.2.1 (X.w _ hcl) hover X.2.2.2.2.2.2.2.1 hP hD hS X.2.2.2.2.2.2.2.2.1 hn hN hbytes hcs.1 hcs.2 hdg (fun q cA H1 hK1 hP1 hD1 hS1 => ?_)
  have hcA := tc_of X.2.2.2.2.2.2.2.1 ht hK1
  subst hcA
  have hq := fresh_of hD1
  rw [va_pl_push hq] at hP1 hD1
  exact kk q hq H1 locs ls hP1 hD1 hS1 hl
/-- a call of a constructor without arguments -/
theorem j_callI (X : Cx G p l s m args meth c A own cc nL ret tb) {y : MethodName} {bytes : ByteArray} {maxL index fr lo mc ms b : Nat} {px : String → Prop} {post : Option Value → List Nat → (Nat → va_E) → Prop}
    (hC : Ct l G y (.code y bytes maxL none) fr lo mc ms [.ref b] L f px post) (h1 : Cond.methodLink own index y ∈ BIG) (h2 : Cond.instanceMethod y ∈ BIG) (h4 : Cond.initialized y.cls ∈ BIG) (h5 : Cond.code y bytes maxL none ∈ BIG) (hy1 : y.name = "<init>")
    (hy : y.cls ≠ "java/lang/invoke/MethodHandle" ∧ y.cls ≠ "java/lang/invoke/VarHandle" ∧ (parseMethodDescriptor y.desc).map (fun d => d.parameters.length) = some 0)
    (hdg : decode cc pc = .ok (.invokespecial index, 3))
    (hR : fr + 1 ≤ R.frames ∧ 8 + (maxL + 11) + lo ≤ R.locals) (hc : cells + mc ≤ R.cells ∧ slots + ms ≤ R.slots) (hW : (st.map fun v => v.category).sum ≤ 8)
    (kx : ∀ E, px E → JX G p l e R s m args below meth c A Q nL (cells + mc) (slots + ms) pc lv st L f E)
    (kk : ∀ (r : Option Value) (L1 : List Nat) (f1 : Nat → va_E), post r L1 f1 → J G p l e R s m args below meth c A Q nL (cells + mc) (slots + ms) (pc + 3) lv (r.toList ++ st) L1 f1) : J G p l e R s m args below meth c A Q nL cells slots pc lv (.ref b :: st) L f := by
  refine j_run X (px := px) (post := post) (a := (Value.ref b :: []).toArray) (fun H locs ls hP hD hS hl => ?_) kx kk
  exact vx_runI (n := 0) (As := []) ⟨X.1, X.2.1, X.2.2.1, X.2.2.2.1, X.w⟩ (hC H.size) (cwI 0 X.w (big_in (fun w hw => by
    rcases List.mem_cons.mp hw with rfl | h
    · exact h5
    · exact h)) rfl rfl rfl (X.w _ h4) (X.w _ h1) (X.w _ h2) hy1 hy hR) ⟨Pg_blind, X.pre hP hD hS⟩ rfl rfl hl.1 rfl (lv_room hW) hdg hc
/-- .. of a nest mate -/
theorem j_callIN (X : Cx G p l s m args meth c A own cc nL ret tb) {y : MethodName} {bytes : ByteArray} {maxL index fr lo mc ms b : Nat} {px : String → Prop} {post : Option Value → List Nat → (Nat → va_E) → Prop}
    (hC : Ct l G y (.code y bytes maxL none) fr lo mc ms [.ref b] L f px post) (h1 : (own, index, y) ∈ nestT) (h2 : Cond.instanceMethod y ∈ BIG) (h4 : Cond.initialized y.cls ∈ BIG) (h5 : Cond.code y bytes maxL none ∈ BIG) (hy1 : y.name = "<init>")
    (hy : y.cls ≠ "java/lang/invoke/MethodHandle" ∧ y.cls ≠ "java/lang/invoke/VarHandle" ∧ (parseMethodDescriptor y.desc).map (fun d => d.parameters.length) = some 0)
    (hdg : decode cc pc = .ok (.invokespecial index, 3))
    (hR : fr + 1 ≤ R.frames ∧ 8 + (maxL + 11) + lo ≤ R.locals) (hc : cells + mc ≤ R.cells ∧ slots + ms ≤ R.slots) (hW : (st.map fun v => v.category).sum ≤ 8)
    (kx : ∀ E, px E → JX G p l e R s m args below meth c A Q nL (cells + mc) (slots + ms) pc lv st L f E)
    (kk : ∀ (r : Option Value) (L1 : List Nat) (f1 : Nat → va_E), post r L1 f1 → J G p l e R s m args below meth c A Q nL (cells + mc) (slots + ms) (pc + 3) lv (r.toList ++ st) L1 f1) : J G p l e R s m args below meth c A Q nL cells slots pc lv (.ref b :: st) L f := by
  refine j_run X (px := px) (post := post) (a := (Value.ref b :: []).toArray) (fun H locs ls hP hD hS hl => ?_) kx kk
  have hE := X.2.2.2.2.2.2.2.2.2.1
  exact vx_runIN (n := 0) (As := []) ⟨X.1, X.2.1, X.2.2.1, X.2.2.2.1, X.w⟩ (hC H.size) ⟨va_cnB 0 X.w (big_in (fun w hw => by
    rcases List.mem_cons.mp hw with rfl | h
    · exact h5
    · exact h)) rfl rfl rfl (hE.2.2.2.2.1 _ h1) (X.w _ h4) hy hR, hy1, X.w _ h2⟩ ⟨Pg_blind, X.pre hP hD hS⟩ rfl rfl hl.1 rfl (lv_room hW) hdg hc
theorem j_aast (X : Cx G p l s m args meth c A own cc nL ret tb) {a n b : Nat} {g : Nat → Option Nat} {vs : List Value} {i : Int32} (hdg : decode cc pc = .ok (.aastore, 1)) (ha : a ∈ L) (hf : f a = .inl (G.2.1 5, n, .inr (.inr (.inr (.inr g))))) (hb : b ∈ L) (hfb : f b = .inr (6, vs)) (hin : vp_in i n) (kk : J G p l e R s m args below meth c A Q nL cells slots (pc + 1) lv st L (va_up f a (.inl (G.2.1 5, n, .inr (.inr (.inr (.inr (va_up g i.toNatClampNeg (some b)))))))) ) : J G p l e R s m args below meth c A Q nL cells slots pc lv (.ref b :: .int i :: .ref a :: st) L f := by
  intro H locs ls hP hD hS hl
  obtain ⟨q0, hq⟩ := va_pl_get (X := []) (f := f) ha
  obtain ⟨qk, hk⟩ := va_pl_get (X := []) (f := f) hb
  have hq1 := hq
  rw [hf] at hq
  rw [hfb] at hk
  refine va_astq (D := G.1) X.1 X.2.1 X.2.2.2.2.2.2.2.1 hP hD hS q0 5 qk 6 hq rfl hk rfl hin hdg (fun H1 locs1 hP1 hD1 hS1 => ?_)
  have e9 := va_pl_set (X := []) (e := .inl (G.2.1 5, n, .inr (.inr (.inr (.inr (va_up g i.toNatClampNeg (some b))))))) hD ha hq1
  have hP2 : va_P G.1 vwCl (va_pl L (va_up f a (.inl (G.2.1 5, n, .inr (.inr (.inr (.inr (va_up g i.toNatClampNeg (some b))))))))) H1 := by rw [← List.nil_append (va_pl L (va_up f a _)), ← e9]; exact hP1
  have hD2 : va_D A (va_pl L (va_up f a (.inl (G.2.1 5, n, .inr (.inr (.inr (.inr (va_up g i.toNatClampNeg (some b))))))))) := by rw [← List.nil_append (va_pl L (va_up f a _)), ← e9]; exact hD1
  exact kk H1 locs1 ls hP2 hD2 hS1 hl
end JROWS
def z0 : Nat → Int32 := fun _ => 0
abbrev df0 : List Value := [.null, .int 0]
theorem df0_ok : ∀ j, j < 2 → defaultValue (tyX0 j) = vp_V df0 j := by
  intro j hj
  match j, hj with
  | 0, _ => rfl
  | 1, _ => rfl
  | _ + 2, h => exact absurd h (by omega)
theorem hi_yX0_init : yX0_init.cls ≠ "java/lang/invoke/MethodHandle" ∧ yX0_init.cls ≠ "java/lang/invoke/VarHandle" ∧ (parseMethodDescriptor yX0_init.desc).map (fun d => d.parameters.length) = some 0 := by decide +kernel
abbrev df1 : List Value := [.null, .int 0, .int 0]
theorem df1_ok : ∀ j, j < 3 → defaultValue (tyX1 j) = vp_V df1 j := by
  intro j hj
  match j, hj with
  | 0, _ => rfl
  | 1, _ => rfl
  | 2, _ => rfl
  | _ + 3, h => exact absurd h (by omega)
theorem hi_yX1_init : yX1_init.cls ≠ "java/lang/invoke/MethodHandle" ∧ yX1_init.cls ≠ "java/lang/invoke/VarHandle" ∧ (parseMethodDescriptor yX1_init.desc).map (fun d => d.parameters.length) = some 0 := by decide +kernel
abbrev df2 : List Value := [.null, .int 0]
theorem df2_ok : ∀ j, j < 2 → defaultValue (tyX2 j) = vp_V df2 j := by
  intro j hj
  match j, hj with
  | 0, _ => rfl
  | 1, _ => rfl
  | _ + 2, h => exact absurd h (by omega)
theorem hi_yX2_init : yX2_init.cls ≠ "java/lang/invoke/MethodHandle" ∧ yX2_init.cls ≠ "java/lang/invoke/VarHandle" ∧ (parseMethodDescriptor yX2_init.desc).map (fun d => d.parameters.length) = some 0 := by decide +kernel
abbrev df3 : List Value := [.null, .null, .int 0, .int 0, .int 0, .int 0, .int 0, .int 0, .int 0, .int 0, .int 0]
theorem df3_ok : ∀ j, j < 11 → defaultValue (tyX3 j) = vp_V df3 j := by
  intro j hj
  match j, hj with
  | 0, _ => rfl
  | 1, _ => rfl
  | 2, _ => rfl
  | 3, _ => rfl
  | 4, _ => rfl
  | 5, _ => rfl
  | 6, _ => rfl
  | 7, _ => rfl
  | 8, _ => rfl
  | 9, _ => rfl
  | 10, _ => rfl
  | _ + 11, h => exact absurd h (by omega)
theorem hi_yX3_init : yX3_init.cls ≠ "java/lang/invoke/MethodHandle" ∧ yX3_init.cls ≠ "java/lang/invoke/VarHandle" ∧ (parseMethodDescriptor yX3_init.desc).map (fun d => d.parameters.length) = some 0 := by decide +kernel
abbrev df4 : List Value := [.null, .int 0, .int 0, .int 0, .int 0]
theorem df4_ok : ∀ j, j < 5 → defaultValue (tyX4 j) = vp_V df4 j := by
  intro j hj
  match j, hj with
  | 0, _ => rfl
  | 1, _ => rfl
  | 2, _ => rfl
  | 3, _ => rfl
  | 4, _ => rfl
  | _ + 5, h => exact absurd h (by omega)
theorem hi_yX4_init : yX4_init.cls ≠ "java/lang/invoke/MethodHandle" ∧ yX4_init.cls ≠ "java/lang/invoke/VarHandle" ∧ (parseMethodDescriptor yX4_init.desc).map (fun d => d.parameters.length) = some 0 := by decide +kernel
abbrev df5 : List Value := [.null, .int 0, .int 0, .int 0, .int 0, .int 0, .int 0, .int 0, .int 0, .int 0, .int 0, .int 0, .int 0]
theorem df5_ok : ∀ j, j < 13 → defaultValue (tyX5 j) = vp_V df5 j := by
  intro j hj
  match j, hj with
  | 0, _ => rfl
  | 1, _ => rfl
  | 2, _ => rfl
  | 3, _ => rfl
  | 4, _ => rfl
  | 5, _ => rfl
  | 6, _ => rfl
  | 7, _ => rfl
  | 8, _ => rfl
  | 9, _ => rfl
  | 10, _ => rfl
  | 11, _ => rfl
  | 12, _ => rfl
  | _ + 13, h => exact absurd h (by omega)
theorem hi_yX5_init : yX5_init.cls ≠ "java/lang/invoke/MethodHandle" ∧ yX5_init.cls ≠ "java/lang/invoke/VarHandle" ∧ (parseMethodDescriptor yX5_init.desc).map (fun d => d.parameters.length) = some 0 := by decide +kernel
abbrev df6 : List Value := [.null, .null, .null, .null, .int 0, .int 0, .int 0, .int 0, .int 0, .int 0, .int 0, .int 0]
theorem df6_ok : ∀ j, j < 12 → defaultValue (tyX6 j) = vp_V df6 j := by
  intro j hj
  match j, hj with
  | 0, _ => rfl
  | 1, _ => rfl
  | 2, _ => rfl
  | 3, _ => rfl
  | 4, _ => rfl
  | 5, _ => rfl
  | 6, _ => rfl
  | 7, _ => rfl
  | 8, _ => rfl
  | 9, _ => rfl
  | 10, _ => rfl
  | 11, _ => rfl
  | _ + 12, h => exact absurd h (by omega)
theorem hi_yX6_init : yX6_init.cls ≠ "java/lang/invoke/MethodHandle" ∧ yX6_init.cls ≠ "java/lang/invoke/VarHandle" ∧ (parseMethodDescriptor yX6_init.desc).map (fun d => d.parameters.length) = some 0 := by decide +kernel
abbrev df7 : List Value := [.null, .null, .int 0, .int 0, .int 0, .int 0]
theorem df7_ok : ∀ j, j < 6 → defaultValue (tyX7 j) = vp_V df7 j := by
  intro j hj
  match j, hj with
  | 0, _ => rfl
  | 1, _ => rfl
  | 2, _ => rfl
  | 3, _ => rfl
  | 4, _ => rfl
  | 5, _ => rfl
  | _ + 6, h => exact absurd h (by omega)
theorem hi_yX7_init : yX7_init.cls ≠ "java/lang/invoke/MethodHandle" ∧ yX7_init.cls ≠ "java/lang/invoke/VarHandle" ∧ (parseMethodDescriptor yX7_init.desc).map (fun d => d.parameters.length) = some 0 := by decide +kernel
abbrev df8 : List Value := [.null, .null, .null, .null, .null, .null, .int 0, .int 0, .null]
theorem df8_ok : ∀ j, j < 9 → defaultValue (tyX8 j) = vp_V df8 j := by
  intro j hj
  match j, hj with
  | 0, _ => rfl
  | 1, _ => rfl
  | 2, _ => rfl
  | 3, _ => rfl
  | 4, _ => rfl
  | 5, _ => rfl
  | 6, _ => rfl
  | 7, _ => rfl
  | 8, _ => rfl
  | _ + 9, h => exact absurd h (by omega)
theorem hi_yX8_init : yX8_init.cls ≠ "java/lang/invoke/MethodHandle" ∧ yX8_init.cls ≠ "java/lang/invoke/VarHandle" ∧ (parseMethodDescriptor yX8_init.desc).map (fun d => d.parameters.length) = some 0 := by decide +kernel
theorem az_int (N : Nat) : ∀ cA : ClassId, vp_cell cA (N, .inl z0) = arrV cA N (fun _ => defaultValue .int) := fun cA => rfl
theorem az_byte (N : Nat) : ∀ cA : ClassId, vp_cell cA (N, .inl z0) = arrV cA N (fun _ => defaultValue .byte) := fun cA => rfl
theorem az_boolean (N : Nat) : ∀ cA : ClassId, vp_cell cA (N, .inl z0) = arrV cA N (fun _ => defaultValue .boolean) := fun cA => rfl

