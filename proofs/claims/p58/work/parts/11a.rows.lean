/-! rows for the builder: super calls, inherited calls, copies of rows of bytes, clones, the script -/
theorem Met_va {l : Launch} {y : MethodName} {ws : List Cond} {rm : Room} {Pc : Array Value → State → Prop} {Qc : Array Value → State → Outcome → State → Prop} {XC : String → State → State → Prop} {mc ms : Nat} {free : Addr → Prop} (h : vx_Met l y ws rm Pc Qc XC mc ms free) (hX : ∀ E st t, ¬ XC E st t) : Met l y ws rm Pc Qc mc ms free := by
  intro p e h1 h2 h3 s m args below h4 h5 h6 h7
  obtain ⟨n, o, k1, k2, k3, k4⟩ := h p e h1 h2 h3 s m args below h4 h5 h6 h7
  refine ⟨n, o, k1, k2, k3, ?_⟩
  rcases k4 with k | ⟨q, -, E, ce, L, hx, -⟩
  · exact k
  · exact absurd hx (hX _ _ _)
theorem Xg_no {G : GG} {A : Nat → Prop} {L : List Nat} {f : Nat → va_E} (E : String) (st t : State) : ¬ Xg G A L f px0 E st t := fun h => h.1.1
/-- a private method that is called on an object of a subclass -/
theorem sel_priv {C : String} {x y : MethodName} {s : State} {args : Array Value} (hy : y.cls ≠ "java/lang/invoke/MethodHandle" ∧ y.cls ≠ "java/lang/invoke/VarHandle") (hxy : x.cls = y.cls) (hsel : (Cond.selects C x x).before args s = true) (hpriv : (Cond.privateMethod y).before args s = true) (hinst : (Cond.instanceMethod y).before args s = true) : (Cond.selects C y y).before args s = true := by
  obtain ⟨c, r, m, h1, h2, h3, h4, mk, h5, h6⟩ := Cond.selects_spec hsel
  obtain ⟨my, methM, hnamed, hmethM, -, -⟩ := Cond.instanceMethod_spec hinst
  have hfound : s.methodFound? y.cls y.name y.desc = some my := State.methodFound?_of_named hnamed hy
  have hsel2 : selectMethod {} s.vm c my = .method my := selectMethod_private hmethM (Cond.privateMethod_at hpriv my methM hnamed hmethM)
  have hcls : my.cls = m.cls := by
    have e1 := findClass_of_methodNamed hnamed
    have e2 := findClass_of_methodNamed h3
    rw [hxy] at e2
    exact Option.some.inj (e1.symm.trans e2)
  simp only [Cond.before, Cond.holds, Cond.value, h1, hfound, hnamed, hsel2, hcls, h5]
  simp; exact h6
theorem copied_T {c1 : ClassId} {cs : Cell} {N n1 sp dp n : Nat} {f g : Nat → Int32} (hr : ∀ j, j < N → cs.slots[j]? = some (.int (f j))) (hs : sp + n ≤ N) : (vp_cell c1 (n1, .inl g)).storeRun dp (cs.stretch sp n) = vp_cell c1 (n1, .inl (va_cpy f g sp dp n)) := by
  have e : cs.stretch sp n = (arrV c1 N (fun j => .int (f j))).stretch sp n := by
    unfold Cell.stretch
    apply List.map_congr_left
    intro i hi
    have hi' := List.mem_range.mp hi
    rw [Array.getD_eq_getD_getElem?, Array.getD_eq_getD_getElem?, arrV_read _ _ (by omega), hr _ (by omega)]
  rw [e]
  exact va_copied (fun z => .int z) c1 c1 f g hs
section VCP
variable {p : Program} {l : Launch} {e : Env} {R : Room} {s : State} {m : MethodId} {args : Array Value} {below : List Frame} {meth : Method} {c : Code} {H : Heap} {locs : List Loc} {cells slots : Nat} {Q : State → Prop}
variable {cc : ByteArray} {pc : Nat} {ls : Array Slot} {rest : List Value} {D : va_G} {cl : List vw_C} {A : Nat → Prop} {a : Nat} {tys : List (ClassId × FieldType)} {ws : va_W}
/-- System.arraycopy out of a table -/
theorem va_copyT (hexec : p.tables.exec = Jvm.exec) (hb : c.code = cc) (hml : c.maxLocals = ls.size) {own : String} {index : Nat} (hown : s.vm.findClass own = some m.cls) (hlink : (Cond.methodLink own index arraycopyName).before args s = true) (hnat : (Cond.native arraycopyName).before args s = true) (hstat : (Cond.static arraycopyName).before args s = true) (hini : (Cond.initialized "java/lang/System").before args s = true)
    (hK : va_K D cl tys s) (hP : va_P D cl ws H) (hD : va_D A ws) (hS : va_S A s.heap H locs) (q1 t1 : Nat) {t N : Nat} {c1 : ClassId} {n1 : Nat} {f g : Nat → Int32} {ty : FieldType} (hT0 : va_T ty t N (fun j => .int (f j)) A s s.heap) (ha1 : ws[q1]? = some (a, .inl (c1, n1, .inl g))) (ht1 : tys[t1]? = some (c1, ty)) (hprim : refKind ty = false)
    {sp dp n : Int32} (h1 : ¬ sp < 0) (h2 : ¬ dp < 0) (h3 : ¬ n < 0) (h4 : sp.toNatClampNeg + n.toNatClampNeg ≤ N) (h5 : dp.toNatClampNeg + n.toNatClampNeg ≤ n1) (hfit : ∀ i, i < n.toNatClampNeg → fits ty (.int (f (sp.toNatClampNeg + i))) = true)
    (hframes : 1 ≤ R.frames) (hlocals : (rest.map fun v => v.category).sum + (nativeFrameWords "java/lang/System" "arraycopy" 5 + 11) ≤ R.locals) (hdg : decode cc pc = .ok (.invokestatic index, 3))
    (kk : ∀ (H1 : Heap) (locs1 : List Loc), va_P D cl (ws.set q1 (a, .inl (c1, n1, .inl (va_cpy f g sp.toNatClampNeg dp.toNatClampNeg n.toNatClampNeg)))) H1 → va_D A (ws.set q1 (a, .inl (c1, n1, .inl (va_cpy f g sp.toNatClampNeg dp.toNatClampNeg n.toNatClampNeg)))) → va_S A s.heap H1 locs1 → W p l e R s m args below meth c H1 locs1 cells slots Q (F0 m (pc + 3) ls rest)) : W p l e R s m args below meth c H locs cells slots Q (F0 m pc ls (.int n :: .int dp :: .ref a :: .int sp :: .ref t :: rest)) := by
  have nn : ∀ z : Int32, ¬ z < 0 → z.toInt = (z.toNatClampNeg : Int) := by
    intro z hz
    have hz0 : (0 : Int) ≤ z.toInt := by
      have := Int32.not_lt.mp hz
      simpa using Int32.le_iff_toInt_le.mp this
    show z.toInt = ((z.toInt.toNat : Nat) : Int)
    omega
  obtain ⟨cs, g1, g2, g3, g4, g5, g6, g7⟩ := hT0
  intro T hT X
  have hcs : H[t]? = some cs := by rw [hS.2.1 t (Array.getElem?_eq_some_iff.mp g1).1 g7]; exact g1
  have hc1 : H[a]? = some (vp_cell c1 (n1, .inl g)) := hP q1 _ ha1
  obtain ⟨k0v, k0, hk0, cm0, hkk0⟩ := g2
  obtain ⟨-, k1, hk1, cm1, hkk1⟩ := (hK.2 t1 _ ht1).1 n1 (fun j => .int (g j))
  obtain ⟨vm', X', step⟩ := X.arraycopy hexec hown hlink hnat hstat hini (src := t) (dst := a) (cs := cs) (cd := vp_cell c1 (n1, .inl g)) (srcPos := sp) (destPos := dp) (n := n) (by rw [hT]; exact hcs) (by rw [hT]; exact hc1)
    k0v (fun _ h => by cases h) g3 (fun h => by cases h) hk0 hk1 hkk0 hkk1 (by simp [hprim]) h1 h2 h3
    (by rw [nn sp h1, nn n h3]; omega)
    (by rw [nn dp h2, nn n h3]; show ¬ _ > ((arrV c1 n1 (fun j => .int (g j))).slots.size : Int); rw [arrV_size]; omega)
    (fun vm₁ _ i hi => by
      have e : cs.slots.getD (sp.toNatClampNeg + i) .null = .int (f (sp.toNatClampNeg + i)) := by
        rw [Array.getD_eq_getD_getElem?, g6 _ (by omega)]
        rfl
      refine ⟨?_, ?_⟩
      · rw [e]
        exact hfit i hi
      · rw [e]
        exact trivial)
    (g := F0 m pc ls (.int n :: .int dp :: .ref a :: .int sp :: .ref t :: rest)) rfl (by rw [hml]) (rest := rest) rfl (by rw [hb]; exact hdg) hframes (by show 2 * 0 + _ + _ ≤ _; omega)
  have e1 : copied cs (vp_cell c1 (n1, .inl g)) sp dp n = vp_cell c1 (n1, .inl (va_cpy f g sp.toNatClampNeg dp.toNatClampNeg n.toNatClampNeg)) := copied_T g6 h4
  rw [e1] at X' step
  have hl : a < H.size := (Array.getElem?_eq_some_iff.mp hc1).1
  have hheap : ((T.setVm vm').setCell a (vp_cell c1 (n1, .inl (va_cpy f g sp.toNatClampNeg dp.toNatClampNeg n.toNatClampNeg)))).heap = H.setIfInBounds a (vp_cell c1 (n1, .inl (va_cpy f g sp.toNatClampNeg dp.toNatClampNeg n.toNatClampNeg))) := by rw [← hT]; rfl
  have oq : ∀ q : Nat, q ≠ a → (H.setIfInBounds a (vp_cell c1 (n1, .inl (va_cpy f g sp.toNatClampNeg dp.toNatClampNeg n.toNatClampNeg))))[q]? = H[q]? := fun q hq => by simp [Array.getElem?_setIfInBounds, Ne.symm hq]
  obtain ⟨t9, a1, b1⟩ := kk _ _ (hP.set hD ha1 (show (H.setIfInBounds a _)[a]? = some _ by simp [Array.getElem?_setIfInBounds, hl]) oq) (hD.set ha1) ⟨by simp; exact hS.1, fun q g1 g2 => by
      rw [oq q (fun e => g2 (by rw [e]; exact hD.2 q1 _ ha1))]
      exact hS.2.1 q g1 g2, fun q hq => by
      rcases List.mem_append.mp hq with h | h
      · exact hS.2.2 q h
      · obtain ⟨z, -, hz⟩ := List.mem_map.mp h
        rw [← hz]
        exact hD.2 q1 _ ha1⟩ _ hheap X'
  exact ⟨t9, step t9 a1, b1⟩
end VCP
section JROWS
variable {G : GG} {p : Program} {l : Launch} {e : Env} {R : Room} {s : State} {m : MethodId} {args : Array Value} {below : List Frame} {meth : Method} {c : Code} {A : Nat → Prop} {Q : State → Prop} {own : String} {cc : ByteArray} {nL cells slots pc : Nat} {ret : Option FieldType} {tb : List ExceptionTableEntry} {lv : List (Option Value)} {st : List Value} {L : List Nat} {f : Nat → va_E}
theorem run_va {mc ms : Nat} {g : JFrame} {rest : List Value} {Qa : State → Outcome → State → Prop} {XC : String → State → State → Prop} {free : Addr → Prop} {H : Heap} {locs : List Loc} (h : va_Run p l e R s m args below meth c H locs cells slots mc ms g rest Qa free) : vx_Run p l e R s m args below meth c H locs cells slots mc ms g rest Qa XC free := fun T hT X => Or.inl (h T hT X)
/-- super.m(..) -/
theorem j_callSU (X : Cx G p l s m args meth c A own cc nL ret tb) {y : MethodName} {bytes : ByteArray} {maxL index fr lo mc ms b ci N : Nat} {rt : Option FieldType} {T : u_T} {C : String} {fs As rest : List Value} {post : Option Value → List Nat → (Nat → va_E) → Prop}
    (hC : Ct l G y (.code y bytes maxL rt) fr lo mc ms (.ref b :: As) L f px0 post) (h1 : Cond.methodLink own index y ∈ BIG) (h2 : Cond.sameMethod y.cls y.cls y.name y.desc ∈ BIG) (h3 : Cond.superclass own y.cls ∈ BIG) (h4 : Cond.instanceMethod y ∈ BIG) (h6 : Cond.initialized y.cls ∈ BIG) (h5 : Cond.code y bytes maxL rt ∈ BIG)
    (hy : y.name ≠ "<init>" ∧ (parseMethodDescriptor y.desc).map (fun d => d.parameters.length) = some As.length) (hb : b ∈ L) (hf : f b = .inr (ci, fs)) (hci : vwCl[ci]? = some (C, T, N))
    (hdg : decode cc pc = .ok (.invokespecial index, 3)) (hR : fr + 1 ≤ R.frames ∧ 8 + (maxL + 11) + lo ≤ R.locals) (hc : cells + mc ≤ R.cells ∧ slots + ms ≤ R.slots) (hW : (rest.map fun v => v.category).sum ≤ 8) (kk : ∀ (r : Option Value) (L1 : List Nat) (f1 : Nat → va_E), post r L1 f1 → J G p l e R s m args below meth c A Q nL (cells + mc) (slots + ms) (pc + 3) lv (r.toList ++ rest) L1 f1) : J G p l e R s m args below meth c A Q nL cells slots pc lv (As.reverse ++ .ref b :: rest) L f := by
  refine j_run X (px := px0) (post := post) (a := (Value.ref b :: As).toArray) (fun H locs ls hP hD hS hl => ?_) (fun _ h => h.elim) kk
  obtain ⟨q0, hq⟩ := va_pl_get (X := []) (f := f) hb
  rw [hf] at hq
  exact run_va (va_runSU (C := C) (n := As.length) (X.2.2.2.2.2.2.2.1.1 ci _ hci).2 ⟨X.1, X.2.1, X.2.2.1, X.2.2.2.1, X.w⟩ (Met_va (hC H.size) Xg_no) (va_cwSU As.length X.w (big_in (fun w hw => by
    rcases List.mem_append.mp hw with h | h
    · simp only [List.mem_cons, List.not_mem_nil, or_false] at h
      rcases h with rfl | rfl | rfl | rfl | rfl
      · exact h1
      · exact h2
      · exact h3
      · exact h4
      · exact h6
    · rcases List.mem_cons.mp h with rfl | h
      · exact h5
      · exact h)) rfl rfl rfl hy hR) ⟨Pg_blind, va_recv X.2.2.2.2.2.2.2.1 hP hci hq, X.pre hP hD hS⟩ rfl rfl hl.1 rfl (lv_room hW) hdg hc)
/-- a method that the object's class inherits -/
theorem j_callU (X : Cx G p l s m args meth c A own cc nL ret tb) {y : MethodName} {bytes : ByteArray} {maxL index fr lo mc ms b ci N : Nat} {rt : Option FieldType} {T : u_T} {C : String} {fs As rest : List Value} {post : Option Value → List Nat → (Nat → va_E) → Prop}
    (hC : Ct l G y (.code y bytes maxL rt) fr lo mc ms (.ref b :: As) L f px0 post) (h1 : Cond.methodLink own index y ∈ BIG) (h2 : Cond.sameMethod y.cls y.cls y.name y.desc ∈ BIG) (h3 : Cond.selects C y y ∈ BIG) (h4 : Cond.instanceMethod y ∈ BIG) (h6 : Cond.initialized y.cls ∈ BIG) (h5 : Cond.code y bytes maxL rt ∈ BIG)
    (hy : y.cls ≠ "java/lang/invoke/MethodHandle" ∧ y.cls ≠ "java/lang/invoke/VarHandle" ∧ (parseMethodDescriptor y.desc).map (fun d => d.parameters.length) = some As.length) (hb : b ∈ L) (hf : f b = .inr (ci, fs)) (hci : vwCl[ci]? = some (C, T, N))
    (hdg : decode cc pc = .ok (.invokevirtual index, 3)) (hR : fr + 1 ≤ R.frames ∧ 8 + (maxL + 11) + lo ≤ R.locals) (hc : cells + mc ≤ R.cells ∧ slots + ms ≤ R.slots) (hW : (rest.map fun v => v.category).sum ≤ 8) (kk : ∀ (r : Option Value) (L1 : List Nat) (f1 : Nat → va_E), post r L1 f1 → J G p l e R s m args below meth c A Q nL (cells + mc) (slots + ms) (pc + 3) lv (r.toList ++ rest) L1 f1) : J G p l e R s m args below meth c A Q nL cells slots pc lv (As.reverse ++ .ref b :: rest) L f := by
  refine j_run X (px := px0) (post := post) (a := (Value.ref b :: As).toArray) (fun H locs ls hP hD hS hl => ?_) (fun _ h => h.elim) kk
  obtain ⟨q0, hq⟩ := va_pl_get (X := []) (f := f) hb
  rw [hf] at hq
  exact run_va (va_runU (C := C) (owner := y.cls) (x := y) (n := As.length) ⟨X.1, X.2.1, X.2.2.1, X.2.2.2.1, X.w⟩ (Met_va (hC H.size) Xg_no) (va_cwU As.length X.w (big_in (fun w hw => by
    rcases List.mem_append.mp hw with h | h
    · simp only [List.mem_cons, List.not_mem_nil, or_false] at h
      rcases h with rfl | rfl | rfl | rfl | rfl
      · exact h1
      · exact h2
      · exact h3
      · exact h4
      · exact h6
    · rcases List.mem_cons.mp h with rfl | h
      · exact h5
      · exact h)) rfl rfl rfl rfl hy hR) ⟨Pg_blind, va_recv X.2.2.2.2.2.2.2.1 hP hci hq, X.pre hP hD hS⟩ rfl rfl hl.1 rfl (lv_room hW) hdg hc)
/-- .. one that it overrides: x is named, y runs -/
theorem j_callO (X : Cx G p l s m args meth c A own cc nL ret tb) {x y : MethodName} {bytes b0 : ByteArray} {maxL m0 index fr lo mc ms b ci N : Nat} {rt r0 : Option FieldType} {T : u_T} {C : String} {fs As rest : List Value} {post : Option Value → List Nat → (Nat → va_E) → Prop}
    (hC : Ct l G y (.code y bytes maxL rt) fr lo mc ms (.ref b :: As) L f px0 post) (h1 : Cond.methodLink own index x ∈ BIG) (h2 : Cond.sameMethod x.cls x.cls x.name x.desc ∈ BIG) (h3 : Cond.selects C x y ∈ BIG) (h7 : Cond.instanceMethod x ∈ BIG) (h8 : Cond.code x b0 m0 r0 ∈ BIG) (h4 : Cond.instanceMethod y ∈ BIG) (h6 : Cond.initialized y.cls ∈ BIG) (h5 : Cond.code y bytes maxL rt ∈ BIG)
    (hy : x.cls ≠ "java/lang/invoke/MethodHandle" ∧ x.cls ≠ "java/lang/invoke/VarHandle" ∧ (parseMethodDescriptor x.desc).map (fun d => d.parameters.length) = some As.length) (hb : b ∈ L) (hf : f b = .inr (ci, fs)) (hci : vwCl[ci]? = some (C, T, N))
    (hdg : decode cc pc = .ok (.invokevirtual index, 3)) (hR : fr + 1 ≤ R.frames ∧ 8 + (maxL + 11) + lo ≤ R.locals) (hc : cells + mc ≤ R.cells ∧ slots + ms ≤ R.slots) (hW : (rest.map fun v => v.category).sum ≤ 8) (kk : ∀ (r : Option Value) (L1 : List Nat) (f1 : Nat → va_E), post r L1 f1 → J G p l e R s m args below meth c A Q nL (cells + mc) (slots + ms) (pc + 3) lv (r.toList ++ rest) L1 f1) : J G p l e R s m args below meth c A Q nL cells slots pc lv (As.reverse ++ .ref b :: rest) L f := by
  refine j_run X (px := px0) (post := post) (a := (Value.ref b :: As).toArray) (fun H locs ls hP hD hS hl => ?_) (fun _ h => h.elim) kk
  obtain ⟨q0, hq⟩ := va_pl_get (X := []) (f := f) hb
  rw [hf] at hq
  exact run_va (va_runU (C := C) (owner := x.cls) (x := x) (n := As.length) ⟨X.1, X.2.1, X.2.2.1, X.2.2.2.1, X.w⟩ (Met_va (hC H.size) Xg_no) (va_cwO As.length X.w (big_in (fun w hw => by
    rcases List.mem_append.mp hw with h | h
    · simp only [List.mem_cons, List.not_mem_nil, or_false] at h
      rcases h with rfl | rfl | rfl | rfl | rfl | rfl
      · exact h1
      · exact h2
      · exact h7
      · exact h3
      · exact h4
      · exact h6
    · rcases List.mem_cons.mp h with rfl | h
      · exact h5
      · exact h)) rfl rfl rfl h8 hy hR) ⟨Pg_blind, va_recv X.2.2.2.2.2.2.2.1 hP hci hq, X.pre hP hD hS⟩ rfl rfl hl.1 rfl (lv_room hW) hdg hc)
/-- System.arraycopy of rows of bytes -/
theorem j_copyb (X : Cx G p l s m args meth c A own cc nL ret tb) {a b n0 n1 index : Nat} {g0 g1 : Nat → Int32} {sp dp n : Int32} (hlink : Cond.methodLink own index arraycopyName ∈ BIG) (hdg : decode cc pc = .ok (.invokestatic index, 3)) (ha : a ∈ L) (hfa : f a = .inl (G.2.1 1, n0, .inl g0)) (hb : b ∈ L) (hfb : f b = .inl (G.2.1 1, n1, .inl g1)) (hB : ∀ j, fits .byte (.int (g0 j)) = true) (h1 : ¬ sp < 0) (h2 : ¬ dp < 0) (h3 : ¬ n < 0) (h4 : sp.toNatClampNeg + n.toNatClampNeg ≤ n0) (h5 : dp.toNatClampNeg + n.toNatClampNeg ≤ n1) (hR : 1 ≤ R.frames ∧ (st.map fun v => v.category).sum + (nativeFrameWords "java/lang/System" "arraycopy" 5 + 11) ≤ R.locals) (kk : J G p l e R s m args below meth c A Q nL cells slots (pc + 3) lv st L (va_up f b (.inl (G.2.1 1, n1, .inl (va_cpy g0 g1 sp.toNatClampNeg dp.toNatClampNeg n.toNatClampNeg))))) : J G p l e R s m args below meth c A Q nL cells slots pc lv (.int n :: .int dp :: .ref b :: .int sp :: .ref a :: st) L f := by
  intro H locs ls hP hD hS hl
  obtain ⟨q0, hq⟩ := va_pl_get (X := []) (f := f) ha
  obtain ⟨q1, hq1⟩ := va_pl_get (X := []) (f := f) hb
  have hq9 := hq1
  rw [hfa] at hq
  rw [hfb] at hq1
  refine va_copyi (D := G.1) X.1 X.2.1 (X.2.2.1.trans hl.1.symm) X.2.2.2.1 (X.w _ hlink) (X.w _ nv_arraycopyName) (X.w _ st_arraycopyName) (X.w _ in_J10) X.2.2.2.2.2.2.2.1 hP hD hS q0 q1 1 1 hq hq1 rfl rfl rfl h1 h2 h3 h4 h5 (fun _ _ => hB _) hR.1 hR.2 hdg (fun H1 locs1 hP1 hD1 hS1 => ?_)
  have e9 := va_pl_set (X := []) (e := .inl (G.2.1 1, n1, .inl (va_cpy g0 g1 sp.toNatClampNeg dp.toNatClampNeg n.toNatClampNeg))) hD hb hq9
  rw [List.nil_append] at e9
  exact kk H1 locs1 ls (by rw [← List.nil_append (va_pl L (va_up f b _)), ← e9]; exact hP1) (by rw [← List.nil_append (va_pl L (va_up f b _)), ← e9]; exact hD1) hS1 hl
/-- .. out of a table -/
theorem j_copyT (X : Cx G p l s m args meth c A own cc nL ret tb) {t N b n1 index : Nat} {g0 g1 : Nat → Int32} {sp dp n : Int32} (hlink : Cond.methodLink own index arraycopyName ∈ BIG) (hdg : decode cc pc = .ok (.invokestatic index, 3)) (hT0 : va_T .byte t N (fun j => .int (g0 j)) A s s.heap) (hb : b ∈ L) (hfb : f b = .inl (G.2.1 1, n1, .inl g1)) (hB : ∀ j, j < N → fits .byte (.int (g0 j)) = true) (h1 : ¬ sp < 0) (h2 : ¬ dp < 0) (h3 : ¬ n < 0) (h4 : sp.toNatClampNeg + n.toNatClampNeg ≤ N) (h5 : dp.toNatClampNeg + n.toNatClampNeg ≤ n1) (hR : 1 ≤ R.frames ∧ (st.map fun v => v.category).sum + (nativeFrameWords "java/lang/System" "arraycopy" 5 + 11) ≤ R.locals) (kk : J G p l e R s m args below meth c A Q nL cells slots (pc + 3) lv st L (va_up f b (.inl (G.2.1 1, n1, .inl (va_cpy g0 g1 sp.toNatClampNeg dp.toNatClampNeg n.toNatClampNeg))))) : J G p l e R s m args below meth c A Q nL cells slots pc lv (.int n :: .int dp :: .ref b :: .int sp :: .ref t :: st) L f := by
  intro H locs ls hP hD hS hl
  obtain ⟨q1, hq1⟩ := va_pl_get (X := []) (f := f) hb
  have hq9 := hq1
  rw [hfb] at hq1
  refine va_copyT (D := G.1) X.1 X.2.1 (X.2.2.1.trans hl.1.symm) X.2.2.2.1 (X.w _ hlink) (X.w _ nv_arraycopyName) (X.w _ st_arraycopyName) (X.w _ in_J10) X.2.2.2.2.2.2.2.1 hP hD hS q1 1 hT0 hq1 rfl rfl h1 h2 h3 h4 h5 (fun i hi => hB _ (by omega)) hR.1 hR.2 hdg (fun H1 locs1 hP1 hD1 hS1 => ?_)
  have e9 := va_pl_set (X := []) (e := .inl (G.2.1 1, n1, .inl (va_cpy g0 g1 sp.toNatClampNeg dp.toNatClampNeg n.toNatClampNeg))) hD hb hq9
  rw [List.nil_append] at e9
  exact kk H1 locs1 ls (by rw [← List.nil_append (va_pl L (va_up f b _)), ← e9]; exact hP1) (by rw [← List.nil_append (va_pl L (va_up f b _)), ← e9]; exact hD1) hS1 hl
/-- the clone of a row of bytes -/
theorem j_clone (X : Cx G p l s m args meth c A own cc nL ret tb) {a n0 index : Nat} {g0 : Nat → Int32} (hlink : Cond.methodLink own index ⟨"[B", "clone", "()Ljava/lang/Object;"⟩ ∈ BIG) (hdg : decode cc pc = .ok (.invokevirtual index, 3)) (ha : a ∈ L) (hfa : f a = .inl (G.2.1 1, n0, .inl g0)) (hB : ∀ j, fits .byte (.int (g0 j)) = true) (hR : 1 ≤ R.frames ∧ (st.map fun v => v.category).sum + 14 ≤ R.locals) (hc : cells + 1 ≤ R.cells ∧ slots + n0 ≤ R.slots) (kk : ∀ q : Nat, q ∉ L → J G p l e R s m args below meth c A Q nL (cells + 1) (slots + n0) (pc + 3) lv (.ref q :: st) (L ++ [q]) (va_up f q (.inl (G.2.1 1, n0, .inl g0)))) : J G p l e R s m args below meth c A Q nL cells slots pc lv (.ref a :: st) L f := by
  intro H locs ls hP hD hS hl
  obtain ⟨q0, hq⟩ := va_pl_get (X := []) (f := f) ha
  rw [hfa] at hq
  have hKK := X.2.2.2.2.2.2.2.1
  have hE := X.2.2.2.2.2.2.2.2.2.1
  refine va_clone (D := G.1) (ad := "[B") X.1 X.2.1 (X.2.2.1.trans hl.1.symm) X.2.2.2.1 (X.w _ hlink) (X.w _ sm_clone) (X.w _ clone_native) (X.w _ clone_instanceMethod) (X.w _ clone_selects) (hE.2.2.2.2.2.1 ("[B", "java/lang/Cloneable") (by decide +kernel)) hKK hP hD hS X.2.2.2.2.2.2.2.2.1 q0 1 hq rfl ((hKK.2 1 _ rfl).2) (fun i v hv => ?_) hR.1 hR.2 hc.1 hc.2 hdg (fun q H1 hK1 hP1 hD1 hS1 => ?_)
  · by_cases hi : i < n0
    · have h2 : (arrV (G.2.1 1) n0 (fun j => .int (g0 j))).slots[i]? = some v := hv
      rw [arrV_read _ _ hi] at h2
      cases h2
      exact hB i
    · have h2 : (arrV (G.2.1 1) n0 (fun j => .int (g0 j))).slots[i]? = some v := hv
      rw [Array.getElem?_eq_none (by rw [arrV_size]; omega)] at h2
      cases h2
  · have hq := fresh_of hD1
    rw [va_pl_push hq] at hP1 hD1
    exact kk q hq H1 locs ls hP1 hD1 hS1 hl
theorem j_castB (X : Cx G p l s m args meth c A own cc nL ret tb) {a n0 index : Nat} {g0 : Nat → Int32} (hlink : Cond.classLink own index "[B" ∈ BIG) (hdg : decode cc pc = .ok (.checkcast index, 3)) (ha : a ∈ L) (hfa : f a = .inl (G.2.1 1, n0, .inl g0)) (kk : J G p l e R s m args below meth c A Q nL cells slots (pc + 3) lv (.ref a :: st) L f) : J G p l e R s m args below meth c A Q nL cells slots pc lv (.ref a :: st) L f := by
  intro H locs ls hP hD hS hl
  obtain ⟨q0, hq⟩ := va_pl_get (X := []) (f := f) ha
  rw [hfa] at hq
  exact va_castA X.1 X.2.1 X.2.2.2.1 (X.w _ hlink) hP q0 hq ((X.2.2.2.2.2.2.2.1.2 1 _ rfl).2) hdg (kk H locs ls hP hD hS hl)
theorem j_tleni (X : Cx G p l s m args meth c A own cc nL ret tb) {t N : Nat} {g : Nat → Value} {ty : FieldType} (hT : va_T ty t N g A s s.heap) (hdg : decode cc pc = .ok (.arraylength, 1)) (kk : J G p l e R s m args below meth c A Q nL cells slots (pc + 1) lv (.int (nI N) :: st) L f) : J G p l e R s m args below meth c A Q nL cells slots pc lv (.ref t :: st) L f :=
  fun H locs ls hP hD hS hl => va_tlen X.1 X.2.1 hT hS rfl hdg (kk H locs ls hP hD hS hl)
theorem j_ti (X : Cx G p l s m args meth c A own cc nL ret tb) {t N : Nat} {g : Nat → Value} {i : Int32} {v : Value} (hT : va_T .int t N g A s s.heap) (hin : vp_in i N) (hv : g i.toNatClampNeg = v) (hdg : decode cc pc = .ok (.iaload, 1)) (kk : J G p l e R s m args below meth c A Q nL cells slots (pc + 1) lv (v :: st) L f) : J G p l e R s m args below meth c A Q nL cells slots pc lv (.int i :: .ref t :: st) L f :=
  fun H locs ls hP hD hS hl => va_ti X.1 X.2.1 hT hS hin hv hdg (kk H locs ls hP hD hS hl)
theorem j_ifnn (X : Cx G p l s m args meth c A own cc nL ret tb) {x : Nat} {off : Int} {tgt : Nat} (hdg : decode cc pc = .ok (.ifnonnull off, 3)) (ht : (pc : Int) + off = (tgt : Int)) (k : J G p l e R s m args below meth c A Q nL cells slots tgt lv st L f) : J G p l e R s m args below meth c A Q nL cells slots pc lv (.ref x :: st) L f :=
  fun H locs ls hP hD hS hl => lv_ifnonnull X.1 X.2.1 hdg ht (k H locs ls hP hD hS hl)
theorem j_callU0 (X : Cx G p l s m args meth c A own cc nL ret tb) (ci : Nat) {y : MethodName} {bytes : ByteArray} {maxL index fr lo mc ms b N : Nat} {rt : Option FieldType} {T : u_T} {C : String} {fs rest : List Value} {post : Option Value → List Nat → (Nat → va_E) → Prop} (hC : Ct l G y (.code y bytes maxL rt) fr lo mc ms [.ref b] L f px0 post) (h1 : Cond.methodLink own index y ∈ BIG) (h2 : Cond.sameMethod y.cls y.cls y.name y.desc ∈ BIG) (h3 : Cond.selects C y y ∈ BIG) (h4 : Cond.instanceMethod y ∈ BIG) (h6 : Cond.initialized y.cls ∈ BIG) (h5 : Cond.code y bytes maxL rt ∈ BIG)
    (hy : y.cls ≠ "java/lang/invoke/MethodHandle" ∧ y.cls ≠ "java/lang/invoke/VarHandle" ∧ (parseMethodDescriptor y.desc).map (fun d => d.parameters.length) = some 0) (hb : b ∈ L) (hf : f b = .inr (ci, fs)) (hci : vwCl[ci]? = some (C, T, N)) (hdg : decode cc pc = .ok (.invokevirtual index, 3)) (hR : fr + 1 ≤ R.frames ∧ 8 + (maxL + 11) + lo ≤ R.locals) (hc : cells + mc ≤ R.cells ∧ slots + ms ≤ R.slots) (hW : (rest.map fun v => v.category).sum ≤ 8) (kk : ∀ (r : Option Value) (L1 : List Nat) (f1 : Nat → va_E), post r L1 f1 → J G p l e R s m args below meth c A Q nL (cells + mc) (slots + ms) (pc + 3) lv (r.toList ++ rest) L1 f1) : J G p l e R s m args below meth c A Q nL cells slots pc lv (.ref b :: rest) L f :=
  j_callU (As := []) X hC h1 h2 h3 h4 h6 h5 hy hb hf hci hdg hR hc hW kk
theorem j_callU1 (X : Cx G p l s m args meth c A own cc nL ret tb) (ci : Nat) {y : MethodName} {bytes : ByteArray} {maxL index fr lo mc ms b N : Nat} {rt : Option FieldType} {T : u_T} {C : String} {fs rest : List Value} {a1 : Value} {post : Option Value → List Nat → (Nat → va_E) → Prop} (hC : Ct l G y (.code y bytes maxL rt) fr lo mc ms [.ref b, a1] L f px0 post) (h1 : Cond.methodLink own index y ∈ BIG) (h2 : Cond.sameMethod y.cls y.cls y.name y.desc ∈ BIG) (h3 : Cond.selects C y y ∈ BIG) (h4 : Cond.instanceMethod y ∈ BIG) (h6 : Cond.initialized y.cls ∈ BIG) (h5 : Cond.code y bytes maxL rt ∈ BIG)
    (hy : y.cls ≠ "java/lang/invoke/MethodHandle" ∧ y.cls ≠ "java/lang/invoke/VarHandle" ∧ (parseMethodDescriptor y.desc).map (fun d => d.parameters.length) = some 1) (hb : b ∈ L) (hf : f b = .inr (ci, fs)) (hci : vwCl[ci]? = some (C, T, N)) (hdg : decode cc pc = .ok (.invokevirtual index, 3)) (hR : fr + 1 ≤ R.frames ∧ 8 + (maxL + 11) + lo ≤ R.locals) (hc : cells + mc ≤ R.cells ∧ slots + ms ≤ R.slots) (hW : (rest.map fun v => v.category).sum ≤ 8) (kk : ∀ (r : Option Value) (L1 : List Nat) (f1 : Nat → va_E), post r L1 f1 → J G p l e R s m args below meth c A Q nL (cells + mc) (slots + ms) (pc + 3) lv (r.toList ++ rest) L1 f1) : J G p l e R s m args below meth c A Q nL cells slots pc lv (a1 :: .ref b :: rest) L f :=
  j_callU (As := [a1]) X hC h1 h2 h3 h4 h6 h5 hy hb hf hci hdg hR hc hW kk
theorem j_callU2 (X : Cx G p l s m args meth c A own cc nL ret tb) (ci : Nat) {y : MethodName} {bytes : ByteArray} {maxL index fr lo mc ms b N : Nat} {rt : Option FieldType} {T : u_T} {C : String} {fs rest : List Value} {a1 a2 : Value} {post : Option Value → List Nat → (Nat → va_E) → Prop} (hC : Ct l G y (.code y bytes maxL rt) fr lo mc ms [.ref b, a1, a2] L f px0 post) (h1 : Cond.methodLink own index y ∈ BIG) (h2 : Cond.sameMethod y.cls y.cls y.name y.desc ∈ BIG) (h3 : Cond.selects C y y ∈ BIG) (h4 : Cond.instanceMethod y ∈ BIG) (h6 : Cond.initialized y.cls ∈ BIG) (h5 : Cond.code y bytes maxL rt ∈ BIG)
    (hy : y.cls ≠ "java/lang/invoke/MethodHandle" ∧ y.cls ≠ "java/lang/invoke/VarHandle" ∧ (parseMethodDescriptor y.desc).map (fun d => d.parameters.length) = some 2) (hb : b ∈ L) (hf : f b = .inr (ci, fs)) (hci : vwCl[ci]? = some (C, T, N)) (hdg : decode cc pc = .ok (.invokevirtual index, 3)) (hR : fr + 1 ≤ R.frames ∧ 8 + (maxL + 11) + lo ≤ R.locals) (hc : cells + mc ≤ R.cells ∧ slots + ms ≤ R.slots) (hW : (rest.map fun v => v.category).sum ≤ 8) (kk : ∀ (r : Option Value) (L1 : List Nat) (f1 : Nat → va_E), post r L1 f1 → J G p l e R s m args below meth c A Q nL (cells + mc) (slots + ms) (pc + 3) lv (r.toList ++ rest) L1 f1) : J G p l e R s m args below meth c A Q nL cells slots pc lv (a2 :: a1 :: .ref b :: rest) L f :=
  j_callU (As := [a1, a2]) X hC h1 h2 h3 h4 h6 h5 hy hb hf hci hdg hR hc hW kk
theorem j_callSU0 (X : Cx G p l s m args meth c A own cc nL ret tb) (ci : Nat) {y : MethodName} {bytes : ByteArray} {maxL index fr lo mc ms b N : Nat} {rt : Option FieldType} {T : u_T} {C : String} {fs rest : List Value} {post : Option Value → List Nat → (Nat → va_E) → Prop} (hC : Ct l G y (.code y bytes maxL rt) fr lo mc ms [.ref b] L f px0 post) (h1 : Cond.methodLink own index y ∈ BIG) (h2 : Cond.sameMethod y.cls y.cls y.name y.desc ∈ BIG) (h3 : Cond.superclass own y.cls ∈ BIG) (h4 : Cond.instanceMethod y ∈ BIG) (h6 : Cond.initialized y.cls ∈ BIG) (h5 : Cond.code y bytes maxL rt ∈ BIG)
    (hy : y.name ≠ "<init>" ∧ (parseMethodDescriptor y.desc).map (fun d => d.parameters.length) = some 0) (hb : b ∈ L) (hf : f b = .inr (ci, fs)) (hci : vwCl[ci]? = some (C, T, N)) (hdg : decode cc pc = .ok (.invokespecial index, 3)) (hR : fr + 1 ≤ R.frames ∧ 8 + (maxL + 11) + lo ≤ R.locals) (hc : cells + mc ≤ R.cells ∧ slots + ms ≤ R.slots) (hW : (rest.map fun v => v.category).sum ≤ 8) (kk : ∀ (r : Option Value) (L1 : List Nat) (f1 : Nat → va_E), post r L1 f1 → J G p l e R s m args below meth c A Q nL (cells + mc) (slots + ms) (pc + 3) lv (r.toList ++ rest) L1 f1) : J G p l e R s m args below meth c A Q nL cells slots pc lv (.ref b :: rest) L f :=
  j_callSU (As := []) X hC h1 h2 h3 h4 h6 h5 hy hb hf hci hdg hR hc hW kk
theorem j_callSU1 (X : Cx G p l s m args meth c A own cc nL ret tb) (ci : Nat) {y : MethodName} {bytes : ByteArray} {maxL index fr lo mc ms b N : Nat} {rt : Option FieldType} {T : u_T} {C : String} {fs rest : List Value} {a1 : Value} {post : Option Value → List Nat → (Nat → va_E) → Prop} (hC : Ct l G y (.code y bytes maxL rt) fr lo mc ms [.ref b, a1] L f px0 post) (h1 : Cond.methodLink own index y ∈ BIG) (h2 : Cond.sameMethod y.cls y.cls y.name y.desc ∈ BIG) (h3 : Cond.superclass own y.cls ∈ BIG) (h4 : Cond.instanceMethod y ∈ BIG) (h6 : Cond.initialized y.cls ∈ BIG) (h5 : Cond.code y bytes maxL rt ∈ BIG)
    (hy : y.name ≠ "<init>" ∧ (parseMethodDescriptor y.desc).map (fun d => d.parameters.length) = some 1) (hb : b ∈ L) (hf : f b = .inr (ci, fs)) (hci : vwCl[ci]? = some (C, T, N)) (hdg : decode cc pc = .ok (.invokespecial index, 3)) (hR : fr + 1 ≤ R.frames ∧ 8 + (maxL + 11) + lo ≤ R.locals) (hc : cells + mc ≤ R.cells ∧ slots + ms ≤ R.slots) (hW : (rest.map fun v => v.category).sum ≤ 8) (kk : ∀ (r : Option Value) (L1 : List Nat) (f1 : Nat → va_E), post r L1 f1 → J G p l e R s m args below meth c A Q nL (cells + mc) (slots + ms) (pc + 3) lv (r.toList ++ rest) L1 f1) : J G p l e R s m args below meth c A Q nL cells slots pc lv (a1 :: .ref b :: rest) L f :=
  j_callSU (As := [a1]) X hC h1 h2 h3 h4 h6 h5 hy hb hf hci hdg hR hc hW kk
theorem j_callO0 (X : Cx G p l s m args meth c A own cc nL ret tb) (ci : Nat) {x y : MethodName} {b0 : ByteArray} {m0 : Nat} {r0 : Option FieldType} {bytes : ByteArray} {maxL index fr lo mc ms b N : Nat} {rt : Option FieldType} {T : u_T} {C : String} {fs rest : List Value} {post : Option Value → List Nat → (Nat → va_E) → Prop} (hC : Ct l G y (.code y bytes maxL rt) fr lo mc ms [.ref b] L f px0 post) (h1 : Cond.methodLink own index x ∈ BIG) (h2 : Cond.sameMethod x.cls x.cls x.name x.desc ∈ BIG) (h3 : Cond.selects C x y ∈ BIG) (h7 : Cond.instanceMethod x ∈ BIG) (h8 : Cond.code x b0 m0 r0 ∈ BIG) (h4 : Cond.instanceMethod y ∈ BIG) (h6 : Cond.initialized y.cls ∈ BIG) (h5 : Cond.code y bytes maxL rt ∈ BIG)
    (hy : x.cls ≠ "java/lang/invoke/MethodHandle" ∧ x.cls ≠ "java/lang/invoke/VarHandle" ∧ (parseMethodDescriptor x.desc).map (fun d => d.parameters.length) = some 0) (hb : b ∈ L) (hf : f b = .inr (ci, fs)) (hci : vwCl[ci]? = some (C, T, N)) (hdg : decode cc pc = .ok (.invokevirtual index, 3)) (hR : fr + 1 ≤ R.frames ∧ 8 + (maxL + 11) + lo ≤ R.locals) (hc : cells + mc ≤ R.cells ∧ slots + ms ≤ R.slots) (hW : (rest.map fun v => v.category).sum ≤ 8) (kk : ∀ (r : Option Value) (L1 : List Nat) (f1 : Nat → va_E), post r L1 f1 → J G p l e R s m args below meth c A Q nL (cells + mc) (slots + ms) (pc + 3) lv (r.toList ++ rest) L1 f1) : J G p l e R s m args below meth c A Q nL cells slots pc lv (.ref b :: rest) L f :=
  j_callO (As := []) X hC h1 h2 h3 h7 h8 h4 h6 h5 hy hb hf hci hdg hR hc hW kk
theorem j_callIA (X : Cx G p l s m args meth c A own cc nL ret tb) {y : MethodName} {bytes : ByteArray} {maxL index fr lo mc ms b : Nat} {As rest : List Value} {post : Option Value → List Nat → (Nat → va_E) → Prop}
    (hC : Ct l G y (.code y bytes maxL none) fr lo mc ms (.ref b :: As) L f px0 post) (h1 : Cond.methodLink own index y ∈ BIG) (h2 : Cond.instanceMethod y ∈ BIG) (h4 : Cond.initialized y.cls ∈ BIG) (h5 : Cond.code y bytes maxL none ∈ BIG) (hy1 : y.name = "<init>")
    (hy : y.cls ≠ "java/lang/invoke/MethodHandle" ∧ y.cls ≠ "java/lang/invoke/VarHandle" ∧ (parseMethodDescriptor y.desc).map (fun d => d.parameters.length) = some As.length)
    (hdg : decode cc pc = .ok (.invokespecial index, 3)) (hR : fr + 1 ≤ R.frames ∧ 8 + (maxL + 11) + lo ≤ R.locals) (hc : cells + mc ≤ R.cells ∧ slots + ms ≤ R.slots) (hW : (rest.map fun v => v.category).sum ≤ 8) (kk : ∀ (r : Option Value) (L1 : List Nat) (f1 : Nat → va_E), post r L1 f1 → J G p l e R s m args below meth c A Q nL (cells + mc) (slots + ms) (pc + 3) lv (r.toList ++ rest) L1 f1) : J G p l e R s m args below meth c A Q nL cells slots pc lv (As.reverse ++ .ref b :: rest) L f := by
  refine j_run X (px := px0) (post := post) (a := (Value.ref b :: As).toArray) (fun H locs ls hP hD hS hl => ?_) (fun _ h => h.elim) kk
  exact vx_runI (n := As.length) (As := As) ⟨X.1, X.2.1, X.2.2.1, X.2.2.2.1, X.w⟩ (hC H.size) (cwI As.length X.w (big_in (fun w hw => by
    rcases List.mem_cons.mp hw with rfl | h
    · exact h5
    · exact h)) rfl rfl rfl (X.w _ h4) (X.w _ h1) (X.w _ h2) hy1 hy hR) ⟨Pg_blind, X.pre hP hD hS⟩ rfl rfl hl.1 rfl (lv_room hW) hdg hc
theorem j_callI1 (X : Cx G p l s m args meth c A own cc nL ret tb) {y : MethodName} {bytes : ByteArray} {maxL index fr lo mc ms b : Nat} {rest : List Value} {a1 : Value} {post : Option Value → List Nat → (Nat → va_E) → Prop} (hC : Ct l G y (.code y bytes maxL none) fr lo mc ms [.ref b, a1] L f px0 post) (h1 : Cond.methodLink own index y ∈ BIG) (h2 : Cond.instanceMethod y ∈ BIG) (h4 : Cond.initialized y.cls ∈ BIG) (h5 : Cond.code y bytes maxL none ∈ BIG) (hy1 : y.name = "<init>")
    (hy : y.cls ≠ "java/lang/invoke/MethodHandle" ∧ y.cls ≠ "java/lang/invoke/VarHandle" ∧ (parseMethodDescriptor y.desc).map (fun d => d.parameters.length) = some 1) (hdg : decode cc pc = .ok (.invokespecial index, 3)) (hR : fr + 1 ≤ R.frames ∧ 8 + (maxL + 11) + lo ≤ R.locals) (hc : cells + mc ≤ R.cells ∧ slots + ms ≤ R.slots) (hW : (rest.map fun v => v.category).sum ≤ 8) (kk : ∀ (r : Option Value) (L1 : List Nat) (f1 : Nat → va_E), post r L1 f1 → J G p l e R s m args below meth c A Q nL (cells + mc) (slots + ms) (pc + 3) lv (r.toList ++ rest) L1 f1) : J G p l e R s m args below meth c A Q nL cells slots pc lv (a1 :: .ref b :: rest) L f :=
  j_callIA (As := [a1]) X hC h1 h2 h4 h5 hy1 hy hdg hR hc hW kk
theorem j_callI2 (X : Cx G p l s m args meth c A own cc nL ret tb) {y : MethodName} {bytes : ByteArray} {maxL index fr lo mc ms b : Nat} {rest : List Value} {a1 a2 : Value} {post : Option Value → List Nat → (Nat → va_E) → Prop} (hC : Ct l G y (.code y bytes maxL none) fr lo mc ms [.ref b, a1, a2] L f px0 post) (h1 : Cond.methodLink own index y ∈ BIG) (h2 : Cond.instanceMethod y ∈ BIG) (h4 : Cond.initialized y.cls ∈ BIG) (h5 : Cond.code y bytes maxL none ∈ BIG) (hy1 : y.name = "<init>")
    (hy : y.cls ≠ "java/lang/invoke/MethodHandle" ∧ y.cls ≠ "java/lang/invoke/VarHandle" ∧ (parseMethodDescriptor y.desc).map (fun d => d.parameters.length) = some 2) (hdg : decode cc pc = .ok (.invokespecial index, 3)) (hR : fr + 1 ≤ R.frames ∧ 8 + (maxL + 11) + lo ≤ R.locals) (hc : cells + mc ≤ R.cells ∧ slots + ms ≤ R.slots) (hW : (rest.map fun v => v.category).sum ≤ 8) (kk : ∀ (r : Option Value) (L1 : List Nat) (f1 : Nat → va_E), post r L1 f1 → J G p l e R s m args below meth c A Q nL (cells + mc) (slots + ms) (pc + 3) lv (r.toList ++ rest) L1 f1) : J G p l e R s m args below meth c A Q nL cells slots pc lv (a2 :: a1 :: .ref b :: rest) L f :=
  j_callIA (As := [a1, a2]) X hC h1 h2 h4 h5 hy1 hy hdg hR hc hW kk
theorem j_callT3 (X : Cx G p l s m args meth c A own cc nL ret tb) {y : MethodName} {bytes : ByteArray} {maxL index fr lo mc ms i : Nat} {rt : Option FieldType} {rest : List Value} {a1 a2 a3 : Value} {post : Option Value → List Nat → (Nat → va_E) → Prop} (hi : i < 57) (hC : Ct l G y (.code y bytes maxL rt) fr lo mc ms [.ref (G.2.2.1 i), a1, a2, a3] L f px0 post) (h1 : Cond.methodLink own index y ∈ BIG) (h2 : Cond.instanceMethod y ∈ BIG) (h3 : Cond.selects RJ0 y y ∈ BIG) (h5 : Cond.code y bytes maxL rt ∈ BIG)
    (hy : y.cls = RJ0 ∧ y.cls ≠ "java/lang/invoke/MethodHandle" ∧ y.cls ≠ "java/lang/invoke/VarHandle" ∧ (parseMethodDescriptor y.desc).map (fun d => d.parameters.length) = some 3) (hdg : decode cc pc = .ok (.invokevirtual index, 3)) (hR : fr + 1 ≤ R.frames ∧ 8 + (maxL + 11) + lo ≤ R.locals) (hc : cells + mc ≤ R.cells ∧ slots + ms ≤ R.slots) (hW : (rest.map fun v => v.category).sum ≤ 8) (kk : ∀ (r : Option Value) (L1 : List Nat) (f1 : Nat → va_E), post r L1 f1 → J G p l e R s m args below meth c A Q nL (cells + mc) (slots + ms) (pc + 3) lv (r.toList ++ rest) L1 f1) : J G p l e R s m args below meth c A Q nL cells slots pc lv (a3 :: a2 :: a1 :: .ref (G.2.2.1 i) :: rest) L f :=
  j_callT (As := [a1, a2, a3]) X hi hC h1 h2 h3 h5 hy hdg hR hc hW (fun _ h => h.elim) kk
end JROWS
