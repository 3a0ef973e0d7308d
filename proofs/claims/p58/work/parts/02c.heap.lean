section JROWS
variable {G : GG} {p : Program} {l : Launch} {e : Env} {R : Room} {s : State} {m : MethodId} {args : Array Value} {below : List Frame} {meth : Method} {c : Code} {A : Nat → Prop} {Q : State → Prop} {own : String} {cc : ByteArray} {nL cells slots pc : Nat} {ret : Option FieldType} {tb : List ExceptionTableEntry} {lv : List (Option Value)} {st : List Value} {L : List Nat} {f : Nat → va_E}
theorem j_getf (X : Cx G p l s m args meth c A own cc nL ret tb) (ci k : Nat) {C : String} {T : u_T} {N a index : Nat} {fs : List Value} {v : Value} (hc : vwCl[ci]? = some (C, T, N)) (hin : ∀ w ∈ u_ws C T N, w ∈ BIG) (hlink : Cond.fieldLink own index (T k).1 (T k).2.1 (T k).2.2.1 ∈ BIG) (hk : k < N) (hdg : decode cc pc = .ok (.getfield index, 3)) (ha : a ∈ L) (hf : f a = .inr (ci, fs)) (hv : fs[k]? = some v) (kk : J G p l e R s m args below meth c A Q nL cells slots (pc + 3) lv (v :: st) L (f)) : J G p l e R s m args below meth c A Q nL cells slots (pc) lv (.ref a :: st) L (f) := by
  intro H locs ls hP hD hS hl
  obtain ⟨q0, hq⟩ := va_pl_get (X := []) (f := f) ha
  rw [hf] at hq
  exact va_get (D := G.1) (ci := ci) (C := C) (T := T) (N := N) X.1 X.2.1 (Ts := BIG) X.2.2.2.2.1 hin X.2.2.2.1 X.2.2.2.2.2.2.2.1 hP q0 hq hc k hk (X.2.2.2.2.1 _ hlink) (fun _ h9 => h9) hv hdg (kk H locs ls hP hD hS hl)
theorem j_putf (X : Cx G p l s m args meth c A own cc nL ret tb) (ci k : Nat) {C : String} {T : u_T} {N a index : Nat} {fs : List Value} {v : Value} (hc : vwCl[ci]? = some (C, T, N)) (hin : ∀ w ∈ u_ws C T N, w ∈ BIG) (tyx : Nat → FieldType) (hty : ∀ k, k < N → parseFieldDescriptor (T k).2.2.1 = some (tyx k)) (hnm : ∀ a, a < N → ∀ b, b < N → a ≠ b → (T a).2.1 ≠ (T b).2.1) (hlink : Cond.fieldLink own index (T k).1 (T k).2.1 (T k).2.2.1 ∈ BIG) (hk : k < N) (hfin : (T k).2.2.2 = false)  (hdg : decode cc pc = .ok (.putfield index, 3)) (ha : a ∈ L) (hf : f a = .inr (ci, fs)) (hn : narrow (tyx k) v = v) (hfit : fits (tyx k) v = true) (hl0 : k < fs.length) (kk : J G p l e R s m args below meth c A Q nL cells slots (pc + 3) lv (st) L (va_up f a (.inr (ci, fs.set k v)))) : J G p l e R s m args below meth c A Q nL cells slots (pc) lv (v :: .ref a :: st) L (f) := by
  intro H locs ls hP hD hS hl
  obtain ⟨q0, hq⟩ := va_pl_get (X := []) (f := f) ha
  have hq1 := hq
  rw [hf] at hq
  refine va_put (D := G.1) (ci := ci) (C := C) (T := T) (N := N) (ty := tyx k) X.1 X.2.1 (Ts := BIG) X.2.2.2.2.1 hin tyx hty hnm X.2.2.2.1 X.2.2.2.2.2.2.2.1 hP hD hS q0 hq hc k hk (X.2.2.2.2.1 _ hlink) (fun _ h9 => h9) hfin  (hty k hk) hn hfit hl0 hdg (fun H1 locs1 hP1 hD1 hS1 => ?_)
  have e9 := va_pl_set (X := []) (e := .inr (ci, fs.set k v)) hD ha hq1
  have hP2 : va_P G.1 vwCl (va_pl L (va_up f a (.inr (ci, fs.set k v)))) H1 := by rw [← List.nil_append (va_pl L (va_up f a _)), ← e9]; exact hP1
  have hD2 : va_D A (va_pl L (va_up f a (.inr (ci, fs.set k v)))) := by rw [← List.nil_append (va_pl L (va_up f a _)), ← e9]; exact hD1
  exact kk H1 locs1 ls hP2 hD2 hS1 hl
theorem j_putF (X : Cx G p l s m args meth c A own cc nL ret tb) (ci k : Nat) {C : String} {T : u_T} {N a index : Nat} {fs : List Value} {v : Value} (hc : vwCl[ci]? = some (C, T, N)) (hin : ∀ w ∈ u_ws C T N, w ∈ BIG) (tyx : Nat → FieldType) (hty : ∀ k, k < N → parseFieldDescriptor (T k).2.2.1 = some (tyx k)) (hnm : ∀ a, a < N → ∀ b, b < N → a ≠ b → (T a).2.1 ≠ (T b).2.1) (hlink : Cond.fieldLink own index (T k).1 (T k).2.1 (T k).2.2.1 ∈ BIG) (hk : k < N) (hfin : (T k).2.2.2 = true) (hin2 : meth.name = "<init>") (hdecl : (T k).1 = own) (hdg : decode cc pc = .ok (.putfield index, 3)) (ha : a ∈ L) (hf : f a = .inr (ci, fs)) (hn : narrow (tyx k) v = v) (hfit : fits (tyx k) v = true) (hl0 : k < fs.length) (kk : J G p l e R s m args below meth c A Q nL cells slots (pc + 3) lv (st) L (va_up f a (.inr (ci, fs.set k v)))) : J G p l e R s m args below meth c A Q nL cells slots (pc) lv (v :: .ref a :: st) L (f) := by
  intro H locs ls hP hD hS hl
  obtain ⟨q0, hq⟩ := va_pl_get (X := []) (f := f) ha
  have hq1 := hq
  rw [hf] at hq
  refine va_putF (D := G.1) (ci := ci) (C := C) (T := T) (N := N) (ty := tyx k) X.1 X.2.1 (Ts := BIG) X.2.2.2.2.1 hin tyx hty hnm X.2.2.2.1 X.2.2.2.2.2.2.2.1 hP hD hS q0 hq hc k hk (X.2.2.2.2.1 _ hlink) (fun _ h9 => h9) hfin hin2 hdecl (hty k hk) hn hfit hl0 hdg (fun H1 locs1 hP1 hD1 hS1 => ?_)
  have e9 := va_pl_set (X := []) (e := .inr (ci, fs.set k v)) hD ha hq1
  have hP2 : va_P G.1 vwCl (va_pl L (va_up f a (.inr (ci, fs.set k v)))) H1 := by rw [← List.nil_append (va_pl L (va_up f a _)), ← e9]; exact hP1
  have hD2 : va_D A (va_pl L (va_up f a (.inr (ci, fs.set k v)))) := by rw [← List.nil_append (va_pl L (va_up f a _)), ← e9]; exact hD1
  exact kk H1 locs1 ls hP2 hD2 hS1 hl
theorem j_iald (X : Cx G p l s m args meth c A own cc nL ret tb) {a n : Nat} {g : Nat → Int32} {i : Int32} (hdg : decode cc pc = .ok (.iaload, 1)) (ha : a ∈ L) (hf : f a = .inl (G.2.1 0, n, .inl g)) (hin : vp_in i n) (kk : J G p l e R s m args below meth c A Q nL cells slots (pc + 1) lv (.int (g i.toNatClampNeg) :: st) L (f)) : J G p l e R s m args below meth c A Q nL cells slots (pc) lv (.int i :: .ref a :: st) L (f) := by
  intro H locs ls hP hD hS hl
  obtain ⟨q0, hq⟩ := va_pl_get (X := []) (f := f) ha
  rw [hf] at hq
  exact va_iald (D := G.1) X.1 X.2.1 X.2.2.2.2.2.2.2.1 hP q0 0 hq rfl hin hdg (kk H locs ls hP hD hS hl)
theorem j_bald (X : Cx G p l s m args meth c A own cc nL ret tb) {a n : Nat} {g : Nat → Int32} {i : Int32} (hdg : decode cc pc = .ok (.baload, 1)) (ha : a ∈ L) (hf : f a = .inl (G.2.1 1, n, .inl g)) (hin : vp_in i n) (kk : J G p l e R s m args below meth c A Q nL cells slots (pc + 1) lv (.int (g i.toNatClampNeg) :: st) L (f)) : J G p l e R s m args below meth c A Q nL cells slots (pc) lv (.int i :: .ref a :: st) L (f) := by
  intro H locs ls hP hD hS hl
  obtain ⟨q0, hq⟩ := va_pl_get (X := []) (f := f) ha
  rw [hf] at hq
  exact va_bald (D := G.1) X.1 X.2.1 X.2.2.2.2.2.2.2.1 hP q0 1 hq rfl hin hdg (kk H locs ls hP hD hS hl)
theorem j_iast (X : Cx G p l s m args meth c A own cc nL ret tb) {a n : Nat} {g : Nat → Int32} {i : Int32} {x : Int32} (hdg : decode cc pc = .ok (.iastore, 1)) (ha : a ∈ L) (hf : f a = .inl (G.2.1 0, n, .inl g)) (hin : vp_in i n) (kk : J G p l e R s m args below meth c A Q nL cells slots (pc + 1) lv (st) L (va_up f a (.inl (G.2.1 0, n, .inl (upd g i.toNatClampNeg x))))) : J G p l e R s m args below meth c A Q nL cells slots (pc) lv (.int x :: .int i :: .ref a :: st) L (f) := by
  intro H locs ls hP hD hS hl
  obtain ⟨q0, hq⟩ := va_pl_get (X := []) (f := f) ha
  have hq1 := hq
  rw [hf] at hq
  refine va_iast (D := G.1) X.1 X.2.1 X.2.2.2.2.2.2.2.1 hP hD hS q0 0 hq rfl hin hdg (fun H1 locs1 hP1 hD1 hS1 => ?_)
  have e9 := va_pl_set (X := []) (e := .inl (G.2.1 0, n, .inl (upd g i.toNatClampNeg x))) hD ha hq1
  have hP2 : va_P G.1 vwCl (va_pl L (va_up f a (.inl (G.2.1 0, n, .inl (upd g i.toNatClampNeg x))))) H1 := by rw [← List.nil_append (va_pl L (va_up f a _)), ← e9]; exact hP1
  have hD2 : va_D A (va_pl L (va_up f a (.inl (G.2.1 0, n, .inl (upd g i.toNatClampNeg x))))) := by rw [← List.nil_append (va_pl L (va_up f a _)), ← e9]; exact hD1
  exact kk H1 locs1 ls hP2 hD2 hS1 hl
theorem j_bast (X : Cx G p l s m args meth c A own cc nL ret tb) {a n : Nat} {g : Nat → Int32} {i : Int32} {x : Int32} (hdg : decode cc pc = .ok (.bastore, 1)) (ha : a ∈ L) (hf : f a = .inl (G.2.1 1, n, .inl g)) (hin : vp_in i n) (kk : J G p l e R s m args below meth c A Q nL cells slots (pc + 1) lv (st) L (va_up f a (.inl (G.2.1 1, n, .inl (upd g i.toNatClampNeg (vp_nar .byte x)))))) : J G p l e R s m args below meth c A Q nL cells slots (pc) lv (.int x :: .int i :: .ref a :: st) L (f) := by
  intro H locs ls hP hD hS hl
  obtain ⟨q0, hq⟩ := va_pl_get (X := []) (f := f) ha
  have hq1 := hq
  rw [hf] at hq
  refine va_bast (D := G.1) X.1 X.2.1 X.2.2.2.2.2.2.2.1 hP hD hS q0 1 hq rfl hin hdg (fun H1 locs1 hP1 hD1 hS1 => ?_)
  have e9 := va_pl_set (X := []) (e := .inl (G.2.1 1, n, .inl (upd g i.toNatClampNeg (vp_nar .byte x)))) hD ha hq1
  have hP2 : va_P G.1 vwCl (va_pl L (va_up f a (.inl (G.2.1 1, n, .inl (upd g i.toNatClampNeg (vp_nar .byte x)))))) H1 := by rw [← List.nil_append (va_pl L (va_up f a _)), ← e9]; exact hP1
  have hD2 : va_D A (va_pl L (va_up f a (.inl (G.2.1 1, n, .inl (upd g i.toNatClampNeg (vp_nar .byte x)))))) := by rw [← List.nil_append (va_pl L (va_up f a _)), ← e9]; exact hD1
  exact kk H1 locs1 ls hP2 hD2 hS1 hl
theorem j_aald (X : Cx G p l s m args meth c A own cc nL ret tb) {a n : Nat} {g : Nat → Option Nat} {i : Int32} {b : Nat} (hdg : decode cc pc = .ok (.aaload, 1)) (ha : a ∈ L) (hf : f a = .inl (G.2.1 5, n, .inr (.inr (.inr (.inr g))))) (hin : vp_in i n) (hb : g i.toNatClampNeg = some b) (kk : J G p l e R s m args below meth c A Q nL cells slots (pc + 1) lv (.ref b :: st) L (f)) : J G p l e R s m args below meth c A Q nL cells slots (pc) lv (.int i :: .ref a :: st) L (f) := by
  intro H locs ls hP hD hS hl
  obtain ⟨q0, hq⟩ := va_pl_get (X := []) (f := f) ha
  rw [hf] at hq
  refine va_aldq (D := G.1) X.1 X.2.1 X.2.2.2.2.2.2.2.1 hP q0 5 hq rfl hin hdg ?_
  rw [hb]
  exact kk H locs ls hP hD hS hl
theorem j_alen (X : Cx G p l s m args meth c A own cc nL ret tb) {a : Nat} {k9 : Nat} {ty : FieldType} {cA : ClassId} {x : vp_A} (v : Int32) (hdg : decode cc pc = .ok (.arraylength, 1)) (ha : a ∈ L) (hf : f a = .inl (cA, x)) (ht : (tysOf G.2.1)[k9]? = some (cA, ty)) (hv : Int32.ofNat x.1 = v) (kk : J G p l e R s m args below meth c A Q nL cells slots (pc + 1) lv (.int v :: st) L (f)) : J G p l e R s m args below meth c A Q nL cells slots (pc) lv (.ref a :: st) L (f) := by
  intro H locs ls hP hD hS hl
  obtain ⟨q0, hq⟩ := va_pl_get (X := []) (f := f) ha
  rw [hf] at hq
  exact va_alen (D := G.1) X.1 X.2.1 X.2.2.2.2.2.2.2.1 hP q0 k9 hq ht hv hdg (kk H locs ls hP hD hS hl)
theorem j_mmax (X : Cx G p l s m args meth c A own cc nL ret tb) {index : Nat} {x y : Int32} (hlink : Cond.methodLink own index Lib.Math.max.name ∈ BIG) (hdg : decode cc pc = .ok (.invokestatic index, 3)) (hR : 1 ≤ R.frames ∧ (st.map fun v => v.category).sum + 13 ≤ R.locals) (hc : cells ≤ R.cells ∧ slots ≤ R.slots) (kk : J G p l e R s m args below meth c A Q nL cells slots (pc + 3) lv (.int (if x < y then y else x) :: st) L (f)) : J G p l e R s m args below meth c A Q nL cells slots (pc) lv (.int y :: .int x :: st) L (f) := fun H locs ls hP hD hS hl => va_mmax X.1 X.2.1 (X.2.2.1.trans hl.1.symm) X.2.2.2.1 (X.2.2.2.2.1 _ hlink) (X.2.2.2.2.1 _ st_math_max) (X.2.2.2.2.1 _ in_math) (X.2.2.2.2.1 _ cd_math_max) hR.1 hR.2 hc.1 hc.2 hdg (kk H locs ls hP hD hS hl)
theorem j_mmin (X : Cx G p l s m args meth c A own cc nL ret tb) {index : Nat} {x y : Int32} (hlink : Cond.methodLink own index Lib.Math.min.name ∈ BIG) (hdg : decode cc pc = .ok (.invokestatic index, 3)) (hR : 1 ≤ R.frames ∧ (st.map fun v => v.category).sum + 13 ≤ R.locals) (hc : cells ≤ R.cells ∧ slots ≤ R.slots) (kk : J G p l e R s m args below meth c A Q nL cells slots (pc + 3) lv (.int (if y < x then y else x) :: st) L (f)) : J G p l e R s m args below meth c A Q nL cells slots (pc) lv (.int y :: .int x :: st) L (f) := fun H locs ls hP hD hS hl => va_mmin X.1 X.2.1 (X.2.2.1.trans hl.1.symm) X.2.2.2.1 (X.2.2.2.2.1 _ hlink) (X.2.2.2.2.1 _ st_math_min) (X.2.2.2.2.1 _ in_math) (X.2.2.2.2.1 _ cd_math_min) hR.1 hR.2 hc.1 hc.2 hdg (kk H locs ls hP hD hS hl)
end JROWS

