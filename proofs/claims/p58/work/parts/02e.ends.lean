section JROWS
variable {G : GG} {p : Program} {l : Launch} {e : Env} {R : Room} {s : State} {m : MethodId} {args : Array Value} {below : List Frame} {meth : Method} {c : Code} {A : Nat → Prop} {Q : State → Prop} {own : String} {cc : ByteArray} {nL cells slots pc : Nat} {ret : Option FieldType} {tb : List ExceptionTableEntry} {lv : List (Option Value)} {st : List Value} {L : List Nat} {f : Nat → va_E}
theorem j_iret (X : Cx G p l s m args meth c A own cc nL ret tb) {mc ms : Nat} {v : Int32} {post : Option Value → List Nat → (Nat → va_E) → Prop} {XC : String → State → State → Prop} (hdg : decode cc pc = .ok (.ireturn, 1)) (hr : ret = some .int) (hc : cells ≤ mc ∧ slots ≤ ms) (hp : post (some (.int v)) L f) :
    J G p l e R s m args below meth c A (vx_MQ below (Qg G A post) XC args s mc ms A) nL cells slots pc lv [.int v] L f := by
  intro H locs ls hP hD hS hl
  obtain ⟨hx, hb, -, -, -, hrt, hlk, hK, -⟩ := X
  exact vx_ret (W.widen hc.1 hc.2 (W.iret hx hb (hrt.trans hr) (fun t ht hW => ⟨⟨_, L, f, rfl, hp, by rw [ht]; exact hP, va_K.moved hW.alike hK, hD⟩, hS.F ht⟩) hS.2.2 hdg hlk))
theorem j_zret (X : Cx G p l s m args meth c A own cc nL ret tb) {mc ms : Nat} {v : Int32} {ty : FieldType} {post : Option Value → List Nat → (Nat → va_E) → Prop} {XC : String → State → State → Prop} (hdg : decode cc pc = .ok (.ireturn, 1)) (hr : ret = some ty) (hn : narrow ty (.int v) = .int v) (hc : cells ≤ mc ∧ slots ≤ ms) (hp : post (some (.int v)) L f) :
    J G p l e R s m args below meth c A (vx_MQ below (Qg G A post) XC args s mc ms A) nL cells slots pc lv [.int v] L f := by
  intro H locs ls hP hD hS hl
  obtain ⟨hx, hb, -, -, -, hrt, hlk, hK, -⟩ := X
  exact vx_ret (W.widen hc.1 hc.2 (W.zret hx hb (hrt.trans hr) hn (fun t ht hW => ⟨⟨_, L, f, rfl, hp, by rw [ht]; exact hP, va_K.moved hW.alike hK, hD⟩, hS.F ht⟩) hS.2.2 hdg hlk))
theorem j_vret (X : Cx G p l s m args meth c A own cc nL ret tb) {mc ms : Nat} {post : Option Value → List Nat → (Nat → va_E) → Prop} {XC : String → State → State → Prop} (hdg : decode cc pc = .ok (.return_, 1)) (hr : ret = none) (hc : cells ≤ mc ∧ slots ≤ ms) (hp : post none L f) :
    J G p l e R s m args below meth c A (vx_MQ below (Qg G A post) XC args s mc ms A) nL cells slots pc lv [] L f := by
  intro H locs ls hP hD hS hl
  obtain ⟨hx, hb, -, -, -, hrt, hlk, hK, -⟩ := X
  exact vx_ret (W.widen hc.1 hc.2 (W.vret hx hb (hrt.trans hr) (fun t ht hW => ⟨⟨_, L, f, rfl, hp, by rw [ht]; exact hP, va_K.moved hW.alike hK, hD⟩, hS.F ht⟩) hS.2.2 hdg hlk))
theorem j_aret (X : Cx G p l s m args meth c A own cc nL ret tb) {mc ms : Nat} {b : Nat} {rt : FieldType} {post : Option Value → List Nat → (Nat → va_E) → Prop} {XC : String → State → State → Prop} (hdg : decode cc pc = .ok (.areturn, 1)) (hr : ret = some rt) (hrt : (∃ n, rt = .object n) ∨ ∃ t, rt = .array t) (hc : cells ≤ mc ∧ slots ≤ ms) (hp : post (some (.ref b)) L f) :
    J G p l e R s m args below meth c A (vx_MQ below (Qg G A post) XC args s mc ms A) nL cells slots pc lv [.ref b] L f := by
  intro H locs ls hP hD hS hl
  obtain ⟨hx, hb, -, -, -, hr9, hlk, hK, -⟩ := X
  exact vx_ret (W.widen hc.1 hc.2 (W.aret hx hb (hr9.trans hr) hrt (Or.inr ⟨_, rfl⟩) (fun t ht hW => ⟨⟨_, L, f, rfl, hp, by rw [ht]; exact hP, va_K.moved hW.alike hK, hD⟩, hS.F ht⟩) hS.2.2 hdg hlk))
theorem j_fret (X : Cx G p l s m args meth c A own cc nL ret tb) {mc ms : Nat} {v : UInt32} {post : Option Value → List Nat → (Nat → va_E) → Prop} {XC : String → State → State → Prop} (hdg : decode cc pc = .ok (.freturn, 1)) (hr : ret = some .float) (hc : cells ≤ mc ∧ slots ≤ ms) (hp : post (some (.float v)) L f) :
    J G p l e R s m args below meth c A (vx_MQ below (Qg G A post) XC args s mc ms A) nL cells slots pc lv [.float v] L f := by
  intro H locs ls hP hD hS hl
  obtain ⟨hx, hb, -, -, -, hrt, hlk, hK, -⟩ := X
  exact vx_ret (W.widen hc.1 hc.2 (W.fret hx hb (hrt.trans hr) (fun t ht hW => ⟨⟨_, L, f, rfl, hp, by rw [ht]; exact hP, va_K.moved hW.alike hK, hD⟩, hS.F ht⟩) hS.2.2 hdg hlk))
theorem j_dret (X : Cx G p l s m args meth c A own cc nL ret tb) {mc ms : Nat} {v : UInt64} {post : Option Value → List Nat → (Nat → va_E) → Prop} {XC : String → State → State → Prop} (hdg : decode cc pc = .ok (.dreturn, 1)) (hr : ret = some .double) (hc : cells ≤ mc ∧ slots ≤ ms) (hp : post (some (.double v)) L f) :
    J G p l e R s m args below meth c A (vx_MQ below (Qg G A post) XC args s mc ms A) nL cells slots pc lv [.double v] L f := by
  intro H locs ls hP hD hS hl
  obtain ⟨hx, hb, -, -, -, hrt, hlk, hK, -⟩ := X
  exact vx_ret (W.widen hc.1 hc.2 (W.dret hx hb (hrt.trans hr) (fun t ht hW => ⟨⟨_, L, f, rfl, hp, by rw [ht]; exact hP, va_K.moved hW.alike hK, hD⟩, hS.F ht⟩) hS.2.2 hdg hlk))
/-- what is thrown in it leaves a method without a table -/
theorem jx_out (X : Cx G p l s m args meth c A own cc nL ret []) {mc ms : Nat} {E : String} {px : String → Prop} {Qc : Array Value → State → Outcome → State → Prop} (hc : cells ≤ mc ∧ slots ≤ ms) (hp : px E) :
    JX G p l e R s m args below meth c A (vx_MQ below Qc (Xg G A L f px) args s mc ms A) nL cells slots pc lv st L f E := by
  intro H locs ls q ce hP hD hS hl hcell hv hcl
  obtain ⟨hx, hb, -, -, -, hrt, hlk, hK, -, -, -, htb⟩ := X
  exact vx_widen hc.1 hc.2 (vx_out (fun x hx => by rw [htb] at hx; cases hx) hlk hcell hv hcl (fun t ht hA => ⟨⟨hp, by rw [ht]; exact hP, va_K.moved hA hK, hD⟩, hS.F ht⟩) hS.2.2 (Nat.le_refl _) (Nat.le_refl _))
end JROWS
/-- a contract out of the walk of its body -/
theorem Ct.of {l : Launch} {G : GG} {y : MethodName} {cc : ByteArray} {maxL fr lo mc ms : Nat} {rt : Option FieldType} {av : List Value} {L : List Nat} {f : Nat → va_E} {px : String → Prop} {post : Option Value → List Nat → (Nat → va_E) → Prop} (hl : l.stackTraces = false) (hpl : plainName y.cls = true) (lv : List (Option Value)) (hlv : lvl lv = lv_args 0 av) (hn : (lg_sl av).length ≤ maxL)
    (body : ∀ (p : Program) (e : Env) (s : State) (m : MethodId) (below : List Frame) (meth : Method) (c : Code) (A : Nat → Prop), meth.name = y.name → Cx G p l s m av.toArray meth c A y.cls cc maxL rt [] → J G p l e { frames := fr, cells := mc, slots := ms, locals := lo } s m av.toArray below meth c A (vx_MQ below (Qg G A post) (Xg G A L f px) av.toArray s mc ms A) maxL 0 0 0 lv [] L f) : Ct l G y (.code y cc maxL rt) fr lo mc ms av L f px post := by
  intro sz
  refine vx_ofW (cc := cc) (maxL := maxL) (ret := rt) hpl rfl ?_
  intro p e s m args below meth c s₁ B hml ht hv
  obtain ⟨rfl, hsz, ⟨hP, hK, hD0⟩, hE⟩ := hv
  subst hsz
  have hD : va_D (aA L s.heap.size) (va_pl L f) := ⟨hD0.1, fun k q hk => Or.inl (pl_mem hk)⟩
  have htb : c.exceptionTable.toList = [] := List.eq_nil_iff_forall_not_mem.mpr (fun x hx => ht x hx)
  have X : Cx G p l s m av.toArray meth c (aA L s.heap.size) y.cls cc maxL rt [] := ⟨B.exec, B.bytes, hml, findClass_of_methodNamed B.named, fun w hw => atoms_spec (ws := .code y cc maxL rt :: BIG) B.pre w (List.mem_cons_of_mem _ hw), B.returns, B.notSynchronized, hK, fun q h => Or.inr h, hE, hl, htb⟩
  rw [lg_entry_eq]
  exact body p e s m below meth c _ (name_of_methodNamed B.named B.method).1 X s.heap [] _ hP hD va_S.rf (by rw [hlv]; exact lv_entry av hn)

