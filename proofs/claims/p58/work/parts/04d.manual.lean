theorem FW_upF {G : GG} {L : List Nat} {a b c a1 b1 c1 : Mem} (hL : LOK L) {k : Nat} (hk : k < 96) (e : va_E) (h1 : cnt G L k (rv a1 b1 c1 k) = e) (h2 : ∀ k1, k1 ≠ k → rv a1 b1 c1 k1 = rv a b c k1) : va_up (FW G L a b c) (ad L k) e = FW G L a1 b1 c1 := by
  funext x
  by_cases hx : x ∈ L
  · exact FW_up hL hk e h1 h2 x hx
  · rw [va_up_ne _ _ (fun h9 => hx (by rw [h9]; exact ad_mem hL hk))]
    have h3 : L.idxOf x = L.length := List.idxOf_eq_length hx
    have h4 := hL.2
    unfold FW
    rw [h3, h2 L.length (by omega)]
/-- a reference or null -/
def ov (L : List Nat) : Option Nat → Value
  | none => .null
  | some k => .ref (ad L k)
def stA (n : Nat) (g : Nat → Nat) (i : Int32) : Option Nat := if i < 0 ∨ n ≤ i.toNatClampNeg then none else some (g i.toNatClampNeg)
theorem stA_in {n : Nat} {g : Nat → Nat} {i : Int32} (h : vp_in i n) : stA n g i = some (g i.toNatClampNeg) := if_neg h
theorem stA_out {n : Nat} {g : Nat → Nat} {i : Int32} (h : i < 0 ∨ n ≤ i.toNatClampNeg) : stA n g i = none := if_pos h
theorem stA_ty {n : Nat} {g : Nat → Nat} {t : Nat} (hg : ∀ i, i < n → ty (g i) = t) {i : Int32} {k : Nat} (h : stA n g i = some k) : ty k = t := by
  unfold stA at h
  split at h
  · cases h
  · rename_i h1
    have h2 := Option.some.inj h
    rw [← h2]
    exact hg _ (by omega)
def chkI {α : Type} (i : Int32) (n : Nat) (k : Option α) : Option α := if i < 0 ∨ n ≤ i.toNatClampNeg then none else k
theorem chkI_inv {α : Type} {i : Int32} {n : Nat} {k : Option α} {R : α} (h : chkI i n k = some R) : vp_in i n ∧ k = some R := by
  unfold chkI at h
  split at h
  · cases h
  · exact ⟨‹_›, h⟩
def fillI (n : Nat) (g : Nat → Int32) (x : Int32) : Nat → Int32 := fun i => if i < n then x else g i
theorem fillI_s {n : Nat} {g : Nat → Int32} {x : Int32} : upd (fillI n g x) n x = fillI (n + 1) g x := by
  funext i
  unfold upd fillI
  by_cases h : i = n
  · subst h; simp
  · by_cases h1 : i < n
    · simp [h, h1, Nat.lt_succ_of_lt h1]
    · simp [h, h1, show ¬ i < n + 1 by omega]
section JROWS
variable {G : GG} {p : Program} {l : Launch} {e : Env} {R : Room} {s : State} {m : MethodId} {args : Array Value} {below : List Frame} {meth : Method} {c : Code} {A : Nat → Prop} {Q : State → Prop} {own : String} {cc : ByteArray} {nL cells slots pc : Nat} {ret : Option FieldType} {tb : List ExceptionTableEntry} {lv : List (Option Value)} {st : List Value} {L : List Nat} {f : Nat → va_E}
theorem j_anret (X : Cx G p l s m args meth c A own cc nL ret tb) {mc ms : Nat} {rt : FieldType} {post : Option Value → List Nat → (Nat → va_E) → Prop} {XC : String → State → State → Prop} (hdg : decode cc pc = .ok (.areturn, 1)) (hr : ret = some rt) (hrt : (∃ n, rt = .object n) ∨ ∃ t, rt = .array t) (hc : cells ≤ mc ∧ slots ≤ ms) (hp : post (some .null) L f) :
    J G p l e R s m args below meth c A (vx_MQ below (Qg G A post) XC args s mc ms A) nL cells slots pc lv [.null] L f := by
  intro H locs ls hP hD hS hl
  obtain ⟨hx, hb, -, -, -, hr9, hlk, hK, -⟩ := X
  exact vx_ret (W.widen hc.1 hc.2 (W.aret hx hb (hr9.trans hr) hrt (Or.inl rfl) (fun t ht hW => ⟨⟨_, L, f, rfl, hp, by rw [ht]; exact hP, va_K.moved hW.alike hK, hD⟩, hS.F ht⟩) hS.2.2 hdg hlk))
theorem j_ifnullN (X : Cx G p l s m args meth c A own cc nL ret tb) {off : Int} {tgt : Nat} (hdg : decode cc pc = .ok (.ifnull off, 3)) (ht : (pc : Int) + off = (tgt : Int)) (k : J G p l e R s m args below meth c A Q nL cells slots tgt lv st L f) : J G p l e R s m args below meth c A Q nL cells slots pc lv (.null :: st) L f := fun H locs ls hP hD hS hl => lv_ifnullN X.1 X.2.1 hdg ht (k H locs ls hP hD hS hl)
theorem j_aload_nN (X : Cx G p l s m args meth c A own cc nL ret tb) {k0 : Fin 4} {i : Nat} (hdg : decode cc pc = .ok (.aload_n k0, 1)) (hi : (k0 : Nat) = i) (hk : lv[i]? = some (some .null)) (k : J G p l e R s m args below meth c A Q nL cells slots (pc + 1) lv (.null :: st) L f) : J G p l e R s m args below meth c A Q nL cells slots pc lv st L f := fun H locs ls hP hD hS hl => lv_aload_nN X.1 X.2.1 hdg hi (lvl_get hl hk) (k H locs ls hP hD hS hl)
theorem j_astore_nN (X : Cx G p l s m args meth c A own cc nL ret tb) {k0 : Fin 4} {i : Nat} (hdg : decode cc pc = .ok (.astore_n k0, 1)) (hi : (k0 : Nat) = i) (hn : i < nL) (hok : lvOK lv i) (k : J G p l e R s m args below meth c A Q nL cells slots (pc + 1) (lv.set i (some .null)) st L f) : J G p l e R s m args below meth c A Q nL cells slots pc lv (.null :: st) L f := fun H locs ls hP hD hS hl => lv_astore_nN X.1 X.2.1 hdg hi hl hn rfl (fun ls9 h9 => k H locs ls9 hP hD hS (lvl_put1 hok h9))
theorem Ct.ofq {l : Launch} {G : GG} {y : MethodName} {own : String} {cc : ByteArray} {maxL fr lo mc ms : Nat} {rt : Option FieldType} {av : List Value} {L : List Nat} {f : Nat → va_E} {px : String → Prop} {post : Option Value → List Nat → (Nat → va_E) → Prop} (hl : l.stackTraces = false) (hown : y.cls = own) (hpl : plainName y.cls = true) (lv : List (Option Value)) (hlv : lvl lv = lv_args 0 av) (hn : (lg_sl av).length ≤ maxL)
    (body : ∀ (p : Program) (e : Env) (s : State) (m : MethodId) (below : List Frame) (meth : Method) (c : Code) (A : Nat → Prop) (ar : Array Value) (Q : State → Prop), Q = vx_MQ below (Qg G A post) (Xg G A L f px) ar s mc ms A → Cx G p l s m ar meth c A own cc maxL rt [] → J G p l e { frames := fr, cells := mc, slots := ms, locals := lo } s m ar below meth c A Q maxL 0 0 0 lv [] L f) : Ct l G y (.code y cc maxL rt) fr lo mc ms av L f px post :=
  Ct.ofo hl hown hpl lv hlv hn (fun p e s m below meth c A _ X => body p e s m below meth c A _ _ rfl X)
theorem q_iret (X : Cx G p l s m args meth c A own cc nL ret tb) {mc ms : Nat} {v : Int32} {post : Option Value → List Nat → (Nat → va_E) → Prop} {XC : String → State → State → Prop} (hQ : Q = vx_MQ below (Qg G A post) XC args s mc ms A) (hdg : decode cc pc = .ok (.ireturn, 1)) (hr : ret = some .int) (hc : cells ≤ mc ∧ slots ≤ ms) (hp : post (some (.int v)) L f) : J G p l e R s m args below meth c A Q nL cells slots pc lv [.int v] L f := by
  subst hQ
  exact j_iret X hdg hr hc hp
theorem q_zret (X : Cx G p l s m args meth c A own cc nL ret tb) {mc ms : Nat} {v : Int32} {ty : FieldType} {post : Option Value → List Nat → (Nat → va_E) → Prop} {XC : String → State → State → Prop} (hQ : Q = vx_MQ below (Qg G A post) XC args s mc ms A) (hdg : decode cc pc = .ok (.ireturn, 1)) (hr : ret = some ty) (hn : narrow ty (.int v) = .int v) (hc : cells ≤ mc ∧ slots ≤ ms) (hp : post (some (.int v)) L f) : J G p l e R s m args below meth c A Q nL cells slots pc lv [.int v] L f := by
  subst hQ
  exact j_zret X hdg hr hn hc hp
theorem q_vret (X : Cx G p l s m args meth c A own cc nL ret tb) {mc ms : Nat} {post : Option Value → List Nat → (Nat → va_E) → Prop} {XC : String → State → State → Prop} (hQ : Q = vx_MQ below (Qg G A post) XC args s mc ms A) (hdg : decode cc pc = .ok (.return_, 1)) (hr : ret = none) (hc : cells ≤ mc ∧ slots ≤ ms) (hp : post none L f) : J G p l e R s m args below meth c A Q nL cells slots pc lv [] L f := by
  subst hQ
  exact j_vret X hdg hr hc hp
theorem q_aret (X : Cx G p l s m args meth c A own cc nL ret tb) {mc ms : Nat} {b : Nat} {rt : FieldType} {post : Option Value → List Nat → (Nat → va_E) → Prop} {XC : String → State → State → Prop} (hQ : Q = vx_MQ below (Qg G A post) XC args s mc ms A) (hdg : decode cc pc = .ok (.areturn, 1)) (hr : ret = some rt) (hrt : (∃ n, rt = .object n) ∨ ∃ t, rt = .array t) (hc : cells ≤ mc ∧ slots ≤ ms) (hp : post (some (.ref b)) L f) : J G p l e R s m args below meth c A Q nL cells slots pc lv [.ref b] L f := by
  subst hQ
  exact j_aret X hdg hr hrt hc hp
theorem q_fret (X : Cx G p l s m args meth c A own cc nL ret tb) {mc ms : Nat} {v : UInt32} {post : Option Value → List Nat → (Nat → va_E) → Prop} {XC : String → State → State → Prop} (hQ : Q = vx_MQ below (Qg G A post) XC args s mc ms A) (hdg : decode cc pc = .ok (.freturn, 1)) (hr : ret = some .float) (hc : cells ≤ mc ∧ slots ≤ ms) (hp : post (some (.float v)) L f) : J G p l e R s m args below meth c A Q nL cells slots pc lv [.float v] L f := by
  subst hQ
  exact j_fret X hdg hr hc hp
theorem q_dret (X : Cx G p l s m args meth c A own cc nL ret tb) {mc ms : Nat} {v : UInt64} {post : Option Value → List Nat → (Nat → va_E) → Prop} {XC : String → State → State → Prop} (hQ : Q = vx_MQ below (Qg G A post) XC args s mc ms A) (hdg : decode cc pc = .ok (.dreturn, 1)) (hr : ret = some .double) (hc : cells ≤ mc ∧ slots ≤ ms) (hp : post (some (.double v)) L f) : J G p l e R s m args below meth c A Q nL cells slots pc lv [.double v] L f := by
  subst hQ
  exact j_dret X hdg hr hc hp
theorem qx_out (X : Cx G p l s m args meth c A own cc nL ret []) {mc ms : Nat} {E : String} {px : String → Prop} {Qc : Array Value → State → Outcome → State → Prop} (hQ : Q = vx_MQ below Qc (Xg G A L f px) args s mc ms A) (hc : cells ≤ mc ∧ slots ≤ ms) (hp : px E) : JX G p l e R s m args below meth c A Q nL cells slots pc lv st L f E := by
  subst hQ
  exact jx_out X hc hp
theorem q_throwS (X : Cx G p l s m args meth c A own cc nL ret []) {px : String → Prop} {mc ms : Nat} {Qc : Array Value → State → Outcome → State → Prop} (hQ : Q = vx_MQ below Qc (Xg G A L f px) args s mc ms A) (i : Nat) {is ik ic : Nat} {cls text : String} (hi : strT[i]? = some (own, is, text)) (d0 : decode cc pc = .ok (.new ik, 3)) (d3 : decode cc (pc + 3) = .ok (.dup, 1)) (d4 : decode cc (pc + 4) = .ok (.ldc is, 2)) (d6 : decode cc (pc + 6) = .ok (.invokespecial ic, 3)) (d9 : decode cc (pc + 9) = .ok (.athrow, 1)) (ax : exAx own ik ic cls) (hfr : 5 < R.frames) (hlo : (st.map fun v => v.category).sum + 82 ≤ R.locals) (hc1 : cells + 1 ≤ R.cells ∧ slots + 6 ≤ R.slots) (hc : cells + 1 ≤ mc ∧ slots + 6 ≤ ms) (hp : px cls) : J G p l e R s m args below meth c A Q nL cells slots pc lv st L f := by
  subst hQ
  exact j_throwS X i hi d0 d3 d4 d6 d9 ax hfr hlo hc1 hc hp
theorem q_throwSW (X : Cx G p l s m args meth c A own cc nL ret []) {px : String → Prop} {mc ms : Nat} {Qc : Array Value → State → Outcome → State → Prop} (hQ : Q = vx_MQ below Qc (Xg G A L f px) args s mc ms A) (i : Nat) {is ik ic : Nat} {cls text : String} (hi : strT[i]? = some (own, is, text)) (d0 : decode cc pc = .ok (.new ik, 3)) (d3 : decode cc (pc + 3) = .ok (.dup, 1)) (d4 : decode cc (pc + 4) = .ok (.ldc_w is, 3)) (d6 : decode cc (pc + 7) = .ok (.invokespecial ic, 3)) (d9 : decode cc (pc + 10) = .ok (.athrow, 1)) (ax : exAx own ik ic cls) (hfr : 5 < R.frames) (hlo : (st.map fun v => v.category).sum + 82 ≤ R.locals) (hc1 : cells + 1 ≤ R.cells ∧ slots + 6 ≤ R.slots) (hc : cells + 1 ≤ mc ∧ slots + 6 ≤ ms) (hp : px cls) : J G p l e R s m args below meth c A Q nL cells slots pc lv st L f := by
  subst hQ
  exact j_throwW X i hi d0 d3 d4 d6 d9 ax hfr hlo hc1 hc hp
end JROWS
/-! the class's own helpers over rows -/
theorem c_nA_21 {l : Launch} (hl : l.stackTraces = false) {G : GG} {L : List Nat} (hL : LOK L) {a b c : Mem} {k : Nat} (h : ty k = 21) {i v : Int32} (hR : atI 25 (a k) i = v) : Ct l G yX8_numberAt (.code yX8_numberAt cX8_numberAt 2 (some .int)) 0 0 0 0 [.ref (ad L k), .int i] L (FW G L a b c) px0 (stay L (fun r f1 => f1 = FW G L a b c ∧ r = some (.int v))) := by
  subst hR
  exact c_X8_numberAt hl (inL hL h (by decide)) (FW21 hL h) (by decide)
theorem c_sN_21 {l : Launch} (hl : l.stackTraces = false) {G : GG} {L : List Nat} (hL : LOK L) {a b c a' : Mem} {k : Nat} (h : ty k = 21) {i x : Int32} (hR : upR a k (putI 25 (a k) i x) = a') : Ct l G yX8_setNumberAt (.code yX8_setNumberAt cX8_setNumberAt 3 none) 0 0 0 0 [.ref (ad L k), .int i, .int x] L (FW G L a b c) px0 (stay L (fun r f1 => f1 = FW G L a' b c ∧ r = none)) := by
  subst hR
  have h1 := c_X8_setNumberAt hl (G := G) (f := FW G L a b c) (i := i) (x := x) (inL hL h (by decide)) (FW21 hL h) (by decide)
  rw [FW_upF hL (ty_lt h (by decide)) _ (by rw [cnt_21 h, rv_upa (lo_of h (by decide))]) rv_upa_n] at h1
  exact h1
theorem c_nA_22 {l : Launch} (hl : l.stackTraces = false) {G : GG} {L : List Nat} (hL : LOK L) {a b c : Mem} {k : Nat} (h : ty k = 22) {i v : Int32} (hR : atI 240 (a k) i = v) : Ct l G yX8_numberAt (.code yX8_numberAt cX8_numberAt 2 (some .int)) 0 0 0 0 [.ref (ad L k), .int i] L (FW G L a b c) px0 (stay L (fun r f1 => f1 = FW G L a b c ∧ r = some (.int v))) := by
  subst hR
  exact c_X8_numberAt hl (inL hL h (by decide)) (FW22 hL h) (by decide)
theorem c_sN_22 {l : Launch} (hl : l.stackTraces = false) {G : GG} {L : List Nat} (hL : LOK L) {a b c a' : Mem} {k : Nat} (h : ty k = 22) {i x : Int32} (hR : upR a k (putI 240 (a k) i x) = a') : Ct l G yX8_setNumberAt (.code yX8_setNumberAt cX8_setNumberAt 3 none) 0 0 0 0 [.ref (ad L k), .int i, .int x] L (FW G L a b c) px0 (stay L (fun r f1 => f1 = FW G L a' b c ∧ r = none)) := by
  subst hR
  have h1 := c_X8_setNumberAt hl (G := G) (f := FW G L a b c) (i := i) (x := x) (inL hL h (by decide)) (FW22 hL h) (by decide)
  rw [FW_upF hL (ty_lt h (by decide)) _ (by rw [cnt_22 h, rv_upa (lo_of h (by decide))]) rv_upa_n] at h1
  exact h1
theorem c_nA_23 {l : Launch} (hl : l.stackTraces = false) {G : GG} {L : List Nat} (hL : LOK L) {a b c : Mem} {k : Nat} (h : ty k = 23) {i v : Int32} (hR : atI 5 (a k) i = v) : Ct l G yX8_numberAt (.code yX8_numberAt cX8_numberAt 2 (some .int)) 0 0 0 0 [.ref (ad L k), .int i] L (FW G L a b c) px0 (stay L (fun r f1 => f1 = FW G L a b c ∧ r = some (.int v))) := by
  subst hR
  exact c_X8_numberAt hl (inL hL h (by decide)) (FW23 hL h) (by decide)
theorem c_sN_23 {l : Launch} (hl : l.stackTraces = false) {G : GG} {L : List Nat} (hL : LOK L) {a b c a' : Mem} {k : Nat} (h : ty k = 23) {i x : Int32} (hR : upR a k (putI 5 (a k) i x) = a') : Ct l G yX8_setNumberAt (.code yX8_setNumberAt cX8_setNumberAt 3 none) 0 0 0 0 [.ref (ad L k), .int i, .int x] L (FW G L a b c) px0 (stay L (fun r f1 => f1 = FW G L a' b c ∧ r = none)) := by
  subst hR
  have h1 := c_X8_setNumberAt hl (G := G) (f := FW G L a b c) (i := i) (x := x) (inL hL h (by decide)) (FW23 hL h) (by decide)
  rw [FW_upF hL (ty_lt h (by decide)) _ (by rw [cnt_23 h, rv_upa (lo_of h (by decide))]) rv_upa_n] at h1
  exact h1
set_option maxRecDepth 100000 in
theorem c_copyRow {l : Launch} (hl : l.stackTraces = false) {G : GG} {L : List Nat} {f : Nat → va_E} {a b n : Nat} {g0 g1 : Nat → Int32} (ha : a ∈ L) (hfa : f a = aI G n g0) (hb : b ∈ L) (hfb : f b = aI G n g1) (hn : n < 2 ^ 31) : Ct l G yX8_copyRow (.code yX8_copyRow cX8_copyRow 2 none) 1 60 0 0 [.ref a, .ref b] L f px0 (stay L (fun r9 f1 => f1 = va_up f b (aI G n (va_cpy g0 g1 0 0 n)) ∧ r9 = none)) := by
  refine Ct.ofo (own := RX8) hl rfl (by decide) [some (.ref a), some (.ref b)] rfl (Nat.le_of_ble_eq_true rfl) ?_
  intro p e s m below meth c A hname X
  refine j_aload_n X (i := 0) dX8_copyRow_0 rfl rfl ?_
  refine j_iconst X (0) dX8_copyRow_1 (by decide) ?_
  refine j_aload_n X (i := 1) dX8_copyRow_2 rfl rfl ?_
  refine j_iconst X (0) dX8_copyRow_3 (by decide) ?_
  refine j_aload_n X (i := 0) dX8_copyRow_4 rfl rfl ?_
  refine j_alenN X (k9 := 0) dX8_copyRow_5 ha hfa rfl ?_
  refine j_aload_n X (i := 1) dX8_copyRow_6 rfl rfl ?_
  refine j_alenN X (k9 := 0) dX8_copyRow_7 hb hfb rfl ?_
  refine j_mmin X ml_X8_375 dX8_copyRow_8 ⟨(by decide), (Nat.le_of_ble_eq_true rfl)⟩ ⟨(by decide), (by decide)⟩ ?_
  rw [ite_self]
  refine j_copyi X ml_X8_414 dX8_copyRow_11 ha hfa hb hfb (by decide) (by decide) (nI_pos hn) (by rw [nI_clamp hn]; exact Nat.le_of_eq (Nat.zero_add n)) (by rw [nI_clamp hn]; exact Nat.le_of_eq (Nat.zero_add n)) ⟨(by decide), (Nat.le_of_ble_eq_true rfl)⟩ ?_
  exact j_vret X dX8_copyRow_14 rfl ⟨(by decide), (by decide)⟩ (by rw [nI_clamp hn]; exact ⟨rfl, rfl, rfl⟩)
set_option maxRecDepth 100000 in
theorem c_fill {l : Launch} (hl : l.stackTraces = false) {G : GG} {L : List Nat} {f : Nat → va_E} {a n : Nat} {g : Nat → Int32} {x : Int32} (ha : a ∈ L) (hfa : f a = aI G n g) (hn : n < 2 ^ 31) : Ct l G yJ7_fill_53178 (.code yJ7_fill_53178 cJ7_fill_53178 4 none) 0 0 0 0 [.ref a, .int x] L f px0 (stay L (fun r9 f1 => f1 = va_up f a (aI G n (fillI n g x)) ∧ r9 = none)) := by
  refine Ct.ofq (own := RJ7) hl rfl (by decide) [some (.ref a), some (.int x), none, none] rfl (Nat.le_of_ble_eq_true rfl) ?_
  intro p e s m below meth c A ar Q hQ X
  refine j_iconst X (0) dJ7_fill_53178_0 (by decide) ?_
  refine j_istore_n X (i := 2) dJ7_fill_53178_1 rfl (by decide) (lvOK_s rfl okPrev_int) ?_
  dsimp only [List.set]
  refine j_aload_n X (i := 0) dJ7_fill_53178_2 rfl rfl ?_
  refine j_alenN X (k9 := 0) dJ7_fill_53178_3 ha hfa rfl ?_
  refine j_istore_n X (i := 3) dJ7_fill_53178_4 rfl (by decide) (lvOK_s rfl okPrev_int) ?_
  dsimp only [List.set]
  have loop : ∀ d j : Nat, j + d = n → ∀ f1 : Nat → va_E, f1 = va_up f a (aI G n (fillI j g x)) → J G p l e { frames := 0, cells := 0, slots := 0, locals := 0 } s m ar below meth c A Q 4 0 0 5 [some (.ref a), some (.int x), some (.int (nI j)), some (.int (nI n))] [] L f1 := by
    intro d
    induction d with
    | zero =>
      intro j hj f1 h1
      have hj2 : j = n := by omega
      subst hj2
      refine j_iload_n X (i := 2) dJ7_fill_53178_5 rfl rfl ?_
      refine j_iload_n X (i := 3) dJ7_fill_53178_6 rfl rfl ?_
      refine j_icmp_ge X (tgt := 20) dJ7_fill_53178_7 (by decide) (fun h2 => ?_) (fun h2 => ?_)
      · exact q_vret X hQ dJ7_fill_53178_20 rfl ⟨(by decide), (by decide)⟩ ⟨rfl, h1, rfl⟩
      · exact absurd ((nI_leI hn hn).mpr (Nat.le_refl j)) h2
    | succ d ih =>
      intro j hj f1 h1
      refine j_iload_n X (i := 2) dJ7_fill_53178_5 rfl rfl ?_
      refine j_iload_n X (i := 3) dJ7_fill_53178_6 rfl rfl ?_
      refine j_icmp_ge X (tgt := 20) dJ7_fill_53178_7 (by decide) (fun h2 => ?_) (fun h2 => ?_)
      · exact absurd ((nI_leI hn (by omega)).mp h2) (by omega)
      · refine j_aload_n X (i := 0) dJ7_fill_53178_10 rfl rfl ?_
        refine j_iload_n X (i := 2) dJ7_fill_53178_11 rfl rfl ?_
        refine j_iload_n X (i := 1) dJ7_fill_53178_12 rfl rfl ?_
        refine j_iast X dJ7_fill_53178_13 ha (by rw [h1]; exact va_up_self _ _ _) (vp_in_nI (by omega) hn) ?_
        refine j_iinc X (nI (j + 1)) dJ7_fill_53178_14 rfl (nI_succ j).symm (by decide) (lvOK_s rfl okPrev_int) ?_
        dsimp only [List.set]
        refine j_goto X (tgt := 5) dJ7_fill_53178_17 (by decide) ?_
        refine ih (j + 1) (by omega) _ ?_
        rw [h1, up_up, nI_clamp (by omega), fillI_s]
  refine loop n 0 (by omega) f ?_
  have e0 : fillI 0 g x = g := by funext i; simp [fillI]
  rw [e0]
  exact (up_id hfa).symm
theorem c_cR_21 {l : Launch} (hl : l.stackTraces = false) {G : GG} {L : List Nat} (hL : LOK L) {a b c a' : Mem} {k k2 : Nat} (h : ty k = 21) (h2 : ty k2 = 21) (hR : upR a k2 (va_cpy (a k) (a k2) 0 0 25) = a') : Ct l G yX8_copyRow (.code yX8_copyRow cX8_copyRow 2 none) 1 60 0 0 [.ref (ad L k), .ref (ad L k2)] L (FW G L a b c) px0 (stay L (fun r f1 => f1 = FW G L a' b c ∧ r = none)) := by
  subst hR
  have h1 := c_copyRow hl (G := G) (f := FW G L a b c) (inL hL h (by decide)) (FW21 hL h) (inL hL h2 (by decide)) (FW21 hL h2) (by decide)
  rw [FW_upF hL (ty_lt h2 (by decide)) _ (by rw [cnt_21 h2, rv_upa (lo_of h2 (by decide))]) rv_upa_n] at h1
  exact h1
theorem c_fI_21 {l : Launch} (hl : l.stackTraces = false) {G : GG} {L : List Nat} (hL : LOK L) {a b c a' : Mem} {k : Nat} (h : ty k = 21) {x : Int32} (hR : upR a k (fillI 25 (a k) x) = a') : Ct l G yJ7_fill_53178 (.code yJ7_fill_53178 cJ7_fill_53178 4 none) 0 0 0 0 [.ref (ad L k), .int x] L (FW G L a b c) px0 (stay L (fun r f1 => f1 = FW G L a' b c ∧ r = none)) := by
  subst hR
  have h1 := c_fill hl (G := G) (f := FW G L a b c) (x := x) (inL hL h (by decide)) (FW21 hL h) (by decide)
  rw [FW_upF hL (ty_lt h (by decide)) _ (by rw [cnt_21 h, rv_upa (lo_of h (by decide))]) rv_upa_n] at h1
  exact h1
theorem c_cR_22 {l : Launch} (hl : l.stackTraces = false) {G : GG} {L : List Nat} (hL : LOK L) {a b c a' : Mem} {k k2 : Nat} (h : ty k = 22) (h2 : ty k2 = 22) (hR : upR a k2 (va_cpy (a k) (a k2) 0 0 240) = a') : Ct l G yX8_copyRow (.code yX8_copyRow cX8_copyRow 2 none) 1 60 0 0 [.ref (ad L k), .ref (ad L k2)] L (FW G L a b c) px0 (stay L (fun r f1 => f1 = FW G L a' b c ∧ r = none)) := by
  subst hR
  have h1 := c_copyRow hl (G := G) (f := FW G L a b c) (inL hL h (by decide)) (FW22 hL h) (inL hL h2 (by decide)) (FW22 hL h2) (by decide)
  rw [FW_upF hL (ty_lt h2 (by decide)) _ (by rw [cnt_22 h2, rv_upa (lo_of h2 (by decide))]) rv_upa_n] at h1
  exact h1
theorem c_fI_22 {l : Launch} (hl : l.stackTraces = false) {G : GG} {L : List Nat} (hL : LOK L) {a b c a' : Mem} {k : Nat} (h : ty k = 22) {x : Int32} (hR : upR a k (fillI 240 (a k) x) = a') : Ct l G yJ7_fill_53178 (.code yJ7_fill_53178 cJ7_fill_53178 4 none) 0 0 0 0 [.ref (ad L k), .int x] L (FW G L a b c) px0 (stay L (fun r f1 => f1 = FW G L a' b c ∧ r = none)) := by
  subst hR
  have h1 := c_fill hl (G := G) (f := FW G L a b c) (x := x) (inL hL h (by decide)) (FW22 hL h) (by decide)
  rw [FW_upF hL (ty_lt h (by decide)) _ (by rw [cnt_22 h, rv_upa (lo_of h (by decide))]) rv_upa_n] at h1
  exact h1
theorem c_cR_23 {l : Launch} (hl : l.stackTraces = false) {G : GG} {L : List Nat} (hL : LOK L) {a b c a' : Mem} {k k2 : Nat} (h : ty k = 23) (h2 : ty k2 = 23) (hR : upR a k2 (va_cpy (a k) (a k2) 0 0 5) = a') : Ct l G yX8_copyRow (.code yX8_copyRow cX8_copyRow 2 none) 1 60 0 0 [.ref (ad L k), .ref (ad L k2)] L (FW G L a b c) px0 (stay L (fun r f1 => f1 = FW G L a' b c ∧ r = none)) := by
  subst hR
  have h1 := c_copyRow hl (G := G) (f := FW G L a b c) (inL hL h (by decide)) (FW23 hL h) (inL hL h2 (by decide)) (FW23 hL h2) (by decide)
  rw [FW_upF hL (ty_lt h2 (by decide)) _ (by rw [cnt_23 h2, rv_upa (lo_of h2 (by decide))]) rv_upa_n] at h1
  exact h1
theorem c_fI_23 {l : Launch} (hl : l.stackTraces = false) {G : GG} {L : List Nat} (hL : LOK L) {a b c a' : Mem} {k : Nat} (h : ty k = 23) {x : Int32} (hR : upR a k (fillI 5 (a k) x) = a') : Ct l G yJ7_fill_53178 (.code yJ7_fill_53178 cJ7_fill_53178 4 none) 0 0 0 0 [.ref (ad L k), .int x] L (FW G L a b c) px0 (stay L (fun r f1 => f1 = FW G L a' b c ∧ r = none)) := by
  subst hR
  have h1 := c_fill hl (G := G) (f := FW G L a b c) (x := x) (inL hL h (by decide)) (FW23 hL h) (by decide)
  rw [FW_upF hL (ty_lt h (by decide)) _ (by rw [cnt_23 h, rv_upa (lo_of h (by decide))]) rv_upa_n] at h1
  exact h1
set_option maxRecDepth 100000 in
theorem c_sA_26 {l : Launch} (hl : l.stackTraces = false) {G : GG} {L : List Nat} (hL : LOK L) {a b c : Mem} {k : Nat} (h : ty k = 26) {i : Int32} {o : Option Nat} (hR : stA 6 pastR i = o) : Ct l G yX8_stateAt (.code yX8_stateAt cX8_stateAt 2 (some (.object "GameClock$State"))) 0 0 0 0 [.ref (ad L k), .int i] L (FW G L a b c) px0 (stay L (fun r f1 => f1 = FW G L a b c ∧ r = some (ov L o))) := by
  subst hR
  refine Ct.ofo (own := RX8) hl rfl (by decide) [some (.ref (ad L k)), some (.int i)] rfl (Nat.le_of_ble_eq_true rfl) ?_
  intro p e s m below meth c A hname X
  have hn : 6 < 2 ^ 31 := by decide
  refine j_iload_n X (i := 1) dX8_stateAt_0 rfl rfl ?_
  refine j_if_lt X (tgt := 16) dX8_stateAt_1 (by decide) (fun h_1 => ?_) (fun h_1 => ?_)
  · refine j_null X dX8_stateAt_16 ?_
    exact j_anret X dX8_stateAt_17 rfl (Or.inl ⟨_, rfl⟩) ⟨(by decide), (by decide)⟩ ⟨rfl, rfl, by rw [stA_out (Or.inl h_1)]; rfl⟩
  · refine j_iload_n X (i := 1) dX8_stateAt_4 rfl rfl ?_
    refine j_aload_n X (i := 0) dX8_stateAt_5 rfl rfl ?_
    refine j_alenN X (k9 := 5) dX8_stateAt_6 (inL hL h (by decide)) (FW26 hL h) rfl ?_
    refine j_icmp_ge X (tgt := 16) dX8_stateAt_7 (by decide) (fun h_7 => ?_) (fun h_7 => ?_)
    · refine j_null X dX8_stateAt_16 ?_
      exact j_anret X dX8_stateAt_17 rfl (Or.inl ⟨_, rfl⟩) ⟨(by decide), (by decide)⟩ ⟨rfl, rfl, by rw [stA_out (out_ge h_7 hn)]; rfl⟩
    · refine j_aload_n X (i := 0) dX8_stateAt_10 rfl rfl ?_
      refine j_iload_n X (i := 1) dX8_stateAt_11 rfl rfl ?_
      have hin := in_ge h_1 h_7 hn
      have hlt : i.toNatClampNeg < 6 := by unfold vp_in at hin; omega
      refine j_aald X (b := ad L (pastR i.toNatClampNeg)) dX8_stateAt_12 (inL hL h (by decide)) (FW26 hL h) hin (if_pos hlt) ?_
      refine j_goto X (tgt := 17) dX8_stateAt_13 (by decide) ?_
      exact j_aret X dX8_stateAt_17 rfl (Or.inl ⟨_, rfl⟩) ⟨(by decide), (by decide)⟩ ⟨rfl, rfl, by rw [stA_in hin]; rfl⟩
set_option maxRecDepth 100000 in
theorem c_sA_27 {l : Launch} (hl : l.stackTraces = false) {G : GG} {L : List Nat} (hL : LOK L) {a b c : Mem} {k : Nat} (h : ty k = 27) {i : Int32} {o : Option Nat} (hR : stA 2 slotR i = o) : Ct l G yX8_stateAt (.code yX8_stateAt cX8_stateAt 2 (some (.object "GameClock$State"))) 0 0 0 0 [.ref (ad L k), .int i] L (FW G L a b c) px0 (stay L (fun r f1 => f1 = FW G L a b c ∧ r = some (ov L o))) := by
  subst hR
  refine Ct.ofo (own := RX8) hl rfl (by decide) [some (.ref (ad L k)), some (.int i)] rfl (Nat.le_of_ble_eq_true rfl) ?_
  intro p e s m below meth c A hname X
  have hn : 2 < 2 ^ 31 := by decide
  refine j_iload_n X (i := 1) dX8_stateAt_0 rfl rfl ?_
  refine j_if_lt X (tgt := 16) dX8_stateAt_1 (by decide) (fun h_1 => ?_) (fun h_1 => ?_)
  · refine j_null X dX8_stateAt_16 ?_
    exact j_anret X dX8_stateAt_17 rfl (Or.inl ⟨_, rfl⟩) ⟨(by decide), (by decide)⟩ ⟨rfl, rfl, by rw [stA_out (Or.inl h_1)]; rfl⟩
  · refine j_iload_n X (i := 1) dX8_stateAt_4 rfl rfl ?_
    refine j_aload_n X (i := 0) dX8_stateAt_5 rfl rfl ?_
    refine j_alenN X (k9 := 5) dX8_stateAt_6 (inL hL h (by decide)) (FW27 hL h) rfl ?_
    refine j_icmp_ge X (tgt := 16) dX8_stateAt_7 (by decide) (fun h_7 => ?_) (fun h_7 => ?_)
    · refine j_null X dX8_stateAt_16 ?_
      exact j_anret X dX8_stateAt_17 rfl (Or.inl ⟨_, rfl⟩) ⟨(by decide), (by decide)⟩ ⟨rfl, rfl, by rw [stA_out (out_ge h_7 hn)]; rfl⟩
    · refine j_aload_n X (i := 0) dX8_stateAt_10 rfl rfl ?_
      refine j_iload_n X (i := 1) dX8_stateAt_11 rfl rfl ?_
      have hin := in_ge h_1 h_7 hn
      have hlt : i.toNatClampNeg < 2 := by unfold vp_in at hin; omega
      refine j_aald X (b := ad L (slotR i.toNatClampNeg)) dX8_stateAt_12 (inL hL h (by decide)) (FW27 hL h) hin (if_pos hlt) ?_
      refine j_goto X (tgt := 17) dX8_stateAt_13 (by decide) ?_
      exact j_aret X dX8_stateAt_17 rfl (Or.inl ⟨_, rfl⟩) ⟨(by decide), (by decide)⟩ ⟨rfl, rfl, by rw [stA_in hin]; rfl⟩

