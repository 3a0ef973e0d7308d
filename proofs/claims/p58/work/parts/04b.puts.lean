section JROWS
variable {G : GG} {p : Program} {l : Launch} {e : Env} {R : Room} {s : State} {m : MethodId} {args : Array Value} {below : List Frame} {meth : Method} {c9 : Code} {A : Nat → Prop} {Q : State → Prop} {own : String} {cc : ByteArray} {nL cells slots pc : Nat} {ret : Option FieldType} {tb : List ExceptionTableEntry} {lv : List (Option Value)} {st : List Value} {L : List Nat} {f : Nat → va_E}
variable {a b c : Mem}
theorem J.ext {f1 : Nat → va_E} (h : ∀ x ∈ L, f1 x = f x) (k : J G p l e R s m args below meth c9 A Q nL cells slots pc lv st L f) : J G p l e R s m args below meth c9 A Q nL cells slots pc lv st L f1 := by
  have e : va_pl L f1 = va_pl L f := List.map_congr_left (fun x hx => by rw [h x hx])
  intro H locs ls hP hD
  rw [e] at hP hD
  exact k H locs ls hP hD
theorem J.sub {lv1 : List (Option Value)} (h : ∀ (i : Nat) (v : Value), lv1[i]? = some (some v) → lv[i]? = some (some v)) (k : J G p l e R s m args below meth c9 A Q nL cells slots pc lv1 st L f) : J G p l e R s m args below meth c9 A Q nL cells slots pc lv st L f := fun H locs ls hP hD hS hl => k H locs ls hP hD hS (lvl_sub hl h)
theorem J.eqi {x y : Int32} (h : x = y) (k : J G p l e R s m args below meth c9 A Q nL cells slots pc lv (.int y :: st) L f) : J G p l e R s m args below meth c9 A Q nL cells slots pc lv (.int x :: st) L f := h ▸ k
theorem J.eql {x y : Int64} (h : x = y) (k : J G p l e R s m args below meth c9 A Q nL cells slots pc lv (.long y :: st) L f) : J G p l e R s m args below meth c9 A Q nL cells slots pc lv (.long x :: st) L f := h ▸ k
theorem J.eqd {x y : UInt64} (h : x = y) (k : J G p l e R s m args below meth c9 A Q nL cells slots pc lv (.double y :: st) L f) : J G p l e R s m args below meth c9 A Q nL cells slots pc lv (.double x :: st) L f := h ▸ k
theorem J.eqf {x y : UInt32} (h : x = y) (k : J G p l e R s m args below meth c9 A Q nL cells slots pc lv (.float y :: st) L f) : J G p l e R s m args below meth c9 A Q nL cells slots pc lv (.float x :: st) L f := h ▸ k
theorem J.eqr {x y : Nat} (h : x = y) (k : J G p l e R s m args below meth c9 A Q nL cells slots pc lv (.ref (ad L y) :: st) L f) : J G p l e R s m args below meth c9 A Q nL cells slots pc lv (.ref (ad L x) :: st) L f := h ▸ k
theorem J.widen {c1 s1 : Nat} (hc : cells ≤ c1) (hs : slots ≤ s1) (k : J G p l e R s m args below meth c9 A Q nL c1 s1 pc lv st L f) : J G p l e R s m args below meth c9 A Q nL cells slots pc lv st L f := fun H locs ls hP hD hS hl => W.widen hc hs (k H locs ls hP hD hS hl)
theorem tp_X0_1 (X : Cx G p l s m args meth c9 A own cc nL ret tb) (hL : LOK L) {k : Nat} (h : ty k = 0) {x : Int32} {a1 : Mem} (he : up2 a k 1 x = a1) {index : Nat} (hlink : Cond.fieldLink own index (TX0 1).1 (TX0 1).2.1 (TX0 1).2.2.1 ∈ BIG) (hdg : decode cc pc = .ok (.putfield index, 3)) (kk : J G p l e R s m args below meth c9 A Q nL cells slots (pc + 3) lv st L (FW G L a1 b c)) : J G p l e R s m args below meth c9 A Q nL cells slots pc lv (.int x :: .ref (ad L k) :: st) L (FW G L a b c) := by
  subst he
  refine j_putf X 0 1 rfl cw_X0 tyX0 tyX0_ok nmX0 hlink (by decide) rfl hdg (inL hL h (by decide)) (FW0 hL h) rfl rfl (Nat.le_of_ble_eq_true rfl) ?_
  refine J.ext (FW_up hL (ty_lt h (by decide)) _ ?_ rv_up2a_n) kk
  rw [cnt_0 h, rv_up2a (lo_of h (by decide))]
  simp [upd]
theorem tp_X1_1 (X : Cx G p l s m args meth c9 A own cc nL ret tb) (hL : LOK L) {k : Nat} (h : ty k = 1) {x : Int32} {a1 : Mem} (he : up2 a k 1 x = a1) {index : Nat} (hlink : Cond.fieldLink own index (TX1 1).1 (TX1 1).2.1 (TX1 1).2.2.1 ∈ BIG) (hdg : decode cc pc = .ok (.putfield index, 3)) (kk : J G p l e R s m args below meth c9 A Q nL cells slots (pc + 3) lv st L (FW G L a1 b c)) : J G p l e R s m args below meth c9 A Q nL cells slots pc lv (.int x :: .ref (ad L k) :: st) L (FW G L a b c) := by
  subst he
  refine j_putf X 1 1 rfl cw_X1 tyX1 tyX1_ok nmX1 hlink (by decide) rfl hdg (inL hL h (by decide)) (FW1 hL h) rfl rfl (Nat.le_of_ble_eq_true rfl) ?_
  refine J.ext (FW_up hL (ty_lt h (by decide)) _ ?_ rv_up2a_n) kk
  rw [cnt_1 h, rv_up2a (lo_of h (by decide))]
  simp [upd]
theorem tp_X1_2 (X : Cx G p l s m args meth c9 A own cc nL ret tb) (hL : LOK L) {k : Nat} (h : ty k = 1) {x : Int32} {a1 : Mem} (he : up2 a k 2 x = a1) {index : Nat} (hlink : Cond.fieldLink own index (TX1 2).1 (TX1 2).2.1 (TX1 2).2.2.1 ∈ BIG) (hdg : decode cc pc = .ok (.putfield index, 3)) (kk : J G p l e R s m args below meth c9 A Q nL cells slots (pc + 3) lv st L (FW G L a1 b c)) : J G p l e R s m args below meth c9 A Q nL cells slots pc lv (.int x :: .ref (ad L k) :: st) L (FW G L a b c) := by
  subst he
  refine j_putf X 1 2 rfl cw_X1 tyX1 tyX1_ok nmX1 hlink (by decide) rfl hdg (inL hL h (by decide)) (FW1 hL h) rfl rfl (Nat.le_of_ble_eq_true rfl) ?_
  refine J.ext (FW_up hL (ty_lt h (by decide)) _ ?_ rv_up2a_n) kk
  rw [cnt_1 h, rv_up2a (lo_of h (by decide))]
  simp [upd]
theorem tp_X2_1 (X : Cx G p l s m args meth c9 A own cc nL ret tb) (hL : LOK L) {k : Nat} (h : ty k = 2) {x : Int32} {a1 : Mem} (he : up2 a k 1 x = a1) {index : Nat} (hlink : Cond.fieldLink own index (TX2 1).1 (TX2 1).2.1 (TX2 1).2.2.1 ∈ BIG) (hdg : decode cc pc = .ok (.putfield index, 3)) (kk : J G p l e R s m args below meth c9 A Q nL cells slots (pc + 3) lv st L (FW G L a1 b c)) : J G p l e R s m args below meth c9 A Q nL cells slots pc lv (.int x :: .ref (ad L k) :: st) L (FW G L a b c) := by
  subst he
  refine j_putf X 2 1 rfl cw_X2 tyX2 tyX2_ok nmX2 hlink (by decide) rfl hdg (inL hL h (by decide)) (FW2 hL h) rfl rfl (Nat.le_of_ble_eq_true rfl) ?_
  refine J.ext (FW_up hL (ty_lt h (by decide)) _ ?_ rv_up2a_n) kk
  rw [cnt_2 h, rv_up2a (lo_of h (by decide))]
  simp [upd]
theorem tp_X3_2 (X : Cx G p l s m args meth c9 A own cc nL ret tb) (hL : LOK L) {k : Nat} (h : ty k = 3) {x : Int32} {a1 : Mem} (hx : isB x) (he : up2 a k 2 x = a1) {index : Nat} (hlink : Cond.fieldLink own index (TX3 2).1 (TX3 2).2.1 (TX3 2).2.2.1 ∈ BIG) (hdg : decode cc pc = .ok (.putfield index, 3)) (kk : J G p l e R s m args below meth c9 A Q nL cells slots (pc + 3) lv st L (FW G L a1 b c)) : J G p l e R s m args below meth c9 A Q nL cells slots pc lv (.int x :: .ref (ad L k) :: st) L (FW G L a b c) := by
  subst he
  refine j_putf X 3 2 rfl cw_X3 tyX3 tyX3_ok nmX3 hlink (by decide) rfl hdg (inL hL h (by decide)) (FW3 hL h) (nar_B hx) (fit_B hx) (Nat.le_of_ble_eq_true rfl) ?_
  refine J.ext (FW_up hL (ty_lt h (by decide)) _ ?_ rv_up2a_n) kk
  rw [cnt_3 h, rv_up2a (lo_of h (by decide))]
  simp [upd, nb_id hx]
theorem tp_X3_3 (X : Cx G p l s m args meth c9 A own cc nL ret tb) (hL : LOK L) {k : Nat} (h : ty k = 3) {x : Int32} {a1 : Mem} (he : up2 a k 3 x = a1) {index : Nat} (hlink : Cond.fieldLink own index (TX3 3).1 (TX3 3).2.1 (TX3 3).2.2.1 ∈ BIG) (hdg : decode cc pc = .ok (.putfield index, 3)) (kk : J G p l e R s m args below meth c9 A Q nL cells slots (pc + 3) lv st L (FW G L a1 b c)) : J G p l e R s m args below meth c9 A Q nL cells slots pc lv (.int x :: .ref (ad L k) :: st) L (FW G L a b c) := by
  subst he
  refine j_putf X 3 3 rfl cw_X3 tyX3 tyX3_ok nmX3 hlink (by decide) rfl hdg (inL hL h (by decide)) (FW3 hL h) rfl rfl (Nat.le_of_ble_eq_true rfl) ?_
  refine J.ext (FW_up hL (ty_lt h (by decide)) _ ?_ rv_up2a_n) kk
  rw [cnt_3 h, rv_up2a (lo_of h (by decide))]
  simp [upd]
theorem tp_X3_4 (X : Cx G p l s m args meth c9 A own cc nL ret tb) (hL : LOK L) {k : Nat} (h : ty k = 3) {x : Int32} {a1 : Mem} (he : up2 a k 4 x = a1) {index : Nat} (hlink : Cond.fieldLink own index (TX3 4).1 (TX3 4).2.1 (TX3 4).2.2.1 ∈ BIG) (hdg : decode cc pc = .ok (.putfield index, 3)) (kk : J G p l e R s m args below meth c9 A Q nL cells slots (pc + 3) lv st L (FW G L a1 b c)) : J G p l e R s m args below meth c9 A Q nL cells slots pc lv (.int x :: .ref (ad L k) :: st) L (FW G L a b c) := by
  subst he
  refine j_putf X 3 4 rfl cw_X3 tyX3 tyX3_ok nmX3 hlink (by decide) rfl hdg (inL hL h (by decide)) (FW3 hL h) rfl rfl (Nat.le_of_ble_eq_true rfl) ?_
  refine J.ext (FW_up hL (ty_lt h (by decide)) _ ?_ rv_up2a_n) kk
  rw [cnt_3 h, rv_up2a (lo_of h (by decide))]
  simp [upd]
theorem tp_X3_5 (X : Cx G p l s m args meth c9 A own cc nL ret tb) (hL : LOK L) {k : Nat} (h : ty k = 3) {x : Int32} {a1 : Mem} (he : up2 a k 5 x = a1) {index : Nat} (hlink : Cond.fieldLink own index (TX3 5).1 (TX3 5).2.1 (TX3 5).2.2.1 ∈ BIG) (hdg : decode cc pc = .ok (.putfield index, 3)) (kk : J G p l e R s m args below meth c9 A Q nL cells slots (pc + 3) lv st L (FW G L a1 b c)) : J G p l e R s m args below meth c9 A Q nL cells slots pc lv (.int x :: .ref (ad L k) :: st) L (FW G L a b c) := by
  subst he
  refine j_putf X 3 5 rfl cw_X3 tyX3 tyX3_ok nmX3 hlink (by decide) rfl hdg (inL hL h (by decide)) (FW3 hL h) rfl rfl (Nat.le_of_ble_eq_true rfl) ?_
  refine J.ext (FW_up hL (ty_lt h (by decide)) _ ?_ rv_up2a_n) kk
  rw [cnt_3 h, rv_up2a (lo_of h (by decide))]
  simp [upd]
theorem tp_X3_6 (X : Cx G p l s m args meth c9 A own cc nL ret tb) (hL : LOK L) {k : Nat} (h : ty k = 3) {x : Int32} {a1 : Mem} (he : up2 a k 6 x = a1) {index : Nat} (hlink : Cond.fieldLink own index (TX3 6).1 (TX3 6).2.1 (TX3 6).2.2.1 ∈ BIG) (hdg : decode cc pc = .ok (.putfield index, 3)) (kk : J G p l e R s m args below meth c9 A Q nL cells slots (pc + 3) lv st L (FW G L a1 b c)) : J G p l e R s m args below meth c9 A Q nL cells slots pc lv (.int x :: .ref (ad L k) :: st) L (FW G L a b c) := by
  subst he
  refine j_putf X 3 6 rfl cw_X3 tyX3 tyX3_ok nmX3 hlink (by decide) rfl hdg (inL hL h (by decide)) (FW3 hL h) rfl rfl (Nat.le_of_ble_eq_true rfl) ?_
  refine J.ext (FW_up hL (ty_lt h (by decide)) _ ?_ rv_up2a_n) kk
  rw [cnt_3 h, rv_up2a (lo_of h (by decide))]
  simp [upd]
theorem tp_X3_7 (X : Cx G p l s m args meth c9 A own cc nL ret tb) (hL : LOK L) {k : Nat} (h : ty k = 3) {x : Int32} {a1 : Mem} (he : up2 a k 7 x = a1) {index : Nat} (hlink : Cond.fieldLink own index (TX3 7).1 (TX3 7).2.1 (TX3 7).2.2.1 ∈ BIG) (hdg : decode cc pc = .ok (.putfield index, 3)) (kk : J G p l e R s m args below meth c9 A Q nL cells slots (pc + 3) lv st L (FW G L a1 b c)) : J G p l e R s m args below meth c9 A Q nL cells slots pc lv (.int x :: .ref (ad L k) :: st) L (FW G L a b c) := by
  subst he
  refine j_putf X 3 7 rfl cw_X3 tyX3 tyX3_ok nmX3 hlink (by decide) rfl hdg (inL hL h (by decide)) (FW3 hL h) rfl rfl (Nat.le_of_ble_eq_true rfl) ?_
  refine J.ext (FW_up hL (ty_lt h (by decide)) _ ?_ rv_up2a_n) kk
  rw [cnt_3 h, rv_up2a (lo_of h (by decide))]
  simp [upd]
theorem tp_X3_8 (X : Cx G p l s m args meth c9 A own cc nL ret tb) (hL : LOK L) {k : Nat} (h : ty k = 3) {x : Int32} {a1 : Mem} (he : up2 a k 8 x = a1) {index : Nat} (hlink : Cond.fieldLink own index (TX3 8).1 (TX3 8).2.1 (TX3 8).2.2.1 ∈ BIG) (hdg : decode cc pc = .ok (.putfield index, 3)) (kk : J G p l e R s m args below meth c9 A Q nL cells slots (pc + 3) lv st L (FW G L a1 b c)) : J G p l e R s m args below meth c9 A Q nL cells slots pc lv (.int x :: .ref (ad L k) :: st) L (FW G L a b c) := by
  subst he
  refine j_putf X 3 8 rfl cw_X3 tyX3 tyX3_ok nmX3 hlink (by decide) rfl hdg (inL hL h (by decide)) (FW3 hL h) rfl rfl (Nat.le_of_ble_eq_true rfl) ?_
  refine J.ext (FW_up hL (ty_lt h (by decide)) _ ?_ rv_up2a_n) kk
  rw [cnt_3 h, rv_up2a (lo_of h (by decide))]
  simp [upd]
theorem tp_X3_9 (X : Cx G p l s m args meth c9 A own cc nL ret tb) (hL : LOK L) {k : Nat} (h : ty k = 3) {x : Int32} {a1 : Mem} (he : up2 a k 9 x = a1) {index : Nat} (hlink : Cond.fieldLink own index (TX3 9).1 (TX3 9).2.1 (TX3 9).2.2.1 ∈ BIG) (hdg : decode cc pc = .ok (.putfield index, 3)) (kk : J G p l e R s m args below meth c9 A Q nL cells slots (pc + 3) lv st L (FW G L a1 b c)) : J G p l e R s m args below meth c9 A Q nL cells slots pc lv (.int x :: .ref (ad L k) :: st) L (FW G L a b c) := by
  subst he
  refine j_putf X 3 9 rfl cw_X3 tyX3 tyX3_ok nmX3 hlink (by decide) rfl hdg (inL hL h (by decide)) (FW3 hL h) rfl rfl (Nat.le_of_ble_eq_true rfl) ?_
  refine J.ext (FW_up hL (ty_lt h (by decide)) _ ?_ rv_up2a_n) kk
  rw [cnt_3 h, rv_up2a (lo_of h (by decide))]
  simp [upd]
theorem tp_X3_10 (X : Cx G p l s m args meth c9 A own cc nL ret tb) (hL : LOK L) {k : Nat} (h : ty k = 3) {x : Int32} {a1 : Mem} (he : up2 a k 10 x = a1) {index : Nat} (hlink : Cond.fieldLink own index (TX3 10).1 (TX3 10).2.1 (TX3 10).2.2.1 ∈ BIG) (hdg : decode cc pc = .ok (.putfield index, 3)) (kk : J G p l e R s m args below meth c9 A Q nL cells slots (pc + 3) lv st L (FW G L a1 b c)) : J G p l e R s m args below meth c9 A Q nL cells slots pc lv (.int x :: .ref (ad L k) :: st) L (FW G L a b c) := by
  subst he
  refine j_putf X 3 10 rfl cw_X3 tyX3 tyX3_ok nmX3 hlink (by decide) rfl hdg (inL hL h (by decide)) (FW3 hL h) rfl rfl (Nat.le_of_ble_eq_true rfl) ?_
  refine J.ext (FW_up hL (ty_lt h (by decide)) _ ?_ rv_up2a_n) kk
  rw [cnt_3 h, rv_up2a (lo_of h (by decide))]
  simp [upd]
theorem tp_X4_1 (X : Cx G p l s m args meth c9 A own cc nL ret tb) (hL : LOK L) {k : Nat} (h : ty k = 4) {x : Int32} {a1 : Mem} (he : up2 a k 1 x = a1) {index : Nat} (hlink : Cond.fieldLink own index (TX4 1).1 (TX4 1).2.1 (TX4 1).2.2.1 ∈ BIG) (hdg : decode cc pc = .ok (.putfield index, 3)) (kk : J G p l e R s m args below meth c9 A Q nL cells slots (pc + 3) lv st L (FW G L a1 b c)) : J G p l e R s m args below meth c9 A Q nL cells slots pc lv (.int x :: .ref (ad L k) :: st) L (FW G L a b c) := by
  subst he
  refine j_putf X 4 1 rfl cw_X4 tyX4 tyX4_ok nmX4 hlink (by decide) rfl hdg (inL hL h (by decide)) (FW4 hL h) rfl rfl (Nat.le_of_ble_eq_true rfl) ?_
  refine J.ext (FW_up hL (ty_lt h (by decide)) _ ?_ rv_up2a_n) kk
  rw [cnt_4 h, rv_up2a (lo_of h (by decide))]
  simp [upd]
theorem tp_X4_2 (X : Cx G p l s m args meth c9 A own cc nL ret tb) (hL : LOK L) {k : Nat} (h : ty k = 4) {x : Int32} {a1 : Mem} (he : up2 a k 2 x = a1) {index : Nat} (hlink : Cond.fieldLink own index (TX4 2).1 (TX4 2).2.1 (TX4 2).2.2.1 ∈ BIG) (hdg : decode cc pc = .ok (.putfield index, 3)) (kk : J G p l e R s m args below meth c9 A Q nL cells slots (pc + 3) lv st L (FW G L a1 b c)) : J G p l e R s m args below meth c9 A Q nL cells slots pc lv (.int x :: .ref (ad L k) :: st) L (FW G L a b c) := by
  subst he
  refine j_putf X 4 2 rfl cw_X4 tyX4 tyX4_ok nmX4 hlink (by decide) rfl hdg (inL hL h (by decide)) (FW4 hL h) rfl rfl (Nat.le_of_ble_eq_true rfl) ?_
  refine J.ext (FW_up hL (ty_lt h (by decide)) _ ?_ rv_up2a_n) kk
  rw [cnt_4 h, rv_up2a (lo_of h (by decide))]
  simp [upd]
theorem tp_X4_3 (X : Cx G p l s m args meth c9 A own cc nL ret tb) (hL : LOK L) {k : Nat} (h : ty k = 4) {x : Int32} {a1 : Mem} (he : up2 a k 3 x = a1) {index : Nat} (hlink : Cond.fieldLink own index (TX4 3).1 (TX4 3).2.1 (TX4 3).2.2.1 ∈ BIG) (hdg : decode cc pc = .ok (.putfield index, 3)) (kk : J G p l e R s m args below meth c9 A Q nL cells slots (pc + 3) lv st L (FW G L a1 b c)) : J G p l e R s m args below meth c9 A Q nL cells slots pc lv (.int x :: .ref (ad L k) :: st) L (FW G L a b c) := by
  subst he
  refine j_putf X 4 3 rfl cw_X4 tyX4 tyX4_ok nmX4 hlink (by decide) rfl hdg (inL hL h (by decide)) (FW4 hL h) rfl rfl (Nat.le_of_ble_eq_true rfl) ?_
  refine J.ext (FW_up hL (ty_lt h (by decide)) _ ?_ rv_up2a_n) kk
  rw [cnt_4 h, rv_up2a (lo_of h (by decide))]
  simp [upd]
theorem tp_X4_4 (X : Cx G p l s m args meth c9 A own cc nL ret tb) (hL : LOK L) {k : Nat} (h : ty k = 4) {x : Int32} {a1 : Mem} (he : up2 a k 4 x = a1) {index : Nat} (hlink : Cond.fieldLink own index (TX4 4).1 (TX4 4).2.1 (TX4 4).2.2.1 ∈ BIG) (hdg : decode cc pc = .ok (.putfield index, 3)) (kk : J G p l e R s m args below meth c9 A Q nL cells slots (pc + 3) lv st L (FW G L a1 b c)) : J G p l e R s m args below meth c9 A Q nL cells slots pc lv (.int x :: .ref (ad L k) :: st) L (FW G L a b c) := by
  subst he
  refine j_putf X 4 4 rfl cw_X4 tyX4 tyX4_ok nmX4 hlink (by decide) rfl hdg (inL hL h (by decide)) (FW4 hL h) rfl rfl (Nat.le_of_ble_eq_true rfl) ?_
  refine J.ext (FW_up hL (ty_lt h (by decide)) _ ?_ rv_up2a_n) kk
  rw [cnt_4 h, rv_up2a (lo_of h (by decide))]
  simp [upd]
theorem tp_X5_1 (X : Cx G p l s m args meth c9 A own cc nL ret tb) (hL : LOK L) {k : Nat} (h : ty k = 5) {x : Int32} {a1 : Mem} (he : up2 a k 1 x = a1) {index : Nat} (hlink : Cond.fieldLink own index (TX5 1).1 (TX5 1).2.1 (TX5 1).2.2.1 ∈ BIG) (hdg : decode cc pc = .ok (.putfield index, 3)) (kk : J G p l e R s m args below meth c9 A Q nL cells slots (pc + 3) lv st L (FW G L a1 b c)) : J G p l e R s m args below meth c9 A Q nL cells slots pc lv (.int x :: .ref (ad L k) :: st) L (FW G L a b c) := by
  subst he
  refine j_putf X 5 1 rfl cw_X5 tyX5 tyX5_ok nmX5 hlink (by decide) rfl hdg (inL hL h (by decide)) (FW5 hL h) rfl rfl (Nat.le_of_ble_eq_true rfl) ?_
  refine J.ext (FW_up hL (ty_lt h (by decide)) _ ?_ rv_up2a_n) kk
  rw [cnt_5 h, rv_up2a (lo_of h (by decide))]
  simp [upd]
theorem tp_X5_2 (X : Cx G p l s m args meth c9 A own cc nL ret tb) (hL : LOK L) {k : Nat} (h : ty k = 5) {x : Int32} {a1 : Mem} (he : up2 a k 2 x = a1) {index : Nat} (hlink : Cond.fieldLink own index (TX5 2).1 (TX5 2).2.1 (TX5 2).2.2.1 ∈ BIG) (hdg : decode cc pc = .ok (.putfield index, 3)) (kk : J G p l e R s m args below meth c9 A Q nL cells slots (pc + 3) lv st L (FW G L a1 b c)) : J G p l e R s m args below meth c9 A Q nL cells slots pc lv (.int x :: .ref (ad L k) :: st) L (FW G L a b c) := by
  subst he
  refine j_putf X 5 2 rfl cw_X5 tyX5 tyX5_ok nmX5 hlink (by decide) rfl hdg (inL hL h (by decide)) (FW5 hL h) rfl rfl (Nat.le_of_ble_eq_true rfl) ?_
  refine J.ext (FW_up hL (ty_lt h (by decide)) _ ?_ rv_up2a_n) kk
  rw [cnt_5 h, rv_up2a (lo_of h (by decide))]
  simp [upd]
theorem tp_X5_3 (X : Cx G p l s m args meth c9 A own cc nL ret tb) (hL : LOK L) {k : Nat} (h : ty k = 5) {x : Int32} {a1 : Mem} (he : up2 a k 3 x = a1) {index : Nat} (hlink : Cond.fieldLink own index (TX5 3).1 (TX5 3).2.1 (TX5 3).2.2.1 ∈ BIG) (hdg : decode cc pc = .ok (.putfield index, 3)) (kk : J G p l e R s m args below meth c9 A Q nL cells slots (pc + 3) lv st L (FW G L a1 b c)) : J G p l e R s m args below meth c9 A Q nL cells slots pc lv (.int x :: .ref (ad L k) :: st) L (FW G L a b c) := by
  subst he
  refine j_putf X 5 3 rfl cw_X5 tyX5 tyX5_ok nmX5 hlink (by decide) rfl hdg (inL hL h (by decide)) (FW5 hL h) rfl rfl (Nat.le_of_ble_eq_true rfl) ?_
  refine J.ext (FW_up hL (ty_lt h (by decide)) _ ?_ rv_up2a_n) kk
  rw [cnt_5 h, rv_up2a (lo_of h (by decide))]
  simp [upd]
theorem tp_X5_4 (X : Cx G p l s m args meth c9 A own cc nL ret tb) (hL : LOK L) {k : Nat} (h : ty k = 5) {x : Int32} {a1 : Mem} (he : up2 a k 4 x = a1) {index : Nat} (hlink : Cond.fieldLink own index (TX5 4).1 (TX5 4).2.1 (TX5 4).2.2.1 ∈ BIG) (hdg : decode cc pc = .ok (.putfield index, 3)) (kk : J G p l e R s m args below meth c9 A Q nL cells slots (pc + 3) lv st L (FW G L a1 b c)) : J G p l e R s m args below meth c9 A Q nL cells slots pc lv (.int x :: .ref (ad L k) :: st) L (FW G L a b c) := by
  subst he
  refine j_putf X 5 4 rfl cw_X5 tyX5 tyX5_ok nmX5 hlink (by decide) rfl hdg (inL hL h (by decide)) (FW5 hL h) rfl rfl (Nat.le_of_ble_eq_true rfl) ?_
  refine J.ext (FW_up hL (ty_lt h (by decide)) _ ?_ rv_up2a_n) kk
  rw [cnt_5 h, rv_up2a (lo_of h (by decide))]
  simp [upd]
theorem tp_X5_5 (X : Cx G p l s m args meth c9 A own cc nL ret tb) (hL : LOK L) {k : Nat} (h : ty k = 5) {x : Int32} {a1 : Mem} (he : up2 a k 5 x = a1) {index : Nat} (hlink : Cond.fieldLink own index (TX5 5).1 (TX5 5).2.1 (TX5 5).2.2.1 ∈ BIG) (hdg : decode cc pc = .ok (.putfield index, 3)) (kk : J G p l e R s m args below meth c9 A Q nL cells slots (pc + 3) lv st L (FW G L a1 b c)) : J G p l e R s m args below meth c9 A Q nL cells slots pc lv (.int x :: .ref (ad L k) :: st) L (FW G L a b c) := by
  subst he
  refine j_putf X 5 5 rfl cw_X5 tyX5 tyX5_ok nmX5 hlink (by decide) rfl hdg (inL hL h (by decide)) (FW5 hL h) rfl rfl (Nat.le_of_ble_eq_true rfl) ?_
  refine J.ext (FW_up hL (ty_lt h (by decide)) _ ?_ rv_up2a_n) kk
  rw [cnt_5 h, rv_up2a (lo_of h (by decide))]
  simp [upd]
theorem tp_X5_6 (X : Cx G p l s m args meth c9 A own cc nL ret tb) (hL : LOK L) {k : Nat} (h : ty k = 5) {x : Int32} {a1 : Mem} (hx : isB x) (he : up2 a k 6 x = a1) {index : Nat} (hlink : Cond.fieldLink own index (TX5 6).1 (TX5 6).2.1 (TX5 6).2.2.1 ∈ BIG) (hdg : decode cc pc = .ok (.putfield index, 3)) (kk : J G p l e R s m args below meth c9 A Q nL cells slots (pc + 3) lv st L (FW G L a1 b c)) : J G p l e R s m args below meth c9 A Q nL cells slots pc lv (.int x :: .ref (ad L k) :: st) L (FW G L a b c) := by
  subst he
  refine j_putf X 5 6 rfl cw_X5 tyX5 tyX5_ok nmX5 hlink (by decide) rfl hdg (inL hL h (by decide)) (FW5 hL h) (nar_B hx) (fit_B hx) (Nat.le_of_ble_eq_true rfl) ?_
  refine J.ext (FW_up hL (ty_lt h (by decide)) _ ?_ rv_up2a_n) kk
  rw [cnt_5 h, rv_up2a (lo_of h (by decide))]
  simp [upd, nb_id hx]
theorem tp_X5_7 (X : Cx G p l s m args meth c9 A own cc nL ret tb) (hL : LOK L) {k : Nat} (h : ty k = 5) {x : Int32} {a1 : Mem} (he : up2 a k 7 x = a1) {index : Nat} (hlink : Cond.fieldLink own index (TX5 7).1 (TX5 7).2.1 (TX5 7).2.2.1 ∈ BIG) (hdg : decode cc pc = .ok (.putfield index, 3)) (kk : J G p l e R s m args below meth c9 A Q nL cells slots (pc + 3) lv st L (FW G L a1 b c)) : J G p l e R s m args below meth c9 A Q nL cells slots pc lv (.int x :: .ref (ad L k) :: st) L (FW G L a b c) := by
  subst he
  refine j_putf X 5 7 rfl cw_X5 tyX5 tyX5_ok nmX5 hlink (by decide) rfl hdg (inL hL h (by decide)) (FW5 hL h) rfl rfl (Nat.le_of_ble_eq_true rfl) ?_
  refine J.ext (FW_up hL (ty_lt h (by decide)) _ ?_ rv_up2a_n) kk
  rw [cnt_5 h, rv_up2a (lo_of h (by decide))]
  simp [upd]
theorem tp_X5_8 (X : Cx G p l s m args meth c9 A own cc nL ret tb) (hL : LOK L) {k : Nat} (h : ty k = 5) {x : Int32} {a1 : Mem} (he : up2 a k 8 x = a1) {index : Nat} (hlink : Cond.fieldLink own index (TX5 8).1 (TX5 8).2.1 (TX5 8).2.2.1 ∈ BIG) (hdg : decode cc pc = .ok (.putfield index, 3)) (kk : J G p l e R s m args below meth c9 A Q nL cells slots (pc + 3) lv st L (FW G L a1 b c)) : J G p l e R s m args below meth c9 A Q nL cells slots pc lv (.int x :: .ref (ad L k) :: st) L (FW G L a b c) := by
  subst he
  refine j_putf X 5 8 rfl cw_X5 tyX5 tyX5_ok nmX5 hlink (by decide) rfl hdg (inL hL h (by decide)) (FW5 hL h) rfl rfl (Nat.le_of_ble_eq_true rfl) ?_
  refine J.ext (FW_up hL (ty_lt h (by decide)) _ ?_ rv_up2a_n) kk
  rw [cnt_5 h, rv_up2a (lo_of h (by decide))]
  simp [upd]
theorem tp_X5_9 (X : Cx G p l s m args meth c9 A own cc nL ret tb) (hL : LOK L) {k : Nat} (h : ty k = 5) {x : Int32} {a1 : Mem} (hx : isB x) (he : up2 a k 9 x = a1) {index : Nat} (hlink : Cond.fieldLink own index (TX5 9).1 (TX5 9).2.1 (TX5 9).2.2.1 ∈ BIG) (hdg : decode cc pc = .ok (.putfield index, 3)) (kk : J G p l e R s m args below meth c9 A Q nL cells slots (pc + 3) lv st L (FW G L a1 b c)) : J G p l e R s m args below meth c9 A Q nL cells slots pc lv (.int x :: .ref (ad L k) :: st) L (FW G L a b c) := by
  subst he
  refine j_putf X 5 9 rfl cw_X5 tyX5 tyX5_ok nmX5 hlink (by decide) rfl hdg (inL hL h (by decide)) (FW5 hL h) (nar_B hx) (fit_B hx) (Nat.le_of_ble_eq_true rfl) ?_
  refine J.ext (FW_up hL (ty_lt h (by decide)) _ ?_ rv_up2a_n) kk
  rw [cnt_5 h, rv_up2a (lo_of h (by decide))]
  simp [upd, nb_id hx]
theorem tp_X5_10 (X : Cx G p l s m args meth c9 A own cc nL ret tb) (hL : LOK L) {k : Nat} (h : ty k = 5) {x : Int32} {a1 : Mem} (hx : isB x) (he : up2 a k 10 x = a1) {index : Nat} (hlink : Cond.fieldLink own index (TX5 10).1 (TX5 10).2.1 (TX5 10).2.2.1 ∈ BIG) (hdg : decode cc pc = .ok (.putfield index, 3)) (kk : J G p l e R s m args below meth c9 A Q nL cells slots (pc + 3) lv st L (FW G L a1 b c)) : J G p l e R s m args below meth c9 A Q nL cells slots pc lv (.int x :: .ref (ad L k) :: st) L (FW G L a b c) := by
  subst he
  refine j_putf X 5 10 rfl cw_X5 tyX5 tyX5_ok nmX5 hlink (by decide) rfl hdg (inL hL h (by decide)) (FW5 hL h) (nar_B hx) (fit_B hx) (Nat.le_of_ble_eq_true rfl) ?_
  refine J.ext (FW_up hL (ty_lt h (by decide)) _ ?_ rv_up2a_n) kk
  rw [cnt_5 h, rv_up2a (lo_of h (by decide))]
  simp [upd, nb_id hx]
theorem tp_X5_11 (X : Cx G p l s m args meth c9 A own cc nL ret tb) (hL : LOK L) {k : Nat} (h : ty k = 5) {x : Int32} {a1 : Mem} (he : up2 a k 11 x = a1) {index : Nat} (hlink : Cond.fieldLink own index (TX5 11).1 (TX5 11).2.1 (TX5 11).2.2.1 ∈ BIG) (hdg : decode cc pc = .ok (.putfield index, 3)) (kk : J G p l e R s m args below meth c9 A Q nL cells slots (pc + 3) lv st L (FW G L a1 b c)) : J G p l e R s m args below meth c9 A Q nL cells slots pc lv (.int x :: .ref (ad L k) :: st) L (FW G L a b c) := by
  subst he
  refine j_putf X 5 11 rfl cw_X5 tyX5 tyX5_ok nmX5 hlink (by decide) rfl hdg (inL hL h (by decide)) (FW5 hL h) rfl rfl (Nat.le_of_ble_eq_true rfl) ?_
  refine J.ext (FW_up hL (ty_lt h (by decide)) _ ?_ rv_up2a_n) kk
  rw [cnt_5 h, rv_up2a (lo_of h (by decide))]
  simp [upd]
theorem tp_X5_12 (X : Cx G p l s m args meth c9 A own cc nL ret tb) (hL : LOK L) {k : Nat} (h : ty k = 5) {x : Int32} {a1 : Mem} (he : up2 a k 12 x = a1) {index : Nat} (hlink : Cond.fieldLink own index (TX5 12).1 (TX5 12).2.1 (TX5 12).2.2.1 ∈ BIG) (hdg : decode cc pc = .ok (.putfield index, 3)) (kk : J G p l e R s m args below meth c9 A Q nL cells slots (pc + 3) lv st L (FW G L a1 b c)) : J G p l e R s m args below meth c9 A Q nL cells slots pc lv (.int x :: .ref (ad L k) :: st) L (FW G L a b c) := by
  subst he
  refine j_putf X 5 12 rfl cw_X5 tyX5 tyX5_ok nmX5 hlink (by decide) rfl hdg (inL hL h (by decide)) (FW5 hL h) rfl rfl (Nat.le_of_ble_eq_true rfl) ?_
  refine J.ext (FW_up hL (ty_lt h (by decide)) _ ?_ rv_up2a_n) kk
  rw [cnt_5 h, rv_up2a (lo_of h (by decide))]
  simp [upd]
theorem tp_X6_2 (X : Cx G p l s m args meth c9 A own cc nL ret tb) (hL : LOK L) {k : Nat} (h : ty k = 6) {x : Int32} {a1 : Mem} (he : up2 a k 2 x = a1) {index : Nat} (hlink : Cond.fieldLink own index (TX6 2).1 (TX6 2).2.1 (TX6 2).2.2.1 ∈ BIG) (hdg : decode cc pc = .ok (.putfield index, 3)) (kk : J G p l e R s m args below meth c9 A Q nL cells slots (pc + 3) lv st L (FW G L a1 b c)) : J G p l e R s m args below meth c9 A Q nL cells slots pc lv (.ref (ad L (sdr k x)) :: .ref (ad L k) :: st) L (FW G L a b c) := by
  subst he
  refine j_putf X 6 2 rfl cw_X6 tyX6 tyX6_ok nmX6 hlink (by decide) rfl hdg (inL hL h (by decide)) (FW6 hL h) rfl rfl (Nat.le_of_ble_eq_true rfl) ?_
  refine J.ext (FW_up hL (ty_lt h (by decide)) _ ?_ rv_up2a_n) kk
  rw [cnt_6 h, rv_up2a (lo_of h (by decide))]
  simp [upd]
theorem tp_X6_3 (X : Cx G p l s m args meth c9 A own cc nL ret tb) (hL : LOK L) {k : Nat} (h : ty k = 6) {x : Int32} {a1 : Mem} (he : up2 a k 3 x = a1) {index : Nat} (hlink : Cond.fieldLink own index (TX6 3).1 (TX6 3).2.1 (TX6 3).2.2.1 ∈ BIG) (hdg : decode cc pc = .ok (.putfield index, 3)) (kk : J G p l e R s m args below meth c9 A Q nL cells slots (pc + 3) lv st L (FW G L a1 b c)) : J G p l e R s m args below meth c9 A Q nL cells slots pc lv (.ref (ad L (sdr k x)) :: .ref (ad L k) :: st) L (FW G L a b c) := by
  subst he
  refine j_putf X 6 3 rfl cw_X6 tyX6 tyX6_ok nmX6 hlink (by decide) rfl hdg (inL hL h (by decide)) (FW6 hL h) rfl rfl (Nat.le_of_ble_eq_true rfl) ?_
  refine J.ext (FW_up hL (ty_lt h (by decide)) _ ?_ rv_up2a_n) kk
  rw [cnt_6 h, rv_up2a (lo_of h (by decide))]
  simp [upd]
theorem tp_X6_4 (X : Cx G p l s m args meth c9 A own cc nL ret tb) (hL : LOK L) {k : Nat} (h : ty k = 6) {x : Int32} {a1 : Mem} (hx : isB x) (he : up2 a k 4 x = a1) {index : Nat} (hlink : Cond.fieldLink own index (TX6 4).1 (TX6 4).2.1 (TX6 4).2.2.1 ∈ BIG) (hdg : decode cc pc = .ok (.putfield index, 3)) (kk : J G p l e R s m args below meth c9 A Q nL cells slots (pc + 3) lv st L (FW G L a1 b c)) : J G p l e R s m args below meth c9 A Q nL cells slots pc lv (.int x :: .ref (ad L k) :: st) L (FW G L a b c) := by
  subst he
  refine j_putf X 6 4 rfl cw_X6 tyX6 tyX6_ok nmX6 hlink (by decide) rfl hdg (inL hL h (by decide)) (FW6 hL h) (nar_B hx) (fit_B hx) (Nat.le_of_ble_eq_true rfl) ?_
  refine J.ext (FW_up hL (ty_lt h (by decide)) _ ?_ rv_up2a_n) kk
  rw [cnt_6 h, rv_up2a (lo_of h (by decide))]
  simp [upd, nb_id hx]
theorem tp_X6_5 (X : Cx G p l s m args meth c9 A own cc nL ret tb) (hL : LOK L) {k : Nat} (h : ty k = 6) {x : Int32} {a1 : Mem} (he : up2 a k 5 x = a1) {index : Nat} (hlink : Cond.fieldLink own index (TX6 5).1 (TX6 5).2.1 (TX6 5).2.2.1 ∈ BIG) (hdg : decode cc pc = .ok (.putfield index, 3)) (kk : J G p l e R s m args below meth c9 A Q nL cells slots (pc + 3) lv st L (FW G L a1 b c)) : J G p l e R s m args below meth c9 A Q nL cells slots pc lv (.int x :: .ref (ad L k) :: st) L (FW G L a b c) := by
  subst he
  refine j_putf X 6 5 rfl cw_X6 tyX6 tyX6_ok nmX6 hlink (by decide) rfl hdg (inL hL h (by decide)) (FW6 hL h) rfl rfl (Nat.le_of_ble_eq_true rfl) ?_
  refine J.ext (FW_up hL (ty_lt h (by decide)) _ ?_ rv_up2a_n) kk
  rw [cnt_6 h, rv_up2a (lo_of h (by decide))]
  simp [upd]
theorem tp_X6_6 (X : Cx G p l s m args meth c9 A own cc nL ret tb) (hL : LOK L) {k : Nat} (h : ty k = 6) {x : Int32} {a1 : Mem} (he : up2 a k 6 x = a1) {index : Nat} (hlink : Cond.fieldLink own index (TX6 6).1 (TX6 6).2.1 (TX6 6).2.2.1 ∈ BIG) (hdg : decode cc pc = .ok (.putfield index, 3)) (kk : J G p l e R s m args below meth c9 A Q nL cells slots (pc + 3) lv st L (FW G L a1 b c)) : J G p l e R s m args below meth c9 A Q nL cells slots pc lv (.int x :: .ref (ad L k) :: st) L (FW G L a b c) := by
  subst he
  refine j_putf X 6 6 rfl cw_X6 tyX6 tyX6_ok nmX6 hlink (by decide) rfl hdg (inL hL h (by decide)) (FW6 hL h) rfl rfl (Nat.le_of_ble_eq_true rfl) ?_
  refine J.ext (FW_up hL (ty_lt h (by decide)) _ ?_ rv_up2a_n) kk
  rw [cnt_6 h, rv_up2a (lo_of h (by decide))]
  simp [upd]
theorem tp_X6_7 (X : Cx G p l s m args meth c9 A own cc nL ret tb) (hL : LOK L) {k : Nat} (h : ty k = 6) {x : Int32} {a1 : Mem} (he : up2 a k 7 x = a1) {index : Nat} (hlink : Cond.fieldLink own index (TX6 7).1 (TX6 7).2.1 (TX6 7).2.2.1 ∈ BIG) (hdg : decode cc pc = .ok (.putfield index, 3)) (kk : J G p l e R s m args below meth c9 A Q nL cells slots (pc + 3) lv st L (FW G L a1 b c)) : J G p l e R s m args below meth c9 A Q nL cells slots pc lv (.int x :: .ref (ad L k) :: st) L (FW G L a b c) := by
  subst he
  refine j_putf X 6 7 rfl cw_X6 tyX6 tyX6_ok nmX6 hlink (by decide) rfl hdg (inL hL h (by decide)) (FW6 hL h) rfl rfl (Nat.le_of_ble_eq_true rfl) ?_
  refine J.ext (FW_up hL (ty_lt h (by decide)) _ ?_ rv_up2a_n) kk
  rw [cnt_6 h, rv_up2a (lo_of h (by decide))]
  simp [upd]
theorem tp_X6_8 (X : Cx G p l s m args meth c9 A own cc nL ret tb) (hL : LOK L) {k : Nat} (h : ty k = 6) {x : Int32} {a1 : Mem} (he : up2 a k 8 x = a1) {index : Nat} (hlink : Cond.fieldLink own index (TX6 8).1 (TX6 8).2.1 (TX6 8).2.2.1 ∈ BIG) (hdg : decode cc pc = .ok (.putfield index, 3)) (kk : J G p l e R s m args below meth c9 A Q nL cells slots (pc + 3) lv st L (FW G L a1 b c)) : J G p l e R s m args below meth c9 A Q nL cells slots pc lv (.int x :: .ref (ad L k) :: st) L (FW G L a b c) := by
  subst he
  refine j_putf X 6 8 rfl cw_X6 tyX6 tyX6_ok nmX6 hlink (by decide) rfl hdg (inL hL h (by decide)) (FW6 hL h) rfl rfl (Nat.le_of_ble_eq_true rfl) ?_
  refine J.ext (FW_up hL (ty_lt h (by decide)) _ ?_ rv_up2a_n) kk
  rw [cnt_6 h, rv_up2a (lo_of h (by decide))]
  simp [upd]
theorem tp_X6_9 (X : Cx G p l s m args meth c9 A own cc nL ret tb) (hL : LOK L) {k : Nat} (h : ty k = 6) {x : Int32} {a1 : Mem} (he : up2 a k 9 x = a1) {index : Nat} (hlink : Cond.fieldLink own index (TX6 9).1 (TX6 9).2.1 (TX6 9).2.2.1 ∈ BIG) (hdg : decode cc pc = .ok (.putfield index, 3)) (kk : J G p l e R s m args below meth c9 A Q nL cells slots (pc + 3) lv st L (FW G L a1 b c)) : J G p l e R s m args below meth c9 A Q nL cells slots pc lv (.int x :: .ref (ad L k) :: st) L (FW G L a b c) := by
  subst he
  refine j_putf X 6 9 rfl cw_X6 tyX6 tyX6_ok nmX6 hlink (by decide) rfl hdg (inL hL h (by decide)) (FW6 hL h) rfl rfl (Nat.le_of_ble_eq_true rfl) ?_
  refine J.ext (FW_up hL (ty_lt h (by decide)) _ ?_ rv_up2a_n) kk
  rw [cnt_6 h, rv_up2a (lo_of h (by decide))]
  simp [upd]
theorem tp_X6_10 (X : Cx G p l s m args meth c9 A own cc nL ret tb) (hL : LOK L) {k : Nat} (h : ty k = 6) {x : Int32} {a1 : Mem} (he : up2 a k 10 x = a1) {index : Nat} (hlink : Cond.fieldLink own index (TX6 10).1 (TX6 10).2.1 (TX6 10).2.2.1 ∈ BIG) (hdg : decode cc pc = .ok (.putfield index, 3)) (kk : J G p l e R s m args below meth c9 A Q nL cells slots (pc + 3) lv st L (FW G L a1 b c)) : J G p l e R s m args below meth c9 A Q nL cells slots pc lv (.int x :: .ref (ad L k) :: st) L (FW G L a b c) := by
  subst he
  refine j_putf X 6 10 rfl cw_X6 tyX6 tyX6_ok nmX6 hlink (by decide) rfl hdg (inL hL h (by decide)) (FW6 hL h) rfl rfl (Nat.le_of_ble_eq_true rfl) ?_
  refine J.ext (FW_up hL (ty_lt h (by decide)) _ ?_ rv_up2a_n) kk
  rw [cnt_6 h, rv_up2a (lo_of h (by decide))]
  simp [upd]
theorem tp_X6_11 (X : Cx G p l s m args meth c9 A own cc nL ret tb) (hL : LOK L) {k : Nat} (h : ty k = 6) {x : Int32} {a1 : Mem} (hx : isB x) (he : up2 a k 11 x = a1) {index : Nat} (hlink : Cond.fieldLink own index (TX6 11).1 (TX6 11).2.1 (TX6 11).2.2.1 ∈ BIG) (hdg : decode cc pc = .ok (.putfield index, 3)) (kk : J G p l e R s m args below meth c9 A Q nL cells slots (pc + 3) lv st L (FW G L a1 b c)) : J G p l e R s m args below meth c9 A Q nL cells slots pc lv (.int x :: .ref (ad L k) :: st) L (FW G L a b c) := by
  subst he
  refine j_putf X 6 11 rfl cw_X6 tyX6 tyX6_ok nmX6 hlink (by decide) rfl hdg (inL hL h (by decide)) (FW6 hL h) (nar_B hx) (fit_B hx) (Nat.le_of_ble_eq_true rfl) ?_
  refine J.ext (FW_up hL (ty_lt h (by decide)) _ ?_ rv_up2a_n) kk
  rw [cnt_6 h, rv_up2a (lo_of h (by decide))]
  simp [upd, nb_id hx]
theorem tp_X7_2 (X : Cx G p l s m args meth c9 A own cc nL ret tb) (hL : LOK L) {k : Nat} (h : ty k = 7) {x : Int32} {a1 : Mem} (he : up2 a k 2 x = a1) {index : Nat} (hlink : Cond.fieldLink own index (TX7 2).1 (TX7 2).2.1 (TX7 2).2.2.1 ∈ BIG) (hdg : decode cc pc = .ok (.putfield index, 3)) (kk : J G p l e R s m args below meth c9 A Q nL cells slots (pc + 3) lv st L (FW G L a1 b c)) : J G p l e R s m args below meth c9 A Q nL cells slots pc lv (.int x :: .ref (ad L k) :: st) L (FW G L a b c) := by
  subst he
  refine j_putf X 7 2 rfl cw_X7 tyX7 tyX7_ok nmX7 hlink (by decide) rfl hdg (inL hL h (by decide)) (FW7 hL h) rfl rfl (Nat.le_of_ble_eq_true rfl) ?_
  refine J.ext (FW_up hL (ty_lt h (by decide)) _ ?_ rv_up2a_n) kk
  rw [cnt_7 h, rv_up2a (lo_of h (by decide))]
  simp [upd]
theorem tp_X7_3 (X : Cx G p l s m args meth c9 A own cc nL ret tb) (hL : LOK L) {k : Nat} (h : ty k = 7) {x : Int32} {a1 : Mem} (he : up2 a k 3 x = a1) {index : Nat} (hlink : Cond.fieldLink own index (TX7 3).1 (TX7 3).2.1 (TX7 3).2.2.1 ∈ BIG) (hdg : decode cc pc = .ok (.putfield index, 3)) (kk : J G p l e R s m args below meth c9 A Q nL cells slots (pc + 3) lv st L (FW G L a1 b c)) : J G p l e R s m args below meth c9 A Q nL cells slots pc lv (.int x :: .ref (ad L k) :: st) L (FW G L a b c) := by
  subst he
  refine j_putf X 7 3 rfl cw_X7 tyX7 tyX7_ok nmX7 hlink (by decide) rfl hdg (inL hL h (by decide)) (FW7 hL h) rfl rfl (Nat.le_of_ble_eq_true rfl) ?_
  refine J.ext (FW_up hL (ty_lt h (by decide)) _ ?_ rv_up2a_n) kk
  rw [cnt_7 h, rv_up2a (lo_of h (by decide))]
  simp [upd]
theorem tp_X7_4 (X : Cx G p l s m args meth c9 A own cc nL ret tb) (hL : LOK L) {k : Nat} (h : ty k = 7) {x : Int32} {a1 : Mem} (he : up2 a k 4 x = a1) {index : Nat} (hlink : Cond.fieldLink own index (TX7 4).1 (TX7 4).2.1 (TX7 4).2.2.1 ∈ BIG) (hdg : decode cc pc = .ok (.putfield index, 3)) (kk : J G p l e R s m args below meth c9 A Q nL cells slots (pc + 3) lv st L (FW G L a1 b c)) : J G p l e R s m args below meth c9 A Q nL cells slots pc lv (.int x :: .ref (ad L k) :: st) L (FW G L a b c) := by
  subst he
  refine j_putf X 7 4 rfl cw_X7 tyX7 tyX7_ok nmX7 hlink (by decide) rfl hdg (inL hL h (by decide)) (FW7 hL h) rfl rfl (Nat.le_of_ble_eq_true rfl) ?_
  refine J.ext (FW_up hL (ty_lt h (by decide)) _ ?_ rv_up2a_n) kk
  rw [cnt_7 h, rv_up2a (lo_of h (by decide))]
  simp [upd]
theorem tp_X7_5 (X : Cx G p l s m args meth c9 A own cc nL ret tb) (hL : LOK L) {k : Nat} (h : ty k = 7) {x : Int32} {a1 : Mem} (he : up2 a k 5 x = a1) {index : Nat} (hlink : Cond.fieldLink own index (TX7 5).1 (TX7 5).2.1 (TX7 5).2.2.1 ∈ BIG) (hdg : decode cc pc = .ok (.putfield index, 3)) (kk : J G p l e R s m args below meth c9 A Q nL cells slots (pc + 3) lv st L (FW G L a1 b c)) : J G p l e R s m args below meth c9 A Q nL cells slots pc lv (.int x :: .ref (ad L k) :: st) L (FW G L a b c) := by
  subst he
  refine j_putf X 7 5 rfl cw_X7 tyX7 tyX7_ok nmX7 hlink (by decide) rfl hdg (inL hL h (by decide)) (FW7 hL h) rfl rfl (Nat.le_of_ble_eq_true rfl) ?_
  refine J.ext (FW_up hL (ty_lt h (by decide)) _ ?_ rv_up2a_n) kk
  rw [cnt_7 h, rv_up2a (lo_of h (by decide))]
  simp [upd]
theorem tp_X8_6 (X : Cx G p l s m args meth c9 A own cc nL ret tb) (hL : LOK L) {k : Nat} (h : ty k = 8) {x : Int32} {a1 : Mem} (he : up2 a k 6 x = a1) {index : Nat} (hlink : Cond.fieldLink own index (TX8 6).1 (TX8 6).2.1 (TX8 6).2.2.1 ∈ BIG) (hdg : decode cc pc = .ok (.putfield index, 3)) (kk : J G p l e R s m args below meth c9 A Q nL cells slots (pc + 3) lv st L (FW G L a1 b c)) : J G p l e R s m args below meth c9 A Q nL cells slots pc lv (.int x :: .ref (ad L k) :: st) L (FW G L a b c) := by
  subst he
  refine j_putf X 8 6 rfl cw_X8 tyX8 tyX8_ok nmX8 hlink (by decide) rfl hdg (inL hL h (by decide)) (FW8 hL h) rfl rfl (Nat.le_of_ble_eq_true rfl) ?_
  refine J.ext (FW_up hL (ty_lt h (by decide)) _ ?_ rv_up2a_n) kk
  rw [cnt_8 h, rv_up2a (lo_of h (by decide))]
  simp [upd]
theorem tp_X8_7 (X : Cx G p l s m args meth c9 A own cc nL ret tb) (hL : LOK L) {k : Nat} (h : ty k = 8) {x : Int32} {a1 : Mem} (he : up2 a k 7 x = a1) {index : Nat} (hlink : Cond.fieldLink own index (TX8 7).1 (TX8 7).2.1 (TX8 7).2.2.1 ∈ BIG) (hdg : decode cc pc = .ok (.putfield index, 3)) (kk : J G p l e R s m args below meth c9 A Q nL cells slots (pc + 3) lv st L (FW G L a1 b c)) : J G p l e R s m args below meth c9 A Q nL cells slots pc lv (.int x :: .ref (ad L k) :: st) L (FW G L a b c) := by
  subst he
  refine j_putf X 8 7 rfl cw_X8 tyX8 tyX8_ok nmX8 hlink (by decide) rfl hdg (inL hL h (by decide)) (FW8 hL h) rfl rfl (Nat.le_of_ble_eq_true rfl) ?_
  refine J.ext (FW_up hL (ty_lt h (by decide)) _ ?_ rv_up2a_n) kk
  rw [cnt_8 h, rv_up2a (lo_of h (by decide))]
  simp [upd]
theorem t_Bast_t24 (X : Cx G p l s m args meth c9 A own cc nL ret tb) (hL : LOK L) {k : Nat} (h : ty k = 24) {i x : Int32} (hin : vp_in i 400) {a1 : Mem} (he : upR a k (upd (a k) i.toNatClampNeg (vp_nar .byte x)) = a1) (hdg : decode cc pc = .ok (.bastore, 1)) (kk : J G p l e R s m args below meth c9 A Q nL cells slots (pc + 1) lv st L (FW G L a1 b c)) : J G p l e R s m args below meth c9 A Q nL cells slots pc lv (.int x :: .int i :: .ref (ad L k) :: st) L (FW G L a b c) := by
  subst he
  refine j_bast X hdg (inL hL h (by decide)) (FW24 hL h) hin ?_
  refine J.ext (FW_up hL (ty_lt h (by decide)) _ ?_ rv_upa_n) kk
  rw [cnt_24 h, rv_upa (lo_of h (by decide))]
theorem t_Bast_t25 (X : Cx G p l s m args meth c9 A own cc nL ret tb) (hL : LOK L) {k : Nat} (h : ty k = 25) {i x : Int32} (hin : vp_in i 256) {a1 : Mem} (he : upR a k (upd (a k) i.toNatClampNeg (vp_nar .byte x)) = a1) (hdg : decode cc pc = .ok (.bastore, 1)) (kk : J G p l e R s m args below meth c9 A Q nL cells slots (pc + 1) lv st L (FW G L a1 b c)) : J G p l e R s m args below meth c9 A Q nL cells slots pc lv (.int x :: .int i :: .ref (ad L k) :: st) L (FW G L a b c) := by
  subst he
  refine j_bast X hdg (inL hL h (by decide)) (FW25 hL h) hin ?_
  refine J.ext (FW_up hL (ty_lt h (by decide)) _ ?_ rv_upa_n) kk
  rw [cnt_25 h, rv_upa (lo_of h (by decide))]
theorem lvl_nil : True := trivial
/-- what is told of the locals in one list is told in the other -/
def lvle : List (Option Value) → List (Option Value) → Prop
  | [], _ => True
  | none :: t, _ :: t1 => lvle t t1
  | none :: t, [] => lvle t []
  | some v :: t, o :: t1 => o = some v ∧ lvle t t1
  | some _ :: _, [] => False
theorem lvle_of : ∀ {l l1 : List (Option Value)}, lvle l l1 → ∀ (i : Nat) (v : Value), l[i]? = some (some v) → l1[i]? = some (some v)
  | [], _, _, i, v, h => by simp at h
  | none :: t, o :: t1, hh, i, v, h => by
    cases i with
    | zero => simp at h
    | succ i => simp only [List.getElem?_cons_succ] at h ⊢; exact lvle_of (l := t) (l1 := t1) hh i v h
  | none :: t, [], hh, i, v, h => by
    cases i with
    | zero => simp at h
    | succ i => exact absurd (lvle_of (l := t) (l1 := []) hh i v (by simpa using h)) (by simp)
  | some w :: t, o :: t1, hh, i, v, h => by
    cases i with
    | zero => simp only [List.getElem?_cons_zero] at h ⊢; rw [hh.1]; exact h
    | succ i => simp only [List.getElem?_cons_succ] at h ⊢; exact lvle_of (l := t) (l1 := t1) hh.2 i v h
  | some w :: t, [], hh, i, v, h => hh.elim
/-! the words of the functions -/
def bT {α β : Type} (x : α) (k : α → β) : β := k x
theorem bT_inv {α β : Type} {x : α} {k : α → β} {R : β} (h : bT x k = R) : ∃ v, x = v ∧ k v = R := ⟨x, rfl, h⟩
def bT2 {α γ β : Type} (x : α × γ) (k : α → γ → β) : β := k x.1 x.2
theorem bT2_inv {α γ β : Type} {x : α × γ} {k : α → γ → β} {R : β} (h : bT2 x k = R) : ∃ v w, x = (v, w) ∧ k v w = R := ⟨x.1, x.2, rfl, h⟩
def bP {α β : Type} (x : Option α) (k : α → Option β) : Option β := match x with | none => none | some v => k v
theorem bP_inv {α β : Type} {x : Option α} {k : α → Option β} {R : β} (h : bP x k = some R) : ∃ v, x = some v ∧ k v = some R := by
  cases x with
  | none => cases h
  | some v => exact ⟨v, rfl, h⟩
def bP2 {α γ β : Type} (x : Option (α × γ)) (k : α → γ → Option β) : Option β := match x with | none => none | some v => k v.1 v.2
theorem bP2_inv {α γ β : Type} {x : Option (α × γ)} {k : α → γ → Option β} {R : β} (h : bP2 x k = some R) : ∃ v w, x = some (v, w) ∧ k v w = some R := by
  cases x with
  | none => cases h
  | some v => exact ⟨v.1, v.2, rfl, h⟩
def bXc {α : Type} (n : Nat) (k : Option (Except Nat α)) : Option (Except Nat α) := if n = 0 then k else some (.error n)
theorem bXc_inv {α : Type} {n : Nat} {k : Option (Except Nat α)} {R : Except Nat α} (h : bXc n k = some R) : (n = 0 ∧ k = some R) ∨ (n ≠ 0 ∧ R = .error n) := by
  unfold bXc at h
  split at h
  · exact Or.inl ⟨‹_›, h⟩
  · exact Or.inr ⟨‹_›, (Option.some.inj h).symm⟩
theorem bXc_inv0 {α : Type} {n : Nat} {k : Option (Except Nat α)} {R : Except Nat α} (h0 : n = 0) (h : bXc n k = some R) : k = some R := (if_pos h0).symm.trans h
def chkP {α : Type} (p : Prop) [Decidable p] (k : Option α) : Option α := if p then k else none
theorem chkP_inv {α : Type} {p : Prop} [Decidable p] {k : Option α} {R : α} (h : chkP p k = some R) : p ∧ k = some R := by
  unfold chkP at h
  split at h
  · exact ⟨‹_›, h⟩
  · cases h
def exN : Nat → String
  | 1 => "java/lang/IllegalStateException"
  | 2 => "java/lang/IllegalArgumentException"
  | 3 => "java/lang/IndexOutOfBoundsException"
  | _ => "java/util/NoSuchElementException"
def mxI (x y : Int32) : Int32 := if x < y then y else x
def mnI (x y : Int32) : Int32 := if y < x then y else x
def abI (x : Int32) : Int32 := if 0 ≤ x then x else 0 - x
theorem sw_out {lo : Int} {n : Nat} {x : Int32} (h0 : -1000 ≤ lo) (h1 : n ≤ 1000) (h : ∀ i : Nat, i < n → ¬ x = Int32.ofInt (lo + i)) : x.toInt < lo ∨ lo + (n : Int) - 1 < x.toInt := by
  by_cases h2 : x.toInt < lo
  · exact Or.inl h2
  · by_cases h3 : lo + (n : Int) - 1 < x.toInt
    · exact Or.inr h3
    · exfalso
      refine h (x.toInt - lo).toNat (by omega) ?_
      have e : lo + ((x.toInt - lo).toNat : Int) = x.toInt := by omega
      rw [e]
      exact (Int32.ofInt_toInt x).symm
end JROWS
