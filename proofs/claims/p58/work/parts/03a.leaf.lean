section LEAFROWS
variable {G : GG} {p : Program} {l : Launch} {e : Env} {R : Room} {s : State} {m : MethodId} {args : Array Value} {below : List Frame} {meth : Method} {c : Code} {A : Nat → Prop} {Q : State → Prop} {own : String} {cc : ByteArray} {nL cells slots pc : Nat} {ret : Option FieldType} {tb : List ExceptionTableEntry} {lv : List (Option Value)} {st : List Value} {L : List Nat} {f : Nat → va_E}
theorem j_iincc (X : Cx G p l s m args meth c A own cc nL ret tb) (cst : Int32) {i : Nat} {n : Int} {x : Int32} (hdg : decode cc pc = .ok (.iinc i n, 3)) (hk : lv[i]? = some (some (.int x))) (hv : Int32.ofInt n = cst) (hn : i < nL) (hok : lvOK lv i) (k : J G p l e R s m args below meth c A Q nL cells slots (pc + 3) (lv.set i (some (.int (x + cst)))) st L f) : J G p l e R s m args below meth c A Q nL cells slots pc lv st L f :=
  j_iinc X (x + cst) hdg hk (by rw [hv]) hn hok k
theorem j_alenN (X : Cx G p l s m args meth c A own cc nL ret tb) {a n : Nat} {k9 : Nat} {ty : FieldType} {cA : ClassId} {y : (Nat → Int32) ⊕ (Nat → Int64) ⊕ (Nat → UInt32) ⊕ (Nat → UInt64) ⊕ (Nat → Option Nat)} (hdg : decode cc pc = .ok (.arraylength, 1)) (ha : a ∈ L) (hf : f a = .inl (cA, n, y)) (ht : (tysOf G.2.1)[k9]? = some (cA, ty)) (kk : J G p l e R s m args below meth c A Q nL cells slots (pc + 1) lv (.int (nI n) :: st) L f) : J G p l e R s m args below meth c A Q nL cells slots pc lv (.ref a :: st) L f := j_alen X (nI n) hdg ha hf ht rfl kk
/-- System.arraycopy of rows of whole numbers -/
theorem j_copyi (X : Cx G p l s m args meth c A own cc nL ret tb) {a b n0 n1 index : Nat} {g0 g1 : Nat → Int32} {sp dp n : Int32} (hlink : Cond.methodLink own index arraycopyName ∈ BIG) (hdg : decode cc pc = .ok (.invokestatic index, 3)) (ha : a ∈ L) (hfa : f a = .inl (G.2.1 0, n0, .inl g0)) (hb : b ∈ L) (hfb : f b = .inl (G.2.1 0, n1, .inl g1)) (h1 : ¬ sp < 0) (h2 : ¬ dp < 0) (h3 : ¬ n < 0) (h4 : sp.toNatClampNeg + n.toNatClampNeg ≤ n0) (h5 : dp.toNatClampNeg + n.toNatClampNeg ≤ n1) (hR : 1 ≤ R.frames ∧ (st.map fun v => v.category).sum + (nativeFrameWords "java/lang/System" "arraycopy" 5 + 11) ≤ R.locals) (kk : J G p l e R s m args below meth c A Q nL cells slots (pc + 3) lv st L (va_up f b (.inl (G.2.1 0, n1, .inl (va_cpy g0 g1 sp.toNatClampNeg dp.toNatClampNeg n.toNatClampNeg))))) : J G p l e R s m args below meth c A Q nL cells slots pc lv (.int n :: .int dp :: .ref b :: .int sp :: .ref a :: st) L f := by
  intro H locs ls hP hD hS hl
  obtain ⟨q0, hq⟩ := va_pl_get (X := []) (f := f) ha
  obtain ⟨q1, hq1⟩ := va_pl_get (X := []) (f := f) hb
  have hq9 := hq1
  rw [hfa] at hq
  rw [hfb] at hq1
  refine va_copyi (D := G.1) X.1 X.2.1 (X.2.2.1.trans hl.1.symm) X.2.2.2.1 (X.w _ hlink) (X.w _ nv_arraycopyName) (X.w _ st_arraycopyName) (X.w _ in_J10) X.2.2.2.2.2.2.2.1 hP hD hS q0 q1 0 0 hq hq1 rfl rfl rfl h1 h2 h3 h4 h5 (fun _ _ => rfl) hR.1 hR.2 hdg (fun H1 locs1 hP1 hD1 hS1 => ?_)
  have e9 := va_pl_set (X := []) (e := .inl (G.2.1 0, n1, .inl (va_cpy g0 g1 sp.toNatClampNeg dp.toNatClampNeg n.toNatClampNeg))) hD hb hq9
  have hP2 : va_P G.1 vwCl (va_pl L (va_up f b (.inl (G.2.1 0, n1, .inl (va_cpy g0 g1 sp.toNatClampNeg dp.toNatClampNeg n.toNatClampNeg))))) H1 := by rw [← List.nil_append (va_pl L (va_up f b _)), ← e9]; exact hP1
  have hD2 : va_D A (va_pl L (va_up f b (.inl (G.2.1 0, n1, .inl (va_cpy g0 g1 sp.toNatClampNeg dp.toNatClampNeg n.toNatClampNeg))))) := by rw [← List.nil_append (va_pl L (va_up f b _)), ← e9]; exact hD1
  exact kk H1 locs1 ls hP2 hD2 hS1 hl
end LEAFROWS
theorem Ct.ofo {l : Launch} {G : GG} {y : MethodName} {own : String} {cc : ByteArray} {maxL fr lo mc ms : Nat} {rt : Option FieldType} {av : List Value} {L : List Nat} {f : Nat → va_E} {px : String → Prop} {post : Option Value → List Nat → (Nat → va_E) → Prop} (hl : l.stackTraces = false) (hown : y.cls = own) (hpl : plainName y.cls = true) (lv : List (Option Value)) (hlv : lvl lv = lv_args 0 av) (hn : (lg_sl av).length ≤ maxL)
    (body : ∀ (p : Program) (e : Env) (s : State) (m : MethodId) (below : List Frame) (meth : Method) (c : Code) (A : Nat → Prop), meth.name = y.name → Cx G p l s m av.toArray meth c A own cc maxL rt [] → J G p l e { frames := fr, cells := mc, slots := ms, locals := lo } s m av.toArray below meth c A (vx_MQ below (Qg G A post) (Xg G A L f px) av.toArray s mc ms A) maxL 0 0 0 lv [] L f) : Ct l G y (.code y cc maxL rt) fr lo mc ms av L f px post := by
  subst hown
  exact Ct.of hl hpl lv hlv hn body
theorem in_ge {i : Int32} {n : Nat} (h1 : ¬ i < 0) (h2 : ¬ nI n ≤ i) (hn : n < 2 ^ 31) : vp_in i n := by
  obtain ⟨j, hj, rfl⟩ := nI_of h1
  exact vp_in_nI (Nat.not_le.mp (fun q => h2 ((nI_leI hn hj).mpr q))) hn
theorem out_ge {i : Int32} {n : Nat} (h : nI n ≤ i) (hn : n < 2 ^ 31) : i < 0 ∨ n ≤ i.toNatClampNeg := by
  by_cases h1 : i < 0
  · exact Or.inl h1
  · obtain ⟨j, hj, rfl⟩ := nI_of h1
    right
    rw [nI_clamp hj]
    exact (nI_leI hn hj).mp h
def isB (x : Int32) : Prop := x = 0 ∨ x = 1
theorem nar_B {x : Int32} (h : isB x) : narrow .boolean (.int x) = .int x := by rcases h with rfl | rfl <;> rfl
theorem fit_B {x : Int32} (h : isB x) : fits .boolean (.int x) = true := by rcases h with rfl | rfl <;> rfl
/-- nothing behind n places -/
def Canon (n : Nat) (g : Nat → Int32) : Prop := ∀ k, n ≤ k → g k = 0
theorem cpy_canon {n : Nat} {g0 g1 : Nat → Int32} (h0 : Canon n g0) (h1 : Canon n g1) : va_cpy g0 g1 0 0 n = g0 := by
  funext k
  unfold va_cpy
  by_cases h : k < n
  · simp [h]
  · simp [h, h0 k (by omega), h1 k (by omega)]
/-- the objects of the class, and what they hold -/
abbrev aI (G : GG) (n : Nat) (g : Nat → Int32) : va_E := .inl (G.2.1 0, n, .inl g)
abbrev aB (G : GG) (n : Nat) (g : Nat → Int32) : va_E := .inl (G.2.1 1, n, .inl g)
abbrev oRules (nb : Nat) (pe ex et se : Int32) : va_E := .inr (4, [.ref nb, .int pe, .int ex, .int et, .int se])
/-- a side, by the numbers: 0 left, 1 moves, 2 period, 3 moves in it, 4 extras, 5 in an extra one, 6 think, 7 lost, 8 fell, 9 bare, 10 ran, 11 finished; from 12 on what was lost in each period -/
abbrev oSide (sp : Nat) (v : Nat → Int32) : va_E := .inr (5, [.ref sp, .int (v 0), .int (v 2), .int (v 1), .int (v 3), .int (v 4), .int (v 5), .int (v 6), .int (v 7), .int (v 8), .int (v 9), .int (v 10), .int (v 11)])
abbrev oLog (nb : Nat) (ct nw : Int32) : va_E := .inr (1, [.ref nb, .int ct, .int nw])
/-- number(p, w) of the rules -/
def rN (na : Nat → Int32) (p w : Int32) : Int32 := atI 25 na (p * 5 + w)

set_option maxRecDepth 100000 in
theorem c_X8_numberAt {l : Launch} (hl : l.stackTraces = false) {G : GG} {L : List Nat} {f : Nat → va_E} {a n : Nat} {g : Nat → Int32} {i : Int32} (ha : a ∈ L) (hf : f a = aI G n g) (hn : n < 2 ^ 31) : Ct l G yX8_numberAt (.code yX8_numberAt cX8_numberAt 2 (some .int)) 0 0 0 0 [.ref a, .int i] L f px0 (stay L (fun r f1 => f1 = f ∧ r = some (.int (atI n g i)))) := by
  refine Ct.ofo (own := RX8) hl rfl (by decide) [some (.ref a), some (.int i)] rfl (Nat.le_of_ble_eq_true rfl) ?_
  intro p e s m below meth c A hname X
  refine j_iload_n X (i := 1) dX8_numberAt_0 rfl rfl ?_
  refine j_if_lt X (tgt := 16) dX8_numberAt_1 (by decide) (fun h_1 => ?_) (fun h_1 => ?_)
  · refine j_iconst X (0) dX8_numberAt_16 (by decide) ?_
    exact j_iret X dX8_numberAt_17 rfl ⟨(by decide), (by decide)⟩ (by exact ⟨rfl, rfl, by first | rw [atI_in (in_ge (by assumption) (by assumption) hn)] | rw [atI_out (Or.inl (by assumption))] | rw [atI_out (out_ge (by assumption) hn)]⟩)
  · refine j_iload_n X (i := 1) dX8_numberAt_4 rfl rfl ?_
    refine j_aload_n X (i := 0) dX8_numberAt_5 rfl rfl ?_
    refine j_alenN X (k9 := 0) dX8_numberAt_6 (by assumption) (by repeat (first | assumption | exact up_s | refine up_n (by first | assumption | (apply Ne.symm; assumption)) ?_)) rfl ?_
    refine j_icmp_ge X (tgt := 16) dX8_numberAt_7 (by decide) (fun h_7 => ?_) (fun h_7 => ?_)
    · refine j_iconst X (0) dX8_numberAt_16 (by decide) ?_
      exact j_iret X dX8_numberAt_17 rfl ⟨(by decide), (by decide)⟩ (by exact ⟨rfl, rfl, by first | rw [atI_in (in_ge (by assumption) (by assumption) hn)] | rw [atI_out (Or.inl (by assumption))] | rw [atI_out (out_ge (by assumption) hn)]⟩)
    · refine j_aload_n X (i := 0) dX8_numberAt_10 rfl rfl ?_
      refine j_iload_n X (i := 1) dX8_numberAt_11 rfl rfl ?_
      refine j_iald X dX8_numberAt_12 (by assumption) (by repeat (first | assumption | exact up_s | refine up_n (by first | assumption | (apply Ne.symm; assumption)) ?_)) (in_ge h_1 (by assumption) hn) ?_
      refine j_goto X (tgt := 17) dX8_numberAt_13 (by decide) ?_
      exact j_iret X dX8_numberAt_17 rfl ⟨(by decide), (by decide)⟩ (by exact ⟨rfl, rfl, by first | rw [atI_in (in_ge (by assumption) (by assumption) hn)] | rw [atI_out (Or.inl (by assumption))] | rw [atI_out (out_ge (by assumption) hn)]⟩)
set_option maxRecDepth 100000 in
theorem c_X8_setNumberAt {l : Launch} (hl : l.stackTraces = false) {G : GG} {L : List Nat} {f : Nat → va_E} {a n : Nat} {g : Nat → Int32} {i x : Int32} (ha : a ∈ L) (hf : f a = aI G n g) (hn : n < 2 ^ 31) : Ct l G yX8_setNumberAt (.code yX8_setNumberAt cX8_setNumberAt 3 none) 0 0 0 0 [.ref a, .int i, .int x] L f px0 (stay L (fun r f1 => f1 = va_up f a (aI G n (putI n g i x)) ∧ r = none)) := by
  refine Ct.ofo (own := RX8) hl rfl (by decide) [some (.ref a), some (.int i), some (.int x)] rfl (Nat.le_of_ble_eq_true rfl) ?_
  intro p e s m below meth c A hname X
  refine j_iload_n X (i := 1) dX8_setNumberAt_0 rfl rfl ?_
  refine j_if_lt X (tgt := 14) dX8_setNumberAt_1 (by decide) (fun h_1 => ?_) (fun h_1 => ?_)
  · exact j_vret X dX8_setNumberAt_14 rfl ⟨(by decide), (by decide)⟩ (by exact ⟨rfl, by first | rw [putI_in (in_ge (by assumption) (by assumption) hn)] | rw [putI_out (Or.inl (by assumption)), up_id hf] | rw [putI_out (out_ge (by assumption) hn), up_id hf], rfl⟩)
  · refine j_iload_n X (i := 1) dX8_setNumberAt_4 rfl rfl ?_
    refine j_aload_n X (i := 0) dX8_setNumberAt_5 rfl rfl ?_
    refine j_alenN X (k9 := 0) dX8_setNumberAt_6 (by assumption) (by repeat (first | assumption | exact up_s | refine up_n (by first | assumption | (apply Ne.symm; assumption)) ?_)) rfl ?_
    refine j_icmp_ge X (tgt := 14) dX8_setNumberAt_7 (by decide) (fun h_7 => ?_) (fun h_7 => ?_)
    · exact j_vret X dX8_setNumberAt_14 rfl ⟨(by decide), (by decide)⟩ (by exact ⟨rfl, by first | rw [putI_in (in_ge (by assumption) (by assumption) hn)] | rw [putI_out (Or.inl (by assumption)), up_id hf] | rw [putI_out (out_ge (by assumption) hn), up_id hf], rfl⟩)
    · refine j_aload_n X (i := 0) dX8_setNumberAt_10 rfl rfl ?_
      refine j_iload_n X (i := 1) dX8_setNumberAt_11 rfl rfl ?_
      refine j_iload_n X (i := 2) dX8_setNumberAt_12 rfl rfl ?_
      refine j_iast X dX8_setNumberAt_13 (by assumption) (by repeat (first | assumption | exact up_s | refine up_n (by first | assumption | (apply Ne.symm; assumption)) ?_)) (in_ge h_1 (by assumption) hn) ?_
      try rw [up_up]
      exact j_vret X dX8_setNumberAt_14 rfl ⟨(by decide), (by decide)⟩ (by exact ⟨rfl, by first | rw [putI_in (in_ge (by assumption) (by assumption) hn)] | rw [putI_out (Or.inl (by assumption)), up_id hf] | rw [putI_out (out_ge (by assumption) hn), up_id hf], rfl⟩)
set_option maxRecDepth 100000 in
theorem c_X8_other {l : Launch} (hl : l.stackTraces = false) {G : GG} {L : List Nat} {f : Nat → va_E} {i : Int32}  : Ct l G yX8_other (.code yX8_other cX8_other 1 (some .int)) 0 0 0 0 [.int i] L f px0 (stay L (fun r f1 => f1 = f ∧ r = some (.int (1 - i)))) := by
  refine Ct.ofo (own := RX8) hl rfl (by decide) [some (.int i)] rfl (Nat.le_of_ble_eq_true rfl) ?_
  intro p e s m below meth c A hname X
  refine j_iconst X (1) dX8_other_0 (by decide) ?_
  refine j_iload_n X (i := 0) dX8_other_1 rfl rfl ?_
  refine j_isub X dX8_other_2 ?_
  exact j_iret X dX8_other_3 rfl ⟨(by decide), (by decide)⟩ (by exact ⟨rfl, rfl, rfl⟩)
set_option maxRecDepth 100000 in
theorem c_X4_number {l : Launch} (hl : l.stackTraces = false) {G : GG} {L : List Nat} {f : Nat → va_E} {r nb : Nat} {pe ex et se : Int32} {na : Nat → Int32} {i w : Int32} (hr : r ∈ L) (hfr : f r = oRules nb pe ex et se) (hnb : nb ∈ L) (hfn : f nb = aI G 25 na) : Ct l G yX4_number (.code yX4_number cX4_number 4 (some .int)) 0 0 0 0 [.ref r, .int i, .int w] L f px0 (stay L (fun r9 f1 => f1 = f ∧ r9 = some (.int (rN na i w)))) := by
  refine Ct.ofo (own := RX4) hl rfl (by decide) [some (.ref r), some (.int i), some (.int w), none] rfl (Nat.le_of_ble_eq_true rfl) ?_
  intro p e s m below meth c A hname X
  have hn : 25 < 2 ^ 31 := by decide
  refine j_iload_n X (i := 1) dX4_number_0 rfl rfl ?_
  refine j_iconst X (5) dX4_number_1 (by decide) ?_
  refine j_imul X dX4_number_2 ?_
  refine j_iload_n X (i := 2) dX4_number_3 rfl rfl ?_
  refine j_iadd X dX4_number_4 ?_
  refine j_istore_n X (i := 3) dX4_number_5 rfl (by decide) (by first | exact lvOK_0 | exact lvOK_s rfl okPrev_none | exact lvOK_s rfl okPrev_int | exact lvOK_s rfl okPrev_ref | exact lvOK_s rfl okPrev_null) ?_
  dsimp only [List.set]
  refine j_iload_n X (i := 3) dX4_number_6 rfl rfl ?_
  refine j_if_lt X (tgt := 28) dX4_number_7 (by decide) (fun h_7 => ?_) (fun h_7 => ?_)
  · refine j_iconst X (0) dX4_number_28 (by decide) ?_
    exact j_iret X dX4_number_29 rfl ⟨(by decide), (by decide)⟩ (by unfold rN; exact ⟨rfl, rfl, by first | rw [atI_in (in_ge (by assumption) (by assumption) hn)] | rw [atI_out (Or.inl (by assumption))] | rw [atI_out (out_ge (by assumption) hn)]⟩)
  · refine j_iload_n X (i := 3) dX4_number_10 rfl rfl ?_
    refine j_aload_n X (i := 0) dX4_number_11 rfl rfl ?_
    refine j_getf X 4 0 rfl cw_X4 fl_X4_9 (by decide) dX4_number_12 (by assumption) (by repeat (first | assumption | exact up_s | refine up_n (by first | assumption | (apply Ne.symm; assumption)) ?_)) (by rfl) ?_
    refine j_alenN X (k9 := 0) dX4_number_15 (by assumption) (by repeat (first | assumption | exact up_s | refine up_n (by first | assumption | (apply Ne.symm; assumption)) ?_)) rfl ?_
    refine j_icmp_ge X (tgt := 28) dX4_number_16 (by decide) (fun h_16 => ?_) (fun h_16 => ?_)
    · refine j_iconst X (0) dX4_number_28 (by decide) ?_
      exact j_iret X dX4_number_29 rfl ⟨(by decide), (by decide)⟩ (by unfold rN; exact ⟨rfl, rfl, by first | rw [atI_in (in_ge (by assumption) (by assumption) hn)] | rw [atI_out (Or.inl (by assumption))] | rw [atI_out (out_ge (by assumption) hn)]⟩)
    · refine j_aload_n X (i := 0) dX4_number_19 rfl rfl ?_
      refine j_getf X 4 0 rfl cw_X4 fl_X4_9 (by decide) dX4_number_20 (by assumption) (by repeat (first | assumption | exact up_s | refine up_n (by first | assumption | (apply Ne.symm; assumption)) ?_)) (by rfl) ?_
      refine j_iload_n X (i := 3) dX4_number_23 rfl rfl ?_
      refine j_iald X dX4_number_24 (by assumption) (by repeat (first | assumption | exact up_s | refine up_n (by first | assumption | (apply Ne.symm; assumption)) ?_)) (in_ge h_7 (by assumption) hn) ?_
      refine j_goto X (tgt := 29) dX4_number_25 (by decide) ?_
      exact j_iret X dX4_number_29 rfl ⟨(by decide), (by decide)⟩ (by unfold rN; exact ⟨rfl, rfl, by first | rw [atI_in (in_ge (by assumption) (by assumption) hn)] | rw [atI_out (Or.inl (by assumption))] | rw [atI_out (out_ge (by assumption) hn)]⟩)
set_option maxRecDepth 100000 in
theorem c_X4_setNumber {l : Launch} (hl : l.stackTraces = false) {G : GG} {L : List Nat} {f : Nat → va_E} {r nb : Nat} {pe ex et se : Int32} {na : Nat → Int32} {i w x : Int32} (hr : r ∈ L) (hfr : f r = oRules nb pe ex et se) (hnb : nb ∈ L) (hfn : f nb = aI G 25 na) : Ct l G yX4_setNumber (.code yX4_setNumber cX4_setNumber 4 none) 1 22 0 0 [.ref r, .int i, .int w, .int x] L f px0 (stay L (fun r9 f1 => f1 = va_up f nb (aI G 25 (putI 25 na (i * 5 + w) x)) ∧ r9 = none)) := by
  refine Ct.ofo (own := RX4) hl rfl (by decide) [some (.ref r), some (.int i), some (.int w), some (.int x)] rfl (Nat.le_of_ble_eq_true rfl) ?_
  intro p e s m below meth c A hname X
  refine j_aload_n X (i := 0) dX4_setNumber_0 rfl rfl ?_
  refine j_getf X 4 0 rfl cw_X4 fl_X4_9 (by decide) dX4_setNumber_1 (by assumption) (by repeat (first | assumption | exact up_s | refine up_n (by first | assumption | (apply Ne.symm; assumption)) ?_)) (by rfl) ?_
  refine j_iload_n X (i := 1) dX4_setNumber_4 rfl rfl ?_
  refine j_iconst X (5) dX4_setNumber_5 (by decide) ?_
  refine j_imul X dX4_setNumber_6 ?_
  refine j_iload_n X (i := 2) dX4_setNumber_7 rfl rfl ?_
  refine j_iadd X dX4_setNumber_8 ?_
  refine j_iload_n X (i := 3) dX4_setNumber_9 rfl rfl ?_
  refine j_callSN3 X (c_X8_setNumberAt hl (by assumption) (by repeat (first | assumption | exact up_s | refine up_n (by first | assumption | (apply Ne.symm; assumption)) ?_)) (Nat.le_of_ble_eq_true rfl)) (by decide +kernel) st_yX8_setNumberAt in_X8 cd_yX8_setNumberAt (by decide +kernel) dX4_setNumber_10 ⟨(by decide), (by decide)⟩ ⟨(by decide), (by decide)⟩ (Nat.le_of_ble_eq_true rfl) (fun _ h => h.elim) (fun r9 L9 f9 h9 => ?_)
  obtain ⟨rfl, rfl, rfl⟩ := h9
  try dsimp only [Option.toList, List.cons_append, List.nil_append, List.append]
  exact j_vret X dX4_setNumber_13 rfl ⟨(by decide), (by decide)⟩ (by exact ⟨rfl, rfl, rfl⟩)
set_option maxRecDepth 100000 in
theorem c_X4_isEndless {l : Launch} (hl : l.stackTraces = false) {G : GG} {L : List Nat} {f : Nat → va_E} {r nb : Nat} {pe ex et se : Int32} {na : Nat → Int32} {i : Int32} (hr : r ∈ L) (hfr : f r = oRules nb pe ex et se) (hnb : nb ∈ L) (hfn : f nb = aI G 25 na) : Ct l G yX4_isEndless (.code yX4_isEndless cX4_isEndless 2 (some .boolean)) 1 23 0 0 [.ref r, .int i] L f px0 (stay L (fun r9 f1 => f1 = f ∧ r9 = some (.int (if rN na i 0 = 0 then 1 else 0)))) := by
  refine Ct.ofo (own := RX4) hl rfl (by decide) [some (.ref r), some (.int i)] rfl (Nat.le_of_ble_eq_true rfl) ?_
  intro p e s m below meth c A hname X
  refine j_aload_n X (i := 0) dX4_isEndless_0 rfl rfl ?_
  refine j_iload_n X (i := 1) dX4_isEndless_1 rfl rfl ?_
  refine j_iconst X (0) dX4_isEndless_2 (by decide) ?_
  refine j_callV2 X 4 (c_X4_number hl (by assumption) (by repeat (first | assumption | exact up_s | refine up_n (by first | assumption | (apply Ne.symm; assumption)) ?_)) (by assumption) (by repeat (first | assumption | exact up_s | refine up_n (by first | assumption | (apply Ne.symm; assumption)) ?_))) ml_X4_42 im_yX4_number se_yX4_number in_X4 cd_yX4_number (by decide +kernel) dX4_isEndless_3 rfl (by assumption) (by repeat (first | assumption | exact up_s | refine up_n (by first | assumption | (apply Ne.symm; assumption)) ?_)) ⟨(by decide), (by decide)⟩ ⟨(by decide), (by decide)⟩ (Nat.le_of_ble_eq_true rfl) (fun _ h => h.elim) (fun r9 L9 f9 h9 => ?_)
  obtain ⟨rfl, rfl, rfl⟩ := h9
  try dsimp only [Option.toList, List.cons_append, List.nil_append, List.append]
  refine j_if_ne X (tgt := 13) dX4_isEndless_6 (by decide) (fun h_6 => ?_) (fun h_6 => ?_)
  · refine j_iconst X (0) dX4_isEndless_13 (by decide) ?_
    exact j_zret X dX4_isEndless_14 rfl rfl ⟨(by decide), (by decide)⟩ (by first | exact ⟨rfl, rfl, by rw [if_pos (by assumption)]⟩ | exact ⟨rfl, rfl, by rw [if_neg (by assumption)]⟩)
  · refine j_iconst X (1) dX4_isEndless_9 (by decide) ?_
    refine j_goto X (tgt := 14) dX4_isEndless_10 (by decide) ?_
    exact j_zret X dX4_isEndless_14 rfl rfl ⟨(by decide), (by decide)⟩ (by first | exact ⟨rfl, rfl, by rw [if_pos (by assumption)]⟩ | exact ⟨rfl, rfl, by rw [if_neg (by assumption)]⟩)

