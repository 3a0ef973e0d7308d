/-! one act, by contract: out of what each change may do -/
/-- each of the twelve changes comes to an end where P holds; a tick also where PT does -/
def ACT (N : Nat) (a : Mem) (np : Int32) (P PT : Mem → Prop) : Prop := (∀ p : Int32, 1 ≤ p.toInt → p.toInt ≤ 40 → ∃ v a', f_X8_tick N p a = some (.ok (v, a')) ∧ P a' ∧ PT a') ∧ (∃ v a', catchI (f_X8_move a) a = some (v, a') ∧ P a') ∧ (∃ v a', catchI (f_X8_pause a) a = some (v, a') ∧ P a') ∧ (∃ v a', catchI (f_X8_proceed a) a = some (v, a') ∧ P a') ∧ (∃ v a', catchI (f_X8_seal a) a = some (v, a') ∧ P a') ∧ (∃ v a', catchI (f_X8_open a) a = some (v, a') ∧ P a') ∧ (∀ p : Int32, (p = 0 ∨ p = 1) → ∃ v a', catchI (f_X8_claim p a) a = some (v, a') ∧ P a') ∧ (∀ p x : Int32, (p = 0 ∨ p = 1) → -15 ≤ x.toInt → x.toInt ≤ 44 → ∃ v a', catchI (f_X8_give p x a) a = some (v, a') ∧ P a') ∧ (∀ p x : Int32, (p = 0 ∨ p = 1) → (x = 0 ∨ x = 1) → ∃ v a', f_X8_setBare p x a = some (.ok (v, a')) ∧ P a') ∧ (∀ x : Int32, (x = 0 ∨ x = 1) → P (f_X8_setClaims x a).2) ∧ (f_X8_property 2 a = some (.ok np) ∧ 1 ≤ np.toInt ∧ np.toInt ≤ 5 ∧ ∀ p w x : Int32, 0 ≤ p.toInt → p.toInt < np.toInt → 2 ≤ w.toInt → w.toInt ≤ 4 → 0 ≤ x.toInt → x.toInt ≤ 8 → ∃ v a', f_X8_setPeriod p w x a = some (.ok (v, a')) ∧ P a') ∧ (∃ v a', catchI (f_X8_swap a) a = some (v, a') ∧ P a')
theorem zr_rem {x y : Int32} (h1 : 0 ≤ x.toInt) (h2 : 0 < y.toInt) : (x - x / y * y).toInt = x.toInt % y.toInt := by
  have hd := z_div (x := x) (y := y) h1 h2
  have hx := z_hi x
  have hm := Int.mul_ediv_add_emod x.toInt y.toInt
  have hr := Int.emod_nonneg x.toInt (show y.toInt ≠ 0 by omega)
  have hr2 := Int.emod_lt_of_pos x.toInt h2
  have hq : 0 ≤ x.toInt / y.toInt := Int.ediv_nonneg h1 (by omega)
  have hc : x.toInt / y.toInt * y.toInt = y.toInt * (x.toInt / y.toInt) := Int.mul_comm _ _
  have hp : 0 ≤ x.toInt / y.toInt * y.toInt := Int.mul_nonneg hq (by omega)
  have hmul : (x / y * y).toInt = x.toInt / y.toInt * y.toInt := by rw [z_mul (by rw [hd]; omega) (by rw [hd]; omega), hd]
  rw [z_sub (by rw [hmul]; omega) (by rw [hmul]; omega), hmul]
  omega
theorem zr_rng {x y : Int32} (h1 : 0 ≤ x.toInt) (h2 : 0 < y.toInt) : 0 ≤ (x - x / y * y).toInt ∧ (x - x / y * y).toInt < y.toInt := by
  rw [zr_rem h1 h2]
  exact ⟨Int.emod_nonneg _ (by omega), Int.emod_lt_of_pos _ h2⟩
theorem dr_pos (G : GG) (k : Nat) : 0 ≤ (drX G k).toInt := by
  unfold drX
  generalize (if k < sLn G then sX G k else 0) = x
  have h : (0 : Int32) ≤ x &&& 2147483647 := by
    rw [Int32.le_iff_toBitVec_sle, Int32.toBitVec_and]
    simp only [BitVec.sle, BitVec.toInt_eq_msb_cond]
    have : (x.toBitVec &&& Int32.toBitVec 2147483647).msb = false := by
      rw [BitVec.msb_and, show (Int32.toBitVec 2147483647).msb = false by decide, Bool.and_false]
    rw [this]
    simp
  exact Int32.le_iff_toInt_le.mp h
theorem DR0_rng (G : GG) (k : Nat) {n : Int32} (h : 0 < n.toInt) : 0 ≤ (DR0 G k n).toInt ∧ (DR0 G k n).toInt < n.toInt := zr_rng (dr_pos G k) h
theorem bit_of {x : Int32} (h : 0 ≤ x.toInt ∧ x.toInt < 2) : x = 0 ∨ x = 1 := z_01.1 ⟨h.1, by omega⟩
section JROWS
variable {G : GG} {p : Program} {l : Launch} {e : Env} {R : Room} {s : State} {m : MethodId} {args : Array Value} {below : List Frame} {meth : Method} {c : Code} {A : Nat → Prop} {Q : State → Prop} {own : String} {cc : ByteArray} {nL cells slots pc : Nat} {ret : Option FieldType} {tb : List ExceptionTableEntry} {lv : List (Option Value)} {st : List Value} {L : List Nat} {f : Nat → va_E}
theorem j_callSW1 (X : Cx G p l s m args meth c A own cc nL ret tb) {y : MethodName} {bytes : ByteArray} {maxL index fr lo mc ms : Nat} {rt : Option FieldType} {hh : List (Nat × Nat × Nat × Nat)} {rest : List Value} {a1 : Value} {px : String → Prop} {post : Option Value → List Nat → (Nat → va_E) → Prop} (hC : Ct l G y (.codeWith y bytes maxL rt hh) fr lo mc ms [a1] L f px post) (h1 : Cond.methodLink own index y ∈ BIG) (h2 : Cond.static y ∈ BIG) (h4 : Cond.initialized y.cls ∈ BIG) (h5 : Cond.codeWith y bytes maxL rt hh ∈ BIG)
    (hy : y.cls ≠ "java/lang/invoke/MethodHandle" ∧ y.cls ≠ "java/lang/invoke/VarHandle" ∧ (parseMethodDescriptor y.desc).map (fun d => d.parameters.length) = some 1) (hdg : decode cc pc = .ok (.invokestatic index, 3)) (hR : fr + 1 ≤ R.frames ∧ 8 + (maxL + 11) + lo ≤ R.locals) (hc : cells + mc ≤ R.cells ∧ slots + ms ≤ R.slots) (hW : (rest.map fun v => v.category).sum ≤ 8) (kx : ∀ E, px E → JX G p l e R s m args below meth c A Q nL (cells + mc) (slots + ms) pc lv rest L f E) (kk : ∀ (r : Option Value) (L1 : List Nat) (f1 : Nat → va_E), post r L1 f1 → J G p l e R s m args below meth c A Q nL (cells + mc) (slots + ms) (pc + 3) lv (r.toList ++ rest) L1 f1) : J G p l e R s m args below meth c A Q nL cells slots pc lv (a1 :: rest) L f :=
  j_callSW (As := [a1]) X hC h1 h2 h4 h5 hy hdg hR hc hW kx kk
theorem j_callSW2 (X : Cx G p l s m args meth c A own cc nL ret tb) {y : MethodName} {bytes : ByteArray} {maxL index fr lo mc ms : Nat} {rt : Option FieldType} {hh : List (Nat × Nat × Nat × Nat)} {rest : List Value} {a1 a2 : Value} {px : String → Prop} {post : Option Value → List Nat → (Nat → va_E) → Prop} (hC : Ct l G y (.codeWith y bytes maxL rt hh) fr lo mc ms [a1, a2] L f px post) (h1 : Cond.methodLink own index y ∈ BIG) (h2 : Cond.static y ∈ BIG) (h4 : Cond.initialized y.cls ∈ BIG) (h5 : Cond.codeWith y bytes maxL rt hh ∈ BIG)
    (hy : y.cls ≠ "java/lang/invoke/MethodHandle" ∧ y.cls ≠ "java/lang/invoke/VarHandle" ∧ (parseMethodDescriptor y.desc).map (fun d => d.parameters.length) = some 2) (hdg : decode cc pc = .ok (.invokestatic index, 3)) (hR : fr + 1 ≤ R.frames ∧ 8 + (maxL + 11) + lo ≤ R.locals) (hc : cells + mc ≤ R.cells ∧ slots + ms ≤ R.slots) (hW : (rest.map fun v => v.category).sum ≤ 8) (kx : ∀ E, px E → JX G p l e R s m args below meth c A Q nL (cells + mc) (slots + ms) pc lv rest L f E) (kk : ∀ (r : Option Value) (L1 : List Nat) (f1 : Nat → va_E), post r L1 f1 → J G p l e R s m args below meth c A Q nL (cells + mc) (slots + ms) (pc + 3) lv (r.toList ++ rest) L1 f1) : J G p l e R s m args below meth c A Q nL cells slots pc lv (a2 :: a1 :: rest) L f :=
  j_callSW (As := [a1, a2]) X hC h1 h2 h4 h5 hy hdg hR hc hW kx kk
theorem j_callSW3 (X : Cx G p l s m args meth c A own cc nL ret tb) {y : MethodName} {bytes : ByteArray} {maxL index fr lo mc ms : Nat} {rt : Option FieldType} {hh : List (Nat × Nat × Nat × Nat)} {rest : List Value} {a1 a2 a3 : Value} {px : String → Prop} {post : Option Value → List Nat → (Nat → va_E) → Prop} (hC : Ct l G y (.codeWith y bytes maxL rt hh) fr lo mc ms [a1, a2, a3] L f px post) (h1 : Cond.methodLink own index y ∈ BIG) (h2 : Cond.static y ∈ BIG) (h4 : Cond.initialized y.cls ∈ BIG) (h5 : Cond.codeWith y bytes maxL rt hh ∈ BIG)
    (hy : y.cls ≠ "java/lang/invoke/MethodHandle" ∧ y.cls ≠ "java/lang/invoke/VarHandle" ∧ (parseMethodDescriptor y.desc).map (fun d => d.parameters.length) = some 3) (hdg : decode cc pc = .ok (.invokestatic index, 3)) (hR : fr + 1 ≤ R.frames ∧ 8 + (maxL + 11) + lo ≤ R.locals) (hc : cells + mc ≤ R.cells ∧ slots + ms ≤ R.slots) (hW : (rest.map fun v => v.category).sum ≤ 8) (kx : ∀ E, px E → JX G p l e R s m args below meth c A Q nL (cells + mc) (slots + ms) pc lv rest L f E) (kk : ∀ (r : Option Value) (L1 : List Nat) (f1 : Nat → va_E), post r L1 f1 → J G p l e R s m args below meth c A Q nL (cells + mc) (slots + ms) (pc + 3) lv (r.toList ++ rest) L1 f1) : J G p l e R s m args below meth c A Q nL cells slots pc lv (a3 :: a2 :: a1 :: rest) L f :=
  j_callSW (As := [a1, a2, a3]) X hC h1 h2 h4 h5 hy hdg hR hc hW kx kk
end JROWS
set_option maxRecDepth 100000 in
set_option maxHeartbeats 8000000 in
theorem m_act {l : Launch} (hl : l.stackTraces = false) {G : GG} {L : List Nat} (hL : LOK L) {a b c : Mem} {N : Nat} {np : Int32} {P PT : Mem → Prop} {k : Nat} (hs : sLn G ≤ 1000) (hk : k < 5000) (hA : ACT N a np P PT) : Ct l G yL_act (.code yL_act cL_act 6 (some .int)) 9 200 10 60 [.ref (ad L 0), .ref (G.2.2.1 100), .int (nI k)] L (FW G L a b c) px0 (stay L (fun r f1 => ∃ (v : Int32) (a' : Mem), f1 = FW G L a' b c ∧ r = some (.int v) ∧ P a' ∧ ((DR0 G k 24).toInt < 6 → PT a'))) := by
  have i1 : (1 : Int32).toInt = 1 := rfl
  have i2 : (2 : Int32).toInt = 2 := rfl
  have i15 : (15 : Int32).toInt = 15 := rfl
  refine Ct.ofq (own := RL) hl rfl (by decide) [some (.ref (ad L 0)), some (.ref (G.2.2.1 100)), some (.int (nI k)), none, none, none] rfl (Nat.le_of_ble_eq_true rfl) ?_
  intro p e s m below meth c9 A ar Q hQ X
  refine j_aload_n X (i := 1) dL_act_0 rfl rfl ?_
  refine j_iload_n X (i := 2) dL_act_1 rfl rfl ?_
  refine j_iconst X (1) dL_act_2 (by decide) ?_
  refine j_iadd X dL_act_3 ?_
  rw [show nI k + (1 : Int32) = nI (k + 1) from nI_add k 1]
  refine j_ldc X dL_act_4 co_L_127 ?_
  refine j_callS3 X (c_draw (k := k + 1) (n := 100000) hl hs (by omega) (by decide)) ml_L_40 st_yL_draw in_L cd_yL_draw hz_yL_draw dL_act_6 ⟨(by decide), (by decide)⟩ ⟨(by dsimp only; omega), (by dsimp only; omega)⟩ (Nat.le_of_ble_eq_true rfl) (fun _ h => h.elim) (fun r9 L9 f9 h9 => ?_)
  obtain ⟨h91, h92, h93⟩ := h9
  subst r9
  subst f9
  subst L9
  dsimp only [Option.toList, List.cons_append, List.nil_append, List.append]
  obtain ⟨n, hn9⟩ : ∃ n, DR0 G (k + 1) 100000 = n := ⟨_, rfl⟩
  have hn := DR0_rng G (k + 1) (n := 100000) (by decide)
  rw [hn9] at hn ⊢
  rw [show (100000 : Int32).toInt = 100000 by decide] at hn
  refine j_istore_n X (i := 3) dL_act_9 rfl (by decide) (by first | exact lvOK_0 | exact lvOK_s rfl okPrev_none | exact lvOK_s rfl okPrev_int | exact lvOK_s rfl okPrev_ref | exact lvOK_s rfl okPrev_null) ?_
  dsimp only [List.set]
  refine j_aload_n X (i := 1) dL_act_10 rfl rfl ?_
  refine j_iload_n X (i := 2) dL_act_11 rfl rfl ?_
  refine j_iconst X (2) dL_act_12 (by decide) ?_
  refine j_iadd X dL_act_13 ?_
  rw [show nI k + (2 : Int32) = nI (k + 2) from nI_add k 2]
  refine j_ldc X dL_act_14 co_L_127 ?_
  refine j_callS3 X (c_draw (k := k + 2) (n := 100000) hl hs (by omega) (by decide)) ml_L_40 st_yL_draw in_L cd_yL_draw hz_yL_draw dL_act_16 ⟨(by decide), (by decide)⟩ ⟨(by dsimp only; omega), (by dsimp only; omega)⟩ (Nat.le_of_ble_eq_true rfl) (fun _ h => h.elim) (fun r9 L9 f9 h9 => ?_)
  obtain ⟨h91, h92, h93⟩ := h9
  subst r9
  subst f9
  subst L9
  dsimp only [Option.toList, List.cons_append, List.nil_append, List.append]
  obtain ⟨mm, hm9⟩ : ∃ mm, DR0 G (k + 2) 100000 = mm := ⟨_, rfl⟩
  have hm := DR0_rng G (k + 2) (n := 100000) (by decide)
  rw [hm9] at hm ⊢
  rw [show (100000 : Int32).toInt = 100000 by decide] at hm
  refine j_istore X (i := 4) dL_act_19 (by decide) (by first | exact lvOK_0 | exact lvOK_s rfl okPrev_none | exact lvOK_s rfl okPrev_int | exact lvOK_s rfl okPrev_ref | exact lvOK_s rfl okPrev_null) ?_
  dsimp only [List.set]
  refine j_iload X (i := 4) dL_act_21 rfl ?_
  refine j_iconst X (2) dL_act_23 (by decide) ?_
  refine j_irem X dL_act_24 (by decide) ?_
  obtain ⟨sd, hsd9⟩ : ∃ sd, mm - mm / 2 * 2 = sd := ⟨_, rfl⟩
  have hsd := bit_of (zr_rng (x := mm) (y := 2) hm.1 (by decide))
  rw [hsd9] at hsd ⊢
  refine j_istore X (i := 5) dL_act_25 (by decide) (by first | exact lvOK_0 | exact lvOK_s rfl okPrev_none | exact lvOK_s rfl okPrev_int | exact lvOK_s rfl okPrev_ref | exact lvOK_s rfl okPrev_null) ?_
  dsimp only [List.set]
  refine j_aload_n X (i := 1) dL_act_27 rfl rfl ?_
  refine j_iload_n X (i := 2) dL_act_28 rfl rfl ?_
  refine j_bipush X (24) dL_act_29 (by decide) ?_
  refine j_callS3 X (c_draw (k := k) (n := 24) hl hs (by omega) (by decide)) ml_L_40 st_yL_draw in_L cd_yL_draw hz_yL_draw dL_act_31 ⟨(by decide), (by decide)⟩ ⟨(by dsimp only; omega), (by dsimp only; omega)⟩ (Nat.le_of_ble_eq_true rfl) (fun _ h => h.elim) (fun r9 L9 f9 h9 => ?_)
  obtain ⟨h91, h92, h93⟩ := h9
  subst r9
  subst f9
  subst L9
  dsimp only [Option.toList, List.cons_append, List.nil_append, List.append]
  obtain ⟨kd, hkd⟩ : ∃ kd, DR0 G k 24 = kd := ⟨_, rfl⟩
  rw [hkd]
  by_cases hv0 : kd = (0 : Int32)
  · have hv := hv0
    refine j_tblIn X (tgt := 140) dL_act_34 (by rw [hv]; decide) (by rw [hv]; decide) (by rw [hv]; rfl) (by decide) ?_
    have q9 := zr_rng (x := n) (y := 9) hn.1 (by decide)
    rw [show (9 : Int32).toInt = 9 by decide] at q9
    have e9 : (1 + (n - n / 9 * 9)).toInt = 1 + (n - n / 9 * 9).toInt := by rw [z_add (by rw [i1]; omega) (by rw [i1]; omega), i1]
    obtain ⟨v0, a0, hr, hp, hpt⟩ := hA.1 (1 + (n - n / 9 * 9)) (by omega) (by omega)
    refine j_aload_n X (i := 0) dL_act_140 rfl rfl ?_
    refine j_iconst X (1) dL_act_141 (by decide) ?_
    refine j_iload_n X (i := 3) dL_act_142 rfl rfl ?_
    refine j_bipush X (9) dL_act_143 (by decide) ?_
    refine j_irem X dL_act_145 (by decide) ?_
    refine j_iadd X dL_act_146 ?_
    refine j_callV1 X 8 (m_X8_tick hl hL hr) ml_L_128 im_yX8_tick se_yX8_tick in_X8 cd_yX8_tick hy_yX8_tick dL_act_147 rfl (inL hL t_0 (by decide)) (FW8 hL t_0) ⟨(by decide), (by decide)⟩ ⟨(by dsimp only; omega), (by dsimp only; omega)⟩ (Nat.le_of_ble_eq_true rfl) (fun E hE => by obtain ⟨n9, hn9, -⟩ := hE; cases hn9) (fun r9 L9 f9 h9 => ?_)
    obtain ⟨h91, v9, a9, hk9, h92, h93⟩ := h9
    cases hk9
    subst r9
    subst f9
    subst L9
    dsimp only [Option.toList, List.cons_append, List.nil_append, List.append]
    exact q_iret X hQ dL_act_150 rfl ⟨(by omega), (by omega)⟩ ⟨rfl, _, _, rfl, rfl, hp, fun _ => hpt⟩
  by_cases hv1 : kd = (1 : Int32)
  · have hv := hv1
    refine j_tblIn X (tgt := 140) dL_act_34 (by rw [hv]; decide) (by rw [hv]; decide) (by rw [hv]; rfl) (by decide) ?_
    have q9 := zr_rng (x := n) (y := 9) hn.1 (by decide)
    rw [show (9 : Int32).toInt = 9 by decide] at q9
    have e9 : (1 + (n - n / 9 * 9)).toInt = 1 + (n - n / 9 * 9).toInt := by rw [z_add (by rw [i1]; omega) (by rw [i1]; omega), i1]
    obtain ⟨v0, a0, hr, hp, hpt⟩ := hA.1 (1 + (n - n / 9 * 9)) (by omega) (by omega)
    refine j_aload_n X (i := 0) dL_act_140 rfl rfl ?_
    refine j_iconst X (1) dL_act_141 (by decide) ?_
    refine j_iload_n X (i := 3) dL_act_142 rfl rfl ?_
    refine j_bipush X (9) dL_act_143 (by decide) ?_
    refine j_irem X dL_act_145 (by decide) ?_
    refine j_iadd X dL_act_146 ?_
    refine j_callV1 X 8 (m_X8_tick hl hL hr) ml_L_128 im_yX8_tick se_yX8_tick in_X8 cd_yX8_tick hy_yX8_tick dL_act_147 rfl (inL hL t_0 (by decide)) (FW8 hL t_0) ⟨(by decide), (by decide)⟩ ⟨(by dsimp only; omega), (by dsimp only; omega)⟩ (Nat.le_of_ble_eq_true rfl) (fun E hE => by obtain ⟨n9, hn9, -⟩ := hE; cases hn9) (fun r9 L9 f9 h9 => ?_)
    obtain ⟨h91, v9, a9, hk9, h92, h93⟩ := h9
    cases hk9
    subst r9
    subst f9
    subst L9
    dsimp only [Option.toList, List.cons_append, List.nil_append, List.append]
    exact q_iret X hQ dL_act_150 rfl ⟨(by omega), (by omega)⟩ ⟨rfl, _, _, rfl, rfl, hp, fun _ => hpt⟩
  by_cases hv2 : kd = (2 : Int32)
  · have hv := hv2
    refine j_tblIn X (tgt := 140) dL_act_34 (by rw [hv]; decide) (by rw [hv]; decide) (by rw [hv]; rfl) (by decide) ?_
    have q9 := zr_rng (x := n) (y := 9) hn.1 (by decide)
    rw [show (9 : Int32).toInt = 9 by decide] at q9
    have e9 : (1 + (n - n / 9 * 9)).toInt = 1 + (n - n / 9 * 9).toInt := by rw [z_add (by rw [i1]; omega) (by rw [i1]; omega), i1]
    obtain ⟨v0, a0, hr, hp, hpt⟩ := hA.1 (1 + (n - n / 9 * 9)) (by omega) (by omega)
    refine j_aload_n X (i := 0) dL_act_140 rfl rfl ?_
    refine j_iconst X (1) dL_act_141 (by decide) ?_
    refine j_iload_n X (i := 3) dL_act_142 rfl rfl ?_
    refine j_bipush X (9) dL_act_143 (by decide) ?_
    refine j_irem X dL_act_145 (by decide) ?_
    refine j_iadd X dL_act_146 ?_
    refine j_callV1 X 8 (m_X8_tick hl hL hr) ml_L_128 im_yX8_tick se_yX8_tick in_X8 cd_yX8_tick hy_yX8_tick dL_act_147 rfl (inL hL t_0 (by decide)) (FW8 hL t_0) ⟨(by decide), (by decide)⟩ ⟨(by dsimp only; omega), (by dsimp only; omega)⟩ (Nat.le_of_ble_eq_true rfl) (fun E hE => by obtain ⟨n9, hn9, -⟩ := hE; cases hn9) (fun r9 L9 f9 h9 => ?_)
    obtain ⟨h91, v9, a9, hk9, h92, h93⟩ := h9
    cases hk9
    subst r9
    subst f9
    subst L9
    dsimp only [Option.toList, List.cons_append, List.nil_append, List.append]
    exact q_iret X hQ dL_act_150 rfl ⟨(by omega), (by omega)⟩ ⟨rfl, _, _, rfl, rfl, hp, fun _ => hpt⟩
  by_cases hv3 : kd = (3 : Int32)
  · have hv := hv3
    refine j_tblIn X (tgt := 140) dL_act_34 (by rw [hv]; decide) (by rw [hv]; decide) (by rw [hv]; rfl) (by decide) ?_
    have q9 := zr_rng (x := n) (y := 9) hn.1 (by decide)
    rw [show (9 : Int32).toInt = 9 by decide] at q9
    have e9 : (1 + (n - n / 9 * 9)).toInt = 1 + (n - n / 9 * 9).toInt := by rw [z_add (by rw [i1]; omega) (by rw [i1]; omega), i1]
    obtain ⟨v0, a0, hr, hp, hpt⟩ := hA.1 (1 + (n - n / 9 * 9)) (by omega) (by omega)
    refine j_aload_n X (i := 0) dL_act_140 rfl rfl ?_
    refine j_iconst X (1) dL_act_141 (by decide) ?_
    refine j_iload_n X (i := 3) dL_act_142 rfl rfl ?_
    refine j_bipush X (9) dL_act_143 (by decide) ?_
    refine j_irem X dL_act_145 (by decide) ?_
    refine j_iadd X dL_act_146 ?_
    refine j_callV1 X 8 (m_X8_tick hl hL hr) ml_L_128 im_yX8_tick se_yX8_tick in_X8 cd_yX8_tick hy_yX8_tick dL_act_147 rfl (inL hL t_0 (by decide)) (FW8 hL t_0) ⟨(by decide), (by decide)⟩ ⟨(by dsimp only; omega), (by dsimp only; omega)⟩ (Nat.le_of_ble_eq_true rfl) (fun E hE => by obtain ⟨n9, hn9, -⟩ := hE; cases hn9) (fun r9 L9 f9 h9 => ?_)
    obtain ⟨h91, v9, a9, hk9, h92, h93⟩ := h9
    cases hk9
    subst r9
    subst f9
    subst L9
    dsimp only [Option.toList, List.cons_append, List.nil_append, List.append]
    exact q_iret X hQ dL_act_150 rfl ⟨(by omega), (by omega)⟩ ⟨rfl, _, _, rfl, rfl, hp, fun _ => hpt⟩
  by_cases hv4 : kd = (4 : Int32)
  · have hv := hv4
    refine j_tblIn X (tgt := 140) dL_act_34 (by rw [hv]; decide) (by rw [hv]; decide) (by rw [hv]; rfl) (by decide) ?_
    have q9 := zr_rng (x := n) (y := 9) hn.1 (by decide)
    rw [show (9 : Int32).toInt = 9 by decide] at q9
    have e9 : (1 + (n - n / 9 * 9)).toInt = 1 + (n - n / 9 * 9).toInt := by rw [z_add (by rw [i1]; omega) (by rw [i1]; omega), i1]
    obtain ⟨v0, a0, hr, hp, hpt⟩ := hA.1 (1 + (n - n / 9 * 9)) (by omega) (by omega)
    refine j_aload_n X (i := 0) dL_act_140 rfl rfl ?_
    refine j_iconst X (1) dL_act_141 (by decide) ?_
    refine j_iload_n X (i := 3) dL_act_142 rfl rfl ?_
    refine j_bipush X (9) dL_act_143 (by decide) ?_
    refine j_irem X dL_act_145 (by decide) ?_
    refine j_iadd X dL_act_146 ?_
    refine j_callV1 X 8 (m_X8_tick hl hL hr) ml_L_128 im_yX8_tick se_yX8_tick in_X8 cd_yX8_tick hy_yX8_tick dL_act_147 rfl (inL hL t_0 (by decide)) (FW8 hL t_0) ⟨(by decide), (by decide)⟩ ⟨(by dsimp only; omega), (by dsimp only; omega)⟩ (Nat.le_of_ble_eq_true rfl) (fun E hE => by obtain ⟨n9, hn9, -⟩ := hE; cases hn9) (fun r9 L9 f9 h9 => ?_)
    obtain ⟨h91, v9, a9, hk9, h92, h93⟩ := h9
    cases hk9
    subst r9
    subst f9
    subst L9
    dsimp only [Option.toList, List.cons_append, List.nil_append, List.append]
    exact q_iret X hQ dL_act_150 rfl ⟨(by omega), (by omega)⟩ ⟨rfl, _, _, rfl, rfl, hp, fun _ => hpt⟩
  by_cases hv5 : kd = (5 : Int32)
  · have hv := hv5
    refine j_tblIn X (tgt := 140) dL_act_34 (by rw [hv]; decide) (by rw [hv]; decide) (by rw [hv]; rfl) (by decide) ?_
    have q9 := zr_rng (x := n) (y := 9) hn.1 (by decide)
    rw [show (9 : Int32).toInt = 9 by decide] at q9
    have e9 : (1 + (n - n / 9 * 9)).toInt = 1 + (n - n / 9 * 9).toInt := by rw [z_add (by rw [i1]; omega) (by rw [i1]; omega), i1]
    obtain ⟨v0, a0, hr, hp, hpt⟩ := hA.1 (1 + (n - n / 9 * 9)) (by omega) (by omega)
    refine j_aload_n X (i := 0) dL_act_140 rfl rfl ?_
    refine j_iconst X (1) dL_act_141 (by decide) ?_
    refine j_iload_n X (i := 3) dL_act_142 rfl rfl ?_
    refine j_bipush X (9) dL_act_143 (by decide) ?_
    refine j_irem X dL_act_145 (by decide) ?_
    refine j_iadd X dL_act_146 ?_
    refine j_callV1 X 8 (m_X8_tick hl hL hr) ml_L_128 im_yX8_tick se_yX8_tick in_X8 cd_yX8_tick hy_yX8_tick dL_act_147 rfl (inL hL t_0 (by decide)) (FW8 hL t_0) ⟨(by decide), (by decide)⟩ ⟨(by dsimp only; omega), (by dsimp only; omega)⟩ (Nat.le_of_ble_eq_true rfl) (fun E hE => by obtain ⟨n9, hn9, -⟩ := hE; cases hn9) (fun r9 L9 f9 h9 => ?_)
    obtain ⟨h91, v9, a9, hk9, h92, h93⟩ := h9
    cases hk9
    subst r9
    subst f9
    subst L9
    dsimp only [Option.toList, List.cons_append, List.nil_append, List.append]
    exact q_iret X hQ dL_act_150 rfl ⟨(by omega), (by omega)⟩ ⟨rfl, _, _, rfl, rfl, hp, fun _ => hpt⟩
  by_cases hv6 : kd = (6 : Int32)
  · have hv := hv6
    refine j_tblIn X (tgt := 151) dL_act_34 (by rw [hv]; decide) (by rw [hv]; decide) (by rw [hv]; rfl) (by decide) ?_
    obtain ⟨v0, a0, hr, hp⟩ := hA.2.1
    refine j_aload_n X (i := 0) dL_act_151 rfl rfl ?_
    refine j_callSW1 X (m_L_moved hl hL hr) ml_L_131 st_yL_moved in_L cd_yL_moved hz_yL_moved dL_act_152 ⟨(by decide), (by decide)⟩ ⟨(by dsimp only; omega), (by dsimp only; omega)⟩ (Nat.le_of_ble_eq_true rfl) (fun _ h => h.elim) (fun r9 L9 f9 h9 => ?_)
    obtain ⟨h91, h92, h93⟩ := h9
    subst r9
    subst f9
    subst L9
    dsimp only [Option.toList, List.cons_append, List.nil_append, List.append]
    exact q_iret X hQ dL_act_155 rfl ⟨(by omega), (by omega)⟩ ⟨rfl, _, _, rfl, rfl, hp, fun h => absurd h (by rw [hkd, hv]; decide)⟩
  by_cases hv7 : kd = (7 : Int32)
  · have hv := hv7
    refine j_tblIn X (tgt := 151) dL_act_34 (by rw [hv]; decide) (by rw [hv]; decide) (by rw [hv]; rfl) (by decide) ?_
    obtain ⟨v0, a0, hr, hp⟩ := hA.2.1
    refine j_aload_n X (i := 0) dL_act_151 rfl rfl ?_
    refine j_callSW1 X (m_L_moved hl hL hr) ml_L_131 st_yL_moved in_L cd_yL_moved hz_yL_moved dL_act_152 ⟨(by decide), (by decide)⟩ ⟨(by dsimp only; omega), (by dsimp only; omega)⟩ (Nat.le_of_ble_eq_true rfl) (fun _ h => h.elim) (fun r9 L9 f9 h9 => ?_)
    obtain ⟨h91, h92, h93⟩ := h9
    subst r9
    subst f9
    subst L9
    dsimp only [Option.toList, List.cons_append, List.nil_append, List.append]
    exact q_iret X hQ dL_act_155 rfl ⟨(by omega), (by omega)⟩ ⟨rfl, _, _, rfl, rfl, hp, fun h => absurd h (by rw [hkd, hv]; decide)⟩
  by_cases hv8 : kd = (8 : Int32)
  · have hv := hv8
    refine j_tblIn X (tgt := 151) dL_act_34 (by rw [hv]; decide) (by rw [hv]; decide) (by rw [hv]; rfl) (by decide) ?_
    obtain ⟨v0, a0, hr, hp⟩ := hA.2.1
    refine j_aload_n X (i := 0) dL_act_151 rfl rfl ?_
    refine j_callSW1 X (m_L_moved hl hL hr) ml_L_131 st_yL_moved in_L cd_yL_moved hz_yL_moved dL_act_152 ⟨(by decide), (by decide)⟩ ⟨(by dsimp only; omega), (by dsimp only; omega)⟩ (Nat.le_of_ble_eq_true rfl) (fun _ h => h.elim) (fun r9 L9 f9 h9 => ?_)
    obtain ⟨h91, h92, h93⟩ := h9
    subst r9
    subst f9
    subst L9
    dsimp only [Option.toList, List.cons_append, List.nil_append, List.append]
    exact q_iret X hQ dL_act_155 rfl ⟨(by omega), (by omega)⟩ ⟨rfl, _, _, rfl, rfl, hp, fun h => absurd h (by rw [hkd, hv]; decide)⟩
  by_cases hv9 : kd = (9 : Int32)
  · have hv := hv9
    refine j_tblIn X (tgt := 151) dL_act_34 (by rw [hv]; decide) (by rw [hv]; decide) (by rw [hv]; rfl) (by decide) ?_
    obtain ⟨v0, a0, hr, hp⟩ := hA.2.1
    refine j_aload_n X (i := 0) dL_act_151 rfl rfl ?_
    refine j_callSW1 X (m_L_moved hl hL hr) ml_L_131 st_yL_moved in_L cd_yL_moved hz_yL_moved dL_act_152 ⟨(by decide), (by decide)⟩ ⟨(by dsimp only; omega), (by dsimp only; omega)⟩ (Nat.le_of_ble_eq_true rfl) (fun _ h => h.elim) (fun r9 L9 f9 h9 => ?_)
    obtain ⟨h91, h92, h93⟩ := h9
    subst r9
    subst f9
    subst L9
    dsimp only [Option.toList, List.cons_append, List.nil_append, List.append]
    exact q_iret X hQ dL_act_155 rfl ⟨(by omega), (by omega)⟩ ⟨rfl, _, _, rfl, rfl, hp, fun h => absurd h (by rw [hkd, hv]; decide)⟩
  by_cases hv10 : kd = (10 : Int32)
  · have hv := hv10
    refine j_tblIn X (tgt := 151) dL_act_34 (by rw [hv]; decide) (by rw [hv]; decide) (by rw [hv]; rfl) (by decide) ?_
    obtain ⟨v0, a0, hr, hp⟩ := hA.2.1
    refine j_aload_n X (i := 0) dL_act_151 rfl rfl ?_
    refine j_callSW1 X (m_L_moved hl hL hr) ml_L_131 st_yL_moved in_L cd_yL_moved hz_yL_moved dL_act_152 ⟨(by decide), (by decide)⟩ ⟨(by dsimp only; omega), (by dsimp only; omega)⟩ (Nat.le_of_ble_eq_true rfl) (fun _ h => h.elim) (fun r9 L9 f9 h9 => ?_)
    obtain ⟨h91, h92, h93⟩ := h9
    subst r9
    subst f9
    subst L9
    dsimp only [Option.toList, List.cons_append, List.nil_append, List.append]
    exact q_iret X hQ dL_act_155 rfl ⟨(by omega), (by omega)⟩ ⟨rfl, _, _, rfl, rfl, hp, fun h => absurd h (by rw [hkd, hv]; decide)⟩
  by_cases hv11 : kd = (11 : Int32)
  · have hv := hv11
    refine j_tblIn X (tgt := 151) dL_act_34 (by rw [hv]; decide) (by rw [hv]; decide) (by rw [hv]; rfl) (by decide) ?_
    obtain ⟨v0, a0, hr, hp⟩ := hA.2.1
    refine j_aload_n X (i := 0) dL_act_151 rfl rfl ?_
    refine j_callSW1 X (m_L_moved hl hL hr) ml_L_131 st_yL_moved in_L cd_yL_moved hz_yL_moved dL_act_152 ⟨(by decide), (by decide)⟩ ⟨(by dsimp only; omega), (by dsimp only; omega)⟩ (Nat.le_of_ble_eq_true rfl) (fun _ h => h.elim) (fun r9 L9 f9 h9 => ?_)
    obtain ⟨h91, h92, h93⟩ := h9
    subst r9
    subst f9
    subst L9
    dsimp only [Option.toList, List.cons_append, List.nil_append, List.append]
    exact q_iret X hQ dL_act_155 rfl ⟨(by omega), (by omega)⟩ ⟨rfl, _, _, rfl, rfl, hp, fun h => absurd h (by rw [hkd, hv]; decide)⟩
  by_cases hv12 : kd = (12 : Int32)
  · have hv := hv12
    refine j_tblIn X (tgt := 156) dL_act_34 (by rw [hv]; decide) (by rw [hv]; decide) (by rw [hv]; rfl) (by decide) ?_
    refine j_aload_n X (i := 0) dL_act_156 rfl rfl ?_
    refine j_iload_n X (i := 3) dL_act_157 rfl rfl ?_
    refine j_iconst X (2) dL_act_158 (by decide) ?_
    refine j_irem X dL_act_159 (by decide) ?_
    refine j_if_ne X (tgt := 167) dL_act_160 (by decide) (fun h => ?_) (fun h => ?_)
    · obtain ⟨v0, a0, hr, hp⟩ := hA.2.2.2.1
      refine j_iconst X (0) dL_act_167 (by decide) ?_
      refine j_callSW2 X (m_L_paused0 hl hL hr) ml_L_135 st_yL_paused in_L cd_yL_paused hz_yL_paused dL_act_168 ⟨(by decide), (by decide)⟩ ⟨(by dsimp only; omega), (by dsimp only; omega)⟩ (Nat.le_of_ble_eq_true rfl) (fun _ h => h.elim) (fun r9 L9 f9 h9 => ?_)
      obtain ⟨h91, h92, h93⟩ := h9
      subst r9
      subst f9
      subst L9
      dsimp only [Option.toList, List.cons_append, List.nil_append, List.append]
      exact q_iret X hQ dL_act_171 rfl ⟨(by omega), (by omega)⟩ ⟨rfl, _, _, rfl, rfl, hp, fun h => absurd h (by rw [hkd, hv]; decide)⟩
    · obtain ⟨v0, a0, hr, hp⟩ := hA.2.2.1
      refine j_iconst X (1) dL_act_163 (by decide) ?_
      refine j_goto X (tgt := 168) dL_act_164 (by decide) ?_
      refine j_callSW2 X (m_L_paused1 hl hL hr) ml_L_135 st_yL_paused in_L cd_yL_paused hz_yL_paused dL_act_168 ⟨(by decide), (by decide)⟩ ⟨(by dsimp only; omega), (by dsimp only; omega)⟩ (Nat.le_of_ble_eq_true rfl) (fun _ h => h.elim) (fun r9 L9 f9 h9 => ?_)
      obtain ⟨h91, h92, h93⟩ := h9
      subst r9
      subst f9
      subst L9
      dsimp only [Option.toList, List.cons_append, List.nil_append, List.append]
      exact q_iret X hQ dL_act_171 rfl ⟨(by omega), (by omega)⟩ ⟨rfl, _, _, rfl, rfl, hp, fun h => absurd h (by rw [hkd, hv]; decide)⟩
  by_cases hv13 : kd = (13 : Int32)
  · have hv := hv13
    refine j_tblIn X (tgt := 172) dL_act_34 (by rw [hv]; decide) (by rw [hv]; decide) (by rw [hv]; rfl) (by decide) ?_
    obtain ⟨v0, a0, hr, hp⟩ := hA.2.2.2.1
    refine j_aload_n X (i := 0) dL_act_172 rfl rfl ?_
    refine j_iconst X (0) dL_act_173 (by decide) ?_
    refine j_callSW2 X (m_L_paused0 hl hL hr) ml_L_135 st_yL_paused in_L cd_yL_paused hz_yL_paused dL_act_174 ⟨(by decide), (by decide)⟩ ⟨(by dsimp only; omega), (by dsimp only; omega)⟩ (Nat.le_of_ble_eq_true rfl) (fun _ h => h.elim) (fun r9 L9 f9 h9 => ?_)
    obtain ⟨h91, h92, h93⟩ := h9
    subst r9
    subst f9
    subst L9
    dsimp only [Option.toList, List.cons_append, List.nil_append, List.append]
    exact q_iret X hQ dL_act_177 rfl ⟨(by omega), (by omega)⟩ ⟨rfl, _, _, rfl, rfl, hp, fun h => absurd h (by rw [hkd, hv]; decide)⟩
  by_cases hv14 : kd = (14 : Int32)
  · have hv := hv14
    refine j_tblIn X (tgt := 178) dL_act_34 (by rw [hv]; decide) (by rw [hv]; decide) (by rw [hv]; rfl) (by decide) ?_
    obtain ⟨v0, a0, hr, hp⟩ := hA.2.2.2.2.1
    refine j_aload_n X (i := 0) dL_act_178 rfl rfl ?_
    refine j_callSW1 X (m_L_sealed hl hL hr) ml_L_139 st_yL_sealed in_L cd_yL_sealed hz_yL_sealed dL_act_179 ⟨(by decide), (by decide)⟩ ⟨(by dsimp only; omega), (by dsimp only; omega)⟩ (Nat.le_of_ble_eq_true rfl) (fun _ h => h.elim) (fun r9 L9 f9 h9 => ?_)
    obtain ⟨h91, h92, h93⟩ := h9
    subst r9
    subst f9
    subst L9
    dsimp only [Option.toList, List.cons_append, List.nil_append, List.append]
    exact q_iret X hQ dL_act_182 rfl ⟨(by omega), (by omega)⟩ ⟨rfl, _, _, rfl, rfl, hp, fun h => absurd h (by rw [hkd, hv]; decide)⟩
  by_cases hv15 : kd = (15 : Int32)
  · have hv := hv15
    refine j_tblIn X (tgt := 183) dL_act_34 (by rw [hv]; decide) (by rw [hv]; decide) (by rw [hv]; rfl) (by decide) ?_
    obtain ⟨v0, a0, hr, hp⟩ := hA.2.2.2.2.2.1
    refine j_aload_n X (i := 0) dL_act_183 rfl rfl ?_
    refine j_callSW1 X (m_L_opened hl hL hr) ml_L_142 st_yL_opened in_L cd_yL_opened hz_yL_opened dL_act_184 ⟨(by decide), (by decide)⟩ ⟨(by dsimp only; omega), (by dsimp only; omega)⟩ (Nat.le_of_ble_eq_true rfl) (fun _ h => h.elim) (fun r9 L9 f9 h9 => ?_)
    obtain ⟨h91, h92, h93⟩ := h9
    subst r9
    subst f9
    subst L9
    dsimp only [Option.toList, List.cons_append, List.nil_append, List.append]
    exact q_iret X hQ dL_act_187 rfl ⟨(by omega), (by omega)⟩ ⟨rfl, _, _, rfl, rfl, hp, fun h => absurd h (by rw [hkd, hv]; decide)⟩
  by_cases hv16 : kd = (16 : Int32)
  · have hv := hv16
    refine j_tblIn X (tgt := 188) dL_act_34 (by rw [hv]; decide) (by rw [hv]; decide) (by rw [hv]; rfl) (by decide) ?_
    refine j_iload_n X (i := 3) dL_act_188 rfl rfl ?_
    refine j_iconst X (3) dL_act_189 (by decide) ?_
    refine j_irem X dL_act_190 (by decide) ?_
    refine j_if_ne X (tgt := 203) dL_act_191 (by decide) (fun h => ?_) (fun h => ?_)
    · obtain ⟨v0, a0, hr, hp⟩ := hA.2.2.2.2.2.1
      refine j_aload_n X (i := 0) dL_act_203 rfl rfl ?_
      refine j_callSW1 X (m_L_opened hl hL hr) ml_L_142 st_yL_opened in_L cd_yL_opened hz_yL_opened dL_act_204 ⟨(by decide), (by decide)⟩ ⟨(by dsimp only; omega), (by dsimp only; omega)⟩ (Nat.le_of_ble_eq_true rfl) (fun _ h => h.elim) (fun r9 L9 f9 h9 => ?_)
      obtain ⟨h91, h92, h93⟩ := h9
      subst r9
      subst f9
      subst L9
      dsimp only [Option.toList, List.cons_append, List.nil_append, List.append]
      exact q_iret X hQ dL_act_207 rfl ⟨(by omega), (by omega)⟩ ⟨rfl, _, _, rfl, rfl, hp, fun h => absurd h (by rw [hkd, hv]; decide)⟩
    · obtain ⟨v0, a0, hr, hp⟩ := hA.2.2.2.2.2.2.1 sd hsd
      refine j_aload_n X (i := 0) dL_act_194 rfl rfl ?_
      refine j_iload X (i := 5) dL_act_195 rfl ?_
      refine j_callSW2 X (m_L_claimed hl hL hr) ml_L_145 st_yL_claimed in_L cd_yL_claimed hz_yL_claimed dL_act_197 ⟨(by decide), (by decide)⟩ ⟨(by dsimp only; omega), (by dsimp only; omega)⟩ (Nat.le_of_ble_eq_true rfl) (fun _ h => h.elim) (fun r9 L9 f9 h9 => ?_)
      obtain ⟨h91, h92, h93⟩ := h9
      subst r9
      subst f9
      subst L9
      dsimp only [Option.toList, List.cons_append, List.nil_append, List.append]
      refine j_goto X (tgt := 207) dL_act_200 (by decide) ?_
      exact q_iret X hQ dL_act_207 rfl ⟨(by omega), (by omega)⟩ ⟨rfl, _, _, rfl, rfl, hp, fun h => absurd h (by rw [hkd, hv]; decide)⟩
  by_cases hv17 : kd = (17 : Int32)
  · have hv := hv17
    refine j_tblIn X (tgt := 208) dL_act_34 (by rw [hv]; decide) (by rw [hv]; decide) (by rw [hv]; rfl) (by decide) ?_
    have q9 := zr_rng (x := n) (y := 60) hn.1 (by decide)
    rw [show (60 : Int32).toInt = 60 by decide] at q9
    have e9 : (n - n / 60 * 60 - 15).toInt = (n - n / 60 * 60).toInt - 15 := by rw [z_sub (by rw [i15]; omega) (by rw [i15]; omega), i15]
    obtain ⟨v0, a0, hr, hp⟩ := hA.2.2.2.2.2.2.2.1 sd (n - n / 60 * 60 - 15) hsd (by omega) (by omega)
    refine j_aload_n X (i := 0) dL_act_208 rfl rfl ?_
    refine j_iload X (i := 5) dL_act_209 rfl ?_
    refine j_iload_n X (i := 3) dL_act_211 rfl rfl ?_
    refine j_bipush X (60) dL_act_212 (by decide) ?_
    refine j_irem X dL_act_214 (by decide) ?_
    refine j_bipush X (15) dL_act_215 (by decide) ?_
    refine j_isub X dL_act_217 ?_
    refine j_callSW3 X (m_L_given hl hL hr) ml_L_149 st_yL_given in_L cd_yL_given hz_yL_given dL_act_218 ⟨(by decide), (by decide)⟩ ⟨(by dsimp only; omega), (by dsimp only; omega)⟩ (Nat.le_of_ble_eq_true rfl) (fun _ h => h.elim) (fun r9 L9 f9 h9 => ?_)
    obtain ⟨h91, h92, h93⟩ := h9
    subst r9
    subst f9
    subst L9
    dsimp only [Option.toList, List.cons_append, List.nil_append, List.append]
    exact q_iret X hQ dL_act_221 rfl ⟨(by omega), (by omega)⟩ ⟨rfl, _, _, rfl, rfl, hp, fun h => absurd h (by rw [hkd, hv]; decide)⟩
  by_cases hv18 : kd = (18 : Int32)
  · have hv := hv18
    refine j_tblIn X (tgt := 222) dL_act_34 (by rw [hv]; decide) (by rw [hv]; decide) (by rw [hv]; rfl) (by decide) ?_
    refine j_aload_n X (i := 0) dL_act_222 rfl rfl ?_
    refine j_iload X (i := 5) dL_act_223 rfl ?_
    refine j_iload_n X (i := 3) dL_act_225 rfl rfl ?_
    refine j_iconst X (2) dL_act_226 (by decide) ?_
    refine j_irem X dL_act_227 (by decide) ?_
    refine j_if_ne X (tgt := 235) dL_act_228 (by decide) (fun h => ?_) (fun h => ?_)
    · obtain ⟨v0, a0, hr, hp⟩ := hA.2.2.2.2.2.2.2.2.1 sd 0 hsd (by decide)
      refine j_iconst X (0) dL_act_235 (by decide) ?_
      refine j_callV2 X 8 (m_X8_setBare hl hL isB_0 hr) ml_L_153 im_yX8_setBare se_yX8_setBare in_X8 cd_yX8_setBare hy_yX8_setBare dL_act_236 rfl (inL hL t_0 (by decide)) (FW8 hL t_0) ⟨(by decide), (by decide)⟩ ⟨(by dsimp only; omega), (by dsimp only; omega)⟩ (Nat.le_of_ble_eq_true rfl) (fun E hE => by obtain ⟨n9, hn9, -⟩ := hE; cases hn9) (fun r9 L9 f9 h9 => ?_)
      obtain ⟨h91, v9, a9, hk9, h92, h93, hB9⟩ := h9
      cases hk9
      subst r9
      subst f9
      subst L9
      dsimp only [Option.toList, List.cons_append, List.nil_append, List.append]
      refine j_if_eq X (tgt := 246) dL_act_239 (by decide) (fun h7 => ?_) (fun h7 => ?_)
      · skip
        refine j_iconst X (0) dL_act_246 (by decide) ?_
        exact q_iret X hQ dL_act_247 rfl ⟨(by omega), (by omega)⟩ ⟨rfl, _, _, rfl, rfl, hp, fun h => absurd h (by rw [hkd, hv]; decide)⟩
      · skip
        refine j_iconst X (1) dL_act_242 (by decide) ?_
        refine j_goto X (tgt := 247) dL_act_243 (by decide) ?_
        exact q_iret X hQ dL_act_247 rfl ⟨(by omega), (by omega)⟩ ⟨rfl, _, _, rfl, rfl, hp, fun h => absurd h (by rw [hkd, hv]; decide)⟩
    · obtain ⟨v0, a0, hr, hp⟩ := hA.2.2.2.2.2.2.2.2.1 sd 1 hsd (by decide)
      refine j_iconst X (1) dL_act_231 (by decide) ?_
      refine j_goto X (tgt := 236) dL_act_232 (by decide) ?_
      refine j_callV2 X 8 (m_X8_setBare hl hL isB_1 hr) ml_L_153 im_yX8_setBare se_yX8_setBare in_X8 cd_yX8_setBare hy_yX8_setBare dL_act_236 rfl (inL hL t_0 (by decide)) (FW8 hL t_0) ⟨(by decide), (by decide)⟩ ⟨(by dsimp only; omega), (by dsimp only; omega)⟩ (Nat.le_of_ble_eq_true rfl) (fun E hE => by obtain ⟨n9, hn9, -⟩ := hE; cases hn9) (fun r9 L9 f9 h9 => ?_)
      obtain ⟨h91, v9, a9, hk9, h92, h93, hB9⟩ := h9
      cases hk9
      subst r9
      subst f9
      subst L9
      dsimp only [Option.toList, List.cons_append, List.nil_append, List.append]
      refine j_if_eq X (tgt := 246) dL_act_239 (by decide) (fun h7 => ?_) (fun h7 => ?_)
      · skip
        refine j_iconst X (0) dL_act_246 (by decide) ?_
        exact q_iret X hQ dL_act_247 rfl ⟨(by omega), (by omega)⟩ ⟨rfl, _, _, rfl, rfl, hp, fun h => absurd h (by rw [hkd, hv]; decide)⟩
      · skip
        refine j_iconst X (1) dL_act_242 (by decide) ?_
        refine j_goto X (tgt := 247) dL_act_243 (by decide) ?_
        exact q_iret X hQ dL_act_247 rfl ⟨(by omega), (by omega)⟩ ⟨rfl, _, _, rfl, rfl, hp, fun h => absurd h (by rw [hkd, hv]; decide)⟩
  by_cases hv19 : kd = (19 : Int32)
  · have hv := hv19
    refine j_tblIn X (tgt := 248) dL_act_34 (by rw [hv]; decide) (by rw [hv]; decide) (by rw [hv]; rfl) (by decide) ?_
    refine j_aload_n X (i := 0) dL_act_248 rfl rfl ?_
    refine j_iload_n X (i := 3) dL_act_249 rfl rfl ?_
    refine j_iconst X (3) dL_act_250 (by decide) ?_
    refine j_irem X dL_act_251 (by decide) ?_
    refine j_if_le X (tgt := 259) dL_act_252 (by decide) (fun h => ?_) (fun h => ?_)
    · have hp := hA.2.2.2.2.2.2.2.2.2.1 0 (by decide)
      refine j_iconst X (0) dL_act_259 (by decide) ?_
      refine j_callV1 X 8 (m_X8_setClaims hl hL isB_0 rfl) ml_L_157 im_yX8_setClaims se_yX8_setClaims in_X8 cd_yX8_setClaims hy_yX8_setClaims dL_act_260 rfl (inL hL t_0 (by decide)) (FW8 hL t_0) ⟨(by decide), (by decide)⟩ ⟨(by dsimp only; omega), (by dsimp only; omega)⟩ (Nat.le_of_ble_eq_true rfl) (fun _ h => h.elim) (fun r9 L9 f9 h9 => ?_)
      obtain ⟨h91, h92, h93, hB9⟩ := h9
      subst r9
      subst f9
      subst L9
      dsimp only [Option.toList, List.cons_append, List.nil_append, List.append]
      refine j_if_eq X (tgt := 270) dL_act_263 (by decide) (fun h7 => ?_) (fun h7 => ?_)
      · skip
        refine j_iconst X (0) dL_act_270 (by decide) ?_
        exact q_iret X hQ dL_act_271 rfl ⟨(by omega), (by omega)⟩ ⟨rfl, _, _, rfl, rfl, hp, fun h => absurd h (by rw [hkd, hv]; decide)⟩
      · skip
        refine j_iconst X (1) dL_act_266 (by decide) ?_
        refine j_goto X (tgt := 271) dL_act_267 (by decide) ?_
        exact q_iret X hQ dL_act_271 rfl ⟨(by omega), (by omega)⟩ ⟨rfl, _, _, rfl, rfl, hp, fun h => absurd h (by rw [hkd, hv]; decide)⟩
    · have hp := hA.2.2.2.2.2.2.2.2.2.1 1 (by decide)
      refine j_iconst X (1) dL_act_255 (by decide) ?_
      refine j_goto X (tgt := 260) dL_act_256 (by decide) ?_
      refine j_callV1 X 8 (m_X8_setClaims hl hL isB_1 rfl) ml_L_157 im_yX8_setClaims se_yX8_setClaims in_X8 cd_yX8_setClaims hy_yX8_setClaims dL_act_260 rfl (inL hL t_0 (by decide)) (FW8 hL t_0) ⟨(by decide), (by decide)⟩ ⟨(by dsimp only; omega), (by dsimp only; omega)⟩ (Nat.le_of_ble_eq_true rfl) (fun _ h => h.elim) (fun r9 L9 f9 h9 => ?_)
      obtain ⟨h91, h92, h93, hB9⟩ := h9
      subst r9
      subst f9
      subst L9
      dsimp only [Option.toList, List.cons_append, List.nil_append, List.append]
      refine j_if_eq X (tgt := 270) dL_act_263 (by decide) (fun h7 => ?_) (fun h7 => ?_)
      · skip
        refine j_iconst X (0) dL_act_270 (by decide) ?_
        exact q_iret X hQ dL_act_271 rfl ⟨(by omega), (by omega)⟩ ⟨rfl, _, _, rfl, rfl, hp, fun h => absurd h (by rw [hkd, hv]; decide)⟩
      · skip
        refine j_iconst X (1) dL_act_266 (by decide) ?_
        refine j_goto X (tgt := 271) dL_act_267 (by decide) ?_
        exact q_iret X hQ dL_act_271 rfl ⟨(by omega), (by omega)⟩ ⟨rfl, _, _, rfl, rfl, hp, fun h => absurd h (by rw [hkd, hv]; decide)⟩
  by_cases hv20 : kd = (20 : Int32)
  · have hv := hv20
    refine j_tblIn X (tgt := 272) dL_act_34 (by rw [hv]; decide) (by rw [hv]; decide) (by rw [hv]; rfl) (by decide) ?_
    obtain ⟨hnp, hn1, hn5, hsp⟩ := hA.2.2.2.2.2.2.2.2.2.2.1
    have q9 := zr_rng (x := n) (y := np) hn.1 (by omega)
    have q3 := zr_rng (x := mm) (y := 3) hm.1 (by decide)
    rw [show (3 : Int32).toInt = 3 by decide] at q3
    have e3 : (2 + (mm - mm / 3 * 3)).toInt = 2 + (mm - mm / 3 * 3).toInt := by rw [z_add (by rw [i2]; omega) (by rw [i2]; omega), i2]
    have ed : (mm / 3).toInt = mm.toInt / 3 := by rw [z_div hm.1 (by decide)]; rfl
    have q8 := zr_rng (x := mm / 3) (y := 9) (by rw [ed]; omega) (by decide)
    rw [show (9 : Int32).toInt = 9 by decide] at q8
    obtain ⟨v0, a0, hr, hp⟩ := hsp (n - n / np * np) (2 + (mm - mm / 3 * 3)) (mm / 3 - mm / 3 / 9 * 9) q9.1 q9.2 (by omega) (by omega) q8.1 (by omega)
    have hz : ¬ np = 0 := fun h => by rw [h] at hn1; exact absurd hn1 (by decide)
    refine j_aload_n X (i := 0) dL_act_272 rfl rfl ?_
    refine j_iload_n X (i := 3) dL_act_273 rfl rfl ?_
    refine j_aload_n X (i := 0) dL_act_274 rfl rfl ?_
    refine j_iconst X (2) dL_act_275 (by decide) ?_
    refine j_callV1 X 8 (m_X8_property hl hL hnp) ml_L_87 im_yX8_property se_yX8_property in_X8 cd_yX8_property hy_yX8_property dL_act_276 rfl (inL hL t_0 (by decide)) (FW8 hL t_0) ⟨(by decide), (by decide)⟩ ⟨(by dsimp only; omega), (by dsimp only; omega)⟩ (Nat.le_of_ble_eq_true rfl) (fun E hE => by obtain ⟨n9, hn9, -⟩ := hE; cases hn9) (fun r9 L9 f9 h9 => ?_)
    obtain ⟨h91, v9, hk9, h92, h93⟩ := h9
    cases hk9
    subst r9
    subst f9
    subst L9
    dsimp only [Option.toList, List.cons_append, List.nil_append, List.append]
    refine j_irem X dL_act_279 hz ?_
    refine j_iconst X (2) dL_act_280 (by decide) ?_
    refine j_iload X (i := 4) dL_act_281 rfl ?_
    refine j_iconst X (3) dL_act_283 (by decide) ?_
    refine j_irem X dL_act_284 (by decide) ?_
    refine j_iadd X dL_act_285 ?_
    refine j_iload X (i := 4) dL_act_286 rfl ?_
    refine j_iconst X (3) dL_act_288 (by decide) ?_
    refine j_idiv X dL_act_289 (by decide) ?_
    refine j_bipush X (9) dL_act_290 (by decide) ?_
    refine j_irem X dL_act_292 (by decide) ?_
    refine j_callV3 X 8 (m_X8_setPeriod hl hL hr) ml_L_161 im_yX8_setPeriod se_yX8_setPeriod in_X8 cd_yX8_setPeriod hy_yX8_setPeriod dL_act_293 rfl (inL hL t_0 (by decide)) (FW8 hL t_0) ⟨(by decide), (by decide)⟩ ⟨(by dsimp only; omega), (by dsimp only; omega)⟩ (Nat.le_of_ble_eq_true rfl) (fun E hE => by obtain ⟨n9, hn9, -⟩ := hE; cases hn9) (fun r9 L9 f9 h9 => ?_)
    obtain ⟨h91, v9, a9, hk9, h92, h93⟩ := h9
    cases hk9
    subst r9
    subst f9
    subst L9
    dsimp only [Option.toList, List.cons_append, List.nil_append, List.append]
    exact q_iret X hQ dL_act_296 rfl ⟨(by omega), (by omega)⟩ ⟨rfl, _, _, rfl, rfl, hp, fun h => absurd h (by rw [hkd, hv]; decide)⟩
  by_cases hv21 : kd = (21 : Int32)
  · have hv := hv21
    refine j_tblIn X (tgt := 297) dL_act_34 (by rw [hv]; decide) (by rw [hv]; decide) (by rw [hv]; rfl) (by decide) ?_
    obtain ⟨v0, a0, hr, hp⟩ := hA.2.2.2.2.2.2.2.2.2.2.2
    refine j_aload_n X (i := 0) dL_act_297 rfl rfl ?_
    refine j_callSW1 X (m_L_swapped hl hL hr) ml_L_165 st_yL_swapped in_L cd_yL_swapped hz_yL_swapped dL_act_298 ⟨(by decide), (by decide)⟩ ⟨(by dsimp only; omega), (by dsimp only; omega)⟩ (Nat.le_of_ble_eq_true rfl) (fun _ h => h.elim) (fun r9 L9 f9 h9 => ?_)
    obtain ⟨h91, h92, h93⟩ := h9
    subst r9
    subst f9
    subst L9
    dsimp only [Option.toList, List.cons_append, List.nil_append, List.append]
    exact q_iret X hQ dL_act_301 rfl ⟨(by omega), (by omega)⟩ ⟨rfl, _, _, rfl, rfl, hp, fun h => absurd h (by rw [hkd, hv]; decide)⟩
  by_cases hv22 : kd = (22 : Int32)
  · have hv := hv22
    refine j_tblIn X (tgt := 302) dL_act_34 (by rw [hv]; decide) (by rw [hv]; decide) (by rw [hv]; rfl) (by decide) ?_
    have q9 := zr_rng (x := n) (y := 40) hn.1 (by decide)
    rw [show (40 : Int32).toInt = 40 by decide] at q9
    have e9 : (1 + (n - n / 40 * 40)).toInt = 1 + (n - n / 40 * 40).toInt := by rw [z_add (by rw [i1]; omega) (by rw [i1]; omega), i1]
    obtain ⟨v0, a0, hr, hp, hpt⟩ := hA.1 (1 + (n - n / 40 * 40)) (by omega) (by omega)
    refine j_aload_n X (i := 0) dL_act_302 rfl rfl ?_
    refine j_iconst X (1) dL_act_303 (by decide) ?_
    refine j_iload_n X (i := 3) dL_act_304 rfl rfl ?_
    refine j_bipush X (40) dL_act_305 (by decide) ?_
    refine j_irem X dL_act_307 (by decide) ?_
    refine j_iadd X dL_act_308 ?_
    refine j_callV1 X 8 (m_X8_tick hl hL hr) ml_L_128 im_yX8_tick se_yX8_tick in_X8 cd_yX8_tick hy_yX8_tick dL_act_309 rfl (inL hL t_0 (by decide)) (FW8 hL t_0) ⟨(by decide), (by decide)⟩ ⟨(by dsimp only; omega), (by dsimp only; omega)⟩ (Nat.le_of_ble_eq_true rfl) (fun E hE => by obtain ⟨n9, hn9, -⟩ := hE; cases hn9) (fun r9 L9 f9 h9 => ?_)
    obtain ⟨h91, v9, a9, hk9, h92, h93⟩ := h9
    cases hk9
    subst r9
    subst f9
    subst L9
    dsimp only [Option.toList, List.cons_append, List.nil_append, List.append]
    exact q_iret X hQ dL_act_312 rfl ⟨(by omega), (by omega)⟩ ⟨rfl, _, _, rfl, rfl, hp, fun _ => hpt⟩
  refine j_tblOut X (tgt := 313) dL_act_34 (sw_out (lo := 0) (n := 23) (by decide) (by decide) (fun i hi => match i, hi with | 0, _ => hv0 | 1, _ => hv1 | 2, _ => hv2 | 3, _ => hv3 | 4, _ => hv4 | 5, _ => hv5 | 6, _ => hv6 | 7, _ => hv7 | 8, _ => hv8 | 9, _ => hv9 | 10, _ => hv10 | 11, _ => hv11 | 12, _ => hv12 | 13, _ => hv13 | 14, _ => hv14 | 15, _ => hv15 | 16, _ => hv16 | 17, _ => hv17 | 18, _ => hv18 | 19, _ => hv19 | 20, _ => hv20 | 21, _ => hv21 | 22, _ => hv22 | _ + 23, h => absurd h (by omega))) (by decide) ?_
  obtain ⟨v0, a0, hr, hp⟩ := hA.2.1
  refine j_aload_n X (i := 0) dL_act_313 rfl rfl ?_
  refine j_callSW1 X (m_L_moved hl hL hr) ml_L_131 st_yL_moved in_L cd_yL_moved hz_yL_moved dL_act_314 ⟨(by decide), (by decide)⟩ ⟨(by dsimp only; omega), (by dsimp only; omega)⟩ (Nat.le_of_ble_eq_true rfl) (fun _ h => h.elim) (fun r9 L9 f9 h9 => ?_)
  obtain ⟨h91, h92, h93⟩ := h9
  subst r9
  subst f9
  subst L9
  dsimp only [Option.toList, List.cons_append, List.nil_append, List.append]
  have hbig : ¬ (kd.toInt < 6) := fun h => by
    have h0 := (DR0_rng G k (n := 24) (by decide)).1
    rw [hkd] at h0
    have : kd = 0 ∨ kd = 1 ∨ kd = 2 ∨ kd = 3 ∨ kd = 4 ∨ kd = 5 := by simp only [z_eq, show (0 : Int32).toInt = 0 from rfl, show (1 : Int32).toInt = 1 from rfl, show (2 : Int32).toInt = 2 from rfl, show (3 : Int32).toInt = 3 from rfl, show (4 : Int32).toInt = 4 from rfl, show (5 : Int32).toInt = 5 from rfl]; omega
    rcases this with h9 | h9 | h9 | h9 | h9 | h9
    · exact hv0 h9
    · exact hv1 h9
    · exact hv2 h9
    · exact hv3 h9
    · exact hv4 h9
    · exact hv5 h9
  exact q_iret X hQ dL_act_317 rfl ⟨(by omega), (by omega)⟩ ⟨rfl, _, _, rfl, rfl, hp, fun h => absurd (by rw [hkd] at h; exact h) hbig⟩
