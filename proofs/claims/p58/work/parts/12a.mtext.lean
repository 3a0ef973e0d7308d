/-! the made text: its length and signs; draws; the words of four signs -/
def mLn (G : GG) : Nat := G.2.2.2 103
def mCh (G : GG) (j : Nat) : Int32 := nI (G.2.2.2 (2000 + j))
def mTX (G : GG) : Prop := G.2.2.2 101 = 1 ∧ mLn G < 1000 ∧ ∀ j, G.2.2.2 (2000 + j) < 128
theorem asc_conv : ∀ b, b < 128 → (Int32.toUInt32 (nI b &&& 255) % 65536).toInt32 = nI b ∧ narrow .char (.int (nI b)) = .int (nI b) := by decide +kernel
section JROWS
variable {G : GG} {p : Program} {l : Launch} {e : Env} {R : Room} {s : State} {m : MethodId} {args : Array Value} {below : List Frame} {meth : Method} {c : Code} {A : Nat → Prop} {Q : State → Prop} {own : String} {cc : ByteArray} {nL cells slots pc : Nat} {ret : Option FieldType} {tb : List ExceptionTableEntry} {lv : List (Option Value)} {st : List Value} {L : List Nat} {f : Nat → va_E}
theorem Cx.mtx (X : Cx G p l s m args meth c A own cc nL ret tb) (hi : mTX G) : va_O "java/lang/String" (G.2.2.1 101) A s s.heap ∧ va_OF "java/lang/String" "coder" "B" (.int 0) (G.2.2.1 101) A s s.heap ∧ va_OF "java/lang/String" "value" "[B" (.ref (G.2.2.2 102)) (G.2.2.1 101) A s s.heap ∧ va_T .byte (G.2.2.2 102) (mLn G) (fun j => .int (mCh G j)) A s s.heap := by
  have hE := X.2.2.2.2.2.2.2.2.2.1
  exact hE.2.2.2.2.2.2.2.2.2.2.2.2.2.2.2 hi.1
/-- a call of a method of a text -/
theorem j_callM (X : Cx G p l s m args meth c A own cc nL ret tb) {y : MethodName} {bytes : ByteArray} {maxL index fr lo mc ms : Nat} {rt : Option FieldType} {As rest : List Value} {px : String → Prop} {post : Option Value → List Nat → (Nat → va_E) → Prop} (hi : mTX G)
    (hC : Ct l G y (.code y bytes maxL rt) fr lo mc ms (.ref (G.2.2.1 101) :: As) L f px post) (h1 : Cond.methodLink own index y ∈ BIG) (h2 : Cond.instanceMethod y ∈ BIG) (h3 : Cond.selects RJ0 y y ∈ BIG) (h5 : Cond.code y bytes maxL rt ∈ BIG)
    (hy : y.cls = RJ0 ∧ y.cls ≠ "java/lang/invoke/MethodHandle" ∧ y.cls ≠ "java/lang/invoke/VarHandle" ∧ (parseMethodDescriptor y.desc).map (fun d => d.parameters.length) = some As.length)
    (hdg : decode cc pc = .ok (.invokevirtual index, 3))
    (hR : fr + 1 ≤ R.frames ∧ 8 + (maxL + 11) + lo ≤ R.locals) (hc : cells + mc ≤ R.cells ∧ slots + ms ≤ R.slots) (hW : (rest.map fun v => v.category).sum ≤ 8)
    (kx : ∀ E, px E → JX G p l e R s m args below meth c A Q nL (cells + mc) (slots + ms) pc lv rest L f E)
    (kk : ∀ (r : Option Value) (L1 : List Nat) (f1 : Nat → va_E), post r L1 f1 → J G p l e R s m args below meth c A Q nL (cells + mc) (slots + ms) (pc + 3) lv (r.toList ++ rest) L1 f1) : J G p l e R s m args below meth c A Q nL cells slots pc lv (As.reverse ++ .ref (G.2.2.1 101) :: rest) L f := by
  refine j_run X (px := px) (post := post) (a := (Value.ref (G.2.2.1 101) :: As).toArray) (fun H locs ls hP hD hS hl => ?_) kx kk
  have hrec : ∃ cell : Cell, H[G.2.2.1 101]? = some cell ∧ cell.vm.isStatics = false ∧ s.vm.findClass RJ0 = some cell.cls := by
    obtain ⟨cell, g1, g2, g3, -⟩ := (X.mtx hi).1.kept hS.2.1
    exact ⟨cell, g1, g2, g3⟩
  exact vx_runV (C := RJ0) (n := As.length) ⟨X.1, X.2.1, X.2.2.1, X.2.2.2.1, X.w⟩ (hC H.size) (cwV As.length X.w (big_in (fun w hw => by
    rcases List.mem_append.mp hw with h | h
    · simp only [List.mem_cons, List.not_mem_nil, or_false] at h
      rcases h with rfl | rfl | rfl | rfl
      · exact h1
      · exact h2
      · exact h3
      · exact in_J0
    · rcases List.mem_cons.mp h with rfl | h
      · exact h5
      · exact h)) rfl rfl rfl hy hR) ⟨Pg_blind, hrec, X.pre hP hD hS⟩ rfl rfl hl.1 rfl (lv_room hW) hdg hc
theorem j_callM0 (X : Cx G p l s m args meth c A own cc nL ret tb) {y : MethodName} {bytes : ByteArray} {maxL index fr lo mc ms : Nat} {rt : Option FieldType} {rest : List Value} {post : Option Value → List Nat → (Nat → va_E) → Prop} (hi : mTX G) (hC : Ct l G y (.code y bytes maxL rt) fr lo mc ms [.ref (G.2.2.1 101)] L f px0 post) (h1 : Cond.methodLink own index y ∈ BIG) (h2 : Cond.instanceMethod y ∈ BIG) (h3 : Cond.selects RJ0 y y ∈ BIG) (h5 : Cond.code y bytes maxL rt ∈ BIG)
    (hy : y.cls = RJ0 ∧ y.cls ≠ "java/lang/invoke/MethodHandle" ∧ y.cls ≠ "java/lang/invoke/VarHandle" ∧ (parseMethodDescriptor y.desc).map (fun d => d.parameters.length) = some 0) (hdg : decode cc pc = .ok (.invokevirtual index, 3)) (hR : fr + 1 ≤ R.frames ∧ 8 + (maxL + 11) + lo ≤ R.locals) (hc : cells + mc ≤ R.cells ∧ slots + ms ≤ R.slots) (hW : (rest.map fun v => v.category).sum ≤ 8) (kk : ∀ (r : Option Value) (L1 : List Nat) (f1 : Nat → va_E), post r L1 f1 → J G p l e R s m args below meth c A Q nL (cells + mc) (slots + ms) (pc + 3) lv (r.toList ++ rest) L1 f1) : J G p l e R s m args below meth c A Q nL cells slots pc lv (.ref (G.2.2.1 101) :: rest) L f :=
  j_callM (As := []) X hi hC h1 h2 h3 h5 hy hdg hR hc hW (fun _ h => h.elim) kk
theorem j_callM1 (X : Cx G p l s m args meth c A own cc nL ret tb) {y : MethodName} {bytes : ByteArray} {maxL index fr lo mc ms : Nat} {rt : Option FieldType} {rest : List Value} {a1 : Value} {post : Option Value → List Nat → (Nat → va_E) → Prop} (hi : mTX G) (hC : Ct l G y (.code y bytes maxL rt) fr lo mc ms [.ref (G.2.2.1 101), a1] L f px0 post) (h1 : Cond.methodLink own index y ∈ BIG) (h2 : Cond.instanceMethod y ∈ BIG) (h3 : Cond.selects RJ0 y y ∈ BIG) (h5 : Cond.code y bytes maxL rt ∈ BIG)
    (hy : y.cls = RJ0 ∧ y.cls ≠ "java/lang/invoke/MethodHandle" ∧ y.cls ≠ "java/lang/invoke/VarHandle" ∧ (parseMethodDescriptor y.desc).map (fun d => d.parameters.length) = some 1) (hdg : decode cc pc = .ok (.invokevirtual index, 3)) (hR : fr + 1 ≤ R.frames ∧ 8 + (maxL + 11) + lo ≤ R.locals) (hc : cells + mc ≤ R.cells ∧ slots + ms ≤ R.slots) (hW : (rest.map fun v => v.category).sum ≤ 8) (kk : ∀ (r : Option Value) (L1 : List Nat) (f1 : Nat → va_E), post r L1 f1 → J G p l e R s m args below meth c A Q nL (cells + mc) (slots + ms) (pc + 3) lv (r.toList ++ rest) L1 f1) : J G p l e R s m args below meth c A Q nL cells slots pc lv (a1 :: .ref (G.2.2.1 101) :: rest) L f :=
  j_callM (As := [a1]) X hi hC h1 h2 h3 h5 hy hdg hR hc hW (fun _ h => h.elim) kk
end JROWS
set_option maxRecDepth 100000 in
theorem c_mcoder {l : Launch} (hl : l.stackTraces = false) {G : GG} {L : List Nat} {f : Nat → va_E} (hi : mTX G) : Ct l G yJ0_coder_7d493 (.code yJ0_coder_7d493 cJ0_coder_7d493 1 (some .byte)) 0 0 0 0 [.ref (G.2.2.1 101)] L f px0 (stay L (fun r f1 => f1 = f ∧ r = some (.int 0))) := by
  refine Ct.ofq (own := RJ0) hl rfl (by decide) [some (.ref (G.2.2.1 101))] rfl (Nat.le_of_ble_eq_true rfl) ?_
  intro p e s m below meth c A ar Q hQ X
  have hE := X.2.2.2.2.2.2.2.2.2.1
  refine j_gets X hE.2.2.1 fl_J0_38 dJ0_coder_7d493_0 ?_
  refine j_if_eq X (tgt := 13) dJ0_coder_7d493_3 (by decide) (fun h => absurd h (by decide)) (fun _ => ?_)
  refine j_aload_n X (i := 0) dJ0_coder_7d493_6 rfl rfl ?_
  refine j_sgetf X (X.mtx hi).2.1 fl_J0_15 dJ0_coder_7d493_7 ?_
  refine j_goto X (tgt := 14) dJ0_coder_7d493_10 (by decide) ?_
  exact q_zret X hQ dJ0_coder_7d493_14 rfl rfl ⟨(by decide), (by decide)⟩ ⟨rfl, rfl, rfl⟩
set_option maxRecDepth 100000 in
theorem c_misLatin1 {l : Launch} (hl : l.stackTraces = false) {G : GG} {L : List Nat} {f : Nat → va_E} (hi : mTX G) : Ct l G yJ0_isLatin1_aae02 (.code yJ0_isLatin1_aae02 cJ0_isLatin1_aae02 1 (some .boolean)) 0 0 0 0 [.ref (G.2.2.1 101)] L f px0 (stay L (fun r f1 => f1 = f ∧ r = some (.int 1))) := by
  refine Ct.ofq (own := RJ0) hl rfl (by decide) [some (.ref (G.2.2.1 101))] rfl (Nat.le_of_ble_eq_true rfl) ?_
  intro p e s m below meth c A ar Q hQ X
  have hE := X.2.2.2.2.2.2.2.2.2.1
  refine j_gets X hE.2.2.1 fl_J0_38 dJ0_isLatin1_aae02_0 ?_
  refine j_if_eq X (tgt := 17) dJ0_isLatin1_aae02_3 (by decide) (fun h => absurd h (by decide)) (fun _ => ?_)
  refine j_aload_n X (i := 0) dJ0_isLatin1_aae02_6 rfl rfl ?_
  refine j_sgetf X (X.mtx hi).2.1 fl_J0_15 dJ0_isLatin1_aae02_7 ?_
  refine j_if_ne X (tgt := 17) dJ0_isLatin1_aae02_10 (by decide) (fun h => absurd rfl h) (fun _ => ?_)
  refine j_iconst X (1) dJ0_isLatin1_aae02_13 (by decide) ?_
  refine j_goto X (tgt := 18) dJ0_isLatin1_aae02_14 (by decide) ?_
  exact q_zret X hQ dJ0_isLatin1_aae02_18 rfl rfl ⟨(by decide), (by decide)⟩ ⟨rfl, rfl, rfl⟩
set_option maxRecDepth 100000 in
theorem c_mstrlen {l : Launch} (hl : l.stackTraces = false) {G : GG} {L : List Nat} {f : Nat → va_E} (hi : mTX G) {v : Int32} (hR : nI (mLn G) = v) : Ct l G yJ0_length_8abf5 (.code yJ0_length_8abf5 cJ0_length_8abf5 1 (some .int)) 1 20 0 0 [.ref (G.2.2.1 101)] L f px0 (stay L (fun r f1 => f1 = f ∧ r = some (.int v))) := by
  subst hR
  refine Ct.ofq (own := RJ0) hl rfl (by decide) [some (.ref (G.2.2.1 101))] rfl (Nat.le_of_ble_eq_true rfl) ?_
  intro p e s m below meth c A ar Q hQ X
  refine j_aload_n X (i := 0) dJ0_length_8abf5_0 rfl rfl ?_
  refine j_sgetf X (X.mtx hi).2.2.1 fl_J0_9 dJ0_length_8abf5_1 ?_
  refine j_tlen X (X.mtx hi).2.2.2 dJ0_length_8abf5_4 ?_
  refine j_aload_n X (i := 0) dJ0_length_8abf5_5 rfl rfl ?_
  refine j_callM (As := []) X hi (c_mcoder hl hi) ml_J0_335 im_yJ0_coder_7d493 se_yJ0_coder_7d493 cd_yJ0_coder_7d493 hy_yJ0_coder_7d493 dJ0_length_8abf5_6 ⟨(by decide), (by decide)⟩ ⟨(by decide), (by decide)⟩ (Nat.le_of_ble_eq_true rfl) (fun _ h => h.elim) (fun r9 L9 f9 h9 => ?_)
  obtain ⟨h91, h92, h93⟩ := h9
  subst r9
  subst f9
  subst L9
  dsimp only [Option.toList, List.cons_append, List.nil_append, List.append]
  refine j_ishr X dJ0_length_8abf5_9 ?_
  exact q_iret X hQ dJ0_length_8abf5_10 rfl ⟨(by decide), (by decide)⟩ ⟨rfl, rfl, congrArg (fun z => some (Value.int z)) (by rw [show ((0 : Int32) &&& 31) = 0 by decide]; exact Int32.shiftRight_zero)⟩
set_option maxRecDepth 100000 in
theorem c_mlatinAt {l : Launch} (hl : l.stackTraces = false) {G : GG} {L : List Nat} {f : Nat → va_E} (hi : mTX G) {j : Int32} (hj : vp_in j (mLn G)) : Ct l G yJ1_charAt_3b067 (.code yJ1_charAt_3b067 cJ1_charAt_3b067 2 (some .char)) 2 43 0 0 [.ref (G.2.2.2 102), .int j] L f px0 (stay L (fun r f1 => f1 = f ∧ r = some (.int (mCh G j.toNatClampNeg)))) := by
  have hs := hi.2.1
  have hlt : j.toNatClampNeg < mLn G := by unfold vp_in at hj; omega
  have hc : (Int32.toUInt32 (mCh G j.toNatClampNeg &&& 255) % 65536).toInt32 = mCh G j.toNatClampNeg ∧ narrow .char (.int (mCh G j.toNatClampNeg)) = .int (mCh G j.toNatClampNeg) := asc_conv _ (hi.2.2 j.toNatClampNeg)
  refine Ct.ofq (own := RJ1) hl rfl (by decide) [some (.ref (G.2.2.2 102)), some (.int j)] rfl (Nat.le_of_ble_eq_true rfl) ?_
  intro p e s m below meth c A ar Q hQ X
  have h1 : ¬ j < 0 := fun h => hj (Or.inl h)
  have h2 : j < nI (mLn G) := by
    obtain ⟨k, hk, e⟩ := nI_of h1
    subst e
    rw [nI_clamp hk] at hlt
    exact nI_lt hlt (by omega)
  refine j_iload_n X (i := 1) dJ1_charAt_3b067_0 rfl rfl ?_
  refine j_aload_n X (i := 0) dJ1_charAt_3b067_1 rfl rfl ?_
  refine j_tlen X (X.mtx hi).2.2.2 dJ1_charAt_3b067_2 ?_
  refine j_callS2 X (c_checkIndex2 hl h1 h2) ml_J1_9 st_yJ0_checkIndex_df160 in_J0 cd_yJ0_checkIndex_df160 hy_yJ0_checkIndex_df160 dJ1_charAt_3b067_3 ⟨(by decide), (by decide)⟩ ⟨(by decide), (by decide)⟩ (Nat.le_of_ble_eq_true rfl) (fun _ h => h.elim) (fun r9 L9 f9 h9 => ?_)
  obtain ⟨h91, h92, h93⟩ := h9
  subst r9
  subst f9
  subst L9
  dsimp only [Option.toList, List.cons_append, List.nil_append, List.append]
  refine j_aload_n X (i := 0) dJ1_charAt_3b067_6 rfl rfl ?_
  refine j_iload_n X (i := 1) dJ1_charAt_3b067_7 rfl rfl ?_
  refine j_tb X (X.mtx hi).2.2.2 hj rfl dJ1_charAt_3b067_8 ?_
  refine j_sipush X (255) dJ1_charAt_3b067_9 (by decide) ?_
  refine j_iand X dJ1_charAt_3b067_12 ?_
  refine j_i2c X dJ1_charAt_3b067_13 ?_
  rw [hc.1]
  exact q_zret X hQ dJ1_charAt_3b067_14 rfl hc.2 ⟨(by decide), (by decide)⟩ ⟨rfl, rfl, rfl⟩
set_option maxRecDepth 100000 in
theorem c_mcharAt {l : Launch} (hl : l.stackTraces = false) {G : GG} {L : List Nat} {f : Nat → va_E} (hi : mTX G) {j v : Int32} (hj : vp_in j (mLn G)) (hR : mCh G j.toNatClampNeg = v) : Ct l G yJ0_charAt_5068e (.code yJ0_charAt_5068e cJ0_charAt_5068e 2 (some .char)) 3 64 0 0 [.ref (G.2.2.1 101), .int j] L f px0 (stay L (fun r f1 => f1 = f ∧ r = some (.int v))) := by
  subst hR
  have hs := hi.2.1
  have hlt : j.toNatClampNeg < mLn G := by unfold vp_in at hj; omega
  have hc : (Int32.toUInt32 (mCh G j.toNatClampNeg &&& 255) % 65536).toInt32 = mCh G j.toNatClampNeg ∧ narrow .char (.int (mCh G j.toNatClampNeg)) = .int (mCh G j.toNatClampNeg) := asc_conv _ (hi.2.2 j.toNatClampNeg)
  refine Ct.ofq (own := RJ0) hl rfl (by decide) [some (.ref (G.2.2.1 101)), some (.int j)] rfl (Nat.le_of_ble_eq_true rfl) ?_
  intro p e s m below meth c A ar Q hQ X
  refine j_aload_n X (i := 0) dJ0_charAt_5068e_0 rfl rfl ?_
  refine j_callM (As := []) X hi (c_misLatin1 hl hi) ml_J0_492 im_yJ0_isLatin1_aae02 se_yJ0_isLatin1_aae02 cd_yJ0_isLatin1_aae02 hy_yJ0_isLatin1_aae02 dJ0_charAt_5068e_1 ⟨(by decide), (by decide)⟩ ⟨(by decide), (by decide)⟩ (Nat.le_of_ble_eq_true rfl) (fun _ h => h.elim) (fun r9 L9 f9 h9 => ?_)
  obtain ⟨h91, h92, h93⟩ := h9
  subst r9
  subst f9
  subst L9
  dsimp only [Option.toList, List.cons_append, List.nil_append, List.append]
  refine j_if_eq X (tgt := 16) dJ0_charAt_5068e_4 (by decide) (fun h => absurd h (by decide)) (fun _ => ?_)
  refine j_aload_n X (i := 0) dJ0_charAt_5068e_7 rfl rfl ?_
  refine j_sgetf X (X.mtx hi).2.2.1 fl_J0_9 dJ0_charAt_5068e_8 ?_
  refine j_iload_n X (i := 1) dJ0_charAt_5068e_11 rfl rfl ?_
  refine j_callS2 X (c_mlatinAt hl hi hj) ml_J0_495 st_yJ1_charAt_3b067 in_J1 cd_yJ1_charAt_3b067 hy_yJ1_charAt_3b067 dJ0_charAt_5068e_12 ⟨(by decide), (by decide)⟩ ⟨(by decide), (by decide)⟩ (Nat.le_of_ble_eq_true rfl) (fun _ h => h.elim) (fun r9 L9 f9 h9 => ?_)
  obtain ⟨h91, h92, h93⟩ := h9
  subst r9
  subst f9
  subst L9
  dsimp only [Option.toList, List.cons_append, List.nil_append, List.append]
  exact q_zret X hQ dJ0_charAt_5068e_15 rfl hc.2 ⟨(by decide), (by decide)⟩ ⟨rfl, rfl, rfl⟩
def sLn (G : GG) : Nat := G.2.2.2 100
def sX (G : GG) (j : Nat) : Int32 := Int32.ofNat (G.2.2.2 (1000 + j))
def drX (G : GG) (k : Nat) : Int32 := (if k < sLn G then sX G k else 0) &&& 2147483647
/-- draw(s, k, n) -/
def DR0 (G : GG) (k : Nat) (n : Int32) : Int32 := drX G k - drX G k / n * n
set_option maxRecDepth 100000 in
set_option maxHeartbeats 4000000 in
theorem c_draw {l : Launch} (hl : l.stackTraces = false) {G : GG} {L : List Nat} {f : Nat → va_E} {k : Nat} {n : Int32} (hs : sLn G ≤ 1000) (hk9 : k < 10000) (hn : ¬ n = 0) : Ct l G yL_draw (.code yL_draw cL_draw 3 (some .int)) 0 0 0 0 [.ref (G.2.2.1 100), .int (nI k), .int n] L f px0 (stay L (fun r f1 => f1 = f ∧ r = some (.int (DR0 G k n)))) := by
  refine Ct.ofq (own := RL) hl rfl (by decide) [some (.ref (G.2.2.1 100)), some (.int (nI k)), some (.int n)] rfl (Nat.le_of_ble_eq_true rfl) ?_
  intro p e s m below meth c A ar Q hQ X
  have hE := X.2.2.2.2.2.2.2.2.2.1
  have hs9 : G.2.2.2 100 ≤ 1000 := hs
  refine j_iload_n X (i := 1) dL_draw_0 rfl rfl ?_
  refine j_aload_n X (i := 0) dL_draw_1 rfl rfl ?_
  refine j_tleni X hE.2.2.2.2.2.2.2.2.2.2.1 dL_draw_2 ?_
  refine j_icmp_ge X (tgt := 12) dL_draw_3 (by decide) (fun h => ?_) (fun h => ?_)
  · have hk : ¬ k < sLn G := fun h7 => nI_ge h7 (by omega) h
    refine j_iconst X (0) dL_draw_12 (by decide) ?_
    refine j_ldc X dL_draw_13 co_L_7 ?_
    refine j_iand X dL_draw_15 ?_
    refine j_iload_n X (i := 2) dL_draw_16 rfl rfl ?_
    refine j_irem X dL_draw_17 hn ?_
    exact q_iret X hQ dL_draw_18 rfl ⟨(by decide), (by decide)⟩ ⟨rfl, rfl, by unfold DR0 drX; rw [if_neg hk]⟩
  · have hk : k < sLn G := Nat.not_le.mp (fun h7 => h (nI_le h7 (by omega)))
    refine j_aload_n X (i := 0) dL_draw_6 rfl rfl ?_
    refine j_iload_n X (i := 1) dL_draw_7 rfl rfl ?_
    refine j_ti X hE.2.2.2.2.2.2.2.2.2.2.1 (nI_in hk (by omega)) rfl dL_draw_8 ?_
    rw [nI_clamp (by omega)]
    refine j_goto X (tgt := 13) dL_draw_9 (by decide) ?_
    refine j_ldc X dL_draw_13 co_L_7 ?_
    refine j_iand X dL_draw_15 ?_
    refine j_iload_n X (i := 2) dL_draw_16 rfl rfl ?_
    refine j_irem X dL_draw_17 hn ?_
    exact q_iret X hQ dL_draw_18 rfl ⟨(by decide), (by decide)⟩ ⟨rfl, rfl, by unfold DR0 drX; rw [if_pos hk]; rfl⟩
theorem hz_yL_four : yL_four.cls ≠ "java/lang/invoke/MethodHandle" ∧ yL_four.cls ≠ "java/lang/invoke/VarHandle" ∧ (parseMethodDescriptor yL_four.desc).map (fun d => d.parameters.length) = some 2 := by decide +kernel
theorem hz_yL_feed : yL_feed.cls ≠ "java/lang/invoke/MethodHandle" ∧ yL_feed.cls ≠ "java/lang/invoke/VarHandle" ∧ (parseMethodDescriptor yL_feed.desc).map (fun d => d.parameters.length) = some 2 := by decide +kernel
theorem hz_yL_draw : yL_draw.cls ≠ "java/lang/invoke/MethodHandle" ∧ yL_draw.cls ≠ "java/lang/invoke/VarHandle" ∧ (parseMethodDescriptor yL_draw.desc).map (fun d => d.parameters.length) = some 3 := by decide +kernel
def mB (G : GG) (j : Nat) : Int32 := if j < mLn G then mCh G j else 0
def fAcc (G : GG) (at_ : Nat) : Nat → Int32
  | 0 => 0
  | k + 1 => (fAcc G at_ k <<< ((8 : Int32) &&& 31)) ||| mB G (at_ + k)
def fourV (G : GG) (at_ : Nat) : Int32 := fAcc G at_ 4
set_option maxRecDepth 100000 in
set_option maxHeartbeats 4000000 in
theorem c_four {l : Launch} (hl : l.stackTraces = false) {G : GG} {L : List Nat} {f : Nat → va_E} (hi : mTX G) {at_ : Nat} (hat : at_ < 2000) : Ct l G yL_four (.code yL_four cL_four 4 (some .int)) 4 85 0 0 [.ref (G.2.2.1 101), .int (nI at_)] L f px0 (stay L (fun r f1 => f1 = f ∧ r = some (.int (fourV G at_)))) := by
  have hml := hi.2.1
  refine Ct.ofq (own := RL) hl rfl (by decide) [some (.ref (G.2.2.1 101)), some (.int (nI at_)), none, none] rfl (Nat.le_of_ble_eq_true rfl) ?_
  intro p e s m below meth c A ar Q hQ X
  have loop : ∀ (d k : Nat), k + d = 4 → J G p l e { frames := 4, cells := 0, slots := 0, locals := 85 } s m ar below meth c A Q 4 0 0 4 [some (.ref (G.2.2.1 101)), some (.int (nI at_)), some (.int (fAcc G at_ k)), some (.int (nI k))] [] L f := by
    intro d
    induction d with
    | zero =>
      intro k hk
      obtain rfl : k = 4 := by omega
      refine j_iload_n X (i := 3) dL_four_4 rfl rfl ?_
      refine j_iconst X (4) dL_four_5 (by decide) ?_
      refine j_icmp_ge X (tgt := 42) dL_four_6 (by decide) (fun _ => ?_) (fun h => absurd (nI_le (a := 4) (b := 4) (by omega) (by omega)) h)
      refine j_iload_n X (i := 2) dL_four_42 rfl rfl ?_
      exact q_iret X hQ dL_four_43 rfl ⟨(by decide), (by decide)⟩ ⟨rfl, rfl, rfl⟩
    | succ d ih =>
      intro k hk
      refine j_iload_n X (i := 3) dL_four_4 rfl rfl ?_
      refine j_iconst X (4) dL_four_5 (by decide) ?_
      refine j_icmp_ge X (tgt := 42) dL_four_6 (by decide) (fun h => absurd h (nI_ge (a := k) (b := 4) (by omega) (by omega))) (fun _ => ?_)
      have kont : ∀ v : Int32, v = mB G (at_ + k) → J G p l e { frames := 4, cells := 0, slots := 0, locals := 85 } s m ar below meth c A Q 4 (0 + 0) (0 + 0) 34 [some (.ref (G.2.2.1 101)), some (.int (nI at_)), some (.int (fAcc G at_ k)), some (.int (nI k))] [.int v, .int (fAcc G at_ k <<< ((8 : Int32) &&& 31))] L f := by
        intro v hv
        refine j_ior X dL_four_34 ?_
        rw [hv]
        refine j_istore_n X (i := 2) dL_four_35 rfl (by decide) (by first | exact lvOK_0 | exact lvOK_s rfl okPrev_none | exact lvOK_s rfl okPrev_int | exact lvOK_s rfl okPrev_ref | exact lvOK_s rfl okPrev_null) ?_
        dsimp only [List.set]
        refine j_iinc X (nI (k + 1)) dL_four_36 rfl (by rw [nI_succ]; rfl) (by decide) (by first | exact lvOK_0 | exact lvOK_s rfl okPrev_none | exact lvOK_s rfl okPrev_int | exact lvOK_s rfl okPrev_ref | exact lvOK_s rfl okPrev_null) ?_
        dsimp only [List.set]
        refine j_goto X (tgt := 4) dL_four_39 (by decide) ?_
        exact ih (k + 1) (by omega)
      refine j_iload_n X (i := 2) dL_four_9 rfl rfl ?_
      refine j_bipush X (8) dL_four_10 (by decide) ?_
      refine j_ishl X dL_four_12 ?_
      refine j_iload_n X (i := 1) dL_four_13 rfl rfl ?_
      refine j_iload_n X (i := 3) dL_four_14 rfl rfl ?_
      refine j_iadd X dL_four_15 ?_
      rw [nI_add]
      refine j_aload_n X (i := 0) dL_four_16 rfl rfl ?_
      refine j_callM0 X hi (c_mstrlen hl hi rfl) ml_L_8 im_yJ0_length_8abf5 se_yJ0_length_8abf5 cd_yJ0_length_8abf5 hy_yJ0_length_8abf5 dL_four_17 ⟨(by decide), (by decide)⟩ ⟨(by decide), (by decide)⟩ (Nat.le_of_ble_eq_true rfl) (fun r9 L9 f9 h9 => ?_)
      obtain ⟨h91, h92, h93⟩ := h9
      subst r9
      subst f9
      subst L9
      dsimp only [Option.toList, List.cons_append, List.nil_append, List.append]
      refine j_icmp_ge X (tgt := 33) dL_four_20 (by decide) (fun h7 => ?_) (fun h7 => ?_)
      · have h8 : ¬ at_ + k < mLn G := fun h6 => nI_ge h6 (by omega) h7
        refine j_iconst X (0) dL_four_33 (by decide) ?_
        exact kont _ (by unfold mB; rw [if_neg h8])
      · have h8 : at_ + k < mLn G := Nat.not_le.mp (fun h6 => h7 (nI_le h6 (by omega)))
        refine j_aload_n X (i := 0) dL_four_23 rfl rfl ?_
        refine j_iload_n X (i := 1) dL_four_24 rfl rfl ?_
        refine j_iload_n X (i := 3) dL_four_25 rfl rfl ?_
        refine j_iadd X dL_four_26 ?_
        rw [nI_add]
        refine j_callM1 X hi (c_mcharAt hl hi (nI_in h8 (by omega)) rfl) ml_L_14 im_yJ0_charAt_5068e se_yJ0_charAt_5068e cd_yJ0_charAt_5068e hy_yJ0_charAt_5068e dL_four_27 ⟨(by decide), (by decide)⟩ ⟨(by decide), (by decide)⟩ (Nat.le_of_ble_eq_true rfl) (fun r9 L9 f9 h9 => ?_)
        obtain ⟨h91, h92, h93⟩ := h9
        subst r9
        subst f9
        subst L9
        dsimp only [Option.toList, List.cons_append, List.nil_append, List.append]
        refine j_goto X (tgt := 34) dL_four_30 (by decide) ?_
        exact kont _ (by rw [nI_clamp (by omega)]; unfold mB; rw [if_pos h8])
  refine j_iconst X (0) dL_four_0 (by decide) ?_
  refine j_istore_n X (i := 2) dL_four_1 rfl (by decide) (by first | exact lvOK_0 | exact lvOK_s rfl okPrev_none | exact lvOK_s rfl okPrev_int | exact lvOK_s rfl okPrev_ref | exact lvOK_s rfl okPrev_null) ?_
  dsimp only [List.set]
  refine j_iconst X (0) dL_four_2 (by decide) ?_
  refine j_istore_n X (i := 3) dL_four_3 rfl (by decide) (by first | exact lvOK_0 | exact lvOK_s rfl okPrev_none | exact lvOK_s rfl okPrev_int | exact lvOK_s rfl okPrev_ref | exact lvOK_s rfl okPrev_null) ?_
  dsimp only [List.set]
  exact loop 4 0 rfl
/-- the input is fed twenty signs at a time -/
def fFeed (G : GG) (N : Nat) : Nat → Nat → Int32 → Mem → Option (Int32 × Mem)
  | 0, _, _, _ => none
  | fu + 1, k, last, a => if k < mLn G then (match f_X8_append N (fourV G k) (fourV G (k + 4)) (fourV G (k + 8)) (fourV G (k + 12)) (fourV G (k + 16)) a with | some (.ok (v, a1)) => fFeed G N fu (k + 20) v a1 | _ => none) else some (last, a)
set_option maxRecDepth 100000 in
set_option maxHeartbeats 4000000 in
theorem m_feed {l : Launch} (hl : l.stackTraces = false) {G : GG} {L : List Nat} (hL : LOK L) (hi : mTX G) (h0 : 0 < mLn G) {a b c : Mem} {N : Nat} {v : Int32} {a1 a2 : Mem} (hR : fFeed G N 50 0 0 a = some (v, a1)) (hT : f_X8_truncate (if nI (mLn G) < v then nI (mLn G) else v) a1 = some (.ok a2)) : Ct l G yL_feed (.code yL_feed cL_feed 4 none) 7 125 60 360 [.ref (ad L 0), .ref (G.2.2.1 101)] L (FW G L a b c) px0 (stay L (fun r f1 => f1 = FW G L a2 b c ∧ r = none)) := by
  have hml := hi.2.1
  refine Ct.ofq (own := RL) hl rfl (by decide) [some (.ref (ad L 0)), some (.ref (G.2.2.1 101)), none, none] rfl (Nat.le_of_ble_eq_true rfl) ?_
  intro p e s m below meth c9 A ar Q hQ X
  have loop : ∀ (fu k cl sl : Nat) (last : Int32) (a : Mem), k + 20 * fu ≤ 1000 → cl + fu ≤ 50 → sl + 6 * fu ≤ 300 → fFeed G N fu k last a = some (v, a1) → J G p l e { frames := 7, cells := 60, slots := 360, locals := 125 } s m ar below meth c9 A Q 4 cl sl 4 [some (.ref (ad L 0)), some (.ref (G.2.2.1 101)), some (.int last), some (.int (nI k))] [] L (FW G L a b c) := by
    intro fu
    induction fu with
    | zero =>
      intro k cl sl last a _ _ _ hR
      cases hR
    | succ fu ih =>
      intro k cl sl last a hk hcl hsl hR
      unfold fFeed at hR
      refine j_iload_n X (i := 3) dL_feed_4 rfl rfl ?_
      refine j_aload_n X (i := 1) dL_feed_5 rfl rfl ?_
      refine j_callM0 X hi (c_mstrlen hl hi rfl) ml_L_8 im_yJ0_length_8abf5 se_yJ0_length_8abf5 cd_yJ0_length_8abf5 hy_yJ0_length_8abf5 dL_feed_6 ⟨(by decide), (by decide)⟩ ⟨(by dsimp only; omega), (by dsimp only; omega)⟩ (Nat.le_of_ble_eq_true rfl) (fun r9 L9 f9 h9 => ?_)
      obtain ⟨h91, h92, h93⟩ := h9
      subst r9
      subst f9
      subst L9
      dsimp only [Option.toList, List.cons_append, List.nil_append, List.append]
      refine j_icmp_lt X (tgt := 16) dL_feed_9 (by decide) (fun h7 => ?_) (fun h7 => ?_)
      · have h8 : k < mLn G := (nI_ltI (by omega) (by omega)).mp h7
        rw [if_pos h8] at hR
        refine j_aload_n X (i := 0) dL_feed_16 rfl rfl ?_
        refine j_aload_n X (i := 1) dL_feed_17 rfl rfl ?_
        refine j_iload_n X (i := 3) dL_feed_18 rfl rfl ?_
        refine j_callS2 X (c_four hl hi (at_ := k) (by omega)) ml_L_18 st_yL_four in_L cd_yL_four hz_yL_four dL_feed_19 ⟨(by decide), (by decide)⟩ ⟨(by dsimp only; omega), (by dsimp only; omega)⟩ (Nat.le_of_ble_eq_true rfl) (fun _ h => h.elim) (fun r9 L9 f9 h9 => ?_)
        obtain ⟨h91, h92, h93⟩ := h9
        subst r9
        subst f9
        subst L9
        dsimp only [Option.toList, List.cons_append, List.nil_append, List.append]
        refine j_aload_n X (i := 1) dL_feed_22 rfl rfl ?_
        refine j_iload_n X (i := 3) dL_feed_23 rfl rfl ?_
        refine j_iconst X (4) dL_feed_24 (by decide) ?_
        refine j_iadd X dL_feed_25 ?_
        rw [show nI k + (4 : Int32) = nI (k + 4) from nI_add k 4]
        refine j_callS2 X (c_four hl hi (at_ := k + 4) (by omega)) ml_L_18 st_yL_four in_L cd_yL_four hz_yL_four dL_feed_26 ⟨(by decide), (by decide)⟩ ⟨(by dsimp only; omega), (by dsimp only; omega)⟩ (Nat.le_of_ble_eq_true rfl) (fun _ h => h.elim) (fun r9 L9 f9 h9 => ?_)
        obtain ⟨h91, h92, h93⟩ := h9
        subst r9
        subst f9
        subst L9
        dsimp only [Option.toList, List.cons_append, List.nil_append, List.append]
        refine j_aload_n X (i := 1) dL_feed_29 rfl rfl ?_
        refine j_iload_n X (i := 3) dL_feed_30 rfl rfl ?_
        refine j_bipush X (8) dL_feed_31 (by decide) ?_
        refine j_iadd X dL_feed_33 ?_
        rw [show nI k + (8 : Int32) = nI (k + 8) from nI_add k 8]
        refine j_callS2 X (c_four hl hi (at_ := k + 8) (by omega)) ml_L_18 st_yL_four in_L cd_yL_four hz_yL_four dL_feed_34 ⟨(by decide), (by decide)⟩ ⟨(by dsimp only; omega), (by dsimp only; omega)⟩ (Nat.le_of_ble_eq_true rfl) (fun _ h => h.elim) (fun r9 L9 f9 h9 => ?_)
        obtain ⟨h91, h92, h93⟩ := h9
        subst r9
        subst f9
        subst L9
        dsimp only [Option.toList, List.cons_append, List.nil_append, List.append]
        refine j_aload_n X (i := 1) dL_feed_37 rfl rfl ?_
        refine j_iload_n X (i := 3) dL_feed_38 rfl rfl ?_
        refine j_bipush X (12) dL_feed_39 (by decide) ?_
        refine j_iadd X dL_feed_41 ?_
        rw [show nI k + (12 : Int32) = nI (k + 12) from nI_add k 12]
        refine j_callS2 X (c_four hl hi (at_ := k + 12) (by omega)) ml_L_18 st_yL_four in_L cd_yL_four hz_yL_four dL_feed_42 ⟨(by decide), (by decide)⟩ ⟨(by dsimp only; omega), (by dsimp only; omega)⟩ (Nat.le_of_ble_eq_true rfl) (fun _ h => h.elim) (fun r9 L9 f9 h9 => ?_)
        obtain ⟨h91, h92, h93⟩ := h9
        subst r9
        subst f9
        subst L9
        dsimp only [Option.toList, List.cons_append, List.nil_append, List.append]
        refine j_aload_n X (i := 1) dL_feed_45 rfl rfl ?_
        refine j_iload_n X (i := 3) dL_feed_46 rfl rfl ?_
        refine j_bipush X (16) dL_feed_47 (by decide) ?_
        refine j_iadd X dL_feed_49 ?_
        rw [show nI k + (16 : Int32) = nI (k + 16) from nI_add k 16]
        refine j_callS2 X (c_four hl hi (at_ := k + 16) (by omega)) ml_L_18 st_yL_four in_L cd_yL_four hz_yL_four dL_feed_50 ⟨(by decide), (by decide)⟩ ⟨(by dsimp only; omega), (by dsimp only; omega)⟩ (Nat.le_of_ble_eq_true rfl) (fun _ h => h.elim) (fun r9 L9 f9 h9 => ?_)
        obtain ⟨h91, h92, h93⟩ := h9
        subst r9
        subst f9
        subst L9
        dsimp only [Option.toList, List.cons_append, List.nil_append, List.append]
        split at hR
        · rename_i v a1 hA
          refine j_callV5 X 8 (m_X8_append hl hL hA) ml_L_24 im_yX8_append se_yX8_append in_X8 cd_yX8_append hy_yX8_append dL_feed_53 rfl (inL hL t_0 (by decide)) (FW8 hL t_0) ⟨(by decide), (by decide)⟩ ⟨(by dsimp only; omega), (by dsimp only; omega)⟩ (Nat.le_of_ble_eq_true rfl) (fun E hE => by obtain ⟨n9, hn9, -⟩ := hE; cases hn9) (fun r9 L9 f9 h9 => ?_)
          obtain ⟨h91, v9, a9, hk9, h92, h93⟩ := h9
          cases hk9
          subst r9
          subst f9
          subst L9
          dsimp only [Option.toList, List.cons_append, List.nil_append, List.append]
          refine j_istore_n X (i := 2) dL_feed_56 rfl (by decide) (by first | exact lvOK_0 | exact lvOK_s rfl okPrev_none | exact lvOK_s rfl okPrev_int | exact lvOK_s rfl okPrev_ref | exact lvOK_s rfl okPrev_null) ?_
          dsimp only [List.set]
          refine j_iinc X (nI (k + 20)) dL_feed_57 rfl (nI_add k 20) (by decide) (by first | exact lvOK_0 | exact lvOK_s rfl okPrev_none | exact lvOK_s rfl okPrev_int | exact lvOK_s rfl okPrev_ref | exact lvOK_s rfl okPrev_null) ?_
          dsimp only [List.set]
          refine j_goto X (tgt := 4) dL_feed_60 (by decide) ?_
          exact ih (k + 20) _ _ _ _ (by omega) (by omega) (by omega) hR
        · cases hR
      · have h8 : ¬ k < mLn G := fun h6 => h7 ((nI_ltI (by omega) (by omega)).mpr h6)
        rw [if_neg h8] at hR
        cases hR
        refine j_iload_n X (i := 3) dL_feed_12 rfl rfl ?_
        refine j_if_ne X (tgt := 63) dL_feed_13 (by decide) (fun _ => ?_) (fun h => absurd h (nI_ne0 (by omega) (by omega)))
        refine j_aload_n X (i := 0) dL_feed_63 rfl rfl ?_
        refine j_iload_n X (i := 2) dL_feed_64 rfl rfl ?_
        refine j_aload_n X (i := 1) dL_feed_65 rfl rfl ?_
        refine j_callM0 X hi (c_mstrlen hl hi rfl) ml_L_8 im_yJ0_length_8abf5 se_yJ0_length_8abf5 cd_yJ0_length_8abf5 hy_yJ0_length_8abf5 dL_feed_66 ⟨(by decide), (by decide)⟩ ⟨(by dsimp only; omega), (by dsimp only; omega)⟩ (Nat.le_of_ble_eq_true rfl) (fun r9 L9 f9 h9 => ?_)
        obtain ⟨h91, h92, h93⟩ := h9
        subst r9
        subst f9
        subst L9
        dsimp only [Option.toList, List.cons_append, List.nil_append, List.append]
        refine j_mmin X ml_L_30 dL_feed_69 ⟨(by decide), (Nat.le_of_ble_eq_true rfl)⟩ ⟨(by dsimp only; omega), (by dsimp only; omega)⟩ ?_
        refine j_callV1 X 8 (m_X8_truncate hl hL hT) ml_L_36 im_yX8_truncate se_yX8_truncate in_X8 cd_yX8_truncate hy_yX8_truncate dL_feed_72 rfl (inL hL t_0 (by decide)) (FW8 hL t_0) ⟨(by decide), (by decide)⟩ ⟨(by dsimp only; omega), (by dsimp only; omega)⟩ (Nat.le_of_ble_eq_true rfl) (fun E hE => by obtain ⟨n9, hn9, -⟩ := hE; cases hn9) (fun r9 L9 f9 h9 => ?_)
        obtain ⟨h91, a9, hk9, h92, h93⟩ := h9
        cases hk9
        subst r9
        subst f9
        subst L9
        dsimp only [Option.toList, List.cons_append, List.nil_append, List.append]
        exact q_vret X hQ dL_feed_75 rfl ⟨(by omega), (by omega)⟩ ⟨rfl, rfl, rfl⟩
  refine j_iconst X (0) dL_feed_0 (by decide) ?_
  refine j_istore_n X (i := 2) dL_feed_1 rfl (by decide) (by first | exact lvOK_0 | exact lvOK_s rfl okPrev_none | exact lvOK_s rfl okPrev_int | exact lvOK_s rfl okPrev_ref | exact lvOK_s rfl okPrev_null) ?_
  dsimp only [List.set]
  refine j_iconst X (0) dL_feed_2 (by decide) ?_
  refine j_istore_n X (i := 3) dL_feed_3 rfl (by decide) (by first | exact lvOK_0 | exact lvOK_s rfl okPrev_none | exact lvOK_s rfl okPrev_int | exact lvOK_s rfl okPrev_ref | exact lvOK_s rfl okPrev_null) ?_
  dsimp only [List.set]
  exact loop 50 0 0 0 0 a (by omega) (by omega) (by omega) hR
