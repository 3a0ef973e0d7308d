/-! texts: the constants' lengths and signs -/
def sBy (i : Nat) : List Char := ((strT[i]?).map (fun q => q.2.2.toList)).getD []
def strLn (i : Nat) : Nat := (sBy i).length
def strCh (i j : Nat) : Int32 := nI (((sBy i).getD j 'a').toNat)
theorem sBy_of {i : Nat} {q : String × Nat × String} (h : strT[i]? = some q) : sBy i = q.2.2.toList := by unfold sBy; rw [h]; rfl
theorem strT_of {i : Nat} (h : i < 57) : ∃ q, strT[i]? = some q := ⟨strT[i]'(by show i < 57; exact h), List.getElem?_eq_getElem _⟩
theorem str_small : ∀ i, i < 57 → strLn i < 100 := by decide +kernel
theorem str_conv : ∀ i, i < 57 → ∀ j, j < strLn i → (Int32.toUInt32 (strCh i j &&& 255) % 65536).toInt32 = strCh i j ∧ narrow .char (.int (strCh i j)) = .int (strCh i j) := by decide +kernel
section JROWS
variable {G : GG} {p : Program} {l : Launch} {e : Env} {R : Room} {s : State} {m : MethodId} {args : Array Value} {below : List Frame} {meth : Method} {c : Code} {A : Nat → Prop} {Q : State → Prop} {own : String} {cc : ByteArray} {nL cells slots pc : Nat} {ret : Option FieldType} {tb : List ExceptionTableEntry} {lv : List (Option Value)} {st : List Value} {L : List Nat} {f : Nat → va_E}
theorem Cx.txt (X : Cx G p l s m args meth c A own cc nL ret tb) {i : Nat} (hi : i < 57) : va_O "java/lang/String" (G.2.2.1 i) A s s.heap ∧ va_OF "java/lang/String" "coder" "B" (.int 0) (G.2.2.1 i) A s s.heap ∧ va_OF "java/lang/String" "value" "[B" (.ref (G.2.2.2 i)) (G.2.2.1 i) A s s.heap ∧ va_T .byte (G.2.2.2 i) (strLn i) (fun j => .int (strCh i j)) A s s.heap := by
  obtain ⟨q, hq⟩ := strT_of hi
  have h := X.str hq
  unfold strLn strCh
  rw [sBy_of hq]
  exact ⟨h.2.1, h.2.2.1, h.2.2.2.1, h.2.2.2.2⟩
theorem j_sgetf (X : Cx G p l s m args meth c A own cc nL ret tb) {n d : String} {v : Value} {q index : Nat} (hE : va_OF "java/lang/String" n d v q A s s.heap) (hlink : Cond.fieldLink own index "java/lang/String" n d ∈ BIG) (hdg : decode cc pc = .ok (.getfield index, 3)) (kk : J G p l e R s m args below meth c A Q nL cells slots (pc + 3) lv (v :: st) L f) : J G p l e R s m args below meth c A Q nL cells slots pc lv (.ref q :: st) L f :=
  fun H locs ls hP hD hS hl => vk_getf X.1 X.2.1 hE hS X.2.2.2.1 (X.w _ hlink) (fun _ h => h) hdg (kk H locs ls hP hD hS hl)
theorem j_gets (X : Cx G p l s m args meth c A own cc nL ret tb) {C n d : String} {v : Value} {index : Nat} (hZ : va_Z C n d v A s s.heap) (hlink : Cond.fieldLink own index C n d ∈ BIG) (hdg : decode cc pc = .ok (.getstatic index, 3)) (kk : J G p l e R s m args below meth c A Q nL cells slots (pc + 3) lv (v :: st) L f) : J G p l e R s m args below meth c A Q nL cells slots pc lv st L f :=
  fun H locs ls hP hD hS hl => va_gets X.1 X.2.1 hZ hS X.2.2.2.1 (X.w _ hlink) (fun _ h => h) hdg (kk H locs ls hP hD hS hl)
theorem j_tlen (X : Cx G p l s m args meth c A own cc nL ret tb) {t N : Nat} {g : Nat → Value} (hT : va_T .byte t N g A s s.heap) (hdg : decode cc pc = .ok (.arraylength, 1)) (kk : J G p l e R s m args below meth c A Q nL cells slots (pc + 1) lv (.int (nI N) :: st) L f) : J G p l e R s m args below meth c A Q nL cells slots pc lv (.ref t :: st) L f :=
  fun H locs ls hP hD hS hl => va_tlen X.1 X.2.1 hT hS rfl hdg (kk H locs ls hP hD hS hl)
theorem j_tb (X : Cx G p l s m args meth c A own cc nL ret tb) {t N : Nat} {g : Nat → Value} {i : Int32} {v : Value} (hT : va_T .byte t N g A s s.heap) (hin : vp_in i N) (hv : g i.toNatClampNeg = v) (hdg : decode cc pc = .ok (.baload, 1)) (kk : J G p l e R s m args below meth c A Q nL cells slots (pc + 1) lv (v :: st) L f) : J G p l e R s m args below meth c A Q nL cells slots pc lv (.int i :: .ref t :: st) L f :=
  fun H locs ls hP hD hS hl => va_tb X.1 X.2.1 hT hS hin hv hdg (kk H locs ls hP hD hS hl)
theorem j_ldcSw (X : Cx G p l s m args meth c A own cc nL ret tb) {index : Nat} {tx : String} (i : Nat) (hdg : decode cc pc = .ok (.ldc_w index, 3)) (hi : strT[i]? = some (own, index, tx)) (k : J G p l e R s m args below meth c A Q nL cells slots (pc + 3) lv (.ref (G.2.2.1 i) :: st) L f) : J G p l e R s m args below meth c A Q nL cells slots pc lv st L f := by
  intro H locs ls hP hD hS hl T hT W
  obtain ⟨t, a1, b1⟩ := k H locs ls hP hD hS hl T hT W
  have hZ := (Cx.str X hi).1
  exact ⟨t, W.ldcStringW X.1 X.2.2.2.1 (text := tx) hZ.1 hZ.2 (g := F0 m pc ls st) rfl (by rw [X.2.1]; exact hdg) t a1, b1⟩
theorem j_popv (X : Cx G p l s m args meth c A own cc nL ret tb) {x : Int32} (hdg : decode cc pc = .ok (.pop, 1)) (kk : J G p l e R s m args below meth c A Q nL cells slots (pc + 1) lv st L f) : J G p l e R s m args below meth c A Q nL cells slots pc lv (.int x :: st) L f := j_pop X hdg rfl kk
/-- a call of a method of a text -/
theorem j_callT (X : Cx G p l s m args meth c A own cc nL ret tb) {y : MethodName} {bytes : ByteArray} {maxL index fr lo mc ms i : Nat} {rt : Option FieldType} {As rest : List Value} {px : String → Prop} {post : Option Value → List Nat → (Nat → va_E) → Prop} (hi : i < 57)
    (hC : Ct l G y (.code y bytes maxL rt) fr lo mc ms (.ref (G.2.2.1 i) :: As) L f px post) (h1 : Cond.methodLink own index y ∈ BIG) (h2 : Cond.instanceMethod y ∈ BIG) (h3 : Cond.selects RJ0 y y ∈ BIG) (h5 : Cond.code y bytes maxL rt ∈ BIG)
    (hy : y.cls = RJ0 ∧ y.cls ≠ "java/lang/invoke/MethodHandle" ∧ y.cls ≠ "java/lang/invoke/VarHandle" ∧ (parseMethodDescriptor y.desc).map (fun d => d.parameters.length) = some As.length)
    (hdg : decode cc pc = .ok (.invokevirtual index, 3))
    (hR : fr + 1 ≤ R.frames ∧ 8 + (maxL + 11) + lo ≤ R.locals) (hc : cells + mc ≤ R.cells ∧ slots + ms ≤ R.slots) (hW : (rest.map fun v => v.category).sum ≤ 8)
    (kx : ∀ E, px E → JX G p l e R s m args below meth c A Q nL (cells + mc) (slots + ms) pc lv rest L f E)
    (kk : ∀ (r : Option Value) (L1 : List Nat) (f1 : Nat → va_E), post r L1 f1 → J G p l e R s m args below meth c A Q nL (cells + mc) (slots + ms) (pc + 3) lv (r.toList ++ rest) L1 f1) : J G p l e R s m args below meth c A Q nL cells slots pc lv (As.reverse ++ .ref (G.2.2.1 i) :: rest) L f := by
  refine j_run X (px := px) (post := post) (a := (Value.ref (G.2.2.1 i) :: As).toArray) (fun H locs ls hP hD hS hl => ?_) kx kk
  have hrec : ∃ cell : Cell, H[G.2.2.1 i]? = some cell ∧ cell.vm.isStatics = false ∧ s.vm.findClass RJ0 = some cell.cls := by
    obtain ⟨cell, g1, g2, g3, -⟩ := (X.txt hi).1.kept hS.2.1
    exact ⟨cell, g1, g2, g3⟩
  exact vx_runV (C := RJ0) (n := As.length) ⟨X.1, X.2.1, X.2.2.1, X.2.2.2.1, X.w⟩ (hC H.size) (cwV As.length X.w (big_in (fun w hw => by
    rcases List.mem_append.mp hw with h | h
    · simp only [List.mem_cons, List.not_mem_nil, or_false] at h
      rcases h with rfl | rfl | rfl | rfl
      · exact h1
      · exact h2
      · exact h3
      · exact in_J0
    · rcases List.mem_cons.mp h with rfl | h
      · exact h5
      · exact h)) rfl rfl rfl hy hR) ⟨Pg_blind, hrec, X.pre hP hD hS⟩ rfl rfl hl.1 rfl (lv_room hW) hdg hc
end JROWS
theorem hy_yJ0_length_8abf5 : yJ0_length_8abf5.cls = RJ0 ∧ yJ0_length_8abf5.cls ≠ "java/lang/invoke/MethodHandle" ∧ yJ0_length_8abf5.cls ≠ "java/lang/invoke/VarHandle" ∧ (parseMethodDescriptor yJ0_length_8abf5.desc).map (fun d => d.parameters.length) = some 0 := by decide +kernel
theorem hy_yJ0_coder_7d493 : yJ0_coder_7d493.cls = RJ0 ∧ yJ0_coder_7d493.cls ≠ "java/lang/invoke/MethodHandle" ∧ yJ0_coder_7d493.cls ≠ "java/lang/invoke/VarHandle" ∧ (parseMethodDescriptor yJ0_coder_7d493.desc).map (fun d => d.parameters.length) = some 0 := by decide +kernel
theorem hy_yJ0_isLatin1_aae02 : yJ0_isLatin1_aae02.cls = RJ0 ∧ yJ0_isLatin1_aae02.cls ≠ "java/lang/invoke/MethodHandle" ∧ yJ0_isLatin1_aae02.cls ≠ "java/lang/invoke/VarHandle" ∧ (parseMethodDescriptor yJ0_isLatin1_aae02.desc).map (fun d => d.parameters.length) = some 0 := by decide +kernel
theorem hy_yJ0_charAt_5068e : yJ0_charAt_5068e.cls = RJ0 ∧ yJ0_charAt_5068e.cls ≠ "java/lang/invoke/MethodHandle" ∧ yJ0_charAt_5068e.cls ≠ "java/lang/invoke/VarHandle" ∧ (parseMethodDescriptor yJ0_charAt_5068e.desc).map (fun d => d.parameters.length) = some 1 := by decide +kernel
theorem hy_yJ1_charAt_3b067 : yJ1_charAt_3b067.cls ≠ "java/lang/invoke/MethodHandle" ∧ yJ1_charAt_3b067.cls ≠ "java/lang/invoke/VarHandle" ∧ (parseMethodDescriptor yJ1_charAt_3b067.desc).map (fun d => d.parameters.length) = some 2 := by decide +kernel
theorem hy_yJ0_checkIndex_df160 : yJ0_checkIndex_df160.cls ≠ "java/lang/invoke/MethodHandle" ∧ yJ0_checkIndex_df160.cls ≠ "java/lang/invoke/VarHandle" ∧ (parseMethodDescriptor yJ0_checkIndex_df160.desc).map (fun d => d.parameters.length) = some 2 := by decide +kernel
theorem hy_yJ3_checkIndex_8e157 : yJ3_checkIndex_8e157.cls ≠ "java/lang/invoke/MethodHandle" ∧ yJ3_checkIndex_8e157.cls ≠ "java/lang/invoke/VarHandle" ∧ (parseMethodDescriptor yJ3_checkIndex_8e157.desc).map (fun d => d.parameters.length) = some 3 := by decide +kernel
set_option maxRecDepth 100000 in
theorem c_coder {l : Launch} (hl : l.stackTraces = false) {G : GG} {L : List Nat} {f : Nat → va_E} {i : Nat} (hi : i < 57) : Ct l G yJ0_coder_7d493 (.code yJ0_coder_7d493 cJ0_coder_7d493 1 (some .byte)) 0 0 0 0 [.ref (G.2.2.1 i)] L f px0 (stay L (fun r f1 => f1 = f ∧ r = some (.int 0))) := by
  refine Ct.ofq (own := RJ0) hl rfl (by decide) [some (.ref (G.2.2.1 i))] rfl (Nat.le_of_ble_eq_true rfl) ?_
  intro p e s m below meth c A ar Q hQ X
  have hE := X.2.2.2.2.2.2.2.2.2.1
  refine j_gets X hE.2.2.1 fl_J0_38 dJ0_coder_7d493_0 ?_
  refine j_if_eq X (tgt := 13) dJ0_coder_7d493_3 (by decide) (fun h => absurd h (by decide)) (fun _ => ?_)
  refine j_aload_n X (i := 0) dJ0_coder_7d493_6 rfl rfl ?_
  refine j_sgetf X (X.txt hi).2.1 fl_J0_15 dJ0_coder_7d493_7 ?_
  refine j_goto X (tgt := 14) dJ0_coder_7d493_10 (by decide) ?_
  exact q_zret X hQ dJ0_coder_7d493_14 rfl rfl ⟨(by decide), (by decide)⟩ ⟨rfl, rfl, rfl⟩
set_option maxRecDepth 100000 in
theorem c_isLatin1 {l : Launch} (hl : l.stackTraces = false) {G : GG} {L : List Nat} {f : Nat → va_E} {i : Nat} (hi : i < 57) : Ct l G yJ0_isLatin1_aae02 (.code yJ0_isLatin1_aae02 cJ0_isLatin1_aae02 1 (some .boolean)) 0 0 0 0 [.ref (G.2.2.1 i)] L f px0 (stay L (fun r f1 => f1 = f ∧ r = some (.int 1))) := by
  refine Ct.ofq (own := RJ0) hl rfl (by decide) [some (.ref (G.2.2.1 i))] rfl (Nat.le_of_ble_eq_true rfl) ?_
  intro p e s m below meth c A ar Q hQ X
  have hE := X.2.2.2.2.2.2.2.2.2.1
  refine j_gets X hE.2.2.1 fl_J0_38 dJ0_isLatin1_aae02_0 ?_
  refine j_if_eq X (tgt := 17) dJ0_isLatin1_aae02_3 (by decide) (fun h => absurd h (by decide)) (fun _ => ?_)
  refine j_aload_n X (i := 0) dJ0_isLatin1_aae02_6 rfl rfl ?_
  refine j_sgetf X (X.txt hi).2.1 fl_J0_15 dJ0_isLatin1_aae02_7 ?_
  refine j_if_ne X (tgt := 17) dJ0_isLatin1_aae02_10 (by decide) (fun h => absurd rfl h) (fun _ => ?_)
  refine j_iconst X (1) dJ0_isLatin1_aae02_13 (by decide) ?_
  refine j_goto X (tgt := 18) dJ0_isLatin1_aae02_14 (by decide) ?_
  exact q_zret X hQ dJ0_isLatin1_aae02_18 rfl rfl ⟨(by decide), (by decide)⟩ ⟨rfl, rfl, rfl⟩
set_option maxRecDepth 100000 in
theorem c_strlen {l : Launch} (hl : l.stackTraces = false) {G : GG} {L : List Nat} {f : Nat → va_E} {i : Nat} (hi : i < 57) {v : Int32} (hR : nI (strLn i) = v) : Ct l G yJ0_length_8abf5 (.code yJ0_length_8abf5 cJ0_length_8abf5 1 (some .int)) 1 20 0 0 [.ref (G.2.2.1 i)] L f px0 (stay L (fun r f1 => f1 = f ∧ r = some (.int v))) := by
  subst hR
  refine Ct.ofq (own := RJ0) hl rfl (by decide) [some (.ref (G.2.2.1 i))] rfl (Nat.le_of_ble_eq_true rfl) ?_
  intro p e s m below meth c A ar Q hQ X
  refine j_aload_n X (i := 0) dJ0_length_8abf5_0 rfl rfl ?_
  refine j_sgetf X (X.txt hi).2.2.1 fl_J0_9 dJ0_length_8abf5_1 ?_
  refine j_tlen X (X.txt hi).2.2.2 dJ0_length_8abf5_4 ?_
  refine j_aload_n X (i := 0) dJ0_length_8abf5_5 rfl rfl ?_
  refine j_callT (As := []) X hi (c_coder hl hi) ml_J0_335 im_yJ0_coder_7d493 se_yJ0_coder_7d493 cd_yJ0_coder_7d493 hy_yJ0_coder_7d493 dJ0_length_8abf5_6 ⟨(by decide), (by decide)⟩ ⟨(by decide), (by decide)⟩ (Nat.le_of_ble_eq_true rfl) (fun _ h => h.elim) (fun r9 L9 f9 h9 => ?_)
  obtain ⟨h91, h92, h93⟩ := h9
  subst r9
  subst f9
  subst L9
  dsimp only [Option.toList, List.cons_append, List.nil_append, List.append]
  refine j_ishr X dJ0_length_8abf5_9 ?_
  exact q_iret X hQ dJ0_length_8abf5_10 rfl ⟨(by decide), (by decide)⟩ ⟨rfl, rfl, congrArg (fun z => some (Value.int z)) (by rw [show ((0 : Int32) &&& 31) = 0 by decide]; exact Int32.shiftRight_zero)⟩
set_option maxRecDepth 100000 in
theorem c_checkIndex3 {l : Launch} (hl : l.stackTraces = false) {G : GG} {L : List Nat} {f : Nat → va_E} {i n : Int32} {fv : Value} (hf : fv = .null ∨ ∃ t, fv = .ref t) (h1 : ¬ i < 0) (h2 : i < n) : Ct l G yJ3_checkIndex_8e157 (.code yJ3_checkIndex_8e157 cJ3_checkIndex_8e157 3 (some .int)) 0 0 0 0 [.int i, .int n, fv] L f px0 (stay L (fun r f1 => f1 = f ∧ r = some (.int i))) := by
  refine Ct.ofq (own := RJ3) hl rfl (by decide) [some (.int i), some (.int n), some fv] (by rcases hf with rfl | ⟨t, rfl⟩ <;> rfl) (by rcases hf with rfl | ⟨t, rfl⟩ <;> exact Nat.le_of_ble_eq_true rfl) ?_
  intro p e s m below meth c A ar Q hQ X
  refine j_iload_n X (i := 0) dJ3_checkIndex_8e157_0 rfl rfl ?_
  refine j_if_lt X (tgt := 9) dJ3_checkIndex_8e157_1 (by decide) (fun h => absurd h h1) (fun _ => ?_)
  refine j_iload_n X (i := 0) dJ3_checkIndex_8e157_4 rfl rfl ?_
  refine j_iload_n X (i := 1) dJ3_checkIndex_8e157_5 rfl rfl ?_
  refine j_icmp_lt X (tgt := 16) dJ3_checkIndex_8e157_6 (by decide) (fun _ => ?_) (fun h => absurd h2 h)
  refine j_iload_n X (i := 0) dJ3_checkIndex_8e157_16 rfl rfl ?_
  exact q_iret X hQ dJ3_checkIndex_8e157_17 rfl ⟨(by decide), (by decide)⟩ ⟨rfl, rfl, rfl⟩
set_option maxRecDepth 100000 in
theorem c_checkIndex2 {l : Launch} (hl : l.stackTraces = false) {G : GG} {L : List Nat} {f : Nat → va_E} {i n : Int32} (h1 : ¬ i < 0) (h2 : i < n) : Ct l G yJ0_checkIndex_df160 (.code yJ0_checkIndex_df160 cJ0_checkIndex_df160 2 none) 1 22 0 0 [.int i, .int n] L f px0 (stay L (fun r f1 => f1 = f ∧ r = none)) := by
  refine Ct.ofq (own := RJ0) hl rfl (by decide) [some (.int i), some (.int n)] rfl (Nat.le_of_ble_eq_true rfl) ?_
  intro p e s m below meth c A ar Q hQ X
  have hE := X.2.2.2.2.2.2.2.2.2.1
  obtain ⟨fv, hfv, hZ⟩ : ∃ fv : Value, (fv = .null ∨ ∃ t, fv = .ref t) ∧ va_Z "jdk/internal/util/Preconditions" "SIOOBE_FORMATTER" "Ljava/util/function/BiFunction;" fv A s s.heap := by
    rcases hE.2.2.2.1 with h | ⟨t, h⟩
    · exact ⟨_, Or.inl rfl, h⟩
    · exact ⟨_, Or.inr ⟨t, rfl⟩, h⟩
  refine j_iload_n X (i := 0) dJ0_checkIndex_df160_0 rfl rfl ?_
  refine j_iload_n X (i := 1) dJ0_checkIndex_df160_1 rfl rfl ?_
  refine j_gets X hZ fl_J0_1053 dJ0_checkIndex_df160_2 ?_
  refine j_callS3 X (c_checkIndex3 hl hfv h1 h2) ml_J0_1059 st_yJ3_checkIndex_8e157 in_J3 cd_yJ3_checkIndex_8e157 hy_yJ3_checkIndex_8e157 dJ0_checkIndex_df160_5 ⟨(by decide), (by decide)⟩ ⟨(by decide), (by decide)⟩ (Nat.le_of_ble_eq_true rfl) (fun _ h => h.elim) (fun r9 L9 f9 h9 => ?_)
  obtain ⟨h91, h92, h93⟩ := h9
  subst r9
  subst f9
  subst L9
  dsimp only [Option.toList, List.cons_append, List.nil_append, List.append]
  refine j_popv X dJ0_checkIndex_df160_8 ?_
  exact q_vret X hQ dJ0_checkIndex_df160_9 rfl ⟨(by decide), (by decide)⟩ ⟨rfl, rfl, rfl⟩
set_option maxRecDepth 100000 in
theorem c_latinAt {l : Launch} (hl : l.stackTraces = false) {G : GG} {L : List Nat} {f : Nat → va_E} {i : Nat} (hi : i < 57) {j : Int32} (hj : vp_in j (strLn i)) : Ct l G yJ1_charAt_3b067 (.code yJ1_charAt_3b067 cJ1_charAt_3b067 2 (some .char)) 2 43 0 0 [.ref (G.2.2.2 i), .int j] L f px0 (stay L (fun r f1 => f1 = f ∧ r = some (.int (strCh i j.toNatClampNeg)))) := by
  have hs := str_small i hi
  have hlt : j.toNatClampNeg < strLn i := by unfold vp_in at hj; omega
  have hc := str_conv i hi _ hlt
  refine Ct.ofq (own := RJ1) hl rfl (by decide) [some (.ref (G.2.2.2 i)), some (.int j)] rfl (Nat.le_of_ble_eq_true rfl) ?_
  intro p e s m below meth c A ar Q hQ X
  have h1 : ¬ j < 0 := fun h => hj (Or.inl h)
  have h2 : j < nI (strLn i) := by
    obtain ⟨k, hk, e⟩ := nI_of h1
    subst e
    rw [nI_clamp hk] at hlt
    exact nI_lt hlt (by omega)
  refine j_iload_n X (i := 1) dJ1_charAt_3b067_0 rfl rfl ?_
  refine j_aload_n X (i := 0) dJ1_charAt_3b067_1 rfl rfl ?_
  refine j_tlen X (X.txt hi).2.2.2 dJ1_charAt_3b067_2 ?_
  refine j_callS2 X (c_checkIndex2 hl h1 h2) ml_J1_9 st_yJ0_checkIndex_df160 in_J0 cd_yJ0_checkIndex_df160 hy_yJ0_checkIndex_df160 dJ1_charAt_3b067_3 ⟨(by decide), (by decide)⟩ ⟨(by decide), (by decide)⟩ (Nat.le_of_ble_eq_true rfl) (fun _ h => h.elim) (fun r9 L9 f9 h9 => ?_)
  obtain ⟨h91, h92, h93⟩ := h9
  subst r9
  subst f9
  subst L9
  dsimp only [Option.toList, List.cons_append, List.nil_append, List.append]
  refine j_aload_n X (i := 0) dJ1_charAt_3b067_6 rfl rfl ?_
  refine j_iload_n X (i := 1) dJ1_charAt_3b067_7 rfl rfl ?_
  refine j_tb X (X.txt hi).2.2.2 hj rfl dJ1_charAt_3b067_8 ?_
  refine j_sipush X (255) dJ1_charAt_3b067_9 (by decide) ?_
  refine j_iand X dJ1_charAt_3b067_12 ?_
  refine j_i2c X dJ1_charAt_3b067_13 ?_
  rw [hc.1]
  exact q_zret X hQ dJ1_charAt_3b067_14 rfl hc.2 ⟨(by decide), (by decide)⟩ ⟨rfl, rfl, rfl⟩
set_option maxRecDepth 100000 in
theorem c_charAt {l : Launch} (hl : l.stackTraces = false) {G : GG} {L : List Nat} {f : Nat → va_E} {i : Nat} (hi : i < 57) {j v : Int32} (hj : vp_in j (strLn i)) (hR : strCh i j.toNatClampNeg = v) : Ct l G yJ0_charAt_5068e (.code yJ0_charAt_5068e cJ0_charAt_5068e 2 (some .char)) 3 64 0 0 [.ref (G.2.2.1 i), .int j] L f px0 (stay L (fun r f1 => f1 = f ∧ r = some (.int v))) := by
  subst hR
  have hs := str_small i hi
  have hlt : j.toNatClampNeg < strLn i := by unfold vp_in at hj; omega
  have hc := str_conv i hi _ hlt
  refine Ct.ofq (own := RJ0) hl rfl (by decide) [some (.ref (G.2.2.1 i)), some (.int j)] rfl (Nat.le_of_ble_eq_true rfl) ?_
  intro p e s m below meth c A ar Q hQ X
  refine j_aload_n X (i := 0) dJ0_charAt_5068e_0 rfl rfl ?_
  refine j_callT (As := []) X hi (c_isLatin1 hl hi) ml_J0_492 im_yJ0_isLatin1_aae02 se_yJ0_isLatin1_aae02 cd_yJ0_isLatin1_aae02 hy_yJ0_isLatin1_aae02 dJ0_charAt_5068e_1 ⟨(by decide), (by decide)⟩ ⟨(by decide), (by decide)⟩ (Nat.le_of_ble_eq_true rfl) (fun _ h => h.elim) (fun r9 L9 f9 h9 => ?_)
  obtain ⟨h91, h92, h93⟩ := h9
  subst r9
  subst f9
  subst L9
  dsimp only [Option.toList, List.cons_append, List.nil_append, List.append]
  refine j_if_eq X (tgt := 16) dJ0_charAt_5068e_4 (by decide) (fun h => absurd h (by decide)) (fun _ => ?_)
  refine j_aload_n X (i := 0) dJ0_charAt_5068e_7 rfl rfl ?_
  refine j_sgetf X (X.txt hi).2.2.1 fl_J0_9 dJ0_charAt_5068e_8 ?_
  refine j_iload_n X (i := 1) dJ0_charAt_5068e_11 rfl rfl ?_
  refine j_callS2 X (c_latinAt hl hi hj) ml_J0_495 st_yJ1_charAt_3b067 in_J1 cd_yJ1_charAt_3b067 hy_yJ1_charAt_3b067 dJ0_charAt_5068e_12 ⟨(by decide), (by decide)⟩ ⟨(by decide), (by decide)⟩ (Nat.le_of_ble_eq_true rfl) (fun _ h => h.elim) (fun r9 L9 f9 h9 => ?_)
  obtain ⟨h91, h92, h93⟩ := h9
  subst r9
  subst f9
  subst L9
  dsimp only [Option.toList, List.cons_append, List.nil_append, List.append]
  exact q_zret X hQ dJ0_charAt_5068e_15 rfl hc.2 ⟨(by decide), (by decide)⟩ ⟨rfl, rfl, rfl⟩
