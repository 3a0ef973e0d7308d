/-! ===== THE LAYER: worlds as lists of addresses with what each holds, J: the judgement of a method's frame over such a world ===== -/
abbrev tysOf (tc : Nat → ClassId) : List (ClassId × FieldType) := [(tc 0, .int), (tc 1, .byte), (tc 0, .int), (tc 0, .int), (tc 0, .int), (tc 5, .object "GameClock$State")]
def lvl (lv : List (Option Value)) : List (Nat × Value) := lv.zipIdx.filterMap (fun q => q.1.map (fun v => (q.2, v)))
theorem mem_lvl {lv : List (Option Value)} {i : Nat} {v : Value} : (i, v) ∈ lvl lv ↔ lv[i]? = some (some v) := by
  unfold lvl
  constructor
  · intro h
    obtain ⟨q, hq, h⟩ := List.mem_filterMap.mp h
    obtain ⟨o, k⟩ := q
    have h1 := List.mem_zipIdx_iff_getElem?.mp hq
    cases o with
    | none => cases h
    | some w => cases h; exact h1
  · intro h
    exact List.mem_filterMap.mpr ⟨(some v, i), List.mem_zipIdx_iff_getElem?.mpr h, rfl⟩
theorem lvl_get {ls : Array Slot} {nL : Nat} {lv : List (Option Value)} (h : lv_has ls nL (lvl lv)) {i : Nat} {v : Value} (hk : lv[i]? = some (some v)) : ls[i]? = some (.val v) := h.2.2 (i, v) (mem_lvl.mpr hk)
theorem lvl_sub {ls : Array Slot} {nL : Nat} {lv lv' : List (Option Value)} (h : lv_has ls nL (lvl lv)) (hk : ∀ (i : Nat) (v : Value), lv'[i]? = some (some v) → lv[i]? = some (some v)) : lv_has ls nL (lvl lv') :=
  ⟨h.1, h.2.1, fun q hq => h.2.2 q (mem_lvl.mpr (hk q.1 q.2 (mem_lvl.mp hq)))⟩
/-- what may lie ahead of a place that is written: nothing of two words -/
def okPrev (o : Option Value) : Prop := ∀ v, o = some v → v.category = 1
theorem okPrev_none : okPrev none := fun _ h => nomatch h
theorem okPrev_int {x : Int32} : okPrev (some (.int x)) := fun _ h => by cases h; rfl
theorem okPrev_ref {x : Nat} : okPrev (some (.ref x)) := fun _ h => by cases h; rfl
theorem okPrev_null : okPrev (some .null) := fun _ h => by cases h; rfl
def lvOK (lv : List (Option Value)) (i : Nat) : Prop := ∀ k v, k + 1 = i → lv[k]? = some (some v) → v.category = 1
theorem lvl_put1 {ls : Array Slot} {nL : Nat} {lv : List (Option Value)} {i : Nat} {v : Value} (hok : lvOK lv i) (h : lv_has ls nL ((i, v) :: (lvl lv).filter (fun q => !(q.1 == i) && !(q.1 + 1 == i && q.2.category == 2)))) : lv_has ls nL (lvl (lv.set i (some v))) := by
  refine ⟨h.1, h.2.1, fun q hq => h.2.2 q ?_⟩
  obtain ⟨k, w⟩ := q
  have h1 := mem_lvl.mp hq
  by_cases hk : i = k
  · subst hk
    have hl : i < lv.length := by
      have := (List.getElem?_eq_some_iff.mp h1).1
      simpa using this
    rw [List.getElem?_set_self hl] at h1
    cases h1
    exact List.mem_cons_self
  · rw [List.getElem?_set_ne hk] at h1
    refine List.mem_cons_of_mem _ (List.mem_filter.mpr ⟨mem_lvl.mpr h1, ?_⟩)
    have e1 : (k == i) = false := by simp [Ne.symm hk]
    by_cases h2 : k + 1 = i
    · have := hok k w h2 h1
      simp [e1, this]
    · simp [e1, h2]
theorem lvl_put2 {ls : Array Slot} {nL : Nat} {lv : List (Option Value)} {i : Nat} {v : Value} (hok : lvOK lv i) (h : lv_has ls nL ((i, v) :: (lvl lv).filter (fun q => !(q.1 == i) && (!(q.1 == i + 1) && !(q.1 + 1 == i && q.2.category == 2))))) : lv_has ls nL (lvl ((lv.set i (some v)).set (i + 1) none)) := by
  refine ⟨h.1, h.2.1, fun q hq => h.2.2 q ?_⟩
  obtain ⟨k, w⟩ := q
  have h1 := mem_lvl.mp hq
  by_cases hk1 : i + 1 = k
  · subst hk1
    by_cases hl : i + 1 < (lv.set i (some v)).length
    · rw [List.getElem?_set_self hl] at h1
      cases h1
    · rw [List.getElem?_eq_none (by simp at hl ⊢; omega)] at h1
      cases h1
  · rw [List.getElem?_set_ne hk1] at h1
    by_cases hk : i = k
    · subst hk
      have hl : i < lv.length := by
        have := (List.getElem?_eq_some_iff.mp h1).1
        simpa using this
      rw [List.getElem?_set_self hl] at h1
      cases h1
      exact List.mem_cons_self
    · rw [List.getElem?_set_ne hk] at h1
      refine List.mem_cons_of_mem _ (List.mem_filter.mpr ⟨mem_lvl.mpr h1, ?_⟩)
      have e1 : (k == i) = false := by simp [Ne.symm hk]
      have e2 : (k == i + 1) = false := by simp [Ne.symm hk1]
      by_cases h2 : k + 1 = i
      · have := hok k w h2 h1
        simp [e1, e2, this]
      · simp [e1, e2, h2]
/-- the world: the addresses L, each with what f says -/
def BW (D : va_G) (tc : Nat → ClassId) (A : Nat → Prop) (L : List Nat) (f : Nat → va_E) (t : State) : Prop := va_P D vwCl (va_pl L f) t.heap ∧ va_K D vwCl (tysOf tc) t ∧ va_D A (va_pl L f)
/-- a String constant: its word, its place, its bytes -/
def strOK (adS adV : Nat → Nat) (A : Nat → Prop) (U : State) (H : Heap) (i : Nat) (q : String × Nat × String) : Prop :=
  vk_R q.1 q.2.1 q.2.2 (adS i) U ∧ va_O "java/lang/String" (adS i) A U H ∧ va_OF "java/lang/String" "coder" "B" (.int 0) (adS i) A U H ∧ va_OF "java/lang/String" "value" "[B" (.ref (adV i)) (adS i) A U H ∧ va_T .byte (adV i) q.2.2.toList.length (fun j => .int (nI ((q.2.2.toList.getD j 'a').toNat))) A U H
def strT : List (String × Nat × String) := [(RX3, 38, "period"), (RX3, 98, "moves"), (RX3, 108, "time"), (RX3, 111, "bonus"), (RX3, 117, "delay"), (RX3, 119, "back"), (RX3, 57, "extra"), (RX3, 62, "session"), (RX3, 67, "hand"), (RX3, 137, "white"), (RX3, 139, "black"), (RX3, 72, "claims"), (RX8, 57, "the input buffer is full"), (RX8, 68, "length is out of range"), (RX8, 155, "what is out of range"), (RX8, 408, "there is no such period"), (RX8, 406, "there is no such side"), (RX8, 207, "there is no such move in the log"), (RX8, 155, "what is out of range"), (RX8, 295, "ticks is out of range"), (RX8, 155, "what is out of range"), (RX8, 304, "the game has begun"), (RX8, 309, "the game is not running"), (RX8, 314, "the game is not paused"), (RX8, 316, "sealing is not possible"), (RX8, 318, "the game is not adjourned"), (RX8, 323, "there is nothing to claim"), (RX8, 155, "what is out of range"), (RX8, 330, "the side cannot be given so many ticks"), (RX8, 332, "what or value is out of range"), (RX8, 338, "sides are swapped ahead of the game or in a pause"), (RX8, 155, "what is out of range"), (RX8, 155, "what is out of range"), (RX8, 155, "what is out of range"), (RX8, 155, "what is out of range"), (RX3, 38, "period"), (RX3, 98, "moves"), (RX3, 108, "time"), (RX3, 111, "bonus"), (RX3, 117, "delay"), (RX3, 119, "back"), (RX3, 57, "extra"), (RX3, 62, "session"), (RX3, 67, "hand"), (RX3, 139, "black"), (RX3, 137, "white"), (RX3, 72, "claims"), (RL, 47, "period moves "), (RL, 55, " time "), (RL, 57, " bonus "), (RL, 59, " delay "), (RL, 61, " back "), (RL, 63, ";"), (RL, 65, "extra "), (RL, 67, "session "), (RL, 69, "hand black "), (RL, 71, "claims;")]
def nestT : List (String × Nat × MethodName) := [(RX8, 9, yX3_init), (RX3, 11, yX0_init), (RX3, 20, yX4_init), (RX8, 23, yX2_init), (RX6, 11, yX4_init), (RX6, 20, yX1_init), (RX6, 27, yX5_init), (RX4, 38, yX8_setNumberAt), (RX8, 37, yX7_init), (RX7, 11, yX5_init), (RX4, 34, yX8_copyRow), (RX1, 22, yX8_copyRow), (RX5, 66, yX8_copyRow), (RX1, 36, yX8_numberAt), (RX5, 89, yX8_numberAt), (RX5, 93, yX8_setNumberAt), (RX8, 9, yX3_init), (RX6, 88, yX8_other), (RX1, 32, yX8_setNumberAt)]
def castT : List (String × String) := [("java/lang/IllegalArgumentException", "java/lang/IllegalArgumentException"), ("[B", "java/lang/Cloneable"), ("java/lang/IllegalStateException", "java/lang/IllegalStateException"), ("java/lang/IndexOutOfBoundsException", "java/lang/IndexOutOfBoundsException")]
def ncT : List (String × String) := [("java/lang/IllegalArgumentException", "java/lang/IllegalStateException"), ("java/lang/IndexOutOfBoundsException", "java/lang/IllegalStateException")]
def declT : List MethodName := [⟨"java/lang/RuntimeException", "<init>", "()V"⟩, ⟨"java/lang/RuntimeException", "<init>", "(Ljava/lang/String;)V"⟩, ⟨"java/lang/Exception", "<init>", "()V"⟩, ⟨"java/lang/Exception", "<init>", "(Ljava/lang/String;)V"⟩, ⟨"java/lang/Throwable", "<init>", "()V"⟩, ⟨"java/lang/Throwable", "<init>", "(Ljava/lang/String;)V"⟩]
/-- a made text that nobody changes -/
def txtOK (a v n : Nat) (g : Nat → Int32) (A : Nat → Prop) (U : State) (H : Heap) : Prop := va_O "java/lang/String" a A U H ∧ va_OF "java/lang/String" "coder" "B" (.int 0) a A U H ∧ va_OF "java/lang/String" "value" "[B" (.ref v) a A U H ∧ va_T .byte v n (fun j => .int (g j)) A U H
theorem txtOK.moved {a v n : Nat} {g : Nat → Int32} {A : Nat → Prop} {u U : State} {H : Heap} (ha : u.vm.Alike U.vm) (h : txtOK a v n g A u H) : txtOK a v n g A U H := ⟨va_O.moved ha h.1, va_OF.moved ha h.2.1, va_OF.moved ha h.2.2.1, va_T.moved ha h.2.2.2⟩
theorem txtOK.kept {a v n : Nat} {g : Nat → Int32} {A : Nat → Prop} {U : State} {H H1 : Heap} (h : txtOK a v n g A U H) (hq : ∀ a : Nat, a < H.size → ¬ A a → H1[a]? = H[a]?) : txtOK a v n g A U H1 := ⟨h.1.kept hq, h.2.1.kept hq, h.2.2.1.kept hq, h.2.2.2.kept hq⟩
theorem txtOK.narrow {a v n : Nat} {g : Nat → Int32} {A B : Nat → Prop} {U : State} {H : Heap} (h : txtOK a v n g A U H) (hAB : ∀ q, B q → A q) : txtOK a v n g B U H := ⟨h.1.narrow hAB, h.2.1.narrow hAB, h.2.2.1.narrow hAB, h.2.2.2.narrow hAB⟩
def dgO (j : Nat) : Int32 := nI (48 + j % 10)
def dgT (j : Nat) : Int32 := nI (48 + j / 10)
/-- the script, the two tables of digits, a made text -/
def Evx (adS adV : Nat → Nat) (A : Nat → Prop) (U : State) (H : Heap) : Prop := va_T .int (adS 100) (adV 100) (fun j => .int (Int32.ofNat (adV (1000 + j)))) A U H ∧ va_Z "java/lang/Integer" "DigitOnes" "[B" (.ref (adS 103)) A U H ∧ va_T .byte (adS 103) 100 (fun j => .int (dgO j)) A U H ∧ va_Z "java/lang/Integer" "DigitTens" "[B" (.ref (adS 104)) A U H ∧ va_T .byte (adS 104) 100 (fun j => .int (dgT j)) A U H ∧ (adV 101 = 1 → txtOK (adS 101) (adV 102) (adV 103) (fun j => nI (adV (2000 + j))) A U H)
theorem Evx.moved {adS adV : Nat → Nat} {A : Nat → Prop} {u U : State} {H : Heap} (ha : u.vm.Alike U.vm) (h : Evx adS adV A u H) : Evx adS adV A U H := ⟨va_T.moved ha h.1, va_Z.moved ha h.2.1, va_T.moved ha h.2.2.1, va_Z.moved ha h.2.2.2.1, va_T.moved ha h.2.2.2.2.1, fun h9 => (h.2.2.2.2.2 h9).moved ha⟩
theorem Evx.kept {adS adV : Nat → Nat} {A : Nat → Prop} {U : State} {H H1 : Heap} (h : Evx adS adV A U H) (hq : ∀ a : Nat, a < H.size → ¬ A a → H1[a]? = H[a]?) : Evx adS adV A U H1 := ⟨h.1.kept hq, h.2.1.kept hq, h.2.2.1.kept hq, h.2.2.2.1.kept hq, h.2.2.2.2.1.kept hq, fun h9 => (h.2.2.2.2.2 h9).kept hq⟩
theorem Evx.narrow {adS adV : Nat → Nat} {A B : Nat → Prop} {U : State} {H : Heap} (h : Evx adS adV A U H) (hAB : ∀ q, B q → A q) : Evx adS adV B U H := ⟨h.1.narrow hAB, h.2.1.narrow hAB, h.2.2.1.narrow hAB, h.2.2.2.1.narrow hAB, h.2.2.2.2.1.narrow hAB, fun h9 => (h.2.2.2.2.2 h9).narrow hAB⟩
/-- what no method changes, and the throws, texts and nest calls rest on -/
def Evn (adS adV : Nat → Nat) (A : Nat → Prop) (U : State) (H : Heap) : Prop :=
  vx_Zq Bundle.tN "UNASSIGNED_STACK" Bundle.steD A U H ∧ vx_Zq Bundle.tN "SUPPRESSED_SENTINEL" Bundle.listD A U H ∧ va_Z "java/lang/String" "COMPACT_STRINGS" "Z" (.int 1) A U H ∧ va_Zq "jdk/internal/util/Preconditions" "SIOOBE_FORMATTER" "Ljava/util/function/BiFunction;" A U H ∧ (∀ q ∈ nestT, va_Nw (.methodLinkNest q.1 q.2.1 q.2.2 "GameClock") U) ∧ (∀ q ∈ castT, va_Nw (.castable q.1 q.2) U) ∧ (∀ q ∈ ncT, va_Nc q.1 q.2 U) ∧ (∀ (i : Nat) (q : String × Nat × String), strT[i]? = some q → strOK adS adV A U H i q) ∧ (∀ q ∈ declT, va_Nw (.declares q) U) ∧ va_AO "GameClock$State" U ∧ Evx adS adV A U H
theorem strOK.warm {adS adV : Nat → Nat} {A : Nat → Prop} {u U : State} {H : Heap} {i : Nat} {q : String × Nat × String} (hW : u.WarmedH U.vm) (h : strOK adS adV A u H i q) : strOK adS adV A U H i q :=
  ⟨vk_R.warm hW h.1, va_O.moved hW.alike h.2.1, va_OF.moved hW.alike h.2.2.1, va_OF.moved hW.alike h.2.2.2.1, va_T.moved hW.alike h.2.2.2.2⟩
theorem strOK.kept {adS adV : Nat → Nat} {A : Nat → Prop} {U : State} {H H1 : Heap} {i : Nat} {q : String × Nat × String} (h : strOK adS adV A U H i q) (hq : ∀ a : Nat, a < H.size → ¬ A a → H1[a]? = H[a]?) : strOK adS adV A U H1 i q :=
  ⟨h.1, h.2.1.kept hq, h.2.2.1.kept hq, h.2.2.2.1.kept hq, h.2.2.2.2.kept hq⟩
theorem strOK.narrow {adS adV : Nat → Nat} {A B : Nat → Prop} {U : State} {H : Heap} {i : Nat} {q : String × Nat × String} (h : strOK adS adV A U H i q) (hAB : ∀ q, B q → A q) : strOK adS adV B U H i q :=
  ⟨h.1, h.2.1.narrow hAB, h.2.2.1.narrow hAB, h.2.2.2.1.narrow hAB, h.2.2.2.2.narrow hAB⟩
theorem strOK.same {adS adV : Nat → Nat} {A : Nat → Prop} {u U : State} {H : Heap} {i : Nat} {q : String × Nat × String} (hv : U.vm = u.vm) (h : strOK adS adV A u H i q) : strOK adS adV A U H i q :=
  have ha : u.vm.Alike U.vm := by rw [hv]; exact Vm.Alike.refl u.vm
  ⟨vk_R.same hv h.1, va_O.moved ha h.2.1, va_OF.moved ha h.2.2.1, va_OF.moved ha h.2.2.2.1, va_T.moved ha h.2.2.2.2⟩
theorem Evn.warm {adS adV : Nat → Nat} {A : Nat → Prop} {u U : State} {H : Heap} (hW : u.WarmedH U.vm) (h : Evn adS adV A u H) : Evn adS adV A U H := by
  obtain ⟨h1, h2, h3, h4, h5, h6, h7, h8, h9, h10, h11⟩ := h
  exact ⟨vx_Zq.moved hW.alike h1, vx_Zq.moved hW.alike h2, va_Z.moved hW.alike h3, va_Zq.moved hW.alike h4, fun q hq => va_Nw.warmM hW (h5 q hq), fun q hq => va_Nw.warmC hW (h6 q hq), fun q hq => va_Nc.moved hW.alike (h7 q hq), fun i q hq => (h8 i q hq).warm hW, fun q hq => va_Nw.warmD hW (h9 q hq), va_AO.moved hW.alike h10, h11.moved hW.alike⟩
theorem Evn.same {adS adV : Nat → Nat} {A : Nat → Prop} {u U : State} {H : Heap} (hv : U.vm = u.vm) (h : Evn adS adV A u H) : Evn adS adV A U H := by
  have ha : u.vm.Alike U.vm := by rw [hv]; exact Vm.Alike.refl u.vm
  obtain ⟨h1, h2, h3, h4, h5, h6, h7, h8, h9, h10, h11⟩ := h
  exact ⟨vx_Zq.moved ha h1, vx_Zq.moved ha h2, va_Z.moved ha h3, va_Zq.moved ha h4, fun q hq => va_Nw.same rfl hv.symm (h5 q hq), fun q hq => va_Nw.same rfl hv.symm (h6 q hq), fun q hq => va_Nc.moved ha (h7 q hq), fun i q hq => (h8 i q hq).same hv, fun q hq => va_Nw.same rfl hv.symm (h9 q hq), va_AO.moved ha h10, h11.moved ha⟩
theorem Evn.kept {adS adV : Nat → Nat} {A : Nat → Prop} {U : State} {H H1 : Heap} (h : Evn adS adV A U H) (hq : ∀ a : Nat, a < H.size → ¬ A a → H1[a]? = H[a]?) : Evn adS adV A U H1 := by
  obtain ⟨h1, h2, h3, h4, h5, h6, h7, h8, h9, h10, h11⟩ := h
  exact ⟨h1.kept hq, h2.kept hq, h3.kept hq, h4.kept hq, h5, h6, h7, fun i q hi => (h8 i q hi).kept hq, h9, h10, h11.kept hq⟩
theorem Evn.narrow {adS adV : Nat → Nat} {A B : Nat → Prop} {U : State} {H : Heap} (h : Evn adS adV A U H) (hAB : ∀ q, B q → A q) : Evn adS adV B U H := by
  obtain ⟨h1, h2, h3, h4, h5, h6, h7, h8, h9, h10, h11⟩ := h
  exact ⟨h1.narrow hAB, h2.narrow hAB, h3.narrow hAB, h4.narrow hAB, h5, h6, h7, fun i q hi => (h8 i q hi).narrow hAB, h9, h10, h11.narrow hAB⟩
/-- which cells a method may change: its world's, and those that it makes -/
def aA (L : List Nat) (sz : Nat) : Nat → Prop := fun q => q ∈ L ∨ sz ≤ q
theorem pl_mem {L : List Nat} {f : Nat → va_E} {k : Nat} {q : Nat × va_E} (h : (va_pl L f)[k]? = some q) : q.1 ∈ L := by
  obtain ⟨a, ha, rfl⟩ := List.mem_map.mp (List.mem_of_getElem? h)
  exact ha
/-- the constants of a launch: the classes, the array classes, the texts -/
abbrev GG : Type := va_G × (Nat → ClassId) × (Nat → Nat) × (Nat → Nat)
/-- behind a method that returned: its answer, the world's addresses and contents -/
def Qg (G : GG) (A : Nat → Prop) (post : Option Value → List Nat → (Nat → va_E) → Prop) : Array Value → State → Outcome → State → Prop := fun _ st oc t =>
  (∃ (r : Option Value) (L1 : List Nat) (f1 : Nat → va_E), oc = .returned r ∧ post r L1 f1 ∧ BW G.1 G.2.1 A L1 f1 t) ∧ va_F A st t
/-- behind a method that threw E: the world is as it was -/
def Xg (G : GG) (A : Nat → Prop) (L : List Nat) (f : Nat → va_E) (px : String → Prop) : String → State → State → Prop := fun E st t => (px E ∧ BW G.1 G.2.1 A L f t) ∧ va_F A st t
def Pg (G : GG) (A : Nat → Prop) (sz : Nat) (L : List Nat) (f : Nat → va_E) : State → Prop := fun U => U.heap.size = sz ∧ BW G.1 G.2.1 (fun _ => True) L f U ∧ Evn G.2.2.1 G.2.2.2 A U U.heap
/-- a method's contract over worlds; w0: the word of its code -/
def Ct (l : Launch) (G : GG) (y : MethodName) (w0 : Cond) (fr lo mc ms : Nat) (av : List Value) (L : List Nat) (f : Nat → va_E) (px : String → Prop) (post : Option Value → List Nat → (Nat → va_E) → Prop) : Prop :=
  ∀ sz : Nat, vx_Met l y (w0 :: BIG) ({ frames := fr, cells := mc, slots := ms, locals := lo }) (va_Pc av (Pg G (aA L sz) sz L f)) (Qg G (aA L sz) post) (Xg G (aA L sz) L f px) mc ms (aA L sz)
theorem Pg_blind {G : GG} {A : Nat → Prop} {sz : Nat} {L : List Nat} {f : Nat → va_E} {av : List Value} : FrameBlind (va_Pc av (Pg G A sz L f)) := by
  intro a U g mk h
  obtain ⟨h0, h1, ⟨h2, h3, h4⟩, h5⟩ := h
  refine ⟨h0, h1, ⟨h2, va_K.moved (u := U) (U := U.calling g mk a) (Vm.Alike.refl U.vm) h3, h4⟩, ?_⟩
  exact Evn.same (u := U) (U := U.calling g mk a) rfl h5
/-- what stays the same in a method's body -/
def Cx (G : GG) (p : Program) (l : Launch) (s : State) (m : MethodId) (args : Array Value) (meth : Method) (c : Code) (A : Nat → Prop) (own : String) (cc : ByteArray) (nL : Nat) (ret : Option FieldType) (tb : List ExceptionTableEntry) : Prop :=
  p.tables.exec = Jvm.exec ∧ c.code = cc ∧ c.maxLocals = nL ∧ s.vm.findClass own = some m.cls ∧ (∀ w ∈ BIG, w.before args s = true) ∧ meth.sig.returnType = ret ∧ meth.locks = false ∧ va_K G.1 vwCl (tysOf G.2.1) s ∧ (∀ q, s.heap.size ≤ q → A q) ∧ Evn G.2.2.1 G.2.2.2 A s s.heap ∧ l.stackTraces = false ∧ c.exceptionTable.toList = tb
def J (G : GG) (p : Program) (l : Launch) (e : Env) (R : Room) (s : State) (m : MethodId) (args : Array Value) (below : List Frame) (meth : Method) (c : Code) (A : Nat → Prop) (Q : State → Prop) (nL cells slots pc : Nat) (lv : List (Option Value)) (st : List Value) (L : List Nat) (f : Nat → va_E) : Prop :=
  ∀ (H : Heap) (locs : List Loc) (ls : Array Slot), va_P G.1 vwCl (va_pl L f) H → va_D A (va_pl L f) → va_S A s.heap H locs → lv_has ls nL (lvl lv) → W p l e R s m args below meth c H locs cells slots Q (F0 m pc ls st)
/-- E is thrown at pc -/
def JX (G : GG) (p : Program) (l : Launch) (e : Env) (R : Room) (s : State) (m : MethodId) (args : Array Value) (below : List Frame) (meth : Method) (c : Code) (A : Nat → Prop) (Q : State → Prop) (nL cells slots pc : Nat) (lv : List (Option Value)) (st : List Value) (L : List Nat) (f : Nat → va_E) (E : String) : Prop :=
  ∀ (H : Heap) (locs : List Loc) (ls : Array Slot) (q : Addr) (ce : Cell), va_P G.1 vwCl (va_pl L f) H → va_D A (va_pl L f) → va_S A s.heap H locs → lv_has ls nL (lvl lv) → H[q]? = some ce → ce.vm = .none → s.vm.findClass E = some ce.cls → vx_W p l e R s m args below meth c H locs cells slots Q (F0 m pc ls st) q
theorem lvOK_0 {lv : List (Option Value)} : lvOK lv 0 := fun k v h => by omega
theorem lvOK_s {lv : List (Option Value)} {k : Nat} {o : Option Value} (h : lv[k]? = some o) (ho : okPrev o) : lvOK lv (k + 1) := fun j v hj hv => by
  cases Nat.succ.inj hj
  rw [h] at hv
  exact ho v (Option.some.inj hv)
