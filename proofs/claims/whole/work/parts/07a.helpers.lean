theorem oinj3 {G : GG} {L : List Nat} {b : Mem} {x x1 : Int32} {y y1 z z1 : Mem} {r : Option Value} {L1 : List Nat} {f1 : Nat → va_E} (h : some (x, y, z) = some (x1, y1, z1)) (h0 : L1 = L) (h1 : f1 = FW G L y b z) (h2 : r = some (Value.int x)) : L1 = L ∧ f1 = FW G L y1 b z1 ∧ r = some (Value.int x1) := by
  have h3 := Option.some.inj h
  have h4 := (Prod.mk.inj h3).1
  have h5 := (Prod.mk.inj (Prod.mk.inj h3).2).1
  have h6 := (Prod.mk.inj (Prod.mk.inj h3).2).2
  subst h4
  subst h5
  subst h6
  exact ⟨h0, h1, h2⟩
def f_L_append (N : Nat) (p0 : Int32) (p1 : Int32) (p2 : Int32) (p3 : Int32) (p4 : Int32) (a c : Mem) : Option (Int32 × Mem × Mem) := match f_X8_append N p0 p1 p2 p3 p4 a with | none => none | some (.error k) => (if k = 1 then some (1, a, c) else none) | some (.ok q) => (some (0, q.2, upR c 0 (upd (c 0) 0 q.1)))
set_option maxRecDepth 100000 in
set_option maxHeartbeats 4000000 in
theorem m_L_append {l : Launch} (hl : l.stackTraces = false) {G : GG} {L : List Nat} (hL : LOK L) (hL7 : L.length = 107) {a b c : Mem} {N : Nat} {p0 : Int32} {p1 : Int32} {p2 : Int32} {p3 : Int32} {p4 : Int32} {v : Int32} {a' c' : Mem} (hR : f_L_append N p0 p1 p2 p3 p4 a c = some (v, a', c')) : Ct l G yL_append (.codeWith yL_append cL_append 8 (some .int) [((0 : Nat), (16 : Nat), (19 : Nat), (13 : Nat))]) 7 125 1 6 [.ref (ad L 0), .int p0, .int p1, .int p2, .int p3, .int p4, .ref (ad L 105)] L (FW G L a b c) px0 (stay L (fun r f1 => f1 = FW G L a' b c' ∧ r = some (.int v))) := by
  refine Ct.ofH (own := RL) [⟨0, 16, 19, 13⟩] rfl hl rfl (by decide) [some (.ref (ad L 0)), some (.int p0), some (.int p1), some (.int p2), some (.int p3), some (.int p4), some (.ref (ad L 105)), none] rfl (Nat.le_of_ble_eq_true rfl) ?_
  intro p e s m below meth c9 A ar Q hQ X
  unfold f_L_append at hR
  cases h : f_X8_append N p0 p1 p2 p3 p4 a with
  | none =>
    rw [h] at hR
    cases hR
  | some R =>
    rw [h] at hR
    refine j_aload X dL_append_0 rfl ?_
    refine j_iconst X (0) dL_append_2 (by decide) ?_
    refine j_aload_n X (i := 0) dL_append_3 rfl rfl ?_
    refine j_iload_n X (i := 1) dL_append_4 rfl rfl ?_
    refine j_iload_n X (i := 2) dL_append_5 rfl rfl ?_
    refine j_iload_n X (i := 3) dL_append_6 rfl rfl ?_
    refine j_iload X dL_append_7 rfl ?_
    refine j_iload X dL_append_9 rfl ?_
    refine j_callV5 X 8 (m_X8_append hl hL  h) ml_L_7 im_yX8_append se_yX8_append in_X8 cd_yX8_append hy_yX8_append dL_append_11 rfl (inL hL t_0 (by decide)) (FW8 hL t_0) ⟨(by decide), (by decide)⟩ ⟨(by decide), (by decide)⟩ (Nat.le_of_ble_eq_true rfl) (fun E hE => ?_) (fun r9 L9 f9 h9 => ?_)
    · obtain ⟨k, hk, hE⟩ := hE
      subst hk
      dsimp only at hR
      by_cases h1 : k = 1
      · subst h1
        rw [if_pos rfl] at hR
        subst hE
        refine jx_catch X [] ⟨0, 16, 19, 13⟩ [] rfl (fun _ h => absurd h List.not_mem_nil) rfl (by decide) cl_L_13 (List.mem_of_getElem? (i := 0) rfl) (fun q => ?_)
        refine j_astore X dL_append_19 (by decide) (lvOK_s rfl okPrev_ref) ?_
        dsimp only [List.set]
        refine j_iconst X (1) dL_append_21 (by decide) ?_
        exact q_iret X hQ dL_append_22 rfl ⟨(by decide), (by decide)⟩ (oinj3 hR rfl rfl rfl)
      · rw [if_neg h1] at hR
        cases hR
    · obtain ⟨h91, v9, a9, hk, h92, h93⟩ := h9
      subst hk
      subst r9
      subst f9
      subst L9
      dsimp only [Option.toList, List.cons_append, List.nil_append, List.append]
      dsimp only at hR
      refine j_i2l X dL_append_14 ?_
      refine t_last105 X hL hL7 (x := v9) rfl rfl dL_append_15 ?_
      refine j_goto X (tgt := 23) dL_append_16 (by decide) ?_
      refine j_iconst X (0) dL_append_23 (by decide) ?_
      exact q_iret X hQ dL_append_24 rfl ⟨(by decide), (by decide)⟩ (oinj3 hR rfl rfl rfl)
def f_L_truncate (p0 : Int32) (a c : Mem) : Option (Int32 × Mem × Mem) := match f_X8_truncate p0 a with | none => none | some (.error k) => (if k = 2 then some (1, a, c) else none) | some (.ok q) => (some (0, q, c))
set_option maxRecDepth 100000 in
set_option maxHeartbeats 4000000 in
theorem m_L_truncate {l : Launch} (hl : l.stackTraces = false) {G : GG} {L : List Nat} (hL : LOK L) (hL7 : L.length = 107) {a b c : Mem} {p0 : Int32} {v : Int32} {a' c' : Mem} (hR : f_L_truncate p0 a c = some (v, a', c')) : Ct l G yL_truncate (.codeWith yL_truncate cL_truncate 3 (some .int) [((0 : Nat), (5 : Nat), (8 : Nat), (19 : Nat))]) 7 121 1 6 [.ref (ad L 0), .int p0] L (FW G L a b c) px0 (stay L (fun r f1 => f1 = FW G L a' b c' ∧ r = some (.int v))) := by
  refine Ct.ofH (own := RL) [⟨0, 5, 8, 19⟩] rfl hl rfl (by decide) [some (.ref (ad L 0)), some (.int p0), none] rfl (Nat.le_of_ble_eq_true rfl) ?_
  intro p e s m below meth c9 A ar Q hQ X
  unfold f_L_truncate at hR
  cases h : f_X8_truncate p0 a with
  | none =>
    rw [h] at hR
    cases hR
  | some R =>
    rw [h] at hR
    refine j_aload_n X (i := 0) dL_truncate_0 rfl rfl ?_
    refine j_iload_n X (i := 1) dL_truncate_1 rfl rfl ?_
    refine j_callV1 X 8 (m_X8_truncate hl hL  h) ml_L_15 im_yX8_truncate se_yX8_truncate in_X8 cd_yX8_truncate hy_yX8_truncate dL_truncate_2 rfl (inL hL t_0 (by decide)) (FW8 hL t_0) ⟨(by decide), (by decide)⟩ ⟨(by decide), (by decide)⟩ (Nat.le_of_ble_eq_true rfl) (fun E hE => ?_) (fun r9 L9 f9 h9 => ?_)
    · obtain ⟨k, hk, hE⟩ := hE
      subst hk
      dsimp only at hR
      by_cases h1 : k = 2
      · subst h1
        rw [if_pos rfl] at hR
        subst hE
        refine jx_catch X [] ⟨0, 5, 8, 19⟩ [] rfl (fun _ h => absurd h List.not_mem_nil) rfl (by decide) cl_L_19 (List.mem_of_getElem? (i := 1) rfl) (fun q => ?_)
        refine j_astore_n X (i := 2) dL_truncate_8 rfl (by decide) (lvOK_s rfl okPrev_int) ?_
        dsimp only [List.set]
        refine j_iconst X (1) dL_truncate_9 (by decide) ?_
        exact q_iret X hQ dL_truncate_10 rfl ⟨(by decide), (by decide)⟩ (oinj3 hR rfl rfl rfl)
      · rw [if_neg h1] at hR
        cases hR
    · obtain ⟨h91, a9, hk, h92, h93⟩ := h9
      subst hk
      subst r9
      subst f9
      subst L9
      dsimp only [Option.toList, List.cons_append, List.nil_append, List.append]
      dsimp only at hR
      refine j_goto X (tgt := 11) dL_truncate_5 (by decide) ?_
      refine j_iconst X (0) dL_truncate_11 (by decide) ?_
      exact q_iret X hQ dL_truncate_12 rfl ⟨(by decide), (by decide)⟩ (oinj3 hR rfl rfl rfl)
def f_L_property (p0 : Int32) (a c : Mem) : Option (Int32 × Mem × Mem) := match f_X8_property p0 a with | none => none | some (.error k) => (if k = 2 then some (1, a, c) else none) | some (.ok q) => (some (0, a, upR c 0 (upd (c 0) 0 q)))
set_option maxRecDepth 100000 in
set_option maxHeartbeats 4000000 in
theorem m_L_property {l : Launch} (hl : l.stackTraces = false) {G : GG} {L : List Nat} (hL : LOK L) (hL7 : L.length = 107) {a b c : Mem} {p0 : Int32} {v : Int32} {a' c' : Mem} (hR : f_L_property p0 a c = some (v, a', c')) : Ct l G yL_property (.codeWith yL_property cL_property 4 (some .int) [((0 : Nat), (9 : Nat), (12 : Nat), (19 : Nat))]) 7 121 1 6 [.ref (ad L 0), .int p0, .ref (ad L 105)] L (FW G L a b c) px0 (stay L (fun r f1 => f1 = FW G L a' b c' ∧ r = some (.int v))) := by
  refine Ct.ofH (own := RL) [⟨0, 9, 12, 19⟩] rfl hl rfl (by decide) [some (.ref (ad L 0)), some (.int p0), some (.ref (ad L 105)), none] rfl (Nat.le_of_ble_eq_true rfl) ?_
  intro p e s m below meth c9 A ar Q hQ X
  unfold f_L_property at hR
  cases h : f_X8_property p0 a with
  | none =>
    rw [h] at hR
    cases hR
  | some R =>
    rw [h] at hR
    refine j_aload_n X (i := 2) dL_property_0 rfl rfl ?_
    refine j_iconst X (0) dL_property_1 (by decide) ?_
    refine j_aload_n X (i := 0) dL_property_2 rfl rfl ?_
    refine j_iload_n X (i := 1) dL_property_3 rfl rfl ?_
    refine j_callV1 X 8 (m_X8_property hl hL  h) ml_L_21 im_yX8_property se_yX8_property in_X8 cd_yX8_property hy_yX8_property dL_property_4 rfl (inL hL t_0 (by decide)) (FW8 hL t_0) ⟨(by decide), (by decide)⟩ ⟨(by decide), (by decide)⟩ (Nat.le_of_ble_eq_true rfl) (fun E hE => ?_) (fun r9 L9 f9 h9 => ?_)
    · obtain ⟨k, hk, hE⟩ := hE
      subst hk
      dsimp only at hR
      by_cases h1 : k = 2
      · subst h1
        rw [if_pos rfl] at hR
        subst hE
        refine jx_catch X [] ⟨0, 9, 12, 19⟩ [] rfl (fun _ h => absurd h List.not_mem_nil) rfl (by decide) cl_L_19 (List.mem_of_getElem? (i := 1) rfl) (fun q => ?_)
        refine j_astore_n X (i := 3) dL_property_12 rfl (by decide) (lvOK_s rfl okPrev_ref) ?_
        dsimp only [List.set]
        refine j_iconst X (1) dL_property_13 (by decide) ?_
        exact q_iret X hQ dL_property_14 rfl ⟨(by decide), (by decide)⟩ (oinj3 hR rfl rfl rfl)
      · rw [if_neg h1] at hR
        cases hR
    · obtain ⟨h91, v9, hk, h92, h93⟩ := h9
      subst hk
      subst r9
      subst f9
      subst L9
      dsimp only [Option.toList, List.cons_append, List.nil_append, List.append]
      dsimp only at hR
      refine j_i2l X dL_property_7 ?_
      refine t_last105 X hL hL7 (x := v9) rfl rfl dL_property_8 ?_
      refine j_goto X (tgt := 15) dL_property_9 (by decide) ?_
      refine j_iconst X (0) dL_property_15 (by decide) ?_
      exact q_iret X hQ dL_property_16 rfl ⟨(by decide), (by decide)⟩ (oinj3 hR rfl rfl rfl)
def f_L_period (p0 : Int32) (p1 : Int32) (a c : Mem) : Option (Int32 × Mem × Mem) := match f_X8_period p0 p1 a with | none => none | some (.error k) => (if k = 3 then some (1, a, c) else if k = 2 then some (2, a, c) else none) | some (.ok q) => (some (0, a, upR c 0 (upd (c 0) 0 q)))
set_option maxRecDepth 100000 in
set_option maxHeartbeats 4000000 in
theorem m_L_period {l : Launch} (hl : l.stackTraces = false) {G : GG} {L : List Nat} (hL : LOK L) (hL7 : L.length = 107) {a b c : Mem} {p0 : Int32} {p1 : Int32} {v : Int32} {a' c' : Mem} (hR : f_L_period p0 p1 a c = some (v, a', c')) : Ct l G yL_period (.codeWith yL_period cL_period 5 (some .int) [((0 : Nat), (10 : Nat), (13 : Nat), (29 : Nat)), ((0 : Nat), (10 : Nat), (17 : Nat), (19 : Nat))]) 8 143 2 12 [.ref (ad L 0), .int p0, .int p1, .ref (ad L 105)] L (FW G L a b c) px0 (stay L (fun r f1 => f1 = FW G L a' b c' ∧ r = some (.int v))) := by
  refine Ct.ofH (own := RL) [⟨0, 10, 13, 29⟩, ⟨0, 10, 17, 19⟩] rfl hl rfl (by decide) [some (.ref (ad L 0)), some (.int p0), some (.int p1), some (.ref (ad L 105)), none] rfl (Nat.le_of_ble_eq_true rfl) ?_
  intro p e s m below meth c9 A ar Q hQ X
  unfold f_L_period at hR
  cases h : f_X8_period p0 p1 a with
  | none =>
    rw [h] at hR
    cases hR
  | some R =>
    rw [h] at hR
    refine j_aload_n X (i := 3) dL_period_0 rfl rfl ?_
    refine j_iconst X (0) dL_period_1 (by decide) ?_
    refine j_aload_n X (i := 0) dL_period_2 rfl rfl ?_
    refine j_iload_n X (i := 1) dL_period_3 rfl rfl ?_
    refine j_iload_n X (i := 2) dL_period_4 rfl rfl ?_
    refine j_callV2 X 8 (m_X8_period hl hL  h) ml_L_25 im_yX8_period se_yX8_period in_X8 cd_yX8_period hy_yX8_period dL_period_5 rfl (inL hL t_0 (by decide)) (FW8 hL t_0) ⟨(by decide), (by decide)⟩ ⟨(by decide), (by decide)⟩ (Nat.le_of_ble_eq_true rfl) (fun E hE => ?_) (fun r9 L9 f9 h9 => ?_)
    · obtain ⟨k, hk, hE⟩ := hE
      subst hk
      dsimp only at hR
      by_cases h1 : k = 3
      · subst h1
        rw [if_pos rfl] at hR
        subst hE
        refine jx_catch X [] ⟨0, 10, 13, 29⟩ [⟨0, 10, 17, 19⟩] rfl (fun _ h => absurd h List.not_mem_nil) rfl (by decide) cl_L_29 (List.mem_of_getElem? (i := 2) rfl) (fun q => ?_)
        refine j_astore X dL_period_13 (by decide) (lvOK_s rfl okPrev_ref) ?_
        dsimp only [List.set]
        refine j_iconst X (1) dL_period_15 (by decide) ?_
        exact q_iret X hQ dL_period_16 rfl ⟨(by decide), (by decide)⟩ (oinj3 hR rfl rfl rfl)
      · rw [if_neg h1] at hR
        by_cases h1 : k = 2
        · subst h1
          rw [if_pos rfl] at hR
          subst hE
          refine jx_catch X [⟨0, 10, 13, 29⟩] ⟨0, 10, 17, 19⟩ [] rfl (List.forall_mem_cons.mpr ⟨Or.inr ⟨(by decide), _, cl_L_29, List.mem_of_getElem? (i := 0) rfl⟩, (fun _ h => absurd h List.not_mem_nil)⟩) rfl (by decide) cl_L_19 (List.mem_of_getElem? (i := 1) rfl) (fun q => ?_)
          refine j_astore X dL_period_17 (by decide) (lvOK_s rfl okPrev_ref) ?_
          dsimp only [List.set]
          refine j_iconst X (2) dL_period_19 (by decide) ?_
          exact q_iret X hQ dL_period_20 rfl ⟨(by decide), (by decide)⟩ (oinj3 hR rfl rfl rfl)
        · rw [if_neg h1] at hR
          cases hR
    · obtain ⟨h91, v9, hk, h92, h93⟩ := h9
      subst hk
      subst r9
      subst f9
      subst L9
      dsimp only [Option.toList, List.cons_append, List.nil_append, List.append]
      dsimp only at hR
      refine j_i2l X dL_period_8 ?_
      refine t_last105 X hL hL7 (x := v9) rfl rfl dL_period_9 ?_
      refine j_goto X (tgt := 21) dL_period_10 (by decide) ?_
      refine j_iconst X (0) dL_period_21 (by decide) ?_
      exact q_iret X hQ dL_period_22 rfl ⟨(by decide), (by decide)⟩ (oinj3 hR rfl rfl rfl)
def f_L_side (p0 : Int32) (p1 : Int32) (a c : Mem) : Option (Int32 × Mem × Mem) := match f_X8_side p0 p1 a with | none => none | some (.error k) => (if k = 3 then some (1, a, c) else if k = 2 then some (2, a, c) else none) | some (.ok q) => (some (0, a, upR c 0 (upd (c 0) 0 q)))
set_option maxRecDepth 100000 in
set_option maxHeartbeats 4000000 in
theorem m_L_side {l : Launch} (hl : l.stackTraces = false) {G : GG} {L : List Nat} (hL : LOK L) (hL7 : L.length = 107) {a b c : Mem} {p0 : Int32} {p1 : Int32} {v : Int32} {a' c' : Mem} (hR : f_L_side p0 p1 a c = some (v, a', c')) : Ct l G yL_side (.codeWith yL_side cL_side 5 (some .int) [((0 : Nat), (10 : Nat), (13 : Nat), (29 : Nat)), ((0 : Nat), (10 : Nat), (17 : Nat), (19 : Nat))]) 8 144 2 12 [.ref (ad L 0), .int p0, .int p1, .ref (ad L 105)] L (FW G L a b c) px0 (stay L (fun r f1 => f1 = FW G L a' b c' ∧ r = some (.int v))) := by
  refine Ct.ofH (own := RL) [⟨0, 10, 13, 29⟩, ⟨0, 10, 17, 19⟩] rfl hl rfl (by decide) [some (.ref (ad L 0)), some (.int p0), some (.int p1), some (.ref (ad L 105)), none] rfl (Nat.le_of_ble_eq_true rfl) ?_
  intro p e s m below meth c9 A ar Q hQ X
  unfold f_L_side at hR
  cases h : f_X8_side p0 p1 a with
  | none =>
    rw [h] at hR
    cases hR
  | some R =>
    rw [h] at hR
    refine j_aload_n X (i := 3) dL_side_0 rfl rfl ?_
    refine j_iconst X (0) dL_side_1 (by decide) ?_
    refine j_aload_n X (i := 0) dL_side_2 rfl rfl ?_
    refine j_iload_n X (i := 1) dL_side_3 rfl rfl ?_
    refine j_iload_n X (i := 2) dL_side_4 rfl rfl ?_
    refine j_callV2 X 8 (m_X8_side hl hL  h) ml_L_31 im_yX8_side se_yX8_side in_X8 cd_yX8_side hy_yX8_side dL_side_5 rfl (inL hL t_0 (by decide)) (FW8 hL t_0) ⟨(by decide), (by decide)⟩ ⟨(by decide), (by decide)⟩ (Nat.le_of_ble_eq_true rfl) (fun E hE => ?_) (fun r9 L9 f9 h9 => ?_)
    · obtain ⟨k, hk, hE⟩ := hE
      subst hk
      dsimp only at hR
      by_cases h1 : k = 3
      · subst h1
        rw [if_pos rfl] at hR
        subst hE
        refine jx_catch X [] ⟨0, 10, 13, 29⟩ [⟨0, 10, 17, 19⟩] rfl (fun _ h => absurd h List.not_mem_nil) rfl (by decide) cl_L_29 (List.mem_of_getElem? (i := 2) rfl) (fun q => ?_)
        refine j_astore X dL_side_13 (by decide) (lvOK_s rfl okPrev_ref) ?_
        dsimp only [List.set]
        refine j_iconst X (1) dL_side_15 (by decide) ?_
        exact q_iret X hQ dL_side_16 rfl ⟨(by decide), (by decide)⟩ (oinj3 hR rfl rfl rfl)
      · rw [if_neg h1] at hR
        by_cases h1 : k = 2
        · subst h1
          rw [if_pos rfl] at hR
          subst hE
          refine jx_catch X [⟨0, 10, 13, 29⟩] ⟨0, 10, 17, 19⟩ [] rfl (List.forall_mem_cons.mpr ⟨Or.inr ⟨(by decide), _, cl_L_29, List.mem_of_getElem? (i := 0) rfl⟩, (fun _ h => absurd h List.not_mem_nil)⟩) rfl (by decide) cl_L_19 (List.mem_of_getElem? (i := 1) rfl) (fun q => ?_)
          refine j_astore X dL_side_17 (by decide) (lvOK_s rfl okPrev_ref) ?_
          dsimp only [List.set]
          refine j_iconst X (2) dL_side_19 (by decide) ?_
          exact q_iret X hQ dL_side_20 rfl ⟨(by decide), (by decide)⟩ (oinj3 hR rfl rfl rfl)
        · rw [if_neg h1] at hR
          cases hR
    · obtain ⟨h91, v9, hk, h92, h93⟩ := h9
      subst hk
      subst r9
      subst f9
      subst L9
      dsimp only [Option.toList, List.cons_append, List.nil_append, List.append]
      dsimp only at hR
      refine j_i2l X dL_side_8 ?_
      refine t_last105 X hL hL7 (x := v9) rfl rfl dL_side_9 ?_
      refine j_goto X (tgt := 21) dL_side_10 (by decide) ?_
      refine j_iconst X (0) dL_side_21 (by decide) ?_
      exact q_iret X hQ dL_side_22 rfl ⟨(by decide), (by decide)⟩ (oinj3 hR rfl rfl rfl)
def f_L_logged (p0 : Int32) (p1 : Int32) (a c : Mem) : Option (Int32 × Mem × Mem) := match f_X8_logged p0 p1 a with | none => none | some (.error k) => (if k = 3 then some (1, a, c) else if k = 2 then some (2, a, c) else none) | some (.ok q) => (some (0, a, upR c 0 (upd (c 0) 0 q)))
set_option maxRecDepth 100000 in
set_option maxHeartbeats 4000000 in
theorem m_L_logged {l : Launch} (hl : l.stackTraces = false) {G : GG} {L : List Nat} (hL : LOK L) (hL7 : L.length = 107) {a b c : Mem} {p0 : Int32} {p1 : Int32} {v : Int32} {a' c' : Mem} (hR : f_L_logged p0 p1 a c = some (v, a', c')) : Ct l G yL_logged (.codeWith yL_logged cL_logged 5 (some .int) [((0 : Nat), (10 : Nat), (13 : Nat), (29 : Nat)), ((0 : Nat), (10 : Nat), (17 : Nat), (19 : Nat))]) 7 122 1 6 [.ref (ad L 0), .int p0, .int p1, .ref (ad L 105)] L (FW G L a b c) px0 (stay L (fun r f1 => f1 = FW G L a' b c' ∧ r = some (.int v))) := by
  refine Ct.ofH (own := RL) [⟨0, 10, 13, 29⟩, ⟨0, 10, 17, 19⟩] rfl hl rfl (by decide) [some (.ref (ad L 0)), some (.int p0), some (.int p1), some (.ref (ad L 105)), none] rfl (Nat.le_of_ble_eq_true rfl) ?_
  intro p e s m below meth c9 A ar Q hQ X
  unfold f_L_logged at hR
  cases h : f_X8_logged p0 p1 a with
  | none =>
    rw [h] at hR
    cases hR
  | some R =>
    rw [h] at hR
    refine j_aload_n X (i := 3) dL_logged_0 rfl rfl ?_
    refine j_iconst X (0) dL_logged_1 (by decide) ?_
    refine j_aload_n X (i := 0) dL_logged_2 rfl rfl ?_
    refine j_iload_n X (i := 1) dL_logged_3 rfl rfl ?_
    refine j_iload_n X (i := 2) dL_logged_4 rfl rfl ?_
    refine j_callV2 X 8 (m_X8_logged hl hL  h) ml_L_34 im_yX8_logged se_yX8_logged in_X8 cd_yX8_logged hy_yX8_logged dL_logged_5 rfl (inL hL t_0 (by decide)) (FW8 hL t_0) ⟨(by decide), (by decide)⟩ ⟨(by decide), (by decide)⟩ (Nat.le_of_ble_eq_true rfl) (fun E hE => ?_) (fun r9 L9 f9 h9 => ?_)
    · obtain ⟨k, hk, hE⟩ := hE
      subst hk
      dsimp only at hR
      by_cases h1 : k = 3
      · subst h1
        rw [if_pos rfl] at hR
        subst hE
        refine jx_catch X [] ⟨0, 10, 13, 29⟩ [⟨0, 10, 17, 19⟩] rfl (fun _ h => absurd h List.not_mem_nil) rfl (by decide) cl_L_29 (List.mem_of_getElem? (i := 2) rfl) (fun q => ?_)
        refine j_astore X dL_logged_13 (by decide) (lvOK_s rfl okPrev_ref) ?_
        dsimp only [List.set]
        refine j_iconst X (1) dL_logged_15 (by decide) ?_
        exact q_iret X hQ dL_logged_16 rfl ⟨(by decide), (by decide)⟩ (oinj3 hR rfl rfl rfl)
      · rw [if_neg h1] at hR
        by_cases h1 : k = 2
        · subst h1
          rw [if_pos rfl] at hR
          subst hE
          refine jx_catch X [⟨0, 10, 13, 29⟩] ⟨0, 10, 17, 19⟩ [] rfl (List.forall_mem_cons.mpr ⟨Or.inr ⟨(by decide), _, cl_L_29, List.mem_of_getElem? (i := 0) rfl⟩, (fun _ h => absurd h List.not_mem_nil)⟩) rfl (by decide) cl_L_19 (List.mem_of_getElem? (i := 1) rfl) (fun q => ?_)
          refine j_astore X dL_logged_17 (by decide) (lvOK_s rfl okPrev_ref) ?_
          dsimp only [List.set]
          refine j_iconst X (2) dL_logged_19 (by decide) ?_
          exact q_iret X hQ dL_logged_20 rfl ⟨(by decide), (by decide)⟩ (oinj3 hR rfl rfl rfl)
        · rw [if_neg h1] at hR
          cases hR
    · obtain ⟨h91, v9, hk, h92, h93⟩ := h9
      subst hk
      subst r9
      subst f9
      subst L9
      dsimp only [Option.toList, List.cons_append, List.nil_append, List.append]
      dsimp only at hR
      refine j_i2l X dL_logged_8 ?_
      refine t_last105 X hL hL7 (x := v9) rfl rfl dL_logged_9 ?_
      refine j_goto X (tgt := 21) dL_logged_10 (by decide) ?_
      refine j_iconst X (0) dL_logged_21 (by decide) ?_
      exact q_iret X hQ dL_logged_22 rfl ⟨(by decide), (by decide)⟩ (oinj3 hR rfl rfl rfl)
def f_L_flagIn (p0 : Int32) (a c : Mem) : Option (Int32 × Mem × Mem) := match f_X8_flagIn p0 a with | none => none | some (.error k) => (if k = 3 then some (1, a, c) else none) | some (.ok q) => (some (0, a, upR c 0 (upd (c 0) 0 q)))
set_option maxRecDepth 100000 in
set_option maxHeartbeats 4000000 in
theorem m_L_flagIn {l : Launch} (hl : l.stackTraces = false) {G : GG} {L : List Nat} (hL : LOK L) (hL7 : L.length = 107) {a b c : Mem} {p0 : Int32} {v : Int32} {a' c' : Mem} (hR : f_L_flagIn p0 a c = some (v, a', c')) : Ct l G yL_flagIn (.codeWith yL_flagIn cL_flagIn 4 (some .int) [((0 : Nat), (9 : Nat), (12 : Nat), (29 : Nat))]) 8 142 1 6 [.ref (ad L 0), .int p0, .ref (ad L 105)] L (FW G L a b c) px0 (stay L (fun r f1 => f1 = FW G L a' b c' ∧ r = some (.int v))) := by
  refine Ct.ofH (own := RL) [⟨0, 9, 12, 29⟩] rfl hl rfl (by decide) [some (.ref (ad L 0)), some (.int p0), some (.ref (ad L 105)), none] rfl (Nat.le_of_ble_eq_true rfl) ?_
  intro p e s m below meth c9 A ar Q hQ X
  unfold f_L_flagIn at hR
  cases h : f_X8_flagIn p0 a with
  | none =>
    rw [h] at hR
    cases hR
  | some R =>
    rw [h] at hR
    refine j_aload_n X (i := 2) dL_flagIn_0 rfl rfl ?_
    refine j_iconst X (0) dL_flagIn_1 (by decide) ?_
    refine j_aload_n X (i := 0) dL_flagIn_2 rfl rfl ?_
    refine j_iload_n X (i := 1) dL_flagIn_3 rfl rfl ?_
    refine j_callV1 X 8 (m_X8_flagIn hl hL  h) ml_L_37 im_yX8_flagIn se_yX8_flagIn in_X8 cd_yX8_flagIn hy_yX8_flagIn dL_flagIn_4 rfl (inL hL t_0 (by decide)) (FW8 hL t_0) ⟨(by decide), (by decide)⟩ ⟨(by decide), (by decide)⟩ (Nat.le_of_ble_eq_true rfl) (fun E hE => ?_) (fun r9 L9 f9 h9 => ?_)
    · obtain ⟨k, hk, hE⟩ := hE
      subst hk
      dsimp only at hR
      by_cases h1 : k = 3
      · subst h1
        rw [if_pos rfl] at hR
        subst hE
        refine jx_catch X [] ⟨0, 9, 12, 29⟩ [] rfl (fun _ h => absurd h List.not_mem_nil) rfl (by decide) cl_L_29 (List.mem_of_getElem? (i := 2) rfl) (fun q => ?_)
        refine j_astore_n X (i := 3) dL_flagIn_12 rfl (by decide) (lvOK_s rfl okPrev_ref) ?_
        dsimp only [List.set]
        refine j_iconst X (1) dL_flagIn_13 (by decide) ?_
        exact q_iret X hQ dL_flagIn_14 rfl ⟨(by decide), (by decide)⟩ (oinj3 hR rfl rfl rfl)
      · rw [if_neg h1] at hR
        cases hR
    · obtain ⟨h91, v9, hk, h92, h93⟩ := h9
      subst hk
      subst r9
      subst f9
      subst L9
      dsimp only [Option.toList, List.cons_append, List.nil_append, List.append]
      dsimp only at hR
      refine j_i2l X dL_flagIn_7 ?_
      refine t_last105 X hL hL7 (x := v9) rfl rfl dL_flagIn_8 ?_
      refine j_goto X (tgt := 15) dL_flagIn_9 (by decide) ?_
      refine j_iconst X (0) dL_flagIn_15 (by decide) ?_
      exact q_iret X hQ dL_flagIn_16 rfl ⟨(by decide), (by decide)⟩ (oinj3 hR rfl rfl rfl)
def f_L_delayLeft (p0 : Int32) (a c : Mem) : Option (Int32 × Mem × Mem) := match f_X8_delayLeft p0 a with | none => none | some (.error k) => (if k = 3 then some (1, a, c) else none) | some (.ok q) => (some (0, a, upR c 0 (upd (c 0) 0 q)))
set_option maxRecDepth 100000 in
set_option maxHeartbeats 4000000 in
theorem m_L_delayLeft {l : Launch} (hl : l.stackTraces = false) {G : GG} {L : List Nat} (hL : LOK L) (hL7 : L.length = 107) {a b c : Mem} {p0 : Int32} {v : Int32} {a' c' : Mem} (hR : f_L_delayLeft p0 a c = some (v, a', c')) : Ct l G yL_delayLeft (.codeWith yL_delayLeft cL_delayLeft 4 (some .int) [((0 : Nat), (9 : Nat), (12 : Nat), (29 : Nat))]) 8 142 1 6 [.ref (ad L 0), .int p0, .ref (ad L 105)] L (FW G L a b c) px0 (stay L (fun r f1 => f1 = FW G L a' b c' ∧ r = some (.int v))) := by
  refine Ct.ofH (own := RL) [⟨0, 9, 12, 29⟩] rfl hl rfl (by decide) [some (.ref (ad L 0)), some (.int p0), some (.ref (ad L 105)), none] rfl (Nat.le_of_ble_eq_true rfl) ?_
  intro p e s m below meth c9 A ar Q hQ X
  unfold f_L_delayLeft at hR
  cases h : f_X8_delayLeft p0 a with
  | none =>
    rw [h] at hR
    cases hR
  | some R =>
    rw [h] at hR
    refine j_aload_n X (i := 2) dL_delayLeft_0 rfl rfl ?_
    refine j_iconst X (0) dL_delayLeft_1 (by decide) ?_
    refine j_aload_n X (i := 0) dL_delayLeft_2 rfl rfl ?_
    refine j_iload_n X (i := 1) dL_delayLeft_3 rfl rfl ?_
    refine j_callV1 X 8 (m_X8_delayLeft hl hL  h) ml_L_40 im_yX8_delayLeft se_yX8_delayLeft in_X8 cd_yX8_delayLeft hy_yX8_delayLeft dL_delayLeft_4 rfl (inL hL t_0 (by decide)) (FW8 hL t_0) ⟨(by decide), (by decide)⟩ ⟨(by decide), (by decide)⟩ (Nat.le_of_ble_eq_true rfl) (fun E hE => ?_) (fun r9 L9 f9 h9 => ?_)
    · obtain ⟨k, hk, hE⟩ := hE
      subst hk
      dsimp only at hR
      by_cases h1 : k = 3
      · subst h1
        rw [if_pos rfl] at hR
        subst hE
        refine jx_catch X [] ⟨0, 9, 12, 29⟩ [] rfl (fun _ h => absurd h List.not_mem_nil) rfl (by decide) cl_L_29 (List.mem_of_getElem? (i := 2) rfl) (fun q => ?_)
        refine j_astore_n X (i := 3) dL_delayLeft_12 rfl (by decide) (lvOK_s rfl okPrev_ref) ?_
        dsimp only [List.set]
        refine j_iconst X (1) dL_delayLeft_13 (by decide) ?_
        exact q_iret X hQ dL_delayLeft_14 rfl ⟨(by decide), (by decide)⟩ (oinj3 hR rfl rfl rfl)
      · rw [if_neg h1] at hR
        cases hR
    · obtain ⟨h91, v9, hk, h92, h93⟩ := h9
      subst hk
      subst r9
      subst f9
      subst L9
      dsimp only [Option.toList, List.cons_append, List.nil_append, List.append]
      dsimp only at hR
      refine j_i2l X dL_delayLeft_7 ?_
      refine t_last105 X hL hL7 (x := v9) rfl rfl dL_delayLeft_8 ?_
      refine j_goto X (tgt := 15) dL_delayLeft_9 (by decide) ?_
      refine j_iconst X (0) dL_delayLeft_15 (by decide) ?_
      exact q_iret X hQ dL_delayLeft_16 rfl ⟨(by decide), (by decide)⟩ (oinj3 hR rfl rfl rfl)
def f_L_shown (p0 : Int32) (a c : Mem) : Option (Int32 × Mem × Mem) := match f_X8_shown p0 a with | none => none | some (.error k) => (if k = 3 then some (1, a, c) else none) | some (.ok q) => (some (0, a, upR c 0 (upd (c 0) 0 q)))
set_option maxRecDepth 100000 in
set_option maxHeartbeats 4000000 in
theorem m_L_shown {l : Launch} (hl : l.stackTraces = false) {G : GG} {L : List Nat} (hL : LOK L) (hL7 : L.length = 107) {a b c : Mem} {p0 : Int32} {v : Int32} {a' c' : Mem} (hR : f_L_shown p0 a c = some (v, a', c')) : Ct l G yL_shown (.codeWith yL_shown cL_shown 4 (some .int) [((0 : Nat), (9 : Nat), (12 : Nat), (29 : Nat))]) 8 143 1 6 [.ref (ad L 0), .int p0, .ref (ad L 105)] L (FW G L a b c) px0 (stay L (fun r f1 => f1 = FW G L a' b c' ∧ r = some (.int v))) := by
  refine Ct.ofH (own := RL) [⟨0, 9, 12, 29⟩] rfl hl rfl (by decide) [some (.ref (ad L 0)), some (.int p0), some (.ref (ad L 105)), none] rfl (Nat.le_of_ble_eq_true rfl) ?_
  intro p e s m below meth c9 A ar Q hQ X
  unfold f_L_shown at hR
  cases h : f_X8_shown p0 a with
  | none =>
    rw [h] at hR
    cases hR
  | some R =>
    rw [h] at hR
    refine j_aload_n X (i := 2) dL_shown_0 rfl rfl ?_
    refine j_iconst X (0) dL_shown_1 (by decide) ?_
    refine j_aload_n X (i := 0) dL_shown_2 rfl rfl ?_
    refine j_iload_n X (i := 1) dL_shown_3 rfl rfl ?_
    refine j_callV1 X 8 (m_X8_shown hl hL  h) ml_L_43 im_yX8_shown se_yX8_shown in_X8 cd_yX8_shown hy_yX8_shown dL_shown_4 rfl (inL hL t_0 (by decide)) (FW8 hL t_0) ⟨(by decide), (by decide)⟩ ⟨(by decide), (by decide)⟩ (Nat.le_of_ble_eq_true rfl) (fun E hE => ?_) (fun r9 L9 f9 h9 => ?_)
    · obtain ⟨k, hk, hE⟩ := hE
      subst hk
      dsimp only at hR
      by_cases h1 : k = 3
      · subst h1
        rw [if_pos rfl] at hR
        subst hE
        refine jx_catch X [] ⟨0, 9, 12, 29⟩ [] rfl (fun _ h => absurd h List.not_mem_nil) rfl (by decide) cl_L_29 (List.mem_of_getElem? (i := 2) rfl) (fun q => ?_)
        refine j_astore_n X (i := 3) dL_shown_12 rfl (by decide) (lvOK_s rfl okPrev_ref) ?_
        dsimp only [List.set]
        refine j_iconst X (1) dL_shown_13 (by decide) ?_
        exact q_iret X hQ dL_shown_14 rfl ⟨(by decide), (by decide)⟩ (oinj3 hR rfl rfl rfl)
      · rw [if_neg h1] at hR
        cases hR
    · obtain ⟨h91, v9, hk, h92, h93⟩ := h9
      subst hk
      subst r9
      subst f9
      subst L9
      dsimp only [Option.toList, List.cons_append, List.nil_append, List.append]
      dsimp only at hR
      refine j_i2l X dL_shown_7 ?_
      refine t_last105 X hL hL7 (x := v9) rfl rfl dL_shown_8 ?_
      refine j_goto X (tgt := 15) dL_shown_9 (by decide) ?_
      refine j_iconst X (0) dL_shown_15 (by decide) ?_
      exact q_iret X hQ dL_shown_16 rfl ⟨(by decide), (by decide)⟩ (oinj3 hR rfl rfl rfl)
def f_L_pace (N : Nat) (p0 : Int32) (a c : Mem) : Option (Int32 × Mem × Mem) := match f_X8_pace N p0 a with | none => none | some (.error k) => (if k = 3 then some (1, a, c) else none) | some (.ok q) => (some (0, q.2, upR c 0 (upd (c 0) 0 q.1)))
set_option maxRecDepth 100000 in
set_option maxHeartbeats 4000000 in
theorem m_L_pace {l : Launch} (hl : l.stackTraces = false) {G : GG} {L : List Nat} (hL : LOK L) (hL7 : L.length = 107) {a b c : Mem} {N : Nat} {p0 : Int32} {v : Int32} {a' c' : Mem} (hR : f_L_pace N p0 a c = some (v, a', c')) : Ct l G yL_pace (.codeWith yL_pace cL_pace 4 (some .int) [((0 : Nat), (9 : Nat), (12 : Nat), (29 : Nat))]) 8 178 1 6 [.ref (ad L 0), .int p0, .ref (ad L 105)] L (FW G L a b c) px0 (stay L (fun r f1 => f1 = FW G L a' b c' ∧ r = some (.int v))) := by
  refine Ct.ofH (own := RL) [⟨0, 9, 12, 29⟩] rfl hl rfl (by decide) [some (.ref (ad L 0)), some (.int p0), some (.ref (ad L 105)), none] rfl (Nat.le_of_ble_eq_true rfl) ?_
  intro p e s m below meth c9 A ar Q hQ X
  unfold f_L_pace at hR
  cases h : f_X8_pace N p0 a with
  | none =>
    rw [h] at hR
    cases hR
  | some R =>
    rw [h] at hR
    refine j_aload_n X (i := 2) dL_pace_0 rfl rfl ?_
    refine j_iconst X (0) dL_pace_1 (by decide) ?_
    refine j_aload_n X (i := 0) dL_pace_2 rfl rfl ?_
    refine j_iload_n X (i := 1) dL_pace_3 rfl rfl ?_
    refine j_callV1 X 8 (m_X8_pace hl hL  h) ml_L_46 im_yX8_pace se_yX8_pace in_X8 cd_yX8_pace hy_yX8_pace dL_pace_4 rfl (inL hL t_0 (by decide)) (FW8 hL t_0) ⟨(by decide), (by decide)⟩ ⟨(by decide), (by decide)⟩ (Nat.le_of_ble_eq_true rfl) (fun E hE => ?_) (fun r9 L9 f9 h9 => ?_)
    · obtain ⟨k, hk, hE⟩ := hE
      subst hk
      dsimp only at hR
      by_cases h1 : k = 3
      · subst h1
        rw [if_pos rfl] at hR
        subst hE
        refine jx_catch X [] ⟨0, 9, 12, 29⟩ [] rfl (fun _ h => absurd h List.not_mem_nil) rfl (by decide) cl_L_29 (List.mem_of_getElem? (i := 2) rfl) (fun q => ?_)
        refine j_astore_n X (i := 3) dL_pace_12 rfl (by decide) (lvOK_s rfl okPrev_ref) ?_
        dsimp only [List.set]
        refine j_iconst X (1) dL_pace_13 (by decide) ?_
        exact q_iret X hQ dL_pace_14 rfl ⟨(by decide), (by decide)⟩ (oinj3 hR rfl rfl rfl)
      · rw [if_neg h1] at hR
        cases hR
    · obtain ⟨h91, v9, a9, hk, h92, h93⟩ := h9
      subst hk
      subst r9
      subst f9
      subst L9
      dsimp only [Option.toList, List.cons_append, List.nil_append, List.append]
      dsimp only at hR
      refine j_i2l X dL_pace_7 ?_
      refine t_last105 X hL hL7 (x := v9) rfl rfl dL_pace_8 ?_
      refine j_goto X (tgt := 15) dL_pace_9 (by decide) ?_
      refine j_iconst X (0) dL_pace_15 (by decide) ?_
      exact q_iret X hQ dL_pace_16 rfl ⟨(by decide), (by decide)⟩ (oinj3 hR rfl rfl rfl)
def f_L_lasts (N : Nat) (p0 : Int32) (p1 : Int32) (a c : Mem) : Option (Int32 × Mem × Mem) := match f_X8_lasts N p0 p1 a with | none => none | some (.error k) => (if k = 3 then some (1, a, c) else if k = 2 then some (2, a, c) else none) | some (.ok q) => (some (0, q.2, upR c 0 (upd (c 0) 0 q.1)))
set_option maxRecDepth 100000 in
set_option maxHeartbeats 4000000 in
theorem m_L_lasts {l : Launch} (hl : l.stackTraces = false) {G : GG} {L : List Nat} (hL : LOK L) (hL7 : L.length = 107) {a b c : Mem} {N : Nat} {p0 : Int32} {p1 : Int32} {v : Int32} {a' c' : Mem} (hR : f_L_lasts N p0 p1 a c = some (v, a', c')) : Ct l G yL_lasts (.codeWith yL_lasts cL_lasts 5 (some .int) [((0 : Nat), (10 : Nat), (13 : Nat), (29 : Nat)), ((0 : Nat), (10 : Nat), (17 : Nat), (19 : Nat))]) 8 150 2 12 [.ref (ad L 0), .int p0, .int p1, .ref (ad L 105)] L (FW G L a b c) px0 (stay L (fun r f1 => f1 = FW G L a' b c' ∧ r = some (.int v))) := by
  refine Ct.ofH (own := RL) [⟨0, 10, 13, 29⟩, ⟨0, 10, 17, 19⟩] rfl hl rfl (by decide) [some (.ref (ad L 0)), some (.int p0), some (.int p1), some (.ref (ad L 105)), none] rfl (Nat.le_of_ble_eq_true rfl) ?_
  intro p e s m below meth c9 A ar Q hQ X
  unfold f_L_lasts at hR
  cases h : f_X8_lasts N p0 p1 a with
  | none =>
    rw [h] at hR
    cases hR
  | some R =>
    rw [h] at hR
    refine j_aload_n X (i := 3) dL_lasts_0 rfl rfl ?_
    refine j_iconst X (0) dL_lasts_1 (by decide) ?_
    refine j_aload_n X (i := 0) dL_lasts_2 rfl rfl ?_
    refine j_iload_n X (i := 1) dL_lasts_3 rfl rfl ?_
    refine j_iload_n X (i := 2) dL_lasts_4 rfl rfl ?_
    refine j_callV2 X 8 (m_X8_lasts hl hL  h) ml_L_49 im_yX8_lasts se_yX8_lasts in_X8 cd_yX8_lasts hy_yX8_lasts dL_lasts_5 rfl (inL hL t_0 (by decide)) (FW8 hL t_0) ⟨(by decide), (by decide)⟩ ⟨(by decide), (by decide)⟩ (Nat.le_of_ble_eq_true rfl) (fun E hE => ?_) (fun r9 L9 f9 h9 => ?_)
    · obtain ⟨k, hk, hE⟩ := hE
      subst hk
      dsimp only at hR
      by_cases h1 : k = 3
      · subst h1
        rw [if_pos rfl] at hR
        subst hE
        refine jx_catch X [] ⟨0, 10, 13, 29⟩ [⟨0, 10, 17, 19⟩] rfl (fun _ h => absurd h List.not_mem_nil) rfl (by decide) cl_L_29 (List.mem_of_getElem? (i := 2) rfl) (fun q => ?_)
        refine j_astore X dL_lasts_13 (by decide) (lvOK_s rfl okPrev_ref) ?_
        dsimp only [List.set]
        refine j_iconst X (1) dL_lasts_15 (by decide) ?_
        exact q_iret X hQ dL_lasts_16 rfl ⟨(by decide), (by decide)⟩ (oinj3 hR rfl rfl rfl)
      · rw [if_neg h1] at hR
        by_cases h1 : k = 2
        · subst h1
          rw [if_pos rfl] at hR
          subst hE
          refine jx_catch X [⟨0, 10, 13, 29⟩] ⟨0, 10, 17, 19⟩ [] rfl (List.forall_mem_cons.mpr ⟨Or.inr ⟨(by decide), _, cl_L_29, List.mem_of_getElem? (i := 0) rfl⟩, (fun _ h => absurd h List.not_mem_nil)⟩) rfl (by decide) cl_L_19 (List.mem_of_getElem? (i := 1) rfl) (fun q => ?_)
          refine j_astore X dL_lasts_17 (by decide) (lvOK_s rfl okPrev_ref) ?_
          dsimp only [List.set]
          refine j_iconst X (2) dL_lasts_19 (by decide) ?_
          exact q_iret X hQ dL_lasts_20 rfl ⟨(by decide), (by decide)⟩ (oinj3 hR rfl rfl rfl)
        · rw [if_neg h1] at hR
          cases hR
    · obtain ⟨h91, v9, a9, hk, h92, h93⟩ := h9
      subst hk
      subst r9
      subst f9
      subst L9
      dsimp only [Option.toList, List.cons_append, List.nil_append, List.append]
      dsimp only at hR
      refine j_i2l X dL_lasts_8 ?_
      refine t_last105 X hL hL7 (x := v9) rfl rfl dL_lasts_9 ?_
      refine j_goto X (tgt := 21) dL_lasts_10 (by decide) ?_
      refine j_iconst X (0) dL_lasts_21 (by decide) ?_
      exact q_iret X hQ dL_lasts_22 rfl ⟨(by decide), (by decide)⟩ (oinj3 hR rfl rfl rfl)
def f_L_longest (N : Nat) (p0 : Int32) (a c : Mem) : Option (Int32 × Mem × Mem) := match f_X8_longest N p0 a with | none => none | some (.error k) => (if k = 3 then some (1, a, c) else none) | some (.ok q) => (some (0, a, upR c 0 (upd (c 0) 0 q)))
set_option maxRecDepth 100000 in
set_option maxHeartbeats 4000000 in
theorem m_L_longest {l : Launch} (hl : l.stackTraces = false) {G : GG} {L : List Nat} (hL : LOK L) (hL7 : L.length = 107) {a b c : Mem} {N : Nat} {p0 : Int32} {v : Int32} {a' c' : Mem} (hR : f_L_longest N p0 a c = some (v, a', c')) : Ct l G yL_longest (.codeWith yL_longest cL_longest 4 (some .int) [((0 : Nat), (9 : Nat), (12 : Nat), (29 : Nat))]) 8 142 1 6 [.ref (ad L 0), .int p0, .ref (ad L 105)] L (FW G L a b c) px0 (stay L (fun r f1 => f1 = FW G L a' b c' ∧ r = some (.int v))) := by
  refine Ct.ofH (own := RL) [⟨0, 9, 12, 29⟩] rfl hl rfl (by decide) [some (.ref (ad L 0)), some (.int p0), some (.ref (ad L 105)), none] rfl (Nat.le_of_ble_eq_true rfl) ?_
  intro p e s m below meth c9 A ar Q hQ X
  unfold f_L_longest at hR
  cases h : f_X8_longest N p0 a with
  | none =>
    rw [h] at hR
    cases hR
  | some R =>
    rw [h] at hR
    refine j_aload_n X (i := 2) dL_longest_0 rfl rfl ?_
    refine j_iconst X (0) dL_longest_1 (by decide) ?_
    refine j_aload_n X (i := 0) dL_longest_2 rfl rfl ?_
    refine j_iload_n X (i := 1) dL_longest_3 rfl rfl ?_
    refine j_callV1 X 8 (m_X8_longest hl hL  h) ml_L_52 im_yX8_longest se_yX8_longest in_X8 cd_yX8_longest hy_yX8_longest dL_longest_4 rfl (inL hL t_0 (by decide)) (FW8 hL t_0) ⟨(by decide), (by decide)⟩ ⟨(by decide), (by decide)⟩ (Nat.le_of_ble_eq_true rfl) (fun E hE => ?_) (fun r9 L9 f9 h9 => ?_)
    · obtain ⟨k, hk, hE⟩ := hE
      subst hk
      dsimp only at hR
      by_cases h1 : k = 3
      · subst h1
        rw [if_pos rfl] at hR
        subst hE
        refine jx_catch X [] ⟨0, 9, 12, 29⟩ [] rfl (fun _ h => absurd h List.not_mem_nil) rfl (by decide) cl_L_29 (List.mem_of_getElem? (i := 2) rfl) (fun q => ?_)
        refine j_astore_n X (i := 3) dL_longest_12 rfl (by decide) (lvOK_s rfl okPrev_ref) ?_
        dsimp only [List.set]
        refine j_iconst X (1) dL_longest_13 (by decide) ?_
        exact q_iret X hQ dL_longest_14 rfl ⟨(by decide), (by decide)⟩ (oinj3 hR rfl rfl rfl)
      · rw [if_neg h1] at hR
        cases hR
    · obtain ⟨h91, v9, hk, h92, h93⟩ := h9
      subst hk
      subst r9
      subst f9
      subst L9
      dsimp only [Option.toList, List.cons_append, List.nil_append, List.append]
      dsimp only at hR
      refine j_i2l X dL_longest_7 ?_
      refine t_last105 X hL hL7 (x := v9) rfl rfl dL_longest_8 ?_
      refine j_goto X (tgt := 15) dL_longest_9 (by decide) ?_
      refine j_iconst X (0) dL_longest_15 (by decide) ?_
      exact q_iret X hQ dL_longest_16 rfl ⟨(by decide), (by decide)⟩ (oinj3 hR rfl rfl rfl)
def f_L_meanThink (N : Nat) (p0 : Int32) (a c : Mem) : Option (Int32 × Mem × Mem) := match f_X8_meanThink N p0 a with | none => none | some (.error k) => (if k = 3 then some (1, a, c) else none) | some (.ok q) => (some (0, a, upR c 1 (upd (upd (c 1) 0 (dHi q)) 1 (dLo q))))
set_option maxRecDepth 100000 in
set_option maxHeartbeats 4000000 in
theorem m_L_meanThink {l : Launch} (hl : l.stackTraces = false) {G : GG} {L : List Nat} (hL : LOK L) (hL7 : L.length = 107) {a b c : Mem} {N : Nat} {p0 : Int32} {v : Int32} {a' c' : Mem} (hR : f_L_meanThink N p0 a c = some (v, a', c')) : Ct l G yL_meanThink (.codeWith yL_meanThink cL_meanThink 4 (some .int) [((0 : Nat), (8 : Nat), (11 : Nat), (29 : Nat))]) 8 143 1 6 [.ref (ad L 0), .int p0, .ref (ad L 106)] L (FW G L a b c) px0 (stay L (fun r f1 => f1 = FW G L a' b c' ∧ r = some (.int v))) := by
  refine Ct.ofH (own := RL) [⟨0, 8, 11, 29⟩] rfl hl rfl (by decide) [some (.ref (ad L 0)), some (.int p0), some (.ref (ad L 106)), none] rfl (Nat.le_of_ble_eq_true rfl) ?_
  intro p e s m below meth c9 A ar Q hQ X
  unfold f_L_meanThink at hR
  cases h : f_X8_meanThink N p0 a with
  | none =>
    rw [h] at hR
    cases hR
  | some R =>
    rw [h] at hR
    refine j_aload_n X (i := 2) dL_meanThink_0 rfl rfl ?_
    refine j_iconst X (0) dL_meanThink_1 (by decide) ?_
    refine j_aload_n X (i := 0) dL_meanThink_2 rfl rfl ?_
    refine j_iload_n X (i := 1) dL_meanThink_3 rfl rfl ?_
    refine j_callV1 X 8 (m_X8_meanThink hl hL  h) ml_L_55 im_yX8_meanThink se_yX8_meanThink in_X8 cd_yX8_meanThink hy_yX8_meanThink dL_meanThink_4 rfl (inL hL t_0 (by decide)) (FW8 hL t_0) ⟨(by decide), (by decide)⟩ ⟨(by decide), (by decide)⟩ (Nat.le_of_ble_eq_true rfl) (fun E hE => ?_) (fun r9 L9 f9 h9 => ?_)
    · obtain ⟨k, hk, hE⟩ := hE
      subst hk
      dsimp only at hR
      by_cases h1 : k = 3
      · subst h1
        rw [if_pos rfl] at hR
        subst hE
        refine jx_catch X [] ⟨0, 8, 11, 29⟩ [] rfl (fun _ h => absurd h List.not_mem_nil) rfl (by decide) cl_L_29 (List.mem_of_getElem? (i := 2) rfl) (fun q => ?_)
        refine j_astore_n X (i := 3) dL_meanThink_11 rfl (by decide) (lvOK_s rfl okPrev_ref) ?_
        dsimp only [List.set]
        refine j_iconst X (1) dL_meanThink_12 (by decide) ?_
        exact q_iret X hQ dL_meanThink_13 rfl ⟨(by decide), (by decide)⟩ (oinj3 hR rfl rfl rfl)
      · rw [if_neg h1] at hR
        cases hR
    · obtain ⟨h91, v9, hk, h92, h93⟩ := h9
      subst hk
      subst r9
      subst f9
      subst L9
      dsimp only [Option.toList, List.cons_append, List.nil_append, List.append]
      dsimp only at hR
      refine t_dast106 X hL hL7 rfl dL_meanThink_7 ?_
      refine j_goto X (tgt := 14) dL_meanThink_8 (by decide) ?_
      refine j_iconst X (0) dL_meanThink_14 (by decide) ?_
      exact q_iret X hQ dL_meanThink_15 rfl ⟨(by decide), (by decide)⟩ (oinj3 hR rfl rfl rfl)
def f_L_share (N : Nat) (p0 : Int32) (a c : Mem) : Option (Int32 × Mem × Mem) := match f_X8_share N p0 a with | none => none | some (.error k) => (if k = 3 then some (1, a, c) else none) | some (.ok q) => (chkP (FP.f2d q &&& 0x7fffffffffffffff ≤ 0x7ff0000000000000) (some (0, a, upR c 1 (upd (upd (c 1) 0 (dHi (FP.f2d q))) 1 (dLo (FP.f2d q))))))
set_option maxRecDepth 100000 in
set_option maxHeartbeats 4000000 in
theorem m_L_share {l : Launch} (hl : l.stackTraces = false) {G : GG} {L : List Nat} (hL : LOK L) (hL7 : L.length = 107) {a b c : Mem} {N : Nat} {p0 : Int32} {v : Int32} {a' c' : Mem} (hR : f_L_share N p0 a c = some (v, a', c')) : Ct l G yL_share (.codeWith yL_share cL_share 4 (some .int) [((0 : Nat), (9 : Nat), (12 : Nat), (29 : Nat))]) 8 142 1 6 [.ref (ad L 0), .int p0, .ref (ad L 106)] L (FW G L a b c) px0 (stay L (fun r f1 => f1 = FW G L a' b c' ∧ r = some (.int v))) := by
  refine Ct.ofH (own := RL) [⟨0, 9, 12, 29⟩] rfl hl rfl (by decide) [some (.ref (ad L 0)), some (.int p0), some (.ref (ad L 106)), none] rfl (Nat.le_of_ble_eq_true rfl) ?_
  intro p e s m below meth c9 A ar Q hQ X
  unfold f_L_share at hR
  cases h : f_X8_share N p0 a with
  | none =>
    rw [h] at hR
    cases hR
  | some R =>
    rw [h] at hR
    refine j_aload_n X (i := 2) dL_share_0 rfl rfl ?_
    refine j_iconst X (0) dL_share_1 (by decide) ?_
    refine j_aload_n X (i := 0) dL_share_2 rfl rfl ?_
    refine j_iload_n X (i := 1) dL_share_3 rfl rfl ?_
    refine j_callV1 X 8 (m_X8_share hl hL  h) ml_L_59 im_yX8_share se_yX8_share in_X8 cd_yX8_share hy_yX8_share dL_share_4 rfl (inL hL t_0 (by decide)) (FW8 hL t_0) ⟨(by decide), (by decide)⟩ ⟨(by decide), (by decide)⟩ (Nat.le_of_ble_eq_true rfl) (fun E hE => ?_) (fun r9 L9 f9 h9 => ?_)
    · obtain ⟨k, hk, hE⟩ := hE
      subst hk
      dsimp only at hR
      by_cases h1 : k = 3
      · subst h1
        rw [if_pos rfl] at hR
        subst hE
        refine jx_catch X [] ⟨0, 9, 12, 29⟩ [] rfl (fun _ h => absurd h List.not_mem_nil) rfl (by decide) cl_L_29 (List.mem_of_getElem? (i := 2) rfl) (fun q => ?_)
        refine j_astore_n X (i := 3) dL_share_12 rfl (by decide) (lvOK_s rfl okPrev_ref) ?_
        dsimp only [List.set]
        refine j_iconst X (1) dL_share_13 (by decide) ?_
        exact q_iret X hQ dL_share_14 rfl ⟨(by decide), (by decide)⟩ (oinj3 hR rfl rfl rfl)
      · rw [if_neg h1] at hR
        cases hR
    · obtain ⟨h91, v9, hk, h92, h93⟩ := h9
      subst hk
      subst r9
      subst f9
      subst L9
      dsimp only [Option.toList, List.cons_append, List.nil_append, List.append]
      dsimp only at hR
      obtain ⟨hn, hR⟩ := chkP_inv hR
      refine j_f2d X dL_share_7 hn ?_
      refine t_dast106 X hL hL7 rfl dL_share_8 ?_
      refine j_goto X (tgt := 15) dL_share_9 (by decide) ?_
      refine j_iconst X (0) dL_share_15 (by decide) ?_
      exact q_iret X hQ dL_share_16 rfl ⟨(by decide), (by decide)⟩ (oinj3 hR rfl rfl rfl)
def f_L_leftIn (N : Nat) (p0 : Int32) (p1 : Int32) (a c : Mem) : Option (Int32 × Mem × Mem) := match f_X8_leftIn N p0 p1 a with | none => none | some (.error k) => (if k = 3 then some (1, a, c) else if k = 2 then some (2, a, c) else none) | some (.ok q) => (some (0, q.2, upR c 0 (upd (c 0) 0 q.1)))
set_option maxRecDepth 100000 in
set_option maxHeartbeats 4000000 in
theorem m_L_leftIn {l : Launch} (hl : l.stackTraces = false) {G : GG} {L : List Nat} (hL : LOK L) (hL7 : L.length = 107) {a b c : Mem} {N : Nat} {p0 : Int32} {p1 : Int32} {v : Int32} {a' c' : Mem} (hR : f_L_leftIn N p0 p1 a c = some (v, a', c')) : Ct l G yL_leftIn (.codeWith yL_leftIn cL_leftIn 5 (some .int) [((0 : Nat), (10 : Nat), (13 : Nat), (29 : Nat)), ((0 : Nat), (10 : Nat), (17 : Nat), (19 : Nat))]) 8 148 2 12 [.ref (ad L 0), .int p0, .int p1, .ref (ad L 105)] L (FW G L a b c) px0 (stay L (fun r f1 => f1 = FW G L a' b c' ∧ r = some (.int v))) := by
  refine Ct.ofH (own := RL) [⟨0, 10, 13, 29⟩, ⟨0, 10, 17, 19⟩] rfl hl rfl (by decide) [some (.ref (ad L 0)), some (.int p0), some (.int p1), some (.ref (ad L 105)), none] rfl (Nat.le_of_ble_eq_true rfl) ?_
  intro p e s m below meth c9 A ar Q hQ X
  unfold f_L_leftIn at hR
  cases h : f_X8_leftIn N p0 p1 a with
  | none =>
    rw [h] at hR
    cases hR
  | some R =>
    rw [h] at hR
    refine j_aload_n X (i := 3) dL_leftIn_0 rfl rfl ?_
    refine j_iconst X (0) dL_leftIn_1 (by decide) ?_
    refine j_aload_n X (i := 0) dL_leftIn_2 rfl rfl ?_
    refine j_iload_n X (i := 1) dL_leftIn_3 rfl rfl ?_
    refine j_iload_n X (i := 2) dL_leftIn_4 rfl rfl ?_
    refine j_callV2 X 8 (m_X8_leftIn hl hL  h) ml_L_63 im_yX8_leftIn se_yX8_leftIn in_X8 cd_yX8_leftIn hy_yX8_leftIn dL_leftIn_5 rfl (inL hL t_0 (by decide)) (FW8 hL t_0) ⟨(by decide), (by decide)⟩ ⟨(by decide), (by decide)⟩ (Nat.le_of_ble_eq_true rfl) (fun E hE => ?_) (fun r9 L9 f9 h9 => ?_)
    · obtain ⟨k, hk, hE⟩ := hE
      subst hk
      dsimp only at hR
      by_cases h1 : k = 3
      · subst h1
        rw [if_pos rfl] at hR
        subst hE
        refine jx_catch X [] ⟨0, 10, 13, 29⟩ [⟨0, 10, 17, 19⟩] rfl (fun _ h => absurd h List.not_mem_nil) rfl (by decide) cl_L_29 (List.mem_of_getElem? (i := 2) rfl) (fun q => ?_)
        refine j_astore X dL_leftIn_13 (by decide) (lvOK_s rfl okPrev_ref) ?_
        dsimp only [List.set]
        refine j_iconst X (1) dL_leftIn_15 (by decide) ?_
        exact q_iret X hQ dL_leftIn_16 rfl ⟨(by decide), (by decide)⟩ (oinj3 hR rfl rfl rfl)
      · rw [if_neg h1] at hR
        by_cases h1 : k = 2
        · subst h1
          rw [if_pos rfl] at hR
          subst hE
          refine jx_catch X [⟨0, 10, 13, 29⟩] ⟨0, 10, 17, 19⟩ [] rfl (List.forall_mem_cons.mpr ⟨Or.inr ⟨(by decide), _, cl_L_29, List.mem_of_getElem? (i := 0) rfl⟩, (fun _ h => absurd h List.not_mem_nil)⟩) rfl (by decide) cl_L_19 (List.mem_of_getElem? (i := 1) rfl) (fun q => ?_)
          refine j_astore X dL_leftIn_17 (by decide) (lvOK_s rfl okPrev_ref) ?_
          dsimp only [List.set]
          refine j_iconst X (2) dL_leftIn_19 (by decide) ?_
          exact q_iret X hQ dL_leftIn_20 rfl ⟨(by decide), (by decide)⟩ (oinj3 hR rfl rfl rfl)
        · rw [if_neg h1] at hR
          cases hR
    · obtain ⟨h91, v9, a9, hk, h92, h93⟩ := h9
      subst hk
      subst r9
      subst f9
      subst L9
      dsimp only [Option.toList, List.cons_append, List.nil_append, List.append]
      dsimp only at hR
      refine j_i2l X dL_leftIn_8 ?_
      refine t_last105 X hL hL7 (x := v9) rfl rfl dL_leftIn_9 ?_
      refine j_goto X (tgt := 21) dL_leftIn_10 (by decide) ?_
      refine j_iconst X (0) dL_leftIn_21 (by decide) ?_
      exact q_iret X hQ dL_leftIn_22 rfl ⟨(by decide), (by decide)⟩ (oinj3 hR rfl rfl rfl)
def f_L_ends (N : Nat) (p0 : Int32) (p1 : Int32) (a c : Mem) : Option (Int32 × Mem × Mem) := match f_X8_ends N p0 p1 a with | none => none | some (.error k) => (if k = 2 then some (1, a, c) else none) | some (.ok q) => (some (0, q.2, upR c 0 (upd (c 0) 0 q.1)))
set_option maxRecDepth 100000 in
set_option maxHeartbeats 4000000 in
theorem m_L_ends {l : Launch} (hl : l.stackTraces = false) {G : GG} {L : List Nat} (hL : LOK L) (hL7 : L.length = 107) {a b c : Mem} {N : Nat} {p0 : Int32} {p1 : Int32} {v : Int32} {a' c' : Mem} (hR : f_L_ends N p0 p1 a c = some (v, a', c')) : Ct l G yL_ends (.codeWith yL_ends cL_ends 5 (some .int) [((0 : Nat), (10 : Nat), (13 : Nat), (19 : Nat))]) 8 171 2 12 [.ref (ad L 0), .int p0, .int p1, .ref (ad L 105)] L (FW G L a b c) px0 (stay L (fun r f1 => f1 = FW G L a' b c' ∧ r = some (.int v))) := by
  refine Ct.ofH (own := RL) [⟨0, 10, 13, 19⟩] rfl hl rfl (by decide) [some (.ref (ad L 0)), some (.int p0), some (.int p1), some (.ref (ad L 105)), none] rfl (Nat.le_of_ble_eq_true rfl) ?_
  intro p e s m below meth c9 A ar Q hQ X
  unfold f_L_ends at hR
  cases h : f_X8_ends N p0 p1 a with
  | none =>
    rw [h] at hR
    cases hR
  | some R =>
    rw [h] at hR
    refine j_aload_n X (i := 3) dL_ends_0 rfl rfl ?_
    refine j_iconst X (0) dL_ends_1 (by decide) ?_
    refine j_aload_n X (i := 0) dL_ends_2 rfl rfl ?_
    refine j_iload_n X (i := 1) dL_ends_3 rfl rfl ?_
    refine j_iload_n X (i := 2) dL_ends_4 rfl rfl ?_
    refine j_callV2 X 8 (m_X8_ends hl hL  h) ml_L_66 im_yX8_ends se_yX8_ends in_X8 cd_yX8_ends hy_yX8_ends dL_ends_5 rfl (inL hL t_0 (by decide)) (FW8 hL t_0) ⟨(by decide), (by decide)⟩ ⟨(by decide), (by decide)⟩ (Nat.le_of_ble_eq_true rfl) (fun E hE => ?_) (fun r9 L9 f9 h9 => ?_)
    · obtain ⟨k, hk, hE⟩ := hE
      subst hk
      dsimp only at hR
      by_cases h1 : k = 2
      · subst h1
        rw [if_pos rfl] at hR
        subst hE
        refine jx_catch X [] ⟨0, 10, 13, 19⟩ [] rfl (fun _ h => absurd h List.not_mem_nil) rfl (by decide) cl_L_19 (List.mem_of_getElem? (i := 1) rfl) (fun q => ?_)
        refine j_astore X dL_ends_13 (by decide) (lvOK_s rfl okPrev_ref) ?_
        dsimp only [List.set]
        refine j_iconst X (1) dL_ends_15 (by decide) ?_
        exact q_iret X hQ dL_ends_16 rfl ⟨(by decide), (by decide)⟩ (oinj3 hR rfl rfl rfl)
      · rw [if_neg h1] at hR
        cases hR
    · obtain ⟨h91, v9, a9, hk, h92, h93⟩ := h9
      subst hk
      subst r9
      subst f9
      subst L9
      dsimp only [Option.toList, List.cons_append, List.nil_append, List.append]
      dsimp only at hR
      refine j_i2l X dL_ends_8 ?_
      refine t_last105 X hL hL7 (x := v9) rfl rfl dL_ends_9 ?_
      refine j_goto X (tgt := 17) dL_ends_10 (by decide) ?_
      refine j_iconst X (0) dL_ends_17 (by decide) ?_
      exact q_iret X hQ dL_ends_18 rfl ⟨(by decide), (by decide)⟩ (oinj3 hR rfl rfl rfl)
def f_L_endsAfter (N : Nat) (p0 : Int32) (p1 : Int32) (a c : Mem) : Option (Int32 × Mem × Mem) := match f_X8_endsAfter N p0 p1 a with | none => none | some (.error k) => (if k = 2 then some (1, a, c) else none) | some (.ok q) => (some (0, q.2, upR c 0 (upd (c 0) 0 q.1)))
set_option maxRecDepth 100000 in
set_option maxHeartbeats 4000000 in
theorem m_L_endsAfter {l : Launch} (hl : l.stackTraces = false) {G : GG} {L : List Nat} (hL : LOK L) (hL7 : L.length = 107) {a b c : Mem} {N : Nat} {p0 : Int32} {p1 : Int32} {v : Int32} {a' c' : Mem} (hR : f_L_endsAfter N p0 p1 a c = some (v, a', c')) : Ct l G yL_endsAfter (.codeWith yL_endsAfter cL_endsAfter 5 (some .int) [((0 : Nat), (10 : Nat), (13 : Nat), (19 : Nat))]) 8 171 2 12 [.ref (ad L 0), .int p0, .int p1, .ref (ad L 105)] L (FW G L a b c) px0 (stay L (fun r f1 => f1 = FW G L a' b c' ∧ r = some (.int v))) := by
  refine Ct.ofH (own := RL) [⟨0, 10, 13, 19⟩] rfl hl rfl (by decide) [some (.ref (ad L 0)), some (.int p0), some (.int p1), some (.ref (ad L 105)), none] rfl (Nat.le_of_ble_eq_true rfl) ?_
  intro p e s m below meth c9 A ar Q hQ X
  unfold f_L_endsAfter at hR
  cases h : f_X8_endsAfter N p0 p1 a with
  | none =>
    rw [h] at hR
    cases hR
  | some R =>
    rw [h] at hR
    refine j_aload_n X (i := 3) dL_endsAfter_0 rfl rfl ?_
    refine j_iconst X (0) dL_endsAfter_1 (by decide) ?_
    refine j_aload_n X (i := 0) dL_endsAfter_2 rfl rfl ?_
    refine j_iload_n X (i := 1) dL_endsAfter_3 rfl rfl ?_
    refine j_iload_n X (i := 2) dL_endsAfter_4 rfl rfl ?_
    refine j_callV2 X 8 (m_X8_endsAfter hl hL  h) ml_L_69 im_yX8_endsAfter se_yX8_endsAfter in_X8 cd_yX8_endsAfter hy_yX8_endsAfter dL_endsAfter_5 rfl (inL hL t_0 (by decide)) (FW8 hL t_0) ⟨(by decide), (by decide)⟩ ⟨(by decide), (by decide)⟩ (Nat.le_of_ble_eq_true rfl) (fun E hE => ?_) (fun r9 L9 f9 h9 => ?_)
    · obtain ⟨k, hk, hE⟩ := hE
      subst hk
      dsimp only at hR
      by_cases h1 : k = 2
      · subst h1
        rw [if_pos rfl] at hR
        subst hE
        refine jx_catch X [] ⟨0, 10, 13, 19⟩ [] rfl (fun _ h => absurd h List.not_mem_nil) rfl (by decide) cl_L_19 (List.mem_of_getElem? (i := 1) rfl) (fun q => ?_)
        refine j_astore X dL_endsAfter_13 (by decide) (lvOK_s rfl okPrev_ref) ?_
        dsimp only [List.set]
        refine j_iconst X (1) dL_endsAfter_15 (by decide) ?_
        exact q_iret X hQ dL_endsAfter_16 rfl ⟨(by decide), (by decide)⟩ (oinj3 hR rfl rfl rfl)
      · rw [if_neg h1] at hR
        cases hR
    · obtain ⟨h91, v9, a9, hk, h92, h93⟩ := h9
      subst hk
      subst r9
      subst f9
      subst L9
      dsimp only [Option.toList, List.cons_append, List.nil_append, List.append]
      dsimp only at hR
      refine j_i2l X dL_endsAfter_8 ?_
      refine t_last105 X hL hL7 (x := v9) rfl rfl dL_endsAfter_9 ?_
      refine j_goto X (tgt := 17) dL_endsAfter_10 (by decide) ?_
      refine j_iconst X (0) dL_endsAfter_17 (by decide) ?_
      exact q_iret X hQ dL_endsAfter_18 rfl ⟨(by decide), (by decide)⟩ (oinj3 hR rfl rfl rfl)
def f_L_movesIn (N : Nat) (p0 : Int32) (p1 : Int32) (p2 : Int32) (a c : Mem) : Option (Int32 × Mem × Mem) := match f_X8_movesIn N p0 p1 p2 a with | none => none | some (.error k) => (if k = 2 then some (1, a, c) else none) | some (.ok q) => (some (0, q.2, upR c 0 (upd (c 0) 0 q.1)))
set_option maxRecDepth 100000 in
set_option maxHeartbeats 4000000 in
theorem m_L_movesIn {l : Launch} (hl : l.stackTraces = false) {G : GG} {L : List Nat} (hL : LOK L) (hL7 : L.length = 107) {a b c : Mem} {N : Nat} {p0 : Int32} {p1 : Int32} {p2 : Int32} {v : Int32} {a' c' : Mem} (hR : f_L_movesIn N p0 p1 p2 a c = some (v, a', c')) : Ct l G yL_movesIn (.codeWith yL_movesIn cL_movesIn 6 (some .int) [((0 : Nat), (12 : Nat), (15 : Nat), (19 : Nat))]) 8 172 3 18 [.ref (ad L 0), .int p0, .int p1, .int p2, .ref (ad L 105)] L (FW G L a b c) px0 (stay L (fun r f1 => f1 = FW G L a' b c' ∧ r = some (.int v))) := by
  refine Ct.ofH (own := RL) [⟨0, 12, 15, 19⟩] rfl hl rfl (by decide) [some (.ref (ad L 0)), some (.int p0), some (.int p1), some (.int p2), some (.ref (ad L 105)), none] rfl (Nat.le_of_ble_eq_true rfl) ?_
  intro p e s m below meth c9 A ar Q hQ X
  unfold f_L_movesIn at hR
  cases h : f_X8_movesIn N p0 p1 p2 a with
  | none =>
    rw [h] at hR
    cases hR
  | some R =>
    rw [h] at hR
    refine j_aload X dL_movesIn_0 rfl ?_
    refine j_iconst X (0) dL_movesIn_2 (by decide) ?_
    refine j_aload_n X (i := 0) dL_movesIn_3 rfl rfl ?_
    refine j_iload_n X (i := 1) dL_movesIn_4 rfl rfl ?_
    refine j_iload_n X (i := 2) dL_movesIn_5 rfl rfl ?_
    refine j_iload_n X (i := 3) dL_movesIn_6 rfl rfl ?_
    refine j_callV3 X 8 (m_X8_movesIn hl hL  h) ml_L_72 im_yX8_movesIn se_yX8_movesIn in_X8 cd_yX8_movesIn hy_yX8_movesIn dL_movesIn_7 rfl (inL hL t_0 (by decide)) (FW8 hL t_0) ⟨(by decide), (by decide)⟩ ⟨(by decide), (by decide)⟩ (Nat.le_of_ble_eq_true rfl) (fun E hE => ?_) (fun r9 L9 f9 h9 => ?_)
    · obtain ⟨k, hk, hE⟩ := hE
      subst hk
      dsimp only at hR
      by_cases h1 : k = 2
      · subst h1
        rw [if_pos rfl] at hR
        subst hE
        refine jx_catch X [] ⟨0, 12, 15, 19⟩ [] rfl (fun _ h => absurd h List.not_mem_nil) rfl (by decide) cl_L_19 (List.mem_of_getElem? (i := 1) rfl) (fun q => ?_)
        refine j_astore X dL_movesIn_15 (by decide) (lvOK_s rfl okPrev_ref) ?_
        dsimp only [List.set]
        refine j_iconst X (1) dL_movesIn_17 (by decide) ?_
        exact q_iret X hQ dL_movesIn_18 rfl ⟨(by decide), (by decide)⟩ (oinj3 hR rfl rfl rfl)
      · rw [if_neg h1] at hR
        cases hR
    · obtain ⟨h91, v9, a9, hk, h92, h93⟩ := h9
      subst hk
      subst r9
      subst f9
      subst L9
      dsimp only [Option.toList, List.cons_append, List.nil_append, List.append]
      dsimp only at hR
      refine j_i2l X dL_movesIn_10 ?_
      refine t_last105 X hL hL7 (x := v9) rfl rfl dL_movesIn_11 ?_
      refine j_goto X (tgt := 19) dL_movesIn_12 (by decide) ?_
      refine j_iconst X (0) dL_movesIn_19 (by decide) ?_
      exact q_iret X hQ dL_movesIn_20 rfl ⟨(by decide), (by decide)⟩ (oinj3 hR rfl rfl rfl)
def f_L_gained (N : Nat) (p0 : Int32) (a c : Mem) : Option (Int32 × Mem × Mem) := match f_X8_gained N p0 a with | none => none | some (.error k) => (if k = 3 then some (1, a, c) else none) | some (.ok q) => (some (0, a, upR c 0 (upd (c 0) 0 q)))
set_option maxRecDepth 100000 in
set_option maxHeartbeats 4000000 in
theorem m_L_gained {l : Launch} (hl : l.stackTraces = false) {G : GG} {L : List Nat} (hL : LOK L) (hL7 : L.length = 107) {a b c : Mem} {N : Nat} {p0 : Int32} {v : Int32} {a' c' : Mem} (hR : f_L_gained N p0 a c = some (v, a', c')) : Ct l G yL_gained (.codeWith yL_gained cL_gained 4 (some .int) [((0 : Nat), (9 : Nat), (12 : Nat), (29 : Nat))]) 8 142 1 6 [.ref (ad L 0), .int p0, .ref (ad L 105)] L (FW G L a b c) px0 (stay L (fun r f1 => f1 = FW G L a' b c' ∧ r = some (.int v))) := by
  refine Ct.ofH (own := RL) [⟨0, 9, 12, 29⟩] rfl hl rfl (by decide) [some (.ref (ad L 0)), some (.int p0), some (.ref (ad L 105)), none] rfl (Nat.le_of_ble_eq_true rfl) ?_
  intro p e s m below meth c9 A ar Q hQ X
  unfold f_L_gained at hR
  cases h : f_X8_gained N p0 a with
  | none =>
    rw [h] at hR
    cases hR
  | some R =>
    rw [h] at hR
    refine j_aload_n X (i := 2) dL_gained_0 rfl rfl ?_
    refine j_iconst X (0) dL_gained_1 (by decide) ?_
    refine j_aload_n X (i := 0) dL_gained_2 rfl rfl ?_
    refine j_iload_n X (i := 1) dL_gained_3 rfl rfl ?_
    refine j_callV1 X 8 (m_X8_gained hl hL  h) ml_L_76 im_yX8_gained se_yX8_gained in_X8 cd_yX8_gained hy_yX8_gained dL_gained_4 rfl (inL hL t_0 (by decide)) (FW8 hL t_0) ⟨(by decide), (by decide)⟩ ⟨(by decide), (by decide)⟩ (Nat.le_of_ble_eq_true rfl) (fun E hE => ?_) (fun r9 L9 f9 h9 => ?_)
    · obtain ⟨k, hk, hE⟩ := hE
      subst hk
      dsimp only at hR
      by_cases h1 : k = 3
      · subst h1
        rw [if_pos rfl] at hR
        subst hE
        refine jx_catch X [] ⟨0, 9, 12, 29⟩ [] rfl (fun _ h => absurd h List.not_mem_nil) rfl (by decide) cl_L_29 (List.mem_of_getElem? (i := 2) rfl) (fun q => ?_)
        refine j_astore_n X (i := 3) dL_gained_12 rfl (by decide) (lvOK_s rfl okPrev_ref) ?_
        dsimp only [List.set]
        refine j_iconst X (1) dL_gained_13 (by decide) ?_
        exact q_iret X hQ dL_gained_14 rfl ⟨(by decide), (by decide)⟩ (oinj3 hR rfl rfl rfl)
      · rw [if_neg h1] at hR
        cases hR
    · obtain ⟨h91, v9, hk, h92, h93⟩ := h9
      subst hk
      subst r9
      subst f9
      subst L9
      dsimp only [Option.toList, List.cons_append, List.nil_append, List.append]
      dsimp only at hR
      refine j_i2l X dL_gained_7 ?_
      refine t_last105 X hL hL7 (x := v9) rfl rfl dL_gained_8 ?_
      refine j_goto X (tgt := 15) dL_gained_9 (by decide) ?_
      refine j_iconst X (0) dL_gained_15 (by decide) ?_
      exact q_iret X hQ dL_gained_16 rfl ⟨(by decide), (by decide)⟩ (oinj3 hR rfl rfl rfl)
def f_L_finished (p0 : Int32) (a c : Mem) : Option (Int32 × Mem × Mem) := match f_X8_finished p0 a with | none => none | some (.error k) => (if k = 3 then some (1, a, c) else none) | some (.ok q) => (some (0, a, upR c 0 (upd (c 0) 0 q)))
set_option maxRecDepth 100000 in
set_option maxHeartbeats 4000000 in
theorem m_L_finished {l : Launch} (hl : l.stackTraces = false) {G : GG} {L : List Nat} (hL : LOK L) (hL7 : L.length = 107) {a b c : Mem} {p0 : Int32} {v : Int32} {a' c' : Mem} (hR : f_L_finished p0 a c = some (v, a', c')) : Ct l G yL_finished (.codeWith yL_finished cL_finished 4 (some .int) [((0 : Nat), (9 : Nat), (12 : Nat), (29 : Nat))]) 8 142 1 6 [.ref (ad L 0), .int p0, .ref (ad L 105)] L (FW G L a b c) px0 (stay L (fun r f1 => f1 = FW G L a' b c' ∧ r = some (.int v))) := by
  refine Ct.ofH (own := RL) [⟨0, 9, 12, 29⟩] rfl hl rfl (by decide) [some (.ref (ad L 0)), some (.int p0), some (.ref (ad L 105)), none] rfl (Nat.le_of_ble_eq_true rfl) ?_
  intro p e s m below meth c9 A ar Q hQ X
  unfold f_L_finished at hR
  cases h : f_X8_finished p0 a with
  | none =>
    rw [h] at hR
    cases hR
  | some R =>
    rw [h] at hR
    refine j_aload_n X (i := 2) dL_finished_0 rfl rfl ?_
    refine j_iconst X (0) dL_finished_1 (by decide) ?_
    refine j_aload_n X (i := 0) dL_finished_2 rfl rfl ?_
    refine j_iload_n X (i := 1) dL_finished_3 rfl rfl ?_
    refine j_callV1 X 8 (m_X8_finished hl hL  h) ml_L_79 im_yX8_finished se_yX8_finished in_X8 cd_yX8_finished hy_yX8_finished dL_finished_4 rfl (inL hL t_0 (by decide)) (FW8 hL t_0) ⟨(by decide), (by decide)⟩ ⟨(by decide), (by decide)⟩ (Nat.le_of_ble_eq_true rfl) (fun E hE => ?_) (fun r9 L9 f9 h9 => ?_)
    · obtain ⟨k, hk, hE⟩ := hE
      subst hk
      dsimp only at hR
      by_cases h1 : k = 3
      · subst h1
        rw [if_pos rfl] at hR
        subst hE
        refine jx_catch X [] ⟨0, 9, 12, 29⟩ [] rfl (fun _ h => absurd h List.not_mem_nil) rfl (by decide) cl_L_29 (List.mem_of_getElem? (i := 2) rfl) (fun q => ?_)
        refine j_astore_n X (i := 3) dL_finished_12 rfl (by decide) (lvOK_s rfl okPrev_ref) ?_
        dsimp only [List.set]
        refine j_iconst X (1) dL_finished_13 (by decide) ?_
        exact q_iret X hQ dL_finished_14 rfl ⟨(by decide), (by decide)⟩ (oinj3 hR rfl rfl rfl)
      · rw [if_neg h1] at hR
        cases hR
    · obtain ⟨h91, v9, hk, h92, h93⟩ := h9
      subst hk
      subst r9
      subst f9
      subst L9
      dsimp only [Option.toList, List.cons_append, List.nil_append, List.append]
      dsimp only at hR
      refine j_i2l X dL_finished_7 ?_
      refine t_last105 X hL hL7 (x := v9) rfl rfl dL_finished_8 ?_
      refine j_goto X (tgt := 15) dL_finished_9 (by decide) ?_
      refine j_iconst X (0) dL_finished_15 (by decide) ?_
      exact q_iret X hQ dL_finished_16 rfl ⟨(by decide), (by decide)⟩ (oinj3 hR rfl rfl rfl)
def f_L_spent (p0 : Int32) (p1 : Int32) (a c : Mem) : Option (Int32 × Mem × Mem) := match f_X8_spent p0 p1 a with | none => none | some (.error k) => (if k = 3 then some (1, a, c) else none) | some (.ok q) => (some (0, a, upR c 0 (upd (c 0) 0 q)))
set_option maxRecDepth 100000 in
set_option maxHeartbeats 4000000 in
theorem m_L_spent {l : Launch} (hl : l.stackTraces = false) {G : GG} {L : List Nat} (hL : LOK L) (hL7 : L.length = 107) {a b c : Mem} {p0 : Int32} {p1 : Int32} {v : Int32} {a' c' : Mem} (hR : f_L_spent p0 p1 a c = some (v, a', c')) : Ct l G yL_spent (.codeWith yL_spent cL_spent 5 (some .int) [((0 : Nat), (10 : Nat), (13 : Nat), (29 : Nat))]) 8 143 2 12 [.ref (ad L 0), .int p0, .int p1, .ref (ad L 105)] L (FW G L a b c) px0 (stay L (fun r f1 => f1 = FW G L a' b c' ∧ r = some (.int v))) := by
  refine Ct.ofH (own := RL) [⟨0, 10, 13, 29⟩] rfl hl rfl (by decide) [some (.ref (ad L 0)), some (.int p0), some (.int p1), some (.ref (ad L 105)), none] rfl (Nat.le_of_ble_eq_true rfl) ?_
  intro p e s m below meth c9 A ar Q hQ X
  unfold f_L_spent at hR
  cases h : f_X8_spent p0 p1 a with
  | none =>
    rw [h] at hR
    cases hR
  | some R =>
    rw [h] at hR
    refine j_aload_n X (i := 3) dL_spent_0 rfl rfl ?_
    refine j_iconst X (0) dL_spent_1 (by decide) ?_
    refine j_aload_n X (i := 0) dL_spent_2 rfl rfl ?_
    refine j_iload_n X (i := 1) dL_spent_3 rfl rfl ?_
    refine j_iload_n X (i := 2) dL_spent_4 rfl rfl ?_
    refine j_callV2 X 8 (m_X8_spent hl hL  h) ml_L_82 im_yX8_spent se_yX8_spent in_X8 cd_yX8_spent hy_yX8_spent dL_spent_5 rfl (inL hL t_0 (by decide)) (FW8 hL t_0) ⟨(by decide), (by decide)⟩ ⟨(by decide), (by decide)⟩ (Nat.le_of_ble_eq_true rfl) (fun E hE => ?_) (fun r9 L9 f9 h9 => ?_)
    · obtain ⟨k, hk, hE⟩ := hE
      subst hk
      dsimp only at hR
      by_cases h1 : k = 3
      · subst h1
        rw [if_pos rfl] at hR
        subst hE
        refine jx_catch X [] ⟨0, 10, 13, 29⟩ [] rfl (fun _ h => absurd h List.not_mem_nil) rfl (by decide) cl_L_29 (List.mem_of_getElem? (i := 2) rfl) (fun q => ?_)
        refine j_astore X dL_spent_13 (by decide) (lvOK_s rfl okPrev_ref) ?_
        dsimp only [List.set]
        refine j_iconst X (1) dL_spent_15 (by decide) ?_
        exact q_iret X hQ dL_spent_16 rfl ⟨(by decide), (by decide)⟩ (oinj3 hR rfl rfl rfl)
      · rw [if_neg h1] at hR
        cases hR
    · obtain ⟨h91, v9, hk, h92, h93⟩ := h9
      subst hk
      subst r9
      subst f9
      subst L9
      dsimp only [Option.toList, List.cons_append, List.nil_append, List.append]
      dsimp only at hR
      refine j_i2l X dL_spent_8 ?_
      refine t_last105 X hL hL7 (x := v9) rfl rfl dL_spent_9 ?_
      refine j_goto X (tgt := 17) dL_spent_10 (by decide) ?_
      refine j_iconst X (0) dL_spent_17 (by decide) ?_
      exact q_iret X hQ dL_spent_18 rfl ⟨(by decide), (by decide)⟩ (oinj3 hR rfl rfl rfl)
def f_L_within (N : Nat) (p0 : Int32) (p1 : Int32) (a c : Mem) : Option (Int32 × Mem × Mem) := match f_X8_within N p0 p1 a with | none => none | some (.error k) => (if k = 3 then some (1, a, c) else if k = 2 then some (2, a, c) else none) | some (.ok q) => (some (0, a, upR c 0 (upd (c 0) 0 q)))
set_option maxRecDepth 100000 in
set_option maxHeartbeats 4000000 in
theorem m_L_within {l : Launch} (hl : l.stackTraces = false) {G : GG} {L : List Nat} (hL : LOK L) (hL7 : L.length = 107) {a b c : Mem} {N : Nat} {p0 : Int32} {p1 : Int32} {v : Int32} {a' c' : Mem} (hR : f_L_within N p0 p1 a c = some (v, a', c')) : Ct l G yL_within (.codeWith yL_within cL_within 5 (some .int) [((0 : Nat), (10 : Nat), (13 : Nat), (29 : Nat)), ((0 : Nat), (10 : Nat), (17 : Nat), (19 : Nat))]) 8 143 2 12 [.ref (ad L 0), .int p0, .int p1, .ref (ad L 105)] L (FW G L a b c) px0 (stay L (fun r f1 => f1 = FW G L a' b c' ∧ r = some (.int v))) := by
  refine Ct.ofH (own := RL) [⟨0, 10, 13, 29⟩, ⟨0, 10, 17, 19⟩] rfl hl rfl (by decide) [some (.ref (ad L 0)), some (.int p0), some (.int p1), some (.ref (ad L 105)), none] rfl (Nat.le_of_ble_eq_true rfl) ?_
  intro p e s m below meth c9 A ar Q hQ X
  unfold f_L_within at hR
  cases h : f_X8_within N p0 p1 a with
  | none =>
    rw [h] at hR
    cases hR
  | some R =>
    rw [h] at hR
    refine j_aload_n X (i := 3) dL_within_0 rfl rfl ?_
    refine j_iconst X (0) dL_within_1 (by decide) ?_
    refine j_aload_n X (i := 0) dL_within_2 rfl rfl ?_
    refine j_iload_n X (i := 1) dL_within_3 rfl rfl ?_
    refine j_iload_n X (i := 2) dL_within_4 rfl rfl ?_
    refine j_callV2 X 8 (m_X8_within hl hL  h) ml_L_85 im_yX8_within se_yX8_within in_X8 cd_yX8_within hy_yX8_within dL_within_5 rfl (inL hL t_0 (by decide)) (FW8 hL t_0) ⟨(by decide), (by decide)⟩ ⟨(by decide), (by decide)⟩ (Nat.le_of_ble_eq_true rfl) (fun E hE => ?_) (fun r9 L9 f9 h9 => ?_)
    · obtain ⟨k, hk, hE⟩ := hE
      subst hk
      dsimp only at hR
      by_cases h1 : k = 3
      · subst h1
        rw [if_pos rfl] at hR
        subst hE
        refine jx_catch X [] ⟨0, 10, 13, 29⟩ [⟨0, 10, 17, 19⟩] rfl (fun _ h => absurd h List.not_mem_nil) rfl (by decide) cl_L_29 (List.mem_of_getElem? (i := 2) rfl) (fun q => ?_)
        refine j_astore X dL_within_13 (by decide) (lvOK_s rfl okPrev_ref) ?_
        dsimp only [List.set]
        refine j_iconst X (1) dL_within_15 (by decide) ?_
        exact q_iret X hQ dL_within_16 rfl ⟨(by decide), (by decide)⟩ (oinj3 hR rfl rfl rfl)
      · rw [if_neg h1] at hR
        by_cases h1 : k = 2
        · subst h1
          rw [if_pos rfl] at hR
          subst hE
          refine jx_catch X [⟨0, 10, 13, 29⟩] ⟨0, 10, 17, 19⟩ [] rfl (List.forall_mem_cons.mpr ⟨Or.inr ⟨(by decide), _, cl_L_29, List.mem_of_getElem? (i := 0) rfl⟩, (fun _ h => absurd h List.not_mem_nil)⟩) rfl (by decide) cl_L_19 (List.mem_of_getElem? (i := 1) rfl) (fun q => ?_)
          refine j_astore X dL_within_17 (by decide) (lvOK_s rfl okPrev_ref) ?_
          dsimp only [List.set]
          refine j_iconst X (2) dL_within_19 (by decide) ?_
          exact q_iret X hQ dL_within_20 rfl ⟨(by decide), (by decide)⟩ (oinj3 hR rfl rfl rfl)
        · rw [if_neg h1] at hR
          cases hR
    · obtain ⟨h91, v9, hk, h92, h93⟩ := h9
      subst hk
      subst r9
      subst f9
      subst L9
      dsimp only [Option.toList, List.cons_append, List.nil_append, List.append]
      dsimp only at hR
      refine j_i2l X dL_within_8 ?_
      refine t_last105 X hL hL7 (x := v9) rfl rfl dL_within_9 ?_
      refine j_goto X (tgt := 21) dL_within_10 (by decide) ?_
      refine j_iconst X (0) dL_within_21 (by decide) ?_
      exact q_iret X hQ dL_within_22 rfl ⟨(by decide), (by decide)⟩ (oinj3 hR rfl rfl rfl)
def f_L_paceFor (N : Nat) (p0 : Int32) (p1 : Int32) (a c : Mem) : Option (Int32 × Mem × Mem) := match f_X8_paceFor N p0 p1 a with | none => none | some (.error k) => (if k = 3 then some (1, a, c) else if k = 2 then some (2, a, c) else none) | some (.ok q) => (some (0, q.2, upR c 0 (upd (c 0) 0 q.1)))
set_option maxRecDepth 100000 in
set_option maxHeartbeats 4000000 in
theorem m_L_paceFor {l : Launch} (hl : l.stackTraces = false) {G : GG} {L : List Nat} (hL : LOK L) (hL7 : L.length = 107) {a b c : Mem} {N : Nat} {p0 : Int32} {p1 : Int32} {v : Int32} {a' c' : Mem} (hR : f_L_paceFor N p0 p1 a c = some (v, a', c')) : Ct l G yL_paceFor (.codeWith yL_paceFor cL_paceFor 5 (some .int) [((0 : Nat), (10 : Nat), (13 : Nat), (29 : Nat)), ((0 : Nat), (10 : Nat), (17 : Nat), (19 : Nat))]) 8 177 2 12 [.ref (ad L 0), .int p0, .int p1, .ref (ad L 105)] L (FW G L a b c) px0 (stay L (fun r f1 => f1 = FW G L a' b c' ∧ r = some (.int v))) := by
  refine Ct.ofH (own := RL) [⟨0, 10, 13, 29⟩, ⟨0, 10, 17, 19⟩] rfl hl rfl (by decide) [some (.ref (ad L 0)), some (.int p0), some (.int p1), some (.ref (ad L 105)), none] rfl (Nat.le_of_ble_eq_true rfl) ?_
  intro p e s m below meth c9 A ar Q hQ X
  unfold f_L_paceFor at hR
  cases h : f_X8_paceFor N p0 p1 a with
  | none =>
    rw [h] at hR
    cases hR
  | some R =>
    rw [h] at hR
    refine j_aload_n X (i := 3) dL_paceFor_0 rfl rfl ?_
    refine j_iconst X (0) dL_paceFor_1 (by decide) ?_
    refine j_aload_n X (i := 0) dL_paceFor_2 rfl rfl ?_
    refine j_iload_n X (i := 1) dL_paceFor_3 rfl rfl ?_
    refine j_iload_n X (i := 2) dL_paceFor_4 rfl rfl ?_
    refine j_callV2 X 8 (m_X8_paceFor hl hL  h) ml_L_88 im_yX8_paceFor se_yX8_paceFor in_X8 cd_yX8_paceFor hy_yX8_paceFor dL_paceFor_5 rfl (inL hL t_0 (by decide)) (FW8 hL t_0) ⟨(by decide), (by decide)⟩ ⟨(by decide), (by decide)⟩ (Nat.le_of_ble_eq_true rfl) (fun E hE => ?_) (fun r9 L9 f9 h9 => ?_)
    · obtain ⟨k, hk, hE⟩ := hE
      subst hk
      dsimp only at hR
      by_cases h1 : k = 3
      · subst h1
        rw [if_pos rfl] at hR
        subst hE
        refine jx_catch X [] ⟨0, 10, 13, 29⟩ [⟨0, 10, 17, 19⟩] rfl (fun _ h => absurd h List.not_mem_nil) rfl (by decide) cl_L_29 (List.mem_of_getElem? (i := 2) rfl) (fun q => ?_)
        refine j_astore X dL_paceFor_13 (by decide) (lvOK_s rfl okPrev_ref) ?_
        dsimp only [List.set]
        refine j_iconst X (1) dL_paceFor_15 (by decide) ?_
        exact q_iret X hQ dL_paceFor_16 rfl ⟨(by decide), (by decide)⟩ (oinj3 hR rfl rfl rfl)
      · rw [if_neg h1] at hR
        by_cases h1 : k = 2
        · subst h1
          rw [if_pos rfl] at hR
          subst hE
          refine jx_catch X [⟨0, 10, 13, 29⟩] ⟨0, 10, 17, 19⟩ [] rfl (List.forall_mem_cons.mpr ⟨Or.inr ⟨(by decide), _, cl_L_29, List.mem_of_getElem? (i := 0) rfl⟩, (fun _ h => absurd h List.not_mem_nil)⟩) rfl (by decide) cl_L_19 (List.mem_of_getElem? (i := 1) rfl) (fun q => ?_)
          refine j_astore X dL_paceFor_17 (by decide) (lvOK_s rfl okPrev_ref) ?_
          dsimp only [List.set]
          refine j_iconst X (2) dL_paceFor_19 (by decide) ?_
          exact q_iret X hQ dL_paceFor_20 rfl ⟨(by decide), (by decide)⟩ (oinj3 hR rfl rfl rfl)
        · rw [if_neg h1] at hR
          cases hR
    · obtain ⟨h91, v9, a9, hk, h92, h93⟩ := h9
      subst hk
      subst r9
      subst f9
      subst L9
      dsimp only [Option.toList, List.cons_append, List.nil_append, List.append]
      dsimp only at hR
      refine j_i2l X dL_paceFor_8 ?_
      refine t_last105 X hL hL7 (x := v9) rfl rfl dL_paceFor_9 ?_
      refine j_goto X (tgt := 21) dL_paceFor_10 (by decide) ?_
      refine j_iconst X (0) dL_paceFor_21 (by decide) ?_
      exact q_iret X hQ dL_paceFor_22 rfl ⟨(by decide), (by decide)⟩ (oinj3 hR rfl rfl rfl)
def f_L_needs (N : Nat) (p0 : Int32) (p1 : Int32) (p2 : Int32) (a c : Mem) : Option (Int32 × Mem × Mem) := match f_X8_needs N p0 p1 p2 a with | none => none | some (.error k) => (if k = 3 then some (1, a, c) else if k = 2 then some (2, a, c) else none) | some (.ok q) => (some (0, q.2, upR c 0 (upd (c 0) 0 q.1)))
set_option maxRecDepth 100000 in
set_option maxHeartbeats 4000000 in
theorem m_L_needs {l : Launch} (hl : l.stackTraces = false) {G : GG} {L : List Nat} (hL : LOK L) (hL7 : L.length = 107) {a b c : Mem} {N : Nat} {p0 : Int32} {p1 : Int32} {p2 : Int32} {v : Int32} {a' c' : Mem} (hR : f_L_needs N p0 p1 p2 a c = some (v, a', c')) : Ct l G yL_needs (.codeWith yL_needs cL_needs 6 (some .int) [((0 : Nat), (12 : Nat), (15 : Nat), (29 : Nat)), ((0 : Nat), (12 : Nat), (19 : Nat), (19 : Nat))]) 8 179 3 18 [.ref (ad L 0), .int p0, .int p1, .int p2, .ref (ad L 105)] L (FW G L a b c) px0 (stay L (fun r f1 => f1 = FW G L a' b c' ∧ r = some (.int v))) := by
  refine Ct.ofH (own := RL) [⟨0, 12, 15, 29⟩, ⟨0, 12, 19, 19⟩] rfl hl rfl (by decide) [some (.ref (ad L 0)), some (.int p0), some (.int p1), some (.int p2), some (.ref (ad L 105)), none] rfl (Nat.le_of_ble_eq_true rfl) ?_
  intro p e s m below meth c9 A ar Q hQ X
  unfold f_L_needs at hR
  cases h : f_X8_needs N p0 p1 p2 a with
  | none =>
    rw [h] at hR
    cases hR
  | some R =>
    rw [h] at hR
    refine j_aload X dL_needs_0 rfl ?_
    refine j_iconst X (0) dL_needs_2 (by decide) ?_
    refine j_aload_n X (i := 0) dL_needs_3 rfl rfl ?_
    refine j_iload_n X (i := 1) dL_needs_4 rfl rfl ?_
    refine j_iload_n X (i := 2) dL_needs_5 rfl rfl ?_
    refine j_iload_n X (i := 3) dL_needs_6 rfl rfl ?_
    refine j_callV3 X 8 (m_X8_needs hl hL  h) ml_L_91 im_yX8_needs se_yX8_needs in_X8 cd_yX8_needs hy_yX8_needs dL_needs_7 rfl (inL hL t_0 (by decide)) (FW8 hL t_0) ⟨(by decide), (by decide)⟩ ⟨(by decide), (by decide)⟩ (Nat.le_of_ble_eq_true rfl) (fun E hE => ?_) (fun r9 L9 f9 h9 => ?_)
    · obtain ⟨k, hk, hE⟩ := hE
      subst hk
      dsimp only at hR
      by_cases h1 : k = 3
      · subst h1
        rw [if_pos rfl] at hR
        subst hE
        refine jx_catch X [] ⟨0, 12, 15, 29⟩ [⟨0, 12, 19, 19⟩] rfl (fun _ h => absurd h List.not_mem_nil) rfl (by decide) cl_L_29 (List.mem_of_getElem? (i := 2) rfl) (fun q => ?_)
        refine j_astore X dL_needs_15 (by decide) (lvOK_s rfl okPrev_ref) ?_
        dsimp only [List.set]
        refine j_iconst X (1) dL_needs_17 (by decide) ?_
        exact q_iret X hQ dL_needs_18 rfl ⟨(by decide), (by decide)⟩ (oinj3 hR rfl rfl rfl)
      · rw [if_neg h1] at hR
        by_cases h1 : k = 2
        · subst h1
          rw [if_pos rfl] at hR
          subst hE
          refine jx_catch X [⟨0, 12, 15, 29⟩] ⟨0, 12, 19, 19⟩ [] rfl (List.forall_mem_cons.mpr ⟨Or.inr ⟨(by decide), _, cl_L_29, List.mem_of_getElem? (i := 0) rfl⟩, (fun _ h => absurd h List.not_mem_nil)⟩) rfl (by decide) cl_L_19 (List.mem_of_getElem? (i := 1) rfl) (fun q => ?_)
          refine j_astore X dL_needs_19 (by decide) (lvOK_s rfl okPrev_ref) ?_
          dsimp only [List.set]
          refine j_iconst X (2) dL_needs_21 (by decide) ?_
          exact q_iret X hQ dL_needs_22 rfl ⟨(by decide), (by decide)⟩ (oinj3 hR rfl rfl rfl)
        · rw [if_neg h1] at hR
          cases hR
    · obtain ⟨h91, v9, a9, hk, h92, h93⟩ := h9
      subst hk
      subst r9
      subst f9
      subst L9
      dsimp only [Option.toList, List.cons_append, List.nil_append, List.append]
      dsimp only at hR
      refine j_i2l X dL_needs_10 ?_
      refine t_last105 X hL hL7 (x := v9) rfl rfl dL_needs_11 ?_
      refine j_goto X (tgt := 23) dL_needs_12 (by decide) ?_
      refine j_iconst X (0) dL_needs_23 (by decide) ?_
      exact q_iret X hQ dL_needs_24 rfl ⟨(by decide), (by decide)⟩ (oinj3 hR rfl rfl rfl)
def f_L_aheadAfter (N : Nat) (p0 : Int32) (p1 : Int32) (p2 : Int32) (a c : Mem) : Option (Int32 × Mem × Mem) := match f_X8_aheadAfter N p0 p1 p2 a with | none => none | some (.error k) => (if k = 2 then some (1, a, c) else none) | some (.ok q) => (some (0, q.2, upR c 0 (upd (c 0) 0 q.1)))
set_option maxRecDepth 100000 in
set_option maxHeartbeats 4000000 in
theorem m_L_aheadAfter {l : Launch} (hl : l.stackTraces = false) {G : GG} {L : List Nat} (hL : LOK L) (hL7 : L.length = 107) {a b c : Mem} {N : Nat} {p0 : Int32} {p1 : Int32} {p2 : Int32} {v : Int32} {a' c' : Mem} (hR : f_L_aheadAfter N p0 p1 p2 a c = some (v, a', c')) : Ct l G yL_aheadAfter (.codeWith yL_aheadAfter cL_aheadAfter 6 (some .int) [((0 : Nat), (12 : Nat), (15 : Nat), (19 : Nat))]) 8 172 3 18 [.ref (ad L 0), .int p0, .int p1, .int p2, .ref (ad L 105)] L (FW G L a b c) px0 (stay L (fun r f1 => f1 = FW G L a' b c' ∧ r = some (.int v))) := by
  refine Ct.ofH (own := RL) [⟨0, 12, 15, 19⟩] rfl hl rfl (by decide) [some (.ref (ad L 0)), some (.int p0), some (.int p1), some (.int p2), some (.ref (ad L 105)), none] rfl (Nat.le_of_ble_eq_true rfl) ?_
  intro p e s m below meth c9 A ar Q hQ X
  unfold f_L_aheadAfter at hR
  cases h : f_X8_aheadAfter N p0 p1 p2 a with
  | none =>
    rw [h] at hR
    cases hR
  | some R =>
    rw [h] at hR
    refine j_aload X dL_aheadAfter_0 rfl ?_
    refine j_iconst X (0) dL_aheadAfter_2 (by decide) ?_
    refine j_aload_n X (i := 0) dL_aheadAfter_3 rfl rfl ?_
    refine j_iload_n X (i := 1) dL_aheadAfter_4 rfl rfl ?_
    refine j_iload_n X (i := 2) dL_aheadAfter_5 rfl rfl ?_
    refine j_iload_n X (i := 3) dL_aheadAfter_6 rfl rfl ?_
    refine j_callV3 X 8 (m_X8_aheadAfter hl hL  h) ml_L_94 im_yX8_aheadAfter se_yX8_aheadAfter in_X8 cd_yX8_aheadAfter hy_yX8_aheadAfter dL_aheadAfter_7 rfl (inL hL t_0 (by decide)) (FW8 hL t_0) ⟨(by decide), (by decide)⟩ ⟨(by decide), (by decide)⟩ (Nat.le_of_ble_eq_true rfl) (fun E hE => ?_) (fun r9 L9 f9 h9 => ?_)
    · obtain ⟨k, hk, hE⟩ := hE
      subst hk
      dsimp only at hR
      by_cases h1 : k = 2
      · subst h1
        rw [if_pos rfl] at hR
        subst hE
        refine jx_catch X [] ⟨0, 12, 15, 19⟩ [] rfl (fun _ h => absurd h List.not_mem_nil) rfl (by decide) cl_L_19 (List.mem_of_getElem? (i := 1) rfl) (fun q => ?_)
        refine j_astore X dL_aheadAfter_15 (by decide) (lvOK_s rfl okPrev_ref) ?_
        dsimp only [List.set]
        refine j_iconst X (1) dL_aheadAfter_17 (by decide) ?_
        exact q_iret X hQ dL_aheadAfter_18 rfl ⟨(by decide), (by decide)⟩ (oinj3 hR rfl rfl rfl)
      · rw [if_neg h1] at hR
        cases hR
    · obtain ⟨h91, v9, a9, hk, h92, h93⟩ := h9
      subst hk
      subst r9
      subst f9
      subst L9
      dsimp only [Option.toList, List.cons_append, List.nil_append, List.append]
      dsimp only at hR
      refine j_i2l X dL_aheadAfter_10 ?_
      refine t_last105 X hL hL7 (x := v9) rfl rfl dL_aheadAfter_11 ?_
      refine j_goto X (tgt := 19) dL_aheadAfter_12 (by decide) ?_
      refine j_iconst X (0) dL_aheadAfter_19 (by decide) ?_
      exact q_iret X hQ dL_aheadAfter_20 rfl ⟨(by decide), (by decide)⟩ (oinj3 hR rfl rfl rfl)
def f_L_start  (a c : Mem) : Option (Int32 × Mem × Mem) := match f_X8_start  a with | none => none | some (.error k) => (if k = 1 then some (1, a, c) else none) | some (.ok q) => (some (0, q.2, upR c 0 (upd (c 0) 0 q.1)))
set_option maxRecDepth 100000 in
set_option maxHeartbeats 4000000 in
theorem m_L_start {l : Launch} (hl : l.stackTraces = false) {G : GG} {L : List Nat} (hL : LOK L) (hL7 : L.length = 107) {a b c : Mem}  {v : Int32} {a' c' : Mem} (hR : f_L_start  a c = some (v, a', c')) : Ct l G yL_start (.codeWith yL_start cL_start 3 (some .int) [((0 : Nat), (8 : Nat), (11 : Nat), (13 : Nat))]) 7 164 1 6 [.ref (ad L 0), .ref (ad L 105)] L (FW G L a b c) px0 (stay L (fun r f1 => f1 = FW G L a' b c' ∧ r = some (.int v))) := by
  refine Ct.ofH (own := RL) [⟨0, 8, 11, 13⟩] rfl hl rfl (by decide) [some (.ref (ad L 0)), some (.ref (ad L 105)), none] rfl (Nat.le_of_ble_eq_true rfl) ?_
  intro p e s m below meth c9 A ar Q hQ X
  unfold f_L_start at hR
  cases h : f_X8_start  a with
  | none =>
    rw [h] at hR
    cases hR
  | some R =>
    rw [h] at hR
    refine j_aload_n X (i := 1) dL_start_0 rfl rfl ?_
    refine j_iconst X (0) dL_start_1 (by decide) ?_
    refine j_aload_n X (i := 0) dL_start_2 rfl rfl ?_
    refine j_callV0 X 8 (m_X8_start hl hL  h) ml_L_97 im_yX8_start se_yX8_start in_X8 cd_yX8_start hy_yX8_start dL_start_3 rfl (inL hL t_0 (by decide)) (FW8 hL t_0) ⟨(by decide), (by decide)⟩ ⟨(by decide), (by decide)⟩ (Nat.le_of_ble_eq_true rfl) (fun E hE => ?_) (fun r9 L9 f9 h9 => ?_)
    · obtain ⟨k, hk, hE⟩ := hE
      subst hk
      dsimp only at hR
      by_cases h1 : k = 1
      · subst h1
        rw [if_pos rfl] at hR
        subst hE
        refine jx_catch X [] ⟨0, 8, 11, 13⟩ [] rfl (fun _ h => absurd h List.not_mem_nil) rfl (by decide) cl_L_13 (List.mem_of_getElem? (i := 0) rfl) (fun q => ?_)
        refine j_astore_n X (i := 2) dL_start_11 rfl (by decide) (lvOK_s rfl okPrev_ref) ?_
        dsimp only [List.set]
        refine j_iconst X (1) dL_start_12 (by decide) ?_
        exact q_iret X hQ dL_start_13 rfl ⟨(by decide), (by decide)⟩ (oinj3 hR rfl rfl rfl)
      · rw [if_neg h1] at hR
        cases hR
    · obtain ⟨h91, v9, a9, hk, h92, h93⟩ := h9
      subst hk
      subst r9
      subst f9
      subst L9
      dsimp only [Option.toList, List.cons_append, List.nil_append, List.append]
      dsimp only at hR
      refine j_i2l X dL_start_6 ?_
      refine t_last105 X hL hL7 (x := v9) rfl rfl dL_start_7 ?_
      refine j_goto X (tgt := 14) dL_start_8 (by decide) ?_
      refine j_iconst X (0) dL_start_14 (by decide) ?_
      exact q_iret X hQ dL_start_15 rfl ⟨(by decide), (by decide)⟩ (oinj3 hR rfl rfl rfl)
def f_L_tick (N : Nat) (p0 : Int32) (a c : Mem) : Option (Int32 × Mem × Mem) := match f_X8_tick N p0 a with | none => none | some (.error k) => (if k = 2 then some (1, a, c) else none) | some (.ok q) => (some (0, q.2, upR c 0 (upd (c 0) 0 q.1)))
set_option maxRecDepth 100000 in
set_option maxHeartbeats 4000000 in
theorem m_L_tick {l : Launch} (hl : l.stackTraces = false) {G : GG} {L : List Nat} (hL : LOK L) (hL7 : L.length = 107) {a b c : Mem} {N : Nat} {p0 : Int32} {v : Int32} {a' c' : Mem} (hR : f_L_tick N p0 a c = some (v, a', c')) : Ct l G yL_tick (.codeWith yL_tick cL_tick 4 (some .int) [((0 : Nat), (9 : Nat), (12 : Nat), (19 : Nat))]) 7 165 1 6 [.ref (ad L 0), .int p0, .ref (ad L 105)] L (FW G L a b c) px0 (stay L (fun r f1 => f1 = FW G L a' b c' ∧ r = some (.int v))) := by
  refine Ct.ofH (own := RL) [⟨0, 9, 12, 19⟩] rfl hl rfl (by decide) [some (.ref (ad L 0)), some (.int p0), some (.ref (ad L 105)), none] rfl (Nat.le_of_ble_eq_true rfl) ?_
  intro p e s m below meth c9 A ar Q hQ X
  unfold f_L_tick at hR
  cases h : f_X8_tick N p0 a with
  | none =>
    rw [h] at hR
    cases hR
  | some R =>
    rw [h] at hR
    refine j_aload_n X (i := 2) dL_tick_0 rfl rfl ?_
    refine j_iconst X (0) dL_tick_1 (by decide) ?_
    refine j_aload_n X (i := 0) dL_tick_2 rfl rfl ?_
    refine j_iload_n X (i := 1) dL_tick_3 rfl rfl ?_
    refine j_callV1 X 8 (m_X8_tick hl hL  h) ml_L_101 im_yX8_tick se_yX8_tick in_X8 cd_yX8_tick hy_yX8_tick dL_tick_4 rfl (inL hL t_0 (by decide)) (FW8 hL t_0) ⟨(by decide), (by decide)⟩ ⟨(by decide), (by decide)⟩ (Nat.le_of_ble_eq_true rfl) (fun E hE => ?_) (fun r9 L9 f9 h9 => ?_)
    · obtain ⟨k, hk, hE⟩ := hE
      subst hk
      dsimp only at hR
      by_cases h1 : k = 2
      · subst h1
        rw [if_pos rfl] at hR
        subst hE
        refine jx_catch X [] ⟨0, 9, 12, 19⟩ [] rfl (fun _ h => absurd h List.not_mem_nil) rfl (by decide) cl_L_19 (List.mem_of_getElem? (i := 1) rfl) (fun q => ?_)
        refine j_astore_n X (i := 3) dL_tick_12 rfl (by decide) (lvOK_s rfl okPrev_ref) ?_
        dsimp only [List.set]
        refine j_iconst X (1) dL_tick_13 (by decide) ?_
        exact q_iret X hQ dL_tick_14 rfl ⟨(by decide), (by decide)⟩ (oinj3 hR rfl rfl rfl)
      · rw [if_neg h1] at hR
        cases hR
    · obtain ⟨h91, v9, a9, hk, h92, h93⟩ := h9
      subst hk
      subst r9
      subst f9
      subst L9
      dsimp only [Option.toList, List.cons_append, List.nil_append, List.append]
      dsimp only at hR
      refine j_i2l X dL_tick_7 ?_
      refine t_last105 X hL hL7 (x := v9) rfl rfl dL_tick_8 ?_
      refine j_goto X (tgt := 15) dL_tick_9 (by decide) ?_
      refine j_iconst X (0) dL_tick_15 (by decide) ?_
      exact q_iret X hQ dL_tick_16 rfl ⟨(by decide), (by decide)⟩ (oinj3 hR rfl rfl rfl)
def f_L_move  (a c : Mem) : Option (Int32 × Mem × Mem) := match f_X8_move  a with | none => none | some (.error k) => (if k = 1 then some (1, a, c) else none) | some (.ok q) => (some (0, q.2, upR c 0 (upd (c 0) 0 q.1)))
set_option maxRecDepth 100000 in
set_option maxHeartbeats 4000000 in
theorem m_L_move {l : Launch} (hl : l.stackTraces = false) {G : GG} {L : List Nat} (hL : LOK L) (hL7 : L.length = 107) {a b c : Mem}  {v : Int32} {a' c' : Mem} (hR : f_L_move  a c = some (v, a', c')) : Ct l G yL_move (.codeWith yL_move cL_move 3 (some .int) [((0 : Nat), (8 : Nat), (11 : Nat), (13 : Nat))]) 7 164 1 6 [.ref (ad L 0), .ref (ad L 105)] L (FW G L a b c) px0 (stay L (fun r f1 => f1 = FW G L a' b c' ∧ r = some (.int v))) := by
  refine Ct.ofH (own := RL) [⟨0, 8, 11, 13⟩] rfl hl rfl (by decide) [some (.ref (ad L 0)), some (.ref (ad L 105)), none] rfl (Nat.le_of_ble_eq_true rfl) ?_
  intro p e s m below meth c9 A ar Q hQ X
  unfold f_L_move at hR
  cases h : f_X8_move  a with
  | none =>
    rw [h] at hR
    cases hR
  | some R =>
    rw [h] at hR
    refine j_aload_n X (i := 1) dL_move_0 rfl rfl ?_
    refine j_iconst X (0) dL_move_1 (by decide) ?_
    refine j_aload_n X (i := 0) dL_move_2 rfl rfl ?_
    refine j_callV0 X 8 (m_X8_move hl hL  h) ml_L_104 im_yX8_move se_yX8_move in_X8 cd_yX8_move hy_yX8_move dL_move_3 rfl (inL hL t_0 (by decide)) (FW8 hL t_0) ⟨(by decide), (by decide)⟩ ⟨(by decide), (by decide)⟩ (Nat.le_of_ble_eq_true rfl) (fun E hE => ?_) (fun r9 L9 f9 h9 => ?_)
    · obtain ⟨k, hk, hE⟩ := hE
      subst hk
      dsimp only at hR
      by_cases h1 : k = 1
      · subst h1
        rw [if_pos rfl] at hR
        subst hE
        refine jx_catch X [] ⟨0, 8, 11, 13⟩ [] rfl (fun _ h => absurd h List.not_mem_nil) rfl (by decide) cl_L_13 (List.mem_of_getElem? (i := 0) rfl) (fun q => ?_)
        refine j_astore_n X (i := 2) dL_move_11 rfl (by decide) (lvOK_s rfl okPrev_ref) ?_
        dsimp only [List.set]
        refine j_iconst X (1) dL_move_12 (by decide) ?_
        exact q_iret X hQ dL_move_13 rfl ⟨(by decide), (by decide)⟩ (oinj3 hR rfl rfl rfl)
      · rw [if_neg h1] at hR
        cases hR
    · obtain ⟨h91, v9, a9, hk, h92, h93⟩ := h9
      subst hk
      subst r9
      subst f9
      subst L9
      dsimp only [Option.toList, List.cons_append, List.nil_append, List.append]
      dsimp only at hR
      refine j_i2l X dL_move_6 ?_
      refine t_last105 X hL hL7 (x := v9) rfl rfl dL_move_7 ?_
      refine j_goto X (tgt := 14) dL_move_8 (by decide) ?_
      refine j_iconst X (0) dL_move_14 (by decide) ?_
      exact q_iret X hQ dL_move_15 rfl ⟨(by decide), (by decide)⟩ (oinj3 hR rfl rfl rfl)
def f_L_pause  (a c : Mem) : Option (Int32 × Mem × Mem) := match f_X8_pause  a with | none => none | some (.error k) => (if k = 1 then some (1, a, c) else none) | some (.ok q) => (some (0, q.2, upR c 0 (upd (c 0) 0 q.1)))
set_option maxRecDepth 100000 in
set_option maxHeartbeats 4000000 in
theorem m_L_pause {l : Launch} (hl : l.stackTraces = false) {G : GG} {L : List Nat} (hL : LOK L) (hL7 : L.length = 107) {a b c : Mem}  {v : Int32} {a' c' : Mem} (hR : f_L_pause  a c = some (v, a', c')) : Ct l G yL_pause (.codeWith yL_pause cL_pause 3 (some .int) [((0 : Nat), (8 : Nat), (11 : Nat), (13 : Nat))]) 7 164 1 6 [.ref (ad L 0), .ref (ad L 105)] L (FW G L a b c) px0 (stay L (fun r f1 => f1 = FW G L a' b c' ∧ r = some (.int v))) := by
  refine Ct.ofH (own := RL) [⟨0, 8, 11, 13⟩] rfl hl rfl (by decide) [some (.ref (ad L 0)), some (.ref (ad L 105)), none] rfl (Nat.le_of_ble_eq_true rfl) ?_
  intro p e s m below meth c9 A ar Q hQ X
  unfold f_L_pause at hR
  cases h : f_X8_pause  a with
  | none =>
    rw [h] at hR
    cases hR
  | some R =>
    rw [h] at hR
    refine j_aload_n X (i := 1) dL_pause_0 rfl rfl ?_
    refine j_iconst X (0) dL_pause_1 (by decide) ?_
    refine j_aload_n X (i := 0) dL_pause_2 rfl rfl ?_
    refine j_callV0 X 8 (m_X8_pause hl hL  h) ml_L_107 im_yX8_pause se_yX8_pause in_X8 cd_yX8_pause hy_yX8_pause dL_pause_3 rfl (inL hL t_0 (by decide)) (FW8 hL t_0) ⟨(by decide), (by decide)⟩ ⟨(by decide), (by decide)⟩ (Nat.le_of_ble_eq_true rfl) (fun E hE => ?_) (fun r9 L9 f9 h9 => ?_)
    · obtain ⟨k, hk, hE⟩ := hE
      subst hk
      dsimp only at hR
      by_cases h1 : k = 1
      · subst h1
        rw [if_pos rfl] at hR
        subst hE
        refine jx_catch X [] ⟨0, 8, 11, 13⟩ [] rfl (fun _ h => absurd h List.not_mem_nil) rfl (by decide) cl_L_13 (List.mem_of_getElem? (i := 0) rfl) (fun q => ?_)
        refine j_astore_n X (i := 2) dL_pause_11 rfl (by decide) (lvOK_s rfl okPrev_ref) ?_
        dsimp only [List.set]
        refine j_iconst X (1) dL_pause_12 (by decide) ?_
        exact q_iret X hQ dL_pause_13 rfl ⟨(by decide), (by decide)⟩ (oinj3 hR rfl rfl rfl)
      · rw [if_neg h1] at hR
        cases hR
    · obtain ⟨h91, v9, a9, hk, h92, h93⟩ := h9
      subst hk
      subst r9
      subst f9
      subst L9
      dsimp only [Option.toList, List.cons_append, List.nil_append, List.append]
      dsimp only at hR
      refine j_i2l X dL_pause_6 ?_
      refine t_last105 X hL hL7 (x := v9) rfl rfl dL_pause_7 ?_
      refine j_goto X (tgt := 14) dL_pause_8 (by decide) ?_
      refine j_iconst X (0) dL_pause_14 (by decide) ?_
      exact q_iret X hQ dL_pause_15 rfl ⟨(by decide), (by decide)⟩ (oinj3 hR rfl rfl rfl)
def f_L_proceed  (a c : Mem) : Option (Int32 × Mem × Mem) := match f_X8_proceed  a with | none => none | some (.error k) => (if k = 1 then some (1, a, c) else none) | some (.ok q) => (some (0, q.2, upR c 0 (upd (c 0) 0 q.1)))
set_option maxRecDepth 100000 in
set_option maxHeartbeats 4000000 in
theorem m_L_proceed {l : Launch} (hl : l.stackTraces = false) {G : GG} {L : List Nat} (hL : LOK L) (hL7 : L.length = 107) {a b c : Mem}  {v : Int32} {a' c' : Mem} (hR : f_L_proceed  a c = some (v, a', c')) : Ct l G yL_proceed (.codeWith yL_proceed cL_proceed 3 (some .int) [((0 : Nat), (8 : Nat), (11 : Nat), (13 : Nat))]) 7 164 1 6 [.ref (ad L 0), .ref (ad L 105)] L (FW G L a b c) px0 (stay L (fun r f1 => f1 = FW G L a' b c' ∧ r = some (.int v))) := by
  refine Ct.ofH (own := RL) [⟨0, 8, 11, 13⟩] rfl hl rfl (by decide) [some (.ref (ad L 0)), some (.ref (ad L 105)), none] rfl (Nat.le_of_ble_eq_true rfl) ?_
  intro p e s m below meth c9 A ar Q hQ X
  unfold f_L_proceed at hR
  cases h : f_X8_proceed  a with
  | none =>
    rw [h] at hR
    cases hR
  | some R =>
    rw [h] at hR
    refine j_aload_n X (i := 1) dL_proceed_0 rfl rfl ?_
    refine j_iconst X (0) dL_proceed_1 (by decide) ?_
    refine j_aload_n X (i := 0) dL_proceed_2 rfl rfl ?_
    refine j_callV0 X 8 (m_X8_proceed hl hL  h) ml_L_110 im_yX8_proceed se_yX8_proceed in_X8 cd_yX8_proceed hy_yX8_proceed dL_proceed_3 rfl (inL hL t_0 (by decide)) (FW8 hL t_0) ⟨(by decide), (by decide)⟩ ⟨(by decide), (by decide)⟩ (Nat.le_of_ble_eq_true rfl) (fun E hE => ?_) (fun r9 L9 f9 h9 => ?_)
    · obtain ⟨k, hk, hE⟩ := hE
      subst hk
      dsimp only at hR
      by_cases h1 : k = 1
      · subst h1
        rw [if_pos rfl] at hR
        subst hE
        refine jx_catch X [] ⟨0, 8, 11, 13⟩ [] rfl (fun _ h => absurd h List.not_mem_nil) rfl (by decide) cl_L_13 (List.mem_of_getElem? (i := 0) rfl) (fun q => ?_)
        refine j_astore_n X (i := 2) dL_proceed_11 rfl (by decide) (lvOK_s rfl okPrev_ref) ?_
        dsimp only [List.set]
        refine j_iconst X (1) dL_proceed_12 (by decide) ?_
        exact q_iret X hQ dL_proceed_13 rfl ⟨(by decide), (by decide)⟩ (oinj3 hR rfl rfl rfl)
      · rw [if_neg h1] at hR
        cases hR
    · obtain ⟨h91, v9, a9, hk, h92, h93⟩ := h9
      subst hk
      subst r9
      subst f9
      subst L9
      dsimp only [Option.toList, List.cons_append, List.nil_append, List.append]
      dsimp only at hR
      refine j_i2l X dL_proceed_6 ?_
      refine t_last105 X hL hL7 (x := v9) rfl rfl dL_proceed_7 ?_
      refine j_goto X (tgt := 14) dL_proceed_8 (by decide) ?_
      refine j_iconst X (0) dL_proceed_14 (by decide) ?_
      exact q_iret X hQ dL_proceed_15 rfl ⟨(by decide), (by decide)⟩ (oinj3 hR rfl rfl rfl)
def f_L_seal  (a c : Mem) : Option (Int32 × Mem × Mem) := match f_X8_seal  a with | none => none | some (.error k) => (if k = 1 then some (1, a, c) else none) | some (.ok q) => (some (0, q.2, upR c 0 (upd (c 0) 0 q.1)))
set_option maxRecDepth 100000 in
set_option maxHeartbeats 4000000 in
theorem m_L_seal {l : Launch} (hl : l.stackTraces = false) {G : GG} {L : List Nat} (hL : LOK L) (hL7 : L.length = 107) {a b c : Mem}  {v : Int32} {a' c' : Mem} (hR : f_L_seal  a c = some (v, a', c')) : Ct l G yL_seal (.codeWith yL_seal cL_seal 3 (some .int) [((0 : Nat), (8 : Nat), (11 : Nat), (13 : Nat))]) 7 164 1 6 [.ref (ad L 0), .ref (ad L 105)] L (FW G L a b c) px0 (stay L (fun r f1 => f1 = FW G L a' b c' ∧ r = some (.int v))) := by
  refine Ct.ofH (own := RL) [⟨0, 8, 11, 13⟩] rfl hl rfl (by decide) [some (.ref (ad L 0)), some (.ref (ad L 105)), none] rfl (Nat.le_of_ble_eq_true rfl) ?_
  intro p e s m below meth c9 A ar Q hQ X
  unfold f_L_seal at hR
  cases h : f_X8_seal  a with
  | none =>
    rw [h] at hR
    cases hR
  | some R =>
    rw [h] at hR
    refine j_aload_n X (i := 1) dL_seal_0 rfl rfl ?_
    refine j_iconst X (0) dL_seal_1 (by decide) ?_
    refine j_aload_n X (i := 0) dL_seal_2 rfl rfl ?_
    refine j_callV0 X 8 (m_X8_seal hl hL  h) ml_L_113 im_yX8_seal se_yX8_seal in_X8 cd_yX8_seal hy_yX8_seal dL_seal_3 rfl (inL hL t_0 (by decide)) (FW8 hL t_0) ⟨(by decide), (by decide)⟩ ⟨(by decide), (by decide)⟩ (Nat.le_of_ble_eq_true rfl) (fun E hE => ?_) (fun r9 L9 f9 h9 => ?_)
    · obtain ⟨k, hk, hE⟩ := hE
      subst hk
      dsimp only at hR
      by_cases h1 : k = 1
      · subst h1
        rw [if_pos rfl] at hR
        subst hE
        refine jx_catch X [] ⟨0, 8, 11, 13⟩ [] rfl (fun _ h => absurd h List.not_mem_nil) rfl (by decide) cl_L_13 (List.mem_of_getElem? (i := 0) rfl) (fun q => ?_)
        refine j_astore_n X (i := 2) dL_seal_11 rfl (by decide) (lvOK_s rfl okPrev_ref) ?_
        dsimp only [List.set]
        refine j_iconst X (1) dL_seal_12 (by decide) ?_
        exact q_iret X hQ dL_seal_13 rfl ⟨(by decide), (by decide)⟩ (oinj3 hR rfl rfl rfl)
      · rw [if_neg h1] at hR
        cases hR
    · obtain ⟨h91, v9, a9, hk, h92, h93⟩ := h9
      subst hk
      subst r9
      subst f9
      subst L9
      dsimp only [Option.toList, List.cons_append, List.nil_append, List.append]
      dsimp only at hR
      refine j_i2l X dL_seal_6 ?_
      refine t_last105 X hL hL7 (x := v9) rfl rfl dL_seal_7 ?_
      refine j_goto X (tgt := 14) dL_seal_8 (by decide) ?_
      refine j_iconst X (0) dL_seal_14 (by decide) ?_
      exact q_iret X hQ dL_seal_15 rfl ⟨(by decide), (by decide)⟩ (oinj3 hR rfl rfl rfl)
def f_L_open  (a c : Mem) : Option (Int32 × Mem × Mem) := match f_X8_open  a with | none => none | some (.error k) => (if k = 1 then some (1, a, c) else none) | some (.ok q) => (some (0, q.2, upR c 0 (upd (c 0) 0 q.1)))
set_option maxRecDepth 100000 in
set_option maxHeartbeats 4000000 in
theorem m_L_open {l : Launch} (hl : l.stackTraces = false) {G : GG} {L : List Nat} (hL : LOK L) (hL7 : L.length = 107) {a b c : Mem}  {v : Int32} {a' c' : Mem} (hR : f_L_open  a c = some (v, a', c')) : Ct l G yL_open (.codeWith yL_open cL_open 3 (some .int) [((0 : Nat), (8 : Nat), (11 : Nat), (13 : Nat))]) 7 164 1 6 [.ref (ad L 0), .ref (ad L 105)] L (FW G L a b c) px0 (stay L (fun r f1 => f1 = FW G L a' b c' ∧ r = some (.int v))) := by
  refine Ct.ofH (own := RL) [⟨0, 8, 11, 13⟩] rfl hl rfl (by decide) [some (.ref (ad L 0)), some (.ref (ad L 105)), none] rfl (Nat.le_of_ble_eq_true rfl) ?_
  intro p e s m below meth c9 A ar Q hQ X
  unfold f_L_open at hR
  cases h : f_X8_open  a with
  | none =>
    rw [h] at hR
    cases hR
  | some R =>
    rw [h] at hR
    refine j_aload_n X (i := 1) dL_open_0 rfl rfl ?_
    refine j_iconst X (0) dL_open_1 (by decide) ?_
    refine j_aload_n X (i := 0) dL_open_2 rfl rfl ?_
    refine j_callV0 X 8 (m_X8_open hl hL  h) ml_L_116 im_yX8_open se_yX8_open in_X8 cd_yX8_open hy_yX8_open dL_open_3 rfl (inL hL t_0 (by decide)) (FW8 hL t_0) ⟨(by decide), (by decide)⟩ ⟨(by decide), (by decide)⟩ (Nat.le_of_ble_eq_true rfl) (fun E hE => ?_) (fun r9 L9 f9 h9 => ?_)
    · obtain ⟨k, hk, hE⟩ := hE
      subst hk
      dsimp only at hR
      by_cases h1 : k = 1
      · subst h1
        rw [if_pos rfl] at hR
        subst hE
        refine jx_catch X [] ⟨0, 8, 11, 13⟩ [] rfl (fun _ h => absurd h List.not_mem_nil) rfl (by decide) cl_L_13 (List.mem_of_getElem? (i := 0) rfl) (fun q => ?_)
        refine j_astore_n X (i := 2) dL_open_11 rfl (by decide) (lvOK_s rfl okPrev_ref) ?_
        dsimp only [List.set]
        refine j_iconst X (1) dL_open_12 (by decide) ?_
        exact q_iret X hQ dL_open_13 rfl ⟨(by decide), (by decide)⟩ (oinj3 hR rfl rfl rfl)
      · rw [if_neg h1] at hR
        cases hR
    · obtain ⟨h91, v9, a9, hk, h92, h93⟩ := h9
      subst hk
      subst r9
      subst f9
      subst L9
      dsimp only [Option.toList, List.cons_append, List.nil_append, List.append]
      dsimp only at hR
      refine j_i2l X dL_open_6 ?_
      refine t_last105 X hL hL7 (x := v9) rfl rfl dL_open_7 ?_
      refine j_goto X (tgt := 14) dL_open_8 (by decide) ?_
      refine j_iconst X (0) dL_open_14 (by decide) ?_
      exact q_iret X hQ dL_open_15 rfl ⟨(by decide), (by decide)⟩ (oinj3 hR rfl rfl rfl)
def f_L_claim (p0 : Int32) (a c : Mem) : Option (Int32 × Mem × Mem) := match f_X8_claim p0 a with | none => none | some (.error k) => (if k = 3 then some (1, a, c) else if k = 1 then some (2, a, c) else none) | some (.ok q) => (some (0, q.2, upR c 0 (upd (c 0) 0 q.1)))
set_option maxRecDepth 100000 in
set_option maxHeartbeats 4000000 in
theorem m_L_claim {l : Launch} (hl : l.stackTraces = false) {G : GG} {L : List Nat} (hL : LOK L) (hL7 : L.length = 107) {a b c : Mem} {p0 : Int32} {v : Int32} {a' c' : Mem} (hR : f_L_claim p0 a c = some (v, a', c')) : Ct l G yL_claim (.codeWith yL_claim cL_claim 4 (some .int) [((0 : Nat), (9 : Nat), (12 : Nat), (29 : Nat)), ((0 : Nat), (9 : Nat), (15 : Nat), (13 : Nat))]) 8 165 2 12 [.ref (ad L 0), .int p0, .ref (ad L 105)] L (FW G L a b c) px0 (stay L (fun r f1 => f1 = FW G L a' b c' ∧ r = some (.int v))) := by
  refine Ct.ofH (own := RL) [⟨0, 9, 12, 29⟩, ⟨0, 9, 15, 13⟩] rfl hl rfl (by decide) [some (.ref (ad L 0)), some (.int p0), some (.ref (ad L 105)), none] rfl (Nat.le_of_ble_eq_true rfl) ?_
  intro p e s m below meth c9 A ar Q hQ X
  unfold f_L_claim at hR
  cases h : f_X8_claim p0 a with
  | none =>
    rw [h] at hR
    cases hR
  | some R =>
    rw [h] at hR
    refine j_aload_n X (i := 2) dL_claim_0 rfl rfl ?_
    refine j_iconst X (0) dL_claim_1 (by decide) ?_
    refine j_aload_n X (i := 0) dL_claim_2 rfl rfl ?_
    refine j_iload_n X (i := 1) dL_claim_3 rfl rfl ?_
    refine j_callV1 X 8 (m_X8_claim hl hL  h) ml_L_119 im_yX8_claim se_yX8_claim in_X8 cd_yX8_claim hy_yX8_claim dL_claim_4 rfl (inL hL t_0 (by decide)) (FW8 hL t_0) ⟨(by decide), (by decide)⟩ ⟨(by decide), (by decide)⟩ (Nat.le_of_ble_eq_true rfl) (fun E hE => ?_) (fun r9 L9 f9 h9 => ?_)
    · obtain ⟨k, hk, hE⟩ := hE
      subst hk
      dsimp only at hR
      by_cases h1 : k = 3
      · subst h1
        rw [if_pos rfl] at hR
        subst hE
        refine jx_catch X [] ⟨0, 9, 12, 29⟩ [⟨0, 9, 15, 13⟩] rfl (fun _ h => absurd h List.not_mem_nil) rfl (by decide) cl_L_29 (List.mem_of_getElem? (i := 2) rfl) (fun q => ?_)
        refine j_astore_n X (i := 3) dL_claim_12 rfl (by decide) (lvOK_s rfl okPrev_ref) ?_
        dsimp only [List.set]
        refine j_iconst X (1) dL_claim_13 (by decide) ?_
        exact q_iret X hQ dL_claim_14 rfl ⟨(by decide), (by decide)⟩ (oinj3 hR rfl rfl rfl)
      · rw [if_neg h1] at hR
        by_cases h1 : k = 1
        · subst h1
          rw [if_pos rfl] at hR
          subst hE
          refine jx_catch X [⟨0, 9, 12, 29⟩] ⟨0, 9, 15, 13⟩ [] rfl (List.forall_mem_cons.mpr ⟨Or.inr ⟨(by decide), _, cl_L_29, List.mem_of_getElem? (i := 1) rfl⟩, (fun _ h => absurd h List.not_mem_nil)⟩) rfl (by decide) cl_L_13 (List.mem_of_getElem? (i := 0) rfl) (fun q => ?_)
          refine j_astore_n X (i := 3) dL_claim_15 rfl (by decide) (lvOK_s rfl okPrev_ref) ?_
          dsimp only [List.set]
          refine j_iconst X (2) dL_claim_16 (by decide) ?_
          exact q_iret X hQ dL_claim_17 rfl ⟨(by decide), (by decide)⟩ (oinj3 hR rfl rfl rfl)
        · rw [if_neg h1] at hR
          cases hR
    · obtain ⟨h91, v9, a9, hk, h92, h93⟩ := h9
      subst hk
      subst r9
      subst f9
      subst L9
      dsimp only [Option.toList, List.cons_append, List.nil_append, List.append]
      dsimp only at hR
      refine j_i2l X dL_claim_7 ?_
      refine t_last105 X hL hL7 (x := v9) rfl rfl dL_claim_8 ?_
      refine j_goto X (tgt := 18) dL_claim_9 (by decide) ?_
      refine j_iconst X (0) dL_claim_18 (by decide) ?_
      exact q_iret X hQ dL_claim_19 rfl ⟨(by decide), (by decide)⟩ (oinj3 hR rfl rfl rfl)
def f_L_resign (p0 : Int32) (a c : Mem) : Option (Int32 × Mem × Mem) := match f_X8_resign p0 a with | none => none | some (.error k) => (if k = 3 then some (1, a, c) else if k = 1 then some (2, a, c) else none) | some (.ok q) => (some (0, q.2, upR c 0 (upd (c 0) 0 q.1)))
set_option maxRecDepth 100000 in
set_option maxHeartbeats 4000000 in
theorem m_L_resign {l : Launch} (hl : l.stackTraces = false) {G : GG} {L : List Nat} (hL : LOK L) (hL7 : L.length = 107) {a b c : Mem} {p0 : Int32} {v : Int32} {a' c' : Mem} (hR : f_L_resign p0 a c = some (v, a', c')) : Ct l G yL_resign (.codeWith yL_resign cL_resign 4 (some .int) [((0 : Nat), (9 : Nat), (12 : Nat), (29 : Nat)), ((0 : Nat), (9 : Nat), (15 : Nat), (13 : Nat))]) 8 165 2 12 [.ref (ad L 0), .int p0, .ref (ad L 105)] L (FW G L a b c) px0 (stay L (fun r f1 => f1 = FW G L a' b c' ∧ r = some (.int v))) := by
  refine Ct.ofH (own := RL) [⟨0, 9, 12, 29⟩, ⟨0, 9, 15, 13⟩] rfl hl rfl (by decide) [some (.ref (ad L 0)), some (.int p0), some (.ref (ad L 105)), none] rfl (Nat.le_of_ble_eq_true rfl) ?_
  intro p e s m below meth c9 A ar Q hQ X
  unfold f_L_resign at hR
  cases h : f_X8_resign p0 a with
  | none =>
    rw [h] at hR
    cases hR
  | some R =>
    rw [h] at hR
    refine j_aload_n X (i := 2) dL_resign_0 rfl rfl ?_
    refine j_iconst X (0) dL_resign_1 (by decide) ?_
    refine j_aload_n X (i := 0) dL_resign_2 rfl rfl ?_
    refine j_iload_n X (i := 1) dL_resign_3 rfl rfl ?_
    refine j_callV1 X 8 (m_X8_resign hl hL  h) ml_L_122 im_yX8_resign se_yX8_resign in_X8 cd_yX8_resign hy_yX8_resign dL_resign_4 rfl (inL hL t_0 (by decide)) (FW8 hL t_0) ⟨(by decide), (by decide)⟩ ⟨(by decide), (by decide)⟩ (Nat.le_of_ble_eq_true rfl) (fun E hE => ?_) (fun r9 L9 f9 h9 => ?_)
    · obtain ⟨k, hk, hE⟩ := hE
      subst hk
      dsimp only at hR
      by_cases h1 : k = 3
      · subst h1
        rw [if_pos rfl] at hR
        subst hE
        refine jx_catch X [] ⟨0, 9, 12, 29⟩ [⟨0, 9, 15, 13⟩] rfl (fun _ h => absurd h List.not_mem_nil) rfl (by decide) cl_L_29 (List.mem_of_getElem? (i := 2) rfl) (fun q => ?_)
        refine j_astore_n X (i := 3) dL_resign_12 rfl (by decide) (lvOK_s rfl okPrev_ref) ?_
        dsimp only [List.set]
        refine j_iconst X (1) dL_resign_13 (by decide) ?_
        exact q_iret X hQ dL_resign_14 rfl ⟨(by decide), (by decide)⟩ (oinj3 hR rfl rfl rfl)
      · rw [if_neg h1] at hR
        by_cases h1 : k = 1
        · subst h1
          rw [if_pos rfl] at hR
          subst hE
          refine jx_catch X [⟨0, 9, 12, 29⟩] ⟨0, 9, 15, 13⟩ [] rfl (List.forall_mem_cons.mpr ⟨Or.inr ⟨(by decide), _, cl_L_29, List.mem_of_getElem? (i := 1) rfl⟩, (fun _ h => absurd h List.not_mem_nil)⟩) rfl (by decide) cl_L_13 (List.mem_of_getElem? (i := 0) rfl) (fun q => ?_)
          refine j_astore_n X (i := 3) dL_resign_15 rfl (by decide) (lvOK_s rfl okPrev_ref) ?_
          dsimp only [List.set]
          refine j_iconst X (2) dL_resign_16 (by decide) ?_
          exact q_iret X hQ dL_resign_17 rfl ⟨(by decide), (by decide)⟩ (oinj3 hR rfl rfl rfl)
        · rw [if_neg h1] at hR
          cases hR
    · obtain ⟨h91, v9, a9, hk, h92, h93⟩ := h9
      subst hk
      subst r9
      subst f9
      subst L9
      dsimp only [Option.toList, List.cons_append, List.nil_append, List.append]
      dsimp only at hR
      refine j_i2l X dL_resign_7 ?_
      refine t_last105 X hL hL7 (x := v9) rfl rfl dL_resign_8 ?_
      refine j_goto X (tgt := 18) dL_resign_9 (by decide) ?_
      refine j_iconst X (0) dL_resign_18 (by decide) ?_
      exact q_iret X hQ dL_resign_19 rfl ⟨(by decide), (by decide)⟩ (oinj3 hR rfl rfl rfl)
def f_L_give (p0 : Int32) (p1 : Int32) (a c : Mem) : Option (Int32 × Mem × Mem) := match f_X8_give p0 p1 a with | none => none | some (.error k) => (if k = 3 then some (1, a, c) else if k = 2 then some (2, a, c) else if k = 1 then some (3, a, c) else none) | some (.ok q) => (some (0, q.2, upR c 0 (upd (c 0) 0 q.1)))
set_option maxRecDepth 100000 in
set_option maxHeartbeats 4000000 in
theorem m_L_give {l : Launch} (hl : l.stackTraces = false) {G : GG} {L : List Nat} (hL : LOK L) (hL7 : L.length = 107) {a b c : Mem} {p0 : Int32} {p1 : Int32} {v : Int32} {a' c' : Mem} (hR : f_L_give p0 p1 a c = some (v, a', c')) : Ct l G yL_give (.codeWith yL_give cL_give 5 (some .int) [((0 : Nat), (10 : Nat), (13 : Nat), (29 : Nat)), ((0 : Nat), (10 : Nat), (17 : Nat), (19 : Nat)), ((0 : Nat), (10 : Nat), (21 : Nat), (13 : Nat))]) 8 167 2 12 [.ref (ad L 0), .int p0, .int p1, .ref (ad L 105)] L (FW G L a b c) px0 (stay L (fun r f1 => f1 = FW G L a' b c' ∧ r = some (.int v))) := by
  refine Ct.ofH (own := RL) [⟨0, 10, 13, 29⟩, ⟨0, 10, 17, 19⟩, ⟨0, 10, 21, 13⟩] rfl hl rfl (by decide) [some (.ref (ad L 0)), some (.int p0), some (.int p1), some (.ref (ad L 105)), none] rfl (Nat.le_of_ble_eq_true rfl) ?_
  intro p e s m below meth c9 A ar Q hQ X
  unfold f_L_give at hR
  cases h : f_X8_give p0 p1 a with
  | none =>
    rw [h] at hR
    cases hR
  | some R =>
    rw [h] at hR
    refine j_aload_n X (i := 3) dL_give_0 rfl rfl ?_
    refine j_iconst X (0) dL_give_1 (by decide) ?_
    refine j_aload_n X (i := 0) dL_give_2 rfl rfl ?_
    refine j_iload_n X (i := 1) dL_give_3 rfl rfl ?_
    refine j_iload_n X (i := 2) dL_give_4 rfl rfl ?_
    refine j_callV2 X 8 (m_X8_give hl hL  h) ml_L_125 im_yX8_give se_yX8_give in_X8 cd_yX8_give hy_yX8_give dL_give_5 rfl (inL hL t_0 (by decide)) (FW8 hL t_0) ⟨(by decide), (by decide)⟩ ⟨(by decide), (by decide)⟩ (Nat.le_of_ble_eq_true rfl) (fun E hE => ?_) (fun r9 L9 f9 h9 => ?_)
    · obtain ⟨k, hk, hE⟩ := hE
      subst hk
      dsimp only at hR
      by_cases h1 : k = 3
      · subst h1
        rw [if_pos rfl] at hR
        subst hE
        refine jx_catch X [] ⟨0, 10, 13, 29⟩ [⟨0, 10, 17, 19⟩, ⟨0, 10, 21, 13⟩] rfl (fun _ h => absurd h List.not_mem_nil) rfl (by decide) cl_L_29 (List.mem_of_getElem? (i := 2) rfl) (fun q => ?_)
        refine j_astore X dL_give_13 (by decide) (lvOK_s rfl okPrev_ref) ?_
        dsimp only [List.set]
        refine j_iconst X (1) dL_give_15 (by decide) ?_
        exact q_iret X hQ dL_give_16 rfl ⟨(by decide), (by decide)⟩ (oinj3 hR rfl rfl rfl)
      · rw [if_neg h1] at hR
        by_cases h1 : k = 2
        · subst h1
          rw [if_pos rfl] at hR
          subst hE
          refine jx_catch X [⟨0, 10, 13, 29⟩] ⟨0, 10, 17, 19⟩ [⟨0, 10, 21, 13⟩] rfl (List.forall_mem_cons.mpr ⟨Or.inr ⟨(by decide), _, cl_L_29, List.mem_of_getElem? (i := 0) rfl⟩, (fun _ h => absurd h List.not_mem_nil)⟩) rfl (by decide) cl_L_19 (List.mem_of_getElem? (i := 1) rfl) (fun q => ?_)
          refine j_astore X dL_give_17 (by decide) (lvOK_s rfl okPrev_ref) ?_
          dsimp only [List.set]
          refine j_iconst X (2) dL_give_19 (by decide) ?_
          exact q_iret X hQ dL_give_20 rfl ⟨(by decide), (by decide)⟩ (oinj3 hR rfl rfl rfl)
        · rw [if_neg h1] at hR
          by_cases h1 : k = 1
          · subst h1
            rw [if_pos rfl] at hR
            subst hE
            refine jx_catch X [⟨0, 10, 13, 29⟩, ⟨0, 10, 17, 19⟩] ⟨0, 10, 21, 13⟩ [] rfl (List.forall_mem_cons.mpr ⟨Or.inr ⟨(by decide), _, cl_L_29, List.mem_of_getElem? (i := 1) rfl⟩, (List.forall_mem_cons.mpr ⟨Or.inr ⟨(by decide), _, cl_L_19, List.mem_of_getElem? (i := 2) rfl⟩, (fun _ h => absurd h List.not_mem_nil)⟩)⟩) rfl (by decide) cl_L_13 (List.mem_of_getElem? (i := 0) rfl) (fun q => ?_)
            refine j_astore X dL_give_21 (by decide) (lvOK_s rfl okPrev_ref) ?_
            dsimp only [List.set]
            refine j_iconst X (3) dL_give_23 (by decide) ?_
            exact q_iret X hQ dL_give_24 rfl ⟨(by decide), (by decide)⟩ (oinj3 hR rfl rfl rfl)
          · rw [if_neg h1] at hR
            cases hR
    · obtain ⟨h91, v9, a9, hk, h92, h93⟩ := h9
      subst hk
      subst r9
      subst f9
      subst L9
      dsimp only [Option.toList, List.cons_append, List.nil_append, List.append]
      dsimp only at hR
      refine j_i2l X dL_give_8 ?_
      refine t_last105 X hL hL7 (x := v9) rfl rfl dL_give_9 ?_
      refine j_goto X (tgt := 25) dL_give_10 (by decide) ?_
      refine j_iconst X (0) dL_give_25 (by decide) ?_
      exact q_iret X hQ dL_give_26 rfl ⟨(by decide), (by decide)⟩ (oinj3 hR rfl rfl rfl)
def f_L_setBare (p0 : Int32) (p1 : Int32) (a c : Mem) : Option (Int32 × Mem × Mem) := match f_X8_setBare p0 p1 a with | none => none | some (.error k) => (if k = 3 then some (1, a, c) else none) | some (.ok q) => (if q.1 = 0 then some (0, q.2, upR c 0 (upd (c 0) 0 0)) else some (0, q.2, upR c 0 (upd (c 0) 0 1)))
set_option maxRecDepth 100000 in
set_option maxHeartbeats 4000000 in
theorem m_L_setBare {l : Launch} (hl : l.stackTraces = false) {G : GG} {L : List Nat} (hL : LOK L) (hL7 : L.length = 107) {a b c : Mem} {p0 : Int32} {p1 : Int32} (hB1 : isB p1) {v : Int32} {a' c' : Mem} (hR : f_L_setBare p0 p1 a c = some (v, a', c')) : Ct l G yL_setBare (.codeWith yL_setBare cL_setBare 5 (some .int) [((0 : Nat), (17 : Nat), (20 : Nat), (29 : Nat))]) 8 168 1 6 [.ref (ad L 0), .int p0, .int p1, .ref (ad L 105)] L (FW G L a b c) px0 (stay L (fun r f1 => f1 = FW G L a' b c' ∧ r = some (.int v))) := by
  refine Ct.ofH (own := RL) [⟨0, 17, 20, 29⟩] rfl hl rfl (by decide) [some (.ref (ad L 0)), some (.int p0), some (.int p1), some (.ref (ad L 105)), none] rfl (Nat.le_of_ble_eq_true rfl) ?_
  intro p e s m below meth c9 A ar Q hQ X
  unfold f_L_setBare at hR
  cases h : f_X8_setBare p0 p1 a with
  | none =>
    rw [h] at hR
    cases hR
  | some R =>
    rw [h] at hR
    refine j_aload_n X (i := 3) dL_setBare_0 rfl rfl ?_
    refine j_iconst X (0) dL_setBare_1 (by decide) ?_
    refine j_aload_n X (i := 0) dL_setBare_2 rfl rfl ?_
    refine j_iload_n X (i := 1) dL_setBare_3 rfl rfl ?_
    refine j_iload_n X (i := 2) dL_setBare_4 rfl rfl ?_
    refine j_callV2 X 8 (m_X8_setBare hl hL hB1 h) ml_L_128 im_yX8_setBare se_yX8_setBare in_X8 cd_yX8_setBare hy_yX8_setBare dL_setBare_5 rfl (inL hL t_0 (by decide)) (FW8 hL t_0) ⟨(by decide), (by decide)⟩ ⟨(by decide), (by decide)⟩ (Nat.le_of_ble_eq_true rfl) (fun E hE => ?_) (fun r9 L9 f9 h9 => ?_)
    · obtain ⟨k, hk, hE⟩ := hE
      subst hk
      dsimp only at hR
      by_cases h1 : k = 3
      · subst h1
        rw [if_pos rfl] at hR
        subst hE
        refine jx_catch X [] ⟨0, 17, 20, 29⟩ [] rfl (fun _ h => absurd h List.not_mem_nil) rfl (by decide) cl_L_29 (List.mem_of_getElem? (i := 2) rfl) (fun q => ?_)
        refine j_astore X dL_setBare_20 (by decide) (lvOK_s rfl okPrev_ref) ?_
        dsimp only [List.set]
        refine j_iconst X (1) dL_setBare_22 (by decide) ?_
        exact q_iret X hQ dL_setBare_23 rfl ⟨(by decide), (by decide)⟩ (oinj3 hR rfl rfl rfl)
      · rw [if_neg h1] at hR
        cases hR
    · obtain ⟨h91, v9, a9, hk, h92, h93, hBv⟩ := h9
      subst hk
      subst r9
      subst f9
      subst L9
      dsimp only [Option.toList, List.cons_append, List.nil_append, List.append]
      dsimp only at hR
      refine j_if_eq X (tgt := 15) dL_setBare_8 (by decide) (fun h1 => ?_) (fun h1 => ?_)
      · replace hR := (if_pos h1).symm.trans hR
        refine j_lconst X (0) dL_setBare_15 (by decide) ?_
        refine t_last105 X hL hL7 (x := 0) rfl rfl dL_setBare_16 ?_
        refine j_goto X (tgt := 24) dL_setBare_17 (by decide) ?_
        refine j_iconst X (0) dL_setBare_24 (by decide) ?_
        exact q_iret X hQ dL_setBare_25 rfl ⟨(by decide), (by decide)⟩ (oinj3 hR rfl rfl rfl)
      · replace hR := (if_neg h1).symm.trans hR
        refine j_lconst X (1) dL_setBare_11 (by decide) ?_
        refine j_goto X (tgt := 16) dL_setBare_12 (by decide) ?_
        refine t_last105 X hL hL7 (x := 1) rfl rfl dL_setBare_16 ?_
        refine j_goto X (tgt := 24) dL_setBare_17 (by decide) ?_
        refine j_iconst X (0) dL_setBare_24 (by decide) ?_
        exact q_iret X hQ dL_setBare_25 rfl ⟨(by decide), (by decide)⟩ (oinj3 hR rfl rfl rfl)
def f_L_setPeriod (p0 : Int32) (p1 : Int32) (p2 : Int32) (a c : Mem) : Option (Int32 × Mem × Mem) := match f_X8_setPeriod p0 p1 p2 a with | none => none | some (.error k) => (if k = 3 then some (1, a, c) else if k = 2 then some (2, a, c) else none) | some (.ok q) => (some (0, q.2, upR c 0 (upd (c 0) 0 q.1)))
set_option maxRecDepth 100000 in
set_option maxHeartbeats 4000000 in
theorem m_L_setPeriod {l : Launch} (hl : l.stackTraces = false) {G : GG} {L : List Nat} (hL : LOK L) (hL7 : L.length = 107) {a b c : Mem} {p0 : Int32} {p1 : Int32} {p2 : Int32} {v : Int32} {a' c' : Mem} (hR : f_L_setPeriod p0 p1 p2 a c = some (v, a', c')) : Ct l G yL_setPeriod (.codeWith yL_setPeriod cL_setPeriod 6 (some .int) [((0 : Nat), (12 : Nat), (15 : Nat), (29 : Nat)), ((0 : Nat), (12 : Nat), (19 : Nat), (19 : Nat))]) 8 168 2 12 [.ref (ad L 0), .int p0, .int p1, .int p2, .ref (ad L 105)] L (FW G L a b c) px0 (stay L (fun r f1 => f1 = FW G L a' b c' ∧ r = some (.int v))) := by
  refine Ct.ofH (own := RL) [⟨0, 12, 15, 29⟩, ⟨0, 12, 19, 19⟩] rfl hl rfl (by decide) [some (.ref (ad L 0)), some (.int p0), some (.int p1), some (.int p2), some (.ref (ad L 105)), none] rfl (Nat.le_of_ble_eq_true rfl) ?_
  intro p e s m below meth c9 A ar Q hQ X
  unfold f_L_setPeriod at hR
  cases h : f_X8_setPeriod p0 p1 p2 a with
  | none =>
    rw [h] at hR
    cases hR
  | some R =>
    rw [h] at hR
    refine j_aload X dL_setPeriod_0 rfl ?_
    refine j_iconst X (0) dL_setPeriod_2 (by decide) ?_
    refine j_aload_n X (i := 0) dL_setPeriod_3 rfl rfl ?_
    refine j_iload_n X (i := 1) dL_setPeriod_4 rfl rfl ?_
    refine j_iload_n X (i := 2) dL_setPeriod_5 rfl rfl ?_
    refine j_iload_n X (i := 3) dL_setPeriod_6 rfl rfl ?_
    refine j_callV3 X 8 (m_X8_setPeriod hl hL  h) ml_L_132 im_yX8_setPeriod se_yX8_setPeriod in_X8 cd_yX8_setPeriod hy_yX8_setPeriod dL_setPeriod_7 rfl (inL hL t_0 (by decide)) (FW8 hL t_0) ⟨(by decide), (by decide)⟩ ⟨(by decide), (by decide)⟩ (Nat.le_of_ble_eq_true rfl) (fun E hE => ?_) (fun r9 L9 f9 h9 => ?_)
    · obtain ⟨k, hk, hE⟩ := hE
      subst hk
      dsimp only at hR
      by_cases h1 : k = 3
      · subst h1
        rw [if_pos rfl] at hR
        subst hE
        refine jx_catch X [] ⟨0, 12, 15, 29⟩ [⟨0, 12, 19, 19⟩] rfl (fun _ h => absurd h List.not_mem_nil) rfl (by decide) cl_L_29 (List.mem_of_getElem? (i := 2) rfl) (fun q => ?_)
        refine j_astore X dL_setPeriod_15 (by decide) (lvOK_s rfl okPrev_ref) ?_
        dsimp only [List.set]
        refine j_iconst X (1) dL_setPeriod_17 (by decide) ?_
        exact q_iret X hQ dL_setPeriod_18 rfl ⟨(by decide), (by decide)⟩ (oinj3 hR rfl rfl rfl)
      · rw [if_neg h1] at hR
        by_cases h1 : k = 2
        · subst h1
          rw [if_pos rfl] at hR
          subst hE
          refine jx_catch X [⟨0, 12, 15, 29⟩] ⟨0, 12, 19, 19⟩ [] rfl (List.forall_mem_cons.mpr ⟨Or.inr ⟨(by decide), _, cl_L_29, List.mem_of_getElem? (i := 0) rfl⟩, (fun _ h => absurd h List.not_mem_nil)⟩) rfl (by decide) cl_L_19 (List.mem_of_getElem? (i := 1) rfl) (fun q => ?_)
          refine j_astore X dL_setPeriod_19 (by decide) (lvOK_s rfl okPrev_ref) ?_
          dsimp only [List.set]
          refine j_iconst X (2) dL_setPeriod_21 (by decide) ?_
          exact q_iret X hQ dL_setPeriod_22 rfl ⟨(by decide), (by decide)⟩ (oinj3 hR rfl rfl rfl)
        · rw [if_neg h1] at hR
          cases hR
    · obtain ⟨h91, v9, a9, hk, h92, h93⟩ := h9
      subst hk
      subst r9
      subst f9
      subst L9
      dsimp only [Option.toList, List.cons_append, List.nil_append, List.append]
      dsimp only at hR
      refine j_i2l X dL_setPeriod_10 ?_
      refine t_last105 X hL hL7 (x := v9) rfl rfl dL_setPeriod_11 ?_
      refine j_goto X (tgt := 23) dL_setPeriod_12 (by decide) ?_
      refine j_iconst X (0) dL_setPeriod_23 (by decide) ?_
      exact q_iret X hQ dL_setPeriod_24 rfl ⟨(by decide), (by decide)⟩ (oinj3 hR rfl rfl rfl)
def f_L_swap  (a c : Mem) : Option (Int32 × Mem × Mem) := match f_X8_swap  a with | none => none | some (.error k) => (if k = 1 then some (1, a, c) else none) | some (.ok q) => (some (0, q.2, upR c 0 (upd (c 0) 0 q.1)))
set_option maxRecDepth 100000 in
set_option maxHeartbeats 4000000 in
theorem m_L_swap {l : Launch} (hl : l.stackTraces = false) {G : GG} {L : List Nat} (hL : LOK L) (hL7 : L.length = 107) {a b c : Mem}  {v : Int32} {a' c' : Mem} (hR : f_L_swap  a c = some (v, a', c')) : Ct l G yL_swap (.codeWith yL_swap cL_swap 3 (some .int) [((0 : Nat), (8 : Nat), (11 : Nat), (13 : Nat))]) 7 164 1 6 [.ref (ad L 0), .ref (ad L 105)] L (FW G L a b c) px0 (stay L (fun r f1 => f1 = FW G L a' b c' ∧ r = some (.int v))) := by
  refine Ct.ofH (own := RL) [⟨0, 8, 11, 13⟩] rfl hl rfl (by decide) [some (.ref (ad L 0)), some (.ref (ad L 105)), none] rfl (Nat.le_of_ble_eq_true rfl) ?_
  intro p e s m below meth c9 A ar Q hQ X
  unfold f_L_swap at hR
  cases h : f_X8_swap  a with
  | none =>
    rw [h] at hR
    cases hR
  | some R =>
    rw [h] at hR
    refine j_aload_n X (i := 1) dL_swap_0 rfl rfl ?_
    refine j_iconst X (0) dL_swap_1 (by decide) ?_
    refine j_aload_n X (i := 0) dL_swap_2 rfl rfl ?_
    refine j_callV0 X 8 (m_X8_swap hl hL  h) ml_L_135 im_yX8_swap se_yX8_swap in_X8 cd_yX8_swap hy_yX8_swap dL_swap_3 rfl (inL hL t_0 (by decide)) (FW8 hL t_0) ⟨(by decide), (by decide)⟩ ⟨(by decide), (by decide)⟩ (Nat.le_of_ble_eq_true rfl) (fun E hE => ?_) (fun r9 L9 f9 h9 => ?_)
    · obtain ⟨k, hk, hE⟩ := hE
      subst hk
      dsimp only at hR
      by_cases h1 : k = 1
      · subst h1
        rw [if_pos rfl] at hR
        subst hE
        refine jx_catch X [] ⟨0, 8, 11, 13⟩ [] rfl (fun _ h => absurd h List.not_mem_nil) rfl (by decide) cl_L_13 (List.mem_of_getElem? (i := 0) rfl) (fun q => ?_)
        refine j_astore_n X (i := 2) dL_swap_11 rfl (by decide) (lvOK_s rfl okPrev_ref) ?_
        dsimp only [List.set]
        refine j_iconst X (1) dL_swap_12 (by decide) ?_
        exact q_iret X hQ dL_swap_13 rfl ⟨(by decide), (by decide)⟩ (oinj3 hR rfl rfl rfl)
      · rw [if_neg h1] at hR
        cases hR
    · obtain ⟨h91, v9, a9, hk, h92, h93⟩ := h9
      subst hk
      subst r9
      subst f9
      subst L9
      dsimp only [Option.toList, List.cons_append, List.nil_append, List.append]
      dsimp only at hR
      refine j_i2l X dL_swap_6 ?_
      refine t_last105 X hL hL7 (x := v9) rfl rfl dL_swap_7 ?_
      refine j_goto X (tgt := 14) dL_swap_8 (by decide) ?_
      refine j_iconst X (0) dL_swap_14 (by decide) ?_
      exact q_iret X hQ dL_swap_15 rfl ⟨(by decide), (by decide)⟩ (oinj3 hR rfl rfl rfl)
def f_L_keep (p0 : Int32) (a c : Mem) : Option (Int32 × Mem × Mem) := match f_X8_keep p0 a with | none => none | some (.error k) => (if k = 3 then some (1, a, c) else none) | some (.ok q) => (some (0, q.2, upR c 0 (upd (c 0) 0 q.1)))
set_option maxRecDepth 100000 in
set_option maxHeartbeats 4000000 in
theorem m_L_keep {l : Launch} (hl : l.stackTraces = false) {G : GG} {L : List Nat} (hL : LOK L) (hL7 : L.length = 107) {a b c : Mem} {p0 : Int32} {v : Int32} {a' c' : Mem} (hR : f_L_keep p0 a c = some (v, a', c')) : Ct l G yL_keep (.codeWith yL_keep cL_keep 4 (some .int) [((0 : Nat), (9 : Nat), (12 : Nat), (29 : Nat))]) 8 145 1 6 [.ref (ad L 0), .int p0, .ref (ad L 105)] L (FW G L a b c) px0 (stay L (fun r f1 => f1 = FW G L a' b c' ∧ r = some (.int v))) := by
  refine Ct.ofH (own := RL) [⟨0, 9, 12, 29⟩] rfl hl rfl (by decide) [some (.ref (ad L 0)), some (.int p0), some (.ref (ad L 105)), none] rfl (Nat.le_of_ble_eq_true rfl) ?_
  intro p e s m below meth c9 A ar Q hQ X
  unfold f_L_keep at hR
  cases h : f_X8_keep p0 a with
  | none =>
    rw [h] at hR
    cases hR
  | some R =>
    rw [h] at hR
    refine j_aload_n X (i := 2) dL_keep_0 rfl rfl ?_
    refine j_iconst X (0) dL_keep_1 (by decide) ?_
    refine j_aload_n X (i := 0) dL_keep_2 rfl rfl ?_
    refine j_iload_n X (i := 1) dL_keep_3 rfl rfl ?_
    refine j_callV1 X 8 (m_X8_keep hl hL  h) ml_L_138 im_yX8_keep se_yX8_keep in_X8 cd_yX8_keep hy_yX8_keep dL_keep_4 rfl (inL hL t_0 (by decide)) (FW8 hL t_0) ⟨(by decide), (by decide)⟩ ⟨(by decide), (by decide)⟩ (Nat.le_of_ble_eq_true rfl) (fun E hE => ?_) (fun r9 L9 f9 h9 => ?_)
    · obtain ⟨k, hk, hE⟩ := hE
      subst hk
      dsimp only at hR
      by_cases h1 : k = 3
      · subst h1
        rw [if_pos rfl] at hR
        subst hE
        refine jx_catch X [] ⟨0, 9, 12, 29⟩ [] rfl (fun _ h => absurd h List.not_mem_nil) rfl (by decide) cl_L_29 (List.mem_of_getElem? (i := 2) rfl) (fun q => ?_)
        refine j_astore_n X (i := 3) dL_keep_12 rfl (by decide) (lvOK_s rfl okPrev_ref) ?_
        dsimp only [List.set]
        refine j_iconst X (1) dL_keep_13 (by decide) ?_
        exact q_iret X hQ dL_keep_14 rfl ⟨(by decide), (by decide)⟩ (oinj3 hR rfl rfl rfl)
      · rw [if_neg h1] at hR
        cases hR
    · obtain ⟨h91, v9, a9, hk, h92, h93⟩ := h9
      subst hk
      subst r9
      subst f9
      subst L9
      dsimp only [Option.toList, List.cons_append, List.nil_append, List.append]
      dsimp only at hR
      refine j_i2l X dL_keep_7 ?_
      refine t_last105 X hL hL7 (x := v9) rfl rfl dL_keep_8 ?_
      refine j_goto X (tgt := 15) dL_keep_9 (by decide) ?_
      refine j_iconst X (0) dL_keep_15 (by decide) ?_
      exact q_iret X hQ dL_keep_16 rfl ⟨(by decide), (by decide)⟩ (oinj3 hR rfl rfl rfl)
def f_L_restore (p0 : Int32) (a c : Mem) : Option (Int32 × Mem × Mem) := match f_X8_restore p0 a with | none => none | some (.error k) => (if k = 3 then some (1, a, c) else if k = 1 then some (2, a, c) else none) | some (.ok q) => (some (0, q.2, upR c 0 (upd (c 0) 0 q.1)))
set_option maxRecDepth 100000 in
set_option maxHeartbeats 4000000 in
theorem m_L_restore {l : Launch} (hl : l.stackTraces = false) {G : GG} {L : List Nat} (hL : LOK L) (hL7 : L.length = 107) {a b c : Mem} {p0 : Int32} {v : Int32} {a' c' : Mem} (hR : f_L_restore p0 a c = some (v, a', c')) : Ct l G yL_restore (.codeWith yL_restore cL_restore 4 (some .int) [((0 : Nat), (9 : Nat), (12 : Nat), (29 : Nat)), ((0 : Nat), (9 : Nat), (15 : Nat), (13 : Nat))]) 8 166 2 12 [.ref (ad L 0), .int p0, .ref (ad L 105)] L (FW G L a b c) px0 (stay L (fun r f1 => f1 = FW G L a' b c' ∧ r = some (.int v))) := by
  refine Ct.ofH (own := RL) [⟨0, 9, 12, 29⟩, ⟨0, 9, 15, 13⟩] rfl hl rfl (by decide) [some (.ref (ad L 0)), some (.int p0), some (.ref (ad L 105)), none] rfl (Nat.le_of_ble_eq_true rfl) ?_
  intro p e s m below meth c9 A ar Q hQ X
  unfold f_L_restore at hR
  cases h : f_X8_restore p0 a with
  | none =>
    rw [h] at hR
    cases hR
  | some R =>
    rw [h] at hR
    refine j_aload_n X (i := 2) dL_restore_0 rfl rfl ?_
    refine j_iconst X (0) dL_restore_1 (by decide) ?_
    refine j_aload_n X (i := 0) dL_restore_2 rfl rfl ?_
    refine j_iload_n X (i := 1) dL_restore_3 rfl rfl ?_
    refine j_callV1 X 8 (m_X8_restore hl hL  h) ml_L_141 im_yX8_restore se_yX8_restore in_X8 cd_yX8_restore hy_yX8_restore dL_restore_4 rfl (inL hL t_0 (by decide)) (FW8 hL t_0) ⟨(by decide), (by decide)⟩ ⟨(by decide), (by decide)⟩ (Nat.le_of_ble_eq_true rfl) (fun E hE => ?_) (fun r9 L9 f9 h9 => ?_)
    · obtain ⟨k, hk, hE⟩ := hE
      subst hk
      dsimp only at hR
      by_cases h1 : k = 3
      · subst h1
        rw [if_pos rfl] at hR
        subst hE
        refine jx_catch X [] ⟨0, 9, 12, 29⟩ [⟨0, 9, 15, 13⟩] rfl (fun _ h => absurd h List.not_mem_nil) rfl (by decide) cl_L_29 (List.mem_of_getElem? (i := 2) rfl) (fun q => ?_)
        refine j_astore_n X (i := 3) dL_restore_12 rfl (by decide) (lvOK_s rfl okPrev_ref) ?_
        dsimp only [List.set]
        refine j_iconst X (1) dL_restore_13 (by decide) ?_
        exact q_iret X hQ dL_restore_14 rfl ⟨(by decide), (by decide)⟩ (oinj3 hR rfl rfl rfl)
      · rw [if_neg h1] at hR
        by_cases h1 : k = 1
        · subst h1
          rw [if_pos rfl] at hR
          subst hE
          refine jx_catch X [⟨0, 9, 12, 29⟩] ⟨0, 9, 15, 13⟩ [] rfl (List.forall_mem_cons.mpr ⟨Or.inr ⟨(by decide), _, cl_L_29, List.mem_of_getElem? (i := 1) rfl⟩, (fun _ h => absurd h List.not_mem_nil)⟩) rfl (by decide) cl_L_13 (List.mem_of_getElem? (i := 0) rfl) (fun q => ?_)
          refine j_astore_n X (i := 3) dL_restore_15 rfl (by decide) (lvOK_s rfl okPrev_ref) ?_
          dsimp only [List.set]
          refine j_iconst X (2) dL_restore_16 (by decide) ?_
          exact q_iret X hQ dL_restore_17 rfl ⟨(by decide), (by decide)⟩ (oinj3 hR rfl rfl rfl)
        · rw [if_neg h1] at hR
          cases hR
    · obtain ⟨h91, v9, a9, hk, h92, h93⟩ := h9
      subst hk
      subst r9
      subst f9
      subst L9
      dsimp only [Option.toList, List.cons_append, List.nil_append, List.append]
      dsimp only at hR
      refine j_i2l X dL_restore_7 ?_
      refine t_last105 X hL hL7 (x := v9) rfl rfl dL_restore_8 ?_
      refine j_goto X (tgt := 18) dL_restore_9 (by decide) ?_
      refine j_iconst X (0) dL_restore_18 (by decide) ?_
      exact q_iret X hQ dL_restore_19 rfl ⟨(by decide), (by decide)⟩ (oinj3 hR rfl rfl rfl)
def f_L_undo  (a c : Mem) : Option (Int32 × Mem × Mem) := match f_X8_undo  a with | none => none | some (.error k) => (if k = 1 then some (1, a, c) else none) | some (.ok q) => (some (0, q.2, upR c 0 (upd (c 0) 0 q.1)))
set_option maxRecDepth 100000 in
set_option maxHeartbeats 4000000 in
theorem m_L_undo {l : Launch} (hl : l.stackTraces = false) {G : GG} {L : List Nat} (hL : LOK L) (hL7 : L.length = 107) {a b c : Mem}  {v : Int32} {a' c' : Mem} (hR : f_L_undo  a c = some (v, a', c')) : Ct l G yL_undo (.codeWith yL_undo cL_undo 3 (some .int) [((0 : Nat), (8 : Nat), (11 : Nat), (13 : Nat))]) 7 144 1 6 [.ref (ad L 0), .ref (ad L 105)] L (FW G L a b c) px0 (stay L (fun r f1 => f1 = FW G L a' b c' ∧ r = some (.int v))) := by
  refine Ct.ofH (own := RL) [⟨0, 8, 11, 13⟩] rfl hl rfl (by decide) [some (.ref (ad L 0)), some (.ref (ad L 105)), none] rfl (Nat.le_of_ble_eq_true rfl) ?_
  intro p e s m below meth c9 A ar Q hQ X
  unfold f_L_undo at hR
  cases h : f_X8_undo  a with
  | none =>
    rw [h] at hR
    cases hR
  | some R =>
    rw [h] at hR
    refine j_aload_n X (i := 1) dL_undo_0 rfl rfl ?_
    refine j_iconst X (0) dL_undo_1 (by decide) ?_
    refine j_aload_n X (i := 0) dL_undo_2 rfl rfl ?_
    refine j_callV0 X 8 (m_X8_undo hl hL  h) ml_L_144 im_yX8_undo se_yX8_undo in_X8 cd_yX8_undo hy_yX8_undo dL_undo_3 rfl (inL hL t_0 (by decide)) (FW8 hL t_0) ⟨(by decide), (by decide)⟩ ⟨(by decide), (by decide)⟩ (Nat.le_of_ble_eq_true rfl) (fun E hE => ?_) (fun r9 L9 f9 h9 => ?_)
    · obtain ⟨k, hk, hE⟩ := hE
      subst hk
      dsimp only at hR
      by_cases h1 : k = 1
      · subst h1
        rw [if_pos rfl] at hR
        subst hE
        refine jx_catch X [] ⟨0, 8, 11, 13⟩ [] rfl (fun _ h => absurd h List.not_mem_nil) rfl (by decide) cl_L_13 (List.mem_of_getElem? (i := 0) rfl) (fun q => ?_)
        refine j_astore_n X (i := 2) dL_undo_11 rfl (by decide) (lvOK_s rfl okPrev_ref) ?_
        dsimp only [List.set]
        refine j_iconst X (1) dL_undo_12 (by decide) ?_
        exact q_iret X hQ dL_undo_13 rfl ⟨(by decide), (by decide)⟩ (oinj3 hR rfl rfl rfl)
      · rw [if_neg h1] at hR
        cases hR
    · obtain ⟨h91, v9, a9, hk, h92, h93⟩ := h9
      subst hk
      subst r9
      subst f9
      subst L9
      dsimp only [Option.toList, List.cons_append, List.nil_append, List.append]
      dsimp only at hR
      refine j_i2l X dL_undo_6 ?_
      refine t_last105 X hL hL7 (x := v9) rfl rfl dL_undo_7 ?_
      refine j_goto X (tgt := 14) dL_undo_8 (by decide) ?_
      refine j_iconst X (0) dL_undo_14 (by decide) ?_
      exact q_iret X hQ dL_undo_15 rfl ⟨(by decide), (by decide)⟩ (oinj3 hR rfl rfl rfl)
