/-! the helpers of the law that catch, by contract -/
def catchI (R : Option (Except Nat (Int32 × Mem))) (a : Mem) : Option (Int32 × Mem) := match R with | some (.ok q) => some q | some (.error k) => if k = 1 then some (-99999, a) else none | none => none
set_option maxRecDepth 100000 in
set_option maxHeartbeats 4000000 in
theorem m_L_moved {l : Launch} (hl : l.stackTraces = false) {G : GG} {L : List Nat} (hL : LOK L) {a b c : Mem}  {v : Int32} {a' : Mem} (hR : catchI (f_X8_move a) a = some (v, a')) : Ct l G yL_moved (.codeWith yL_moved cL_moved 2 (some .int) [((0 : Nat), (4 : Nat), (5 : Nat), (103 : Nat))]) 7 164 1 6 [.ref (ad L 0)] L (FW G L a b c) px0 (stay L (fun r f1 => f1 = FW G L a' b c ∧ r = some (.int v))) := by
  refine Ct.ofH (own := RL) [⟨0, 4, 5, 103⟩] rfl hl rfl (by decide) [some (.ref (ad L 0)), none] rfl (Nat.le_of_ble_eq_true rfl) ?_
  intro p e s m below meth c9 A ar Q hQ X
  unfold catchI at hR
  cases h : f_X8_move a with
  | none =>
    rw [h] at hR
    cases hR
  | some R =>
    rw [h] at hR
    refine j_aload_n X (i := 0) dL_moved_0 rfl rfl ?_
    refine j_callV0 X 8 (m_X8_move hl hL h) ml_L_100 im_yX8_move se_yX8_move in_X8 cd_yX8_move hy_yX8_move dL_moved_1 rfl (inL hL t_0 (by decide)) (FW8 hL t_0) ⟨(by decide), (by decide)⟩ ⟨(by decide), (by decide)⟩ (Nat.le_of_ble_eq_true rfl) (fun E hE => ?_) (fun r9 L9 f9 h9 => ?_)
    · obtain ⟨k, hk, hE⟩ := hE
      subst hk
      dsimp only at hR
      by_cases h1 : k = 1
      · subst h1
        rw [if_pos rfl] at hR
        cases hR
        subst hE
        refine jx_catch X [] ⟨0, 4, 5, 103⟩ [] rfl (fun _ h => absurd h List.not_mem_nil) rfl (by decide) cl_L_103 (List.mem_of_getElem? (i := 2) rfl) (fun q => ?_)
        refine j_astore_n X (i := 1) dL_moved_5 rfl (by decide) (by first | exact lvOK_0 | exact lvOK_s rfl okPrev_none | exact lvOK_s rfl okPrev_int | exact lvOK_s rfl okPrev_ref | exact lvOK_s rfl okPrev_null) ?_
        dsimp only [List.set]
        refine j_ldc X dL_moved_6 co_L_105 ?_
        exact q_iret X hQ dL_moved_8 rfl ⟨(by decide), (by decide)⟩ ⟨rfl, rfl, rfl⟩
      · rw [if_neg h1] at hR
        cases hR
    · obtain ⟨h91, v9, a9, hk, h92, h93⟩ := h9
      subst hk
      subst r9
      subst f9
      subst L9
      dsimp only [Option.toList, List.cons_append, List.nil_append, List.append]
      dsimp only at hR
      cases hR
      exact q_iret X hQ dL_moved_4 rfl ⟨(by decide), (by decide)⟩ ⟨rfl, rfl, rfl⟩
set_option maxRecDepth 100000 in
set_option maxHeartbeats 4000000 in
theorem m_L_sealed {l : Launch} (hl : l.stackTraces = false) {G : GG} {L : List Nat} (hL : LOK L) {a b c : Mem}  {v : Int32} {a' : Mem} (hR : catchI (f_X8_seal a) a = some (v, a')) : Ct l G yL_sealed (.codeWith yL_sealed cL_sealed 2 (some .int) [((0 : Nat), (4 : Nat), (5 : Nat), (103 : Nat))]) 7 164 1 6 [.ref (ad L 0)] L (FW G L a b c) px0 (stay L (fun r f1 => f1 = FW G L a' b c ∧ r = some (.int v))) := by
  refine Ct.ofH (own := RL) [⟨0, 4, 5, 103⟩] rfl hl rfl (by decide) [some (.ref (ad L 0)), none] rfl (Nat.le_of_ble_eq_true rfl) ?_
  intro p e s m below meth c9 A ar Q hQ X
  unfold catchI at hR
  cases h : f_X8_seal a with
  | none =>
    rw [h] at hR
    cases hR
  | some R =>
    rw [h] at hR
    refine j_aload_n X (i := 0) dL_sealed_0 rfl rfl ?_
    refine j_callV0 X 8 (m_X8_seal hl hL h) ml_L_112 im_yX8_seal se_yX8_seal in_X8 cd_yX8_seal hy_yX8_seal dL_sealed_1 rfl (inL hL t_0 (by decide)) (FW8 hL t_0) ⟨(by decide), (by decide)⟩ ⟨(by decide), (by decide)⟩ (Nat.le_of_ble_eq_true rfl) (fun E hE => ?_) (fun r9 L9 f9 h9 => ?_)
    · obtain ⟨k, hk, hE⟩ := hE
      subst hk
      dsimp only at hR
      by_cases h1 : k = 1
      · subst h1
        rw [if_pos rfl] at hR
        cases hR
        subst hE
        refine jx_catch X [] ⟨0, 4, 5, 103⟩ [] rfl (fun _ h => absurd h List.not_mem_nil) rfl (by decide) cl_L_103 (List.mem_of_getElem? (i := 2) rfl) (fun q => ?_)
        refine j_astore_n X (i := 1) dL_sealed_5 rfl (by decide) (by first | exact lvOK_0 | exact lvOK_s rfl okPrev_none | exact lvOK_s rfl okPrev_int | exact lvOK_s rfl okPrev_ref | exact lvOK_s rfl okPrev_null) ?_
        dsimp only [List.set]
        refine j_ldc X dL_sealed_6 co_L_105 ?_
        exact q_iret X hQ dL_sealed_8 rfl ⟨(by decide), (by decide)⟩ ⟨rfl, rfl, rfl⟩
      · rw [if_neg h1] at hR
        cases hR
    · obtain ⟨h91, v9, a9, hk, h92, h93⟩ := h9
      subst hk
      subst r9
      subst f9
      subst L9
      dsimp only [Option.toList, List.cons_append, List.nil_append, List.append]
      dsimp only at hR
      cases hR
      exact q_iret X hQ dL_sealed_4 rfl ⟨(by decide), (by decide)⟩ ⟨rfl, rfl, rfl⟩
set_option maxRecDepth 100000 in
set_option maxHeartbeats 4000000 in
theorem m_L_opened {l : Launch} (hl : l.stackTraces = false) {G : GG} {L : List Nat} (hL : LOK L) {a b c : Mem}  {v : Int32} {a' : Mem} (hR : catchI (f_X8_open a) a = some (v, a')) : Ct l G yL_opened (.codeWith yL_opened cL_opened 2 (some .int) [((0 : Nat), (4 : Nat), (5 : Nat), (103 : Nat))]) 7 164 1 6 [.ref (ad L 0)] L (FW G L a b c) px0 (stay L (fun r f1 => f1 = FW G L a' b c ∧ r = some (.int v))) := by
  refine Ct.ofH (own := RL) [⟨0, 4, 5, 103⟩] rfl hl rfl (by decide) [some (.ref (ad L 0)), none] rfl (Nat.le_of_ble_eq_true rfl) ?_
  intro p e s m below meth c9 A ar Q hQ X
  unfold catchI at hR
  cases h : f_X8_open a with
  | none =>
    rw [h] at hR
    cases hR
  | some R =>
    rw [h] at hR
    refine j_aload_n X (i := 0) dL_opened_0 rfl rfl ?_
    refine j_callV0 X 8 (m_X8_open hl hL h) ml_L_115 im_yX8_open se_yX8_open in_X8 cd_yX8_open hy_yX8_open dL_opened_1 rfl (inL hL t_0 (by decide)) (FW8 hL t_0) ⟨(by decide), (by decide)⟩ ⟨(by decide), (by decide)⟩ (Nat.le_of_ble_eq_true rfl) (fun E hE => ?_) (fun r9 L9 f9 h9 => ?_)
    · obtain ⟨k, hk, hE⟩ := hE
      subst hk
      dsimp only at hR
      by_cases h1 : k = 1
      · subst h1
        rw [if_pos rfl] at hR
        cases hR
        subst hE
        refine jx_catch X [] ⟨0, 4, 5, 103⟩ [] rfl (fun _ h => absurd h List.not_mem_nil) rfl (by decide) cl_L_103 (List.mem_of_getElem? (i := 2) rfl) (fun q => ?_)
        refine j_astore_n X (i := 1) dL_opened_5 rfl (by decide) (by first | exact lvOK_0 | exact lvOK_s rfl okPrev_none | exact lvOK_s rfl okPrev_int | exact lvOK_s rfl okPrev_ref | exact lvOK_s rfl okPrev_null) ?_
        dsimp only [List.set]
        refine j_ldc X dL_opened_6 co_L_105 ?_
        exact q_iret X hQ dL_opened_8 rfl ⟨(by decide), (by decide)⟩ ⟨rfl, rfl, rfl⟩
      · rw [if_neg h1] at hR
        cases hR
    · obtain ⟨h91, v9, a9, hk, h92, h93⟩ := h9
      subst hk
      subst r9
      subst f9
      subst L9
      dsimp only [Option.toList, List.cons_append, List.nil_append, List.append]
      dsimp only at hR
      cases hR
      exact q_iret X hQ dL_opened_4 rfl ⟨(by decide), (by decide)⟩ ⟨rfl, rfl, rfl⟩
set_option maxRecDepth 100000 in
set_option maxHeartbeats 4000000 in
theorem m_L_swapped {l : Launch} (hl : l.stackTraces = false) {G : GG} {L : List Nat} (hL : LOK L) {a b c : Mem}  {v : Int32} {a' : Mem} (hR : catchI (f_X8_swap a) a = some (v, a')) : Ct l G yL_swapped (.codeWith yL_swapped cL_swapped 2 (some .int) [((0 : Nat), (4 : Nat), (5 : Nat), (103 : Nat))]) 7 164 1 6 [.ref (ad L 0)] L (FW G L a b c) px0 (stay L (fun r f1 => f1 = FW G L a' b c ∧ r = some (.int v))) := by
  refine Ct.ofH (own := RL) [⟨0, 4, 5, 103⟩] rfl hl rfl (by decide) [some (.ref (ad L 0)), none] rfl (Nat.le_of_ble_eq_true rfl) ?_
  intro p e s m below meth c9 A ar Q hQ X
  unfold catchI at hR
  cases h : f_X8_swap a with
  | none =>
    rw [h] at hR
    cases hR
  | some R =>
    rw [h] at hR
    refine j_aload_n X (i := 0) dL_swapped_0 rfl rfl ?_
    refine j_callV0 X 8 (m_X8_swap hl hL h) ml_L_124 im_yX8_swap se_yX8_swap in_X8 cd_yX8_swap hy_yX8_swap dL_swapped_1 rfl (inL hL t_0 (by decide)) (FW8 hL t_0) ⟨(by decide), (by decide)⟩ ⟨(by decide), (by decide)⟩ (Nat.le_of_ble_eq_true rfl) (fun E hE => ?_) (fun r9 L9 f9 h9 => ?_)
    · obtain ⟨k, hk, hE⟩ := hE
      subst hk
      dsimp only at hR
      by_cases h1 : k = 1
      · subst h1
        rw [if_pos rfl] at hR
        cases hR
        subst hE
        refine jx_catch X [] ⟨0, 4, 5, 103⟩ [] rfl (fun _ h => absurd h List.not_mem_nil) rfl (by decide) cl_L_103 (List.mem_of_getElem? (i := 2) rfl) (fun q => ?_)
        refine j_astore_n X (i := 1) dL_swapped_5 rfl (by decide) (by first | exact lvOK_0 | exact lvOK_s rfl okPrev_none | exact lvOK_s rfl okPrev_int | exact lvOK_s rfl okPrev_ref | exact lvOK_s rfl okPrev_null) ?_
        dsimp only [List.set]
        refine j_ldc X dL_swapped_6 co_L_105 ?_
        exact q_iret X hQ dL_swapped_8 rfl ⟨(by decide), (by decide)⟩ ⟨rfl, rfl, rfl⟩
      · rw [if_neg h1] at hR
        cases hR
    · obtain ⟨h91, v9, a9, hk, h92, h93⟩ := h9
      subst hk
      subst r9
      subst f9
      subst L9
      dsimp only [Option.toList, List.cons_append, List.nil_append, List.append]
      dsimp only at hR
      cases hR
      exact q_iret X hQ dL_swapped_4 rfl ⟨(by decide), (by decide)⟩ ⟨rfl, rfl, rfl⟩
set_option maxRecDepth 100000 in
set_option maxHeartbeats 4000000 in
theorem m_L_claimed {l : Launch} (hl : l.stackTraces = false) {G : GG} {L : List Nat} (hL : LOK L) {a b c : Mem} {p0 : Int32} {v : Int32} {a' : Mem} (hR : catchI (f_X8_claim p0 a) a = some (v, a')) : Ct l G yL_claimed (.codeWith yL_claimed cL_claimed 3 (some .int) [((0 : Nat), (5 : Nat), (6 : Nat), (103 : Nat))]) 8 165 2 12 [.ref (ad L 0), .int p0] L (FW G L a b c) px0 (stay L (fun r f1 => f1 = FW G L a' b c ∧ r = some (.int v))) := by
  refine Ct.ofH (own := RL) [⟨0, 5, 6, 103⟩] rfl hl rfl (by decide) [some (.ref (ad L 0)), some (.int p0), none] rfl (Nat.le_of_ble_eq_true rfl) ?_
  intro p e s m below meth c9 A ar Q hQ X
  unfold catchI at hR
  cases h : f_X8_claim p0 a with
  | none =>
    rw [h] at hR
    cases hR
  | some R =>
    rw [h] at hR
    refine j_aload_n X (i := 0) dL_claimed_0 rfl rfl ?_
    refine j_iload_n X (i := 1) dL_claimed_1 rfl rfl ?_
    refine j_callV1 X 8 (m_X8_claim hl hL h) ml_L_118 im_yX8_claim se_yX8_claim in_X8 cd_yX8_claim hy_yX8_claim dL_claimed_2 rfl (inL hL t_0 (by decide)) (FW8 hL t_0) ⟨(by decide), (by decide)⟩ ⟨(by decide), (by decide)⟩ (Nat.le_of_ble_eq_true rfl) (fun E hE => ?_) (fun r9 L9 f9 h9 => ?_)
    · obtain ⟨k, hk, hE⟩ := hE
      subst hk
      dsimp only at hR
      by_cases h1 : k = 1
      · subst h1
        rw [if_pos rfl] at hR
        cases hR
        subst hE
        refine jx_catch X [] ⟨0, 5, 6, 103⟩ [] rfl (fun _ h => absurd h List.not_mem_nil) rfl (by decide) cl_L_103 (List.mem_of_getElem? (i := 2) rfl) (fun q => ?_)
        refine j_astore_n X (i := 2) dL_claimed_6 rfl (by decide) (by first | exact lvOK_0 | exact lvOK_s rfl okPrev_none | exact lvOK_s rfl okPrev_int | exact lvOK_s rfl okPrev_ref | exact lvOK_s rfl okPrev_null) ?_
        dsimp only [List.set]
        refine j_ldc X dL_claimed_7 co_L_105 ?_
        exact q_iret X hQ dL_claimed_9 rfl ⟨(by decide), (by decide)⟩ ⟨rfl, rfl, rfl⟩
      · rw [if_neg h1] at hR
        cases hR
    · obtain ⟨h91, v9, a9, hk, h92, h93⟩ := h9
      subst hk
      subst r9
      subst f9
      subst L9
      dsimp only [Option.toList, List.cons_append, List.nil_append, List.append]
      dsimp only at hR
      cases hR
      exact q_iret X hQ dL_claimed_5 rfl ⟨(by decide), (by decide)⟩ ⟨rfl, rfl, rfl⟩
set_option maxRecDepth 100000 in
set_option maxHeartbeats 4000000 in
theorem m_L_given {l : Launch} (hl : l.stackTraces = false) {G : GG} {L : List Nat} (hL : LOK L) {a b c : Mem} {p0 : Int32} {p1 : Int32} {v : Int32} {a' : Mem} (hR : catchI (f_X8_give p0 p1 a) a = some (v, a')) : Ct l G yL_given (.codeWith yL_given cL_given 4 (some .int) [((0 : Nat), (6 : Nat), (7 : Nat), (103 : Nat))]) 8 167 2 12 [.ref (ad L 0), .int p0, .int p1] L (FW G L a b c) px0 (stay L (fun r f1 => f1 = FW G L a' b c ∧ r = some (.int v))) := by
  refine Ct.ofH (own := RL) [⟨0, 6, 7, 103⟩] rfl hl rfl (by decide) [some (.ref (ad L 0)), some (.int p0), some (.int p1), none] rfl (Nat.le_of_ble_eq_true rfl) ?_
  intro p e s m below meth c9 A ar Q hQ X
  unfold catchI at hR
  cases h : f_X8_give p0 p1 a with
  | none =>
    rw [h] at hR
    cases hR
  | some R =>
    rw [h] at hR
    refine j_aload_n X (i := 0) dL_given_0 rfl rfl ?_
    refine j_iload_n X (i := 1) dL_given_1 rfl rfl ?_
    refine j_iload_n X (i := 2) dL_given_2 rfl rfl ?_
    refine j_callV2 X 8 (m_X8_give hl hL h) ml_L_121 im_yX8_give se_yX8_give in_X8 cd_yX8_give hy_yX8_give dL_given_3 rfl (inL hL t_0 (by decide)) (FW8 hL t_0) ⟨(by decide), (by decide)⟩ ⟨(by decide), (by decide)⟩ (Nat.le_of_ble_eq_true rfl) (fun E hE => ?_) (fun r9 L9 f9 h9 => ?_)
    · obtain ⟨k, hk, hE⟩ := hE
      subst hk
      dsimp only at hR
      by_cases h1 : k = 1
      · subst h1
        rw [if_pos rfl] at hR
        cases hR
        subst hE
        refine jx_catch X [] ⟨0, 6, 7, 103⟩ [] rfl (fun _ h => absurd h List.not_mem_nil) rfl (by decide) cl_L_103 (List.mem_of_getElem? (i := 2) rfl) (fun q => ?_)
        refine j_astore_n X (i := 3) dL_given_7 rfl (by decide) (by first | exact lvOK_0 | exact lvOK_s rfl okPrev_none | exact lvOK_s rfl okPrev_int | exact lvOK_s rfl okPrev_ref | exact lvOK_s rfl okPrev_null) ?_
        dsimp only [List.set]
        refine j_ldc X dL_given_8 co_L_105 ?_
        exact q_iret X hQ dL_given_10 rfl ⟨(by decide), (by decide)⟩ ⟨rfl, rfl, rfl⟩
      · rw [if_neg h1] at hR
        cases hR
    · obtain ⟨h91, v9, a9, hk, h92, h93⟩ := h9
      subst hk
      subst r9
      subst f9
      subst L9
      dsimp only [Option.toList, List.cons_append, List.nil_append, List.append]
      dsimp only at hR
      cases hR
      exact q_iret X hQ dL_given_6 rfl ⟨(by decide), (by decide)⟩ ⟨rfl, rfl, rfl⟩
set_option maxRecDepth 100000 in
set_option maxHeartbeats 4000000 in
theorem m_L_paused1 {l : Launch} (hl : l.stackTraces = false) {G : GG} {L : List Nat} (hL : LOK L) {a b c : Mem}  {v : Int32} {a' : Mem} (hR : catchI (f_X8_pause a) a = some (v, a')) : Ct l G yL_paused (.codeWith yL_paused cL_paused 3 (some .int) [((0 : Nat), (15 : Nat), (16 : Nat), (103 : Nat))]) 7 164 1 6 [.ref (ad L 0), .int 1] L (FW G L a b c) px0 (stay L (fun r f1 => f1 = FW G L a' b c ∧ r = some (.int v))) := by
  refine Ct.ofH (own := RL) [⟨0, 15, 16, 103⟩] rfl hl rfl (by decide) [some (.ref (ad L 0)), some (.int 1), none] rfl (Nat.le_of_ble_eq_true rfl) ?_
  intro p e s m below meth c9 A ar Q hQ X
  unfold catchI at hR
  cases h : f_X8_pause a with
  | none =>
    rw [h] at hR
    cases hR
  | some R =>
    rw [h] at hR
    refine j_iload_n X (i := 1) dL_paused_0 rfl rfl ?_
    refine j_if_eq X (tgt := 11) dL_paused_1 (by decide) (fun h => absurd h (by decide)) (fun _ => ?_)
    refine j_aload_n X (i := 0) dL_paused_4 rfl rfl ?_
    refine j_callV0 X 8 (m_X8_pause hl hL h) ml_L_106 im_yX8_pause se_yX8_pause in_X8 cd_yX8_pause hy_yX8_pause dL_paused_5 rfl (inL hL t_0 (by decide)) (FW8 hL t_0) ⟨(by decide), (by decide)⟩ ⟨(by decide), (by decide)⟩ (Nat.le_of_ble_eq_true rfl) (fun E hE => ?_) (fun r9 L9 f9 h9 => ?_)
    · obtain ⟨k, hk, hE⟩ := hE
      subst hk
      dsimp only at hR
      by_cases h1 : k = 1
      · subst h1
        rw [if_pos rfl] at hR
        cases hR
        subst hE
        refine jx_catch X [] ⟨0, 15, 16, 103⟩ [] rfl (fun _ h => absurd h List.not_mem_nil) rfl (by decide) cl_L_103 (List.mem_of_getElem? (i := 2) rfl) (fun q => ?_)
        refine j_astore_n X (i := 2) dL_paused_16 rfl (by decide) (by first | exact lvOK_0 | exact lvOK_s rfl okPrev_none | exact lvOK_s rfl okPrev_int | exact lvOK_s rfl okPrev_ref | exact lvOK_s rfl okPrev_null) ?_
        dsimp only [List.set]
        refine j_ldc X dL_paused_17 co_L_105 ?_
        exact q_iret X hQ dL_paused_19 rfl ⟨(by decide), (by decide)⟩ ⟨rfl, rfl, rfl⟩
      · rw [if_neg h1] at hR
        cases hR
    · obtain ⟨h91, v9, a9, hk, h92, h93⟩ := h9
      subst hk
      subst r9
      subst f9
      subst L9
      dsimp only [Option.toList, List.cons_append, List.nil_append, List.append]
      dsimp only at hR
      cases hR
      refine j_goto X (tgt := 15) dL_paused_8 (by decide) ?_
      exact q_iret X hQ dL_paused_15 rfl ⟨(by decide), (by decide)⟩ ⟨rfl, rfl, rfl⟩
set_option maxRecDepth 100000 in
set_option maxHeartbeats 4000000 in
theorem m_L_paused0 {l : Launch} (hl : l.stackTraces = false) {G : GG} {L : List Nat} (hL : LOK L) {a b c : Mem}  {v : Int32} {a' : Mem} (hR : catchI (f_X8_proceed a) a = some (v, a')) : Ct l G yL_paused (.codeWith yL_paused cL_paused 3 (some .int) [((0 : Nat), (15 : Nat), (16 : Nat), (103 : Nat))]) 7 164 1 6 [.ref (ad L 0), .int 0] L (FW G L a b c) px0 (stay L (fun r f1 => f1 = FW G L a' b c ∧ r = some (.int v))) := by
  refine Ct.ofH (own := RL) [⟨0, 15, 16, 103⟩] rfl hl rfl (by decide) [some (.ref (ad L 0)), some (.int 0), none] rfl (Nat.le_of_ble_eq_true rfl) ?_
  intro p e s m below meth c9 A ar Q hQ X
  unfold catchI at hR
  cases h : f_X8_proceed a with
  | none =>
    rw [h] at hR
    cases hR
  | some R =>
    rw [h] at hR
    refine j_iload_n X (i := 1) dL_paused_0 rfl rfl ?_
    refine j_if_eq X (tgt := 11) dL_paused_1 (by decide) (fun _ => ?_) (fun h => absurd rfl h)
    refine j_aload_n X (i := 0) dL_paused_11 rfl rfl ?_
    refine j_callV0 X 8 (m_X8_proceed hl hL h) ml_L_109 im_yX8_proceed se_yX8_proceed in_X8 cd_yX8_proceed hy_yX8_proceed dL_paused_12 rfl (inL hL t_0 (by decide)) (FW8 hL t_0) ⟨(by decide), (by decide)⟩ ⟨(by decide), (by decide)⟩ (Nat.le_of_ble_eq_true rfl) (fun E hE => ?_) (fun r9 L9 f9 h9 => ?_)
    · obtain ⟨k, hk, hE⟩ := hE
      subst hk
      dsimp only at hR
      by_cases h1 : k = 1
      · subst h1
        rw [if_pos rfl] at hR
        cases hR
        subst hE
        refine jx_catch X [] ⟨0, 15, 16, 103⟩ [] rfl (fun _ h => absurd h List.not_mem_nil) rfl (by decide) cl_L_103 (List.mem_of_getElem? (i := 2) rfl) (fun q => ?_)
        refine j_astore_n X (i := 2) dL_paused_16 rfl (by decide) (by first | exact lvOK_0 | exact lvOK_s rfl okPrev_none | exact lvOK_s rfl okPrev_int | exact lvOK_s rfl okPrev_ref | exact lvOK_s rfl okPrev_null) ?_
        dsimp only [List.set]
        refine j_ldc X dL_paused_17 co_L_105 ?_
        exact q_iret X hQ dL_paused_19 rfl ⟨(by decide), (by decide)⟩ ⟨rfl, rfl, rfl⟩
      · rw [if_neg h1] at hR
        cases hR
    · obtain ⟨h91, v9, a9, hk, h92, h93⟩ := h9
      subst hk
      subst r9
      subst f9
      subst L9
      dsimp only [Option.toList, List.cons_append, List.nil_append, List.append]
      dsimp only at hR
      cases hR
      exact q_iret X hQ dL_paused_15 rfl ⟨(by decide), (by decide)⟩ ⟨rfl, rfl, rfl⟩
theorem hz_yL_moved : yL_moved.cls ≠ "java/lang/invoke/MethodHandle" ∧ yL_moved.cls ≠ "java/lang/invoke/VarHandle" ∧ (parseMethodDescriptor yL_moved.desc).map (fun d => d.parameters.length) = some 1 := by decide +kernel
theorem hz_yL_sealed : yL_sealed.cls ≠ "java/lang/invoke/MethodHandle" ∧ yL_sealed.cls ≠ "java/lang/invoke/VarHandle" ∧ (parseMethodDescriptor yL_sealed.desc).map (fun d => d.parameters.length) = some 1 := by decide +kernel
theorem hz_yL_opened : yL_opened.cls ≠ "java/lang/invoke/MethodHandle" ∧ yL_opened.cls ≠ "java/lang/invoke/VarHandle" ∧ (parseMethodDescriptor yL_opened.desc).map (fun d => d.parameters.length) = some 1 := by decide +kernel
theorem hz_yL_swapped : yL_swapped.cls ≠ "java/lang/invoke/MethodHandle" ∧ yL_swapped.cls ≠ "java/lang/invoke/VarHandle" ∧ (parseMethodDescriptor yL_swapped.desc).map (fun d => d.parameters.length) = some 1 := by decide +kernel
theorem hz_yL_claimed : yL_claimed.cls ≠ "java/lang/invoke/MethodHandle" ∧ yL_claimed.cls ≠ "java/lang/invoke/VarHandle" ∧ (parseMethodDescriptor yL_claimed.desc).map (fun d => d.parameters.length) = some 2 := by decide +kernel
theorem hz_yL_given : yL_given.cls ≠ "java/lang/invoke/MethodHandle" ∧ yL_given.cls ≠ "java/lang/invoke/VarHandle" ∧ (parseMethodDescriptor yL_given.desc).map (fun d => d.parameters.length) = some 3 := by decide +kernel
theorem hz_yL_paused : yL_paused.cls ≠ "java/lang/invoke/MethodHandle" ∧ yL_paused.cls ≠ "java/lang/invoke/VarHandle" ∧ (parseMethodDescriptor yL_paused.desc).map (fun d => d.parameters.length) = some 2 := by decide +kernel
theorem hz_yL_act : yL_act.cls ≠ "java/lang/invoke/MethodHandle" ∧ yL_act.cls ≠ "java/lang/invoke/VarHandle" ∧ (parseMethodDescriptor yL_act.desc).map (fun d => d.parameters.length) = some 3 := by decide +kernel
theorem hz_yL_stands : yL_stands.cls ≠ "java/lang/invoke/MethodHandle" ∧ yL_stands.cls ≠ "java/lang/invoke/VarHandle" ∧ (parseMethodDescriptor yL_stands.desc).map (fun d => d.parameters.length) = some 1 := by decide +kernel
theorem hz_yL_load : yL_load.cls ≠ "java/lang/invoke/MethodHandle" ∧ yL_load.cls ≠ "java/lang/invoke/VarHandle" ∧ (parseMethodDescriptor yL_load.desc).map (fun d => d.parameters.length) = some 2 := by decide +kernel
