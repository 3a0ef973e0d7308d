theorem in_lt2 {i : Int32} {n : Nat} (h1 : ¬ i < 0) (h2 : i < nI n) (hn : n < 2 ^ 31) : vp_in i n := in_ge h1 (fun h => by
  have a1 := z_lt.1 h2
  have a2 := z_le.1 h
  omega) hn
section JROWS
variable {G : GG} {p : Program} {l : Launch} {e : Env} {R : Room} {s : State} {m : MethodId} {args : Array Value} {below : List Frame} {meth : Method} {c : Code} {A : Nat → Prop} {Q : State → Prop} {own : String} {cc : ByteArray} {nL cells slots pc : Nat} {ret : Option FieldType} {tb : List ExceptionTableEntry} {lv : List (Option Value)} {st : List Value} {L : List Nat} {f : Nat → va_E}
theorem q_throwNW (X : Cx G p l s m args meth c A own cc nL ret []) {px : String → Prop} {mc ms : Nat} {Qc : Array Value → State → Outcome → State → Prop} (hQ : Q = vx_MQ below Qc (Xg G A L f px) args s mc ms A) (i : Nat) {is ik ic : Nat} {cls text : String} (hi : strT[i]? = some (own, is, text)) (d0 : decode cc pc = .ok (.new ik, 3)) (d3 : decode cc (pc + 3) = .ok (.dup, 1)) (d4 : decode cc (pc + 4) = .ok (.ldc_w is, 3)) (d6 : decode cc (pc + 7) = .ok (.invokespecial ic, 3)) (d9 : decode cc (pc + 10) = .ok (.athrow, 1)) (ax : exAxN own ik ic cls) (hfr : 5 < R.frames) (hlo : (st.map fun v => v.category).sum + 82 ≤ R.locals) (hc1 : cells + 1 ≤ R.cells ∧ slots + 6 ≤ R.slots) (hc : cells + 1 ≤ mc ∧ slots + 6 ≤ ms) (hp : px cls) : J G p l e R s m args below meth c A Q nL cells slots pc lv st L f := by
  subst hQ
  exact j_throwNW X i hi d0 d3 d4 d6 d9 ax hfr hlo hc1 hc hp
end JROWS
def f_X8_outputByte (p0 : Int32) (a : Mem) : Option (Except Nat Int32) := if p0 < 0 then (some (.error 4)) else (if (a 6 1) ≤ p0 then (some (.error 4)) else (if p0 < (nI 256) then (some (.ok (a 7 (p0).toNatClampNeg))) else (some (.error 4))))
set_option maxRecDepth 100000 in
set_option maxHeartbeats 4000000 in
theorem m_X8_outputByte {l : Launch} (hl : l.stackTraces = false) {G : GG} {L : List Nat} (hL : LOK L) {a b c : Mem} {p0 : Int32} {R : Except Nat Int32} (hR : f_X8_outputByte p0 a = some R) : Ct l G yX8_outputByte (.code yX8_outputByte cX8_outputByte 2 (some .int)) 6 100 1 6 [.ref (ad L 0), .int p0] L (FW G L a b c) (fun E => ∃ n, R = .error n ∧ E = exN n) (stay L (fun r f1 => ∃ v, R = .ok v ∧ f1 = (FW G L a b c) ∧ r = some (.int v))) := by
  refine Ct.ofq (own := RX8) hl rfl (by decide) [some (.ref (ad L 0)), some (.int p0)] rfl (Nat.le_of_ble_eq_true rfl) ?_
  intro p e s m below meth c9 A ar Q hQ X
  unfold f_X8_outputByte at hR
  refine j_iload_n X (i := 1) dX8_outputByte_0 rfl rfl ?_
  refine j_if_lt X (tgt := 27) dX8_outputByte_1 (by decide) (fun h1 => ?_) (fun h1 => ?_)
  · replace hR := (if_pos h1).symm.trans hR
    exact q_throwNW X hQ (i := 34) rfl dX8_outputByte_27 dX8_outputByte_30 dX8_outputByte_31 dX8_outputByte_34 dX8_outputByte_37 ax_NSE_X8_394_398 (by decide) (Nat.le_of_ble_eq_true rfl) ⟨(by decide), (by decide)⟩ ⟨(by decide), (by decide)⟩ ⟨_, (Option.some.inj hR).symm, rfl⟩
  · replace hR := (if_neg h1).symm.trans hR
    refine j_iload_n X (i := 1) dX8_outputByte_4 rfl rfl ?_
    refine j_aload_n X (i := 0) dX8_outputByte_5 rfl rfl ?_
    refine j_getf X 8 2 rfl cw_X8 fl_X8_24 (by decide) dX8_outputByte_6 (inL hL t_0 (by decide)) (FW8 hL t_0) rfl ?_
    refine j_getf X 2 1 rfl cw_X2 fl_X8_367 (by decide) dX8_outputByte_9 (inL hL t_6 (by decide)) (FW2 hL t_6) rfl ?_
    refine j_icmp_ge X (tgt := 27) dX8_outputByte_12 (by decide) (fun h2 => ?_) (fun h2 => ?_)
    · replace hR := (if_pos h2).symm.trans hR
      exact q_throwNW X hQ (i := 34) rfl dX8_outputByte_27 dX8_outputByte_30 dX8_outputByte_31 dX8_outputByte_34 dX8_outputByte_37 ax_NSE_X8_394_398 (by decide) (Nat.le_of_ble_eq_true rfl) ⟨(by decide), (by decide)⟩ ⟨(by decide), (by decide)⟩ ⟨_, (Option.some.inj hR).symm, rfl⟩
    · replace hR := (if_neg h2).symm.trans hR
      refine j_iload_n X (i := 1) dX8_outputByte_15 rfl rfl ?_
      refine j_aload_n X (i := 0) dX8_outputByte_16 rfl rfl ?_
      refine j_getf X 8 2 rfl cw_X8 fl_X8_24 (by decide) dX8_outputByte_17 (inL hL t_0 (by decide)) (FW8 hL t_0) rfl ?_
      refine j_getf X 2 0 rfl cw_X2 fl_X8_390 (by decide) dX8_outputByte_20 (inL hL t_6 (by decide)) (FW2 hL t_6) rfl ?_
      refine j_alenN X (k9 := 1) dX8_outputByte_23 (inL hL t_7 (by decide)) (FW25 hL t_7) rfl ?_
      refine j_icmp_lt X (tgt := 38) dX8_outputByte_24 (by decide) (fun h3 => ?_) (fun h3 => ?_)
      · replace hR := (if_pos h3).symm.trans hR
        refine j_aload_n X (i := 0) dX8_outputByte_38 rfl rfl ?_
        refine j_getf X 8 2 rfl cw_X8 fl_X8_24 (by decide) dX8_outputByte_39 (inL hL t_0 (by decide)) (FW8 hL t_0) rfl ?_
        refine j_getf X 2 0 rfl cw_X2 fl_X8_390 (by decide) dX8_outputByte_42 (inL hL t_6 (by decide)) (FW2 hL t_6) rfl ?_
        refine j_iload_n X (i := 1) dX8_outputByte_45 rfl rfl ?_
        refine j_bald X dX8_outputByte_46 (inL hL t_7 (by decide)) (FW25 hL t_7) (in_lt2 h1 h3 (by decide)) ?_
        exact q_iret X hQ dX8_outputByte_47 rfl ⟨(by decide), (by decide)⟩ ⟨rfl, _, (Option.some.inj hR).symm, rfl, rfl⟩
      · replace hR := (if_neg h3).symm.trans hR
        exact q_throwNW X hQ (i := 34) rfl dX8_outputByte_27 dX8_outputByte_30 dX8_outputByte_31 dX8_outputByte_34 dX8_outputByte_37 ax_NSE_X8_394_398 (by decide) (Nat.le_of_ble_eq_true rfl) ⟨(by decide), (by decide)⟩ ⟨(by decide), (by decide)⟩ ⟨_, (Option.some.inj hR).symm, rfl⟩
def f_L_outputByte (p0 : Int32) (a c : Mem) : Option (Int32 × Mem × Mem) := match f_X8_outputByte p0 a with | none => none | some (.error k) => (if k = 4 then some (1, a, c) else none) | some (.ok q) => (some (0, a, upR c 0 (upd (c 0) 0 q)))
set_option maxRecDepth 100000 in
set_option maxHeartbeats 4000000 in
theorem m_L_outputByte {l : Launch} (hl : l.stackTraces = false) {G : GG} {L : List Nat} (hL : LOK L) (hL7 : L.length = 107) {a b c : Mem} {p0 : Int32} {v : Int32} {a' c' : Mem} (hR : f_L_outputByte p0 a c = some (v, a', c')) : Ct l G yL_outputByte (.codeWith yL_outputByte cL_outputByte 4 (some .int) [((0 : Nat), (9 : Nat), (12 : Nat), (150 : Nat))]) 7 121 1 6 [.ref (ad L 0), .int p0, .ref (ad L 105)] L (FW G L a b c) px0 (stay L (fun r f1 => f1 = FW G L a' b c' ∧ r = some (.int v))) := by
  refine Ct.ofH (own := RL) [⟨0, 9, 12, 150⟩] rfl hl rfl (by decide) [some (.ref (ad L 0)), some (.int p0), some (.ref (ad L 105)), none] rfl (Nat.le_of_ble_eq_true rfl) ?_
  intro p e s m below meth c9 A ar Q hQ X
  unfold f_L_outputByte at hR
  cases h : f_X8_outputByte p0 a with
  | none =>
    rw [h] at hR
    cases hR
  | some R =>
    rw [h] at hR
    refine j_aload_n X (i := 2) dL_outputByte_0 rfl rfl ?_
    refine j_iconst X (0) dL_outputByte_1 (by decide) ?_
    refine j_aload_n X (i := 0) dL_outputByte_2 rfl rfl ?_
    refine j_iload_n X (i := 1) dL_outputByte_3 rfl rfl ?_
    refine j_callV1 X 8 (m_X8_outputByte hl hL  h) ml_L_147 im_yX8_outputByte se_yX8_outputByte in_X8 cd_yX8_outputByte hy_yX8_outputByte dL_outputByte_4 rfl (inL hL t_0 (by decide)) (FW8 hL t_0) ⟨(by decide), (by decide)⟩ ⟨(by decide), (by decide)⟩ (Nat.le_of_ble_eq_true rfl) (fun E hE => ?_) (fun r9 L9 f9 h9 => ?_)
    · obtain ⟨k, hk, hE⟩ := hE
      subst hk
      dsimp only at hR
      by_cases h1 : k = 4
      · subst h1
        rw [if_pos rfl] at hR
        subst hE
        refine jx_catch X [] ⟨0, 9, 12, 150⟩ [] rfl (fun _ h => absurd h List.not_mem_nil) rfl (by decide) cl_L_150 (List.mem_of_getElem? (i := 3) rfl) (fun q => ?_)
        refine j_astore_n X (i := 3) dL_outputByte_12 rfl (by decide) (lvOK_s rfl okPrev_ref) ?_
        dsimp only [List.set]
        refine j_iconst X (1) dL_outputByte_13 (by decide) ?_
        exact q_iret X hQ dL_outputByte_14 rfl ⟨(by decide), (by decide)⟩ (oinj3 hR rfl rfl rfl)
      · rw [if_neg h1] at hR
        cases hR
    · obtain ⟨h91, v9, hk, h92, h93⟩ := h9
      subst hk
      subst r9
      subst f9
      subst L9
      dsimp only [Option.toList, List.cons_append, List.nil_append, List.append]
      dsimp only at hR
      refine j_i2l X dL_outputByte_7 ?_
      refine t_last105 X hL hL7 (x := v9) rfl rfl dL_outputByte_8 ?_
      refine j_goto X (tgt := 15) dL_outputByte_9 (by decide) ?_
      refine j_iconst X (0) dL_outputByte_15 (by decide) ?_
      exact q_iret X hQ dL_outputByte_16 rfl ⟨(by decide), (by decide)⟩ (oinj3 hR rfl rfl rfl)
