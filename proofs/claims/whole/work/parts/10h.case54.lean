section JROWS
variable {G : GG} {p : Program} {l : Launch} {e : Env} {s : State} {m : MethodId} {args : Array Value} {below : List Frame} {meth : Method} {c9 : Code} {A : Nat → Prop} {Q : State → Prop} {ret9 : Option FieldType} {tb : List ExceptionTableEntry} {L : List Nat} 
def f_case_54 (N Ln : Nat) (xs : Nat → Int32) (i : Int32) (a b c : Mem) : Option (Mem × Mem × Mem) := chkI (i + (1 : Int32)) Ln <| bP3 (f_L_outputByte (xs ((i + (1 : Int32))).toNatClampNeg) a c) fun x3 a4 c5 => chkI (i + (1 : Int32)) Ln <| bP2 (f_X9_outputByte N (xs ((i + (1 : Int32))).toNatClampNeg) b) fun x8 b9 => bT (f_X9_thrown  b9) fun x12 => if x12 = x3 then (if x3 = 0 then (if (lg_cmp (Int32.toInt64 (c5 0 0)) (Int32.toInt64 x8)) = 0 then (some (a4, b9, c5)) else (none)) else (some (a4, b9, c5))) else (none)
set_option maxRecDepth 100000 in
set_option maxHeartbeats 4000000 in
theorem m_case_54 (X : Cx G p l s m args meth c9 A RL cL_law 9 ret9 tb) (hl : l.stackTraces = false) (hL : LOK L) (hL7 : L.length = 107) {N Ln sb : Nat} {xs : Nat → Int32} (hX : va_X sb Ln xs s s.heap) (hb : sb < s.heap.size) (hbA : ¬ A sb) {cl sl : Nat} (hcl : cl + 8 ≤ 601024) (hsl : sl + 64 ≤ 7293034) {i : Int32} {a b c a' b' c' : Mem} (hR : f_case_54 N Ln xs i a b c = some (a', b', c')) (kk : J G p l e ({ frames := 14, cells := 601024, slots := 7293034, locals := 524 } : Room) s m args below meth c9 A Q 9 (cl + 8) (sl + 64) 3067 [some (.ref sb), some (.ref (ad L 0)), some (.ref (ad L 96)), some (.ref (ad L 105)), some (.ref (ad L 106)), some (.int i), none, none, none] [] L (FW G L a' b' c')) : J G p l e ({ frames := 14, cells := 601024, slots := 7293034, locals := 524 } : Room) s m args below meth c9 A Q 9 cl sl 3011 [some (.ref sb), some (.ref (ad L 0)), some (.ref (ad L 96)), some (.ref (ad L 105)), some (.ref (ad L 106)), some (.int i), none, none, none] [] L (FW G L a b c) := by
  unfold f_case_54 at hR
  refine j_aload_n X (i := 1) dL_law_3011 rfl rfl ?_
  refine j_aload_n X (i := 0) dL_law_3012 rfl rfl ?_
  refine j_iload X dL_law_3013 rfl ?_
  refine j_iconst X (1) dL_law_3015 (by decide) ?_
  refine j_iadd X dL_law_3016 ?_
  obtain ⟨h1, hR⟩ := chkI_inv hR
  refine j_sld X hX hb hbA h1 dL_law_3017 ?_
  refine j_aload_n X (i := 3) dL_law_3018 rfl rfl ?_
  obtain ⟨x3, a4, c5, h2, hR⟩ := bP3_inv hR
  refine j_callSW (As := [.ref (ad L 0), .int (xs ((i + (1 : Int32))).toNatClampNeg), .ref (ad L 105)]) (rest := []) X (m_L_outputByte hl hL hL7  h2) ml_L_346 st_yL_outputByte in_L cd_yL_outputByte hy_yL_outputByte dL_law_3019 ⟨(by decide), (by decide)⟩ ⟨Nat.le_trans (Nat.add_le_add_left (by decide : 1 ≤ 8) _) hcl, Nat.le_trans (Nat.add_le_add_left (by decide : 6 ≤ 64) _) hsl⟩ (Nat.le_of_ble_eq_true rfl) (fun _ h => h.elim) (fun r9 L9 f9 h9 => ?_)
  obtain ⟨h91, h92, h93⟩ := h9
  subst r9
  subst f9
  subst L9
  dsimp only [Option.toList, List.cons_append, List.nil_append, List.append]
  refine j_istore X dL_law_3022 (by decide) (lvOK_s rfl okPrev_int) ?_
  dsimp only [List.set]
  refine j_aload_n X (i := 2) dL_law_3024 rfl rfl ?_
  refine j_aload_n X (i := 0) dL_law_3025 rfl rfl ?_
  refine j_iload X dL_law_3026 rfl ?_
  refine j_iconst X (1) dL_law_3028 (by decide) ?_
  refine j_iadd X dL_law_3029 ?_
  obtain ⟨h6, hR⟩ := chkI_inv hR
  refine j_sld X hX hb hbA h6 dL_law_3030 ?_
  obtain ⟨x8, b9, h7, hR⟩ := bP2_inv hR
  refine j_callV1 X 9 (m_X9_outputByte hl hL  h7) ml_L_348 im_yX9_outputByte se_yX9_outputByte in_X9 cd_yX9_outputByte hy_yX9_outputByte dL_law_3031 rfl (ad_mem hL (by decide)) (FW9 hL) ⟨(by decide), (by decide)⟩ ⟨Nat.le_trans (Nat.add_le_add_left (by decide : 1 ≤ 8) _) hcl, Nat.le_trans (Nat.add_le_add_left (by decide : 6 ≤ 64) _) hsl⟩ (Nat.le_of_ble_eq_true rfl) (fun _ h => h.elim) (fun r9 L9 f9 h9 => ?_)
  obtain ⟨h91, h92, h93⟩ := h9
  subst r9
  subst f9
  subst L9
  dsimp only [Option.toList, List.cons_append, List.nil_append, List.append]
  refine j_istore X dL_law_3034 (by decide) (lvOK_s rfl okPrev_int) ?_
  dsimp only [List.set]
  refine j_aload_n X (i := 2) dL_law_3036 rfl rfl ?_
  obtain ⟨x12, h11, hR⟩ := bT_inv hR
  refine j_callV0 X 9 (m_X9_thrown hl hL  h11) ml_L_162 im_yX9_thrown se_yX9_thrown in_X9 cd_yX9_thrown hy_yX9_thrown dL_law_3037 rfl (ad_mem hL (by decide)) (FW9 hL) ⟨(by decide), (by decide)⟩ ⟨Nat.le_trans (Nat.add_le_add_left (by decide : 1 ≤ 8) _) hcl, Nat.le_trans (Nat.add_le_add_left (by decide : 6 ≤ 64) _) hsl⟩ (Nat.le_of_ble_eq_true rfl) (fun _ h => h.elim) (fun r9 L9 f9 h9 => ?_)
  obtain ⟨h91, h92, h93⟩ := h9
  subst r9
  subst f9
  subst L9
  dsimp only [Option.toList, List.cons_append, List.nil_append, List.append]
  refine j_iload X dL_law_3040 rfl ?_
  refine j_icmp_eq X (tgt := 3047) dL_law_3042 (by decide) (fun h14 => ?_) (fun h14 => ?_)
  · replace hR := (if_pos h14).symm.trans hR
    refine j_iload X dL_law_3047 rfl ?_
    refine j_if_ne X (tgt := 3064) dL_law_3049 (by decide) (fun h15 => ?_) (fun h15 => ?_)
    · replace hR := (if_neg h15).symm.trans hR
      refine j_goto X (tgt := 3067) dL_law_3064 (by decide) ?_
      have h9 := Option.some.inj hR
      rw [← (Prod.mk.inj h9).1, ← (Prod.mk.inj (Prod.mk.inj h9).2).1, ← (Prod.mk.inj (Prod.mk.inj h9).2).2] at kk
      exact J.widen (c1 := cl + 8) (s1 := sl + 64) (by omega) (by omega) (J.sub (lvle_of (by simp only [lvle, and_self])) kk)
    · replace hR := (if_pos h15).symm.trans hR
      refine j_aload_n X (i := 3) dL_law_3052 rfl rfl ?_
      refine j_iconst X (0) dL_law_3053 (by decide) ?_
      refine j_lald105 X hL hL7 dL_law_3054 ?_
      refine j_iload X dL_law_3055 rfl ?_
      refine j_i2l X dL_law_3057 ?_
      refine j_lcmp X dL_law_3058 ?_
      refine j_if_eq X (tgt := 3064) dL_law_3059 (by decide) (fun h16 => ?_) (fun h16 => ?_)
      · replace hR := (if_pos h16).symm.trans hR
        refine j_goto X (tgt := 3067) dL_law_3064 (by decide) ?_
        have h9 := Option.some.inj hR
        rw [← (Prod.mk.inj h9).1, ← (Prod.mk.inj (Prod.mk.inj h9).2).1, ← (Prod.mk.inj (Prod.mk.inj h9).2).2] at kk
        exact J.widen (c1 := cl + 8) (s1 := sl + 64) (by omega) (by omega) (J.sub (lvle_of (by simp only [lvle, and_self])) kk)
      · replace hR := (if_neg h16).symm.trans hR
        refine j_iconst X (0) dL_law_3062 (by decide) ?_
        cases hR
  · replace hR := (if_neg h14).symm.trans hR
    refine j_iconst X (0) dL_law_3045 (by decide) ?_
    cases hR
end JROWS
theorem ag_outputByte {t : Int} {N : Nat} {a b c : Mem} {p : Int32} (h : REL t a b) : AGR t (f_L_outputByte p a c) (f_X9_outputByte N p b) := by
  obtain ⟨n, hn, o1, o2, o3⟩ := h.2.2.2.2.2.2.2
  have e0 : (0 : Int32).toInt = 0 := rfl
  have e1 : (1 : Int32).toInt = 1 := rfl
  have l0 : (0 : Int64).toInt = 0 := rfl
  have en : (nI n).toInt = n := z_nI (by omega)
  have en1 : (nI n - 1).toInt = (n : Int) - 1 := by rw [z_sub (by rw [en, e1]; omega) (by rw [en, e1]; omega), en, e1]
  have hX : f_X8_outputByte p a = if 0 ≤ p.toInt ∧ p.toInt ≤ (n : Int) - 1 then some (.ok (a 7 p.toNatClampNeg)) else some (.error 4) := by
    unfold f_X8_outputByte
    rw [o1]
    by_cases hp : 0 ≤ p.toInt ∧ p.toInt ≤ (n : Int) - 1
    · rw [if_neg (show ¬ p < 0 by rw [z_lt, e0]; omega), if_neg (show ¬ nI n ≤ p by rw [z_le, en]; omega), if_pos (show p < nI 256 by rw [z_lt, z_nI (by omega)]; omega), if_pos hp]
    · rw [if_neg hp]
      by_cases z1 : p < 0
      · rw [if_pos z1]
      · have z2 := z_nlt z1
        rw [e0] at z2
        rw [if_neg z1, if_pos (show nI n ≤ p by rw [z_le, en]; omega)]
  unfold f_L_outputByte f_X9_outputByte
  rw [hX]
  simp only [b_T, pass1, q_in, Int32.toInt_toInt64, l0, o2, en1]
  by_cases hp : 0 ≤ p.toInt ∧ p.toInt ≤ (n : Int) - 1
  · rw [if_pos hp, if_pos hp, if_neg (show ¬ (1 : Int32) = 0 by decide)]
    simp only [b_T2]
    rw [if_neg (show ¬ (1 : Int32) = 0 by decide)]
    have hc : ∀ (k : Option (Int32 × Mem)), chkI p 300 k = k := fun k => by
      unfold chkI
      rw [if_neg]
      intro h9
      rcases h9 with h9 | h9
      · have := z_lt.1 h9
        rw [e0] at this
        omega
      · rw [z_tn] at h9
        omega
    rw [hc, p2_n (show (8 : Nat) ≠ 0 by omega), ← o3 p.toNatClampNeg (by rw [z_tn]; omega)]
    exact ag_ok rfl rfl (REL_t h).1 (REL_t h).2
  · rw [if_neg hp, if_neg hp, if_pos rfl]
    simp only [b_T2, reduceIte]
    exact ag_er rfl rfl h (by decide)
theorem g_case_54 {t : Int} {N Ln : Nat} {xs : Nat → Int32} {i : Int32} {a b c : Mem} (hN : 200000 ≤ N) (h0 : 0 ≤ i.toInt) (h1 : i.toInt + 6 ≤ Ln) (hLn : Ln ≤ 3072) (ht0 : 0 ≤ t) (ht : t ≤ 512) (h : REL t a b) : ∃ a' b' c', f_case_54 N Ln xs i a b c = some (a', b', c') ∧ REL (t + 1) a' b' := by
  unfold f_case_54
  simp only [cI1 h0 h1 hLn]
  exact rel1 (glue (ag_outputByte h))
