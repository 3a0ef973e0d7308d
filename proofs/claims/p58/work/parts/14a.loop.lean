/-! the law's loop -/
section JROWS
variable {G : GG} {p : Program} {l : Launch} {e : Env} {s : State} {m : MethodId} {args : Array Value} {below : List Frame} {meth : Method} {c9 : Code} {A : Nat → Prop} {Q : State → Prop} {ret9 : Option FieldType} {tb : List ExceptionTableEntry} {L : List Nat} 
set_option maxRecDepth 100000 in
set_option maxHeartbeats 8000000 in
theorem lw_loop (X : Cx G p l s m args meth c9 A RL cL_law 9 ret9 tb) (hl : l.stackTraces = false) (hL : LOK L) {N : Nat} (hN : 10010 ≤ N) (hs : sLn G ≤ 1000) {b c : Mem} (hend : ∀ (cl sl : Nat) (a : Mem) (v2 v3 v4 v5 v6 v7 v8 : Option Value), cl ≤ 600086 → sl ≤ 7301442 → J G p l e ({ frames := 14, cells := 600086, slots := 7301442, locals := 518 } : Room) s m args below meth c9 A Q 9 (cl) (sl) 207 [some (.ref (G.2.2.1 100)), some (.ref (ad L 0)), v2, v3, v4, v5, v6, v7, v8] [] L (FW G L a b c)) : ∀ (w k cl sl : Nat) (t : Int) (a bb : Mem) (v3 v4 v5 v6 v7 v8 : Option Value), k + 3 * w = 250 → 0 ≤ t → t + w ≤ 512 → REL t a bb → IVX (bb 1) → cl + 530 * w ≤ 600086 → sl + 5200 * w ≤ 7301442 → J G p l e ({ frames := 14, cells := 600086, slots := 7301442, locals := 518 } : Room) s m args below meth c9 A Q 9 (cl) (sl) 28 [some (.ref (G.2.2.1 100)), some (.ref (ad L 0)), some (.int (nI k)), v3, v4, v5, v6, v7, v8] [] L (FW G L a b c) := by
  intro w
  induction w with
  | zero =>
    intro k cl sl t a bb v3 v4 v5 v6 v7 v8 hk h0 ht hr hi hc1 hs1
    refine j_iload_n X (i := 2) dL_law_28 rfl rfl ?_
    refine j_iconst X (2) dL_law_29 (by decide) ?_
    refine j_iadd X dL_law_30 ?_
    rw [show nI k + (2 : Int32) = nI (k + 2) from nI_add k 2]
    refine j_sipush X (250) dL_law_31 (by decide) ?_
    refine j_icmp_ge X (tgt := 207) dL_law_34 (by decide) (fun _ => ?_) (fun h => absurd ((nI_lei (x := 250) (y := k + 2) (by omega) (by omega)).2 (by omega)) h)
    exact hend cl sl a _ _ _ _ _ _ _ (by omega) (by omega)
  | succ w ih =>
    intro k cl sl t a bb v3 v4 v5 v6 v7 v8 hk h0 ht hr hi hc1 hs1
    have hA := a_ANS hr
    have hACT := a_ACT hN (by omega) hr hi
    have k51 : ∀ ov : Int32, (ov = 0 ∨ bb 1 0 = 4) → J G p l e ({ frames := 14, cells := 600086, slots := 7301442, locals := 518 } : Room) s m args below meth c9 A Q 9 (cl + 2) (sl + 12) 51 [some (.ref (G.2.2.1 100)), some (.ref (ad L 0)), some (.int (nI k)), v3, v4, v5, v6, v7, v8] [.int ov] L (FW G L a b c) := by
      intro ov hov
      refine j_istore_n X (i := 3) dL_law_51 rfl (by decide) (by first | exact lvOK_0 | exact lvOK_s rfl okPrev_none | exact lvOK_s rfl okPrev_int | exact lvOK_s rfl okPrev_ref | exact lvOK_s rfl okPrev_null) ?_
      dsimp only [List.set]
      refine j_aload_n X (i := 1) dL_law_52 rfl rfl ?_
      refine j_bipush X (11) dL_law_53 (by decide) ?_
      refine j_callV1 X 8 (m_X8_property hl hL (hA.2.1 11 (by omega))) ml_L_87 im_yX8_property se_yX8_property in_X8 cd_yX8_property hy_yX8_property dL_law_55 rfl (inL hL t_0 (by decide)) (FW8 hL t_0) ⟨(by decide), (by decide)⟩ ⟨(by dsimp only; omega), (by dsimp only; omega)⟩ (Nat.le_of_ble_eq_true rfl) (fun E hE => by obtain ⟨n9, hn9, -⟩ := hE; cases hn9) (fun r9 L9 f9 h9 => ?_)
      obtain ⟨h91, v9, hk9, h92, h93⟩ := h9
      cases hk9
      subst r9
      subst f9
      subst L9
      dsimp only [Option.toList, List.cons_append, List.nil_append, List.append]
      refine j_istore X (i := 4) dL_law_58 (by decide) (by first | exact lvOK_0 | exact lvOK_s rfl okPrev_none | exact lvOK_s rfl okPrev_int | exact lvOK_s rfl okPrev_ref | exact lvOK_s rfl okPrev_null) ?_
      dsimp only [List.set]
      refine j_aload_n X (i := 1) dL_law_60 rfl rfl ?_
      refine j_bipush X (7) dL_law_61 (by decide) ?_
      refine j_callV1 X 8 (m_X8_property hl hL (hA.2.1 7 (by omega))) ml_L_87 im_yX8_property se_yX8_property in_X8 cd_yX8_property hy_yX8_property dL_law_63 rfl (inL hL t_0 (by decide)) (FW8 hL t_0) ⟨(by decide), (by decide)⟩ ⟨(by dsimp only; omega), (by dsimp only; omega)⟩ (Nat.le_of_ble_eq_true rfl) (fun E hE => by obtain ⟨n9, hn9, -⟩ := hE; cases hn9) (fun r9 L9 f9 h9 => ?_)
      obtain ⟨h91, v9, hk9, h92, h93⟩ := h9
      cases hk9
      subst r9
      subst f9
      subst L9
      dsimp only [Option.toList, List.cons_append, List.nil_append, List.append]
      refine j_istore X (i := 5) dL_law_66 (by decide) (by first | exact lvOK_0 | exact lvOK_s rfl okPrev_none | exact lvOK_s rfl okPrev_int | exact lvOK_s rfl okPrev_ref | exact lvOK_s rfl okPrev_null) ?_
      dsimp only [List.set]
      refine j_aload_n X (i := 1) dL_law_68 rfl rfl ?_
      refine j_iconst X (0) dL_law_69 (by decide) ?_
      refine j_callV1 X 8 (m_X8_property hl hL (hA.2.1 0 (by omega))) ml_L_87 im_yX8_property se_yX8_property in_X8 cd_yX8_property hy_yX8_property dL_law_70 rfl (inL hL t_0 (by decide)) (FW8 hL t_0) ⟨(by decide), (by decide)⟩ ⟨(by dsimp only; omega), (by dsimp only; omega)⟩ (Nat.le_of_ble_eq_true rfl) (fun E hE => by obtain ⟨n9, hn9, -⟩ := hE; cases hn9) (fun r9 L9 f9 h9 => ?_)
      obtain ⟨h91, v9, hk9, h92, h93⟩ := h9
      cases hk9
      subst r9
      subst f9
      subst L9
      dsimp only [Option.toList, List.cons_append, List.nil_append, List.append]
      refine j_istore X (i := 6) dL_law_73 (by decide) (by first | exact lvOK_0 | exact lvOK_s rfl okPrev_none | exact lvOK_s rfl okPrev_int | exact lvOK_s rfl okPrev_ref | exact lvOK_s rfl okPrev_null) ?_
      dsimp only [List.set]
      refine j_aload_n X (i := 0) dL_law_75 rfl rfl ?_
      refine j_iload_n X (i := 2) dL_law_76 rfl rfl ?_
      refine j_bipush X (24) dL_law_77 (by decide) ?_
      refine j_callS3 X (c_draw (k := k) (n := 24) hl hs (by omega) (by decide)) ml_L_40 st_yL_draw in_L cd_yL_draw hz_yL_draw dL_law_79 ⟨(by decide), (by decide)⟩ ⟨(by dsimp only; omega), (by dsimp only; omega)⟩ (Nat.le_of_ble_eq_true rfl) (fun _ h => h.elim) (fun r9 L9 f9 h9 => ?_)
      obtain ⟨h91, h92, h93⟩ := h9
      subst r9
      subst f9
      subst L9
      dsimp only [Option.toList, List.cons_append, List.nil_append, List.append]
      refine j_istore X (i := 7) dL_law_82 (by decide) (by first | exact lvOK_0 | exact lvOK_s rfl okPrev_none | exact lvOK_s rfl okPrev_int | exact lvOK_s rfl okPrev_ref | exact lvOK_s rfl okPrev_null) ?_
      dsimp only [List.set]
      refine j_aload_n X (i := 1) dL_law_84 rfl rfl ?_
      refine j_aload_n X (i := 0) dL_law_85 rfl rfl ?_
      refine j_iload_n X (i := 2) dL_law_86 rfl rfl ?_
      refine j_callS3 X (m_act hl hL (k := k) hs (by omega) hACT) ml_L_196 st_yL_act in_L cd_yL_act hz_yL_act dL_law_87 ⟨(by decide), (by decide)⟩ ⟨(by dsimp only; omega), (by dsimp only; omega)⟩ (Nat.le_of_ble_eq_true rfl) (fun _ h => h.elim) (fun r9 L9 f9 h9 => ?_)
      obtain ⟨h91, v, a1, h92, h93, hP, hPT⟩ := h9
      subst r9
      subst f9
      subst L9
      dsimp only [Option.toList, List.cons_append, List.nil_append, List.append]
      refine j_istore X (i := 8) dL_law_90 (by decide) (by first | exact lvOK_0 | exact lvOK_s rfl okPrev_none | exact lvOK_s rfl okPrev_int | exact lvOK_s rfl okPrev_ref | exact lvOK_s rfl okPrev_null) ?_
      dsimp only [List.set]
      refine j_aload_n X (i := 1) dL_law_92 rfl rfl ?_
      obtain ⟨b1, hr1, hi1, mo1, mo2, mo3⟩ := hP
      have hA1 := a_ANS hr1
      have hG1 := i_IVG hr1.2.2.1 hi1
      refine j_callS1 X (m_stands hl hL hA1 hG1) ml_L_192 st_yL_stands in_L cd_yL_stands hz_yL_stands dL_law_93 ⟨(by decide), (by decide)⟩ ⟨(by dsimp only; omega), (by dsimp only; omega)⟩ (Nat.le_of_ble_eq_true rfl) (fun _ h => h.elim) (fun r9 L9 f9 h9 => ?_)
      obtain ⟨h91, h92, h93⟩ := h9
      subst r9
      subst f9
      subst L9
      dsimp only [Option.toList, List.cons_append, List.nil_append, List.append]
      have k201 : J G p l e ({ frames := 14, cells := 600086, slots := 7301442, locals := 518 } : Room) s m args below meth c9 A Q 9 (cl + 527) (sl + 5160) 201 [some (.ref (G.2.2.1 100)), some (.ref (ad L 0)), some (.int (nI k)), some (.int ov), some (.int (bb 1 11)), some (.int (bb 1 7)), some (.int (bb 1 0)), some (.int (DR0 G k 24)), some (.int v)] [] L (FW G L a1 b c) := by
        refine j_iinc X (nI (k + 3)) dL_law_201 rfl (nI_add k 3) (by decide) (by first | exact lvOK_0 | exact lvOK_s rfl okPrev_none | exact lvOK_s rfl okPrev_int | exact lvOK_s rfl okPrev_ref | exact lvOK_s rfl okPrev_null) ?_
        dsimp only [List.set]
        refine j_goto X (tgt := 28) dL_law_204 (by decide) ?_
        exact ih (k + 3) (cl + 527) (sl + 5160) (t + 1) a1 b1 _ _ _ _ _ _ (by omega) (by omega) (by omega) hr1 hi1 (by omega) (by omega)
      have k166 : J G p l e ({ frames := 14, cells := 600086, slots := 7301442, locals := 518 } : Room) s m args below meth c9 A Q 9 (cl + 524) (sl + 5140) 166 [some (.ref (G.2.2.1 100)), some (.ref (ad L 0)), some (.int (nI k)), some (.int ov), some (.int (bb 1 11)), some (.int (bb 1 7)), some (.int (bb 1 0)), some (.int (DR0 G k 24)), some (.int v)] [] L (FW G L a1 b c) := by
        refine j_iload X (i := 7) dL_law_166 rfl ?_
        refine j_bipush X (6) dL_law_168 (by decide) ?_
        refine j_icmp_ge X (tgt := 201) dL_law_170 (by decide) (fun _ => ?_) (fun h6 => ?_)
        · refine J.widen (c1 := cl + 527) (s1 := sl + 5160) (by omega) (by omega) ?_
          exact k201
        · refine j_iload X (i := 6) dL_law_173 rfl ?_
          refine j_iconst X (1) dL_law_175 (by decide) ?_
          refine j_icmp_ne X (tgt := 201) dL_law_176 (by decide) (fun _ => ?_) (fun h1 => ?_)
          · refine J.widen (c1 := cl + 527) (s1 := sl + 5160) (by omega) (by omega) ?_
            exact k201
          · refine j_aload_n X (i := 1) dL_law_179 rfl rfl ?_
            refine j_iconst X (0) dL_law_180 (by decide) ?_
            refine j_callV1 X 8 (m_X8_property hl hL (hA1.2.1 0 (by omega))) ml_L_87 im_yX8_property se_yX8_property in_X8 cd_yX8_property hy_yX8_property dL_law_181 rfl (inL hL t_0 (by decide)) (FW8 hL t_0) ⟨(by decide), (by decide)⟩ ⟨(by dsimp only; omega), (by dsimp only; omega)⟩ (Nat.le_of_ble_eq_true rfl) (fun E hE => by obtain ⟨n9, hn9, -⟩ := hE; cases hn9) (fun r9 L9 f9 h9 => ?_)
            obtain ⟨h91, v9, hk9, h92, h93⟩ := h9
            cases hk9
            subst r9
            subst f9
            subst L9
            dsimp only [Option.toList, List.cons_append, List.nil_append, List.append]
            refine j_iconst X (1) dL_law_184 (by decide) ?_
            refine j_icmp_ne X (tgt := 201) dL_law_185 (by decide) (fun _ => ?_) (fun h2 => ?_)
            · refine J.widen (c1 := cl + 527) (s1 := sl + 5160) (by omega) (by omega) ?_
              exact k201
            · refine j_aload_n X (i := 1) dL_law_188 rfl rfl ?_
              refine j_bipush X (7) dL_law_189 (by decide) ?_
              refine j_callV1 X 8 (m_X8_property hl hL (hA1.2.1 7 (by omega))) ml_L_87 im_yX8_property se_yX8_property in_X8 cd_yX8_property hy_yX8_property dL_law_191 rfl (inL hL t_0 (by decide)) (FW8 hL t_0) ⟨(by decide), (by decide)⟩ ⟨(by dsimp only; omega), (by dsimp only; omega)⟩ (Nat.le_of_ble_eq_true rfl) (fun E hE => by obtain ⟨n9, hn9, -⟩ := hE; cases hn9) (fun r9 L9 f9 h9 => ?_)
              obtain ⟨h91, v9, hk9, h92, h93⟩ := h9
              cases hk9
              subst r9
              subst f9
              subst L9
              dsimp only [Option.toList, List.cons_append, List.nil_append, List.append]
              refine j_iload X (i := 5) dL_law_194 rfl ?_
              refine j_icmp_ne X (tgt := 201) dL_law_196 (by decide) (fun _ => ?_) (fun h3 => ?_)
              · refine J.widen (c1 := cl + 527) (s1 := sl + 5160) (by omega) (by omega) ?_
                exact k201
              · refine absurd ?_ (hPT ?_ h1 ?_)
                · rw [← h3]
                  exact hA1.2.1 7 (by omega)
                · have h7 := z_nle h6
                  have e6 : (6 : Int32).toInt = 6 := rfl
                  omega
                · rw [← h2]
                  exact hA1.2.1 0 (by omega)
      have k147 : J G p l e ({ frames := 14, cells := 600086, slots := 7301442, locals := 518 } : Room) s m args below meth c9 A Q 9 (cl + 522) (sl + 5130) 147 [some (.ref (G.2.2.1 100)), some (.ref (ad L 0)), some (.int (nI k)), some (.int ov), some (.int (bb 1 11)), some (.int (bb 1 7)), some (.int (bb 1 0)), some (.int (DR0 G k 24)), some (.int v)] [] L (FW G L a1 b c) := by
        refine j_iload X (i := 6) dL_law_147 rfl ?_
        refine j_iconst X (1) dL_law_149 (by decide) ?_
        refine j_icmp_eq X (tgt := 166) dL_law_150 (by decide) (fun _ => ?_) (fun h1 => ?_)
        · refine J.widen (c1 := cl + 524) (s1 := sl + 5140) (by omega) (by omega) ?_
          exact k166
        · refine j_aload_n X (i := 1) dL_law_153 rfl rfl ?_
          refine j_bipush X (7) dL_law_154 (by decide) ?_
          refine j_callV1 X 8 (m_X8_property hl hL (hA1.2.1 7 (by omega))) ml_L_87 im_yX8_property se_yX8_property in_X8 cd_yX8_property hy_yX8_property dL_law_156 rfl (inL hL t_0 (by decide)) (FW8 hL t_0) ⟨(by decide), (by decide)⟩ ⟨(by dsimp only; omega), (by dsimp only; omega)⟩ (Nat.le_of_ble_eq_true rfl) (fun E hE => by obtain ⟨n9, hn9, -⟩ := hE; cases hn9) (fun r9 L9 f9 h9 => ?_)
          obtain ⟨h91, v9, hk9, h92, h93⟩ := h9
          cases hk9
          subst r9
          subst f9
          subst L9
          dsimp only [Option.toList, List.cons_append, List.nil_append, List.append]
          refine j_iload X (i := 5) dL_law_159 rfl ?_
          refine j_icmp_eq X (tgt := 166) dL_law_161 (by decide) (fun _ => ?_) (fun h2 => absurd (mo3 h1) h2)
          refine J.widen (c1 := cl + 524) (s1 := sl + 5140) (by omega) (by omega) ?_
          exact k166
      have k134 : J G p l e ({ frames := 14, cells := 600086, slots := 7301442, locals := 518 } : Room) s m args below meth c9 A Q 9 (cl + 520) (sl + 5120) 134 [some (.ref (G.2.2.1 100)), some (.ref (ad L 0)), some (.int (nI k)), some (.int ov), some (.int (bb 1 11)), some (.int (bb 1 7)), some (.int (bb 1 0)), some (.int (DR0 G k 24)), some (.int v)] [] L (FW G L a1 b c) := by
        refine j_aload_n X (i := 1) dL_law_134 rfl rfl ?_
        refine j_bipush X (7) dL_law_135 (by decide) ?_
        refine j_callV1 X 8 (m_X8_property hl hL (hA1.2.1 7 (by omega))) ml_L_87 im_yX8_property se_yX8_property in_X8 cd_yX8_property hy_yX8_property dL_law_137 rfl (inL hL t_0 (by decide)) (FW8 hL t_0) ⟨(by decide), (by decide)⟩ ⟨(by dsimp only; omega), (by dsimp only; omega)⟩ (Nat.le_of_ble_eq_true rfl) (fun E hE => by obtain ⟨n9, hn9, -⟩ := hE; cases hn9) (fun r9 L9 f9 h9 => ?_)
        obtain ⟨h91, v9, hk9, h92, h93⟩ := h9
        cases hk9
        subst r9
        subst f9
        subst L9
        dsimp only [Option.toList, List.cons_append, List.nil_append, List.append]
        refine j_iload X (i := 5) dL_law_140 rfl ?_
        refine j_icmp_ge X (tgt := 147) dL_law_142 (by decide) (fun _ => ?_) (fun h => absurd (z_le.2 mo2) h)
        refine J.widen (c1 := cl + 522) (s1 := sl + 5130) (by omega) (by omega) ?_
        exact k147
      refine j_if_eq X (tgt := 145) dL_law_96 (by decide) (fun h => absurd h (by decide)) (fun _ => ?_)
      refine j_iload_n X (i := 3) dL_law_99 rfl rfl ?_
      refine j_if_eq X (tgt := 134) dL_law_100 (by decide) (fun _ => ?_) (fun hv => ?_)
      · refine J.widen (c1 := cl + 520) (s1 := sl + 5120) (by omega) (by omega) ?_
        exact k134
      · obtain ⟨e0, e11, e7⟩ := mo1 (hov.resolve_left hv)
        refine j_aload_n X (i := 1) dL_law_103 rfl rfl ?_
        refine j_iconst X (0) dL_law_104 (by decide) ?_
        refine j_callV1 X 8 (m_X8_property hl hL (hA1.2.1 0 (by omega))) ml_L_87 im_yX8_property se_yX8_property in_X8 cd_yX8_property hy_yX8_property dL_law_105 rfl (inL hL t_0 (by decide)) (FW8 hL t_0) ⟨(by decide), (by decide)⟩ ⟨(by dsimp only; omega), (by dsimp only; omega)⟩ (Nat.le_of_ble_eq_true rfl) (fun E hE => by obtain ⟨n9, hn9, -⟩ := hE; cases hn9) (fun r9 L9 f9 h9 => ?_)
        obtain ⟨h91, v9, hk9, h92, h93⟩ := h9
        cases hk9
        subst r9
        subst f9
        subst L9
        dsimp only [Option.toList, List.cons_append, List.nil_append, List.append]
        refine j_iconst X (4) dL_law_108 (by decide) ?_
        refine j_icmp_ne X (tgt := 145) dL_law_109 (by decide) (fun h => absurd e0 h) (fun _ => ?_)
        refine j_aload_n X (i := 1) dL_law_112 rfl rfl ?_
        refine j_bipush X (11) dL_law_113 (by decide) ?_
        refine j_callV1 X 8 (m_X8_property hl hL (hA1.2.1 11 (by omega))) ml_L_87 im_yX8_property se_yX8_property in_X8 cd_yX8_property hy_yX8_property dL_law_115 rfl (inL hL t_0 (by decide)) (FW8 hL t_0) ⟨(by decide), (by decide)⟩ ⟨(by dsimp only; omega), (by dsimp only; omega)⟩ (Nat.le_of_ble_eq_true rfl) (fun E hE => by obtain ⟨n9, hn9, -⟩ := hE; cases hn9) (fun r9 L9 f9 h9 => ?_)
        obtain ⟨h91, v9, hk9, h92, h93⟩ := h9
        cases hk9
        subst r9
        subst f9
        subst L9
        dsimp only [Option.toList, List.cons_append, List.nil_append, List.append]
        refine j_iload X (i := 4) dL_law_118 rfl ?_
        refine j_icmp_ne X (tgt := 145) dL_law_120 (by decide) (fun h => absurd e11 h) (fun _ => ?_)
        refine j_aload_n X (i := 1) dL_law_123 rfl rfl ?_
        refine j_bipush X (7) dL_law_124 (by decide) ?_
        refine j_callV1 X 8 (m_X8_property hl hL (hA1.2.1 7 (by omega))) ml_L_87 im_yX8_property se_yX8_property in_X8 cd_yX8_property hy_yX8_property dL_law_126 rfl (inL hL t_0 (by decide)) (FW8 hL t_0) ⟨(by decide), (by decide)⟩ ⟨(by dsimp only; omega), (by dsimp only; omega)⟩ (Nat.le_of_ble_eq_true rfl) (fun E hE => by obtain ⟨n9, hn9, -⟩ := hE; cases hn9) (fun r9 L9 f9 h9 => ?_)
        obtain ⟨h91, v9, hk9, h92, h93⟩ := h9
        cases hk9
        subst r9
        subst f9
        subst L9
        dsimp only [Option.toList, List.cons_append, List.nil_append, List.append]
        refine j_iload X (i := 5) dL_law_129 rfl ?_
        refine j_icmp_ne X (tgt := 145) dL_law_131 (by decide) (fun h => absurd e7 h) (fun _ => ?_)
        refine J.widen (c1 := cl + 520) (s1 := sl + 5120) (by omega) (by omega) ?_
        exact k134
    refine j_iload_n X (i := 2) dL_law_28 rfl rfl ?_
    refine j_iconst X (2) dL_law_29 (by decide) ?_
    refine j_iadd X dL_law_30 ?_
    rw [show nI k + (2 : Int32) = nI (k + 2) from nI_add k 2]
    refine j_sipush X (250) dL_law_31 (by decide) ?_
    refine j_icmp_ge X (tgt := 207) dL_law_34 (by decide) (fun h => absurd ((nI_lei (x := 250) (y := k + 2) (by omega) (by omega)).1 h) (by omega)) (fun _ => ?_)
    refine j_aload_n X (i := 1) dL_law_37 rfl rfl ?_
    refine j_iconst X (0) dL_law_38 (by decide) ?_
    refine j_callV1 X 8 (m_X8_property hl hL (hA.2.1 0 (by omega))) ml_L_87 im_yX8_property se_yX8_property in_X8 cd_yX8_property hy_yX8_property dL_law_39 rfl (inL hL t_0 (by decide)) (FW8 hL t_0) ⟨(by decide), (by decide)⟩ ⟨(by dsimp only; omega), (by dsimp only; omega)⟩ (Nat.le_of_ble_eq_true rfl) (fun E hE => by obtain ⟨n9, hn9, -⟩ := hE; cases hn9) (fun r9 L9 f9 h9 => ?_)
    obtain ⟨h91, v9, hk9, h92, h93⟩ := h9
    cases hk9
    subst r9
    subst f9
    subst L9
    dsimp only [Option.toList, List.cons_append, List.nil_append, List.append]
    refine j_iconst X (4) dL_law_42 (by decide) ?_
    refine j_icmp_ne X (tgt := 50) dL_law_43 (by decide) (fun _ => ?_) (fun h4 => ?_)
    · refine j_iconst X (0) dL_law_50 (by decide) ?_
      refine J.widen (c1 := cl + 2) (s1 := sl + 12) (by omega) (by omega) ?_
      exact k51 0 (Or.inl rfl)
    · refine j_iconst X (1) dL_law_46 (by decide) ?_
      refine j_goto X (tgt := 51) dL_law_47 (by decide) ?_
      refine J.widen (c1 := cl + 2) (s1 := sl + 12) (by omega) (by omega) ?_
      exact k51 1 (Or.inr h4)
end JROWS
