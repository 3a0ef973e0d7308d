section JROWS
variable {G : GG} {p : Program} {l : Launch} {e : Env} {s : State} {m : MethodId} {args : Array Value} {below : List Frame} {meth : Method} {c9 : Code} {A : Nat → Prop} {Q : State → Prop} {ret9 : Option FieldType} {tb : List ExceptionTableEntry} {L : List Nat} 
def f_switch (N Ln : Nat) (xs : Nat → Int32) (k i : Int32) (a b c : Mem) : Option (Mem × Mem × Mem) := if k = (0 : Int32) then f_case_0 N Ln xs i a b c else if k = (1 : Int32) then f_case_1 N Ln xs i a b c else if k = (2 : Int32) then f_case_2 N Ln xs i a b c else if k = (3 : Int32) then f_case_3 N Ln xs i a b c else if k = (4 : Int32) then f_case_4 N Ln xs i a b c else if k = (5 : Int32) then f_case_5 N Ln xs i a b c else if k = (6 : Int32) then f_case_6 N Ln xs i a b c else if k = (7 : Int32) then f_case_7 N Ln xs i a b c else if k = (8 : Int32) then f_case_8 N Ln xs i a b c else if k = (9 : Int32) then f_case_9 N Ln xs i a b c else if k = (10 : Int32) then f_case_10 N Ln xs i a b c else if k = (11 : Int32) then f_case_11 N Ln xs i a b c else if k = (12 : Int32) then f_case_12 N Ln xs i a b c else if k = (13 : Int32) then f_case_13 N Ln xs i a b c else if k = (14 : Int32) then f_case_14 N Ln xs i a b c else if k = (15 : Int32) then f_case_15 N Ln xs i a b c else if k = (16 : Int32) then f_case_16 N Ln xs i a b c else if k = (17 : Int32) then f_case_17 N Ln xs i a b c else if k = (18 : Int32) then f_case_18 N Ln xs i a b c else if k = (19 : Int32) then f_case_19 N Ln xs i a b c else if k = (20 : Int32) then f_case_20 N Ln xs i a b c else if k = (21 : Int32) then f_case_21 N Ln xs i a b c else if k = (22 : Int32) then f_case_22 N Ln xs i a b c else if k = (23 : Int32) then f_case_23 N Ln xs i a b c else if k = (24 : Int32) then f_case_24 N Ln xs i a b c else if k = (25 : Int32) then f_case_25 N Ln xs i a b c else if k = (26 : Int32) then f_case_26 N Ln xs i a b c else if k = (27 : Int32) then f_case_27 N Ln xs i a b c else if k = (28 : Int32) then f_case_28 N Ln xs i a b c else if k = (29 : Int32) then f_case_29 N Ln xs i a b c else if k = (30 : Int32) then f_case_30 N Ln xs i a b c else if k = (31 : Int32) then f_case_31 N Ln xs i a b c else if k = (32 : Int32) then f_case_32 N Ln xs i a b c else if k = (33 : Int32) then f_case_33 N Ln xs i a b c else if k = (34 : Int32) then f_case_34 N Ln xs i a b c else if k = (35 : Int32) then f_case_35 N Ln xs i a b c else if k = (36 : Int32) then f_case_36 N Ln xs i a b c else if k = (37 : Int32) then f_case_37 N Ln xs i a b c else if k = (38 : Int32) then f_case_38 N Ln xs i a b c else if k = (39 : Int32) then f_case_39 N Ln xs i a b c else if k = (40 : Int32) then f_case_40 N Ln xs i a b c else if k = (41 : Int32) then f_case_41 N Ln xs i a b c else if k = (42 : Int32) then f_case_42 N Ln xs i a b c else if k = (43 : Int32) then f_case_43 N Ln xs i a b c else if k = (44 : Int32) then f_case_44 N Ln xs i a b c else if k = (45 : Int32) then f_case_45 N Ln xs i a b c else if k = (46 : Int32) then f_case_46 N Ln xs i a b c else if k = (47 : Int32) then f_case_47 N Ln xs i a b c else if k = (48 : Int32) then f_case_48 N Ln xs i a b c else if k = (49 : Int32) then f_case_49 N Ln xs i a b c else if k = (50 : Int32) then f_case_50 N Ln xs i a b c else if k = (51 : Int32) then f_case_51 N Ln xs i a b c else if k = (52 : Int32) then f_case_52 N Ln xs i a b c else if k = (53 : Int32) then f_case_53 N Ln xs i a b c else if k = (54 : Int32) then f_case_54 N Ln xs i a b c else some (a, b, c)
def f_law (N Ln : Nat) (xs : Nat → Int32) : Nat → Int32 → Mem → Mem → Mem → Option Unit
  | 0, _, _, _, _ => none
  | fu + 1, i, a, b, c => if nI Ln - (6 : Int32) < i then some () else chkI i Ln <| bP3 (f_switch N Ln xs (xs i.toNatClampNeg &&& 63) i a b c) fun a b c => f_law N Ln xs fu (i + 6) a b c
theorem f_law_s (N Ln : Nat) (xs : Nat → Int32) {fu : Nat} {i : Int32} {a b c : Mem} : f_law N Ln xs (fu + 1) i a b c = (if nI Ln - (6 : Int32) < i then some () else chkI i Ln <| bP3 (f_switch N Ln xs (xs i.toNatClampNeg &&& 63) i a b c) fun a b c => f_law N Ln xs fu (i + 6) a b c) := rfl
set_option maxRecDepth 100000 in
set_option maxHeartbeats 4000000 in
theorem m_switch (X : Cx G p l s m args meth c9 A RL cL_law 9 ret9 tb) (hl : l.stackTraces = false) (hL : LOK L) (hL7 : L.length = 107) {N Ln sb : Nat} {xs : Nat → Int32} (hX : va_X sb Ln xs s s.heap) (hb : sb < s.heap.size) (hbA : ¬ A sb) {cl sl : Nat} (hcl : cl + 8 ≤ 601024) (hsl : sl + 64 ≤ 7293034) {k i : Int32} {a b c a' b' c' : Mem} (hR : f_switch N Ln xs k i a b c = some (a', b', c')) (kk : J G p l e ({ frames := 14, cells := 601024, slots := 7293034, locals := 524 } : Room) s m args below meth c9 A Q 9 (cl + 8) (sl + 64) 3067 [some (.ref sb), some (.ref (ad L 0)), some (.ref (ad L 96)), some (.ref (ad L 105)), some (.ref (ad L 106)), some (.int i), none, none, none] [] L (FW G L a' b' c')) : J G p l e ({ frames := 14, cells := 601024, slots := 7293034, locals := 524 } : Room) s m args below meth c9 A Q 9 cl sl 45 [some (.ref sb), some (.ref (ad L 0)), some (.ref (ad L 96)), some (.ref (ad L 105)), some (.ref (ad L 106)), some (.int i), none, none, none] [.int k] L (FW G L a b c) := by
  unfold f_switch at hR
  by_cases h0 : k = (0 : Int32)
  · replace hR := (if_pos h0).symm.trans hR
    refine j_tblIn X (tgt := 280) dL_law_45 (by rw [h0]; decide) (by rw [h0]; decide) (by rw [h0]; rfl) (by decide) ?_
    exact m_case_0 X hl hL hL7 hX hb hbA hcl hsl hR kk
  · replace hR := (if_neg h0).symm.trans hR
    by_cases h1 : k = (1 : Int32)
    · replace hR := (if_pos h1).symm.trans hR
      refine j_tblIn X (tgt := 384) dL_law_45 (by rw [h1]; decide) (by rw [h1]; decide) (by rw [h1]; rfl) (by decide) ?_
      exact m_case_1 X hl hL hL7 hX hb hbA hcl hsl hR kk
    · replace hR := (if_neg h1).symm.trans hR
      by_cases h2 : k = (2 : Int32)
      · replace hR := (if_pos h2).symm.trans hR
        refine j_tblIn X (tgt := 420) dL_law_45 (by rw [h2]; decide) (by rw [h2]; decide) (by rw [h2]; rfl) (by decide) ?_
        exact m_case_2 X hl hL hL7 hX hb hbA hcl hsl hR kk
      · replace hR := (if_neg h2).symm.trans hR
        by_cases h3 : k = (3 : Int32)
        · replace hR := (if_pos h3).symm.trans hR
          refine j_tblIn X (tgt := 433) dL_law_45 (by rw [h3]; decide) (by rw [h3]; decide) (by rw [h3]; rfl) (by decide) ?_
          exact m_case_3 X hl hL hL7 hX hb hbA hcl hsl hR kk
        · replace hR := (if_neg h3).symm.trans hR
          by_cases h4 : k = (4 : Int32)
          · replace hR := (if_pos h4).symm.trans hR
            refine j_tblIn X (tgt := 446) dL_law_45 (by rw [h4]; decide) (by rw [h4]; decide) (by rw [h4]; rfl) (by decide) ?_
            exact m_case_4 X hl hL hL7 hX hb hbA hcl hsl hR kk
          · replace hR := (if_neg h4).symm.trans hR
            by_cases h5 : k = (5 : Int32)
            · replace hR := (if_pos h5).symm.trans hR
              refine j_tblIn X (tgt := 459) dL_law_45 (by rw [h5]; decide) (by rw [h5]; decide) (by rw [h5]; rfl) (by decide) ?_
              exact m_case_5 X hl hL hL7 hX hb hbA hcl hsl hR kk
            · replace hR := (if_neg h5).symm.trans hR
              by_cases h6 : k = (6 : Int32)
              · replace hR := (if_pos h6).symm.trans hR
                refine j_tblIn X (tgt := 515) dL_law_45 (by rw [h6]; decide) (by rw [h6]; decide) (by rw [h6]; rfl) (by decide) ?_
                exact m_case_6 X hl hL hL7 hX hb hbA hcl hsl hR kk
              · replace hR := (if_neg h6).symm.trans hR
                by_cases h7 : k = (7 : Int32)
                · replace hR := (if_pos h7).symm.trans hR
                  refine j_tblIn X (tgt := 583) dL_law_45 (by rw [h7]; decide) (by rw [h7]; decide) (by rw [h7]; rfl) (by decide) ?_
                  exact m_case_7 X hl hL hL7 hX hb hbA hcl hsl hR kk
                · replace hR := (if_neg h7).symm.trans hR
                  by_cases h8 : k = (8 : Int32)
                  · replace hR := (if_pos h8).symm.trans hR
                    refine j_tblIn X (tgt := 651) dL_law_45 (by rw [h8]; decide) (by rw [h8]; decide) (by rw [h8]; rfl) (by decide) ?_
                    exact m_case_8 X hl hL hL7 hX hb hbA hcl hsl hR kk
                  · replace hR := (if_neg h8).symm.trans hR
                    by_cases h9 : k = (9 : Int32)
                    · replace hR := (if_pos h9).symm.trans hR
                      refine j_tblIn X (tgt := 719) dL_law_45 (by rw [h9]; decide) (by rw [h9]; decide) (by rw [h9]; rfl) (by decide) ?_
                      exact m_case_9 X hl hL hL7 hX hb hbA hcl hsl hR kk
                    · replace hR := (if_neg h9).symm.trans hR
                      by_cases h10 : k = (10 : Int32)
                      · replace hR := (if_pos h10).symm.trans hR
                        refine j_tblIn X (tgt := 775) dL_law_45 (by rw [h10]; decide) (by rw [h10]; decide) (by rw [h10]; rfl) (by decide) ?_
                        exact m_case_10 X hl hL hL7 hX hb hbA hcl hsl hR kk
                      · replace hR := (if_neg h10).symm.trans hR
                        by_cases h11 : k = (11 : Int32)
                        · replace hR := (if_pos h11).symm.trans hR
                          refine j_tblIn X (tgt := 831) dL_law_45 (by rw [h11]; decide) (by rw [h11]; decide) (by rw [h11]; rfl) (by decide) ?_
                          exact m_case_11 X hl hL hL7 hX hb hbA hcl hsl hR kk
                        · replace hR := (if_neg h11).symm.trans hR
                          by_cases h12 : k = (12 : Int32)
                          · replace hR := (if_pos h12).symm.trans hR
                            refine j_tblIn X (tgt := 887) dL_law_45 (by rw [h12]; decide) (by rw [h12]; decide) (by rw [h12]; rfl) (by decide) ?_
                            exact m_case_12 X hl hL hL7 hX hb hbA hcl hsl hR kk
                          · replace hR := (if_neg h12).symm.trans hR
                            by_cases h13 : k = (13 : Int32)
                            · replace hR := (if_pos h13).symm.trans hR
                              refine j_tblIn X (tgt := 943) dL_law_45 (by rw [h13]; decide) (by rw [h13]; decide) (by rw [h13]; rfl) (by decide) ?_
                              exact m_case_13 X hl hL hL7 hX hb hbA hcl hsl hR kk
                            · replace hR := (if_neg h13).symm.trans hR
                              by_cases h14 : k = (14 : Int32)
                              · replace hR := (if_pos h14).symm.trans hR
                                refine j_tblIn X (tgt := 1011) dL_law_45 (by rw [h14]; decide) (by rw [h14]; decide) (by rw [h14]; rfl) (by decide) ?_
                                exact m_case_14 X hl hL hL7 hX hb hbA hcl hsl hR kk
                              · replace hR := (if_neg h14).symm.trans hR
                                by_cases h15 : k = (15 : Int32)
                                · replace hR := (if_pos h15).symm.trans hR
                                  refine j_tblIn X (tgt := 1024) dL_law_45 (by rw [h15]; decide) (by rw [h15]; decide) (by rw [h15]; rfl) (by decide) ?_
                                  exact m_case_15 X hl hL hL7 hX hb hbA hcl hsl hR kk
                                · replace hR := (if_neg h15).symm.trans hR
                                  by_cases h16 : k = (16 : Int32)
                                  · replace hR := (if_pos h16).symm.trans hR
                                    refine j_tblIn X (tgt := 1080) dL_law_45 (by rw [h16]; decide) (by rw [h16]; decide) (by rw [h16]; rfl) (by decide) ?_
                                    exact m_case_16 X hl hL hL7 hX hb hbA hcl hsl hR kk
                                  · replace hR := (if_neg h16).symm.trans hR
                                    by_cases h17 : k = (17 : Int32)
                                    · replace hR := (if_pos h17).symm.trans hR
                                      refine j_tblIn X (tgt := 1157) dL_law_45 (by rw [h17]; decide) (by rw [h17]; decide) (by rw [h17]; rfl) (by decide) ?_
                                      exact m_case_17 X hl hL hL7 hX hb hbA hcl hsl hR kk
                                    · replace hR := (if_neg h17).symm.trans hR
                                      by_cases h18 : k = (18 : Int32)
                                      · replace hR := (if_pos h18).symm.trans hR
                                        refine j_tblIn X (tgt := 1235) dL_law_45 (by rw [h18]; decide) (by rw [h18]; decide) (by rw [h18]; rfl) (by decide) ?_
                                        exact m_case_18 X hl hL hL7 hX hb hbA hcl hsl hR kk
                                      · replace hR := (if_neg h18).symm.trans hR
                                        by_cases h19 : k = (19 : Int32)
                                        · replace hR := (if_pos h19).symm.trans hR
                                          refine j_tblIn X (tgt := 1303) dL_law_45 (by rw [h19]; decide) (by rw [h19]; decide) (by rw [h19]; rfl) (by decide) ?_
                                          exact m_case_19 X hl hL hL7 hX hb hbA hcl hsl hR kk
                                        · replace hR := (if_neg h19).symm.trans hR
                                          by_cases h20 : k = (20 : Int32)
                                          · replace hR := (if_pos h20).symm.trans hR
                                            refine j_tblIn X (tgt := 1316) dL_law_45 (by rw [h20]; decide) (by rw [h20]; decide) (by rw [h20]; rfl) (by decide) ?_
                                            exact m_case_20 X hl hL hL7 hX hb hbA hcl hsl hR kk
                                          · replace hR := (if_neg h20).symm.trans hR
                                            by_cases h21 : k = (21 : Int32)
                                            · replace hR := (if_pos h21).symm.trans hR
                                              refine j_tblIn X (tgt := 1329) dL_law_45 (by rw [h21]; decide) (by rw [h21]; decide) (by rw [h21]; rfl) (by decide) ?_
                                              exact m_case_21 X hl hL hL7 hX hb hbA hcl hsl hR kk
                                            · replace hR := (if_neg h21).symm.trans hR
                                              by_cases h22 : k = (22 : Int32)
                                              · replace hR := (if_pos h22).symm.trans hR
                                                refine j_tblIn X (tgt := 1342) dL_law_45 (by rw [h22]; decide) (by rw [h22]; decide) (by rw [h22]; rfl) (by decide) ?_
                                                exact m_case_22 X hl hL hL7 hX hb hbA hcl hsl hR kk
                                              · replace hR := (if_neg h22).symm.trans hR
                                                by_cases h23 : k = (23 : Int32)
                                                · replace hR := (if_pos h23).symm.trans hR
                                                  refine j_tblIn X (tgt := 1410) dL_law_45 (by rw [h23]; decide) (by rw [h23]; decide) (by rw [h23]; rfl) (by decide) ?_
                                                  exact m_case_23 X hl hL hL7 hX hb hbA hcl hsl hR kk
                                                · replace hR := (if_neg h23).symm.trans hR
                                                  by_cases h24 : k = (24 : Int32)
                                                  · replace hR := (if_pos h24).symm.trans hR
                                                    refine j_tblIn X (tgt := 1478) dL_law_45 (by rw [h24]; decide) (by rw [h24]; decide) (by rw [h24]; rfl) (by decide) ?_
                                                    exact m_case_24 X hl hL hL7 hX hb hbA hcl hsl hR kk
                                                  · replace hR := (if_neg h24).symm.trans hR
                                                    by_cases h25 : k = (25 : Int32)
                                                    · replace hR := (if_pos h25).symm.trans hR
                                                      refine j_tblIn X (tgt := 1558) dL_law_45 (by rw [h25]; decide) (by rw [h25]; decide) (by rw [h25]; rfl) (by decide) ?_
                                                      exact m_case_25 X hl hL hL7 hX hb hbA hcl hsl hR kk
                                                    · replace hR := (if_neg h25).symm.trans hR
                                                      by_cases h26 : k = (26 : Int32)
                                                      · replace hR := (if_pos h26).symm.trans hR
                                                        refine j_tblIn X (tgt := 1614) dL_law_45 (by rw [h26]; decide) (by rw [h26]; decide) (by rw [h26]; rfl) (by decide) ?_
                                                        exact m_case_26 X hl hL hL7 hX hb hbA hcl hsl hR kk
                                                      · replace hR := (if_neg h26).symm.trans hR
                                                        by_cases h27 : k = (27 : Int32)
                                                        · replace hR := (if_pos h27).symm.trans hR
                                                          refine j_tblIn X (tgt := 1670) dL_law_45 (by rw [h27]; decide) (by rw [h27]; decide) (by rw [h27]; rfl) (by decide) ?_
                                                          exact m_case_27 X hl hL hL7 hX hb hbA hcl hsl hR kk
                                                        · replace hR := (if_neg h27).symm.trans hR
                                                          by_cases h28 : k = (28 : Int32)
                                                          · replace hR := (if_pos h28).symm.trans hR
                                                            refine j_tblIn X (tgt := 1738) dL_law_45 (by rw [h28]; decide) (by rw [h28]; decide) (by rw [h28]; rfl) (by decide) ?_
                                                            exact m_case_28 X hl hL hL7 hX hb hbA hcl hsl hR kk
                                                          · replace hR := (if_neg h28).symm.trans hR
                                                            by_cases h29 : k = (29 : Int32)
                                                            · replace hR := (if_pos h29).symm.trans hR
                                                              refine j_tblIn X (tgt := 1751) dL_law_45 (by rw [h29]; decide) (by rw [h29]; decide) (by rw [h29]; rfl) (by decide) ?_
                                                              exact m_case_29 X hl hL hL7 hX hb hbA hcl hsl hR kk
                                                            · replace hR := (if_neg h29).symm.trans hR
                                                              by_cases h30 : k = (30 : Int32)
                                                              · replace hR := (if_pos h30).symm.trans hR
                                                                refine j_tblIn X (tgt := 1819) dL_law_45 (by rw [h30]; decide) (by rw [h30]; decide) (by rw [h30]; rfl) (by decide) ?_
                                                                exact m_case_30 X hl hL hL7 hX hb hbA hcl hsl hR kk
                                                              · replace hR := (if_neg h30).symm.trans hR
                                                                by_cases h31 : k = (31 : Int32)
                                                                · replace hR := (if_pos h31).symm.trans hR
                                                                  refine j_tblIn X (tgt := 1887) dL_law_45 (by rw [h31]; decide) (by rw [h31]; decide) (by rw [h31]; rfl) (by decide) ?_
                                                                  exact m_case_31 X hl hL hL7 hX hb hbA hcl hsl hR kk
                                                                · replace hR := (if_neg h31).symm.trans hR
                                                                  by_cases h32 : k = (32 : Int32)
                                                                  · replace hR := (if_pos h32).symm.trans hR
                                                                    refine j_tblIn X (tgt := 1967) dL_law_45 (by rw [h32]; decide) (by rw [h32]; decide) (by rw [h32]; rfl) (by decide) ?_
                                                                    exact m_case_32 X hl hL hL7 hX hb hbA hcl hsl hR kk
                                                                  · replace hR := (if_neg h32).symm.trans hR
                                                                    by_cases h33 : k = (33 : Int32)
                                                                    · replace hR := (if_pos h33).symm.trans hR
                                                                      refine j_tblIn X (tgt := 2047) dL_law_45 (by rw [h33]; decide) (by rw [h33]; decide) (by rw [h33]; rfl) (by decide) ?_
                                                                      exact m_case_33 X hl hL hL7 hX hb hbA hcl hsl hR kk
                                                                    · replace hR := (if_neg h33).symm.trans hR
                                                                      by_cases h34 : k = (34 : Int32)
                                                                      · replace hR := (if_pos h34).symm.trans hR
                                                                        refine j_tblIn X (tgt := 2091) dL_law_45 (by rw [h34]; decide) (by rw [h34]; decide) (by rw [h34]; rfl) (by decide) ?_
                                                                        exact m_case_34 X hl hL hL7 hX hb hbA hcl hsl hR kk
                                                                      · replace hR := (if_neg h34).symm.trans hR
                                                                        by_cases h35 : k = (35 : Int32)
                                                                        · replace hR := (if_pos h35).symm.trans hR
                                                                          refine j_tblIn X (tgt := 2147) dL_law_45 (by rw [h35]; decide) (by rw [h35]; decide) (by rw [h35]; rfl) (by decide) ?_
                                                                          exact m_case_35 X hl hL hL7 hX hb hbA hcl hsl hR kk
                                                                        · replace hR := (if_neg h35).symm.trans hR
                                                                          by_cases h36 : k = (36 : Int32)
                                                                          · replace hR := (if_pos h36).symm.trans hR
                                                                            refine j_tblIn X (tgt := 2191) dL_law_45 (by rw [h36]; decide) (by rw [h36]; decide) (by rw [h36]; rfl) (by decide) ?_
                                                                            exact m_case_36 X hl hL hL7 hX hb hbA hcl hsl hR kk
                                                                          · replace hR := (if_neg h36).symm.trans hR
                                                                            by_cases h37 : k = (37 : Int32)
                                                                            · replace hR := (if_pos h37).symm.trans hR
                                                                              refine j_tblIn X (tgt := 2235) dL_law_45 (by rw [h37]; decide) (by rw [h37]; decide) (by rw [h37]; rfl) (by decide) ?_
                                                                              exact m_case_37 X hl hL hL7 hX hb hbA hcl hsl hR kk
                                                                            · replace hR := (if_neg h37).symm.trans hR
                                                                              by_cases h38 : k = (38 : Int32)
                                                                              · replace hR := (if_pos h38).symm.trans hR
                                                                                refine j_tblIn X (tgt := 2279) dL_law_45 (by rw [h38]; decide) (by rw [h38]; decide) (by rw [h38]; rfl) (by decide) ?_
                                                                                exact m_case_38 X hl hL hL7 hX hb hbA hcl hsl hR kk
                                                                              · replace hR := (if_neg h38).symm.trans hR
                                                                                by_cases h39 : k = (39 : Int32)
                                                                                · replace hR := (if_pos h39).symm.trans hR
                                                                                  refine j_tblIn X (tgt := 2323) dL_law_45 (by rw [h39]; decide) (by rw [h39]; decide) (by rw [h39]; rfl) (by decide) ?_
                                                                                  exact m_case_39 X hl hL hL7 hX hb hbA hcl hsl hR kk
                                                                                · replace hR := (if_neg h39).symm.trans hR
                                                                                  by_cases h40 : k = (40 : Int32)
                                                                                  · replace hR := (if_pos h40).symm.trans hR
                                                                                    refine j_tblIn X (tgt := 2367) dL_law_45 (by rw [h40]; decide) (by rw [h40]; decide) (by rw [h40]; rfl) (by decide) ?_
                                                                                    exact m_case_40 X hl hL hL7 hX hb hbA hcl hsl hR kk
                                                                                  · replace hR := (if_neg h40).symm.trans hR
                                                                                    by_cases h41 : k = (41 : Int32)
                                                                                    · replace hR := (if_pos h41).symm.trans hR
                                                                                      refine j_tblIn X (tgt := 2423) dL_law_45 (by rw [h41]; decide) (by rw [h41]; decide) (by rw [h41]; rfl) (by decide) ?_
                                                                                      exact m_case_41 X hl hL hL7 hX hb hbA hcl hsl hR kk
                                                                                    · replace hR := (if_neg h41).symm.trans hR
                                                                                      by_cases h42 : k = (42 : Int32)
                                                                                      · replace hR := (if_pos h42).symm.trans hR
                                                                                        refine j_tblIn X (tgt := 2479) dL_law_45 (by rw [h42]; decide) (by rw [h42]; decide) (by rw [h42]; rfl) (by decide) ?_
                                                                                        exact m_case_42 X hl hL hL7 hX hb hbA hcl hsl hR kk
                                                                                      · replace hR := (if_neg h42).symm.trans hR
                                                                                        by_cases h43 : k = (43 : Int32)
                                                                                        · replace hR := (if_pos h43).symm.trans hR
                                                                                          refine j_tblIn X (tgt := 2547) dL_law_45 (by rw [h43]; decide) (by rw [h43]; decide) (by rw [h43]; rfl) (by decide) ?_
                                                                                          exact m_case_43 X hl hL hL7 hX hb hbA hcl hsl hR kk
                                                                                        · replace hR := (if_neg h43).symm.trans hR
                                                                                          by_cases h44 : k = (44 : Int32)
                                                                                          · replace hR := (if_pos h44).symm.trans hR
                                                                                            refine j_tblIn X (tgt := 2638) dL_law_45 (by rw [h44]; decide) (by rw [h44]; decide) (by rw [h44]; rfl) (by decide) ?_
                                                                                            exact m_case_44 X hl hL hL7 hX hb hbA hcl hsl hR kk
                                                                                          · replace hR := (if_neg h44).symm.trans hR
                                                                                            by_cases h45 : k = (45 : Int32)
                                                                                            · replace hR := (if_pos h45).symm.trans hR
                                                                                              refine j_tblIn X (tgt := 2679) dL_law_45 (by rw [h45]; decide) (by rw [h45]; decide) (by rw [h45]; rfl) (by decide) ?_
                                                                                              exact m_case_45 X hl hL hL7 hX hb hbA hcl hsl hR kk
                                                                                            · replace hR := (if_neg h45).symm.trans hR
                                                                                              by_cases h46 : k = (46 : Int32)
                                                                                              · replace hR := (if_pos h46).symm.trans hR
                                                                                                refine j_tblIn X (tgt := 2759) dL_law_45 (by rw [h46]; decide) (by rw [h46]; decide) (by rw [h46]; rfl) (by decide) ?_
                                                                                                exact m_case_46 X hl hL hL7 hX hb hbA hcl hsl hR kk
                                                                                              · replace hR := (if_neg h46).symm.trans hR
                                                                                                by_cases h47 : k = (47 : Int32)
                                                                                                · replace hR := (if_pos h47).symm.trans hR
                                                                                                  refine j_tblIn X (tgt := 2803) dL_law_45 (by rw [h47]; decide) (by rw [h47]; decide) (by rw [h47]; rfl) (by decide) ?_
                                                                                                  exact m_case_47 X hl hL hL7 hX hb hbA hcl hsl hR kk
                                                                                                · replace hR := (if_neg h47).symm.trans hR
                                                                                                  by_cases h48 : k = (48 : Int32)
                                                                                                  · replace hR := (if_pos h48).symm.trans hR
                                                                                                    refine j_tblIn X (tgt := 2859) dL_law_45 (by rw [h48]; decide) (by rw [h48]; decide) (by rw [h48]; rfl) (by decide) ?_
                                                                                                    exact m_case_48 X hl hL hL7 hX hb hbA hcl hsl hR kk
                                                                                                  · replace hR := (if_neg h48).symm.trans hR
                                                                                                    by_cases h49 : k = (49 : Int32)
                                                                                                    · replace hR := (if_pos h49).symm.trans hR
                                                                                                      refine j_tblIn X (tgt := 2915) dL_law_45 (by rw [h49]; decide) (by rw [h49]; decide) (by rw [h49]; rfl) (by decide) ?_
                                                                                                      exact m_case_49 X hl hL hL7 hX hb hbA hcl hsl hR kk
                                                                                                    · replace hR := (if_neg h49).symm.trans hR
                                                                                                      by_cases h50 : k = (50 : Int32)
                                                                                                      · replace hR := (if_pos h50).symm.trans hR
                                                                                                        refine j_tblIn X (tgt := 2959) dL_law_45 (by rw [h50]; decide) (by rw [h50]; decide) (by rw [h50]; rfl) (by decide) ?_
                                                                                                        exact m_case_50 X hl hL hL7 hX hb hbA hcl hsl hR kk
                                                                                                      · replace hR := (if_neg h50).symm.trans hR
                                                                                                        by_cases h51 : k = (51 : Int32)
                                                                                                        · replace hR := (if_pos h51).symm.trans hR
                                                                                                          refine j_tblIn X (tgt := 2972) dL_law_45 (by rw [h51]; decide) (by rw [h51]; decide) (by rw [h51]; rfl) (by decide) ?_
                                                                                                          exact m_case_51 X hl hL hL7 hX hb hbA hcl hsl hR kk
                                                                                                        · replace hR := (if_neg h51).symm.trans hR
                                                                                                          by_cases h52 : k = (52 : Int32)
                                                                                                          · replace hR := (if_pos h52).symm.trans hR
                                                                                                            refine j_tblIn X (tgt := 2985) dL_law_45 (by rw [h52]; decide) (by rw [h52]; decide) (by rw [h52]; rfl) (by decide) ?_
                                                                                                            exact m_case_52 X hl hL hL7 hX hb hbA hcl hsl hR kk
                                                                                                          · replace hR := (if_neg h52).symm.trans hR
                                                                                                            by_cases h53 : k = (53 : Int32)
                                                                                                            · replace hR := (if_pos h53).symm.trans hR
                                                                                                              refine j_tblIn X (tgt := 2998) dL_law_45 (by rw [h53]; decide) (by rw [h53]; decide) (by rw [h53]; rfl) (by decide) ?_
                                                                                                              exact m_case_53 X hl hL hL7 hX hb hbA hcl hsl hR kk
                                                                                                            · replace hR := (if_neg h53).symm.trans hR
                                                                                                              by_cases h54 : k = (54 : Int32)
                                                                                                              · replace hR := (if_pos h54).symm.trans hR
                                                                                                                refine j_tblIn X (tgt := 3011) dL_law_45 (by rw [h54]; decide) (by rw [h54]; decide) (by rw [h54]; rfl) (by decide) ?_
                                                                                                                exact m_case_54 X hl hL hL7 hX hb hbA hcl hsl hR kk
                                                                                                              · replace hR := (if_neg h54).symm.trans hR
                                                                                                                refine j_tblOut X (tgt := 3067) dL_law_45 (sw_out (lo := 0) (n := 55) (by decide) (by decide) (fun i hi => match i, hi with | 0, _ => h0 | 1, _ => h1 | 2, _ => h2 | 3, _ => h3 | 4, _ => h4 | 5, _ => h5 | 6, _ => h6 | 7, _ => h7 | 8, _ => h8 | 9, _ => h9 | 10, _ => h10 | 11, _ => h11 | 12, _ => h12 | 13, _ => h13 | 14, _ => h14 | 15, _ => h15 | 16, _ => h16 | 17, _ => h17 | 18, _ => h18 | 19, _ => h19 | 20, _ => h20 | 21, _ => h21 | 22, _ => h22 | 23, _ => h23 | 24, _ => h24 | 25, _ => h25 | 26, _ => h26 | 27, _ => h27 | 28, _ => h28 | 29, _ => h29 | 30, _ => h30 | 31, _ => h31 | 32, _ => h32 | 33, _ => h33 | 34, _ => h34 | 35, _ => h35 | 36, _ => h36 | 37, _ => h37 | 38, _ => h38 | 39, _ => h39 | 40, _ => h40 | 41, _ => h41 | 42, _ => h42 | 43, _ => h43 | 44, _ => h44 | 45, _ => h45 | 46, _ => h46 | 47, _ => h47 | 48, _ => h48 | 49, _ => h49 | 50, _ => h50 | 51, _ => h51 | 52, _ => h52 | 53, _ => h53 | 54, _ => h54 | _ + 55, h => absurd h (by omega))) (by decide) ?_
                                                                                                                have h9 := Option.some.inj hR
                                                                                                                rw [← (Prod.mk.inj h9).1, ← (Prod.mk.inj (Prod.mk.inj h9).2).1, ← (Prod.mk.inj (Prod.mk.inj h9).2).2] at kk
                                                                                                                exact J.widen (c1 := cl + 8) (s1 := sl + 64) (by omega) (by omega) kk
set_option maxRecDepth 100000 in
set_option maxHeartbeats 4000000 in
theorem m_law (X : Cx G p l s m args meth c9 A RL cL_law 9 ret9 tb) (hl : l.stackTraces = false) (hL : LOK L) (hL7 : L.length = 107) {N Ln sb : Nat} {xs : Nat → Int32} (hX : va_X sb Ln xs s s.heap) (hb : sb < s.heap.size) (hbA : ¬ A sb) (hLn : Ln < 2 ^ 31) (hend : ∀ (cl sl : Nat) (i : Int32) (a b c : Mem), cl ≤ 601024 → sl ≤ 7293034 → J G p l e ({ frames := 14, cells := 601024, slots := 7293034, locals := 524 } : Room) s m args below meth c9 A Q 9 cl sl 3073 [some (.ref sb), some (.ref (ad L 0)), some (.ref (ad L 96)), some (.ref (ad L 105)), some (.ref (ad L 106)), some (.int i), none, none, none] [] L (FW G L a b c)) : ∀ (fu cl sl : Nat) (i : Int32) (a b c : Mem), cl + 8 * fu ≤ 601024 → sl + 64 * fu ≤ 7293034 → f_law N Ln xs fu i a b c = some () → J G p l e ({ frames := 14, cells := 601024, slots := 7293034, locals := 524 } : Room) s m args below meth c9 A Q 9 cl sl 28 [some (.ref sb), some (.ref (ad L 0)), some (.ref (ad L 96)), some (.ref (ad L 105)), some (.ref (ad L 106)), some (.int i), none, none, none] [] L (FW G L a b c) := by
  intro fu
  induction fu with
  | zero =>
    intro cl sl i a b c _ _ hR
    cases hR
  | succ fu ih =>
    intro cl sl i a b c hcl hsl hR
    replace hR := (f_law_s N Ln xs).symm.trans hR
    refine j_iload X dL_law_28 rfl ?_
    refine j_aload_n X (i := 0) dL_law_30 rfl rfl ?_
    refine j_slen X hX hb hbA dL_law_31 ?_
    refine j_bipush X (6) dL_law_32 (by decide) ?_
    refine j_isub X dL_law_34 ?_
    refine j_icmp_gt X (tgt := 3073) dL_law_35 (by decide) (fun h1 => ?_) (fun h1 => ?_)
    · exact hend cl sl i a b c (by omega) (by omega)
    · replace hR := (if_neg h1).symm.trans hR
      obtain ⟨h2, hR⟩ := chkI_inv hR
      obtain ⟨a1, b1, c1, h3, hR⟩ := bP3_inv hR
      refine j_aload_n X (i := 0) dL_law_38 rfl rfl ?_
      refine j_iload X dL_law_39 rfl ?_
      refine j_sld X hX hb hbA h2 dL_law_41 ?_
      refine j_bipush X (63) dL_law_42 (by decide) ?_
      refine j_iand X dL_law_44 ?_
      refine m_switch X hl hL hL7 hX hb hbA (by omega) (by omega) h3 ?_
      refine j_iinc X (i + 6) dL_law_3067 rfl rfl (by decide) (lvOK_s rfl okPrev_ref) ?_
      dsimp only [List.set]
      refine j_goto X (tgt := 28) dL_law_3070 (by decide) ?_
      exact ih (cl + 8) (sl + 64) (i + 6) a1 b1 c1 (by omega) (by omega) hR
end JROWS
