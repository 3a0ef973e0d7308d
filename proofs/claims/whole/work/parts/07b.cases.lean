def bP3 {α γ δ β : Type} (x : Option (α × γ × δ)) (k : α → γ → δ → Option β) : Option β := match x with | none => none | some v => k v.1 v.2.1 v.2.2
theorem bP3_inv {α γ δ β : Type} {x : Option (α × γ × δ)} {k : α → γ → δ → Option β} {R : β} (h : bP3 x k = some R) : ∃ v w u, x = some (v, w, u) ∧ k v w u = some R := by
  cases x with
  | none => cases h
  | some v => exact ⟨v.1, v.2.1, v.2.2, rfl, h⟩
section JROWS
variable {G : GG} {p : Program} {l : Launch} {e : Env} {R : Room} {s : State} {m : MethodId} {args : Array Value} {below : List Frame} {meth : Method} {c : Code} {A : Nat → Prop} {Q : State → Prop} {own : String} {cc : ByteArray} {nL cells slots pc : Nat} {ret : Option FieldType} {tb : List ExceptionTableEntry} {lv : List (Option Value)} {st : List Value} {L : List Nat} {f : Nat → va_E}
theorem j_sld (X : Cx G p l s m args meth c A own cc nL ret tb) {b Ln : Nat} {xs : Nat → Int32} (hX : va_X b Ln xs s s.heap) (hbl : b < s.heap.size) (hbA : ¬ A b) {i : Int32} (hin : vp_in i Ln) (hdg : decode cc pc = .ok (.iaload, 1)) (kk : J G p l e R s m args below meth c A Q nL cells slots (pc + 1) lv (.int (xs i.toNatClampNeg) :: st) L f) : J G p l e R s m args below meth c A Q nL cells slots pc lv (.int i :: .ref b :: st) L f :=
  fun H locs ls hP hD hS hl => va_sld X.1 X.2.1 hX hbl hbA hS hin hdg (kk H locs ls hP hD hS hl)
theorem j_slen (X : Cx G p l s m args meth c A own cc nL ret tb) {b Ln : Nat} {xs : Nat → Int32} (hX : va_X b Ln xs s s.heap) (hbl : b < s.heap.size) (hbA : ¬ A b) (hdg : decode cc pc = .ok (.arraylength, 1)) (kk : J G p l e R s m args below meth c A Q nL cells slots (pc + 1) lv (.int (nI Ln) :: st) L f) : J G p l e R s m args below meth c A Q nL cells slots pc lv (.ref b :: st) L f :=
  fun H locs ls hP hD hS hl => va_slen X.1 X.2.1 hX hbl hbA hS hdg (kk H locs ls hP hD hS hl)
theorem j_fcmp (X : Cx G p l s m args meth c A own cc nL ret tb) {x y : UInt32} {op : CmpOp} (hdg : decode cc pc = .ok (.fcmp op, 1)) (kk : J G p l e R s m args below meth c A Q nL cells slots (pc + 1) lv (.int (Op.cmpValue (FP.fcmp x y) op) :: st) L f) : J G p l e R s m args below meth c A Q nL cells slots pc lv (.float y :: .float x :: st) L f :=
  fun H locs ls hP hD hS hl => lv_fcmp X.1 X.2.1 hdg (kk H locs ls hP hD hS hl)
end JROWS
section JROWS
variable {G : GG} {p : Program} {l : Launch} {e : Env} {s : State} {m : MethodId} {args : Array Value} {below : List Frame} {meth : Method} {c9 : Code} {A : Nat → Prop} {Q : State → Prop} {ret9 : Option FieldType} {tb : List ExceptionTableEntry} {L : List Nat} 
def f_case_0 (N Ln : Nat) (xs : Nat → Int32) (i : Int32) (a b c : Mem) : Option (Mem × Mem × Mem) := chkI (i + (1 : Int32)) Ln <| chkI (i + (2 : Int32)) Ln <| chkI (i + (3 : Int32)) Ln <| chkI (i + (4 : Int32)) Ln <| chkI (i + (5 : Int32)) Ln <| bP3 (f_L_append N (xs ((i + (1 : Int32))).toNatClampNeg) (xs ((i + (2 : Int32))).toNatClampNeg) (xs ((i + (3 : Int32))).toNatClampNeg) (xs ((i + (4 : Int32))).toNatClampNeg) (xs ((i + (5 : Int32))).toNatClampNeg) a c) fun x7 a8 c9 => chkI (i + (1 : Int32)) Ln <| chkI (i + (2 : Int32)) Ln <| chkI (i + (3 : Int32)) Ln <| chkI (i + (4 : Int32)) Ln <| chkI (i + (5 : Int32)) Ln <| bP2 (f_X9_append N (xs ((i + (1 : Int32))).toNatClampNeg) (xs ((i + (2 : Int32))).toNatClampNeg) (xs ((i + (3 : Int32))).toNatClampNeg) (xs ((i + (4 : Int32))).toNatClampNeg) (xs ((i + (5 : Int32))).toNatClampNeg) b) fun x16 b17 => bT (f_X9_thrown  b17) fun x20 => if x20 = x7 then (if x7 = 0 then (if (lg_cmp (Int32.toInt64 (c9 0 0)) (Int32.toInt64 x16)) = 0 then (some (a8, b17, c9)) else (none)) else (some (a8, b17, c9))) else (none)
set_option maxRecDepth 100000 in
set_option maxHeartbeats 4000000 in
theorem m_case_0 (X : Cx G p l s m args meth c9 A RL cL_law 9 ret9 tb) (hl : l.stackTraces = false) (hL : LOK L) (hL7 : L.length = 107) {N Ln sb : Nat} {xs : Nat → Int32} (hX : va_X sb Ln xs s s.heap) (hb : sb < s.heap.size) (hbA : ¬ A sb) {cl sl : Nat} (hcl : cl + 8 ≤ 601024) (hsl : sl + 64 ≤ 7293034) {i : Int32} {a b c a' b' c' : Mem} (hR : f_case_0 N Ln xs i a b c = some (a', b', c')) (kk : J G p l e ({ frames := 14, cells := 601024, slots := 7293034, locals := 524 } : Room) s m args below meth c9 A Q 9 (cl + 8) (sl + 64) 3067 [some (.ref sb), some (.ref (ad L 0)), some (.ref (ad L 96)), some (.ref (ad L 105)), some (.ref (ad L 106)), some (.int i), none, none, none] [] L (FW G L a' b' c')) : J G p l e ({ frames := 14, cells := 601024, slots := 7293034, locals := 524 } : Room) s m args below meth c9 A Q 9 cl sl 280 [some (.ref sb), some (.ref (ad L 0)), some (.ref (ad L 96)), some (.ref (ad L 105)), some (.ref (ad L 106)), some (.int i), none, none, none] [] L (FW G L a b c) := by
  unfold f_case_0 at hR
  refine j_aload_n X (i := 1) dL_law_280 rfl rfl ?_
  refine j_aload_n X (i := 0) dL_law_281 rfl rfl ?_
  refine j_iload X dL_law_282 rfl ?_
  refine j_iconst X (1) dL_law_284 (by decide) ?_
  refine j_iadd X dL_law_285 ?_
  obtain ⟨h1, hR⟩ := chkI_inv hR
  refine j_sld X hX hb hbA h1 dL_law_286 ?_
  refine j_aload_n X (i := 0) dL_law_287 rfl rfl ?_
  refine j_iload X dL_law_288 rfl ?_
  refine j_iconst X (2) dL_law_290 (by decide) ?_
  refine j_iadd X dL_law_291 ?_
  obtain ⟨h2, hR⟩ := chkI_inv hR
  refine j_sld X hX hb hbA h2 dL_law_292 ?_
  refine j_aload_n X (i := 0) dL_law_293 rfl rfl ?_
  refine j_iload X dL_law_294 rfl ?_
  refine j_iconst X (3) dL_law_296 (by decide) ?_
  refine j_iadd X dL_law_297 ?_
  obtain ⟨h3, hR⟩ := chkI_inv hR
  refine j_sld X hX hb hbA h3 dL_law_298 ?_
  refine j_aload_n X (i := 0) dL_law_299 rfl rfl ?_
  refine j_iload X dL_law_300 rfl ?_
  refine j_iconst X (4) dL_law_302 (by decide) ?_
  refine j_iadd X dL_law_303 ?_
  obtain ⟨h4, hR⟩ := chkI_inv hR
  refine j_sld X hX hb hbA h4 dL_law_304 ?_
  refine j_aload_n X (i := 0) dL_law_305 rfl rfl ?_
  refine j_iload X dL_law_306 rfl ?_
  refine j_iconst X (5) dL_law_308 (by decide) ?_
  refine j_iadd X dL_law_309 ?_
  obtain ⟨h5, hR⟩ := chkI_inv hR
  refine j_sld X hX hb hbA h5 dL_law_310 ?_
  refine j_aload_n X (i := 3) dL_law_311 rfl rfl ?_
  obtain ⟨x7, a8, c9, h6, hR⟩ := bP3_inv hR
  refine j_callSW (As := [.ref (ad L 0), .int (xs ((i + (1 : Int32))).toNatClampNeg), .int (xs ((i + (2 : Int32))).toNatClampNeg), .int (xs ((i + (3 : Int32))).toNatClampNeg), .int (xs ((i + (4 : Int32))).toNatClampNeg), .int (xs ((i + (5 : Int32))).toNatClampNeg), .ref (ad L 105)]) (rest := []) X (m_L_append hl hL hL7  h6) ml_L_156 st_yL_append in_L cd_yL_append hy_yL_append dL_law_312 ⟨(by decide), (by decide)⟩ ⟨Nat.le_trans (Nat.add_le_add_left (by decide : 1 ≤ 8) _) hcl, Nat.le_trans (Nat.add_le_add_left (by decide : 6 ≤ 64) _) hsl⟩ (Nat.le_of_ble_eq_true rfl) (fun _ h => h.elim) (fun r9 L9 f9 h9 => ?_)
  obtain ⟨h91, h92, h93⟩ := h9
  subst r9
  subst f9
  subst L9
  dsimp only [Option.toList, List.cons_append, List.nil_append, List.append]
  refine j_istore X dL_law_315 (by decide) (lvOK_s rfl okPrev_int) ?_
  dsimp only [List.set]
  refine j_aload_n X (i := 2) dL_law_317 rfl rfl ?_
  refine j_aload_n X (i := 0) dL_law_318 rfl rfl ?_
  refine j_iload X dL_law_319 rfl ?_
  refine j_iconst X (1) dL_law_321 (by decide) ?_
  refine j_iadd X dL_law_322 ?_
  obtain ⟨h10, hR⟩ := chkI_inv hR
  refine j_sld X hX hb hbA h10 dL_law_323 ?_
  refine j_aload_n X (i := 0) dL_law_324 rfl rfl ?_
  refine j_iload X dL_law_325 rfl ?_
  refine j_iconst X (2) dL_law_327 (by decide) ?_
  refine j_iadd X dL_law_328 ?_
  obtain ⟨h11, hR⟩ := chkI_inv hR
  refine j_sld X hX hb hbA h11 dL_law_329 ?_
  refine j_aload_n X (i := 0) dL_law_330 rfl rfl ?_
  refine j_iload X dL_law_331 rfl ?_
  refine j_iconst X (3) dL_law_333 (by decide) ?_
  refine j_iadd X dL_law_334 ?_
  obtain ⟨h12, hR⟩ := chkI_inv hR
  refine j_sld X hX hb hbA h12 dL_law_335 ?_
  refine j_aload_n X (i := 0) dL_law_336 rfl rfl ?_
  refine j_iload X dL_law_337 rfl ?_
  refine j_iconst X (4) dL_law_339 (by decide) ?_
  refine j_iadd X dL_law_340 ?_
  obtain ⟨h13, hR⟩ := chkI_inv hR
  refine j_sld X hX hb hbA h13 dL_law_341 ?_
  refine j_aload_n X (i := 0) dL_law_342 rfl rfl ?_
  refine j_iload X dL_law_343 rfl ?_
  refine j_iconst X (5) dL_law_345 (by decide) ?_
  refine j_iadd X dL_law_346 ?_
  obtain ⟨h14, hR⟩ := chkI_inv hR
  refine j_sld X hX hb hbA h14 dL_law_347 ?_
  obtain ⟨x16, b17, h15, hR⟩ := bP2_inv hR
  refine j_callV5 X 9 (m_X9_append hl hL  h15) ml_L_161 im_yX9_append se_yX9_append in_X9 cd_yX9_append hy_yX9_append dL_law_348 rfl (ad_mem hL (by decide)) (FW9 hL) ⟨(by decide), (by decide)⟩ ⟨Nat.le_trans (Nat.add_le_add_left (by decide : 1 ≤ 8) _) hcl, Nat.le_trans (Nat.add_le_add_left (by decide : 6 ≤ 64) _) hsl⟩ (Nat.le_of_ble_eq_true rfl) (fun _ h => h.elim) (fun r9 L9 f9 h9 => ?_)
  obtain ⟨h91, h92, h93⟩ := h9
  subst r9
  subst f9
  subst L9
  dsimp only [Option.toList, List.cons_append, List.nil_append, List.append]
  refine j_istore X dL_law_351 (by decide) (lvOK_s rfl okPrev_int) ?_
  dsimp only [List.set]
  refine j_aload_n X (i := 2) dL_law_353 rfl rfl ?_
  obtain ⟨x20, h19, hR⟩ := bT_inv hR
  refine j_callV0 X 9 (m_X9_thrown hl hL  h19) ml_L_162 im_yX9_thrown se_yX9_thrown in_X9 cd_yX9_thrown hy_yX9_thrown dL_law_354 rfl (ad_mem hL (by decide)) (FW9 hL) ⟨(by decide), (by decide)⟩ ⟨Nat.le_trans (Nat.add_le_add_left (by decide : 1 ≤ 8) _) hcl, Nat.le_trans (Nat.add_le_add_left (by decide : 6 ≤ 64) _) hsl⟩ (Nat.le_of_ble_eq_true rfl) (fun _ h => h.elim) (fun r9 L9 f9 h9 => ?_)
  obtain ⟨h91, h92, h93⟩ := h9
  subst r9
  subst f9
  subst L9
  dsimp only [Option.toList, List.cons_append, List.nil_append, List.append]
  refine j_iload X dL_law_357 rfl ?_
  refine j_icmp_eq X (tgt := 364) dL_law_359 (by decide) (fun h22 => ?_) (fun h22 => ?_)
  · replace hR := (if_pos h22).symm.trans hR
    refine j_iload X dL_law_364 rfl ?_
    refine j_if_ne X (tgt := 381) dL_law_366 (by decide) (fun h23 => ?_) (fun h23 => ?_)
    · replace hR := (if_neg h23).symm.trans hR
      refine j_goto X (tgt := 3067) dL_law_381 (by decide) ?_
      have h9 := Option.some.inj hR
      rw [← (Prod.mk.inj h9).1, ← (Prod.mk.inj (Prod.mk.inj h9).2).1, ← (Prod.mk.inj (Prod.mk.inj h9).2).2] at kk
      exact J.widen (c1 := cl + 8) (s1 := sl + 64) (by omega) (by omega) (J.sub (lvle_of (by simp only [lvle, and_self])) kk)
    · replace hR := (if_pos h23).symm.trans hR
      refine j_aload_n X (i := 3) dL_law_369 rfl rfl ?_
      refine j_iconst X (0) dL_law_370 (by decide) ?_
      refine j_lald105 X hL hL7 dL_law_371 ?_
      refine j_iload X dL_law_372 rfl ?_
      refine j_i2l X dL_law_374 ?_
      refine j_lcmp X dL_law_375 ?_
      refine j_if_eq X (tgt := 381) dL_law_376 (by decide) (fun h24 => ?_) (fun h24 => ?_)
      · replace hR := (if_pos h24).symm.trans hR
        refine j_goto X (tgt := 3067) dL_law_381 (by decide) ?_
        have h9 := Option.some.inj hR
        rw [← (Prod.mk.inj h9).1, ← (Prod.mk.inj (Prod.mk.inj h9).2).1, ← (Prod.mk.inj (Prod.mk.inj h9).2).2] at kk
        exact J.widen (c1 := cl + 8) (s1 := sl + 64) (by omega) (by omega) (J.sub (lvle_of (by simp only [lvle, and_self])) kk)
      · replace hR := (if_neg h24).symm.trans hR
        refine j_iconst X (0) dL_law_379 (by decide) ?_
        cases hR
  · replace hR := (if_neg h22).symm.trans hR
    refine j_iconst X (0) dL_law_362 (by decide) ?_
    cases hR
def f_case_1 (N Ln : Nat) (xs : Nat → Int32) (i : Int32) (a b c : Mem) : Option (Mem × Mem × Mem) := chkI (i + (1 : Int32)) Ln <| bP3 (f_L_truncate (xs ((i + (1 : Int32))).toNatClampNeg) a c) fun x3 a4 c5 => chkI (i + (1 : Int32)) Ln <| bT (f_X9_truncate (xs ((i + (1 : Int32))).toNatClampNeg) b) fun b8 => bT (f_X9_thrown  b8) fun x11 => if x11 = x3 then (some (a4, b8, c5)) else (none)
set_option maxRecDepth 100000 in
set_option maxHeartbeats 4000000 in
theorem m_case_1 (X : Cx G p l s m args meth c9 A RL cL_law 9 ret9 tb) (hl : l.stackTraces = false) (hL : LOK L) (hL7 : L.length = 107) {N Ln sb : Nat} {xs : Nat → Int32} (hX : va_X sb Ln xs s s.heap) (hb : sb < s.heap.size) (hbA : ¬ A sb) {cl sl : Nat} (hcl : cl + 8 ≤ 601024) (hsl : sl + 64 ≤ 7293034) {i : Int32} {a b c a' b' c' : Mem} (hR : f_case_1 N Ln xs i a b c = some (a', b', c')) (kk : J G p l e ({ frames := 14, cells := 601024, slots := 7293034, locals := 524 } : Room) s m args below meth c9 A Q 9 (cl + 8) (sl + 64) 3067 [some (.ref sb), some (.ref (ad L 0)), some (.ref (ad L 96)), some (.ref (ad L 105)), some (.ref (ad L 106)), some (.int i), none, none, none] [] L (FW G L a' b' c')) : J G p l e ({ frames := 14, cells := 601024, slots := 7293034, locals := 524 } : Room) s m args below meth c9 A Q 9 cl sl 384 [some (.ref sb), some (.ref (ad L 0)), some (.ref (ad L 96)), some (.ref (ad L 105)), some (.ref (ad L 106)), some (.int i), none, none, none] [] L (FW G L a b c) := by
  unfold f_case_1 at hR
  refine j_aload_n X (i := 1) dL_law_384 rfl rfl ?_
  refine j_aload_n X (i := 0) dL_law_385 rfl rfl ?_
  refine j_iload X dL_law_386 rfl ?_
  refine j_iconst X (1) dL_law_388 (by decide) ?_
  refine j_iadd X dL_law_389 ?_
  obtain ⟨h1, hR⟩ := chkI_inv hR
  refine j_sld X hX hb hbA h1 dL_law_390 ?_
  obtain ⟨x3, a4, c5, h2, hR⟩ := bP3_inv hR
  refine j_callSW (As := [.ref (ad L 0), .int (xs ((i + (1 : Int32))).toNatClampNeg)]) (rest := []) X (m_L_truncate hl hL hL7  h2) ml_L_165 st_yL_truncate in_L cd_yL_truncate hy_yL_truncate dL_law_391 ⟨(by decide), (by decide)⟩ ⟨Nat.le_trans (Nat.add_le_add_left (by decide : 1 ≤ 8) _) hcl, Nat.le_trans (Nat.add_le_add_left (by decide : 6 ≤ 64) _) hsl⟩ (Nat.le_of_ble_eq_true rfl) (fun _ h => h.elim) (fun r9 L9 f9 h9 => ?_)
  obtain ⟨h91, h92, h93⟩ := h9
  subst r9
  subst f9
  subst L9
  dsimp only [Option.toList, List.cons_append, List.nil_append, List.append]
  refine j_istore X dL_law_394 (by decide) (lvOK_s rfl okPrev_int) ?_
  dsimp only [List.set]
  refine j_aload_n X (i := 2) dL_law_396 rfl rfl ?_
  refine j_aload_n X (i := 0) dL_law_397 rfl rfl ?_
  refine j_iload X dL_law_398 rfl ?_
  refine j_iconst X (1) dL_law_400 (by decide) ?_
  refine j_iadd X dL_law_401 ?_
  obtain ⟨h6, hR⟩ := chkI_inv hR
  refine j_sld X hX hb hbA h6 dL_law_402 ?_
  obtain ⟨b8, h7, hR⟩ := bT_inv hR
  refine j_callV1 X 9 (m_X9_truncate hl hL  h7) ml_L_168 im_yX9_truncate se_yX9_truncate in_X9 cd_yX9_truncate hy_yX9_truncate dL_law_403 rfl (ad_mem hL (by decide)) (FW9 hL) ⟨(by decide), (by decide)⟩ ⟨Nat.le_trans (Nat.add_le_add_left (by decide : 1 ≤ 8) _) hcl, Nat.le_trans (Nat.add_le_add_left (by decide : 6 ≤ 64) _) hsl⟩ (Nat.le_of_ble_eq_true rfl) (fun _ h => h.elim) (fun r9 L9 f9 h9 => ?_)
  obtain ⟨h91, h92, h93⟩ := h9
  subst r9
  subst f9
  subst L9
  dsimp only [Option.toList, List.cons_append, List.nil_append, List.append]
  refine j_aload_n X (i := 2) dL_law_406 rfl rfl ?_
  obtain ⟨x11, h10, hR⟩ := bT_inv hR
  refine j_callV0 X 9 (m_X9_thrown hl hL  h10) ml_L_162 im_yX9_thrown se_yX9_thrown in_X9 cd_yX9_thrown hy_yX9_thrown dL_law_407 rfl (ad_mem hL (by decide)) (FW9 hL) ⟨(by decide), (by decide)⟩ ⟨Nat.le_trans (Nat.add_le_add_left (by decide : 1 ≤ 8) _) hcl, Nat.le_trans (Nat.add_le_add_left (by decide : 6 ≤ 64) _) hsl⟩ (Nat.le_of_ble_eq_true rfl) (fun _ h => h.elim) (fun r9 L9 f9 h9 => ?_)
  obtain ⟨h91, h92, h93⟩ := h9
  subst r9
  subst f9
  subst L9
  dsimp only [Option.toList, List.cons_append, List.nil_append, List.append]
  refine j_iload X dL_law_410 rfl ?_
  refine j_icmp_eq X (tgt := 417) dL_law_412 (by decide) (fun h13 => ?_) (fun h13 => ?_)
  · replace hR := (if_pos h13).symm.trans hR
    refine j_goto X (tgt := 3067) dL_law_417 (by decide) ?_
    have h9 := Option.some.inj hR
    rw [← (Prod.mk.inj h9).1, ← (Prod.mk.inj (Prod.mk.inj h9).2).1, ← (Prod.mk.inj (Prod.mk.inj h9).2).2] at kk
    exact J.widen (c1 := cl + 8) (s1 := sl + 64) (by omega) (by omega) (J.sub (lvle_of (by simp only [lvle, and_self])) kk)
  · replace hR := (if_neg h13).symm.trans hR
    refine j_iconst X (0) dL_law_415 (by decide) ?_
    cases hR
def f_case_2 (N Ln : Nat) (xs : Nat → Int32) (i : Int32) (a b c : Mem) : Option (Mem × Mem × Mem) := bP2 (f_X8_load N  a) fun x2 a3 => bP2 (f_X9_load N  b) fun x6 b7 => if x2 = x6 then (some (a3, b7, c)) else (none)
set_option maxRecDepth 100000 in
set_option maxHeartbeats 4000000 in
theorem m_case_2 (X : Cx G p l s m args meth c9 A RL cL_law 9 ret9 tb) (hl : l.stackTraces = false) (hL : LOK L) (hL7 : L.length = 107) {N Ln sb : Nat} {xs : Nat → Int32} (hX : va_X sb Ln xs s s.heap) (hb : sb < s.heap.size) (hbA : ¬ A sb) {cl sl : Nat} (hcl : cl + 8 ≤ 601024) (hsl : sl + 64 ≤ 7293034) {i : Int32} {a b c a' b' c' : Mem} (hR : f_case_2 N Ln xs i a b c = some (a', b', c')) (kk : J G p l e ({ frames := 14, cells := 601024, slots := 7293034, locals := 524 } : Room) s m args below meth c9 A Q 9 (cl + 8) (sl + 64) 3067 [some (.ref sb), some (.ref (ad L 0)), some (.ref (ad L 96)), some (.ref (ad L 105)), some (.ref (ad L 106)), some (.int i), none, none, none] [] L (FW G L a' b' c')) : J G p l e ({ frames := 14, cells := 601024, slots := 7293034, locals := 524 } : Room) s m args below meth c9 A Q 9 cl sl 420 [some (.ref sb), some (.ref (ad L 0)), some (.ref (ad L 96)), some (.ref (ad L 105)), some (.ref (ad L 106)), some (.int i), none, none, none] [] L (FW G L a b c) := by
  unfold f_case_2 at hR
  refine j_aload_n X (i := 1) dL_law_420 rfl rfl ?_
  obtain ⟨x2, a3, h1, hR⟩ := bP2_inv hR
  refine j_callV0 X 8 (m_X8_load hl hL  h1) ml_L_169 im_yX8_load se_yX8_load in_X8 cd_yX8_load hy_yX8_load dL_law_421 rfl (inL hL t_0 (by decide)) (FW8 hL t_0) ⟨(by decide), (by decide)⟩ ⟨Nat.le_trans (Nat.add_le_add_left (by decide : 0 ≤ 8) _) hcl, Nat.le_trans (Nat.add_le_add_left (by decide : 0 ≤ 64) _) hsl⟩ (Nat.le_of_ble_eq_true rfl) (fun _ h => h.elim) (fun r9 L9 f9 h9 => ?_)
  obtain ⟨h91, h92, h93⟩ := h9
  subst r9
  subst f9
  subst L9
  dsimp only [Option.toList, List.cons_append, List.nil_append, List.append]
  refine j_aload_n X (i := 2) dL_law_424 rfl rfl ?_
  obtain ⟨x6, b7, h5, hR⟩ := bP2_inv hR
  refine j_callV0 X 9 (m_X9_load hl hL  h5) ml_L_172 im_yX9_load se_yX9_load in_X9 cd_yX9_load hy_yX9_load dL_law_425 rfl (ad_mem hL (by decide)) (FW9 hL) ⟨(by decide), (by decide)⟩ ⟨Nat.le_trans (Nat.add_le_add_left (by decide : 0 ≤ 8) _) hcl, Nat.le_trans (Nat.add_le_add_left (by decide : 0 ≤ 64) _) hsl⟩ (Nat.le_of_ble_eq_true rfl) (fun _ h => h.elim) (fun r9 L9 f9 h9 => ?_)
  obtain ⟨h91, h92, h93⟩ := h9
  subst r9
  subst f9
  subst L9
  dsimp only [Option.toList, List.cons_append, List.nil_append, List.append]
  refine j_icmp_eq X (tgt := 3067) dL_law_428 (by decide) (fun h9 => ?_) (fun h9 => ?_)
  · replace hR := (if_pos h9).symm.trans hR
    have h9 := Option.some.inj hR
    rw [← (Prod.mk.inj h9).1, ← (Prod.mk.inj (Prod.mk.inj h9).2).1, ← (Prod.mk.inj (Prod.mk.inj h9).2).2] at kk
    exact J.widen (c1 := cl + 8) (s1 := sl + 64) (by omega) (by omega) (J.sub (lvle_of (by simp only [lvle, and_self])) kk)
  · replace hR := (if_neg h9).symm.trans hR
    refine j_iconst X (0) dL_law_431 (by decide) ?_
    cases hR
def f_case_3 (N Ln : Nat) (xs : Nat → Int32) (i : Int32) (a b c : Mem) : Option (Mem × Mem × Mem) := bT (f_X8_errorCode  a) fun x2 => bT2 (f_X9_errorCode  b) fun x5 b6 => if x2 = x5 then (some (a, b6, c)) else (none)
set_option maxRecDepth 100000 in
set_option maxHeartbeats 4000000 in
theorem m_case_3 (X : Cx G p l s m args meth c9 A RL cL_law 9 ret9 tb) (hl : l.stackTraces = false) (hL : LOK L) (hL7 : L.length = 107) {N Ln sb : Nat} {xs : Nat → Int32} (hX : va_X sb Ln xs s s.heap) (hb : sb < s.heap.size) (hbA : ¬ A sb) {cl sl : Nat} (hcl : cl + 8 ≤ 601024) (hsl : sl + 64 ≤ 7293034) {i : Int32} {a b c a' b' c' : Mem} (hR : f_case_3 N Ln xs i a b c = some (a', b', c')) (kk : J G p l e ({ frames := 14, cells := 601024, slots := 7293034, locals := 524 } : Room) s m args below meth c9 A Q 9 (cl + 8) (sl + 64) 3067 [some (.ref sb), some (.ref (ad L 0)), some (.ref (ad L 96)), some (.ref (ad L 105)), some (.ref (ad L 106)), some (.int i), none, none, none] [] L (FW G L a' b' c')) : J G p l e ({ frames := 14, cells := 601024, slots := 7293034, locals := 524 } : Room) s m args below meth c9 A Q 9 cl sl 433 [some (.ref sb), some (.ref (ad L 0)), some (.ref (ad L 96)), some (.ref (ad L 105)), some (.ref (ad L 106)), some (.int i), none, none, none] [] L (FW G L a b c) := by
  unfold f_case_3 at hR
  refine j_aload_n X (i := 1) dL_law_433 rfl rfl ?_
  obtain ⟨x2, h1, hR⟩ := bT_inv hR
  refine j_callV0 X 8 (m_X8_errorCode hl hL  h1) ml_L_173 im_yX8_errorCode se_yX8_errorCode in_X8 cd_yX8_errorCode hy_yX8_errorCode dL_law_434 rfl (inL hL t_0 (by decide)) (FW8 hL t_0) ⟨(by decide), (by decide)⟩ ⟨Nat.le_trans (Nat.add_le_add_left (by decide : 0 ≤ 8) _) hcl, Nat.le_trans (Nat.add_le_add_left (by decide : 0 ≤ 64) _) hsl⟩ (Nat.le_of_ble_eq_true rfl) (fun _ h => h.elim) (fun r9 L9 f9 h9 => ?_)
  obtain ⟨h91, h92, h93⟩ := h9
  subst r9
  subst f9
  subst L9
  dsimp only [Option.toList, List.cons_append, List.nil_append, List.append]
  refine j_aload_n X (i := 2) dL_law_437 rfl rfl ?_
  obtain ⟨x5, b6, h4, hR⟩ := bT2_inv hR
  refine j_callV0 X 9 (m_X9_errorCode hl hL  h4) ml_L_176 im_yX9_errorCode se_yX9_errorCode in_X9 cd_yX9_errorCode hy_yX9_errorCode dL_law_438 rfl (ad_mem hL (by decide)) (FW9 hL) ⟨(by decide), (by decide)⟩ ⟨Nat.le_trans (Nat.add_le_add_left (by decide : 0 ≤ 8) _) hcl, Nat.le_trans (Nat.add_le_add_left (by decide : 0 ≤ 64) _) hsl⟩ (Nat.le_of_ble_eq_true rfl) (fun _ h => h.elim) (fun r9 L9 f9 h9 => ?_)
  obtain ⟨h91, h92, h93⟩ := h9
  subst r9
  subst f9
  subst L9
  dsimp only [Option.toList, List.cons_append, List.nil_append, List.append]
  refine j_icmp_eq X (tgt := 3067) dL_law_441 (by decide) (fun h8 => ?_) (fun h8 => ?_)
  · replace hR := (if_pos h8).symm.trans hR
    have h9 := Option.some.inj hR
    rw [← (Prod.mk.inj h9).1, ← (Prod.mk.inj (Prod.mk.inj h9).2).1, ← (Prod.mk.inj (Prod.mk.inj h9).2).2] at kk
    exact J.widen (c1 := cl + 8) (s1 := sl + 64) (by omega) (by omega) (J.sub (lvle_of (by simp only [lvle, and_self])) kk)
  · replace hR := (if_neg h8).symm.trans hR
    refine j_iconst X (0) dL_law_444 (by decide) ?_
    cases hR
def f_case_4 (N Ln : Nat) (xs : Nat → Int32) (i : Int32) (a b c : Mem) : Option (Mem × Mem × Mem) := bT (f_X8_errorPosition  a) fun x2 => bT2 (f_X9_errorPosition  b) fun x5 b6 => if x2 = x5 then (some (a, b6, c)) else (none)
set_option maxRecDepth 100000 in
set_option maxHeartbeats 4000000 in
theorem m_case_4 (X : Cx G p l s m args meth c9 A RL cL_law 9 ret9 tb) (hl : l.stackTraces = false) (hL : LOK L) (hL7 : L.length = 107) {N Ln sb : Nat} {xs : Nat → Int32} (hX : va_X sb Ln xs s s.heap) (hb : sb < s.heap.size) (hbA : ¬ A sb) {cl sl : Nat} (hcl : cl + 8 ≤ 601024) (hsl : sl + 64 ≤ 7293034) {i : Int32} {a b c a' b' c' : Mem} (hR : f_case_4 N Ln xs i a b c = some (a', b', c')) (kk : J G p l e ({ frames := 14, cells := 601024, slots := 7293034, locals := 524 } : Room) s m args below meth c9 A Q 9 (cl + 8) (sl + 64) 3067 [some (.ref sb), some (.ref (ad L 0)), some (.ref (ad L 96)), some (.ref (ad L 105)), some (.ref (ad L 106)), some (.int i), none, none, none] [] L (FW G L a' b' c')) : J G p l e ({ frames := 14, cells := 601024, slots := 7293034, locals := 524 } : Room) s m args below meth c9 A Q 9 cl sl 446 [some (.ref sb), some (.ref (ad L 0)), some (.ref (ad L 96)), some (.ref (ad L 105)), some (.ref (ad L 106)), some (.int i), none, none, none] [] L (FW G L a b c) := by
  unfold f_case_4 at hR
  refine j_aload_n X (i := 1) dL_law_446 rfl rfl ?_
  obtain ⟨x2, h1, hR⟩ := bT_inv hR
  refine j_callV0 X 8 (m_X8_errorPosition hl hL  h1) ml_L_177 im_yX8_errorPosition se_yX8_errorPosition in_X8 cd_yX8_errorPosition hy_yX8_errorPosition dL_law_447 rfl (inL hL t_0 (by decide)) (FW8 hL t_0) ⟨(by decide), (by decide)⟩ ⟨Nat.le_trans (Nat.add_le_add_left (by decide : 0 ≤ 8) _) hcl, Nat.le_trans (Nat.add_le_add_left (by decide : 0 ≤ 64) _) hsl⟩ (Nat.le_of_ble_eq_true rfl) (fun _ h => h.elim) (fun r9 L9 f9 h9 => ?_)
  obtain ⟨h91, h92, h93⟩ := h9
  subst r9
  subst f9
  subst L9
  dsimp only [Option.toList, List.cons_append, List.nil_append, List.append]
  refine j_aload_n X (i := 2) dL_law_450 rfl rfl ?_
  obtain ⟨x5, b6, h4, hR⟩ := bT2_inv hR
  refine j_callV0 X 9 (m_X9_errorPosition hl hL  h4) ml_L_180 im_yX9_errorPosition se_yX9_errorPosition in_X9 cd_yX9_errorPosition hy_yX9_errorPosition dL_law_451 rfl (ad_mem hL (by decide)) (FW9 hL) ⟨(by decide), (by decide)⟩ ⟨Nat.le_trans (Nat.add_le_add_left (by decide : 0 ≤ 8) _) hcl, Nat.le_trans (Nat.add_le_add_left (by decide : 0 ≤ 64) _) hsl⟩ (Nat.le_of_ble_eq_true rfl) (fun _ h => h.elim) (fun r9 L9 f9 h9 => ?_)
  obtain ⟨h91, h92, h93⟩ := h9
  subst r9
  subst f9
  subst L9
  dsimp only [Option.toList, List.cons_append, List.nil_append, List.append]
  refine j_icmp_eq X (tgt := 3067) dL_law_454 (by decide) (fun h8 => ?_) (fun h8 => ?_)
  · replace hR := (if_pos h8).symm.trans hR
    have h9 := Option.some.inj hR
    rw [← (Prod.mk.inj h9).1, ← (Prod.mk.inj (Prod.mk.inj h9).2).1, ← (Prod.mk.inj (Prod.mk.inj h9).2).2] at kk
    exact J.widen (c1 := cl + 8) (s1 := sl + 64) (by omega) (by omega) (J.sub (lvle_of (by simp only [lvle, and_self])) kk)
  · replace hR := (if_neg h8).symm.trans hR
    refine j_iconst X (0) dL_law_457 (by decide) ?_
    cases hR
def f_case_5 (N Ln : Nat) (xs : Nat → Int32) (i : Int32) (a b c : Mem) : Option (Mem × Mem × Mem) := chkI (i + (1 : Int32)) Ln <| bP3 (f_L_property (xs ((i + (1 : Int32))).toNatClampNeg) a c) fun x3 a4 c5 => chkI (i + (1 : Int32)) Ln <| bP2 (f_X9_property N (xs ((i + (1 : Int32))).toNatClampNeg) b) fun x8 b9 => bT (f_X9_thrown  b9) fun x12 => if x12 = x3 then (if x3 = 0 then (if (lg_cmp (Int32.toInt64 (c5 0 0)) (Int32.toInt64 x8)) = 0 then (some (a4, b9, c5)) else (none)) else (some (a4, b9, c5))) else (none)
set_option maxRecDepth 100000 in
set_option maxHeartbeats 4000000 in
theorem m_case_5 (X : Cx G p l s m args meth c9 A RL cL_law 9 ret9 tb) (hl : l.stackTraces = false) (hL : LOK L) (hL7 : L.length = 107) {N Ln sb : Nat} {xs : Nat → Int32} (hX : va_X sb Ln xs s s.heap) (hb : sb < s.heap.size) (hbA : ¬ A sb) {cl sl : Nat} (hcl : cl + 8 ≤ 601024) (hsl : sl + 64 ≤ 7293034) {i : Int32} {a b c a' b' c' : Mem} (hR : f_case_5 N Ln xs i a b c = some (a', b', c')) (kk : J G p l e ({ frames := 14, cells := 601024, slots := 7293034, locals := 524 } : Room) s m args below meth c9 A Q 9 (cl + 8) (sl + 64) 3067 [some (.ref sb), some (.ref (ad L 0)), some (.ref (ad L 96)), some (.ref (ad L 105)), some (.ref (ad L 106)), some (.int i), none, none, none] [] L (FW G L a' b' c')) : J G p l e ({ frames := 14, cells := 601024, slots := 7293034, locals := 524 } : Room) s m args below meth c9 A Q 9 cl sl 459 [some (.ref sb), some (.ref (ad L 0)), some (.ref (ad L 96)), some (.ref (ad L 105)), some (.ref (ad L 106)), some (.int i), none, none, none] [] L (FW G L a b c) := by
  unfold f_case_5 at hR
  refine j_aload_n X (i := 1) dL_law_459 rfl rfl ?_
  refine j_aload_n X (i := 0) dL_law_460 rfl rfl ?_
  refine j_iload X dL_law_461 rfl ?_
  refine j_iconst X (1) dL_law_463 (by decide) ?_
  refine j_iadd X dL_law_464 ?_
  obtain ⟨h1, hR⟩ := chkI_inv hR
  refine j_sld X hX hb hbA h1 dL_law_465 ?_
  refine j_aload_n X (i := 3) dL_law_466 rfl rfl ?_
  obtain ⟨x3, a4, c5, h2, hR⟩ := bP3_inv hR
  refine j_callSW (As := [.ref (ad L 0), .int (xs ((i + (1 : Int32))).toNatClampNeg), .ref (ad L 105)]) (rest := []) X (m_L_property hl hL hL7  h2) ml_L_181 st_yL_property in_L cd_yL_property hy_yL_property dL_law_467 ⟨(by decide), (by decide)⟩ ⟨Nat.le_trans (Nat.add_le_add_left (by decide : 1 ≤ 8) _) hcl, Nat.le_trans (Nat.add_le_add_left (by decide : 6 ≤ 64) _) hsl⟩ (Nat.le_of_ble_eq_true rfl) (fun _ h => h.elim) (fun r9 L9 f9 h9 => ?_)
  obtain ⟨h91, h92, h93⟩ := h9
  subst r9
  subst f9
  subst L9
  dsimp only [Option.toList, List.cons_append, List.nil_append, List.append]
  refine j_istore X dL_law_470 (by decide) (lvOK_s rfl okPrev_int) ?_
  dsimp only [List.set]
  refine j_aload_n X (i := 2) dL_law_472 rfl rfl ?_
  refine j_aload_n X (i := 0) dL_law_473 rfl rfl ?_
  refine j_iload X dL_law_474 rfl ?_
  refine j_iconst X (1) dL_law_476 (by decide) ?_
  refine j_iadd X dL_law_477 ?_
  obtain ⟨h6, hR⟩ := chkI_inv hR
  refine j_sld X hX hb hbA h6 dL_law_478 ?_
  obtain ⟨x8, b9, h7, hR⟩ := bP2_inv hR
  refine j_callV1 X 9 (m_X9_property hl hL  h7) ml_L_184 im_yX9_property se_yX9_property in_X9 cd_yX9_property hy_yX9_property dL_law_479 rfl (ad_mem hL (by decide)) (FW9 hL) ⟨(by decide), (by decide)⟩ ⟨Nat.le_trans (Nat.add_le_add_left (by decide : 1 ≤ 8) _) hcl, Nat.le_trans (Nat.add_le_add_left (by decide : 6 ≤ 64) _) hsl⟩ (Nat.le_of_ble_eq_true rfl) (fun _ h => h.elim) (fun r9 L9 f9 h9 => ?_)
  obtain ⟨h91, h92, h93⟩ := h9
  subst r9
  subst f9
  subst L9
  dsimp only [Option.toList, List.cons_append, List.nil_append, List.append]
  refine j_istore X dL_law_482 (by decide) (lvOK_s rfl okPrev_int) ?_
  dsimp only [List.set]
  refine j_aload_n X (i := 2) dL_law_484 rfl rfl ?_
  obtain ⟨x12, h11, hR⟩ := bT_inv hR
  refine j_callV0 X 9 (m_X9_thrown hl hL  h11) ml_L_162 im_yX9_thrown se_yX9_thrown in_X9 cd_yX9_thrown hy_yX9_thrown dL_law_485 rfl (ad_mem hL (by decide)) (FW9 hL) ⟨(by decide), (by decide)⟩ ⟨Nat.le_trans (Nat.add_le_add_left (by decide : 1 ≤ 8) _) hcl, Nat.le_trans (Nat.add_le_add_left (by decide : 6 ≤ 64) _) hsl⟩ (Nat.le_of_ble_eq_true rfl) (fun _ h => h.elim) (fun r9 L9 f9 h9 => ?_)
  obtain ⟨h91, h92, h93⟩ := h9
  subst r9
  subst f9
  subst L9
  dsimp only [Option.toList, List.cons_append, List.nil_append, List.append]
  refine j_iload X dL_law_488 rfl ?_
  refine j_icmp_eq X (tgt := 495) dL_law_490 (by decide) (fun h14 => ?_) (fun h14 => ?_)
  · replace hR := (if_pos h14).symm.trans hR
    refine j_iload X dL_law_495 rfl ?_
    refine j_if_ne X (tgt := 512) dL_law_497 (by decide) (fun h15 => ?_) (fun h15 => ?_)
    · replace hR := (if_neg h15).symm.trans hR
      refine j_goto X (tgt := 3067) dL_law_512 (by decide) ?_
      have h9 := Option.some.inj hR
      rw [← (Prod.mk.inj h9).1, ← (Prod.mk.inj (Prod.mk.inj h9).2).1, ← (Prod.mk.inj (Prod.mk.inj h9).2).2] at kk
      exact J.widen (c1 := cl + 8) (s1 := sl + 64) (by omega) (by omega) (J.sub (lvle_of (by simp only [lvle, and_self])) kk)
    · replace hR := (if_pos h15).symm.trans hR
      refine j_aload_n X (i := 3) dL_law_500 rfl rfl ?_
      refine j_iconst X (0) dL_law_501 (by decide) ?_
      refine j_lald105 X hL hL7 dL_law_502 ?_
      refine j_iload X dL_law_503 rfl ?_
      refine j_i2l X dL_law_505 ?_
      refine j_lcmp X dL_law_506 ?_
      refine j_if_eq X (tgt := 512) dL_law_507 (by decide) (fun h16 => ?_) (fun h16 => ?_)
      · replace hR := (if_pos h16).symm.trans hR
        refine j_goto X (tgt := 3067) dL_law_512 (by decide) ?_
        have h9 := Option.some.inj hR
        rw [← (Prod.mk.inj h9).1, ← (Prod.mk.inj (Prod.mk.inj h9).2).1, ← (Prod.mk.inj (Prod.mk.inj h9).2).2] at kk
        exact J.widen (c1 := cl + 8) (s1 := sl + 64) (by omega) (by omega) (J.sub (lvle_of (by simp only [lvle, and_self])) kk)
      · replace hR := (if_neg h16).symm.trans hR
        refine j_iconst X (0) dL_law_510 (by decide) ?_
        cases hR
  · replace hR := (if_neg h14).symm.trans hR
    refine j_iconst X (0) dL_law_493 (by decide) ?_
    cases hR
def f_case_6 (N Ln : Nat) (xs : Nat → Int32) (i : Int32) (a b c : Mem) : Option (Mem × Mem × Mem) := chkI (i + (1 : Int32)) Ln <| chkI (i + (2 : Int32)) Ln <| bP3 (f_L_period (xs ((i + (1 : Int32))).toNatClampNeg) (xs ((i + (2 : Int32))).toNatClampNeg) a c) fun x4 a5 c6 => chkI (i + (1 : Int32)) Ln <| chkI (i + (2 : Int32)) Ln <| bP2 (f_X9_period N (xs ((i + (1 : Int32))).toNatClampNeg) (xs ((i + (2 : Int32))).toNatClampNeg) b) fun x10 b11 => bT (f_X9_thrown  b11) fun x14 => if x14 = x4 then (if x4 = 0 then (if (lg_cmp (Int32.toInt64 (c6 0 0)) (Int32.toInt64 x10)) = 0 then (some (a5, b11, c6)) else (none)) else (some (a5, b11, c6))) else (none)
set_option maxRecDepth 100000 in
set_option maxHeartbeats 4000000 in
theorem m_case_6 (X : Cx G p l s m args meth c9 A RL cL_law 9 ret9 tb) (hl : l.stackTraces = false) (hL : LOK L) (hL7 : L.length = 107) {N Ln sb : Nat} {xs : Nat → Int32} (hX : va_X sb Ln xs s s.heap) (hb : sb < s.heap.size) (hbA : ¬ A sb) {cl sl : Nat} (hcl : cl + 8 ≤ 601024) (hsl : sl + 64 ≤ 7293034) {i : Int32} {a b c a' b' c' : Mem} (hR : f_case_6 N Ln xs i a b c = some (a', b', c')) (kk : J G p l e ({ frames := 14, cells := 601024, slots := 7293034, locals := 524 } : Room) s m args below meth c9 A Q 9 (cl + 8) (sl + 64) 3067 [some (.ref sb), some (.ref (ad L 0)), some (.ref (ad L 96)), some (.ref (ad L 105)), some (.ref (ad L 106)), some (.int i), none, none, none] [] L (FW G L a' b' c')) : J G p l e ({ frames := 14, cells := 601024, slots := 7293034, locals := 524 } : Room) s m args below meth c9 A Q 9 cl sl 515 [some (.ref sb), some (.ref (ad L 0)), some (.ref (ad L 96)), some (.ref (ad L 105)), some (.ref (ad L 106)), some (.int i), none, none, none] [] L (FW G L a b c) := by
  unfold f_case_6 at hR
  refine j_aload_n X (i := 1) dL_law_515 rfl rfl ?_
  refine j_aload_n X (i := 0) dL_law_516 rfl rfl ?_
  refine j_iload X dL_law_517 rfl ?_
  refine j_iconst X (1) dL_law_519 (by decide) ?_
  refine j_iadd X dL_law_520 ?_
  obtain ⟨h1, hR⟩ := chkI_inv hR
  refine j_sld X hX hb hbA h1 dL_law_521 ?_
  refine j_aload_n X (i := 0) dL_law_522 rfl rfl ?_
  refine j_iload X dL_law_523 rfl ?_
  refine j_iconst X (2) dL_law_525 (by decide) ?_
  refine j_iadd X dL_law_526 ?_
  obtain ⟨h2, hR⟩ := chkI_inv hR
  refine j_sld X hX hb hbA h2 dL_law_527 ?_
  refine j_aload_n X (i := 3) dL_law_528 rfl rfl ?_
  obtain ⟨x4, a5, c6, h3, hR⟩ := bP3_inv hR
  refine j_callSW (As := [.ref (ad L 0), .int (xs ((i + (1 : Int32))).toNatClampNeg), .int (xs ((i + (2 : Int32))).toNatClampNeg), .ref (ad L 105)]) (rest := []) X (m_L_period hl hL hL7  h3) ml_L_185 st_yL_period in_L cd_yL_period hy_yL_period dL_law_529 ⟨(by decide), (by decide)⟩ ⟨Nat.le_trans (Nat.add_le_add_left (by decide : 2 ≤ 8) _) hcl, Nat.le_trans (Nat.add_le_add_left (by decide : 12 ≤ 64) _) hsl⟩ (Nat.le_of_ble_eq_true rfl) (fun _ h => h.elim) (fun r9 L9 f9 h9 => ?_)
  obtain ⟨h91, h92, h93⟩ := h9
  subst r9
  subst f9
  subst L9
  dsimp only [Option.toList, List.cons_append, List.nil_append, List.append]
  refine j_istore X dL_law_532 (by decide) (lvOK_s rfl okPrev_int) ?_
  dsimp only [List.set]
  refine j_aload_n X (i := 2) dL_law_534 rfl rfl ?_
  refine j_aload_n X (i := 0) dL_law_535 rfl rfl ?_
  refine j_iload X dL_law_536 rfl ?_
  refine j_iconst X (1) dL_law_538 (by decide) ?_
  refine j_iadd X dL_law_539 ?_
  obtain ⟨h7, hR⟩ := chkI_inv hR
  refine j_sld X hX hb hbA h7 dL_law_540 ?_
  refine j_aload_n X (i := 0) dL_law_541 rfl rfl ?_
  refine j_iload X dL_law_542 rfl ?_
  refine j_iconst X (2) dL_law_544 (by decide) ?_
  refine j_iadd X dL_law_545 ?_
  obtain ⟨h8, hR⟩ := chkI_inv hR
  refine j_sld X hX hb hbA h8 dL_law_546 ?_
  obtain ⟨x10, b11, h9, hR⟩ := bP2_inv hR
  refine j_callV2 X 9 (m_X9_period hl hL  h9) ml_L_188 im_yX9_period se_yX9_period in_X9 cd_yX9_period hy_yX9_period dL_law_547 rfl (ad_mem hL (by decide)) (FW9 hL) ⟨(by decide), (by decide)⟩ ⟨Nat.le_trans (Nat.add_le_add_left (by decide : 2 ≤ 8) _) hcl, Nat.le_trans (Nat.add_le_add_left (by decide : 12 ≤ 64) _) hsl⟩ (Nat.le_of_ble_eq_true rfl) (fun _ h => h.elim) (fun r9 L9 f9 h9 => ?_)
  obtain ⟨h91, h92, h93⟩ := h9
  subst r9
  subst f9
  subst L9
  dsimp only [Option.toList, List.cons_append, List.nil_append, List.append]
  refine j_istore X dL_law_550 (by decide) (lvOK_s rfl okPrev_int) ?_
  dsimp only [List.set]
  refine j_aload_n X (i := 2) dL_law_552 rfl rfl ?_
  obtain ⟨x14, h13, hR⟩ := bT_inv hR
  refine j_callV0 X 9 (m_X9_thrown hl hL  h13) ml_L_162 im_yX9_thrown se_yX9_thrown in_X9 cd_yX9_thrown hy_yX9_thrown dL_law_553 rfl (ad_mem hL (by decide)) (FW9 hL) ⟨(by decide), (by decide)⟩ ⟨Nat.le_trans (Nat.add_le_add_left (by decide : 2 ≤ 8) _) hcl, Nat.le_trans (Nat.add_le_add_left (by decide : 12 ≤ 64) _) hsl⟩ (Nat.le_of_ble_eq_true rfl) (fun _ h => h.elim) (fun r9 L9 f9 h9 => ?_)
  obtain ⟨h91, h92, h93⟩ := h9
  subst r9
  subst f9
  subst L9
  dsimp only [Option.toList, List.cons_append, List.nil_append, List.append]
  refine j_iload X dL_law_556 rfl ?_
  refine j_icmp_eq X (tgt := 563) dL_law_558 (by decide) (fun h16 => ?_) (fun h16 => ?_)
  · replace hR := (if_pos h16).symm.trans hR
    refine j_iload X dL_law_563 rfl ?_
    refine j_if_ne X (tgt := 580) dL_law_565 (by decide) (fun h17 => ?_) (fun h17 => ?_)
    · replace hR := (if_neg h17).symm.trans hR
      refine j_goto X (tgt := 3067) dL_law_580 (by decide) ?_
      have h9 := Option.some.inj hR
      rw [← (Prod.mk.inj h9).1, ← (Prod.mk.inj (Prod.mk.inj h9).2).1, ← (Prod.mk.inj (Prod.mk.inj h9).2).2] at kk
      exact J.widen (c1 := cl + 8) (s1 := sl + 64) (by omega) (by omega) (J.sub (lvle_of (by simp only [lvle, and_self])) kk)
    · replace hR := (if_pos h17).symm.trans hR
      refine j_aload_n X (i := 3) dL_law_568 rfl rfl ?_
      refine j_iconst X (0) dL_law_569 (by decide) ?_
      refine j_lald105 X hL hL7 dL_law_570 ?_
      refine j_iload X dL_law_571 rfl ?_
      refine j_i2l X dL_law_573 ?_
      refine j_lcmp X dL_law_574 ?_
      refine j_if_eq X (tgt := 580) dL_law_575 (by decide) (fun h18 => ?_) (fun h18 => ?_)
      · replace hR := (if_pos h18).symm.trans hR
        refine j_goto X (tgt := 3067) dL_law_580 (by decide) ?_
        have h9 := Option.some.inj hR
        rw [← (Prod.mk.inj h9).1, ← (Prod.mk.inj (Prod.mk.inj h9).2).1, ← (Prod.mk.inj (Prod.mk.inj h9).2).2] at kk
        exact J.widen (c1 := cl + 8) (s1 := sl + 64) (by omega) (by omega) (J.sub (lvle_of (by simp only [lvle, and_self])) kk)
      · replace hR := (if_neg h18).symm.trans hR
        refine j_iconst X (0) dL_law_578 (by decide) ?_
        cases hR
  · replace hR := (if_neg h16).symm.trans hR
    refine j_iconst X (0) dL_law_561 (by decide) ?_
    cases hR
def f_case_7 (N Ln : Nat) (xs : Nat → Int32) (i : Int32) (a b c : Mem) : Option (Mem × Mem × Mem) := chkI (i + (1 : Int32)) Ln <| chkI (i + (2 : Int32)) Ln <| bP3 (f_L_side (xs ((i + (1 : Int32))).toNatClampNeg) (xs ((i + (2 : Int32))).toNatClampNeg) a c) fun x4 a5 c6 => chkI (i + (1 : Int32)) Ln <| chkI (i + (2 : Int32)) Ln <| bP2 (f_X9_side N (xs ((i + (1 : Int32))).toNatClampNeg) (xs ((i + (2 : Int32))).toNatClampNeg) b) fun x10 b11 => bT (f_X9_thrown  b11) fun x14 => if x14 = x4 then (if x4 = 0 then (if (lg_cmp (Int32.toInt64 (c6 0 0)) (Int32.toInt64 x10)) = 0 then (some (a5, b11, c6)) else (none)) else (some (a5, b11, c6))) else (none)
set_option maxRecDepth 100000 in
set_option maxHeartbeats 4000000 in
theorem m_case_7 (X : Cx G p l s m args meth c9 A RL cL_law 9 ret9 tb) (hl : l.stackTraces = false) (hL : LOK L) (hL7 : L.length = 107) {N Ln sb : Nat} {xs : Nat → Int32} (hX : va_X sb Ln xs s s.heap) (hb : sb < s.heap.size) (hbA : ¬ A sb) {cl sl : Nat} (hcl : cl + 8 ≤ 601024) (hsl : sl + 64 ≤ 7293034) {i : Int32} {a b c a' b' c' : Mem} (hR : f_case_7 N Ln xs i a b c = some (a', b', c')) (kk : J G p l e ({ frames := 14, cells := 601024, slots := 7293034, locals := 524 } : Room) s m args below meth c9 A Q 9 (cl + 8) (sl + 64) 3067 [some (.ref sb), some (.ref (ad L 0)), some (.ref (ad L 96)), some (.ref (ad L 105)), some (.ref (ad L 106)), some (.int i), none, none, none] [] L (FW G L a' b' c')) : J G p l e ({ frames := 14, cells := 601024, slots := 7293034, locals := 524 } : Room) s m args below meth c9 A Q 9 cl sl 583 [some (.ref sb), some (.ref (ad L 0)), some (.ref (ad L 96)), some (.ref (ad L 105)), some (.ref (ad L 106)), some (.int i), none, none, none] [] L (FW G L a b c) := by
  unfold f_case_7 at hR
  refine j_aload_n X (i := 1) dL_law_583 rfl rfl ?_
  refine j_aload_n X (i := 0) dL_law_584 rfl rfl ?_
  refine j_iload X dL_law_585 rfl ?_
  refine j_iconst X (1) dL_law_587 (by decide) ?_
  refine j_iadd X dL_law_588 ?_
  obtain ⟨h1, hR⟩ := chkI_inv hR
  refine j_sld X hX hb hbA h1 dL_law_589 ?_
  refine j_aload_n X (i := 0) dL_law_590 rfl rfl ?_
  refine j_iload X dL_law_591 rfl ?_
  refine j_iconst X (2) dL_law_593 (by decide) ?_
  refine j_iadd X dL_law_594 ?_
  obtain ⟨h2, hR⟩ := chkI_inv hR
  refine j_sld X hX hb hbA h2 dL_law_595 ?_
  refine j_aload_n X (i := 3) dL_law_596 rfl rfl ?_
  obtain ⟨x4, a5, c6, h3, hR⟩ := bP3_inv hR
  refine j_callSW (As := [.ref (ad L 0), .int (xs ((i + (1 : Int32))).toNatClampNeg), .int (xs ((i + (2 : Int32))).toNatClampNeg), .ref (ad L 105)]) (rest := []) X (m_L_side hl hL hL7  h3) ml_L_189 st_yL_side in_L cd_yL_side hy_yL_side dL_law_597 ⟨(by decide), (by decide)⟩ ⟨Nat.le_trans (Nat.add_le_add_left (by decide : 2 ≤ 8) _) hcl, Nat.le_trans (Nat.add_le_add_left (by decide : 12 ≤ 64) _) hsl⟩ (Nat.le_of_ble_eq_true rfl) (fun _ h => h.elim) (fun r9 L9 f9 h9 => ?_)
  obtain ⟨h91, h92, h93⟩ := h9
  subst r9
  subst f9
  subst L9
  dsimp only [Option.toList, List.cons_append, List.nil_append, List.append]
  refine j_istore X dL_law_600 (by decide) (lvOK_s rfl okPrev_int) ?_
  dsimp only [List.set]
  refine j_aload_n X (i := 2) dL_law_602 rfl rfl ?_
  refine j_aload_n X (i := 0) dL_law_603 rfl rfl ?_
  refine j_iload X dL_law_604 rfl ?_
  refine j_iconst X (1) dL_law_606 (by decide) ?_
  refine j_iadd X dL_law_607 ?_
  obtain ⟨h7, hR⟩ := chkI_inv hR
  refine j_sld X hX hb hbA h7 dL_law_608 ?_
  refine j_aload_n X (i := 0) dL_law_609 rfl rfl ?_
  refine j_iload X dL_law_610 rfl ?_
  refine j_iconst X (2) dL_law_612 (by decide) ?_
  refine j_iadd X dL_law_613 ?_
  obtain ⟨h8, hR⟩ := chkI_inv hR
  refine j_sld X hX hb hbA h8 dL_law_614 ?_
  obtain ⟨x10, b11, h9, hR⟩ := bP2_inv hR
  refine j_callV2 X 9 (m_X9_side hl hL  h9) ml_L_191 im_yX9_side se_yX9_side in_X9 cd_yX9_side hy_yX9_side dL_law_615 rfl (ad_mem hL (by decide)) (FW9 hL) ⟨(by decide), (by decide)⟩ ⟨Nat.le_trans (Nat.add_le_add_left (by decide : 2 ≤ 8) _) hcl, Nat.le_trans (Nat.add_le_add_left (by decide : 12 ≤ 64) _) hsl⟩ (Nat.le_of_ble_eq_true rfl) (fun _ h => h.elim) (fun r9 L9 f9 h9 => ?_)
  obtain ⟨h91, h92, h93⟩ := h9
  subst r9
  subst f9
  subst L9
  dsimp only [Option.toList, List.cons_append, List.nil_append, List.append]
  refine j_istore X dL_law_618 (by decide) (lvOK_s rfl okPrev_int) ?_
  dsimp only [List.set]
  refine j_aload_n X (i := 2) dL_law_620 rfl rfl ?_
  obtain ⟨x14, h13, hR⟩ := bT_inv hR
  refine j_callV0 X 9 (m_X9_thrown hl hL  h13) ml_L_162 im_yX9_thrown se_yX9_thrown in_X9 cd_yX9_thrown hy_yX9_thrown dL_law_621 rfl (ad_mem hL (by decide)) (FW9 hL) ⟨(by decide), (by decide)⟩ ⟨Nat.le_trans (Nat.add_le_add_left (by decide : 2 ≤ 8) _) hcl, Nat.le_trans (Nat.add_le_add_left (by decide : 12 ≤ 64) _) hsl⟩ (Nat.le_of_ble_eq_true rfl) (fun _ h => h.elim) (fun r9 L9 f9 h9 => ?_)
  obtain ⟨h91, h92, h93⟩ := h9
  subst r9
  subst f9
  subst L9
  dsimp only [Option.toList, List.cons_append, List.nil_append, List.append]
  refine j_iload X dL_law_624 rfl ?_
  refine j_icmp_eq X (tgt := 631) dL_law_626 (by decide) (fun h16 => ?_) (fun h16 => ?_)
  · replace hR := (if_pos h16).symm.trans hR
    refine j_iload X dL_law_631 rfl ?_
    refine j_if_ne X (tgt := 648) dL_law_633 (by decide) (fun h17 => ?_) (fun h17 => ?_)
    · replace hR := (if_neg h17).symm.trans hR
      refine j_goto X (tgt := 3067) dL_law_648 (by decide) ?_
      have h9 := Option.some.inj hR
      rw [← (Prod.mk.inj h9).1, ← (Prod.mk.inj (Prod.mk.inj h9).2).1, ← (Prod.mk.inj (Prod.mk.inj h9).2).2] at kk
      exact J.widen (c1 := cl + 8) (s1 := sl + 64) (by omega) (by omega) (J.sub (lvle_of (by simp only [lvle, and_self])) kk)
    · replace hR := (if_pos h17).symm.trans hR
      refine j_aload_n X (i := 3) dL_law_636 rfl rfl ?_
      refine j_iconst X (0) dL_law_637 (by decide) ?_
      refine j_lald105 X hL hL7 dL_law_638 ?_
      refine j_iload X dL_law_639 rfl ?_
      refine j_i2l X dL_law_641 ?_
      refine j_lcmp X dL_law_642 ?_
      refine j_if_eq X (tgt := 648) dL_law_643 (by decide) (fun h18 => ?_) (fun h18 => ?_)
      · replace hR := (if_pos h18).symm.trans hR
        refine j_goto X (tgt := 3067) dL_law_648 (by decide) ?_
        have h9 := Option.some.inj hR
        rw [← (Prod.mk.inj h9).1, ← (Prod.mk.inj (Prod.mk.inj h9).2).1, ← (Prod.mk.inj (Prod.mk.inj h9).2).2] at kk
        exact J.widen (c1 := cl + 8) (s1 := sl + 64) (by omega) (by omega) (J.sub (lvle_of (by simp only [lvle, and_self])) kk)
      · replace hR := (if_neg h18).symm.trans hR
        refine j_iconst X (0) dL_law_646 (by decide) ?_
        cases hR
  · replace hR := (if_neg h16).symm.trans hR
    refine j_iconst X (0) dL_law_629 (by decide) ?_
    cases hR
def f_case_8 (N Ln : Nat) (xs : Nat → Int32) (i : Int32) (a b c : Mem) : Option (Mem × Mem × Mem) := chkI (i + (1 : Int32)) Ln <| chkI (i + (2 : Int32)) Ln <| bP3 (f_L_logged (xs ((i + (1 : Int32))).toNatClampNeg) (xs ((i + (2 : Int32))).toNatClampNeg) a c) fun x4 a5 c6 => chkI (i + (1 : Int32)) Ln <| chkI (i + (2 : Int32)) Ln <| bP2 (f_X9_logged N (xs ((i + (1 : Int32))).toNatClampNeg) (xs ((i + (2 : Int32))).toNatClampNeg) b) fun x10 b11 => bT (f_X9_thrown  b11) fun x14 => if x14 = x4 then (if x4 = 0 then (if (lg_cmp (Int32.toInt64 (c6 0 0)) (Int32.toInt64 x10)) = 0 then (some (a5, b11, c6)) else (none)) else (some (a5, b11, c6))) else (none)
set_option maxRecDepth 100000 in
set_option maxHeartbeats 4000000 in
theorem m_case_8 (X : Cx G p l s m args meth c9 A RL cL_law 9 ret9 tb) (hl : l.stackTraces = false) (hL : LOK L) (hL7 : L.length = 107) {N Ln sb : Nat} {xs : Nat → Int32} (hX : va_X sb Ln xs s s.heap) (hb : sb < s.heap.size) (hbA : ¬ A sb) {cl sl : Nat} (hcl : cl + 8 ≤ 601024) (hsl : sl + 64 ≤ 7293034) {i : Int32} {a b c a' b' c' : Mem} (hR : f_case_8 N Ln xs i a b c = some (a', b', c')) (kk : J G p l e ({ frames := 14, cells := 601024, slots := 7293034, locals := 524 } : Room) s m args below meth c9 A Q 9 (cl + 8) (sl + 64) 3067 [some (.ref sb), some (.ref (ad L 0)), some (.ref (ad L 96)), some (.ref (ad L 105)), some (.ref (ad L 106)), some (.int i), none, none, none] [] L (FW G L a' b' c')) : J G p l e ({ frames := 14, cells := 601024, slots := 7293034, locals := 524 } : Room) s m args below meth c9 A Q 9 cl sl 651 [some (.ref sb), some (.ref (ad L 0)), some (.ref (ad L 96)), some (.ref (ad L 105)), some (.ref (ad L 106)), some (.int i), none, none, none] [] L (FW G L a b c) := by
  unfold f_case_8 at hR
  refine j_aload_n X (i := 1) dL_law_651 rfl rfl ?_
  refine j_aload_n X (i := 0) dL_law_652 rfl rfl ?_
  refine j_iload X dL_law_653 rfl ?_
  refine j_iconst X (1) dL_law_655 (by decide) ?_
  refine j_iadd X dL_law_656 ?_
  obtain ⟨h1, hR⟩ := chkI_inv hR
  refine j_sld X hX hb hbA h1 dL_law_657 ?_
  refine j_aload_n X (i := 0) dL_law_658 rfl rfl ?_
  refine j_iload X dL_law_659 rfl ?_
  refine j_iconst X (2) dL_law_661 (by decide) ?_
  refine j_iadd X dL_law_662 ?_
  obtain ⟨h2, hR⟩ := chkI_inv hR
  refine j_sld X hX hb hbA h2 dL_law_663 ?_
  refine j_aload_n X (i := 3) dL_law_664 rfl rfl ?_
  obtain ⟨x4, a5, c6, h3, hR⟩ := bP3_inv hR
  refine j_callSW (As := [.ref (ad L 0), .int (xs ((i + (1 : Int32))).toNatClampNeg), .int (xs ((i + (2 : Int32))).toNatClampNeg), .ref (ad L 105)]) (rest := []) X (m_L_logged hl hL hL7  h3) ml_L_192 st_yL_logged in_L cd_yL_logged hy_yL_logged dL_law_665 ⟨(by decide), (by decide)⟩ ⟨Nat.le_trans (Nat.add_le_add_left (by decide : 1 ≤ 8) _) hcl, Nat.le_trans (Nat.add_le_add_left (by decide : 6 ≤ 64) _) hsl⟩ (Nat.le_of_ble_eq_true rfl) (fun _ h => h.elim) (fun r9 L9 f9 h9 => ?_)
  obtain ⟨h91, h92, h93⟩ := h9
  subst r9
  subst f9
  subst L9
  dsimp only [Option.toList, List.cons_append, List.nil_append, List.append]
  refine j_istore X dL_law_668 (by decide) (lvOK_s rfl okPrev_int) ?_
  dsimp only [List.set]
  refine j_aload_n X (i := 2) dL_law_670 rfl rfl ?_
  refine j_aload_n X (i := 0) dL_law_671 rfl rfl ?_
  refine j_iload X dL_law_672 rfl ?_
  refine j_iconst X (1) dL_law_674 (by decide) ?_
  refine j_iadd X dL_law_675 ?_
  obtain ⟨h7, hR⟩ := chkI_inv hR
  refine j_sld X hX hb hbA h7 dL_law_676 ?_
  refine j_aload_n X (i := 0) dL_law_677 rfl rfl ?_
  refine j_iload X dL_law_678 rfl ?_
  refine j_iconst X (2) dL_law_680 (by decide) ?_
  refine j_iadd X dL_law_681 ?_
  obtain ⟨h8, hR⟩ := chkI_inv hR
  refine j_sld X hX hb hbA h8 dL_law_682 ?_
  obtain ⟨x10, b11, h9, hR⟩ := bP2_inv hR
  refine j_callV2 X 9 (m_X9_logged hl hL  h9) ml_L_194 im_yX9_logged se_yX9_logged in_X9 cd_yX9_logged hy_yX9_logged dL_law_683 rfl (ad_mem hL (by decide)) (FW9 hL) ⟨(by decide), (by decide)⟩ ⟨Nat.le_trans (Nat.add_le_add_left (by decide : 1 ≤ 8) _) hcl, Nat.le_trans (Nat.add_le_add_left (by decide : 6 ≤ 64) _) hsl⟩ (Nat.le_of_ble_eq_true rfl) (fun _ h => h.elim) (fun r9 L9 f9 h9 => ?_)
  obtain ⟨h91, h92, h93⟩ := h9
  subst r9
  subst f9
  subst L9
  dsimp only [Option.toList, List.cons_append, List.nil_append, List.append]
  refine j_istore X dL_law_686 (by decide) (lvOK_s rfl okPrev_int) ?_
  dsimp only [List.set]
  refine j_aload_n X (i := 2) dL_law_688 rfl rfl ?_
  obtain ⟨x14, h13, hR⟩ := bT_inv hR
  refine j_callV0 X 9 (m_X9_thrown hl hL  h13) ml_L_162 im_yX9_thrown se_yX9_thrown in_X9 cd_yX9_thrown hy_yX9_thrown dL_law_689 rfl (ad_mem hL (by decide)) (FW9 hL) ⟨(by decide), (by decide)⟩ ⟨Nat.le_trans (Nat.add_le_add_left (by decide : 1 ≤ 8) _) hcl, Nat.le_trans (Nat.add_le_add_left (by decide : 6 ≤ 64) _) hsl⟩ (Nat.le_of_ble_eq_true rfl) (fun _ h => h.elim) (fun r9 L9 f9 h9 => ?_)
  obtain ⟨h91, h92, h93⟩ := h9
  subst r9
  subst f9
  subst L9
  dsimp only [Option.toList, List.cons_append, List.nil_append, List.append]
  refine j_iload X dL_law_692 rfl ?_
  refine j_icmp_eq X (tgt := 699) dL_law_694 (by decide) (fun h16 => ?_) (fun h16 => ?_)
  · replace hR := (if_pos h16).symm.trans hR
    refine j_iload X dL_law_699 rfl ?_
    refine j_if_ne X (tgt := 716) dL_law_701 (by decide) (fun h17 => ?_) (fun h17 => ?_)
    · replace hR := (if_neg h17).symm.trans hR
      refine j_goto X (tgt := 3067) dL_law_716 (by decide) ?_
      have h9 := Option.some.inj hR
      rw [← (Prod.mk.inj h9).1, ← (Prod.mk.inj (Prod.mk.inj h9).2).1, ← (Prod.mk.inj (Prod.mk.inj h9).2).2] at kk
      exact J.widen (c1 := cl + 8) (s1 := sl + 64) (by omega) (by omega) (J.sub (lvle_of (by simp only [lvle, and_self])) kk)
    · replace hR := (if_pos h17).symm.trans hR
      refine j_aload_n X (i := 3) dL_law_704 rfl rfl ?_
      refine j_iconst X (0) dL_law_705 (by decide) ?_
      refine j_lald105 X hL hL7 dL_law_706 ?_
      refine j_iload X dL_law_707 rfl ?_
      refine j_i2l X dL_law_709 ?_
      refine j_lcmp X dL_law_710 ?_
      refine j_if_eq X (tgt := 716) dL_law_711 (by decide) (fun h18 => ?_) (fun h18 => ?_)
      · replace hR := (if_pos h18).symm.trans hR
        refine j_goto X (tgt := 3067) dL_law_716 (by decide) ?_
        have h9 := Option.some.inj hR
        rw [← (Prod.mk.inj h9).1, ← (Prod.mk.inj (Prod.mk.inj h9).2).1, ← (Prod.mk.inj (Prod.mk.inj h9).2).2] at kk
        exact J.widen (c1 := cl + 8) (s1 := sl + 64) (by omega) (by omega) (J.sub (lvle_of (by simp only [lvle, and_self])) kk)
      · replace hR := (if_neg h18).symm.trans hR
        refine j_iconst X (0) dL_law_714 (by decide) ?_
        cases hR
  · replace hR := (if_neg h16).symm.trans hR
    refine j_iconst X (0) dL_law_697 (by decide) ?_
    cases hR
def f_case_9 (N Ln : Nat) (xs : Nat → Int32) (i : Int32) (a b c : Mem) : Option (Mem × Mem × Mem) := chkI (i + (1 : Int32)) Ln <| bP3 (f_L_flagIn (xs ((i + (1 : Int32))).toNatClampNeg) a c) fun x3 a4 c5 => chkI (i + (1 : Int32)) Ln <| bP2 (f_X9_flagIn N (xs ((i + (1 : Int32))).toNatClampNeg) b) fun x8 b9 => bT (f_X9_thrown  b9) fun x12 => if x12 = x3 then (if x3 = 0 then (if (lg_cmp (Int32.toInt64 (c5 0 0)) (Int32.toInt64 x8)) = 0 then (some (a4, b9, c5)) else (none)) else (some (a4, b9, c5))) else (none)
set_option maxRecDepth 100000 in
set_option maxHeartbeats 4000000 in
theorem m_case_9 (X : Cx G p l s m args meth c9 A RL cL_law 9 ret9 tb) (hl : l.stackTraces = false) (hL : LOK L) (hL7 : L.length = 107) {N Ln sb : Nat} {xs : Nat → Int32} (hX : va_X sb Ln xs s s.heap) (hb : sb < s.heap.size) (hbA : ¬ A sb) {cl sl : Nat} (hcl : cl + 8 ≤ 601024) (hsl : sl + 64 ≤ 7293034) {i : Int32} {a b c a' b' c' : Mem} (hR : f_case_9 N Ln xs i a b c = some (a', b', c')) (kk : J G p l e ({ frames := 14, cells := 601024, slots := 7293034, locals := 524 } : Room) s m args below meth c9 A Q 9 (cl + 8) (sl + 64) 3067 [some (.ref sb), some (.ref (ad L 0)), some (.ref (ad L 96)), some (.ref (ad L 105)), some (.ref (ad L 106)), some (.int i), none, none, none] [] L (FW G L a' b' c')) : J G p l e ({ frames := 14, cells := 601024, slots := 7293034, locals := 524 } : Room) s m args below meth c9 A Q 9 cl sl 719 [some (.ref sb), some (.ref (ad L 0)), some (.ref (ad L 96)), some (.ref (ad L 105)), some (.ref (ad L 106)), some (.int i), none, none, none] [] L (FW G L a b c) := by
  unfold f_case_9 at hR
  refine j_aload_n X (i := 1) dL_law_719 rfl rfl ?_
  refine j_aload_n X (i := 0) dL_law_720 rfl rfl ?_
  refine j_iload X dL_law_721 rfl ?_
  refine j_iconst X (1) dL_law_723 (by decide) ?_
  refine j_iadd X dL_law_724 ?_
  obtain ⟨h1, hR⟩ := chkI_inv hR
  refine j_sld X hX hb hbA h1 dL_law_725 ?_
  refine j_aload_n X (i := 3) dL_law_726 rfl rfl ?_
  obtain ⟨x3, a4, c5, h2, hR⟩ := bP3_inv hR
  refine j_callSW (As := [.ref (ad L 0), .int (xs ((i + (1 : Int32))).toNatClampNeg), .ref (ad L 105)]) (rest := []) X (m_L_flagIn hl hL hL7  h2) ml_L_195 st_yL_flagIn in_L cd_yL_flagIn hy_yL_flagIn dL_law_727 ⟨(by decide), (by decide)⟩ ⟨Nat.le_trans (Nat.add_le_add_left (by decide : 1 ≤ 8) _) hcl, Nat.le_trans (Nat.add_le_add_left (by decide : 6 ≤ 64) _) hsl⟩ (Nat.le_of_ble_eq_true rfl) (fun _ h => h.elim) (fun r9 L9 f9 h9 => ?_)
  obtain ⟨h91, h92, h93⟩ := h9
  subst r9
  subst f9
  subst L9
  dsimp only [Option.toList, List.cons_append, List.nil_append, List.append]
  refine j_istore X dL_law_730 (by decide) (lvOK_s rfl okPrev_int) ?_
  dsimp only [List.set]
  refine j_aload_n X (i := 2) dL_law_732 rfl rfl ?_
  refine j_aload_n X (i := 0) dL_law_733 rfl rfl ?_
  refine j_iload X dL_law_734 rfl ?_
  refine j_iconst X (1) dL_law_736 (by decide) ?_
  refine j_iadd X dL_law_737 ?_
  obtain ⟨h6, hR⟩ := chkI_inv hR
  refine j_sld X hX hb hbA h6 dL_law_738 ?_
  obtain ⟨x8, b9, h7, hR⟩ := bP2_inv hR
  refine j_callV1 X 9 (m_X9_flagIn hl hL  h7) ml_L_197 im_yX9_flagIn se_yX9_flagIn in_X9 cd_yX9_flagIn hy_yX9_flagIn dL_law_739 rfl (ad_mem hL (by decide)) (FW9 hL) ⟨(by decide), (by decide)⟩ ⟨Nat.le_trans (Nat.add_le_add_left (by decide : 1 ≤ 8) _) hcl, Nat.le_trans (Nat.add_le_add_left (by decide : 6 ≤ 64) _) hsl⟩ (Nat.le_of_ble_eq_true rfl) (fun _ h => h.elim) (fun r9 L9 f9 h9 => ?_)
  obtain ⟨h91, h92, h93⟩ := h9
  subst r9
  subst f9
  subst L9
  dsimp only [Option.toList, List.cons_append, List.nil_append, List.append]
  refine j_istore X dL_law_742 (by decide) (lvOK_s rfl okPrev_int) ?_
  dsimp only [List.set]
  refine j_aload_n X (i := 2) dL_law_744 rfl rfl ?_
  obtain ⟨x12, h11, hR⟩ := bT_inv hR
  refine j_callV0 X 9 (m_X9_thrown hl hL  h11) ml_L_162 im_yX9_thrown se_yX9_thrown in_X9 cd_yX9_thrown hy_yX9_thrown dL_law_745 rfl (ad_mem hL (by decide)) (FW9 hL) ⟨(by decide), (by decide)⟩ ⟨Nat.le_trans (Nat.add_le_add_left (by decide : 1 ≤ 8) _) hcl, Nat.le_trans (Nat.add_le_add_left (by decide : 6 ≤ 64) _) hsl⟩ (Nat.le_of_ble_eq_true rfl) (fun _ h => h.elim) (fun r9 L9 f9 h9 => ?_)
  obtain ⟨h91, h92, h93⟩ := h9
  subst r9
  subst f9
  subst L9
  dsimp only [Option.toList, List.cons_append, List.nil_append, List.append]
  refine j_iload X dL_law_748 rfl ?_
  refine j_icmp_eq X (tgt := 755) dL_law_750 (by decide) (fun h14 => ?_) (fun h14 => ?_)
  · replace hR := (if_pos h14).symm.trans hR
    refine j_iload X dL_law_755 rfl ?_
    refine j_if_ne X (tgt := 772) dL_law_757 (by decide) (fun h15 => ?_) (fun h15 => ?_)
    · replace hR := (if_neg h15).symm.trans hR
      refine j_goto X (tgt := 3067) dL_law_772 (by decide) ?_
      have h9 := Option.some.inj hR
      rw [← (Prod.mk.inj h9).1, ← (Prod.mk.inj (Prod.mk.inj h9).2).1, ← (Prod.mk.inj (Prod.mk.inj h9).2).2] at kk
      exact J.widen (c1 := cl + 8) (s1 := sl + 64) (by omega) (by omega) (J.sub (lvle_of (by simp only [lvle, and_self])) kk)
    · replace hR := (if_pos h15).symm.trans hR
      refine j_aload_n X (i := 3) dL_law_760 rfl rfl ?_
      refine j_iconst X (0) dL_law_761 (by decide) ?_
      refine j_lald105 X hL hL7 dL_law_762 ?_
      refine j_iload X dL_law_763 rfl ?_
      refine j_i2l X dL_law_765 ?_
      refine j_lcmp X dL_law_766 ?_
      refine j_if_eq X (tgt := 772) dL_law_767 (by decide) (fun h16 => ?_) (fun h16 => ?_)
      · replace hR := (if_pos h16).symm.trans hR
        refine j_goto X (tgt := 3067) dL_law_772 (by decide) ?_
        have h9 := Option.some.inj hR
        rw [← (Prod.mk.inj h9).1, ← (Prod.mk.inj (Prod.mk.inj h9).2).1, ← (Prod.mk.inj (Prod.mk.inj h9).2).2] at kk
        exact J.widen (c1 := cl + 8) (s1 := sl + 64) (by omega) (by omega) (J.sub (lvle_of (by simp only [lvle, and_self])) kk)
      · replace hR := (if_neg h16).symm.trans hR
        refine j_iconst X (0) dL_law_770 (by decide) ?_
        cases hR
  · replace hR := (if_neg h14).symm.trans hR
    refine j_iconst X (0) dL_law_753 (by decide) ?_
    cases hR
def f_case_10 (N Ln : Nat) (xs : Nat → Int32) (i : Int32) (a b c : Mem) : Option (Mem × Mem × Mem) := chkI (i + (1 : Int32)) Ln <| bP3 (f_L_delayLeft (xs ((i + (1 : Int32))).toNatClampNeg) a c) fun x3 a4 c5 => chkI (i + (1 : Int32)) Ln <| bP2 (f_X9_delayLeft N (xs ((i + (1 : Int32))).toNatClampNeg) b) fun x8 b9 => bT (f_X9_thrown  b9) fun x12 => if x12 = x3 then (if x3 = 0 then (if (lg_cmp (Int32.toInt64 (c5 0 0)) (Int32.toInt64 x8)) = 0 then (some (a4, b9, c5)) else (none)) else (some (a4, b9, c5))) else (none)
set_option maxRecDepth 100000 in
set_option maxHeartbeats 4000000 in
theorem m_case_10 (X : Cx G p l s m args meth c9 A RL cL_law 9 ret9 tb) (hl : l.stackTraces = false) (hL : LOK L) (hL7 : L.length = 107) {N Ln sb : Nat} {xs : Nat → Int32} (hX : va_X sb Ln xs s s.heap) (hb : sb < s.heap.size) (hbA : ¬ A sb) {cl sl : Nat} (hcl : cl + 8 ≤ 601024) (hsl : sl + 64 ≤ 7293034) {i : Int32} {a b c a' b' c' : Mem} (hR : f_case_10 N Ln xs i a b c = some (a', b', c')) (kk : J G p l e ({ frames := 14, cells := 601024, slots := 7293034, locals := 524 } : Room) s m args below meth c9 A Q 9 (cl + 8) (sl + 64) 3067 [some (.ref sb), some (.ref (ad L 0)), some (.ref (ad L 96)), some (.ref (ad L 105)), some (.ref (ad L 106)), some (.int i), none, none, none] [] L (FW G L a' b' c')) : J G p l e ({ frames := 14, cells := 601024, slots := 7293034, locals := 524 } : Room) s m args below meth c9 A Q 9 cl sl 775 [some (.ref sb), some (.ref (ad L 0)), some (.ref (ad L 96)), some (.ref (ad L 105)), some (.ref (ad L 106)), some (.int i), none, none, none] [] L (FW G L a b c) := by
  unfold f_case_10 at hR
  refine j_aload_n X (i := 1) dL_law_775 rfl rfl ?_
  refine j_aload_n X (i := 0) dL_law_776 rfl rfl ?_
  refine j_iload X dL_law_777 rfl ?_
  refine j_iconst X (1) dL_law_779 (by decide) ?_
  refine j_iadd X dL_law_780 ?_
  obtain ⟨h1, hR⟩ := chkI_inv hR
  refine j_sld X hX hb hbA h1 dL_law_781 ?_
  refine j_aload_n X (i := 3) dL_law_782 rfl rfl ?_
  obtain ⟨x3, a4, c5, h2, hR⟩ := bP3_inv hR
  refine j_callSW (As := [.ref (ad L 0), .int (xs ((i + (1 : Int32))).toNatClampNeg), .ref (ad L 105)]) (rest := []) X (m_L_delayLeft hl hL hL7  h2) ml_L_198 st_yL_delayLeft in_L cd_yL_delayLeft hy_yL_delayLeft dL_law_783 ⟨(by decide), (by decide)⟩ ⟨Nat.le_trans (Nat.add_le_add_left (by decide : 1 ≤ 8) _) hcl, Nat.le_trans (Nat.add_le_add_left (by decide : 6 ≤ 64) _) hsl⟩ (Nat.le_of_ble_eq_true rfl) (fun _ h => h.elim) (fun r9 L9 f9 h9 => ?_)
  obtain ⟨h91, h92, h93⟩ := h9
  subst r9
  subst f9
  subst L9
  dsimp only [Option.toList, List.cons_append, List.nil_append, List.append]
  refine j_istore X dL_law_786 (by decide) (lvOK_s rfl okPrev_int) ?_
  dsimp only [List.set]
  refine j_aload_n X (i := 2) dL_law_788 rfl rfl ?_
  refine j_aload_n X (i := 0) dL_law_789 rfl rfl ?_
  refine j_iload X dL_law_790 rfl ?_
  refine j_iconst X (1) dL_law_792 (by decide) ?_
  refine j_iadd X dL_law_793 ?_
  obtain ⟨h6, hR⟩ := chkI_inv hR
  refine j_sld X hX hb hbA h6 dL_law_794 ?_
  obtain ⟨x8, b9, h7, hR⟩ := bP2_inv hR
  refine j_callV1 X 9 (m_X9_delayLeft hl hL  h7) ml_L_200 im_yX9_delayLeft se_yX9_delayLeft in_X9 cd_yX9_delayLeft hy_yX9_delayLeft dL_law_795 rfl (ad_mem hL (by decide)) (FW9 hL) ⟨(by decide), (by decide)⟩ ⟨Nat.le_trans (Nat.add_le_add_left (by decide : 1 ≤ 8) _) hcl, Nat.le_trans (Nat.add_le_add_left (by decide : 6 ≤ 64) _) hsl⟩ (Nat.le_of_ble_eq_true rfl) (fun _ h => h.elim) (fun r9 L9 f9 h9 => ?_)
  obtain ⟨h91, h92, h93⟩ := h9
  subst r9
  subst f9
  subst L9
  dsimp only [Option.toList, List.cons_append, List.nil_append, List.append]
  refine j_istore X dL_law_798 (by decide) (lvOK_s rfl okPrev_int) ?_
  dsimp only [List.set]
  refine j_aload_n X (i := 2) dL_law_800 rfl rfl ?_
  obtain ⟨x12, h11, hR⟩ := bT_inv hR
  refine j_callV0 X 9 (m_X9_thrown hl hL  h11) ml_L_162 im_yX9_thrown se_yX9_thrown in_X9 cd_yX9_thrown hy_yX9_thrown dL_law_801 rfl (ad_mem hL (by decide)) (FW9 hL) ⟨(by decide), (by decide)⟩ ⟨Nat.le_trans (Nat.add_le_add_left (by decide : 1 ≤ 8) _) hcl, Nat.le_trans (Nat.add_le_add_left (by decide : 6 ≤ 64) _) hsl⟩ (Nat.le_of_ble_eq_true rfl) (fun _ h => h.elim) (fun r9 L9 f9 h9 => ?_)
  obtain ⟨h91, h92, h93⟩ := h9
  subst r9
  subst f9
  subst L9
  dsimp only [Option.toList, List.cons_append, List.nil_append, List.append]
  refine j_iload X dL_law_804 rfl ?_
  refine j_icmp_eq X (tgt := 811) dL_law_806 (by decide) (fun h14 => ?_) (fun h14 => ?_)
  · replace hR := (if_pos h14).symm.trans hR
    refine j_iload X dL_law_811 rfl ?_
    refine j_if_ne X (tgt := 828) dL_law_813 (by decide) (fun h15 => ?_) (fun h15 => ?_)
    · replace hR := (if_neg h15).symm.trans hR
      refine j_goto X (tgt := 3067) dL_law_828 (by decide) ?_
      have h9 := Option.some.inj hR
      rw [← (Prod.mk.inj h9).1, ← (Prod.mk.inj (Prod.mk.inj h9).2).1, ← (Prod.mk.inj (Prod.mk.inj h9).2).2] at kk
      exact J.widen (c1 := cl + 8) (s1 := sl + 64) (by omega) (by omega) (J.sub (lvle_of (by simp only [lvle, and_self])) kk)
    · replace hR := (if_pos h15).symm.trans hR
      refine j_aload_n X (i := 3) dL_law_816 rfl rfl ?_
      refine j_iconst X (0) dL_law_817 (by decide) ?_
      refine j_lald105 X hL hL7 dL_law_818 ?_
      refine j_iload X dL_law_819 rfl ?_
      refine j_i2l X dL_law_821 ?_
      refine j_lcmp X dL_law_822 ?_
      refine j_if_eq X (tgt := 828) dL_law_823 (by decide) (fun h16 => ?_) (fun h16 => ?_)
      · replace hR := (if_pos h16).symm.trans hR
        refine j_goto X (tgt := 3067) dL_law_828 (by decide) ?_
        have h9 := Option.some.inj hR
        rw [← (Prod.mk.inj h9).1, ← (Prod.mk.inj (Prod.mk.inj h9).2).1, ← (Prod.mk.inj (Prod.mk.inj h9).2).2] at kk
        exact J.widen (c1 := cl + 8) (s1 := sl + 64) (by omega) (by omega) (J.sub (lvle_of (by simp only [lvle, and_self])) kk)
      · replace hR := (if_neg h16).symm.trans hR
        refine j_iconst X (0) dL_law_826 (by decide) ?_
        cases hR
  · replace hR := (if_neg h14).symm.trans hR
    refine j_iconst X (0) dL_law_809 (by decide) ?_
    cases hR
def f_case_11 (N Ln : Nat) (xs : Nat → Int32) (i : Int32) (a b c : Mem) : Option (Mem × Mem × Mem) := chkI (i + (1 : Int32)) Ln <| bP3 (f_L_shown (xs ((i + (1 : Int32))).toNatClampNeg) a c) fun x3 a4 c5 => chkI (i + (1 : Int32)) Ln <| bP2 (f_X9_shown N (xs ((i + (1 : Int32))).toNatClampNeg) b) fun x8 b9 => bT (f_X9_thrown  b9) fun x12 => if x12 = x3 then (if x3 = 0 then (if (lg_cmp (Int32.toInt64 (c5 0 0)) (Int32.toInt64 x8)) = 0 then (some (a4, b9, c5)) else (none)) else (some (a4, b9, c5))) else (none)
set_option maxRecDepth 100000 in
set_option maxHeartbeats 4000000 in
theorem m_case_11 (X : Cx G p l s m args meth c9 A RL cL_law 9 ret9 tb) (hl : l.stackTraces = false) (hL : LOK L) (hL7 : L.length = 107) {N Ln sb : Nat} {xs : Nat → Int32} (hX : va_X sb Ln xs s s.heap) (hb : sb < s.heap.size) (hbA : ¬ A sb) {cl sl : Nat} (hcl : cl + 8 ≤ 601024) (hsl : sl + 64 ≤ 7293034) {i : Int32} {a b c a' b' c' : Mem} (hR : f_case_11 N Ln xs i a b c = some (a', b', c')) (kk : J G p l e ({ frames := 14, cells := 601024, slots := 7293034, locals := 524 } : Room) s m args below meth c9 A Q 9 (cl + 8) (sl + 64) 3067 [some (.ref sb), some (.ref (ad L 0)), some (.ref (ad L 96)), some (.ref (ad L 105)), some (.ref (ad L 106)), some (.int i), none, none, none] [] L (FW G L a' b' c')) : J G p l e ({ frames := 14, cells := 601024, slots := 7293034, locals := 524 } : Room) s m args below meth c9 A Q 9 cl sl 831 [some (.ref sb), some (.ref (ad L 0)), some (.ref (ad L 96)), some (.ref (ad L 105)), some (.ref (ad L 106)), some (.int i), none, none, none] [] L (FW G L a b c) := by
  unfold f_case_11 at hR
  refine j_aload_n X (i := 1) dL_law_831 rfl rfl ?_
  refine j_aload_n X (i := 0) dL_law_832 rfl rfl ?_
  refine j_iload X dL_law_833 rfl ?_
  refine j_iconst X (1) dL_law_835 (by decide) ?_
  refine j_iadd X dL_law_836 ?_
  obtain ⟨h1, hR⟩ := chkI_inv hR
  refine j_sld X hX hb hbA h1 dL_law_837 ?_
  refine j_aload_n X (i := 3) dL_law_838 rfl rfl ?_
  obtain ⟨x3, a4, c5, h2, hR⟩ := bP3_inv hR
  refine j_callSW (As := [.ref (ad L 0), .int (xs ((i + (1 : Int32))).toNatClampNeg), .ref (ad L 105)]) (rest := []) X (m_L_shown hl hL hL7  h2) ml_L_201 st_yL_shown in_L cd_yL_shown hy_yL_shown dL_law_839 ⟨(by decide), (by decide)⟩ ⟨Nat.le_trans (Nat.add_le_add_left (by decide : 1 ≤ 8) _) hcl, Nat.le_trans (Nat.add_le_add_left (by decide : 6 ≤ 64) _) hsl⟩ (Nat.le_of_ble_eq_true rfl) (fun _ h => h.elim) (fun r9 L9 f9 h9 => ?_)
  obtain ⟨h91, h92, h93⟩ := h9
  subst r9
  subst f9
  subst L9
  dsimp only [Option.toList, List.cons_append, List.nil_append, List.append]
  refine j_istore X dL_law_842 (by decide) (lvOK_s rfl okPrev_int) ?_
  dsimp only [List.set]
  refine j_aload_n X (i := 2) dL_law_844 rfl rfl ?_
  refine j_aload_n X (i := 0) dL_law_845 rfl rfl ?_
  refine j_iload X dL_law_846 rfl ?_
  refine j_iconst X (1) dL_law_848 (by decide) ?_
  refine j_iadd X dL_law_849 ?_
  obtain ⟨h6, hR⟩ := chkI_inv hR
  refine j_sld X hX hb hbA h6 dL_law_850 ?_
  obtain ⟨x8, b9, h7, hR⟩ := bP2_inv hR
  refine j_callV1 X 9 (m_X9_shown hl hL  h7) ml_L_203 im_yX9_shown se_yX9_shown in_X9 cd_yX9_shown hy_yX9_shown dL_law_851 rfl (ad_mem hL (by decide)) (FW9 hL) ⟨(by decide), (by decide)⟩ ⟨Nat.le_trans (Nat.add_le_add_left (by decide : 1 ≤ 8) _) hcl, Nat.le_trans (Nat.add_le_add_left (by decide : 6 ≤ 64) _) hsl⟩ (Nat.le_of_ble_eq_true rfl) (fun _ h => h.elim) (fun r9 L9 f9 h9 => ?_)
  obtain ⟨h91, h92, h93⟩ := h9
  subst r9
  subst f9
  subst L9
  dsimp only [Option.toList, List.cons_append, List.nil_append, List.append]
  refine j_istore X dL_law_854 (by decide) (lvOK_s rfl okPrev_int) ?_
  dsimp only [List.set]
  refine j_aload_n X (i := 2) dL_law_856 rfl rfl ?_
  obtain ⟨x12, h11, hR⟩ := bT_inv hR
  refine j_callV0 X 9 (m_X9_thrown hl hL  h11) ml_L_162 im_yX9_thrown se_yX9_thrown in_X9 cd_yX9_thrown hy_yX9_thrown dL_law_857 rfl (ad_mem hL (by decide)) (FW9 hL) ⟨(by decide), (by decide)⟩ ⟨Nat.le_trans (Nat.add_le_add_left (by decide : 1 ≤ 8) _) hcl, Nat.le_trans (Nat.add_le_add_left (by decide : 6 ≤ 64) _) hsl⟩ (Nat.le_of_ble_eq_true rfl) (fun _ h => h.elim) (fun r9 L9 f9 h9 => ?_)
  obtain ⟨h91, h92, h93⟩ := h9
  subst r9
  subst f9
  subst L9
  dsimp only [Option.toList, List.cons_append, List.nil_append, List.append]
  refine j_iload X dL_law_860 rfl ?_
  refine j_icmp_eq X (tgt := 867) dL_law_862 (by decide) (fun h14 => ?_) (fun h14 => ?_)
  · replace hR := (if_pos h14).symm.trans hR
    refine j_iload X dL_law_867 rfl ?_
    refine j_if_ne X (tgt := 884) dL_law_869 (by decide) (fun h15 => ?_) (fun h15 => ?_)
    · replace hR := (if_neg h15).symm.trans hR
      refine j_goto X (tgt := 3067) dL_law_884 (by decide) ?_
      have h9 := Option.some.inj hR
      rw [← (Prod.mk.inj h9).1, ← (Prod.mk.inj (Prod.mk.inj h9).2).1, ← (Prod.mk.inj (Prod.mk.inj h9).2).2] at kk
      exact J.widen (c1 := cl + 8) (s1 := sl + 64) (by omega) (by omega) (J.sub (lvle_of (by simp only [lvle, and_self])) kk)
    · replace hR := (if_pos h15).symm.trans hR
      refine j_aload_n X (i := 3) dL_law_872 rfl rfl ?_
      refine j_iconst X (0) dL_law_873 (by decide) ?_
      refine j_lald105 X hL hL7 dL_law_874 ?_
      refine j_iload X dL_law_875 rfl ?_
      refine j_i2l X dL_law_877 ?_
      refine j_lcmp X dL_law_878 ?_
      refine j_if_eq X (tgt := 884) dL_law_879 (by decide) (fun h16 => ?_) (fun h16 => ?_)
      · replace hR := (if_pos h16).symm.trans hR
        refine j_goto X (tgt := 3067) dL_law_884 (by decide) ?_
        have h9 := Option.some.inj hR
        rw [← (Prod.mk.inj h9).1, ← (Prod.mk.inj (Prod.mk.inj h9).2).1, ← (Prod.mk.inj (Prod.mk.inj h9).2).2] at kk
        exact J.widen (c1 := cl + 8) (s1 := sl + 64) (by omega) (by omega) (J.sub (lvle_of (by simp only [lvle, and_self])) kk)
      · replace hR := (if_neg h16).symm.trans hR
        refine j_iconst X (0) dL_law_882 (by decide) ?_
        cases hR
  · replace hR := (if_neg h14).symm.trans hR
    refine j_iconst X (0) dL_law_865 (by decide) ?_
    cases hR
def f_case_12 (N Ln : Nat) (xs : Nat → Int32) (i : Int32) (a b c : Mem) : Option (Mem × Mem × Mem) := chkI (i + (1 : Int32)) Ln <| bP3 (f_L_pace N (xs ((i + (1 : Int32))).toNatClampNeg) a c) fun x3 a4 c5 => chkI (i + (1 : Int32)) Ln <| bP2 (f_X9_pace N (xs ((i + (1 : Int32))).toNatClampNeg) b) fun x8 b9 => bT (f_X9_thrown  b9) fun x12 => if x12 = x3 then (if x3 = 0 then (if (lg_cmp (Int32.toInt64 (c5 0 0)) (Int32.toInt64 x8)) = 0 then (some (a4, b9, c5)) else (none)) else (some (a4, b9, c5))) else (none)
set_option maxRecDepth 100000 in
set_option maxHeartbeats 4000000 in
theorem m_case_12 (X : Cx G p l s m args meth c9 A RL cL_law 9 ret9 tb) (hl : l.stackTraces = false) (hL : LOK L) (hL7 : L.length = 107) {N Ln sb : Nat} {xs : Nat → Int32} (hX : va_X sb Ln xs s s.heap) (hb : sb < s.heap.size) (hbA : ¬ A sb) {cl sl : Nat} (hcl : cl + 8 ≤ 601024) (hsl : sl + 64 ≤ 7293034) {i : Int32} {a b c a' b' c' : Mem} (hR : f_case_12 N Ln xs i a b c = some (a', b', c')) (kk : J G p l e ({ frames := 14, cells := 601024, slots := 7293034, locals := 524 } : Room) s m args below meth c9 A Q 9 (cl + 8) (sl + 64) 3067 [some (.ref sb), some (.ref (ad L 0)), some (.ref (ad L 96)), some (.ref (ad L 105)), some (.ref (ad L 106)), some (.int i), none, none, none] [] L (FW G L a' b' c')) : J G p l e ({ frames := 14, cells := 601024, slots := 7293034, locals := 524 } : Room) s m args below meth c9 A Q 9 cl sl 887 [some (.ref sb), some (.ref (ad L 0)), some (.ref (ad L 96)), some (.ref (ad L 105)), some (.ref (ad L 106)), some (.int i), none, none, none] [] L (FW G L a b c) := by
  unfold f_case_12 at hR
  refine j_aload_n X (i := 1) dL_law_887 rfl rfl ?_
  refine j_aload_n X (i := 0) dL_law_888 rfl rfl ?_
  refine j_iload X dL_law_889 rfl ?_
  refine j_iconst X (1) dL_law_891 (by decide) ?_
  refine j_iadd X dL_law_892 ?_
  obtain ⟨h1, hR⟩ := chkI_inv hR
  refine j_sld X hX hb hbA h1 dL_law_893 ?_
  refine j_aload_n X (i := 3) dL_law_894 rfl rfl ?_
  obtain ⟨x3, a4, c5, h2, hR⟩ := bP3_inv hR
  refine j_callSW (As := [.ref (ad L 0), .int (xs ((i + (1 : Int32))).toNatClampNeg), .ref (ad L 105)]) (rest := []) X (m_L_pace hl hL hL7  h2) ml_L_204 st_yL_pace in_L cd_yL_pace hy_yL_pace dL_law_895 ⟨(by decide), (by decide)⟩ ⟨Nat.le_trans (Nat.add_le_add_left (by decide : 1 ≤ 8) _) hcl, Nat.le_trans (Nat.add_le_add_left (by decide : 6 ≤ 64) _) hsl⟩ (Nat.le_of_ble_eq_true rfl) (fun _ h => h.elim) (fun r9 L9 f9 h9 => ?_)
  obtain ⟨h91, h92, h93⟩ := h9
  subst r9
  subst f9
  subst L9
  dsimp only [Option.toList, List.cons_append, List.nil_append, List.append]
  refine j_istore X dL_law_898 (by decide) (lvOK_s rfl okPrev_int) ?_
  dsimp only [List.set]
  refine j_aload_n X (i := 2) dL_law_900 rfl rfl ?_
  refine j_aload_n X (i := 0) dL_law_901 rfl rfl ?_
  refine j_iload X dL_law_902 rfl ?_
  refine j_iconst X (1) dL_law_904 (by decide) ?_
  refine j_iadd X dL_law_905 ?_
  obtain ⟨h6, hR⟩ := chkI_inv hR
  refine j_sld X hX hb hbA h6 dL_law_906 ?_
  obtain ⟨x8, b9, h7, hR⟩ := bP2_inv hR
  refine j_callV1 X 9 (m_X9_pace hl hL  h7) ml_L_206 im_yX9_pace se_yX9_pace in_X9 cd_yX9_pace hy_yX9_pace dL_law_907 rfl (ad_mem hL (by decide)) (FW9 hL) ⟨(by decide), (by decide)⟩ ⟨Nat.le_trans (Nat.add_le_add_left (by decide : 1 ≤ 8) _) hcl, Nat.le_trans (Nat.add_le_add_left (by decide : 6 ≤ 64) _) hsl⟩ (Nat.le_of_ble_eq_true rfl) (fun _ h => h.elim) (fun r9 L9 f9 h9 => ?_)
  obtain ⟨h91, h92, h93⟩ := h9
  subst r9
  subst f9
  subst L9
  dsimp only [Option.toList, List.cons_append, List.nil_append, List.append]
  refine j_istore X dL_law_910 (by decide) (lvOK_s rfl okPrev_int) ?_
  dsimp only [List.set]
  refine j_aload_n X (i := 2) dL_law_912 rfl rfl ?_
  obtain ⟨x12, h11, hR⟩ := bT_inv hR
  refine j_callV0 X 9 (m_X9_thrown hl hL  h11) ml_L_162 im_yX9_thrown se_yX9_thrown in_X9 cd_yX9_thrown hy_yX9_thrown dL_law_913 rfl (ad_mem hL (by decide)) (FW9 hL) ⟨(by decide), (by decide)⟩ ⟨Nat.le_trans (Nat.add_le_add_left (by decide : 1 ≤ 8) _) hcl, Nat.le_trans (Nat.add_le_add_left (by decide : 6 ≤ 64) _) hsl⟩ (Nat.le_of_ble_eq_true rfl) (fun _ h => h.elim) (fun r9 L9 f9 h9 => ?_)
  obtain ⟨h91, h92, h93⟩ := h9
  subst r9
  subst f9
  subst L9
  dsimp only [Option.toList, List.cons_append, List.nil_append, List.append]
  refine j_iload X dL_law_916 rfl ?_
  refine j_icmp_eq X (tgt := 923) dL_law_918 (by decide) (fun h14 => ?_) (fun h14 => ?_)
  · replace hR := (if_pos h14).symm.trans hR
    refine j_iload X dL_law_923 rfl ?_
    refine j_if_ne X (tgt := 940) dL_law_925 (by decide) (fun h15 => ?_) (fun h15 => ?_)
    · replace hR := (if_neg h15).symm.trans hR
      refine j_goto X (tgt := 3067) dL_law_940 (by decide) ?_
      have h9 := Option.some.inj hR
      rw [← (Prod.mk.inj h9).1, ← (Prod.mk.inj (Prod.mk.inj h9).2).1, ← (Prod.mk.inj (Prod.mk.inj h9).2).2] at kk
      exact J.widen (c1 := cl + 8) (s1 := sl + 64) (by omega) (by omega) (J.sub (lvle_of (by simp only [lvle, and_self])) kk)
    · replace hR := (if_pos h15).symm.trans hR
      refine j_aload_n X (i := 3) dL_law_928 rfl rfl ?_
      refine j_iconst X (0) dL_law_929 (by decide) ?_
      refine j_lald105 X hL hL7 dL_law_930 ?_
      refine j_iload X dL_law_931 rfl ?_
      refine j_i2l X dL_law_933 ?_
      refine j_lcmp X dL_law_934 ?_
      refine j_if_eq X (tgt := 940) dL_law_935 (by decide) (fun h16 => ?_) (fun h16 => ?_)
      · replace hR := (if_pos h16).symm.trans hR
        refine j_goto X (tgt := 3067) dL_law_940 (by decide) ?_
        have h9 := Option.some.inj hR
        rw [← (Prod.mk.inj h9).1, ← (Prod.mk.inj (Prod.mk.inj h9).2).1, ← (Prod.mk.inj (Prod.mk.inj h9).2).2] at kk
        exact J.widen (c1 := cl + 8) (s1 := sl + 64) (by omega) (by omega) (J.sub (lvle_of (by simp only [lvle, and_self])) kk)
      · replace hR := (if_neg h16).symm.trans hR
        refine j_iconst X (0) dL_law_938 (by decide) ?_
        cases hR
  · replace hR := (if_neg h14).symm.trans hR
    refine j_iconst X (0) dL_law_921 (by decide) ?_
    cases hR
def f_case_13 (N Ln : Nat) (xs : Nat → Int32) (i : Int32) (a b c : Mem) : Option (Mem × Mem × Mem) := chkI (i + (1 : Int32)) Ln <| chkI (i + (2 : Int32)) Ln <| bP3 (f_L_lasts N (xs ((i + (1 : Int32))).toNatClampNeg) (xs ((i + (2 : Int32))).toNatClampNeg) a c) fun x4 a5 c6 => chkI (i + (1 : Int32)) Ln <| chkI (i + (2 : Int32)) Ln <| bP2 (f_X9_lasts N (xs ((i + (1 : Int32))).toNatClampNeg) (xs ((i + (2 : Int32))).toNatClampNeg) b) fun x10 b11 => bT (f_X9_thrown  b11) fun x14 => if x14 = x4 then (if x4 = 0 then (if (lg_cmp (Int32.toInt64 (c6 0 0)) (Int32.toInt64 x10)) = 0 then (some (a5, b11, c6)) else (none)) else (some (a5, b11, c6))) else (none)
set_option maxRecDepth 100000 in
set_option maxHeartbeats 4000000 in
theorem m_case_13 (X : Cx G p l s m args meth c9 A RL cL_law 9 ret9 tb) (hl : l.stackTraces = false) (hL : LOK L) (hL7 : L.length = 107) {N Ln sb : Nat} {xs : Nat → Int32} (hX : va_X sb Ln xs s s.heap) (hb : sb < s.heap.size) (hbA : ¬ A sb) {cl sl : Nat} (hcl : cl + 8 ≤ 601024) (hsl : sl + 64 ≤ 7293034) {i : Int32} {a b c a' b' c' : Mem} (hR : f_case_13 N Ln xs i a b c = some (a', b', c')) (kk : J G p l e ({ frames := 14, cells := 601024, slots := 7293034, locals := 524 } : Room) s m args below meth c9 A Q 9 (cl + 8) (sl + 64) 3067 [some (.ref sb), some (.ref (ad L 0)), some (.ref (ad L 96)), some (.ref (ad L 105)), some (.ref (ad L 106)), some (.int i), none, none, none] [] L (FW G L a' b' c')) : J G p l e ({ frames := 14, cells := 601024, slots := 7293034, locals := 524 } : Room) s m args below meth c9 A Q 9 cl sl 943 [some (.ref sb), some (.ref (ad L 0)), some (.ref (ad L 96)), some (.ref (ad L 105)), some (.ref (ad L 106)), some (.int i), none, none, none] [] L (FW G L a b c) := by
  unfold f_case_13 at hR
  refine j_aload_n X (i := 1) dL_law_943 rfl rfl ?_
  refine j_aload_n X (i := 0) dL_law_944 rfl rfl ?_
  refine j_iload X dL_law_945 rfl ?_
  refine j_iconst X (1) dL_law_947 (by decide) ?_
  refine j_iadd X dL_law_948 ?_
  obtain ⟨h1, hR⟩ := chkI_inv hR
  refine j_sld X hX hb hbA h1 dL_law_949 ?_
  refine j_aload_n X (i := 0) dL_law_950 rfl rfl ?_
  refine j_iload X dL_law_951 rfl ?_
  refine j_iconst X (2) dL_law_953 (by decide) ?_
  refine j_iadd X dL_law_954 ?_
  obtain ⟨h2, hR⟩ := chkI_inv hR
  refine j_sld X hX hb hbA h2 dL_law_955 ?_
  refine j_aload_n X (i := 3) dL_law_956 rfl rfl ?_
  obtain ⟨x4, a5, c6, h3, hR⟩ := bP3_inv hR
  refine j_callSW (As := [.ref (ad L 0), .int (xs ((i + (1 : Int32))).toNatClampNeg), .int (xs ((i + (2 : Int32))).toNatClampNeg), .ref (ad L 105)]) (rest := []) X (m_L_lasts hl hL hL7  h3) ml_L_207 st_yL_lasts in_L cd_yL_lasts hy_yL_lasts dL_law_957 ⟨(by decide), (by decide)⟩ ⟨Nat.le_trans (Nat.add_le_add_left (by decide : 2 ≤ 8) _) hcl, Nat.le_trans (Nat.add_le_add_left (by decide : 12 ≤ 64) _) hsl⟩ (Nat.le_of_ble_eq_true rfl) (fun _ h => h.elim) (fun r9 L9 f9 h9 => ?_)
  obtain ⟨h91, h92, h93⟩ := h9
  subst r9
  subst f9
  subst L9
  dsimp only [Option.toList, List.cons_append, List.nil_append, List.append]
  refine j_istore X dL_law_960 (by decide) (lvOK_s rfl okPrev_int) ?_
  dsimp only [List.set]
  refine j_aload_n X (i := 2) dL_law_962 rfl rfl ?_
  refine j_aload_n X (i := 0) dL_law_963 rfl rfl ?_
  refine j_iload X dL_law_964 rfl ?_
  refine j_iconst X (1) dL_law_966 (by decide) ?_
  refine j_iadd X dL_law_967 ?_
  obtain ⟨h7, hR⟩ := chkI_inv hR
  refine j_sld X hX hb hbA h7 dL_law_968 ?_
  refine j_aload_n X (i := 0) dL_law_969 rfl rfl ?_
  refine j_iload X dL_law_970 rfl ?_
  refine j_iconst X (2) dL_law_972 (by decide) ?_
  refine j_iadd X dL_law_973 ?_
  obtain ⟨h8, hR⟩ := chkI_inv hR
  refine j_sld X hX hb hbA h8 dL_law_974 ?_
  obtain ⟨x10, b11, h9, hR⟩ := bP2_inv hR
  refine j_callV2 X 9 (m_X9_lasts hl hL  h9) ml_L_209 im_yX9_lasts se_yX9_lasts in_X9 cd_yX9_lasts hy_yX9_lasts dL_law_975 rfl (ad_mem hL (by decide)) (FW9 hL) ⟨(by decide), (by decide)⟩ ⟨Nat.le_trans (Nat.add_le_add_left (by decide : 2 ≤ 8) _) hcl, Nat.le_trans (Nat.add_le_add_left (by decide : 12 ≤ 64) _) hsl⟩ (Nat.le_of_ble_eq_true rfl) (fun _ h => h.elim) (fun r9 L9 f9 h9 => ?_)
  obtain ⟨h91, h92, h93⟩ := h9
  subst r9
  subst f9
  subst L9
  dsimp only [Option.toList, List.cons_append, List.nil_append, List.append]
  refine j_istore X dL_law_978 (by decide) (lvOK_s rfl okPrev_int) ?_
  dsimp only [List.set]
  refine j_aload_n X (i := 2) dL_law_980 rfl rfl ?_
  obtain ⟨x14, h13, hR⟩ := bT_inv hR
  refine j_callV0 X 9 (m_X9_thrown hl hL  h13) ml_L_162 im_yX9_thrown se_yX9_thrown in_X9 cd_yX9_thrown hy_yX9_thrown dL_law_981 rfl (ad_mem hL (by decide)) (FW9 hL) ⟨(by decide), (by decide)⟩ ⟨Nat.le_trans (Nat.add_le_add_left (by decide : 2 ≤ 8) _) hcl, Nat.le_trans (Nat.add_le_add_left (by decide : 12 ≤ 64) _) hsl⟩ (Nat.le_of_ble_eq_true rfl) (fun _ h => h.elim) (fun r9 L9 f9 h9 => ?_)
  obtain ⟨h91, h92, h93⟩ := h9
  subst r9
  subst f9
  subst L9
  dsimp only [Option.toList, List.cons_append, List.nil_append, List.append]
  refine j_iload X dL_law_984 rfl ?_
  refine j_icmp_eq X (tgt := 991) dL_law_986 (by decide) (fun h16 => ?_) (fun h16 => ?_)
  · replace hR := (if_pos h16).symm.trans hR
    refine j_iload X dL_law_991 rfl ?_
    refine j_if_ne X (tgt := 1008) dL_law_993 (by decide) (fun h17 => ?_) (fun h17 => ?_)
    · replace hR := (if_neg h17).symm.trans hR
      refine j_goto X (tgt := 3067) dL_law_1008 (by decide) ?_
      have h9 := Option.some.inj hR
      rw [← (Prod.mk.inj h9).1, ← (Prod.mk.inj (Prod.mk.inj h9).2).1, ← (Prod.mk.inj (Prod.mk.inj h9).2).2] at kk
      exact J.widen (c1 := cl + 8) (s1 := sl + 64) (by omega) (by omega) (J.sub (lvle_of (by simp only [lvle, and_self])) kk)
    · replace hR := (if_pos h17).symm.trans hR
      refine j_aload_n X (i := 3) dL_law_996 rfl rfl ?_
      refine j_iconst X (0) dL_law_997 (by decide) ?_
      refine j_lald105 X hL hL7 dL_law_998 ?_
      refine j_iload X dL_law_999 rfl ?_
      refine j_i2l X dL_law_1001 ?_
      refine j_lcmp X dL_law_1002 ?_
      refine j_if_eq X (tgt := 1008) dL_law_1003 (by decide) (fun h18 => ?_) (fun h18 => ?_)
      · replace hR := (if_pos h18).symm.trans hR
        refine j_goto X (tgt := 3067) dL_law_1008 (by decide) ?_
        have h9 := Option.some.inj hR
        rw [← (Prod.mk.inj h9).1, ← (Prod.mk.inj (Prod.mk.inj h9).2).1, ← (Prod.mk.inj (Prod.mk.inj h9).2).2] at kk
        exact J.widen (c1 := cl + 8) (s1 := sl + 64) (by omega) (by omega) (J.sub (lvle_of (by simp only [lvle, and_self])) kk)
      · replace hR := (if_neg h18).symm.trans hR
        refine j_iconst X (0) dL_law_1006 (by decide) ?_
        cases hR
  · replace hR := (if_neg h16).symm.trans hR
    refine j_iconst X (0) dL_law_989 (by decide) ?_
    cases hR
def f_case_14 (N Ln : Nat) (xs : Nat → Int32) (i : Int32) (a b c : Mem) : Option (Mem × Mem × Mem) := bT (f_X8_ahead  a) fun x2 => bP2 (f_X9_ahead N  b) fun x5 b6 => if x2 = x5 then (some (a, b6, c)) else (none)
set_option maxRecDepth 100000 in
set_option maxHeartbeats 4000000 in
theorem m_case_14 (X : Cx G p l s m args meth c9 A RL cL_law 9 ret9 tb) (hl : l.stackTraces = false) (hL : LOK L) (hL7 : L.length = 107) {N Ln sb : Nat} {xs : Nat → Int32} (hX : va_X sb Ln xs s s.heap) (hb : sb < s.heap.size) (hbA : ¬ A sb) {cl sl : Nat} (hcl : cl + 8 ≤ 601024) (hsl : sl + 64 ≤ 7293034) {i : Int32} {a b c a' b' c' : Mem} (hR : f_case_14 N Ln xs i a b c = some (a', b', c')) (kk : J G p l e ({ frames := 14, cells := 601024, slots := 7293034, locals := 524 } : Room) s m args below meth c9 A Q 9 (cl + 8) (sl + 64) 3067 [some (.ref sb), some (.ref (ad L 0)), some (.ref (ad L 96)), some (.ref (ad L 105)), some (.ref (ad L 106)), some (.int i), none, none, none] [] L (FW G L a' b' c')) : J G p l e ({ frames := 14, cells := 601024, slots := 7293034, locals := 524 } : Room) s m args below meth c9 A Q 9 cl sl 1011 [some (.ref sb), some (.ref (ad L 0)), some (.ref (ad L 96)), some (.ref (ad L 105)), some (.ref (ad L 106)), some (.int i), none, none, none] [] L (FW G L a b c) := by
  unfold f_case_14 at hR
  refine j_aload_n X (i := 1) dL_law_1011 rfl rfl ?_
  obtain ⟨x2, h1, hR⟩ := bT_inv hR
  refine j_callV0 X 8 (m_X8_ahead hl hL  h1) ml_L_210 im_yX8_ahead se_yX8_ahead in_X8 cd_yX8_ahead hy_yX8_ahead dL_law_1012 rfl (inL hL t_0 (by decide)) (FW8 hL t_0) ⟨(by decide), (by decide)⟩ ⟨Nat.le_trans (Nat.add_le_add_left (by decide : 0 ≤ 8) _) hcl, Nat.le_trans (Nat.add_le_add_left (by decide : 0 ≤ 64) _) hsl⟩ (Nat.le_of_ble_eq_true rfl) (fun _ h => h.elim) (fun r9 L9 f9 h9 => ?_)
  obtain ⟨h91, h92, h93⟩ := h9
  subst r9
  subst f9
  subst L9
  dsimp only [Option.toList, List.cons_append, List.nil_append, List.append]
  refine j_aload_n X (i := 2) dL_law_1015 rfl rfl ?_
  obtain ⟨x5, b6, h4, hR⟩ := bP2_inv hR
  refine j_callV0 X 9 (m_X9_ahead hl hL  h4) ml_L_213 im_yX9_ahead se_yX9_ahead in_X9 cd_yX9_ahead hy_yX9_ahead dL_law_1016 rfl (ad_mem hL (by decide)) (FW9 hL) ⟨(by decide), (by decide)⟩ ⟨Nat.le_trans (Nat.add_le_add_left (by decide : 0 ≤ 8) _) hcl, Nat.le_trans (Nat.add_le_add_left (by decide : 0 ≤ 64) _) hsl⟩ (Nat.le_of_ble_eq_true rfl) (fun _ h => h.elim) (fun r9 L9 f9 h9 => ?_)
  obtain ⟨h91, h92, h93⟩ := h9
  subst r9
  subst f9
  subst L9
  dsimp only [Option.toList, List.cons_append, List.nil_append, List.append]
  refine j_icmp_eq X (tgt := 3067) dL_law_1019 (by decide) (fun h8 => ?_) (fun h8 => ?_)
  · replace hR := (if_pos h8).symm.trans hR
    have h9 := Option.some.inj hR
    rw [← (Prod.mk.inj h9).1, ← (Prod.mk.inj (Prod.mk.inj h9).2).1, ← (Prod.mk.inj (Prod.mk.inj h9).2).2] at kk
    exact J.widen (c1 := cl + 8) (s1 := sl + 64) (by omega) (by omega) (J.sub (lvle_of (by simp only [lvle, and_self])) kk)
  · replace hR := (if_neg h8).symm.trans hR
    refine j_iconst X (0) dL_law_1022 (by decide) ?_
    cases hR
def f_case_15 (N Ln : Nat) (xs : Nat → Int32) (i : Int32) (a b c : Mem) : Option (Mem × Mem × Mem) := chkI (i + (1 : Int32)) Ln <| bP3 (f_L_longest N (xs ((i + (1 : Int32))).toNatClampNeg) a c) fun x3 a4 c5 => chkI (i + (1 : Int32)) Ln <| bP2 (f_X9_longest N (xs ((i + (1 : Int32))).toNatClampNeg) b) fun x8 b9 => bT (f_X9_thrown  b9) fun x12 => if x12 = x3 then (if x3 = 0 then (if (lg_cmp (Int32.toInt64 (c5 0 0)) (Int32.toInt64 x8)) = 0 then (some (a4, b9, c5)) else (none)) else (some (a4, b9, c5))) else (none)
set_option maxRecDepth 100000 in
set_option maxHeartbeats 4000000 in
theorem m_case_15 (X : Cx G p l s m args meth c9 A RL cL_law 9 ret9 tb) (hl : l.stackTraces = false) (hL : LOK L) (hL7 : L.length = 107) {N Ln sb : Nat} {xs : Nat → Int32} (hX : va_X sb Ln xs s s.heap) (hb : sb < s.heap.size) (hbA : ¬ A sb) {cl sl : Nat} (hcl : cl + 8 ≤ 601024) (hsl : sl + 64 ≤ 7293034) {i : Int32} {a b c a' b' c' : Mem} (hR : f_case_15 N Ln xs i a b c = some (a', b', c')) (kk : J G p l e ({ frames := 14, cells := 601024, slots := 7293034, locals := 524 } : Room) s m args below meth c9 A Q 9 (cl + 8) (sl + 64) 3067 [some (.ref sb), some (.ref (ad L 0)), some (.ref (ad L 96)), some (.ref (ad L 105)), some (.ref (ad L 106)), some (.int i), none, none, none] [] L (FW G L a' b' c')) : J G p l e ({ frames := 14, cells := 601024, slots := 7293034, locals := 524 } : Room) s m args below meth c9 A Q 9 cl sl 1024 [some (.ref sb), some (.ref (ad L 0)), some (.ref (ad L 96)), some (.ref (ad L 105)), some (.ref (ad L 106)), some (.int i), none, none, none] [] L (FW G L a b c) := by
  unfold f_case_15 at hR
  refine j_aload_n X (i := 1) dL_law_1024 rfl rfl ?_
  refine j_aload_n X (i := 0) dL_law_1025 rfl rfl ?_
  refine j_iload X dL_law_1026 rfl ?_
  refine j_iconst X (1) dL_law_1028 (by decide) ?_
  refine j_iadd X dL_law_1029 ?_
  obtain ⟨h1, hR⟩ := chkI_inv hR
  refine j_sld X hX hb hbA h1 dL_law_1030 ?_
  refine j_aload_n X (i := 3) dL_law_1031 rfl rfl ?_
  obtain ⟨x3, a4, c5, h2, hR⟩ := bP3_inv hR
  refine j_callSW (As := [.ref (ad L 0), .int (xs ((i + (1 : Int32))).toNatClampNeg), .ref (ad L 105)]) (rest := []) X (m_L_longest hl hL hL7  h2) ml_L_214 st_yL_longest in_L cd_yL_longest hy_yL_longest dL_law_1032 ⟨(by decide), (by decide)⟩ ⟨Nat.le_trans (Nat.add_le_add_left (by decide : 1 ≤ 8) _) hcl, Nat.le_trans (Nat.add_le_add_left (by decide : 6 ≤ 64) _) hsl⟩ (Nat.le_of_ble_eq_true rfl) (fun _ h => h.elim) (fun r9 L9 f9 h9 => ?_)
  obtain ⟨h91, h92, h93⟩ := h9
  subst r9
  subst f9
  subst L9
  dsimp only [Option.toList, List.cons_append, List.nil_append, List.append]
  refine j_istore X dL_law_1035 (by decide) (lvOK_s rfl okPrev_int) ?_
  dsimp only [List.set]
  refine j_aload_n X (i := 2) dL_law_1037 rfl rfl ?_
  refine j_aload_n X (i := 0) dL_law_1038 rfl rfl ?_
  refine j_iload X dL_law_1039 rfl ?_
  refine j_iconst X (1) dL_law_1041 (by decide) ?_
  refine j_iadd X dL_law_1042 ?_
  obtain ⟨h6, hR⟩ := chkI_inv hR
  refine j_sld X hX hb hbA h6 dL_law_1043 ?_
  obtain ⟨x8, b9, h7, hR⟩ := bP2_inv hR
  refine j_callV1 X 9 (m_X9_longest hl hL  h7) ml_L_216 im_yX9_longest se_yX9_longest in_X9 cd_yX9_longest hy_yX9_longest dL_law_1044 rfl (ad_mem hL (by decide)) (FW9 hL) ⟨(by decide), (by decide)⟩ ⟨Nat.le_trans (Nat.add_le_add_left (by decide : 1 ≤ 8) _) hcl, Nat.le_trans (Nat.add_le_add_left (by decide : 6 ≤ 64) _) hsl⟩ (Nat.le_of_ble_eq_true rfl) (fun _ h => h.elim) (fun r9 L9 f9 h9 => ?_)
  obtain ⟨h91, h92, h93⟩ := h9
  subst r9
  subst f9
  subst L9
  dsimp only [Option.toList, List.cons_append, List.nil_append, List.append]
  refine j_istore X dL_law_1047 (by decide) (lvOK_s rfl okPrev_int) ?_
  dsimp only [List.set]
  refine j_aload_n X (i := 2) dL_law_1049 rfl rfl ?_
  obtain ⟨x12, h11, hR⟩ := bT_inv hR
  refine j_callV0 X 9 (m_X9_thrown hl hL  h11) ml_L_162 im_yX9_thrown se_yX9_thrown in_X9 cd_yX9_thrown hy_yX9_thrown dL_law_1050 rfl (ad_mem hL (by decide)) (FW9 hL) ⟨(by decide), (by decide)⟩ ⟨Nat.le_trans (Nat.add_le_add_left (by decide : 1 ≤ 8) _) hcl, Nat.le_trans (Nat.add_le_add_left (by decide : 6 ≤ 64) _) hsl⟩ (Nat.le_of_ble_eq_true rfl) (fun _ h => h.elim) (fun r9 L9 f9 h9 => ?_)
  obtain ⟨h91, h92, h93⟩ := h9
  subst r9
  subst f9
  subst L9
  dsimp only [Option.toList, List.cons_append, List.nil_append, List.append]
  refine j_iload X dL_law_1053 rfl ?_
  refine j_icmp_eq X (tgt := 1060) dL_law_1055 (by decide) (fun h14 => ?_) (fun h14 => ?_)
  · replace hR := (if_pos h14).symm.trans hR
    refine j_iload X dL_law_1060 rfl ?_
    refine j_if_ne X (tgt := 1077) dL_law_1062 (by decide) (fun h15 => ?_) (fun h15 => ?_)
    · replace hR := (if_neg h15).symm.trans hR
      refine j_goto X (tgt := 3067) dL_law_1077 (by decide) ?_
      have h9 := Option.some.inj hR
      rw [← (Prod.mk.inj h9).1, ← (Prod.mk.inj (Prod.mk.inj h9).2).1, ← (Prod.mk.inj (Prod.mk.inj h9).2).2] at kk
      exact J.widen (c1 := cl + 8) (s1 := sl + 64) (by omega) (by omega) (J.sub (lvle_of (by simp only [lvle, and_self])) kk)
    · replace hR := (if_pos h15).symm.trans hR
      refine j_aload_n X (i := 3) dL_law_1065 rfl rfl ?_
      refine j_iconst X (0) dL_law_1066 (by decide) ?_
      refine j_lald105 X hL hL7 dL_law_1067 ?_
      refine j_iload X dL_law_1068 rfl ?_
      refine j_i2l X dL_law_1070 ?_
      refine j_lcmp X dL_law_1071 ?_
      refine j_if_eq X (tgt := 1077) dL_law_1072 (by decide) (fun h16 => ?_) (fun h16 => ?_)
      · replace hR := (if_pos h16).symm.trans hR
        refine j_goto X (tgt := 3067) dL_law_1077 (by decide) ?_
        have h9 := Option.some.inj hR
        rw [← (Prod.mk.inj h9).1, ← (Prod.mk.inj (Prod.mk.inj h9).2).1, ← (Prod.mk.inj (Prod.mk.inj h9).2).2] at kk
        exact J.widen (c1 := cl + 8) (s1 := sl + 64) (by omega) (by omega) (J.sub (lvle_of (by simp only [lvle, and_self])) kk)
      · replace hR := (if_neg h16).symm.trans hR
        refine j_iconst X (0) dL_law_1075 (by decide) ?_
        cases hR
  · replace hR := (if_neg h14).symm.trans hR
    refine j_iconst X (0) dL_law_1058 (by decide) ?_
    cases hR
def f_case_16 (N Ln : Nat) (xs : Nat → Int32) (i : Int32) (a b c : Mem) : Option (Mem × Mem × Mem) := chkI (i + (1 : Int32)) Ln <| bP3 (f_L_meanThink N (xs ((i + (1 : Int32))).toNatClampNeg) a c) fun x3 a4 c5 => chkI (i + (1 : Int32)) Ln <| bP2 (f_X9_meanThink N (xs ((i + (1 : Int32))).toNatClampNeg) b) fun x8 b9 => bT (f_X9_thrown  b9) fun x12 => if x12 = x3 then (if x3 = 0 then (if (Op.cmpValue (FP.dcmp (dbl (c5 1 0) (c5 1 1)) x8) .l) = 0 then (some (a4, b9, c5)) else (if (Op.cmpValue (FP.dcmp (dbl (c5 1 0) (c5 1 1)) (dbl (c5 1 0) (c5 1 1))) .l) = 0 then (none) else (if (Op.cmpValue (FP.dcmp x8 x8) .l) = 0 then (none) else (some (a4, b9, c5))))) else (some (a4, b9, c5))) else (none)
set_option maxRecDepth 100000 in
set_option maxHeartbeats 4000000 in
theorem m_case_16 (X : Cx G p l s m args meth c9 A RL cL_law 9 ret9 tb) (hl : l.stackTraces = false) (hL : LOK L) (hL7 : L.length = 107) {N Ln sb : Nat} {xs : Nat → Int32} (hX : va_X sb Ln xs s s.heap) (hb : sb < s.heap.size) (hbA : ¬ A sb) {cl sl : Nat} (hcl : cl + 8 ≤ 601024) (hsl : sl + 64 ≤ 7293034) {i : Int32} {a b c a' b' c' : Mem} (hR : f_case_16 N Ln xs i a b c = some (a', b', c')) (kk : J G p l e ({ frames := 14, cells := 601024, slots := 7293034, locals := 524 } : Room) s m args below meth c9 A Q 9 (cl + 8) (sl + 64) 3067 [some (.ref sb), some (.ref (ad L 0)), some (.ref (ad L 96)), some (.ref (ad L 105)), some (.ref (ad L 106)), some (.int i), none, none, none] [] L (FW G L a' b' c')) : J G p l e ({ frames := 14, cells := 601024, slots := 7293034, locals := 524 } : Room) s m args below meth c9 A Q 9 cl sl 1080 [some (.ref sb), some (.ref (ad L 0)), some (.ref (ad L 96)), some (.ref (ad L 105)), some (.ref (ad L 106)), some (.int i), none, none, none] [] L (FW G L a b c) := by
  unfold f_case_16 at hR
  refine j_aload_n X (i := 1) dL_law_1080 rfl rfl ?_
  refine j_aload_n X (i := 0) dL_law_1081 rfl rfl ?_
  refine j_iload X dL_law_1082 rfl ?_
  refine j_iconst X (1) dL_law_1084 (by decide) ?_
  refine j_iadd X dL_law_1085 ?_
  obtain ⟨h1, hR⟩ := chkI_inv hR
  refine j_sld X hX hb hbA h1 dL_law_1086 ?_
  refine j_aload X dL_law_1087 rfl ?_
  obtain ⟨x3, a4, c5, h2, hR⟩ := bP3_inv hR
  refine j_callSW (As := [.ref (ad L 0), .int (xs ((i + (1 : Int32))).toNatClampNeg), .ref (ad L 106)]) (rest := []) X (m_L_meanThink hl hL hL7  h2) ml_L_217 st_yL_meanThink in_L cd_yL_meanThink hy_yL_meanThink dL_law_1089 ⟨(by decide), (by decide)⟩ ⟨Nat.le_trans (Nat.add_le_add_left (by decide : 1 ≤ 8) _) hcl, Nat.le_trans (Nat.add_le_add_left (by decide : 6 ≤ 64) _) hsl⟩ (Nat.le_of_ble_eq_true rfl) (fun _ h => h.elim) (fun r9 L9 f9 h9 => ?_)
  obtain ⟨h91, h92, h93⟩ := h9
  subst r9
  subst f9
  subst L9
  dsimp only [Option.toList, List.cons_append, List.nil_append, List.append]
  refine j_istore X dL_law_1092 (by decide) (lvOK_s rfl okPrev_int) ?_
  dsimp only [List.set]
  refine j_aload_n X (i := 2) dL_law_1094 rfl rfl ?_
  refine j_aload_n X (i := 0) dL_law_1095 rfl rfl ?_
  refine j_iload X dL_law_1096 rfl ?_
  refine j_iconst X (1) dL_law_1098 (by decide) ?_
  refine j_iadd X dL_law_1099 ?_
  obtain ⟨h6, hR⟩ := chkI_inv hR
  refine j_sld X hX hb hbA h6 dL_law_1100 ?_
  obtain ⟨x8, b9, h7, hR⟩ := bP2_inv hR
  refine j_callV1 X 9 (m_X9_meanThink hl hL  h7) ml_L_220 im_yX9_meanThink se_yX9_meanThink in_X9 cd_yX9_meanThink hy_yX9_meanThink dL_law_1101 rfl (ad_mem hL (by decide)) (FW9 hL) ⟨(by decide), (by decide)⟩ ⟨Nat.le_trans (Nat.add_le_add_left (by decide : 1 ≤ 8) _) hcl, Nat.le_trans (Nat.add_le_add_left (by decide : 6 ≤ 64) _) hsl⟩ (Nat.le_of_ble_eq_true rfl) (fun _ h => h.elim) (fun r9 L9 f9 h9 => ?_)
  obtain ⟨h91, h92, h93⟩ := h9
  subst r9
  subst f9
  subst L9
  dsimp only [Option.toList, List.cons_append, List.nil_append, List.append]
  refine j_dstore X dL_law_1104 (by decide) (lvOK_s rfl okPrev_int) ?_
  dsimp only [List.set]
  refine j_aload_n X (i := 2) dL_law_1106 rfl rfl ?_
  obtain ⟨x12, h11, hR⟩ := bT_inv hR
  refine j_callV0 X 9 (m_X9_thrown hl hL  h11) ml_L_162 im_yX9_thrown se_yX9_thrown in_X9 cd_yX9_thrown hy_yX9_thrown dL_law_1107 rfl (ad_mem hL (by decide)) (FW9 hL) ⟨(by decide), (by decide)⟩ ⟨Nat.le_trans (Nat.add_le_add_left (by decide : 1 ≤ 8) _) hcl, Nat.le_trans (Nat.add_le_add_left (by decide : 6 ≤ 64) _) hsl⟩ (Nat.le_of_ble_eq_true rfl) (fun _ h => h.elim) (fun r9 L9 f9 h9 => ?_)
  obtain ⟨h91, h92, h93⟩ := h9
  subst r9
  subst f9
  subst L9
  dsimp only [Option.toList, List.cons_append, List.nil_append, List.append]
  refine j_iload X dL_law_1110 rfl ?_
  refine j_icmp_eq X (tgt := 1117) dL_law_1112 (by decide) (fun h14 => ?_) (fun h14 => ?_)
  · replace hR := (if_pos h14).symm.trans hR
    refine j_iload X dL_law_1117 rfl ?_
    refine j_if_ne X (tgt := 1154) dL_law_1119 (by decide) (fun h15 => ?_) (fun h15 => ?_)
    · replace hR := (if_neg h15).symm.trans hR
      refine j_goto X (tgt := 3067) dL_law_1154 (by decide) ?_
      have h9 := Option.some.inj hR
      rw [← (Prod.mk.inj h9).1, ← (Prod.mk.inj (Prod.mk.inj h9).2).1, ← (Prod.mk.inj (Prod.mk.inj h9).2).2] at kk
      exact J.widen (c1 := cl + 8) (s1 := sl + 64) (by omega) (by omega) (J.sub (lvle_of (by simp only [lvle, and_self])) kk)
    · replace hR := (if_pos h15).symm.trans hR
      refine j_aload X dL_law_1122 rfl ?_
      refine j_iconst X (0) dL_law_1124 (by decide) ?_
      refine j_dald106 X hL hL7 dL_law_1125 ?_
      refine j_dload X dL_law_1126 rfl ?_
      refine j_dcmp X dL_law_1128 ?_
      refine j_if_eq X (tgt := 1154) dL_law_1129 (by decide) (fun h16 => ?_) (fun h16 => ?_)
      · replace hR := (if_pos h16).symm.trans hR
        refine j_goto X (tgt := 3067) dL_law_1154 (by decide) ?_
        have h9 := Option.some.inj hR
        rw [← (Prod.mk.inj h9).1, ← (Prod.mk.inj (Prod.mk.inj h9).2).1, ← (Prod.mk.inj (Prod.mk.inj h9).2).2] at kk
        exact J.widen (c1 := cl + 8) (s1 := sl + 64) (by omega) (by omega) (J.sub (lvle_of (by simp only [lvle, and_self])) kk)
      · replace hR := (if_neg h16).symm.trans hR
        refine j_aload X dL_law_1132 rfl ?_
        refine j_iconst X (0) dL_law_1134 (by decide) ?_
        refine j_dald106 X hL hL7 dL_law_1135 ?_
        refine j_aload X dL_law_1136 rfl ?_
        refine j_iconst X (0) dL_law_1138 (by decide) ?_
        refine j_dald106 X hL hL7 dL_law_1139 ?_
        refine j_dcmp X dL_law_1140 ?_
        refine j_if_eq X (tgt := 1152) dL_law_1141 (by decide) (fun h17 => ?_) (fun h17 => ?_)
        · replace hR := (if_pos h17).symm.trans hR
          refine j_iconst X (0) dL_law_1152 (by decide) ?_
          cases hR
        · replace hR := (if_neg h17).symm.trans hR
          refine j_dload X dL_law_1144 rfl ?_
          refine j_dload X dL_law_1146 rfl ?_
          refine j_dcmp X dL_law_1148 ?_
          refine j_if_ne X (tgt := 1154) dL_law_1149 (by decide) (fun h18 => ?_) (fun h18 => ?_)
          · replace hR := (if_neg h18).symm.trans hR
            refine j_goto X (tgt := 3067) dL_law_1154 (by decide) ?_
            have h9 := Option.some.inj hR
            rw [← (Prod.mk.inj h9).1, ← (Prod.mk.inj (Prod.mk.inj h9).2).1, ← (Prod.mk.inj (Prod.mk.inj h9).2).2] at kk
            exact J.widen (c1 := cl + 8) (s1 := sl + 64) (by omega) (by omega) (J.sub (lvle_of (by simp only [lvle, and_self])) kk)
          · replace hR := (if_pos h18).symm.trans hR
            refine j_iconst X (0) dL_law_1152 (by decide) ?_
            cases hR
  · replace hR := (if_neg h14).symm.trans hR
    refine j_iconst X (0) dL_law_1115 (by decide) ?_
    cases hR
def f_case_17 (N Ln : Nat) (xs : Nat → Int32) (i : Int32) (a b c : Mem) : Option (Mem × Mem × Mem) := chkI (i + (1 : Int32)) Ln <| bP3 (f_L_share N (xs ((i + (1 : Int32))).toNatClampNeg) a c) fun x3 a4 c5 => chkI (i + (1 : Int32)) Ln <| bP2 (f_X9_share N (xs ((i + (1 : Int32))).toNatClampNeg) b) fun x8 b9 => bT (f_X9_thrown  b9) fun x12 => if x12 = x3 then (if x3 = 0 then (chkP ((FP.f2d x8) &&& 0x7fffffffffffffff ≤ 0x7ff0000000000000) <| if (Op.cmpValue (FP.dcmp (dbl (c5 1 0) (c5 1 1)) (FP.f2d x8)) .l) = 0 then (some (a4, b9, c5)) else (if (Op.cmpValue (FP.dcmp (dbl (c5 1 0) (c5 1 1)) (dbl (c5 1 0) (c5 1 1))) .l) = 0 then (none) else (if (Op.cmpValue (FP.fcmp x8 x8) .l) = 0 then (none) else (some (a4, b9, c5))))) else (some (a4, b9, c5))) else (none)
set_option maxRecDepth 100000 in
set_option maxHeartbeats 4000000 in
theorem m_case_17 (X : Cx G p l s m args meth c9 A RL cL_law 9 ret9 tb) (hl : l.stackTraces = false) (hL : LOK L) (hL7 : L.length = 107) {N Ln sb : Nat} {xs : Nat → Int32} (hX : va_X sb Ln xs s s.heap) (hb : sb < s.heap.size) (hbA : ¬ A sb) {cl sl : Nat} (hcl : cl + 8 ≤ 601024) (hsl : sl + 64 ≤ 7293034) {i : Int32} {a b c a' b' c' : Mem} (hR : f_case_17 N Ln xs i a b c = some (a', b', c')) (kk : J G p l e ({ frames := 14, cells := 601024, slots := 7293034, locals := 524 } : Room) s m args below meth c9 A Q 9 (cl + 8) (sl + 64) 3067 [some (.ref sb), some (.ref (ad L 0)), some (.ref (ad L 96)), some (.ref (ad L 105)), some (.ref (ad L 106)), some (.int i), none, none, none] [] L (FW G L a' b' c')) : J G p l e ({ frames := 14, cells := 601024, slots := 7293034, locals := 524 } : Room) s m args below meth c9 A Q 9 cl sl 1157 [some (.ref sb), some (.ref (ad L 0)), some (.ref (ad L 96)), some (.ref (ad L 105)), some (.ref (ad L 106)), some (.int i), none, none, none] [] L (FW G L a b c) := by
  unfold f_case_17 at hR
  refine j_aload_n X (i := 1) dL_law_1157 rfl rfl ?_
  refine j_aload_n X (i := 0) dL_law_1158 rfl rfl ?_
  refine j_iload X dL_law_1159 rfl ?_
  refine j_iconst X (1) dL_law_1161 (by decide) ?_
  refine j_iadd X dL_law_1162 ?_
  obtain ⟨h1, hR⟩ := chkI_inv hR
  refine j_sld X hX hb hbA h1 dL_law_1163 ?_
  refine j_aload X dL_law_1164 rfl ?_
  obtain ⟨x3, a4, c5, h2, hR⟩ := bP3_inv hR
  refine j_callSW (As := [.ref (ad L 0), .int (xs ((i + (1 : Int32))).toNatClampNeg), .ref (ad L 106)]) (rest := []) X (m_L_share hl hL hL7  h2) ml_L_221 st_yL_share in_L cd_yL_share hy_yL_share dL_law_1166 ⟨(by decide), (by decide)⟩ ⟨Nat.le_trans (Nat.add_le_add_left (by decide : 1 ≤ 8) _) hcl, Nat.le_trans (Nat.add_le_add_left (by decide : 6 ≤ 64) _) hsl⟩ (Nat.le_of_ble_eq_true rfl) (fun _ h => h.elim) (fun r9 L9 f9 h9 => ?_)
  obtain ⟨h91, h92, h93⟩ := h9
  subst r9
  subst f9
  subst L9
  dsimp only [Option.toList, List.cons_append, List.nil_append, List.append]
  refine j_istore X dL_law_1169 (by decide) (lvOK_s rfl okPrev_int) ?_
  dsimp only [List.set]
  refine j_aload_n X (i := 2) dL_law_1171 rfl rfl ?_
  refine j_aload_n X (i := 0) dL_law_1172 rfl rfl ?_
  refine j_iload X dL_law_1173 rfl ?_
  refine j_iconst X (1) dL_law_1175 (by decide) ?_
  refine j_iadd X dL_law_1176 ?_
  obtain ⟨h6, hR⟩ := chkI_inv hR
  refine j_sld X hX hb hbA h6 dL_law_1177 ?_
  obtain ⟨x8, b9, h7, hR⟩ := bP2_inv hR
  refine j_callV1 X 9 (m_X9_share hl hL  h7) ml_L_223 im_yX9_share se_yX9_share in_X9 cd_yX9_share hy_yX9_share dL_law_1178 rfl (ad_mem hL (by decide)) (FW9 hL) ⟨(by decide), (by decide)⟩ ⟨Nat.le_trans (Nat.add_le_add_left (by decide : 1 ≤ 8) _) hcl, Nat.le_trans (Nat.add_le_add_left (by decide : 6 ≤ 64) _) hsl⟩ (Nat.le_of_ble_eq_true rfl) (fun _ h => h.elim) (fun r9 L9 f9 h9 => ?_)
  obtain ⟨h91, h92, h93⟩ := h9
  subst r9
  subst f9
  subst L9
  dsimp only [Option.toList, List.cons_append, List.nil_append, List.append]
  refine j_fstore X dL_law_1181 (by decide) (lvOK_s rfl okPrev_int) ?_
  dsimp only [List.set]
  refine j_aload_n X (i := 2) dL_law_1183 rfl rfl ?_
  obtain ⟨x12, h11, hR⟩ := bT_inv hR
  refine j_callV0 X 9 (m_X9_thrown hl hL  h11) ml_L_162 im_yX9_thrown se_yX9_thrown in_X9 cd_yX9_thrown hy_yX9_thrown dL_law_1184 rfl (ad_mem hL (by decide)) (FW9 hL) ⟨(by decide), (by decide)⟩ ⟨Nat.le_trans (Nat.add_le_add_left (by decide : 1 ≤ 8) _) hcl, Nat.le_trans (Nat.add_le_add_left (by decide : 6 ≤ 64) _) hsl⟩ (Nat.le_of_ble_eq_true rfl) (fun _ h => h.elim) (fun r9 L9 f9 h9 => ?_)
  obtain ⟨h91, h92, h93⟩ := h9
  subst r9
  subst f9
  subst L9
  dsimp only [Option.toList, List.cons_append, List.nil_append, List.append]
  refine j_iload X dL_law_1187 rfl ?_
  refine j_icmp_eq X (tgt := 1194) dL_law_1189 (by decide) (fun h14 => ?_) (fun h14 => ?_)
  · replace hR := (if_pos h14).symm.trans hR
    refine j_iload X dL_law_1194 rfl ?_
    refine j_if_ne X (tgt := 1232) dL_law_1196 (by decide) (fun h15 => ?_) (fun h15 => ?_)
    · replace hR := (if_neg h15).symm.trans hR
      refine j_goto X (tgt := 3067) dL_law_1232 (by decide) ?_
      have h9 := Option.some.inj hR
      rw [← (Prod.mk.inj h9).1, ← (Prod.mk.inj (Prod.mk.inj h9).2).1, ← (Prod.mk.inj (Prod.mk.inj h9).2).2] at kk
      exact J.widen (c1 := cl + 8) (s1 := sl + 64) (by omega) (by omega) (J.sub (lvle_of (by simp only [lvle, and_self])) kk)
    · replace hR := (if_pos h15).symm.trans hR
      refine j_aload X dL_law_1199 rfl ?_
      refine j_iconst X (0) dL_law_1201 (by decide) ?_
      refine j_dald106 X hL hL7 dL_law_1202 ?_
      refine j_fload X dL_law_1203 rfl ?_
      obtain ⟨h16, hR⟩ := chkP_inv hR
      refine j_f2d X dL_law_1205 h16 ?_
      refine j_dcmp X dL_law_1206 ?_
      refine j_if_eq X (tgt := 1232) dL_law_1207 (by decide) (fun h17 => ?_) (fun h17 => ?_)
      · replace hR := (if_pos h17).symm.trans hR
        refine j_goto X (tgt := 3067) dL_law_1232 (by decide) ?_
        have h9 := Option.some.inj hR
        rw [← (Prod.mk.inj h9).1, ← (Prod.mk.inj (Prod.mk.inj h9).2).1, ← (Prod.mk.inj (Prod.mk.inj h9).2).2] at kk
        exact J.widen (c1 := cl + 8) (s1 := sl + 64) (by omega) (by omega) (J.sub (lvle_of (by simp only [lvle, and_self])) kk)
      · replace hR := (if_neg h17).symm.trans hR
        refine j_aload X dL_law_1210 rfl ?_
        refine j_iconst X (0) dL_law_1212 (by decide) ?_
        refine j_dald106 X hL hL7 dL_law_1213 ?_
        refine j_aload X dL_law_1214 rfl ?_
        refine j_iconst X (0) dL_law_1216 (by decide) ?_
        refine j_dald106 X hL hL7 dL_law_1217 ?_
        refine j_dcmp X dL_law_1218 ?_
        refine j_if_eq X (tgt := 1230) dL_law_1219 (by decide) (fun h18 => ?_) (fun h18 => ?_)
        · replace hR := (if_pos h18).symm.trans hR
          refine j_iconst X (0) dL_law_1230 (by decide) ?_
          cases hR
        · replace hR := (if_neg h18).symm.trans hR
          refine j_fload X dL_law_1222 rfl ?_
          refine j_fload X dL_law_1224 rfl ?_
          refine j_fcmp X dL_law_1226 ?_
          refine j_if_ne X (tgt := 1232) dL_law_1227 (by decide) (fun h19 => ?_) (fun h19 => ?_)
          · replace hR := (if_neg h19).symm.trans hR
            refine j_goto X (tgt := 3067) dL_law_1232 (by decide) ?_
            have h9 := Option.some.inj hR
            rw [← (Prod.mk.inj h9).1, ← (Prod.mk.inj (Prod.mk.inj h9).2).1, ← (Prod.mk.inj (Prod.mk.inj h9).2).2] at kk
            exact J.widen (c1 := cl + 8) (s1 := sl + 64) (by omega) (by omega) (J.sub (lvle_of (by simp only [lvle, and_self])) kk)
          · replace hR := (if_pos h19).symm.trans hR
            refine j_iconst X (0) dL_law_1230 (by decide) ?_
            cases hR
  · replace hR := (if_neg h14).symm.trans hR
    refine j_iconst X (0) dL_law_1192 (by decide) ?_
    cases hR
def f_case_18 (N Ln : Nat) (xs : Nat → Int32) (i : Int32) (a b c : Mem) : Option (Mem × Mem × Mem) := chkI (i + (1 : Int32)) Ln <| chkI (i + (2 : Int32)) Ln <| bP3 (f_L_leftIn N (xs ((i + (1 : Int32))).toNatClampNeg) (xs ((i + (2 : Int32))).toNatClampNeg) a c) fun x4 a5 c6 => chkI (i + (1 : Int32)) Ln <| chkI (i + (2 : Int32)) Ln <| bP2 (f_X9_leftIn N (xs ((i + (1 : Int32))).toNatClampNeg) (xs ((i + (2 : Int32))).toNatClampNeg) b) fun x10 b11 => bT (f_X9_thrown  b11) fun x14 => if x14 = x4 then (if x4 = 0 then (if (lg_cmp (Int32.toInt64 (c6 0 0)) (Int32.toInt64 x10)) = 0 then (some (a5, b11, c6)) else (none)) else (some (a5, b11, c6))) else (none)
set_option maxRecDepth 100000 in
set_option maxHeartbeats 4000000 in
theorem m_case_18 (X : Cx G p l s m args meth c9 A RL cL_law 9 ret9 tb) (hl : l.stackTraces = false) (hL : LOK L) (hL7 : L.length = 107) {N Ln sb : Nat} {xs : Nat → Int32} (hX : va_X sb Ln xs s s.heap) (hb : sb < s.heap.size) (hbA : ¬ A sb) {cl sl : Nat} (hcl : cl + 8 ≤ 601024) (hsl : sl + 64 ≤ 7293034) {i : Int32} {a b c a' b' c' : Mem} (hR : f_case_18 N Ln xs i a b c = some (a', b', c')) (kk : J G p l e ({ frames := 14, cells := 601024, slots := 7293034, locals := 524 } : Room) s m args below meth c9 A Q 9 (cl + 8) (sl + 64) 3067 [some (.ref sb), some (.ref (ad L 0)), some (.ref (ad L 96)), some (.ref (ad L 105)), some (.ref (ad L 106)), some (.int i), none, none, none] [] L (FW G L a' b' c')) : J G p l e ({ frames := 14, cells := 601024, slots := 7293034, locals := 524 } : Room) s m args below meth c9 A Q 9 cl sl 1235 [some (.ref sb), some (.ref (ad L 0)), some (.ref (ad L 96)), some (.ref (ad L 105)), some (.ref (ad L 106)), some (.int i), none, none, none] [] L (FW G L a b c) := by
  unfold f_case_18 at hR
  refine j_aload_n X (i := 1) dL_law_1235 rfl rfl ?_
  refine j_aload_n X (i := 0) dL_law_1236 rfl rfl ?_
  refine j_iload X dL_law_1237 rfl ?_
  refine j_iconst X (1) dL_law_1239 (by decide) ?_
  refine j_iadd X dL_law_1240 ?_
  obtain ⟨h1, hR⟩ := chkI_inv hR
  refine j_sld X hX hb hbA h1 dL_law_1241 ?_
  refine j_aload_n X (i := 0) dL_law_1242 rfl rfl ?_
  refine j_iload X dL_law_1243 rfl ?_
  refine j_iconst X (2) dL_law_1245 (by decide) ?_
  refine j_iadd X dL_law_1246 ?_
  obtain ⟨h2, hR⟩ := chkI_inv hR
  refine j_sld X hX hb hbA h2 dL_law_1247 ?_
  refine j_aload_n X (i := 3) dL_law_1248 rfl rfl ?_
  obtain ⟨x4, a5, c6, h3, hR⟩ := bP3_inv hR
  refine j_callSW (As := [.ref (ad L 0), .int (xs ((i + (1 : Int32))).toNatClampNeg), .int (xs ((i + (2 : Int32))).toNatClampNeg), .ref (ad L 105)]) (rest := []) X (m_L_leftIn hl hL hL7  h3) ml_L_224 st_yL_leftIn in_L cd_yL_leftIn hy_yL_leftIn dL_law_1249 ⟨(by decide), (by decide)⟩ ⟨Nat.le_trans (Nat.add_le_add_left (by decide : 2 ≤ 8) _) hcl, Nat.le_trans (Nat.add_le_add_left (by decide : 12 ≤ 64) _) hsl⟩ (Nat.le_of_ble_eq_true rfl) (fun _ h => h.elim) (fun r9 L9 f9 h9 => ?_)
  obtain ⟨h91, h92, h93⟩ := h9
  subst r9
  subst f9
  subst L9
  dsimp only [Option.toList, List.cons_append, List.nil_append, List.append]
  refine j_istore X dL_law_1252 (by decide) (lvOK_s rfl okPrev_int) ?_
  dsimp only [List.set]
  refine j_aload_n X (i := 2) dL_law_1254 rfl rfl ?_
  refine j_aload_n X (i := 0) dL_law_1255 rfl rfl ?_
  refine j_iload X dL_law_1256 rfl ?_
  refine j_iconst X (1) dL_law_1258 (by decide) ?_
  refine j_iadd X dL_law_1259 ?_
  obtain ⟨h7, hR⟩ := chkI_inv hR
  refine j_sld X hX hb hbA h7 dL_law_1260 ?_
  refine j_aload_n X (i := 0) dL_law_1261 rfl rfl ?_
  refine j_iload X dL_law_1262 rfl ?_
  refine j_iconst X (2) dL_law_1264 (by decide) ?_
  refine j_iadd X dL_law_1265 ?_
  obtain ⟨h8, hR⟩ := chkI_inv hR
  refine j_sld X hX hb hbA h8 dL_law_1266 ?_
  obtain ⟨x10, b11, h9, hR⟩ := bP2_inv hR
  refine j_callV2 X 9 (m_X9_leftIn hl hL  h9) ml_L_226 im_yX9_leftIn se_yX9_leftIn in_X9 cd_yX9_leftIn hy_yX9_leftIn dL_law_1267 rfl (ad_mem hL (by decide)) (FW9 hL) ⟨(by decide), (by decide)⟩ ⟨Nat.le_trans (Nat.add_le_add_left (by decide : 2 ≤ 8) _) hcl, Nat.le_trans (Nat.add_le_add_left (by decide : 12 ≤ 64) _) hsl⟩ (Nat.le_of_ble_eq_true rfl) (fun _ h => h.elim) (fun r9 L9 f9 h9 => ?_)
  obtain ⟨h91, h92, h93⟩ := h9
  subst r9
  subst f9
  subst L9
  dsimp only [Option.toList, List.cons_append, List.nil_append, List.append]
  refine j_istore X dL_law_1270 (by decide) (lvOK_s rfl okPrev_int) ?_
  dsimp only [List.set]
  refine j_aload_n X (i := 2) dL_law_1272 rfl rfl ?_
  obtain ⟨x14, h13, hR⟩ := bT_inv hR
  refine j_callV0 X 9 (m_X9_thrown hl hL  h13) ml_L_162 im_yX9_thrown se_yX9_thrown in_X9 cd_yX9_thrown hy_yX9_thrown dL_law_1273 rfl (ad_mem hL (by decide)) (FW9 hL) ⟨(by decide), (by decide)⟩ ⟨Nat.le_trans (Nat.add_le_add_left (by decide : 2 ≤ 8) _) hcl, Nat.le_trans (Nat.add_le_add_left (by decide : 12 ≤ 64) _) hsl⟩ (Nat.le_of_ble_eq_true rfl) (fun _ h => h.elim) (fun r9 L9 f9 h9 => ?_)
  obtain ⟨h91, h92, h93⟩ := h9
  subst r9
  subst f9
  subst L9
  dsimp only [Option.toList, List.cons_append, List.nil_append, List.append]
  refine j_iload X dL_law_1276 rfl ?_
  refine j_icmp_eq X (tgt := 1283) dL_law_1278 (by decide) (fun h16 => ?_) (fun h16 => ?_)
  · replace hR := (if_pos h16).symm.trans hR
    refine j_iload X dL_law_1283 rfl ?_
    refine j_if_ne X (tgt := 1300) dL_law_1285 (by decide) (fun h17 => ?_) (fun h17 => ?_)
    · replace hR := (if_neg h17).symm.trans hR
      refine j_goto X (tgt := 3067) dL_law_1300 (by decide) ?_
      have h9 := Option.some.inj hR
      rw [← (Prod.mk.inj h9).1, ← (Prod.mk.inj (Prod.mk.inj h9).2).1, ← (Prod.mk.inj (Prod.mk.inj h9).2).2] at kk
      exact J.widen (c1 := cl + 8) (s1 := sl + 64) (by omega) (by omega) (J.sub (lvle_of (by simp only [lvle, and_self])) kk)
    · replace hR := (if_pos h17).symm.trans hR
      refine j_aload_n X (i := 3) dL_law_1288 rfl rfl ?_
      refine j_iconst X (0) dL_law_1289 (by decide) ?_
      refine j_lald105 X hL hL7 dL_law_1290 ?_
      refine j_iload X dL_law_1291 rfl ?_
      refine j_i2l X dL_law_1293 ?_
      refine j_lcmp X dL_law_1294 ?_
      refine j_if_eq X (tgt := 1300) dL_law_1295 (by decide) (fun h18 => ?_) (fun h18 => ?_)
      · replace hR := (if_pos h18).symm.trans hR
        refine j_goto X (tgt := 3067) dL_law_1300 (by decide) ?_
        have h9 := Option.some.inj hR
        rw [← (Prod.mk.inj h9).1, ← (Prod.mk.inj (Prod.mk.inj h9).2).1, ← (Prod.mk.inj (Prod.mk.inj h9).2).2] at kk
        exact J.widen (c1 := cl + 8) (s1 := sl + 64) (by omega) (by omega) (J.sub (lvle_of (by simp only [lvle, and_self])) kk)
      · replace hR := (if_neg h18).symm.trans hR
        refine j_iconst X (0) dL_law_1298 (by decide) ?_
        cases hR
  · replace hR := (if_neg h16).symm.trans hR
    refine j_iconst X (0) dL_law_1281 (by decide) ?_
    cases hR
def f_case_19 (N Ln : Nat) (xs : Nat → Int32) (i : Int32) (a b c : Mem) : Option (Mem × Mem × Mem) := bT (f_X8_overIn  a) fun x2 => bP2 (f_X9_overIn N  b) fun x5 b6 => if x2 = x5 then (some (a, b6, c)) else (none)
set_option maxRecDepth 100000 in
set_option maxHeartbeats 4000000 in
theorem m_case_19 (X : Cx G p l s m args meth c9 A RL cL_law 9 ret9 tb) (hl : l.stackTraces = false) (hL : LOK L) (hL7 : L.length = 107) {N Ln sb : Nat} {xs : Nat → Int32} (hX : va_X sb Ln xs s s.heap) (hb : sb < s.heap.size) (hbA : ¬ A sb) {cl sl : Nat} (hcl : cl + 8 ≤ 601024) (hsl : sl + 64 ≤ 7293034) {i : Int32} {a b c a' b' c' : Mem} (hR : f_case_19 N Ln xs i a b c = some (a', b', c')) (kk : J G p l e ({ frames := 14, cells := 601024, slots := 7293034, locals := 524 } : Room) s m args below meth c9 A Q 9 (cl + 8) (sl + 64) 3067 [some (.ref sb), some (.ref (ad L 0)), some (.ref (ad L 96)), some (.ref (ad L 105)), some (.ref (ad L 106)), some (.int i), none, none, none] [] L (FW G L a' b' c')) : J G p l e ({ frames := 14, cells := 601024, slots := 7293034, locals := 524 } : Room) s m args below meth c9 A Q 9 cl sl 1303 [some (.ref sb), some (.ref (ad L 0)), some (.ref (ad L 96)), some (.ref (ad L 105)), some (.ref (ad L 106)), some (.int i), none, none, none] [] L (FW G L a b c) := by
  unfold f_case_19 at hR
  refine j_aload_n X (i := 1) dL_law_1303 rfl rfl ?_
  obtain ⟨x2, h1, hR⟩ := bT_inv hR
  refine j_callV0 X 8 (m_X8_overIn hl hL  h1) ml_L_227 im_yX8_overIn se_yX8_overIn in_X8 cd_yX8_overIn hy_yX8_overIn dL_law_1304 rfl (inL hL t_0 (by decide)) (FW8 hL t_0) ⟨(by decide), (by decide)⟩ ⟨Nat.le_trans (Nat.add_le_add_left (by decide : 0 ≤ 8) _) hcl, Nat.le_trans (Nat.add_le_add_left (by decide : 0 ≤ 64) _) hsl⟩ (Nat.le_of_ble_eq_true rfl) (fun _ h => h.elim) (fun r9 L9 f9 h9 => ?_)
  obtain ⟨h91, h92, h93⟩ := h9
  subst r9
  subst f9
  subst L9
  dsimp only [Option.toList, List.cons_append, List.nil_append, List.append]
  refine j_aload_n X (i := 2) dL_law_1307 rfl rfl ?_
  obtain ⟨x5, b6, h4, hR⟩ := bP2_inv hR
  refine j_callV0 X 9 (m_X9_overIn hl hL  h4) ml_L_230 im_yX9_overIn se_yX9_overIn in_X9 cd_yX9_overIn hy_yX9_overIn dL_law_1308 rfl (ad_mem hL (by decide)) (FW9 hL) ⟨(by decide), (by decide)⟩ ⟨Nat.le_trans (Nat.add_le_add_left (by decide : 0 ≤ 8) _) hcl, Nat.le_trans (Nat.add_le_add_left (by decide : 0 ≤ 64) _) hsl⟩ (Nat.le_of_ble_eq_true rfl) (fun _ h => h.elim) (fun r9 L9 f9 h9 => ?_)
  obtain ⟨h91, h92, h93⟩ := h9
  subst r9
  subst f9
  subst L9
  dsimp only [Option.toList, List.cons_append, List.nil_append, List.append]
  refine j_icmp_eq X (tgt := 3067) dL_law_1311 (by decide) (fun h8 => ?_) (fun h8 => ?_)
  · replace hR := (if_pos h8).symm.trans hR
    have h9 := Option.some.inj hR
    rw [← (Prod.mk.inj h9).1, ← (Prod.mk.inj (Prod.mk.inj h9).2).1, ← (Prod.mk.inj (Prod.mk.inj h9).2).2] at kk
    exact J.widen (c1 := cl + 8) (s1 := sl + 64) (by omega) (by omega) (J.sub (lvle_of (by simp only [lvle, and_self])) kk)
  · replace hR := (if_neg h8).symm.trans hR
    refine j_iconst X (0) dL_law_1314 (by decide) ?_
    cases hR
def f_case_20 (N Ln : Nat) (xs : Nat → Int32) (i : Int32) (a b c : Mem) : Option (Mem × Mem × Mem) := bT (f_X8_canSeal  a) fun x2 => bP2 (f_X9_canSeal N  b) fun x5 b6 => if x2 = x5 then (some (a, b6, c)) else (none)
set_option maxRecDepth 100000 in
set_option maxHeartbeats 4000000 in
theorem m_case_20 (X : Cx G p l s m args meth c9 A RL cL_law 9 ret9 tb) (hl : l.stackTraces = false) (hL : LOK L) (hL7 : L.length = 107) {N Ln sb : Nat} {xs : Nat → Int32} (hX : va_X sb Ln xs s s.heap) (hb : sb < s.heap.size) (hbA : ¬ A sb) {cl sl : Nat} (hcl : cl + 8 ≤ 601024) (hsl : sl + 64 ≤ 7293034) {i : Int32} {a b c a' b' c' : Mem} (hR : f_case_20 N Ln xs i a b c = some (a', b', c')) (kk : J G p l e ({ frames := 14, cells := 601024, slots := 7293034, locals := 524 } : Room) s m args below meth c9 A Q 9 (cl + 8) (sl + 64) 3067 [some (.ref sb), some (.ref (ad L 0)), some (.ref (ad L 96)), some (.ref (ad L 105)), some (.ref (ad L 106)), some (.int i), none, none, none] [] L (FW G L a' b' c')) : J G p l e ({ frames := 14, cells := 601024, slots := 7293034, locals := 524 } : Room) s m args below meth c9 A Q 9 cl sl 1316 [some (.ref sb), some (.ref (ad L 0)), some (.ref (ad L 96)), some (.ref (ad L 105)), some (.ref (ad L 106)), some (.int i), none, none, none] [] L (FW G L a b c) := by
  unfold f_case_20 at hR
  refine j_aload_n X (i := 1) dL_law_1316 rfl rfl ?_
  obtain ⟨x2, h1, hR⟩ := bT_inv hR
  refine j_callV0 X 8 (m_X8_canSeal hl hL  h1) ml_L_231 im_yX8_canSeal se_yX8_canSeal in_X8 cd_yX8_canSeal hy_yX8_canSeal dL_law_1317 rfl (inL hL t_0 (by decide)) (FW8 hL t_0) ⟨(by decide), (by decide)⟩ ⟨Nat.le_trans (Nat.add_le_add_left (by decide : 0 ≤ 8) _) hcl, Nat.le_trans (Nat.add_le_add_left (by decide : 0 ≤ 64) _) hsl⟩ (Nat.le_of_ble_eq_true rfl) (fun _ h => h.elim) (fun r9 L9 f9 h9 => ?_)
  obtain ⟨h91, h92, h93, h3⟩ := h9
  subst r9
  subst f9
  subst L9
  dsimp only [Option.toList, List.cons_append, List.nil_append, List.append]
  refine j_aload_n X (i := 2) dL_law_1320 rfl rfl ?_
  obtain ⟨x5, b6, h4, hR⟩ := bP2_inv hR
  refine j_callV0 X 9 (m_X9_canSeal hl hL  h4) ml_L_235 im_yX9_canSeal se_yX9_canSeal in_X9 cd_yX9_canSeal hy_yX9_canSeal dL_law_1321 rfl (ad_mem hL (by decide)) (FW9 hL) ⟨(by decide), (by decide)⟩ ⟨Nat.le_trans (Nat.add_le_add_left (by decide : 0 ≤ 8) _) hcl, Nat.le_trans (Nat.add_le_add_left (by decide : 0 ≤ 64) _) hsl⟩ (Nat.le_of_ble_eq_true rfl) (fun _ h => h.elim) (fun r9 L9 f9 h9 => ?_)
  obtain ⟨h91, h92, h93, h7⟩ := h9
  subst r9
  subst f9
  subst L9
  dsimp only [Option.toList, List.cons_append, List.nil_append, List.append]
  refine j_icmp_eq X (tgt := 3067) dL_law_1324 (by decide) (fun h8 => ?_) (fun h8 => ?_)
  · replace hR := (if_pos h8).symm.trans hR
    have h9 := Option.some.inj hR
    rw [← (Prod.mk.inj h9).1, ← (Prod.mk.inj (Prod.mk.inj h9).2).1, ← (Prod.mk.inj (Prod.mk.inj h9).2).2] at kk
    exact J.widen (c1 := cl + 8) (s1 := sl + 64) (by omega) (by omega) (J.sub (lvle_of (by simp only [lvle, and_self])) kk)
  · replace hR := (if_neg h8).symm.trans hR
    refine j_iconst X (0) dL_law_1327 (by decide) ?_
    cases hR
def f_case_21 (N Ln : Nat) (xs : Nat → Int32) (i : Int32) (a b c : Mem) : Option (Mem × Mem × Mem) := bT (f_X8_sealIn  a) fun x2 => bP2 (f_X9_sealIn N  b) fun x5 b6 => if x2 = x5 then (some (a, b6, c)) else (none)
set_option maxRecDepth 100000 in
set_option maxHeartbeats 4000000 in
theorem m_case_21 (X : Cx G p l s m args meth c9 A RL cL_law 9 ret9 tb) (hl : l.stackTraces = false) (hL : LOK L) (hL7 : L.length = 107) {N Ln sb : Nat} {xs : Nat → Int32} (hX : va_X sb Ln xs s s.heap) (hb : sb < s.heap.size) (hbA : ¬ A sb) {cl sl : Nat} (hcl : cl + 8 ≤ 601024) (hsl : sl + 64 ≤ 7293034) {i : Int32} {a b c a' b' c' : Mem} (hR : f_case_21 N Ln xs i a b c = some (a', b', c')) (kk : J G p l e ({ frames := 14, cells := 601024, slots := 7293034, locals := 524 } : Room) s m args below meth c9 A Q 9 (cl + 8) (sl + 64) 3067 [some (.ref sb), some (.ref (ad L 0)), some (.ref (ad L 96)), some (.ref (ad L 105)), some (.ref (ad L 106)), some (.int i), none, none, none] [] L (FW G L a' b' c')) : J G p l e ({ frames := 14, cells := 601024, slots := 7293034, locals := 524 } : Room) s m args below meth c9 A Q 9 cl sl 1329 [some (.ref sb), some (.ref (ad L 0)), some (.ref (ad L 96)), some (.ref (ad L 105)), some (.ref (ad L 106)), some (.int i), none, none, none] [] L (FW G L a b c) := by
  unfold f_case_21 at hR
  refine j_aload_n X (i := 1) dL_law_1329 rfl rfl ?_
  obtain ⟨x2, h1, hR⟩ := bT_inv hR
  refine j_callV0 X 8 (m_X8_sealIn hl hL  h1) ml_L_236 im_yX8_sealIn se_yX8_sealIn in_X8 cd_yX8_sealIn hy_yX8_sealIn dL_law_1330 rfl (inL hL t_0 (by decide)) (FW8 hL t_0) ⟨(by decide), (by decide)⟩ ⟨Nat.le_trans (Nat.add_le_add_left (by decide : 0 ≤ 8) _) hcl, Nat.le_trans (Nat.add_le_add_left (by decide : 0 ≤ 64) _) hsl⟩ (Nat.le_of_ble_eq_true rfl) (fun _ h => h.elim) (fun r9 L9 f9 h9 => ?_)
  obtain ⟨h91, h92, h93⟩ := h9
  subst r9
  subst f9
  subst L9
  dsimp only [Option.toList, List.cons_append, List.nil_append, List.append]
  refine j_aload_n X (i := 2) dL_law_1333 rfl rfl ?_
  obtain ⟨x5, b6, h4, hR⟩ := bP2_inv hR
  refine j_callV0 X 9 (m_X9_sealIn hl hL  h4) ml_L_239 im_yX9_sealIn se_yX9_sealIn in_X9 cd_yX9_sealIn hy_yX9_sealIn dL_law_1334 rfl (ad_mem hL (by decide)) (FW9 hL) ⟨(by decide), (by decide)⟩ ⟨Nat.le_trans (Nat.add_le_add_left (by decide : 0 ≤ 8) _) hcl, Nat.le_trans (Nat.add_le_add_left (by decide : 0 ≤ 64) _) hsl⟩ (Nat.le_of_ble_eq_true rfl) (fun _ h => h.elim) (fun r9 L9 f9 h9 => ?_)
  obtain ⟨h91, h92, h93⟩ := h9
  subst r9
  subst f9
  subst L9
  dsimp only [Option.toList, List.cons_append, List.nil_append, List.append]
  refine j_icmp_eq X (tgt := 3067) dL_law_1337 (by decide) (fun h8 => ?_) (fun h8 => ?_)
  · replace hR := (if_pos h8).symm.trans hR
    have h9 := Option.some.inj hR
    rw [← (Prod.mk.inj h9).1, ← (Prod.mk.inj (Prod.mk.inj h9).2).1, ← (Prod.mk.inj (Prod.mk.inj h9).2).2] at kk
    exact J.widen (c1 := cl + 8) (s1 := sl + 64) (by omega) (by omega) (J.sub (lvle_of (by simp only [lvle, and_self])) kk)
  · replace hR := (if_neg h8).symm.trans hR
    refine j_iconst X (0) dL_law_1340 (by decide) ?_
    cases hR
def f_case_22 (N Ln : Nat) (xs : Nat → Int32) (i : Int32) (a b c : Mem) : Option (Mem × Mem × Mem) := chkI (i + (1 : Int32)) Ln <| chkI (i + (2 : Int32)) Ln <| bP3 (f_L_ends N (xs ((i + (1 : Int32))).toNatClampNeg) (xs ((i + (2 : Int32))).toNatClampNeg) a c) fun x4 a5 c6 => chkI (i + (1 : Int32)) Ln <| chkI (i + (2 : Int32)) Ln <| bP2 (f_X9_ends N (xs ((i + (1 : Int32))).toNatClampNeg) (xs ((i + (2 : Int32))).toNatClampNeg) b) fun x10 b11 => bT (f_X9_thrown  b11) fun x14 => if x14 = x4 then (if x4 = 0 then (if (lg_cmp (Int32.toInt64 (c6 0 0)) (Int32.toInt64 x10)) = 0 then (some (a5, b11, c6)) else (none)) else (some (a5, b11, c6))) else (none)
set_option maxRecDepth 100000 in
set_option maxHeartbeats 4000000 in
theorem m_case_22 (X : Cx G p l s m args meth c9 A RL cL_law 9 ret9 tb) (hl : l.stackTraces = false) (hL : LOK L) (hL7 : L.length = 107) {N Ln sb : Nat} {xs : Nat → Int32} (hX : va_X sb Ln xs s s.heap) (hb : sb < s.heap.size) (hbA : ¬ A sb) {cl sl : Nat} (hcl : cl + 8 ≤ 601024) (hsl : sl + 64 ≤ 7293034) {i : Int32} {a b c a' b' c' : Mem} (hR : f_case_22 N Ln xs i a b c = some (a', b', c')) (kk : J G p l e ({ frames := 14, cells := 601024, slots := 7293034, locals := 524 } : Room) s m args below meth c9 A Q 9 (cl + 8) (sl + 64) 3067 [some (.ref sb), some (.ref (ad L 0)), some (.ref (ad L 96)), some (.ref (ad L 105)), some (.ref (ad L 106)), some (.int i), none, none, none] [] L (FW G L a' b' c')) : J G p l e ({ frames := 14, cells := 601024, slots := 7293034, locals := 524 } : Room) s m args below meth c9 A Q 9 cl sl 1342 [some (.ref sb), some (.ref (ad L 0)), some (.ref (ad L 96)), some (.ref (ad L 105)), some (.ref (ad L 106)), some (.int i), none, none, none] [] L (FW G L a b c) := by
  unfold f_case_22 at hR
  refine j_aload_n X (i := 1) dL_law_1342 rfl rfl ?_
  refine j_aload_n X (i := 0) dL_law_1343 rfl rfl ?_
  refine j_iload X dL_law_1344 rfl ?_
  refine j_iconst X (1) dL_law_1346 (by decide) ?_
  refine j_iadd X dL_law_1347 ?_
  obtain ⟨h1, hR⟩ := chkI_inv hR
  refine j_sld X hX hb hbA h1 dL_law_1348 ?_
  refine j_aload_n X (i := 0) dL_law_1349 rfl rfl ?_
  refine j_iload X dL_law_1350 rfl ?_
  refine j_iconst X (2) dL_law_1352 (by decide) ?_
  refine j_iadd X dL_law_1353 ?_
  obtain ⟨h2, hR⟩ := chkI_inv hR
  refine j_sld X hX hb hbA h2 dL_law_1354 ?_
  refine j_aload_n X (i := 3) dL_law_1355 rfl rfl ?_
  obtain ⟨x4, a5, c6, h3, hR⟩ := bP3_inv hR
  refine j_callSW (As := [.ref (ad L 0), .int (xs ((i + (1 : Int32))).toNatClampNeg), .int (xs ((i + (2 : Int32))).toNatClampNeg), .ref (ad L 105)]) (rest := []) X (m_L_ends hl hL hL7  h3) ml_L_240 st_yL_ends in_L cd_yL_ends hy_yL_ends dL_law_1356 ⟨(by decide), (by decide)⟩ ⟨Nat.le_trans (Nat.add_le_add_left (by decide : 2 ≤ 8) _) hcl, Nat.le_trans (Nat.add_le_add_left (by decide : 12 ≤ 64) _) hsl⟩ (Nat.le_of_ble_eq_true rfl) (fun _ h => h.elim) (fun r9 L9 f9 h9 => ?_)
  obtain ⟨h91, h92, h93⟩ := h9
  subst r9
  subst f9
  subst L9
  dsimp only [Option.toList, List.cons_append, List.nil_append, List.append]
  refine j_istore X dL_law_1359 (by decide) (lvOK_s rfl okPrev_int) ?_
  dsimp only [List.set]
  refine j_aload_n X (i := 2) dL_law_1361 rfl rfl ?_
  refine j_aload_n X (i := 0) dL_law_1362 rfl rfl ?_
  refine j_iload X dL_law_1363 rfl ?_
  refine j_iconst X (1) dL_law_1365 (by decide) ?_
  refine j_iadd X dL_law_1366 ?_
  obtain ⟨h7, hR⟩ := chkI_inv hR
  refine j_sld X hX hb hbA h7 dL_law_1367 ?_
  refine j_aload_n X (i := 0) dL_law_1368 rfl rfl ?_
  refine j_iload X dL_law_1369 rfl ?_
  refine j_iconst X (2) dL_law_1371 (by decide) ?_
  refine j_iadd X dL_law_1372 ?_
  obtain ⟨h8, hR⟩ := chkI_inv hR
  refine j_sld X hX hb hbA h8 dL_law_1373 ?_
  obtain ⟨x10, b11, h9, hR⟩ := bP2_inv hR
  refine j_callV2 X 9 (m_X9_ends hl hL  h9) ml_L_242 im_yX9_ends se_yX9_ends in_X9 cd_yX9_ends hy_yX9_ends dL_law_1374 rfl (ad_mem hL (by decide)) (FW9 hL) ⟨(by decide), (by decide)⟩ ⟨Nat.le_trans (Nat.add_le_add_left (by decide : 2 ≤ 8) _) hcl, Nat.le_trans (Nat.add_le_add_left (by decide : 12 ≤ 64) _) hsl⟩ (Nat.le_of_ble_eq_true rfl) (fun _ h => h.elim) (fun r9 L9 f9 h9 => ?_)
  obtain ⟨h91, h92, h93⟩ := h9
  subst r9
  subst f9
  subst L9
  dsimp only [Option.toList, List.cons_append, List.nil_append, List.append]
  refine j_istore X dL_law_1377 (by decide) (lvOK_s rfl okPrev_int) ?_
  dsimp only [List.set]
  refine j_aload_n X (i := 2) dL_law_1379 rfl rfl ?_
  obtain ⟨x14, h13, hR⟩ := bT_inv hR
  refine j_callV0 X 9 (m_X9_thrown hl hL  h13) ml_L_162 im_yX9_thrown se_yX9_thrown in_X9 cd_yX9_thrown hy_yX9_thrown dL_law_1380 rfl (ad_mem hL (by decide)) (FW9 hL) ⟨(by decide), (by decide)⟩ ⟨Nat.le_trans (Nat.add_le_add_left (by decide : 2 ≤ 8) _) hcl, Nat.le_trans (Nat.add_le_add_left (by decide : 12 ≤ 64) _) hsl⟩ (Nat.le_of_ble_eq_true rfl) (fun _ h => h.elim) (fun r9 L9 f9 h9 => ?_)
  obtain ⟨h91, h92, h93⟩ := h9
  subst r9
  subst f9
  subst L9
  dsimp only [Option.toList, List.cons_append, List.nil_append, List.append]
  refine j_iload X dL_law_1383 rfl ?_
  refine j_icmp_eq X (tgt := 1390) dL_law_1385 (by decide) (fun h16 => ?_) (fun h16 => ?_)
  · replace hR := (if_pos h16).symm.trans hR
    refine j_iload X dL_law_1390 rfl ?_
    refine j_if_ne X (tgt := 1407) dL_law_1392 (by decide) (fun h17 => ?_) (fun h17 => ?_)
    · replace hR := (if_neg h17).symm.trans hR
      refine j_goto X (tgt := 3067) dL_law_1407 (by decide) ?_
      have h9 := Option.some.inj hR
      rw [← (Prod.mk.inj h9).1, ← (Prod.mk.inj (Prod.mk.inj h9).2).1, ← (Prod.mk.inj (Prod.mk.inj h9).2).2] at kk
      exact J.widen (c1 := cl + 8) (s1 := sl + 64) (by omega) (by omega) (J.sub (lvle_of (by simp only [lvle, and_self])) kk)
    · replace hR := (if_pos h17).symm.trans hR
      refine j_aload_n X (i := 3) dL_law_1395 rfl rfl ?_
      refine j_iconst X (0) dL_law_1396 (by decide) ?_
      refine j_lald105 X hL hL7 dL_law_1397 ?_
      refine j_iload X dL_law_1398 rfl ?_
      refine j_i2l X dL_law_1400 ?_
      refine j_lcmp X dL_law_1401 ?_
      refine j_if_eq X (tgt := 1407) dL_law_1402 (by decide) (fun h18 => ?_) (fun h18 => ?_)
      · replace hR := (if_pos h18).symm.trans hR
        refine j_goto X (tgt := 3067) dL_law_1407 (by decide) ?_
        have h9 := Option.some.inj hR
        rw [← (Prod.mk.inj h9).1, ← (Prod.mk.inj (Prod.mk.inj h9).2).1, ← (Prod.mk.inj (Prod.mk.inj h9).2).2] at kk
        exact J.widen (c1 := cl + 8) (s1 := sl + 64) (by omega) (by omega) (J.sub (lvle_of (by simp only [lvle, and_self])) kk)
      · replace hR := (if_neg h18).symm.trans hR
        refine j_iconst X (0) dL_law_1405 (by decide) ?_
        cases hR
  · replace hR := (if_neg h16).symm.trans hR
    refine j_iconst X (0) dL_law_1388 (by decide) ?_
    cases hR
def f_case_23 (N Ln : Nat) (xs : Nat → Int32) (i : Int32) (a b c : Mem) : Option (Mem × Mem × Mem) := chkI (i + (1 : Int32)) Ln <| chkI (i + (2 : Int32)) Ln <| bP3 (f_L_endsAfter N (xs ((i + (1 : Int32))).toNatClampNeg) (xs ((i + (2 : Int32))).toNatClampNeg) a c) fun x4 a5 c6 => chkI (i + (1 : Int32)) Ln <| chkI (i + (2 : Int32)) Ln <| bP2 (f_X9_endsAfter N (xs ((i + (1 : Int32))).toNatClampNeg) (xs ((i + (2 : Int32))).toNatClampNeg) b) fun x10 b11 => bT (f_X9_thrown  b11) fun x14 => if x14 = x4 then (if x4 = 0 then (if (lg_cmp (Int32.toInt64 (c6 0 0)) (Int32.toInt64 x10)) = 0 then (some (a5, b11, c6)) else (none)) else (some (a5, b11, c6))) else (none)
set_option maxRecDepth 100000 in
set_option maxHeartbeats 4000000 in
theorem m_case_23 (X : Cx G p l s m args meth c9 A RL cL_law 9 ret9 tb) (hl : l.stackTraces = false) (hL : LOK L) (hL7 : L.length = 107) {N Ln sb : Nat} {xs : Nat → Int32} (hX : va_X sb Ln xs s s.heap) (hb : sb < s.heap.size) (hbA : ¬ A sb) {cl sl : Nat} (hcl : cl + 8 ≤ 601024) (hsl : sl + 64 ≤ 7293034) {i : Int32} {a b c a' b' c' : Mem} (hR : f_case_23 N Ln xs i a b c = some (a', b', c')) (kk : J G p l e ({ frames := 14, cells := 601024, slots := 7293034, locals := 524 } : Room) s m args below meth c9 A Q 9 (cl + 8) (sl + 64) 3067 [some (.ref sb), some (.ref (ad L 0)), some (.ref (ad L 96)), some (.ref (ad L 105)), some (.ref (ad L 106)), some (.int i), none, none, none] [] L (FW G L a' b' c')) : J G p l e ({ frames := 14, cells := 601024, slots := 7293034, locals := 524 } : Room) s m args below meth c9 A Q 9 cl sl 1410 [some (.ref sb), some (.ref (ad L 0)), some (.ref (ad L 96)), some (.ref (ad L 105)), some (.ref (ad L 106)), some (.int i), none, none, none] [] L (FW G L a b c) := by
  unfold f_case_23 at hR
  refine j_aload_n X (i := 1) dL_law_1410 rfl rfl ?_
  refine j_aload_n X (i := 0) dL_law_1411 rfl rfl ?_
  refine j_iload X dL_law_1412 rfl ?_
  refine j_iconst X (1) dL_law_1414 (by decide) ?_
  refine j_iadd X dL_law_1415 ?_
  obtain ⟨h1, hR⟩ := chkI_inv hR
  refine j_sld X hX hb hbA h1 dL_law_1416 ?_
  refine j_aload_n X (i := 0) dL_law_1417 rfl rfl ?_
  refine j_iload X dL_law_1418 rfl ?_
  refine j_iconst X (2) dL_law_1420 (by decide) ?_
  refine j_iadd X dL_law_1421 ?_
  obtain ⟨h2, hR⟩ := chkI_inv hR
  refine j_sld X hX hb hbA h2 dL_law_1422 ?_
  refine j_aload_n X (i := 3) dL_law_1423 rfl rfl ?_
  obtain ⟨x4, a5, c6, h3, hR⟩ := bP3_inv hR
  refine j_callSW (As := [.ref (ad L 0), .int (xs ((i + (1 : Int32))).toNatClampNeg), .int (xs ((i + (2 : Int32))).toNatClampNeg), .ref (ad L 105)]) (rest := []) X (m_L_endsAfter hl hL hL7  h3) ml_L_243 st_yL_endsAfter in_L cd_yL_endsAfter hy_yL_endsAfter dL_law_1424 ⟨(by decide), (by decide)⟩ ⟨Nat.le_trans (Nat.add_le_add_left (by decide : 2 ≤ 8) _) hcl, Nat.le_trans (Nat.add_le_add_left (by decide : 12 ≤ 64) _) hsl⟩ (Nat.le_of_ble_eq_true rfl) (fun _ h => h.elim) (fun r9 L9 f9 h9 => ?_)
  obtain ⟨h91, h92, h93⟩ := h9
  subst r9
  subst f9
  subst L9
  dsimp only [Option.toList, List.cons_append, List.nil_append, List.append]
  refine j_istore X dL_law_1427 (by decide) (lvOK_s rfl okPrev_int) ?_
  dsimp only [List.set]
  refine j_aload_n X (i := 2) dL_law_1429 rfl rfl ?_
  refine j_aload_n X (i := 0) dL_law_1430 rfl rfl ?_
  refine j_iload X dL_law_1431 rfl ?_
  refine j_iconst X (1) dL_law_1433 (by decide) ?_
  refine j_iadd X dL_law_1434 ?_
  obtain ⟨h7, hR⟩ := chkI_inv hR
  refine j_sld X hX hb hbA h7 dL_law_1435 ?_
  refine j_aload_n X (i := 0) dL_law_1436 rfl rfl ?_
  refine j_iload X dL_law_1437 rfl ?_
  refine j_iconst X (2) dL_law_1439 (by decide) ?_
  refine j_iadd X dL_law_1440 ?_
  obtain ⟨h8, hR⟩ := chkI_inv hR
  refine j_sld X hX hb hbA h8 dL_law_1441 ?_
  obtain ⟨x10, b11, h9, hR⟩ := bP2_inv hR
  refine j_callV2 X 9 (m_X9_endsAfter hl hL  h9) ml_L_245 im_yX9_endsAfter se_yX9_endsAfter in_X9 cd_yX9_endsAfter hy_yX9_endsAfter dL_law_1442 rfl (ad_mem hL (by decide)) (FW9 hL) ⟨(by decide), (by decide)⟩ ⟨Nat.le_trans (Nat.add_le_add_left (by decide : 2 ≤ 8) _) hcl, Nat.le_trans (Nat.add_le_add_left (by decide : 12 ≤ 64) _) hsl⟩ (Nat.le_of_ble_eq_true rfl) (fun _ h => h.elim) (fun r9 L9 f9 h9 => ?_)
  obtain ⟨h91, h92, h93⟩ := h9
  subst r9
  subst f9
  subst L9
  dsimp only [Option.toList, List.cons_append, List.nil_append, List.append]
  refine j_istore X dL_law_1445 (by decide) (lvOK_s rfl okPrev_int) ?_
  dsimp only [List.set]
  refine j_aload_n X (i := 2) dL_law_1447 rfl rfl ?_
  obtain ⟨x14, h13, hR⟩ := bT_inv hR
  refine j_callV0 X 9 (m_X9_thrown hl hL  h13) ml_L_162 im_yX9_thrown se_yX9_thrown in_X9 cd_yX9_thrown hy_yX9_thrown dL_law_1448 rfl (ad_mem hL (by decide)) (FW9 hL) ⟨(by decide), (by decide)⟩ ⟨Nat.le_trans (Nat.add_le_add_left (by decide : 2 ≤ 8) _) hcl, Nat.le_trans (Nat.add_le_add_left (by decide : 12 ≤ 64) _) hsl⟩ (Nat.le_of_ble_eq_true rfl) (fun _ h => h.elim) (fun r9 L9 f9 h9 => ?_)
  obtain ⟨h91, h92, h93⟩ := h9
  subst r9
  subst f9
  subst L9
  dsimp only [Option.toList, List.cons_append, List.nil_append, List.append]
  refine j_iload X dL_law_1451 rfl ?_
  refine j_icmp_eq X (tgt := 1458) dL_law_1453 (by decide) (fun h16 => ?_) (fun h16 => ?_)
  · replace hR := (if_pos h16).symm.trans hR
    refine j_iload X dL_law_1458 rfl ?_
    refine j_if_ne X (tgt := 1475) dL_law_1460 (by decide) (fun h17 => ?_) (fun h17 => ?_)
    · replace hR := (if_neg h17).symm.trans hR
      refine j_goto X (tgt := 3067) dL_law_1475 (by decide) ?_
      have h9 := Option.some.inj hR
      rw [← (Prod.mk.inj h9).1, ← (Prod.mk.inj (Prod.mk.inj h9).2).1, ← (Prod.mk.inj (Prod.mk.inj h9).2).2] at kk
      exact J.widen (c1 := cl + 8) (s1 := sl + 64) (by omega) (by omega) (J.sub (lvle_of (by simp only [lvle, and_self])) kk)
    · replace hR := (if_pos h17).symm.trans hR
      refine j_aload_n X (i := 3) dL_law_1463 rfl rfl ?_
      refine j_iconst X (0) dL_law_1464 (by decide) ?_
      refine j_lald105 X hL hL7 dL_law_1465 ?_
      refine j_iload X dL_law_1466 rfl ?_
      refine j_i2l X dL_law_1468 ?_
      refine j_lcmp X dL_law_1469 ?_
      refine j_if_eq X (tgt := 1475) dL_law_1470 (by decide) (fun h18 => ?_) (fun h18 => ?_)
      · replace hR := (if_pos h18).symm.trans hR
        refine j_goto X (tgt := 3067) dL_law_1475 (by decide) ?_
        have h9 := Option.some.inj hR
        rw [← (Prod.mk.inj h9).1, ← (Prod.mk.inj (Prod.mk.inj h9).2).1, ← (Prod.mk.inj (Prod.mk.inj h9).2).2] at kk
        exact J.widen (c1 := cl + 8) (s1 := sl + 64) (by omega) (by omega) (J.sub (lvle_of (by simp only [lvle, and_self])) kk)
      · replace hR := (if_neg h18).symm.trans hR
        refine j_iconst X (0) dL_law_1473 (by decide) ?_
        cases hR
  · replace hR := (if_neg h16).symm.trans hR
    refine j_iconst X (0) dL_law_1456 (by decide) ?_
    cases hR
def f_case_24 (N Ln : Nat) (xs : Nat → Int32) (i : Int32) (a b c : Mem) : Option (Mem × Mem × Mem) := chkI (i + (1 : Int32)) Ln <| chkI (i + (2 : Int32)) Ln <| chkI (i + (3 : Int32)) Ln <| bP3 (f_L_movesIn N (xs ((i + (1 : Int32))).toNatClampNeg) (xs ((i + (2 : Int32))).toNatClampNeg) (xs ((i + (3 : Int32))).toNatClampNeg) a c) fun x5 a6 c7 => chkI (i + (1 : Int32)) Ln <| chkI (i + (2 : Int32)) Ln <| chkI (i + (3 : Int32)) Ln <| bP2 (f_X9_movesIn N (xs ((i + (1 : Int32))).toNatClampNeg) (xs ((i + (2 : Int32))).toNatClampNeg) (xs ((i + (3 : Int32))).toNatClampNeg) b) fun x12 b13 => bT (f_X9_thrown  b13) fun x16 => if x16 = x5 then (if x5 = 0 then (if (lg_cmp (Int32.toInt64 (c7 0 0)) (Int32.toInt64 x12)) = 0 then (some (a6, b13, c7)) else (none)) else (some (a6, b13, c7))) else (none)
set_option maxRecDepth 100000 in
set_option maxHeartbeats 4000000 in
theorem m_case_24 (X : Cx G p l s m args meth c9 A RL cL_law 9 ret9 tb) (hl : l.stackTraces = false) (hL : LOK L) (hL7 : L.length = 107) {N Ln sb : Nat} {xs : Nat → Int32} (hX : va_X sb Ln xs s s.heap) (hb : sb < s.heap.size) (hbA : ¬ A sb) {cl sl : Nat} (hcl : cl + 8 ≤ 601024) (hsl : sl + 64 ≤ 7293034) {i : Int32} {a b c a' b' c' : Mem} (hR : f_case_24 N Ln xs i a b c = some (a', b', c')) (kk : J G p l e ({ frames := 14, cells := 601024, slots := 7293034, locals := 524 } : Room) s m args below meth c9 A Q 9 (cl + 8) (sl + 64) 3067 [some (.ref sb), some (.ref (ad L 0)), some (.ref (ad L 96)), some (.ref (ad L 105)), some (.ref (ad L 106)), some (.int i), none, none, none] [] L (FW G L a' b' c')) : J G p l e ({ frames := 14, cells := 601024, slots := 7293034, locals := 524 } : Room) s m args below meth c9 A Q 9 cl sl 1478 [some (.ref sb), some (.ref (ad L 0)), some (.ref (ad L 96)), some (.ref (ad L 105)), some (.ref (ad L 106)), some (.int i), none, none, none] [] L (FW G L a b c) := by
  unfold f_case_24 at hR
  refine j_aload_n X (i := 1) dL_law_1478 rfl rfl ?_
  refine j_aload_n X (i := 0) dL_law_1479 rfl rfl ?_
  refine j_iload X dL_law_1480 rfl ?_
  refine j_iconst X (1) dL_law_1482 (by decide) ?_
  refine j_iadd X dL_law_1483 ?_
  obtain ⟨h1, hR⟩ := chkI_inv hR
  refine j_sld X hX hb hbA h1 dL_law_1484 ?_
  refine j_aload_n X (i := 0) dL_law_1485 rfl rfl ?_
  refine j_iload X dL_law_1486 rfl ?_
  refine j_iconst X (2) dL_law_1488 (by decide) ?_
  refine j_iadd X dL_law_1489 ?_
  obtain ⟨h2, hR⟩ := chkI_inv hR
  refine j_sld X hX hb hbA h2 dL_law_1490 ?_
  refine j_aload_n X (i := 0) dL_law_1491 rfl rfl ?_
  refine j_iload X dL_law_1492 rfl ?_
  refine j_iconst X (3) dL_law_1494 (by decide) ?_
  refine j_iadd X dL_law_1495 ?_
  obtain ⟨h3, hR⟩ := chkI_inv hR
  refine j_sld X hX hb hbA h3 dL_law_1496 ?_
  refine j_aload_n X (i := 3) dL_law_1497 rfl rfl ?_
  obtain ⟨x5, a6, c7, h4, hR⟩ := bP3_inv hR
  refine j_callSW (As := [.ref (ad L 0), .int (xs ((i + (1 : Int32))).toNatClampNeg), .int (xs ((i + (2 : Int32))).toNatClampNeg), .int (xs ((i + (3 : Int32))).toNatClampNeg), .ref (ad L 105)]) (rest := []) X (m_L_movesIn hl hL hL7  h4) ml_L_246 st_yL_movesIn in_L cd_yL_movesIn hy_yL_movesIn dL_law_1498 ⟨(by decide), (by decide)⟩ ⟨Nat.le_trans (Nat.add_le_add_left (by decide : 3 ≤ 8) _) hcl, Nat.le_trans (Nat.add_le_add_left (by decide : 18 ≤ 64) _) hsl⟩ (Nat.le_of_ble_eq_true rfl) (fun _ h => h.elim) (fun r9 L9 f9 h9 => ?_)
  obtain ⟨h91, h92, h93⟩ := h9
  subst r9
  subst f9
  subst L9
  dsimp only [Option.toList, List.cons_append, List.nil_append, List.append]
  refine j_istore X dL_law_1501 (by decide) (lvOK_s rfl okPrev_int) ?_
  dsimp only [List.set]
  refine j_aload_n X (i := 2) dL_law_1503 rfl rfl ?_
  refine j_aload_n X (i := 0) dL_law_1504 rfl rfl ?_
  refine j_iload X dL_law_1505 rfl ?_
  refine j_iconst X (1) dL_law_1507 (by decide) ?_
  refine j_iadd X dL_law_1508 ?_
  obtain ⟨h8, hR⟩ := chkI_inv hR
  refine j_sld X hX hb hbA h8 dL_law_1509 ?_
  refine j_aload_n X (i := 0) dL_law_1510 rfl rfl ?_
  refine j_iload X dL_law_1511 rfl ?_
  refine j_iconst X (2) dL_law_1513 (by decide) ?_
  refine j_iadd X dL_law_1514 ?_
  obtain ⟨h9, hR⟩ := chkI_inv hR
  refine j_sld X hX hb hbA h9 dL_law_1515 ?_
  refine j_aload_n X (i := 0) dL_law_1516 rfl rfl ?_
  refine j_iload X dL_law_1517 rfl ?_
  refine j_iconst X (3) dL_law_1519 (by decide) ?_
  refine j_iadd X dL_law_1520 ?_
  obtain ⟨h10, hR⟩ := chkI_inv hR
  refine j_sld X hX hb hbA h10 dL_law_1521 ?_
  obtain ⟨x12, b13, h11, hR⟩ := bP2_inv hR
  refine j_callV3 X 9 (m_X9_movesIn hl hL  h11) ml_L_249 im_yX9_movesIn se_yX9_movesIn in_X9 cd_yX9_movesIn hy_yX9_movesIn dL_law_1522 rfl (ad_mem hL (by decide)) (FW9 hL) ⟨(by decide), (by decide)⟩ ⟨Nat.le_trans (Nat.add_le_add_left (by decide : 3 ≤ 8) _) hcl, Nat.le_trans (Nat.add_le_add_left (by decide : 18 ≤ 64) _) hsl⟩ (Nat.le_of_ble_eq_true rfl) (fun _ h => h.elim) (fun r9 L9 f9 h9 => ?_)
  obtain ⟨h91, h92, h93⟩ := h9
  subst r9
  subst f9
  subst L9
  dsimp only [Option.toList, List.cons_append, List.nil_append, List.append]
  refine j_istore X dL_law_1525 (by decide) (lvOK_s rfl okPrev_int) ?_
  dsimp only [List.set]
  refine j_aload_n X (i := 2) dL_law_1527 rfl rfl ?_
  obtain ⟨x16, h15, hR⟩ := bT_inv hR
  refine j_callV0 X 9 (m_X9_thrown hl hL  h15) ml_L_162 im_yX9_thrown se_yX9_thrown in_X9 cd_yX9_thrown hy_yX9_thrown dL_law_1528 rfl (ad_mem hL (by decide)) (FW9 hL) ⟨(by decide), (by decide)⟩ ⟨Nat.le_trans (Nat.add_le_add_left (by decide : 3 ≤ 8) _) hcl, Nat.le_trans (Nat.add_le_add_left (by decide : 18 ≤ 64) _) hsl⟩ (Nat.le_of_ble_eq_true rfl) (fun _ h => h.elim) (fun r9 L9 f9 h9 => ?_)
  obtain ⟨h91, h92, h93⟩ := h9
  subst r9
  subst f9
  subst L9
  dsimp only [Option.toList, List.cons_append, List.nil_append, List.append]
  refine j_iload X dL_law_1531 rfl ?_
  refine j_icmp_eq X (tgt := 1538) dL_law_1533 (by decide) (fun h18 => ?_) (fun h18 => ?_)
  · replace hR := (if_pos h18).symm.trans hR
    refine j_iload X dL_law_1538 rfl ?_
    refine j_if_ne X (tgt := 1555) dL_law_1540 (by decide) (fun h19 => ?_) (fun h19 => ?_)
    · replace hR := (if_neg h19).symm.trans hR
      refine j_goto X (tgt := 3067) dL_law_1555 (by decide) ?_
      have h9 := Option.some.inj hR
      rw [← (Prod.mk.inj h9).1, ← (Prod.mk.inj (Prod.mk.inj h9).2).1, ← (Prod.mk.inj (Prod.mk.inj h9).2).2] at kk
      exact J.widen (c1 := cl + 8) (s1 := sl + 64) (by omega) (by omega) (J.sub (lvle_of (by simp only [lvle, and_self])) kk)
    · replace hR := (if_pos h19).symm.trans hR
      refine j_aload_n X (i := 3) dL_law_1543 rfl rfl ?_
      refine j_iconst X (0) dL_law_1544 (by decide) ?_
      refine j_lald105 X hL hL7 dL_law_1545 ?_
      refine j_iload X dL_law_1546 rfl ?_
      refine j_i2l X dL_law_1548 ?_
      refine j_lcmp X dL_law_1549 ?_
      refine j_if_eq X (tgt := 1555) dL_law_1550 (by decide) (fun h20 => ?_) (fun h20 => ?_)
      · replace hR := (if_pos h20).symm.trans hR
        refine j_goto X (tgt := 3067) dL_law_1555 (by decide) ?_
        have h9 := Option.some.inj hR
        rw [← (Prod.mk.inj h9).1, ← (Prod.mk.inj (Prod.mk.inj h9).2).1, ← (Prod.mk.inj (Prod.mk.inj h9).2).2] at kk
        exact J.widen (c1 := cl + 8) (s1 := sl + 64) (by omega) (by omega) (J.sub (lvle_of (by simp only [lvle, and_self])) kk)
      · replace hR := (if_neg h20).symm.trans hR
        refine j_iconst X (0) dL_law_1553 (by decide) ?_
        cases hR
  · replace hR := (if_neg h18).symm.trans hR
    refine j_iconst X (0) dL_law_1536 (by decide) ?_
    cases hR
def f_case_25 (N Ln : Nat) (xs : Nat → Int32) (i : Int32) (a b c : Mem) : Option (Mem × Mem × Mem) := chkI (i + (1 : Int32)) Ln <| bP3 (f_L_gained N (xs ((i + (1 : Int32))).toNatClampNeg) a c) fun x3 a4 c5 => chkI (i + (1 : Int32)) Ln <| bP2 (f_X9_gained N (xs ((i + (1 : Int32))).toNatClampNeg) b) fun x8 b9 => bT (f_X9_thrown  b9) fun x12 => if x12 = x3 then (if x3 = 0 then (if (lg_cmp (Int32.toInt64 (c5 0 0)) (Int32.toInt64 x8)) = 0 then (some (a4, b9, c5)) else (none)) else (some (a4, b9, c5))) else (none)
set_option maxRecDepth 100000 in
set_option maxHeartbeats 4000000 in
theorem m_case_25 (X : Cx G p l s m args meth c9 A RL cL_law 9 ret9 tb) (hl : l.stackTraces = false) (hL : LOK L) (hL7 : L.length = 107) {N Ln sb : Nat} {xs : Nat → Int32} (hX : va_X sb Ln xs s s.heap) (hb : sb < s.heap.size) (hbA : ¬ A sb) {cl sl : Nat} (hcl : cl + 8 ≤ 601024) (hsl : sl + 64 ≤ 7293034) {i : Int32} {a b c a' b' c' : Mem} (hR : f_case_25 N Ln xs i a b c = some (a', b', c')) (kk : J G p l e ({ frames := 14, cells := 601024, slots := 7293034, locals := 524 } : Room) s m args below meth c9 A Q 9 (cl + 8) (sl + 64) 3067 [some (.ref sb), some (.ref (ad L 0)), some (.ref (ad L 96)), some (.ref (ad L 105)), some (.ref (ad L 106)), some (.int i), none, none, none] [] L (FW G L a' b' c')) : J G p l e ({ frames := 14, cells := 601024, slots := 7293034, locals := 524 } : Room) s m args below meth c9 A Q 9 cl sl 1558 [some (.ref sb), some (.ref (ad L 0)), some (.ref (ad L 96)), some (.ref (ad L 105)), some (.ref (ad L 106)), some (.int i), none, none, none] [] L (FW G L a b c) := by
  unfold f_case_25 at hR
  refine j_aload_n X (i := 1) dL_law_1558 rfl rfl ?_
  refine j_aload_n X (i := 0) dL_law_1559 rfl rfl ?_
  refine j_iload X dL_law_1560 rfl ?_
  refine j_iconst X (1) dL_law_1562 (by decide) ?_
  refine j_iadd X dL_law_1563 ?_
  obtain ⟨h1, hR⟩ := chkI_inv hR
  refine j_sld X hX hb hbA h1 dL_law_1564 ?_
  refine j_aload_n X (i := 3) dL_law_1565 rfl rfl ?_
  obtain ⟨x3, a4, c5, h2, hR⟩ := bP3_inv hR
  refine j_callSW (As := [.ref (ad L 0), .int (xs ((i + (1 : Int32))).toNatClampNeg), .ref (ad L 105)]) (rest := []) X (m_L_gained hl hL hL7  h2) ml_L_250 st_yL_gained in_L cd_yL_gained hy_yL_gained dL_law_1566 ⟨(by decide), (by decide)⟩ ⟨Nat.le_trans (Nat.add_le_add_left (by decide : 1 ≤ 8) _) hcl, Nat.le_trans (Nat.add_le_add_left (by decide : 6 ≤ 64) _) hsl⟩ (Nat.le_of_ble_eq_true rfl) (fun _ h => h.elim) (fun r9 L9 f9 h9 => ?_)
  obtain ⟨h91, h92, h93⟩ := h9
  subst r9
  subst f9
  subst L9
  dsimp only [Option.toList, List.cons_append, List.nil_append, List.append]
  refine j_istore X dL_law_1569 (by decide) (lvOK_s rfl okPrev_int) ?_
  dsimp only [List.set]
  refine j_aload_n X (i := 2) dL_law_1571 rfl rfl ?_
  refine j_aload_n X (i := 0) dL_law_1572 rfl rfl ?_
  refine j_iload X dL_law_1573 rfl ?_
  refine j_iconst X (1) dL_law_1575 (by decide) ?_
  refine j_iadd X dL_law_1576 ?_
  obtain ⟨h6, hR⟩ := chkI_inv hR
  refine j_sld X hX hb hbA h6 dL_law_1577 ?_
  obtain ⟨x8, b9, h7, hR⟩ := bP2_inv hR
  refine j_callV1 X 9 (m_X9_gained hl hL  h7) ml_L_252 im_yX9_gained se_yX9_gained in_X9 cd_yX9_gained hy_yX9_gained dL_law_1578 rfl (ad_mem hL (by decide)) (FW9 hL) ⟨(by decide), (by decide)⟩ ⟨Nat.le_trans (Nat.add_le_add_left (by decide : 1 ≤ 8) _) hcl, Nat.le_trans (Nat.add_le_add_left (by decide : 6 ≤ 64) _) hsl⟩ (Nat.le_of_ble_eq_true rfl) (fun _ h => h.elim) (fun r9 L9 f9 h9 => ?_)
  obtain ⟨h91, h92, h93⟩ := h9
  subst r9
  subst f9
  subst L9
  dsimp only [Option.toList, List.cons_append, List.nil_append, List.append]
  refine j_istore X dL_law_1581 (by decide) (lvOK_s rfl okPrev_int) ?_
  dsimp only [List.set]
  refine j_aload_n X (i := 2) dL_law_1583 rfl rfl ?_
  obtain ⟨x12, h11, hR⟩ := bT_inv hR
  refine j_callV0 X 9 (m_X9_thrown hl hL  h11) ml_L_162 im_yX9_thrown se_yX9_thrown in_X9 cd_yX9_thrown hy_yX9_thrown dL_law_1584 rfl (ad_mem hL (by decide)) (FW9 hL) ⟨(by decide), (by decide)⟩ ⟨Nat.le_trans (Nat.add_le_add_left (by decide : 1 ≤ 8) _) hcl, Nat.le_trans (Nat.add_le_add_left (by decide : 6 ≤ 64) _) hsl⟩ (Nat.le_of_ble_eq_true rfl) (fun _ h => h.elim) (fun r9 L9 f9 h9 => ?_)
  obtain ⟨h91, h92, h93⟩ := h9
  subst r9
  subst f9
  subst L9
  dsimp only [Option.toList, List.cons_append, List.nil_append, List.append]
  refine j_iload X dL_law_1587 rfl ?_
  refine j_icmp_eq X (tgt := 1594) dL_law_1589 (by decide) (fun h14 => ?_) (fun h14 => ?_)
  · replace hR := (if_pos h14).symm.trans hR
    refine j_iload X dL_law_1594 rfl ?_
    refine j_if_ne X (tgt := 1611) dL_law_1596 (by decide) (fun h15 => ?_) (fun h15 => ?_)
    · replace hR := (if_neg h15).symm.trans hR
      refine j_goto X (tgt := 3067) dL_law_1611 (by decide) ?_
      have h9 := Option.some.inj hR
      rw [← (Prod.mk.inj h9).1, ← (Prod.mk.inj (Prod.mk.inj h9).2).1, ← (Prod.mk.inj (Prod.mk.inj h9).2).2] at kk
      exact J.widen (c1 := cl + 8) (s1 := sl + 64) (by omega) (by omega) (J.sub (lvle_of (by simp only [lvle, and_self])) kk)
    · replace hR := (if_pos h15).symm.trans hR
      refine j_aload_n X (i := 3) dL_law_1599 rfl rfl ?_
      refine j_iconst X (0) dL_law_1600 (by decide) ?_
      refine j_lald105 X hL hL7 dL_law_1601 ?_
      refine j_iload X dL_law_1602 rfl ?_
      refine j_i2l X dL_law_1604 ?_
      refine j_lcmp X dL_law_1605 ?_
      refine j_if_eq X (tgt := 1611) dL_law_1606 (by decide) (fun h16 => ?_) (fun h16 => ?_)
      · replace hR := (if_pos h16).symm.trans hR
        refine j_goto X (tgt := 3067) dL_law_1611 (by decide) ?_
        have h9 := Option.some.inj hR
        rw [← (Prod.mk.inj h9).1, ← (Prod.mk.inj (Prod.mk.inj h9).2).1, ← (Prod.mk.inj (Prod.mk.inj h9).2).2] at kk
        exact J.widen (c1 := cl + 8) (s1 := sl + 64) (by omega) (by omega) (J.sub (lvle_of (by simp only [lvle, and_self])) kk)
      · replace hR := (if_neg h16).symm.trans hR
        refine j_iconst X (0) dL_law_1609 (by decide) ?_
        cases hR
  · replace hR := (if_neg h14).symm.trans hR
    refine j_iconst X (0) dL_law_1592 (by decide) ?_
    cases hR
def f_case_26 (N Ln : Nat) (xs : Nat → Int32) (i : Int32) (a b c : Mem) : Option (Mem × Mem × Mem) := chkI (i + (1 : Int32)) Ln <| bP3 (f_L_finished (xs ((i + (1 : Int32))).toNatClampNeg) a c) fun x3 a4 c5 => chkI (i + (1 : Int32)) Ln <| bP2 (f_X9_finished N (xs ((i + (1 : Int32))).toNatClampNeg) b) fun x8 b9 => bT (f_X9_thrown  b9) fun x12 => if x12 = x3 then (if x3 = 0 then (if (lg_cmp (Int32.toInt64 (c5 0 0)) (Int32.toInt64 x8)) = 0 then (some (a4, b9, c5)) else (none)) else (some (a4, b9, c5))) else (none)
set_option maxRecDepth 100000 in
set_option maxHeartbeats 4000000 in
theorem m_case_26 (X : Cx G p l s m args meth c9 A RL cL_law 9 ret9 tb) (hl : l.stackTraces = false) (hL : LOK L) (hL7 : L.length = 107) {N Ln sb : Nat} {xs : Nat → Int32} (hX : va_X sb Ln xs s s.heap) (hb : sb < s.heap.size) (hbA : ¬ A sb) {cl sl : Nat} (hcl : cl + 8 ≤ 601024) (hsl : sl + 64 ≤ 7293034) {i : Int32} {a b c a' b' c' : Mem} (hR : f_case_26 N Ln xs i a b c = some (a', b', c')) (kk : J G p l e ({ frames := 14, cells := 601024, slots := 7293034, locals := 524 } : Room) s m args below meth c9 A Q 9 (cl + 8) (sl + 64) 3067 [some (.ref sb), some (.ref (ad L 0)), some (.ref (ad L 96)), some (.ref (ad L 105)), some (.ref (ad L 106)), some (.int i), none, none, none] [] L (FW G L a' b' c')) : J G p l e ({ frames := 14, cells := 601024, slots := 7293034, locals := 524 } : Room) s m args below meth c9 A Q 9 cl sl 1614 [some (.ref sb), some (.ref (ad L 0)), some (.ref (ad L 96)), some (.ref (ad L 105)), some (.ref (ad L 106)), some (.int i), none, none, none] [] L (FW G L a b c) := by
  unfold f_case_26 at hR
  refine j_aload_n X (i := 1) dL_law_1614 rfl rfl ?_
  refine j_aload_n X (i := 0) dL_law_1615 rfl rfl ?_
  refine j_iload X dL_law_1616 rfl ?_
  refine j_iconst X (1) dL_law_1618 (by decide) ?_
  refine j_iadd X dL_law_1619 ?_
  obtain ⟨h1, hR⟩ := chkI_inv hR
  refine j_sld X hX hb hbA h1 dL_law_1620 ?_
  refine j_aload_n X (i := 3) dL_law_1621 rfl rfl ?_
  obtain ⟨x3, a4, c5, h2, hR⟩ := bP3_inv hR
  refine j_callSW (As := [.ref (ad L 0), .int (xs ((i + (1 : Int32))).toNatClampNeg), .ref (ad L 105)]) (rest := []) X (m_L_finished hl hL hL7  h2) ml_L_253 st_yL_finished in_L cd_yL_finished hy_yL_finished dL_law_1622 ⟨(by decide), (by decide)⟩ ⟨Nat.le_trans (Nat.add_le_add_left (by decide : 1 ≤ 8) _) hcl, Nat.le_trans (Nat.add_le_add_left (by decide : 6 ≤ 64) _) hsl⟩ (Nat.le_of_ble_eq_true rfl) (fun _ h => h.elim) (fun r9 L9 f9 h9 => ?_)
  obtain ⟨h91, h92, h93⟩ := h9
  subst r9
  subst f9
  subst L9
  dsimp only [Option.toList, List.cons_append, List.nil_append, List.append]
  refine j_istore X dL_law_1625 (by decide) (lvOK_s rfl okPrev_int) ?_
  dsimp only [List.set]
  refine j_aload_n X (i := 2) dL_law_1627 rfl rfl ?_
  refine j_aload_n X (i := 0) dL_law_1628 rfl rfl ?_
  refine j_iload X dL_law_1629 rfl ?_
  refine j_iconst X (1) dL_law_1631 (by decide) ?_
  refine j_iadd X dL_law_1632 ?_
  obtain ⟨h6, hR⟩ := chkI_inv hR
  refine j_sld X hX hb hbA h6 dL_law_1633 ?_
  obtain ⟨x8, b9, h7, hR⟩ := bP2_inv hR
  refine j_callV1 X 9 (m_X9_finished hl hL  h7) ml_L_255 im_yX9_finished se_yX9_finished in_X9 cd_yX9_finished hy_yX9_finished dL_law_1634 rfl (ad_mem hL (by decide)) (FW9 hL) ⟨(by decide), (by decide)⟩ ⟨Nat.le_trans (Nat.add_le_add_left (by decide : 1 ≤ 8) _) hcl, Nat.le_trans (Nat.add_le_add_left (by decide : 6 ≤ 64) _) hsl⟩ (Nat.le_of_ble_eq_true rfl) (fun _ h => h.elim) (fun r9 L9 f9 h9 => ?_)
  obtain ⟨h91, h92, h93⟩ := h9
  subst r9
  subst f9
  subst L9
  dsimp only [Option.toList, List.cons_append, List.nil_append, List.append]
  refine j_istore X dL_law_1637 (by decide) (lvOK_s rfl okPrev_int) ?_
  dsimp only [List.set]
  refine j_aload_n X (i := 2) dL_law_1639 rfl rfl ?_
  obtain ⟨x12, h11, hR⟩ := bT_inv hR
  refine j_callV0 X 9 (m_X9_thrown hl hL  h11) ml_L_162 im_yX9_thrown se_yX9_thrown in_X9 cd_yX9_thrown hy_yX9_thrown dL_law_1640 rfl (ad_mem hL (by decide)) (FW9 hL) ⟨(by decide), (by decide)⟩ ⟨Nat.le_trans (Nat.add_le_add_left (by decide : 1 ≤ 8) _) hcl, Nat.le_trans (Nat.add_le_add_left (by decide : 6 ≤ 64) _) hsl⟩ (Nat.le_of_ble_eq_true rfl) (fun _ h => h.elim) (fun r9 L9 f9 h9 => ?_)
  obtain ⟨h91, h92, h93⟩ := h9
  subst r9
  subst f9
  subst L9
  dsimp only [Option.toList, List.cons_append, List.nil_append, List.append]
  refine j_iload X dL_law_1643 rfl ?_
  refine j_icmp_eq X (tgt := 1650) dL_law_1645 (by decide) (fun h14 => ?_) (fun h14 => ?_)
  · replace hR := (if_pos h14).symm.trans hR
    refine j_iload X dL_law_1650 rfl ?_
    refine j_if_ne X (tgt := 1667) dL_law_1652 (by decide) (fun h15 => ?_) (fun h15 => ?_)
    · replace hR := (if_neg h15).symm.trans hR
      refine j_goto X (tgt := 3067) dL_law_1667 (by decide) ?_
      have h9 := Option.some.inj hR
      rw [← (Prod.mk.inj h9).1, ← (Prod.mk.inj (Prod.mk.inj h9).2).1, ← (Prod.mk.inj (Prod.mk.inj h9).2).2] at kk
      exact J.widen (c1 := cl + 8) (s1 := sl + 64) (by omega) (by omega) (J.sub (lvle_of (by simp only [lvle, and_self])) kk)
    · replace hR := (if_pos h15).symm.trans hR
      refine j_aload_n X (i := 3) dL_law_1655 rfl rfl ?_
      refine j_iconst X (0) dL_law_1656 (by decide) ?_
      refine j_lald105 X hL hL7 dL_law_1657 ?_
      refine j_iload X dL_law_1658 rfl ?_
      refine j_i2l X dL_law_1660 ?_
      refine j_lcmp X dL_law_1661 ?_
      refine j_if_eq X (tgt := 1667) dL_law_1662 (by decide) (fun h16 => ?_) (fun h16 => ?_)
      · replace hR := (if_pos h16).symm.trans hR
        refine j_goto X (tgt := 3067) dL_law_1667 (by decide) ?_
        have h9 := Option.some.inj hR
        rw [← (Prod.mk.inj h9).1, ← (Prod.mk.inj (Prod.mk.inj h9).2).1, ← (Prod.mk.inj (Prod.mk.inj h9).2).2] at kk
        exact J.widen (c1 := cl + 8) (s1 := sl + 64) (by omega) (by omega) (J.sub (lvle_of (by simp only [lvle, and_self])) kk)
      · replace hR := (if_neg h16).symm.trans hR
        refine j_iconst X (0) dL_law_1665 (by decide) ?_
        cases hR
  · replace hR := (if_neg h14).symm.trans hR
    refine j_iconst X (0) dL_law_1648 (by decide) ?_
    cases hR
def f_case_27 (N Ln : Nat) (xs : Nat → Int32) (i : Int32) (a b c : Mem) : Option (Mem × Mem × Mem) := chkI (i + (1 : Int32)) Ln <| chkI (i + (2 : Int32)) Ln <| bP3 (f_L_spent (xs ((i + (1 : Int32))).toNatClampNeg) (xs ((i + (2 : Int32))).toNatClampNeg) a c) fun x4 a5 c6 => chkI (i + (1 : Int32)) Ln <| chkI (i + (2 : Int32)) Ln <| bP2 (f_X9_spent N (xs ((i + (1 : Int32))).toNatClampNeg) (xs ((i + (2 : Int32))).toNatClampNeg) b) fun x10 b11 => bT (f_X9_thrown  b11) fun x14 => if x14 = x4 then (if x4 = 0 then (if (lg_cmp (Int32.toInt64 (c6 0 0)) (Int32.toInt64 x10)) = 0 then (some (a5, b11, c6)) else (none)) else (some (a5, b11, c6))) else (none)
set_option maxRecDepth 100000 in
set_option maxHeartbeats 4000000 in
theorem m_case_27 (X : Cx G p l s m args meth c9 A RL cL_law 9 ret9 tb) (hl : l.stackTraces = false) (hL : LOK L) (hL7 : L.length = 107) {N Ln sb : Nat} {xs : Nat → Int32} (hX : va_X sb Ln xs s s.heap) (hb : sb < s.heap.size) (hbA : ¬ A sb) {cl sl : Nat} (hcl : cl + 8 ≤ 601024) (hsl : sl + 64 ≤ 7293034) {i : Int32} {a b c a' b' c' : Mem} (hR : f_case_27 N Ln xs i a b c = some (a', b', c')) (kk : J G p l e ({ frames := 14, cells := 601024, slots := 7293034, locals := 524 } : Room) s m args below meth c9 A Q 9 (cl + 8) (sl + 64) 3067 [some (.ref sb), some (.ref (ad L 0)), some (.ref (ad L 96)), some (.ref (ad L 105)), some (.ref (ad L 106)), some (.int i), none, none, none] [] L (FW G L a' b' c')) : J G p l e ({ frames := 14, cells := 601024, slots := 7293034, locals := 524 } : Room) s m args below meth c9 A Q 9 cl sl 1670 [some (.ref sb), some (.ref (ad L 0)), some (.ref (ad L 96)), some (.ref (ad L 105)), some (.ref (ad L 106)), some (.int i), none, none, none] [] L (FW G L a b c) := by
  unfold f_case_27 at hR
  refine j_aload_n X (i := 1) dL_law_1670 rfl rfl ?_
  refine j_aload_n X (i := 0) dL_law_1671 rfl rfl ?_
  refine j_iload X dL_law_1672 rfl ?_
  refine j_iconst X (1) dL_law_1674 (by decide) ?_
  refine j_iadd X dL_law_1675 ?_
  obtain ⟨h1, hR⟩ := chkI_inv hR
  refine j_sld X hX hb hbA h1 dL_law_1676 ?_
  refine j_aload_n X (i := 0) dL_law_1677 rfl rfl ?_
  refine j_iload X dL_law_1678 rfl ?_
  refine j_iconst X (2) dL_law_1680 (by decide) ?_
  refine j_iadd X dL_law_1681 ?_
  obtain ⟨h2, hR⟩ := chkI_inv hR
  refine j_sld X hX hb hbA h2 dL_law_1682 ?_
  refine j_aload_n X (i := 3) dL_law_1683 rfl rfl ?_
  obtain ⟨x4, a5, c6, h3, hR⟩ := bP3_inv hR
  refine j_callSW (As := [.ref (ad L 0), .int (xs ((i + (1 : Int32))).toNatClampNeg), .int (xs ((i + (2 : Int32))).toNatClampNeg), .ref (ad L 105)]) (rest := []) X (m_L_spent hl hL hL7  h3) ml_L_256 st_yL_spent in_L cd_yL_spent hy_yL_spent dL_law_1684 ⟨(by decide), (by decide)⟩ ⟨Nat.le_trans (Nat.add_le_add_left (by decide : 2 ≤ 8) _) hcl, Nat.le_trans (Nat.add_le_add_left (by decide : 12 ≤ 64) _) hsl⟩ (Nat.le_of_ble_eq_true rfl) (fun _ h => h.elim) (fun r9 L9 f9 h9 => ?_)
  obtain ⟨h91, h92, h93⟩ := h9
  subst r9
  subst f9
  subst L9
  dsimp only [Option.toList, List.cons_append, List.nil_append, List.append]
  refine j_istore X dL_law_1687 (by decide) (lvOK_s rfl okPrev_int) ?_
  dsimp only [List.set]
  refine j_aload_n X (i := 2) dL_law_1689 rfl rfl ?_
  refine j_aload_n X (i := 0) dL_law_1690 rfl rfl ?_
  refine j_iload X dL_law_1691 rfl ?_
  refine j_iconst X (1) dL_law_1693 (by decide) ?_
  refine j_iadd X dL_law_1694 ?_
  obtain ⟨h7, hR⟩ := chkI_inv hR
  refine j_sld X hX hb hbA h7 dL_law_1695 ?_
  refine j_aload_n X (i := 0) dL_law_1696 rfl rfl ?_
  refine j_iload X dL_law_1697 rfl ?_
  refine j_iconst X (2) dL_law_1699 (by decide) ?_
  refine j_iadd X dL_law_1700 ?_
  obtain ⟨h8, hR⟩ := chkI_inv hR
  refine j_sld X hX hb hbA h8 dL_law_1701 ?_
  obtain ⟨x10, b11, h9, hR⟩ := bP2_inv hR
  refine j_callV2 X 9 (m_X9_spent hl hL  h9) ml_L_258 im_yX9_spent se_yX9_spent in_X9 cd_yX9_spent hy_yX9_spent dL_law_1702 rfl (ad_mem hL (by decide)) (FW9 hL) ⟨(by decide), (by decide)⟩ ⟨Nat.le_trans (Nat.add_le_add_left (by decide : 2 ≤ 8) _) hcl, Nat.le_trans (Nat.add_le_add_left (by decide : 12 ≤ 64) _) hsl⟩ (Nat.le_of_ble_eq_true rfl) (fun _ h => h.elim) (fun r9 L9 f9 h9 => ?_)
  obtain ⟨h91, h92, h93⟩ := h9
  subst r9
  subst f9
  subst L9
  dsimp only [Option.toList, List.cons_append, List.nil_append, List.append]
  refine j_istore X dL_law_1705 (by decide) (lvOK_s rfl okPrev_int) ?_
  dsimp only [List.set]
  refine j_aload_n X (i := 2) dL_law_1707 rfl rfl ?_
  obtain ⟨x14, h13, hR⟩ := bT_inv hR
  refine j_callV0 X 9 (m_X9_thrown hl hL  h13) ml_L_162 im_yX9_thrown se_yX9_thrown in_X9 cd_yX9_thrown hy_yX9_thrown dL_law_1708 rfl (ad_mem hL (by decide)) (FW9 hL) ⟨(by decide), (by decide)⟩ ⟨Nat.le_trans (Nat.add_le_add_left (by decide : 2 ≤ 8) _) hcl, Nat.le_trans (Nat.add_le_add_left (by decide : 12 ≤ 64) _) hsl⟩ (Nat.le_of_ble_eq_true rfl) (fun _ h => h.elim) (fun r9 L9 f9 h9 => ?_)
  obtain ⟨h91, h92, h93⟩ := h9
  subst r9
  subst f9
  subst L9
  dsimp only [Option.toList, List.cons_append, List.nil_append, List.append]
  refine j_iload X dL_law_1711 rfl ?_
  refine j_icmp_eq X (tgt := 1718) dL_law_1713 (by decide) (fun h16 => ?_) (fun h16 => ?_)
  · replace hR := (if_pos h16).symm.trans hR
    refine j_iload X dL_law_1718 rfl ?_
    refine j_if_ne X (tgt := 1735) dL_law_1720 (by decide) (fun h17 => ?_) (fun h17 => ?_)
    · replace hR := (if_neg h17).symm.trans hR
      refine j_goto X (tgt := 3067) dL_law_1735 (by decide) ?_
      have h9 := Option.some.inj hR
      rw [← (Prod.mk.inj h9).1, ← (Prod.mk.inj (Prod.mk.inj h9).2).1, ← (Prod.mk.inj (Prod.mk.inj h9).2).2] at kk
      exact J.widen (c1 := cl + 8) (s1 := sl + 64) (by omega) (by omega) (J.sub (lvle_of (by simp only [lvle, and_self])) kk)
    · replace hR := (if_pos h17).symm.trans hR
      refine j_aload_n X (i := 3) dL_law_1723 rfl rfl ?_
      refine j_iconst X (0) dL_law_1724 (by decide) ?_
      refine j_lald105 X hL hL7 dL_law_1725 ?_
      refine j_iload X dL_law_1726 rfl ?_
      refine j_i2l X dL_law_1728 ?_
      refine j_lcmp X dL_law_1729 ?_
      refine j_if_eq X (tgt := 1735) dL_law_1730 (by decide) (fun h18 => ?_) (fun h18 => ?_)
      · replace hR := (if_pos h18).symm.trans hR
        refine j_goto X (tgt := 3067) dL_law_1735 (by decide) ?_
        have h9 := Option.some.inj hR
        rw [← (Prod.mk.inj h9).1, ← (Prod.mk.inj (Prod.mk.inj h9).2).1, ← (Prod.mk.inj (Prod.mk.inj h9).2).2] at kk
        exact J.widen (c1 := cl + 8) (s1 := sl + 64) (by omega) (by omega) (J.sub (lvle_of (by simp only [lvle, and_self])) kk)
      · replace hR := (if_neg h18).symm.trans hR
        refine j_iconst X (0) dL_law_1733 (by decide) ?_
        cases hR
  · replace hR := (if_neg h16).symm.trans hR
    refine j_iconst X (0) dL_law_1716 (by decide) ?_
    cases hR
def f_case_28 (N Ln : Nat) (xs : Nat → Int32) (i : Int32) (a b c : Mem) : Option (Mem × Mem × Mem) := bP (f_X8_slowest N  a) fun x2 => bP2 (f_X9_slowest N  b) fun x5 b6 => if x2 = x5 then (some (a, b6, c)) else (none)
set_option maxRecDepth 100000 in
set_option maxHeartbeats 4000000 in
theorem m_case_28 (X : Cx G p l s m args meth c9 A RL cL_law 9 ret9 tb) (hl : l.stackTraces = false) (hL : LOK L) (hL7 : L.length = 107) {N Ln sb : Nat} {xs : Nat → Int32} (hX : va_X sb Ln xs s s.heap) (hb : sb < s.heap.size) (hbA : ¬ A sb) {cl sl : Nat} (hcl : cl + 8 ≤ 601024) (hsl : sl + 64 ≤ 7293034) {i : Int32} {a b c a' b' c' : Mem} (hR : f_case_28 N Ln xs i a b c = some (a', b', c')) (kk : J G p l e ({ frames := 14, cells := 601024, slots := 7293034, locals := 524 } : Room) s m args below meth c9 A Q 9 (cl + 8) (sl + 64) 3067 [some (.ref sb), some (.ref (ad L 0)), some (.ref (ad L 96)), some (.ref (ad L 105)), some (.ref (ad L 106)), some (.int i), none, none, none] [] L (FW G L a' b' c')) : J G p l e ({ frames := 14, cells := 601024, slots := 7293034, locals := 524 } : Room) s m args below meth c9 A Q 9 cl sl 1738 [some (.ref sb), some (.ref (ad L 0)), some (.ref (ad L 96)), some (.ref (ad L 105)), some (.ref (ad L 106)), some (.int i), none, none, none] [] L (FW G L a b c) := by
  unfold f_case_28 at hR
  refine j_aload_n X (i := 1) dL_law_1738 rfl rfl ?_
  obtain ⟨x2, h1, hR⟩ := bP_inv hR
  refine j_callV0 X 8 (m_X8_slowest hl hL  h1) ml_L_259 im_yX8_slowest se_yX8_slowest in_X8 cd_yX8_slowest hy_yX8_slowest dL_law_1739 rfl (inL hL t_0 (by decide)) (FW8 hL t_0) ⟨(by decide), (by decide)⟩ ⟨Nat.le_trans (Nat.add_le_add_left (by decide : 0 ≤ 8) _) hcl, Nat.le_trans (Nat.add_le_add_left (by decide : 0 ≤ 64) _) hsl⟩ (Nat.le_of_ble_eq_true rfl) (fun _ h => h.elim) (fun r9 L9 f9 h9 => ?_)
  obtain ⟨h91, h92, h93⟩ := h9
  subst r9
  subst f9
  subst L9
  dsimp only [Option.toList, List.cons_append, List.nil_append, List.append]
  refine j_aload_n X (i := 2) dL_law_1742 rfl rfl ?_
  obtain ⟨x5, b6, h4, hR⟩ := bP2_inv hR
  refine j_callV0 X 9 (m_X9_slowest hl hL  h4) ml_L_262 im_yX9_slowest se_yX9_slowest in_X9 cd_yX9_slowest hy_yX9_slowest dL_law_1743 rfl (ad_mem hL (by decide)) (FW9 hL) ⟨(by decide), (by decide)⟩ ⟨Nat.le_trans (Nat.add_le_add_left (by decide : 0 ≤ 8) _) hcl, Nat.le_trans (Nat.add_le_add_left (by decide : 0 ≤ 64) _) hsl⟩ (Nat.le_of_ble_eq_true rfl) (fun _ h => h.elim) (fun r9 L9 f9 h9 => ?_)
  obtain ⟨h91, h92, h93⟩ := h9
  subst r9
  subst f9
  subst L9
  dsimp only [Option.toList, List.cons_append, List.nil_append, List.append]
  refine j_icmp_eq X (tgt := 3067) dL_law_1746 (by decide) (fun h8 => ?_) (fun h8 => ?_)
  · replace hR := (if_pos h8).symm.trans hR
    have h9 := Option.some.inj hR
    rw [← (Prod.mk.inj h9).1, ← (Prod.mk.inj (Prod.mk.inj h9).2).1, ← (Prod.mk.inj (Prod.mk.inj h9).2).2] at kk
    exact J.widen (c1 := cl + 8) (s1 := sl + 64) (by omega) (by omega) (J.sub (lvle_of (by simp only [lvle, and_self])) kk)
  · replace hR := (if_neg h8).symm.trans hR
    refine j_iconst X (0) dL_law_1749 (by decide) ?_
    cases hR
def f_case_29 (N Ln : Nat) (xs : Nat → Int32) (i : Int32) (a b c : Mem) : Option (Mem × Mem × Mem) := chkI (i + (1 : Int32)) Ln <| chkI (i + (2 : Int32)) Ln <| bP3 (f_L_within N (xs ((i + (1 : Int32))).toNatClampNeg) (xs ((i + (2 : Int32))).toNatClampNeg) a c) fun x4 a5 c6 => chkI (i + (1 : Int32)) Ln <| chkI (i + (2 : Int32)) Ln <| bP2 (f_X9_within N (xs ((i + (1 : Int32))).toNatClampNeg) (xs ((i + (2 : Int32))).toNatClampNeg) b) fun x10 b11 => bT (f_X9_thrown  b11) fun x14 => if x14 = x4 then (if x4 = 0 then (if (lg_cmp (Int32.toInt64 (c6 0 0)) (Int32.toInt64 x10)) = 0 then (some (a5, b11, c6)) else (none)) else (some (a5, b11, c6))) else (none)
set_option maxRecDepth 100000 in
set_option maxHeartbeats 4000000 in
theorem m_case_29 (X : Cx G p l s m args meth c9 A RL cL_law 9 ret9 tb) (hl : l.stackTraces = false) (hL : LOK L) (hL7 : L.length = 107) {N Ln sb : Nat} {xs : Nat → Int32} (hX : va_X sb Ln xs s s.heap) (hb : sb < s.heap.size) (hbA : ¬ A sb) {cl sl : Nat} (hcl : cl + 8 ≤ 601024) (hsl : sl + 64 ≤ 7293034) {i : Int32} {a b c a' b' c' : Mem} (hR : f_case_29 N Ln xs i a b c = some (a', b', c')) (kk : J G p l e ({ frames := 14, cells := 601024, slots := 7293034, locals := 524 } : Room) s m args below meth c9 A Q 9 (cl + 8) (sl + 64) 3067 [some (.ref sb), some (.ref (ad L 0)), some (.ref (ad L 96)), some (.ref (ad L 105)), some (.ref (ad L 106)), some (.int i), none, none, none] [] L (FW G L a' b' c')) : J G p l e ({ frames := 14, cells := 601024, slots := 7293034, locals := 524 } : Room) s m args below meth c9 A Q 9 cl sl 1751 [some (.ref sb), some (.ref (ad L 0)), some (.ref (ad L 96)), some (.ref (ad L 105)), some (.ref (ad L 106)), some (.int i), none, none, none] [] L (FW G L a b c) := by
  unfold f_case_29 at hR
  refine j_aload_n X (i := 1) dL_law_1751 rfl rfl ?_
  refine j_aload_n X (i := 0) dL_law_1752 rfl rfl ?_
  refine j_iload X dL_law_1753 rfl ?_
  refine j_iconst X (1) dL_law_1755 (by decide) ?_
  refine j_iadd X dL_law_1756 ?_
  obtain ⟨h1, hR⟩ := chkI_inv hR
  refine j_sld X hX hb hbA h1 dL_law_1757 ?_
  refine j_aload_n X (i := 0) dL_law_1758 rfl rfl ?_
  refine j_iload X dL_law_1759 rfl ?_
  refine j_iconst X (2) dL_law_1761 (by decide) ?_
  refine j_iadd X dL_law_1762 ?_
  obtain ⟨h2, hR⟩ := chkI_inv hR
  refine j_sld X hX hb hbA h2 dL_law_1763 ?_
  refine j_aload_n X (i := 3) dL_law_1764 rfl rfl ?_
  obtain ⟨x4, a5, c6, h3, hR⟩ := bP3_inv hR
  refine j_callSW (As := [.ref (ad L 0), .int (xs ((i + (1 : Int32))).toNatClampNeg), .int (xs ((i + (2 : Int32))).toNatClampNeg), .ref (ad L 105)]) (rest := []) X (m_L_within hl hL hL7  h3) ml_L_263 st_yL_within in_L cd_yL_within hy_yL_within dL_law_1765 ⟨(by decide), (by decide)⟩ ⟨Nat.le_trans (Nat.add_le_add_left (by decide : 2 ≤ 8) _) hcl, Nat.le_trans (Nat.add_le_add_left (by decide : 12 ≤ 64) _) hsl⟩ (Nat.le_of_ble_eq_true rfl) (fun _ h => h.elim) (fun r9 L9 f9 h9 => ?_)
  obtain ⟨h91, h92, h93⟩ := h9
  subst r9
  subst f9
  subst L9
  dsimp only [Option.toList, List.cons_append, List.nil_append, List.append]
  refine j_istore X dL_law_1768 (by decide) (lvOK_s rfl okPrev_int) ?_
  dsimp only [List.set]
  refine j_aload_n X (i := 2) dL_law_1770 rfl rfl ?_
  refine j_aload_n X (i := 0) dL_law_1771 rfl rfl ?_
  refine j_iload X dL_law_1772 rfl ?_
  refine j_iconst X (1) dL_law_1774 (by decide) ?_
  refine j_iadd X dL_law_1775 ?_
  obtain ⟨h7, hR⟩ := chkI_inv hR
  refine j_sld X hX hb hbA h7 dL_law_1776 ?_
  refine j_aload_n X (i := 0) dL_law_1777 rfl rfl ?_
  refine j_iload X dL_law_1778 rfl ?_
  refine j_iconst X (2) dL_law_1780 (by decide) ?_
  refine j_iadd X dL_law_1781 ?_
  obtain ⟨h8, hR⟩ := chkI_inv hR
  refine j_sld X hX hb hbA h8 dL_law_1782 ?_
  obtain ⟨x10, b11, h9, hR⟩ := bP2_inv hR
  refine j_callV2 X 9 (m_X9_within hl hL  h9) ml_L_265 im_yX9_within se_yX9_within in_X9 cd_yX9_within hy_yX9_within dL_law_1783 rfl (ad_mem hL (by decide)) (FW9 hL) ⟨(by decide), (by decide)⟩ ⟨Nat.le_trans (Nat.add_le_add_left (by decide : 2 ≤ 8) _) hcl, Nat.le_trans (Nat.add_le_add_left (by decide : 12 ≤ 64) _) hsl⟩ (Nat.le_of_ble_eq_true rfl) (fun _ h => h.elim) (fun r9 L9 f9 h9 => ?_)
  obtain ⟨h91, h92, h93⟩ := h9
  subst r9
  subst f9
  subst L9
  dsimp only [Option.toList, List.cons_append, List.nil_append, List.append]
  refine j_istore X dL_law_1786 (by decide) (lvOK_s rfl okPrev_int) ?_
  dsimp only [List.set]
  refine j_aload_n X (i := 2) dL_law_1788 rfl rfl ?_
  obtain ⟨x14, h13, hR⟩ := bT_inv hR
  refine j_callV0 X 9 (m_X9_thrown hl hL  h13) ml_L_162 im_yX9_thrown se_yX9_thrown in_X9 cd_yX9_thrown hy_yX9_thrown dL_law_1789 rfl (ad_mem hL (by decide)) (FW9 hL) ⟨(by decide), (by decide)⟩ ⟨Nat.le_trans (Nat.add_le_add_left (by decide : 2 ≤ 8) _) hcl, Nat.le_trans (Nat.add_le_add_left (by decide : 12 ≤ 64) _) hsl⟩ (Nat.le_of_ble_eq_true rfl) (fun _ h => h.elim) (fun r9 L9 f9 h9 => ?_)
  obtain ⟨h91, h92, h93⟩ := h9
  subst r9
  subst f9
  subst L9
  dsimp only [Option.toList, List.cons_append, List.nil_append, List.append]
  refine j_iload X dL_law_1792 rfl ?_
  refine j_icmp_eq X (tgt := 1799) dL_law_1794 (by decide) (fun h16 => ?_) (fun h16 => ?_)
  · replace hR := (if_pos h16).symm.trans hR
    refine j_iload X dL_law_1799 rfl ?_
    refine j_if_ne X (tgt := 1816) dL_law_1801 (by decide) (fun h17 => ?_) (fun h17 => ?_)
    · replace hR := (if_neg h17).symm.trans hR
      refine j_goto X (tgt := 3067) dL_law_1816 (by decide) ?_
      have h9 := Option.some.inj hR
      rw [← (Prod.mk.inj h9).1, ← (Prod.mk.inj (Prod.mk.inj h9).2).1, ← (Prod.mk.inj (Prod.mk.inj h9).2).2] at kk
      exact J.widen (c1 := cl + 8) (s1 := sl + 64) (by omega) (by omega) (J.sub (lvle_of (by simp only [lvle, and_self])) kk)
    · replace hR := (if_pos h17).symm.trans hR
      refine j_aload_n X (i := 3) dL_law_1804 rfl rfl ?_
      refine j_iconst X (0) dL_law_1805 (by decide) ?_
      refine j_lald105 X hL hL7 dL_law_1806 ?_
      refine j_iload X dL_law_1807 rfl ?_
      refine j_i2l X dL_law_1809 ?_
      refine j_lcmp X dL_law_1810 ?_
      refine j_if_eq X (tgt := 1816) dL_law_1811 (by decide) (fun h18 => ?_) (fun h18 => ?_)
      · replace hR := (if_pos h18).symm.trans hR
        refine j_goto X (tgt := 3067) dL_law_1816 (by decide) ?_
        have h9 := Option.some.inj hR
        rw [← (Prod.mk.inj h9).1, ← (Prod.mk.inj (Prod.mk.inj h9).2).1, ← (Prod.mk.inj (Prod.mk.inj h9).2).2] at kk
        exact J.widen (c1 := cl + 8) (s1 := sl + 64) (by omega) (by omega) (J.sub (lvle_of (by simp only [lvle, and_self])) kk)
      · replace hR := (if_neg h18).symm.trans hR
        refine j_iconst X (0) dL_law_1814 (by decide) ?_
        cases hR
  · replace hR := (if_neg h16).symm.trans hR
    refine j_iconst X (0) dL_law_1797 (by decide) ?_
    cases hR
def f_case_30 (N Ln : Nat) (xs : Nat → Int32) (i : Int32) (a b c : Mem) : Option (Mem × Mem × Mem) := chkI (i + (1 : Int32)) Ln <| chkI (i + (2 : Int32)) Ln <| bP3 (f_L_paceFor N (xs ((i + (1 : Int32))).toNatClampNeg) (xs ((i + (2 : Int32))).toNatClampNeg) a c) fun x4 a5 c6 => chkI (i + (1 : Int32)) Ln <| chkI (i + (2 : Int32)) Ln <| bP2 (f_X9_paceFor N (xs ((i + (1 : Int32))).toNatClampNeg) (xs ((i + (2 : Int32))).toNatClampNeg) b) fun x10 b11 => bT (f_X9_thrown  b11) fun x14 => if x14 = x4 then (if x4 = 0 then (if (lg_cmp (Int32.toInt64 (c6 0 0)) (Int32.toInt64 x10)) = 0 then (some (a5, b11, c6)) else (none)) else (some (a5, b11, c6))) else (none)
set_option maxRecDepth 100000 in
set_option maxHeartbeats 4000000 in
theorem m_case_30 (X : Cx G p l s m args meth c9 A RL cL_law 9 ret9 tb) (hl : l.stackTraces = false) (hL : LOK L) (hL7 : L.length = 107) {N Ln sb : Nat} {xs : Nat → Int32} (hX : va_X sb Ln xs s s.heap) (hb : sb < s.heap.size) (hbA : ¬ A sb) {cl sl : Nat} (hcl : cl + 8 ≤ 601024) (hsl : sl + 64 ≤ 7293034) {i : Int32} {a b c a' b' c' : Mem} (hR : f_case_30 N Ln xs i a b c = some (a', b', c')) (kk : J G p l e ({ frames := 14, cells := 601024, slots := 7293034, locals := 524 } : Room) s m args below meth c9 A Q 9 (cl + 8) (sl + 64) 3067 [some (.ref sb), some (.ref (ad L 0)), some (.ref (ad L 96)), some (.ref (ad L 105)), some (.ref (ad L 106)), some (.int i), none, none, none] [] L (FW G L a' b' c')) : J G p l e ({ frames := 14, cells := 601024, slots := 7293034, locals := 524 } : Room) s m args below meth c9 A Q 9 cl sl 1819 [some (.ref sb), some (.ref (ad L 0)), some (.ref (ad L 96)), some (.ref (ad L 105)), some (.ref (ad L 106)), some (.int i), none, none, none] [] L (FW G L a b c) := by
  unfold f_case_30 at hR
  refine j_aload_n X (i := 1) dL_law_1819 rfl rfl ?_
  refine j_aload_n X (i := 0) dL_law_1820 rfl rfl ?_
  refine j_iload X dL_law_1821 rfl ?_
  refine j_iconst X (1) dL_law_1823 (by decide) ?_
  refine j_iadd X dL_law_1824 ?_
  obtain ⟨h1, hR⟩ := chkI_inv hR
  refine j_sld X hX hb hbA h1 dL_law_1825 ?_
  refine j_aload_n X (i := 0) dL_law_1826 rfl rfl ?_
  refine j_iload X dL_law_1827 rfl ?_
  refine j_iconst X (2) dL_law_1829 (by decide) ?_
  refine j_iadd X dL_law_1830 ?_
  obtain ⟨h2, hR⟩ := chkI_inv hR
  refine j_sld X hX hb hbA h2 dL_law_1831 ?_
  refine j_aload_n X (i := 3) dL_law_1832 rfl rfl ?_
  obtain ⟨x4, a5, c6, h3, hR⟩ := bP3_inv hR
  refine j_callSW (As := [.ref (ad L 0), .int (xs ((i + (1 : Int32))).toNatClampNeg), .int (xs ((i + (2 : Int32))).toNatClampNeg), .ref (ad L 105)]) (rest := []) X (m_L_paceFor hl hL hL7  h3) ml_L_266 st_yL_paceFor in_L cd_yL_paceFor hy_yL_paceFor dL_law_1833 ⟨(by decide), (by decide)⟩ ⟨Nat.le_trans (Nat.add_le_add_left (by decide : 2 ≤ 8) _) hcl, Nat.le_trans (Nat.add_le_add_left (by decide : 12 ≤ 64) _) hsl⟩ (Nat.le_of_ble_eq_true rfl) (fun _ h => h.elim) (fun r9 L9 f9 h9 => ?_)
  obtain ⟨h91, h92, h93⟩ := h9
  subst r9
  subst f9
  subst L9
  dsimp only [Option.toList, List.cons_append, List.nil_append, List.append]
  refine j_istore X dL_law_1836 (by decide) (lvOK_s rfl okPrev_int) ?_
  dsimp only [List.set]
  refine j_aload_n X (i := 2) dL_law_1838 rfl rfl ?_
  refine j_aload_n X (i := 0) dL_law_1839 rfl rfl ?_
  refine j_iload X dL_law_1840 rfl ?_
  refine j_iconst X (1) dL_law_1842 (by decide) ?_
  refine j_iadd X dL_law_1843 ?_
  obtain ⟨h7, hR⟩ := chkI_inv hR
  refine j_sld X hX hb hbA h7 dL_law_1844 ?_
  refine j_aload_n X (i := 0) dL_law_1845 rfl rfl ?_
  refine j_iload X dL_law_1846 rfl ?_
  refine j_iconst X (2) dL_law_1848 (by decide) ?_
  refine j_iadd X dL_law_1849 ?_
  obtain ⟨h8, hR⟩ := chkI_inv hR
  refine j_sld X hX hb hbA h8 dL_law_1850 ?_
  obtain ⟨x10, b11, h9, hR⟩ := bP2_inv hR
  refine j_callV2 X 9 (m_X9_paceFor hl hL  h9) ml_L_268 im_yX9_paceFor se_yX9_paceFor in_X9 cd_yX9_paceFor hy_yX9_paceFor dL_law_1851 rfl (ad_mem hL (by decide)) (FW9 hL) ⟨(by decide), (by decide)⟩ ⟨Nat.le_trans (Nat.add_le_add_left (by decide : 2 ≤ 8) _) hcl, Nat.le_trans (Nat.add_le_add_left (by decide : 12 ≤ 64) _) hsl⟩ (Nat.le_of_ble_eq_true rfl) (fun _ h => h.elim) (fun r9 L9 f9 h9 => ?_)
  obtain ⟨h91, h92, h93⟩ := h9
  subst r9
  subst f9
  subst L9
  dsimp only [Option.toList, List.cons_append, List.nil_append, List.append]
  refine j_istore X dL_law_1854 (by decide) (lvOK_s rfl okPrev_int) ?_
  dsimp only [List.set]
  refine j_aload_n X (i := 2) dL_law_1856 rfl rfl ?_
  obtain ⟨x14, h13, hR⟩ := bT_inv hR
  refine j_callV0 X 9 (m_X9_thrown hl hL  h13) ml_L_162 im_yX9_thrown se_yX9_thrown in_X9 cd_yX9_thrown hy_yX9_thrown dL_law_1857 rfl (ad_mem hL (by decide)) (FW9 hL) ⟨(by decide), (by decide)⟩ ⟨Nat.le_trans (Nat.add_le_add_left (by decide : 2 ≤ 8) _) hcl, Nat.le_trans (Nat.add_le_add_left (by decide : 12 ≤ 64) _) hsl⟩ (Nat.le_of_ble_eq_true rfl) (fun _ h => h.elim) (fun r9 L9 f9 h9 => ?_)
  obtain ⟨h91, h92, h93⟩ := h9
  subst r9
  subst f9
  subst L9
  dsimp only [Option.toList, List.cons_append, List.nil_append, List.append]
  refine j_iload X dL_law_1860 rfl ?_
  refine j_icmp_eq X (tgt := 1867) dL_law_1862 (by decide) (fun h16 => ?_) (fun h16 => ?_)
  · replace hR := (if_pos h16).symm.trans hR
    refine j_iload X dL_law_1867 rfl ?_
    refine j_if_ne X (tgt := 1884) dL_law_1869 (by decide) (fun h17 => ?_) (fun h17 => ?_)
    · replace hR := (if_neg h17).symm.trans hR
      refine j_goto X (tgt := 3067) dL_law_1884 (by decide) ?_
      have h9 := Option.some.inj hR
      rw [← (Prod.mk.inj h9).1, ← (Prod.mk.inj (Prod.mk.inj h9).2).1, ← (Prod.mk.inj (Prod.mk.inj h9).2).2] at kk
      exact J.widen (c1 := cl + 8) (s1 := sl + 64) (by omega) (by omega) (J.sub (lvle_of (by simp only [lvle, and_self])) kk)
    · replace hR := (if_pos h17).symm.trans hR
      refine j_aload_n X (i := 3) dL_law_1872 rfl rfl ?_
      refine j_iconst X (0) dL_law_1873 (by decide) ?_
      refine j_lald105 X hL hL7 dL_law_1874 ?_
      refine j_iload X dL_law_1875 rfl ?_
      refine j_i2l X dL_law_1877 ?_
      refine j_lcmp X dL_law_1878 ?_
      refine j_if_eq X (tgt := 1884) dL_law_1879 (by decide) (fun h18 => ?_) (fun h18 => ?_)
      · replace hR := (if_pos h18).symm.trans hR
        refine j_goto X (tgt := 3067) dL_law_1884 (by decide) ?_
        have h9 := Option.some.inj hR
        rw [← (Prod.mk.inj h9).1, ← (Prod.mk.inj (Prod.mk.inj h9).2).1, ← (Prod.mk.inj (Prod.mk.inj h9).2).2] at kk
        exact J.widen (c1 := cl + 8) (s1 := sl + 64) (by omega) (by omega) (J.sub (lvle_of (by simp only [lvle, and_self])) kk)
      · replace hR := (if_neg h18).symm.trans hR
        refine j_iconst X (0) dL_law_1882 (by decide) ?_
        cases hR
  · replace hR := (if_neg h16).symm.trans hR
    refine j_iconst X (0) dL_law_1865 (by decide) ?_
    cases hR
def f_case_31 (N Ln : Nat) (xs : Nat → Int32) (i : Int32) (a b c : Mem) : Option (Mem × Mem × Mem) := chkI (i + (1 : Int32)) Ln <| chkI (i + (2 : Int32)) Ln <| chkI (i + (3 : Int32)) Ln <| bP3 (f_L_needs N (xs ((i + (1 : Int32))).toNatClampNeg) (xs ((i + (2 : Int32))).toNatClampNeg) (xs ((i + (3 : Int32))).toNatClampNeg) a c) fun x5 a6 c7 => chkI (i + (1 : Int32)) Ln <| chkI (i + (2 : Int32)) Ln <| chkI (i + (3 : Int32)) Ln <| bP2 (f_X9_needs N (xs ((i + (1 : Int32))).toNatClampNeg) (xs ((i + (2 : Int32))).toNatClampNeg) (xs ((i + (3 : Int32))).toNatClampNeg) b) fun x12 b13 => bT (f_X9_thrown  b13) fun x16 => if x16 = x5 then (if x5 = 0 then (if (lg_cmp (Int32.toInt64 (c7 0 0)) (Int32.toInt64 x12)) = 0 then (some (a6, b13, c7)) else (none)) else (some (a6, b13, c7))) else (none)
set_option maxRecDepth 100000 in
set_option maxHeartbeats 4000000 in
theorem m_case_31 (X : Cx G p l s m args meth c9 A RL cL_law 9 ret9 tb) (hl : l.stackTraces = false) (hL : LOK L) (hL7 : L.length = 107) {N Ln sb : Nat} {xs : Nat → Int32} (hX : va_X sb Ln xs s s.heap) (hb : sb < s.heap.size) (hbA : ¬ A sb) {cl sl : Nat} (hcl : cl + 8 ≤ 601024) (hsl : sl + 64 ≤ 7293034) {i : Int32} {a b c a' b' c' : Mem} (hR : f_case_31 N Ln xs i a b c = some (a', b', c')) (kk : J G p l e ({ frames := 14, cells := 601024, slots := 7293034, locals := 524 } : Room) s m args below meth c9 A Q 9 (cl + 8) (sl + 64) 3067 [some (.ref sb), some (.ref (ad L 0)), some (.ref (ad L 96)), some (.ref (ad L 105)), some (.ref (ad L 106)), some (.int i), none, none, none] [] L (FW G L a' b' c')) : J G p l e ({ frames := 14, cells := 601024, slots := 7293034, locals := 524 } : Room) s m args below meth c9 A Q 9 cl sl 1887 [some (.ref sb), some (.ref (ad L 0)), some (.ref (ad L 96)), some (.ref (ad L 105)), some (.ref (ad L 106)), some (.int i), none, none, none] [] L (FW G L a b c) := by
  unfold f_case_31 at hR
  refine j_aload_n X (i := 1) dL_law_1887 rfl rfl ?_
  refine j_aload_n X (i := 0) dL_law_1888 rfl rfl ?_
  refine j_iload X dL_law_1889 rfl ?_
  refine j_iconst X (1) dL_law_1891 (by decide) ?_
  refine j_iadd X dL_law_1892 ?_
  obtain ⟨h1, hR⟩ := chkI_inv hR
  refine j_sld X hX hb hbA h1 dL_law_1893 ?_
  refine j_aload_n X (i := 0) dL_law_1894 rfl rfl ?_
  refine j_iload X dL_law_1895 rfl ?_
  refine j_iconst X (2) dL_law_1897 (by decide) ?_
  refine j_iadd X dL_law_1898 ?_
  obtain ⟨h2, hR⟩ := chkI_inv hR
  refine j_sld X hX hb hbA h2 dL_law_1899 ?_
  refine j_aload_n X (i := 0) dL_law_1900 rfl rfl ?_
  refine j_iload X dL_law_1901 rfl ?_
  refine j_iconst X (3) dL_law_1903 (by decide) ?_
  refine j_iadd X dL_law_1904 ?_
  obtain ⟨h3, hR⟩ := chkI_inv hR
  refine j_sld X hX hb hbA h3 dL_law_1905 ?_
  refine j_aload_n X (i := 3) dL_law_1906 rfl rfl ?_
  obtain ⟨x5, a6, c7, h4, hR⟩ := bP3_inv hR
  refine j_callSW (As := [.ref (ad L 0), .int (xs ((i + (1 : Int32))).toNatClampNeg), .int (xs ((i + (2 : Int32))).toNatClampNeg), .int (xs ((i + (3 : Int32))).toNatClampNeg), .ref (ad L 105)]) (rest := []) X (m_L_needs hl hL hL7  h4) ml_L_269 st_yL_needs in_L cd_yL_needs hy_yL_needs dL_law_1907 ⟨(by decide), (by decide)⟩ ⟨Nat.le_trans (Nat.add_le_add_left (by decide : 3 ≤ 8) _) hcl, Nat.le_trans (Nat.add_le_add_left (by decide : 18 ≤ 64) _) hsl⟩ (Nat.le_of_ble_eq_true rfl) (fun _ h => h.elim) (fun r9 L9 f9 h9 => ?_)
  obtain ⟨h91, h92, h93⟩ := h9
  subst r9
  subst f9
  subst L9
  dsimp only [Option.toList, List.cons_append, List.nil_append, List.append]
  refine j_istore X dL_law_1910 (by decide) (lvOK_s rfl okPrev_int) ?_
  dsimp only [List.set]
  refine j_aload_n X (i := 2) dL_law_1912 rfl rfl ?_
  refine j_aload_n X (i := 0) dL_law_1913 rfl rfl ?_
  refine j_iload X dL_law_1914 rfl ?_
  refine j_iconst X (1) dL_law_1916 (by decide) ?_
  refine j_iadd X dL_law_1917 ?_
  obtain ⟨h8, hR⟩ := chkI_inv hR
  refine j_sld X hX hb hbA h8 dL_law_1918 ?_
  refine j_aload_n X (i := 0) dL_law_1919 rfl rfl ?_
  refine j_iload X dL_law_1920 rfl ?_
  refine j_iconst X (2) dL_law_1922 (by decide) ?_
  refine j_iadd X dL_law_1923 ?_
  obtain ⟨h9, hR⟩ := chkI_inv hR
  refine j_sld X hX hb hbA h9 dL_law_1924 ?_
  refine j_aload_n X (i := 0) dL_law_1925 rfl rfl ?_
  refine j_iload X dL_law_1926 rfl ?_
  refine j_iconst X (3) dL_law_1928 (by decide) ?_
  refine j_iadd X dL_law_1929 ?_
  obtain ⟨h10, hR⟩ := chkI_inv hR
  refine j_sld X hX hb hbA h10 dL_law_1930 ?_
  obtain ⟨x12, b13, h11, hR⟩ := bP2_inv hR
  refine j_callV3 X 9 (m_X9_needs hl hL  h11) ml_L_271 im_yX9_needs se_yX9_needs in_X9 cd_yX9_needs hy_yX9_needs dL_law_1931 rfl (ad_mem hL (by decide)) (FW9 hL) ⟨(by decide), (by decide)⟩ ⟨Nat.le_trans (Nat.add_le_add_left (by decide : 3 ≤ 8) _) hcl, Nat.le_trans (Nat.add_le_add_left (by decide : 18 ≤ 64) _) hsl⟩ (Nat.le_of_ble_eq_true rfl) (fun _ h => h.elim) (fun r9 L9 f9 h9 => ?_)
  obtain ⟨h91, h92, h93⟩ := h9
  subst r9
  subst f9
  subst L9
  dsimp only [Option.toList, List.cons_append, List.nil_append, List.append]
  refine j_istore X dL_law_1934 (by decide) (lvOK_s rfl okPrev_int) ?_
  dsimp only [List.set]
  refine j_aload_n X (i := 2) dL_law_1936 rfl rfl ?_
  obtain ⟨x16, h15, hR⟩ := bT_inv hR
  refine j_callV0 X 9 (m_X9_thrown hl hL  h15) ml_L_162 im_yX9_thrown se_yX9_thrown in_X9 cd_yX9_thrown hy_yX9_thrown dL_law_1937 rfl (ad_mem hL (by decide)) (FW9 hL) ⟨(by decide), (by decide)⟩ ⟨Nat.le_trans (Nat.add_le_add_left (by decide : 3 ≤ 8) _) hcl, Nat.le_trans (Nat.add_le_add_left (by decide : 18 ≤ 64) _) hsl⟩ (Nat.le_of_ble_eq_true rfl) (fun _ h => h.elim) (fun r9 L9 f9 h9 => ?_)
  obtain ⟨h91, h92, h93⟩ := h9
  subst r9
  subst f9
  subst L9
  dsimp only [Option.toList, List.cons_append, List.nil_append, List.append]
  refine j_iload X dL_law_1940 rfl ?_
  refine j_icmp_eq X (tgt := 1947) dL_law_1942 (by decide) (fun h18 => ?_) (fun h18 => ?_)
  · replace hR := (if_pos h18).symm.trans hR
    refine j_iload X dL_law_1947 rfl ?_
    refine j_if_ne X (tgt := 1964) dL_law_1949 (by decide) (fun h19 => ?_) (fun h19 => ?_)
    · replace hR := (if_neg h19).symm.trans hR
      refine j_goto X (tgt := 3067) dL_law_1964 (by decide) ?_
      have h9 := Option.some.inj hR
      rw [← (Prod.mk.inj h9).1, ← (Prod.mk.inj (Prod.mk.inj h9).2).1, ← (Prod.mk.inj (Prod.mk.inj h9).2).2] at kk
      exact J.widen (c1 := cl + 8) (s1 := sl + 64) (by omega) (by omega) (J.sub (lvle_of (by simp only [lvle, and_self])) kk)
    · replace hR := (if_pos h19).symm.trans hR
      refine j_aload_n X (i := 3) dL_law_1952 rfl rfl ?_
      refine j_iconst X (0) dL_law_1953 (by decide) ?_
      refine j_lald105 X hL hL7 dL_law_1954 ?_
      refine j_iload X dL_law_1955 rfl ?_
      refine j_i2l X dL_law_1957 ?_
      refine j_lcmp X dL_law_1958 ?_
      refine j_if_eq X (tgt := 1964) dL_law_1959 (by decide) (fun h20 => ?_) (fun h20 => ?_)
      · replace hR := (if_pos h20).symm.trans hR
        refine j_goto X (tgt := 3067) dL_law_1964 (by decide) ?_
        have h9 := Option.some.inj hR
        rw [← (Prod.mk.inj h9).1, ← (Prod.mk.inj (Prod.mk.inj h9).2).1, ← (Prod.mk.inj (Prod.mk.inj h9).2).2] at kk
        exact J.widen (c1 := cl + 8) (s1 := sl + 64) (by omega) (by omega) (J.sub (lvle_of (by simp only [lvle, and_self])) kk)
      · replace hR := (if_neg h20).symm.trans hR
        refine j_iconst X (0) dL_law_1962 (by decide) ?_
        cases hR
  · replace hR := (if_neg h18).symm.trans hR
    refine j_iconst X (0) dL_law_1945 (by decide) ?_
    cases hR
def f_case_32 (N Ln : Nat) (xs : Nat → Int32) (i : Int32) (a b c : Mem) : Option (Mem × Mem × Mem) := chkI (i + (1 : Int32)) Ln <| chkI (i + (2 : Int32)) Ln <| chkI (i + (3 : Int32)) Ln <| bP3 (f_L_aheadAfter N (xs ((i + (1 : Int32))).toNatClampNeg) (xs ((i + (2 : Int32))).toNatClampNeg) (xs ((i + (3 : Int32))).toNatClampNeg) a c) fun x5 a6 c7 => chkI (i + (1 : Int32)) Ln <| chkI (i + (2 : Int32)) Ln <| chkI (i + (3 : Int32)) Ln <| bP2 (f_X9_aheadAfter N (xs ((i + (1 : Int32))).toNatClampNeg) (xs ((i + (2 : Int32))).toNatClampNeg) (xs ((i + (3 : Int32))).toNatClampNeg) b) fun x12 b13 => bT (f_X9_thrown  b13) fun x16 => if x16 = x5 then (if x5 = 0 then (if (lg_cmp (Int32.toInt64 (c7 0 0)) (Int32.toInt64 x12)) = 0 then (some (a6, b13, c7)) else (none)) else (some (a6, b13, c7))) else (none)
set_option maxRecDepth 100000 in
set_option maxHeartbeats 4000000 in
theorem m_case_32 (X : Cx G p l s m args meth c9 A RL cL_law 9 ret9 tb) (hl : l.stackTraces = false) (hL : LOK L) (hL7 : L.length = 107) {N Ln sb : Nat} {xs : Nat → Int32} (hX : va_X sb Ln xs s s.heap) (hb : sb < s.heap.size) (hbA : ¬ A sb) {cl sl : Nat} (hcl : cl + 8 ≤ 601024) (hsl : sl + 64 ≤ 7293034) {i : Int32} {a b c a' b' c' : Mem} (hR : f_case_32 N Ln xs i a b c = some (a', b', c')) (kk : J G p l e ({ frames := 14, cells := 601024, slots := 7293034, locals := 524 } : Room) s m args below meth c9 A Q 9 (cl + 8) (sl + 64) 3067 [some (.ref sb), some (.ref (ad L 0)), some (.ref (ad L 96)), some (.ref (ad L 105)), some (.ref (ad L 106)), some (.int i), none, none, none] [] L (FW G L a' b' c')) : J G p l e ({ frames := 14, cells := 601024, slots := 7293034, locals := 524 } : Room) s m args below meth c9 A Q 9 cl sl 1967 [some (.ref sb), some (.ref (ad L 0)), some (.ref (ad L 96)), some (.ref (ad L 105)), some (.ref (ad L 106)), some (.int i), none, none, none] [] L (FW G L a b c) := by
  unfold f_case_32 at hR
  refine j_aload_n X (i := 1) dL_law_1967 rfl rfl ?_
  refine j_aload_n X (i := 0) dL_law_1968 rfl rfl ?_
  refine j_iload X dL_law_1969 rfl ?_
  refine j_iconst X (1) dL_law_1971 (by decide) ?_
  refine j_iadd X dL_law_1972 ?_
  obtain ⟨h1, hR⟩ := chkI_inv hR
  refine j_sld X hX hb hbA h1 dL_law_1973 ?_
  refine j_aload_n X (i := 0) dL_law_1974 rfl rfl ?_
  refine j_iload X dL_law_1975 rfl ?_
  refine j_iconst X (2) dL_law_1977 (by decide) ?_
  refine j_iadd X dL_law_1978 ?_
  obtain ⟨h2, hR⟩ := chkI_inv hR
  refine j_sld X hX hb hbA h2 dL_law_1979 ?_
  refine j_aload_n X (i := 0) dL_law_1980 rfl rfl ?_
  refine j_iload X dL_law_1981 rfl ?_
  refine j_iconst X (3) dL_law_1983 (by decide) ?_
  refine j_iadd X dL_law_1984 ?_
  obtain ⟨h3, hR⟩ := chkI_inv hR
  refine j_sld X hX hb hbA h3 dL_law_1985 ?_
  refine j_aload_n X (i := 3) dL_law_1986 rfl rfl ?_
  obtain ⟨x5, a6, c7, h4, hR⟩ := bP3_inv hR
  refine j_callSW (As := [.ref (ad L 0), .int (xs ((i + (1 : Int32))).toNatClampNeg), .int (xs ((i + (2 : Int32))).toNatClampNeg), .int (xs ((i + (3 : Int32))).toNatClampNeg), .ref (ad L 105)]) (rest := []) X (m_L_aheadAfter hl hL hL7  h4) ml_L_272 st_yL_aheadAfter in_L cd_yL_aheadAfter hy_yL_aheadAfter dL_law_1987 ⟨(by decide), (by decide)⟩ ⟨Nat.le_trans (Nat.add_le_add_left (by decide : 3 ≤ 8) _) hcl, Nat.le_trans (Nat.add_le_add_left (by decide : 18 ≤ 64) _) hsl⟩ (Nat.le_of_ble_eq_true rfl) (fun _ h => h.elim) (fun r9 L9 f9 h9 => ?_)
  obtain ⟨h91, h92, h93⟩ := h9
  subst r9
  subst f9
  subst L9
  dsimp only [Option.toList, List.cons_append, List.nil_append, List.append]
  refine j_istore X dL_law_1990 (by decide) (lvOK_s rfl okPrev_int) ?_
  dsimp only [List.set]
  refine j_aload_n X (i := 2) dL_law_1992 rfl rfl ?_
  refine j_aload_n X (i := 0) dL_law_1993 rfl rfl ?_
  refine j_iload X dL_law_1994 rfl ?_
  refine j_iconst X (1) dL_law_1996 (by decide) ?_
  refine j_iadd X dL_law_1997 ?_
  obtain ⟨h8, hR⟩ := chkI_inv hR
  refine j_sld X hX hb hbA h8 dL_law_1998 ?_
  refine j_aload_n X (i := 0) dL_law_1999 rfl rfl ?_
  refine j_iload X dL_law_2000 rfl ?_
  refine j_iconst X (2) dL_law_2002 (by decide) ?_
  refine j_iadd X dL_law_2003 ?_
  obtain ⟨h9, hR⟩ := chkI_inv hR
  refine j_sld X hX hb hbA h9 dL_law_2004 ?_
  refine j_aload_n X (i := 0) dL_law_2005 rfl rfl ?_
  refine j_iload X dL_law_2006 rfl ?_
  refine j_iconst X (3) dL_law_2008 (by decide) ?_
  refine j_iadd X dL_law_2009 ?_
  obtain ⟨h10, hR⟩ := chkI_inv hR
  refine j_sld X hX hb hbA h10 dL_law_2010 ?_
  obtain ⟨x12, b13, h11, hR⟩ := bP2_inv hR
  refine j_callV3 X 9 (m_X9_aheadAfter hl hL  h11) ml_L_274 im_yX9_aheadAfter se_yX9_aheadAfter in_X9 cd_yX9_aheadAfter hy_yX9_aheadAfter dL_law_2011 rfl (ad_mem hL (by decide)) (FW9 hL) ⟨(by decide), (by decide)⟩ ⟨Nat.le_trans (Nat.add_le_add_left (by decide : 3 ≤ 8) _) hcl, Nat.le_trans (Nat.add_le_add_left (by decide : 18 ≤ 64) _) hsl⟩ (Nat.le_of_ble_eq_true rfl) (fun _ h => h.elim) (fun r9 L9 f9 h9 => ?_)
  obtain ⟨h91, h92, h93⟩ := h9
  subst r9
  subst f9
  subst L9
  dsimp only [Option.toList, List.cons_append, List.nil_append, List.append]
  refine j_istore X dL_law_2014 (by decide) (lvOK_s rfl okPrev_int) ?_
  dsimp only [List.set]
  refine j_aload_n X (i := 2) dL_law_2016 rfl rfl ?_
  obtain ⟨x16, h15, hR⟩ := bT_inv hR
  refine j_callV0 X 9 (m_X9_thrown hl hL  h15) ml_L_162 im_yX9_thrown se_yX9_thrown in_X9 cd_yX9_thrown hy_yX9_thrown dL_law_2017 rfl (ad_mem hL (by decide)) (FW9 hL) ⟨(by decide), (by decide)⟩ ⟨Nat.le_trans (Nat.add_le_add_left (by decide : 3 ≤ 8) _) hcl, Nat.le_trans (Nat.add_le_add_left (by decide : 18 ≤ 64) _) hsl⟩ (Nat.le_of_ble_eq_true rfl) (fun _ h => h.elim) (fun r9 L9 f9 h9 => ?_)
  obtain ⟨h91, h92, h93⟩ := h9
  subst r9
  subst f9
  subst L9
  dsimp only [Option.toList, List.cons_append, List.nil_append, List.append]
  refine j_iload X dL_law_2020 rfl ?_
  refine j_icmp_eq X (tgt := 2027) dL_law_2022 (by decide) (fun h18 => ?_) (fun h18 => ?_)
  · replace hR := (if_pos h18).symm.trans hR
    refine j_iload X dL_law_2027 rfl ?_
    refine j_if_ne X (tgt := 2044) dL_law_2029 (by decide) (fun h19 => ?_) (fun h19 => ?_)
    · replace hR := (if_neg h19).symm.trans hR
      refine j_goto X (tgt := 3067) dL_law_2044 (by decide) ?_
      have h9 := Option.some.inj hR
      rw [← (Prod.mk.inj h9).1, ← (Prod.mk.inj (Prod.mk.inj h9).2).1, ← (Prod.mk.inj (Prod.mk.inj h9).2).2] at kk
      exact J.widen (c1 := cl + 8) (s1 := sl + 64) (by omega) (by omega) (J.sub (lvle_of (by simp only [lvle, and_self])) kk)
    · replace hR := (if_pos h19).symm.trans hR
      refine j_aload_n X (i := 3) dL_law_2032 rfl rfl ?_
      refine j_iconst X (0) dL_law_2033 (by decide) ?_
      refine j_lald105 X hL hL7 dL_law_2034 ?_
      refine j_iload X dL_law_2035 rfl ?_
      refine j_i2l X dL_law_2037 ?_
      refine j_lcmp X dL_law_2038 ?_
      refine j_if_eq X (tgt := 2044) dL_law_2039 (by decide) (fun h20 => ?_) (fun h20 => ?_)
      · replace hR := (if_pos h20).symm.trans hR
        refine j_goto X (tgt := 3067) dL_law_2044 (by decide) ?_
        have h9 := Option.some.inj hR
        rw [← (Prod.mk.inj h9).1, ← (Prod.mk.inj (Prod.mk.inj h9).2).1, ← (Prod.mk.inj (Prod.mk.inj h9).2).2] at kk
        exact J.widen (c1 := cl + 8) (s1 := sl + 64) (by omega) (by omega) (J.sub (lvle_of (by simp only [lvle, and_self])) kk)
      · replace hR := (if_neg h20).symm.trans hR
        refine j_iconst X (0) dL_law_2042 (by decide) ?_
        cases hR
  · replace hR := (if_neg h18).symm.trans hR
    refine j_iconst X (0) dL_law_2025 (by decide) ?_
    cases hR
def f_case_33 (N Ln : Nat) (xs : Nat → Int32) (i : Int32) (a b c : Mem) : Option (Mem × Mem × Mem) := bP3 (f_L_start  a c) fun x2 a3 c4 => bP2 (f_X9_start N  b) fun x6 b7 => bT (f_X9_thrown  b7) fun x10 => if x10 = x2 then (if x2 = 0 then (if (lg_cmp (Int32.toInt64 (c4 0 0)) (Int32.toInt64 x6)) = 0 then (some (a3, b7, c4)) else (none)) else (some (a3, b7, c4))) else (none)
set_option maxRecDepth 100000 in
set_option maxHeartbeats 4000000 in
theorem m_case_33 (X : Cx G p l s m args meth c9 A RL cL_law 9 ret9 tb) (hl : l.stackTraces = false) (hL : LOK L) (hL7 : L.length = 107) {N Ln sb : Nat} {xs : Nat → Int32} (hX : va_X sb Ln xs s s.heap) (hb : sb < s.heap.size) (hbA : ¬ A sb) {cl sl : Nat} (hcl : cl + 8 ≤ 601024) (hsl : sl + 64 ≤ 7293034) {i : Int32} {a b c a' b' c' : Mem} (hR : f_case_33 N Ln xs i a b c = some (a', b', c')) (kk : J G p l e ({ frames := 14, cells := 601024, slots := 7293034, locals := 524 } : Room) s m args below meth c9 A Q 9 (cl + 8) (sl + 64) 3067 [some (.ref sb), some (.ref (ad L 0)), some (.ref (ad L 96)), some (.ref (ad L 105)), some (.ref (ad L 106)), some (.int i), none, none, none] [] L (FW G L a' b' c')) : J G p l e ({ frames := 14, cells := 601024, slots := 7293034, locals := 524 } : Room) s m args below meth c9 A Q 9 cl sl 2047 [some (.ref sb), some (.ref (ad L 0)), some (.ref (ad L 96)), some (.ref (ad L 105)), some (.ref (ad L 106)), some (.int i), none, none, none] [] L (FW G L a b c) := by
  unfold f_case_33 at hR
  refine j_aload_n X (i := 1) dL_law_2047 rfl rfl ?_
  refine j_aload_n X (i := 3) dL_law_2048 rfl rfl ?_
  obtain ⟨x2, a3, c4, h1, hR⟩ := bP3_inv hR
  refine j_callSW (As := [.ref (ad L 0), .ref (ad L 105)]) (rest := []) X (m_L_start hl hL hL7  h1) ml_L_275 st_yL_start in_L cd_yL_start hy_yL_start dL_law_2049 ⟨(by decide), (by decide)⟩ ⟨Nat.le_trans (Nat.add_le_add_left (by decide : 1 ≤ 8) _) hcl, Nat.le_trans (Nat.add_le_add_left (by decide : 6 ≤ 64) _) hsl⟩ (Nat.le_of_ble_eq_true rfl) (fun _ h => h.elim) (fun r9 L9 f9 h9 => ?_)
  obtain ⟨h91, h92, h93⟩ := h9
  subst r9
  subst f9
  subst L9
  dsimp only [Option.toList, List.cons_append, List.nil_append, List.append]
  refine j_istore X dL_law_2052 (by decide) (lvOK_s rfl okPrev_int) ?_
  dsimp only [List.set]
  refine j_aload_n X (i := 2) dL_law_2054 rfl rfl ?_
  obtain ⟨x6, b7, h5, hR⟩ := bP2_inv hR
  refine j_callV0 X 9 (m_X9_start hl hL  h5) ml_L_278 im_yX9_start se_yX9_start in_X9 cd_yX9_start hy_yX9_start dL_law_2055 rfl (ad_mem hL (by decide)) (FW9 hL) ⟨(by decide), (by decide)⟩ ⟨Nat.le_trans (Nat.add_le_add_left (by decide : 1 ≤ 8) _) hcl, Nat.le_trans (Nat.add_le_add_left (by decide : 6 ≤ 64) _) hsl⟩ (Nat.le_of_ble_eq_true rfl) (fun _ h => h.elim) (fun r9 L9 f9 h9 => ?_)
  obtain ⟨h91, h92, h93⟩ := h9
  subst r9
  subst f9
  subst L9
  dsimp only [Option.toList, List.cons_append, List.nil_append, List.append]
  refine j_istore X dL_law_2058 (by decide) (lvOK_s rfl okPrev_int) ?_
  dsimp only [List.set]
  refine j_aload_n X (i := 2) dL_law_2060 rfl rfl ?_
  obtain ⟨x10, h9, hR⟩ := bT_inv hR
  refine j_callV0 X 9 (m_X9_thrown hl hL  h9) ml_L_162 im_yX9_thrown se_yX9_thrown in_X9 cd_yX9_thrown hy_yX9_thrown dL_law_2061 rfl (ad_mem hL (by decide)) (FW9 hL) ⟨(by decide), (by decide)⟩ ⟨Nat.le_trans (Nat.add_le_add_left (by decide : 1 ≤ 8) _) hcl, Nat.le_trans (Nat.add_le_add_left (by decide : 6 ≤ 64) _) hsl⟩ (Nat.le_of_ble_eq_true rfl) (fun _ h => h.elim) (fun r9 L9 f9 h9 => ?_)
  obtain ⟨h91, h92, h93⟩ := h9
  subst r9
  subst f9
  subst L9
  dsimp only [Option.toList, List.cons_append, List.nil_append, List.append]
  refine j_iload X dL_law_2064 rfl ?_
  refine j_icmp_eq X (tgt := 2071) dL_law_2066 (by decide) (fun h12 => ?_) (fun h12 => ?_)
  · replace hR := (if_pos h12).symm.trans hR
    refine j_iload X dL_law_2071 rfl ?_
    refine j_if_ne X (tgt := 2088) dL_law_2073 (by decide) (fun h13 => ?_) (fun h13 => ?_)
    · replace hR := (if_neg h13).symm.trans hR
      refine j_goto X (tgt := 3067) dL_law_2088 (by decide) ?_
      have h9 := Option.some.inj hR
      rw [← (Prod.mk.inj h9).1, ← (Prod.mk.inj (Prod.mk.inj h9).2).1, ← (Prod.mk.inj (Prod.mk.inj h9).2).2] at kk
      exact J.widen (c1 := cl + 8) (s1 := sl + 64) (by omega) (by omega) (J.sub (lvle_of (by simp only [lvle, and_self])) kk)
    · replace hR := (if_pos h13).symm.trans hR
      refine j_aload_n X (i := 3) dL_law_2076 rfl rfl ?_
      refine j_iconst X (0) dL_law_2077 (by decide) ?_
      refine j_lald105 X hL hL7 dL_law_2078 ?_
      refine j_iload X dL_law_2079 rfl ?_
      refine j_i2l X dL_law_2081 ?_
      refine j_lcmp X dL_law_2082 ?_
      refine j_if_eq X (tgt := 2088) dL_law_2083 (by decide) (fun h14 => ?_) (fun h14 => ?_)
      · replace hR := (if_pos h14).symm.trans hR
        refine j_goto X (tgt := 3067) dL_law_2088 (by decide) ?_
        have h9 := Option.some.inj hR
        rw [← (Prod.mk.inj h9).1, ← (Prod.mk.inj (Prod.mk.inj h9).2).1, ← (Prod.mk.inj (Prod.mk.inj h9).2).2] at kk
        exact J.widen (c1 := cl + 8) (s1 := sl + 64) (by omega) (by omega) (J.sub (lvle_of (by simp only [lvle, and_self])) kk)
      · replace hR := (if_neg h14).symm.trans hR
        refine j_iconst X (0) dL_law_2086 (by decide) ?_
        cases hR
  · replace hR := (if_neg h12).symm.trans hR
    refine j_iconst X (0) dL_law_2069 (by decide) ?_
    cases hR
def f_case_34 (N Ln : Nat) (xs : Nat → Int32) (i : Int32) (a b c : Mem) : Option (Mem × Mem × Mem) := chkI (i + (1 : Int32)) Ln <| bP3 (f_L_tick N (xs ((i + (1 : Int32))).toNatClampNeg) a c) fun x3 a4 c5 => chkI (i + (1 : Int32)) Ln <| bP2 (f_X9_tick N (xs ((i + (1 : Int32))).toNatClampNeg) b) fun x8 b9 => bT (f_X9_thrown  b9) fun x12 => if x12 = x3 then (if x3 = 0 then (if (lg_cmp (Int32.toInt64 (c5 0 0)) (Int32.toInt64 x8)) = 0 then (some (a4, b9, c5)) else (none)) else (some (a4, b9, c5))) else (none)
set_option maxRecDepth 100000 in
set_option maxHeartbeats 4000000 in
theorem m_case_34 (X : Cx G p l s m args meth c9 A RL cL_law 9 ret9 tb) (hl : l.stackTraces = false) (hL : LOK L) (hL7 : L.length = 107) {N Ln sb : Nat} {xs : Nat → Int32} (hX : va_X sb Ln xs s s.heap) (hb : sb < s.heap.size) (hbA : ¬ A sb) {cl sl : Nat} (hcl : cl + 8 ≤ 601024) (hsl : sl + 64 ≤ 7293034) {i : Int32} {a b c a' b' c' : Mem} (hR : f_case_34 N Ln xs i a b c = some (a', b', c')) (kk : J G p l e ({ frames := 14, cells := 601024, slots := 7293034, locals := 524 } : Room) s m args below meth c9 A Q 9 (cl + 8) (sl + 64) 3067 [some (.ref sb), some (.ref (ad L 0)), some (.ref (ad L 96)), some (.ref (ad L 105)), some (.ref (ad L 106)), some (.int i), none, none, none] [] L (FW G L a' b' c')) : J G p l e ({ frames := 14, cells := 601024, slots := 7293034, locals := 524 } : Room) s m args below meth c9 A Q 9 cl sl 2091 [some (.ref sb), some (.ref (ad L 0)), some (.ref (ad L 96)), some (.ref (ad L 105)), some (.ref (ad L 106)), some (.int i), none, none, none] [] L (FW G L a b c) := by
  unfold f_case_34 at hR
  refine j_aload_n X (i := 1) dL_law_2091 rfl rfl ?_
  refine j_aload_n X (i := 0) dL_law_2092 rfl rfl ?_
  refine j_iload X dL_law_2093 rfl ?_
  refine j_iconst X (1) dL_law_2095 (by decide) ?_
  refine j_iadd X dL_law_2096 ?_
  obtain ⟨h1, hR⟩ := chkI_inv hR
  refine j_sld X hX hb hbA h1 dL_law_2097 ?_
  refine j_aload_n X (i := 3) dL_law_2098 rfl rfl ?_
  obtain ⟨x3, a4, c5, h2, hR⟩ := bP3_inv hR
  refine j_callSW (As := [.ref (ad L 0), .int (xs ((i + (1 : Int32))).toNatClampNeg), .ref (ad L 105)]) (rest := []) X (m_L_tick hl hL hL7  h2) ml_L_279 st_yL_tick in_L cd_yL_tick hy_yL_tick dL_law_2099 ⟨(by decide), (by decide)⟩ ⟨Nat.le_trans (Nat.add_le_add_left (by decide : 1 ≤ 8) _) hcl, Nat.le_trans (Nat.add_le_add_left (by decide : 6 ≤ 64) _) hsl⟩ (Nat.le_of_ble_eq_true rfl) (fun _ h => h.elim) (fun r9 L9 f9 h9 => ?_)
  obtain ⟨h91, h92, h93⟩ := h9
  subst r9
  subst f9
  subst L9
  dsimp only [Option.toList, List.cons_append, List.nil_append, List.append]
  refine j_istore X dL_law_2102 (by decide) (lvOK_s rfl okPrev_int) ?_
  dsimp only [List.set]
  refine j_aload_n X (i := 2) dL_law_2104 rfl rfl ?_
  refine j_aload_n X (i := 0) dL_law_2105 rfl rfl ?_
  refine j_iload X dL_law_2106 rfl ?_
  refine j_iconst X (1) dL_law_2108 (by decide) ?_
  refine j_iadd X dL_law_2109 ?_
  obtain ⟨h6, hR⟩ := chkI_inv hR
  refine j_sld X hX hb hbA h6 dL_law_2110 ?_
  obtain ⟨x8, b9, h7, hR⟩ := bP2_inv hR
  refine j_callV1 X 9 (m_X9_tick hl hL  h7) ml_L_281 im_yX9_tick se_yX9_tick in_X9 cd_yX9_tick hy_yX9_tick dL_law_2111 rfl (ad_mem hL (by decide)) (FW9 hL) ⟨(by decide), (by decide)⟩ ⟨Nat.le_trans (Nat.add_le_add_left (by decide : 1 ≤ 8) _) hcl, Nat.le_trans (Nat.add_le_add_left (by decide : 6 ≤ 64) _) hsl⟩ (Nat.le_of_ble_eq_true rfl) (fun _ h => h.elim) (fun r9 L9 f9 h9 => ?_)
  obtain ⟨h91, h92, h93⟩ := h9
  subst r9
  subst f9
  subst L9
  dsimp only [Option.toList, List.cons_append, List.nil_append, List.append]
  refine j_istore X dL_law_2114 (by decide) (lvOK_s rfl okPrev_int) ?_
  dsimp only [List.set]
  refine j_aload_n X (i := 2) dL_law_2116 rfl rfl ?_
  obtain ⟨x12, h11, hR⟩ := bT_inv hR
  refine j_callV0 X 9 (m_X9_thrown hl hL  h11) ml_L_162 im_yX9_thrown se_yX9_thrown in_X9 cd_yX9_thrown hy_yX9_thrown dL_law_2117 rfl (ad_mem hL (by decide)) (FW9 hL) ⟨(by decide), (by decide)⟩ ⟨Nat.le_trans (Nat.add_le_add_left (by decide : 1 ≤ 8) _) hcl, Nat.le_trans (Nat.add_le_add_left (by decide : 6 ≤ 64) _) hsl⟩ (Nat.le_of_ble_eq_true rfl) (fun _ h => h.elim) (fun r9 L9 f9 h9 => ?_)
  obtain ⟨h91, h92, h93⟩ := h9
  subst r9
  subst f9
  subst L9
  dsimp only [Option.toList, List.cons_append, List.nil_append, List.append]
  refine j_iload X dL_law_2120 rfl ?_
  refine j_icmp_eq X (tgt := 2127) dL_law_2122 (by decide) (fun h14 => ?_) (fun h14 => ?_)
  · replace hR := (if_pos h14).symm.trans hR
    refine j_iload X dL_law_2127 rfl ?_
    refine j_if_ne X (tgt := 2144) dL_law_2129 (by decide) (fun h15 => ?_) (fun h15 => ?_)
    · replace hR := (if_neg h15).symm.trans hR
      refine j_goto X (tgt := 3067) dL_law_2144 (by decide) ?_
      have h9 := Option.some.inj hR
      rw [← (Prod.mk.inj h9).1, ← (Prod.mk.inj (Prod.mk.inj h9).2).1, ← (Prod.mk.inj (Prod.mk.inj h9).2).2] at kk
      exact J.widen (c1 := cl + 8) (s1 := sl + 64) (by omega) (by omega) (J.sub (lvle_of (by simp only [lvle, and_self])) kk)
    · replace hR := (if_pos h15).symm.trans hR
      refine j_aload_n X (i := 3) dL_law_2132 rfl rfl ?_
      refine j_iconst X (0) dL_law_2133 (by decide) ?_
      refine j_lald105 X hL hL7 dL_law_2134 ?_
      refine j_iload X dL_law_2135 rfl ?_
      refine j_i2l X dL_law_2137 ?_
      refine j_lcmp X dL_law_2138 ?_
      refine j_if_eq X (tgt := 2144) dL_law_2139 (by decide) (fun h16 => ?_) (fun h16 => ?_)
      · replace hR := (if_pos h16).symm.trans hR
        refine j_goto X (tgt := 3067) dL_law_2144 (by decide) ?_
        have h9 := Option.some.inj hR
        rw [← (Prod.mk.inj h9).1, ← (Prod.mk.inj (Prod.mk.inj h9).2).1, ← (Prod.mk.inj (Prod.mk.inj h9).2).2] at kk
        exact J.widen (c1 := cl + 8) (s1 := sl + 64) (by omega) (by omega) (J.sub (lvle_of (by simp only [lvle, and_self])) kk)
      · replace hR := (if_neg h16).symm.trans hR
        refine j_iconst X (0) dL_law_2142 (by decide) ?_
        cases hR
  · replace hR := (if_neg h14).symm.trans hR
    refine j_iconst X (0) dL_law_2125 (by decide) ?_
    cases hR
def f_case_35 (N Ln : Nat) (xs : Nat → Int32) (i : Int32) (a b c : Mem) : Option (Mem × Mem × Mem) := bP3 (f_L_move  a c) fun x2 a3 c4 => bP2 (f_X9_move N  b) fun x6 b7 => bT (f_X9_thrown  b7) fun x10 => if x10 = x2 then (if x2 = 0 then (if (lg_cmp (Int32.toInt64 (c4 0 0)) (Int32.toInt64 x6)) = 0 then (some (a3, b7, c4)) else (none)) else (some (a3, b7, c4))) else (none)
set_option maxRecDepth 100000 in
set_option maxHeartbeats 4000000 in
theorem m_case_35 (X : Cx G p l s m args meth c9 A RL cL_law 9 ret9 tb) (hl : l.stackTraces = false) (hL : LOK L) (hL7 : L.length = 107) {N Ln sb : Nat} {xs : Nat → Int32} (hX : va_X sb Ln xs s s.heap) (hb : sb < s.heap.size) (hbA : ¬ A sb) {cl sl : Nat} (hcl : cl + 8 ≤ 601024) (hsl : sl + 64 ≤ 7293034) {i : Int32} {a b c a' b' c' : Mem} (hR : f_case_35 N Ln xs i a b c = some (a', b', c')) (kk : J G p l e ({ frames := 14, cells := 601024, slots := 7293034, locals := 524 } : Room) s m args below meth c9 A Q 9 (cl + 8) (sl + 64) 3067 [some (.ref sb), some (.ref (ad L 0)), some (.ref (ad L 96)), some (.ref (ad L 105)), some (.ref (ad L 106)), some (.int i), none, none, none] [] L (FW G L a' b' c')) : J G p l e ({ frames := 14, cells := 601024, slots := 7293034, locals := 524 } : Room) s m args below meth c9 A Q 9 cl sl 2147 [some (.ref sb), some (.ref (ad L 0)), some (.ref (ad L 96)), some (.ref (ad L 105)), some (.ref (ad L 106)), some (.int i), none, none, none] [] L (FW G L a b c) := by
  unfold f_case_35 at hR
  refine j_aload_n X (i := 1) dL_law_2147 rfl rfl ?_
  refine j_aload_n X (i := 3) dL_law_2148 rfl rfl ?_
  obtain ⟨x2, a3, c4, h1, hR⟩ := bP3_inv hR
  refine j_callSW (As := [.ref (ad L 0), .ref (ad L 105)]) (rest := []) X (m_L_move hl hL hL7  h1) ml_L_282 st_yL_move in_L cd_yL_move hy_yL_move dL_law_2149 ⟨(by decide), (by decide)⟩ ⟨Nat.le_trans (Nat.add_le_add_left (by decide : 1 ≤ 8) _) hcl, Nat.le_trans (Nat.add_le_add_left (by decide : 6 ≤ 64) _) hsl⟩ (Nat.le_of_ble_eq_true rfl) (fun _ h => h.elim) (fun r9 L9 f9 h9 => ?_)
  obtain ⟨h91, h92, h93⟩ := h9
  subst r9
  subst f9
  subst L9
  dsimp only [Option.toList, List.cons_append, List.nil_append, List.append]
  refine j_istore X dL_law_2152 (by decide) (lvOK_s rfl okPrev_int) ?_
  dsimp only [List.set]
  refine j_aload_n X (i := 2) dL_law_2154 rfl rfl ?_
  obtain ⟨x6, b7, h5, hR⟩ := bP2_inv hR
  refine j_callV0 X 9 (m_X9_move hl hL  h5) ml_L_284 im_yX9_move se_yX9_move in_X9 cd_yX9_move hy_yX9_move dL_law_2155 rfl (ad_mem hL (by decide)) (FW9 hL) ⟨(by decide), (by decide)⟩ ⟨Nat.le_trans (Nat.add_le_add_left (by decide : 1 ≤ 8) _) hcl, Nat.le_trans (Nat.add_le_add_left (by decide : 6 ≤ 64) _) hsl⟩ (Nat.le_of_ble_eq_true rfl) (fun _ h => h.elim) (fun r9 L9 f9 h9 => ?_)
  obtain ⟨h91, h92, h93⟩ := h9
  subst r9
  subst f9
  subst L9
  dsimp only [Option.toList, List.cons_append, List.nil_append, List.append]
  refine j_istore X dL_law_2158 (by decide) (lvOK_s rfl okPrev_int) ?_
  dsimp only [List.set]
  refine j_aload_n X (i := 2) dL_law_2160 rfl rfl ?_
  obtain ⟨x10, h9, hR⟩ := bT_inv hR
  refine j_callV0 X 9 (m_X9_thrown hl hL  h9) ml_L_162 im_yX9_thrown se_yX9_thrown in_X9 cd_yX9_thrown hy_yX9_thrown dL_law_2161 rfl (ad_mem hL (by decide)) (FW9 hL) ⟨(by decide), (by decide)⟩ ⟨Nat.le_trans (Nat.add_le_add_left (by decide : 1 ≤ 8) _) hcl, Nat.le_trans (Nat.add_le_add_left (by decide : 6 ≤ 64) _) hsl⟩ (Nat.le_of_ble_eq_true rfl) (fun _ h => h.elim) (fun r9 L9 f9 h9 => ?_)
  obtain ⟨h91, h92, h93⟩ := h9
  subst r9
  subst f9
  subst L9
  dsimp only [Option.toList, List.cons_append, List.nil_append, List.append]
  refine j_iload X dL_law_2164 rfl ?_
  refine j_icmp_eq X (tgt := 2171) dL_law_2166 (by decide) (fun h12 => ?_) (fun h12 => ?_)
  · replace hR := (if_pos h12).symm.trans hR
    refine j_iload X dL_law_2171 rfl ?_
    refine j_if_ne X (tgt := 2188) dL_law_2173 (by decide) (fun h13 => ?_) (fun h13 => ?_)
    · replace hR := (if_neg h13).symm.trans hR
      refine j_goto X (tgt := 3067) dL_law_2188 (by decide) ?_
      have h9 := Option.some.inj hR
      rw [← (Prod.mk.inj h9).1, ← (Prod.mk.inj (Prod.mk.inj h9).2).1, ← (Prod.mk.inj (Prod.mk.inj h9).2).2] at kk
      exact J.widen (c1 := cl + 8) (s1 := sl + 64) (by omega) (by omega) (J.sub (lvle_of (by simp only [lvle, and_self])) kk)
    · replace hR := (if_pos h13).symm.trans hR
      refine j_aload_n X (i := 3) dL_law_2176 rfl rfl ?_
      refine j_iconst X (0) dL_law_2177 (by decide) ?_
      refine j_lald105 X hL hL7 dL_law_2178 ?_
      refine j_iload X dL_law_2179 rfl ?_
      refine j_i2l X dL_law_2181 ?_
      refine j_lcmp X dL_law_2182 ?_
      refine j_if_eq X (tgt := 2188) dL_law_2183 (by decide) (fun h14 => ?_) (fun h14 => ?_)
      · replace hR := (if_pos h14).symm.trans hR
        refine j_goto X (tgt := 3067) dL_law_2188 (by decide) ?_
        have h9 := Option.some.inj hR
        rw [← (Prod.mk.inj h9).1, ← (Prod.mk.inj (Prod.mk.inj h9).2).1, ← (Prod.mk.inj (Prod.mk.inj h9).2).2] at kk
        exact J.widen (c1 := cl + 8) (s1 := sl + 64) (by omega) (by omega) (J.sub (lvle_of (by simp only [lvle, and_self])) kk)
      · replace hR := (if_neg h14).symm.trans hR
        refine j_iconst X (0) dL_law_2186 (by decide) ?_
        cases hR
  · replace hR := (if_neg h12).symm.trans hR
    refine j_iconst X (0) dL_law_2169 (by decide) ?_
    cases hR
def f_case_36 (N Ln : Nat) (xs : Nat → Int32) (i : Int32) (a b c : Mem) : Option (Mem × Mem × Mem) := bP3 (f_L_pause  a c) fun x2 a3 c4 => bP2 (f_X9_pause N  b) fun x6 b7 => bT (f_X9_thrown  b7) fun x10 => if x10 = x2 then (if x2 = 0 then (if (lg_cmp (Int32.toInt64 (c4 0 0)) (Int32.toInt64 x6)) = 0 then (some (a3, b7, c4)) else (none)) else (some (a3, b7, c4))) else (none)
set_option maxRecDepth 100000 in
set_option maxHeartbeats 4000000 in
theorem m_case_36 (X : Cx G p l s m args meth c9 A RL cL_law 9 ret9 tb) (hl : l.stackTraces = false) (hL : LOK L) (hL7 : L.length = 107) {N Ln sb : Nat} {xs : Nat → Int32} (hX : va_X sb Ln xs s s.heap) (hb : sb < s.heap.size) (hbA : ¬ A sb) {cl sl : Nat} (hcl : cl + 8 ≤ 601024) (hsl : sl + 64 ≤ 7293034) {i : Int32} {a b c a' b' c' : Mem} (hR : f_case_36 N Ln xs i a b c = some (a', b', c')) (kk : J G p l e ({ frames := 14, cells := 601024, slots := 7293034, locals := 524 } : Room) s m args below meth c9 A Q 9 (cl + 8) (sl + 64) 3067 [some (.ref sb), some (.ref (ad L 0)), some (.ref (ad L 96)), some (.ref (ad L 105)), some (.ref (ad L 106)), some (.int i), none, none, none] [] L (FW G L a' b' c')) : J G p l e ({ frames := 14, cells := 601024, slots := 7293034, locals := 524 } : Room) s m args below meth c9 A Q 9 cl sl 2191 [some (.ref sb), some (.ref (ad L 0)), some (.ref (ad L 96)), some (.ref (ad L 105)), some (.ref (ad L 106)), some (.int i), none, none, none] [] L (FW G L a b c) := by
  unfold f_case_36 at hR
  refine j_aload_n X (i := 1) dL_law_2191 rfl rfl ?_
  refine j_aload_n X (i := 3) dL_law_2192 rfl rfl ?_
  obtain ⟨x2, a3, c4, h1, hR⟩ := bP3_inv hR
  refine j_callSW (As := [.ref (ad L 0), .ref (ad L 105)]) (rest := []) X (m_L_pause hl hL hL7  h1) ml_L_285 st_yL_pause in_L cd_yL_pause hy_yL_pause dL_law_2193 ⟨(by decide), (by decide)⟩ ⟨Nat.le_trans (Nat.add_le_add_left (by decide : 1 ≤ 8) _) hcl, Nat.le_trans (Nat.add_le_add_left (by decide : 6 ≤ 64) _) hsl⟩ (Nat.le_of_ble_eq_true rfl) (fun _ h => h.elim) (fun r9 L9 f9 h9 => ?_)
  obtain ⟨h91, h92, h93⟩ := h9
  subst r9
  subst f9
  subst L9
  dsimp only [Option.toList, List.cons_append, List.nil_append, List.append]
  refine j_istore X dL_law_2196 (by decide) (lvOK_s rfl okPrev_int) ?_
  dsimp only [List.set]
  refine j_aload_n X (i := 2) dL_law_2198 rfl rfl ?_
  obtain ⟨x6, b7, h5, hR⟩ := bP2_inv hR
  refine j_callV0 X 9 (m_X9_pause hl hL  h5) ml_L_287 im_yX9_pause se_yX9_pause in_X9 cd_yX9_pause hy_yX9_pause dL_law_2199 rfl (ad_mem hL (by decide)) (FW9 hL) ⟨(by decide), (by decide)⟩ ⟨Nat.le_trans (Nat.add_le_add_left (by decide : 1 ≤ 8) _) hcl, Nat.le_trans (Nat.add_le_add_left (by decide : 6 ≤ 64) _) hsl⟩ (Nat.le_of_ble_eq_true rfl) (fun _ h => h.elim) (fun r9 L9 f9 h9 => ?_)
  obtain ⟨h91, h92, h93⟩ := h9
  subst r9
  subst f9
  subst L9
  dsimp only [Option.toList, List.cons_append, List.nil_append, List.append]
  refine j_istore X dL_law_2202 (by decide) (lvOK_s rfl okPrev_int) ?_
  dsimp only [List.set]
  refine j_aload_n X (i := 2) dL_law_2204 rfl rfl ?_
  obtain ⟨x10, h9, hR⟩ := bT_inv hR
  refine j_callV0 X 9 (m_X9_thrown hl hL  h9) ml_L_162 im_yX9_thrown se_yX9_thrown in_X9 cd_yX9_thrown hy_yX9_thrown dL_law_2205 rfl (ad_mem hL (by decide)) (FW9 hL) ⟨(by decide), (by decide)⟩ ⟨Nat.le_trans (Nat.add_le_add_left (by decide : 1 ≤ 8) _) hcl, Nat.le_trans (Nat.add_le_add_left (by decide : 6 ≤ 64) _) hsl⟩ (Nat.le_of_ble_eq_true rfl) (fun _ h => h.elim) (fun r9 L9 f9 h9 => ?_)
  obtain ⟨h91, h92, h93⟩ := h9
  subst r9
  subst f9
  subst L9
  dsimp only [Option.toList, List.cons_append, List.nil_append, List.append]
  refine j_iload X dL_law_2208 rfl ?_
  refine j_icmp_eq X (tgt := 2215) dL_law_2210 (by decide) (fun h12 => ?_) (fun h12 => ?_)
  · replace hR := (if_pos h12).symm.trans hR
    refine j_iload X dL_law_2215 rfl ?_
    refine j_if_ne X (tgt := 2232) dL_law_2217 (by decide) (fun h13 => ?_) (fun h13 => ?_)
    · replace hR := (if_neg h13).symm.trans hR
      refine j_goto X (tgt := 3067) dL_law_2232 (by decide) ?_
      have h9 := Option.some.inj hR
      rw [← (Prod.mk.inj h9).1, ← (Prod.mk.inj (Prod.mk.inj h9).2).1, ← (Prod.mk.inj (Prod.mk.inj h9).2).2] at kk
      exact J.widen (c1 := cl + 8) (s1 := sl + 64) (by omega) (by omega) (J.sub (lvle_of (by simp only [lvle, and_self])) kk)
    · replace hR := (if_pos h13).symm.trans hR
      refine j_aload_n X (i := 3) dL_law_2220 rfl rfl ?_
      refine j_iconst X (0) dL_law_2221 (by decide) ?_
      refine j_lald105 X hL hL7 dL_law_2222 ?_
      refine j_iload X dL_law_2223 rfl ?_
      refine j_i2l X dL_law_2225 ?_
      refine j_lcmp X dL_law_2226 ?_
      refine j_if_eq X (tgt := 2232) dL_law_2227 (by decide) (fun h14 => ?_) (fun h14 => ?_)
      · replace hR := (if_pos h14).symm.trans hR
        refine j_goto X (tgt := 3067) dL_law_2232 (by decide) ?_
        have h9 := Option.some.inj hR
        rw [← (Prod.mk.inj h9).1, ← (Prod.mk.inj (Prod.mk.inj h9).2).1, ← (Prod.mk.inj (Prod.mk.inj h9).2).2] at kk
        exact J.widen (c1 := cl + 8) (s1 := sl + 64) (by omega) (by omega) (J.sub (lvle_of (by simp only [lvle, and_self])) kk)
      · replace hR := (if_neg h14).symm.trans hR
        refine j_iconst X (0) dL_law_2230 (by decide) ?_
        cases hR
  · replace hR := (if_neg h12).symm.trans hR
    refine j_iconst X (0) dL_law_2213 (by decide) ?_
    cases hR
def f_case_37 (N Ln : Nat) (xs : Nat → Int32) (i : Int32) (a b c : Mem) : Option (Mem × Mem × Mem) := bP3 (f_L_proceed  a c) fun x2 a3 c4 => bP2 (f_X9_proceed N  b) fun x6 b7 => bT (f_X9_thrown  b7) fun x10 => if x10 = x2 then (if x2 = 0 then (if (lg_cmp (Int32.toInt64 (c4 0 0)) (Int32.toInt64 x6)) = 0 then (some (a3, b7, c4)) else (none)) else (some (a3, b7, c4))) else (none)
set_option maxRecDepth 100000 in
set_option maxHeartbeats 4000000 in
theorem m_case_37 (X : Cx G p l s m args meth c9 A RL cL_law 9 ret9 tb) (hl : l.stackTraces = false) (hL : LOK L) (hL7 : L.length = 107) {N Ln sb : Nat} {xs : Nat → Int32} (hX : va_X sb Ln xs s s.heap) (hb : sb < s.heap.size) (hbA : ¬ A sb) {cl sl : Nat} (hcl : cl + 8 ≤ 601024) (hsl : sl + 64 ≤ 7293034) {i : Int32} {a b c a' b' c' : Mem} (hR : f_case_37 N Ln xs i a b c = some (a', b', c')) (kk : J G p l e ({ frames := 14, cells := 601024, slots := 7293034, locals := 524 } : Room) s m args below meth c9 A Q 9 (cl + 8) (sl + 64) 3067 [some (.ref sb), some (.ref (ad L 0)), some (.ref (ad L 96)), some (.ref (ad L 105)), some (.ref (ad L 106)), some (.int i), none, none, none] [] L (FW G L a' b' c')) : J G p l e ({ frames := 14, cells := 601024, slots := 7293034, locals := 524 } : Room) s m args below meth c9 A Q 9 cl sl 2235 [some (.ref sb), some (.ref (ad L 0)), some (.ref (ad L 96)), some (.ref (ad L 105)), some (.ref (ad L 106)), some (.int i), none, none, none] [] L (FW G L a b c) := by
  unfold f_case_37 at hR
  refine j_aload_n X (i := 1) dL_law_2235 rfl rfl ?_
  refine j_aload_n X (i := 3) dL_law_2236 rfl rfl ?_
  obtain ⟨x2, a3, c4, h1, hR⟩ := bP3_inv hR
  refine j_callSW (As := [.ref (ad L 0), .ref (ad L 105)]) (rest := []) X (m_L_proceed hl hL hL7  h1) ml_L_288 st_yL_proceed in_L cd_yL_proceed hy_yL_proceed dL_law_2237 ⟨(by decide), (by decide)⟩ ⟨Nat.le_trans (Nat.add_le_add_left (by decide : 1 ≤ 8) _) hcl, Nat.le_trans (Nat.add_le_add_left (by decide : 6 ≤ 64) _) hsl⟩ (Nat.le_of_ble_eq_true rfl) (fun _ h => h.elim) (fun r9 L9 f9 h9 => ?_)
  obtain ⟨h91, h92, h93⟩ := h9
  subst r9
  subst f9
  subst L9
  dsimp only [Option.toList, List.cons_append, List.nil_append, List.append]
  refine j_istore X dL_law_2240 (by decide) (lvOK_s rfl okPrev_int) ?_
  dsimp only [List.set]
  refine j_aload_n X (i := 2) dL_law_2242 rfl rfl ?_
  obtain ⟨x6, b7, h5, hR⟩ := bP2_inv hR
  refine j_callV0 X 9 (m_X9_proceed hl hL  h5) ml_L_290 im_yX9_proceed se_yX9_proceed in_X9 cd_yX9_proceed hy_yX9_proceed dL_law_2243 rfl (ad_mem hL (by decide)) (FW9 hL) ⟨(by decide), (by decide)⟩ ⟨Nat.le_trans (Nat.add_le_add_left (by decide : 1 ≤ 8) _) hcl, Nat.le_trans (Nat.add_le_add_left (by decide : 6 ≤ 64) _) hsl⟩ (Nat.le_of_ble_eq_true rfl) (fun _ h => h.elim) (fun r9 L9 f9 h9 => ?_)
  obtain ⟨h91, h92, h93⟩ := h9
  subst r9
  subst f9
  subst L9
  dsimp only [Option.toList, List.cons_append, List.nil_append, List.append]
  refine j_istore X dL_law_2246 (by decide) (lvOK_s rfl okPrev_int) ?_
  dsimp only [List.set]
  refine j_aload_n X (i := 2) dL_law_2248 rfl rfl ?_
  obtain ⟨x10, h9, hR⟩ := bT_inv hR
  refine j_callV0 X 9 (m_X9_thrown hl hL  h9) ml_L_162 im_yX9_thrown se_yX9_thrown in_X9 cd_yX9_thrown hy_yX9_thrown dL_law_2249 rfl (ad_mem hL (by decide)) (FW9 hL) ⟨(by decide), (by decide)⟩ ⟨Nat.le_trans (Nat.add_le_add_left (by decide : 1 ≤ 8) _) hcl, Nat.le_trans (Nat.add_le_add_left (by decide : 6 ≤ 64) _) hsl⟩ (Nat.le_of_ble_eq_true rfl) (fun _ h => h.elim) (fun r9 L9 f9 h9 => ?_)
  obtain ⟨h91, h92, h93⟩ := h9
  subst r9
  subst f9
  subst L9
  dsimp only [Option.toList, List.cons_append, List.nil_append, List.append]
  refine j_iload X dL_law_2252 rfl ?_
  refine j_icmp_eq X (tgt := 2259) dL_law_2254 (by decide) (fun h12 => ?_) (fun h12 => ?_)
  · replace hR := (if_pos h12).symm.trans hR
    refine j_iload X dL_law_2259 rfl ?_
    refine j_if_ne X (tgt := 2276) dL_law_2261 (by decide) (fun h13 => ?_) (fun h13 => ?_)
    · replace hR := (if_neg h13).symm.trans hR
      refine j_goto X (tgt := 3067) dL_law_2276 (by decide) ?_
      have h9 := Option.some.inj hR
      rw [← (Prod.mk.inj h9).1, ← (Prod.mk.inj (Prod.mk.inj h9).2).1, ← (Prod.mk.inj (Prod.mk.inj h9).2).2] at kk
      exact J.widen (c1 := cl + 8) (s1 := sl + 64) (by omega) (by omega) (J.sub (lvle_of (by simp only [lvle, and_self])) kk)
    · replace hR := (if_pos h13).symm.trans hR
      refine j_aload_n X (i := 3) dL_law_2264 rfl rfl ?_
      refine j_iconst X (0) dL_law_2265 (by decide) ?_
      refine j_lald105 X hL hL7 dL_law_2266 ?_
      refine j_iload X dL_law_2267 rfl ?_
      refine j_i2l X dL_law_2269 ?_
      refine j_lcmp X dL_law_2270 ?_
      refine j_if_eq X (tgt := 2276) dL_law_2271 (by decide) (fun h14 => ?_) (fun h14 => ?_)
      · replace hR := (if_pos h14).symm.trans hR
        refine j_goto X (tgt := 3067) dL_law_2276 (by decide) ?_
        have h9 := Option.some.inj hR
        rw [← (Prod.mk.inj h9).1, ← (Prod.mk.inj (Prod.mk.inj h9).2).1, ← (Prod.mk.inj (Prod.mk.inj h9).2).2] at kk
        exact J.widen (c1 := cl + 8) (s1 := sl + 64) (by omega) (by omega) (J.sub (lvle_of (by simp only [lvle, and_self])) kk)
      · replace hR := (if_neg h14).symm.trans hR
        refine j_iconst X (0) dL_law_2274 (by decide) ?_
        cases hR
  · replace hR := (if_neg h12).symm.trans hR
    refine j_iconst X (0) dL_law_2257 (by decide) ?_
    cases hR
def f_case_38 (N Ln : Nat) (xs : Nat → Int32) (i : Int32) (a b c : Mem) : Option (Mem × Mem × Mem) := bP3 (f_L_seal  a c) fun x2 a3 c4 => bP2 (f_X9_seal N  b) fun x6 b7 => bT (f_X9_thrown  b7) fun x10 => if x10 = x2 then (if x2 = 0 then (if (lg_cmp (Int32.toInt64 (c4 0 0)) (Int32.toInt64 x6)) = 0 then (some (a3, b7, c4)) else (none)) else (some (a3, b7, c4))) else (none)
set_option maxRecDepth 100000 in
set_option maxHeartbeats 4000000 in
theorem m_case_38 (X : Cx G p l s m args meth c9 A RL cL_law 9 ret9 tb) (hl : l.stackTraces = false) (hL : LOK L) (hL7 : L.length = 107) {N Ln sb : Nat} {xs : Nat → Int32} (hX : va_X sb Ln xs s s.heap) (hb : sb < s.heap.size) (hbA : ¬ A sb) {cl sl : Nat} (hcl : cl + 8 ≤ 601024) (hsl : sl + 64 ≤ 7293034) {i : Int32} {a b c a' b' c' : Mem} (hR : f_case_38 N Ln xs i a b c = some (a', b', c')) (kk : J G p l e ({ frames := 14, cells := 601024, slots := 7293034, locals := 524 } : Room) s m args below meth c9 A Q 9 (cl + 8) (sl + 64) 3067 [some (.ref sb), some (.ref (ad L 0)), some (.ref (ad L 96)), some (.ref (ad L 105)), some (.ref (ad L 106)), some (.int i), none, none, none] [] L (FW G L a' b' c')) : J G p l e ({ frames := 14, cells := 601024, slots := 7293034, locals := 524 } : Room) s m args below meth c9 A Q 9 cl sl 2279 [some (.ref sb), some (.ref (ad L 0)), some (.ref (ad L 96)), some (.ref (ad L 105)), some (.ref (ad L 106)), some (.int i), none, none, none] [] L (FW G L a b c) := by
  unfold f_case_38 at hR
  refine j_aload_n X (i := 1) dL_law_2279 rfl rfl ?_
  refine j_aload_n X (i := 3) dL_law_2280 rfl rfl ?_
  obtain ⟨x2, a3, c4, h1, hR⟩ := bP3_inv hR
  refine j_callSW (As := [.ref (ad L 0), .ref (ad L 105)]) (rest := []) X (m_L_seal hl hL hL7  h1) ml_L_291 st_yL_seal in_L cd_yL_seal hy_yL_seal dL_law_2281 ⟨(by decide), (by decide)⟩ ⟨Nat.le_trans (Nat.add_le_add_left (by decide : 1 ≤ 8) _) hcl, Nat.le_trans (Nat.add_le_add_left (by decide : 6 ≤ 64) _) hsl⟩ (Nat.le_of_ble_eq_true rfl) (fun _ h => h.elim) (fun r9 L9 f9 h9 => ?_)
  obtain ⟨h91, h92, h93⟩ := h9
  subst r9
  subst f9
  subst L9
  dsimp only [Option.toList, List.cons_append, List.nil_append, List.append]
  refine j_istore X dL_law_2284 (by decide) (lvOK_s rfl okPrev_int) ?_
  dsimp only [List.set]
  refine j_aload_n X (i := 2) dL_law_2286 rfl rfl ?_
  obtain ⟨x6, b7, h5, hR⟩ := bP2_inv hR
  refine j_callV0 X 9 (m_X9_seal hl hL  h5) ml_L_293 im_yX9_seal se_yX9_seal in_X9 cd_yX9_seal hy_yX9_seal dL_law_2287 rfl (ad_mem hL (by decide)) (FW9 hL) ⟨(by decide), (by decide)⟩ ⟨Nat.le_trans (Nat.add_le_add_left (by decide : 1 ≤ 8) _) hcl, Nat.le_trans (Nat.add_le_add_left (by decide : 6 ≤ 64) _) hsl⟩ (Nat.le_of_ble_eq_true rfl) (fun _ h => h.elim) (fun r9 L9 f9 h9 => ?_)
  obtain ⟨h91, h92, h93⟩ := h9
  subst r9
  subst f9
  subst L9
  dsimp only [Option.toList, List.cons_append, List.nil_append, List.append]
  refine j_istore X dL_law_2290 (by decide) (lvOK_s rfl okPrev_int) ?_
  dsimp only [List.set]
  refine j_aload_n X (i := 2) dL_law_2292 rfl rfl ?_
  obtain ⟨x10, h9, hR⟩ := bT_inv hR
  refine j_callV0 X 9 (m_X9_thrown hl hL  h9) ml_L_162 im_yX9_thrown se_yX9_thrown in_X9 cd_yX9_thrown hy_yX9_thrown dL_law_2293 rfl (ad_mem hL (by decide)) (FW9 hL) ⟨(by decide), (by decide)⟩ ⟨Nat.le_trans (Nat.add_le_add_left (by decide : 1 ≤ 8) _) hcl, Nat.le_trans (Nat.add_le_add_left (by decide : 6 ≤ 64) _) hsl⟩ (Nat.le_of_ble_eq_true rfl) (fun _ h => h.elim) (fun r9 L9 f9 h9 => ?_)
  obtain ⟨h91, h92, h93⟩ := h9
  subst r9
  subst f9
  subst L9
  dsimp only [Option.toList, List.cons_append, List.nil_append, List.append]
  refine j_iload X dL_law_2296 rfl ?_
  refine j_icmp_eq X (tgt := 2303) dL_law_2298 (by decide) (fun h12 => ?_) (fun h12 => ?_)
  · replace hR := (if_pos h12).symm.trans hR
    refine j_iload X dL_law_2303 rfl ?_
    refine j_if_ne X (tgt := 2320) dL_law_2305 (by decide) (fun h13 => ?_) (fun h13 => ?_)
    · replace hR := (if_neg h13).symm.trans hR
      refine j_goto X (tgt := 3067) dL_law_2320 (by decide) ?_
      have h9 := Option.some.inj hR
      rw [← (Prod.mk.inj h9).1, ← (Prod.mk.inj (Prod.mk.inj h9).2).1, ← (Prod.mk.inj (Prod.mk.inj h9).2).2] at kk
      exact J.widen (c1 := cl + 8) (s1 := sl + 64) (by omega) (by omega) (J.sub (lvle_of (by simp only [lvle, and_self])) kk)
    · replace hR := (if_pos h13).symm.trans hR
      refine j_aload_n X (i := 3) dL_law_2308 rfl rfl ?_
      refine j_iconst X (0) dL_law_2309 (by decide) ?_
      refine j_lald105 X hL hL7 dL_law_2310 ?_
      refine j_iload X dL_law_2311 rfl ?_
      refine j_i2l X dL_law_2313 ?_
      refine j_lcmp X dL_law_2314 ?_
      refine j_if_eq X (tgt := 2320) dL_law_2315 (by decide) (fun h14 => ?_) (fun h14 => ?_)
      · replace hR := (if_pos h14).symm.trans hR
        refine j_goto X (tgt := 3067) dL_law_2320 (by decide) ?_
        have h9 := Option.some.inj hR
        rw [← (Prod.mk.inj h9).1, ← (Prod.mk.inj (Prod.mk.inj h9).2).1, ← (Prod.mk.inj (Prod.mk.inj h9).2).2] at kk
        exact J.widen (c1 := cl + 8) (s1 := sl + 64) (by omega) (by omega) (J.sub (lvle_of (by simp only [lvle, and_self])) kk)
      · replace hR := (if_neg h14).symm.trans hR
        refine j_iconst X (0) dL_law_2318 (by decide) ?_
        cases hR
  · replace hR := (if_neg h12).symm.trans hR
    refine j_iconst X (0) dL_law_2301 (by decide) ?_
    cases hR
def f_case_39 (N Ln : Nat) (xs : Nat → Int32) (i : Int32) (a b c : Mem) : Option (Mem × Mem × Mem) := bP3 (f_L_open  a c) fun x2 a3 c4 => bP2 (f_X9_open N  b) fun x6 b7 => bT (f_X9_thrown  b7) fun x10 => if x10 = x2 then (if x2 = 0 then (if (lg_cmp (Int32.toInt64 (c4 0 0)) (Int32.toInt64 x6)) = 0 then (some (a3, b7, c4)) else (none)) else (some (a3, b7, c4))) else (none)
set_option maxRecDepth 100000 in
set_option maxHeartbeats 4000000 in
theorem m_case_39 (X : Cx G p l s m args meth c9 A RL cL_law 9 ret9 tb) (hl : l.stackTraces = false) (hL : LOK L) (hL7 : L.length = 107) {N Ln sb : Nat} {xs : Nat → Int32} (hX : va_X sb Ln xs s s.heap) (hb : sb < s.heap.size) (hbA : ¬ A sb) {cl sl : Nat} (hcl : cl + 8 ≤ 601024) (hsl : sl + 64 ≤ 7293034) {i : Int32} {a b c a' b' c' : Mem} (hR : f_case_39 N Ln xs i a b c = some (a', b', c')) (kk : J G p l e ({ frames := 14, cells := 601024, slots := 7293034, locals := 524 } : Room) s m args below meth c9 A Q 9 (cl + 8) (sl + 64) 3067 [some (.ref sb), some (.ref (ad L 0)), some (.ref (ad L 96)), some (.ref (ad L 105)), some (.ref (ad L 106)), some (.int i), none, none, none] [] L (FW G L a' b' c')) : J G p l e ({ frames := 14, cells := 601024, slots := 7293034, locals := 524 } : Room) s m args below meth c9 A Q 9 cl sl 2323 [some (.ref sb), some (.ref (ad L 0)), some (.ref (ad L 96)), some (.ref (ad L 105)), some (.ref (ad L 106)), some (.int i), none, none, none] [] L (FW G L a b c) := by
  unfold f_case_39 at hR
  refine j_aload_n X (i := 1) dL_law_2323 rfl rfl ?_
  refine j_aload_n X (i := 3) dL_law_2324 rfl rfl ?_
  obtain ⟨x2, a3, c4, h1, hR⟩ := bP3_inv hR
  refine j_callSW (As := [.ref (ad L 0), .ref (ad L 105)]) (rest := []) X (m_L_open hl hL hL7  h1) ml_L_294 st_yL_open in_L cd_yL_open hy_yL_open dL_law_2325 ⟨(by decide), (by decide)⟩ ⟨Nat.le_trans (Nat.add_le_add_left (by decide : 1 ≤ 8) _) hcl, Nat.le_trans (Nat.add_le_add_left (by decide : 6 ≤ 64) _) hsl⟩ (Nat.le_of_ble_eq_true rfl) (fun _ h => h.elim) (fun r9 L9 f9 h9 => ?_)
  obtain ⟨h91, h92, h93⟩ := h9
  subst r9
  subst f9
  subst L9
  dsimp only [Option.toList, List.cons_append, List.nil_append, List.append]
  refine j_istore X dL_law_2328 (by decide) (lvOK_s rfl okPrev_int) ?_
  dsimp only [List.set]
  refine j_aload_n X (i := 2) dL_law_2330 rfl rfl ?_
  obtain ⟨x6, b7, h5, hR⟩ := bP2_inv hR
  refine j_callV0 X 9 (m_X9_open hl hL  h5) ml_L_296 im_yX9_open se_yX9_open in_X9 cd_yX9_open hy_yX9_open dL_law_2331 rfl (ad_mem hL (by decide)) (FW9 hL) ⟨(by decide), (by decide)⟩ ⟨Nat.le_trans (Nat.add_le_add_left (by decide : 1 ≤ 8) _) hcl, Nat.le_trans (Nat.add_le_add_left (by decide : 6 ≤ 64) _) hsl⟩ (Nat.le_of_ble_eq_true rfl) (fun _ h => h.elim) (fun r9 L9 f9 h9 => ?_)
  obtain ⟨h91, h92, h93⟩ := h9
  subst r9
  subst f9
  subst L9
  dsimp only [Option.toList, List.cons_append, List.nil_append, List.append]
  refine j_istore X dL_law_2334 (by decide) (lvOK_s rfl okPrev_int) ?_
  dsimp only [List.set]
  refine j_aload_n X (i := 2) dL_law_2336 rfl rfl ?_
  obtain ⟨x10, h9, hR⟩ := bT_inv hR
  refine j_callV0 X 9 (m_X9_thrown hl hL  h9) ml_L_162 im_yX9_thrown se_yX9_thrown in_X9 cd_yX9_thrown hy_yX9_thrown dL_law_2337 rfl (ad_mem hL (by decide)) (FW9 hL) ⟨(by decide), (by decide)⟩ ⟨Nat.le_trans (Nat.add_le_add_left (by decide : 1 ≤ 8) _) hcl, Nat.le_trans (Nat.add_le_add_left (by decide : 6 ≤ 64) _) hsl⟩ (Nat.le_of_ble_eq_true rfl) (fun _ h => h.elim) (fun r9 L9 f9 h9 => ?_)
  obtain ⟨h91, h92, h93⟩ := h9
  subst r9
  subst f9
  subst L9
  dsimp only [Option.toList, List.cons_append, List.nil_append, List.append]
  refine j_iload X dL_law_2340 rfl ?_
  refine j_icmp_eq X (tgt := 2347) dL_law_2342 (by decide) (fun h12 => ?_) (fun h12 => ?_)
  · replace hR := (if_pos h12).symm.trans hR
    refine j_iload X dL_law_2347 rfl ?_
    refine j_if_ne X (tgt := 2364) dL_law_2349 (by decide) (fun h13 => ?_) (fun h13 => ?_)
    · replace hR := (if_neg h13).symm.trans hR
      refine j_goto X (tgt := 3067) dL_law_2364 (by decide) ?_
      have h9 := Option.some.inj hR
      rw [← (Prod.mk.inj h9).1, ← (Prod.mk.inj (Prod.mk.inj h9).2).1, ← (Prod.mk.inj (Prod.mk.inj h9).2).2] at kk
      exact J.widen (c1 := cl + 8) (s1 := sl + 64) (by omega) (by omega) (J.sub (lvle_of (by simp only [lvle, and_self])) kk)
    · replace hR := (if_pos h13).symm.trans hR
      refine j_aload_n X (i := 3) dL_law_2352 rfl rfl ?_
      refine j_iconst X (0) dL_law_2353 (by decide) ?_
      refine j_lald105 X hL hL7 dL_law_2354 ?_
      refine j_iload X dL_law_2355 rfl ?_
      refine j_i2l X dL_law_2357 ?_
      refine j_lcmp X dL_law_2358 ?_
      refine j_if_eq X (tgt := 2364) dL_law_2359 (by decide) (fun h14 => ?_) (fun h14 => ?_)
      · replace hR := (if_pos h14).symm.trans hR
        refine j_goto X (tgt := 3067) dL_law_2364 (by decide) ?_
        have h9 := Option.some.inj hR
        rw [← (Prod.mk.inj h9).1, ← (Prod.mk.inj (Prod.mk.inj h9).2).1, ← (Prod.mk.inj (Prod.mk.inj h9).2).2] at kk
        exact J.widen (c1 := cl + 8) (s1 := sl + 64) (by omega) (by omega) (J.sub (lvle_of (by simp only [lvle, and_self])) kk)
      · replace hR := (if_neg h14).symm.trans hR
        refine j_iconst X (0) dL_law_2362 (by decide) ?_
        cases hR
  · replace hR := (if_neg h12).symm.trans hR
    refine j_iconst X (0) dL_law_2345 (by decide) ?_
    cases hR
def f_case_40 (N Ln : Nat) (xs : Nat → Int32) (i : Int32) (a b c : Mem) : Option (Mem × Mem × Mem) := chkI (i + (1 : Int32)) Ln <| bP3 (f_L_claim (xs ((i + (1 : Int32))).toNatClampNeg) a c) fun x3 a4 c5 => chkI (i + (1 : Int32)) Ln <| bP2 (f_X9_claim N (xs ((i + (1 : Int32))).toNatClampNeg) b) fun x8 b9 => bT (f_X9_thrown  b9) fun x12 => if x12 = x3 then (if x3 = 0 then (if (lg_cmp (Int32.toInt64 (c5 0 0)) (Int32.toInt64 x8)) = 0 then (some (a4, b9, c5)) else (none)) else (some (a4, b9, c5))) else (none)
set_option maxRecDepth 100000 in
set_option maxHeartbeats 4000000 in
theorem m_case_40 (X : Cx G p l s m args meth c9 A RL cL_law 9 ret9 tb) (hl : l.stackTraces = false) (hL : LOK L) (hL7 : L.length = 107) {N Ln sb : Nat} {xs : Nat → Int32} (hX : va_X sb Ln xs s s.heap) (hb : sb < s.heap.size) (hbA : ¬ A sb) {cl sl : Nat} (hcl : cl + 8 ≤ 601024) (hsl : sl + 64 ≤ 7293034) {i : Int32} {a b c a' b' c' : Mem} (hR : f_case_40 N Ln xs i a b c = some (a', b', c')) (kk : J G p l e ({ frames := 14, cells := 601024, slots := 7293034, locals := 524 } : Room) s m args below meth c9 A Q 9 (cl + 8) (sl + 64) 3067 [some (.ref sb), some (.ref (ad L 0)), some (.ref (ad L 96)), some (.ref (ad L 105)), some (.ref (ad L 106)), some (.int i), none, none, none] [] L (FW G L a' b' c')) : J G p l e ({ frames := 14, cells := 601024, slots := 7293034, locals := 524 } : Room) s m args below meth c9 A Q 9 cl sl 2367 [some (.ref sb), some (.ref (ad L 0)), some (.ref (ad L 96)), some (.ref (ad L 105)), some (.ref (ad L 106)), some (.int i), none, none, none] [] L (FW G L a b c) := by
  unfold f_case_40 at hR
  refine j_aload_n X (i := 1) dL_law_2367 rfl rfl ?_
  refine j_aload_n X (i := 0) dL_law_2368 rfl rfl ?_
  refine j_iload X dL_law_2369 rfl ?_
  refine j_iconst X (1) dL_law_2371 (by decide) ?_
  refine j_iadd X dL_law_2372 ?_
  obtain ⟨h1, hR⟩ := chkI_inv hR
  refine j_sld X hX hb hbA h1 dL_law_2373 ?_
  refine j_aload_n X (i := 3) dL_law_2374 rfl rfl ?_
  obtain ⟨x3, a4, c5, h2, hR⟩ := bP3_inv hR
  refine j_callSW (As := [.ref (ad L 0), .int (xs ((i + (1 : Int32))).toNatClampNeg), .ref (ad L 105)]) (rest := []) X (m_L_claim hl hL hL7  h2) ml_L_297 st_yL_claim in_L cd_yL_claim hy_yL_claim dL_law_2375 ⟨(by decide), (by decide)⟩ ⟨Nat.le_trans (Nat.add_le_add_left (by decide : 2 ≤ 8) _) hcl, Nat.le_trans (Nat.add_le_add_left (by decide : 12 ≤ 64) _) hsl⟩ (Nat.le_of_ble_eq_true rfl) (fun _ h => h.elim) (fun r9 L9 f9 h9 => ?_)
  obtain ⟨h91, h92, h93⟩ := h9
  subst r9
  subst f9
  subst L9
  dsimp only [Option.toList, List.cons_append, List.nil_append, List.append]
  refine j_istore X dL_law_2378 (by decide) (lvOK_s rfl okPrev_int) ?_
  dsimp only [List.set]
  refine j_aload_n X (i := 2) dL_law_2380 rfl rfl ?_
  refine j_aload_n X (i := 0) dL_law_2381 rfl rfl ?_
  refine j_iload X dL_law_2382 rfl ?_
  refine j_iconst X (1) dL_law_2384 (by decide) ?_
  refine j_iadd X dL_law_2385 ?_
  obtain ⟨h6, hR⟩ := chkI_inv hR
  refine j_sld X hX hb hbA h6 dL_law_2386 ?_
  obtain ⟨x8, b9, h7, hR⟩ := bP2_inv hR
  refine j_callV1 X 9 (m_X9_claim hl hL  h7) ml_L_299 im_yX9_claim se_yX9_claim in_X9 cd_yX9_claim hy_yX9_claim dL_law_2387 rfl (ad_mem hL (by decide)) (FW9 hL) ⟨(by decide), (by decide)⟩ ⟨Nat.le_trans (Nat.add_le_add_left (by decide : 2 ≤ 8) _) hcl, Nat.le_trans (Nat.add_le_add_left (by decide : 12 ≤ 64) _) hsl⟩ (Nat.le_of_ble_eq_true rfl) (fun _ h => h.elim) (fun r9 L9 f9 h9 => ?_)
  obtain ⟨h91, h92, h93⟩ := h9
  subst r9
  subst f9
  subst L9
  dsimp only [Option.toList, List.cons_append, List.nil_append, List.append]
  refine j_istore X dL_law_2390 (by decide) (lvOK_s rfl okPrev_int) ?_
  dsimp only [List.set]
  refine j_aload_n X (i := 2) dL_law_2392 rfl rfl ?_
  obtain ⟨x12, h11, hR⟩ := bT_inv hR
  refine j_callV0 X 9 (m_X9_thrown hl hL  h11) ml_L_162 im_yX9_thrown se_yX9_thrown in_X9 cd_yX9_thrown hy_yX9_thrown dL_law_2393 rfl (ad_mem hL (by decide)) (FW9 hL) ⟨(by decide), (by decide)⟩ ⟨Nat.le_trans (Nat.add_le_add_left (by decide : 2 ≤ 8) _) hcl, Nat.le_trans (Nat.add_le_add_left (by decide : 12 ≤ 64) _) hsl⟩ (Nat.le_of_ble_eq_true rfl) (fun _ h => h.elim) (fun r9 L9 f9 h9 => ?_)
  obtain ⟨h91, h92, h93⟩ := h9
  subst r9
  subst f9
  subst L9
  dsimp only [Option.toList, List.cons_append, List.nil_append, List.append]
  refine j_iload X dL_law_2396 rfl ?_
  refine j_icmp_eq X (tgt := 2403) dL_law_2398 (by decide) (fun h14 => ?_) (fun h14 => ?_)
  · replace hR := (if_pos h14).symm.trans hR
    refine j_iload X dL_law_2403 rfl ?_
    refine j_if_ne X (tgt := 2420) dL_law_2405 (by decide) (fun h15 => ?_) (fun h15 => ?_)
    · replace hR := (if_neg h15).symm.trans hR
      refine j_goto X (tgt := 3067) dL_law_2420 (by decide) ?_
      have h9 := Option.some.inj hR
      rw [← (Prod.mk.inj h9).1, ← (Prod.mk.inj (Prod.mk.inj h9).2).1, ← (Prod.mk.inj (Prod.mk.inj h9).2).2] at kk
      exact J.widen (c1 := cl + 8) (s1 := sl + 64) (by omega) (by omega) (J.sub (lvle_of (by simp only [lvle, and_self])) kk)
    · replace hR := (if_pos h15).symm.trans hR
      refine j_aload_n X (i := 3) dL_law_2408 rfl rfl ?_
      refine j_iconst X (0) dL_law_2409 (by decide) ?_
      refine j_lald105 X hL hL7 dL_law_2410 ?_
      refine j_iload X dL_law_2411 rfl ?_
      refine j_i2l X dL_law_2413 ?_
      refine j_lcmp X dL_law_2414 ?_
      refine j_if_eq X (tgt := 2420) dL_law_2415 (by decide) (fun h16 => ?_) (fun h16 => ?_)
      · replace hR := (if_pos h16).symm.trans hR
        refine j_goto X (tgt := 3067) dL_law_2420 (by decide) ?_
        have h9 := Option.some.inj hR
        rw [← (Prod.mk.inj h9).1, ← (Prod.mk.inj (Prod.mk.inj h9).2).1, ← (Prod.mk.inj (Prod.mk.inj h9).2).2] at kk
        exact J.widen (c1 := cl + 8) (s1 := sl + 64) (by omega) (by omega) (J.sub (lvle_of (by simp only [lvle, and_self])) kk)
      · replace hR := (if_neg h16).symm.trans hR
        refine j_iconst X (0) dL_law_2418 (by decide) ?_
        cases hR
  · replace hR := (if_neg h14).symm.trans hR
    refine j_iconst X (0) dL_law_2401 (by decide) ?_
    cases hR
def f_case_41 (N Ln : Nat) (xs : Nat → Int32) (i : Int32) (a b c : Mem) : Option (Mem × Mem × Mem) := chkI (i + (1 : Int32)) Ln <| bP3 (f_L_resign (xs ((i + (1 : Int32))).toNatClampNeg) a c) fun x3 a4 c5 => chkI (i + (1 : Int32)) Ln <| bP2 (f_X9_resign N (xs ((i + (1 : Int32))).toNatClampNeg) b) fun x8 b9 => bT (f_X9_thrown  b9) fun x12 => if x12 = x3 then (if x3 = 0 then (if (lg_cmp (Int32.toInt64 (c5 0 0)) (Int32.toInt64 x8)) = 0 then (some (a4, b9, c5)) else (none)) else (some (a4, b9, c5))) else (none)
set_option maxRecDepth 100000 in
set_option maxHeartbeats 4000000 in
theorem m_case_41 (X : Cx G p l s m args meth c9 A RL cL_law 9 ret9 tb) (hl : l.stackTraces = false) (hL : LOK L) (hL7 : L.length = 107) {N Ln sb : Nat} {xs : Nat → Int32} (hX : va_X sb Ln xs s s.heap) (hb : sb < s.heap.size) (hbA : ¬ A sb) {cl sl : Nat} (hcl : cl + 8 ≤ 601024) (hsl : sl + 64 ≤ 7293034) {i : Int32} {a b c a' b' c' : Mem} (hR : f_case_41 N Ln xs i a b c = some (a', b', c')) (kk : J G p l e ({ frames := 14, cells := 601024, slots := 7293034, locals := 524 } : Room) s m args below meth c9 A Q 9 (cl + 8) (sl + 64) 3067 [some (.ref sb), some (.ref (ad L 0)), some (.ref (ad L 96)), some (.ref (ad L 105)), some (.ref (ad L 106)), some (.int i), none, none, none] [] L (FW G L a' b' c')) : J G p l e ({ frames := 14, cells := 601024, slots := 7293034, locals := 524 } : Room) s m args below meth c9 A Q 9 cl sl 2423 [some (.ref sb), some (.ref (ad L 0)), some (.ref (ad L 96)), some (.ref (ad L 105)), some (.ref (ad L 106)), some (.int i), none, none, none] [] L (FW G L a b c) := by
  unfold f_case_41 at hR
  refine j_aload_n X (i := 1) dL_law_2423 rfl rfl ?_
  refine j_aload_n X (i := 0) dL_law_2424 rfl rfl ?_
  refine j_iload X dL_law_2425 rfl ?_
  refine j_iconst X (1) dL_law_2427 (by decide) ?_
  refine j_iadd X dL_law_2428 ?_
  obtain ⟨h1, hR⟩ := chkI_inv hR
  refine j_sld X hX hb hbA h1 dL_law_2429 ?_
  refine j_aload_n X (i := 3) dL_law_2430 rfl rfl ?_
  obtain ⟨x3, a4, c5, h2, hR⟩ := bP3_inv hR
  refine j_callSW (As := [.ref (ad L 0), .int (xs ((i + (1 : Int32))).toNatClampNeg), .ref (ad L 105)]) (rest := []) X (m_L_resign hl hL hL7  h2) ml_L_300 st_yL_resign in_L cd_yL_resign hy_yL_resign dL_law_2431 ⟨(by decide), (by decide)⟩ ⟨Nat.le_trans (Nat.add_le_add_left (by decide : 2 ≤ 8) _) hcl, Nat.le_trans (Nat.add_le_add_left (by decide : 12 ≤ 64) _) hsl⟩ (Nat.le_of_ble_eq_true rfl) (fun _ h => h.elim) (fun r9 L9 f9 h9 => ?_)
  obtain ⟨h91, h92, h93⟩ := h9
  subst r9
  subst f9
  subst L9
  dsimp only [Option.toList, List.cons_append, List.nil_append, List.append]
  refine j_istore X dL_law_2434 (by decide) (lvOK_s rfl okPrev_int) ?_
  dsimp only [List.set]
  refine j_aload_n X (i := 2) dL_law_2436 rfl rfl ?_
  refine j_aload_n X (i := 0) dL_law_2437 rfl rfl ?_
  refine j_iload X dL_law_2438 rfl ?_
  refine j_iconst X (1) dL_law_2440 (by decide) ?_
  refine j_iadd X dL_law_2441 ?_
  obtain ⟨h6, hR⟩ := chkI_inv hR
  refine j_sld X hX hb hbA h6 dL_law_2442 ?_
  obtain ⟨x8, b9, h7, hR⟩ := bP2_inv hR
  refine j_callV1 X 9 (m_X9_resign hl hL  h7) ml_L_302 im_yX9_resign se_yX9_resign in_X9 cd_yX9_resign hy_yX9_resign dL_law_2443 rfl (ad_mem hL (by decide)) (FW9 hL) ⟨(by decide), (by decide)⟩ ⟨Nat.le_trans (Nat.add_le_add_left (by decide : 2 ≤ 8) _) hcl, Nat.le_trans (Nat.add_le_add_left (by decide : 12 ≤ 64) _) hsl⟩ (Nat.le_of_ble_eq_true rfl) (fun _ h => h.elim) (fun r9 L9 f9 h9 => ?_)
  obtain ⟨h91, h92, h93⟩ := h9
  subst r9
  subst f9
  subst L9
  dsimp only [Option.toList, List.cons_append, List.nil_append, List.append]
  refine j_istore X dL_law_2446 (by decide) (lvOK_s rfl okPrev_int) ?_
  dsimp only [List.set]
  refine j_aload_n X (i := 2) dL_law_2448 rfl rfl ?_
  obtain ⟨x12, h11, hR⟩ := bT_inv hR
  refine j_callV0 X 9 (m_X9_thrown hl hL  h11) ml_L_162 im_yX9_thrown se_yX9_thrown in_X9 cd_yX9_thrown hy_yX9_thrown dL_law_2449 rfl (ad_mem hL (by decide)) (FW9 hL) ⟨(by decide), (by decide)⟩ ⟨Nat.le_trans (Nat.add_le_add_left (by decide : 2 ≤ 8) _) hcl, Nat.le_trans (Nat.add_le_add_left (by decide : 12 ≤ 64) _) hsl⟩ (Nat.le_of_ble_eq_true rfl) (fun _ h => h.elim) (fun r9 L9 f9 h9 => ?_)
  obtain ⟨h91, h92, h93⟩ := h9
  subst r9
  subst f9
  subst L9
  dsimp only [Option.toList, List.cons_append, List.nil_append, List.append]
  refine j_iload X dL_law_2452 rfl ?_
  refine j_icmp_eq X (tgt := 2459) dL_law_2454 (by decide) (fun h14 => ?_) (fun h14 => ?_)
  · replace hR := (if_pos h14).symm.trans hR
    refine j_iload X dL_law_2459 rfl ?_
    refine j_if_ne X (tgt := 2476) dL_law_2461 (by decide) (fun h15 => ?_) (fun h15 => ?_)
    · replace hR := (if_neg h15).symm.trans hR
      refine j_goto X (tgt := 3067) dL_law_2476 (by decide) ?_
      have h9 := Option.some.inj hR
      rw [← (Prod.mk.inj h9).1, ← (Prod.mk.inj (Prod.mk.inj h9).2).1, ← (Prod.mk.inj (Prod.mk.inj h9).2).2] at kk
      exact J.widen (c1 := cl + 8) (s1 := sl + 64) (by omega) (by omega) (J.sub (lvle_of (by simp only [lvle, and_self])) kk)
    · replace hR := (if_pos h15).symm.trans hR
      refine j_aload_n X (i := 3) dL_law_2464 rfl rfl ?_
      refine j_iconst X (0) dL_law_2465 (by decide) ?_
      refine j_lald105 X hL hL7 dL_law_2466 ?_
      refine j_iload X dL_law_2467 rfl ?_
      refine j_i2l X dL_law_2469 ?_
      refine j_lcmp X dL_law_2470 ?_
      refine j_if_eq X (tgt := 2476) dL_law_2471 (by decide) (fun h16 => ?_) (fun h16 => ?_)
      · replace hR := (if_pos h16).symm.trans hR
        refine j_goto X (tgt := 3067) dL_law_2476 (by decide) ?_
        have h9 := Option.some.inj hR
        rw [← (Prod.mk.inj h9).1, ← (Prod.mk.inj (Prod.mk.inj h9).2).1, ← (Prod.mk.inj (Prod.mk.inj h9).2).2] at kk
        exact J.widen (c1 := cl + 8) (s1 := sl + 64) (by omega) (by omega) (J.sub (lvle_of (by simp only [lvle, and_self])) kk)
      · replace hR := (if_neg h16).symm.trans hR
        refine j_iconst X (0) dL_law_2474 (by decide) ?_
        cases hR
  · replace hR := (if_neg h14).symm.trans hR
    refine j_iconst X (0) dL_law_2457 (by decide) ?_
    cases hR
def f_case_42 (N Ln : Nat) (xs : Nat → Int32) (i : Int32) (a b c : Mem) : Option (Mem × Mem × Mem) := chkI (i + (1 : Int32)) Ln <| chkI (i + (2 : Int32)) Ln <| bP3 (f_L_give (xs ((i + (1 : Int32))).toNatClampNeg) (xs ((i + (2 : Int32))).toNatClampNeg) a c) fun x4 a5 c6 => chkI (i + (1 : Int32)) Ln <| chkI (i + (2 : Int32)) Ln <| bP2 (f_X9_give N (xs ((i + (1 : Int32))).toNatClampNeg) (xs ((i + (2 : Int32))).toNatClampNeg) b) fun x10 b11 => bT (f_X9_thrown  b11) fun x14 => if x14 = x4 then (if x4 = 0 then (if (lg_cmp (Int32.toInt64 (c6 0 0)) (Int32.toInt64 x10)) = 0 then (some (a5, b11, c6)) else (none)) else (some (a5, b11, c6))) else (none)
set_option maxRecDepth 100000 in
set_option maxHeartbeats 4000000 in
theorem m_case_42 (X : Cx G p l s m args meth c9 A RL cL_law 9 ret9 tb) (hl : l.stackTraces = false) (hL : LOK L) (hL7 : L.length = 107) {N Ln sb : Nat} {xs : Nat → Int32} (hX : va_X sb Ln xs s s.heap) (hb : sb < s.heap.size) (hbA : ¬ A sb) {cl sl : Nat} (hcl : cl + 8 ≤ 601024) (hsl : sl + 64 ≤ 7293034) {i : Int32} {a b c a' b' c' : Mem} (hR : f_case_42 N Ln xs i a b c = some (a', b', c')) (kk : J G p l e ({ frames := 14, cells := 601024, slots := 7293034, locals := 524 } : Room) s m args below meth c9 A Q 9 (cl + 8) (sl + 64) 3067 [some (.ref sb), some (.ref (ad L 0)), some (.ref (ad L 96)), some (.ref (ad L 105)), some (.ref (ad L 106)), some (.int i), none, none, none] [] L (FW G L a' b' c')) : J G p l e ({ frames := 14, cells := 601024, slots := 7293034, locals := 524 } : Room) s m args below meth c9 A Q 9 cl sl 2479 [some (.ref sb), some (.ref (ad L 0)), some (.ref (ad L 96)), some (.ref (ad L 105)), some (.ref (ad L 106)), some (.int i), none, none, none] [] L (FW G L a b c) := by
  unfold f_case_42 at hR
  refine j_aload_n X (i := 1) dL_law_2479 rfl rfl ?_
  refine j_aload_n X (i := 0) dL_law_2480 rfl rfl ?_
  refine j_iload X dL_law_2481 rfl ?_
  refine j_iconst X (1) dL_law_2483 (by decide) ?_
  refine j_iadd X dL_law_2484 ?_
  obtain ⟨h1, hR⟩ := chkI_inv hR
  refine j_sld X hX hb hbA h1 dL_law_2485 ?_
  refine j_aload_n X (i := 0) dL_law_2486 rfl rfl ?_
  refine j_iload X dL_law_2487 rfl ?_
  refine j_iconst X (2) dL_law_2489 (by decide) ?_
  refine j_iadd X dL_law_2490 ?_
  obtain ⟨h2, hR⟩ := chkI_inv hR
  refine j_sld X hX hb hbA h2 dL_law_2491 ?_
  refine j_aload_n X (i := 3) dL_law_2492 rfl rfl ?_
  obtain ⟨x4, a5, c6, h3, hR⟩ := bP3_inv hR
  refine j_callSW (As := [.ref (ad L 0), .int (xs ((i + (1 : Int32))).toNatClampNeg), .int (xs ((i + (2 : Int32))).toNatClampNeg), .ref (ad L 105)]) (rest := []) X (m_L_give hl hL hL7  h3) ml_L_303 st_yL_give in_L cd_yL_give hy_yL_give dL_law_2493 ⟨(by decide), (by decide)⟩ ⟨Nat.le_trans (Nat.add_le_add_left (by decide : 2 ≤ 8) _) hcl, Nat.le_trans (Nat.add_le_add_left (by decide : 12 ≤ 64) _) hsl⟩ (Nat.le_of_ble_eq_true rfl) (fun _ h => h.elim) (fun r9 L9 f9 h9 => ?_)
  obtain ⟨h91, h92, h93⟩ := h9
  subst r9
  subst f9
  subst L9
  dsimp only [Option.toList, List.cons_append, List.nil_append, List.append]
  refine j_istore X dL_law_2496 (by decide) (lvOK_s rfl okPrev_int) ?_
  dsimp only [List.set]
  refine j_aload_n X (i := 2) dL_law_2498 rfl rfl ?_
  refine j_aload_n X (i := 0) dL_law_2499 rfl rfl ?_
  refine j_iload X dL_law_2500 rfl ?_
  refine j_iconst X (1) dL_law_2502 (by decide) ?_
  refine j_iadd X dL_law_2503 ?_
  obtain ⟨h7, hR⟩ := chkI_inv hR
  refine j_sld X hX hb hbA h7 dL_law_2504 ?_
  refine j_aload_n X (i := 0) dL_law_2505 rfl rfl ?_
  refine j_iload X dL_law_2506 rfl ?_
  refine j_iconst X (2) dL_law_2508 (by decide) ?_
  refine j_iadd X dL_law_2509 ?_
  obtain ⟨h8, hR⟩ := chkI_inv hR
  refine j_sld X hX hb hbA h8 dL_law_2510 ?_
  obtain ⟨x10, b11, h9, hR⟩ := bP2_inv hR
  refine j_callV2 X 9 (m_X9_give hl hL  h9) ml_L_305 im_yX9_give se_yX9_give in_X9 cd_yX9_give hy_yX9_give dL_law_2511 rfl (ad_mem hL (by decide)) (FW9 hL) ⟨(by decide), (by decide)⟩ ⟨Nat.le_trans (Nat.add_le_add_left (by decide : 2 ≤ 8) _) hcl, Nat.le_trans (Nat.add_le_add_left (by decide : 12 ≤ 64) _) hsl⟩ (Nat.le_of_ble_eq_true rfl) (fun _ h => h.elim) (fun r9 L9 f9 h9 => ?_)
  obtain ⟨h91, h92, h93⟩ := h9
  subst r9
  subst f9
  subst L9
  dsimp only [Option.toList, List.cons_append, List.nil_append, List.append]
  refine j_istore X dL_law_2514 (by decide) (lvOK_s rfl okPrev_int) ?_
  dsimp only [List.set]
  refine j_aload_n X (i := 2) dL_law_2516 rfl rfl ?_
  obtain ⟨x14, h13, hR⟩ := bT_inv hR
  refine j_callV0 X 9 (m_X9_thrown hl hL  h13) ml_L_162 im_yX9_thrown se_yX9_thrown in_X9 cd_yX9_thrown hy_yX9_thrown dL_law_2517 rfl (ad_mem hL (by decide)) (FW9 hL) ⟨(by decide), (by decide)⟩ ⟨Nat.le_trans (Nat.add_le_add_left (by decide : 2 ≤ 8) _) hcl, Nat.le_trans (Nat.add_le_add_left (by decide : 12 ≤ 64) _) hsl⟩ (Nat.le_of_ble_eq_true rfl) (fun _ h => h.elim) (fun r9 L9 f9 h9 => ?_)
  obtain ⟨h91, h92, h93⟩ := h9
  subst r9
  subst f9
  subst L9
  dsimp only [Option.toList, List.cons_append, List.nil_append, List.append]
  refine j_iload X dL_law_2520 rfl ?_
  refine j_icmp_eq X (tgt := 2527) dL_law_2522 (by decide) (fun h16 => ?_) (fun h16 => ?_)
  · replace hR := (if_pos h16).symm.trans hR
    refine j_iload X dL_law_2527 rfl ?_
    refine j_if_ne X (tgt := 2544) dL_law_2529 (by decide) (fun h17 => ?_) (fun h17 => ?_)
    · replace hR := (if_neg h17).symm.trans hR
      refine j_goto X (tgt := 3067) dL_law_2544 (by decide) ?_
      have h9 := Option.some.inj hR
      rw [← (Prod.mk.inj h9).1, ← (Prod.mk.inj (Prod.mk.inj h9).2).1, ← (Prod.mk.inj (Prod.mk.inj h9).2).2] at kk
      exact J.widen (c1 := cl + 8) (s1 := sl + 64) (by omega) (by omega) (J.sub (lvle_of (by simp only [lvle, and_self])) kk)
    · replace hR := (if_pos h17).symm.trans hR
      refine j_aload_n X (i := 3) dL_law_2532 rfl rfl ?_
      refine j_iconst X (0) dL_law_2533 (by decide) ?_
      refine j_lald105 X hL hL7 dL_law_2534 ?_
      refine j_iload X dL_law_2535 rfl ?_
      refine j_i2l X dL_law_2537 ?_
      refine j_lcmp X dL_law_2538 ?_
      refine j_if_eq X (tgt := 2544) dL_law_2539 (by decide) (fun h18 => ?_) (fun h18 => ?_)
      · replace hR := (if_pos h18).symm.trans hR
        refine j_goto X (tgt := 3067) dL_law_2544 (by decide) ?_
        have h9 := Option.some.inj hR
        rw [← (Prod.mk.inj h9).1, ← (Prod.mk.inj (Prod.mk.inj h9).2).1, ← (Prod.mk.inj (Prod.mk.inj h9).2).2] at kk
        exact J.widen (c1 := cl + 8) (s1 := sl + 64) (by omega) (by omega) (J.sub (lvle_of (by simp only [lvle, and_self])) kk)
      · replace hR := (if_neg h18).symm.trans hR
        refine j_iconst X (0) dL_law_2542 (by decide) ?_
        cases hR
  · replace hR := (if_neg h16).symm.trans hR
    refine j_iconst X (0) dL_law_2525 (by decide) ?_
    cases hR
def f_case_43 (N Ln : Nat) (xs : Nat → Int32) (i : Int32) (a b c : Mem) : Option (Mem × Mem × Mem) := chkI (i + (1 : Int32)) Ln <| chkI (i + (2 : Int32)) Ln <| if (xs ((i + (2 : Int32))).toNatClampNeg) = 0 then (bP3 (f_L_setBare (xs ((i + (1 : Int32))).toNatClampNeg) (0 : Int32) a c) fun x5 a6 c7 => chkI (i + (1 : Int32)) Ln <| chkI (i + (2 : Int32)) Ln <| if (xs ((i + (2 : Int32))).toNatClampNeg) = 0 then (bP2 (f_X9_setBare N (xs ((i + (1 : Int32))).toNatClampNeg) (0 : Int32) b) fun x12 b13 => bT (f_X9_thrown  b13) fun x16 => if x16 = x5 then (if x5 = 0 then (if x12 = 0 then (if (lg_cmp (Int32.toInt64 (c7 0 0)) (0 : Int64)) = 0 then (some (a6, b13, c7)) else (none)) else (if (lg_cmp (Int32.toInt64 (c7 0 0)) (1 : Int64)) = 0 then (some (a6, b13, c7)) else (none))) else (some (a6, b13, c7))) else (none)) else (bP2 (f_X9_setBare N (xs ((i + (1 : Int32))).toNatClampNeg) (1 : Int32) b) fun x24 b25 => bT (f_X9_thrown  b25) fun x28 => if x28 = x5 then (if x5 = 0 then (if x24 = 0 then (if (lg_cmp (Int32.toInt64 (c7 0 0)) (0 : Int64)) = 0 then (some (a6, b25, c7)) else (none)) else (if (lg_cmp (Int32.toInt64 (c7 0 0)) (1 : Int64)) = 0 then (some (a6, b25, c7)) else (none))) else (some (a6, b25, c7))) else (none))) else (bP3 (f_L_setBare (xs ((i + (1 : Int32))).toNatClampNeg) (1 : Int32) a c) fun x36 a37 c38 => chkI (i + (1 : Int32)) Ln <| chkI (i + (2 : Int32)) Ln <| if (xs ((i + (2 : Int32))).toNatClampNeg) = 0 then (bP2 (f_X9_setBare N (xs ((i + (1 : Int32))).toNatClampNeg) (0 : Int32) b) fun x43 b44 => bT (f_X9_thrown  b44) fun x47 => if x47 = x36 then (if x36 = 0 then (if x43 = 0 then (if (lg_cmp (Int32.toInt64 (c38 0 0)) (0 : Int64)) = 0 then (some (a37, b44, c38)) else (none)) else (if (lg_cmp (Int32.toInt64 (c38 0 0)) (1 : Int64)) = 0 then (some (a37, b44, c38)) else (none))) else (some (a37, b44, c38))) else (none)) else (bP2 (f_X9_setBare N (xs ((i + (1 : Int32))).toNatClampNeg) (1 : Int32) b) fun x55 b56 => bT (f_X9_thrown  b56) fun x59 => if x59 = x36 then (if x36 = 0 then (if x55 = 0 then (if (lg_cmp (Int32.toInt64 (c38 0 0)) (0 : Int64)) = 0 then (some (a37, b56, c38)) else (none)) else (if (lg_cmp (Int32.toInt64 (c38 0 0)) (1 : Int64)) = 0 then (some (a37, b56, c38)) else (none))) else (some (a37, b56, c38))) else (none)))
set_option maxRecDepth 100000 in
set_option maxHeartbeats 4000000 in
theorem m_case_43 (X : Cx G p l s m args meth c9 A RL cL_law 9 ret9 tb) (hl : l.stackTraces = false) (hL : LOK L) (hL7 : L.length = 107) {N Ln sb : Nat} {xs : Nat → Int32} (hX : va_X sb Ln xs s s.heap) (hb : sb < s.heap.size) (hbA : ¬ A sb) {cl sl : Nat} (hcl : cl + 8 ≤ 601024) (hsl : sl + 64 ≤ 7293034) {i : Int32} {a b c a' b' c' : Mem} (hR : f_case_43 N Ln xs i a b c = some (a', b', c')) (kk : J G p l e ({ frames := 14, cells := 601024, slots := 7293034, locals := 524 } : Room) s m args below meth c9 A Q 9 (cl + 8) (sl + 64) 3067 [some (.ref sb), some (.ref (ad L 0)), some (.ref (ad L 96)), some (.ref (ad L 105)), some (.ref (ad L 106)), some (.int i), none, none, none] [] L (FW G L a' b' c')) : J G p l e ({ frames := 14, cells := 601024, slots := 7293034, locals := 524 } : Room) s m args below meth c9 A Q 9 cl sl 2547 [some (.ref sb), some (.ref (ad L 0)), some (.ref (ad L 96)), some (.ref (ad L 105)), some (.ref (ad L 106)), some (.int i), none, none, none] [] L (FW G L a b c) := by
  unfold f_case_43 at hR
  refine j_aload_n X (i := 1) dL_law_2547 rfl rfl ?_
  refine j_aload_n X (i := 0) dL_law_2548 rfl rfl ?_
  refine j_iload X dL_law_2549 rfl ?_
  refine j_iconst X (1) dL_law_2551 (by decide) ?_
  refine j_iadd X dL_law_2552 ?_
  obtain ⟨h1, hR⟩ := chkI_inv hR
  refine j_sld X hX hb hbA h1 dL_law_2553 ?_
  refine j_aload_n X (i := 0) dL_law_2554 rfl rfl ?_
  refine j_iload X dL_law_2555 rfl ?_
  refine j_iconst X (2) dL_law_2557 (by decide) ?_
  refine j_iadd X dL_law_2558 ?_
  obtain ⟨h2, hR⟩ := chkI_inv hR
  refine j_sld X hX hb hbA h2 dL_law_2559 ?_
  refine j_if_eq X (tgt := 2567) dL_law_2560 (by decide) (fun h3 => ?_) (fun h3 => ?_)
  · replace hR := (if_pos h3).symm.trans hR
    refine j_iconst X (0) dL_law_2567 (by decide) ?_
    refine j_aload_n X (i := 3) dL_law_2568 rfl rfl ?_
    obtain ⟨x5, a6, c7, h4, hR⟩ := bP3_inv hR
    refine j_callSW (As := [.ref (ad L 0), .int (xs ((i + (1 : Int32))).toNatClampNeg), .int (0 : Int32), .ref (ad L 105)]) (rest := []) X (m_L_setBare hl hL hL7 isB_0 h4) ml_L_306 st_yL_setBare in_L cd_yL_setBare hy_yL_setBare dL_law_2569 ⟨(by decide), (by decide)⟩ ⟨Nat.le_trans (Nat.add_le_add_left (by decide : 1 ≤ 8) _) hcl, Nat.le_trans (Nat.add_le_add_left (by decide : 6 ≤ 64) _) hsl⟩ (Nat.le_of_ble_eq_true rfl) (fun _ h => h.elim) (fun r9 L9 f9 h9 => ?_)
    obtain ⟨h91, h92, h93⟩ := h9
    subst r9
    subst f9
    subst L9
    dsimp only [Option.toList, List.cons_append, List.nil_append, List.append]
    refine j_istore X dL_law_2572 (by decide) (lvOK_s rfl okPrev_int) ?_
    dsimp only [List.set]
    refine j_aload_n X (i := 2) dL_law_2574 rfl rfl ?_
    refine j_aload_n X (i := 0) dL_law_2575 rfl rfl ?_
    refine j_iload X dL_law_2576 rfl ?_
    refine j_iconst X (1) dL_law_2578 (by decide) ?_
    refine j_iadd X dL_law_2579 ?_
    obtain ⟨h8, hR⟩ := chkI_inv hR
    refine j_sld X hX hb hbA h8 dL_law_2580 ?_
    refine j_aload_n X (i := 0) dL_law_2581 rfl rfl ?_
    refine j_iload X dL_law_2582 rfl ?_
    refine j_iconst X (2) dL_law_2584 (by decide) ?_
    refine j_iadd X dL_law_2585 ?_
    obtain ⟨h9, hR⟩ := chkI_inv hR
    refine j_sld X hX hb hbA h9 dL_law_2586 ?_
    refine j_if_eq X (tgt := 2594) dL_law_2587 (by decide) (fun h10 => ?_) (fun h10 => ?_)
    · replace hR := (if_pos h10).symm.trans hR
      refine j_iconst X (0) dL_law_2594 (by decide) ?_
      obtain ⟨x12, b13, h11, hR⟩ := bP2_inv hR
      refine j_callV2 X 9 (m_X9_setBare hl hL isB_0 h11) ml_L_309 im_yX9_setBare se_yX9_setBare in_X9 cd_yX9_setBare hy_yX9_setBare dL_law_2595 rfl (ad_mem hL (by decide)) (FW9 hL) ⟨(by decide), (by decide)⟩ ⟨Nat.le_trans (Nat.add_le_add_left (by decide : 1 ≤ 8) _) hcl, Nat.le_trans (Nat.add_le_add_left (by decide : 6 ≤ 64) _) hsl⟩ (Nat.le_of_ble_eq_true rfl) (fun _ h => h.elim) (fun r9 L9 f9 h9 => ?_)
      obtain ⟨h91, h92, h93, h14⟩ := h9
      subst r9
      subst f9
      subst L9
      dsimp only [Option.toList, List.cons_append, List.nil_append, List.append]
      refine j_istore X dL_law_2598 (by decide) (lvOK_s rfl okPrev_int) ?_
      dsimp only [List.set]
      refine j_aload_n X (i := 2) dL_law_2600 rfl rfl ?_
      obtain ⟨x16, h15, hR⟩ := bT_inv hR
      refine j_callV0 X 9 (m_X9_thrown hl hL  h15) ml_L_162 im_yX9_thrown se_yX9_thrown in_X9 cd_yX9_thrown hy_yX9_thrown dL_law_2601 rfl (ad_mem hL (by decide)) (FW9 hL) ⟨(by decide), (by decide)⟩ ⟨Nat.le_trans (Nat.add_le_add_left (by decide : 1 ≤ 8) _) hcl, Nat.le_trans (Nat.add_le_add_left (by decide : 6 ≤ 64) _) hsl⟩ (Nat.le_of_ble_eq_true rfl) (fun _ h => h.elim) (fun r9 L9 f9 h9 => ?_)
      obtain ⟨h91, h92, h93⟩ := h9
      subst r9
      subst f9
      subst L9
      dsimp only [Option.toList, List.cons_append, List.nil_append, List.append]
      refine j_iload X dL_law_2604 rfl ?_
      refine j_icmp_eq X (tgt := 2611) dL_law_2606 (by decide) (fun h18 => ?_) (fun h18 => ?_)
      · replace hR := (if_pos h18).symm.trans hR
        refine j_iload X dL_law_2611 rfl ?_
        refine j_if_ne X (tgt := 2635) dL_law_2613 (by decide) (fun h19 => ?_) (fun h19 => ?_)
        · replace hR := (if_neg h19).symm.trans hR
          refine j_goto X (tgt := 3067) dL_law_2635 (by decide) ?_
          have h9 := Option.some.inj hR
          rw [← (Prod.mk.inj h9).1, ← (Prod.mk.inj (Prod.mk.inj h9).2).1, ← (Prod.mk.inj (Prod.mk.inj h9).2).2] at kk
          exact J.widen (c1 := cl + 8) (s1 := sl + 64) (by omega) (by omega) (J.sub (lvle_of (by simp only [lvle, and_self])) kk)
        · replace hR := (if_pos h19).symm.trans hR
          refine j_aload_n X (i := 3) dL_law_2616 rfl rfl ?_
          refine j_iconst X (0) dL_law_2617 (by decide) ?_
          refine j_lald105 X hL hL7 dL_law_2618 ?_
          refine j_iload X dL_law_2619 rfl ?_
          refine j_if_eq X (tgt := 2628) dL_law_2621 (by decide) (fun h20 => ?_) (fun h20 => ?_)
          · replace hR := (if_pos h20).symm.trans hR
            refine j_lconst X (0) dL_law_2628 (by decide) ?_
            refine j_lcmp X dL_law_2629 ?_
            refine j_if_eq X (tgt := 2635) dL_law_2630 (by decide) (fun h21 => ?_) (fun h21 => ?_)
            · replace hR := (if_pos h21).symm.trans hR
              refine j_goto X (tgt := 3067) dL_law_2635 (by decide) ?_
              have h9 := Option.some.inj hR
              rw [← (Prod.mk.inj h9).1, ← (Prod.mk.inj (Prod.mk.inj h9).2).1, ← (Prod.mk.inj (Prod.mk.inj h9).2).2] at kk
              exact J.widen (c1 := cl + 8) (s1 := sl + 64) (by omega) (by omega) (J.sub (lvle_of (by simp only [lvle, and_self])) kk)
            · replace hR := (if_neg h21).symm.trans hR
              refine j_iconst X (0) dL_law_2633 (by decide) ?_
              cases hR
          · replace hR := (if_neg h20).symm.trans hR
            refine j_lconst X (1) dL_law_2624 (by decide) ?_
            refine j_goto X (tgt := 2629) dL_law_2625 (by decide) ?_
            refine j_lcmp X dL_law_2629 ?_
            refine j_if_eq X (tgt := 2635) dL_law_2630 (by decide) (fun h22 => ?_) (fun h22 => ?_)
            · replace hR := (if_pos h22).symm.trans hR
              refine j_goto X (tgt := 3067) dL_law_2635 (by decide) ?_
              have h9 := Option.some.inj hR
              rw [← (Prod.mk.inj h9).1, ← (Prod.mk.inj (Prod.mk.inj h9).2).1, ← (Prod.mk.inj (Prod.mk.inj h9).2).2] at kk
              exact J.widen (c1 := cl + 8) (s1 := sl + 64) (by omega) (by omega) (J.sub (lvle_of (by simp only [lvle, and_self])) kk)
            · replace hR := (if_neg h22).symm.trans hR
              refine j_iconst X (0) dL_law_2633 (by decide) ?_
              cases hR
      · replace hR := (if_neg h18).symm.trans hR
        refine j_iconst X (0) dL_law_2609 (by decide) ?_
        cases hR
    · replace hR := (if_neg h10).symm.trans hR
      refine j_iconst X (1) dL_law_2590 (by decide) ?_
      refine j_goto X (tgt := 2595) dL_law_2591 (by decide) ?_
      obtain ⟨x24, b25, h23, hR⟩ := bP2_inv hR
      refine j_callV2 X 9 (m_X9_setBare hl hL isB_1 h23) ml_L_309 im_yX9_setBare se_yX9_setBare in_X9 cd_yX9_setBare hy_yX9_setBare dL_law_2595 rfl (ad_mem hL (by decide)) (FW9 hL) ⟨(by decide), (by decide)⟩ ⟨Nat.le_trans (Nat.add_le_add_left (by decide : 1 ≤ 8) _) hcl, Nat.le_trans (Nat.add_le_add_left (by decide : 6 ≤ 64) _) hsl⟩ (Nat.le_of_ble_eq_true rfl) (fun _ h => h.elim) (fun r9 L9 f9 h9 => ?_)
      obtain ⟨h91, h92, h93, h26⟩ := h9
      subst r9
      subst f9
      subst L9
      dsimp only [Option.toList, List.cons_append, List.nil_append, List.append]
      refine j_istore X dL_law_2598 (by decide) (lvOK_s rfl okPrev_int) ?_
      dsimp only [List.set]
      refine j_aload_n X (i := 2) dL_law_2600 rfl rfl ?_
      obtain ⟨x28, h27, hR⟩ := bT_inv hR
      refine j_callV0 X 9 (m_X9_thrown hl hL  h27) ml_L_162 im_yX9_thrown se_yX9_thrown in_X9 cd_yX9_thrown hy_yX9_thrown dL_law_2601 rfl (ad_mem hL (by decide)) (FW9 hL) ⟨(by decide), (by decide)⟩ ⟨Nat.le_trans (Nat.add_le_add_left (by decide : 1 ≤ 8) _) hcl, Nat.le_trans (Nat.add_le_add_left (by decide : 6 ≤ 64) _) hsl⟩ (Nat.le_of_ble_eq_true rfl) (fun _ h => h.elim) (fun r9 L9 f9 h9 => ?_)
      obtain ⟨h91, h92, h93⟩ := h9
      subst r9
      subst f9
      subst L9
      dsimp only [Option.toList, List.cons_append, List.nil_append, List.append]
      refine j_iload X dL_law_2604 rfl ?_
      refine j_icmp_eq X (tgt := 2611) dL_law_2606 (by decide) (fun h30 => ?_) (fun h30 => ?_)
      · replace hR := (if_pos h30).symm.trans hR
        refine j_iload X dL_law_2611 rfl ?_
        refine j_if_ne X (tgt := 2635) dL_law_2613 (by decide) (fun h31 => ?_) (fun h31 => ?_)
        · replace hR := (if_neg h31).symm.trans hR
          refine j_goto X (tgt := 3067) dL_law_2635 (by decide) ?_
          have h9 := Option.some.inj hR
          rw [← (Prod.mk.inj h9).1, ← (Prod.mk.inj (Prod.mk.inj h9).2).1, ← (Prod.mk.inj (Prod.mk.inj h9).2).2] at kk
          exact J.widen (c1 := cl + 8) (s1 := sl + 64) (by omega) (by omega) (J.sub (lvle_of (by simp only [lvle, and_self])) kk)
        · replace hR := (if_pos h31).symm.trans hR
          refine j_aload_n X (i := 3) dL_law_2616 rfl rfl ?_
          refine j_iconst X (0) dL_law_2617 (by decide) ?_
          refine j_lald105 X hL hL7 dL_law_2618 ?_
          refine j_iload X dL_law_2619 rfl ?_
          refine j_if_eq X (tgt := 2628) dL_law_2621 (by decide) (fun h32 => ?_) (fun h32 => ?_)
          · replace hR := (if_pos h32).symm.trans hR
            refine j_lconst X (0) dL_law_2628 (by decide) ?_
            refine j_lcmp X dL_law_2629 ?_
            refine j_if_eq X (tgt := 2635) dL_law_2630 (by decide) (fun h33 => ?_) (fun h33 => ?_)
            · replace hR := (if_pos h33).symm.trans hR
              refine j_goto X (tgt := 3067) dL_law_2635 (by decide) ?_
              have h9 := Option.some.inj hR
              rw [← (Prod.mk.inj h9).1, ← (Prod.mk.inj (Prod.mk.inj h9).2).1, ← (Prod.mk.inj (Prod.mk.inj h9).2).2] at kk
              exact J.widen (c1 := cl + 8) (s1 := sl + 64) (by omega) (by omega) (J.sub (lvle_of (by simp only [lvle, and_self])) kk)
            · replace hR := (if_neg h33).symm.trans hR
              refine j_iconst X (0) dL_law_2633 (by decide) ?_
              cases hR
          · replace hR := (if_neg h32).symm.trans hR
            refine j_lconst X (1) dL_law_2624 (by decide) ?_
            refine j_goto X (tgt := 2629) dL_law_2625 (by decide) ?_
            refine j_lcmp X dL_law_2629 ?_
            refine j_if_eq X (tgt := 2635) dL_law_2630 (by decide) (fun h34 => ?_) (fun h34 => ?_)
            · replace hR := (if_pos h34).symm.trans hR
              refine j_goto X (tgt := 3067) dL_law_2635 (by decide) ?_
              have h9 := Option.some.inj hR
              rw [← (Prod.mk.inj h9).1, ← (Prod.mk.inj (Prod.mk.inj h9).2).1, ← (Prod.mk.inj (Prod.mk.inj h9).2).2] at kk
              exact J.widen (c1 := cl + 8) (s1 := sl + 64) (by omega) (by omega) (J.sub (lvle_of (by simp only [lvle, and_self])) kk)
            · replace hR := (if_neg h34).symm.trans hR
              refine j_iconst X (0) dL_law_2633 (by decide) ?_
              cases hR
      · replace hR := (if_neg h30).symm.trans hR
        refine j_iconst X (0) dL_law_2609 (by decide) ?_
        cases hR
  · replace hR := (if_neg h3).symm.trans hR
    refine j_iconst X (1) dL_law_2563 (by decide) ?_
    refine j_goto X (tgt := 2568) dL_law_2564 (by decide) ?_
    refine j_aload_n X (i := 3) dL_law_2568 rfl rfl ?_
    obtain ⟨x36, a37, c38, h35, hR⟩ := bP3_inv hR
    refine j_callSW (As := [.ref (ad L 0), .int (xs ((i + (1 : Int32))).toNatClampNeg), .int (1 : Int32), .ref (ad L 105)]) (rest := []) X (m_L_setBare hl hL hL7 isB_1 h35) ml_L_306 st_yL_setBare in_L cd_yL_setBare hy_yL_setBare dL_law_2569 ⟨(by decide), (by decide)⟩ ⟨Nat.le_trans (Nat.add_le_add_left (by decide : 1 ≤ 8) _) hcl, Nat.le_trans (Nat.add_le_add_left (by decide : 6 ≤ 64) _) hsl⟩ (Nat.le_of_ble_eq_true rfl) (fun _ h => h.elim) (fun r9 L9 f9 h9 => ?_)
    obtain ⟨h91, h92, h93⟩ := h9
    subst r9
    subst f9
    subst L9
    dsimp only [Option.toList, List.cons_append, List.nil_append, List.append]
    refine j_istore X dL_law_2572 (by decide) (lvOK_s rfl okPrev_int) ?_
    dsimp only [List.set]
    refine j_aload_n X (i := 2) dL_law_2574 rfl rfl ?_
    refine j_aload_n X (i := 0) dL_law_2575 rfl rfl ?_
    refine j_iload X dL_law_2576 rfl ?_
    refine j_iconst X (1) dL_law_2578 (by decide) ?_
    refine j_iadd X dL_law_2579 ?_
    obtain ⟨h39, hR⟩ := chkI_inv hR
    refine j_sld X hX hb hbA h39 dL_law_2580 ?_
    refine j_aload_n X (i := 0) dL_law_2581 rfl rfl ?_
    refine j_iload X dL_law_2582 rfl ?_
    refine j_iconst X (2) dL_law_2584 (by decide) ?_
    refine j_iadd X dL_law_2585 ?_
    obtain ⟨h40, hR⟩ := chkI_inv hR
    refine j_sld X hX hb hbA h40 dL_law_2586 ?_
    refine j_if_eq X (tgt := 2594) dL_law_2587 (by decide) (fun h41 => ?_) (fun h41 => ?_)
    · replace hR := (if_pos h41).symm.trans hR
      refine j_iconst X (0) dL_law_2594 (by decide) ?_
      obtain ⟨x43, b44, h42, hR⟩ := bP2_inv hR
      refine j_callV2 X 9 (m_X9_setBare hl hL isB_0 h42) ml_L_309 im_yX9_setBare se_yX9_setBare in_X9 cd_yX9_setBare hy_yX9_setBare dL_law_2595 rfl (ad_mem hL (by decide)) (FW9 hL) ⟨(by decide), (by decide)⟩ ⟨Nat.le_trans (Nat.add_le_add_left (by decide : 1 ≤ 8) _) hcl, Nat.le_trans (Nat.add_le_add_left (by decide : 6 ≤ 64) _) hsl⟩ (Nat.le_of_ble_eq_true rfl) (fun _ h => h.elim) (fun r9 L9 f9 h9 => ?_)
      obtain ⟨h91, h92, h93, h45⟩ := h9
      subst r9
      subst f9
      subst L9
      dsimp only [Option.toList, List.cons_append, List.nil_append, List.append]
      refine j_istore X dL_law_2598 (by decide) (lvOK_s rfl okPrev_int) ?_
      dsimp only [List.set]
      refine j_aload_n X (i := 2) dL_law_2600 rfl rfl ?_
      obtain ⟨x47, h46, hR⟩ := bT_inv hR
      refine j_callV0 X 9 (m_X9_thrown hl hL  h46) ml_L_162 im_yX9_thrown se_yX9_thrown in_X9 cd_yX9_thrown hy_yX9_thrown dL_law_2601 rfl (ad_mem hL (by decide)) (FW9 hL) ⟨(by decide), (by decide)⟩ ⟨Nat.le_trans (Nat.add_le_add_left (by decide : 1 ≤ 8) _) hcl, Nat.le_trans (Nat.add_le_add_left (by decide : 6 ≤ 64) _) hsl⟩ (Nat.le_of_ble_eq_true rfl) (fun _ h => h.elim) (fun r9 L9 f9 h9 => ?_)
      obtain ⟨h91, h92, h93⟩ := h9
      subst r9
      subst f9
      subst L9
      dsimp only [Option.toList, List.cons_append, List.nil_append, List.append]
      refine j_iload X dL_law_2604 rfl ?_
      refine j_icmp_eq X (tgt := 2611) dL_law_2606 (by decide) (fun h49 => ?_) (fun h49 => ?_)
      · replace hR := (if_pos h49).symm.trans hR
        refine j_iload X dL_law_2611 rfl ?_
        refine j_if_ne X (tgt := 2635) dL_law_2613 (by decide) (fun h50 => ?_) (fun h50 => ?_)
        · replace hR := (if_neg h50).symm.trans hR
          refine j_goto X (tgt := 3067) dL_law_2635 (by decide) ?_
          have h9 := Option.some.inj hR
          rw [← (Prod.mk.inj h9).1, ← (Prod.mk.inj (Prod.mk.inj h9).2).1, ← (Prod.mk.inj (Prod.mk.inj h9).2).2] at kk
          exact J.widen (c1 := cl + 8) (s1 := sl + 64) (by omega) (by omega) (J.sub (lvle_of (by simp only [lvle, and_self])) kk)
        · replace hR := (if_pos h50).symm.trans hR
          refine j_aload_n X (i := 3) dL_law_2616 rfl rfl ?_
          refine j_iconst X (0) dL_law_2617 (by decide) ?_
          refine j_lald105 X hL hL7 dL_law_2618 ?_
          refine j_iload X dL_law_2619 rfl ?_
          refine j_if_eq X (tgt := 2628) dL_law_2621 (by decide) (fun h51 => ?_) (fun h51 => ?_)
          · replace hR := (if_pos h51).symm.trans hR
            refine j_lconst X (0) dL_law_2628 (by decide) ?_
            refine j_lcmp X dL_law_2629 ?_
            refine j_if_eq X (tgt := 2635) dL_law_2630 (by decide) (fun h52 => ?_) (fun h52 => ?_)
            · replace hR := (if_pos h52).symm.trans hR
              refine j_goto X (tgt := 3067) dL_law_2635 (by decide) ?_
              have h9 := Option.some.inj hR
              rw [← (Prod.mk.inj h9).1, ← (Prod.mk.inj (Prod.mk.inj h9).2).1, ← (Prod.mk.inj (Prod.mk.inj h9).2).2] at kk
              exact J.widen (c1 := cl + 8) (s1 := sl + 64) (by omega) (by omega) (J.sub (lvle_of (by simp only [lvle, and_self])) kk)
            · replace hR := (if_neg h52).symm.trans hR
              refine j_iconst X (0) dL_law_2633 (by decide) ?_
              cases hR
          · replace hR := (if_neg h51).symm.trans hR
            refine j_lconst X (1) dL_law_2624 (by decide) ?_
            refine j_goto X (tgt := 2629) dL_law_2625 (by decide) ?_
            refine j_lcmp X dL_law_2629 ?_
            refine j_if_eq X (tgt := 2635) dL_law_2630 (by decide) (fun h53 => ?_) (fun h53 => ?_)
            · replace hR := (if_pos h53).symm.trans hR
              refine j_goto X (tgt := 3067) dL_law_2635 (by decide) ?_
              have h9 := Option.some.inj hR
              rw [← (Prod.mk.inj h9).1, ← (Prod.mk.inj (Prod.mk.inj h9).2).1, ← (Prod.mk.inj (Prod.mk.inj h9).2).2] at kk
              exact J.widen (c1 := cl + 8) (s1 := sl + 64) (by omega) (by omega) (J.sub (lvle_of (by simp only [lvle, and_self])) kk)
            · replace hR := (if_neg h53).symm.trans hR
              refine j_iconst X (0) dL_law_2633 (by decide) ?_
              cases hR
      · replace hR := (if_neg h49).symm.trans hR
        refine j_iconst X (0) dL_law_2609 (by decide) ?_
        cases hR
    · replace hR := (if_neg h41).symm.trans hR
      refine j_iconst X (1) dL_law_2590 (by decide) ?_
      refine j_goto X (tgt := 2595) dL_law_2591 (by decide) ?_
      obtain ⟨x55, b56, h54, hR⟩ := bP2_inv hR
      refine j_callV2 X 9 (m_X9_setBare hl hL isB_1 h54) ml_L_309 im_yX9_setBare se_yX9_setBare in_X9 cd_yX9_setBare hy_yX9_setBare dL_law_2595 rfl (ad_mem hL (by decide)) (FW9 hL) ⟨(by decide), (by decide)⟩ ⟨Nat.le_trans (Nat.add_le_add_left (by decide : 1 ≤ 8) _) hcl, Nat.le_trans (Nat.add_le_add_left (by decide : 6 ≤ 64) _) hsl⟩ (Nat.le_of_ble_eq_true rfl) (fun _ h => h.elim) (fun r9 L9 f9 h9 => ?_)
      obtain ⟨h91, h92, h93, h57⟩ := h9
      subst r9
      subst f9
      subst L9
      dsimp only [Option.toList, List.cons_append, List.nil_append, List.append]
      refine j_istore X dL_law_2598 (by decide) (lvOK_s rfl okPrev_int) ?_
      dsimp only [List.set]
      refine j_aload_n X (i := 2) dL_law_2600 rfl rfl ?_
      obtain ⟨x59, h58, hR⟩ := bT_inv hR
      refine j_callV0 X 9 (m_X9_thrown hl hL  h58) ml_L_162 im_yX9_thrown se_yX9_thrown in_X9 cd_yX9_thrown hy_yX9_thrown dL_law_2601 rfl (ad_mem hL (by decide)) (FW9 hL) ⟨(by decide), (by decide)⟩ ⟨Nat.le_trans (Nat.add_le_add_left (by decide : 1 ≤ 8) _) hcl, Nat.le_trans (Nat.add_le_add_left (by decide : 6 ≤ 64) _) hsl⟩ (Nat.le_of_ble_eq_true rfl) (fun _ h => h.elim) (fun r9 L9 f9 h9 => ?_)
      obtain ⟨h91, h92, h93⟩ := h9
      subst r9
      subst f9
      subst L9
      dsimp only [Option.toList, List.cons_append, List.nil_append, List.append]
      refine j_iload X dL_law_2604 rfl ?_
      refine j_icmp_eq X (tgt := 2611) dL_law_2606 (by decide) (fun h61 => ?_) (fun h61 => ?_)
      · replace hR := (if_pos h61).symm.trans hR
        refine j_iload X dL_law_2611 rfl ?_
        refine j_if_ne X (tgt := 2635) dL_law_2613 (by decide) (fun h62 => ?_) (fun h62 => ?_)
        · replace hR := (if_neg h62).symm.trans hR
          refine j_goto X (tgt := 3067) dL_law_2635 (by decide) ?_
          have h9 := Option.some.inj hR
          rw [← (Prod.mk.inj h9).1, ← (Prod.mk.inj (Prod.mk.inj h9).2).1, ← (Prod.mk.inj (Prod.mk.inj h9).2).2] at kk
          exact J.widen (c1 := cl + 8) (s1 := sl + 64) (by omega) (by omega) (J.sub (lvle_of (by simp only [lvle, and_self])) kk)
        · replace hR := (if_pos h62).symm.trans hR
          refine j_aload_n X (i := 3) dL_law_2616 rfl rfl ?_
          refine j_iconst X (0) dL_law_2617 (by decide) ?_
          refine j_lald105 X hL hL7 dL_law_2618 ?_
          refine j_iload X dL_law_2619 rfl ?_
          refine j_if_eq X (tgt := 2628) dL_law_2621 (by decide) (fun h63 => ?_) (fun h63 => ?_)
          · replace hR := (if_pos h63).symm.trans hR
            refine j_lconst X (0) dL_law_2628 (by decide) ?_
            refine j_lcmp X dL_law_2629 ?_
            refine j_if_eq X (tgt := 2635) dL_law_2630 (by decide) (fun h64 => ?_) (fun h64 => ?_)
            · replace hR := (if_pos h64).symm.trans hR
              refine j_goto X (tgt := 3067) dL_law_2635 (by decide) ?_
              have h9 := Option.some.inj hR
              rw [← (Prod.mk.inj h9).1, ← (Prod.mk.inj (Prod.mk.inj h9).2).1, ← (Prod.mk.inj (Prod.mk.inj h9).2).2] at kk
              exact J.widen (c1 := cl + 8) (s1 := sl + 64) (by omega) (by omega) (J.sub (lvle_of (by simp only [lvle, and_self])) kk)
            · replace hR := (if_neg h64).symm.trans hR
              refine j_iconst X (0) dL_law_2633 (by decide) ?_
              cases hR
          · replace hR := (if_neg h63).symm.trans hR
            refine j_lconst X (1) dL_law_2624 (by decide) ?_
            refine j_goto X (tgt := 2629) dL_law_2625 (by decide) ?_
            refine j_lcmp X dL_law_2629 ?_
            refine j_if_eq X (tgt := 2635) dL_law_2630 (by decide) (fun h65 => ?_) (fun h65 => ?_)
            · replace hR := (if_pos h65).symm.trans hR
              refine j_goto X (tgt := 3067) dL_law_2635 (by decide) ?_
              have h9 := Option.some.inj hR
              rw [← (Prod.mk.inj h9).1, ← (Prod.mk.inj (Prod.mk.inj h9).2).1, ← (Prod.mk.inj (Prod.mk.inj h9).2).2] at kk
              exact J.widen (c1 := cl + 8) (s1 := sl + 64) (by omega) (by omega) (J.sub (lvle_of (by simp only [lvle, and_self])) kk)
            · replace hR := (if_neg h65).symm.trans hR
              refine j_iconst X (0) dL_law_2633 (by decide) ?_
              cases hR
      · replace hR := (if_neg h61).symm.trans hR
        refine j_iconst X (0) dL_law_2609 (by decide) ?_
        cases hR
def f_case_44 (N Ln : Nat) (xs : Nat → Int32) (i : Int32) (a b c : Mem) : Option (Mem × Mem × Mem) := chkI (i + (1 : Int32)) Ln <| if (xs ((i + (1 : Int32))).toNatClampNeg) = 0 then (bT2 (f_X8_setClaims (0 : Int32) a) fun x4 a5 => chkI (i + (1 : Int32)) Ln <| if (xs ((i + (1 : Int32))).toNatClampNeg) = 0 then (bP2 (f_X9_setClaims N (0 : Int32) b) fun x10 b11 => if x4 = x10 then (some (a5, b11, c)) else (none)) else (bP2 (f_X9_setClaims N (1 : Int32) b) fun x15 b16 => if x4 = x15 then (some (a5, b16, c)) else (none))) else (bT2 (f_X8_setClaims (1 : Int32) a) fun x20 a21 => chkI (i + (1 : Int32)) Ln <| if (xs ((i + (1 : Int32))).toNatClampNeg) = 0 then (bP2 (f_X9_setClaims N (0 : Int32) b) fun x26 b27 => if x20 = x26 then (some (a21, b27, c)) else (none)) else (bP2 (f_X9_setClaims N (1 : Int32) b) fun x31 b32 => if x20 = x31 then (some (a21, b32, c)) else (none)))
set_option maxRecDepth 100000 in
set_option maxHeartbeats 4000000 in
theorem m_case_44 (X : Cx G p l s m args meth c9 A RL cL_law 9 ret9 tb) (hl : l.stackTraces = false) (hL : LOK L) (hL7 : L.length = 107) {N Ln sb : Nat} {xs : Nat → Int32} (hX : va_X sb Ln xs s s.heap) (hb : sb < s.heap.size) (hbA : ¬ A sb) {cl sl : Nat} (hcl : cl + 8 ≤ 601024) (hsl : sl + 64 ≤ 7293034) {i : Int32} {a b c a' b' c' : Mem} (hR : f_case_44 N Ln xs i a b c = some (a', b', c')) (kk : J G p l e ({ frames := 14, cells := 601024, slots := 7293034, locals := 524 } : Room) s m args below meth c9 A Q 9 (cl + 8) (sl + 64) 3067 [some (.ref sb), some (.ref (ad L 0)), some (.ref (ad L 96)), some (.ref (ad L 105)), some (.ref (ad L 106)), some (.int i), none, none, none] [] L (FW G L a' b' c')) : J G p l e ({ frames := 14, cells := 601024, slots := 7293034, locals := 524 } : Room) s m args below meth c9 A Q 9 cl sl 2638 [some (.ref sb), some (.ref (ad L 0)), some (.ref (ad L 96)), some (.ref (ad L 105)), some (.ref (ad L 106)), some (.int i), none, none, none] [] L (FW G L a b c) := by
  unfold f_case_44 at hR
  refine j_aload_n X (i := 1) dL_law_2638 rfl rfl ?_
  refine j_aload_n X (i := 0) dL_law_2639 rfl rfl ?_
  refine j_iload X dL_law_2640 rfl ?_
  refine j_iconst X (1) dL_law_2642 (by decide) ?_
  refine j_iadd X dL_law_2643 ?_
  obtain ⟨h1, hR⟩ := chkI_inv hR
  refine j_sld X hX hb hbA h1 dL_law_2644 ?_
  refine j_if_eq X (tgt := 2652) dL_law_2645 (by decide) (fun h2 => ?_) (fun h2 => ?_)
  · replace hR := (if_pos h2).symm.trans hR
    refine j_iconst X (0) dL_law_2652 (by decide) ?_
    obtain ⟨x4, a5, h3, hR⟩ := bT2_inv hR
    refine j_callV1 X 8 (m_X8_setClaims hl hL isB_0 h3) ml_L_310 im_yX8_setClaims se_yX8_setClaims in_X8 cd_yX8_setClaims hy_yX8_setClaims dL_law_2653 rfl (inL hL t_0 (by decide)) (FW8 hL t_0) ⟨(by decide), (by decide)⟩ ⟨Nat.le_trans (Nat.add_le_add_left (by decide : 0 ≤ 8) _) hcl, Nat.le_trans (Nat.add_le_add_left (by decide : 0 ≤ 64) _) hsl⟩ (Nat.le_of_ble_eq_true rfl) (fun _ h => h.elim) (fun r9 L9 f9 h9 => ?_)
    obtain ⟨h91, h92, h93, h6⟩ := h9
    subst r9
    subst f9
    subst L9
    dsimp only [Option.toList, List.cons_append, List.nil_append, List.append]
    refine j_aload_n X (i := 2) dL_law_2656 rfl rfl ?_
    refine j_aload_n X (i := 0) dL_law_2657 rfl rfl ?_
    refine j_iload X dL_law_2658 rfl ?_
    refine j_iconst X (1) dL_law_2660 (by decide) ?_
    refine j_iadd X dL_law_2661 ?_
    obtain ⟨h7, hR⟩ := chkI_inv hR
    refine j_sld X hX hb hbA h7 dL_law_2662 ?_
    refine j_if_eq X (tgt := 2670) dL_law_2663 (by decide) (fun h8 => ?_) (fun h8 => ?_)
    · replace hR := (if_pos h8).symm.trans hR
      refine j_iconst X (0) dL_law_2670 (by decide) ?_
      obtain ⟨x10, b11, h9, hR⟩ := bP2_inv hR
      refine j_callV1 X 9 (m_X9_setClaims hl hL isB_0 h9) ml_L_314 im_yX9_setClaims se_yX9_setClaims in_X9 cd_yX9_setClaims hy_yX9_setClaims dL_law_2671 rfl (ad_mem hL (by decide)) (FW9 hL) ⟨(by decide), (by decide)⟩ ⟨Nat.le_trans (Nat.add_le_add_left (by decide : 0 ≤ 8) _) hcl, Nat.le_trans (Nat.add_le_add_left (by decide : 0 ≤ 64) _) hsl⟩ (Nat.le_of_ble_eq_true rfl) (fun _ h => h.elim) (fun r9 L9 f9 h9 => ?_)
      obtain ⟨h91, h92, h93, h12⟩ := h9
      subst r9
      subst f9
      subst L9
      dsimp only [Option.toList, List.cons_append, List.nil_append, List.append]
      refine j_icmp_eq X (tgt := 3067) dL_law_2674 (by decide) (fun h13 => ?_) (fun h13 => ?_)
      · replace hR := (if_pos h13).symm.trans hR
        have h9 := Option.some.inj hR
        rw [← (Prod.mk.inj h9).1, ← (Prod.mk.inj (Prod.mk.inj h9).2).1, ← (Prod.mk.inj (Prod.mk.inj h9).2).2] at kk
        exact J.widen (c1 := cl + 8) (s1 := sl + 64) (by omega) (by omega) (J.sub (lvle_of (by simp only [lvle, and_self])) kk)
      · replace hR := (if_neg h13).symm.trans hR
        refine j_iconst X (0) dL_law_2677 (by decide) ?_
        cases hR
    · replace hR := (if_neg h8).symm.trans hR
      refine j_iconst X (1) dL_law_2666 (by decide) ?_
      refine j_goto X (tgt := 2671) dL_law_2667 (by decide) ?_
      obtain ⟨x15, b16, h14, hR⟩ := bP2_inv hR
      refine j_callV1 X 9 (m_X9_setClaims hl hL isB_1 h14) ml_L_314 im_yX9_setClaims se_yX9_setClaims in_X9 cd_yX9_setClaims hy_yX9_setClaims dL_law_2671 rfl (ad_mem hL (by decide)) (FW9 hL) ⟨(by decide), (by decide)⟩ ⟨Nat.le_trans (Nat.add_le_add_left (by decide : 0 ≤ 8) _) hcl, Nat.le_trans (Nat.add_le_add_left (by decide : 0 ≤ 64) _) hsl⟩ (Nat.le_of_ble_eq_true rfl) (fun _ h => h.elim) (fun r9 L9 f9 h9 => ?_)
      obtain ⟨h91, h92, h93, h17⟩ := h9
      subst r9
      subst f9
      subst L9
      dsimp only [Option.toList, List.cons_append, List.nil_append, List.append]
      refine j_icmp_eq X (tgt := 3067) dL_law_2674 (by decide) (fun h18 => ?_) (fun h18 => ?_)
      · replace hR := (if_pos h18).symm.trans hR
        have h9 := Option.some.inj hR
        rw [← (Prod.mk.inj h9).1, ← (Prod.mk.inj (Prod.mk.inj h9).2).1, ← (Prod.mk.inj (Prod.mk.inj h9).2).2] at kk
        exact J.widen (c1 := cl + 8) (s1 := sl + 64) (by omega) (by omega) (J.sub (lvle_of (by simp only [lvle, and_self])) kk)
      · replace hR := (if_neg h18).symm.trans hR
        refine j_iconst X (0) dL_law_2677 (by decide) ?_
        cases hR
  · replace hR := (if_neg h2).symm.trans hR
    refine j_iconst X (1) dL_law_2648 (by decide) ?_
    refine j_goto X (tgt := 2653) dL_law_2649 (by decide) ?_
    obtain ⟨x20, a21, h19, hR⟩ := bT2_inv hR
    refine j_callV1 X 8 (m_X8_setClaims hl hL isB_1 h19) ml_L_310 im_yX8_setClaims se_yX8_setClaims in_X8 cd_yX8_setClaims hy_yX8_setClaims dL_law_2653 rfl (inL hL t_0 (by decide)) (FW8 hL t_0) ⟨(by decide), (by decide)⟩ ⟨Nat.le_trans (Nat.add_le_add_left (by decide : 0 ≤ 8) _) hcl, Nat.le_trans (Nat.add_le_add_left (by decide : 0 ≤ 64) _) hsl⟩ (Nat.le_of_ble_eq_true rfl) (fun _ h => h.elim) (fun r9 L9 f9 h9 => ?_)
    obtain ⟨h91, h92, h93, h22⟩ := h9
    subst r9
    subst f9
    subst L9
    dsimp only [Option.toList, List.cons_append, List.nil_append, List.append]
    refine j_aload_n X (i := 2) dL_law_2656 rfl rfl ?_
    refine j_aload_n X (i := 0) dL_law_2657 rfl rfl ?_
    refine j_iload X dL_law_2658 rfl ?_
    refine j_iconst X (1) dL_law_2660 (by decide) ?_
    refine j_iadd X dL_law_2661 ?_
    obtain ⟨h23, hR⟩ := chkI_inv hR
    refine j_sld X hX hb hbA h23 dL_law_2662 ?_
    refine j_if_eq X (tgt := 2670) dL_law_2663 (by decide) (fun h24 => ?_) (fun h24 => ?_)
    · replace hR := (if_pos h24).symm.trans hR
      refine j_iconst X (0) dL_law_2670 (by decide) ?_
      obtain ⟨x26, b27, h25, hR⟩ := bP2_inv hR
      refine j_callV1 X 9 (m_X9_setClaims hl hL isB_0 h25) ml_L_314 im_yX9_setClaims se_yX9_setClaims in_X9 cd_yX9_setClaims hy_yX9_setClaims dL_law_2671 rfl (ad_mem hL (by decide)) (FW9 hL) ⟨(by decide), (by decide)⟩ ⟨Nat.le_trans (Nat.add_le_add_left (by decide : 0 ≤ 8) _) hcl, Nat.le_trans (Nat.add_le_add_left (by decide : 0 ≤ 64) _) hsl⟩ (Nat.le_of_ble_eq_true rfl) (fun _ h => h.elim) (fun r9 L9 f9 h9 => ?_)
      obtain ⟨h91, h92, h93, h28⟩ := h9
      subst r9
      subst f9
      subst L9
      dsimp only [Option.toList, List.cons_append, List.nil_append, List.append]
      refine j_icmp_eq X (tgt := 3067) dL_law_2674 (by decide) (fun h29 => ?_) (fun h29 => ?_)
      · replace hR := (if_pos h29).symm.trans hR
        have h9 := Option.some.inj hR
        rw [← (Prod.mk.inj h9).1, ← (Prod.mk.inj (Prod.mk.inj h9).2).1, ← (Prod.mk.inj (Prod.mk.inj h9).2).2] at kk
        exact J.widen (c1 := cl + 8) (s1 := sl + 64) (by omega) (by omega) (J.sub (lvle_of (by simp only [lvle, and_self])) kk)
      · replace hR := (if_neg h29).symm.trans hR
        refine j_iconst X (0) dL_law_2677 (by decide) ?_
        cases hR
    · replace hR := (if_neg h24).symm.trans hR
      refine j_iconst X (1) dL_law_2666 (by decide) ?_
      refine j_goto X (tgt := 2671) dL_law_2667 (by decide) ?_
      obtain ⟨x31, b32, h30, hR⟩ := bP2_inv hR
      refine j_callV1 X 9 (m_X9_setClaims hl hL isB_1 h30) ml_L_314 im_yX9_setClaims se_yX9_setClaims in_X9 cd_yX9_setClaims hy_yX9_setClaims dL_law_2671 rfl (ad_mem hL (by decide)) (FW9 hL) ⟨(by decide), (by decide)⟩ ⟨Nat.le_trans (Nat.add_le_add_left (by decide : 0 ≤ 8) _) hcl, Nat.le_trans (Nat.add_le_add_left (by decide : 0 ≤ 64) _) hsl⟩ (Nat.le_of_ble_eq_true rfl) (fun _ h => h.elim) (fun r9 L9 f9 h9 => ?_)
      obtain ⟨h91, h92, h93, h33⟩ := h9
      subst r9
      subst f9
      subst L9
      dsimp only [Option.toList, List.cons_append, List.nil_append, List.append]
      refine j_icmp_eq X (tgt := 3067) dL_law_2674 (by decide) (fun h34 => ?_) (fun h34 => ?_)
      · replace hR := (if_pos h34).symm.trans hR
        have h9 := Option.some.inj hR
        rw [← (Prod.mk.inj h9).1, ← (Prod.mk.inj (Prod.mk.inj h9).2).1, ← (Prod.mk.inj (Prod.mk.inj h9).2).2] at kk
        exact J.widen (c1 := cl + 8) (s1 := sl + 64) (by omega) (by omega) (J.sub (lvle_of (by simp only [lvle, and_self])) kk)
      · replace hR := (if_neg h34).symm.trans hR
        refine j_iconst X (0) dL_law_2677 (by decide) ?_
        cases hR
def f_case_45 (N Ln : Nat) (xs : Nat → Int32) (i : Int32) (a b c : Mem) : Option (Mem × Mem × Mem) := chkI (i + (1 : Int32)) Ln <| chkI (i + (2 : Int32)) Ln <| chkI (i + (3 : Int32)) Ln <| bP3 (f_L_setPeriod (xs ((i + (1 : Int32))).toNatClampNeg) (xs ((i + (2 : Int32))).toNatClampNeg) (xs ((i + (3 : Int32))).toNatClampNeg) a c) fun x5 a6 c7 => chkI (i + (1 : Int32)) Ln <| chkI (i + (2 : Int32)) Ln <| chkI (i + (3 : Int32)) Ln <| bP2 (f_X9_setPeriod N (xs ((i + (1 : Int32))).toNatClampNeg) (xs ((i + (2 : Int32))).toNatClampNeg) (xs ((i + (3 : Int32))).toNatClampNeg) b) fun x12 b13 => bT (f_X9_thrown  b13) fun x16 => if x16 = x5 then (if x5 = 0 then (if (lg_cmp (Int32.toInt64 (c7 0 0)) (Int32.toInt64 x12)) = 0 then (some (a6, b13, c7)) else (none)) else (some (a6, b13, c7))) else (none)
set_option maxRecDepth 100000 in
set_option maxHeartbeats 4000000 in
theorem m_case_45 (X : Cx G p l s m args meth c9 A RL cL_law 9 ret9 tb) (hl : l.stackTraces = false) (hL : LOK L) (hL7 : L.length = 107) {N Ln sb : Nat} {xs : Nat → Int32} (hX : va_X sb Ln xs s s.heap) (hb : sb < s.heap.size) (hbA : ¬ A sb) {cl sl : Nat} (hcl : cl + 8 ≤ 601024) (hsl : sl + 64 ≤ 7293034) {i : Int32} {a b c a' b' c' : Mem} (hR : f_case_45 N Ln xs i a b c = some (a', b', c')) (kk : J G p l e ({ frames := 14, cells := 601024, slots := 7293034, locals := 524 } : Room) s m args below meth c9 A Q 9 (cl + 8) (sl + 64) 3067 [some (.ref sb), some (.ref (ad L 0)), some (.ref (ad L 96)), some (.ref (ad L 105)), some (.ref (ad L 106)), some (.int i), none, none, none] [] L (FW G L a' b' c')) : J G p l e ({ frames := 14, cells := 601024, slots := 7293034, locals := 524 } : Room) s m args below meth c9 A Q 9 cl sl 2679 [some (.ref sb), some (.ref (ad L 0)), some (.ref (ad L 96)), some (.ref (ad L 105)), some (.ref (ad L 106)), some (.int i), none, none, none] [] L (FW G L a b c) := by
  unfold f_case_45 at hR
  refine j_aload_n X (i := 1) dL_law_2679 rfl rfl ?_
  refine j_aload_n X (i := 0) dL_law_2680 rfl rfl ?_
  refine j_iload X dL_law_2681 rfl ?_
  refine j_iconst X (1) dL_law_2683 (by decide) ?_
  refine j_iadd X dL_law_2684 ?_
  obtain ⟨h1, hR⟩ := chkI_inv hR
  refine j_sld X hX hb hbA h1 dL_law_2685 ?_
  refine j_aload_n X (i := 0) dL_law_2686 rfl rfl ?_
  refine j_iload X dL_law_2687 rfl ?_
  refine j_iconst X (2) dL_law_2689 (by decide) ?_
  refine j_iadd X dL_law_2690 ?_
  obtain ⟨h2, hR⟩ := chkI_inv hR
  refine j_sld X hX hb hbA h2 dL_law_2691 ?_
  refine j_aload_n X (i := 0) dL_law_2692 rfl rfl ?_
  refine j_iload X dL_law_2693 rfl ?_
  refine j_iconst X (3) dL_law_2695 (by decide) ?_
  refine j_iadd X dL_law_2696 ?_
  obtain ⟨h3, hR⟩ := chkI_inv hR
  refine j_sld X hX hb hbA h3 dL_law_2697 ?_
  refine j_aload_n X (i := 3) dL_law_2698 rfl rfl ?_
  obtain ⟨x5, a6, c7, h4, hR⟩ := bP3_inv hR
  refine j_callSW (As := [.ref (ad L 0), .int (xs ((i + (1 : Int32))).toNatClampNeg), .int (xs ((i + (2 : Int32))).toNatClampNeg), .int (xs ((i + (3 : Int32))).toNatClampNeg), .ref (ad L 105)]) (rest := []) X (m_L_setPeriod hl hL hL7  h4) ml_L_315 st_yL_setPeriod in_L cd_yL_setPeriod hy_yL_setPeriod dL_law_2699 ⟨(by decide), (by decide)⟩ ⟨Nat.le_trans (Nat.add_le_add_left (by decide : 2 ≤ 8) _) hcl, Nat.le_trans (Nat.add_le_add_left (by decide : 12 ≤ 64) _) hsl⟩ (Nat.le_of_ble_eq_true rfl) (fun _ h => h.elim) (fun r9 L9 f9 h9 => ?_)
  obtain ⟨h91, h92, h93⟩ := h9
  subst r9
  subst f9
  subst L9
  dsimp only [Option.toList, List.cons_append, List.nil_append, List.append]
  refine j_istore X dL_law_2702 (by decide) (lvOK_s rfl okPrev_int) ?_
  dsimp only [List.set]
  refine j_aload_n X (i := 2) dL_law_2704 rfl rfl ?_
  refine j_aload_n X (i := 0) dL_law_2705 rfl rfl ?_
  refine j_iload X dL_law_2706 rfl ?_
  refine j_iconst X (1) dL_law_2708 (by decide) ?_
  refine j_iadd X dL_law_2709 ?_
  obtain ⟨h8, hR⟩ := chkI_inv hR
  refine j_sld X hX hb hbA h8 dL_law_2710 ?_
  refine j_aload_n X (i := 0) dL_law_2711 rfl rfl ?_
  refine j_iload X dL_law_2712 rfl ?_
  refine j_iconst X (2) dL_law_2714 (by decide) ?_
  refine j_iadd X dL_law_2715 ?_
  obtain ⟨h9, hR⟩ := chkI_inv hR
  refine j_sld X hX hb hbA h9 dL_law_2716 ?_
  refine j_aload_n X (i := 0) dL_law_2717 rfl rfl ?_
  refine j_iload X dL_law_2718 rfl ?_
  refine j_iconst X (3) dL_law_2720 (by decide) ?_
  refine j_iadd X dL_law_2721 ?_
  obtain ⟨h10, hR⟩ := chkI_inv hR
  refine j_sld X hX hb hbA h10 dL_law_2722 ?_
  obtain ⟨x12, b13, h11, hR⟩ := bP2_inv hR
  refine j_callV3 X 9 (m_X9_setPeriod hl hL  h11) ml_L_317 im_yX9_setPeriod se_yX9_setPeriod in_X9 cd_yX9_setPeriod hy_yX9_setPeriod dL_law_2723 rfl (ad_mem hL (by decide)) (FW9 hL) ⟨(by decide), (by decide)⟩ ⟨Nat.le_trans (Nat.add_le_add_left (by decide : 2 ≤ 8) _) hcl, Nat.le_trans (Nat.add_le_add_left (by decide : 12 ≤ 64) _) hsl⟩ (Nat.le_of_ble_eq_true rfl) (fun _ h => h.elim) (fun r9 L9 f9 h9 => ?_)
  obtain ⟨h91, h92, h93⟩ := h9
  subst r9
  subst f9
  subst L9
  dsimp only [Option.toList, List.cons_append, List.nil_append, List.append]
  refine j_istore X dL_law_2726 (by decide) (lvOK_s rfl okPrev_int) ?_
  dsimp only [List.set]
  refine j_aload_n X (i := 2) dL_law_2728 rfl rfl ?_
  obtain ⟨x16, h15, hR⟩ := bT_inv hR
  refine j_callV0 X 9 (m_X9_thrown hl hL  h15) ml_L_162 im_yX9_thrown se_yX9_thrown in_X9 cd_yX9_thrown hy_yX9_thrown dL_law_2729 rfl (ad_mem hL (by decide)) (FW9 hL) ⟨(by decide), (by decide)⟩ ⟨Nat.le_trans (Nat.add_le_add_left (by decide : 2 ≤ 8) _) hcl, Nat.le_trans (Nat.add_le_add_left (by decide : 12 ≤ 64) _) hsl⟩ (Nat.le_of_ble_eq_true rfl) (fun _ h => h.elim) (fun r9 L9 f9 h9 => ?_)
  obtain ⟨h91, h92, h93⟩ := h9
  subst r9
  subst f9
  subst L9
  dsimp only [Option.toList, List.cons_append, List.nil_append, List.append]
  refine j_iload X dL_law_2732 rfl ?_
  refine j_icmp_eq X (tgt := 2739) dL_law_2734 (by decide) (fun h18 => ?_) (fun h18 => ?_)
  · replace hR := (if_pos h18).symm.trans hR
    refine j_iload X dL_law_2739 rfl ?_
    refine j_if_ne X (tgt := 2756) dL_law_2741 (by decide) (fun h19 => ?_) (fun h19 => ?_)
    · replace hR := (if_neg h19).symm.trans hR
      refine j_goto X (tgt := 3067) dL_law_2756 (by decide) ?_
      have h9 := Option.some.inj hR
      rw [← (Prod.mk.inj h9).1, ← (Prod.mk.inj (Prod.mk.inj h9).2).1, ← (Prod.mk.inj (Prod.mk.inj h9).2).2] at kk
      exact J.widen (c1 := cl + 8) (s1 := sl + 64) (by omega) (by omega) (J.sub (lvle_of (by simp only [lvle, and_self])) kk)
    · replace hR := (if_pos h19).symm.trans hR
      refine j_aload_n X (i := 3) dL_law_2744 rfl rfl ?_
      refine j_iconst X (0) dL_law_2745 (by decide) ?_
      refine j_lald105 X hL hL7 dL_law_2746 ?_
      refine j_iload X dL_law_2747 rfl ?_
      refine j_i2l X dL_law_2749 ?_
      refine j_lcmp X dL_law_2750 ?_
      refine j_if_eq X (tgt := 2756) dL_law_2751 (by decide) (fun h20 => ?_) (fun h20 => ?_)
      · replace hR := (if_pos h20).symm.trans hR
        refine j_goto X (tgt := 3067) dL_law_2756 (by decide) ?_
        have h9 := Option.some.inj hR
        rw [← (Prod.mk.inj h9).1, ← (Prod.mk.inj (Prod.mk.inj h9).2).1, ← (Prod.mk.inj (Prod.mk.inj h9).2).2] at kk
        exact J.widen (c1 := cl + 8) (s1 := sl + 64) (by omega) (by omega) (J.sub (lvle_of (by simp only [lvle, and_self])) kk)
      · replace hR := (if_neg h20).symm.trans hR
        refine j_iconst X (0) dL_law_2754 (by decide) ?_
        cases hR
  · replace hR := (if_neg h18).symm.trans hR
    refine j_iconst X (0) dL_law_2737 (by decide) ?_
    cases hR
def f_case_46 (N Ln : Nat) (xs : Nat → Int32) (i : Int32) (a b c : Mem) : Option (Mem × Mem × Mem) := bP3 (f_L_swap  a c) fun x2 a3 c4 => bP2 (f_X9_swap N  b) fun x6 b7 => bT (f_X9_thrown  b7) fun x10 => if x10 = x2 then (if x2 = 0 then (if (lg_cmp (Int32.toInt64 (c4 0 0)) (Int32.toInt64 x6)) = 0 then (some (a3, b7, c4)) else (none)) else (some (a3, b7, c4))) else (none)
set_option maxRecDepth 100000 in
set_option maxHeartbeats 4000000 in
theorem m_case_46 (X : Cx G p l s m args meth c9 A RL cL_law 9 ret9 tb) (hl : l.stackTraces = false) (hL : LOK L) (hL7 : L.length = 107) {N Ln sb : Nat} {xs : Nat → Int32} (hX : va_X sb Ln xs s s.heap) (hb : sb < s.heap.size) (hbA : ¬ A sb) {cl sl : Nat} (hcl : cl + 8 ≤ 601024) (hsl : sl + 64 ≤ 7293034) {i : Int32} {a b c a' b' c' : Mem} (hR : f_case_46 N Ln xs i a b c = some (a', b', c')) (kk : J G p l e ({ frames := 14, cells := 601024, slots := 7293034, locals := 524 } : Room) s m args below meth c9 A Q 9 (cl + 8) (sl + 64) 3067 [some (.ref sb), some (.ref (ad L 0)), some (.ref (ad L 96)), some (.ref (ad L 105)), some (.ref (ad L 106)), some (.int i), none, none, none] [] L (FW G L a' b' c')) : J G p l e ({ frames := 14, cells := 601024, slots := 7293034, locals := 524 } : Room) s m args below meth c9 A Q 9 cl sl 2759 [some (.ref sb), some (.ref (ad L 0)), some (.ref (ad L 96)), some (.ref (ad L 105)), some (.ref (ad L 106)), some (.int i), none, none, none] [] L (FW G L a b c) := by
  unfold f_case_46 at hR
  refine j_aload_n X (i := 1) dL_law_2759 rfl rfl ?_
  refine j_aload_n X (i := 3) dL_law_2760 rfl rfl ?_
  obtain ⟨x2, a3, c4, h1, hR⟩ := bP3_inv hR
  refine j_callSW (As := [.ref (ad L 0), .ref (ad L 105)]) (rest := []) X (m_L_swap hl hL hL7  h1) ml_L_318 st_yL_swap in_L cd_yL_swap hy_yL_swap dL_law_2761 ⟨(by decide), (by decide)⟩ ⟨Nat.le_trans (Nat.add_le_add_left (by decide : 1 ≤ 8) _) hcl, Nat.le_trans (Nat.add_le_add_left (by decide : 6 ≤ 64) _) hsl⟩ (Nat.le_of_ble_eq_true rfl) (fun _ h => h.elim) (fun r9 L9 f9 h9 => ?_)
  obtain ⟨h91, h92, h93⟩ := h9
  subst r9
  subst f9
  subst L9
  dsimp only [Option.toList, List.cons_append, List.nil_append, List.append]
  refine j_istore X dL_law_2764 (by decide) (lvOK_s rfl okPrev_int) ?_
  dsimp only [List.set]
  refine j_aload_n X (i := 2) dL_law_2766 rfl rfl ?_
  obtain ⟨x6, b7, h5, hR⟩ := bP2_inv hR
  refine j_callV0 X 9 (m_X9_swap hl hL  h5) ml_L_320 im_yX9_swap se_yX9_swap in_X9 cd_yX9_swap hy_yX9_swap dL_law_2767 rfl (ad_mem hL (by decide)) (FW9 hL) ⟨(by decide), (by decide)⟩ ⟨Nat.le_trans (Nat.add_le_add_left (by decide : 1 ≤ 8) _) hcl, Nat.le_trans (Nat.add_le_add_left (by decide : 6 ≤ 64) _) hsl⟩ (Nat.le_of_ble_eq_true rfl) (fun _ h => h.elim) (fun r9 L9 f9 h9 => ?_)
  obtain ⟨h91, h92, h93⟩ := h9
  subst r9
  subst f9
  subst L9
  dsimp only [Option.toList, List.cons_append, List.nil_append, List.append]
  refine j_istore X dL_law_2770 (by decide) (lvOK_s rfl okPrev_int) ?_
  dsimp only [List.set]
  refine j_aload_n X (i := 2) dL_law_2772 rfl rfl ?_
  obtain ⟨x10, h9, hR⟩ := bT_inv hR
  refine j_callV0 X 9 (m_X9_thrown hl hL  h9) ml_L_162 im_yX9_thrown se_yX9_thrown in_X9 cd_yX9_thrown hy_yX9_thrown dL_law_2773 rfl (ad_mem hL (by decide)) (FW9 hL) ⟨(by decide), (by decide)⟩ ⟨Nat.le_trans (Nat.add_le_add_left (by decide : 1 ≤ 8) _) hcl, Nat.le_trans (Nat.add_le_add_left (by decide : 6 ≤ 64) _) hsl⟩ (Nat.le_of_ble_eq_true rfl) (fun _ h => h.elim) (fun r9 L9 f9 h9 => ?_)
  obtain ⟨h91, h92, h93⟩ := h9
  subst r9
  subst f9
  subst L9
  dsimp only [Option.toList, List.cons_append, List.nil_append, List.append]
  refine j_iload X dL_law_2776 rfl ?_
  refine j_icmp_eq X (tgt := 2783) dL_law_2778 (by decide) (fun h12 => ?_) (fun h12 => ?_)
  · replace hR := (if_pos h12).symm.trans hR
    refine j_iload X dL_law_2783 rfl ?_
    refine j_if_ne X (tgt := 2800) dL_law_2785 (by decide) (fun h13 => ?_) (fun h13 => ?_)
    · replace hR := (if_neg h13).symm.trans hR
      refine j_goto X (tgt := 3067) dL_law_2800 (by decide) ?_
      have h9 := Option.some.inj hR
      rw [← (Prod.mk.inj h9).1, ← (Prod.mk.inj (Prod.mk.inj h9).2).1, ← (Prod.mk.inj (Prod.mk.inj h9).2).2] at kk
      exact J.widen (c1 := cl + 8) (s1 := sl + 64) (by omega) (by omega) (J.sub (lvle_of (by simp only [lvle, and_self])) kk)
    · replace hR := (if_pos h13).symm.trans hR
      refine j_aload_n X (i := 3) dL_law_2788 rfl rfl ?_
      refine j_iconst X (0) dL_law_2789 (by decide) ?_
      refine j_lald105 X hL hL7 dL_law_2790 ?_
      refine j_iload X dL_law_2791 rfl ?_
      refine j_i2l X dL_law_2793 ?_
      refine j_lcmp X dL_law_2794 ?_
      refine j_if_eq X (tgt := 2800) dL_law_2795 (by decide) (fun h14 => ?_) (fun h14 => ?_)
      · replace hR := (if_pos h14).symm.trans hR
        refine j_goto X (tgt := 3067) dL_law_2800 (by decide) ?_
        have h9 := Option.some.inj hR
        rw [← (Prod.mk.inj h9).1, ← (Prod.mk.inj (Prod.mk.inj h9).2).1, ← (Prod.mk.inj (Prod.mk.inj h9).2).2] at kk
        exact J.widen (c1 := cl + 8) (s1 := sl + 64) (by omega) (by omega) (J.sub (lvle_of (by simp only [lvle, and_self])) kk)
      · replace hR := (if_neg h14).symm.trans hR
        refine j_iconst X (0) dL_law_2798 (by decide) ?_
        cases hR
  · replace hR := (if_neg h12).symm.trans hR
    refine j_iconst X (0) dL_law_2781 (by decide) ?_
    cases hR
def f_case_47 (N Ln : Nat) (xs : Nat → Int32) (i : Int32) (a b c : Mem) : Option (Mem × Mem × Mem) := chkI (i + (1 : Int32)) Ln <| bP3 (f_L_keep (xs ((i + (1 : Int32))).toNatClampNeg) a c) fun x3 a4 c5 => chkI (i + (1 : Int32)) Ln <| bP2 (f_X9_keep N (xs ((i + (1 : Int32))).toNatClampNeg) b) fun x8 b9 => bT (f_X9_thrown  b9) fun x12 => if x12 = x3 then (if x3 = 0 then (if (lg_cmp (Int32.toInt64 (c5 0 0)) (Int32.toInt64 x8)) = 0 then (some (a4, b9, c5)) else (none)) else (some (a4, b9, c5))) else (none)
set_option maxRecDepth 100000 in
set_option maxHeartbeats 4000000 in
theorem m_case_47 (X : Cx G p l s m args meth c9 A RL cL_law 9 ret9 tb) (hl : l.stackTraces = false) (hL : LOK L) (hL7 : L.length = 107) {N Ln sb : Nat} {xs : Nat → Int32} (hX : va_X sb Ln xs s s.heap) (hb : sb < s.heap.size) (hbA : ¬ A sb) {cl sl : Nat} (hcl : cl + 8 ≤ 601024) (hsl : sl + 64 ≤ 7293034) {i : Int32} {a b c a' b' c' : Mem} (hR : f_case_47 N Ln xs i a b c = some (a', b', c')) (kk : J G p l e ({ frames := 14, cells := 601024, slots := 7293034, locals := 524 } : Room) s m args below meth c9 A Q 9 (cl + 8) (sl + 64) 3067 [some (.ref sb), some (.ref (ad L 0)), some (.ref (ad L 96)), some (.ref (ad L 105)), some (.ref (ad L 106)), some (.int i), none, none, none] [] L (FW G L a' b' c')) : J G p l e ({ frames := 14, cells := 601024, slots := 7293034, locals := 524 } : Room) s m args below meth c9 A Q 9 cl sl 2803 [some (.ref sb), some (.ref (ad L 0)), some (.ref (ad L 96)), some (.ref (ad L 105)), some (.ref (ad L 106)), some (.int i), none, none, none] [] L (FW G L a b c) := by
  unfold f_case_47 at hR
  refine j_aload_n X (i := 1) dL_law_2803 rfl rfl ?_
  refine j_aload_n X (i := 0) dL_law_2804 rfl rfl ?_
  refine j_iload X dL_law_2805 rfl ?_
  refine j_iconst X (1) dL_law_2807 (by decide) ?_
  refine j_iadd X dL_law_2808 ?_
  obtain ⟨h1, hR⟩ := chkI_inv hR
  refine j_sld X hX hb hbA h1 dL_law_2809 ?_
  refine j_aload_n X (i := 3) dL_law_2810 rfl rfl ?_
  obtain ⟨x3, a4, c5, h2, hR⟩ := bP3_inv hR
  refine j_callSW (As := [.ref (ad L 0), .int (xs ((i + (1 : Int32))).toNatClampNeg), .ref (ad L 105)]) (rest := []) X (m_L_keep hl hL hL7  h2) ml_L_321 st_yL_keep in_L cd_yL_keep hy_yL_keep dL_law_2811 ⟨(by decide), (by decide)⟩ ⟨Nat.le_trans (Nat.add_le_add_left (by decide : 1 ≤ 8) _) hcl, Nat.le_trans (Nat.add_le_add_left (by decide : 6 ≤ 64) _) hsl⟩ (Nat.le_of_ble_eq_true rfl) (fun _ h => h.elim) (fun r9 L9 f9 h9 => ?_)
  obtain ⟨h91, h92, h93⟩ := h9
  subst r9
  subst f9
  subst L9
  dsimp only [Option.toList, List.cons_append, List.nil_append, List.append]
  refine j_istore X dL_law_2814 (by decide) (lvOK_s rfl okPrev_int) ?_
  dsimp only [List.set]
  refine j_aload_n X (i := 2) dL_law_2816 rfl rfl ?_
  refine j_aload_n X (i := 0) dL_law_2817 rfl rfl ?_
  refine j_iload X dL_law_2818 rfl ?_
  refine j_iconst X (1) dL_law_2820 (by decide) ?_
  refine j_iadd X dL_law_2821 ?_
  obtain ⟨h6, hR⟩ := chkI_inv hR
  refine j_sld X hX hb hbA h6 dL_law_2822 ?_
  obtain ⟨x8, b9, h7, hR⟩ := bP2_inv hR
  refine j_callV1 X 9 (m_X9_keep hl hL  h7) ml_L_323 im_yX9_keep se_yX9_keep in_X9 cd_yX9_keep hy_yX9_keep dL_law_2823 rfl (ad_mem hL (by decide)) (FW9 hL) ⟨(by decide), (by decide)⟩ ⟨Nat.le_trans (Nat.add_le_add_left (by decide : 1 ≤ 8) _) hcl, Nat.le_trans (Nat.add_le_add_left (by decide : 6 ≤ 64) _) hsl⟩ (Nat.le_of_ble_eq_true rfl) (fun _ h => h.elim) (fun r9 L9 f9 h9 => ?_)
  obtain ⟨h91, h92, h93⟩ := h9
  subst r9
  subst f9
  subst L9
  dsimp only [Option.toList, List.cons_append, List.nil_append, List.append]
  refine j_istore X dL_law_2826 (by decide) (lvOK_s rfl okPrev_int) ?_
  dsimp only [List.set]
  refine j_aload_n X (i := 2) dL_law_2828 rfl rfl ?_
  obtain ⟨x12, h11, hR⟩ := bT_inv hR
  refine j_callV0 X 9 (m_X9_thrown hl hL  h11) ml_L_162 im_yX9_thrown se_yX9_thrown in_X9 cd_yX9_thrown hy_yX9_thrown dL_law_2829 rfl (ad_mem hL (by decide)) (FW9 hL) ⟨(by decide), (by decide)⟩ ⟨Nat.le_trans (Nat.add_le_add_left (by decide : 1 ≤ 8) _) hcl, Nat.le_trans (Nat.add_le_add_left (by decide : 6 ≤ 64) _) hsl⟩ (Nat.le_of_ble_eq_true rfl) (fun _ h => h.elim) (fun r9 L9 f9 h9 => ?_)
  obtain ⟨h91, h92, h93⟩ := h9
  subst r9
  subst f9
  subst L9
  dsimp only [Option.toList, List.cons_append, List.nil_append, List.append]
  refine j_iload X dL_law_2832 rfl ?_
  refine j_icmp_eq X (tgt := 2839) dL_law_2834 (by decide) (fun h14 => ?_) (fun h14 => ?_)
  · replace hR := (if_pos h14).symm.trans hR
    refine j_iload X dL_law_2839 rfl ?_
    refine j_if_ne X (tgt := 2856) dL_law_2841 (by decide) (fun h15 => ?_) (fun h15 => ?_)
    · replace hR := (if_neg h15).symm.trans hR
      refine j_goto X (tgt := 3067) dL_law_2856 (by decide) ?_
      have h9 := Option.some.inj hR
      rw [← (Prod.mk.inj h9).1, ← (Prod.mk.inj (Prod.mk.inj h9).2).1, ← (Prod.mk.inj (Prod.mk.inj h9).2).2] at kk
      exact J.widen (c1 := cl + 8) (s1 := sl + 64) (by omega) (by omega) (J.sub (lvle_of (by simp only [lvle, and_self])) kk)
    · replace hR := (if_pos h15).symm.trans hR
      refine j_aload_n X (i := 3) dL_law_2844 rfl rfl ?_
      refine j_iconst X (0) dL_law_2845 (by decide) ?_
      refine j_lald105 X hL hL7 dL_law_2846 ?_
      refine j_iload X dL_law_2847 rfl ?_
      refine j_i2l X dL_law_2849 ?_
      refine j_lcmp X dL_law_2850 ?_
      refine j_if_eq X (tgt := 2856) dL_law_2851 (by decide) (fun h16 => ?_) (fun h16 => ?_)
      · replace hR := (if_pos h16).symm.trans hR
        refine j_goto X (tgt := 3067) dL_law_2856 (by decide) ?_
        have h9 := Option.some.inj hR
        rw [← (Prod.mk.inj h9).1, ← (Prod.mk.inj (Prod.mk.inj h9).2).1, ← (Prod.mk.inj (Prod.mk.inj h9).2).2] at kk
        exact J.widen (c1 := cl + 8) (s1 := sl + 64) (by omega) (by omega) (J.sub (lvle_of (by simp only [lvle, and_self])) kk)
      · replace hR := (if_neg h16).symm.trans hR
        refine j_iconst X (0) dL_law_2854 (by decide) ?_
        cases hR
  · replace hR := (if_neg h14).symm.trans hR
    refine j_iconst X (0) dL_law_2837 (by decide) ?_
    cases hR
def f_case_48 (N Ln : Nat) (xs : Nat → Int32) (i : Int32) (a b c : Mem) : Option (Mem × Mem × Mem) := chkI (i + (1 : Int32)) Ln <| bP3 (f_L_restore (xs ((i + (1 : Int32))).toNatClampNeg) a c) fun x3 a4 c5 => chkI (i + (1 : Int32)) Ln <| bP2 (f_X9_restore N (xs ((i + (1 : Int32))).toNatClampNeg) b) fun x8 b9 => bT (f_X9_thrown  b9) fun x12 => if x12 = x3 then (if x3 = 0 then (if (lg_cmp (Int32.toInt64 (c5 0 0)) (Int32.toInt64 x8)) = 0 then (some (a4, b9, c5)) else (none)) else (some (a4, b9, c5))) else (none)
set_option maxRecDepth 100000 in
set_option maxHeartbeats 4000000 in
theorem m_case_48 (X : Cx G p l s m args meth c9 A RL cL_law 9 ret9 tb) (hl : l.stackTraces = false) (hL : LOK L) (hL7 : L.length = 107) {N Ln sb : Nat} {xs : Nat → Int32} (hX : va_X sb Ln xs s s.heap) (hb : sb < s.heap.size) (hbA : ¬ A sb) {cl sl : Nat} (hcl : cl + 8 ≤ 601024) (hsl : sl + 64 ≤ 7293034) {i : Int32} {a b c a' b' c' : Mem} (hR : f_case_48 N Ln xs i a b c = some (a', b', c')) (kk : J G p l e ({ frames := 14, cells := 601024, slots := 7293034, locals := 524 } : Room) s m args below meth c9 A Q 9 (cl + 8) (sl + 64) 3067 [some (.ref sb), some (.ref (ad L 0)), some (.ref (ad L 96)), some (.ref (ad L 105)), some (.ref (ad L 106)), some (.int i), none, none, none] [] L (FW G L a' b' c')) : J G p l e ({ frames := 14, cells := 601024, slots := 7293034, locals := 524 } : Room) s m args below meth c9 A Q 9 cl sl 2859 [some (.ref sb), some (.ref (ad L 0)), some (.ref (ad L 96)), some (.ref (ad L 105)), some (.ref (ad L 106)), some (.int i), none, none, none] [] L (FW G L a b c) := by
  unfold f_case_48 at hR
  refine j_aload_n X (i := 1) dL_law_2859 rfl rfl ?_
  refine j_aload_n X (i := 0) dL_law_2860 rfl rfl ?_
  refine j_iload X dL_law_2861 rfl ?_
  refine j_iconst X (1) dL_law_2863 (by decide) ?_
  refine j_iadd X dL_law_2864 ?_
  obtain ⟨h1, hR⟩ := chkI_inv hR
  refine j_sld X hX hb hbA h1 dL_law_2865 ?_
  refine j_aload_n X (i := 3) dL_law_2866 rfl rfl ?_
  obtain ⟨x3, a4, c5, h2, hR⟩ := bP3_inv hR
  refine j_callSW (As := [.ref (ad L 0), .int (xs ((i + (1 : Int32))).toNatClampNeg), .ref (ad L 105)]) (rest := []) X (m_L_restore hl hL hL7  h2) ml_L_324 st_yL_restore in_L cd_yL_restore hy_yL_restore dL_law_2867 ⟨(by decide), (by decide)⟩ ⟨Nat.le_trans (Nat.add_le_add_left (by decide : 2 ≤ 8) _) hcl, Nat.le_trans (Nat.add_le_add_left (by decide : 12 ≤ 64) _) hsl⟩ (Nat.le_of_ble_eq_true rfl) (fun _ h => h.elim) (fun r9 L9 f9 h9 => ?_)
  obtain ⟨h91, h92, h93⟩ := h9
  subst r9
  subst f9
  subst L9
  dsimp only [Option.toList, List.cons_append, List.nil_append, List.append]
  refine j_istore X dL_law_2870 (by decide) (lvOK_s rfl okPrev_int) ?_
  dsimp only [List.set]
  refine j_aload_n X (i := 2) dL_law_2872 rfl rfl ?_
  refine j_aload_n X (i := 0) dL_law_2873 rfl rfl ?_
  refine j_iload X dL_law_2874 rfl ?_
  refine j_iconst X (1) dL_law_2876 (by decide) ?_
  refine j_iadd X dL_law_2877 ?_
  obtain ⟨h6, hR⟩ := chkI_inv hR
  refine j_sld X hX hb hbA h6 dL_law_2878 ?_
  obtain ⟨x8, b9, h7, hR⟩ := bP2_inv hR
  refine j_callV1 X 9 (m_X9_restore hl hL  h7) ml_L_326 im_yX9_restore se_yX9_restore in_X9 cd_yX9_restore hy_yX9_restore dL_law_2879 rfl (ad_mem hL (by decide)) (FW9 hL) ⟨(by decide), (by decide)⟩ ⟨Nat.le_trans (Nat.add_le_add_left (by decide : 2 ≤ 8) _) hcl, Nat.le_trans (Nat.add_le_add_left (by decide : 12 ≤ 64) _) hsl⟩ (Nat.le_of_ble_eq_true rfl) (fun _ h => h.elim) (fun r9 L9 f9 h9 => ?_)
  obtain ⟨h91, h92, h93⟩ := h9
  subst r9
  subst f9
  subst L9
  dsimp only [Option.toList, List.cons_append, List.nil_append, List.append]
  refine j_istore X dL_law_2882 (by decide) (lvOK_s rfl okPrev_int) ?_
  dsimp only [List.set]
  refine j_aload_n X (i := 2) dL_law_2884 rfl rfl ?_
  obtain ⟨x12, h11, hR⟩ := bT_inv hR
  refine j_callV0 X 9 (m_X9_thrown hl hL  h11) ml_L_162 im_yX9_thrown se_yX9_thrown in_X9 cd_yX9_thrown hy_yX9_thrown dL_law_2885 rfl (ad_mem hL (by decide)) (FW9 hL) ⟨(by decide), (by decide)⟩ ⟨Nat.le_trans (Nat.add_le_add_left (by decide : 2 ≤ 8) _) hcl, Nat.le_trans (Nat.add_le_add_left (by decide : 12 ≤ 64) _) hsl⟩ (Nat.le_of_ble_eq_true rfl) (fun _ h => h.elim) (fun r9 L9 f9 h9 => ?_)
  obtain ⟨h91, h92, h93⟩ := h9
  subst r9
  subst f9
  subst L9
  dsimp only [Option.toList, List.cons_append, List.nil_append, List.append]
  refine j_iload X dL_law_2888 rfl ?_
  refine j_icmp_eq X (tgt := 2895) dL_law_2890 (by decide) (fun h14 => ?_) (fun h14 => ?_)
  · replace hR := (if_pos h14).symm.trans hR
    refine j_iload X dL_law_2895 rfl ?_
    refine j_if_ne X (tgt := 2912) dL_law_2897 (by decide) (fun h15 => ?_) (fun h15 => ?_)
    · replace hR := (if_neg h15).symm.trans hR
      refine j_goto X (tgt := 3067) dL_law_2912 (by decide) ?_
      have h9 := Option.some.inj hR
      rw [← (Prod.mk.inj h9).1, ← (Prod.mk.inj (Prod.mk.inj h9).2).1, ← (Prod.mk.inj (Prod.mk.inj h9).2).2] at kk
      exact J.widen (c1 := cl + 8) (s1 := sl + 64) (by omega) (by omega) (J.sub (lvle_of (by simp only [lvle, and_self])) kk)
    · replace hR := (if_pos h15).symm.trans hR
      refine j_aload_n X (i := 3) dL_law_2900 rfl rfl ?_
      refine j_iconst X (0) dL_law_2901 (by decide) ?_
      refine j_lald105 X hL hL7 dL_law_2902 ?_
      refine j_iload X dL_law_2903 rfl ?_
      refine j_i2l X dL_law_2905 ?_
      refine j_lcmp X dL_law_2906 ?_
      refine j_if_eq X (tgt := 2912) dL_law_2907 (by decide) (fun h16 => ?_) (fun h16 => ?_)
      · replace hR := (if_pos h16).symm.trans hR
        refine j_goto X (tgt := 3067) dL_law_2912 (by decide) ?_
        have h9 := Option.some.inj hR
        rw [← (Prod.mk.inj h9).1, ← (Prod.mk.inj (Prod.mk.inj h9).2).1, ← (Prod.mk.inj (Prod.mk.inj h9).2).2] at kk
        exact J.widen (c1 := cl + 8) (s1 := sl + 64) (by omega) (by omega) (J.sub (lvle_of (by simp only [lvle, and_self])) kk)
      · replace hR := (if_neg h16).symm.trans hR
        refine j_iconst X (0) dL_law_2910 (by decide) ?_
        cases hR
  · replace hR := (if_neg h14).symm.trans hR
    refine j_iconst X (0) dL_law_2893 (by decide) ?_
    cases hR
def f_case_49 (N Ln : Nat) (xs : Nat → Int32) (i : Int32) (a b c : Mem) : Option (Mem × Mem × Mem) := bP3 (f_L_undo  a c) fun x2 a3 c4 => bP2 (f_X9_undo N  b) fun x6 b7 => bT (f_X9_thrown  b7) fun x10 => if x10 = x2 then (if x2 = 0 then (if (lg_cmp (Int32.toInt64 (c4 0 0)) (Int32.toInt64 x6)) = 0 then (some (a3, b7, c4)) else (none)) else (some (a3, b7, c4))) else (none)
set_option maxRecDepth 100000 in
set_option maxHeartbeats 4000000 in
theorem m_case_49 (X : Cx G p l s m args meth c9 A RL cL_law 9 ret9 tb) (hl : l.stackTraces = false) (hL : LOK L) (hL7 : L.length = 107) {N Ln sb : Nat} {xs : Nat → Int32} (hX : va_X sb Ln xs s s.heap) (hb : sb < s.heap.size) (hbA : ¬ A sb) {cl sl : Nat} (hcl : cl + 8 ≤ 601024) (hsl : sl + 64 ≤ 7293034) {i : Int32} {a b c a' b' c' : Mem} (hR : f_case_49 N Ln xs i a b c = some (a', b', c')) (kk : J G p l e ({ frames := 14, cells := 601024, slots := 7293034, locals := 524 } : Room) s m args below meth c9 A Q 9 (cl + 8) (sl + 64) 3067 [some (.ref sb), some (.ref (ad L 0)), some (.ref (ad L 96)), some (.ref (ad L 105)), some (.ref (ad L 106)), some (.int i), none, none, none] [] L (FW G L a' b' c')) : J G p l e ({ frames := 14, cells := 601024, slots := 7293034, locals := 524 } : Room) s m args below meth c9 A Q 9 cl sl 2915 [some (.ref sb), some (.ref (ad L 0)), some (.ref (ad L 96)), some (.ref (ad L 105)), some (.ref (ad L 106)), some (.int i), none, none, none] [] L (FW G L a b c) := by
  unfold f_case_49 at hR
  refine j_aload_n X (i := 1) dL_law_2915 rfl rfl ?_
  refine j_aload_n X (i := 3) dL_law_2916 rfl rfl ?_
  obtain ⟨x2, a3, c4, h1, hR⟩ := bP3_inv hR
  refine j_callSW (As := [.ref (ad L 0), .ref (ad L 105)]) (rest := []) X (m_L_undo hl hL hL7  h1) ml_L_327 st_yL_undo in_L cd_yL_undo hy_yL_undo dL_law_2917 ⟨(by decide), (by decide)⟩ ⟨Nat.le_trans (Nat.add_le_add_left (by decide : 1 ≤ 8) _) hcl, Nat.le_trans (Nat.add_le_add_left (by decide : 6 ≤ 64) _) hsl⟩ (Nat.le_of_ble_eq_true rfl) (fun _ h => h.elim) (fun r9 L9 f9 h9 => ?_)
  obtain ⟨h91, h92, h93⟩ := h9
  subst r9
  subst f9
  subst L9
  dsimp only [Option.toList, List.cons_append, List.nil_append, List.append]
  refine j_istore X dL_law_2920 (by decide) (lvOK_s rfl okPrev_int) ?_
  dsimp only [List.set]
  refine j_aload_n X (i := 2) dL_law_2922 rfl rfl ?_
  obtain ⟨x6, b7, h5, hR⟩ := bP2_inv hR
  refine j_callV0 X 9 (m_X9_undo hl hL  h5) ml_L_329 im_yX9_undo se_yX9_undo in_X9 cd_yX9_undo hy_yX9_undo dL_law_2923 rfl (ad_mem hL (by decide)) (FW9 hL) ⟨(by decide), (by decide)⟩ ⟨Nat.le_trans (Nat.add_le_add_left (by decide : 1 ≤ 8) _) hcl, Nat.le_trans (Nat.add_le_add_left (by decide : 6 ≤ 64) _) hsl⟩ (Nat.le_of_ble_eq_true rfl) (fun _ h => h.elim) (fun r9 L9 f9 h9 => ?_)
  obtain ⟨h91, h92, h93⟩ := h9
  subst r9
  subst f9
  subst L9
  dsimp only [Option.toList, List.cons_append, List.nil_append, List.append]
  refine j_istore X dL_law_2926 (by decide) (lvOK_s rfl okPrev_int) ?_
  dsimp only [List.set]
  refine j_aload_n X (i := 2) dL_law_2928 rfl rfl ?_
  obtain ⟨x10, h9, hR⟩ := bT_inv hR
  refine j_callV0 X 9 (m_X9_thrown hl hL  h9) ml_L_162 im_yX9_thrown se_yX9_thrown in_X9 cd_yX9_thrown hy_yX9_thrown dL_law_2929 rfl (ad_mem hL (by decide)) (FW9 hL) ⟨(by decide), (by decide)⟩ ⟨Nat.le_trans (Nat.add_le_add_left (by decide : 1 ≤ 8) _) hcl, Nat.le_trans (Nat.add_le_add_left (by decide : 6 ≤ 64) _) hsl⟩ (Nat.le_of_ble_eq_true rfl) (fun _ h => h.elim) (fun r9 L9 f9 h9 => ?_)
  obtain ⟨h91, h92, h93⟩ := h9
  subst r9
  subst f9
  subst L9
  dsimp only [Option.toList, List.cons_append, List.nil_append, List.append]
  refine j_iload X dL_law_2932 rfl ?_
  refine j_icmp_eq X (tgt := 2939) dL_law_2934 (by decide) (fun h12 => ?_) (fun h12 => ?_)
  · replace hR := (if_pos h12).symm.trans hR
    refine j_iload X dL_law_2939 rfl ?_
    refine j_if_ne X (tgt := 2956) dL_law_2941 (by decide) (fun h13 => ?_) (fun h13 => ?_)
    · replace hR := (if_neg h13).symm.trans hR
      refine j_goto X (tgt := 3067) dL_law_2956 (by decide) ?_
      have h9 := Option.some.inj hR
      rw [← (Prod.mk.inj h9).1, ← (Prod.mk.inj (Prod.mk.inj h9).2).1, ← (Prod.mk.inj (Prod.mk.inj h9).2).2] at kk
      exact J.widen (c1 := cl + 8) (s1 := sl + 64) (by omega) (by omega) (J.sub (lvle_of (by simp only [lvle, and_self])) kk)
    · replace hR := (if_pos h13).symm.trans hR
      refine j_aload_n X (i := 3) dL_law_2944 rfl rfl ?_
      refine j_iconst X (0) dL_law_2945 (by decide) ?_
      refine j_lald105 X hL hL7 dL_law_2946 ?_
      refine j_iload X dL_law_2947 rfl ?_
      refine j_i2l X dL_law_2949 ?_
      refine j_lcmp X dL_law_2950 ?_
      refine j_if_eq X (tgt := 2956) dL_law_2951 (by decide) (fun h14 => ?_) (fun h14 => ?_)
      · replace hR := (if_pos h14).symm.trans hR
        refine j_goto X (tgt := 3067) dL_law_2956 (by decide) ?_
        have h9 := Option.some.inj hR
        rw [← (Prod.mk.inj h9).1, ← (Prod.mk.inj (Prod.mk.inj h9).2).1, ← (Prod.mk.inj (Prod.mk.inj h9).2).2] at kk
        exact J.widen (c1 := cl + 8) (s1 := sl + 64) (by omega) (by omega) (J.sub (lvle_of (by simp only [lvle, and_self])) kk)
      · replace hR := (if_neg h14).symm.trans hR
        refine j_iconst X (0) dL_law_2954 (by decide) ?_
        cases hR
  · replace hR := (if_neg h12).symm.trans hR
    refine j_iconst X (0) dL_law_2937 (by decide) ?_
    cases hR
def f_case_50 (N Ln : Nat) (xs : Nat → Int32) (i : Int32) (a b c : Mem) : Option (Mem × Mem × Mem) := bT (f_X8_undoCount  a) fun x2 => bT2 (f_X9_undoCount  b) fun x5 b6 => if x2 = x5 then (some (a, b6, c)) else (none)
set_option maxRecDepth 100000 in
set_option maxHeartbeats 4000000 in
theorem m_case_50 (X : Cx G p l s m args meth c9 A RL cL_law 9 ret9 tb) (hl : l.stackTraces = false) (hL : LOK L) (hL7 : L.length = 107) {N Ln sb : Nat} {xs : Nat → Int32} (hX : va_X sb Ln xs s s.heap) (hb : sb < s.heap.size) (hbA : ¬ A sb) {cl sl : Nat} (hcl : cl + 8 ≤ 601024) (hsl : sl + 64 ≤ 7293034) {i : Int32} {a b c a' b' c' : Mem} (hR : f_case_50 N Ln xs i a b c = some (a', b', c')) (kk : J G p l e ({ frames := 14, cells := 601024, slots := 7293034, locals := 524 } : Room) s m args below meth c9 A Q 9 (cl + 8) (sl + 64) 3067 [some (.ref sb), some (.ref (ad L 0)), some (.ref (ad L 96)), some (.ref (ad L 105)), some (.ref (ad L 106)), some (.int i), none, none, none] [] L (FW G L a' b' c')) : J G p l e ({ frames := 14, cells := 601024, slots := 7293034, locals := 524 } : Room) s m args below meth c9 A Q 9 cl sl 2959 [some (.ref sb), some (.ref (ad L 0)), some (.ref (ad L 96)), some (.ref (ad L 105)), some (.ref (ad L 106)), some (.int i), none, none, none] [] L (FW G L a b c) := by
  unfold f_case_50 at hR
  refine j_aload_n X (i := 1) dL_law_2959 rfl rfl ?_
  obtain ⟨x2, h1, hR⟩ := bT_inv hR
  refine j_callV0 X 8 (m_X8_undoCount hl hL  h1) ml_L_330 im_yX8_undoCount se_yX8_undoCount in_X8 cd_yX8_undoCount hy_yX8_undoCount dL_law_2960 rfl (inL hL t_0 (by decide)) (FW8 hL t_0) ⟨(by decide), (by decide)⟩ ⟨Nat.le_trans (Nat.add_le_add_left (by decide : 0 ≤ 8) _) hcl, Nat.le_trans (Nat.add_le_add_left (by decide : 0 ≤ 64) _) hsl⟩ (Nat.le_of_ble_eq_true rfl) (fun _ h => h.elim) (fun r9 L9 f9 h9 => ?_)
  obtain ⟨h91, h92, h93⟩ := h9
  subst r9
  subst f9
  subst L9
  dsimp only [Option.toList, List.cons_append, List.nil_append, List.append]
  refine j_aload_n X (i := 2) dL_law_2963 rfl rfl ?_
  obtain ⟨x5, b6, h4, hR⟩ := bT2_inv hR
  refine j_callV0 X 9 (m_X9_undoCount hl hL  h4) ml_L_333 im_yX9_undoCount se_yX9_undoCount in_X9 cd_yX9_undoCount hy_yX9_undoCount dL_law_2964 rfl (ad_mem hL (by decide)) (FW9 hL) ⟨(by decide), (by decide)⟩ ⟨Nat.le_trans (Nat.add_le_add_left (by decide : 0 ≤ 8) _) hcl, Nat.le_trans (Nat.add_le_add_left (by decide : 0 ≤ 64) _) hsl⟩ (Nat.le_of_ble_eq_true rfl) (fun _ h => h.elim) (fun r9 L9 f9 h9 => ?_)
  obtain ⟨h91, h92, h93⟩ := h9
  subst r9
  subst f9
  subst L9
  dsimp only [Option.toList, List.cons_append, List.nil_append, List.append]
  refine j_icmp_eq X (tgt := 3067) dL_law_2967 (by decide) (fun h8 => ?_) (fun h8 => ?_)
  · replace hR := (if_pos h8).symm.trans hR
    have h9 := Option.some.inj hR
    rw [← (Prod.mk.inj h9).1, ← (Prod.mk.inj (Prod.mk.inj h9).2).1, ← (Prod.mk.inj (Prod.mk.inj h9).2).2] at kk
    exact J.widen (c1 := cl + 8) (s1 := sl + 64) (by omega) (by omega) (J.sub (lvle_of (by simp only [lvle, and_self])) kk)
  · replace hR := (if_neg h8).symm.trans hR
    refine j_iconst X (0) dL_law_2970 (by decide) ?_
    cases hR
def f_case_51 (N Ln : Nat) (xs : Nat → Int32) (i : Int32) (a b c : Mem) : Option (Mem × Mem × Mem) := bP2 (f_X8_writeClock N  a) fun x2 a3 => bP2 (f_X9_writeClock N  b) fun x6 b7 => if x2 = x6 then (some (a3, b7, c)) else (none)
set_option maxRecDepth 100000 in
set_option maxHeartbeats 4000000 in
theorem m_case_51 (X : Cx G p l s m args meth c9 A RL cL_law 9 ret9 tb) (hl : l.stackTraces = false) (hL : LOK L) (hL7 : L.length = 107) {N Ln sb : Nat} {xs : Nat → Int32} (hX : va_X sb Ln xs s s.heap) (hb : sb < s.heap.size) (hbA : ¬ A sb) {cl sl : Nat} (hcl : cl + 8 ≤ 601024) (hsl : sl + 64 ≤ 7293034) {i : Int32} {a b c a' b' c' : Mem} (hR : f_case_51 N Ln xs i a b c = some (a', b', c')) (kk : J G p l e ({ frames := 14, cells := 601024, slots := 7293034, locals := 524 } : Room) s m args below meth c9 A Q 9 (cl + 8) (sl + 64) 3067 [some (.ref sb), some (.ref (ad L 0)), some (.ref (ad L 96)), some (.ref (ad L 105)), some (.ref (ad L 106)), some (.int i), none, none, none] [] L (FW G L a' b' c')) : J G p l e ({ frames := 14, cells := 601024, slots := 7293034, locals := 524 } : Room) s m args below meth c9 A Q 9 cl sl 2972 [some (.ref sb), some (.ref (ad L 0)), some (.ref (ad L 96)), some (.ref (ad L 105)), some (.ref (ad L 106)), some (.int i), none, none, none] [] L (FW G L a b c) := by
  unfold f_case_51 at hR
  refine j_aload_n X (i := 1) dL_law_2972 rfl rfl ?_
  obtain ⟨x2, a3, h1, hR⟩ := bP2_inv hR
  refine j_callV0 X 8 (m_X8_writeClock hl hL  h1) ml_L_334 im_yX8_writeClock se_yX8_writeClock in_X8 cd_yX8_writeClock hy_yX8_writeClock dL_law_2973 rfl (inL hL t_0 (by decide)) (FW8 hL t_0) ⟨(by decide), (by decide)⟩ ⟨Nat.le_trans (Nat.add_le_add_left (by decide : 0 ≤ 8) _) hcl, Nat.le_trans (Nat.add_le_add_left (by decide : 0 ≤ 64) _) hsl⟩ (Nat.le_of_ble_eq_true rfl) (fun _ h => h.elim) (fun r9 L9 f9 h9 => ?_)
  obtain ⟨h91, h92, h93⟩ := h9
  subst r9
  subst f9
  subst L9
  dsimp only [Option.toList, List.cons_append, List.nil_append, List.append]
  refine j_aload_n X (i := 2) dL_law_2976 rfl rfl ?_
  obtain ⟨x6, b7, h5, hR⟩ := bP2_inv hR
  refine j_callV0 X 9 (m_X9_writeClock hl hL  h5) ml_L_337 im_yX9_writeClock se_yX9_writeClock in_X9 cd_yX9_writeClock hy_yX9_writeClock dL_law_2977 rfl (ad_mem hL (by decide)) (FW9 hL) ⟨(by decide), (by decide)⟩ ⟨Nat.le_trans (Nat.add_le_add_left (by decide : 0 ≤ 8) _) hcl, Nat.le_trans (Nat.add_le_add_left (by decide : 0 ≤ 64) _) hsl⟩ (Nat.le_of_ble_eq_true rfl) (fun _ h => h.elim) (fun r9 L9 f9 h9 => ?_)
  obtain ⟨h91, h92, h93⟩ := h9
  subst r9
  subst f9
  subst L9
  dsimp only [Option.toList, List.cons_append, List.nil_append, List.append]
  refine j_icmp_eq X (tgt := 3067) dL_law_2980 (by decide) (fun h9 => ?_) (fun h9 => ?_)
  · replace hR := (if_pos h9).symm.trans hR
    have h9 := Option.some.inj hR
    rw [← (Prod.mk.inj h9).1, ← (Prod.mk.inj (Prod.mk.inj h9).2).1, ← (Prod.mk.inj (Prod.mk.inj h9).2).2] at kk
    exact J.widen (c1 := cl + 8) (s1 := sl + 64) (by omega) (by omega) (J.sub (lvle_of (by simp only [lvle, and_self])) kk)
  · replace hR := (if_neg h9).symm.trans hR
    refine j_iconst X (0) dL_law_2983 (by decide) ?_
    cases hR
def f_case_52 (N Ln : Nat) (xs : Nat → Int32) (i : Int32) (a b c : Mem) : Option (Mem × Mem × Mem) := bP2 (f_X8_writeLog N  a) fun x2 a3 => bP2 (f_X9_writeLog N  b) fun x6 b7 => if x2 = x6 then (some (a3, b7, c)) else (none)
set_option maxRecDepth 100000 in
set_option maxHeartbeats 4000000 in
theorem m_case_52 (X : Cx G p l s m args meth c9 A RL cL_law 9 ret9 tb) (hl : l.stackTraces = false) (hL : LOK L) (hL7 : L.length = 107) {N Ln sb : Nat} {xs : Nat → Int32} (hX : va_X sb Ln xs s s.heap) (hb : sb < s.heap.size) (hbA : ¬ A sb) {cl sl : Nat} (hcl : cl + 8 ≤ 601024) (hsl : sl + 64 ≤ 7293034) {i : Int32} {a b c a' b' c' : Mem} (hR : f_case_52 N Ln xs i a b c = some (a', b', c')) (kk : J G p l e ({ frames := 14, cells := 601024, slots := 7293034, locals := 524 } : Room) s m args below meth c9 A Q 9 (cl + 8) (sl + 64) 3067 [some (.ref sb), some (.ref (ad L 0)), some (.ref (ad L 96)), some (.ref (ad L 105)), some (.ref (ad L 106)), some (.int i), none, none, none] [] L (FW G L a' b' c')) : J G p l e ({ frames := 14, cells := 601024, slots := 7293034, locals := 524 } : Room) s m args below meth c9 A Q 9 cl sl 2985 [some (.ref sb), some (.ref (ad L 0)), some (.ref (ad L 96)), some (.ref (ad L 105)), some (.ref (ad L 106)), some (.int i), none, none, none] [] L (FW G L a b c) := by
  unfold f_case_52 at hR
  refine j_aload_n X (i := 1) dL_law_2985 rfl rfl ?_
  obtain ⟨x2, a3, h1, hR⟩ := bP2_inv hR
  refine j_callV0 X 8 (m_X8_writeLog hl hL  h1) ml_L_338 im_yX8_writeLog se_yX8_writeLog in_X8 cd_yX8_writeLog hy_yX8_writeLog dL_law_2986 rfl (inL hL t_0 (by decide)) (FW8 hL t_0) ⟨(by decide), (by decide)⟩ ⟨Nat.le_trans (Nat.add_le_add_left (by decide : 0 ≤ 8) _) hcl, Nat.le_trans (Nat.add_le_add_left (by decide : 0 ≤ 64) _) hsl⟩ (Nat.le_of_ble_eq_true rfl) (fun _ h => h.elim) (fun r9 L9 f9 h9 => ?_)
  obtain ⟨h91, h92, h93⟩ := h9
  subst r9
  subst f9
  subst L9
  dsimp only [Option.toList, List.cons_append, List.nil_append, List.append]
  refine j_aload_n X (i := 2) dL_law_2989 rfl rfl ?_
  obtain ⟨x6, b7, h5, hR⟩ := bP2_inv hR
  refine j_callV0 X 9 (m_X9_writeLog hl hL  h5) ml_L_341 im_yX9_writeLog se_yX9_writeLog in_X9 cd_yX9_writeLog hy_yX9_writeLog dL_law_2990 rfl (ad_mem hL (by decide)) (FW9 hL) ⟨(by decide), (by decide)⟩ ⟨Nat.le_trans (Nat.add_le_add_left (by decide : 0 ≤ 8) _) hcl, Nat.le_trans (Nat.add_le_add_left (by decide : 0 ≤ 64) _) hsl⟩ (Nat.le_of_ble_eq_true rfl) (fun _ h => h.elim) (fun r9 L9 f9 h9 => ?_)
  obtain ⟨h91, h92, h93⟩ := h9
  subst r9
  subst f9
  subst L9
  dsimp only [Option.toList, List.cons_append, List.nil_append, List.append]
  refine j_icmp_eq X (tgt := 3067) dL_law_2993 (by decide) (fun h9 => ?_) (fun h9 => ?_)
  · replace hR := (if_pos h9).symm.trans hR
    have h9 := Option.some.inj hR
    rw [← (Prod.mk.inj h9).1, ← (Prod.mk.inj (Prod.mk.inj h9).2).1, ← (Prod.mk.inj (Prod.mk.inj h9).2).2] at kk
    exact J.widen (c1 := cl + 8) (s1 := sl + 64) (by omega) (by omega) (J.sub (lvle_of (by simp only [lvle, and_self])) kk)
  · replace hR := (if_neg h9).symm.trans hR
    refine j_iconst X (0) dL_law_2996 (by decide) ?_
    cases hR
def f_case_53 (N Ln : Nat) (xs : Nat → Int32) (i : Int32) (a b c : Mem) : Option (Mem × Mem × Mem) := bP2 (f_X8_writePeriods N  a) fun x2 a3 => bP2 (f_X9_writePeriods N  b) fun x6 b7 => if x2 = x6 then (some (a3, b7, c)) else (none)
set_option maxRecDepth 100000 in
set_option maxHeartbeats 4000000 in
theorem m_case_53 (X : Cx G p l s m args meth c9 A RL cL_law 9 ret9 tb) (hl : l.stackTraces = false) (hL : LOK L) (hL7 : L.length = 107) {N Ln sb : Nat} {xs : Nat → Int32} (hX : va_X sb Ln xs s s.heap) (hb : sb < s.heap.size) (hbA : ¬ A sb) {cl sl : Nat} (hcl : cl + 8 ≤ 601024) (hsl : sl + 64 ≤ 7293034) {i : Int32} {a b c a' b' c' : Mem} (hR : f_case_53 N Ln xs i a b c = some (a', b', c')) (kk : J G p l e ({ frames := 14, cells := 601024, slots := 7293034, locals := 524 } : Room) s m args below meth c9 A Q 9 (cl + 8) (sl + 64) 3067 [some (.ref sb), some (.ref (ad L 0)), some (.ref (ad L 96)), some (.ref (ad L 105)), some (.ref (ad L 106)), some (.int i), none, none, none] [] L (FW G L a' b' c')) : J G p l e ({ frames := 14, cells := 601024, slots := 7293034, locals := 524 } : Room) s m args below meth c9 A Q 9 cl sl 2998 [some (.ref sb), some (.ref (ad L 0)), some (.ref (ad L 96)), some (.ref (ad L 105)), some (.ref (ad L 106)), some (.int i), none, none, none] [] L (FW G L a b c) := by
  unfold f_case_53 at hR
  refine j_aload_n X (i := 1) dL_law_2998 rfl rfl ?_
  obtain ⟨x2, a3, h1, hR⟩ := bP2_inv hR
  refine j_callV0 X 8 (m_X8_writePeriods hl hL  h1) ml_L_342 im_yX8_writePeriods se_yX8_writePeriods in_X8 cd_yX8_writePeriods hy_yX8_writePeriods dL_law_2999 rfl (inL hL t_0 (by decide)) (FW8 hL t_0) ⟨(by decide), (by decide)⟩ ⟨Nat.le_trans (Nat.add_le_add_left (by decide : 0 ≤ 8) _) hcl, Nat.le_trans (Nat.add_le_add_left (by decide : 0 ≤ 64) _) hsl⟩ (Nat.le_of_ble_eq_true rfl) (fun _ h => h.elim) (fun r9 L9 f9 h9 => ?_)
  obtain ⟨h91, h92, h93⟩ := h9
  subst r9
  subst f9
  subst L9
  dsimp only [Option.toList, List.cons_append, List.nil_append, List.append]
  refine j_aload_n X (i := 2) dL_law_3002 rfl rfl ?_
  obtain ⟨x6, b7, h5, hR⟩ := bP2_inv hR
  refine j_callV0 X 9 (m_X9_writePeriods hl hL  h5) ml_L_345 im_yX9_writePeriods se_yX9_writePeriods in_X9 cd_yX9_writePeriods hy_yX9_writePeriods dL_law_3003 rfl (ad_mem hL (by decide)) (FW9 hL) ⟨(by decide), (by decide)⟩ ⟨Nat.le_trans (Nat.add_le_add_left (by decide : 0 ≤ 8) _) hcl, Nat.le_trans (Nat.add_le_add_left (by decide : 0 ≤ 64) _) hsl⟩ (Nat.le_of_ble_eq_true rfl) (fun _ h => h.elim) (fun r9 L9 f9 h9 => ?_)
  obtain ⟨h91, h92, h93⟩ := h9
  subst r9
  subst f9
  subst L9
  dsimp only [Option.toList, List.cons_append, List.nil_append, List.append]
  refine j_icmp_eq X (tgt := 3067) dL_law_3006 (by decide) (fun h9 => ?_) (fun h9 => ?_)
  · replace hR := (if_pos h9).symm.trans hR
    have h9 := Option.some.inj hR
    rw [← (Prod.mk.inj h9).1, ← (Prod.mk.inj (Prod.mk.inj h9).2).1, ← (Prod.mk.inj (Prod.mk.inj h9).2).2] at kk
    exact J.widen (c1 := cl + 8) (s1 := sl + 64) (by omega) (by omega) (J.sub (lvle_of (by simp only [lvle, and_self])) kk)
  · replace hR := (if_neg h9).symm.trans hR
    refine j_iconst X (0) dL_law_3009 (by decide) ?_
    cases hR
end JROWS
