/-! the builder: making, appending, its text -/
def txB (i : Nat) : List Nat := (sBy i).map Char.toNat
theorem txB_len (i : Nat) : (txB i).length = strLn i := List.length_map _
theorem txB_get {i j : Nat} (h : j < strLn i) : nI ((txB i).getD j 0) = strCh i j := by
  unfold txB strCh
  have h2 : j < (sBy i).length := h
  rw [List.getD_eq_getElem?_getD, List.getD_eq_getElem?_getD, List.getElem?_map, List.getElem?_eq_getElem h2]
  rfl
theorem gD_l {t u : List Nat} {j : Nat} (h : j < t.length) : (t ++ u).getD j 0 = t.getD j 0 := by rw [List.getD_eq_getElem?_getD, List.getD_eq_getElem?_getD, List.getElem?_append_left h]
theorem gD_r {t u : List Nat} {j : Nat} (h : t.length ≤ j) : (t ++ u).getD j 0 = u.getD (j - t.length) 0 := by rw [List.getD_eq_getElem?_getD, List.getD_eq_getElem?_getD, List.getElem?_append_right h]
def numT (x : Nat) : List Nat := if x < 10 then [48 + x] else [48 + x / 10, 48 + x % 10]
def dlen (x : Nat) : Nat := if x < 10 then 1 else 2
theorem numT_len (x : Nat) : (numT x).length = dlen x := by
  unfold numT dlen
  split <;> rfl
/-- the builder q with the text t (room for m at least) over a world B, h; what it has let go lies behind -/
def SBW (G : GG) (B : List Nat) (h : Nat → va_E) (q : Nat) (t : List Nat) (m : Nat) (L : List Nat) (f : Nat → va_E) : Prop := ∃ (K : List Nat) (r cap : Nat) (g : Nat → Int32), L = B ++ K ∧ (∀ x ∈ B, f x = h x) ∧ q ∈ L ∧ q ∉ B ∧ r ∈ L ∧ r ∉ B ∧ f q = oSB r (nI t.length) ∧ f r = aB G cap g ∧ t.length ≤ cap ∧ m ≤ cap ∧ cap ≤ 802 ∧ (∀ j, fits .byte (.int (g j)) = true) ∧ ∀ j, j < t.length → g j = nI (t.getD j 0)
theorem sb_ne {G : GG} {f : Nat → va_E} {q r cap : Nat} {n : Int32} {g : Nat → Int32} (h1 : f q = oSB r n) (h2 : f r = aB G cap g) : q ≠ r := by
  intro h
  subst h
  rw [h1] at h2
  cases h2
theorem nq_of {B : List Nat} {q x : Nat} (hq : q ∉ B) (hx : x ∈ B) : x ≠ q := fun h => hq (h ▸ hx)
def numW (g : Nat → Int32) (x idx : Nat) : Nat → Int32 := if x < 10 then upd g (idx - 1) (dgO x) else upd (upd g (idx - 1) (dgO x)) (idx - 2) (dgT x)
theorem dg_nar : ∀ x, x < 100 → vp_nar .byte (dgO x) = dgO x ∧ vp_nar .byte (dgT x) = dgT x ∧ fits .byte (.int (dgO x)) = true ∧ fits .byte (.int (dgT x)) = true := by decide +kernel
theorem neg_a : ∀ x, x < 100 → (-100 : Int32) < -nI x := by decide +kernel
theorem neg_b : ∀ x, x < 10 → ¬ -nI x ≤ (-10 : Int32) := by decide +kernel
theorem neg_b2 : ∀ x, x < 100 → 10 ≤ x → -nI x ≤ (-10 : Int32) := by decide +kernel
theorem neg_c : ∀ x, x < 100 → ¬ -nI x ≤ (10 : Int32) * (-10) := by decide +kernel
theorem neg_d : ∀ x, x < 10 → (-9 : Int32) ≤ -nI x := by decide +kernel
theorem neg_d2 : ∀ x, x < 100 → 10 ≤ x → ¬ (-9 : Int32) ≤ -nI x := by decide +kernel
theorem upd_fit {g : Nat → Int32} {k : Nat} {x : Int32} (hg : ∀ j, fits .byte (.int (g j)) = true) (hx : fits .byte (.int x) = true) (j : Nat) : fits .byte (.int (upd g k x j)) = true := by
  unfold upd
  split
  · exact hx
  · exact hg j
theorem numW_fit {g : Nat → Int32} {x idx : Nat} (hx : x < 100) (hg : ∀ j, fits .byte (.int (g j)) = true) (j : Nat) : fits .byte (.int (numW g x idx j)) = true := by
  obtain ⟨-, -, h3, h4⟩ := dg_nar x hx
  unfold numW
  split
  · exact upd_fit hg h3 j
  · exact upd_fit (upd_fit hg h3) h4 j
set_option maxRecDepth 100000 in
set_option maxHeartbeats 4000000 in
theorem c_asbI {l : Launch} (hl : l.stackTraces = false) {G : GG} {L : List Nat} {f : Nat → va_E} {q : Nat} (hq : q ∈ L) (hf : f q = .inr (10, df10)) : Ct l G yJ5_init_d00df (.code yJ5_init_d00df cJ5_init_d00df 2 none) 1 30 1 16 [.ref q, .int 16] L f px0 (fun r9 L1 f1 => r9 = none ∧ ∃ k1 : Nat, k1 ∉ L ∧ L1 = L ++ [k1] ∧ f1 = va_up (va_up f k1 (aB G 16 z0)) q (oSB k1 0)) := by
  refine Ct.ofq (own := RJ5) hl rfl (by decide) [some (.ref q), some (.int 16)] rfl (Nat.le_of_ble_eq_true rfl) ?_
  intro p e s m below meth c A ar Q hQ X
  have hE := X.2.2.2.2.2.2.2.2.2.1
  refine j_aload_n X (i := 0) dJ5_init_d00df_0 rfl rfl ?_
  refine j_objInit X ml_J5_3 dJ5_init_d00df_1 ⟨(by decide), (Nat.le_of_ble_eq_true rfl)⟩ ?_
  refine j_gets X hE.2.2.1 fl_J5_18 dJ5_init_d00df_4 ?_
  refine j_if_eq X (tgt := 25) dJ5_init_d00df_7 (by decide) (fun h => absurd h (by decide)) (fun _ => ?_)
  refine j_aload_n X (i := 0) dJ5_init_d00df_10 rfl rfl ?_
  refine j_iload_n X (i := 1) dJ5_init_d00df_11 rfl rfl ?_
  refine j_newa X 1 (atype := .byte) rfl ac_byte rfl (az_byte 16) (by decide) (by decide) (by decide) ⟨(by decide), (by decide)⟩ dJ5_init_d00df_12 (fun k1 hk1 => ?_)
  have n_qk : q ≠ k1 := fun h => hk1 (h ▸ hq)
  have m_q := List.mem_append_left [k1] hq
  refine j_putf X 10 0 rfl cw_J4 tyJ4 tyJ4_ok nmJ4 fl_J5_15 (by decide) rfl dJ5_init_d00df_14 m_q (up_n n_qk hf) rfl rfl (Nat.le_of_ble_eq_true rfl) ?_
  dsimp only [List.set]
  refine j_aload_n X (i := 0) dJ5_init_d00df_17 rfl rfl ?_
  refine j_iconst X (0) dJ5_init_d00df_18 (by decide) ?_
  refine j_putf X 10 1 rfl cw_J4 tyJ4 tyJ4_ok nmJ4 fl_J5_22 (by decide) rfl dJ5_init_d00df_19 m_q up_s rfl rfl (Nat.le_of_ble_eq_true rfl) ?_
  dsimp only [List.set]
  rw [up_up]
  refine j_goto X (tgt := 38) dJ5_init_d00df_22 (by decide) ?_
  exact q_vret X hQ dJ5_init_d00df_38 rfl ⟨(by decide), (by decide)⟩ ⟨rfl, k1, hk1, rfl, rfl⟩
set_option maxRecDepth 100000 in
set_option maxHeartbeats 4000000 in
theorem c_sbI {l : Launch} (hl : l.stackTraces = false) {G : GG} {L : List Nat} {f : Nat → va_E} {q : Nat} (hq : q ∈ L) (hf : f q = .inr (10, df10)) : Ct l G yJ4_init_da8c8 (.code yJ4_init_da8c8 cJ4_init_da8c8 1 none) 2 51 1 16 [.ref q] L f px0 (fun r9 L1 f1 => r9 = none ∧ ∃ k1 : Nat, k1 ∉ L ∧ L1 = L ++ [k1] ∧ f1 = va_up (va_up f k1 (aB G 16 z0)) q (oSB k1 0)) := by
  refine Ct.ofq (own := RJ4) hl rfl (by decide) [some (.ref q)] rfl (Nat.le_of_ble_eq_true rfl) ?_
  intro p e s m below meth c A ar Q hQ X
  have hE := X.2.2.2.2.2.2.2.2.2.1
  refine j_aload_n X (i := 0) dJ4_init_da8c8_0 rfl rfl ?_
  refine j_bipush X (16) dJ4_init_da8c8_1 (by decide) ?_
  refine j_callI1 X (c_asbI hl hq hf) ml_J4_1 im_yJ5_init_d00df in_J5 cd_yJ5_init_d00df rfl hz_yJ5_init_d00df dJ4_init_da8c8_3 ⟨(by decide), (by decide)⟩ ⟨(by decide), (by decide)⟩ (Nat.le_of_ble_eq_true rfl) (fun r9 L9 f9 h9 => ?_)
  obtain ⟨rfl, k1, hk1, rfl, rfl⟩ := h9
  dsimp only [Option.toList, List.cons_append, List.nil_append, List.append]
  exact q_vret X hQ dJ4_init_da8c8_6 rfl ⟨(by decide), (by decide)⟩ ⟨rfl, k1, hk1, rfl, rfl⟩
set_option maxRecDepth 100000 in
set_option maxHeartbeats 4000000 in
theorem c_getBytes {l : Launch} (hl : l.stackTraces = false) {G : GG} {L : List Nat} {f : Nat → va_E} {r cap n i : Nat} {g : Nat → Int32} (hi : i < 57) (hr : r ∈ L) (hfr : f r = aB G cap g) (hn : n + strLn i ≤ cap) (hc : cap ≤ 802) : Ct l G yJ0_getBytes_840e7 (.code yJ0_getBytes_840e7 cJ0_getBytes_840e7 4 none) 1 66 0 0 [.ref (G.2.2.1 i), .ref r, .int (nI n), .int 0] L f px0 (stay L (fun r9 f1 => f1 = va_up f r (aB G cap (va_cpy (strCh i) g 0 n (strLn i))) ∧ r9 = none)) := by
  have h9i := str_small i hi
  refine Ct.ofq (own := RJ0) hl rfl (by decide) [some (.ref (G.2.2.1 i)), some (.ref r), some (.int (nI n)), some (.int 0)] rfl (Nat.le_of_ble_eq_true rfl) ?_
  intro p e s m below meth c A ar Q hQ X
  have hE := X.2.2.2.2.2.2.2.2.2.1
  refine j_aload_n X (i := 0) dJ0_getBytes_840e7_0 rfl rfl ?_
  refine j_callT (As := []) X hi (c_coder hl hi) ml_J0_335 im_yJ0_coder_7d493 se_yJ0_coder_7d493 cd_yJ0_coder_7d493 hy_yJ0_coder_7d493 dJ0_getBytes_840e7_1 ⟨(by decide), (by decide)⟩ ⟨(by decide), (by decide)⟩ (Nat.le_of_ble_eq_true rfl) (fun _ h => h.elim) (fun r9 L9 f9 h9 => ?_)
  obtain ⟨h91, h92, h93⟩ := h9
  subst r9
  subst f9
  subst L9
  dsimp only [Option.toList, List.cons_append, List.nil_append, List.append]
  refine j_iload_n X (i := 3) dJ0_getBytes_840e7_4 rfl rfl ?_
  refine j_icmp_ne X (tgt := 28) dJ0_getBytes_840e7_5 (by decide) (fun h => absurd rfl h) (fun _ => ?_)
  refine j_aload_n X (i := 0) dJ0_getBytes_840e7_8 rfl rfl ?_
  refine j_sgetf X (X.txt hi).2.2.1 fl_J0_9 dJ0_getBytes_840e7_9 ?_
  refine j_iconst X (0) dJ0_getBytes_840e7_12 (by decide) ?_
  refine j_aload_n X (i := 1) dJ0_getBytes_840e7_13 rfl rfl ?_
  refine j_iload_n X (i := 2) dJ0_getBytes_840e7_14 rfl rfl ?_
  refine j_iload_n X (i := 3) dJ0_getBytes_840e7_15 rfl rfl ?_
  refine j_ishl X dJ0_getBytes_840e7_16 ?_
  rw [sl0]
  refine j_aload_n X (i := 0) dJ0_getBytes_840e7_17 rfl rfl ?_
  refine j_sgetf X (X.txt hi).2.2.1 fl_J0_9 dJ0_getBytes_840e7_18 ?_
  refine j_tlen X (X.txt hi).2.2.2 dJ0_getBytes_840e7_21 ?_
  refine j_copyT X ml_J0_212 dJ0_getBytes_840e7_22 (X.txt hi).2.2.2 hr hfr (str_fit i hi) n0 (nI_pos (by omega)) (nI_pos (by omega)) (by rw [t0n, nI_clamp (by omega)]; omega) (by rw [nI_clamp (by omega), nI_clamp (by omega)]; omega) ⟨(by decide), (Nat.le_of_ble_eq_true rfl)⟩ ?_
  rw [t0n, nI_clamp (by omega), nI_clamp (by omega)]
  refine j_goto X (tgt := 43) dJ0_getBytes_840e7_25 (by decide) ?_
  exact q_vret X hQ dJ0_getBytes_840e7_43 rfl ⟨(by decide), (by decide)⟩ ⟨rfl, rfl, rfl⟩
set_option maxRecDepth 100000 in
set_option maxHeartbeats 4000000 in
theorem c_inflIf {l : Launch} (hl : l.stackTraces = false) {G : GG} {L : List Nat} {f : Nat → va_E} {q r i : Nat} {v : Int32} (hi : i < 57) (hq : q ∈ L) (hf : f q = oSB r v) : Ct l G yJ5_inflateIfNeededFor_a7421 (.code yJ5_inflateIfNeededFor_a7421 cJ5_inflateIfNeededFor_a7421 2 none) 1 20 0 0 [.ref q, .ref (G.2.2.1 i)] L f px0 (stay L (fun r9 f1 => f1 = f ∧ r9 = none)) := by
  refine Ct.ofq (own := RJ5) hl rfl (by decide) [some (.ref q), some (.ref (G.2.2.1 i))] rfl (Nat.le_of_ble_eq_true rfl) ?_
  intro p e s m below meth c A ar Q hQ X
  have hE := X.2.2.2.2.2.2.2.2.2.1
  refine j_gets X hE.2.2.1 fl_J5_18 dJ5_inflateIfNeededFor_a7421_0 ?_
  refine j_if_eq X (tgt := 21) dJ5_inflateIfNeededFor_a7421_3 (by decide) (fun h => absurd h (by decide)) (fun _ => ?_)
  refine j_aload_n X (i := 0) dJ5_inflateIfNeededFor_a7421_6 rfl rfl ?_
  refine j_getf X 10 1 rfl cw_J4 fl_J5_22 (by decide) dJ5_inflateIfNeededFor_a7421_7 hq hf rfl ?_
  refine j_aload_n X (i := 1) dJ5_inflateIfNeededFor_a7421_10 rfl rfl ?_
  refine j_callT (As := []) X hi (c_coder hl hi) ml_J5_40 im_yJ0_coder_7d493 se_yJ0_coder_7d493 cd_yJ0_coder_7d493 hy_yJ0_coder_7d493 dJ5_inflateIfNeededFor_a7421_11 ⟨(by decide), (by decide)⟩ ⟨(by decide), (by decide)⟩ (Nat.le_of_ble_eq_true rfl) (fun _ h => h.elim) (fun r9 L9 f9 h9 => ?_)
  obtain ⟨h91, h92, h93⟩ := h9
  subst r9
  subst f9
  subst L9
  dsimp only [Option.toList, List.cons_append, List.nil_append, List.append]
  refine j_icmp_eq X (tgt := 21) dJ5_inflateIfNeededFor_a7421_14 (by decide) (fun _ => ?_) (fun h => absurd rfl h)
  exact q_vret X hQ dJ5_inflateIfNeededFor_a7421_21 rfl ⟨(by decide), (by decide)⟩ ⟨rfl, rfl, rfl⟩
set_option maxRecDepth 100000 in
set_option maxHeartbeats 4000000 in
theorem c_putStr {l : Launch} (hl : l.stackTraces = false) {G : GG} {L : List Nat} {f : Nat → va_E} {r cap n i : Nat} {g : Nat → Int32} (hi : i < 57) (hr : r ∈ L) (hfr : f r = aB G cap g) (hn : n + strLn i ≤ cap) (hc : cap ≤ 802) {q : Nat} {v : Int32} (hq : q ∈ L) (hf : f q = oSB r v) : Ct l G yJ5_putStringAt_47b60 (.code yJ5_putStringAt_47b60 cJ5_putStringAt_47b60 3 none) 2 89 0 0 [.ref q, .int (nI n), .ref (G.2.2.1 i)] L f px0 (stay L (fun r9 f1 => f1 = va_up f r (aB G cap (va_cpy (strCh i) g 0 n (strLn i))) ∧ r9 = none)) := by
  refine Ct.ofq (own := RJ5) hl rfl (by decide) [some (.ref q), some (.int (nI n)), some (.ref (G.2.2.1 i))] rfl (Nat.le_of_ble_eq_true rfl) ?_
  intro p e s m below meth c A ar Q hQ X
  have hE := X.2.2.2.2.2.2.2.2.2.1
  refine j_aload_n X (i := 0) dJ5_putStringAt_47b60_0 rfl rfl ?_
  refine j_aload_n X (i := 2) dJ5_putStringAt_47b60_1 rfl rfl ?_
  refine j_callU1 X 10 (c_inflIf hl hi hq hf) ml_J5_397 sm_yJ5_inflateIfNeededFor_a7421 se4_yJ5_inflateIfNeededFor_a7421 im_yJ5_inflateIfNeededFor_a7421 in_J5 cd_yJ5_inflateIfNeededFor_a7421 hz_yJ5_inflateIfNeededFor_a7421 hq hf rfl dJ5_putStringAt_47b60_2 ⟨(by decide), (by decide)⟩ ⟨(by decide), (by decide)⟩ (Nat.le_of_ble_eq_true rfl) (fun r9 L9 f9 h9 => ?_)
  obtain ⟨h91, h92, h93⟩ := h9
  subst r9
  subst f9
  subst L9
  dsimp only [Option.toList, List.cons_append, List.nil_append, List.append]
  refine j_aload_n X (i := 2) dJ5_putStringAt_47b60_5 rfl rfl ?_
  refine j_aload_n X (i := 0) dJ5_putStringAt_47b60_6 rfl rfl ?_
  refine j_getf X 10 0 rfl cw_J4 fl_J5_15 (by decide) dJ5_putStringAt_47b60_7 hq hf rfl ?_
  refine j_iload_n X (i := 1) dJ5_putStringAt_47b60_10 rfl rfl ?_
  refine j_aload_n X (i := 0) dJ5_putStringAt_47b60_11 rfl rfl ?_
  refine j_getf X 10 1 rfl cw_J4 fl_J5_22 (by decide) dJ5_putStringAt_47b60_12 hq hf rfl ?_
  refine j_callT3 X hi (c_getBytes hl hi hr hfr hn hc) ml_J5_399 im_yJ0_getBytes_840e7 se_yJ0_getBytes_840e7 cd_yJ0_getBytes_840e7 hy_yJ0_getBytes_840e7 dJ5_putStringAt_47b60_15 ⟨(by decide), (by decide)⟩ ⟨(by decide), (by decide)⟩ (Nat.le_of_ble_eq_true rfl) (fun r9 L9 f9 h9 => ?_)
  obtain ⟨h91, h92, h93⟩ := h9
  subst r9
  subst f9
  subst L9
  dsimp only [Option.toList, List.cons_append, List.nil_append, List.append]
  exact q_vret X hQ dJ5_putStringAt_47b60_18 rfl ⟨(by decide), (by decide)⟩ ⟨rfl, rfl, rfl⟩
set_option maxRecDepth 100000 in
set_option maxHeartbeats 4000000 in
theorem c_ensure {l : Launch} (hl : l.stackTraces = false) {G : GG} {L : List Nat} {f : Nat → va_E} {B : List Nat} {h : Nat → va_E} {q : Nat} {t : List Nat} {m0 : Nat} (hS : SBW G B h q t m0 L f) {m1 : Nat} (hm : m1 ≤ 400) : Ct l G yJ5_ensureCapacityInternal_d00df (.code yJ5_ensureCapacityInternal_d00df cJ5_ensureCapacityInternal_d00df 3 none) 3 88 1 802 [.ref q, .int (nI m1)] L f px0 (fun r9 L1 f1 => r9 = none ∧ SBW G B h q t m1 L1 f1) := by
  obtain ⟨K, r, cap, g, rfl, hB, hq, hqB, hr, hrB, hf, hfr, hn, hm0, hcap, hfit, hget⟩ := hS
  refine Ct.ofq (own := RJ5) hl rfl (by decide) [some (.ref q), some (.int (nI m1)), none] rfl (Nat.le_of_ble_eq_true rfl) ?_
  intro p e s m below meth c A ar Q hQ X
  have hE := X.2.2.2.2.2.2.2.2.2.1
  refine j_aload_n X (i := 0) dJ5_ensureCapacityInternal_d00df_0 rfl rfl ?_
  refine j_getf X 10 0 rfl cw_J4 fl_J5_15 (by decide) dJ5_ensureCapacityInternal_d00df_1 hq hf rfl ?_
  refine j_alenN X (k9 := 1) dJ5_ensureCapacityInternal_d00df_4 hr hfr rfl ?_
  refine j_aload_n X (i := 0) dJ5_ensureCapacityInternal_d00df_5 rfl rfl ?_
  refine j_getf X 10 1 rfl cw_J4 fl_J5_22 (by decide) dJ5_ensureCapacityInternal_d00df_6 hq hf rfl ?_
  refine j_ishr X dJ5_ensureCapacityInternal_d00df_9 ?_
  rw [sr0]
  refine j_istore_n X (i := 2) dJ5_ensureCapacityInternal_d00df_10 rfl (by decide) (by first | exact lvOK_0 | exact lvOK_s rfl okPrev_none | exact lvOK_s rfl okPrev_int | exact lvOK_s rfl okPrev_ref | exact lvOK_s rfl okPrev_null) ?_
  dsimp only [List.set]
  refine j_iload_n X (i := 1) dJ5_ensureCapacityInternal_d00df_11 rfl rfl ?_
  refine j_iload_n X (i := 2) dJ5_ensureCapacityInternal_d00df_12 rfl rfl ?_
  refine j_isub X dJ5_ensureCapacityInternal_d00df_13 ?_
  refine j_if_le X (tgt := 38) dJ5_ensureCapacityInternal_d00df_14 (by decide) (fun h9 => ?_) (fun h9 => ?_)
  · have h8 := (nI_sle (by omega) (by omega)).mp h9
    exact q_vret X hQ dJ5_ensureCapacityInternal_d00df_38 rfl ⟨(by decide), (by decide)⟩ ⟨rfl, K, r, cap, g, rfl, hB, hq, hqB, hr, hrB, hf, hfr, hn, h8, hcap, hfit, hget⟩
  · have h8 : cap < m1 := Nat.not_le.mp (fun h7 => h9 ((nI_sle (by omega) (by omega)).mpr h7))
    refine j_aload_n X (i := 0) dJ5_ensureCapacityInternal_d00df_17 rfl rfl ?_
    refine j_aload_n X (i := 0) dJ5_ensureCapacityInternal_d00df_18 rfl rfl ?_
    refine j_getf X 10 0 rfl cw_J4 fl_J5_15 (by decide) dJ5_ensureCapacityInternal_d00df_19 hq hf rfl ?_
    refine j_aload_n X (i := 0) dJ5_ensureCapacityInternal_d00df_22 rfl rfl ?_
    refine j_iload_n X (i := 1) dJ5_ensureCapacityInternal_d00df_23 rfl rfl ?_
    refine j_callU1 X 10 (c_newCap hl hq hf hr hfr h8 (by omega)) ml_J5_104 sm_yJ5_newCapacity_0f7a4 se4_yJ5_newCapacity_0f7a4 im_yJ5_newCapacity_0f7a4 in_J5 cd_yJ5_newCapacity_0f7a4 hz_yJ5_newCapacity_0f7a4 hq hf rfl dJ5_ensureCapacityInternal_d00df_24 ⟨(by decide), (by decide)⟩ ⟨(by decide), (by decide)⟩ (Nat.le_of_ble_eq_true rfl) (fun r9 L9 f9 h9 => ?_)
    obtain ⟨h91, h92, h93⟩ := h9
    subst r9
    subst f9
    subst L9
    dsimp only [Option.toList, List.cons_append, List.nil_append, List.append]
    refine j_aload_n X (i := 0) dJ5_ensureCapacityInternal_d00df_27 rfl rfl ?_
    refine j_getf X 10 1 rfl cw_J4 fl_J5_22 (by decide) dJ5_ensureCapacityInternal_d00df_28 hq hf rfl ?_
    refine j_ishl X dJ5_ensureCapacityInternal_d00df_31 ?_
    rw [sl0]
    refine j_callS2 X (c_copyOf hl hr hfr hfit (by omega) (by omega)) ml_J5_108 st_yJ7_copyOf_9075b in_J7 cd_yJ7_copyOf_9075b hz_yJ7_copyOf_9075b dJ5_ensureCapacityInternal_d00df_32 ⟨(by decide), (by decide)⟩ ⟨(by decide), (by decide)⟩ (Nat.le_of_ble_eq_true rfl) (fun _ h => h.elim) (fun r9 L9 f9 h9 => ?_)
    obtain ⟨k1, hk1, rfl, rfl, rfl⟩ := h9
    dsimp only [Option.toList, List.cons_append, List.nil_append, List.append]
    have n_qk : q ≠ k1 := fun h => hk1 (h ▸ hq)
    have m_q := List.mem_append_left [k1] hq
    refine j_putf X 10 0 rfl cw_J4 tyJ4 tyJ4_ok nmJ4 fl_J5_15 (by decide) rfl dJ5_ensureCapacityInternal_d00df_35 m_q (up_n n_qk hf) rfl rfl (Nat.le_of_ble_eq_true rfl) ?_
    dsimp only [List.set]
    refine q_vret X hQ dJ5_ensureCapacityInternal_d00df_38 rfl ⟨(by decide), (by decide)⟩ ⟨rfl, K ++ [k1], k1, max m1 (2 * cap + 2), va_cpy g z0 0 0 cap, List.append_assoc _ _ _, fun x hx => ?_, m_q, hqB, List.mem_append_right _ (List.mem_singleton.mpr rfl), fun h => hk1 (List.mem_append_left _ h), up_s, up_n (Ne.symm n_qk) up_s, by omega, by omega, by omega, cpy_fit (fun j _ _ => hfit j) z0_fit, fun j hj => ?_⟩
    · exact up_n (nq_of hqB hx) (up_n (fun h => hk1 (h ▸ List.mem_append_left _ hx)) (hB x hx))
    · unfold va_cpy
      rw [if_pos (by omega), Nat.zero_add, Nat.sub_zero]
      exact hget j hj
set_option maxRecDepth 100000 in
set_option maxHeartbeats 4000000 in
theorem c_asbStr {l : Launch} (hl : l.stackTraces = false) {G : GG} {L : List Nat} {f : Nat → va_E} {B : List Nat} {h : Nat → va_E} {q : Nat} {t : List Nat} {m0 : Nat} (hS : SBW G B h q t m0 L f) {i : Nat} (hi : i < 57) (hm : t.length + strLn i ≤ 400) : Ct l G yJ5_append_cf1ce (.code yJ5_append_cf1ce cJ5_append_cf1ce 3 (some (.object "java/lang/AbstractStringBuilder"))) 4 112 1 802 [.ref q, .ref (G.2.2.1 i)] L f px0 (fun r9 L1 f1 => r9 = some (.ref q) ∧ SBW G B h q (t ++ txB i) 0 L1 f1) := by
  obtain ⟨K0, r0, cap0, g0, e0, hB0, hq0, hqB0, hr0, hrB0, hf0, hfr0, hn0, hm00, hcap0, hfit0, hget0⟩ := id hS
  refine Ct.ofq (own := RJ5) hl rfl (by decide) [some (.ref q), some (.ref (G.2.2.1 i)), none] rfl (Nat.le_of_ble_eq_true rfl) ?_
  intro p e s m below meth c A ar Q hQ X
  have hE := X.2.2.2.2.2.2.2.2.2.1
  refine j_aload_n X (i := 1) dJ5_append_cf1ce_0 rfl rfl ?_
  refine j_ifnn X (tgt := 9) dJ5_append_cf1ce_1 (by decide) ?_
  refine j_aload_n X (i := 1) dJ5_append_cf1ce_9 rfl rfl ?_
  refine j_callT (As := []) X hi (c_strlen hl hi rfl) ml_J5_32 im_yJ0_length_8abf5 se_yJ0_length_8abf5 cd_yJ0_length_8abf5 hy_yJ0_length_8abf5 dJ5_append_cf1ce_10 ⟨(by decide), (by decide)⟩ ⟨(by decide), (by decide)⟩ (Nat.le_of_ble_eq_true rfl) (fun _ h => h.elim) (fun r9 L9 f9 h9 => ?_)
  obtain ⟨h91, h92, h93⟩ := h9
  subst r9
  subst f9
  subst L9
  dsimp only [Option.toList, List.cons_append, List.nil_append, List.append]
  refine j_istore_n X (i := 2) dJ5_append_cf1ce_13 rfl (by decide) (by first | exact lvOK_0 | exact lvOK_s rfl okPrev_none | exact lvOK_s rfl okPrev_int | exact lvOK_s rfl okPrev_ref | exact lvOK_s rfl okPrev_null) ?_
  dsimp only [List.set]
  refine j_aload_n X (i := 0) dJ5_append_cf1ce_14 rfl rfl ?_
  refine j_aload_n X (i := 0) dJ5_append_cf1ce_15 rfl rfl ?_
  refine j_getf X 10 3 rfl cw_J4 fl_J5_79 (by decide) dJ5_append_cf1ce_16 hq0 hf0 rfl ?_
  refine j_iload_n X (i := 2) dJ5_append_cf1ce_19 rfl rfl ?_
  refine j_iadd X dJ5_append_cf1ce_20 ?_
  rw [nI_add]
  refine j_callU1 X 10 (c_ensure hl hS (m1 := t.length + strLn i) hm) ml_J5_100 sm_yJ5_ensureCapacityInternal_d00df se4_yJ5_ensureCapacityInternal_d00df im_yJ5_ensureCapacityInternal_d00df in_J5 cd_yJ5_ensureCapacityInternal_d00df hz_yJ5_ensureCapacityInternal_d00df hq0 hf0 rfl dJ5_append_cf1ce_21 ⟨(by decide), (by decide)⟩ ⟨(by decide), (by decide)⟩ (Nat.le_of_ble_eq_true rfl) (fun r9 L9 f9 h9 => ?_)
  obtain ⟨rfl, K, r, cap, g, rfl, hB, hq, hqB, hr, hrB, hf, hfr, hn, hm0, hcap, hfit, hget⟩ := h9
  dsimp only [Option.toList, List.cons_append, List.nil_append, List.append]
  refine j_aload_n X (i := 0) dJ5_append_cf1ce_24 rfl rfl ?_
  refine j_aload_n X (i := 0) dJ5_append_cf1ce_25 rfl rfl ?_
  refine j_getf X 10 3 rfl cw_J4 fl_J5_79 (by decide) dJ5_append_cf1ce_26 hq hf rfl ?_
  refine j_aload_n X (i := 1) dJ5_append_cf1ce_29 rfl rfl ?_
  refine j_callU2 X 10 (c_putStr hl hi hr hfr hm0 hcap hq hf) ml_J5_208 sm_yJ5_putStringAt_47b60 se4_yJ5_putStringAt_47b60 im_yJ5_putStringAt_47b60 in_J5 cd_yJ5_putStringAt_47b60 hz_yJ5_putStringAt_47b60 hq hf rfl dJ5_append_cf1ce_30 ⟨(by decide), (by decide)⟩ ⟨(by decide), (by decide)⟩ (Nat.le_of_ble_eq_true rfl) (fun r9 L9 f9 h9 => ?_)
  obtain ⟨h91, h92, h93⟩ := h9
  subst r9
  subst f9
  subst L9
  dsimp only [Option.toList, List.cons_append, List.nil_append, List.append]
  have n_qr : q ≠ r := sb_ne hf hfr
  refine j_aload_n X (i := 0) dJ5_append_cf1ce_33 rfl rfl ?_
  refine j_dup X dJ5_append_cf1ce_34 rfl ?_
  refine j_getf X 10 3 rfl cw_J4 fl_J5_79 (by decide) dJ5_append_cf1ce_35 hq (up_n n_qr hf) rfl ?_
  refine j_iload_n X (i := 2) dJ5_append_cf1ce_38 rfl rfl ?_
  refine j_iadd X dJ5_append_cf1ce_39 ?_
  rw [nI_add]
  refine j_putf X 10 3 rfl cw_J4 tyJ4 tyJ4_ok nmJ4 fl_J5_79 (by decide) rfl dJ5_append_cf1ce_40 hq (up_n n_qr hf) rfl rfl (Nat.le_of_ble_eq_true rfl) ?_
  dsimp only [List.set]
  refine j_aload_n X (i := 0) dJ5_append_cf1ce_43 rfl rfl ?_
  refine q_aret X hQ dJ5_append_cf1ce_44 rfl (Or.inl ⟨_, rfl⟩) ⟨(by decide), (by decide)⟩ ⟨rfl, K, r, cap, va_cpy (strCh i) g 0 t.length (strLn i), rfl, fun x hx => up_n (nq_of hqB hx) (up_n (nq_of hrB hx) (hB x hx)), hq, hqB, hr, hrB, ?_, up_n (Ne.symm n_qr) up_s, ?_, by omega, hcap, cpy_fit (fun j _ hj => str_fit i hi j (by omega)) hfit, fun j hj => ?_⟩
  · rw [List.length_append, txB_len]
    exact up_s
  · rw [List.length_append, txB_len]
    exact hm0
  · rw [List.length_append, txB_len] at hj
    unfold va_cpy
    by_cases h7 : j < t.length
    · rw [if_neg (by omega), hget j h7, gD_l h7]
    · rw [if_pos (by omega), gD_r (by omega), txB_get (by omega), Nat.zero_add]
set_option maxRecDepth 100000 in
set_option maxHeartbeats 4000000 in
theorem c_appS {l : Launch} (hl : l.stackTraces = false) {G : GG} {L : List Nat} {f : Nat → va_E} {B : List Nat} {h : Nat → va_E} {q : Nat} {t : List Nat} {m0 : Nat} (hS : SBW G B h q t m0 L f) {i : Nat} (hi : i < 57) (hm : t.length + strLn i ≤ 400) : Ct l G yJ4_append_15ec4 (.code yJ4_append_15ec4 cJ4_append_15ec4 2 (some (.object "java/lang/StringBuilder"))) 5 134 1 802 [.ref q, .ref (G.2.2.1 i)] L f px0 (fun r9 L1 f1 => r9 = some (.ref q) ∧ SBW G B h q (t ++ txB i) 0 L1 f1) := by
  obtain ⟨K0, r0, cap0, g0, e0, hB0, hq0, hqB0, hr0, hrB0, hf0, hfr0, hn0, hm00, hcap0, hfit0, hget0⟩ := id hS
  refine Ct.ofq (own := RJ4) hl rfl (by decide) [some (.ref q), some (.ref (G.2.2.1 i))] rfl (Nat.le_of_ble_eq_true rfl) ?_
  intro p e s m below meth c A ar Q hQ X
  have hE := X.2.2.2.2.2.2.2.2.2.1
  refine j_aload_n X (i := 0) dJ4_append_15ec4_0 rfl rfl ?_
  refine j_aload_n X (i := 1) dJ4_append_15ec4_1 rfl rfl ?_
  refine j_callSU1 X 10 (c_asbStr hl hS hi hm) ml_J4_29 sm_yJ5_append_cf1ce sp_J4 im_yJ5_append_cf1ce in_J5 cd_yJ5_append_cf1ce hs_yJ5_append_cf1ce hq0 hf0 rfl dJ4_append_15ec4_2 ⟨(by decide), (by decide)⟩ ⟨(by decide), (by decide)⟩ (Nat.le_of_ble_eq_true rfl) (fun r9 L9 f9 h9 => ?_)
  obtain ⟨rfl, h9⟩ := h9
  dsimp only [Option.toList, List.cons_append, List.nil_append, List.append]
  refine j_pop X dJ4_append_15ec4_5 rfl ?_
  refine j_aload_n X (i := 0) dJ4_append_15ec4_6 rfl rfl ?_
  exact q_aret X hQ dJ4_append_15ec4_7 rfl (Or.inl ⟨_, rfl⟩) ⟨(by decide), (by decide)⟩ ⟨rfl, h9⟩
set_option maxRecDepth 100000 in
set_option maxHeartbeats 4000000 in
theorem c_strSize {l : Launch} (hl : l.stackTraces = false) {G : GG} {L : List Nat} {f : Nat → va_E} {x : Nat} (hx : x < 100) : Ct l G yJ6_stringSize_0f7a4 (.code yJ6_stringSize_0f7a4 cJ6_stringSize_0f7a4 4 (some .int)) 0 0 0 0 [.int (nI x)] L f px0 (stay L (fun r9 f1 => f1 = f ∧ r9 = some (.int (nI (dlen x))))) := by
  refine Ct.ofq (own := RJ6) hl rfl (by decide) [some (.int (nI x)), none, none, none] rfl (Nat.le_of_ble_eq_true rfl) ?_
  intro p e s m below meth c A ar Q hQ X
  have hE := X.2.2.2.2.2.2.2.2.2.1
  refine j_iconst X (1) dJ6_stringSize_0f7a4_0 (by decide) ?_
  refine j_istore_n X (i := 1) dJ6_stringSize_0f7a4_1 rfl (by decide) (by first | exact lvOK_0 | exact lvOK_s rfl okPrev_none | exact lvOK_s rfl okPrev_int | exact lvOK_s rfl okPrev_ref | exact lvOK_s rfl okPrev_null) ?_
  dsimp only [List.set]
  refine j_iload_n X (i := 0) dJ6_stringSize_0f7a4_2 rfl rfl ?_
  refine j_if_lt X (tgt := 11) dJ6_stringSize_0f7a4_3 (by decide) (fun h => absurd h (nI_pos (by omega))) (fun _ => ?_)
  refine j_iconst X (0) dJ6_stringSize_0f7a4_6 (by decide) ?_
  refine j_istore_n X (i := 1) dJ6_stringSize_0f7a4_7 rfl (by decide) (by first | exact lvOK_0 | exact lvOK_s rfl okPrev_none | exact lvOK_s rfl okPrev_int | exact lvOK_s rfl okPrev_ref | exact lvOK_s rfl okPrev_null) ?_
  dsimp only [List.set]
  refine j_iload_n X (i := 0) dJ6_stringSize_0f7a4_8 rfl rfl ?_
  refine j_ineg X dJ6_stringSize_0f7a4_9 ?_
  refine j_istore_n X (i := 0) dJ6_stringSize_0f7a4_10 rfl (by decide) (by first | exact lvOK_0 | exact lvOK_s rfl okPrev_none | exact lvOK_s rfl okPrev_int | exact lvOK_s rfl okPrev_ref | exact lvOK_s rfl okPrev_null) ?_
  dsimp only [List.set]
  refine j_bipush X (-10) dJ6_stringSize_0f7a4_11 (by decide) ?_
  refine j_istore_n X (i := 2) dJ6_stringSize_0f7a4_13 rfl (by decide) (by first | exact lvOK_0 | exact lvOK_s rfl okPrev_none | exact lvOK_s rfl okPrev_int | exact lvOK_s rfl okPrev_ref | exact lvOK_s rfl okPrev_null) ?_
  dsimp only [List.set]
  refine j_iconst X (1) dJ6_stringSize_0f7a4_14 (by decide) ?_
  refine j_istore_n X (i := 3) dJ6_stringSize_0f7a4_15 rfl (by decide) (by first | exact lvOK_0 | exact lvOK_s rfl okPrev_none | exact lvOK_s rfl okPrev_int | exact lvOK_s rfl okPrev_ref | exact lvOK_s rfl okPrev_null) ?_
  dsimp only [List.set]
  refine j_iload_n X (i := 3) dJ6_stringSize_0f7a4_16 rfl rfl ?_
  refine j_bipush X (10) dJ6_stringSize_0f7a4_17 (by decide) ?_
  refine j_icmp_ge X (tgt := 42) dJ6_stringSize_0f7a4_19 (by decide) (fun h => absurd h (by decide)) (fun _ => ?_)
  refine j_iload_n X (i := 0) dJ6_stringSize_0f7a4_22 rfl rfl ?_
  refine j_iload_n X (i := 2) dJ6_stringSize_0f7a4_23 rfl rfl ?_
  refine j_icmp_le X (tgt := 31) dJ6_stringSize_0f7a4_24 (by decide) (fun h => ?_) (fun h => ?_)
  · have hx2 : ¬ x < 10 := fun h7 => neg_b x h7 h
    refine j_bipush X (10) dJ6_stringSize_0f7a4_31 (by decide) ?_
    refine j_iload_n X (i := 2) dJ6_stringSize_0f7a4_33 rfl rfl ?_
    refine j_imul X dJ6_stringSize_0f7a4_34 ?_
    refine j_istore_n X (i := 2) dJ6_stringSize_0f7a4_35 rfl (by decide) (by first | exact lvOK_0 | exact lvOK_s rfl okPrev_none | exact lvOK_s rfl okPrev_int | exact lvOK_s rfl okPrev_ref | exact lvOK_s rfl okPrev_null) ?_
    dsimp only [List.set]
    refine j_iinc X (2) dJ6_stringSize_0f7a4_36 rfl (by decide) (by decide) (by first | exact lvOK_0 | exact lvOK_s rfl okPrev_none | exact lvOK_s rfl okPrev_int | exact lvOK_s rfl okPrev_ref | exact lvOK_s rfl okPrev_null) ?_
    dsimp only [List.set]
    refine j_goto X (tgt := 16) dJ6_stringSize_0f7a4_39 (by decide) ?_
    refine j_iload_n X (i := 3) dJ6_stringSize_0f7a4_16 rfl rfl ?_
    refine j_bipush X (10) dJ6_stringSize_0f7a4_17 (by decide) ?_
    refine j_icmp_ge X (tgt := 42) dJ6_stringSize_0f7a4_19 (by decide) (fun h => absurd h (by decide)) (fun _ => ?_)
    refine j_iload_n X (i := 0) dJ6_stringSize_0f7a4_22 rfl rfl ?_
    refine j_iload_n X (i := 2) dJ6_stringSize_0f7a4_23 rfl rfl ?_
    refine j_icmp_le X (tgt := 31) dJ6_stringSize_0f7a4_24 (by decide) (fun h => absurd h (neg_c x hx)) (fun _ => ?_)
    refine j_iload_n X (i := 3) dJ6_stringSize_0f7a4_27 rfl rfl ?_
    refine j_iload_n X (i := 1) dJ6_stringSize_0f7a4_28 rfl rfl ?_
    refine j_iadd X dJ6_stringSize_0f7a4_29 ?_
    exact q_iret X hQ dJ6_stringSize_0f7a4_30 rfl ⟨(by decide), (by decide)⟩ ⟨rfl, rfl, by unfold dlen; rw [if_neg hx2]; rfl⟩
  · have hx2 : x < 10 := Nat.not_le.mp (fun h7 => h (neg_b2 x hx h7))
    refine j_iload_n X (i := 3) dJ6_stringSize_0f7a4_27 rfl rfl ?_
    refine j_iload_n X (i := 1) dJ6_stringSize_0f7a4_28 rfl rfl ?_
    refine j_iadd X dJ6_stringSize_0f7a4_29 ?_
    exact q_iret X hQ dJ6_stringSize_0f7a4_30 rfl ⟨(by decide), (by decide)⟩ ⟨rfl, rfl, by unfold dlen; rw [if_pos hx2]; rfl⟩
set_option maxRecDepth 100000 in
set_option maxHeartbeats 4000000 in
theorem c_getChars {l : Launch} (hl : l.stackTraces = false) {G : GG} {L : List Nat} {f : Nat → va_E} {x idx r cap : Nat} {g : Nat → Int32} (hx : x < 100) (hi : dlen x ≤ idx) (hic : idx ≤ cap) (hcap : cap ≤ 802) (hr : r ∈ L) (hfr : f r = aB G cap g) : Ct l G yJ6_getChars_ba4f3 (.code yJ6_getChars_ba4f3 cJ6_getChars_ba4f3 7 (some .int)) 0 0 0 0 [.int (nI x), .int (nI idx), .ref r] L f px0 (stay L (fun r9 f1 => (∃ v : Int32, r9 = some (.int v)) ∧ f1 = va_up f r (aB G cap (numW g x idx)))) := by
  have hd1 : 1 ≤ dlen x := by unfold dlen; split <;> omega
  refine Ct.ofq (own := RJ6) hl rfl (by decide) [some (.int (nI x)), some (.int (nI idx)), some (.ref r), none, none, none, none] rfl (Nat.le_of_ble_eq_true rfl) ?_
  intro p e s m below meth c A ar Q hQ X
  have hE := X.2.2.2.2.2.2.2.2.2.1
  obtain ⟨-, hx1, hx2, hx3, hx4, -⟩ := hE.2.2.2.2.2.2.2.2.2.2
  refine j_iload_n X (i := 1) dJ6_getChars_ba4f3_0 rfl rfl ?_
  refine j_istore X (i := 5) dJ6_getChars_ba4f3_1 (by decide) (by first | exact lvOK_0 | exact lvOK_s rfl okPrev_none | exact lvOK_s rfl okPrev_int | exact lvOK_s rfl okPrev_ref | exact lvOK_s rfl okPrev_null) ?_
  dsimp only [List.set]
  refine j_iload_n X (i := 0) dJ6_getChars_ba4f3_3 rfl rfl ?_
  refine j_if_ge X (tgt := 11) dJ6_getChars_ba4f3_4 (by decide) (fun _ => ?_) (fun h => absurd (nI_pos' (by omega)) h)
  refine j_iconst X (0) dJ6_getChars_ba4f3_11 (by decide) ?_
  refine j_istore X (i := 6) dJ6_getChars_ba4f3_12 (by decide) (by first | exact lvOK_0 | exact lvOK_s rfl okPrev_none | exact lvOK_s rfl okPrev_int | exact lvOK_s rfl okPrev_ref | exact lvOK_s rfl okPrev_null) ?_
  dsimp only [List.set]
  refine j_iload X (i := 6) dJ6_getChars_ba4f3_14 rfl ?_
  refine j_if_ne X (tgt := 22) dJ6_getChars_ba4f3_16 (by decide) (fun h => absurd rfl h) (fun _ => ?_)
  refine j_iload_n X (i := 0) dJ6_getChars_ba4f3_19 rfl rfl ?_
  refine j_ineg X dJ6_getChars_ba4f3_20 ?_
  refine j_istore_n X (i := 0) dJ6_getChars_ba4f3_21 rfl (by decide) (by first | exact lvOK_0 | exact lvOK_s rfl okPrev_none | exact lvOK_s rfl okPrev_int | exact lvOK_s rfl okPrev_ref | exact lvOK_s rfl okPrev_null) ?_
  dsimp only [List.set]
  refine j_iload_n X (i := 0) dJ6_getChars_ba4f3_22 rfl rfl ?_
  refine j_bipush X (-100) dJ6_getChars_ba4f3_23 (by decide) ?_
  refine j_icmp_gt X (tgt := 72) dJ6_getChars_ba4f3_25 (by decide) (fun _ => ?_) (fun h => absurd (neg_a x hx) h)
  refine j_aload_n X (i := 2) dJ6_getChars_ba4f3_72 rfl rfl ?_
  refine j_iinc X (nI (idx - 1)) dJ6_getChars_ba4f3_73 rfl (nI_dec (by omega)) (by decide) (by first | exact lvOK_0 | exact lvOK_s rfl okPrev_none | exact lvOK_s rfl okPrev_int | exact lvOK_s rfl okPrev_ref | exact lvOK_s rfl okPrev_null) ?_
  dsimp only [List.set]
  refine j_iload X (i := 5) dJ6_getChars_ba4f3_76 rfl ?_
  refine j_gets X hx1 fl_J6_83 dJ6_getChars_ba4f3_78 ?_
  refine j_iload_n X (i := 0) dJ6_getChars_ba4f3_81 rfl rfl ?_
  refine j_ineg X dJ6_getChars_ba4f3_82 ?_
  rw [Int32.neg_neg]
  refine j_tb X hx2 (nI_in hx (by omega)) rfl dJ6_getChars_ba4f3_83 ?_
  rw [nI_clamp (by omega)]
  refine j_bast X dJ6_getChars_ba4f3_84 hr hfr (nI_in (by omega) (by omega)) ?_
  rw [nI_clamp (by omega), (dg_nar x hx).1]
  refine j_iload_n X (i := 0) dJ6_getChars_ba4f3_85 rfl rfl ?_
  refine j_bipush X (-9) dJ6_getChars_ba4f3_86 (by decide) ?_
  refine j_icmp_ge X (tgt := 104) dJ6_getChars_ba4f3_88 (by decide) (fun h => ?_) (fun h => ?_)
  · have hx5 : x < 10 := Nat.not_le.mp (fun h7 => neg_d2 x hx h7 h)
    refine j_iload X (i := 6) dJ6_getChars_ba4f3_104 rfl ?_
    refine j_if_eq X (tgt := 118) dJ6_getChars_ba4f3_106 (by decide) (fun _ => ?_) (fun h => absurd rfl h)
    refine j_iload X (i := 5) dJ6_getChars_ba4f3_118 rfl ?_
    exact q_iret X hQ dJ6_getChars_ba4f3_120 rfl ⟨(by decide), (by decide)⟩ ⟨rfl, ⟨_, rfl⟩, by unfold numW; rw [if_pos hx5]⟩
  · have hx5 : ¬ x < 10 := fun h7 => h (neg_d x h7)
    have hidx : 2 ≤ idx := by unfold dlen at hi; rw [if_neg hx5] at hi; exact hi
    refine j_aload_n X (i := 2) dJ6_getChars_ba4f3_91 rfl rfl ?_
    refine j_iinc X (nI (idx - 1 - 1)) dJ6_getChars_ba4f3_92 rfl (nI_dec (by omega)) (by decide) (by first | exact lvOK_0 | exact lvOK_s rfl okPrev_none | exact lvOK_s rfl okPrev_int | exact lvOK_s rfl okPrev_ref | exact lvOK_s rfl okPrev_null) ?_
    dsimp only [List.set]
    refine j_iload X (i := 5) dJ6_getChars_ba4f3_95 rfl ?_
    refine j_gets X hx3 fl_J6_87 dJ6_getChars_ba4f3_97 ?_
    refine j_iload_n X (i := 0) dJ6_getChars_ba4f3_100 rfl rfl ?_
    refine j_ineg X dJ6_getChars_ba4f3_101 ?_
    rw [Int32.neg_neg]
    refine j_tb X hx4 (nI_in hx (by omega)) rfl dJ6_getChars_ba4f3_102 ?_
    rw [nI_clamp (by omega)]
    refine j_bast X dJ6_getChars_ba4f3_103 hr up_s (nI_in (by omega) (by omega)) ?_
    rw [nI_clamp (by omega), (dg_nar x hx).2.1, up_up]
    refine j_iload X (i := 6) dJ6_getChars_ba4f3_104 rfl ?_
    refine j_if_eq X (tgt := 118) dJ6_getChars_ba4f3_106 (by decide) (fun _ => ?_) (fun h => absurd rfl h)
    refine j_iload X (i := 5) dJ6_getChars_ba4f3_118 rfl ?_
    exact q_iret X hQ dJ6_getChars_ba4f3_120 rfl ⟨(by decide), (by decide)⟩ ⟨rfl, ⟨_, rfl⟩, by unfold numW; rw [if_neg hx5, Nat.sub_sub]⟩
