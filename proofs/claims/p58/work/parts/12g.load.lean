/-! the law's load, by contract -/
def mvN (G : GG) (p : Nat) : Nat := if dN G (1 + p) 6 = 0 then 0 else 1 + dN G (4 + p) 6
def tOpt (G : GG) (i k j n : Nat) : List Nat := if dN G k 2 = 0 then txB i ++ numT (dN G j n) else []
def tP (G : GG) (p : Nat) : List Nat := txB 47 ++ numT (mvN G p) ++ txB 48 ++ numT (5 + dN G (7 + p) 90) ++ tOpt G 49 (10 + p) (13 + p) 9 ++ tOpt G 50 (16 + p) (19 + p) 6 ++ tOpt G 51 (22 + p) (25 + p) 9 ++ txB 52
def tPs (G : GG) : Nat → Nat → List Nat
  | 0, _ => []
  | w + 1, p => tP G p ++ (if mvN G p = 0 then [] else tPs G w (p + 1))
def mdN (G : GG) : Nat → Nat → Nat
  | 0, _ => 0
  | w + 1, p => 1 + (if mvN G p = 0 then 0 else mdN G w (p + 1))
def tEx (G : GG) : List Nat := if dN G 28 2 = 0 then txB 53 ++ numT (1 + dN G 29 3) ++ txB 48 ++ numT (2 + dN G 30 20) ++ txB 52 else []
def tSe (G : GG) : List Nat := if dN G 31 2 = 0 then txB 54 ++ numT (1 + dN G 32 80) ++ txB 52 else []
def tHa (G : GG) : List Nat := if dN G 33 3 = 0 then txB 55 ++ numT (1 + dN G 34 20) ++ txB 52 else []
def tCl (G : GG) : List Nat := if dN G 35 2 = 0 then txB 56 else []
def nPs (G : GG) : Nat := 1 + dN G 0 3
def TXT (G : GG) : List Nat := tPs G (nPs G) 0 ++ tEx G ++ tSe G ++ tHa G ++ tCl G
def MD (G : GG) : Nat := mdN G (nPs G) 0
def hndV (G : GG) : Int32 := if dN G 33 3 = 0 then nI (1 + dN G 34 20) else 0
def clmV (G : GG) : Int32 := if dN G 35 2 = 0 then 1 else 0
/-- what load's calls answer over that text -/
def LDP (G : GG) (N : Nat) (a a4 : Mem) : Prop := ∃ (v : Int32) (a1 a2 a3 : Mem) (x0 : Int32), (∀ w k : Nat, fFeed (mkG G w k (TXT G)) N 50 0 0 a = some (v, a1)) ∧ f_X8_truncate (if nI (TXT G).length < v then nI (TXT G).length else v) a1 = some (.ok a2) ∧ f_X8_load N a2 = some (nI (MD G), a3) ∧ f_X8_errorCode a3 = 0 ∧ f_X8_property 2 a3 = some (.ok (nI (MD G))) ∧ f_X8_property 0 a3 = some (.ok 0) ∧ f_X8_property 10 a3 = some (.ok (clmV G)) ∧ f_X8_side 0 0 a3 = some (.ok x0) ∧ f_X8_period 0 1 a3 = some (.ok x0) ∧ f_X8_side 1 0 a3 = some (.ok (x0 + hndV G)) ∧ f_X8_start a3 = some (.ok (0, a4))
theorem numT_2 (x : Nat) : (numT x).length ≤ 2 := by
  rw [numT_len]
  unfold dlen
  split <;> omega
theorem txl_47 : (txB 47).length = 13 := by decide +kernel
theorem txl_48 : (txB 48).length = 6 := by decide +kernel
theorem txl_49 : (txB 49).length = 7 := by decide +kernel
theorem txl_50 : (txB 50).length = 7 := by decide +kernel
theorem txl_51 : (txB 51).length = 6 := by decide +kernel
theorem txl_52 : (txB 52).length = 1 := by decide +kernel
theorem txl_53 : (txB 53).length = 6 := by decide +kernel
theorem txl_54 : (txB 54).length = 8 := by decide +kernel
theorem txl_55 : (txB 55).length = 11 := by decide +kernel
theorem txl_56 : (txB 56).length = 7 := by decide +kernel
theorem tOpt_l (G : GG) (i k j n : Nat) (h : (txB i).length ≤ 7) : (tOpt G i k j n).length ≤ 9 := by
  unfold tOpt
  split
  · rw [List.length_append]
    have := numT_2 (dN G j n)
    omega
  · exact Nat.zero_le _
theorem tP_l (G : GG) (p : Nat) : (tP G p).length ≤ 51 := by
  unfold tP
  simp only [List.length_append, txl_47, txl_48, txl_52]
  have h1 := numT_2 (mvN G p)
  have h2 := numT_2 (5 + dN G (7 + p) 90)
  have h3 := tOpt_l G 49 (10 + p) (13 + p) 9 (by rw [txl_49]; omega)
  have h4 := tOpt_l G 50 (16 + p) (19 + p) 6 (by rw [txl_50]; omega)
  have h5 := tOpt_l G 51 (22 + p) (25 + p) 9 (by rw [txl_51]; omega)
  omega
theorem tPs_l (G : GG) : ∀ w p, (tPs G w p).length ≤ 51 * w := by
  intro w
  induction w with
  | zero => intro p; exact Nat.zero_le _
  | succ w ih =>
    intro p
    show (tP G p ++ _).length ≤ _
    rw [List.length_append]
    have h1 := tP_l G p
    split
    · simp only [List.length_nil]
      omega
    · have := ih (p + 1)
      omega
theorem str_len47 : strLn 47 = 13 ∧ strLn 48 = 6 ∧ strLn 49 = 7 ∧ strLn 50 = 7 ∧ strLn 51 = 6 ∧ strLn 52 = 1 ∧ strLn 53 = 6 ∧ strLn 54 = 8 ∧ strLn 55 = 11 ∧ strLn 56 = 7 := by decide +kernel
theorem sb_make {G : GG} {B : List Nat} {h : Nat → va_E} {q k : Nat} (hq : q ∉ B) (hk : k ∉ B ++ [q]) : SBW G B h q [] 0 (B ++ [q] ++ [k]) (va_up (va_up (va_up h q (.inr (10, df10))) k (aB G 16 z0)) q (oSB k 0)) := by
  have hkB : k ∉ B := fun h9 => hk (List.mem_append_left _ h9)
  have hqk : k ≠ q := fun h9 => hk (h9 ▸ List.mem_append_right _ (List.mem_singleton.mpr rfl))
  refine ⟨[q] ++ [k], k, 16, z0, List.append_assoc _ _ _, fun x hx => ?_, List.mem_append_left _ (List.mem_append_right _ (List.mem_singleton.mpr rfl)), hq, List.mem_append_right _ (List.mem_singleton.mpr rfl), hkB, up_s, up_n hqk up_s, Nat.zero_le _, Nat.zero_le _, by omega, z0_fit, fun j hj => absurd hj (Nat.not_lt_zero _)⟩
  exact up_n (nq_of hq hx) (up_n (nq_of hkB hx) (up_n (nq_of hq hx) rfl))
theorem nI_z {x n : Nat} (hx : x < n) (h : nI x = 0) (hn : n < 1000000 := by omega) : x = 0 := by
  have h2 := congrArg Int32.toInt h
  rw [nI_toInt (by omega)] at h2
  have e0 : (0 : Int32).toInt = 0 := rfl
  rw [e0] at h2
  omega
set_option maxRecDepth 100000 in
set_option maxHeartbeats 8000000 in
theorem m_load {l : Launch} (hl : l.stackTraces = false) {G : GG} {B : List Nat} (hO : LOK B) {a b c a4 : Mem} {N : Nat} (hs : sLn G ≤ 1000) (hasc : ∀ j, (TXT G).getD j 0 < 128) (hD : LDP G N a a4) : Ct l G yL_load (.code yL_load cL_load 7 (some .boolean)) 11 260 200 60000 [.ref (ad B 0), .ref (G.2.2.1 100)] B (FW G B a b c) px0 (fun r L1 f1 => r = some (.int 1) ∧ L1 = B ∧ f1 = FW G B a4 b c) := by
  obtain ⟨v, a1, a2, a3, x0, hF, hTr, hLd, hEr, hP2, hP0, hP10, hS0, hPe, hS1, hSt⟩ := hD
  refine Ct.ofq (own := RL) hl rfl (by decide) [some (.ref (ad B 0)), some (.ref (G.2.2.1 100)), none, none, none, none, none] rfl (Nat.le_of_ble_eq_true rfl) ?_
  intro p e s m below meth c9 A ar Q hQ X
  have dl : ∀ x, dlen x ≤ 2 := fun x => by unfold dlen; split <;> omega
  have n3 := dN_lt G 0 (n := 3) (by omega) (by omega)
  have hnp : nPs G ≤ 3 := by unfold nPs; omega
  have hPl : (tPs G (nPs G) 0).length ≤ 153 := by have := tPs_l G (nPs G) 0; omega
  have hEl : (tEx G).length ≤ 17 := by
    unfold tEx
    split
    · have d1 := dl (1 + dN G 29 3)
      have d2 := dl (2 + dN G 30 20)
      simp only [List.length_append, txl_53, txl_48, txl_52, numT_len]
      omega
    · exact Nat.zero_le _
  have hSl : (tSe G).length ≤ 11 := by
    unfold tSe
    split
    · have d1 := dl (1 + dN G 32 80)
      simp only [List.length_append, txl_54, txl_52, numT_len]
      omega
    · exact Nat.zero_le _
  have hHl : (tHa G).length ≤ 14 := by
    unfold tHa
    split
    · have d1 := dl (1 + dN G 34 20)
      simp only [List.length_append, txl_55, txl_52, numT_len]
      omega
    · exact Nat.zero_le _
  have hCl : (tCl G).length ≤ 7 := by
    unfold tCl
    split
    · rw [txl_56]
      omega
    · exact Nat.zero_le _
  have hTl : (TXT G).length ≤ 202 := by
    unfold TXT
    simp only [List.length_append]
    omega
  have hT0 : 0 < (TXT G).length := by
    unfold TXT
    simp only [List.length_append]
    have e : nPs G = dN G 0 3 + 1 := Nat.add_comm _ _
    have : 0 < (tPs G (nPs G) 0).length := by
      rw [e]
      show 0 < (tP G 0 ++ _).length
      rw [List.length_append]
      unfold tP
      simp only [List.length_append, txl_52]
      omega
    omega
  have dla := dl (1 + dN G 29 3)
  have dlb := dl (2 + dN G 30 20)
  have dlc := dl (1 + dN G 32 80)
  have dld := dl (1 + dN G 34 20)
  refine j_iconst X (1) dL_load_0 (by decide) ?_
  refine j_aload_n X (i := 1) dL_load_1 rfl rfl ?_
  refine j_iconst X (0) dL_load_2 (by decide) ?_
  refine j_iconst X (3) dL_load_3 (by decide) ?_
  refine j_drw X hl (k := 0) (n := 3) hs (by omega) (by omega) (by omega) ml_L_40 dL_load_4 ⟨(by decide), (by decide)⟩ ⟨(by dsimp only; omega), (by dsimp only; omega)⟩ (Nat.le_of_ble_eq_true rfl) ?_
  refine j_iadd X dL_load_7 ?_
  rw [show (1 : Int32) + nI (dN G 0 3) = nI (nPs G) from nI_add 1 _]
  refine j_istore_n X (i := 2) dL_load_8 rfl (by decide) (by first | exact lvOK_0 | exact lvOK_s rfl okPrev_none | exact lvOK_s rfl okPrev_int | exact lvOK_s rfl okPrev_ref | exact lvOK_s rfl okPrev_null) ?_
  dsimp only [List.set]
  refine j_new X 10 cw_J4 tyJ4 tyJ4_ok cl_L_44 is_J4 in_J4 rfl df10_ok ⟨(by dsimp only; omega), (by dsimp only; omega)⟩ dL_load_9 (fun q hq => ?_)
  refine j_dup X dL_load_12 rfl ?_
  refine j_callI X (c_sbI hl (List.mem_append_right _ (List.mem_singleton.mpr rfl)) up_s) ml_L_46 im_yJ4_init_da8c8 in_J4 cd_yJ4_init_da8c8 rfl hz_yJ4_init_da8c8 dL_load_13 ⟨(by decide), (by decide)⟩ ⟨(by dsimp only; omega), (by dsimp only; omega)⟩ (Nat.le_of_ble_eq_true rfl) (fun _ h => h.elim) (fun r9 L9 f9 h9 => ?_)
  obtain ⟨rfl, k1, hk1, rfl, rfl⟩ := h9
  dsimp only [Option.toList, List.cons_append, List.nil_append, List.append]
  have hS := sb_make (G := G) (h := FW G B a b c) hq hk1
  have k358 : ∀ (m1 : Nat) (L1 : List Nat) (f1 : Nat → va_E) (v5 v6 : Option Value), SBW G B (FW G B a b c) q (TXT G) m1 L1 f1 → J G p l e { frames := 11, cells := 200, slots := 60000, locals := 260 } s m ar below meth c9 A Q 7 (80) (50000) 358 [some (.ref (ad B 0)), some (.ref (G.2.2.1 100)), some (.int (nI (nPs G))), some (.ref q), some (.int (nI (MD G))), v5, v6] [] L1 f1 := by
    intro m1 L1 f1 v5 v6 hS
    obtain ⟨hq, r, n, hf⟩ := hS.q
    refine j_aload_n X (i := 0) dL_load_358 rfl rfl ?_
    refine j_aload_n X (i := 3) dL_load_359 rfl rfl ?_
    refine j_callV0 X 10 (c_toStr hl hS) ml_L_73 im_yJ4_toString_0e30d se_yJ4_toString_0e30d in_J4 cd_yJ4_toString_0e30d hy_yJ4_toString_0e30d dL_load_360 rfl hq hf ⟨(by decide), (by decide)⟩ ⟨(by dsimp only; omega), (by dsimp only; omega)⟩ (Nat.le_of_ble_eq_true rfl) (fun _ h => h.elim) (fun r9 L9 f9 h9 => ?_)
    obtain ⟨w, rfl, hT⟩ := h9
    dsimp only [Option.toList, List.cons_append, List.nil_append, List.append]
    refine j_feed X hl hO hs hT (by omega) (by omega) hasc hF hTr ml_L_77 dL_load_363 ⟨(by decide), (by decide)⟩ ⟨(by dsimp only; omega), (by dsimp only; omega)⟩ (Nat.le_of_ble_eq_true rfl) ?_
    refine j_aload_n X (i := 0) dL_load_366 rfl rfl ?_
    refine j_callV0 X 8 (m_X8_load hl hO hLd) ml_L_81 im_yX8_load se_yX8_load in_X8 cd_yX8_load hy_yX8_load dL_load_367 rfl (inL hO t_0 (by decide)) (FW8 hO t_0) ⟨(by decide), (by decide)⟩ ⟨(by dsimp only; omega), (by dsimp only; omega)⟩ (Nat.le_of_ble_eq_true rfl) (fun _ h => h.elim) (fun r9 L9 f9 h9 => ?_)
    obtain ⟨h91, h92, h93⟩ := h9
    subst r9
    subst f9
    subst L9
    dsimp only [Option.toList, List.cons_append, List.nil_append, List.append]
    refine j_iload X (i := 4) dL_load_370 rfl ?_
    refine j_icmp_ne X (tgt := 424) dL_load_372 (by decide) (fun h => absurd rfl h) (fun _ => ?_)
    refine j_aload_n X (i := 0) dL_load_375 rfl rfl ?_
    refine j_callV0 X 8 (m_X8_errorCode hl hO hEr) ml_L_84 im_yX8_errorCode se_yX8_errorCode in_X8 cd_yX8_errorCode hy_yX8_errorCode dL_load_376 rfl (inL hO t_0 (by decide)) (FW8 hO t_0) ⟨(by decide), (by decide)⟩ ⟨(by dsimp only; omega), (by dsimp only; omega)⟩ (Nat.le_of_ble_eq_true rfl) (fun _ h => h.elim) (fun r9 L9 f9 h9 => ?_)
    obtain ⟨h91, h92, h93⟩ := h9
    subst r9
    subst f9
    subst L9
    dsimp only [Option.toList, List.cons_append, List.nil_append, List.append]
    refine j_if_ne X (tgt := 424) dL_load_379 (by decide) (fun h => absurd rfl h) (fun _ => ?_)
    refine j_aload_n X (i := 0) dL_load_382 rfl rfl ?_
    refine j_iconst X (2) dL_load_383 (by decide) ?_
    refine j_callV1 X 8 (m_X8_property hl hO hP2) ml_L_87 im_yX8_property se_yX8_property in_X8 cd_yX8_property hy_yX8_property dL_load_384 rfl (inL hO t_0 (by decide)) (FW8 hO t_0) ⟨(by decide), (by decide)⟩ ⟨(by dsimp only; omega), (by dsimp only; omega)⟩ (Nat.le_of_ble_eq_true rfl) (fun E hE => by obtain ⟨n9, hn9, -⟩ := hE; cases hn9) (fun r9 L9 f9 h9 => ?_)
    obtain ⟨h91, v9, hk9, h92, h93⟩ := h9
    cases hk9
    subst r9
    subst f9
    subst L9
    dsimp only [Option.toList, List.cons_append, List.nil_append, List.append]
    refine j_iload X (i := 4) dL_load_387 rfl ?_
    refine j_icmp_ne X (tgt := 424) dL_load_389 (by decide) (fun h => absurd rfl h) (fun _ => ?_)
    refine j_aload_n X (i := 0) dL_load_392 rfl rfl ?_
    refine j_iconst X (0) dL_load_393 (by decide) ?_
    refine j_callV1 X 8 (m_X8_property hl hO hP0) ml_L_87 im_yX8_property se_yX8_property in_X8 cd_yX8_property hy_yX8_property dL_load_394 rfl (inL hO t_0 (by decide)) (FW8 hO t_0) ⟨(by decide), (by decide)⟩ ⟨(by dsimp only; omega), (by dsimp only; omega)⟩ (Nat.le_of_ble_eq_true rfl) (fun E hE => by obtain ⟨n9, hn9, -⟩ := hE; cases hn9) (fun r9 L9 f9 h9 => ?_)
    obtain ⟨h91, v9, hk9, h92, h93⟩ := h9
    cases hk9
    subst r9
    subst f9
    subst L9
    dsimp only [Option.toList, List.cons_append, List.nil_append, List.append]
    refine j_if_ne X (tgt := 424) dL_load_397 (by decide) (fun h => absurd rfl h) (fun _ => ?_)
    refine j_aload_n X (i := 0) dL_load_400 rfl rfl ?_
    refine j_bipush X (10) dL_load_401 (by decide) ?_
    refine j_callV1 X 8 (m_X8_property hl hO hP10) ml_L_87 im_yX8_property se_yX8_property in_X8 cd_yX8_property hy_yX8_property dL_load_403 rfl (inL hO t_0 (by decide)) (FW8 hO t_0) ⟨(by decide), (by decide)⟩ ⟨(by dsimp only; omega), (by dsimp only; omega)⟩ (Nat.le_of_ble_eq_true rfl) (fun E hE => by obtain ⟨n9, hn9, -⟩ := hE; cases hn9) (fun r9 L9 f9 h9 => ?_)
    obtain ⟨h91, v9, hk9, h92, h93⟩ := h9
    cases hk9
    subst r9
    subst f9
    subst L9
    dsimp only [Option.toList, List.cons_append, List.nil_append, List.append]
    refine j_aload_n X (i := 1) dL_load_406 rfl rfl ?_
    refine j_bipush X (35) dL_load_407 (by decide) ?_
    refine j_iconst X (2) dL_load_409 (by decide) ?_
    refine j_drw X hl (k := 35) (n := 2) hs (by omega) (by omega) (by omega) ml_L_40 dL_load_410 ⟨(by decide), (by decide)⟩ ⟨(by dsimp only; omega), (by dsimp only; omega)⟩ (Nat.le_of_ble_eq_true rfl) ?_
    have k426 : J G p l e { frames := 11, cells := 200, slots := 60000, locals := 260 } s m ar below meth c9 A Q 7 (150) (55000) 426 [some (.ref (ad B 0)), some (.ref (G.2.2.1 100)), some (.int (nI (nPs G))), some (.ref q), some (.int (nI (MD G))), v5, v6] [] B (FW G B a3 b c) := by
      refine j_aload_n X (i := 0) dL_load_426 rfl rfl ?_
      refine j_iconst X (0) dL_load_427 (by decide) ?_
      refine j_iconst X (0) dL_load_428 (by decide) ?_
      refine j_callV2 X 8 (m_X8_side hl hO hS0) ml_L_91 im_yX8_side se_yX8_side in_X8 cd_yX8_side hy_yX8_side dL_load_429 rfl (inL hO t_0 (by decide)) (FW8 hO t_0) ⟨(by decide), (by decide)⟩ ⟨(by dsimp only; omega), (by dsimp only; omega)⟩ (Nat.le_of_ble_eq_true rfl) (fun E hE => by obtain ⟨n9, hn9, -⟩ := hE; cases hn9) (fun r9 L9 f9 h9 => ?_)
      obtain ⟨h91, v9, hk9, h92, h93⟩ := h9
      cases hk9
      subst r9
      subst f9
      subst L9
      dsimp only [Option.toList, List.cons_append, List.nil_append, List.append]
      refine j_aload_n X (i := 0) dL_load_432 rfl rfl ?_
      refine j_iconst X (0) dL_load_433 (by decide) ?_
      refine j_iconst X (1) dL_load_434 (by decide) ?_
      refine j_callV2 X 8 (m_X8_period hl hO hPe) ml_L_94 im_yX8_period se_yX8_period in_X8 cd_yX8_period hy_yX8_period dL_load_435 rfl (inL hO t_0 (by decide)) (FW8 hO t_0) ⟨(by decide), (by decide)⟩ ⟨(by dsimp only; omega), (by dsimp only; omega)⟩ (Nat.le_of_ble_eq_true rfl) (fun E hE => by obtain ⟨n9, hn9, -⟩ := hE; cases hn9) (fun r9 L9 f9 h9 => ?_)
      obtain ⟨h91, v9, hk9, h92, h93⟩ := h9
      cases hk9
      subst r9
      subst f9
      subst L9
      dsimp only [Option.toList, List.cons_append, List.nil_append, List.append]
      refine j_icmp_ne X (tgt := 492) dL_load_438 (by decide) (fun h => absurd rfl h) (fun _ => ?_)
      refine j_aload_n X (i := 0) dL_load_441 rfl rfl ?_
      refine j_iconst X (1) dL_load_442 (by decide) ?_
      refine j_iconst X (0) dL_load_443 (by decide) ?_
      refine j_callV2 X 8 (m_X8_side hl hO hS1) ml_L_91 im_yX8_side se_yX8_side in_X8 cd_yX8_side hy_yX8_side dL_load_444 rfl (inL hO t_0 (by decide)) (FW8 hO t_0) ⟨(by decide), (by decide)⟩ ⟨(by dsimp only; omega), (by dsimp only; omega)⟩ (Nat.le_of_ble_eq_true rfl) (fun E hE => by obtain ⟨n9, hn9, -⟩ := hE; cases hn9) (fun r9 L9 f9 h9 => ?_)
      obtain ⟨h91, v9, hk9, h92, h93⟩ := h9
      cases hk9
      subst r9
      subst f9
      subst L9
      dsimp only [Option.toList, List.cons_append, List.nil_append, List.append]
      refine j_aload_n X (i := 0) dL_load_447 rfl rfl ?_
      refine j_iconst X (0) dL_load_448 (by decide) ?_
      refine j_iconst X (1) dL_load_449 (by decide) ?_
      refine j_callV2 X 8 (m_X8_period hl hO hPe) ml_L_94 im_yX8_period se_yX8_period in_X8 cd_yX8_period hy_yX8_period dL_load_450 rfl (inL hO t_0 (by decide)) (FW8 hO t_0) ⟨(by decide), (by decide)⟩ ⟨(by dsimp only; omega), (by dsimp only; omega)⟩ (Nat.le_of_ble_eq_true rfl) (fun E hE => by obtain ⟨n9, hn9, -⟩ := hE; cases hn9) (fun r9 L9 f9 h9 => ?_)
      obtain ⟨h91, v9, hk9, h92, h93⟩ := h9
      cases hk9
      subst r9
      subst f9
      subst L9
      dsimp only [Option.toList, List.cons_append, List.nil_append, List.append]
      refine j_aload_n X (i := 1) dL_load_453 rfl rfl ?_
      refine j_bipush X (33) dL_load_454 (by decide) ?_
      refine j_iconst X (3) dL_load_456 (by decide) ?_
      refine j_drw X hl (k := 33) (n := 3) hs (by omega) (by omega) (by omega) ml_L_40 dL_load_457 ⟨(by decide), (by decide)⟩ ⟨(by dsimp only; omega), (by dsimp only; omega)⟩ (Nat.le_of_ble_eq_true rfl) ?_
      have k477 : J G p l e { frames := 11, cells := 200, slots := 60000, locals := 260 } s m ar below meth c9 A Q 7 (170) (56000) 477 [some (.ref (ad B 0)), some (.ref (G.2.2.1 100)), some (.int (nI (nPs G))), some (.ref q), some (.int (nI (MD G))), v5, v6] [.int (hndV G), .int x0, .int (x0 + hndV G)] B (FW G B a3 b c) := by
        refine j_iadd X dL_load_477 ?_
        refine j_icmp_ne X (tgt := 492) dL_load_478 (by decide) (fun h => absurd rfl h) (fun _ => ?_)
        refine j_aload_n X (i := 0) dL_load_481 rfl rfl ?_
        refine j_callV0 X 8 (m_X8_start hl hO hSt) ml_L_97 im_yX8_start se_yX8_start in_X8 cd_yX8_start hy_yX8_start dL_load_482 rfl (inL hO t_0 (by decide)) (FW8 hO t_0) ⟨(by decide), (by decide)⟩ ⟨(by dsimp only; omega), (by dsimp only; omega)⟩ (Nat.le_of_ble_eq_true rfl) (fun E hE => by obtain ⟨n9, hn9, -⟩ := hE; cases hn9) (fun r9 L9 f9 h9 => ?_)
        obtain ⟨h91, v9, a9, hk9, h92, h93⟩ := h9
        cases hk9
        subst r9
        subst f9
        subst L9
        dsimp only [Option.toList, List.cons_append, List.nil_append, List.append]
        refine j_if_ne X (tgt := 492) dL_load_485 (by decide) (fun h => absurd rfl h) (fun _ => ?_)
        refine j_iconst X (1) dL_load_488 (by decide) ?_
        refine j_goto X (tgt := 493) dL_load_489 (by decide) ?_
        exact q_zret X hQ dL_load_493 rfl rfl ⟨(by omega), (by omega)⟩ ⟨rfl, rfl, rfl⟩
      refine j_if_ne X (tgt := 476) dL_load_460 (by decide) (fun h => ?_) (fun h => ?_)
      · have h7 : hndV G = 0 := by unfold hndV; rw [if_neg (fun h6 => h (by rw [h6]; rfl))]
        rw [h7] at k477 ⊢
        refine j_iconst X (0) dL_load_476 (by decide) ?_
        refine J.widen (c1 := 170) (s1 := 56000) (by omega) (by omega) ?_
        exact k477
      · have h8 : dN G 33 3 = 0 := nI_z (dN_lt G 33 (n := 3) (by omega) (by omega)) h
        have h7 : hndV G = nI (1 + dN G 34 20) := by unfold hndV; rw [if_pos h8]
        rw [h7] at k477 ⊢
        refine j_iconst X (1) dL_load_463 (by decide) ?_
        refine j_aload_n X (i := 1) dL_load_464 rfl rfl ?_
        refine j_bipush X (34) dL_load_465 (by decide) ?_
        refine j_bipush X (20) dL_load_467 (by decide) ?_
        refine j_drw X hl (k := 34) (n := 20) hs (by omega) (by omega) (by omega) ml_L_40 dL_load_469 ⟨(by decide), (by decide)⟩ ⟨(by dsimp only; omega), (by dsimp only; omega)⟩ (Nat.le_of_ble_eq_true rfl) ?_
        refine j_iadd X dL_load_472 ?_
        rw [show (1 : Int32) + nI (dN G 34 20) = nI (1 + dN G 34 20) from nI_add 1 _]
        refine j_goto X (tgt := 477) dL_load_473 (by decide) ?_
        refine J.widen (c1 := 170) (s1 := 56000) (by omega) (by omega) ?_
        exact k477
    refine j_if_ne X (tgt := 420) dL_load_413 (by decide) (fun h => ?_) (fun h => ?_)
    · have h7 : clmV G = 0 := by unfold clmV; rw [if_neg (fun h6 => h (by rw [h6]; rfl))]
      rw [h7]
      refine j_iconst X (0) dL_load_420 (by decide) ?_
      refine j_icmp_eq X (tgt := 426) dL_load_421 (by decide) (fun _ => ?_) (fun h => absurd rfl h)
      refine J.widen (c1 := 150) (s1 := 55000) (by omega) (by omega) ?_
      exact k426
    · have h8 : dN G 35 2 = 0 := nI_z (dN_lt G 35 (n := 2) (by omega) (by omega)) h
      have h7 : clmV G = 1 := by unfold clmV; rw [if_pos h8]
      rw [h7]
      refine j_iconst X (1) dL_load_416 (by decide) ?_
      refine j_goto X (tgt := 421) dL_load_417 (by decide) ?_
      refine j_icmp_eq X (tgt := 426) dL_load_421 (by decide) (fun _ => ?_) (fun h => absurd rfl h)
      refine J.widen (c1 := 150) (s1 := 55000) (by omega) (by omega) ?_
      exact k426
  have k341 : ∀ (m1 : Nat) (L1 : List Nat) (f1 : Nat → va_E) (v5 v6 : Option Value), SBW G B (FW G B a b c) q (tPs G (nPs G) 0 ++ tEx G ++ tSe G ++ tHa G) m1 L1 f1 → J G p l e { frames := 11, cells := 200, slots := 60000, locals := 260 } s m ar below meth c9 A Q 7 (76) (46000) 341 [some (.ref (ad B 0)), some (.ref (G.2.2.1 100)), some (.int (nI (nPs G))), some (.ref q), some (.int (nI (MD G))), v5, v6] [] L1 f1 := by
    intro m1 L1 f1 v5 v6 hS
    refine j_aload_n X (i := 1) dL_load_341 rfl rfl ?_
    refine j_bipush X (35) dL_load_342 (by decide) ?_
    refine j_iconst X (2) dL_load_344 (by decide) ?_
    refine j_drw X hl (k := 35) (n := 2) hs (by omega) (by omega) (by omega) ml_L_40 dL_load_345 ⟨(by decide), (by decide)⟩ ⟨(by dsimp only; omega), (by dsimp only; omega)⟩ (Nat.le_of_ble_eq_true rfl) ?_
    refine j_if_ne X (tgt := 358) dL_load_348 (by decide) (fun h => ?_) (fun h => ?_)
    · have h7 : tCl G = [] := by unfold tCl; rw [if_neg (fun h6 => h (by rw [h6]; rfl))]
      refine J.widen (c1 := 80) (s1 := 50000) (by omega) (by omega) ?_
      refine k358 m1 _ _ _ _ ?_
      try unfold TXT
      rw [h7, List.append_nil]
      exact hS
    · have h8 : dN G 35 2 = 0 := nI_z (dN_lt G 35 (n := 2) (by omega) (by omega)) h
      have hl0 : (tPs G (nPs G) 0 ++ tEx G ++ tSe G ++ tHa G).length ≤ 195 := by rw [List.length_append, List.length_append, List.length_append]; omega
      refine j_aload_n X (i := 3) dL_load_351 rfl rfl ?_
      refine j_ldcS X 56 dL_load_352 rfl ?_
      refine j_appS X hl (i := 56) (by omega) (by simp only [List.length_append, txl_47, txl_48, txl_49, txl_50, txl_51, txl_52, txl_53, txl_54, txl_55, txl_56, numT_len, str_len47.1, str_len47.2.1, str_len47.2.2.1, str_len47.2.2.2.1, str_len47.2.2.2.2.1, str_len47.2.2.2.2.2.1, str_len47.2.2.2.2.2.2.1, str_len47.2.2.2.2.2.2.2.1, str_len47.2.2.2.2.2.2.2.2.1, str_len47.2.2.2.2.2.2.2.2.2]; omega) hS ml_L_49 dL_load_354 ⟨(by decide), (by decide)⟩ ⟨(by dsimp only; omega), (by dsimp only; omega)⟩ (Nat.le_of_ble_eq_true rfl) (fun L2 f2 hS2 => ?_)
      replace hS := hS2
      clear hS2
      refine j_pop X dL_load_357 rfl ?_
      refine J.widen (c1 := 80) (s1 := 50000) (by omega) (by omega) ?_
      refine k358 0 _ _ _ _ ?_
      try unfold TXT
      unfold tCl
      rw [if_pos h8]
      simp only [List.append_assoc] at hS ⊢
      exact hS
  have k306 : ∀ (m1 : Nat) (L1 : List Nat) (f1 : Nat → va_E) (v5 v6 : Option Value), SBW G B (FW G B a b c) q (tPs G (nPs G) 0 ++ tEx G ++ tSe G) m1 L1 f1 → J G p l e { frames := 11, cells := 200, slots := 60000, locals := 260 } s m ar below meth c9 A Q 7 (72) (43000) 306 [some (.ref (ad B 0)), some (.ref (G.2.2.1 100)), some (.int (nI (nPs G))), some (.ref q), some (.int (nI (MD G))), v5, v6] [] L1 f1 := by
    intro m1 L1 f1 v5 v6 hS
    refine j_aload_n X (i := 1) dL_load_306 rfl rfl ?_
    refine j_bipush X (33) dL_load_307 (by decide) ?_
    refine j_iconst X (3) dL_load_309 (by decide) ?_
    refine j_drw X hl (k := 33) (n := 3) hs (by omega) (by omega) (by omega) ml_L_40 dL_load_310 ⟨(by decide), (by decide)⟩ ⟨(by dsimp only; omega), (by dsimp only; omega)⟩ (Nat.le_of_ble_eq_true rfl) ?_
    refine j_if_ne X (tgt := 341) dL_load_313 (by decide) (fun h => ?_) (fun h => ?_)
    · have h7 : tHa G = [] := by unfold tHa; rw [if_neg (fun h6 => h (by rw [h6]; rfl))]
      refine J.widen (c1 := 76) (s1 := 46000) (by omega) (by omega) ?_
      refine k341 m1 _ _ _ _ ?_
      try unfold TXT
      rw [h7, List.append_nil]
      exact hS
    · have h8 : dN G 33 3 = 0 := nI_z (dN_lt G 33 (n := 3) (by omega) (by omega)) h
      have hl0 : (tPs G (nPs G) 0 ++ tEx G ++ tSe G).length ≤ 181 := by rw [List.length_append, List.length_append]; omega
      refine j_aload_n X (i := 3) dL_load_316 rfl rfl ?_
      refine j_ldcS X 55 dL_load_317 rfl ?_
      refine j_appS X hl (i := 55) (by omega) (by simp only [List.length_append, txl_47, txl_48, txl_49, txl_50, txl_51, txl_52, txl_53, txl_54, txl_55, txl_56, numT_len, str_len47.1, str_len47.2.1, str_len47.2.2.1, str_len47.2.2.2.1, str_len47.2.2.2.2.1, str_len47.2.2.2.2.2.1, str_len47.2.2.2.2.2.2.1, str_len47.2.2.2.2.2.2.2.1, str_len47.2.2.2.2.2.2.2.2.1, str_len47.2.2.2.2.2.2.2.2.2]; omega) hS ml_L_49 dL_load_319 ⟨(by decide), (by decide)⟩ ⟨(by dsimp only; omega), (by dsimp only; omega)⟩ (Nat.le_of_ble_eq_true rfl) (fun L2 f2 hS2 => ?_)
      replace hS := hS2
      clear hS2
      refine j_iconst X (1) dL_load_322 (by decide) ?_
      refine j_aload_n X (i := 1) dL_load_323 rfl rfl ?_
      refine j_bipush X (34) dL_load_324 (by decide) ?_
      refine j_bipush X (20) dL_load_326 (by decide) ?_
      refine j_drw X hl (k := 34) (n := 20) hs (by omega) (by omega) (by omega) ml_L_40 dL_load_328 ⟨(by decide), (by decide)⟩ ⟨(by dsimp only; omega), (by dsimp only; omega)⟩ (Nat.le_of_ble_eq_true rfl) ?_
      refine j_iadd X dL_load_331 ?_
      rw [show (1 : Int32) + nI (dN G 34 20) = nI (1 + dN G 34 20) from nI_add 1 _]
      refine j_appI X hl (x := 1 + dN G 34 20) (by have := dN_lt G 34 (n := 20) (by omega) (by omega); omega) (by simp only [List.length_append, txl_47, txl_48, txl_49, txl_50, txl_51, txl_52, txl_53, txl_54, txl_55, txl_56, numT_len, str_len47.1, str_len47.2.1, str_len47.2.2.1, str_len47.2.2.2.1, str_len47.2.2.2.2.1, str_len47.2.2.2.2.2.1, str_len47.2.2.2.2.2.2.1, str_len47.2.2.2.2.2.2.2.1, str_len47.2.2.2.2.2.2.2.2.1, str_len47.2.2.2.2.2.2.2.2.2]; omega) hS ml_L_52 dL_load_332 ⟨(by decide), (by decide)⟩ ⟨(by dsimp only; omega), (by dsimp only; omega)⟩ (Nat.le_of_ble_eq_true rfl) (fun L2 f2 hS2 => ?_)
      replace hS := hS2
      clear hS2
      refine j_ldcS X 52 dL_load_335 rfl ?_
      refine j_appS X hl (i := 52) (by omega) (by simp only [List.length_append, txl_47, txl_48, txl_49, txl_50, txl_51, txl_52, txl_53, txl_54, txl_55, txl_56, numT_len, str_len47.1, str_len47.2.1, str_len47.2.2.1, str_len47.2.2.2.1, str_len47.2.2.2.2.1, str_len47.2.2.2.2.2.1, str_len47.2.2.2.2.2.2.1, str_len47.2.2.2.2.2.2.2.1, str_len47.2.2.2.2.2.2.2.2.1, str_len47.2.2.2.2.2.2.2.2.2]; omega) hS ml_L_49 dL_load_337 ⟨(by decide), (by decide)⟩ ⟨(by dsimp only; omega), (by dsimp only; omega)⟩ (Nat.le_of_ble_eq_true rfl) (fun L2 f2 hS2 => ?_)
      replace hS := hS2
      clear hS2
      refine j_pop X dL_load_340 rfl ?_
      refine J.widen (c1 := 76) (s1 := 46000) (by omega) (by omega) ?_
      refine k341 0 _ _ _ _ ?_
      try unfold TXT
      unfold tHa
      rw [if_pos h8]
      simp only [List.append_assoc] at hS ⊢
      exact hS
  have k271 : ∀ (m1 : Nat) (L1 : List Nat) (f1 : Nat → va_E) (v5 v6 : Option Value), SBW G B (FW G B a b c) q (tPs G (nPs G) 0 ++ tEx G) m1 L1 f1 → J G p l e { frames := 11, cells := 200, slots := 60000, locals := 260 } s m ar below meth c9 A Q 7 (68) (40000) 271 [some (.ref (ad B 0)), some (.ref (G.2.2.1 100)), some (.int (nI (nPs G))), some (.ref q), some (.int (nI (MD G))), v5, v6] [] L1 f1 := by
    intro m1 L1 f1 v5 v6 hS
    refine j_aload_n X (i := 1) dL_load_271 rfl rfl ?_
    refine j_bipush X (31) dL_load_272 (by decide) ?_
    refine j_iconst X (2) dL_load_274 (by decide) ?_
    refine j_drw X hl (k := 31) (n := 2) hs (by omega) (by omega) (by omega) ml_L_40 dL_load_275 ⟨(by decide), (by decide)⟩ ⟨(by dsimp only; omega), (by dsimp only; omega)⟩ (Nat.le_of_ble_eq_true rfl) ?_
    refine j_if_ne X (tgt := 306) dL_load_278 (by decide) (fun h => ?_) (fun h => ?_)
    · have h7 : tSe G = [] := by unfold tSe; rw [if_neg (fun h6 => h (by rw [h6]; rfl))]
      refine J.widen (c1 := 72) (s1 := 43000) (by omega) (by omega) ?_
      refine k306 m1 _ _ _ _ ?_
      try unfold TXT
      rw [h7, List.append_nil]
      exact hS
    · have h8 : dN G 31 2 = 0 := nI_z (dN_lt G 31 (n := 2) (by omega) (by omega)) h
      have hl0 : (tPs G (nPs G) 0 ++ tEx G).length ≤ 170 := by rw [List.length_append]; omega
      refine j_aload_n X (i := 3) dL_load_281 rfl rfl ?_
      refine j_ldcS X 54 dL_load_282 rfl ?_
      refine j_appS X hl (i := 54) (by omega) (by simp only [List.length_append, txl_47, txl_48, txl_49, txl_50, txl_51, txl_52, txl_53, txl_54, txl_55, txl_56, numT_len, str_len47.1, str_len47.2.1, str_len47.2.2.1, str_len47.2.2.2.1, str_len47.2.2.2.2.1, str_len47.2.2.2.2.2.1, str_len47.2.2.2.2.2.2.1, str_len47.2.2.2.2.2.2.2.1, str_len47.2.2.2.2.2.2.2.2.1, str_len47.2.2.2.2.2.2.2.2.2]; omega) hS ml_L_49 dL_load_284 ⟨(by decide), (by decide)⟩ ⟨(by dsimp only; omega), (by dsimp only; omega)⟩ (Nat.le_of_ble_eq_true rfl) (fun L2 f2 hS2 => ?_)
      replace hS := hS2
      clear hS2
      refine j_iconst X (1) dL_load_287 (by decide) ?_
      refine j_aload_n X (i := 1) dL_load_288 rfl rfl ?_
      refine j_bipush X (32) dL_load_289 (by decide) ?_
      refine j_bipush X (80) dL_load_291 (by decide) ?_
      refine j_drw X hl (k := 32) (n := 80) hs (by omega) (by omega) (by omega) ml_L_40 dL_load_293 ⟨(by decide), (by decide)⟩ ⟨(by dsimp only; omega), (by dsimp only; omega)⟩ (Nat.le_of_ble_eq_true rfl) ?_
      refine j_iadd X dL_load_296 ?_
      rw [show (1 : Int32) + nI (dN G 32 80) = nI (1 + dN G 32 80) from nI_add 1 _]
      refine j_appI X hl (x := 1 + dN G 32 80) (by have := dN_lt G 32 (n := 80) (by omega) (by omega); omega) (by simp only [List.length_append, txl_47, txl_48, txl_49, txl_50, txl_51, txl_52, txl_53, txl_54, txl_55, txl_56, numT_len, str_len47.1, str_len47.2.1, str_len47.2.2.1, str_len47.2.2.2.1, str_len47.2.2.2.2.1, str_len47.2.2.2.2.2.1, str_len47.2.2.2.2.2.2.1, str_len47.2.2.2.2.2.2.2.1, str_len47.2.2.2.2.2.2.2.2.1, str_len47.2.2.2.2.2.2.2.2.2]; omega) hS ml_L_52 dL_load_297 ⟨(by decide), (by decide)⟩ ⟨(by dsimp only; omega), (by dsimp only; omega)⟩ (Nat.le_of_ble_eq_true rfl) (fun L2 f2 hS2 => ?_)
      replace hS := hS2
      clear hS2
      refine j_ldcS X 52 dL_load_300 rfl ?_
      refine j_appS X hl (i := 52) (by omega) (by simp only [List.length_append, txl_47, txl_48, txl_49, txl_50, txl_51, txl_52, txl_53, txl_54, txl_55, txl_56, numT_len, str_len47.1, str_len47.2.1, str_len47.2.2.1, str_len47.2.2.2.1, str_len47.2.2.2.2.1, str_len47.2.2.2.2.2.1, str_len47.2.2.2.2.2.2.1, str_len47.2.2.2.2.2.2.2.1, str_len47.2.2.2.2.2.2.2.2.1, str_len47.2.2.2.2.2.2.2.2.2]; omega) hS ml_L_49 dL_load_302 ⟨(by decide), (by decide)⟩ ⟨(by dsimp only; omega), (by dsimp only; omega)⟩ (Nat.le_of_ble_eq_true rfl) (fun L2 f2 hS2 => ?_)
      replace hS := hS2
      clear hS2
      refine j_pop X dL_load_305 rfl ?_
      refine J.widen (c1 := 72) (s1 := 43000) (by omega) (by omega) ?_
      refine k306 0 _ _ _ _ ?_
      try unfold TXT
      unfold tSe
      rw [if_pos h8]
      simp only [List.append_assoc] at hS ⊢
      exact hS
  have k219 : ∀ (m1 : Nat) (L1 : List Nat) (f1 : Nat → va_E) (v5 v6 : Option Value), SBW G B (FW G B a b c) q (tPs G (nPs G) 0) m1 L1 f1 → J G p l e { frames := 11, cells := 200, slots := 60000, locals := 260 } s m ar below meth c9 A Q 7 (62) (35000) 219 [some (.ref (ad B 0)), some (.ref (G.2.2.1 100)), some (.int (nI (nPs G))), some (.ref q), some (.int (nI (MD G))), v5, v6] [] L1 f1 := by
    intro m1 L1 f1 v5 v6 hS
    refine j_aload_n X (i := 1) dL_load_219 rfl rfl ?_
    refine j_bipush X (28) dL_load_220 (by decide) ?_
    refine j_iconst X (2) dL_load_222 (by decide) ?_
    refine j_drw X hl (k := 28) (n := 2) hs (by omega) (by omega) (by omega) ml_L_40 dL_load_223 ⟨(by decide), (by decide)⟩ ⟨(by dsimp only; omega), (by dsimp only; omega)⟩ (Nat.le_of_ble_eq_true rfl) ?_
    refine j_if_ne X (tgt := 271) dL_load_226 (by decide) (fun h => ?_) (fun h => ?_)
    · have h7 : tEx G = [] := by unfold tEx; rw [if_neg (fun h6 => h (by rw [h6]; rfl))]
      refine J.widen (c1 := 68) (s1 := 40000) (by omega) (by omega) ?_
      refine k271 m1 _ _ _ _ ?_
      try unfold TXT
      rw [h7, List.append_nil]
      exact hS
    · have h8 : dN G 28 2 = 0 := nI_z (dN_lt G 28 (n := 2) (by omega) (by omega)) h
      have hl0 : (tPs G (nPs G) 0).length ≤ 153 := hPl
      refine j_aload_n X (i := 3) dL_load_229 rfl rfl ?_
      refine j_ldcS X 53 dL_load_230 rfl ?_
      refine j_appS X hl (i := 53) (by omega) (by simp only [List.length_append, txl_47, txl_48, txl_49, txl_50, txl_51, txl_52, txl_53, txl_54, txl_55, txl_56, numT_len, str_len47.1, str_len47.2.1, str_len47.2.2.1, str_len47.2.2.2.1, str_len47.2.2.2.2.1, str_len47.2.2.2.2.2.1, str_len47.2.2.2.2.2.2.1, str_len47.2.2.2.2.2.2.2.1, str_len47.2.2.2.2.2.2.2.2.1, str_len47.2.2.2.2.2.2.2.2.2]; omega) hS ml_L_49 dL_load_232 ⟨(by decide), (by decide)⟩ ⟨(by dsimp only; omega), (by dsimp only; omega)⟩ (Nat.le_of_ble_eq_true rfl) (fun L2 f2 hS2 => ?_)
      replace hS := hS2
      clear hS2
      refine j_iconst X (1) dL_load_235 (by decide) ?_
      refine j_aload_n X (i := 1) dL_load_236 rfl rfl ?_
      refine j_bipush X (29) dL_load_237 (by decide) ?_
      refine j_iconst X (3) dL_load_239 (by decide) ?_
      refine j_drw X hl (k := 29) (n := 3) hs (by omega) (by omega) (by omega) ml_L_40 dL_load_240 ⟨(by decide), (by decide)⟩ ⟨(by dsimp only; omega), (by dsimp only; omega)⟩ (Nat.le_of_ble_eq_true rfl) ?_
      refine j_iadd X dL_load_243 ?_
      rw [show (1 : Int32) + nI (dN G 29 3) = nI (1 + dN G 29 3) from nI_add 1 _]
      refine j_appI X hl (x := 1 + dN G 29 3) (by have := dN_lt G 29 (n := 3) (by omega) (by omega); omega) (by simp only [List.length_append, txl_47, txl_48, txl_49, txl_50, txl_51, txl_52, txl_53, txl_54, txl_55, txl_56, numT_len, str_len47.1, str_len47.2.1, str_len47.2.2.1, str_len47.2.2.2.1, str_len47.2.2.2.2.1, str_len47.2.2.2.2.2.1, str_len47.2.2.2.2.2.2.1, str_len47.2.2.2.2.2.2.2.1, str_len47.2.2.2.2.2.2.2.2.1, str_len47.2.2.2.2.2.2.2.2.2]; omega) hS ml_L_52 dL_load_244 ⟨(by decide), (by decide)⟩ ⟨(by dsimp only; omega), (by dsimp only; omega)⟩ (Nat.le_of_ble_eq_true rfl) (fun L2 f2 hS2 => ?_)
      replace hS := hS2
      clear hS2
      refine j_ldcS X 48 dL_load_247 rfl ?_
      refine j_appS X hl (i := 48) (by omega) (by simp only [List.length_append, txl_47, txl_48, txl_49, txl_50, txl_51, txl_52, txl_53, txl_54, txl_55, txl_56, numT_len, str_len47.1, str_len47.2.1, str_len47.2.2.1, str_len47.2.2.2.1, str_len47.2.2.2.2.1, str_len47.2.2.2.2.2.1, str_len47.2.2.2.2.2.2.1, str_len47.2.2.2.2.2.2.2.1, str_len47.2.2.2.2.2.2.2.2.1, str_len47.2.2.2.2.2.2.2.2.2]; omega) hS ml_L_49 dL_load_249 ⟨(by decide), (by decide)⟩ ⟨(by dsimp only; omega), (by dsimp only; omega)⟩ (Nat.le_of_ble_eq_true rfl) (fun L2 f2 hS2 => ?_)
      replace hS := hS2
      clear hS2
      refine j_iconst X (2) dL_load_252 (by decide) ?_
      refine j_aload_n X (i := 1) dL_load_253 rfl rfl ?_
      refine j_bipush X (30) dL_load_254 (by decide) ?_
      refine j_bipush X (20) dL_load_256 (by decide) ?_
      refine j_drw X hl (k := 30) (n := 20) hs (by omega) (by omega) (by omega) ml_L_40 dL_load_258 ⟨(by decide), (by decide)⟩ ⟨(by dsimp only; omega), (by dsimp only; omega)⟩ (Nat.le_of_ble_eq_true rfl) ?_
      refine j_iadd X dL_load_261 ?_
      rw [show (2 : Int32) + nI (dN G 30 20) = nI (2 + dN G 30 20) from nI_add 2 _]
      refine j_appI X hl (x := 2 + dN G 30 20) (by have := dN_lt G 30 (n := 20) (by omega) (by omega); omega) (by simp only [List.length_append, txl_47, txl_48, txl_49, txl_50, txl_51, txl_52, txl_53, txl_54, txl_55, txl_56, numT_len, str_len47.1, str_len47.2.1, str_len47.2.2.1, str_len47.2.2.2.1, str_len47.2.2.2.2.1, str_len47.2.2.2.2.2.1, str_len47.2.2.2.2.2.2.1, str_len47.2.2.2.2.2.2.2.1, str_len47.2.2.2.2.2.2.2.2.1, str_len47.2.2.2.2.2.2.2.2.2]; omega) hS ml_L_52 dL_load_262 ⟨(by decide), (by decide)⟩ ⟨(by dsimp only; omega), (by dsimp only; omega)⟩ (Nat.le_of_ble_eq_true rfl) (fun L2 f2 hS2 => ?_)
      replace hS := hS2
      clear hS2
      refine j_ldcS X 52 dL_load_265 rfl ?_
      refine j_appS X hl (i := 52) (by omega) (by simp only [List.length_append, txl_47, txl_48, txl_49, txl_50, txl_51, txl_52, txl_53, txl_54, txl_55, txl_56, numT_len, str_len47.1, str_len47.2.1, str_len47.2.2.1, str_len47.2.2.2.1, str_len47.2.2.2.2.1, str_len47.2.2.2.2.2.1, str_len47.2.2.2.2.2.2.1, str_len47.2.2.2.2.2.2.2.1, str_len47.2.2.2.2.2.2.2.2.1, str_len47.2.2.2.2.2.2.2.2.2]; omega) hS ml_L_49 dL_load_267 ⟨(by decide), (by decide)⟩ ⟨(by dsimp only; omega), (by dsimp only; omega)⟩ (Nat.le_of_ble_eq_true rfl) (fun L2 f2 hS2 => ?_)
      replace hS := hS2
      clear hS2
      refine j_pop X dL_load_270 rfl ?_
      refine J.widen (c1 := 68) (s1 := 40000) (by omega) (by omega) ?_
      refine k271 0 _ _ _ _ ?_
      try unfold TXT
      unfold tEx
      rw [if_pos h8]
      simp only [List.append_assoc] at hS ⊢
      exact hS
  have kloop : ∀ (w p1 c1 s1 : Nat) (t : List Nat) (m1 : Nat) (L0 : List Nat) (f0 : Nat → va_E) (v6 : Option Value), p1 + w = nPs G → c1 + 12 * w ≤ 60 → s1 + 9624 * w ≤ 34000 → t.length ≤ 51 * p1 → t ++ tPs G w p1 = tPs G (nPs G) 0 → p1 + mdN G w p1 = MD G → SBW G B (FW G B a b c) q t m1 L0 f0 → J G p l e { frames := 11, cells := 200, slots := 60000, locals := 260 } s m ar below meth c9 A Q 7 (c1) (s1) 23 [some (.ref (ad B 0)), some (.ref (G.2.2.1 100)), some (.int (nI (nPs G))), some (.ref q), some (.int (nI p1)), some (.int (nI p1)), v6] [] L0 f0 := by
    intro w
    induction w with
    | zero =>
      intro p1 c1 s1 t m1 L0 f0 v6 hp1 hc1 hs1 htl ht1 hm1 hS0
      refine j_iload X (i := 5) dL_load_23 rfl ?_
      refine j_iload_n X (i := 2) dL_load_25 rfl rfl ?_
      refine j_icmp_ge X (tgt := 219) dL_load_26 (by decide) (fun _ => ?_) (fun h => absurd (nI_le (by omega) (by omega)) h)
      refine J.widen (c1 := 62) (s1 := 35000) (by omega) (by omega) ?_
      have e1 : t = tPs G (nPs G) 0 := by rw [← ht1]; exact (List.append_nil t).symm
      have e2 : p1 = MD G := by rw [← hm1]; rfl
      rw [e1] at hS0
      rw [e2]
      exact k219 m1 _ _ _ _ hS0
    | succ w ih =>
      intro p1 c1 s1 t m1 L0 f0 v6 hp1 hc1 hs1 htl ht1 hm1 hS0
      have hmv : mvN G p1 ≤ 6 := by
        unfold mvN
        have := dN_lt G (4 + p1) (n := 6) (by omega) (by omega)
        split <;> omega
      have o1 := tOpt_l G 49 (10 + p1) (13 + p1) 9 (by rw [txl_49]; omega)
      have o2 := tOpt_l G 50 (16 + p1) (19 + p1) 6 (by rw [txl_50]; omega)
      have o3 := tOpt_l G 51 (22 + p1) (25 + p1) 9 (by rw [txl_51]; omega)
      have hT1 : (t ++ txB 47 ++ numT (mvN G p1) ++ txB 48 ++ numT (5 + dN G (7 + p1) 90)).length ≤ 180 := by
        simp only [List.length_append, txl_47, txl_48, numT_len]
        have d1 := dl (mvN G p1)
        have d2 := dl (5 + dN G (7 + p1) 90)
        omega
      have dlm := dl (mvN G p1)
      have dlx := dl (5 + dN G (7 + p1) 90)
      have dly := dl (dN G (13 + p1) 9)
      have dlz := dl (dN G (19 + p1) 6)
      have dlw := dl (dN G (25 + p1) 9)
      have k195 : ∀ (m1 : Nat) (L1 : List Nat) (f1 : Nat → va_E), SBW G B (FW G B a b c) q (t ++ txB 47 ++ numT (mvN G p1) ++ txB 48 ++ numT (5 + dN G (7 + p1) 90) ++ tOpt G 49 (10 + p1) (13 + p1) 9 ++ tOpt G 50 (16 + p1) (19 + p1) 6 ++ tOpt G 51 (22 + p1) (25 + p1) 9) m1 L1 f1 → J G p l e { frames := 11, cells := 200, slots := 60000, locals := 260 } s m ar below meth c9 A Q 7 (c1 + 11) (s1 + 8822) 195 [some (.ref (ad B 0)), some (.ref (G.2.2.1 100)), some (.int (nI (nPs G))), some (.ref q), some (.int (nI p1)), some (.int (nI p1)), some (.int (nI (mvN G p1)))] [] L1 f1 := by
        intro m1 L1 f1 hS
        refine j_aload_n X (i := 3) dL_load_195 rfl rfl ?_
        refine j_ldcS X 52 dL_load_196 rfl ?_
        have hl9 : (t ++ txB 47 ++ numT (mvN G p1) ++ txB 48 ++ numT (5 + dN G (7 + p1) 90) ++ tOpt G 49 (10 + p1) (13 + p1) 9 ++ tOpt G 50 (16 + p1) (19 + p1) 6 ++ tOpt G 51 (22 + p1) (25 + p1) 9).length ≤ 300 := by rw [List.length_append, List.length_append, List.length_append]; omega
        refine j_appS X hl (i := 52) (by omega) (by simp only [List.length_append, txl_47, txl_48, txl_49, txl_50, txl_51, txl_52, txl_53, txl_54, txl_55, txl_56, numT_len, str_len47.1, str_len47.2.1, str_len47.2.2.1, str_len47.2.2.2.1, str_len47.2.2.2.2.1, str_len47.2.2.2.2.2.1, str_len47.2.2.2.2.2.2.1, str_len47.2.2.2.2.2.2.2.1, str_len47.2.2.2.2.2.2.2.2.1, str_len47.2.2.2.2.2.2.2.2.2]; omega) hS ml_L_49 dL_load_198 ⟨(by decide), (by decide)⟩ ⟨(by dsimp only; omega), (by dsimp only; omega)⟩ (Nat.le_of_ble_eq_true rfl) (fun L2 f2 hS2 => ?_)
        replace hS := hS2
        clear hS2
        refine j_pop X dL_load_201 rfl ?_
        refine j_iinc X (nI (p1 + 1)) dL_load_202 rfl (nI_add p1 1) (by decide) (by first | exact lvOK_0 | exact lvOK_s rfl okPrev_none | exact lvOK_s rfl okPrev_int | exact lvOK_s rfl okPrev_ref | exact lvOK_s rfl okPrev_null) ?_
        dsimp only [List.set]
        refine j_iload X (i := 6) dL_load_205 rfl ?_
        have hS9 : SBW G B (FW G B a b c) q (t ++ tP G p1) 0 L2 f2 := by
          unfold tP
          simp only [List.append_assoc] at hS ⊢
          exact hS
        refine j_if_ne X (tgt := 213) dL_load_207 (by decide) (fun h => ?_) (fun h => ?_)
        · have h8 : ¬ mvN G p1 = 0 := fun h6 => h (by rw [h6]; rfl)
          refine j_iinc X (nI (p1 + 1)) dL_load_213 rfl (nI_add p1 1) (by decide) (by first | exact lvOK_0 | exact lvOK_s rfl okPrev_none | exact lvOK_s rfl okPrev_int | exact lvOK_s rfl okPrev_ref | exact lvOK_s rfl okPrev_null) ?_
          dsimp only [List.set]
          refine j_goto X (tgt := 23) dL_load_216 (by decide) ?_
          refine ih (p1 + 1) _ _ (t ++ tP G p1) 0 _ _ _ (by omega) (by omega) (by omega) (by rw [List.length_append]; have := tP_l G p1; omega) ?_ ?_ hS9
          · rw [← ht1, List.append_assoc]
            show _ = t ++ (tP G p1 ++ (if mvN G p1 = 0 then [] else tPs G w (p1 + 1)))
            rw [if_neg h8]
          · rw [← hm1]
            show _ = p1 + (1 + (if mvN G p1 = 0 then 0 else mdN G w (p1 + 1)))
            rw [if_neg h8]
            omega
        · have h8 : mvN G p1 = 0 := nI_z (n := 7) (by omega) h
          refine j_goto X (tgt := 219) dL_load_210 (by decide) ?_
          refine J.widen (c1 := 62) (s1 := 35000) (by omega) (by omega) ?_
          have e1 : t ++ tP G p1 = tPs G (nPs G) 0 := by
            rw [← ht1]
            show _ = t ++ (tP G p1 ++ (if mvN G p1 = 0 then [] else tPs G w (p1 + 1)))
            rw [if_pos h8, List.append_nil]
          have e2 : p1 + 1 = MD G := by
            rw [← hm1]
            show _ = p1 + (1 + (if mvN G p1 = 0 then 0 else mdN G w (p1 + 1)))
            rw [if_pos h8]
          rw [e1] at hS9
          rw [e2]
          exact k219 0 _ _ _ _ hS9
      have k161 : ∀ (m1 : Nat) (L1 : List Nat) (f1 : Nat → va_E), SBW G B (FW G B a b c) q (t ++ txB 47 ++ numT (mvN G p1) ++ txB 48 ++ numT (5 + dN G (7 + p1) 90) ++ tOpt G 49 (10 + p1) (13 + p1) 9 ++ tOpt G 50 (16 + p1) (19 + p1) 6) m1 L1 f1 → J G p l e { frames := 11, cells := 200, slots := 60000, locals := 260 } s m ar below meth c9 A Q 7 (c1 + 9) (s1 + 7218) 161 [some (.ref (ad B 0)), some (.ref (G.2.2.1 100)), some (.int (nI (nPs G))), some (.ref q), some (.int (nI p1)), some (.int (nI p1)), some (.int (nI (mvN G p1)))] [] L1 f1 := by
        intro m1 L1 f1 hS
        refine j_aload_n X (i := 1) dL_load_161 rfl rfl ?_
        refine j_bipush X (22) dL_load_162 (by decide) ?_
        refine j_iload X (i := 5) dL_load_164 rfl ?_
        refine j_iadd X dL_load_166 ?_
        rw [show (22 : Int32) + nI p1 = nI (22 + p1) from nI_add 22 p1]
        refine j_iconst X (2) dL_load_167 (by decide) ?_
        refine j_drw X hl (k := 22 + p1) (n := 2) hs (by omega) (by omega) (by omega) ml_L_40 dL_load_168 ⟨(by decide), (by decide)⟩ ⟨(by dsimp only; omega), (by dsimp only; omega)⟩ (Nat.le_of_ble_eq_true rfl) ?_
        refine j_if_ne X (tgt := 195) dL_load_171 (by decide) (fun h => ?_) (fun h => ?_)
        · have h7 : tOpt G 51 (22 + p1) (25 + p1) 9 = [] := by unfold tOpt; rw [if_neg (fun h6 => h (by rw [h6]; rfl))]
          refine J.widen (c1 := c1 + 11) (s1 := s1 + 8822) (by omega) (by omega) ?_
          refine k195 m1 _ _ ?_
          rw [h7, List.append_nil]
          exact hS
        · have h8 : dN G (22 + p1) 2 = 0 := nI_z (dN_lt G (22 + p1) (n := 2) (by omega) (by omega)) h
          have hl9 : (t ++ txB 47 ++ numT (mvN G p1) ++ txB 48 ++ numT (5 + dN G (7 + p1) 90) ++ tOpt G 49 (10 + p1) (13 + p1) 9 ++ tOpt G 50 (16 + p1) (19 + p1) 6).length ≤ 250 := by rw [List.length_append, List.length_append]; omega
          refine j_aload_n X (i := 3) dL_load_174 rfl rfl ?_
          refine j_ldcS X 51 dL_load_175 rfl ?_
          refine j_appS X hl (i := 51) (by omega) (by simp only [List.length_append, txl_47, txl_48, txl_49, txl_50, txl_51, txl_52, txl_53, txl_54, txl_55, txl_56, numT_len, str_len47.1, str_len47.2.1, str_len47.2.2.1, str_len47.2.2.2.1, str_len47.2.2.2.2.1, str_len47.2.2.2.2.2.1, str_len47.2.2.2.2.2.2.1, str_len47.2.2.2.2.2.2.2.1, str_len47.2.2.2.2.2.2.2.2.1, str_len47.2.2.2.2.2.2.2.2.2]; omega) hS ml_L_49 dL_load_177 ⟨(by decide), (by decide)⟩ ⟨(by dsimp only; omega), (by dsimp only; omega)⟩ (Nat.le_of_ble_eq_true rfl) (fun L2 f2 hS2 => ?_)
          replace hS := hS2
          clear hS2
          refine j_aload_n X (i := 1) dL_load_180 rfl rfl ?_
          refine j_bipush X (25) dL_load_181 (by decide) ?_
          refine j_iload X (i := 5) dL_load_183 rfl ?_
          refine j_iadd X dL_load_185 ?_
          rw [show (25 : Int32) + nI p1 = nI (25 + p1) from nI_add 25 p1]
          refine j_bipush X (9) dL_load_186 (by decide) ?_
          refine j_drw X hl (k := 25 + p1) (n := 9) hs (by omega) (by omega) (by omega) ml_L_40 dL_load_188 ⟨(by decide), (by decide)⟩ ⟨(by dsimp only; omega), (by dsimp only; omega)⟩ (Nat.le_of_ble_eq_true rfl) ?_
          refine j_appI X hl (x := dN G (25 + p1) 9) (by have := dN_lt G (25 + p1) (n := 9) (by omega) (by omega); omega) (by simp only [List.length_append, txl_47, txl_48, txl_49, txl_50, txl_51, txl_52, txl_53, txl_54, txl_55, txl_56, numT_len, str_len47.1, str_len47.2.1, str_len47.2.2.1, str_len47.2.2.2.1, str_len47.2.2.2.2.1, str_len47.2.2.2.2.2.1, str_len47.2.2.2.2.2.2.1, str_len47.2.2.2.2.2.2.2.1, str_len47.2.2.2.2.2.2.2.2.1, str_len47.2.2.2.2.2.2.2.2.2]; omega) hS ml_L_52 dL_load_191 ⟨(by decide), (by decide)⟩ ⟨(by dsimp only; omega), (by dsimp only; omega)⟩ (Nat.le_of_ble_eq_true rfl) (fun L2 f2 hS2 => ?_)
          replace hS := hS2
          clear hS2
          refine j_pop X dL_load_194 rfl ?_
          refine J.widen (c1 := c1 + 11) (s1 := s1 + 8822) (by omega) (by omega) ?_
          refine k195 0 _ _ ?_
          unfold tOpt
          rw [if_pos h8]
          simp only [List.append_assoc] at hS ⊢
          exact hS
      have k127 : ∀ (m1 : Nat) (L1 : List Nat) (f1 : Nat → va_E), SBW G B (FW G B a b c) q (t ++ txB 47 ++ numT (mvN G p1) ++ txB 48 ++ numT (5 + dN G (7 + p1) 90) ++ tOpt G 49 (10 + p1) (13 + p1) 9) m1 L1 f1 → J G p l e { frames := 11, cells := 200, slots := 60000, locals := 260 } s m ar below meth c9 A Q 7 (c1 + 7) (s1 + 5614) 127 [some (.ref (ad B 0)), some (.ref (G.2.2.1 100)), some (.int (nI (nPs G))), some (.ref q), some (.int (nI p1)), some (.int (nI p1)), some (.int (nI (mvN G p1)))] [] L1 f1 := by
        intro m1 L1 f1 hS
        refine j_aload_n X (i := 1) dL_load_127 rfl rfl ?_
        refine j_bipush X (16) dL_load_128 (by decide) ?_
        refine j_iload X (i := 5) dL_load_130 rfl ?_
        refine j_iadd X dL_load_132 ?_
        rw [show (16 : Int32) + nI p1 = nI (16 + p1) from nI_add 16 p1]
        refine j_iconst X (2) dL_load_133 (by decide) ?_
        refine j_drw X hl (k := 16 + p1) (n := 2) hs (by omega) (by omega) (by omega) ml_L_40 dL_load_134 ⟨(by decide), (by decide)⟩ ⟨(by dsimp only; omega), (by dsimp only; omega)⟩ (Nat.le_of_ble_eq_true rfl) ?_
        refine j_if_ne X (tgt := 161) dL_load_137 (by decide) (fun h => ?_) (fun h => ?_)
        · have h7 : tOpt G 50 (16 + p1) (19 + p1) 6 = [] := by unfold tOpt; rw [if_neg (fun h6 => h (by rw [h6]; rfl))]
          refine J.widen (c1 := c1 + 9) (s1 := s1 + 7218) (by omega) (by omega) ?_
          refine k161 m1 _ _ ?_
          rw [h7, List.append_nil]
          exact hS
        · have h8 : dN G (16 + p1) 2 = 0 := nI_z (dN_lt G (16 + p1) (n := 2) (by omega) (by omega)) h
          have hl9 : (t ++ txB 47 ++ numT (mvN G p1) ++ txB 48 ++ numT (5 + dN G (7 + p1) 90) ++ tOpt G 49 (10 + p1) (13 + p1) 9).length ≤ 250 := by rw [List.length_append]; omega
          refine j_aload_n X (i := 3) dL_load_140 rfl rfl ?_
          refine j_ldcS X 50 dL_load_141 rfl ?_
          refine j_appS X hl (i := 50) (by omega) (by simp only [List.length_append, txl_47, txl_48, txl_49, txl_50, txl_51, txl_52, txl_53, txl_54, txl_55, txl_56, numT_len, str_len47.1, str_len47.2.1, str_len47.2.2.1, str_len47.2.2.2.1, str_len47.2.2.2.2.1, str_len47.2.2.2.2.2.1, str_len47.2.2.2.2.2.2.1, str_len47.2.2.2.2.2.2.2.1, str_len47.2.2.2.2.2.2.2.2.1, str_len47.2.2.2.2.2.2.2.2.2]; omega) hS ml_L_49 dL_load_143 ⟨(by decide), (by decide)⟩ ⟨(by dsimp only; omega), (by dsimp only; omega)⟩ (Nat.le_of_ble_eq_true rfl) (fun L2 f2 hS2 => ?_)
          replace hS := hS2
          clear hS2
          refine j_aload_n X (i := 1) dL_load_146 rfl rfl ?_
          refine j_bipush X (19) dL_load_147 (by decide) ?_
          refine j_iload X (i := 5) dL_load_149 rfl ?_
          refine j_iadd X dL_load_151 ?_
          rw [show (19 : Int32) + nI p1 = nI (19 + p1) from nI_add 19 p1]
          refine j_bipush X (6) dL_load_152 (by decide) ?_
          refine j_drw X hl (k := 19 + p1) (n := 6) hs (by omega) (by omega) (by omega) ml_L_40 dL_load_154 ⟨(by decide), (by decide)⟩ ⟨(by dsimp only; omega), (by dsimp only; omega)⟩ (Nat.le_of_ble_eq_true rfl) ?_
          refine j_appI X hl (x := dN G (19 + p1) 6) (by have := dN_lt G (19 + p1) (n := 6) (by omega) (by omega); omega) (by simp only [List.length_append, txl_47, txl_48, txl_49, txl_50, txl_51, txl_52, txl_53, txl_54, txl_55, txl_56, numT_len, str_len47.1, str_len47.2.1, str_len47.2.2.1, str_len47.2.2.2.1, str_len47.2.2.2.2.1, str_len47.2.2.2.2.2.1, str_len47.2.2.2.2.2.2.1, str_len47.2.2.2.2.2.2.2.1, str_len47.2.2.2.2.2.2.2.2.1, str_len47.2.2.2.2.2.2.2.2.2]; omega) hS ml_L_52 dL_load_157 ⟨(by decide), (by decide)⟩ ⟨(by dsimp only; omega), (by dsimp only; omega)⟩ (Nat.le_of_ble_eq_true rfl) (fun L2 f2 hS2 => ?_)
          replace hS := hS2
          clear hS2
          refine j_pop X dL_load_160 rfl ?_
          refine J.widen (c1 := c1 + 9) (s1 := s1 + 7218) (by omega) (by omega) ?_
          refine k161 0 _ _ ?_
          unfold tOpt
          rw [if_pos h8]
          simp only [List.append_assoc] at hS ⊢
          exact hS
      have k93 : ∀ (m1 : Nat) (L1 : List Nat) (f1 : Nat → va_E), SBW G B (FW G B a b c) q (t ++ txB 47 ++ numT (mvN G p1) ++ txB 48 ++ numT (5 + dN G (7 + p1) 90)) m1 L1 f1 → J G p l e { frames := 11, cells := 200, slots := 60000, locals := 260 } s m ar below meth c9 A Q 7 (c1 + 5) (s1 + 4010) 93 [some (.ref (ad B 0)), some (.ref (G.2.2.1 100)), some (.int (nI (nPs G))), some (.ref q), some (.int (nI p1)), some (.int (nI p1)), some (.int (nI (mvN G p1)))] [] L1 f1 := by
        intro m1 L1 f1 hS
        refine j_aload_n X (i := 1) dL_load_93 rfl rfl ?_
        refine j_bipush X (10) dL_load_94 (by decide) ?_
        refine j_iload X (i := 5) dL_load_96 rfl ?_
        refine j_iadd X dL_load_98 ?_
        rw [show (10 : Int32) + nI p1 = nI (10 + p1) from nI_add 10 p1]
        refine j_iconst X (2) dL_load_99 (by decide) ?_
        refine j_drw X hl (k := 10 + p1) (n := 2) hs (by omega) (by omega) (by omega) ml_L_40 dL_load_100 ⟨(by decide), (by decide)⟩ ⟨(by dsimp only; omega), (by dsimp only; omega)⟩ (Nat.le_of_ble_eq_true rfl) ?_
        refine j_if_ne X (tgt := 127) dL_load_103 (by decide) (fun h => ?_) (fun h => ?_)
        · have h7 : tOpt G 49 (10 + p1) (13 + p1) 9 = [] := by unfold tOpt; rw [if_neg (fun h6 => h (by rw [h6]; rfl))]
          refine J.widen (c1 := c1 + 7) (s1 := s1 + 5614) (by omega) (by omega) ?_
          refine k127 m1 _ _ ?_
          rw [h7, List.append_nil]
          exact hS
        · have h8 : dN G (10 + p1) 2 = 0 := nI_z (dN_lt G (10 + p1) (n := 2) (by omega) (by omega)) h
          have hl9 : (t ++ txB 47 ++ numT (mvN G p1) ++ txB 48 ++ numT (5 + dN G (7 + p1) 90)).length ≤ 250 := by omega
          refine j_aload_n X (i := 3) dL_load_106 rfl rfl ?_
          refine j_ldcS X 49 dL_load_107 rfl ?_
          refine j_appS X hl (i := 49) (by omega) (by simp only [List.length_append, txl_47, txl_48, txl_49, txl_50, txl_51, txl_52, txl_53, txl_54, txl_55, txl_56, numT_len, str_len47.1, str_len47.2.1, str_len47.2.2.1, str_len47.2.2.2.1, str_len47.2.2.2.2.1, str_len47.2.2.2.2.2.1, str_len47.2.2.2.2.2.2.1, str_len47.2.2.2.2.2.2.2.1, str_len47.2.2.2.2.2.2.2.2.1, str_len47.2.2.2.2.2.2.2.2.2]; omega) hS ml_L_49 dL_load_109 ⟨(by decide), (by decide)⟩ ⟨(by dsimp only; omega), (by dsimp only; omega)⟩ (Nat.le_of_ble_eq_true rfl) (fun L2 f2 hS2 => ?_)
          replace hS := hS2
          clear hS2
          refine j_aload_n X (i := 1) dL_load_112 rfl rfl ?_
          refine j_bipush X (13) dL_load_113 (by decide) ?_
          refine j_iload X (i := 5) dL_load_115 rfl ?_
          refine j_iadd X dL_load_117 ?_
          rw [show (13 : Int32) + nI p1 = nI (13 + p1) from nI_add 13 p1]
          refine j_bipush X (9) dL_load_118 (by decide) ?_
          refine j_drw X hl (k := 13 + p1) (n := 9) hs (by omega) (by omega) (by omega) ml_L_40 dL_load_120 ⟨(by decide), (by decide)⟩ ⟨(by dsimp only; omega), (by dsimp only; omega)⟩ (Nat.le_of_ble_eq_true rfl) ?_
          refine j_appI X hl (x := dN G (13 + p1) 9) (by have := dN_lt G (13 + p1) (n := 9) (by omega) (by omega); omega) (by simp only [List.length_append, txl_47, txl_48, txl_49, txl_50, txl_51, txl_52, txl_53, txl_54, txl_55, txl_56, numT_len, str_len47.1, str_len47.2.1, str_len47.2.2.1, str_len47.2.2.2.1, str_len47.2.2.2.2.1, str_len47.2.2.2.2.2.1, str_len47.2.2.2.2.2.2.1, str_len47.2.2.2.2.2.2.2.1, str_len47.2.2.2.2.2.2.2.2.1, str_len47.2.2.2.2.2.2.2.2.2]; omega) hS ml_L_52 dL_load_123 ⟨(by decide), (by decide)⟩ ⟨(by dsimp only; omega), (by dsimp only; omega)⟩ (Nat.le_of_ble_eq_true rfl) (fun L2 f2 hS2 => ?_)
          replace hS := hS2
          clear hS2
          refine j_pop X dL_load_126 rfl ?_
          refine J.widen (c1 := c1 + 7) (s1 := s1 + 5614) (by omega) (by omega) ?_
          refine k127 0 _ _ ?_
          unfold tOpt
          rw [if_pos h8]
          simp only [List.append_assoc] at hS ⊢
          exact hS
      have k58 : ∀ v6 : Option Value, J G p l e { frames := 11, cells := 200, slots := 60000, locals := 260 } s m ar below meth c9 A Q 7 (c1) (s1) 58 [some (.ref (ad B 0)), some (.ref (G.2.2.1 100)), some (.int (nI (nPs G))), some (.ref q), some (.int (nI p1)), some (.int (nI p1)), v6] [.int (nI (mvN G p1))] L0 f0 := by
        intro v6
        refine j_istore X (i := 6) dL_load_58 (by decide) (by first | exact lvOK_0 | exact lvOK_s rfl okPrev_none | exact lvOK_s rfl okPrev_int | exact lvOK_s rfl okPrev_ref | exact lvOK_s rfl okPrev_null) ?_
        dsimp only [List.set]
        refine j_aload_n X (i := 3) dL_load_60 rfl rfl ?_
        refine j_ldcS X 47 dL_load_61 rfl ?_
        have hS := hS0
        refine j_appS X hl (i := 47) (by omega) (by simp only [List.length_append, txl_47, txl_48, txl_49, txl_50, txl_51, txl_52, txl_53, txl_54, txl_55, txl_56, numT_len, str_len47.1, str_len47.2.1, str_len47.2.2.1, str_len47.2.2.2.1, str_len47.2.2.2.2.1, str_len47.2.2.2.2.2.1, str_len47.2.2.2.2.2.2.1, str_len47.2.2.2.2.2.2.2.1, str_len47.2.2.2.2.2.2.2.2.1, str_len47.2.2.2.2.2.2.2.2.2]; omega) hS ml_L_49 dL_load_63 ⟨(by decide), (by decide)⟩ ⟨(by dsimp only; omega), (by dsimp only; omega)⟩ (Nat.le_of_ble_eq_true rfl) (fun L2 f2 hS2 => ?_)
        replace hS := hS2
        clear hS2
        refine j_iload X (i := 6) dL_load_66 rfl ?_
        refine j_appI X hl (x := mvN G p1) (by omega) (by simp only [List.length_append, txl_47, txl_48, txl_49, txl_50, txl_51, txl_52, txl_53, txl_54, txl_55, txl_56, numT_len, str_len47.1, str_len47.2.1, str_len47.2.2.1, str_len47.2.2.2.1, str_len47.2.2.2.2.1, str_len47.2.2.2.2.2.1, str_len47.2.2.2.2.2.2.1, str_len47.2.2.2.2.2.2.2.1, str_len47.2.2.2.2.2.2.2.2.1, str_len47.2.2.2.2.2.2.2.2.2]; omega) hS ml_L_52 dL_load_68 ⟨(by decide), (by decide)⟩ ⟨(by dsimp only; omega), (by dsimp only; omega)⟩ (Nat.le_of_ble_eq_true rfl) (fun L2 f2 hS2 => ?_)
        replace hS := hS2
        clear hS2
        refine j_ldcS X 48 dL_load_71 rfl ?_
        refine j_appS X hl (i := 48) (by omega) (by simp only [List.length_append, txl_47, txl_48, txl_49, txl_50, txl_51, txl_52, txl_53, txl_54, txl_55, txl_56, numT_len, str_len47.1, str_len47.2.1, str_len47.2.2.1, str_len47.2.2.2.1, str_len47.2.2.2.2.1, str_len47.2.2.2.2.2.1, str_len47.2.2.2.2.2.2.1, str_len47.2.2.2.2.2.2.2.1, str_len47.2.2.2.2.2.2.2.2.1, str_len47.2.2.2.2.2.2.2.2.2]; omega) hS ml_L_49 dL_load_73 ⟨(by decide), (by decide)⟩ ⟨(by dsimp only; omega), (by dsimp only; omega)⟩ (Nat.le_of_ble_eq_true rfl) (fun L2 f2 hS2 => ?_)
        replace hS := hS2
        clear hS2
        refine j_iconst X (5) dL_load_76 (by decide) ?_
        refine j_aload_n X (i := 1) dL_load_77 rfl rfl ?_
        refine j_bipush X (7) dL_load_78 (by decide) ?_
        refine j_iload X (i := 5) dL_load_80 rfl ?_
        refine j_iadd X dL_load_82 ?_
        rw [show (7 : Int32) + nI p1 = nI (7 + p1) from nI_add 7 p1]
        refine j_bipush X (90) dL_load_83 (by decide) ?_
        refine j_drw X hl (k := 7 + p1) (n := 90) hs (by omega) (by omega) (by omega) ml_L_40 dL_load_85 ⟨(by decide), (by decide)⟩ ⟨(by dsimp only; omega), (by dsimp only; omega)⟩ (Nat.le_of_ble_eq_true rfl) ?_
        refine j_iadd X dL_load_88 ?_
        rw [show (5 : Int32) + nI (dN G (7 + p1) 90) = nI (5 + dN G (7 + p1) 90) from nI_add 5 _]
        refine j_appI X hl (x := 5 + dN G (7 + p1) 90) (by have := dN_lt G (7 + p1) (n := 90) (by omega) (by omega); omega) (by simp only [List.length_append, txl_47, txl_48, txl_49, txl_50, txl_51, txl_52, txl_53, txl_54, txl_55, txl_56, numT_len, str_len47.1, str_len47.2.1, str_len47.2.2.1, str_len47.2.2.2.1, str_len47.2.2.2.2.1, str_len47.2.2.2.2.2.1, str_len47.2.2.2.2.2.2.1, str_len47.2.2.2.2.2.2.2.1, str_len47.2.2.2.2.2.2.2.2.1, str_len47.2.2.2.2.2.2.2.2.2]; omega) hS ml_L_52 dL_load_89 ⟨(by decide), (by decide)⟩ ⟨(by dsimp only; omega), (by dsimp only; omega)⟩ (Nat.le_of_ble_eq_true rfl) (fun L2 f2 hS2 => ?_)
        replace hS := hS2
        clear hS2
        refine j_pop X dL_load_92 rfl ?_
        refine J.widen (c1 := c1 + 5) (s1 := s1 + 4010) (by omega) (by omega) ?_
        exact k93 0 _ _ hS
      refine j_iload X (i := 5) dL_load_23 rfl ?_
      refine j_iload_n X (i := 2) dL_load_25 rfl rfl ?_
      refine j_icmp_ge X (tgt := 219) dL_load_26 (by decide) (fun h => absurd h (nI_ge (by omega) (by omega))) (fun _ => ?_)
      refine j_aload_n X (i := 1) dL_load_29 rfl rfl ?_
      refine j_iconst X (1) dL_load_30 (by decide) ?_
      refine j_iload X (i := 5) dL_load_31 rfl ?_
      refine j_iadd X dL_load_33 ?_
      rw [show (1 : Int32) + nI p1 = nI (1 + p1) from nI_add 1 p1]
      refine j_bipush X (6) dL_load_34 (by decide) ?_
      refine j_drw X hl (k := 1 + p1) (n := 6) hs (by omega) (by omega) (by omega) ml_L_40 dL_load_36 ⟨(by decide), (by decide)⟩ ⟨(by dsimp only; omega), (by dsimp only; omega)⟩ (Nat.le_of_ble_eq_true rfl) ?_
      refine j_if_ne X (tgt := 46) dL_load_39 (by decide) (fun h => ?_) (fun h => ?_)
      · have h7 : mvN G p1 = 1 + dN G (4 + p1) 6 := by unfold mvN; rw [if_neg (fun h6 => h (by rw [h6]; rfl))]
        rw [h7] at k58
        refine j_iconst X (1) dL_load_46 (by decide) ?_
        refine j_aload_n X (i := 1) dL_load_47 rfl rfl ?_
        refine j_iconst X (4) dL_load_48 (by decide) ?_
        refine j_iload X (i := 5) dL_load_49 rfl ?_
        refine j_iadd X dL_load_51 ?_
        rw [show (4 : Int32) + nI p1 = nI (4 + p1) from nI_add 4 p1]
        refine j_bipush X (6) dL_load_52 (by decide) ?_
        refine j_drw X hl (k := 4 + p1) (n := 6) hs (by omega) (by omega) (by omega) ml_L_40 dL_load_54 ⟨(by decide), (by decide)⟩ ⟨(by dsimp only; omega), (by dsimp only; omega)⟩ (Nat.le_of_ble_eq_true rfl) ?_
        refine j_iadd X dL_load_57 ?_
        rw [show (1 : Int32) + nI (dN G (4 + p1) 6) = nI (1 + dN G (4 + p1) 6) from nI_add 1 _]
        exact k58 _
      · have h8 : dN G (1 + p1) 6 = 0 := nI_z (dN_lt G (1 + p1) (n := 6) (by omega) (by omega)) h
        have h7 : mvN G p1 = 0 := by unfold mvN; rw [if_pos h8]
        rw [h7] at k58
        refine j_iconst X (0) dL_load_42 (by decide) ?_
        refine j_goto X (tgt := 58) dL_load_43 (by decide) ?_
        exact k58 _
  refine j_astore_n X (i := 3) dL_load_16 rfl (by decide) (by first | exact lvOK_0 | exact lvOK_s rfl okPrev_none | exact lvOK_s rfl okPrev_int | exact lvOK_s rfl okPrev_ref | exact lvOK_s rfl okPrev_null) ?_
  dsimp only [List.set]
  refine j_iconst X (0) dL_load_17 (by decide) ?_
  refine j_istore X (i := 4) dL_load_18 (by decide) (by first | exact lvOK_0 | exact lvOK_s rfl okPrev_none | exact lvOK_s rfl okPrev_int | exact lvOK_s rfl okPrev_ref | exact lvOK_s rfl okPrev_null) ?_
  dsimp only [List.set]
  refine j_iconst X (0) dL_load_20 (by decide) ?_
  refine j_istore X (i := 5) dL_load_21 (by decide) (by first | exact lvOK_0 | exact lvOK_s rfl okPrev_none | exact lvOK_s rfl okPrev_int | exact lvOK_s rfl okPrev_ref | exact lvOK_s rfl okPrev_null) ?_
  dsimp only [List.set]
  exact kloop (nPs G) 0 _ _ [] 0 _ _ _ (by omega) (by omega) (by omega) (Nat.zero_le _) rfl (Nat.zero_add _) hS
