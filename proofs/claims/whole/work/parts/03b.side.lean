/-! what a side's methods say, over its numbers v, the rules' numbers na, their periods pe and extra time et -/
def sEnd (na : Nat → Int32) (v : Nat → Int32) : Prop := rN na (v 2) 0 = 0
def sToEnd (na v : Nat → Int32) : Int32 := if rN na (v 2) 0 = 0 then -1 else rN na (v 2) 0 - v 3
def sFree (na v : Nat → Int32) : Int32 := if 0 < rN na (v 2) 3 - v 6 then rN na (v 2) 3 - v 6 else 0
def sFall (na : Nat → Int32) (et : Int32) (v : Nat → Int32) : Int32 := if v 8 = 0 then sFree na v + v 0 + (if rN na (v 2) 0 = 0 then v 4 * et else 0) else 0
def sSecs (v : Nat → Int32) : Int32 := v 0 / 10 + (if 0 < v 0 - v 0 / 10 * 10 then 1 else 0)
def sDrop (v : Nat → Int32) : Nat → Int32 := upd (upd v 6 0) 7 0
def sGains (na : Nat → Int32) (et : Int32) (v : Nat → Int32) : Int32 := if v 8 = 0 then (if v 5 = 0 then rN na (v 2) 2 + (if rN na (v 2) 4 < v 7 then rN na (v 2) 4 else v 7) else et - v 0) else 0
def sOut (na : Nat → Int32) (et : Int32) (v : Nat → Int32) : Nat → Int32 := if rN na (v 2) 0 = 0 ∧ 0 < v 4 then upd (upd (upd v 4 (v 4 - 1)) 5 1) 0 et else upd v 8 1
def sNextP (pe : Int32) (v : Nat → Int32) : Int32 := if pe - 1 < v 2 + 1 then pe - 1 else v 2 + 1
def sNext (na : Nat → Int32) (pe : Int32) (v : Nat → Int32) : Nat → Int32 :=
  let w := upd (upd (upd v 11 (v 11 + 1)) 2 (sNextP pe v)) 3 0
  if v 8 = 0 then upd w 0 (v 0 + rN na (sNextP pe v) 1) else w
def sMove (na : Nat → Int32) (pe et : Int32) (v : Nat → Int32) : Nat → Int32 :=
  let w := upd (upd (upd v 0 (v 0 + sGains na et v)) 1 (v 1 + 1)) 3 (v 3 + 1)
  sDrop (if sToEnd na w = 0 then sNext na pe w else w)
theorem upd_s {f : Nat → Int32} {k : Nat} {x : Int32} : upd f k x k = x := by simp [upd]
theorem upd_n {f : Nat → Int32} {k j : Nat} {x : Int32} (h : j ≠ k) : upd f k x j = f j := by simp [upd, h]
theorem spent_upd {v : Nat → Int32} {i : Nat} {x : Int32} (h : i < 12) : (fun k => upd v i x (12 + k)) = fun k => v (12 + k) := by
  funext k
  exact upd_n (by omega)
set_option maxRecDepth 100000 in
theorem c_X5_movesToPeriodEnd {l : Launch} (hl : l.stackTraces = false) {G : GG} {L : List Nat} {f : Nat → va_E} {r nb : Nat} {pe ex et se : Int32} {na : Nat → Int32} {a sp : Nat} {v : Nat → Int32} (ha : a ∈ L) (hfa : f a = oSide sp v) (hr : r ∈ L) (hfr : f r = oRules nb pe ex et se) (hnb : nb ∈ L) (hfn : f nb = aI G 25 na) : Ct l G yX5_movesToPeriodEnd (.code yX5_movesToPeriodEnd cX5_movesToPeriodEnd 2 (some .int)) 2 44 0 0 [.ref a, .ref r] L f px0 (stay L (fun r9 f1 => f1 = f ∧ r9 = some (.int (sToEnd na v)))) := by
  refine Ct.ofo (own := RX5) hl rfl (by decide) [some (.ref a), some (.ref r)] rfl (Nat.le_of_ble_eq_true rfl) ?_
  intro p e s m below meth c A hname X
  refine j_aload_n X (i := 1) dX5_movesToPeriodEnd_0 rfl rfl ?_
  refine j_aload_n X (i := 0) dX5_movesToPeriodEnd_1 rfl rfl ?_
  refine j_getf X 5 2 rfl cw_X5 fl_X5_31 (by decide) dX5_movesToPeriodEnd_2 (by assumption) (by repeat (first | assumption | exact up_s | refine up_n (by first | assumption | (apply Ne.symm; assumption)) ?_)) (by rfl) ?_
  refine j_callV1 X 4 (c_X4_isEndless hl (by assumption) (by repeat (first | assumption | exact up_s | refine up_n (by first | assumption | (apply Ne.symm; assumption)) ?_)) (by assumption) (by repeat (first | assumption | exact up_s | refine up_n (by first | assumption | (apply Ne.symm; assumption)) ?_))) ml_X5_70 im_yX4_isEndless se_yX4_isEndless in_X4 cd_yX4_isEndless (by decide +kernel) dX5_movesToPeriodEnd_5 rfl (by assumption) (by repeat (first | assumption | exact up_s | refine up_n (by first | assumption | (apply Ne.symm; assumption)) ?_)) ⟨(by decide), (by decide)⟩ ⟨(by decide), (by decide)⟩ (Nat.le_of_ble_eq_true rfl) (fun _ h => h.elim) (fun r9 L9 f9 h9 => ?_)
  obtain ⟨rfl, rfl, rfl⟩ := h9
  try dsimp only [Option.toList, List.cons_append, List.nil_append, List.append]
  refine j_if_eq X (tgt := 15) dX5_movesToPeriodEnd_8 (by decide) (fun h_8 => ?_) (fun h_8 => ?_)
  · refine j_aload_n X (i := 1) dX5_movesToPeriodEnd_15 rfl rfl ?_
    refine j_aload_n X (i := 0) dX5_movesToPeriodEnd_16 rfl rfl ?_
    refine j_getf X 5 2 rfl cw_X5 fl_X5_31 (by decide) dX5_movesToPeriodEnd_17 (by assumption) (by repeat (first | assumption | exact up_s | refine up_n (by first | assumption | (apply Ne.symm; assumption)) ?_)) (by rfl) ?_
    refine j_iconst X (0) dX5_movesToPeriodEnd_20 (by decide) ?_
    refine j_callV2 X 4 (c_X4_number hl (by assumption) (by repeat (first | assumption | exact up_s | refine up_n (by first | assumption | (apply Ne.symm; assumption)) ?_)) (by assumption) (by repeat (first | assumption | exact up_s | refine up_n (by first | assumption | (apply Ne.symm; assumption)) ?_))) ml_X5_21 im_yX4_number se_yX4_number in_X4 cd_yX4_number (by decide +kernel) dX5_movesToPeriodEnd_21 rfl (by assumption) (by repeat (first | assumption | exact up_s | refine up_n (by first | assumption | (apply Ne.symm; assumption)) ?_)) ⟨(by decide), (by decide)⟩ ⟨(by decide), (by decide)⟩ (Nat.le_of_ble_eq_true rfl) (fun _ h => h.elim) (fun r9 L9 f9 h9 => ?_)
    obtain ⟨rfl, rfl, rfl⟩ := h9
    try dsimp only [Option.toList, List.cons_append, List.nil_append, List.append]
    refine j_aload_n X (i := 0) dX5_movesToPeriodEnd_24 rfl rfl ?_
    refine j_getf X 5 4 rfl cw_X5 fl_X5_37 (by decide) dX5_movesToPeriodEnd_25 (by assumption) (by repeat (first | assumption | exact up_s | refine up_n (by first | assumption | (apply Ne.symm; assumption)) ?_)) (by rfl) ?_
    refine j_isub X dX5_movesToPeriodEnd_28 ?_
    exact j_iret X dX5_movesToPeriodEnd_29 rfl ⟨(by decide), (by decide)⟩ (by refine ⟨rfl, rfl, ?_⟩; simp_all [sToEnd, sFree, sFall, sSecs, sGains])
  · refine j_iconst X (-1) dX5_movesToPeriodEnd_11 (by decide) ?_
    refine j_goto X (tgt := 29) dX5_movesToPeriodEnd_12 (by decide) ?_
    exact j_iret X dX5_movesToPeriodEnd_29 rfl ⟨(by decide), (by decide)⟩ (by refine ⟨rfl, rfl, ?_⟩; simp_all [sToEnd, sFree, sFall, sSecs, sGains])
set_option maxRecDepth 100000 in
theorem c_X5_freeTicks {l : Launch} (hl : l.stackTraces = false) {G : GG} {L : List Nat} {f : Nat → va_E} {r nb : Nat} {pe ex et se : Int32} {na : Nat → Int32} {a sp : Nat} {v : Nat → Int32} (ha : a ∈ L) (hfa : f a = oSide sp v) (hr : r ∈ L) (hfr : f r = oRules nb pe ex et se) (hnb : nb ∈ L) (hfn : f nb = aI G 25 na) : Ct l G yX5_freeTicks (.code yX5_freeTicks cX5_freeTicks 2 (some .int)) 1 23 0 0 [.ref a, .ref r] L f px0 (stay L (fun r9 f1 => f1 = f ∧ r9 = some (.int (sFree na v)))) := by
  refine Ct.ofo (own := RX5) hl rfl (by decide) [some (.ref a), some (.ref r)] rfl (Nat.le_of_ble_eq_true rfl) ?_
  intro p e s m below meth c A hname X
  refine j_iconst X (0) dX5_freeTicks_0 (by decide) ?_
  refine j_aload_n X (i := 1) dX5_freeTicks_1 rfl rfl ?_
  refine j_aload_n X (i := 0) dX5_freeTicks_2 rfl rfl ?_
  refine j_getf X 5 2 rfl cw_X5 fl_X5_31 (by decide) dX5_freeTicks_3 (by assumption) (by repeat (first | assumption | exact up_s | refine up_n (by first | assumption | (apply Ne.symm; assumption)) ?_)) (by rfl) ?_
  refine j_iconst X (3) dX5_freeTicks_6 (by decide) ?_
  refine j_callV2 X 4 (c_X4_number hl (by assumption) (by repeat (first | assumption | exact up_s | refine up_n (by first | assumption | (apply Ne.symm; assumption)) ?_)) (by assumption) (by repeat (first | assumption | exact up_s | refine up_n (by first | assumption | (apply Ne.symm; assumption)) ?_))) ml_X5_21 im_yX4_number se_yX4_number in_X4 cd_yX4_number (by decide +kernel) dX5_freeTicks_7 rfl (by assumption) (by repeat (first | assumption | exact up_s | refine up_n (by first | assumption | (apply Ne.symm; assumption)) ?_)) ⟨(by decide), (by decide)⟩ ⟨(by decide), (by decide)⟩ (Nat.le_of_ble_eq_true rfl) (fun _ h => h.elim) (fun r9 L9 f9 h9 => ?_)
  obtain ⟨rfl, rfl, rfl⟩ := h9
  try dsimp only [Option.toList, List.cons_append, List.nil_append, List.append]
  refine j_aload_n X (i := 0) dX5_freeTicks_10 rfl rfl ?_
  refine j_getf X 5 7 rfl cw_X5 fl_X5_48 (by decide) dX5_freeTicks_11 (by assumption) (by repeat (first | assumption | exact up_s | refine up_n (by first | assumption | (apply Ne.symm; assumption)) ?_)) (by rfl) ?_
  refine j_isub X dX5_freeTicks_14 ?_
  refine j_mmax X ml_X5_74 dX5_freeTicks_15 ⟨(by decide), (Nat.le_of_ble_eq_true rfl)⟩ ⟨(by decide), (by decide)⟩ ?_
  exact j_iret X dX5_freeTicks_18 rfl ⟨(by decide), (by decide)⟩ (by exact ⟨rfl, rfl, rfl⟩)
set_option maxRecDepth 100000 in
theorem c_X5_ticksToFall {l : Launch} (hl : l.stackTraces = false) {G : GG} {L : List Nat} {f : Nat → va_E} {r nb : Nat} {pe ex et se : Int32} {na : Nat → Int32} {a sp : Nat} {v : Nat → Int32} (ha : a ∈ L) (hfa : f a = oSide sp v) (hr : r ∈ L) (hfr : f r = oRules nb pe ex et se) (hnb : nb ∈ L) (hfn : f nb = aI G 25 na) : Ct l G yX5_ticksToFall (.code yX5_ticksToFall cX5_ticksToFall 3 (some .int)) 2 44 0 0 [.ref a, .ref r] L f px0 (stay L (fun r9 f1 => f1 = f ∧ r9 = some (.int (sFall na et v)))) := by
  refine Ct.ofo (own := RX5) hl rfl (by decide) [some (.ref a), some (.ref r), none] rfl (Nat.le_of_ble_eq_true rfl) ?_
  intro p e s m below meth c A hname X
  refine j_aload_n X (i := 0) dX5_ticksToFall_0 rfl rfl ?_
  refine j_getf X 5 9 rfl cw_X5 fl_X5_54 (by decide) dX5_ticksToFall_1 (by assumption) (by repeat (first | assumption | exact up_s | refine up_n (by first | assumption | (apply Ne.symm; assumption)) ?_)) (by rfl) ?_
  refine j_if_eq X (tgt := 9) dX5_ticksToFall_4 (by decide) (fun h_4 => ?_) (fun h_4 => ?_)
  · refine j_aload_n X (i := 1) dX5_ticksToFall_9 rfl rfl ?_
    refine j_aload_n X (i := 0) dX5_ticksToFall_10 rfl rfl ?_
    refine j_getf X 5 2 rfl cw_X5 fl_X5_31 (by decide) dX5_ticksToFall_11 (by assumption) (by repeat (first | assumption | exact up_s | refine up_n (by first | assumption | (apply Ne.symm; assumption)) ?_)) (by rfl) ?_
    refine j_callV1 X 4 (c_X4_isEndless hl (by assumption) (by repeat (first | assumption | exact up_s | refine up_n (by first | assumption | (apply Ne.symm; assumption)) ?_)) (by assumption) (by repeat (first | assumption | exact up_s | refine up_n (by first | assumption | (apply Ne.symm; assumption)) ?_))) ml_X5_70 im_yX4_isEndless se_yX4_isEndless in_X4 cd_yX4_isEndless (by decide +kernel) dX5_ticksToFall_14 rfl (by assumption) (by repeat (first | assumption | exact up_s | refine up_n (by first | assumption | (apply Ne.symm; assumption)) ?_)) ⟨(by decide), (by decide)⟩ ⟨(by decide), (by decide)⟩ (Nat.le_of_ble_eq_true rfl) (fun _ h => h.elim) (fun r9 L9 f9 h9 => ?_)
    obtain ⟨rfl, rfl, rfl⟩ := h9
    try dsimp only [Option.toList, List.cons_append, List.nil_append, List.append]
    refine j_if_eq X (tgt := 32) dX5_ticksToFall_17 (by decide) (fun h_17 => ?_) (fun h_17 => ?_)
    · refine j_iconst X (0) dX5_ticksToFall_32 (by decide) ?_
      refine j_istore_n X (i := 2) dX5_ticksToFall_33 rfl (by decide) (by first | exact lvOK_0 | exact lvOK_s rfl okPrev_none | exact lvOK_s rfl okPrev_int | exact lvOK_s rfl okPrev_ref | exact lvOK_s rfl okPrev_null) ?_
      dsimp only [List.set]
      refine j_aload_n X (i := 0) dX5_ticksToFall_34 rfl rfl ?_
      refine j_aload_n X (i := 1) dX5_ticksToFall_35 rfl rfl ?_
      refine j_callV1 X 5 (c_X5_freeTicks hl (by assumption) (by repeat (first | assumption | exact up_s | refine up_n (by first | assumption | (apply Ne.symm; assumption)) ?_)) (by assumption) (by repeat (first | assumption | exact up_s | refine up_n (by first | assumption | (apply Ne.symm; assumption)) ?_)) (by assumption) (by repeat (first | assumption | exact up_s | refine up_n (by first | assumption | (apply Ne.symm; assumption)) ?_))) ml_X5_82 im_yX5_freeTicks se_yX5_freeTicks in_X5 cd_yX5_freeTicks (by decide +kernel) dX5_ticksToFall_36 rfl (by assumption) (by repeat (first | assumption | exact up_s | refine up_n (by first | assumption | (apply Ne.symm; assumption)) ?_)) ⟨(by decide), (by decide)⟩ ⟨(by decide), (by decide)⟩ (Nat.le_of_ble_eq_true rfl) (fun _ h => h.elim) (fun r9 L9 f9 h9 => ?_)
      obtain ⟨rfl, rfl, rfl⟩ := h9
      try dsimp only [Option.toList, List.cons_append, List.nil_append, List.append]
      refine j_aload_n X (i := 0) dX5_ticksToFall_39 rfl rfl ?_
      refine j_getf X 5 1 rfl cw_X5 fl_X5_27 (by decide) dX5_ticksToFall_40 (by assumption) (by repeat (first | assumption | exact up_s | refine up_n (by first | assumption | (apply Ne.symm; assumption)) ?_)) (by rfl) ?_
      refine j_iadd X dX5_ticksToFall_43 ?_
      refine j_iload_n X (i := 2) dX5_ticksToFall_44 rfl rfl ?_
      refine j_iadd X dX5_ticksToFall_45 ?_
      exact j_iret X dX5_ticksToFall_46 rfl ⟨(by decide), (by decide)⟩ (by refine ⟨rfl, rfl, ?_⟩; simp_all [sToEnd, sFree, sFall, sSecs, sGains])
    · refine j_aload_n X (i := 0) dX5_ticksToFall_20 rfl rfl ?_
      refine j_getf X 5 5 rfl cw_X5 fl_X5_43 (by decide) dX5_ticksToFall_21 (by assumption) (by repeat (first | assumption | exact up_s | refine up_n (by first | assumption | (apply Ne.symm; assumption)) ?_)) (by rfl) ?_
      refine j_aload_n X (i := 1) dX5_ticksToFall_24 rfl rfl ?_
      refine j_getf X 4 3 rfl cw_X4 fl_X5_79 (by decide) dX5_ticksToFall_25 (by assumption) (by repeat (first | assumption | exact up_s | refine up_n (by first | assumption | (apply Ne.symm; assumption)) ?_)) (by rfl) ?_
      refine j_imul X dX5_ticksToFall_28 ?_
      refine j_goto X (tgt := 33) dX5_ticksToFall_29 (by decide) ?_
      refine j_istore_n X (i := 2) dX5_ticksToFall_33 rfl (by decide) (by first | exact lvOK_0 | exact lvOK_s rfl okPrev_none | exact lvOK_s rfl okPrev_int | exact lvOK_s rfl okPrev_ref | exact lvOK_s rfl okPrev_null) ?_
      dsimp only [List.set]
      refine j_aload_n X (i := 0) dX5_ticksToFall_34 rfl rfl ?_
      refine j_aload_n X (i := 1) dX5_ticksToFall_35 rfl rfl ?_
      refine j_callV1 X 5 (c_X5_freeTicks hl (by assumption) (by repeat (first | assumption | exact up_s | refine up_n (by first | assumption | (apply Ne.symm; assumption)) ?_)) (by assumption) (by repeat (first | assumption | exact up_s | refine up_n (by first | assumption | (apply Ne.symm; assumption)) ?_)) (by assumption) (by repeat (first | assumption | exact up_s | refine up_n (by first | assumption | (apply Ne.symm; assumption)) ?_))) ml_X5_82 im_yX5_freeTicks se_yX5_freeTicks in_X5 cd_yX5_freeTicks (by decide +kernel) dX5_ticksToFall_36 rfl (by assumption) (by repeat (first | assumption | exact up_s | refine up_n (by first | assumption | (apply Ne.symm; assumption)) ?_)) ⟨(by decide), (by decide)⟩ ⟨(by decide), (by decide)⟩ (Nat.le_of_ble_eq_true rfl) (fun _ h => h.elim) (fun r9 L9 f9 h9 => ?_)
      obtain ⟨rfl, rfl, rfl⟩ := h9
      try dsimp only [Option.toList, List.cons_append, List.nil_append, List.append]
      refine j_aload_n X (i := 0) dX5_ticksToFall_39 rfl rfl ?_
      refine j_getf X 5 1 rfl cw_X5 fl_X5_27 (by decide) dX5_ticksToFall_40 (by assumption) (by repeat (first | assumption | exact up_s | refine up_n (by first | assumption | (apply Ne.symm; assumption)) ?_)) (by rfl) ?_
      refine j_iadd X dX5_ticksToFall_43 ?_
      refine j_iload_n X (i := 2) dX5_ticksToFall_44 rfl rfl ?_
      refine j_iadd X dX5_ticksToFall_45 ?_
      exact j_iret X dX5_ticksToFall_46 rfl ⟨(by decide), (by decide)⟩ (by refine ⟨rfl, rfl, ?_⟩; simp_all [sToEnd, sFree, sFall, sSecs, sGains])
  · refine j_iconst X (0) dX5_ticksToFall_7 (by decide) ?_
    exact j_iret X dX5_ticksToFall_8 rfl ⟨(by decide), (by decide)⟩ (by refine ⟨rfl, rfl, ?_⟩; simp_all [sToEnd, sFree, sFall, sSecs, sGains])
set_option maxRecDepth 100000 in
theorem c_X5_secondsLeft {l : Launch} (hl : l.stackTraces = false) {G : GG} {L : List Nat} {f : Nat → va_E} {a sp : Nat} {v : Nat → Int32} (ha : a ∈ L) (hfa : f a = oSide sp v) : Ct l G yX5_secondsLeft (.code yX5_secondsLeft cX5_secondsLeft 1 (some .int)) 0 0 0 0 [.ref a] L f px0 (stay L (fun r9 f1 => f1 = f ∧ r9 = some (.int (sSecs v)))) := by
  refine Ct.ofo (own := RX5) hl rfl (by decide) [some (.ref a)] rfl (Nat.le_of_ble_eq_true rfl) ?_
  intro p e s m below meth c A hname X
  refine j_aload_n X (i := 0) dX5_secondsLeft_0 rfl rfl ?_
  refine j_getf X 5 1 rfl cw_X5 fl_X5_27 (by decide) dX5_secondsLeft_1 (by assumption) (by repeat (first | assumption | exact up_s | refine up_n (by first | assumption | (apply Ne.symm; assumption)) ?_)) (by rfl) ?_
  refine j_bipush X (10) dX5_secondsLeft_4 (by decide) ?_
  refine j_idiv X dX5_secondsLeft_6 (by decide) ?_
  refine j_aload_n X (i := 0) dX5_secondsLeft_7 rfl rfl ?_
  refine j_getf X 5 1 rfl cw_X5 fl_X5_27 (by decide) dX5_secondsLeft_8 (by assumption) (by repeat (first | assumption | exact up_s | refine up_n (by first | assumption | (apply Ne.symm; assumption)) ?_)) (by rfl) ?_
  refine j_bipush X (10) dX5_secondsLeft_11 (by decide) ?_
  refine j_irem X dX5_secondsLeft_13 (by decide) ?_
  refine j_if_le X (tgt := 21) dX5_secondsLeft_14 (by decide) (fun h_14 => ?_) (fun h_14 => ?_)
  · refine j_iconst X (0) dX5_secondsLeft_21 (by decide) ?_
    refine j_iadd X dX5_secondsLeft_22 ?_
    exact j_iret X dX5_secondsLeft_23 rfl ⟨(by decide), (by decide)⟩ (by refine ⟨rfl, rfl, ?_⟩; simp_all [sToEnd, sFree, sFall, sSecs, sGains])
  · refine j_iconst X (1) dX5_secondsLeft_17 (by decide) ?_
    refine j_goto X (tgt := 22) dX5_secondsLeft_18 (by decide) ?_
    refine j_iadd X dX5_secondsLeft_22 ?_
    exact j_iret X dX5_secondsLeft_23 rfl ⟨(by decide), (by decide)⟩ (by refine ⟨rfl, rfl, ?_⟩; simp_all [sToEnd, sFree, sFall, sSecs, sGains])
set_option maxRecDepth 100000 in
theorem c_X5_dropMove {l : Launch} (hl : l.stackTraces = false) {G : GG} {L : List Nat} {f : Nat → va_E} {a sp : Nat} {v : Nat → Int32} (ha : a ∈ L) (hfa : f a = oSide sp v) : Ct l G yX5_dropMove (.code yX5_dropMove cX5_dropMove 1 none) 0 0 0 0 [.ref a] L f px0 (stay L (fun r9 f1 => f1 = va_up f a (oSide sp (sDrop v)) ∧ r9 = none)) := by
  refine Ct.ofo (own := RX5) hl rfl (by decide) [some (.ref a)] rfl (Nat.le_of_ble_eq_true rfl) ?_
  intro p e s m below meth c A hname X
  refine j_aload_n X (i := 0) dX5_dropMove_0 rfl rfl ?_
  refine j_iconst X (0) dX5_dropMove_1 (by decide) ?_
  refine j_putf X 5 7 rfl cw_X5 tyX5 tyX5_ok nmX5 fl_X5_48 (by decide) rfl dX5_dropMove_2 (by assumption) (by repeat (first | assumption | exact up_s | refine up_n (by first | assumption | (apply Ne.symm; assumption)) ?_)) (by rfl) (by rfl) (Nat.le_of_ble_eq_true rfl) ?_
  try dsimp only [List.set]
  try rw [up_up]
  refine j_aload_n X (i := 0) dX5_dropMove_5 rfl rfl ?_
  refine j_iconst X (0) dX5_dropMove_6 (by decide) ?_
  refine j_putf X 5 8 rfl cw_X5 tyX5 tyX5_ok nmX5 fl_X5_51 (by decide) rfl dX5_dropMove_7 (by assumption) (by repeat (first | assumption | exact up_s | refine up_n (by first | assumption | (apply Ne.symm; assumption)) ?_)) (by rfl) (by rfl) (Nat.le_of_ble_eq_true rfl) ?_
  try dsimp only [List.set]
  try rw [up_up]
  exact j_vret X dX5_dropMove_10 rfl ⟨(by decide), (by decide)⟩ (by exact ⟨rfl, rfl, rfl⟩)
set_option maxRecDepth 100000 in
theorem c_X5_gains {l : Launch} (hl : l.stackTraces = false) {G : GG} {L : List Nat} {f : Nat → va_E} {r nb : Nat} {pe ex et se : Int32} {na : Nat → Int32} {a sp : Nat} {v : Nat → Int32} (ha : a ∈ L) (hfa : f a = oSide sp v) (hr : r ∈ L) (hfr : f r = oRules nb pe ex et se) (hnb : nb ∈ L) (hfn : f nb = aI G 25 na) : Ct l G yX5_gains (.code yX5_gains cX5_gains 2 (some .int)) 1 23 0 0 [.ref a, .ref r] L f px0 (stay L (fun r9 f1 => f1 = f ∧ r9 = some (.int (sGains na et v)))) := by
  refine Ct.ofo (own := RX5) hl rfl (by decide) [some (.ref a), some (.ref r)] rfl (Nat.le_of_ble_eq_true rfl) ?_
  intro p e s m below meth c A hname X
  refine j_aload_n X (i := 0) dX5_gains_0 rfl rfl ?_
  refine j_getf X 5 9 rfl cw_X5 fl_X5_54 (by decide) dX5_gains_1 (by assumption) (by repeat (first | assumption | exact up_s | refine up_n (by first | assumption | (apply Ne.symm; assumption)) ?_)) (by rfl) ?_
  refine j_if_eq X (tgt := 9) dX5_gains_4 (by decide) (fun h_4 => ?_) (fun h_4 => ?_)
  · refine j_aload_n X (i := 0) dX5_gains_9 rfl rfl ?_
    refine j_getf X 5 6 rfl cw_X5 fl_X5_44 (by decide) dX5_gains_10 (by assumption) (by repeat (first | assumption | exact up_s | refine up_n (by first | assumption | (apply Ne.symm; assumption)) ?_)) (by rfl) ?_
    refine j_if_eq X (tgt := 26) dX5_gains_13 (by decide) (fun h_13 => ?_) (fun h_13 => ?_)
    · refine j_aload_n X (i := 1) dX5_gains_26 rfl rfl ?_
      refine j_aload_n X (i := 0) dX5_gains_27 rfl rfl ?_
      refine j_getf X 5 2 rfl cw_X5 fl_X5_31 (by decide) dX5_gains_28 (by assumption) (by repeat (first | assumption | exact up_s | refine up_n (by first | assumption | (apply Ne.symm; assumption)) ?_)) (by rfl) ?_
      refine j_iconst X (2) dX5_gains_31 (by decide) ?_
      refine j_callV2 X 4 (c_X4_number hl (by assumption) (by repeat (first | assumption | exact up_s | refine up_n (by first | assumption | (apply Ne.symm; assumption)) ?_)) (by assumption) (by repeat (first | assumption | exact up_s | refine up_n (by first | assumption | (apply Ne.symm; assumption)) ?_))) ml_X5_21 im_yX4_number se_yX4_number in_X4 cd_yX4_number (by decide +kernel) dX5_gains_32 rfl (by assumption) (by repeat (first | assumption | exact up_s | refine up_n (by first | assumption | (apply Ne.symm; assumption)) ?_)) ⟨(by decide), (by decide)⟩ ⟨(by decide), (by decide)⟩ (Nat.le_of_ble_eq_true rfl) (fun _ h => h.elim) (fun r9 L9 f9 h9 => ?_)
      obtain ⟨rfl, rfl, rfl⟩ := h9
      try dsimp only [Option.toList, List.cons_append, List.nil_append, List.append]
      refine j_aload_n X (i := 0) dX5_gains_35 rfl rfl ?_
      refine j_getf X 5 8 rfl cw_X5 fl_X5_51 (by decide) dX5_gains_36 (by assumption) (by repeat (first | assumption | exact up_s | refine up_n (by first | assumption | (apply Ne.symm; assumption)) ?_)) (by rfl) ?_
      refine j_aload_n X (i := 1) dX5_gains_39 rfl rfl ?_
      refine j_aload_n X (i := 0) dX5_gains_40 rfl rfl ?_
      refine j_getf X 5 2 rfl cw_X5 fl_X5_31 (by decide) dX5_gains_41 (by assumption) (by repeat (first | assumption | exact up_s | refine up_n (by first | assumption | (apply Ne.symm; assumption)) ?_)) (by rfl) ?_
      refine j_iconst X (4) dX5_gains_44 (by decide) ?_
      refine j_callV2 X 4 (c_X4_number hl (by assumption) (by repeat (first | assumption | exact up_s | refine up_n (by first | assumption | (apply Ne.symm; assumption)) ?_)) (by assumption) (by repeat (first | assumption | exact up_s | refine up_n (by first | assumption | (apply Ne.symm; assumption)) ?_))) ml_X5_21 im_yX4_number se_yX4_number in_X4 cd_yX4_number (by decide +kernel) dX5_gains_45 rfl (by assumption) (by repeat (first | assumption | exact up_s | refine up_n (by first | assumption | (apply Ne.symm; assumption)) ?_)) ⟨(by decide), (by decide)⟩ ⟨(by decide), (by decide)⟩ (Nat.le_of_ble_eq_true rfl) (fun _ h => h.elim) (fun r9 L9 f9 h9 => ?_)
      obtain ⟨rfl, rfl, rfl⟩ := h9
      try dsimp only [Option.toList, List.cons_append, List.nil_append, List.append]
      refine j_mmin X ml_X5_86 dX5_gains_48 ⟨(by decide), (Nat.le_of_ble_eq_true rfl)⟩ ⟨(by decide), (by decide)⟩ ?_
      refine j_iadd X dX5_gains_51 ?_
      exact j_iret X dX5_gains_52 rfl ⟨(by decide), (by decide)⟩ (by refine ⟨rfl, rfl, ?_⟩; simp_all [sToEnd, sFree, sFall, sSecs, sGains])
    · refine j_aload_n X (i := 1) dX5_gains_16 rfl rfl ?_
      refine j_getf X 4 3 rfl cw_X4 fl_X5_79 (by decide) dX5_gains_17 (by assumption) (by repeat (first | assumption | exact up_s | refine up_n (by first | assumption | (apply Ne.symm; assumption)) ?_)) (by rfl) ?_
      refine j_aload_n X (i := 0) dX5_gains_20 rfl rfl ?_
      refine j_getf X 5 1 rfl cw_X5 fl_X5_27 (by decide) dX5_gains_21 (by assumption) (by repeat (first | assumption | exact up_s | refine up_n (by first | assumption | (apply Ne.symm; assumption)) ?_)) (by rfl) ?_
      refine j_isub X dX5_gains_24 ?_
      exact j_iret X dX5_gains_25 rfl ⟨(by decide), (by decide)⟩ (by refine ⟨rfl, rfl, ?_⟩; simp_all [sToEnd, sFree, sFall, sSecs, sGains])
  · refine j_iconst X (0) dX5_gains_7 (by decide) ?_
    exact j_iret X dX5_gains_8 rfl ⟨(by decide), (by decide)⟩ (by refine ⟨rfl, rfl, ?_⟩; simp_all [sToEnd, sFree, sFall, sSecs, sGains])
set_option maxRecDepth 100000 in
theorem c_X5_runOut {l : Launch} (hl : l.stackTraces = false) {G : GG} {L : List Nat} {f : Nat → va_E} {r nb : Nat} {pe ex et se : Int32} {na : Nat → Int32} {a sp : Nat} {v : Nat → Int32} (ha : a ∈ L) (hfa : f a = oSide sp v) (hr : r ∈ L) (hfr : f r = oRules nb pe ex et se) (hnb : nb ∈ L) (hfn : f nb = aI G 25 na) (hra : r ≠ a) (hna : nb ≠ a) : Ct l G yX5_runOut (.code yX5_runOut cX5_runOut 2 none) 2 44 0 0 [.ref a, .ref r] L f px0 (stay L (fun r9 f1 => f1 = va_up f a (oSide sp (sOut na et v)) ∧ r9 = none)) := by
  refine Ct.ofo (own := RX5) hl rfl (by decide) [some (.ref a), some (.ref r)] rfl (Nat.le_of_ble_eq_true rfl) ?_
  intro p e s m below meth c A hname X
  refine j_aload_n X (i := 1) dX5_runOut_0 rfl rfl ?_
  refine j_aload_n X (i := 0) dX5_runOut_1 rfl rfl ?_
  refine j_getf X 5 2 rfl cw_X5 fl_X5_31 (by decide) dX5_runOut_2 (by assumption) (by repeat (first | assumption | exact up_s | refine up_n (by first | assumption | (apply Ne.symm; assumption)) ?_)) (by rfl) ?_
  refine j_callV1 X 4 (c_X4_isEndless hl (by assumption) (by repeat (first | assumption | exact up_s | refine up_n (by first | assumption | (apply Ne.symm; assumption)) ?_)) (by assumption) (by repeat (first | assumption | exact up_s | refine up_n (by first | assumption | (apply Ne.symm; assumption)) ?_))) ml_X5_70 im_yX4_isEndless se_yX4_isEndless in_X4 cd_yX4_isEndless (by decide +kernel) dX5_runOut_5 rfl (by assumption) (by repeat (first | assumption | exact up_s | refine up_n (by first | assumption | (apply Ne.symm; assumption)) ?_)) ⟨(by decide), (by decide)⟩ ⟨(by decide), (by decide)⟩ (Nat.le_of_ble_eq_true rfl) (fun _ h => h.elim) (fun r9 L9 f9 h9 => ?_)
  obtain ⟨rfl, rfl, rfl⟩ := h9
  try dsimp only [Option.toList, List.cons_append, List.nil_append, List.append]
  refine j_if_eq X (tgt := 44) dX5_runOut_8 (by decide) (fun h_8 => ?_) (fun h_8 => ?_)
  · refine j_aload_n X (i := 0) dX5_runOut_44 rfl rfl ?_
    refine j_iconst X (1) dX5_runOut_45 (by decide) ?_
    refine j_putf X 5 9 rfl cw_X5 tyX5 tyX5_ok nmX5 fl_X5_54 (by decide) rfl dX5_runOut_46 (by assumption) (by repeat (first | assumption | exact up_s | refine up_n (by first | assumption | (apply Ne.symm; assumption)) ?_)) (by first | rfl | exact nar_B (by assumption)) (by first | rfl | exact fit_B (by assumption)) (Nat.le_of_ble_eq_true rfl) ?_
    try dsimp only [List.set]
    try rw [up_up]
    exact j_vret X dX5_runOut_49 rfl ⟨(by decide), (by decide)⟩ (by refine ⟨rfl, ?_, rfl⟩; simp_all [sOut, upd, oSide, ← Int32.not_lt])
  · refine j_aload_n X (i := 0) dX5_runOut_11 rfl rfl ?_
    refine j_getf X 5 5 rfl cw_X5 fl_X5_43 (by decide) dX5_runOut_12 (by assumption) (by repeat (first | assumption | exact up_s | refine up_n (by first | assumption | (apply Ne.symm; assumption)) ?_)) (by rfl) ?_
    refine j_if_le X (tgt := 44) dX5_runOut_15 (by decide) (fun h_15 => ?_) (fun h_15 => ?_)
    · refine j_aload_n X (i := 0) dX5_runOut_44 rfl rfl ?_
      refine j_iconst X (1) dX5_runOut_45 (by decide) ?_
      refine j_putf X 5 9 rfl cw_X5 tyX5 tyX5_ok nmX5 fl_X5_54 (by decide) rfl dX5_runOut_46 (by assumption) (by repeat (first | assumption | exact up_s | refine up_n (by first | assumption | (apply Ne.symm; assumption)) ?_)) (by first | rfl | exact nar_B (by assumption)) (by first | rfl | exact fit_B (by assumption)) (Nat.le_of_ble_eq_true rfl) ?_
      try dsimp only [List.set]
      try rw [up_up]
      exact j_vret X dX5_runOut_49 rfl ⟨(by decide), (by decide)⟩ (by refine ⟨rfl, ?_, rfl⟩; simp_all [sOut, upd, oSide, ← Int32.not_lt])
    · refine j_aload_n X (i := 0) dX5_runOut_18 rfl rfl ?_
      refine j_dup X dX5_runOut_19 rfl ?_
      refine j_getf X 5 5 rfl cw_X5 fl_X5_43 (by decide) dX5_runOut_20 (by assumption) (by repeat (first | assumption | exact up_s | refine up_n (by first | assumption | (apply Ne.symm; assumption)) ?_)) (by rfl) ?_
      refine j_iconst X (1) dX5_runOut_23 (by decide) ?_
      refine j_isub X dX5_runOut_24 ?_
      refine j_putf X 5 5 rfl cw_X5 tyX5 tyX5_ok nmX5 fl_X5_43 (by decide) rfl dX5_runOut_25 (by assumption) (by repeat (first | assumption | exact up_s | refine up_n (by first | assumption | (apply Ne.symm; assumption)) ?_)) (by rfl) (by rfl) (Nat.le_of_ble_eq_true rfl) ?_
      try dsimp only [List.set]
      try rw [up_up]
      refine j_aload_n X (i := 0) dX5_runOut_28 rfl rfl ?_
      refine j_iconst X (1) dX5_runOut_29 (by decide) ?_
      refine j_putf X 5 6 rfl cw_X5 tyX5 tyX5_ok nmX5 fl_X5_44 (by decide) rfl dX5_runOut_30 (by assumption) (by repeat (first | assumption | exact up_s | refine up_n (by first | assumption | (apply Ne.symm; assumption)) ?_)) (by first | rfl | exact nar_B (by assumption)) (by first | rfl | exact fit_B (by assumption)) (Nat.le_of_ble_eq_true rfl) ?_
      try dsimp only [List.set]
      try rw [up_up]
      refine j_aload_n X (i := 0) dX5_runOut_33 rfl rfl ?_
      refine j_aload_n X (i := 1) dX5_runOut_34 rfl rfl ?_
      refine j_getf X 4 3 rfl cw_X4 fl_X5_79 (by decide) dX5_runOut_35 (by assumption) (by repeat (first | assumption | exact up_s | refine up_n (by first | assumption | (apply Ne.symm; assumption)) ?_)) (by rfl) ?_
      refine j_putf X 5 1 rfl cw_X5 tyX5 tyX5_ok nmX5 fl_X5_27 (by decide) rfl dX5_runOut_38 (by assumption) (by repeat (first | assumption | exact up_s | refine up_n (by first | assumption | (apply Ne.symm; assumption)) ?_)) (by rfl) (by rfl) (Nat.le_of_ble_eq_true rfl) ?_
      try dsimp only [List.set]
      try rw [up_up]
      refine j_goto X (tgt := 49) dX5_runOut_41 (by decide) ?_
      exact j_vret X dX5_runOut_49 rfl ⟨(by decide), (by decide)⟩ (by refine ⟨rfl, ?_, rfl⟩; simp_all [sOut, upd, oSide, ← Int32.not_lt])
set_option maxRecDepth 100000 in
theorem c_X5_beginNextPeriod {l : Launch} (hl : l.stackTraces = false) {G : GG} {L : List Nat} {f : Nat → va_E} {r nb : Nat} {pe ex et se : Int32} {na : Nat → Int32} {a sp : Nat} {v : Nat → Int32} (ha : a ∈ L) (hfa : f a = oSide sp v) (hr : r ∈ L) (hfr : f r = oRules nb pe ex et se) (hnb : nb ∈ L) (hfn : f nb = aI G 25 na) (hra : r ≠ a) (hna : nb ≠ a) : Ct l G yX5_beginNextPeriod (.code yX5_beginNextPeriod cX5_beginNextPeriod 2 none) 1 23 0 0 [.ref a, .ref r] L f px0 (stay L (fun r9 f1 => f1 = va_up f a (oSide sp (sNext na pe v)) ∧ r9 = none)) := by
  refine Ct.ofo (own := RX5) hl rfl (by decide) [some (.ref a), some (.ref r)] rfl (Nat.le_of_ble_eq_true rfl) ?_
  intro p e s m below meth c A hname X
  refine j_aload_n X (i := 0) dX5_beginNextPeriod_0 rfl rfl ?_
  refine j_dup X dX5_beginNextPeriod_1 rfl ?_
  refine j_getf X 5 12 rfl cw_X5 fl_X5_63 (by decide) dX5_beginNextPeriod_2 (by assumption) (by repeat (first | assumption | exact up_s | refine up_n (by first | assumption | (apply Ne.symm; assumption)) ?_)) (by rfl) ?_
  refine j_iconst X (1) dX5_beginNextPeriod_5 (by decide) ?_
  refine j_iadd X dX5_beginNextPeriod_6 ?_
  refine j_putf X 5 12 rfl cw_X5 tyX5 tyX5_ok nmX5 fl_X5_63 (by decide) rfl dX5_beginNextPeriod_7 (by assumption) (by repeat (first | assumption | exact up_s | refine up_n (by first | assumption | (apply Ne.symm; assumption)) ?_)) (by rfl) (by rfl) (Nat.le_of_ble_eq_true rfl) ?_
  try dsimp only [List.set]
  try rw [up_up]
  refine j_aload_n X (i := 0) dX5_beginNextPeriod_10 rfl rfl ?_
  refine j_aload_n X (i := 0) dX5_beginNextPeriod_11 rfl rfl ?_
  refine j_getf X 5 2 rfl cw_X5 fl_X5_31 (by decide) dX5_beginNextPeriod_12 (by assumption) (by repeat (first | assumption | exact up_s | refine up_n (by first | assumption | (apply Ne.symm; assumption)) ?_)) (by rfl) ?_
  refine j_iconst X (1) dX5_beginNextPeriod_15 (by decide) ?_
  refine j_iadd X dX5_beginNextPeriod_16 ?_
  refine j_aload_n X (i := 1) dX5_beginNextPeriod_17 rfl rfl ?_
  refine j_getf X 4 1 rfl cw_X4 fl_X5_113 (by decide) dX5_beginNextPeriod_18 (by assumption) (by repeat (first | assumption | exact up_s | refine up_n (by first | assumption | (apply Ne.symm; assumption)) ?_)) (by rfl) ?_
  refine j_iconst X (1) dX5_beginNextPeriod_21 (by decide) ?_
  refine j_isub X dX5_beginNextPeriod_22 ?_
  refine j_mmin X ml_X5_86 dX5_beginNextPeriod_23 ⟨(by decide), (Nat.le_of_ble_eq_true rfl)⟩ ⟨(by decide), (by decide)⟩ ?_
  refine j_putf X 5 2 rfl cw_X5 tyX5 tyX5_ok nmX5 fl_X5_31 (by decide) rfl dX5_beginNextPeriod_26 (by assumption) (by repeat (first | assumption | exact up_s | refine up_n (by first | assumption | (apply Ne.symm; assumption)) ?_)) (by rfl) (by rfl) (Nat.le_of_ble_eq_true rfl) ?_
  try dsimp only [List.set]
  try rw [up_up]
  refine j_aload_n X (i := 0) dX5_beginNextPeriod_29 rfl rfl ?_
  refine j_iconst X (0) dX5_beginNextPeriod_30 (by decide) ?_
  refine j_putf X 5 4 rfl cw_X5 tyX5 tyX5_ok nmX5 fl_X5_37 (by decide) rfl dX5_beginNextPeriod_31 (by assumption) (by repeat (first | assumption | exact up_s | refine up_n (by first | assumption | (apply Ne.symm; assumption)) ?_)) (by rfl) (by rfl) (Nat.le_of_ble_eq_true rfl) ?_
  try dsimp only [List.set]
  try rw [up_up]
  refine j_aload_n X (i := 0) dX5_beginNextPeriod_34 rfl rfl ?_
  refine j_getf X 5 9 rfl cw_X5 fl_X5_54 (by decide) dX5_beginNextPeriod_35 (by assumption) (by repeat (first | assumption | exact up_s | refine up_n (by first | assumption | (apply Ne.symm; assumption)) ?_)) (by rfl) ?_
  refine j_if_ne X (tgt := 59) dX5_beginNextPeriod_38 (by decide) (fun h_38 => ?_) (fun h_38 => ?_)
  · exact j_vret X dX5_beginNextPeriod_59 rfl ⟨(by decide), (by decide)⟩ (by refine ⟨rfl, ?_, rfl⟩; simp_all [sNext, sNextP, upd, oSide])
  · refine j_aload_n X (i := 0) dX5_beginNextPeriod_41 rfl rfl ?_
    refine j_dup X dX5_beginNextPeriod_42 rfl ?_
    refine j_getf X 5 1 rfl cw_X5 fl_X5_27 (by decide) dX5_beginNextPeriod_43 (by assumption) (by repeat (first | assumption | exact up_s | refine up_n (by first | assumption | (apply Ne.symm; assumption)) ?_)) (by rfl) ?_
    refine j_aload_n X (i := 1) dX5_beginNextPeriod_46 rfl rfl ?_
    refine j_aload_n X (i := 0) dX5_beginNextPeriod_47 rfl rfl ?_
    refine j_getf X 5 2 rfl cw_X5 fl_X5_31 (by decide) dX5_beginNextPeriod_48 (by assumption) (by repeat (first | assumption | exact up_s | refine up_n (by first | assumption | (apply Ne.symm; assumption)) ?_)) (by rfl) ?_
    refine j_iconst X (1) dX5_beginNextPeriod_51 (by decide) ?_
    refine j_callV2 X 4 (c_X4_number hl (by assumption) (by repeat (first | assumption | exact up_s | refine up_n (by first | assumption | (apply Ne.symm; assumption)) ?_)) (by assumption) (by repeat (first | assumption | exact up_s | refine up_n (by first | assumption | (apply Ne.symm; assumption)) ?_))) ml_X5_21 im_yX4_number se_yX4_number in_X4 cd_yX4_number (by decide +kernel) dX5_beginNextPeriod_52 rfl (by assumption) (by repeat (first | assumption | exact up_s | refine up_n (by first | assumption | (apply Ne.symm; assumption)) ?_)) ⟨(by decide), (by decide)⟩ ⟨(by decide), (by decide)⟩ (Nat.le_of_ble_eq_true rfl) (fun _ h => h.elim) (fun r9 L9 f9 h9 => ?_)
    obtain ⟨rfl, rfl, rfl⟩ := h9
    try dsimp only [Option.toList, List.cons_append, List.nil_append, List.append]
    refine j_iadd X dX5_beginNextPeriod_55 ?_
    refine j_putf X 5 1 rfl cw_X5 tyX5 tyX5_ok nmX5 fl_X5_27 (by decide) rfl dX5_beginNextPeriod_56 (by assumption) (by repeat (first | assumption | exact up_s | refine up_n (by first | assumption | (apply Ne.symm; assumption)) ?_)) (by rfl) (by rfl) (Nat.le_of_ble_eq_true rfl) ?_
    try dsimp only [List.set]
    try rw [up_up]
    exact j_vret X dX5_beginNextPeriod_59 rfl ⟨(by decide), (by decide)⟩ (by refine ⟨rfl, ?_, rfl⟩; simp_all [sNext, sNextP, upd, oSide])
set_option maxRecDepth 100000 in
theorem c_X5_finishMove {l : Launch} (hl : l.stackTraces = false) {G : GG} {L : List Nat} {f : Nat → va_E} {r nb : Nat} {pe ex et se : Int32} {na : Nat → Int32} {a sp : Nat} {v : Nat → Int32} (ha : a ∈ L) (hfa : f a = oSide sp v) (hr : r ∈ L) (hfr : f r = oRules nb pe ex et se) (hnb : nb ∈ L) (hfn : f nb = aI G 25 na) (hra : r ≠ a) (hna : nb ≠ a) : Ct l G yX5_finishMove (.code yX5_finishMove cX5_finishMove 3 (some .int)) 3 65 0 0 [.ref a, .ref r] L f px0 (stay L (fun r9 f1 => f1 = va_up f a (oSide sp (sMove na pe et v)) ∧ r9 = some (.int (sGains na et v)))) := by
  refine Ct.ofo (own := RX5) hl rfl (by decide) [some (.ref a), some (.ref r), none] rfl (Nat.le_of_ble_eq_true rfl) ?_
  intro p e s m below meth c A hname X
  refine j_aload_n X (i := 0) dX5_finishMove_0 rfl rfl ?_
  refine j_aload_n X (i := 1) dX5_finishMove_1 rfl rfl ?_
  refine j_callV1 X 5 (c_X5_gains hl (by assumption) (by repeat (first | assumption | exact up_s | refine up_n (by first | assumption | (apply Ne.symm; assumption)) ?_)) (by assumption) (by repeat (first | assumption | exact up_s | refine up_n (by first | assumption | (apply Ne.symm; assumption)) ?_)) (by assumption) (by repeat (first | assumption | exact up_s | refine up_n (by first | assumption | (apply Ne.symm; assumption)) ?_))) ml_X5_101 im_yX5_gains se_yX5_gains in_X5 cd_yX5_gains (by decide +kernel) dX5_finishMove_2 rfl (by assumption) (by repeat (first | assumption | exact up_s | refine up_n (by first | assumption | (apply Ne.symm; assumption)) ?_)) ⟨(by decide), (by decide)⟩ ⟨(by decide), (by decide)⟩ (Nat.le_of_ble_eq_true rfl) (fun _ h => h.elim) (fun r9 L9 f9 h9 => ?_)
  obtain ⟨rfl, rfl, rfl⟩ := h9
  try dsimp only [Option.toList, List.cons_append, List.nil_append, List.append]
  refine j_istore_n X (i := 2) dX5_finishMove_5 rfl (by decide) (by first | exact lvOK_0 | exact lvOK_s rfl okPrev_none | exact lvOK_s rfl okPrev_int | exact lvOK_s rfl okPrev_ref | exact lvOK_s rfl okPrev_null) ?_
  dsimp only [List.set]
  refine j_aload_n X (i := 0) dX5_finishMove_6 rfl rfl ?_
  refine j_dup X dX5_finishMove_7 rfl ?_
  refine j_getf X 5 1 rfl cw_X5 fl_X5_27 (by decide) dX5_finishMove_8 (by assumption) (by repeat (first | assumption | exact up_s | refine up_n (by first | assumption | (apply Ne.symm; assumption)) ?_)) (by rfl) ?_
  refine j_iload_n X (i := 2) dX5_finishMove_11 rfl rfl ?_
  refine j_iadd X dX5_finishMove_12 ?_
  refine j_putf X 5 1 rfl cw_X5 tyX5 tyX5_ok nmX5 fl_X5_27 (by decide) rfl dX5_finishMove_13 (by assumption) (by repeat (first | assumption | exact up_s | refine up_n (by first | assumption | (apply Ne.symm; assumption)) ?_)) (by rfl) (by rfl) (Nat.le_of_ble_eq_true rfl) ?_
  try dsimp only [List.set]
  try rw [up_up]
  refine j_aload_n X (i := 0) dX5_finishMove_16 rfl rfl ?_
  refine j_dup X dX5_finishMove_17 rfl ?_
  refine j_getf X 5 3 rfl cw_X5 fl_X5_34 (by decide) dX5_finishMove_18 (by assumption) (by repeat (first | assumption | exact up_s | refine up_n (by first | assumption | (apply Ne.symm; assumption)) ?_)) (by rfl) ?_
  refine j_iconst X (1) dX5_finishMove_21 (by decide) ?_
  refine j_iadd X dX5_finishMove_22 ?_
  refine j_putf X 5 3 rfl cw_X5 tyX5 tyX5_ok nmX5 fl_X5_34 (by decide) rfl dX5_finishMove_23 (by assumption) (by repeat (first | assumption | exact up_s | refine up_n (by first | assumption | (apply Ne.symm; assumption)) ?_)) (by rfl) (by rfl) (Nat.le_of_ble_eq_true rfl) ?_
  try dsimp only [List.set]
  try rw [up_up]
  refine j_aload_n X (i := 0) dX5_finishMove_26 rfl rfl ?_
  refine j_dup X dX5_finishMove_27 rfl ?_
  refine j_getf X 5 4 rfl cw_X5 fl_X5_37 (by decide) dX5_finishMove_28 (by assumption) (by repeat (first | assumption | exact up_s | refine up_n (by first | assumption | (apply Ne.symm; assumption)) ?_)) (by rfl) ?_
  refine j_iconst X (1) dX5_finishMove_31 (by decide) ?_
  refine j_iadd X dX5_finishMove_32 ?_
  refine j_putf X 5 4 rfl cw_X5 tyX5 tyX5_ok nmX5 fl_X5_37 (by decide) rfl dX5_finishMove_33 (by assumption) (by repeat (first | assumption | exact up_s | refine up_n (by first | assumption | (apply Ne.symm; assumption)) ?_)) (by rfl) (by rfl) (Nat.le_of_ble_eq_true rfl) ?_
  try dsimp only [List.set]
  try rw [up_up]
  refine j_aload_n X (i := 0) dX5_finishMove_36 rfl rfl ?_
  refine j_aload_n X (i := 1) dX5_finishMove_37 rfl rfl ?_
  refine j_callV1 X 5 (c_X5_movesToPeriodEnd hl (v := upd (upd (upd v 0 (v 0 + sGains na et v)) 1 (v 1 + 1)) 3 (v 3 + 1)) (by assumption) (by repeat (first | assumption | exact up_s | refine up_n (by first | assumption | (apply Ne.symm; assumption)) ?_)) (by assumption) (by repeat (first | assumption | exact up_s | refine up_n (by first | assumption | (apply Ne.symm; assumption)) ?_)) (by assumption) (by repeat (first | assumption | exact up_s | refine up_n (by first | assumption | (apply Ne.symm; assumption)) ?_))) ml_X5_104 im_yX5_movesToPeriodEnd se_yX5_movesToPeriodEnd in_X5 cd_yX5_movesToPeriodEnd (by decide +kernel) dX5_finishMove_38 rfl (by assumption) (by repeat (first | assumption | exact up_s | refine up_n (by first | assumption | (apply Ne.symm; assumption)) ?_)) ⟨(by decide), (by decide)⟩ ⟨(by decide), (by decide)⟩ (Nat.le_of_ble_eq_true rfl) (fun _ h => h.elim) (fun r9 L9 f9 h9 => ?_)
  obtain ⟨rfl, rfl, rfl⟩ := h9
  try dsimp only [Option.toList, List.cons_append, List.nil_append, List.append]
  refine j_if_ne X (tgt := 49) dX5_finishMove_41 (by decide) (fun h_41 => ?_) (fun h_41 => ?_)
  · refine j_aload_n X (i := 0) dX5_finishMove_49 rfl rfl ?_
    refine j_callV0 X 5 (c_X5_dropMove hl (by assumption) (by repeat (first | assumption | exact up_s | refine up_n (by first | assumption | (apply Ne.symm; assumption)) ?_))) ml_X5_110 im_yX5_dropMove se_yX5_dropMove in_X5 cd_yX5_dropMove (by decide +kernel) dX5_finishMove_50 rfl (by assumption) (by repeat (first | assumption | exact up_s | refine up_n (by first | assumption | (apply Ne.symm; assumption)) ?_)) ⟨(by decide), (by decide)⟩ ⟨(by decide), (by decide)⟩ (Nat.le_of_ble_eq_true rfl) (fun _ h => h.elim) (fun r9 L9 f9 h9 => ?_)
    obtain ⟨rfl, rfl, rfl⟩ := h9
    try dsimp only [Option.toList, List.cons_append, List.nil_append, List.append]
    refine j_iload_n X (i := 2) dX5_finishMove_53 rfl rfl ?_
    exact j_iret X dX5_finishMove_54 rfl ⟨(by decide), (by decide)⟩ (by refine ⟨rfl, ?_, rfl⟩; simp_all [sMove, up_up])
  · refine j_aload_n X (i := 0) dX5_finishMove_44 rfl rfl ?_
    refine j_aload_n X (i := 1) dX5_finishMove_45 rfl rfl ?_
    refine j_callV1 X 5 (c_X5_beginNextPeriod hl (by assumption) (by repeat (first | assumption | exact up_s | refine up_n (by first | assumption | (apply Ne.symm; assumption)) ?_)) (by assumption) (by repeat (first | assumption | exact up_s | refine up_n (by first | assumption | (apply Ne.symm; assumption)) ?_)) (by assumption) (by repeat (first | assumption | exact up_s | refine up_n (by first | assumption | (apply Ne.symm; assumption)) ?_)) (by first | assumption | (apply Ne.symm; assumption)) (by first | assumption | (apply Ne.symm; assumption))) ml_X5_107 im_yX5_beginNextPeriod se_yX5_beginNextPeriod in_X5 cd_yX5_beginNextPeriod (by decide +kernel) dX5_finishMove_46 rfl (by assumption) (by repeat (first | assumption | exact up_s | refine up_n (by first | assumption | (apply Ne.symm; assumption)) ?_)) ⟨(by decide), (by decide)⟩ ⟨(by decide), (by decide)⟩ (Nat.le_of_ble_eq_true rfl) (fun _ h => h.elim) (fun r9 L9 f9 h9 => ?_)
    obtain ⟨rfl, rfl, rfl⟩ := h9
    try dsimp only [Option.toList, List.cons_append, List.nil_append, List.append]
    refine j_aload_n X (i := 0) dX5_finishMove_49 rfl rfl ?_
    refine j_callV0 X 5 (c_X5_dropMove hl (by assumption) (by repeat (first | assumption | exact up_s | refine up_n (by first | assumption | (apply Ne.symm; assumption)) ?_))) ml_X5_110 im_yX5_dropMove se_yX5_dropMove in_X5 cd_yX5_dropMove (by decide +kernel) dX5_finishMove_50 rfl (by assumption) (by repeat (first | assumption | exact up_s | refine up_n (by first | assumption | (apply Ne.symm; assumption)) ?_)) ⟨(by decide), (by decide)⟩ ⟨(by decide), (by decide)⟩ (Nat.le_of_ble_eq_true rfl) (fun _ h => h.elim) (fun r9 L9 f9 h9 => ?_)
    obtain ⟨rfl, rfl, rfl⟩ := h9
    try dsimp only [Option.toList, List.cons_append, List.nil_append, List.append]
    refine j_iload_n X (i := 2) dX5_finishMove_53 rfl rfl ?_
    exact j_iret X dX5_finishMove_54 rfl ⟨(by decide), (by decide)⟩ (by refine ⟨rfl, ?_, rfl⟩; simp_all [sMove, up_up])
set_option maxRecDepth 100000 in
theorem c_X8_copyRow {l : Launch} (hl : l.stackTraces = false) {G : GG} {L : List Nat} {f : Nat → va_E} {a b n : Nat} {g0 g1 : Nat → Int32} (ha : a ∈ L) (hfa : f a = aI G n g0) (hb : b ∈ L) (hfb : f b = aI G n g1) (hn : n < 2 ^ 31) (h0 : Canon n g0) (h1 : Canon n g1) : Ct l G yX8_copyRow (.code yX8_copyRow cX8_copyRow 2 none) 1 40 0 0 [.ref a, .ref b] L f px0 (stay L (fun r9 f1 => f1 = va_up f b (aI G n g0) ∧ r9 = none)) := by
  refine Ct.ofo (own := RX8) hl rfl (by decide) [some (.ref a), some (.ref b)] rfl (Nat.le_of_ble_eq_true rfl) ?_
  intro p e s m below meth c A hname X
  refine j_aload_n X (i := 0) dX8_copyRow_0 rfl rfl ?_
  refine j_iconst X (0) dX8_copyRow_1 (by decide) ?_
  refine j_aload_n X (i := 1) dX8_copyRow_2 rfl rfl ?_
  refine j_iconst X (0) dX8_copyRow_3 (by decide) ?_
  refine j_aload_n X (i := 0) dX8_copyRow_4 rfl rfl ?_
  refine j_alenN X (k9 := 0) dX8_copyRow_5 (by assumption) (by repeat (first | assumption | exact up_s | refine up_n (by first | assumption | (apply Ne.symm; assumption)) ?_)) rfl ?_
  refine j_aload_n X (i := 1) dX8_copyRow_6 rfl rfl ?_
  refine j_alenN X (k9 := 0) dX8_copyRow_7 (by assumption) (by repeat (first | assumption | exact up_s | refine up_n (by first | assumption | (apply Ne.symm; assumption)) ?_)) rfl ?_
  refine j_mmin X ml_X8_375 dX8_copyRow_8 ⟨(by decide), (Nat.le_of_ble_eq_true rfl)⟩ ⟨(by decide), (by decide)⟩ ?_
  refine j_copyi X ml_X8_414 dX8_copyRow_11 (by assumption) (by repeat (first | assumption | exact up_s | refine up_n (by first | assumption | (apply Ne.symm; assumption)) ?_)) (by assumption) (by repeat (first | assumption | exact up_s | refine up_n (by first | assumption | (apply Ne.symm; assumption)) ?_)) (by decide) (by decide) (by rw [if_neg (Int32.lt_irrefl _)]; exact nI_pos hn) (by rw [if_neg (Int32.lt_irrefl _), nI_clamp hn]; show 0 + n ≤ n; omega) (by rw [if_neg (Int32.lt_irrefl _), nI_clamp hn]; show 0 + n ≤ n; omega) ⟨(by decide), (Nat.le_of_ble_eq_true rfl)⟩ ?_
  exact j_vret X dX8_copyRow_14 rfl ⟨(by decide), (by decide)⟩ (by refine ⟨rfl, ?_, rfl⟩; rw [if_neg (Int32.lt_irrefl _), nI_clamp hn]; exact congrArg (fun z => va_up f b (aI G n z)) (cpy_canon h0 h1))
