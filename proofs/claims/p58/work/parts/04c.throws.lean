def exCh : List String := ["java/lang/RuntimeException", "java/lang/Exception"]
/-- the words of a throw: each in BIG, or among the casts, or among the declared ones -/
def exAx (own : String) (ik ic : Nat) (cls : String) : Prop := Bundle.fit cls = true ∧ (∀ n ∈ exCh, Bundle.fit n = true) ∧ Cond.classLink own ik cls ∈ BIG ∧ Cond.initialized cls ∈ BIG ∧ (∀ w ∈ vx_atS own ic cls exCh, w ∈ BIG ∨ w ∈ castT.map (fun q => Cond.castable q.1 q.2) ∨ w ∈ declT.map Cond.declares) ∧ ∀ w ∈ Cond.classLink own ik cls :: Cond.initialized cls :: vx_atS own ic cls exCh, vx_ot w = true
theorem ax_ISE_X8_55_59 : exAx RX8 55 59 "java/lang/IllegalStateException" := ⟨by decide +kernel, by decide +kernel, cl_X8_55, by decide +kernel, by decide +kernel, by decide +kernel⟩
theorem ax_IAE_X8_66_70 : exAx RX8 66 70 "java/lang/IllegalArgumentException" := ⟨by decide +kernel, by decide +kernel, cl_X8_66, by decide +kernel, by decide +kernel, by decide +kernel⟩
theorem ax_IOE_X8_205_209 : exAx RX8 205 209 "java/lang/IndexOutOfBoundsException" := ⟨by decide +kernel, by decide +kernel, cl_X8_205, by decide +kernel, by decide +kernel, by decide +kernel⟩
section JROWS
variable {G : GG} {p : Program} {l : Launch} {e : Env} {R : Room} {s : State} {m : MethodId} {args : Array Value} {below : List Frame} {meth : Method} {c : Code} {A : Nat → Prop} {Q : State → Prop} {own : String} {cc : ByteArray} {nL cells slots pc : Nat} {ret : Option FieldType} {tb : List ExceptionTableEntry} {lv : List (Option Value)} {st : List Value} {L : List Nat} {f : Nat → va_E}
theorem j_throwS (X : Cx G p l s m args meth c A own cc nL ret []) (i : Nat) {is ik ic mc ms : Nat} {cls text : String} (hi : strT[i]? = some (own, is, text)) (d0 : decode cc pc = .ok (.new ik, 3)) (d3 : decode cc (pc + 3) = .ok (.dup, 1)) (d4 : decode cc (pc + 4) = .ok (.ldc is, 2)) (d7 : decode cc (pc + 6) = .ok (.invokespecial ic, 3)) (d10 : decode cc (pc + 9) = .ok (.athrow, 1)) (ax : exAx own ik ic cls) (hfr : 5 < R.frames) (hlo : (st.map fun v => v.category).sum + 82 ≤ R.locals) (hc1 : cells + 1 ≤ R.cells ∧ slots + 6 ≤ R.slots) (hc : cells + 1 ≤ mc ∧ slots + 6 ≤ ms) {px : String → Prop} {Qc : Array Value → State → Outcome → State → Prop} (hp : px cls) :
    J G p l e R s m args below meth c A (vx_MQ below Qc (Xg G A L f px) args s mc ms A) nL cells slots pc lv st L f := by
  intro H locs ls hP hD hS hl
  obtain ⟨a1, a2, a3, a4, a5, a6⟩ := ax
  have hstr := X.str hi
  obtain ⟨hx, hb, hml, hown, hw, -, hlk, hK, hnew, hE, hst, htb⟩ := X
  refine vx_throwS hx hb hst (names := exCh) (A := A) hown a1 a2 (hw _ a3) (hw _ a4) hstr.1 (fun w h => ?_) a6 hE.1 hE.2.1 hS (hl.1.trans hml.symm) d0 d3 d4 d7 d10 (fun x h => by rw [htb] at h; cases h) hfr (by exact hlo) hc1.1 hc1.2 hlk (fun t ht hz hk => ?_) hS.2.2 hc.1 hc.2
  · rcases a5 w h with h1 | h1 | h1
    · exact hw _ h1
    · obtain ⟨q, hq, rfl⟩ := List.mem_map.mp h1
      exact va_Nw.use rfl (hE.2.2.2.2.2.1 q hq)
    · obtain ⟨q, hq, rfl⟩ := List.mem_map.mp h1
      exact va_Nw.use rfl (hE.2.2.2.2.2.2.2.2.1 q hq)
  · refine ⟨⟨hp, hP.kept (fun k q hq => hk _ (va_at.lt (hP k q hq))), va_K.moved ht hK, hD⟩, Nat.le_trans hS.1 hz, fun q h1 h2 => ?_⟩
    rw [hk q (Nat.lt_of_lt_of_le h1 hS.1), hS.2.1 q h1 h2]
theorem j_throwW (X : Cx G p l s m args meth c A own cc nL ret []) (i : Nat) {is ik ic mc ms : Nat} {cls text : String} (hi : strT[i]? = some (own, is, text)) (d0 : decode cc pc = .ok (.new ik, 3)) (d3 : decode cc (pc + 3) = .ok (.dup, 1)) (d4 : decode cc (pc + 4) = .ok (.ldc_w is, 3)) (d7 : decode cc (pc + 7) = .ok (.invokespecial ic, 3)) (d10 : decode cc (pc + 10) = .ok (.athrow, 1)) (ax : exAx own ik ic cls) (hfr : 5 < R.frames) (hlo : (st.map fun v => v.category).sum + 82 ≤ R.locals) (hc1 : cells + 1 ≤ R.cells ∧ slots + 6 ≤ R.slots) (hc : cells + 1 ≤ mc ∧ slots + 6 ≤ ms) {px : String → Prop} {Qc : Array Value → State → Outcome → State → Prop} (hp : px cls) :
    J G p l e R s m args below meth c A (vx_MQ below Qc (Xg G A L f px) args s mc ms A) nL cells slots pc lv st L f := by
  intro H locs ls hP hD hS hl
  obtain ⟨a1, a2, a3, a4, a5, a6⟩ := ax
  have hstr := X.str hi
  obtain ⟨hx, hb, hml, hown, hw, -, hlk, hK, hnew, hE, hst, htb⟩ := X
  refine vx_throwSW hx hb hst (names := exCh) (A := A) hown a1 a2 (hw _ a3) (hw _ a4) hstr.1 (fun w h => ?_) a6 hE.1 hE.2.1 hS (hl.1.trans hml.symm) d0 d3 d4 d7 d10 (fun x h => by rw [htb] at h; cases h) hfr (by exact hlo) hc1.1 hc1.2 hlk (fun t ht hz hk => ?_) hS.2.2 hc.1 hc.2
  · rcases a5 w h with h1 | h1 | h1
    · exact hw _ h1
    · obtain ⟨q, hq, rfl⟩ := List.mem_map.mp h1
      exact va_Nw.use rfl (hE.2.2.2.2.2.1 q hq)
    · obtain ⟨q, hq, rfl⟩ := List.mem_map.mp h1
      exact va_Nw.use rfl (hE.2.2.2.2.2.2.2.2.1 q hq)
  · refine ⟨⟨hp, hP.kept (fun k q hq => hk _ (va_at.lt (hP k q hq))), va_K.moved ht hK, hD⟩, Nat.le_trans hS.1 hz, fun q h1 h2 => ?_⟩
    rw [hk q (Nat.lt_of_lt_of_le h1 hS.1), hS.2.1 q h1 h2]
end JROWS
