/-! Facts of the pools: decided. -/
theorem gDec_cut {cc : ByteArray} {l : List (Nat × Instr)} (n : Nat) (h1 : gDecB cc (l.take n) = true) (h2 : gDecB cc (l.drop n) = true) : gDecB cc l = true := by
  have h : gDecB cc (l.take n ++ l.drop n) = true := by
    unfold gDecB at h1 h2 ⊢
    rw [List.all_append, h1, h2]; rfl
  rw [List.take_append_drop] at h; exact h
def gFxQ (md : gMd) (mp : Nat × Nat × Nat × Nat) : Bool := plainName md.1.cls && decide (md.2.2.1 ≤ 40) && gAt mp.2.1 (Cond.initialized md.1.cls) && decide (md.1.cls ≠ "java/lang/invoke/MethodHandle" ∧ md.1.cls ≠ "java/lang/invoke/VarHandle")
theorem gFx_of3 {pl : List (String × Nat × Nat)} {cl : List vw_C} {ms : List gMd} {md : gMd} {mp : Nat × Nat × Nat × Nat} (h0 : gDecB md.2.1 md.2.2.2.2.1 = true) (hc : Cond.code md.1 md.2.1 md.2.2.1 md.2.2.2.1 ∈ gTs) (h : gFxQ md mp = true) (h1 : gPfs cl md.1.cls md.1 md.2.2.2.2.2 ∧ gSfs md.1.cls md.2.2.2.2.2) (h2 : gPks pl md.1.cls md.2.2.2.2.2) (h3 : gPms cl md.1.cls ms md.2.2.2.2.2) (h4 : gPcs cl md.1.cls md.2.2.2.2.2) : gFx pl cl ms md := by
  simp only [gFxQ, Bool.and_eq_true, decide_eq_true_eq] at h
  obtain ⟨⟨⟨a3, a4⟩, a5⟩, a6⟩ := h
  obtain ⟨b1, b2⟩ := gDec_of h0
  exact ⟨b1, b2, h1.1, h1.2, h2, h3, h4, hc, a3, a4, gAt_in a5, a6⟩
def gFxR (md : gMd) (mp : Nat × Nat × Nat × Nat) : Bool := gAt mp.1 (Cond.code md.1 md.2.1 md.2.2.1 md.2.2.2.1) && plainName md.1.cls && decide (md.2.2.1 ≤ 40) && gAt mp.2.1 (Cond.initialized md.1.cls) && decide (md.1.cls ≠ "java/lang/invoke/MethodHandle" ∧ md.1.cls ≠ "java/lang/invoke/VarHandle")
theorem gFx_of2 {pl : List (String × Nat × Nat)} {cl : List vw_C} {ms : List gMd} {md : gMd} {mp : Nat × Nat × Nat × Nat} (h0 : gDecB md.2.1 md.2.2.2.2.1 = true) (h : gFxR md mp = true) (h1 : gPfs cl md.1.cls md.1 md.2.2.2.2.2 ∧ gSfs md.1.cls md.2.2.2.2.2) (h2 : gPks pl md.1.cls md.2.2.2.2.2) (h3 : gPms cl md.1.cls ms md.2.2.2.2.2) (h4 : gPcs cl md.1.cls md.2.2.2.2.2) : gFx pl cl ms md := by
  simp only [gFxR, Bool.and_eq_true, decide_eq_true_eq] at h
  obtain ⟨⟨⟨⟨a2, a3⟩, a4⟩, a5⟩, a6⟩ := h
  obtain ⟨b1, b2⟩ := gDec_of h0
  exact ⟨b1, b2, h1.1, h1.2, h2, h3, h4, gAt_in a2, a3, a4, gAt_in a5, a6⟩
theorem gF0_f : gAll2 (gPfB gCl "GateField" false) gP0.1 gPp0.1 = true := by decide +kernel
theorem gF0_m : gAll2 (gPmB gCl "GateField" gMs gMp) gP0.2.1 gPp0.2.1 = true := by decide +kernel
theorem gF0_k : gAll2 (gPkB gPl "GateField") gP0.2.2.1 gPp0.2.2.1 = true := by decide +kernel
theorem gF0_c : gAll2 (gPcB gCl "GateField") gP0.2.2.2 gPp0.2.2.2 = true := by decide +kernel
theorem gF0i_f : gAll2 (gPfB gCl "GateField" true) gP0i.1 gPp0i.1 = true := by decide +kernel
theorem gF0i_m : gAll2 (gPmB gCl "GateField" gMs gMp) gP0i.2.1 gPp0i.2.1 = true := by decide +kernel
theorem gF0i_k : gAll2 (gPkB gPl "GateField") gP0i.2.2.1 gPp0i.2.2.1 = true := by decide +kernel
theorem gF0i_c : gAll2 (gPcB gCl "GateField") gP0i.2.2.2 gPp0i.2.2.2 = true := by decide +kernel
theorem gF1_f : gAll2 (gPfB gCl "GateField$Grid" false) gP1.1 gPp1.1 = true := by decide +kernel
theorem gF1_m : gAll2 (gPmB gCl "GateField$Grid" gMs gMp) gP1.2.1 gPp1.2.1 = true := by decide +kernel
theorem gF1_k : gAll2 (gPkB gPl "GateField$Grid") gP1.2.2.1 gPp1.2.2.1 = true := by decide +kernel
theorem gF1_c : gAll2 (gPcB gCl "GateField$Grid") gP1.2.2.2 gPp1.2.2.2 = true := by decide +kernel
theorem gF1i_f : gAll2 (gPfB gCl "GateField$Grid" true) gP1i.1 gPp1i.1 = true := by decide +kernel
theorem gF1i_m : gAll2 (gPmB gCl "GateField$Grid" gMs gMp) gP1i.2.1 gPp1i.2.1 = true := by decide +kernel
theorem gF1i_k : gAll2 (gPkB gPl "GateField$Grid") gP1i.2.2.1 gPp1i.2.2.1 = true := by decide +kernel
theorem gF1i_c : gAll2 (gPcB gCl "GateField$Grid") gP1i.2.2.2 gPp1i.2.2.2 = true := by decide +kernel
theorem gF2_f : gAll2 (gPfB gCl "java/util/Arrays" false) gP2.1 gPp2.1 = true := by decide +kernel
theorem gF2_m : gAll2 (gPmB gCl "java/util/Arrays" gMs gMp) gP2.2.1 gPp2.2.1 = true := by decide +kernel
theorem gF2_k : gAll2 (gPkB gPl "java/util/Arrays") gP2.2.2.1 gPp2.2.2.1 = true := by decide +kernel
theorem gF2_c : gAll2 (gPcB gCl "java/util/Arrays") gP2.2.2.2 gPp2.2.2.2 = true := by decide +kernel
