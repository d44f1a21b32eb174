/-! Facts of the pools: decided. -/
theorem gDec_cut {cc : ByteArray} {l : List (Nat × Instr)} (n : Nat) (h1 : gDecB cc (l.take n) = true) (h2 : gDecB cc (l.drop n) = true) : gDecB cc l = true := by
  have h : gDecB cc (l.take n ++ l.drop n) = true := by
    unfold gDecB at h1 h2 ⊢
    rw [List.all_append, h1, h2]; rfl
  rw [List.take_append_drop] at h; exact h
def gFxR (md : gMd) (mp : Nat × Nat × Nat × Nat) : Bool := gAt mp.1 (Cond.code md.1 md.2.1 md.2.2.1 md.2.2.2.1) && plainName md.1.cls && decide (md.2.2.1 ≤ 40) && gAt mp.2.1 (Cond.initialized md.1.cls) && decide (md.1.cls ≠ "java/lang/invoke/MethodHandle" ∧ md.1.cls ≠ "java/lang/invoke/VarHandle")
theorem gFx_of2 {pl : List (String × Nat × Nat)} {cl : List vw_C} {ms : List gMd} {md : gMd} {mp : Nat × Nat × Nat × Nat} (h0 : gDecB md.2.1 md.2.2.2.2.1 = true) (h : gFxR md mp = true) (h1 : gPfs cl md.1.cls md.1 md.2.2.2.2.2 ∧ gSfs md.1.cls md.2.2.2.2.2) (h2 : gPks pl md.1.cls md.2.2.2.2.2) (h3 : gPms cl md.1.cls ms md.2.2.2.2.2) (h4 : gPcs cl md.1.cls md.2.2.2.2.2) : gFx pl cl ms md := by
  simp only [gFxR, Bool.and_eq_true, decide_eq_true_eq] at h
  obtain ⟨⟨⟨⟨a2, a3⟩, a4⟩, a5⟩, a6⟩ := h
  obtain ⟨b1, b2⟩ := gDec_of h0
  exact ⟨b1, b2, h1.1, h1.2, h2, h3, h4, gAt_in a2, a3, a4, gAt_in a5, a6⟩
theorem gF0_f : gAll2 (gPfB gCl "GateField" false) gP0.1 gPp0.1 = true := by decide +kernel
theorem gF0_m : gAll2 (gPmB gCl "GateField" gMs gMp) gP0.2.1 gPp0.2.1 = true := by decide +kernel
theorem gF0_k : gAll2 (gPkB gPl "GateField") gP0.2.2.1 gPp0.2.2.1 = true := by decide +kernel
theorem gF0_c : gAll2 (gPcB gCl "GateField") gP0.2.2.2 gPp0.2.2.2 = true := by decide +kernel
theorem gF0i_f : gAll2 (gPfB gCl "GateField" true) gP0i.1 gPp0i.1 = true := by decide +kernel
theorem gF0i_m : gAll2 (gPmB gCl "GateField" gMs gMp) gP0i.2.1 gPp0i.2.1 = true := by decide +kernel
theorem gF0i_k : gAll2 (gPkB gPl "GateField") gP0i.2.2.1 gPp0i.2.2.1 = true := by decide +kernel
theorem gF0i_c : gAll2 (gPcB gCl "GateField") gP0i.2.2.2 gPp0i.2.2.2 = true := by decide +kernel
theorem gF1_f : gAll2 (gPfB gCl "GateField$Grid" false) gP1.1 gPp1.1 = true := by decide +kernel
theorem gF1_m : gAll2 (gPmB gCl "GateField$Grid" gMs gMp) gP1.2.1 gPp1.2.1 = true := by decide +kernel
theorem gF1_k : gAll2 (gPkB gPl "GateField$Grid") gP1.2.2.1 gPp1.2.2.1 = true := by decide +kernel
theorem gF1_c : gAll2 (gPcB gCl "GateField$Grid") gP1.2.2.2 gPp1.2.2.2 = true := by decide +kernel
theorem gF1i_f : gAll2 (gPfB gCl "GateField$Grid" true) gP1i.1 gPp1i.1 = true := by decide +kernel
theorem gF1i_m : gAll2 (gPmB gCl "GateField$Grid" gMs gMp) gP1i.2.1 gPp1i.2.1 = true := by decide +kernel
theorem gF1i_k : gAll2 (gPkB gPl "GateField$Grid") gP1i.2.2.1 gPp1i.2.2.1 = true := by decide +kernel
theorem gF1i_c : gAll2 (gPcB gCl "GateField$Grid") gP1i.2.2.2 gPp1i.2.2.2 = true := by decide +kernel
theorem gF2_f : gAll2 (gPfB gCl "java/util/Arrays" false) gP2.1 gPp2.1 = true := by decide +kernel
theorem gF2_m : gAll2 (gPmB gCl "java/util/Arrays" gMs gMp) gP2.2.1 gPp2.2.1 = true := by decide +kernel
theorem gF2_k : gAll2 (gPkB gPl "java/util/Arrays") gP2.2.2.1 gPp2.2.2.1 = true := by decide +kernel
theorem gF2_c : gAll2 (gPcB gCl "java/util/Arrays") gP2.2.2.2 gPp2.2.2.2 = true := by decide +kernel
theorem gF3_f : gAll2 (gPfB gCl "GateField$Text" false) gP3.1 gPp3.1 = true := by decide +kernel
theorem gF3_m : gAll2 (gPmB gCl "GateField$Text" gMs gMp) gP3.2.1 gPp3.2.1 = true := by decide +kernel
theorem gF3_k : gAll2 (gPkB gPl "GateField$Text") gP3.2.2.1 gPp3.2.2.1 = true := by decide +kernel
theorem gF3_c : gAll2 (gPcB gCl "GateField$Text") gP3.2.2.2 gPp3.2.2.2 = true := by decide +kernel
theorem gF3i_f : gAll2 (gPfB gCl "GateField$Text" true) gP3i.1 gPp3i.1 = true := by decide +kernel
theorem gF3i_m : gAll2 (gPmB gCl "GateField$Text" gMs gMp) gP3i.2.1 gPp3i.2.1 = true := by decide +kernel
theorem gF3i_k : gAll2 (gPkB gPl "GateField$Text") gP3i.2.2.1 gPp3i.2.2.1 = true := by decide +kernel
theorem gF3i_c : gAll2 (gPcB gCl "GateField$Text") gP3i.2.2.2 gPp3i.2.2.2 = true := by decide +kernel
theorem gF4_f : gAll2 (gPfB gCl "GateField$Gates" false) gP4.1 gPp4.1 = true := by decide +kernel
theorem gF4_m : gAll2 (gPmB gCl "GateField$Gates" gMs gMp) gP4.2.1 gPp4.2.1 = true := by decide +kernel
theorem gF4_k : gAll2 (gPkB gPl "GateField$Gates") gP4.2.2.1 gPp4.2.2.1 = true := by decide +kernel
theorem gF4_c : gAll2 (gPcB gCl "GateField$Gates") gP4.2.2.2 gPp4.2.2.2 = true := by decide +kernel
theorem gF4i_f : gAll2 (gPfB gCl "GateField$Gates" true) gP4i.1 gPp4i.1 = true := by decide +kernel
theorem gF4i_m : gAll2 (gPmB gCl "GateField$Gates" gMs gMp) gP4i.2.1 gPp4i.2.1 = true := by decide +kernel
theorem gF4i_k : gAll2 (gPkB gPl "GateField$Gates") gP4i.2.2.1 gPp4i.2.2.1 = true := by decide +kernel
theorem gF4i_c : gAll2 (gPcB gCl "GateField$Gates") gP4i.2.2.2 gPp4i.2.2.2 = true := by decide +kernel
theorem gF5_f : gAll2 (gPfB gCl "GateField$Reader" false) gP5.1 gPp5.1 = true := by decide +kernel
theorem gF5_m : gAll2 (gPmB gCl "GateField$Reader" gMs gMp) gP5.2.1 gPp5.2.1 = true := by decide +kernel
theorem gF5_k : gAll2 (gPkB gPl "GateField$Reader") gP5.2.2.1 gPp5.2.2.1 = true := by decide +kernel
theorem gF5_c : gAll2 (gPcB gCl "GateField$Reader") gP5.2.2.2 gPp5.2.2.2 = true := by decide +kernel
theorem gF5i_f : gAll2 (gPfB gCl "GateField$Reader" true) gP5i.1 gPp5i.1 = true := by decide +kernel
theorem gF5i_m : gAll2 (gPmB gCl "GateField$Reader" gMs gMp) gP5i.2.1 gPp5i.2.1 = true := by decide +kernel
theorem gF5i_k : gAll2 (gPkB gPl "GateField$Reader") gP5i.2.2.1 gPp5i.2.2.1 = true := by decide +kernel
theorem gF5i_c : gAll2 (gPcB gCl "GateField$Reader") gP5i.2.2.2 gPp5i.2.2.2 = true := by decide +kernel
theorem gF6_f : gAll2 (gPfB gCl "GateField$Circuit" false) gP6.1 gPp6.1 = true := by decide +kernel
theorem gF6_m : gAll2 (gPmB gCl "GateField$Circuit" gMs gMp) gP6.2.1 gPp6.2.1 = true := by decide +kernel
theorem gF6_k : gAll2 (gPkB gPl "GateField$Circuit") gP6.2.2.1 gPp6.2.2.1 = true := by decide +kernel
theorem gF6_c : gAll2 (gPcB gCl "GateField$Circuit") gP6.2.2.2 gPp6.2.2.2 = true := by decide +kernel
theorem gF6i_f : gAll2 (gPfB gCl "GateField$Circuit" true) gP6i.1 gPp6i.1 = true := by decide +kernel
theorem gF6i_m : gAll2 (gPmB gCl "GateField$Circuit" gMs gMp) gP6i.2.1 gPp6i.2.1 = true := by decide +kernel
theorem gF6i_k : gAll2 (gPkB gPl "GateField$Circuit") gP6i.2.2.1 gPp6i.2.2.1 = true := by decide +kernel
theorem gF6i_c : gAll2 (gPcB gCl "GateField$Circuit") gP6i.2.2.2 gPp6i.2.2.2 = true := by decide +kernel
theorem gF7_f : gAll2 (gPfB gCl "GateField$Mapper" false) gP7.1 gPp7.1 = true := by decide +kernel
theorem gF7_m : gAll2 (gPmB gCl "GateField$Mapper" gMs gMp) gP7.2.1 gPp7.2.1 = true := by decide +kernel
theorem gF7_k : gAll2 (gPkB gPl "GateField$Mapper") gP7.2.2.1 gPp7.2.2.1 = true := by decide +kernel
theorem gF7_c : gAll2 (gPcB gCl "GateField$Mapper") gP7.2.2.2 gPp7.2.2.2 = true := by decide +kernel
theorem gF7i_f : gAll2 (gPfB gCl "GateField$Mapper" true) gP7i.1 gPp7i.1 = true := by decide +kernel
theorem gF7i_m : gAll2 (gPmB gCl "GateField$Mapper" gMs gMp) gP7i.2.1 gPp7i.2.1 = true := by decide +kernel
theorem gF7i_k : gAll2 (gPkB gPl "GateField$Mapper") gP7i.2.2.1 gPp7i.2.2.1 = true := by decide +kernel
theorem gF7i_c : gAll2 (gPcB gCl "GateField$Mapper") gP7i.2.2.2 gPp7i.2.2.2 = true := by decide +kernel
theorem gF8_f : gAll2 (gPfB gCl "GateField$Packing" false) gP8.1 gPp8.1 = true := by decide +kernel
theorem gF8_m : gAll2 (gPmB gCl "GateField$Packing" gMs gMp) gP8.2.1 gPp8.2.1 = true := by decide +kernel
theorem gF8_k : gAll2 (gPkB gPl "GateField$Packing") gP8.2.2.1 gPp8.2.2.1 = true := by decide +kernel
theorem gF8_c : gAll2 (gPcB gCl "GateField$Packing") gP8.2.2.2 gPp8.2.2.2 = true := by decide +kernel
theorem gF8i_f : gAll2 (gPfB gCl "GateField$Packing" true) gP8i.1 gPp8i.1 = true := by decide +kernel
theorem gF8i_m : gAll2 (gPmB gCl "GateField$Packing" gMs gMp) gP8i.2.1 gPp8i.2.1 = true := by decide +kernel
theorem gF8i_k : gAll2 (gPkB gPl "GateField$Packing") gP8i.2.2.1 gPp8i.2.2.1 = true := by decide +kernel
theorem gF8i_c : gAll2 (gPcB gCl "GateField$Packing") gP8i.2.2.2 gPp8i.2.2.2 = true := by decide +kernel
theorem gF9_f : gAll2 (gPfB gCl "GateField$Placing" false) gP9.1 gPp9.1 = true := by decide +kernel
theorem gF9_m : gAll2 (gPmB gCl "GateField$Placing" gMs gMp) gP9.2.1 gPp9.2.1 = true := by decide +kernel
theorem gF9_k : gAll2 (gPkB gPl "GateField$Placing") gP9.2.2.1 gPp9.2.2.1 = true := by decide +kernel
theorem gF9_c : gAll2 (gPcB gCl "GateField$Placing") gP9.2.2.2 gPp9.2.2.2 = true := by decide +kernel
theorem gF9i_f : gAll2 (gPfB gCl "GateField$Placing" true) gP9i.1 gPp9i.1 = true := by decide +kernel
theorem gF9i_m : gAll2 (gPmB gCl "GateField$Placing" gMs gMp) gP9i.2.1 gPp9i.2.1 = true := by decide +kernel
theorem gF9i_k : gAll2 (gPkB gPl "GateField$Placing") gP9i.2.2.1 gPp9i.2.2.1 = true := by decide +kernel
theorem gF9i_c : gAll2 (gPcB gCl "GateField$Placing") gP9i.2.2.2 gPp9i.2.2.2 = true := by decide +kernel
theorem gF10_f : gAll2 (gPfB gCl "GateField$Router" false) gP10.1 gPp10.1 = true := by decide +kernel
theorem gF10_m : gAll2 (gPmB gCl "GateField$Router" gMs gMp) gP10.2.1 gPp10.2.1 = true := by decide +kernel
theorem gF10_k : gAll2 (gPkB gPl "GateField$Router") gP10.2.2.1 gPp10.2.2.1 = true := by decide +kernel
theorem gF10_c : gAll2 (gPcB gCl "GateField$Router") gP10.2.2.2 gPp10.2.2.2 = true := by decide +kernel
theorem gF10i_f : gAll2 (gPfB gCl "GateField$Router" true) gP10i.1 gPp10i.1 = true := by decide +kernel
theorem gF10i_m : gAll2 (gPmB gCl "GateField$Router" gMs gMp) gP10i.2.1 gPp10i.2.1 = true := by decide +kernel
theorem gF10i_k : gAll2 (gPkB gPl "GateField$Router") gP10i.2.2.1 gPp10i.2.2.1 = true := by decide +kernel
theorem gF10i_c : gAll2 (gPcB gCl "GateField$Router") gP10i.2.2.2 gPp10i.2.2.2 = true := by decide +kernel
theorem gF11_f : gAll2 (gPfB gCl "GateField$Front" false) gP11.1 gPp11.1 = true := by decide +kernel
theorem gF11_m : gAll2 (gPmB gCl "GateField$Front" gMs gMp) gP11.2.1 gPp11.2.1 = true := by decide +kernel
theorem gF11_k : gAll2 (gPkB gPl "GateField$Front") gP11.2.2.1 gPp11.2.2.1 = true := by decide +kernel
theorem gF11_c : gAll2 (gPcB gCl "GateField$Front") gP11.2.2.2 gPp11.2.2.2 = true := by decide +kernel
theorem gF11i_f : gAll2 (gPfB gCl "GateField$Front" true) gP11i.1 gPp11i.1 = true := by decide +kernel
theorem gF11i_m : gAll2 (gPmB gCl "GateField$Front" gMs gMp) gP11i.2.1 gPp11i.2.1 = true := by decide +kernel
theorem gF11i_k : gAll2 (gPkB gPl "GateField$Front") gP11i.2.2.1 gPp11i.2.2.1 = true := by decide +kernel
theorem gF11i_c : gAll2 (gPcB gCl "GateField$Front") gP11i.2.2.2 gPp11i.2.2.2 = true := by decide +kernel
theorem gF12_f : gAll2 (gPfB gCl "GateField$Field" false) gP12.1 gPp12.1 = true := by decide +kernel
theorem gF12_m : gAll2 (gPmB gCl "GateField$Field" gMs gMp) gP12.2.1 gPp12.2.1 = true := by decide +kernel
theorem gF12_k : gAll2 (gPkB gPl "GateField$Field") gP12.2.2.1 gPp12.2.2.1 = true := by decide +kernel
theorem gF12_c : gAll2 (gPcB gCl "GateField$Field") gP12.2.2.2 gPp12.2.2.2 = true := by decide +kernel
theorem gF12i_f : gAll2 (gPfB gCl "GateField$Field" true) gP12i.1 gPp12i.1 = true := by decide +kernel
theorem gF12i_m : gAll2 (gPmB gCl "GateField$Field" gMs gMp) gP12i.2.1 gPp12i.2.1 = true := by decide +kernel
theorem gF12i_k : gAll2 (gPkB gPl "GateField$Field") gP12i.2.2.1 gPp12i.2.2.1 = true := by decide +kernel
theorem gF12i_c : gAll2 (gPcB gCl "GateField$Field") gP12i.2.2.2 gPp12i.2.2.2 = true := by decide +kernel
theorem gF13_f : gAll2 (gPfB gCl "java/lang/String" false) gP13.1 gPp13.1 = true := by decide +kernel
theorem gF13_m : gAll2 (gPmB gCl "java/lang/String" gMs gMp) gP13.2.1 gPp13.2.1 = true := by decide +kernel
theorem gF13_k : gAll2 (gPkB gPl "java/lang/String") gP13.2.2.1 gPp13.2.2.1 = true := by decide +kernel
theorem gF13_c : gAll2 (gPcB gCl "java/lang/String") gP13.2.2.2 gPp13.2.2.2 = true := by decide +kernel
theorem gF14_f : gAll2 (gPfB gCl "java/lang/StringLatin1" false) gP14.1 gPp14.1 = true := by decide +kernel
theorem gF14_m : gAll2 (gPmB gCl "java/lang/StringLatin1" gMs gMp) gP14.2.1 gPp14.2.1 = true := by decide +kernel
theorem gF14_k : gAll2 (gPkB gPl "java/lang/StringLatin1") gP14.2.2.1 gPp14.2.2.1 = true := by decide +kernel
theorem gF14_c : gAll2 (gPcB gCl "java/lang/StringLatin1") gP14.2.2.2 gPp14.2.2.2 = true := by decide +kernel
theorem gF15_f : gAll2 (gPfB gCl "jdk/internal/util/Preconditions" false) gP15.1 gPp15.1 = true := by decide +kernel
theorem gF15_m : gAll2 (gPmB gCl "jdk/internal/util/Preconditions" gMs gMp) gP15.2.1 gPp15.2.1 = true := by decide +kernel
theorem gF15_k : gAll2 (gPkB gPl "jdk/internal/util/Preconditions") gP15.2.2.1 gPp15.2.2.1 = true := by decide +kernel
theorem gF15_c : gAll2 (gPcB gCl "jdk/internal/util/Preconditions") gP15.2.2.2 gPp15.2.2.2 = true := by decide +kernel
theorem gF16_f : gAll2 (gPfB gCl "java/lang/Integer" false) gP16.1 gPp16.1 = true := by decide +kernel
theorem gF16_m : gAll2 (gPmB gCl "java/lang/Integer" gMs gMp) gP16.2.1 gPp16.2.1 = true := by decide +kernel
theorem gF16_k : gAll2 (gPkB gPl "java/lang/Integer") gP16.2.2.1 gPp16.2.2.1 = true := by decide +kernel
theorem gF16_c : gAll2 (gPcB gCl "java/lang/Integer") gP16.2.2.2 gPp16.2.2.2 = true := by decide +kernel
theorem gF17_f : gAll2 (gPfB gCl "GateFieldLaw" false) gP17.1 gPp17.1 = true := by decide +kernel
theorem gF17_m : gAll2 (gPmB gCl "GateFieldLaw" gMs gMp) gP17.2.1 gPp17.2.1 = true := by decide +kernel
theorem gF17_k : gAll2 (gPkB gPl "GateFieldLaw") gP17.2.2.1 gPp17.2.2.1 = true := by decide +kernel
theorem gF17_c : gAll2 (gPcB gCl "GateFieldLaw") gP17.2.2.2 gPp17.2.2.2 = true := by decide +kernel
theorem gF18_f : gAll2 (gPfB gCl "GateFieldModel" false) gP18.1 gPp18.1 = true := by decide +kernel
theorem gF18_m : gAll2 (gPmB gCl "GateFieldModel" gMs gMp) gP18.2.1 gPp18.2.1 = true := by decide +kernel
theorem gF18_k : gAll2 (gPkB gPl "GateFieldModel") gP18.2.2.1 gPp18.2.2.1 = true := by decide +kernel
theorem gF18_c : gAll2 (gPcB gCl "GateFieldModel") gP18.2.2.2 gPp18.2.2.2 = true := by decide +kernel
theorem gF18i_f : gAll2 (gPfB gCl "GateFieldModel" true) gP18i.1 gPp18i.1 = true := by decide +kernel
theorem gF18i_m : gAll2 (gPmB gCl "GateFieldModel" gMs gMp) gP18i.2.1 gPp18i.2.1 = true := by decide +kernel
theorem gF18i_k : gAll2 (gPkB gPl "GateFieldModel") gP18i.2.2.1 gPp18i.2.2.1 = true := by decide +kernel
theorem gF18i_c : gAll2 (gPcB gCl "GateFieldModel") gP18i.2.2.2 gPp18i.2.2.2 = true := by decide +kernel
