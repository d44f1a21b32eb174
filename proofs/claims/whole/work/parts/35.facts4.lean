/-! Facts of the pools, on. -/
theorem gF12_f : gAll2 (gPfB gCl "GateField$Field" false) gP12.1 gPp12.1 = true := by decide +kernel
theorem gF12_m : gAll2 (gPmB gCl "GateField$Field" gMs gMp) gP12.2.1 gPp12.2.1 = true := by decide +kernel
theorem gF12_k : gAll2 (gPkB gPl "GateField$Field") gP12.2.2.1 gPp12.2.2.1 = true := by decide +kernel
theorem gF12_c : gAll2 (gPcB gCl "GateField$Field") gP12.2.2.2 gPp12.2.2.2 = true := by decide +kernel
theorem gF12i_f : gAll2 (gPfB gCl "GateField$Field" true) gP12i.1 gPp12i.1 = true := by decide +kernel
theorem gF12i_m : gAll2 (gPmB gCl "GateField$Field" gMs gMp) gP12i.2.1 gPp12i.2.1 = true := by decide +kernel
theorem gF12i_k : gAll2 (gPkB gPl "GateField$Field") gP12i.2.2.1 gPp12i.2.2.1 = true := by decide +kernel
theorem gF12i_c : gAll2 (gPcB gCl "GateField$Field") gP12i.2.2.2 gPp12i.2.2.2 = true := by decide +kernel
theorem gF13_f : gAll2 (gPfB gCl "java/lang/String" false) gP13.1 gPp13.1 = true := by decide +kernel
theorem gF13_m : gAll2 (gPmB gCl "java/lang/String" gMs gMp) gP13.2.1 gPp13.2.1 = true := by decide +kernel
theorem gF13_k : gAll2 (gPkB gPl "java/lang/String") gP13.2.2.1 gPp13.2.2.1 = true := by decide +kernel
theorem gF13_c : gAll2 (gPcB gCl "java/lang/String") gP13.2.2.2 gPp13.2.2.2 = true := by decide +kernel
theorem gF14_f : gAll2 (gPfB gCl "java/lang/StringLatin1" false) gP14.1 gPp14.1 = true := by decide +kernel
theorem gF14_m : gAll2 (gPmB gCl "java/lang/StringLatin1" gMs gMp) gP14.2.1 gPp14.2.1 = true := by decide +kernel
theorem gF14_k : gAll2 (gPkB gPl "java/lang/StringLatin1") gP14.2.2.1 gPp14.2.2.1 = true := by decide +kernel
theorem gF14_c : gAll2 (gPcB gCl "java/lang/StringLatin1") gP14.2.2.2 gPp14.2.2.2 = true := by decide +kernel
theorem gF15_f : gAll2 (gPfB gCl "jdk/internal/util/Preconditions" false) gP15.1 gPp15.1 = true := by decide +kernel
theorem gF15_m : gAll2 (gPmB gCl "jdk/internal/util/Preconditions" gMs gMp) gP15.2.1 gPp15.2.1 = true := by decide +kernel
theorem gF15_k : gAll2 (gPkB gPl "jdk/internal/util/Preconditions") gP15.2.2.1 gPp15.2.2.1 = true := by decide +kernel
theorem gF15_c : gAll2 (gPcB gCl "jdk/internal/util/Preconditions") gP15.2.2.2 gPp15.2.2.2 = true := by decide +kernel
theorem gF16_f : gAll2 (gPfB gCl "java/lang/Integer" false) gP16.1 gPp16.1 = true := by decide +kernel
theorem gF16_m : gAll2 (gPmB gCl "java/lang/Integer" gMs gMp) gP16.2.1 gPp16.2.1 = true := by decide +kernel
theorem gF16_k : gAll2 (gPkB gPl "java/lang/Integer") gP16.2.2.1 gPp16.2.2.1 = true := by decide +kernel
theorem gF16_c : gAll2 (gPcB gCl "java/lang/Integer") gP16.2.2.2 gPp16.2.2.2 = true := by decide +kernel
