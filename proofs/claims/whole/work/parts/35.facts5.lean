/-! Facts of the pools, on. -/
theorem gF17_f : gAll2 (gPfB gCl "GateFieldLaw" false) gP17.1 gPp17.1 = true := by decide +kernel
theorem gF17_m : gAll2 (gPmB gCl "GateFieldLaw" gMs gMp) gP17.2.1 gPp17.2.1 = true := by decide +kernel
theorem gF17_k : gAll2 (gPkB gPl "GateFieldLaw") gP17.2.2.1 gPp17.2.2.1 = true := by decide +kernel
theorem gF17_c : gAll2 (gPcB gCl "GateFieldLaw") gP17.2.2.2 gPp17.2.2.2 = true := by decide +kernel
theorem gF18_f : gAll2 (gPfB gCl "GateFieldModel" false) gP18.1 gPp18.1 = true := by decide +kernel
theorem gF18_m : gAll2 (gPmB gCl "GateFieldModel" gMs gMp) gP18.2.1 gPp18.2.1 = true := by decide +kernel
theorem gF18_k : gAll2 (gPkB gPl "GateFieldModel") gP18.2.2.1 gPp18.2.2.1 = true := by decide +kernel
theorem gF18_c : gAll2 (gPcB gCl "GateFieldModel") gP18.2.2.2 gPp18.2.2.2 = true := by decide +kernel
theorem gF18i_f : gAll2 (gPfB gCl "GateFieldModel" true) gP18i.1 gPp18i.1 = true := by decide +kernel
theorem gF18i_m : gAll2 (gPmB gCl "GateFieldModel" gMs gMp) gP18i.2.1 gPp18i.2.1 = true := by decide +kernel
theorem gF18i_k : gAll2 (gPkB gPl "GateFieldModel") gP18i.2.2.1 gPp18i.2.2.1 = true := by decide +kernel
theorem gF18i_c : gAll2 (gPcB gCl "GateFieldModel") gP18i.2.2.2 gPp18i.2.2.2 = true := by decide +kernel
