/-! Facts of the pools, on. -/
theorem gF9_f : gAll2 (gPfB gCl "GateField$Placing" false) gP9.1 gPp9.1 = true := by decide +kernel
theorem gF9_m : gAll2 (gPmB gCl "GateField$Placing" gMs gMp) gP9.2.1 gPp9.2.1 = true := by decide +kernel
theorem gF9_k : gAll2 (gPkB gPl "GateField$Placing") gP9.2.2.1 gPp9.2.2.1 = true := by decide +kernel
theorem gF9_c : gAll2 (gPcB gCl "GateField$Placing") gP9.2.2.2 gPp9.2.2.2 = true := by decide +kernel
theorem gF9i_f : gAll2 (gPfB gCl "GateField$Placing" true) gP9i.1 gPp9i.1 = true := by decide +kernel
theorem gF9i_m : gAll2 (gPmB gCl "GateField$Placing" gMs gMp) gP9i.2.1 gPp9i.2.1 = true := by decide +kernel
theorem gF9i_k : gAll2 (gPkB gPl "GateField$Placing") gP9i.2.2.1 gPp9i.2.2.1 = true := by decide +kernel
theorem gF9i_c : gAll2 (gPcB gCl "GateField$Placing") gP9i.2.2.2 gPp9i.2.2.2 = true := by decide +kernel
theorem gF10_f : gAll2 (gPfB gCl "GateField$Router" false) gP10.1 gPp10.1 = true := by decide +kernel
theorem gF10_m : gAll2 (gPmB gCl "GateField$Router" gMs gMp) gP10.2.1 gPp10.2.1 = true := by decide +kernel
theorem gF10_k : gAll2 (gPkB gPl "GateField$Router") gP10.2.2.1 gPp10.2.2.1 = true := by decide +kernel
theorem gF10_c : gAll2 (gPcB gCl "GateField$Router") gP10.2.2.2 gPp10.2.2.2 = true := by decide +kernel
theorem gF10i_f : gAll2 (gPfB gCl "GateField$Router" true) gP10i.1 gPp10i.1 = true := by decide +kernel
theorem gF10i_m : gAll2 (gPmB gCl "GateField$Router" gMs gMp) gP10i.2.1 gPp10i.2.1 = true := by decide +kernel
theorem gF10i_k : gAll2 (gPkB gPl "GateField$Router") gP10i.2.2.1 gPp10i.2.2.1 = true := by decide +kernel
theorem gF10i_c : gAll2 (gPcB gCl "GateField$Router") gP10i.2.2.2 gPp10i.2.2.2 = true := by decide +kernel
theorem gF11_f : gAll2 (gPfB gCl "GateField$Front" false) gP11.1 gPp11.1 = true := by decide +kernel
theorem gF11_m : gAll2 (gPmB gCl "GateField$Front" gMs gMp) gP11.2.1 gPp11.2.1 = true := by decide +kernel
theorem gF11_k : gAll2 (gPkB gPl "GateField$Front") gP11.2.2.1 gPp11.2.2.1 = true := by decide +kernel
theorem gF11_c : gAll2 (gPcB gCl "GateField$Front") gP11.2.2.2 gPp11.2.2.2 = true := by decide +kernel
theorem gF11i_f : gAll2 (gPfB gCl "GateField$Front" true) gP11i.1 gPp11i.1 = true := by decide +kernel
theorem gF11i_m : gAll2 (gPmB gCl "GateField$Front" gMs gMp) gP11i.2.1 gPp11i.2.1 = true := by decide +kernel
theorem gF11i_k : gAll2 (gPkB gPl "GateField$Front") gP11i.2.2.1 gPp11i.2.2.1 = true := by decide +kernel
theorem gF11i_c : gAll2 (gPcB gCl "GateField$Front") gP11i.2.2.2 gPp11i.2.2.2 = true := by decide +kernel
