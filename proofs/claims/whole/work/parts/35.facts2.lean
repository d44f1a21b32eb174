/-! Facts of the pools, on. -/
theorem gF6_f : gAll2 (gPfB gCl "GateField$Circuit" false) gP6.1 gPp6.1 = true := by decide +kernel
theorem gF6_m : gAll2 (gPmB gCl "GateField$Circuit" gMs gMp) gP6.2.1 gPp6.2.1 = true := by decide +kernel
theorem gF6_k : gAll2 (gPkB gPl "GateField$Circuit") gP6.2.2.1 gPp6.2.2.1 = true := by decide +kernel
theorem gF6_c : gAll2 (gPcB gCl "GateField$Circuit") gP6.2.2.2 gPp6.2.2.2 = true := by decide +kernel
theorem gF6i_f : gAll2 (gPfB gCl "GateField$Circuit" true) gP6i.1 gPp6i.1 = true := by decide +kernel
theorem gF6i_m : gAll2 (gPmB gCl "GateField$Circuit" gMs gMp) gP6i.2.1 gPp6i.2.1 = true := by decide +kernel
theorem gF6i_k : gAll2 (gPkB gPl "GateField$Circuit") gP6i.2.2.1 gPp6i.2.2.1 = true := by decide +kernel
theorem gF6i_c : gAll2 (gPcB gCl "GateField$Circuit") gP6i.2.2.2 gPp6i.2.2.2 = true := by decide +kernel
theorem gF7_f : gAll2 (gPfB gCl "GateField$Mapper" false) gP7.1 gPp7.1 = true := by decide +kernel
theorem gF7_m : gAll2 (gPmB gCl "GateField$Mapper" gMs gMp) gP7.2.1 gPp7.2.1 = true := by decide +kernel
theorem gF7_k : gAll2 (gPkB gPl "GateField$Mapper") gP7.2.2.1 gPp7.2.2.1 = true := by decide +kernel
theorem gF7_c : gAll2 (gPcB gCl "GateField$Mapper") gP7.2.2.2 gPp7.2.2.2 = true := by decide +kernel
theorem gF7i_f : gAll2 (gPfB gCl "GateField$Mapper" true) gP7i.1 gPp7i.1 = true := by decide +kernel
theorem gF7i_m : gAll2 (gPmB gCl "GateField$Mapper" gMs gMp) gP7i.2.1 gPp7i.2.1 = true := by decide +kernel
theorem gF7i_k : gAll2 (gPkB gPl "GateField$Mapper") gP7i.2.2.1 gPp7i.2.2.1 = true := by decide +kernel
theorem gF7i_c : gAll2 (gPcB gCl "GateField$Mapper") gP7i.2.2.2 gPp7i.2.2.2 = true := by decide +kernel
theorem gF8_f : gAll2 (gPfB gCl "GateField$Packing" false) gP8.1 gPp8.1 = true := by decide +kernel
theorem gF8_m : gAll2 (gPmB gCl "GateField$Packing" gMs gMp) gP8.2.1 gPp8.2.1 = true := by decide +kernel
theorem gF8_k : gAll2 (gPkB gPl "GateField$Packing") gP8.2.2.1 gPp8.2.2.1 = true := by decide +kernel
theorem gF8_c : gAll2 (gPcB gCl "GateField$Packing") gP8.2.2.2 gPp8.2.2.2 = true := by decide +kernel
theorem gF8i_f : gAll2 (gPfB gCl "GateField$Packing" true) gP8i.1 gPp8i.1 = true := by decide +kernel
theorem gF8i_m : gAll2 (gPmB gCl "GateField$Packing" gMs gMp) gP8i.2.1 gPp8i.2.1 = true := by decide +kernel
theorem gF8i_k : gAll2 (gPkB gPl "GateField$Packing") gP8i.2.2.1 gPp8i.2.2.1 = true := by decide +kernel
theorem gF8i_c : gAll2 (gPcB gCl "GateField$Packing") gP8i.2.2.2 gPp8i.2.2.2 = true := by decide +kernel
