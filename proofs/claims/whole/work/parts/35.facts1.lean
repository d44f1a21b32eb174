/-! Facts of the pools, on. -/
theorem gF3_f : gAll2 (gPfB gCl "GateField$Text" false) gP3.1 gPp3.1 = true := by decide +kernel
theorem gF3_m : gAll2 (gPmB gCl "GateField$Text" gMs gMp) gP3.2.1 gPp3.2.1 = true := by decide +kernel
theorem gF3_k : gAll2 (gPkB gPl "GateField$Text") gP3.2.2.1 gPp3.2.2.1 = true := by decide +kernel
theorem gF3_c : gAll2 (gPcB gCl "GateField$Text") gP3.2.2.2 gPp3.2.2.2 = true := by decide +kernel
theorem gF3i_f : gAll2 (gPfB gCl "GateField$Text" true) gP3i.1 gPp3i.1 = true := by decide +kernel
theorem gF3i_m : gAll2 (gPmB gCl "GateField$Text" gMs gMp) gP3i.2.1 gPp3i.2.1 = true := by decide +kernel
theorem gF3i_k : gAll2 (gPkB gPl "GateField$Text") gP3i.2.2.1 gPp3i.2.2.1 = true := by decide +kernel
theorem gF3i_c : gAll2 (gPcB gCl "GateField$Text") gP3i.2.2.2 gPp3i.2.2.2 = true := by decide +kernel
theorem gF4_f : gAll2 (gPfB gCl "GateField$Gates" false) gP4.1 gPp4.1 = true := by decide +kernel
theorem gF4_m : gAll2 (gPmB gCl "GateField$Gates" gMs gMp) gP4.2.1 gPp4.2.1 = true := by decide +kernel
theorem gF4_k : gAll2 (gPkB gPl "GateField$Gates") gP4.2.2.1 gPp4.2.2.1 = true := by decide +kernel
theorem gF4_c : gAll2 (gPcB gCl "GateField$Gates") gP4.2.2.2 gPp4.2.2.2 = true := by decide +kernel
theorem gF4i_f : gAll2 (gPfB gCl "GateField$Gates" true) gP4i.1 gPp4i.1 = true := by decide +kernel
theorem gF4i_m : gAll2 (gPmB gCl "GateField$Gates" gMs gMp) gP4i.2.1 gPp4i.2.1 = true := by decide +kernel
theorem gF4i_k : gAll2 (gPkB gPl "GateField$Gates") gP4i.2.2.1 gPp4i.2.2.1 = true := by decide +kernel
theorem gF4i_c : gAll2 (gPcB gCl "GateField$Gates") gP4i.2.2.2 gPp4i.2.2.2 = true := by decide +kernel
theorem gF5_f : gAll2 (gPfB gCl "GateField$Reader" false) gP5.1 gPp5.1 = true := by decide +kernel
theorem gF5_m : gAll2 (gPmB gCl "GateField$Reader" gMs gMp) gP5.2.1 gPp5.2.1 = true := by decide +kernel
theorem gF5_k : gAll2 (gPkB gPl "GateField$Reader") gP5.2.2.1 gPp5.2.2.1 = true := by decide +kernel
theorem gF5_c : gAll2 (gPcB gCl "GateField$Reader") gP5.2.2.2 gPp5.2.2.2 = true := by decide +kernel
theorem gF5i_f : gAll2 (gPfB gCl "GateField$Reader" true) gP5i.1 gPp5i.1 = true := by decide +kernel
theorem gF5i_m : gAll2 (gPmB gCl "GateField$Reader" gMs gMp) gP5i.2.1 gPp5i.2.1 = true := by decide +kernel
theorem gF5i_k : gAll2 (gPkB gPl "GateField$Reader") gP5i.2.2.1 gPp5i.2.2.1 = true := by decide +kernel
theorem gF5i_c : gAll2 (gPcB gCl "GateField$Reader") gP5i.2.2.2 gPp5i.2.2.2 = true := by decide +kernel
