/-! Facts of the methods: decided. -/
theorem gG194 : gFx gPl gCl gMs gM194 := gFx_of (mp := gMp.getD 194 (0, 0, 0, 0)) (by decide +kernel) (gPf_of (ini := false) gF18_f (fun h => by cases h)) (gPk_of gF18_k) (gPm_of gF18_m) (gPc_of gF18_c)
theorem gG195 : gFx gPl gCl gMs gM195 := gFx_of (mp := gMp.getD 195 (0, 0, 0, 0)) (by decide +kernel) (gPf_of (ini := false) gF18_f (fun h => by cases h)) (gPk_of gF18_k) (gPm_of gF18_m) (gPc_of gF18_c)
theorem gG196 : gFx gPl gCl gMs gM196 := gFx_of (mp := gMp.getD 196 (0, 0, 0, 0)) (by decide +kernel) (gPf_of (ini := false) gF18_f (fun h => by cases h)) (gPk_of gF18_k) (gPm_of gF18_m) (gPc_of gF18_c)
theorem gGd197_0 : gDecB gM197.2.1 (List.take 40 (gY197)) = true := by decide +kernel
theorem gGd197_40 : gDecB gM197.2.1 (List.take 40 (List.drop 40 (gY197))) = true := by decide +kernel
theorem gGd197_80 : gDecB gM197.2.1 (List.take 40 (List.drop 40 (List.drop 40 (gY197)))) = true := by decide +kernel
theorem gGd197_120 : gDecB gM197.2.1 (List.take 40 (List.drop 40 (List.drop 40 (List.drop 40 (gY197))))) = true := by decide +kernel
theorem gGd197_160 : gDecB gM197.2.1 (List.drop 40 (List.drop 40 (List.drop 40 (List.drop 40 (gY197))))) = true := by decide +kernel
theorem gGd197 : gDecB gM197.2.1 gM197.2.2.2.2.1 = true := (gDec_cut 40 gGd197_0 (gDec_cut 40 gGd197_40 (gDec_cut 40 gGd197_80 (gDec_cut 40 gGd197_120 gGd197_160))))
theorem gG197 : gFx gPl gCl gMs gM197 := gFx_of2 (mp := gMp.getD 197 (0, 0, 0, 0)) gGd197 (by decide +kernel) (gPf_of (ini := false) gF18_f (fun h => by cases h)) (gPk_of gF18_k) (gPm_of gF18_m) (gPc_of gF18_c)
theorem gG198 : gFx gPl gCl gMs gM198 := gFx_of (mp := gMp.getD 198 (0, 0, 0, 0)) (by decide +kernel) (gPf_of (ini := false) gF18_f (fun h => by cases h)) (gPk_of gF18_k) (gPm_of gF18_m) (gPc_of gF18_c)
theorem gGd199_0 : gDecB gM199.2.1 (List.take 40 (gY199)) = true := by decide +kernel
theorem gGd199_40 : gDecB gM199.2.1 (List.take 40 (List.drop 40 (gY199))) = true := by decide +kernel
theorem gGd199_80 : gDecB gM199.2.1 (List.take 40 (List.drop 40 (List.drop 40 (gY199)))) = true := by decide +kernel
theorem gGd199_120 : gDecB gM199.2.1 (List.take 40 (List.drop 40 (List.drop 40 (List.drop 40 (gY199))))) = true := by decide +kernel
theorem gGd199_160 : gDecB gM199.2.1 (List.take 40 (List.drop 40 (List.drop 40 (List.drop 40 (List.drop 40 (gY199)))))) = true := by decide +kernel
theorem gGd199_200 : gDecB gM199.2.1 (List.drop 40 (List.drop 40 (List.drop 40 (List.drop 40 (List.drop 40 (gY199)))))) = true := by decide +kernel
theorem gGd199 : gDecB gM199.2.1 gM199.2.2.2.2.1 = true := (gDec_cut 40 gGd199_0 (gDec_cut 40 gGd199_40 (gDec_cut 40 gGd199_80 (gDec_cut 40 gGd199_120 (gDec_cut 40 gGd199_160 gGd199_200)))))
theorem gG199 : gFx gPl gCl gMs gM199 := gFx_of2 (mp := gMp.getD 199 (0, 0, 0, 0)) gGd199 (by decide +kernel) (gPf_of (ini := false) gF18_f (fun h => by cases h)) (gPk_of gF18_k) (gPm_of gF18_m) (gPc_of gF18_c)
theorem gG200 : gFx gPl gCl gMs gM200 := gFx_of (mp := gMp.getD 200 (0, 0, 0, 0)) (by decide +kernel) (gPf_of (ini := false) gF18_f (fun h => by cases h)) (gPk_of gF18_k) (gPm_of gF18_m) (gPc_of gF18_c)
theorem gG201 : gFx gPl gCl gMs gM201 := gFx_of (mp := gMp.getD 201 (0, 0, 0, 0)) (by decide +kernel) (gPf_of (ini := false) gF18_f (fun h => by cases h)) (gPk_of gF18_k) (gPm_of gF18_m) (gPc_of gF18_c)
theorem gG202 : gFx gPl gCl gMs gM202 := gFx_of (mp := gMp.getD 202 (0, 0, 0, 0)) (by decide +kernel) (gPf_of (ini := false) gF18_f (fun h => by cases h)) (gPk_of gF18_k) (gPm_of gF18_m) (gPc_of gF18_c)
theorem gGd203_0 : gDecB gM203.2.1 (List.take 40 (gY203)) = true := by decide +kernel
theorem gGd203_40 : gDecB gM203.2.1 (List.take 40 (List.drop 40 (gY203))) = true := by decide +kernel
theorem gGd203_80 : gDecB gM203.2.1 (List.take 40 (List.drop 40 (List.drop 40 (gY203)))) = true := by decide +kernel
theorem gGd203_120 : gDecB gM203.2.1 (List.drop 40 (List.drop 40 (List.drop 40 (gY203)))) = true := by decide +kernel
theorem gGd203 : gDecB gM203.2.1 gM203.2.2.2.2.1 = true := (gDec_cut 40 gGd203_0 (gDec_cut 40 gGd203_40 (gDec_cut 40 gGd203_80 gGd203_120)))
theorem gG203 : gFx gPl gCl gMs gM203 := gFx_of2 (mp := gMp.getD 203 (0, 0, 0, 0)) gGd203 (by decide +kernel) (gPf_of (ini := false) gF18_f (fun h => by cases h)) (gPk_of gF18_k) (gPm_of gF18_m) (gPc_of gF18_c)
theorem gG204 : gFx gPl gCl gMs gM204 := gFx_of (mp := gMp.getD 204 (0, 0, 0, 0)) (by decide +kernel) (gPf_of (ini := false) gF18_f (fun h => by cases h)) (gPk_of gF18_k) (gPm_of gF18_m) (gPc_of gF18_c)
theorem gG205 : gFx gPl gCl gMs gM205 := gFx_of (mp := gMp.getD 205 (0, 0, 0, 0)) (by decide +kernel) (gPf_of (ini := false) gF18_f (fun h => by cases h)) (gPk_of gF18_k) (gPm_of gF18_m) (gPc_of gF18_c)
theorem gG206 : gFx gPl gCl gMs gM206 := gFx_of (mp := gMp.getD 206 (0, 0, 0, 0)) (by decide +kernel) (gPf_of (ini := false) gF18_f (fun h => by cases h)) (gPk_of gF18_k) (gPm_of gF18_m) (gPc_of gF18_c)
theorem gGd207_0 : gDecB gM207.2.1 (List.take 40 (gY207)) = true := by decide +kernel
theorem gGd207_40 : gDecB gM207.2.1 (List.take 40 (List.drop 40 (gY207))) = true := by decide +kernel
theorem gGd207_80 : gDecB gM207.2.1 (List.take 40 (List.drop 40 (List.drop 40 (gY207)))) = true := by decide +kernel
theorem gGd207_120 : gDecB gM207.2.1 (List.take 40 (List.drop 40 (List.drop 40 (List.drop 40 (gY207))))) = true := by decide +kernel
theorem gGd207_160 : gDecB gM207.2.1 (List.drop 40 (List.drop 40 (List.drop 40 (List.drop 40 (gY207))))) = true := by decide +kernel
theorem gGd207 : gDecB gM207.2.1 gM207.2.2.2.2.1 = true := (gDec_cut 40 gGd207_0 (gDec_cut 40 gGd207_40 (gDec_cut 40 gGd207_80 (gDec_cut 40 gGd207_120 gGd207_160))))
theorem gG207 : gFx gPl gCl gMs gM207 := gFx_of2 (mp := gMp.getD 207 (0, 0, 0, 0)) gGd207 (by decide +kernel) (gPf_of (ini := false) gF18_f (fun h => by cases h)) (gPk_of gF18_k) (gPm_of gF18_m) (gPc_of gF18_c)
theorem gGd208_0 : gDecB gM208.2.1 (List.take 40 (gY208)) = true := by decide +kernel
theorem gGd208_40 : gDecB gM208.2.1 (List.take 40 (List.drop 40 (gY208))) = true := by decide +kernel
theorem gGd208_80 : gDecB gM208.2.1 (List.take 40 (List.drop 40 (List.drop 40 (gY208)))) = true := by decide +kernel
theorem gGd208_120 : gDecB gM208.2.1 (List.take 40 (List.drop 40 (List.drop 40 (List.drop 40 (gY208))))) = true := by decide +kernel
theorem gGd208_160 : gDecB gM208.2.1 (List.drop 40 (List.drop 40 (List.drop 40 (List.drop 40 (gY208))))) = true := by decide +kernel
theorem gGd208 : gDecB gM208.2.1 gM208.2.2.2.2.1 = true := (gDec_cut 40 gGd208_0 (gDec_cut 40 gGd208_40 (gDec_cut 40 gGd208_80 (gDec_cut 40 gGd208_120 gGd208_160))))
theorem gG208 : gFx gPl gCl gMs gM208 := gFx_of2 (mp := gMp.getD 208 (0, 0, 0, 0)) gGd208 (by decide +kernel) (gPf_of (ini := false) gF18_f (fun h => by cases h)) (gPk_of gF18_k) (gPm_of gF18_m) (gPc_of gF18_c)
theorem gGd209_0 : gDecB gM209.2.1 (List.take 40 (gY209)) = true := by decide +kernel
theorem gGd209_40 : gDecB gM209.2.1 (List.take 40 (List.drop 40 (gY209))) = true := by decide +kernel
theorem gGd209_80 : gDecB gM209.2.1 (List.take 40 (List.drop 40 (List.drop 40 (gY209)))) = true := by decide +kernel
theorem gGd209_120 : gDecB gM209.2.1 (List.drop 40 (List.drop 40 (List.drop 40 (gY209)))) = true := by decide +kernel
theorem gGd209 : gDecB gM209.2.1 gM209.2.2.2.2.1 = true := (gDec_cut 40 gGd209_0 (gDec_cut 40 gGd209_40 (gDec_cut 40 gGd209_80 gGd209_120)))
theorem gG209 : gFx gPl gCl gMs gM209 := gFx_of2 (mp := gMp.getD 209 (0, 0, 0, 0)) gGd209 (by decide +kernel) (gPf_of (ini := false) gF18_f (fun h => by cases h)) (gPk_of gF18_k) (gPm_of gF18_m) (gPc_of gF18_c)
theorem gG210 : gFx gPl gCl gMs gM210 := gFx_of (mp := gMp.getD 210 (0, 0, 0, 0)) (by decide +kernel) (gPf_of (ini := false) gF18_f (fun h => by cases h)) (gPk_of gF18_k) (gPm_of gF18_m) (gPc_of gF18_c)
theorem gG211 : gFx gPl gCl gMs gM211 := gFx_of (mp := gMp.getD 211 (0, 0, 0, 0)) (by decide +kernel) (gPf_of (ini := false) gF18_f (fun h => by cases h)) (gPk_of gF18_k) (gPm_of gF18_m) (gPc_of gF18_c)
theorem gG212 : gFx gPl gCl gMs gM212 := gFx_of (mp := gMp.getD 212 (0, 0, 0, 0)) (by decide +kernel) (gPf_of (ini := false) gF18_f (fun h => by cases h)) (gPk_of gF18_k) (gPm_of gF18_m) (gPc_of gF18_c)
theorem gG213 : gFx gPl gCl gMs gM213 := gFx_of (mp := gMp.getD 213 (0, 0, 0, 0)) (by decide +kernel) (gPf_of (ini := false) gF18_f (fun h => by cases h)) (gPk_of gF18_k) (gPm_of gF18_m) (gPc_of gF18_c)
theorem gG214 : gFx gPl gCl gMs gM214 := gFx_of (mp := gMp.getD 214 (0, 0, 0, 0)) (by decide +kernel) (gPf_of (ini := false) gF18_f (fun h => by cases h)) (gPk_of gF18_k) (gPm_of gF18_m) (gPc_of gF18_c)
theorem gG215 : gFx gPl gCl gMs gM215 := gFx_of (mp := gMp.getD 215 (0, 0, 0, 0)) (by decide +kernel) (gPf_of (ini := false) gF18_f (fun h => by cases h)) (gPk_of gF18_k) (gPm_of gF18_m) (gPc_of gF18_c)
theorem gGd216_0 : gDecB gM216.2.1 (List.take 40 (gY216)) = true := by decide +kernel
theorem gGd216_40 : gDecB gM216.2.1 (List.take 40 (List.drop 40 (gY216))) = true := by decide +kernel
theorem gGd216_80 : gDecB gM216.2.1 (List.take 40 (List.drop 40 (List.drop 40 (gY216)))) = true := by decide +kernel
theorem gGd216_120 : gDecB gM216.2.1 (List.drop 40 (List.drop 40 (List.drop 40 (gY216)))) = true := by decide +kernel
theorem gGd216 : gDecB gM216.2.1 gM216.2.2.2.2.1 = true := (gDec_cut 40 gGd216_0 (gDec_cut 40 gGd216_40 (gDec_cut 40 gGd216_80 gGd216_120)))
theorem gG216 : gFx gPl gCl gMs gM216 := gFx_of2 (mp := gMp.getD 216 (0, 0, 0, 0)) gGd216 (by decide +kernel) (gPf_of (ini := false) gF18_f (fun h => by cases h)) (gPk_of gF18_k) (gPm_of gF18_m) (gPc_of gF18_c)
