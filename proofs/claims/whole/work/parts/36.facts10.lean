/-! Facts of the methods: decided. -/
theorem gG217 : gFx gPl gCl gMs gM217 := gFx_of (mp := gMp.getD 217 (0, 0, 0, 0)) (by decide +kernel) (gPf_of (ini := false) gF18_f (fun h => by cases h)) (gPk_of gF18_k) (gPm_of gF18_m) (gPc_of gF18_c)
theorem gG218 : gFx gPl gCl gMs gM218 := gFx_of (mp := gMp.getD 218 (0, 0, 0, 0)) (by decide +kernel) (gPf_of (ini := false) gF18_f (fun h => by cases h)) (gPk_of gF18_k) (gPm_of gF18_m) (gPc_of gF18_c)
theorem gGd219_0 : gDecB gM219.2.1 (List.take 40 (gY219)) = true := by decide +kernel
theorem gGd219_40 : gDecB gM219.2.1 (List.take 40 (List.drop 40 (gY219))) = true := by decide +kernel
theorem gGd219_80 : gDecB gM219.2.1 (List.take 40 (List.drop 40 (List.drop 40 (gY219)))) = true := by decide +kernel
theorem gGd219_120 : gDecB gM219.2.1 (List.take 40 (List.drop 40 (List.drop 40 (List.drop 40 (gY219))))) = true := by decide +kernel
theorem gGd219_160 : gDecB gM219.2.1 (List.drop 40 (List.drop 40 (List.drop 40 (List.drop 40 (gY219))))) = true := by decide +kernel
theorem gGd219 : gDecB gM219.2.1 gM219.2.2.2.2.1 = true := (gDec_cut 40 gGd219_0 (gDec_cut 40 gGd219_40 (gDec_cut 40 gGd219_80 (gDec_cut 40 gGd219_120 gGd219_160))))
set_option maxRecDepth 100000 in
theorem gGc219 : Cond.code gM219.1 gM219.2.1 gM219.2.2.1 gM219.2.2.2.1 ∈ gTs := gTs_of (List.mem_of_getElem? (i := 2026) rfl) rfl
theorem gG219 : gFx gPl gCl gMs gM219 := gFx_of3 (mp := gMp.getD 219 (0, 0, 0, 0)) gGd219 gGc219 (by decide +kernel) (gPf_of (ini := false) gF18_f (fun h => by cases h)) (gPk_of gF18_k) (gPm_of gF18_m) (gPc_of gF18_c)
theorem gG220 : gFx gPl gCl gMs gM220 := gFx_of (mp := gMp.getD 220 (0, 0, 0, 0)) (by decide +kernel) (gPf_of (ini := false) gF18_f (fun h => by cases h)) (gPk_of gF18_k) (gPm_of gF18_m) (gPc_of gF18_c)
theorem gG221 : gFx gPl gCl gMs gM221 := gFx_of (mp := gMp.getD 221 (0, 0, 0, 0)) (by decide +kernel) (gPf_of (ini := false) gF18_f (fun h => by cases h)) (gPk_of gF18_k) (gPm_of gF18_m) (gPc_of gF18_c)
theorem gG222 : gFx gPl gCl gMs gM222 := gFx_of (mp := gMp.getD 222 (0, 0, 0, 0)) (by decide +kernel) (gPf_of (ini := false) gF18_f (fun h => by cases h)) (gPk_of gF18_k) (gPm_of gF18_m) (gPc_of gF18_c)
theorem gG223 : gFx gPl gCl gMs gM223 := gFx_of (mp := gMp.getD 223 (0, 0, 0, 0)) (by decide +kernel) (gPf_of (ini := false) gF18_f (fun h => by cases h)) (gPk_of gF18_k) (gPm_of gF18_m) (gPc_of gF18_c)
theorem gG224 : gFx gPl gCl gMs gM224 := gFx_of (mp := gMp.getD 224 (0, 0, 0, 0)) (by decide +kernel) (gPf_of (ini := false) gF18_f (fun h => by cases h)) (gPk_of gF18_k) (gPm_of gF18_m) (gPc_of gF18_c)
theorem gG225 : gFx gPl gCl gMs gM225 := gFx_of (mp := gMp.getD 225 (0, 0, 0, 0)) (by decide +kernel) (gPf_of (ini := false) gF18_f (fun h => by cases h)) (gPk_of gF18_k) (gPm_of gF18_m) (gPc_of gF18_c)
theorem gG226 : gFx gPl gCl gMs gM226 := gFx_of (mp := gMp.getD 226 (0, 0, 0, 0)) (by decide +kernel) (gPf_of (ini := false) gF18_f (fun h => by cases h)) (gPk_of gF18_k) (gPm_of gF18_m) (gPc_of gF18_c)
theorem gG227 : gFx gPl gCl gMs gM227 := gFx_of (mp := gMp.getD 227 (0, 0, 0, 0)) (by decide +kernel) (gPf_of (ini := false) gF18_f (fun h => by cases h)) (gPk_of gF18_k) (gPm_of gF18_m) (gPc_of gF18_c)
theorem gG228 : gFx gPl gCl gMs gM228 := gFx_of (mp := gMp.getD 228 (0, 0, 0, 0)) (by decide +kernel) (gPf_of (ini := false) gF18_f (fun h => by cases h)) (gPk_of gF18_k) (gPm_of gF18_m) (gPc_of gF18_c)
theorem gG229 : gFx gPl gCl gMs gM229 := gFx_of (mp := gMp.getD 229 (0, 0, 0, 0)) (by decide +kernel) (gPf_of (ini := false) gF18_f (fun h => by cases h)) (gPk_of gF18_k) (gPm_of gF18_m) (gPc_of gF18_c)
theorem gG230 : gFx gPl gCl gMs gM230 := gFx_of (mp := gMp.getD 230 (0, 0, 0, 0)) (by decide +kernel) (gPf_of (ini := false) gF18_f (fun h => by cases h)) (gPk_of gF18_k) (gPm_of gF18_m) (gPc_of gF18_c)
theorem gG231 : gFx gPl gCl gMs gM231 := gFx_of (mp := gMp.getD 231 (0, 0, 0, 0)) (by decide +kernel) (gPf_of (ini := false) gF18_f (fun h => by cases h)) (gPk_of gF18_k) (gPm_of gF18_m) (gPc_of gF18_c)
theorem gG232 : gFx gPl gCl gMs gM232 := gFx_of (mp := gMp.getD 232 (0, 0, 0, 0)) (by decide +kernel) (gPf_of (ini := false) gF18_f (fun h => by cases h)) (gPk_of gF18_k) (gPm_of gF18_m) (gPc_of gF18_c)
theorem gG233 : gFx gPl gCl gMs gM233 := gFx_of (mp := gMp.getD 233 (0, 0, 0, 0)) (by decide +kernel) (gPf_of (ini := false) gF18_f (fun h => by cases h)) (gPk_of gF18_k) (gPm_of gF18_m) (gPc_of gF18_c)
theorem gG234 : gFx gPl gCl gMs gM234 := gFx_of (mp := gMp.getD 234 (0, 0, 0, 0)) (by decide +kernel) (gPf_of (ini := false) gF18_f (fun h => by cases h)) (gPk_of gF18_k) (gPm_of gF18_m) (gPc_of gF18_c)
theorem gG235 : gFx gPl gCl gMs gM235 := gFx_of (mp := gMp.getD 235 (0, 0, 0, 0)) (by decide +kernel) (gPf_of (ini := false) gF18_f (fun h => by cases h)) (gPk_of gF18_k) (gPm_of gF18_m) (gPc_of gF18_c)
