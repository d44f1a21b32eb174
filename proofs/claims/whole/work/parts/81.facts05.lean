/-! Facts of the methods: decided. -/
theorem gG217 : gFx gPl gCl gMs gM217 := gFx_of (mp := gMp.getD 217 (0, 0, 0, 0)) (by decide +kernel) (gPf_of (ini := false) gF18_f (fun h => by cases h)) (gPk_of gF18_k) (gPm_of gF18_m) (gPc_of gF18_c)
theorem gG218 : gFx gPl gCl gMs gM218 := gFx_of (mp := gMp.getD 218 (0, 0, 0, 0)) (by decide +kernel) (gPf_of (ini := false) gF18_f (fun h => by cases h)) (gPk_of gF18_k) (gPm_of gF18_m) (gPc_of gF18_c)
theorem gGd219_0 : gDecB gM219.2.1 (List.take 40 (gY219)) = true := by decide +kernel
theorem gGd219_40 : gDecB gM219.2.1 (List.take 40 (List.drop 40 (gY219))) = true := by decide +kernel
theorem gGd219_80 : gDecB gM219.2.1 (List.take 40 (List.drop 40 (List.drop 40 (gY219)))) = true := by decide +kernel
theorem gGd219_120 : gDecB gM219.2.1 (List.take 40 (List.drop 40 (List.drop 40 (List.drop 40 (gY219))))) = true := by decide +kernel
theorem gGd219_160 : gDecB gM219.2.1 (List.drop 40 (List.drop 40 (List.drop 40 (List.drop 40 (gY219))))) = true := by decide +kernel
theorem gGd219 : gDecB gM219.2.1 gM219.2.2.2.2.1 = true := (gDec_cut 40 gGd219_0 (gDec_cut 40 gGd219_40 (gDec_cut 40 gGd219_80 (gDec_cut 40 gGd219_120 gGd219_160))))
theorem gG219 : gFx gPl gCl gMs gM219 := gFx_of2 (mp := gMp.getD 219 (0, 0, 0, 0)) gGd219 (by decide +kernel) (gPf_of (ini := false) gF18_f (fun h => by cases h)) (gPk_of gF18_k) (gPm_of gF18_m) (gPc_of gF18_c)
theorem gG220 : gFx gPl gCl gMs gM220 := gFx_of (mp := gMp.getD 220 (0, 0, 0, 0)) (by decide +kernel) (gPf_of (ini := false) gF18_f (fun h => by cases h)) (gPk_of gF18_k) (gPm_of gF18_m) (gPc_of gF18_c)
theorem gG221 : gFx gPl gCl gMs gM221 := gFx_of (mp := gMp.getD 221 (0, 0, 0, 0)) (by decide +kernel) (gPf_of (ini := false) gF18_f (fun h => by cases h)) (gPk_of gF18_k) (gPm_of gF18_m) (gPc_of gF18_c)
theorem gG222 : gFx gPl gCl gMs gM222 := gFx_of (mp := gMp.getD 222 (0, 0, 0, 0)) (by decide +kernel) (gPf_of (ini := false) gF18_f (fun h => by cases h)) (gPk_of gF18_k) (gPm_of gF18_m) (gPc_of gF18_c)
theorem gG223 : gFx gPl gCl gMs gM223 := gFx_of (mp := gMp.getD 223 (0, 0, 0, 0)) (by decide +kernel) (gPf_of (ini := false) gF18_f (fun h => by cases h)) (gPk_of gF18_k) (gPm_of gF18_m) (gPc_of gF18_c)
theorem gG224 : gFx gPl gCl gMs gM224 := gFx_of (mp := gMp.getD 224 (0, 0, 0, 0)) (by decide +kernel) (gPf_of (ini := false) gF18_f (fun h => by cases h)) (gPk_of gF18_k) (gPm_of gF18_m) (gPc_of gF18_c)
theorem gG225 : gFx gPl gCl gMs gM225 := gFx_of (mp := gMp.getD 225 (0, 0, 0, 0)) (by decide +kernel) (gPf_of (ini := false) gF18_f (fun h => by cases h)) (gPk_of gF18_k) (gPm_of gF18_m) (gPc_of gF18_c)
theorem gG226 : gFx gPl gCl gMs gM226 := gFx_of (mp := gMp.getD 226 (0, 0, 0, 0)) (by decide +kernel) (gPf_of (ini := false) gF18_f (fun h => by cases h)) (gPk_of gF18_k) (gPm_of gF18_m) (gPc_of gF18_c)
theorem gG227 : gFx gPl gCl gMs gM227 := gFx_of (mp := gMp.getD 227 (0, 0, 0, 0)) (by decide +kernel) (gPf_of (ini := false) gF18_f (fun h => by cases h)) (gPk_of gF18_k) (gPm_of gF18_m) (gPc_of gF18_c)
theorem gG228 : gFx gPl gCl gMs gM228 := gFx_of (mp := gMp.getD 228 (0, 0, 0, 0)) (by decide +kernel) (gPf_of (ini := false) gF18_f (fun h => by cases h)) (gPk_of gF18_k) (gPm_of gF18_m) (gPc_of gF18_c)
theorem gG229 : gFx gPl gCl gMs gM229 := gFx_of (mp := gMp.getD 229 (0, 0, 0, 0)) (by decide +kernel) (gPf_of (ini := false) gF18_f (fun h => by cases h)) (gPk_of gF18_k) (gPm_of gF18_m) (gPc_of gF18_c)
theorem gG230 : gFx gPl gCl gMs gM230 := gFx_of (mp := gMp.getD 230 (0, 0, 0, 0)) (by decide +kernel) (gPf_of (ini := false) gF18_f (fun h => by cases h)) (gPk_of gF18_k) (gPm_of gF18_m) (gPc_of gF18_c)
theorem gG231 : gFx gPl gCl gMs gM231 := gFx_of (mp := gMp.getD 231 (0, 0, 0, 0)) (by decide +kernel) (gPf_of (ini := false) gF18_f (fun h => by cases h)) (gPk_of gF18_k) (gPm_of gF18_m) (gPc_of gF18_c)
theorem gG232 : gFx gPl gCl gMs gM232 := gFx_of (mp := gMp.getD 232 (0, 0, 0, 0)) (by decide +kernel) (gPf_of (ini := false) gF18_f (fun h => by cases h)) (gPk_of gF18_k) (gPm_of gF18_m) (gPc_of gF18_c)
theorem gG233 : gFx gPl gCl gMs gM233 := gFx_of (mp := gMp.getD 233 (0, 0, 0, 0)) (by decide +kernel) (gPf_of (ini := false) gF18_f (fun h => by cases h)) (gPk_of gF18_k) (gPm_of gF18_m) (gPc_of gF18_c)
theorem gG234 : gFx gPl gCl gMs gM234 := gFx_of (mp := gMp.getD 234 (0, 0, 0, 0)) (by decide +kernel) (gPf_of (ini := false) gF18_f (fun h => by cases h)) (gPk_of gF18_k) (gPm_of gF18_m) (gPc_of gF18_c)
theorem gG235 : gFx gPl gCl gMs gM235 := gFx_of (mp := gMp.getD 235 (0, 0, 0, 0)) (by decide +kernel) (gPf_of (ini := false) gF18_f (fun h => by cases h)) (gPk_of gF18_k) (gPm_of gF18_m) (gPc_of gF18_c)
theorem gG236 : gFx gPl gCl gMs gM236 := gFx_of (mp := gMp.getD 236 (0, 0, 0, 0)) (by decide +kernel) (gPf_of (ini := false) gF18_f (fun h => by cases h)) (gPk_of gF18_k) (gPm_of gF18_m) (gPc_of gF18_c)
theorem gG237 : gFx gPl gCl gMs gM237 := gFx_of (mp := gMp.getD 237 (0, 0, 0, 0)) (by decide +kernel) (gPf_of (ini := false) gF18_f (fun h => by cases h)) (gPk_of gF18_k) (gPm_of gF18_m) (gPc_of gF18_c)
theorem gG238 : gFx gPl gCl gMs gM238 := gFx_of (mp := gMp.getD 238 (0, 0, 0, 0)) (by decide +kernel) (gPf_of (ini := false) gF18_f (fun h => by cases h)) (gPk_of gF18_k) (gPm_of gF18_m) (gPc_of gF18_c)
theorem gG239 : gFx gPl gCl gMs gM239 := gFx_of (mp := gMp.getD 239 (0, 0, 0, 0)) (by decide +kernel) (gPf_of (ini := false) gF18_f (fun h => by cases h)) (gPk_of gF18_k) (gPm_of gF18_m) (gPc_of gF18_c)
theorem gG240 : gFx gPl gCl gMs gM240 := gFx_of (mp := gMp.getD 240 (0, 0, 0, 0)) (by decide +kernel) (gPf_of (ini := false) gF18_f (fun h => by cases h)) (gPk_of gF18_k) (gPm_of gF18_m) (gPc_of gF18_c)
theorem gG241 : gFx gPl gCl gMs gM241 := gFx_of (mp := gMp.getD 241 (0, 0, 0, 0)) (by decide +kernel) (gPf_of (ini := false) gF18_f (fun h => by cases h)) (gPk_of gF18_k) (gPm_of gF18_m) (gPc_of gF18_c)
theorem gG242 : gFx gPl gCl gMs gM242 := gFx_of (mp := gMp.getD 242 (0, 0, 0, 0)) (by decide +kernel) (gPf_of (ini := false) gF18_f (fun h => by cases h)) (gPk_of gF18_k) (gPm_of gF18_m) (gPc_of gF18_c)
theorem gG243 : gFx gPl gCl gMs gM243 := gFx_of (mp := gMp.getD 243 (0, 0, 0, 0)) (by decide +kernel) (gPf_of (ini := false) gF18_f (fun h => by cases h)) (gPk_of gF18_k) (gPm_of gF18_m) (gPc_of gF18_c)
theorem gG244 : gFx gPl gCl gMs gM244 := gFx_of (mp := gMp.getD 244 (0, 0, 0, 0)) (by decide +kernel) (gPf_of (ini := false) gF18_f (fun h => by cases h)) (gPk_of gF18_k) (gPm_of gF18_m) (gPc_of gF18_c)
theorem gG245 : gFx gPl gCl gMs gM245 := gFx_of (mp := gMp.getD 245 (0, 0, 0, 0)) (by decide +kernel) (gPf_of (ini := false) gF18_f (fun h => by cases h)) (gPk_of gF18_k) (gPm_of gF18_m) (gPc_of gF18_c)
theorem gG246 : gFx gPl gCl gMs gM246 := gFx_of (mp := gMp.getD 246 (0, 0, 0, 0)) (by decide +kernel) (gPf_of (ini := false) gF18_f (fun h => by cases h)) (gPk_of gF18_k) (gPm_of gF18_m) (gPc_of gF18_c)
theorem gG247 : gFx gPl gCl gMs gM247 := gFx_of (mp := gMp.getD 247 (0, 0, 0, 0)) (by decide +kernel) (gPf_of (ini := false) gF18_f (fun h => by cases h)) (gPk_of gF18_k) (gPm_of gF18_m) (gPc_of gF18_c)
theorem gG248 : gFx gPl gCl gMs gM248 := gFx_of (mp := gMp.getD 248 (0, 0, 0, 0)) (by decide +kernel) (gPf_of (ini := false) gF18_f (fun h => by cases h)) (gPk_of gF18_k) (gPm_of gF18_m) (gPc_of gF18_c)
theorem gG249 : gFx gPl gCl gMs gM249 := gFx_of (mp := gMp.getD 249 (0, 0, 0, 0)) (by decide +kernel) (gPf_of (ini := false) gF18_f (fun h => by cases h)) (gPk_of gF18_k) (gPm_of gF18_m) (gPc_of gF18_c)
theorem gG250 : gFx gPl gCl gMs gM250 := gFx_of (mp := gMp.getD 250 (0, 0, 0, 0)) (by decide +kernel) (gPf_of (ini := false) gF18_f (fun h => by cases h)) (gPk_of gF18_k) (gPm_of gF18_m) (gPc_of gF18_c)
theorem gGd251_0 : gDecB gM251.2.1 (List.take 40 (gY251)) = true := by decide +kernel
theorem gGd251_40 : gDecB gM251.2.1 (List.take 40 (List.drop 40 (gY251))) = true := by decide +kernel
theorem gGd251_80 : gDecB gM251.2.1 (List.take 40 (List.drop 40 (List.drop 40 (gY251)))) = true := by decide +kernel
theorem gGd251_120 : gDecB gM251.2.1 (List.take 40 (List.drop 40 (List.drop 40 (List.drop 40 (gY251))))) = true := by decide +kernel
theorem gGd251_160 : gDecB gM251.2.1 (List.take 40 (List.drop 40 (List.drop 40 (List.drop 40 (List.drop 40 (gY251)))))) = true := by decide +kernel
theorem gGd251_200 : gDecB gM251.2.1 (List.drop 40 (List.drop 40 (List.drop 40 (List.drop 40 (List.drop 40 (gY251)))))) = true := by decide +kernel
theorem gGd251 : gDecB gM251.2.1 gM251.2.2.2.2.1 = true := (gDec_cut 40 gGd251_0 (gDec_cut 40 gGd251_40 (gDec_cut 40 gGd251_80 (gDec_cut 40 gGd251_120 (gDec_cut 40 gGd251_160 gGd251_200)))))
theorem gG251 : gFx gPl gCl gMs gM251 := gFx_of2 (mp := gMp.getD 251 (0, 0, 0, 0)) gGd251 (by decide +kernel) (gPf_of (ini := false) gF18_f (fun h => by cases h)) (gPk_of gF18_k) (gPm_of gF18_m) (gPc_of gF18_c)
theorem gGd252_0 : gDecB gM252.2.1 (List.take 40 (gY252)) = true := by decide +kernel
theorem gGd252_40 : gDecB gM252.2.1 (List.take 40 (List.drop 40 (gY252))) = true := by decide +kernel
theorem gGd252_80 : gDecB gM252.2.1 (List.take 40 (List.drop 40 (List.drop 40 (gY252)))) = true := by decide +kernel
theorem gGd252_120 : gDecB gM252.2.1 (List.take 40 (List.drop 40 (List.drop 40 (List.drop 40 (gY252))))) = true := by decide +kernel
theorem gGd252_160 : gDecB gM252.2.1 (List.drop 40 (List.drop 40 (List.drop 40 (List.drop 40 (gY252))))) = true := by decide +kernel
theorem gGd252 : gDecB gM252.2.1 gM252.2.2.2.2.1 = true := (gDec_cut 40 gGd252_0 (gDec_cut 40 gGd252_40 (gDec_cut 40 gGd252_80 (gDec_cut 40 gGd252_120 gGd252_160))))
theorem gG252 : gFx gPl gCl gMs gM252 := gFx_of2 (mp := gMp.getD 252 (0, 0, 0, 0)) gGd252 (by decide +kernel) (gPf_of (ini := false) gF18_f (fun h => by cases h)) (gPk_of gF18_k) (gPm_of gF18_m) (gPc_of gF18_c)
