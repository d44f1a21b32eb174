/-! Facts of the methods: decided. -/
theorem gG236 : gFx gPl gCl gMs gM236 := gFx_of (mp := gMp.getD 236 (0, 0, 0, 0)) (by decide +kernel) (gPf_of (ini := false) gF18_f (fun h => by cases h)) (gPk_of gF18_k) (gPm_of gF18_m) (gPc_of gF18_c)
theorem gG237 : gFx gPl gCl gMs gM237 := gFx_of (mp := gMp.getD 237 (0, 0, 0, 0)) (by decide +kernel) (gPf_of (ini := false) gF18_f (fun h => by cases h)) (gPk_of gF18_k) (gPm_of gF18_m) (gPc_of gF18_c)
theorem gG238 : gFx gPl gCl gMs gM238 := gFx_of (mp := gMp.getD 238 (0, 0, 0, 0)) (by decide +kernel) (gPf_of (ini := false) gF18_f (fun h => by cases h)) (gPk_of gF18_k) (gPm_of gF18_m) (gPc_of gF18_c)
theorem gG239 : gFx gPl gCl gMs gM239 := gFx_of (mp := gMp.getD 239 (0, 0, 0, 0)) (by decide +kernel) (gPf_of (ini := false) gF18_f (fun h => by cases h)) (gPk_of gF18_k) (gPm_of gF18_m) (gPc_of gF18_c)
theorem gG240 : gFx gPl gCl gMs gM240 := gFx_of (mp := gMp.getD 240 (0, 0, 0, 0)) (by decide +kernel) (gPf_of (ini := false) gF18_f (fun h => by cases h)) (gPk_of gF18_k) (gPm_of gF18_m) (gPc_of gF18_c)
theorem gG241 : gFx gPl gCl gMs gM241 := gFx_of (mp := gMp.getD 241 (0, 0, 0, 0)) (by decide +kernel) (gPf_of (ini := false) gF18_f (fun h => by cases h)) (gPk_of gF18_k) (gPm_of gF18_m) (gPc_of gF18_c)
theorem gG242 : gFx gPl gCl gMs gM242 := gFx_of (mp := gMp.getD 242 (0, 0, 0, 0)) (by decide +kernel) (gPf_of (ini := false) gF18_f (fun h => by cases h)) (gPk_of gF18_k) (gPm_of gF18_m) (gPc_of gF18_c)
theorem gG243 : gFx gPl gCl gMs gM243 := gFx_of (mp := gMp.getD 243 (0, 0, 0, 0)) (by decide +kernel) (gPf_of (ini := false) gF18_f (fun h => by cases h)) (gPk_of gF18_k) (gPm_of gF18_m) (gPc_of gF18_c)
theorem gG244 : gFx gPl gCl gMs gM244 := gFx_of (mp := gMp.getD 244 (0, 0, 0, 0)) (by decide +kernel) (gPf_of (ini := false) gF18_f (fun h => by cases h)) (gPk_of gF18_k) (gPm_of gF18_m) (gPc_of gF18_c)
theorem gG245 : gFx gPl gCl gMs gM245 := gFx_of (mp := gMp.getD 245 (0, 0, 0, 0)) (by decide +kernel) (gPf_of (ini := false) gF18_f (fun h => by cases h)) (gPk_of gF18_k) (gPm_of gF18_m) (gPc_of gF18_c)
theorem gG246 : gFx gPl gCl gMs gM246 := gFx_of (mp := gMp.getD 246 (0, 0, 0, 0)) (by decide +kernel) (gPf_of (ini := false) gF18_f (fun h => by cases h)) (gPk_of gF18_k) (gPm_of gF18_m) (gPc_of gF18_c)
theorem gG247 : gFx gPl gCl gMs gM247 := gFx_of (mp := gMp.getD 247 (0, 0, 0, 0)) (by decide +kernel) (gPf_of (ini := false) gF18_f (fun h => by cases h)) (gPk_of gF18_k) (gPm_of gF18_m) (gPc_of gF18_c)
theorem gG248 : gFx gPl gCl gMs gM248 := gFx_of (mp := gMp.getD 248 (0, 0, 0, 0)) (by decide +kernel) (gPf_of (ini := false) gF18_f (fun h => by cases h)) (gPk_of gF18_k) (gPm_of gF18_m) (gPc_of gF18_c)
theorem gG249 : gFx gPl gCl gMs gM249 := gFx_of (mp := gMp.getD 249 (0, 0, 0, 0)) (by decide +kernel) (gPf_of (ini := false) gF18_f (fun h => by cases h)) (gPk_of gF18_k) (gPm_of gF18_m) (gPc_of gF18_c)
theorem gG250 : gFx gPl gCl gMs gM250 := gFx_of (mp := gMp.getD 250 (0, 0, 0, 0)) (by decide +kernel) (gPf_of (ini := false) gF18_f (fun h => by cases h)) (gPk_of gF18_k) (gPm_of gF18_m) (gPc_of gF18_c)
theorem gGd251_0 : gDecB gM251.2.1 (List.take 40 (gY251)) = true := by decide +kernel
theorem gGd251_40 : gDecB gM251.2.1 (List.take 40 (List.drop 40 (gY251))) = true := by decide +kernel
theorem gGd251_80 : gDecB gM251.2.1 (List.take 40 (List.drop 40 (List.drop 40 (gY251)))) = true := by decide +kernel
theorem gGd251_120 : gDecB gM251.2.1 (List.take 40 (List.drop 40 (List.drop 40 (List.drop 40 (gY251))))) = true := by decide +kernel
theorem gGd251_160 : gDecB gM251.2.1 (List.take 40 (List.drop 40 (List.drop 40 (List.drop 40 (List.drop 40 (gY251)))))) = true := by decide +kernel
theorem gGd251_200 : gDecB gM251.2.1 (List.drop 40 (List.drop 40 (List.drop 40 (List.drop 40 (List.drop 40 (gY251)))))) = true := by decide +kernel
theorem gGd251 : gDecB gM251.2.1 gM251.2.2.2.2.1 = true := (gDec_cut 40 gGd251_0 (gDec_cut 40 gGd251_40 (gDec_cut 40 gGd251_80 (gDec_cut 40 gGd251_120 (gDec_cut 40 gGd251_160 gGd251_200)))))
set_option maxRecDepth 100000 in
theorem gGc251 : Cond.code gM251.1 gM251.2.1 gM251.2.2.1 gM251.2.2.2.1 ∈ gTs := gTs_of (List.mem_of_getElem? (i := 2156) rfl) rfl
theorem gG251 : gFx gPl gCl gMs gM251 := gFx_of3 (mp := gMp.getD 251 (0, 0, 0, 0)) gGd251 gGc251 (by decide +kernel) (gPf_of (ini := false) gF18_f (fun h => by cases h)) (gPk_of gF18_k) (gPm_of gF18_m) (gPc_of gF18_c)
theorem gGd252_0 : gDecB gM252.2.1 (List.take 40 (gY252)) = true := by decide +kernel
theorem gGd252_40 : gDecB gM252.2.1 (List.take 40 (List.drop 40 (gY252))) = true := by decide +kernel
theorem gGd252_80 : gDecB gM252.2.1 (List.take 40 (List.drop 40 (List.drop 40 (gY252)))) = true := by decide +kernel
theorem gGd252_120 : gDecB gM252.2.1 (List.take 40 (List.drop 40 (List.drop 40 (List.drop 40 (gY252))))) = true := by decide +kernel
theorem gGd252_160 : gDecB gM252.2.1 (List.drop 40 (List.drop 40 (List.drop 40 (List.drop 40 (gY252))))) = true := by decide +kernel
theorem gGd252 : gDecB gM252.2.1 gM252.2.2.2.2.1 = true := (gDec_cut 40 gGd252_0 (gDec_cut 40 gGd252_40 (gDec_cut 40 gGd252_80 (gDec_cut 40 gGd252_120 gGd252_160))))
set_option maxRecDepth 100000 in
theorem gGc252 : Cond.code gM252.1 gM252.2.1 gM252.2.2.1 gM252.2.2.2.1 ∈ gTs := gTs_of (List.mem_of_getElem? (i := 2160) rfl) rfl
theorem gG252 : gFx gPl gCl gMs gM252 := gFx_of3 (mp := gMp.getD 252 (0, 0, 0, 0)) gGd252 gGc252 (by decide +kernel) (gPf_of (ini := false) gF18_f (fun h => by cases h)) (gPk_of gF18_k) (gPm_of gF18_m) (gPc_of gF18_c)
