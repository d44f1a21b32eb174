/-! Facts of the methods: decided. -/
theorem gG270 : gFx gPl gCl gMs gM270 := gFx_of (mp := gMp.getD 270 (0, 0, 0, 0)) (by decide +kernel) (gPf_of (ini := false) gF18_f (fun h => by cases h)) (gPk_of gF18_k) (gPm_of gF18_m) (gPc_of gF18_c)
theorem gGd271_0 : gDecB gM271.2.1 (List.take 40 (gY271)) = true := by decide +kernel
theorem gGd271_40 : gDecB gM271.2.1 (List.take 40 (List.drop 40 (gY271))) = true := by decide +kernel
theorem gGd271_80 : gDecB gM271.2.1 (List.take 40 (List.drop 40 (List.drop 40 (gY271)))) = true := by decide +kernel
theorem gGd271_120 : gDecB gM271.2.1 (List.drop 40 (List.drop 40 (List.drop 40 (gY271)))) = true := by decide +kernel
theorem gGd271 : gDecB gM271.2.1 gM271.2.2.2.2.1 = true := (gDec_cut 40 gGd271_0 (gDec_cut 40 gGd271_40 (gDec_cut 40 gGd271_80 gGd271_120)))
set_option maxRecDepth 100000 in
theorem gGc271 : Cond.code gM271.1 gM271.2.1 gM271.2.2.1 gM271.2.2.2.1 ∈ gTs := gTs_of (List.mem_of_getElem? (i := 2237) rfl) rfl
theorem gG271 : gFx gPl gCl gMs gM271 := gFx_of3 (mp := gMp.getD 271 (0, 0, 0, 0)) gGd271 gGc271 (by decide +kernel) (gPf_of (ini := false) gF18_f (fun h => by cases h)) (gPk_of gF18_k) (gPm_of gF18_m) (gPc_of gF18_c)
theorem gG272 : gFx gPl gCl gMs gM272 := gFx_of (mp := gMp.getD 272 (0, 0, 0, 0)) (by decide +kernel) (gPf_of (ini := false) gF18_f (fun h => by cases h)) (gPk_of gF18_k) (gPm_of gF18_m) (gPc_of gF18_c)
theorem gG273 : gFx gPl gCl gMs gM273 := gFx_of (mp := gMp.getD 273 (0, 0, 0, 0)) (by decide +kernel) (gPf_of (ini := false) gF18_f (fun h => by cases h)) (gPk_of gF18_k) (gPm_of gF18_m) (gPc_of gF18_c)
theorem gG274 : gFx gPl gCl gMs gM274 := gFx_of (mp := gMp.getD 274 (0, 0, 0, 0)) (by decide +kernel) (gPf_of (ini := false) gF18_f (fun h => by cases h)) (gPk_of gF18_k) (gPm_of gF18_m) (gPc_of gF18_c)
theorem gG275 : gFx gPl gCl gMs gM275 := gFx_of (mp := gMp.getD 275 (0, 0, 0, 0)) (by decide +kernel) (gPf_of (ini := false) gF18_f (fun h => by cases h)) (gPk_of gF18_k) (gPm_of gF18_m) (gPc_of gF18_c)
theorem gG276 : gFx gPl gCl gMs gM276 := gFx_of (mp := gMp.getD 276 (0, 0, 0, 0)) (by decide +kernel) (gPf_of (ini := false) gF18_f (fun h => by cases h)) (gPk_of gF18_k) (gPm_of gF18_m) (gPc_of gF18_c)
theorem gG277 : gFx gPl gCl gMs gM277 := gFx_of (mp := gMp.getD 277 (0, 0, 0, 0)) (by decide +kernel) (gPf_of (ini := false) gF18_f (fun h => by cases h)) (gPk_of gF18_k) (gPm_of gF18_m) (gPc_of gF18_c)
theorem gG278 : gFx gPl gCl gMs gM278 := gFx_of (mp := gMp.getD 278 (0, 0, 0, 0)) (by decide +kernel) (gPf_of (ini := false) gF18_f (fun h => by cases h)) (gPk_of gF18_k) (gPm_of gF18_m) (gPc_of gF18_c)
