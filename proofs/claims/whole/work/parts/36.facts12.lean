/-! Facts of the methods: decided. -/
theorem gG253 : gFx gPl gCl gMs gM253 := gFx_of (mp := gMp.getD 253 (0, 0, 0, 0)) (by decide +kernel) (gPf_of (ini := false) gF18_f (fun h => by cases h)) (gPk_of gF18_k) (gPm_of gF18_m) (gPc_of gF18_c)
theorem gG254 : gFx gPl gCl gMs gM254 := gFx_of (mp := gMp.getD 254 (0, 0, 0, 0)) (by decide +kernel) (gPf_of (ini := false) gF18_f (fun h => by cases h)) (gPk_of gF18_k) (gPm_of gF18_m) (gPc_of gF18_c)
theorem gG255 : gFx gPl gCl gMs gM255 := gFx_of (mp := gMp.getD 255 (0, 0, 0, 0)) (by decide +kernel) (gPf_of (ini := false) gF18_f (fun h => by cases h)) (gPk_of gF18_k) (gPm_of gF18_m) (gPc_of gF18_c)
theorem gGd256_0 : gDecB gM256.2.1 (List.take 40 (gY256)) = true := by decide +kernel
theorem gGd256_40 : gDecB gM256.2.1 (List.take 40 (List.drop 40 (gY256))) = true := by decide +kernel
theorem gGd256_80 : gDecB gM256.2.1 (List.take 40 (List.drop 40 (List.drop 40 (gY256)))) = true := by decide +kernel
theorem gGd256_120 : gDecB gM256.2.1 (List.take 40 (List.drop 40 (List.drop 40 (List.drop 40 (gY256))))) = true := by decide +kernel
theorem gGd256_160 : gDecB gM256.2.1 (List.take 40 (List.drop 40 (List.drop 40 (List.drop 40 (List.drop 40 (gY256)))))) = true := by decide +kernel
theorem gGd256_200 : gDecB gM256.2.1 (List.take 40 (List.drop 40 (List.drop 40 (List.drop 40 (List.drop 40 (List.drop 40 (gY256))))))) = true := by decide +kernel
theorem gGd256_240 : gDecB gM256.2.1 (List.take 40 (List.drop 40 (List.drop 40 (List.drop 40 (List.drop 40 (List.drop 40 (List.drop 40 (gY256)))))))) = true := by decide +kernel
theorem gGd256_280 : gDecB gM256.2.1 (List.drop 40 (List.drop 40 (List.drop 40 (List.drop 40 (List.drop 40 (List.drop 40 (List.drop 40 (gY256)))))))) = true := by decide +kernel
theorem gGd256 : gDecB gM256.2.1 gM256.2.2.2.2.1 = true := (gDec_cut 40 gGd256_0 (gDec_cut 40 gGd256_40 (gDec_cut 40 gGd256_80 (gDec_cut 40 gGd256_120 (gDec_cut 40 gGd256_160 (gDec_cut 40 gGd256_200 (gDec_cut 40 gGd256_240 gGd256_280)))))))
set_option maxRecDepth 100000 in
theorem gGc256 : Cond.code gM256.1 gM256.2.1 gM256.2.2.1 gM256.2.2.2.1 ∈ gTs := gTs_of (List.mem_of_getElem? (i := 2176) rfl) rfl
theorem gG256 : gFx gPl gCl gMs gM256 := gFx_of3 (mp := gMp.getD 256 (0, 0, 0, 0)) gGd256 gGc256 (by decide +kernel) (gPf_of (ini := false) gF18_f (fun h => by cases h)) (gPk_of gF18_k) (gPm_of gF18_m) (gPc_of gF18_c)
theorem gG257 : gFx gPl gCl gMs gM257 := gFx_of (mp := gMp.getD 257 (0, 0, 0, 0)) (by decide +kernel) (gPf_of (ini := false) gF18_f (fun h => by cases h)) (gPk_of gF18_k) (gPm_of gF18_m) (gPc_of gF18_c)
theorem gG258 : gFx gPl gCl gMs gM258 := gFx_of (mp := gMp.getD 258 (0, 0, 0, 0)) (by decide +kernel) (gPf_of (ini := false) gF18_f (fun h => by cases h)) (gPk_of gF18_k) (gPm_of gF18_m) (gPc_of gF18_c)
theorem gG259 : gFx gPl gCl gMs gM259 := gFx_of (mp := gMp.getD 259 (0, 0, 0, 0)) (by decide +kernel) (gPf_of (ini := false) gF18_f (fun h => by cases h)) (gPk_of gF18_k) (gPm_of gF18_m) (gPc_of gF18_c)
theorem gG260 : gFx gPl gCl gMs gM260 := gFx_of (mp := gMp.getD 260 (0, 0, 0, 0)) (by decide +kernel) (gPf_of (ini := false) gF18_f (fun h => by cases h)) (gPk_of gF18_k) (gPm_of gF18_m) (gPc_of gF18_c)
theorem gG261 : gFx gPl gCl gMs gM261 := gFx_of (mp := gMp.getD 261 (0, 0, 0, 0)) (by decide +kernel) (gPf_of (ini := false) gF18_f (fun h => by cases h)) (gPk_of gF18_k) (gPm_of gF18_m) (gPc_of gF18_c)
theorem gG262 : gFx gPl gCl gMs gM262 := gFx_of (mp := gMp.getD 262 (0, 0, 0, 0)) (by decide +kernel) (gPf_of (ini := false) gF18_f (fun h => by cases h)) (gPk_of gF18_k) (gPm_of gF18_m) (gPc_of gF18_c)
theorem gG263 : gFx gPl gCl gMs gM263 := gFx_of (mp := gMp.getD 263 (0, 0, 0, 0)) (by decide +kernel) (gPf_of (ini := false) gF18_f (fun h => by cases h)) (gPk_of gF18_k) (gPm_of gF18_m) (gPc_of gF18_c)
theorem gG264 : gFx gPl gCl gMs gM264 := gFx_of (mp := gMp.getD 264 (0, 0, 0, 0)) (by decide +kernel) (gPf_of (ini := false) gF18_f (fun h => by cases h)) (gPk_of gF18_k) (gPm_of gF18_m) (gPc_of gF18_c)
theorem gG265 : gFx gPl gCl gMs gM265 := gFx_of (mp := gMp.getD 265 (0, 0, 0, 0)) (by decide +kernel) (gPf_of (ini := false) gF18_f (fun h => by cases h)) (gPk_of gF18_k) (gPm_of gF18_m) (gPc_of gF18_c)
theorem gG266 : gFx gPl gCl gMs gM266 := gFx_of (mp := gMp.getD 266 (0, 0, 0, 0)) (by decide +kernel) (gPf_of (ini := false) gF18_f (fun h => by cases h)) (gPk_of gF18_k) (gPm_of gF18_m) (gPc_of gF18_c)
theorem gGd267_0 : gDecB gM267.2.1 (List.take 40 (gY267)) = true := by decide +kernel
theorem gGd267_40 : gDecB gM267.2.1 (List.take 40 (List.drop 40 (gY267))) = true := by decide +kernel
theorem gGd267_80 : gDecB gM267.2.1 (List.take 40 (List.drop 40 (List.drop 40 (gY267)))) = true := by decide +kernel
theorem gGd267_120 : gDecB gM267.2.1 (List.take 40 (List.drop 40 (List.drop 40 (List.drop 40 (gY267))))) = true := by decide +kernel
theorem gGd267_160 : gDecB gM267.2.1 (List.take 40 (List.drop 40 (List.drop 40 (List.drop 40 (List.drop 40 (gY267)))))) = true := by decide +kernel
theorem gGd267_200 : gDecB gM267.2.1 (List.drop 40 (List.drop 40 (List.drop 40 (List.drop 40 (List.drop 40 (gY267)))))) = true := by decide +kernel
theorem gGd267 : gDecB gM267.2.1 gM267.2.2.2.2.1 = true := (gDec_cut 40 gGd267_0 (gDec_cut 40 gGd267_40 (gDec_cut 40 gGd267_80 (gDec_cut 40 gGd267_120 (gDec_cut 40 gGd267_160 gGd267_200)))))
set_option maxRecDepth 100000 in
theorem gGc267 : Cond.code gM267.1 gM267.2.1 gM267.2.2.1 gM267.2.2.2.1 ∈ gTs := gTs_of (List.mem_of_getElem? (i := 2221) rfl) rfl
theorem gG267 : gFx gPl gCl gMs gM267 := gFx_of3 (mp := gMp.getD 267 (0, 0, 0, 0)) gGd267 gGc267 (by decide +kernel) (gPf_of (ini := false) gF18_f (fun h => by cases h)) (gPk_of gF18_k) (gPm_of gF18_m) (gPc_of gF18_c)
theorem gG268 : gFx gPl gCl gMs gM268 := gFx_of (mp := gMp.getD 268 (0, 0, 0, 0)) (by decide +kernel) (gPf_of (ini := false) gF18_f (fun h => by cases h)) (gPk_of gF18_k) (gPm_of gF18_m) (gPc_of gF18_c)
theorem gG269 : gFx gPl gCl gMs gM269 := gFx_of (mp := gMp.getD 269 (0, 0, 0, 0)) (by decide +kernel) (gPf_of (ini := false) gF18_f (fun h => by cases h)) (gPk_of gF18_k) (gPm_of gF18_m) (gPc_of gF18_c)
