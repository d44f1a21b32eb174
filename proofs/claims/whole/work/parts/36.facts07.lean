/-! Facts of the methods: decided. -/
theorem gG174 : gFx gPl gCl gMs gM174 := gFx_of (mp := gMp.getD 174 (0, 0, 0, 0)) (by decide +kernel) (gPf_of (ini := false) gF12_f (fun h => by cases h)) (gPk_of gF12_k) (gPm_of gF12_m) (gPc_of gF12_c)
theorem gG175 : gFx gPl gCl gMs gM175 := gFx_of (mp := gMp.getD 175 (0, 0, 0, 0)) (by decide +kernel) (gPf_of (ini := false) gF12_f (fun h => by cases h)) (gPk_of gF12_k) (gPm_of gF12_m) (gPc_of gF12_c)
theorem gG176 : gFx gPl gCl gMs gM176 := gFx_of (mp := gMp.getD 176 (0, 0, 0, 0)) (by decide +kernel) (gPf_of (ini := false) gF0_f (fun h => by cases h)) (gPk_of gF0_k) (gPm_of gF0_m) (gPc_of gF0_c)
theorem gG177 : gFx gPl gCl gMs gM177 := gFx_of (mp := gMp.getD 177 (0, 0, 0, 0)) (by decide +kernel) (gPf_of (ini := false) gF6_f (fun h => by cases h)) (gPk_of gF6_k) (gPm_of gF6_m) (gPc_of gF6_c)
theorem gG178 : gFx gPl gCl gMs gM178 := gFx_of (mp := gMp.getD 178 (0, 0, 0, 0)) (by decide +kernel) (gPf_of (ini := false) gF0_f (fun h => by cases h)) (gPk_of gF0_k) (gPm_of gF0_m) (gPc_of gF0_c)
theorem gG179 : gFx gPl gCl gMs gM179 := gFx_of (mp := gMp.getD 179 (0, 0, 0, 0)) (by decide +kernel) (gPf_of (ini := false) gF6_f (fun h => by cases h)) (gPk_of gF6_k) (gPm_of gF6_m) (gPc_of gF6_c)
theorem gG180 : gFx gPl gCl gMs gM180 := gFx_of (mp := gMp.getD 180 (0, 0, 0, 0)) (by decide +kernel) (gPf_of (ini := false) gF6_f (fun h => by cases h)) (gPk_of gF6_k) (gPm_of gF6_m) (gPc_of gF6_c)
theorem gG181 : gFx gPl gCl gMs gM181 := gFx_of (mp := gMp.getD 181 (0, 0, 0, 0)) (by decide +kernel) (gPf_of (ini := false) gF6_f (fun h => by cases h)) (gPk_of gF6_k) (gPm_of gF6_m) (gPc_of gF6_c)
theorem gG182 : gFx gPl gCl gMs gM182 := gFx_of (mp := gMp.getD 182 (0, 0, 0, 0)) (by decide +kernel) (gPf_of (ini := false) gF6_f (fun h => by cases h)) (gPk_of gF6_k) (gPm_of gF6_m) (gPc_of gF6_c)
theorem gG183 : gFx gPl gCl gMs gM183 := gFx_of (mp := gMp.getD 183 (0, 0, 0, 0)) (by decide +kernel) (gPf_of (ini := false) gF0_f (fun h => by cases h)) (gPk_of gF0_k) (gPm_of gF0_m) (gPc_of gF0_c)
theorem gG184 : gFx gPl gCl gMs gM184 := gFx_of (mp := gMp.getD 184 (0, 0, 0, 0)) (by decide +kernel) (gPf_of (ini := false) gF6_f (fun h => by cases h)) (gPk_of gF6_k) (gPm_of gF6_m) (gPc_of gF6_c)
theorem gG185 : gFx gPl gCl gMs gM185 := gFx_of (mp := gMp.getD 185 (0, 0, 0, 0)) (by decide +kernel) (gPf_of (ini := false) gF0_f (fun h => by cases h)) (gPk_of gF0_k) (gPm_of gF0_m) (gPc_of gF0_c)
theorem gG186 : gFx gPl gCl gMs gM186 := gFx_of (mp := gMp.getD 186 (0, 0, 0, 0)) (by decide +kernel) (gPf_of (ini := false) gF17_f (fun h => by cases h)) (gPk_of gF17_k) (gPm_of gF17_m) (gPc_of gF17_c)
theorem gGd187_0 : gDecB gM187.2.1 (List.take 40 (gY187)) = true := by decide +kernel
theorem gGd187_40 : gDecB gM187.2.1 (List.take 40 (List.drop 40 (gY187))) = true := by decide +kernel
theorem gGd187_80 : gDecB gM187.2.1 (List.take 40 (List.drop 40 (List.drop 40 (gY187)))) = true := by decide +kernel
theorem gGd187_120 : gDecB gM187.2.1 (List.take 40 (List.drop 40 (List.drop 40 (List.drop 40 (gY187))))) = true := by decide +kernel
theorem gGd187_160 : gDecB gM187.2.1 (List.take 40 (List.drop 40 (List.drop 40 (List.drop 40 (List.drop 40 (gY187)))))) = true := by decide +kernel
theorem gGd187_200 : gDecB gM187.2.1 (List.take 40 (List.drop 40 (List.drop 40 (List.drop 40 (List.drop 40 (List.drop 40 (gY187))))))) = true := by decide +kernel
theorem gGd187_240 : gDecB gM187.2.1 (List.take 40 (List.drop 40 (List.drop 40 (List.drop 40 (List.drop 40 (List.drop 40 (List.drop 40 (gY187)))))))) = true := by decide +kernel
theorem gGd187_280 : gDecB gM187.2.1 (List.take 40 (List.drop 40 (List.drop 40 (List.drop 40 (List.drop 40 (List.drop 40 (List.drop 40 (List.drop 40 (gY187))))))))) = true := by decide +kernel
theorem gGd187_320 : gDecB gM187.2.1 (List.take 40 (List.drop 40 (List.drop 40 (List.drop 40 (List.drop 40 (List.drop 40 (List.drop 40 (List.drop 40 (List.drop 40 (gY187)))))))))) = true := by decide +kernel
theorem gGd187_360 : gDecB gM187.2.1 (List.take 40 (List.drop 40 (List.drop 40 (List.drop 40 (List.drop 40 (List.drop 40 (List.drop 40 (List.drop 40 (List.drop 40 (List.drop 40 (gY187))))))))))) = true := by decide +kernel
theorem gGd187_400 : gDecB gM187.2.1 (List.drop 40 (List.drop 40 (List.drop 40 (List.drop 40 (List.drop 40 (List.drop 40 (List.drop 40 (List.drop 40 (List.drop 40 (List.drop 40 (gY187))))))))))) = true := by decide +kernel
theorem gGd187 : gDecB gM187.2.1 gM187.2.2.2.2.1 = true := (gDec_cut 40 gGd187_0 (gDec_cut 40 gGd187_40 (gDec_cut 40 gGd187_80 (gDec_cut 40 gGd187_120 (gDec_cut 40 gGd187_160 (gDec_cut 40 gGd187_200 (gDec_cut 40 gGd187_240 (gDec_cut 40 gGd187_280 (gDec_cut 40 gGd187_320 (gDec_cut 40 gGd187_360 gGd187_400))))))))))
set_option maxRecDepth 100000 in
theorem gGc187 : Cond.code gM187.1 gM187.2.1 gM187.2.2.1 gM187.2.2.2.1 ∈ gTs := gTs_of (List.mem_of_getElem? (i := 1560) rfl) rfl
theorem gG187 : gFx gPl gCl gMs gM187 := gFx_of3 (mp := gMp.getD 187 (0, 0, 0, 0)) gGd187 gGc187 (by decide +kernel) (gPf_of (ini := true) gF18i_f (fun _ => rfl)) (gPk_of gF18i_k) (gPm_of gF18i_m) (gPc_of gF18i_c)
theorem gG188 : gFx gPl gCl gMs gM188 := gFx_of (mp := gMp.getD 188 (0, 0, 0, 0)) (by decide +kernel) (gPf_of (ini := false) gF18_f (fun h => by cases h)) (gPk_of gF18_k) (gPm_of gF18_m) (gPc_of gF18_c)
theorem gG189 : gFx gPl gCl gMs gM189 := gFx_of (mp := gMp.getD 189 (0, 0, 0, 0)) (by decide +kernel) (gPf_of (ini := false) gF18_f (fun h => by cases h)) (gPk_of gF18_k) (gPm_of gF18_m) (gPc_of gF18_c)
