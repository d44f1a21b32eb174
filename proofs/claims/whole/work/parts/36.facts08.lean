/-! Facts of the methods: decided. -/
theorem gG190 : gFx gPl gCl gMs gM190 := gFx_of (mp := gMp.getD 190 (0, 0, 0, 0)) (by decide +kernel) (gPf_of (ini := false) gF18_f (fun h => by cases h)) (gPk_of gF18_k) (gPm_of gF18_m) (gPc_of gF18_c)
theorem gG191 : gFx gPl gCl gMs gM191 := gFx_of (mp := gMp.getD 191 (0, 0, 0, 0)) (by decide +kernel) (gPf_of (ini := false) gF18_f (fun h => by cases h)) (gPk_of gF18_k) (gPm_of gF18_m) (gPc_of gF18_c)
theorem gG192 : gFx gPl gCl gMs gM192 := gFx_of (mp := gMp.getD 192 (0, 0, 0, 0)) (by decide +kernel) (gPf_of (ini := false) gF18_f (fun h => by cases h)) (gPk_of gF18_k) (gPm_of gF18_m) (gPc_of gF18_c)
theorem gG193 : gFx gPl gCl gMs gM193 := gFx_of (mp := gMp.getD 193 (0, 0, 0, 0)) (by decide +kernel) (gPf_of (ini := false) gF18_f (fun h => by cases h)) (gPk_of gF18_k) (gPm_of gF18_m) (gPc_of gF18_c)
theorem gG194 : gFx gPl gCl gMs gM194 := gFx_of (mp := gMp.getD 194 (0, 0, 0, 0)) (by decide +kernel) (gPf_of (ini := false) gF18_f (fun h => by cases h)) (gPk_of gF18_k) (gPm_of gF18_m) (gPc_of gF18_c)
theorem gG195 : gFx gPl gCl gMs gM195 := gFx_of (mp := gMp.getD 195 (0, 0, 0, 0)) (by decide +kernel) (gPf_of (ini := false) gF18_f (fun h => by cases h)) (gPk_of gF18_k) (gPm_of gF18_m) (gPc_of gF18_c)
theorem gG196 : gFx gPl gCl gMs gM196 := gFx_of (mp := gMp.getD 196 (0, 0, 0, 0)) (by decide +kernel) (gPf_of (ini := false) gF18_f (fun h => by cases h)) (gPk_of gF18_k) (gPm_of gF18_m) (gPc_of gF18_c)
theorem gGd197_0 : gDecB gM197.2.1 (List.take 40 (gY197)) = true := by decide +kernel
theorem gGd197_40 : gDecB gM197.2.1 (List.take 40 (List.drop 40 (gY197))) = true := by decide +kernel
theorem gGd197_80 : gDecB gM197.2.1 (List.take 40 (List.drop 40 (List.drop 40 (gY197)))) = true := by decide +kernel
theorem gGd197_120 : gDecB gM197.2.1 (List.take 40 (List.drop 40 (List.drop 40 (List.drop 40 (gY197))))) = true := by decide +kernel
theorem gGd197_160 : gDecB gM197.2.1 (List.drop 40 (List.drop 40 (List.drop 40 (List.drop 40 (gY197))))) = true := by decide +kernel
theorem gGd197 : gDecB gM197.2.1 gM197.2.2.2.2.1 = true := (gDec_cut 40 gGd197_0 (gDec_cut 40 gGd197_40 (gDec_cut 40 gGd197_80 (gDec_cut 40 gGd197_120 gGd197_160))))
set_option maxRecDepth 100000 in
theorem gGc197 : Cond.code gM197.1 gM197.2.1 gM197.2.2.1 gM197.2.2.2.1 ∈ gTs := gTs_of (List.mem_of_getElem? (i := 1927) rfl) rfl
theorem gG197 : gFx gPl gCl gMs gM197 := gFx_of3 (mp := gMp.getD 197 (0, 0, 0, 0)) gGd197 gGc197 (by decide +kernel) (gPf_of (ini := false) gF18_f (fun h => by cases h)) (gPk_of gF18_k) (gPm_of gF18_m) (gPc_of gF18_c)
theorem gG198 : gFx gPl gCl gMs gM198 := gFx_of (mp := gMp.getD 198 (0, 0, 0, 0)) (by decide +kernel) (gPf_of (ini := false) gF18_f (fun h => by cases h)) (gPk_of gF18_k) (gPm_of gF18_m) (gPc_of gF18_c)
theorem gGd199_0 : gDecB gM199.2.1 (List.take 40 (gY199)) = true := by decide +kernel
theorem gGd199_40 : gDecB gM199.2.1 (List.take 40 (List.drop 40 (gY199))) = true := by decide +kernel
theorem gGd199_80 : gDecB gM199.2.1 (List.take 40 (List.drop 40 (List.drop 40 (gY199)))) = true := by decide +kernel
theorem gGd199_120 : gDecB gM199.2.1 (List.take 40 (List.drop 40 (List.drop 40 (List.drop 40 (gY199))))) = true := by decide +kernel
theorem gGd199_160 : gDecB gM199.2.1 (List.take 40 (List.drop 40 (List.drop 40 (List.drop 40 (List.drop 40 (gY199)))))) = true := by decide +kernel
theorem gGd199_200 : gDecB gM199.2.1 (List.drop 40 (List.drop 40 (List.drop 40 (List.drop 40 (List.drop 40 (gY199)))))) = true := by decide +kernel
theorem gGd199 : gDecB gM199.2.1 gM199.2.2.2.2.1 = true := (gDec_cut 40 gGd199_0 (gDec_cut 40 gGd199_40 (gDec_cut 40 gGd199_80 (gDec_cut 40 gGd199_120 (gDec_cut 40 gGd199_160 gGd199_200)))))
set_option maxRecDepth 100000 in
theorem gGc199 : Cond.code gM199.1 gM199.2.1 gM199.2.2.1 gM199.2.2.2.1 ∈ gTs := gTs_of (List.mem_of_getElem? (i := 1935) rfl) rfl
theorem gG199 : gFx gPl gCl gMs gM199 := gFx_of3 (mp := gMp.getD 199 (0, 0, 0, 0)) gGd199 gGc199 (by decide +kernel) (gPf_of (ini := false) gF18_f (fun h => by cases h)) (gPk_of gF18_k) (gPm_of gF18_m) (gPc_of gF18_c)
theorem gG200 : gFx gPl gCl gMs gM200 := gFx_of (mp := gMp.getD 200 (0, 0, 0, 0)) (by decide +kernel) (gPf_of (ini := false) gF18_f (fun h => by cases h)) (gPk_of gF18_k) (gPm_of gF18_m) (gPc_of gF18_c)
theorem gG201 : gFx gPl gCl gMs gM201 := gFx_of (mp := gMp.getD 201 (0, 0, 0, 0)) (by decide +kernel) (gPf_of (ini := false) gF18_f (fun h => by cases h)) (gPk_of gF18_k) (gPm_of gF18_m) (gPc_of gF18_c)
theorem gG202 : gFx gPl gCl gMs gM202 := gFx_of (mp := gMp.getD 202 (0, 0, 0, 0)) (by decide +kernel) (gPf_of (ini := false) gF18_f (fun h => by cases h)) (gPk_of gF18_k) (gPm_of gF18_m) (gPc_of gF18_c)
theorem gGd203_0 : gDecB gM203.2.1 (List.take 40 (gY203)) = true := by decide +kernel
theorem gGd203_40 : gDecB gM203.2.1 (List.take 40 (List.drop 40 (gY203))) = true := by decide +kernel
theorem gGd203_80 : gDecB gM203.2.1 (List.take 40 (List.drop 40 (List.drop 40 (gY203)))) = true := by decide +kernel
theorem gGd203_120 : gDecB gM203.2.1 (List.drop 40 (List.drop 40 (List.drop 40 (gY203)))) = true := by decide +kernel
theorem gGd203 : gDecB gM203.2.1 gM203.2.2.2.2.1 = true := (gDec_cut 40 gGd203_0 (gDec_cut 40 gGd203_40 (gDec_cut 40 gGd203_80 gGd203_120)))
set_option maxRecDepth 100000 in
theorem gGc203 : Cond.code gM203.1 gM203.2.1 gM203.2.2.1 gM203.2.2.2.1 ∈ gTs := gTs_of (List.mem_of_getElem? (i := 1957) rfl) rfl
theorem gG203 : gFx gPl gCl gMs gM203 := gFx_of3 (mp := gMp.getD 203 (0, 0, 0, 0)) gGd203 gGc203 (by decide +kernel) (gPf_of (ini := false) gF18_f (fun h => by cases h)) (gPk_of gF18_k) (gPm_of gF18_m) (gPc_of gF18_c)
