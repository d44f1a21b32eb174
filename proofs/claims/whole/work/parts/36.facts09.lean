/-! Facts of the methods: decided. -/
theorem gG204 : gFx gPl gCl gMs gM204 := gFx_of (mp := gMp.getD 204 (0, 0, 0, 0)) (by decide +kernel) (gPf_of (ini := false) gF18_f (fun h => by cases h)) (gPk_of gF18_k) (gPm_of gF18_m) (gPc_of gF18_c)
theorem gG205 : gFx gPl gCl gMs gM205 := gFx_of (mp := gMp.getD 205 (0, 0, 0, 0)) (by decide +kernel) (gPf_of (ini := false) gF18_f (fun h => by cases h)) (gPk_of gF18_k) (gPm_of gF18_m) (gPc_of gF18_c)
theorem gG206 : gFx gPl gCl gMs gM206 := gFx_of (mp := gMp.getD 206 (0, 0, 0, 0)) (by decide +kernel) (gPf_of (ini := false) gF18_f (fun h => by cases h)) (gPk_of gF18_k) (gPm_of gF18_m) (gPc_of gF18_c)
theorem gGd207_0 : gDecB gM207.2.1 (List.take 40 (gY207)) = true := by decide +kernel
theorem gGd207_40 : gDecB gM207.2.1 (List.take 40 (List.drop 40 (gY207))) = true := by decide +kernel
theorem gGd207_80 : gDecB gM207.2.1 (List.take 40 (List.drop 40 (List.drop 40 (gY207)))) = true := by decide +kernel
theorem gGd207_120 : gDecB gM207.2.1 (List.take 40 (List.drop 40 (List.drop 40 (List.drop 40 (gY207))))) = true := by decide +kernel
theorem gGd207_160 : gDecB gM207.2.1 (List.drop 40 (List.drop 40 (List.drop 40 (List.drop 40 (gY207))))) = true := by decide +kernel
theorem gGd207 : gDecB gM207.2.1 gM207.2.2.2.2.1 = true := (gDec_cut 40 gGd207_0 (gDec_cut 40 gGd207_40 (gDec_cut 40 gGd207_80 (gDec_cut 40 gGd207_120 gGd207_160))))
set_option maxRecDepth 100000 in
theorem gGc207 : Cond.code gM207.1 gM207.2.1 gM207.2.2.1 gM207.2.2.2.1 ∈ gTs := gTs_of (List.mem_of_getElem? (i := 1975) rfl) rfl
theorem gG207 : gFx gPl gCl gMs gM207 := gFx_of3 (mp := gMp.getD 207 (0, 0, 0, 0)) gGd207 gGc207 (by decide +kernel) (gPf_of (ini := false) gF18_f (fun h => by cases h)) (gPk_of gF18_k) (gPm_of gF18_m) (gPc_of gF18_c)
theorem gGd208_0 : gDecB gM208.2.1 (List.take 40 (gY208)) = true := by decide +kernel
theorem gGd208_40 : gDecB gM208.2.1 (List.take 40 (List.drop 40 (gY208))) = true := by decide +kernel
theorem gGd208_80 : gDecB gM208.2.1 (List.take 40 (List.drop 40 (List.drop 40 (gY208)))) = true := by decide +kernel
theorem gGd208_120 : gDecB gM208.2.1 (List.take 40 (List.drop 40 (List.drop 40 (List.drop 40 (gY208))))) = true := by decide +kernel
theorem gGd208_160 : gDecB gM208.2.1 (List.drop 40 (List.drop 40 (List.drop 40 (List.drop 40 (gY208))))) = true := by decide +kernel
theorem gGd208 : gDecB gM208.2.1 gM208.2.2.2.2.1 = true := (gDec_cut 40 gGd208_0 (gDec_cut 40 gGd208_40 (gDec_cut 40 gGd208_80 (gDec_cut 40 gGd208_120 gGd208_160))))
set_option maxRecDepth 100000 in
theorem gGc208 : Cond.code gM208.1 gM208.2.1 gM208.2.2.1 gM208.2.2.2.1 ∈ gTs := gTs_of (List.mem_of_getElem? (i := 1980) rfl) rfl
theorem gG208 : gFx gPl gCl gMs gM208 := gFx_of3 (mp := gMp.getD 208 (0, 0, 0, 0)) gGd208 gGc208 (by decide +kernel) (gPf_of (ini := false) gF18_f (fun h => by cases h)) (gPk_of gF18_k) (gPm_of gF18_m) (gPc_of gF18_c)
theorem gGd209_0 : gDecB gM209.2.1 (List.take 40 (gY209)) = true := by decide +kernel
theorem gGd209_40 : gDecB gM209.2.1 (List.take 40 (List.drop 40 (gY209))) = true := by decide +kernel
theorem gGd209_80 : gDecB gM209.2.1 (List.take 40 (List.drop 40 (List.drop 40 (gY209)))) = true := by decide +kernel
theorem gGd209_120 : gDecB gM209.2.1 (List.drop 40 (List.drop 40 (List.drop 40 (gY209)))) = true := by decide +kernel
theorem gGd209 : gDecB gM209.2.1 gM209.2.2.2.2.1 = true := (gDec_cut 40 gGd209_0 (gDec_cut 40 gGd209_40 (gDec_cut 40 gGd209_80 gGd209_120)))
set_option maxRecDepth 100000 in
theorem gGc209 : Cond.code gM209.1 gM209.2.1 gM209.2.2.1 gM209.2.2.2.1 ∈ gTs := gTs_of (List.mem_of_getElem? (i := 1984) rfl) rfl
theorem gG209 : gFx gPl gCl gMs gM209 := gFx_of3 (mp := gMp.getD 209 (0, 0, 0, 0)) gGd209 gGc209 (by decide +kernel) (gPf_of (ini := false) gF18_f (fun h => by cases h)) (gPk_of gF18_k) (gPm_of gF18_m) (gPc_of gF18_c)
theorem gG210 : gFx gPl gCl gMs gM210 := gFx_of (mp := gMp.getD 210 (0, 0, 0, 0)) (by decide +kernel) (gPf_of (ini := false) gF18_f (fun h => by cases h)) (gPk_of gF18_k) (gPm_of gF18_m) (gPc_of gF18_c)
theorem gG211 : gFx gPl gCl gMs gM211 := gFx_of (mp := gMp.getD 211 (0, 0, 0, 0)) (by decide +kernel) (gPf_of (ini := false) gF18_f (fun h => by cases h)) (gPk_of gF18_k) (gPm_of gF18_m) (gPc_of gF18_c)
theorem gG212 : gFx gPl gCl gMs gM212 := gFx_of (mp := gMp.getD 212 (0, 0, 0, 0)) (by decide +kernel) (gPf_of (ini := false) gF18_f (fun h => by cases h)) (gPk_of gF18_k) (gPm_of gF18_m) (gPc_of gF18_c)
theorem gG213 : gFx gPl gCl gMs gM213 := gFx_of (mp := gMp.getD 213 (0, 0, 0, 0)) (by decide +kernel) (gPf_of (ini := false) gF18_f (fun h => by cases h)) (gPk_of gF18_k) (gPm_of gF18_m) (gPc_of gF18_c)
theorem gG214 : gFx gPl gCl gMs gM214 := gFx_of (mp := gMp.getD 214 (0, 0, 0, 0)) (by decide +kernel) (gPf_of (ini := false) gF18_f (fun h => by cases h)) (gPk_of gF18_k) (gPm_of gF18_m) (gPc_of gF18_c)
theorem gG215 : gFx gPl gCl gMs gM215 := gFx_of (mp := gMp.getD 215 (0, 0, 0, 0)) (by decide +kernel) (gPf_of (ini := false) gF18_f (fun h => by cases h)) (gPk_of gF18_k) (gPm_of gF18_m) (gPc_of gF18_c)
theorem gGd216_0 : gDecB gM216.2.1 (List.take 40 (gY216)) = true := by decide +kernel
theorem gGd216_40 : gDecB gM216.2.1 (List.take 40 (List.drop 40 (gY216))) = true := by decide +kernel
theorem gGd216_80 : gDecB gM216.2.1 (List.take 40 (List.drop 40 (List.drop 40 (gY216)))) = true := by decide +kernel
theorem gGd216_120 : gDecB gM216.2.1 (List.drop 40 (List.drop 40 (List.drop 40 (gY216)))) = true := by decide +kernel
theorem gGd216 : gDecB gM216.2.1 gM216.2.2.2.2.1 = true := (gDec_cut 40 gGd216_0 (gDec_cut 40 gGd216_40 (gDec_cut 40 gGd216_80 gGd216_120)))
set_option maxRecDepth 100000 in
theorem gGc216 : Cond.code gM216.1 gM216.2.1 gM216.2.2.1 gM216.2.2.2.1 ∈ gTs := gTs_of (List.mem_of_getElem? (i := 2013) rfl) rfl
theorem gG216 : gFx gPl gCl gMs gM216 := gFx_of3 (mp := gMp.getD 216 (0, 0, 0, 0)) gGd216 gGc216 (by decide +kernel) (gPf_of (ini := false) gF18_f (fun h => by cases h)) (gPk_of gF18_k) (gPm_of gF18_m) (gPc_of gF18_c)
