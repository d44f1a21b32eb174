/-! Facts of the methods: decided. -/
theorem gG49 : gFx gPl gCl gMs gM49 := gFx_of (mp := gMp.getD 49 (0, 0, 0, 0)) (by decide +kernel) (gPf_of (ini := false) gF4_f (fun h => by cases h)) (gPk_of gF4_k) (gPm_of gF4_m) (gPc_of gF4_c)
theorem gG50 : gFx gPl gCl gMs gM50 := gFx_of (mp := gMp.getD 50 (0, 0, 0, 0)) (by decide +kernel) (gPf_of (ini := false) gF5_f (fun h => by cases h)) (gPk_of gF5_k) (gPm_of gF5_m) (gPc_of gF5_c)
theorem gG51 : gFx gPl gCl gMs gM51 := gFx_of (mp := gMp.getD 51 (0, 0, 0, 0)) (by decide +kernel) (gPf_of (ini := false) gF3_f (fun h => by cases h)) (gPk_of gF3_k) (gPm_of gF3_m) (gPc_of gF3_c)
theorem gG52 : gFx gPl gCl gMs gM52 := gFx_of (mp := gMp.getD 52 (0, 0, 0, 0)) (by decide +kernel) (gPf_of (ini := false) gF13_f (fun h => by cases h)) (gPk_of gF13_k) (gPm_of gF13_m) (gPc_of gF13_c)
theorem gG53 : gFx gPl gCl gMs gM53 := gFx_of (mp := gMp.getD 53 (0, 0, 0, 0)) (by decide +kernel) (gPf_of (ini := false) gF13_f (fun h => by cases h)) (gPk_of gF13_k) (gPm_of gF13_m) (gPc_of gF13_c)
theorem gG54 : gFx gPl gCl gMs gM54 := gFx_of (mp := gMp.getD 54 (0, 0, 0, 0)) (by decide +kernel) (gPf_of (ini := false) gF13_f (fun h => by cases h)) (gPk_of gF13_k) (gPm_of gF13_m) (gPc_of gF13_c)
theorem gG55 : gFx gPl gCl gMs gM55 := gFx_of (mp := gMp.getD 55 (0, 0, 0, 0)) (by decide +kernel) (gPf_of (ini := false) gF13_f (fun h => by cases h)) (gPk_of gF13_k) (gPm_of gF13_m) (gPc_of gF13_c)
theorem gG56 : gFx gPl gCl gMs gM56 := gFx_of (mp := gMp.getD 56 (0, 0, 0, 0)) (by decide +kernel) (gPf_of (ini := false) gF14_f (fun h => by cases h)) (gPk_of gF14_k) (gPm_of gF14_m) (gPc_of gF14_c)
theorem gG57 : gFx gPl gCl gMs gM57 := gFx_of (mp := gMp.getD 57 (0, 0, 0, 0)) (by decide +kernel) (gPf_of (ini := false) gF13_f (fun h => by cases h)) (gPk_of gF13_k) (gPm_of gF13_m) (gPc_of gF13_c)
theorem gG58 : gFx gPl gCl gMs gM58 := gFx_of (mp := gMp.getD 58 (0, 0, 0, 0)) (by decide +kernel) (gPf_of (ini := false) gF15_f (fun h => by cases h)) (gPk_of gF15_k) (gPm_of gF15_m) (gPc_of gF15_c)
theorem gG59 : gFx gPl gCl gMs gM59 := gFx_of (mp := gMp.getD 59 (0, 0, 0, 0)) (by decide +kernel) (gPf_of (ini := false) gF5_f (fun h => by cases h)) (gPk_of gF5_k) (gPm_of gF5_m) (gPc_of gF5_c)
theorem gG60 : gFx gPl gCl gMs gM60 := gFx_of (mp := gMp.getD 60 (0, 0, 0, 0)) (by decide +kernel) (gPf_of (ini := false) gF5_f (fun h => by cases h)) (gPk_of gF5_k) (gPm_of gF5_m) (gPc_of gF5_c)
theorem gG61 : gFx gPl gCl gMs gM61 := gFx_of (mp := gMp.getD 61 (0, 0, 0, 0)) (by decide +kernel) (gPf_of (ini := false) gF3_f (fun h => by cases h)) (gPk_of gF3_k) (gPm_of gF3_m) (gPc_of gF3_c)
theorem gG62 : gFx gPl gCl gMs gM62 := gFx_of (mp := gMp.getD 62 (0, 0, 0, 0)) (by decide +kernel) (gPf_of (ini := false) gF5_f (fun h => by cases h)) (gPk_of gF5_k) (gPm_of gF5_m) (gPc_of gF5_c)
theorem gG63 : gFx gPl gCl gMs gM63 := gFx_of (mp := gMp.getD 63 (0, 0, 0, 0)) (by decide +kernel) (gPf_of (ini := false) gF5_f (fun h => by cases h)) (gPk_of gF5_k) (gPm_of gF5_m) (gPc_of gF5_c)
theorem gG64 : gFx gPl gCl gMs gM64 := gFx_of (mp := gMp.getD 64 (0, 0, 0, 0)) (by decide +kernel) (gPf_of (ini := false) gF5_f (fun h => by cases h)) (gPk_of gF5_k) (gPm_of gF5_m) (gPc_of gF5_c)
theorem gG65 : gFx gPl gCl gMs gM65 := gFx_of (mp := gMp.getD 65 (0, 0, 0, 0)) (by decide +kernel) (gPf_of (ini := false) gF5_f (fun h => by cases h)) (gPk_of gF5_k) (gPm_of gF5_m) (gPc_of gF5_c)
theorem gG66 : gFx gPl gCl gMs gM66 := gFx_of (mp := gMp.getD 66 (0, 0, 0, 0)) (by decide +kernel) (gPf_of (ini := false) gF4_f (fun h => by cases h)) (gPk_of gF4_k) (gPm_of gF4_m) (gPc_of gF4_c)
theorem gG67 : gFx gPl gCl gMs gM67 := gFx_of (mp := gMp.getD 67 (0, 0, 0, 0)) (by decide +kernel) (gPf_of (ini := false) gF3_f (fun h => by cases h)) (gPk_of gF3_k) (gPm_of gF3_m) (gPc_of gF3_c)
theorem gG68 : gFx gPl gCl gMs gM68 := gFx_of (mp := gMp.getD 68 (0, 0, 0, 0)) (by decide +kernel) (gPf_of (ini := false) gF5_f (fun h => by cases h)) (gPk_of gF5_k) (gPm_of gF5_m) (gPc_of gF5_c)
theorem gG69 : gFx gPl gCl gMs gM69 := gFx_of (mp := gMp.getD 69 (0, 0, 0, 0)) (by decide +kernel) (gPf_of (ini := false) gF5_f (fun h => by cases h)) (gPk_of gF5_k) (gPm_of gF5_m) (gPc_of gF5_c)
theorem gG70 : gFx gPl gCl gMs gM70 := gFx_of (mp := gMp.getD 70 (0, 0, 0, 0)) (by decide +kernel) (gPf_of (ini := false) gF4_f (fun h => by cases h)) (gPk_of gF4_k) (gPm_of gF4_m) (gPc_of gF4_c)
theorem gG71 : gFx gPl gCl gMs gM71 := gFx_of (mp := gMp.getD 71 (0, 0, 0, 0)) (by decide +kernel) (gPf_of (ini := false) gF4_f (fun h => by cases h)) (gPk_of gF4_k) (gPm_of gF4_m) (gPc_of gF4_c)
theorem gG72 : gFx gPl gCl gMs gM72 := gFx_of (mp := gMp.getD 72 (0, 0, 0, 0)) (by decide +kernel) (gPf_of (ini := false) gF4_f (fun h => by cases h)) (gPk_of gF4_k) (gPm_of gF4_m) (gPc_of gF4_c)
theorem gG73 : gFx gPl gCl gMs gM73 := gFx_of (mp := gMp.getD 73 (0, 0, 0, 0)) (by decide +kernel) (gPf_of (ini := false) gF4_f (fun h => by cases h)) (gPk_of gF4_k) (gPm_of gF4_m) (gPc_of gF4_c)
theorem gG74 : gFx gPl gCl gMs gM74 := gFx_of (mp := gMp.getD 74 (0, 0, 0, 0)) (by decide +kernel) (gPf_of (ini := false) gF0_f (fun h => by cases h)) (gPk_of gF0_k) (gPm_of gF0_m) (gPc_of gF0_c)
theorem gG75 : gFx gPl gCl gMs gM75 := gFx_of (mp := gMp.getD 75 (0, 0, 0, 0)) (by decide +kernel) (gPf_of (ini := false) gF7_f (fun h => by cases h)) (gPk_of gF7_k) (gPm_of gF7_m) (gPc_of gF7_c)
theorem gG76 : gFx gPl gCl gMs gM76 := gFx_of (mp := gMp.getD 76 (0, 0, 0, 0)) (by decide +kernel) (gPf_of (ini := false) gF4_f (fun h => by cases h)) (gPk_of gF4_k) (gPm_of gF4_m) (gPc_of gF4_c)
theorem gGd77_0 : gDecB gM77.2.1 (List.take 40 (gY77)) = true := by decide +kernel
theorem gGd77_40 : gDecB gM77.2.1 (List.take 40 (List.drop 40 (gY77))) = true := by decide +kernel
theorem gGd77_80 : gDecB gM77.2.1 (List.take 40 (List.drop 40 (List.drop 40 (gY77)))) = true := by decide +kernel
theorem gGd77_120 : gDecB gM77.2.1 (List.drop 40 (List.drop 40 (List.drop 40 (gY77)))) = true := by decide +kernel
theorem gGd77 : gDecB gM77.2.1 gM77.2.2.2.2.1 = true := (gDec_cut 40 gGd77_0 (gDec_cut 40 gGd77_40 (gDec_cut 40 gGd77_80 gGd77_120)))
set_option maxRecDepth 100000 in
theorem gGc77 : Cond.code gM77.1 gM77.2.1 gM77.2.2.1 gM77.2.2.2.1 ∈ gTs := gTs_of (List.mem_of_getElem? (i := 1092) rfl) rfl
theorem gG77 : gFx gPl gCl gMs gM77 := gFx_of3 (mp := gMp.getD 77 (0, 0, 0, 0)) gGd77 gGc77 (by decide +kernel) (gPf_of (ini := false) gF7_f (fun h => by cases h)) (gPk_of gF7_k) (gPm_of gF7_m) (gPc_of gF7_c)
