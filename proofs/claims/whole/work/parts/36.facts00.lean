/-! Facts of the methods: decided. -/
theorem gG0 : gFx gPl gCl gMs gM0 := gFx_of (mp := gMp.getD 0 (0, 0, 0, 0)) (by decide +kernel) (gPf_of (ini := true) gF0i_f (fun _ => rfl)) (gPk_of gF0i_k) (gPm_of gF0i_m) (gPc_of gF0i_c)
theorem gG1 : gFx gPl gCl gMs gM1 := gFx_of (mp := gMp.getD 1 (0, 0, 0, 0)) (by decide +kernel) (gPf_of (ini := false) gF0_f (fun h => by cases h)) (gPk_of gF0_k) (gPm_of gF0_m) (gPc_of gF0_c)
theorem gGd2_0 : gDecB gM2.2.1 (List.take 40 (gY2)) = true := by decide +kernel
theorem gGd2_40 : gDecB gM2.2.1 (List.take 40 (List.drop 40 (gY2))) = true := by decide +kernel
theorem gGd2_80 : gDecB gM2.2.1 (List.take 40 (List.drop 40 (List.drop 40 (gY2)))) = true := by decide +kernel
theorem gGd2_120 : gDecB gM2.2.1 (List.drop 40 (List.drop 40 (List.drop 40 (gY2)))) = true := by decide +kernel
theorem gGd2 : gDecB gM2.2.1 gM2.2.2.2.2.1 = true := (gDec_cut 40 gGd2_0 (gDec_cut 40 gGd2_40 (gDec_cut 40 gGd2_80 gGd2_120)))
set_option maxRecDepth 100000 in
theorem gGc2 : Cond.code gM2.1 gM2.2.1 gM2.2.2.1 gM2.2.2.2.1 ∈ gTs := gTs_of (List.mem_of_getElem? (i := 189) rfl) rfl
theorem gG2 : gFx gPl gCl gMs gM2 := gFx_of3 (mp := gMp.getD 2 (0, 0, 0, 0)) gGd2 gGc2 (by decide +kernel) (gPf_of (ini := true) gF1i_f (fun _ => rfl)) (gPk_of gF1i_k) (gPm_of gF1i_m) (gPc_of gF1i_c)
theorem gG3 : gFx gPl gCl gMs gM3 := gFx_of (mp := gMp.getD 3 (0, 0, 0, 0)) (by decide +kernel) (gPf_of (ini := false) gF2_f (fun h => by cases h)) (gPk_of gF2_k) (gPm_of gF2_m) (gPc_of gF2_c)
theorem gG4 : gFx gPl gCl gMs gM4 := gFx_of (mp := gMp.getD 4 (0, 0, 0, 0)) (by decide +kernel) (gPf_of (ini := false) gF1_f (fun h => by cases h)) (gPk_of gF1_k) (gPm_of gF1_m) (gPc_of gF1_c)
theorem gG5 : gFx gPl gCl gMs gM5 := gFx_of (mp := gMp.getD 5 (0, 0, 0, 0)) (by decide +kernel) (gPf_of (ini := false) gF1_f (fun h => by cases h)) (gPk_of gF1_k) (gPm_of gF1_m) (gPc_of gF1_c)
theorem gG6 : gFx gPl gCl gMs gM6 := gFx_of (mp := gMp.getD 6 (0, 0, 0, 0)) (by decide +kernel) (gPf_of (ini := false) gF1_f (fun h => by cases h)) (gPk_of gF1_k) (gPm_of gF1_m) (gPc_of gF1_c)
theorem gG7 : gFx gPl gCl gMs gM7 := gFx_of (mp := gMp.getD 7 (0, 0, 0, 0)) (by decide +kernel) (gPf_of (ini := false) gF1_f (fun h => by cases h)) (gPk_of gF1_k) (gPm_of gF1_m) (gPc_of gF1_c)
theorem gG8 : gFx gPl gCl gMs gM8 := gFx_of (mp := gMp.getD 8 (0, 0, 0, 0)) (by decide +kernel) (gPf_of (ini := false) gF1_f (fun h => by cases h)) (gPk_of gF1_k) (gPm_of gF1_m) (gPc_of gF1_c)
theorem gG9 : gFx gPl gCl gMs gM9 := gFx_of (mp := gMp.getD 9 (0, 0, 0, 0)) (by decide +kernel) (gPf_of (ini := false) gF1_f (fun h => by cases h)) (gPk_of gF1_k) (gPm_of gF1_m) (gPc_of gF1_c)
theorem gG10 : gFx gPl gCl gMs gM10 := gFx_of (mp := gMp.getD 10 (0, 0, 0, 0)) (by decide +kernel) (gPf_of (ini := false) gF1_f (fun h => by cases h)) (gPk_of gF1_k) (gPm_of gF1_m) (gPc_of gF1_c)
theorem gG11 : gFx gPl gCl gMs gM11 := gFx_of (mp := gMp.getD 11 (0, 0, 0, 0)) (by decide +kernel) (gPf_of (ini := false) gF1_f (fun h => by cases h)) (gPk_of gF1_k) (gPm_of gF1_m) (gPc_of gF1_c)
theorem gG12 : gFx gPl gCl gMs gM12 := gFx_of (mp := gMp.getD 12 (0, 0, 0, 0)) (by decide +kernel) (gPf_of (ini := false) gF1_f (fun h => by cases h)) (gPk_of gF1_k) (gPm_of gF1_m) (gPc_of gF1_c)
theorem gG13 : gFx gPl gCl gMs gM13 := gFx_of (mp := gMp.getD 13 (0, 0, 0, 0)) (by decide +kernel) (gPf_of (ini := true) gF3i_f (fun _ => rfl)) (gPk_of gF3i_k) (gPm_of gF3i_m) (gPc_of gF3i_c)
theorem gG14 : gFx gPl gCl gMs gM14 := gFx_of (mp := gMp.getD 14 (0, 0, 0, 0)) (by decide +kernel) (gPf_of (ini := true) gF4i_f (fun _ => rfl)) (gPk_of gF4i_k) (gPm_of gF4i_m) (gPc_of gF4i_c)
theorem gG15 : gFx gPl gCl gMs gM15 := gFx_of (mp := gMp.getD 15 (0, 0, 0, 0)) (by decide +kernel) (gPf_of (ini := true) gF5i_f (fun _ => rfl)) (gPk_of gF5i_k) (gPm_of gF5i_m) (gPc_of gF5i_c)
theorem gG16 : gFx gPl gCl gMs gM16 := gFx_of (mp := gMp.getD 16 (0, 0, 0, 0)) (by decide +kernel) (gPf_of (ini := true) gF6i_f (fun _ => rfl)) (gPk_of gF6i_k) (gPm_of gF6i_m) (gPc_of gF6i_c)
theorem gG17 : gFx gPl gCl gMs gM17 := gFx_of (mp := gMp.getD 17 (0, 0, 0, 0)) (by decide +kernel) (gPf_of (ini := true) gF7i_f (fun _ => rfl)) (gPk_of gF7i_k) (gPm_of gF7i_m) (gPc_of gF7i_c)
theorem gG18 : gFx gPl gCl gMs gM18 := gFx_of (mp := gMp.getD 18 (0, 0, 0, 0)) (by decide +kernel) (gPf_of (ini := true) gF8i_f (fun _ => rfl)) (gPk_of gF8i_k) (gPm_of gF8i_m) (gPc_of gF8i_c)
