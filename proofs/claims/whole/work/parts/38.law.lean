theorem gGd279_0 : gDecB gM279.2.1 (List.take 40 (gY279)) = true := by decide +kernel
theorem gGd279_40 : gDecB gM279.2.1 (List.take 40 (List.drop 40 (gY279))) = true := by decide +kernel
theorem gGd279_80 : gDecB gM279.2.1 (List.take 40 (List.drop 40 (List.drop 40 (gY279)))) = true := by decide +kernel
theorem gGd279_120 : gDecB gM279.2.1 (List.take 40 (List.drop 40 (List.drop 40 (List.drop 40 (gY279))))) = true := by decide +kernel
theorem gGd279_160 : gDecB gM279.2.1 (List.take 40 (List.drop 40 (List.drop 40 (List.drop 40 (List.drop 40 (gY279)))))) = true := by decide +kernel
theorem gGd279_200 : gDecB gM279.2.1 (List.take 40 (List.drop 40 (List.drop 40 (List.drop 40 (List.drop 40 (List.drop 40 (gY279))))))) = true := by decide +kernel
theorem gGd279_240 : gDecB gM279.2.1 (List.take 40 (List.drop 40 (List.drop 40 (List.drop 40 (List.drop 40 (List.drop 40 (List.drop 40 (gY279)))))))) = true := by decide +kernel
theorem gGd279_280 : gDecB gM279.2.1 (List.take 40 (List.drop 40 (List.drop 40 (List.drop 40 (List.drop 40 (List.drop 40 (List.drop 40 (List.drop 40 (gY279))))))))) = true := by decide +kernel
theorem gGd279_320 : gDecB gM279.2.1 (List.take 40 (List.drop 40 (List.drop 40 (List.drop 40 (List.drop 40 (List.drop 40 (List.drop 40 (List.drop 40 (List.drop 40 (gY279)))))))))) = true := by decide +kernel
theorem gGd279_360 : gDecB gM279.2.1 (List.take 40 (List.drop 40 (List.drop 40 (List.drop 40 (List.drop 40 (List.drop 40 (List.drop 40 (List.drop 40 (List.drop 40 (List.drop 40 (gY279))))))))))) = true := by decide +kernel
theorem gGd279_400 : gDecB gM279.2.1 (List.take 40 (List.drop 40 (List.drop 40 (List.drop 40 (List.drop 40 (List.drop 40 (List.drop 40 (List.drop 40 (List.drop 40 (List.drop 40 (List.drop 40 (gY279)))))))))))) = true := by decide +kernel
theorem gGd279_440 : gDecB gM279.2.1 (List.take 40 (List.drop 40 (List.drop 40 (List.drop 40 (List.drop 40 (List.drop 40 (List.drop 40 (List.drop 40 (List.drop 40 (List.drop 40 (List.drop 40 (List.drop 40 (gY279))))))))))))) = true := by decide +kernel
theorem gGd279_480 : gDecB gM279.2.1 (List.take 40 (List.drop 40 (List.drop 40 (List.drop 40 (List.drop 40 (List.drop 40 (List.drop 40 (List.drop 40 (List.drop 40 (List.drop 40 (List.drop 40 (List.drop 40 (List.drop 40 (gY279)))))))))))))) = true := by decide +kernel
theorem gGd279_520 : gDecB gM279.2.1 (List.take 40 (List.drop 40 (List.drop 40 (List.drop 40 (List.drop 40 (List.drop 40 (List.drop 40 (List.drop 40 (List.drop 40 (List.drop 40 (List.drop 40 (List.drop 40 (List.drop 40 (List.drop 40 (gY279))))))))))))))) = true := by decide +kernel
theorem gGd279_560 : gDecB gM279.2.1 (List.drop 40 (List.drop 40 (List.drop 40 (List.drop 40 (List.drop 40 (List.drop 40 (List.drop 40 (List.drop 40 (List.drop 40 (List.drop 40 (List.drop 40 (List.drop 40 (List.drop 40 (List.drop 40 (gY279))))))))))))))) = true := by decide +kernel
theorem gGd279 : gDecB gM279.2.1 gM279.2.2.2.2.1 = true := (gDec_cut 40 gGd279_0 (gDec_cut 40 gGd279_40 (gDec_cut 40 gGd279_80 (gDec_cut 40 gGd279_120 (gDec_cut 40 gGd279_160 (gDec_cut 40 gGd279_200 (gDec_cut 40 gGd279_240 (gDec_cut 40 gGd279_280 (gDec_cut 40 gGd279_320 (gDec_cut 40 gGd279_360 (gDec_cut 40 gGd279_400 (gDec_cut 40 gGd279_440 (gDec_cut 40 gGd279_480 (gDec_cut 40 gGd279_520 gGd279_560))))))))))))))
theorem gG279 : gFx7 gPl gCl gMs gM279 True := by
  obtain ⟨b1, b2⟩ := gDec_of gGd279
  obtain ⟨c1, c2⟩ := gPf_of (nm := gM279.1) (ini := false) gF17_f (fun h => by cases h)
  exact ⟨b1, b2, c1, c2, gPk_of gF17_k, gPm_of gF17_m, gPc_of gF17_c, trivial⟩
