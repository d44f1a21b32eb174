def p_Grid_init (E : gEv) (a0 : Int32) (a1 : Int32) (a2 : Int32) (a3 : Int32) (σ : gS) : Option gS :=
  gLet (gPut σ 1 0 a0) fun s1 => gLet (gPut s1 1 1 a1) fun s2 => gLet (gPut s2 1 2 a2) fun s3 => gLet (gPut s3 1 3 a3) fun s4 => gLet (gPut s4 1 4 (a0 * a1)) fun s5 => gLet (gPut s5 1 5 ((4 : Int32) * (a0 + a1))) fun s6 => gLet (gPut s6 1 6 ((s6.1 1 4) * a2)) fun s7 => gLet (gPut s7 1 7 (((a0 * (a1 + (1 : Int32))) + ((a0 + (1 : Int32)) * a1)) * a3)) fun s8 => gLet ((((a0 + (1 : Int32)) * (a1 + (1 : Int32))) * a3) * (6 : Int32)) fun x9 => gLet (gPut s8 1 9 ((42 : Int32) + ((4 : Int32) * a3))) fun s10 => gLet (gPut s10 1 10 ((s10.1 1 6) * (s10.1 1 9))) fun s11 => gLet (gPut s11 1 11 ((s11.1 1 10) + ((s11.1 1 5) * ((6 : Int32) + a3)))) fun s12 => gLet (gPut s12 1 8 ((s12.1 1 11) + x9)) fun s13 => if ¬ ((s13.1 1 4) + (s13.1 1 5)) < 0 ∧ ((s13.1 1 4) + (s13.1 1 5)).toNatClampNeg ≤ 20000 then gLet (gZr s13 2 ((s13.1 1 4) + (s13.1 1 5)).toNatClampNeg) fun s14 => if ¬ ((s14.1 1 4) + (s14.1 1 5)) < 0 ∧ ((s14.1 1 4) + (s14.1 1 5)).toNatClampNeg ≤ 20000 then gLet (gZr s14 3 ((s14.1 1 4) + (s14.1 1 5)).toNatClampNeg) fun s15 => if ¬ (((s15.1 1 4) + (s15.1 1 5)) * (4 : Int32)) < 0 ∧ (((s15.1 1 4) + (s15.1 1 5)) * (4 : Int32)).toNatClampNeg ≤ 20000 then gLet (gZr s15 4 (((s15.1 1 4) + (s15.1 1 5)) * (4 : Int32)).toNatClampNeg) fun s16 => if ¬ x9 < 0 ∧ x9.toNatClampNeg ≤ 20000 then gLet (gZr s16 5 x9.toNatClampNeg) fun s17 => if ¬ x9 < 0 ∧ x9.toNatClampNeg ≤ 20000 then gLet (gZr s17 6 x9.toNatClampNeg) fun s18 => if ¬ (s18.1 1 7) < 0 ∧ (s18.1 1 7).toNatClampNeg ≤ 20000 then gLet (gZr s18 7 (s18.1 1 7).toNatClampNeg) fun s19 => if ¬ ((s19.1 1 7) * (6 : Int32)) < 0 ∧ ((s19.1 1 7) * (6 : Int32)).toNatClampNeg ≤ 20000 then gLet (gZr s19 8 ((s19.1 1 7) * (6 : Int32)).toNatClampNeg) fun s20 => if ¬ ((s20.1 1 7) * (6 : Int32)) < 0 ∧ ((s20.1 1 7) * (6 : Int32)).toNatClampNeg ≤ 20000 then gLet (gZr s20 9 ((s20.1 1 7) * (6 : Int32)).toNatClampNeg) fun s21 => gB1 (p_Arrays_fillI E 4 (-1) s21) fun s23 => gB1 (p_Grid_setTiles E s23) fun s25 => gB1 (p_Grid_setPads E s25) fun s27 => gB1 (p_Grid_setJoints E s27) fun s29 => gB1 (p_Grid_setNeighbours E s29) fun s31 => some s31 else none else none else none else none else none else none else none else none
set_option maxRecDepth 20000 in
theorem c_Grid_init (E : gEv) (d : Nat) (a0 : Int32) (a1 : Int32) (a2 : Int32) (a3 : Int32) (σ : gS) {sr : gS} (hq : p_Grid_init E a0 a1 a2 a3 σ = some sr) : gC E gDf gMs (d + 3) 2 [.ref 1, .int a0, .int a1, .int a2, .int a3] (gSq_1, σ, 32) (none, (gShG, sr, 160032)) := ⟨gM2, rfl, Nat.le_of_ble_eq_true rfl, fun G hG => by
  have hP := hq
  unfold p_Grid_init at hP
  replace hG : gClo E gDf gP1i gY2 none (gC E gDf gMs (d + 2)) (none, (gShG, sr, 160032)) G := hG
  show G (0, [some (.ref 1), some (.int a0), some (.int a1), some (.int a2), some (.int a3), none], [], (gSq_1, σ, 32))
  refine gRunN_ok hG.1 5 _ (9, [some (.ref 1), some (.int a0), some (.int a1), some (.int a2), some (.int a3), none], [], (gSq_1, (gPut σ 1 0 a0), 32)) rfl ?_
  obtain ⟨s1, es1, hP⟩ := g_let hP
  rw [← es1]
  refine gRunN_ok hG.1 3 _ (14, [some (.ref 1), some (.int a0), some (.int a1), some (.int a2), some (.int a3), none], [], (gSq_1, (gPut s1 1 1 a1), 32)) rfl ?_
  obtain ⟨s2, es2, hP⟩ := g_let hP
  rw [← es2]
  refine gRunN_ok hG.1 3 _ (19, [some (.ref 1), some (.int a0), some (.int a1), some (.int a2), some (.int a3), none], [], (gSq_1, (gPut s2 1 2 a2), 32)) rfl ?_
  obtain ⟨s3, es3, hP⟩ := g_let hP
  rw [← es3]
  refine gRunN_ok hG.1 3 _ (25, [some (.ref 1), some (.int a0), some (.int a1), some (.int a2), some (.int a3), none], [], (gSq_1, (gPut s3 1 3 a3), 32)) rfl ?_
  obtain ⟨s4, es4, hP⟩ := g_let hP
  rw [← es4]
  refine gRunN_ok hG.1 5 _ (32, [some (.ref 1), some (.int a0), some (.int a1), some (.int a2), some (.int a3), none], [], (gSq_1, (gPut s4 1 4 (a0 * a1)), 32)) rfl ?_
  obtain ⟨s5, es5, hP⟩ := g_let hP
  rw [← es5]
  refine gRunN_ok hG.1 7 _ (41, [some (.ref 1), some (.int a0), some (.int a1), some (.int a2), some (.int a3), none], [], (gSq_1, (gPut s5 1 5 ((4 : Int32) * (a0 + a1))), 32)) rfl ?_
  obtain ⟨s6, es6, hP⟩ := g_let hP
  rw [← es6]
  refine gRunN_ok hG.1 6 _ (51, [some (.ref 1), some (.int a0), some (.int a1), some (.int a2), some (.int a3), none], [], (gSq_1, (gPut s6 1 6 ((s6.1 1 4) * a2)), 32)) rfl ?_
  obtain ⟨s7, es7, hP⟩ := g_let hP
  rw [← es7]
  refine gRunN_ok hG.1 15 _ (69, [some (.ref 1), some (.int a0), some (.int a1), some (.int a2), some (.int a3), none], [], (gSq_1, (gPut s7 1 7 (((a0 * (a1 + (1 : Int32))) + ((a0 + (1 : Int32)) * a1)) * a3)), 32)) rfl ?_
  obtain ⟨s8, es8, hP⟩ := g_let hP
  rw [← es8]
  refine gRunN_ok hG.1 12 _ (84, [some (.ref 1), some (.int a0), some (.int a1), some (.int a2), some (.int a3), some (.int ((((a0 + (1 : Int32)) * (a1 + (1 : Int32))) * a3) * (6 : Int32)))], [], (gSq_1, s8, 32)) rfl ?_
  obtain ⟨x9, ex9, hP⟩ := g_let hP
  rw [← ex9]
  refine gRunN_ok hG.1 7 _ (95, [some (.ref 1), some (.int a0), some (.int a1), some (.int a2), some (.int a3), some (.int x9)], [], (gSq_1, (gPut s8 1 9 ((42 : Int32) + ((4 : Int32) * a3))), 32)) rfl ?_
  obtain ⟨s10, es10, hP⟩ := g_let hP
  rw [← es10]
  refine gRunN_ok hG.1 7 _ (108, [some (.ref 1), some (.int a0), some (.int a1), some (.int a2), some (.int a3), some (.int x9)], [], (gSq_1, (gPut s10 1 10 ((s10.1 1 6) * (s10.1 1 9))), 32)) rfl ?_
  obtain ⟨s11, es11, hP⟩ := g_let hP
  rw [← es11]
  refine gRunN_ok hG.1 11 _ (127, [some (.ref 1), some (.int a0), some (.int a1), some (.int a2), some (.int a3), some (.int x9)], [], (gSq_1, (gPut s11 1 11 ((s11.1 1 10) + ((s11.1 1 5) * ((6 : Int32) + a3)))), 32)) rfl ?_
  obtain ⟨s12, es12, hP⟩ := g_let hP
  rw [← es12]
  refine gRunN_ok hG.1 6 _ (138, [some (.ref 1), some (.int a0), some (.int a1), some (.int a2), some (.int a3), some (.int x9)], [], (gSq_1, (gPut s12 1 8 ((s12.1 1 11) + x9)), 32)) rfl ?_
  obtain ⟨s13, es13, hP⟩ := g_let hP
  rw [← es13]
  refine gRunN_ok hG.1 6 _ (148, [some (.ref 1), some (.int a0), some (.int a1), some (.int a2), some (.int a3), some (.int x9)], [.int ((s13.1 1 4) + (s13.1 1 5)), .ref 1], (gSq_1, s13, 32)) rfl ?_
  obtain ⟨hc, hP⟩ := g_if hP
  refine hG.2.2.1 _ (150, [some (.ref 1), some (.int a0), some (.int a1), some (.int a2), some (.int a3), some (.int x9)], [.ref 2, .ref 1], (gSq_2, (gZr s13 2 ((s13.1 1 4) + (s13.1 1 5)).toNatClampNeg), (32 + ((s13.1 1 4) + (s13.1 1 5)).toNatClampNeg))) _ rfl (if_pos ⟨hc.1, Nat.le_trans hc.2 (by decide)⟩) (Nat.le_of_ble_eq_true rfl) (Nat.le_trans (Nat.add_le_add_left hc.2 32) (show (32 + 20000 : Nat) ≤ 160032 from Nat.le_of_ble_eq_true rfl)) ?_
  refine hG.2.2.2.2.2.1 _ _ _ _ _ _ 20032 (Nat.add_le_add_left hc.2 32) (show (20032 : Nat) ≤ 160032 from Nat.le_of_ble_eq_true rfl) ?_
  obtain ⟨s14, es14, hP⟩ := g_let hP
  rw [← es14]
  refine hG.2.2.1 _ (153, [some (.ref 1), some (.int a0), some (.int a1), some (.int a2), some (.int a3), some (.int x9)], [], (gSq_3, s14, 20032)) _ rfl rfl (Nat.le_of_ble_eq_true rfl) (show (20032 : Nat) ≤ 160032 from Nat.le_of_ble_eq_true rfl) ?_
  refine gRunN_ok hG.1 6 _ (163, [some (.ref 1), some (.int a0), some (.int a1), some (.int a2), some (.int a3), some (.int x9)], [.int ((s14.1 1 4) + (s14.1 1 5)), .ref 1], (gSq_3, s14, 20032)) rfl ?_
  obtain ⟨hc, hP⟩ := g_if hP
  refine hG.2.2.1 _ (165, [some (.ref 1), some (.int a0), some (.int a1), some (.int a2), some (.int a3), some (.int x9)], [.ref 3, .ref 1], (gSq_4, (gZr s14 3 ((s14.1 1 4) + (s14.1 1 5)).toNatClampNeg), (20032 + ((s14.1 1 4) + (s14.1 1 5)).toNatClampNeg))) _ rfl (if_pos ⟨hc.1, Nat.le_trans hc.2 (by decide)⟩) (Nat.le_of_ble_eq_true rfl) (Nat.le_trans (Nat.add_le_add_left hc.2 20032) (show (20032 + 20000 : Nat) ≤ 160032 from Nat.le_of_ble_eq_true rfl)) ?_
  refine hG.2.2.2.2.2.1 _ _ _ _ _ _ 40032 (Nat.add_le_add_left hc.2 20032) (show (40032 : Nat) ≤ 160032 from Nat.le_of_ble_eq_true rfl) ?_
  obtain ⟨s15, es15, hP⟩ := g_let hP
  rw [← es15]
  refine hG.2.2.1 _ (168, [some (.ref 1), some (.int a0), some (.int a1), some (.int a2), some (.int a3), some (.int x9)], [], (gSq_5, s15, 40032)) _ rfl rfl (Nat.le_of_ble_eq_true rfl) (show (40032 : Nat) ≤ 160032 from Nat.le_of_ble_eq_true rfl) ?_
  refine gRunN_ok hG.1 8 _ (180, [some (.ref 1), some (.int a0), some (.int a1), some (.int a2), some (.int a3), some (.int x9)], [.int (((s15.1 1 4) + (s15.1 1 5)) * (4 : Int32)), .ref 1], (gSq_5, s15, 40032)) rfl ?_
  obtain ⟨hc, hP⟩ := g_if hP
  refine hG.2.2.1 _ (182, [some (.ref 1), some (.int a0), some (.int a1), some (.int a2), some (.int a3), some (.int x9)], [.ref 4, .ref 1], (gSq_6, (gZr s15 4 (((s15.1 1 4) + (s15.1 1 5)) * (4 : Int32)).toNatClampNeg), (40032 + (((s15.1 1 4) + (s15.1 1 5)) * (4 : Int32)).toNatClampNeg))) _ rfl (if_pos ⟨hc.1, Nat.le_trans hc.2 (by decide)⟩) (Nat.le_of_ble_eq_true rfl) (Nat.le_trans (Nat.add_le_add_left hc.2 40032) (show (40032 + 20000 : Nat) ≤ 160032 from Nat.le_of_ble_eq_true rfl)) ?_
  refine hG.2.2.2.2.2.1 _ _ _ _ _ _ 60032 (Nat.add_le_add_left hc.2 40032) (show (60032 : Nat) ≤ 160032 from Nat.le_of_ble_eq_true rfl) ?_
  obtain ⟨s16, es16, hP⟩ := g_let hP
  rw [← es16]
  refine hG.2.2.1 _ (185, [some (.ref 1), some (.int a0), some (.int a1), some (.int a2), some (.int a3), some (.int x9)], [], (gSq_7, s16, 60032)) _ rfl rfl (Nat.le_of_ble_eq_true rfl) (show (60032 : Nat) ≤ 160032 from Nat.le_of_ble_eq_true rfl) ?_
  refine gRunN_ok hG.1 2 _ (188, [some (.ref 1), some (.int a0), some (.int a1), some (.int a2), some (.int a3), some (.int x9)], [.int x9, .ref 1], (gSq_7, s16, 60032)) rfl ?_
  obtain ⟨hc, hP⟩ := g_if hP
  refine hG.2.2.1 _ (190, [some (.ref 1), some (.int a0), some (.int a1), some (.int a2), some (.int a3), some (.int x9)], [.ref 5, .ref 1], (gSq_8, (gZr s16 5 x9.toNatClampNeg), (60032 + x9.toNatClampNeg))) _ rfl (if_pos ⟨hc.1, Nat.le_trans hc.2 (by decide)⟩) (Nat.le_of_ble_eq_true rfl) (Nat.le_trans (Nat.add_le_add_left hc.2 60032) (show (60032 + 20000 : Nat) ≤ 160032 from Nat.le_of_ble_eq_true rfl)) ?_
  refine hG.2.2.2.2.2.1 _ _ _ _ _ _ 80032 (Nat.add_le_add_left hc.2 60032) (show (80032 : Nat) ≤ 160032 from Nat.le_of_ble_eq_true rfl) ?_
  obtain ⟨s17, es17, hP⟩ := g_let hP
  rw [← es17]
  refine hG.2.2.1 _ (193, [some (.ref 1), some (.int a0), some (.int a1), some (.int a2), some (.int a3), some (.int x9)], [], (gSq_9, s17, 80032)) _ rfl rfl (Nat.le_of_ble_eq_true rfl) (show (80032 : Nat) ≤ 160032 from Nat.le_of_ble_eq_true rfl) ?_
  refine gRunN_ok hG.1 2 _ (196, [some (.ref 1), some (.int a0), some (.int a1), some (.int a2), some (.int a3), some (.int x9)], [.int x9, .ref 1], (gSq_9, s17, 80032)) rfl ?_
  obtain ⟨hc, hP⟩ := g_if hP
  refine hG.2.2.1 _ (198, [some (.ref 1), some (.int a0), some (.int a1), some (.int a2), some (.int a3), some (.int x9)], [.ref 6, .ref 1], (gSq_10, (gZr s17 6 x9.toNatClampNeg), (80032 + x9.toNatClampNeg))) _ rfl (if_pos ⟨hc.1, Nat.le_trans hc.2 (by decide)⟩) (Nat.le_of_ble_eq_true rfl) (Nat.le_trans (Nat.add_le_add_left hc.2 80032) (show (80032 + 20000 : Nat) ≤ 160032 from Nat.le_of_ble_eq_true rfl)) ?_
  refine hG.2.2.2.2.2.1 _ _ _ _ _ _ 100032 (Nat.add_le_add_left hc.2 80032) (show (100032 : Nat) ≤ 160032 from Nat.le_of_ble_eq_true rfl) ?_
  obtain ⟨s18, es18, hP⟩ := g_let hP
  rw [← es18]
  refine hG.2.2.1 _ (201, [some (.ref 1), some (.int a0), some (.int a1), some (.int a2), some (.int a3), some (.int x9)], [], (gSq_11, s18, 100032)) _ rfl rfl (Nat.le_of_ble_eq_true rfl) (show (100032 : Nat) ≤ 160032 from Nat.le_of_ble_eq_true rfl) ?_
  refine gRunN_ok hG.1 3 _ (206, [some (.ref 1), some (.int a0), some (.int a1), some (.int a2), some (.int a3), some (.int x9)], [.int (s18.1 1 7), .ref 1], (gSq_11, s18, 100032)) rfl ?_
  obtain ⟨hc, hP⟩ := g_if hP
  refine hG.2.2.1 _ (208, [some (.ref 1), some (.int a0), some (.int a1), some (.int a2), some (.int a3), some (.int x9)], [.ref 7, .ref 1], (gSq_12, (gZr s18 7 (s18.1 1 7).toNatClampNeg), (100032 + (s18.1 1 7).toNatClampNeg))) _ rfl (if_pos ⟨hc.1, Nat.le_trans hc.2 (by decide)⟩) (Nat.le_of_ble_eq_true rfl) (Nat.le_trans (Nat.add_le_add_left hc.2 100032) (show (100032 + 20000 : Nat) ≤ 160032 from Nat.le_of_ble_eq_true rfl)) ?_
  refine hG.2.2.2.2.2.1 _ _ _ _ _ _ 120032 (Nat.add_le_add_left hc.2 100032) (show (120032 : Nat) ≤ 160032 from Nat.le_of_ble_eq_true rfl) ?_
  obtain ⟨s19, es19, hP⟩ := g_let hP
  rw [← es19]
  refine hG.2.2.1 _ (211, [some (.ref 1), some (.int a0), some (.int a1), some (.int a2), some (.int a3), some (.int x9)], [], (gSq_13, s19, 120032)) _ rfl rfl (Nat.le_of_ble_eq_true rfl) (show (120032 : Nat) ≤ 160032 from Nat.le_of_ble_eq_true rfl) ?_
  refine gRunN_ok hG.1 5 _ (219, [some (.ref 1), some (.int a0), some (.int a1), some (.int a2), some (.int a3), some (.int x9)], [.int ((s19.1 1 7) * (6 : Int32)), .ref 1], (gSq_13, s19, 120032)) rfl ?_
  obtain ⟨hc, hP⟩ := g_if hP
  refine hG.2.2.1 _ (221, [some (.ref 1), some (.int a0), some (.int a1), some (.int a2), some (.int a3), some (.int x9)], [.ref 8, .ref 1], (gSq_14, (gZr s19 8 ((s19.1 1 7) * (6 : Int32)).toNatClampNeg), (120032 + ((s19.1 1 7) * (6 : Int32)).toNatClampNeg))) _ rfl (if_pos ⟨hc.1, Nat.le_trans hc.2 (by decide)⟩) (Nat.le_of_ble_eq_true rfl) (Nat.le_trans (Nat.add_le_add_left hc.2 120032) (show (120032 + 20000 : Nat) ≤ 160032 from Nat.le_of_ble_eq_true rfl)) ?_
  refine hG.2.2.2.2.2.1 _ _ _ _ _ _ 140032 (Nat.add_le_add_left hc.2 120032) (show (140032 : Nat) ≤ 160032 from Nat.le_of_ble_eq_true rfl) ?_
  obtain ⟨s20, es20, hP⟩ := g_let hP
  rw [← es20]
  refine hG.2.2.1 _ (224, [some (.ref 1), some (.int a0), some (.int a1), some (.int a2), some (.int a3), some (.int x9)], [], (gSq_15, s20, 140032)) _ rfl rfl (Nat.le_of_ble_eq_true rfl) (show (140032 : Nat) ≤ 160032 from Nat.le_of_ble_eq_true rfl) ?_
  refine gRunN_ok hG.1 5 _ (232, [some (.ref 1), some (.int a0), some (.int a1), some (.int a2), some (.int a3), some (.int x9)], [.int ((s20.1 1 7) * (6 : Int32)), .ref 1], (gSq_15, s20, 140032)) rfl ?_
  obtain ⟨hc, hP⟩ := g_if hP
  refine hG.2.2.1 _ (234, [some (.ref 1), some (.int a0), some (.int a1), some (.int a2), some (.int a3), some (.int x9)], [.ref 9, .ref 1], (gSq_16, (gZr s20 9 ((s20.1 1 7) * (6 : Int32)).toNatClampNeg), (140032 + ((s20.1 1 7) * (6 : Int32)).toNatClampNeg))) _ rfl (if_pos ⟨hc.1, Nat.le_trans hc.2 (by decide)⟩) (Nat.le_of_ble_eq_true rfl) (Nat.le_trans (Nat.add_le_add_left hc.2 140032) (show (140032 + 20000 : Nat) ≤ 160032 from Nat.le_of_ble_eq_true rfl)) ?_
  refine hG.2.2.2.2.2.1 _ _ _ _ _ _ 160032 (Nat.add_le_add_left hc.2 140032) (show (160032 : Nat) ≤ 160032 from Nat.le_of_ble_eq_true rfl) ?_
  obtain ⟨s21, es21, hP⟩ := g_let hP
  rw [← es21]
  refine hG.2.2.1 _ (237, [some (.ref 1), some (.int a0), some (.int a1), some (.int a2), some (.int a3), some (.int x9)], [], (gShG, s21, 160032)) _ rfl rfl (Nat.le_of_ble_eq_true rfl) (show (160032 : Nat) ≤ 160032 from Nat.le_of_ble_eq_true rfl) ?_
  refine gRunN_ok hG.1 3 _ (242, [some (.ref 1), some (.int a0), some (.int a1), some (.int a2), some (.int a3), some (.int x9)], [.int (-1), .ref 4], (gShG, s21, 160032)) rfl ?_
  obtain ⟨s23, hq, hP⟩ := g_b1 hP
  refine hG.2.2.2.1 _ _ _ [.ref 4, .int (-1)] [] _ (gShG, s23, 160032) none _ _ _ _ _ _ rfl rfl rfl rfl rfl rfl (c_Arrays_fillI E (d + 1) 160032 4 (-1) _ rfl hq) (Nat.le_refl _) (Nat.le_refl _) (Nat.le_of_ble_eq_true rfl) (show (160032 : Nat) ≤ 160032 from Nat.le_of_ble_eq_true rfl) ?_
  show G (245, [some (.ref 1), some (.int a0), some (.int a1), some (.int a2), some (.int a3), some (.int x9)], [], (gShG, s23, 160032))
  refine gRunN_ok hG.1 1 _ (246, [some (.ref 1), some (.int a0), some (.int a1), some (.int a2), some (.int a3), some (.int x9)], [.ref 1], (gShG, s23, 160032)) rfl ?_
  obtain ⟨s25, hq, hP⟩ := g_b1 hP
  refine hG.2.2.2.1 _ _ _ [.ref 1] [] _ (gShG, s25, 160032) none _ _ _ _ _ _ rfl rfl rfl rfl rfl rfl (c_Grid_setTiles E (d + 0) 160032 _  hq) (Nat.le_refl _) (Nat.le_refl _) (Nat.le_of_ble_eq_true rfl) (show (160032 : Nat) ≤ 160032 from Nat.le_of_ble_eq_true rfl) ?_
  show G (249, [some (.ref 1), some (.int a0), some (.int a1), some (.int a2), some (.int a3), some (.int x9)], [], (gShG, s25, 160032))
  refine gRunN_ok hG.1 1 _ (250, [some (.ref 1), some (.int a0), some (.int a1), some (.int a2), some (.int a3), some (.int x9)], [.ref 1], (gShG, s25, 160032)) rfl ?_
  obtain ⟨s27, hq, hP⟩ := g_b1 hP
  refine hG.2.2.2.1 _ _ _ [.ref 1] [] _ (gShG, s27, 160032) none _ _ _ _ _ _ rfl rfl rfl rfl rfl rfl (c_Grid_setPads E (d + 0) 160032 _  hq) (Nat.le_refl _) (Nat.le_refl _) (Nat.le_of_ble_eq_true rfl) (show (160032 : Nat) ≤ 160032 from Nat.le_of_ble_eq_true rfl) ?_
  show G (253, [some (.ref 1), some (.int a0), some (.int a1), some (.int a2), some (.int a3), some (.int x9)], [], (gShG, s27, 160032))
  refine gRunN_ok hG.1 1 _ (254, [some (.ref 1), some (.int a0), some (.int a1), some (.int a2), some (.int a3), some (.int x9)], [.ref 1], (gShG, s27, 160032)) rfl ?_
  obtain ⟨s29, hq, hP⟩ := g_b1 hP
  refine hG.2.2.2.1 _ _ _ [.ref 1] [] _ (gShG, s29, 160032) none _ _ _ _ _ _ rfl rfl rfl rfl rfl rfl (c_Grid_setJoints E (d + 0) 160032 _  hq) (Nat.le_refl _) (Nat.le_refl _) (Nat.le_of_ble_eq_true rfl) (show (160032 : Nat) ≤ 160032 from Nat.le_of_ble_eq_true rfl) ?_
  show G (257, [some (.ref 1), some (.int a0), some (.int a1), some (.int a2), some (.int a3), some (.int x9)], [], (gShG, s29, 160032))
  refine gRunN_ok hG.1 1 _ (258, [some (.ref 1), some (.int a0), some (.int a1), some (.int a2), some (.int a3), some (.int x9)], [.ref 1], (gShG, s29, 160032)) rfl ?_
  obtain ⟨s31, hq, hP⟩ := g_b1 hP
  refine hG.2.2.2.1 _ _ _ [.ref 1] [] _ (gShG, s31, 160032) none _ _ _ _ _ _ rfl rfl rfl rfl rfl rfl (c_Grid_setNeighbours E (d + 0) 160032 _  hq) (Nat.le_refl _) (Nat.le_refl _) (Nat.le_of_ble_eq_true rfl) (show (160032 : Nat) ≤ 160032 from Nat.le_of_ble_eq_true rfl) ?_
  show G (261, [some (.ref 1), some (.int a0), some (.int a1), some (.int a2), some (.int a3), some (.int x9)], [], (gShG, s31, 160032))
  cases hP
  exact hG.2.1 _ _ rfl rfl⟩
def p_Text_init (E : gEv) (σ : gS) : Option gS :=
  gLet (gZr σ 11 4000) fun s1 => gLet (gZr s1 12 20) fun s2 => some s2
set_option maxRecDepth 20000 in
theorem c_Text_init (E : gEv) (d : Nat) (σ : gS) {sr : gS} (hq : p_Text_init E σ = some sr) : gC E gDf gMs (d + 1) 13 [.ref 10] (gSq_18, σ, 160039) (none, (gSq_22, sr, 164059)) := ⟨gM13, rfl, Nat.le_of_ble_eq_true rfl, fun G hG => by
  have hP := hq
  unfold p_Text_init at hP
  replace hG : gClo E gDf gP3i gY13 none (gC E gDf gMs (d + 0)) (none, (gSq_22, sr, 164059)) G := hG
  show G (0, [some (.ref 10)], [], (gSq_18, σ, 160039))
  refine gRunN_ok hG.1 4 _ (8, [some (.ref 10)], [.int 4000, .ref 10], (gSq_18, σ, 160039)) rfl ?_
  refine g_na hG.2.2.1 (ty := .byte) (N := 4000) (k := 11) (sh' := gSq_19) (u' := 164039) (fun _ _ _ _ => rfl) rfl ⟨by decide, Nat.le_of_ble_eq_true rfl⟩ rfl rfl rfl rfl (Nat.le_of_ble_eq_true rfl) (show (164039 : Nat) ≤ 164059 from Nat.le_of_ble_eq_true rfl) ?_
  show G (10, [some (.ref 10)], [.ref 11, .ref 10], (gSq_19, (gZr σ 11 4000), 164039))
  obtain ⟨s1, es1, hP⟩ := g_let hP
  rw [← es1]
  refine hG.2.2.1 _ (13, [some (.ref 10)], [], (gSq_20, s1, 164039)) _ rfl rfl (Nat.le_of_ble_eq_true rfl) (show (164039 : Nat) ≤ 164059 from Nat.le_of_ble_eq_true rfl) ?_
  refine gRunN_ok hG.1 2 _ (16, [some (.ref 10)], [.int 20, .ref 10], (gSq_20, s1, 164039)) rfl ?_
  refine g_na hG.2.2.1 (ty := .byte) (N := 20) (k := 12) (sh' := gSq_21) (u' := 164059) (fun _ _ _ _ => rfl) rfl ⟨by decide, Nat.le_of_ble_eq_true rfl⟩ rfl rfl rfl rfl (Nat.le_of_ble_eq_true rfl) (show (164059 : Nat) ≤ 164059 from Nat.le_of_ble_eq_true rfl) ?_
  show G (18, [some (.ref 10)], [.ref 12, .ref 10], (gSq_21, (gZr s1 12 20), 164059))
  obtain ⟨s2, es2, hP⟩ := g_let hP
  rw [← es2]
  refine hG.2.2.1 _ (21, [some (.ref 10)], [], (gSq_22, s2, 164059)) _ rfl rfl (Nat.le_of_ble_eq_true rfl) (show (164059 : Nat) ≤ 164059 from Nat.le_of_ble_eq_true rfl) ?_
  cases hP
  exact hG.2.1 _ _ rfl rfl⟩
def p_Gates_init (E : gEv) (σ : gS) : Option gS :=
  gLet (gZr σ 14 150) fun s1 => gLet (gZr s1 15 150) fun s2 => gLet (gZr s2 16 1200) fun s3 => gLet (gZr s3 17 150) fun s4 => gLet (gZr s4 18 150) fun s5 => gLet (gZr s5 19 1200) fun s6 => gLet (gZr s6 20 150) fun s7 => gLet (gZr s7 21 150) fun s8 => some s8
set_option maxRecDepth 20000 in
theorem c_Gates_init (E : gEv) (d : Nat) (σ : gS) {sr : gS} (hq : p_Gates_init E σ = some sr) : gC E gDf gMs (d + 1) 14 [.ref 13] (gSq_24, σ, 164068) (none, (gSq_40, sr, 167368)) := ⟨gM14, rfl, Nat.le_of_ble_eq_true rfl, fun G hG => by
  have hP := hq
  unfold p_Gates_init at hP
  replace hG : gClo E gDf gP4i gY14 none (gC E gDf gMs (d + 0)) (none, (gSq_40, sr, 167368)) G := hG
  show G (0, [some (.ref 13)], [], (gSq_24, σ, 164068))
  refine gRunN_ok hG.1 4 _ (8, [some (.ref 13)], [.int 150, .ref 13], (gSq_24, σ, 164068)) rfl ?_
  refine g_na hG.2.2.1 (ty := .int) (N := 150) (k := 14) (sh' := gSq_25) (u' := 164218) (fun _ _ _ _ => rfl) rfl ⟨by decide, Nat.le_of_ble_eq_true rfl⟩ rfl rfl rfl rfl (Nat.le_of_ble_eq_true rfl) (show (164218 : Nat) ≤ 167368 from Nat.le_of_ble_eq_true rfl) ?_
  show G (10, [some (.ref 13)], [.ref 14, .ref 13], (gSq_25, (gZr σ 14 150), 164218))
  obtain ⟨s1, es1, hP⟩ := g_let hP
  rw [← es1]
  refine hG.2.2.1 _ (13, [some (.ref 13)], [], (gSq_26, s1, 164218)) _ rfl rfl (Nat.le_of_ble_eq_true rfl) (show (164218 : Nat) ≤ 167368 from Nat.le_of_ble_eq_true rfl) ?_
  refine gRunN_ok hG.1 2 _ (17, [some (.ref 13)], [.int 150, .ref 13], (gSq_26, s1, 164218)) rfl ?_
  refine g_na hG.2.2.1 (ty := .int) (N := 150) (k := 15) (sh' := gSq_27) (u' := 164368) (fun _ _ _ _ => rfl) rfl ⟨by decide, Nat.le_of_ble_eq_true rfl⟩ rfl rfl rfl rfl (Nat.le_of_ble_eq_true rfl) (show (164368 : Nat) ≤ 167368 from Nat.le_of_ble_eq_true rfl) ?_
  show G (19, [some (.ref 13)], [.ref 15, .ref 13], (gSq_27, (gZr s1 15 150), 164368))
  obtain ⟨s2, es2, hP⟩ := g_let hP
  rw [← es2]
  refine hG.2.2.1 _ (22, [some (.ref 13)], [], (gSq_28, s2, 164368)) _ rfl rfl (Nat.le_of_ble_eq_true rfl) (show (164368 : Nat) ≤ 167368 from Nat.le_of_ble_eq_true rfl) ?_
  refine gRunN_ok hG.1 2 _ (26, [some (.ref 13)], [.int 1200, .ref 13], (gSq_28, s2, 164368)) rfl ?_
  refine g_na hG.2.2.1 (ty := .int) (N := 1200) (k := 16) (sh' := gSq_29) (u' := 165568) (fun _ _ _ _ => rfl) rfl ⟨by decide, Nat.le_of_ble_eq_true rfl⟩ rfl rfl rfl rfl (Nat.le_of_ble_eq_true rfl) (show (165568 : Nat) ≤ 167368 from Nat.le_of_ble_eq_true rfl) ?_
  show G (28, [some (.ref 13)], [.ref 16, .ref 13], (gSq_29, (gZr s2 16 1200), 165568))
  obtain ⟨s3, es3, hP⟩ := g_let hP
  rw [← es3]
  refine hG.2.2.1 _ (31, [some (.ref 13)], [], (gSq_30, s3, 165568)) _ rfl rfl (Nat.le_of_ble_eq_true rfl) (show (165568 : Nat) ≤ 167368 from Nat.le_of_ble_eq_true rfl) ?_
  refine gRunN_ok hG.1 2 _ (35, [some (.ref 13)], [.int 150, .ref 13], (gSq_30, s3, 165568)) rfl ?_
  refine g_na hG.2.2.1 (ty := .int) (N := 150) (k := 17) (sh' := gSq_31) (u' := 165718) (fun _ _ _ _ => rfl) rfl ⟨by decide, Nat.le_of_ble_eq_true rfl⟩ rfl rfl rfl rfl (Nat.le_of_ble_eq_true rfl) (show (165718 : Nat) ≤ 167368 from Nat.le_of_ble_eq_true rfl) ?_
  show G (37, [some (.ref 13)], [.ref 17, .ref 13], (gSq_31, (gZr s3 17 150), 165718))
  obtain ⟨s4, es4, hP⟩ := g_let hP
  rw [← es4]
  refine hG.2.2.1 _ (40, [some (.ref 13)], [], (gSq_32, s4, 165718)) _ rfl rfl (Nat.le_of_ble_eq_true rfl) (show (165718 : Nat) ≤ 167368 from Nat.le_of_ble_eq_true rfl) ?_
  refine gRunN_ok hG.1 2 _ (44, [some (.ref 13)], [.int 150, .ref 13], (gSq_32, s4, 165718)) rfl ?_
  refine g_na hG.2.2.1 (ty := .int) (N := 150) (k := 18) (sh' := gSq_33) (u' := 165868) (fun _ _ _ _ => rfl) rfl ⟨by decide, Nat.le_of_ble_eq_true rfl⟩ rfl rfl rfl rfl (Nat.le_of_ble_eq_true rfl) (show (165868 : Nat) ≤ 167368 from Nat.le_of_ble_eq_true rfl) ?_
  show G (46, [some (.ref 13)], [.ref 18, .ref 13], (gSq_33, (gZr s4 18 150), 165868))
  obtain ⟨s5, es5, hP⟩ := g_let hP
  rw [← es5]
  refine hG.2.2.1 _ (49, [some (.ref 13)], [], (gSq_34, s5, 165868)) _ rfl rfl (Nat.le_of_ble_eq_true rfl) (show (165868 : Nat) ≤ 167368 from Nat.le_of_ble_eq_true rfl) ?_
  refine gRunN_ok hG.1 2 _ (53, [some (.ref 13)], [.int 1200, .ref 13], (gSq_34, s5, 165868)) rfl ?_
  refine g_na hG.2.2.1 (ty := .int) (N := 1200) (k := 19) (sh' := gSq_35) (u' := 167068) (fun _ _ _ _ => rfl) rfl ⟨by decide, Nat.le_of_ble_eq_true rfl⟩ rfl rfl rfl rfl (Nat.le_of_ble_eq_true rfl) (show (167068 : Nat) ≤ 167368 from Nat.le_of_ble_eq_true rfl) ?_
  show G (55, [some (.ref 13)], [.ref 19, .ref 13], (gSq_35, (gZr s5 19 1200), 167068))
  obtain ⟨s6, es6, hP⟩ := g_let hP
  rw [← es6]
  refine hG.2.2.1 _ (58, [some (.ref 13)], [], (gSq_36, s6, 167068)) _ rfl rfl (Nat.le_of_ble_eq_true rfl) (show (167068 : Nat) ≤ 167368 from Nat.le_of_ble_eq_true rfl) ?_
  refine gRunN_ok hG.1 2 _ (62, [some (.ref 13)], [.int 150, .ref 13], (gSq_36, s6, 167068)) rfl ?_
  refine g_na hG.2.2.1 (ty := .int) (N := 150) (k := 20) (sh' := gSq_37) (u' := 167218) (fun _ _ _ _ => rfl) rfl ⟨by decide, Nat.le_of_ble_eq_true rfl⟩ rfl rfl rfl rfl (Nat.le_of_ble_eq_true rfl) (show (167218 : Nat) ≤ 167368 from Nat.le_of_ble_eq_true rfl) ?_
  show G (64, [some (.ref 13)], [.ref 20, .ref 13], (gSq_37, (gZr s6 20 150), 167218))
  obtain ⟨s7, es7, hP⟩ := g_let hP
  rw [← es7]
  refine hG.2.2.1 _ (67, [some (.ref 13)], [], (gSq_38, s7, 167218)) _ rfl rfl (Nat.le_of_ble_eq_true rfl) (show (167218 : Nat) ≤ 167368 from Nat.le_of_ble_eq_true rfl) ?_
  refine gRunN_ok hG.1 2 _ (71, [some (.ref 13)], [.int 150, .ref 13], (gSq_38, s7, 167218)) rfl ?_
  refine g_na hG.2.2.1 (ty := .int) (N := 150) (k := 21) (sh' := gSq_39) (u' := 167368) (fun _ _ _ _ => rfl) rfl ⟨by decide, Nat.le_of_ble_eq_true rfl⟩ rfl rfl rfl rfl (Nat.le_of_ble_eq_true rfl) (show (167368 : Nat) ≤ 167368 from Nat.le_of_ble_eq_true rfl) ?_
  show G (73, [some (.ref 13)], [.ref 21, .ref 13], (gSq_39, (gZr s7 21 150), 167368))
  obtain ⟨s8, es8, hP⟩ := g_let hP
  rw [← es8]
  refine hG.2.2.1 _ (76, [some (.ref 13)], [], (gSq_40, s8, 167368)) _ rfl rfl (Nat.le_of_ble_eq_true rfl) (show (167368 : Nat) ≤ 167368 from Nat.le_of_ble_eq_true rfl) ?_
  cases hP
  exact hG.2.1 _ _ rfl rfl⟩
def p_Reader_init (E : gEv) (a2 : Int32) (σ : gS) : Option gS :=
  gLet (gZr σ 23 150) fun s1 => gLet (gZr s1 24 150) fun s2 => gLet (gZr s2 25 150) fun s3 => gLet (gZr s3 26 150) fun s4 => gLet (gZr s4 27 150) fun s5 => gLet (gZr s5 28 9) fun s6 => gLet (gPut s6 22 2 a2) fun s7 => if ¬ a2 < 0 ∧ a2.toNatClampNeg ≤ 20000 then gLet (gZr s7 29 a2.toNatClampNeg) fun s8 => some s8 else none
set_option maxRecDepth 20000 in
theorem c_Reader_init (E : gEv) (d : Nat) (a2 : Int32) (σ : gS) {sr : gS} (hq : p_Reader_init E a2 σ = some sr) : gC E gDf gMs (d + 1) 15 [.ref 22, .ref 10, .ref 13, .int a2] (gSq_42, σ, 167386) (none, (gSq_58, sr, 188145)) := ⟨gM15, rfl, Nat.le_of_ble_eq_true rfl, fun G hG => by
  have hP := hq
  unfold p_Reader_init at hP
  replace hG : gClo E gDf gP5i gY15 none (gC E gDf gMs (d + 0)) (none, (gSq_58, sr, 188145)) G := hG
  show G (0, [some (.ref 22), some (.ref 10), some (.ref 13), some (.int a2)], [], (gSq_42, σ, 167386))
  refine gRunN_ok hG.1 4 _ (8, [some (.ref 22), some (.ref 10), some (.ref 13), some (.int a2)], [.int 150, .ref 22], (gSq_42, σ, 167386)) rfl ?_
  refine g_na hG.2.2.1 (ty := .int) (N := 150) (k := 23) (sh' := gSq_43) (u' := 167536) (fun _ _ _ _ => rfl) rfl ⟨by decide, Nat.le_of_ble_eq_true rfl⟩ rfl rfl rfl rfl (Nat.le_of_ble_eq_true rfl) (show (167536 : Nat) ≤ 188145 from Nat.le_of_ble_eq_true rfl) ?_
  show G (10, [some (.ref 22), some (.ref 10), some (.ref 13), some (.int a2)], [.ref 23, .ref 22], (gSq_43, (gZr σ 23 150), 167536))
  obtain ⟨s1, es1, hP⟩ := g_let hP
  rw [← es1]
  refine hG.2.2.1 _ (13, [some (.ref 22), some (.ref 10), some (.ref 13), some (.int a2)], [], (gSq_44, s1, 167536)) _ rfl rfl (Nat.le_of_ble_eq_true rfl) (show (167536 : Nat) ≤ 188145 from Nat.le_of_ble_eq_true rfl) ?_
  refine gRunN_ok hG.1 2 _ (17, [some (.ref 22), some (.ref 10), some (.ref 13), some (.int a2)], [.int 150, .ref 22], (gSq_44, s1, 167536)) rfl ?_
  refine g_na hG.2.2.1 (ty := .int) (N := 150) (k := 24) (sh' := gSq_45) (u' := 167686) (fun _ _ _ _ => rfl) rfl ⟨by decide, Nat.le_of_ble_eq_true rfl⟩ rfl rfl rfl rfl (Nat.le_of_ble_eq_true rfl) (show (167686 : Nat) ≤ 188145 from Nat.le_of_ble_eq_true rfl) ?_
  show G (19, [some (.ref 22), some (.ref 10), some (.ref 13), some (.int a2)], [.ref 24, .ref 22], (gSq_45, (gZr s1 24 150), 167686))
  obtain ⟨s2, es2, hP⟩ := g_let hP
  rw [← es2]
  refine hG.2.2.1 _ (22, [some (.ref 22), some (.ref 10), some (.ref 13), some (.int a2)], [], (gSq_46, s2, 167686)) _ rfl rfl (Nat.le_of_ble_eq_true rfl) (show (167686 : Nat) ≤ 188145 from Nat.le_of_ble_eq_true rfl) ?_
  refine gRunN_ok hG.1 2 _ (26, [some (.ref 22), some (.ref 10), some (.ref 13), some (.int a2)], [.int 150, .ref 22], (gSq_46, s2, 167686)) rfl ?_
  refine g_na hG.2.2.1 (ty := .int) (N := 150) (k := 25) (sh' := gSq_47) (u' := 167836) (fun _ _ _ _ => rfl) rfl ⟨by decide, Nat.le_of_ble_eq_true rfl⟩ rfl rfl rfl rfl (Nat.le_of_ble_eq_true rfl) (show (167836 : Nat) ≤ 188145 from Nat.le_of_ble_eq_true rfl) ?_
  show G (28, [some (.ref 22), some (.ref 10), some (.ref 13), some (.int a2)], [.ref 25, .ref 22], (gSq_47, (gZr s2 25 150), 167836))
  obtain ⟨s3, es3, hP⟩ := g_let hP
  rw [← es3]
  refine hG.2.2.1 _ (31, [some (.ref 22), some (.ref 10), some (.ref 13), some (.int a2)], [], (gSq_48, s3, 167836)) _ rfl rfl (Nat.le_of_ble_eq_true rfl) (show (167836 : Nat) ≤ 188145 from Nat.le_of_ble_eq_true rfl) ?_
  refine gRunN_ok hG.1 2 _ (35, [some (.ref 22), some (.ref 10), some (.ref 13), some (.int a2)], [.int 150, .ref 22], (gSq_48, s3, 167836)) rfl ?_
  refine g_na hG.2.2.1 (ty := .int) (N := 150) (k := 26) (sh' := gSq_49) (u' := 167986) (fun _ _ _ _ => rfl) rfl ⟨by decide, Nat.le_of_ble_eq_true rfl⟩ rfl rfl rfl rfl (Nat.le_of_ble_eq_true rfl) (show (167986 : Nat) ≤ 188145 from Nat.le_of_ble_eq_true rfl) ?_
  show G (37, [some (.ref 22), some (.ref 10), some (.ref 13), some (.int a2)], [.ref 26, .ref 22], (gSq_49, (gZr s3 26 150), 167986))
  obtain ⟨s4, es4, hP⟩ := g_let hP
  rw [← es4]
  refine hG.2.2.1 _ (40, [some (.ref 22), some (.ref 10), some (.ref 13), some (.int a2)], [], (gSq_50, s4, 167986)) _ rfl rfl (Nat.le_of_ble_eq_true rfl) (show (167986 : Nat) ≤ 188145 from Nat.le_of_ble_eq_true rfl) ?_
  refine gRunN_ok hG.1 2 _ (44, [some (.ref 22), some (.ref 10), some (.ref 13), some (.int a2)], [.int 150, .ref 22], (gSq_50, s4, 167986)) rfl ?_
  refine g_na hG.2.2.1 (ty := .int) (N := 150) (k := 27) (sh' := gSq_51) (u' := 168136) (fun _ _ _ _ => rfl) rfl ⟨by decide, Nat.le_of_ble_eq_true rfl⟩ rfl rfl rfl rfl (Nat.le_of_ble_eq_true rfl) (show (168136 : Nat) ≤ 188145 from Nat.le_of_ble_eq_true rfl) ?_
  show G (46, [some (.ref 22), some (.ref 10), some (.ref 13), some (.int a2)], [.ref 27, .ref 22], (gSq_51, (gZr s4 27 150), 168136))
  obtain ⟨s5, es5, hP⟩ := g_let hP
  rw [← es5]
  refine hG.2.2.1 _ (49, [some (.ref 22), some (.ref 10), some (.ref 13), some (.int a2)], [], (gSq_52, s5, 168136)) _ rfl rfl (Nat.le_of_ble_eq_true rfl) (show (168136 : Nat) ≤ 188145 from Nat.le_of_ble_eq_true rfl) ?_
  refine gRunN_ok hG.1 2 _ (52, [some (.ref 22), some (.ref 10), some (.ref 13), some (.int a2)], [.int 9, .ref 22], (gSq_52, s5, 168136)) rfl ?_
  refine g_na hG.2.2.1 (ty := .int) (N := 9) (k := 28) (sh' := gSq_53) (u' := 168145) (fun _ _ _ _ => rfl) rfl ⟨by decide, Nat.le_of_ble_eq_true rfl⟩ rfl rfl rfl rfl (Nat.le_of_ble_eq_true rfl) (show (168145 : Nat) ≤ 188145 from Nat.le_of_ble_eq_true rfl) ?_
  show G (54, [some (.ref 22), some (.ref 10), some (.ref 13), some (.int a2)], [.ref 28, .ref 22], (gSq_53, (gZr s5 28 9), 168145))
  obtain ⟨s6, es6, hP⟩ := g_let hP
  rw [← es6]
  refine hG.2.2.1 _ (57, [some (.ref 22), some (.ref 10), some (.ref 13), some (.int a2)], [], (gSq_54, s6, 168145)) _ rfl rfl (Nat.le_of_ble_eq_true rfl) (show (168145 : Nat) ≤ 188145 from Nat.le_of_ble_eq_true rfl) ?_
  refine gRunN_ok hG.1 2 _ (59, [some (.ref 22), some (.ref 10), some (.ref 13), some (.int a2)], [.ref 10, .ref 22], (gSq_54, s6, 168145)) rfl ?_
  refine hG.2.2.1 _ (62, [some (.ref 22), some (.ref 10), some (.ref 13), some (.int a2)], [], (gSq_55, s6, 168145)) _ rfl rfl (Nat.le_of_ble_eq_true rfl) (show (168145 : Nat) ≤ 188145 from Nat.le_of_ble_eq_true rfl) ?_
  refine gRunN_ok hG.1 2 _ (64, [some (.ref 22), some (.ref 10), some (.ref 13), some (.int a2)], [.ref 13, .ref 22], (gSq_55, s6, 168145)) rfl ?_
  refine hG.2.2.1 _ (67, [some (.ref 22), some (.ref 10), some (.ref 13), some (.int a2)], [], (gSq_56, s6, 168145)) _ rfl rfl (Nat.le_of_ble_eq_true rfl) (show (168145 : Nat) ≤ 188145 from Nat.le_of_ble_eq_true rfl) ?_
  refine gRunN_ok hG.1 3 _ (72, [some (.ref 22), some (.ref 10), some (.ref 13), some (.int a2)], [], (gSq_56, (gPut s6 22 2 a2), 168145)) rfl ?_
  obtain ⟨s7, es7, hP⟩ := g_let hP
  rw [← es7]
  refine gRunN_ok hG.1 2 _ (74, [some (.ref 22), some (.ref 10), some (.ref 13), some (.int a2)], [.int a2, .ref 22], (gSq_56, s7, 168145)) rfl ?_
  obtain ⟨hc, hP⟩ := g_if hP
  refine hG.2.2.1 _ (76, [some (.ref 22), some (.ref 10), some (.ref 13), some (.int a2)], [.ref 29, .ref 22], (gSq_57, (gZr s7 29 a2.toNatClampNeg), (168145 + a2.toNatClampNeg))) _ rfl (if_pos ⟨hc.1, Nat.le_trans hc.2 (by decide)⟩) (Nat.le_of_ble_eq_true rfl) (Nat.le_trans (Nat.add_le_add_left hc.2 168145) (show (168145 + 20000 : Nat) ≤ 188145 from Nat.le_of_ble_eq_true rfl)) ?_
  refine hG.2.2.2.2.2.1 _ _ _ _ _ _ 188145 (Nat.add_le_add_left hc.2 168145) (show (188145 : Nat) ≤ 188145 from Nat.le_of_ble_eq_true rfl) ?_
  obtain ⟨s8, es8, hP⟩ := g_let hP
  rw [← es8]
  refine hG.2.2.1 _ (79, [some (.ref 22), some (.ref 10), some (.ref 13), some (.int a2)], [], (gSq_58, s8, 188145)) _ rfl rfl (Nat.le_of_ble_eq_true rfl) (show (188145 : Nat) ≤ 188145 from Nat.le_of_ble_eq_true rfl) ?_
  cases hP
  exact hG.2.1 _ _ rfl rfl⟩
def p_Circuit_init (E : gEv) (a0 : Int32) (a1 : Int32) (σ : gS) : Option gS :=
  gLet (gZr σ 31 150) fun s1 => gLet (gZr s1 32 150) fun s2 => gLet (gZr s2 33 150) fun s3 => gLet (gZr s3 34 150) fun s4 => gLet (gPut s4 30 0 a0) fun s5 => if ¬ (a0 * (4 : Int32)) < 0 ∧ (a0 * (4 : Int32)).toNatClampNeg ≤ 20000 then gLet (gZr s5 35 (a0 * (4 : Int32)).toNatClampNeg) fun s6 => if ¬ a0 < 0 ∧ a0.toNatClampNeg ≤ 20000 then gLet (gZr s6 36 a0.toNatClampNeg) fun s7 => if ¬ a0 < 0 ∧ a0.toNatClampNeg ≤ 20000 then gLet (gZr s7 37 a0.toNatClampNeg) fun s8 => if ¬ a1 < 0 ∧ a1.toNatClampNeg ≤ 20000 then gLet (gZr s8 38 a1.toNatClampNeg) fun s9 => if ¬ a1 < 0 ∧ a1.toNatClampNeg ≤ 20000 then gLet (gZr s9 39 a1.toNatClampNeg) fun s10 => some s10 else none else none else none else none else none
set_option maxRecDepth 20000 in
theorem c_Circuit_init (E : gEv) (d : Nat) (a0 : Int32) (a1 : Int32) (σ : gS) {sr : gS} (hq : p_Circuit_init E a0 a1 σ = some sr) : gC E gDf gMs (d + 1) 16 [.ref 30, .int a0, .int a1] (gSq_60, σ, 188161) (none, (gSq_78, sr, 288761)) := ⟨gM16, rfl, Nat.le_of_ble_eq_true rfl, fun G hG => by
  have hP := hq
  unfold p_Circuit_init at hP
  replace hG : gClo E gDf gP6i gY16 none (gC E gDf gMs (d + 0)) (none, (gSq_78, sr, 288761)) G := hG
  show G (0, [some (.ref 30), some (.int a0), some (.int a1)], [], (gSq_60, σ, 188161))
  refine gRunN_ok hG.1 4 _ (8, [some (.ref 30), some (.int a0), some (.int a1)], [.int 150, .ref 30], (gSq_60, σ, 188161)) rfl ?_
  refine g_na hG.2.2.1 (ty := .int) (N := 150) (k := 31) (sh' := gSq_61) (u' := 188311) (fun _ _ _ _ => rfl) rfl ⟨by decide, Nat.le_of_ble_eq_true rfl⟩ rfl rfl rfl rfl (Nat.le_of_ble_eq_true rfl) (show (188311 : Nat) ≤ 288761 from Nat.le_of_ble_eq_true rfl) ?_
  show G (10, [some (.ref 30), some (.int a0), some (.int a1)], [.ref 31, .ref 30], (gSq_61, (gZr σ 31 150), 188311))
  obtain ⟨s1, es1, hP⟩ := g_let hP
  rw [← es1]
  refine hG.2.2.1 _ (13, [some (.ref 30), some (.int a0), some (.int a1)], [], (gSq_62, s1, 188311)) _ rfl rfl (Nat.le_of_ble_eq_true rfl) (show (188311 : Nat) ≤ 288761 from Nat.le_of_ble_eq_true rfl) ?_
  refine gRunN_ok hG.1 2 _ (17, [some (.ref 30), some (.int a0), some (.int a1)], [.int 150, .ref 30], (gSq_62, s1, 188311)) rfl ?_
  refine g_na hG.2.2.1 (ty := .int) (N := 150) (k := 32) (sh' := gSq_63) (u' := 188461) (fun _ _ _ _ => rfl) rfl ⟨by decide, Nat.le_of_ble_eq_true rfl⟩ rfl rfl rfl rfl (Nat.le_of_ble_eq_true rfl) (show (188461 : Nat) ≤ 288761 from Nat.le_of_ble_eq_true rfl) ?_
  show G (19, [some (.ref 30), some (.int a0), some (.int a1)], [.ref 32, .ref 30], (gSq_63, (gZr s1 32 150), 188461))
  obtain ⟨s2, es2, hP⟩ := g_let hP
  rw [← es2]
  refine hG.2.2.1 _ (22, [some (.ref 30), some (.int a0), some (.int a1)], [], (gSq_64, s2, 188461)) _ rfl rfl (Nat.le_of_ble_eq_true rfl) (show (188461 : Nat) ≤ 288761 from Nat.le_of_ble_eq_true rfl) ?_
  refine gRunN_ok hG.1 2 _ (26, [some (.ref 30), some (.int a0), some (.int a1)], [.int 150, .ref 30], (gSq_64, s2, 188461)) rfl ?_
  refine g_na hG.2.2.1 (ty := .int) (N := 150) (k := 33) (sh' := gSq_65) (u' := 188611) (fun _ _ _ _ => rfl) rfl ⟨by decide, Nat.le_of_ble_eq_true rfl⟩ rfl rfl rfl rfl (Nat.le_of_ble_eq_true rfl) (show (188611 : Nat) ≤ 288761 from Nat.le_of_ble_eq_true rfl) ?_
  show G (28, [some (.ref 30), some (.int a0), some (.int a1)], [.ref 33, .ref 30], (gSq_65, (gZr s2 33 150), 188611))
  obtain ⟨s3, es3, hP⟩ := g_let hP
  rw [← es3]
  refine hG.2.2.1 _ (31, [some (.ref 30), some (.int a0), some (.int a1)], [], (gSq_66, s3, 188611)) _ rfl rfl (Nat.le_of_ble_eq_true rfl) (show (188611 : Nat) ≤ 288761 from Nat.le_of_ble_eq_true rfl) ?_
  refine gRunN_ok hG.1 2 _ (35, [some (.ref 30), some (.int a0), some (.int a1)], [.int 150, .ref 30], (gSq_66, s3, 188611)) rfl ?_
  refine g_na hG.2.2.1 (ty := .int) (N := 150) (k := 34) (sh' := gSq_67) (u' := 188761) (fun _ _ _ _ => rfl) rfl ⟨by decide, Nat.le_of_ble_eq_true rfl⟩ rfl rfl rfl rfl (Nat.le_of_ble_eq_true rfl) (show (188761 : Nat) ≤ 288761 from Nat.le_of_ble_eq_true rfl) ?_
  show G (37, [some (.ref 30), some (.int a0), some (.int a1)], [.ref 34, .ref 30], (gSq_67, (gZr s3 34 150), 188761))
  obtain ⟨s4, es4, hP⟩ := g_let hP
  rw [← es4]
  refine hG.2.2.1 _ (40, [some (.ref 30), some (.int a0), some (.int a1)], [], (gSq_68, s4, 188761)) _ rfl rfl (Nat.le_of_ble_eq_true rfl) (show (188761 : Nat) ≤ 288761 from Nat.le_of_ble_eq_true rfl) ?_
  refine gRunN_ok hG.1 3 _ (45, [some (.ref 30), some (.int a0), some (.int a1)], [], (gSq_68, (gPut s4 30 0 a0), 188761)) rfl ?_
  obtain ⟨s5, es5, hP⟩ := g_let hP
  rw [← es5]
  refine gRunN_ok hG.1 4 _ (49, [some (.ref 30), some (.int a0), some (.int a1)], [.int (a0 * (4 : Int32)), .ref 30], (gSq_68, s5, 188761)) rfl ?_
  obtain ⟨hc, hP⟩ := g_if hP
  refine hG.2.2.1 _ (51, [some (.ref 30), some (.int a0), some (.int a1)], [.ref 35, .ref 30], (gSq_69, (gZr s5 35 (a0 * (4 : Int32)).toNatClampNeg), (188761 + (a0 * (4 : Int32)).toNatClampNeg))) _ rfl (if_pos ⟨hc.1, Nat.le_trans hc.2 (by decide)⟩) (Nat.le_of_ble_eq_true rfl) (Nat.le_trans (Nat.add_le_add_left hc.2 188761) (show (188761 + 20000 : Nat) ≤ 288761 from Nat.le_of_ble_eq_true rfl)) ?_
  refine hG.2.2.2.2.2.1 _ _ _ _ _ _ 208761 (Nat.add_le_add_left hc.2 188761) (show (208761 : Nat) ≤ 288761 from Nat.le_of_ble_eq_true rfl) ?_
  obtain ⟨s6, es6, hP⟩ := g_let hP
  rw [← es6]
  refine hG.2.2.1 _ (54, [some (.ref 30), some (.int a0), some (.int a1)], [], (gSq_70, s6, 208761)) _ rfl rfl (Nat.le_of_ble_eq_true rfl) (show (208761 : Nat) ≤ 288761 from Nat.le_of_ble_eq_true rfl) ?_
  refine gRunN_ok hG.1 2 _ (56, [some (.ref 30), some (.int a0), some (.int a1)], [.int a0, .ref 30], (gSq_70, s6, 208761)) rfl ?_
  obtain ⟨hc, hP⟩ := g_if hP
  refine hG.2.2.1 _ (58, [some (.ref 30), some (.int a0), some (.int a1)], [.ref 36, .ref 30], (gSq_71, (gZr s6 36 a0.toNatClampNeg), (208761 + a0.toNatClampNeg))) _ rfl (if_pos ⟨hc.1, Nat.le_trans hc.2 (by decide)⟩) (Nat.le_of_ble_eq_true rfl) (Nat.le_trans (Nat.add_le_add_left hc.2 208761) (show (208761 + 20000 : Nat) ≤ 288761 from Nat.le_of_ble_eq_true rfl)) ?_
  refine hG.2.2.2.2.2.1 _ _ _ _ _ _ 228761 (Nat.add_le_add_left hc.2 208761) (show (228761 : Nat) ≤ 288761 from Nat.le_of_ble_eq_true rfl) ?_
  obtain ⟨s7, es7, hP⟩ := g_let hP
  rw [← es7]
  refine hG.2.2.1 _ (61, [some (.ref 30), some (.int a0), some (.int a1)], [], (gSq_72, s7, 228761)) _ rfl rfl (Nat.le_of_ble_eq_true rfl) (show (228761 : Nat) ≤ 288761 from Nat.le_of_ble_eq_true rfl) ?_
  refine gRunN_ok hG.1 2 _ (63, [some (.ref 30), some (.int a0), some (.int a1)], [.int a0, .ref 30], (gSq_72, s7, 228761)) rfl ?_
  obtain ⟨hc, hP⟩ := g_if hP
  refine hG.2.2.1 _ (65, [some (.ref 30), some (.int a0), some (.int a1)], [.ref 37, .ref 30], (gSq_73, (gZr s7 37 a0.toNatClampNeg), (228761 + a0.toNatClampNeg))) _ rfl (if_pos ⟨hc.1, Nat.le_trans hc.2 (by decide)⟩) (Nat.le_of_ble_eq_true rfl) (Nat.le_trans (Nat.add_le_add_left hc.2 228761) (show (228761 + 20000 : Nat) ≤ 288761 from Nat.le_of_ble_eq_true rfl)) ?_
  refine hG.2.2.2.2.2.1 _ _ _ _ _ _ 248761 (Nat.add_le_add_left hc.2 228761) (show (248761 : Nat) ≤ 288761 from Nat.le_of_ble_eq_true rfl) ?_
  obtain ⟨s8, es8, hP⟩ := g_let hP
  rw [← es8]
  refine hG.2.2.1 _ (68, [some (.ref 30), some (.int a0), some (.int a1)], [], (gSq_74, s8, 248761)) _ rfl rfl (Nat.le_of_ble_eq_true rfl) (show (248761 : Nat) ≤ 288761 from Nat.le_of_ble_eq_true rfl) ?_
  refine gRunN_ok hG.1 2 _ (70, [some (.ref 30), some (.int a0), some (.int a1)], [.int a1, .ref 30], (gSq_74, s8, 248761)) rfl ?_
  obtain ⟨hc, hP⟩ := g_if hP
  refine hG.2.2.1 _ (72, [some (.ref 30), some (.int a0), some (.int a1)], [.ref 38, .ref 30], (gSq_75, (gZr s8 38 a1.toNatClampNeg), (248761 + a1.toNatClampNeg))) _ rfl (if_pos ⟨hc.1, Nat.le_trans hc.2 (by decide)⟩) (Nat.le_of_ble_eq_true rfl) (Nat.le_trans (Nat.add_le_add_left hc.2 248761) (show (248761 + 20000 : Nat) ≤ 288761 from Nat.le_of_ble_eq_true rfl)) ?_
  refine hG.2.2.2.2.2.1 _ _ _ _ _ _ 268761 (Nat.add_le_add_left hc.2 248761) (show (268761 : Nat) ≤ 288761 from Nat.le_of_ble_eq_true rfl) ?_
  obtain ⟨s9, es9, hP⟩ := g_let hP
  rw [← es9]
  refine hG.2.2.1 _ (75, [some (.ref 30), some (.int a0), some (.int a1)], [], (gSq_76, s9, 268761)) _ rfl rfl (Nat.le_of_ble_eq_true rfl) (show (268761 : Nat) ≤ 288761 from Nat.le_of_ble_eq_true rfl) ?_
  refine gRunN_ok hG.1 2 _ (77, [some (.ref 30), some (.int a0), some (.int a1)], [.int a1, .ref 30], (gSq_76, s9, 268761)) rfl ?_
  obtain ⟨hc, hP⟩ := g_if hP
  refine hG.2.2.1 _ (79, [some (.ref 30), some (.int a0), some (.int a1)], [.ref 39, .ref 30], (gSq_77, (gZr s9 39 a1.toNatClampNeg), (268761 + a1.toNatClampNeg))) _ rfl (if_pos ⟨hc.1, Nat.le_trans hc.2 (by decide)⟩) (Nat.le_of_ble_eq_true rfl) (Nat.le_trans (Nat.add_le_add_left hc.2 268761) (show (268761 + 20000 : Nat) ≤ 288761 from Nat.le_of_ble_eq_true rfl)) ?_
  refine hG.2.2.2.2.2.1 _ _ _ _ _ _ 288761 (Nat.add_le_add_left hc.2 268761) (show (288761 : Nat) ≤ 288761 from Nat.le_of_ble_eq_true rfl) ?_
  obtain ⟨s10, es10, hP⟩ := g_let hP
  rw [← es10]
  refine hG.2.2.1 _ (82, [some (.ref 30), some (.int a0), some (.int a1)], [], (gSq_78, s10, 288761)) _ rfl rfl (Nat.le_of_ble_eq_true rfl) (show (288761 : Nat) ≤ 288761 from Nat.le_of_ble_eq_true rfl) ?_
  cases hP
  exact hG.2.1 _ _ rfl rfl⟩
def p_Mapper_init (E : gEv) (σ : gS) : Option gS :=
  gLet (gZm σ 41 5 256) fun s1 => gLet (gZm s1 47 5 8) fun s2 => some s2
set_option maxRecDepth 20000 in
theorem c_Mapper_init (E : gEv) (d : Nat) (σ : gS) {sr : gS} (hq : p_Mapper_init E σ = some sr) : gC E gDf gMs (d + 1) 17 [.ref 40, .ref 30] (gSq_80, σ, 288764) (none, (gSq_85, sr, 290094)) := ⟨gM17, rfl, Nat.le_of_ble_eq_true rfl, fun G hG => by
  have hP := hq
  unfold p_Mapper_init at hP
  replace hG : gClo E gDf gP7i gY17 none (gC E gDf gMs (d + 0)) (none, (gSq_85, sr, 290094)) G := hG
  show G (0, [some (.ref 40), some (.ref 30)], [], (gSq_80, σ, 288764))
  refine gRunN_ok hG.1 5 _ (9, [some (.ref 40), some (.ref 30)], [.int 256, .int 5, .ref 40], (gSq_80, σ, 288764)) rfl ?_
  refine hG.2.2.1 _ (13, [some (.ref 40), some (.ref 30)], [.ref 41, .ref 40], (gSq_81, (gZm σ 41 5 256), 290049)) _ rfl rfl (Nat.le_of_ble_eq_true rfl) (show (290049 : Nat) ≤ 290094 from Nat.le_of_ble_eq_true rfl) ?_
  obtain ⟨s1, es1, hP⟩ := g_let hP
  rw [← es1]
  refine hG.2.2.1 _ (16, [some (.ref 40), some (.ref 30)], [], (gSq_82, s1, 290049)) _ rfl rfl (Nat.le_of_ble_eq_true rfl) (show (290049 : Nat) ≤ 290094 from Nat.le_of_ble_eq_true rfl) ?_
  refine gRunN_ok hG.1 3 _ (20, [some (.ref 40), some (.ref 30)], [.int 8, .int 5, .ref 40], (gSq_82, s1, 290049)) rfl ?_
  refine hG.2.2.1 _ (24, [some (.ref 40), some (.ref 30)], [.ref 47, .ref 40], (gSq_83, (gZm s1 47 5 8), 290094)) _ rfl rfl (Nat.le_of_ble_eq_true rfl) (show (290094 : Nat) ≤ 290094 from Nat.le_of_ble_eq_true rfl) ?_
  obtain ⟨s2, es2, hP⟩ := g_let hP
  rw [← es2]
  refine hG.2.2.1 _ (27, [some (.ref 40), some (.ref 30)], [], (gSq_84, s2, 290094)) _ rfl rfl (Nat.le_of_ble_eq_true rfl) (show (290094 : Nat) ≤ 290094 from Nat.le_of_ble_eq_true rfl) ?_
  refine gRunN_ok hG.1 2 _ (29, [some (.ref 40), some (.ref 30)], [.ref 30, .ref 40], (gSq_84, s2, 290094)) rfl ?_
  refine hG.2.2.1 _ (32, [some (.ref 40), some (.ref 30)], [], (gSq_85, s2, 290094)) _ rfl rfl (Nat.le_of_ble_eq_true rfl) (show (290094 : Nat) ≤ 290094 from Nat.le_of_ble_eq_true rfl) ?_
  cases hP
  exact hG.2.1 _ _ rfl rfl⟩
def p_Packing_init (E : gEv) (σ : gS) : Option gS :=
  gLet (gZr σ 54 150) fun s1 => gLet (s1.1 1 6) fun x2 => gLet ((s1.1 1 5) + x2) fun x3 => gLet ((x2 * (4 : Int32)) + (s1.1 1 5)) fun x4 => if ¬ x2 < 0 ∧ x2.toNatClampNeg ≤ 20000 then gLet (gZr s1 55 x2.toNatClampNeg) fun s5 => if ¬ x2 < 0 ∧ x2.toNatClampNeg ≤ 20000 then gLet (gZr s5 56 x2.toNatClampNeg) fun s6 => if ¬ x2 < 0 ∧ x2.toNatClampNeg ≤ 20000 then gLet (gZr s6 57 x2.toNatClampNeg) fun s7 => if ¬ ((400 : Int32) + x2) < 0 ∧ ((400 : Int32) + x2).toNatClampNeg ≤ 20000 then gLet (gZr s7 58 ((400 : Int32) + x2).toNatClampNeg) fun s8 => if ¬ ((400 : Int32) + x2) < 0 ∧ ((400 : Int32) + x2).toNatClampNeg ≤ 20000 then gLet (gZr s8 59 ((400 : Int32) + x2).toNatClampNeg) fun s9 => if ¬ x3 < 0 ∧ x3.toNatClampNeg ≤ 20000 then gLet (gZr s9 60 x3.toNatClampNeg) fun s10 => if ¬ x3 < 0 ∧ x3.toNatClampNeg ≤ 20000 then gLet (gZr s10 61 x3.toNatClampNeg) fun s11 => if ¬ (x3 + (1 : Int32)) < 0 ∧ (x3 + (1 : Int32)).toNatClampNeg ≤ 20000 then gLet (gZr s11 62 (x3 + (1 : Int32)).toNatClampNeg) fun s12 => if ¬ x4 < 0 ∧ x4.toNatClampNeg ≤ 20000 then gLet (gZr s12 63 x4.toNatClampNeg) fun s13 => if ¬ x4 < 0 ∧ x4.toNatClampNeg ≤ 20000 then gLet (gZr s13 64 x4.toNatClampNeg) fun s14 => if ¬ (x2 * (5 : Int32)) < 0 ∧ (x2 * (5 : Int32)).toNatClampNeg ≤ 20000 then gLet (gZr s14 65 (x2 * (5 : Int32)).toNatClampNeg) fun s15 => if ¬ x3 < 0 ∧ x3.toNatClampNeg ≤ 20000 then gLet (gZr s15 66 x3.toNatClampNeg) fun s16 => some s16 else none else none else none else none else none else none else none else none else none else none else none else none
set_option maxRecDepth 20000 in
theorem c_Packing_init (E : gEv) (d : Nat) (σ : gS) {sr : gS} (hq : p_Packing_init E σ = some sr) : gC E gDf gMs (d + 1) 18 [.ref 53, .ref 1, .ref 30] (gSq_87, σ, 290112) (none, (gSq_115, sr, 530262)) := ⟨gM18, rfl, Nat.le_of_ble_eq_true rfl, fun G hG => by
  have hP := hq
  unfold p_Packing_init at hP
  replace hG : gClo E gDf gP8i gY18 none (gC E gDf gMs (d + 0)) (none, (gSq_115, sr, 530262)) G := hG
  show G (0, [some (.ref 53), some (.ref 1), some (.ref 30), none, none, none], [], (gSq_87, σ, 290112))
  refine gRunN_ok hG.1 4 _ (8, [some (.ref 53), some (.ref 1), some (.ref 30), none, none, none], [.int 150, .ref 53], (gSq_87, σ, 290112)) rfl ?_
  refine g_na hG.2.2.1 (ty := .int) (N := 150) (k := 54) (sh' := gSq_88) (u' := 290262) (fun _ _ _ _ => rfl) rfl ⟨by decide, Nat.le_of_ble_eq_true rfl⟩ rfl rfl rfl rfl (Nat.le_of_ble_eq_true rfl) (show (290262 : Nat) ≤ 530262 from Nat.le_of_ble_eq_true rfl) ?_
  show G (10, [some (.ref 53), some (.ref 1), some (.ref 30), none, none, none], [.ref 54, .ref 53], (gSq_88, (gZr σ 54 150), 290262))
  obtain ⟨s1, es1, hP⟩ := g_let hP
  rw [← es1]
  refine hG.2.2.1 _ (13, [some (.ref 53), some (.ref 1), some (.ref 30), none, none, none], [], (gSq_89, s1, 290262)) _ rfl rfl (Nat.le_of_ble_eq_true rfl) (show (290262 : Nat) ≤ 530262 from Nat.le_of_ble_eq_true rfl) ?_
  refine gRunN_ok hG.1 2 _ (15, [some (.ref 53), some (.ref 1), some (.ref 30), none, none, none], [.ref 1, .ref 53], (gSq_89, s1, 290262)) rfl ?_
  refine hG.2.2.1 _ (18, [some (.ref 53), some (.ref 1), some (.ref 30), none, none, none], [], (gSq_90, s1, 290262)) _ rfl rfl (Nat.le_of_ble_eq_true rfl) (show (290262 : Nat) ≤ 530262 from Nat.le_of_ble_eq_true rfl) ?_
  refine gRunN_ok hG.1 2 _ (20, [some (.ref 53), some (.ref 1), some (.ref 30), none, none, none], [.ref 30, .ref 53], (gSq_90, s1, 290262)) rfl ?_
  refine hG.2.2.1 _ (23, [some (.ref 53), some (.ref 1), some (.ref 30), none, none, none], [], (gSq_91, s1, 290262)) _ rfl rfl (Nat.le_of_ble_eq_true rfl) (show (290262 : Nat) ≤ 530262 from Nat.le_of_ble_eq_true rfl) ?_
  refine gRunN_ok hG.1 3 _ (28, [some (.ref 53), some (.ref 1), some (.ref 30), some (.int (s1.1 1 6)), none, none], [], (gSq_91, s1, 290262)) rfl ?_
  obtain ⟨x2, ex2, hP⟩ := g_let hP
  rw [← ex2]
  refine gRunN_ok hG.1 5 _ (36, [some (.ref 53), some (.ref 1), some (.ref 30), some (.int x2), some (.int ((s1.1 1 5) + x2)), none], [], (gSq_91, s1, 290262)) rfl ?_
  obtain ⟨x3, ex3, hP⟩ := g_let hP
  rw [← ex3]
  refine gRunN_ok hG.1 7 _ (46, [some (.ref 53), some (.ref 1), some (.ref 30), some (.int x2), some (.int x3), some (.int ((x2 * (4 : Int32)) + (s1.1 1 5)))], [], (gSq_91, s1, 290262)) rfl ?_
  obtain ⟨x4, ex4, hP⟩ := g_let hP
  rw [← ex4]
  refine gRunN_ok hG.1 2 _ (48, [some (.ref 53), some (.ref 1), some (.ref 30), some (.int x2), some (.int x3), some (.int x4)], [.int x2, .ref 53], (gSq_91, s1, 290262)) rfl ?_
  obtain ⟨hc, hP⟩ := g_if hP
  refine hG.2.2.1 _ (50, [some (.ref 53), some (.ref 1), some (.ref 30), some (.int x2), some (.int x3), some (.int x4)], [.ref 55, .ref 53], (gSq_92, (gZr s1 55 x2.toNatClampNeg), (290262 + x2.toNatClampNeg))) _ rfl (if_pos ⟨hc.1, Nat.le_trans hc.2 (by decide)⟩) (Nat.le_of_ble_eq_true rfl) (Nat.le_trans (Nat.add_le_add_left hc.2 290262) (show (290262 + 20000 : Nat) ≤ 530262 from Nat.le_of_ble_eq_true rfl)) ?_
  refine hG.2.2.2.2.2.1 _ _ _ _ _ _ 310262 (Nat.add_le_add_left hc.2 290262) (show (310262 : Nat) ≤ 530262 from Nat.le_of_ble_eq_true rfl) ?_
  obtain ⟨s5, es5, hP⟩ := g_let hP
  rw [← es5]
  refine hG.2.2.1 _ (53, [some (.ref 53), some (.ref 1), some (.ref 30), some (.int x2), some (.int x3), some (.int x4)], [], (gSq_93, s5, 310262)) _ rfl rfl (Nat.le_of_ble_eq_true rfl) (show (310262 : Nat) ≤ 530262 from Nat.le_of_ble_eq_true rfl) ?_
  refine gRunN_ok hG.1 2 _ (55, [some (.ref 53), some (.ref 1), some (.ref 30), some (.int x2), some (.int x3), some (.int x4)], [.int x2, .ref 53], (gSq_93, s5, 310262)) rfl ?_
  obtain ⟨hc, hP⟩ := g_if hP
  refine hG.2.2.1 _ (57, [some (.ref 53), some (.ref 1), some (.ref 30), some (.int x2), some (.int x3), some (.int x4)], [.ref 56, .ref 53], (gSq_94, (gZr s5 56 x2.toNatClampNeg), (310262 + x2.toNatClampNeg))) _ rfl (if_pos ⟨hc.1, Nat.le_trans hc.2 (by decide)⟩) (Nat.le_of_ble_eq_true rfl) (Nat.le_trans (Nat.add_le_add_left hc.2 310262) (show (310262 + 20000 : Nat) ≤ 530262 from Nat.le_of_ble_eq_true rfl)) ?_
  refine hG.2.2.2.2.2.1 _ _ _ _ _ _ 330262 (Nat.add_le_add_left hc.2 310262) (show (330262 : Nat) ≤ 530262 from Nat.le_of_ble_eq_true rfl) ?_
  obtain ⟨s6, es6, hP⟩ := g_let hP
  rw [← es6]
  refine hG.2.2.1 _ (60, [some (.ref 53), some (.ref 1), some (.ref 30), some (.int x2), some (.int x3), some (.int x4)], [], (gSq_95, s6, 330262)) _ rfl rfl (Nat.le_of_ble_eq_true rfl) (show (330262 : Nat) ≤ 530262 from Nat.le_of_ble_eq_true rfl) ?_
  refine gRunN_ok hG.1 2 _ (62, [some (.ref 53), some (.ref 1), some (.ref 30), some (.int x2), some (.int x3), some (.int x4)], [.int x2, .ref 53], (gSq_95, s6, 330262)) rfl ?_
  obtain ⟨hc, hP⟩ := g_if hP
  refine hG.2.2.1 _ (64, [some (.ref 53), some (.ref 1), some (.ref 30), some (.int x2), some (.int x3), some (.int x4)], [.ref 57, .ref 53], (gSq_96, (gZr s6 57 x2.toNatClampNeg), (330262 + x2.toNatClampNeg))) _ rfl (if_pos ⟨hc.1, Nat.le_trans hc.2 (by decide)⟩) (Nat.le_of_ble_eq_true rfl) (Nat.le_trans (Nat.add_le_add_left hc.2 330262) (show (330262 + 20000 : Nat) ≤ 530262 from Nat.le_of_ble_eq_true rfl)) ?_
  refine hG.2.2.2.2.2.1 _ _ _ _ _ _ 350262 (Nat.add_le_add_left hc.2 330262) (show (350262 : Nat) ≤ 530262 from Nat.le_of_ble_eq_true rfl) ?_
  obtain ⟨s7, es7, hP⟩ := g_let hP
  rw [← es7]
  refine hG.2.2.1 _ (67, [some (.ref 53), some (.ref 1), some (.ref 30), some (.int x2), some (.int x3), some (.int x4)], [], (gSq_97, s7, 350262)) _ rfl rfl (Nat.le_of_ble_eq_true rfl) (show (350262 : Nat) ≤ 530262 from Nat.le_of_ble_eq_true rfl) ?_
  refine gRunN_ok hG.1 4 _ (73, [some (.ref 53), some (.ref 1), some (.ref 30), some (.int x2), some (.int x3), some (.int x4)], [.int ((400 : Int32) + x2), .ref 53], (gSq_97, s7, 350262)) rfl ?_
  obtain ⟨hc, hP⟩ := g_if hP
  refine hG.2.2.1 _ (75, [some (.ref 53), some (.ref 1), some (.ref 30), some (.int x2), some (.int x3), some (.int x4)], [.ref 58, .ref 53], (gSq_98, (gZr s7 58 ((400 : Int32) + x2).toNatClampNeg), (350262 + ((400 : Int32) + x2).toNatClampNeg))) _ rfl (if_pos ⟨hc.1, Nat.le_trans hc.2 (by decide)⟩) (Nat.le_of_ble_eq_true rfl) (Nat.le_trans (Nat.add_le_add_left hc.2 350262) (show (350262 + 20000 : Nat) ≤ 530262 from Nat.le_of_ble_eq_true rfl)) ?_
  refine hG.2.2.2.2.2.1 _ _ _ _ _ _ 370262 (Nat.add_le_add_left hc.2 350262) (show (370262 : Nat) ≤ 530262 from Nat.le_of_ble_eq_true rfl) ?_
  obtain ⟨s8, es8, hP⟩ := g_let hP
  rw [← es8]
  refine hG.2.2.1 _ (78, [some (.ref 53), some (.ref 1), some (.ref 30), some (.int x2), some (.int x3), some (.int x4)], [], (gSq_99, s8, 370262)) _ rfl rfl (Nat.le_of_ble_eq_true rfl) (show (370262 : Nat) ≤ 530262 from Nat.le_of_ble_eq_true rfl) ?_
  refine gRunN_ok hG.1 4 _ (84, [some (.ref 53), some (.ref 1), some (.ref 30), some (.int x2), some (.int x3), some (.int x4)], [.int ((400 : Int32) + x2), .ref 53], (gSq_99, s8, 370262)) rfl ?_
  obtain ⟨hc, hP⟩ := g_if hP
  refine hG.2.2.1 _ (86, [some (.ref 53), some (.ref 1), some (.ref 30), some (.int x2), some (.int x3), some (.int x4)], [.ref 59, .ref 53], (gSq_100, (gZr s8 59 ((400 : Int32) + x2).toNatClampNeg), (370262 + ((400 : Int32) + x2).toNatClampNeg))) _ rfl (if_pos ⟨hc.1, Nat.le_trans hc.2 (by decide)⟩) (Nat.le_of_ble_eq_true rfl) (Nat.le_trans (Nat.add_le_add_left hc.2 370262) (show (370262 + 20000 : Nat) ≤ 530262 from Nat.le_of_ble_eq_true rfl)) ?_
  refine hG.2.2.2.2.2.1 _ _ _ _ _ _ 390262 (Nat.add_le_add_left hc.2 370262) (show (390262 : Nat) ≤ 530262 from Nat.le_of_ble_eq_true rfl) ?_
  obtain ⟨s9, es9, hP⟩ := g_let hP
  rw [← es9]
  refine hG.2.2.1 _ (89, [some (.ref 53), some (.ref 1), some (.ref 30), some (.int x2), some (.int x3), some (.int x4)], [], (gSq_101, s9, 390262)) _ rfl rfl (Nat.le_of_ble_eq_true rfl) (show (390262 : Nat) ≤ 530262 from Nat.le_of_ble_eq_true rfl) ?_
  refine gRunN_ok hG.1 2 _ (92, [some (.ref 53), some (.ref 1), some (.ref 30), some (.int x2), some (.int x3), some (.int x4)], [.int x3, .ref 53], (gSq_101, s9, 390262)) rfl ?_
  obtain ⟨hc, hP⟩ := g_if hP
  refine hG.2.2.1 _ (94, [some (.ref 53), some (.ref 1), some (.ref 30), some (.int x2), some (.int x3), some (.int x4)], [.ref 60, .ref 53], (gSq_102, (gZr s9 60 x3.toNatClampNeg), (390262 + x3.toNatClampNeg))) _ rfl (if_pos ⟨hc.1, Nat.le_trans hc.2 (by decide)⟩) (Nat.le_of_ble_eq_true rfl) (Nat.le_trans (Nat.add_le_add_left hc.2 390262) (show (390262 + 20000 : Nat) ≤ 530262 from Nat.le_of_ble_eq_true rfl)) ?_
  refine hG.2.2.2.2.2.1 _ _ _ _ _ _ 410262 (Nat.add_le_add_left hc.2 390262) (show (410262 : Nat) ≤ 530262 from Nat.le_of_ble_eq_true rfl) ?_
  obtain ⟨s10, es10, hP⟩ := g_let hP
  rw [← es10]
  refine hG.2.2.1 _ (97, [some (.ref 53), some (.ref 1), some (.ref 30), some (.int x2), some (.int x3), some (.int x4)], [], (gSq_103, s10, 410262)) _ rfl rfl (Nat.le_of_ble_eq_true rfl) (show (410262 : Nat) ≤ 530262 from Nat.le_of_ble_eq_true rfl) ?_
  refine gRunN_ok hG.1 2 _ (100, [some (.ref 53), some (.ref 1), some (.ref 30), some (.int x2), some (.int x3), some (.int x4)], [.int x3, .ref 53], (gSq_103, s10, 410262)) rfl ?_
  obtain ⟨hc, hP⟩ := g_if hP
  refine hG.2.2.1 _ (102, [some (.ref 53), some (.ref 1), some (.ref 30), some (.int x2), some (.int x3), some (.int x4)], [.ref 61, .ref 53], (gSq_104, (gZr s10 61 x3.toNatClampNeg), (410262 + x3.toNatClampNeg))) _ rfl (if_pos ⟨hc.1, Nat.le_trans hc.2 (by decide)⟩) (Nat.le_of_ble_eq_true rfl) (Nat.le_trans (Nat.add_le_add_left hc.2 410262) (show (410262 + 20000 : Nat) ≤ 530262 from Nat.le_of_ble_eq_true rfl)) ?_
  refine hG.2.2.2.2.2.1 _ _ _ _ _ _ 430262 (Nat.add_le_add_left hc.2 410262) (show (430262 : Nat) ≤ 530262 from Nat.le_of_ble_eq_true rfl) ?_
  obtain ⟨s11, es11, hP⟩ := g_let hP
  rw [← es11]
  refine hG.2.2.1 _ (105, [some (.ref 53), some (.ref 1), some (.ref 30), some (.int x2), some (.int x3), some (.int x4)], [], (gSq_105, s11, 430262)) _ rfl rfl (Nat.le_of_ble_eq_true rfl) (show (430262 : Nat) ≤ 530262 from Nat.le_of_ble_eq_true rfl) ?_
  refine gRunN_ok hG.1 4 _ (110, [some (.ref 53), some (.ref 1), some (.ref 30), some (.int x2), some (.int x3), some (.int x4)], [.int (x3 + (1 : Int32)), .ref 53], (gSq_105, s11, 430262)) rfl ?_
  obtain ⟨hc, hP⟩ := g_if hP
  refine hG.2.2.1 _ (112, [some (.ref 53), some (.ref 1), some (.ref 30), some (.int x2), some (.int x3), some (.int x4)], [.ref 62, .ref 53], (gSq_106, (gZr s11 62 (x3 + (1 : Int32)).toNatClampNeg), (430262 + (x3 + (1 : Int32)).toNatClampNeg))) _ rfl (if_pos ⟨hc.1, Nat.le_trans hc.2 (by decide)⟩) (Nat.le_of_ble_eq_true rfl) (Nat.le_trans (Nat.add_le_add_left hc.2 430262) (show (430262 + 20000 : Nat) ≤ 530262 from Nat.le_of_ble_eq_true rfl)) ?_
  refine hG.2.2.2.2.2.1 _ _ _ _ _ _ 450262 (Nat.add_le_add_left hc.2 430262) (show (450262 : Nat) ≤ 530262 from Nat.le_of_ble_eq_true rfl) ?_
  obtain ⟨s12, es12, hP⟩ := g_let hP
  rw [← es12]
  refine hG.2.2.1 _ (115, [some (.ref 53), some (.ref 1), some (.ref 30), some (.int x2), some (.int x3), some (.int x4)], [], (gSq_107, s12, 450262)) _ rfl rfl (Nat.le_of_ble_eq_true rfl) (show (450262 : Nat) ≤ 530262 from Nat.le_of_ble_eq_true rfl) ?_
  refine gRunN_ok hG.1 2 _ (118, [some (.ref 53), some (.ref 1), some (.ref 30), some (.int x2), some (.int x3), some (.int x4)], [.int x4, .ref 53], (gSq_107, s12, 450262)) rfl ?_
  obtain ⟨hc, hP⟩ := g_if hP
  refine hG.2.2.1 _ (120, [some (.ref 53), some (.ref 1), some (.ref 30), some (.int x2), some (.int x3), some (.int x4)], [.ref 63, .ref 53], (gSq_108, (gZr s12 63 x4.toNatClampNeg), (450262 + x4.toNatClampNeg))) _ rfl (if_pos ⟨hc.1, Nat.le_trans hc.2 (by decide)⟩) (Nat.le_of_ble_eq_true rfl) (Nat.le_trans (Nat.add_le_add_left hc.2 450262) (show (450262 + 20000 : Nat) ≤ 530262 from Nat.le_of_ble_eq_true rfl)) ?_
  refine hG.2.2.2.2.2.1 _ _ _ _ _ _ 470262 (Nat.add_le_add_left hc.2 450262) (show (470262 : Nat) ≤ 530262 from Nat.le_of_ble_eq_true rfl) ?_
  obtain ⟨s13, es13, hP⟩ := g_let hP
  rw [← es13]
  refine hG.2.2.1 _ (123, [some (.ref 53), some (.ref 1), some (.ref 30), some (.int x2), some (.int x3), some (.int x4)], [], (gSq_109, s13, 470262)) _ rfl rfl (Nat.le_of_ble_eq_true rfl) (show (470262 : Nat) ≤ 530262 from Nat.le_of_ble_eq_true rfl) ?_
  refine gRunN_ok hG.1 2 _ (126, [some (.ref 53), some (.ref 1), some (.ref 30), some (.int x2), some (.int x3), some (.int x4)], [.int x4, .ref 53], (gSq_109, s13, 470262)) rfl ?_
  obtain ⟨hc, hP⟩ := g_if hP
  refine hG.2.2.1 _ (128, [some (.ref 53), some (.ref 1), some (.ref 30), some (.int x2), some (.int x3), some (.int x4)], [.ref 64, .ref 53], (gSq_110, (gZr s13 64 x4.toNatClampNeg), (470262 + x4.toNatClampNeg))) _ rfl (if_pos ⟨hc.1, Nat.le_trans hc.2 (by decide)⟩) (Nat.le_of_ble_eq_true rfl) (Nat.le_trans (Nat.add_le_add_left hc.2 470262) (show (470262 + 20000 : Nat) ≤ 530262 from Nat.le_of_ble_eq_true rfl)) ?_
  refine hG.2.2.2.2.2.1 _ _ _ _ _ _ 490262 (Nat.add_le_add_left hc.2 470262) (show (490262 : Nat) ≤ 530262 from Nat.le_of_ble_eq_true rfl) ?_
  obtain ⟨s14, es14, hP⟩ := g_let hP
  rw [← es14]
  refine hG.2.2.1 _ (131, [some (.ref 53), some (.ref 1), some (.ref 30), some (.int x2), some (.int x3), some (.int x4)], [], (gSq_111, s14, 490262)) _ rfl rfl (Nat.le_of_ble_eq_true rfl) (show (490262 : Nat) ≤ 530262 from Nat.le_of_ble_eq_true rfl) ?_
  refine gRunN_ok hG.1 4 _ (135, [some (.ref 53), some (.ref 1), some (.ref 30), some (.int x2), some (.int x3), some (.int x4)], [.int (x2 * (5 : Int32)), .ref 53], (gSq_111, s14, 490262)) rfl ?_
  obtain ⟨hc, hP⟩ := g_if hP
  refine hG.2.2.1 _ (137, [some (.ref 53), some (.ref 1), some (.ref 30), some (.int x2), some (.int x3), some (.int x4)], [.ref 65, .ref 53], (gSq_112, (gZr s14 65 (x2 * (5 : Int32)).toNatClampNeg), (490262 + (x2 * (5 : Int32)).toNatClampNeg))) _ rfl (if_pos ⟨hc.1, Nat.le_trans hc.2 (by decide)⟩) (Nat.le_of_ble_eq_true rfl) (Nat.le_trans (Nat.add_le_add_left hc.2 490262) (show (490262 + 20000 : Nat) ≤ 530262 from Nat.le_of_ble_eq_true rfl)) ?_
  refine hG.2.2.2.2.2.1 _ _ _ _ _ _ 510262 (Nat.add_le_add_left hc.2 490262) (show (510262 : Nat) ≤ 530262 from Nat.le_of_ble_eq_true rfl) ?_
  obtain ⟨s15, es15, hP⟩ := g_let hP
  rw [← es15]
  refine hG.2.2.1 _ (140, [some (.ref 53), some (.ref 1), some (.ref 30), some (.int x2), some (.int x3), some (.int x4)], [], (gSq_113, s15, 510262)) _ rfl rfl (Nat.le_of_ble_eq_true rfl) (show (510262 : Nat) ≤ 530262 from Nat.le_of_ble_eq_true rfl) ?_
  refine gRunN_ok hG.1 2 _ (143, [some (.ref 53), some (.ref 1), some (.ref 30), some (.int x2), some (.int x3), some (.int x4)], [.int x3, .ref 53], (gSq_113, s15, 510262)) rfl ?_
  obtain ⟨hc, hP⟩ := g_if hP
  refine hG.2.2.1 _ (145, [some (.ref 53), some (.ref 1), some (.ref 30), some (.int x2), some (.int x3), some (.int x4)], [.ref 66, .ref 53], (gSq_114, (gZr s15 66 x3.toNatClampNeg), (510262 + x3.toNatClampNeg))) _ rfl (if_pos ⟨hc.1, Nat.le_trans hc.2 (by decide)⟩) (Nat.le_of_ble_eq_true rfl) (Nat.le_trans (Nat.add_le_add_left hc.2 510262) (show (510262 + 20000 : Nat) ≤ 530262 from Nat.le_of_ble_eq_true rfl)) ?_
  refine hG.2.2.2.2.2.1 _ _ _ _ _ _ 530262 (Nat.add_le_add_left hc.2 510262) (show (530262 : Nat) ≤ 530262 from Nat.le_of_ble_eq_true rfl) ?_
  obtain ⟨s16, es16, hP⟩ := g_let hP
  rw [← es16]
  refine hG.2.2.1 _ (148, [some (.ref 53), some (.ref 1), some (.ref 30), some (.int x2), some (.int x3), some (.int x4)], [], (gSq_115, s16, 530262)) _ rfl rfl (Nat.le_of_ble_eq_true rfl) (show (530262 : Nat) ≤ 530262 from Nat.le_of_ble_eq_true rfl) ?_
  cases hP
  exact hG.2.1 _ _ rfl rfl⟩
def p_Placing_init (E : gEv) (σ : gS) : Option gS :=
  if ¬ ((σ.1 1 4) + (σ.1 1 5)) < 0 ∧ ((σ.1 1 4) + (σ.1 1 5)).toNatClampNeg ≤ 20000 then gLet (gZr σ 68 ((σ.1 1 4) + (σ.1 1 5)).toNatClampNeg) fun s1 => if ¬ ((s1.1 1 4) + ((2 : Int32) * (s1.1 1 5))) < 0 ∧ ((s1.1 1 4) + ((2 : Int32) * (s1.1 1 5))).toNatClampNeg ≤ 20000 then gLet (gZr s1 69 ((s1.1 1 4) + ((2 : Int32) * (s1.1 1 5))).toNatClampNeg) fun s2 => gB1 (p_Arrays_fillI E 68 (-1) s2) fun s4 => some s4 else none else none
set_option maxRecDepth 20000 in
theorem c_Placing_init (E : gEv) (d : Nat) (σ : gS) {sr : gS} (hq : p_Placing_init E σ = some sr) : gC E gDf gMs (d + 2) 19 [.ref 67, .ref 1, .ref 53] (gSq_117, σ, 530267) (none, (gSq_123, sr, 570267)) := ⟨gM19, rfl, Nat.le_of_ble_eq_true rfl, fun G hG => by
  have hP := hq
  unfold p_Placing_init at hP
  replace hG : gClo E gDf gP9i gY19 none (gC E gDf gMs (d + 1)) (none, (gSq_123, sr, 570267)) G := hG
  show G (0, [some (.ref 67), some (.ref 1), some (.ref 53)], [], (gSq_117, σ, 530267))
  refine gRunN_ok hG.1 4 _ (6, [some (.ref 67), some (.ref 1), some (.ref 53)], [.ref 1, .ref 67], (gSq_117, σ, 530267)) rfl ?_
  refine hG.2.2.1 _ (9, [some (.ref 67), some (.ref 1), some (.ref 53)], [], (gSq_118, σ, 530267)) _ rfl rfl (Nat.le_of_ble_eq_true rfl) (show (530267 : Nat) ≤ 570267 from Nat.le_of_ble_eq_true rfl) ?_
  refine gRunN_ok hG.1 2 _ (11, [some (.ref 67), some (.ref 1), some (.ref 53)], [.ref 53, .ref 67], (gSq_118, σ, 530267)) rfl ?_
  refine hG.2.2.1 _ (14, [some (.ref 67), some (.ref 1), some (.ref 53)], [], (gSq_119, σ, 530267)) _ rfl rfl (Nat.le_of_ble_eq_true rfl) (show (530267 : Nat) ≤ 570267 from Nat.le_of_ble_eq_true rfl) ?_
  refine gRunN_ok hG.1 6 _ (24, [some (.ref 67), some (.ref 1), some (.ref 53)], [.int ((σ.1 1 4) + (σ.1 1 5)), .ref 67], (gSq_119, σ, 530267)) rfl ?_
  obtain ⟨hc, hP⟩ := g_if hP
  refine hG.2.2.1 _ (26, [some (.ref 67), some (.ref 1), some (.ref 53)], [.ref 68, .ref 67], (gSq_120, (gZr σ 68 ((σ.1 1 4) + (σ.1 1 5)).toNatClampNeg), (530267 + ((σ.1 1 4) + (σ.1 1 5)).toNatClampNeg))) _ rfl (if_pos ⟨hc.1, Nat.le_trans hc.2 (by decide)⟩) (Nat.le_of_ble_eq_true rfl) (Nat.le_trans (Nat.add_le_add_left hc.2 530267) (show (530267 + 20000 : Nat) ≤ 570267 from Nat.le_of_ble_eq_true rfl)) ?_
  refine hG.2.2.2.2.2.1 _ _ _ _ _ _ 550267 (Nat.add_le_add_left hc.2 530267) (show (550267 : Nat) ≤ 570267 from Nat.le_of_ble_eq_true rfl) ?_
  obtain ⟨s1, es1, hP⟩ := g_let hP
  rw [← es1]
  refine hG.2.2.1 _ (29, [some (.ref 67), some (.ref 1), some (.ref 53)], [], (gSq_121, s1, 550267)) _ rfl rfl (Nat.le_of_ble_eq_true rfl) (show (550267 : Nat) ≤ 570267 from Nat.le_of_ble_eq_true rfl) ?_
  refine gRunN_ok hG.1 8 _ (41, [some (.ref 67), some (.ref 1), some (.ref 53)], [.int ((s1.1 1 4) + ((2 : Int32) * (s1.1 1 5))), .ref 67], (gSq_121, s1, 550267)) rfl ?_
  obtain ⟨hc, hP⟩ := g_if hP
  refine hG.2.2.1 _ (43, [some (.ref 67), some (.ref 1), some (.ref 53)], [.ref 69, .ref 67], (gSq_122, (gZr s1 69 ((s1.1 1 4) + ((2 : Int32) * (s1.1 1 5))).toNatClampNeg), (550267 + ((s1.1 1 4) + ((2 : Int32) * (s1.1 1 5))).toNatClampNeg))) _ rfl (if_pos ⟨hc.1, Nat.le_trans hc.2 (by decide)⟩) (Nat.le_of_ble_eq_true rfl) (Nat.le_trans (Nat.add_le_add_left hc.2 550267) (show (550267 + 20000 : Nat) ≤ 570267 from Nat.le_of_ble_eq_true rfl)) ?_
  refine hG.2.2.2.2.2.1 _ _ _ _ _ _ 570267 (Nat.add_le_add_left hc.2 550267) (show (570267 : Nat) ≤ 570267 from Nat.le_of_ble_eq_true rfl) ?_
  obtain ⟨s2, es2, hP⟩ := g_let hP
  rw [← es2]
  refine hG.2.2.1 _ (46, [some (.ref 67), some (.ref 1), some (.ref 53)], [], (gSq_123, s2, 570267)) _ rfl rfl (Nat.le_of_ble_eq_true rfl) (show (570267 : Nat) ≤ 570267 from Nat.le_of_ble_eq_true rfl) ?_
  refine gRunN_ok hG.1 3 _ (51, [some (.ref 67), some (.ref 1), some (.ref 53)], [.int (-1), .ref 68], (gSq_123, s2, 570267)) rfl ?_
  obtain ⟨s4, hq, hP⟩ := g_b1 hP
  refine hG.2.2.2.1 _ _ _ [.ref 68, .int (-1)] [] _ (gSq_123, s4, 570267) none _ _ _ _ _ _ rfl rfl rfl rfl rfl rfl (c_Arrays_fillI E (d + 0) 570267 68 (-1) _ rfl hq) (Nat.le_refl _) (Nat.le_refl _) (Nat.le_of_ble_eq_true rfl) (show (570267 : Nat) ≤ 570267 from Nat.le_of_ble_eq_true rfl) ?_
  show G (54, [some (.ref 67), some (.ref 1), some (.ref 53)], [], (gSq_123, s4, 570267))
  cases hP
  exact hG.2.1 _ _ rfl rfl⟩
def p_Front_init (E : gEv) (a0 : Int32) (σ : gS) : Option gS :=
  if ¬ a0 < 0 ∧ a0.toNatClampNeg ≤ 20000 then gLet (gZr σ 72 a0.toNatClampNeg) fun s1 => if ¬ a0 < 0 ∧ a0.toNatClampNeg ≤ 20000 then gLet (gZr s1 73 a0.toNatClampNeg) fun s2 => some s2 else none else none
set_option maxRecDepth 20000 in
theorem c_Front_init (E : gEv) (d : Nat) (a0 : Int32) (σ : gS) {sr : gS} (hq : p_Front_init E a0 σ = some sr) : gC E gDf gMs (d + 1) 21 [.ref 71, .int a0] (gSq_129, σ, 570286) (none, (gSq_133, sr, 610286)) := ⟨gM21, rfl, Nat.le_of_ble_eq_true rfl, fun G hG => by
  have hP := hq
  unfold p_Front_init at hP
  replace hG : gClo E gDf gP11i gY21 none (gC E gDf gMs (d + 0)) (none, (gSq_133, sr, 610286)) G := hG
  show G (0, [some (.ref 71), some (.int a0)], [], (gSq_129, σ, 570286))
  refine gRunN_ok hG.1 4 _ (6, [some (.ref 71), some (.int a0)], [.int a0, .ref 71], (gSq_129, σ, 570286)) rfl ?_
  obtain ⟨hc, hP⟩ := g_if hP
  refine hG.2.2.1 _ (8, [some (.ref 71), some (.int a0)], [.ref 72, .ref 71], (gSq_130, (gZr σ 72 a0.toNatClampNeg), (570286 + a0.toNatClampNeg))) _ rfl (if_pos ⟨hc.1, Nat.le_trans hc.2 (by decide)⟩) (Nat.le_of_ble_eq_true rfl) (Nat.le_trans (Nat.add_le_add_left hc.2 570286) (show (570286 + 20000 : Nat) ≤ 610286 from Nat.le_of_ble_eq_true rfl)) ?_
  refine hG.2.2.2.2.2.1 _ _ _ _ _ _ 590286 (Nat.add_le_add_left hc.2 570286) (show (590286 : Nat) ≤ 610286 from Nat.le_of_ble_eq_true rfl) ?_
  obtain ⟨s1, es1, hP⟩ := g_let hP
  rw [← es1]
  refine hG.2.2.1 _ (11, [some (.ref 71), some (.int a0)], [], (gSq_131, s1, 590286)) _ rfl rfl (Nat.le_of_ble_eq_true rfl) (show (590286 : Nat) ≤ 610286 from Nat.le_of_ble_eq_true rfl) ?_
  refine gRunN_ok hG.1 2 _ (13, [some (.ref 71), some (.int a0)], [.int a0, .ref 71], (gSq_131, s1, 590286)) rfl ?_
  obtain ⟨hc, hP⟩ := g_if hP
  refine hG.2.2.1 _ (15, [some (.ref 71), some (.int a0)], [.ref 73, .ref 71], (gSq_132, (gZr s1 73 a0.toNatClampNeg), (590286 + a0.toNatClampNeg))) _ rfl (if_pos ⟨hc.1, Nat.le_trans hc.2 (by decide)⟩) (Nat.le_of_ble_eq_true rfl) (Nat.le_trans (Nat.add_le_add_left hc.2 590286) (show (590286 + 20000 : Nat) ≤ 610286 from Nat.le_of_ble_eq_true rfl)) ?_
  refine hG.2.2.2.2.2.1 _ _ _ _ _ _ 610286 (Nat.add_le_add_left hc.2 590286) (show (610286 : Nat) ≤ 610286 from Nat.le_of_ble_eq_true rfl) ?_
  obtain ⟨s2, es2, hP⟩ := g_let hP
  rw [← es2]
  refine hG.2.2.1 _ (18, [some (.ref 71), some (.int a0)], [], (gSq_133, s2, 610286)) _ rfl rfl (Nat.le_of_ble_eq_true rfl) (show (610286 : Nat) ≤ 610286 from Nat.le_of_ble_eq_true rfl) ?_
  cases hP
  exact hG.2.1 _ _ rfl rfl⟩
def p_Router_init (E : gEv) (σ : gS) : Option gS :=
  gLet (gZr σ 71 3) fun s1 => gB1 (p_Front_init E (s1.1 1 7) s1) fun s2 => gLet (gPut s2 70 4 ((((s2.1 1 7) + (31 : Int32)).toUInt32 >>> ((5 : Int32).toUInt32 &&& Int32.toUInt32 31)).toInt32)) fun s3 => if ¬ ((Int32.ofNat (s3.2.1 60)) * (s3.1 70 4)) < 0 ∧ ((Int32.ofNat (s3.2.1 60)) * (s3.1 70 4)).toNatClampNeg ≤ 20000 then gLet (gZr s3 74 ((Int32.ofNat (s3.2.1 60)) * (s3.1 70 4)).toNatClampNeg) fun s4 => if ¬ (s4.1 1 7) < 0 ∧ (s4.1 1 7).toNatClampNeg ≤ 20000 then gLet (gZr s4 75 (s4.1 1 7).toNatClampNeg) fun s5 => if ¬ (s5.1 1 7) < 0 ∧ (s5.1 1 7).toNatClampNeg ≤ 20000 then gLet (gZr s5 76 (s5.1 1 7).toNatClampNeg) fun s6 => if ¬ (s6.1 1 7) < 0 ∧ (s6.1 1 7).toNatClampNeg ≤ 20000 then gLet (gZr s6 77 (s6.1 1 7).toNatClampNeg) fun s7 => if ¬ (s7.1 1 7) < 0 ∧ (s7.1 1 7).toNatClampNeg ≤ 20000 then gLet (gZr s7 78 (s7.1 1 7).toNatClampNeg) fun s8 => if ¬ (Int32.ofNat (s8.2.1 63)) < 0 ∧ (Int32.ofNat (s8.2.1 63)).toNatClampNeg ≤ 20000 then gLet (gZr s8 79 (Int32.ofNat (s8.2.1 63)).toNatClampNeg) fun s9 => if ¬ (s9.1 1 7) < 0 ∧ (s9.1 1 7).toNatClampNeg ≤ 20000 then gLet (gZr s9 80 (s9.1 1 7).toNatClampNeg) fun s10 => some s10 else none else none else none else none else none else none else none
set_option maxRecDepth 20000 in
theorem c_Router_init (E : gEv) (d : Nat) (σ : gS) {sr : gS} (hq : p_Router_init E σ = some sr) : gC E gDf gMs (d + 2) 20 [.ref 70, .ref 1, .ref 53, .ref 67] (gSq_125, σ, 570283) (none, (gSq_148, sr, 750286)) := ⟨gM20, rfl, Nat.le_of_ble_eq_true rfl, fun G hG => by
  have hP := hq
  unfold p_Router_init at hP
  replace hG : gClo E gDf gP10i gY20 none (gC E gDf gMs (d + 1)) (none, (gSq_148, sr, 750286)) G := hG
  show G (0, [some (.ref 70), some (.ref 1), some (.ref 53), some (.ref 67)], [], (gSq_125, σ, 570283))
  refine gRunN_ok hG.1 4 _ (6, [some (.ref 70), some (.ref 1), some (.ref 53), some (.ref 67)], [.ref 1, .ref 70], (gSq_125, σ, 570283)) rfl ?_
  refine hG.2.2.1 _ (9, [some (.ref 70), some (.ref 1), some (.ref 53), some (.ref 67)], [], (gSq_126, σ, 570283)) _ rfl rfl (Nat.le_of_ble_eq_true rfl) (show (570283 : Nat) ≤ 750286 from Nat.le_of_ble_eq_true rfl) ?_
  refine gRunN_ok hG.1 2 _ (11, [some (.ref 70), some (.ref 1), some (.ref 53), some (.ref 67)], [.ref 53, .ref 70], (gSq_126, σ, 570283)) rfl ?_
  refine hG.2.2.1 _ (14, [some (.ref 70), some (.ref 1), some (.ref 53), some (.ref 67)], [], (gSq_127, σ, 570283)) _ rfl rfl (Nat.le_of_ble_eq_true rfl) (show (570283 : Nat) ≤ 750286 from Nat.le_of_ble_eq_true rfl) ?_
  refine gRunN_ok hG.1 2 _ (16, [some (.ref 70), some (.ref 1), some (.ref 53), some (.ref 67)], [.ref 67, .ref 70], (gSq_127, σ, 570283)) rfl ?_
  refine hG.2.2.1 _ (19, [some (.ref 70), some (.ref 1), some (.ref 53), some (.ref 67)], [], (gSq_128, σ, 570283)) _ rfl rfl (Nat.le_of_ble_eq_true rfl) (show (570283 : Nat) ≤ 750286 from Nat.le_of_ble_eq_true rfl) ?_
  refine gRunN_ok hG.1 1 _ (20, [some (.ref 70), some (.ref 1), some (.ref 53), some (.ref 67)], [.ref 70], (gSq_128, σ, 570283)) rfl ?_
  refine hG.2.2.1 _ (23, [some (.ref 70), some (.ref 1), some (.ref 53), some (.ref 67)], [.ref 71, .ref 70], (gSq_129, (gZr σ 71 3), 570286)) _ rfl rfl (Nat.le_of_ble_eq_true rfl) (show (570286 : Nat) ≤ 750286 from Nat.le_of_ble_eq_true rfl) ?_
  obtain ⟨s1, es1, hP⟩ := g_let hP
  rw [← es1]
  refine gRunN_ok hG.1 3 _ (28, [some (.ref 70), some (.ref 1), some (.ref 53), some (.ref 67)], [.int (s1.1 1 7), .ref 71, .ref 71, .ref 70], (gSq_129, s1, 570286)) rfl ?_
  obtain ⟨s2, hq, hP⟩ := g_b1 hP
  refine hG.2.2.2.1 _ _ _ [.ref 71, .int (s1.1 1 7)] [.ref 71, .ref 70] _ (gSq_133, s2, 610286) none _ _ _ _ _ _ rfl rfl rfl rfl rfl rfl (c_Front_init E (d + 0) (s1.1 1 7) _ hq) (Nat.le_of_ble_eq_true rfl) (show (570286 : Nat) ≤ 610286 from Nat.le_of_ble_eq_true rfl) (Nat.le_of_ble_eq_true rfl) (show (610286 : Nat) ≤ 750286 from Nat.le_of_ble_eq_true rfl) ?_
  show G (31, [some (.ref 70), some (.ref 1), some (.ref 53), some (.ref 67)], [.ref 71, .ref 70], (gSq_133, s2, 610286))
  refine hG.2.2.1 _ (34, [some (.ref 70), some (.ref 1), some (.ref 53), some (.ref 67)], [], (gSq_134, s2, 610286)) _ rfl rfl (Nat.le_of_ble_eq_true rfl) (show (610286 : Nat) ≤ 750286 from Nat.le_of_ble_eq_true rfl) ?_
  refine gRunN_ok hG.1 8 _ (47, [some (.ref 70), some (.ref 1), some (.ref 53), some (.ref 67)], [], (gSq_134, (gPut s2 70 4 ((((s2.1 1 7) + (31 : Int32)).toUInt32 >>> ((5 : Int32).toUInt32 &&& Int32.toUInt32 31)).toInt32)), 610286)) rfl ?_
  obtain ⟨s3, es3, hP⟩ := g_let hP
  rw [← es3]
  refine gRunN_ok hG.1 7 _ (58, [some (.ref 70), some (.ref 1), some (.ref 53), some (.ref 67)], [.int ((Int32.ofNat (s3.2.1 60)) * (s3.1 70 4)), .ref 70], (gSq_134, s3, 610286)) rfl ?_
  obtain ⟨hc, hP⟩ := g_if hP
  refine hG.2.2.1 _ (60, [some (.ref 70), some (.ref 1), some (.ref 53), some (.ref 67)], [.ref 74, .ref 70], (gSq_135, (gZr s3 74 ((Int32.ofNat (s3.2.1 60)) * (s3.1 70 4)).toNatClampNeg), (610286 + ((Int32.ofNat (s3.2.1 60)) * (s3.1 70 4)).toNatClampNeg))) _ rfl (if_pos ⟨hc.1, Nat.le_trans hc.2 (by decide)⟩) (Nat.le_of_ble_eq_true rfl) (Nat.le_trans (Nat.add_le_add_left hc.2 610286) (show (610286 + 20000 : Nat) ≤ 750286 from Nat.le_of_ble_eq_true rfl)) ?_
  refine hG.2.2.2.2.2.1 _ _ _ _ _ _ 630286 (Nat.add_le_add_left hc.2 610286) (show (630286 : Nat) ≤ 750286 from Nat.le_of_ble_eq_true rfl) ?_
  obtain ⟨s4, es4, hP⟩ := g_let hP
  rw [← es4]
  refine hG.2.2.1 _ (63, [some (.ref 70), some (.ref 1), some (.ref 53), some (.ref 67)], [], (gSq_136, s4, 630286)) _ rfl rfl (Nat.le_of_ble_eq_true rfl) (show (630286 : Nat) ≤ 750286 from Nat.le_of_ble_eq_true rfl) ?_
  refine gRunN_ok hG.1 3 _ (68, [some (.ref 70), some (.ref 1), some (.ref 53), some (.ref 67)], [.int (s4.1 1 7), .ref 70], (gSq_136, s4, 630286)) rfl ?_
  obtain ⟨hc, hP⟩ := g_if hP
  refine hG.2.2.1 _ (70, [some (.ref 70), some (.ref 1), some (.ref 53), some (.ref 67)], [.ref 75, .ref 70], (gSq_137, (gZr s4 75 (s4.1 1 7).toNatClampNeg), (630286 + (s4.1 1 7).toNatClampNeg))) _ rfl (if_pos ⟨hc.1, Nat.le_trans hc.2 (by decide)⟩) (Nat.le_of_ble_eq_true rfl) (Nat.le_trans (Nat.add_le_add_left hc.2 630286) (show (630286 + 20000 : Nat) ≤ 750286 from Nat.le_of_ble_eq_true rfl)) ?_
  refine hG.2.2.2.2.2.1 _ _ _ _ _ _ 650286 (Nat.add_le_add_left hc.2 630286) (show (650286 : Nat) ≤ 750286 from Nat.le_of_ble_eq_true rfl) ?_
  obtain ⟨s5, es5, hP⟩ := g_let hP
  rw [← es5]
  refine hG.2.2.1 _ (73, [some (.ref 70), some (.ref 1), some (.ref 53), some (.ref 67)], [], (gSq_138, s5, 650286)) _ rfl rfl (Nat.le_of_ble_eq_true rfl) (show (650286 : Nat) ≤ 750286 from Nat.le_of_ble_eq_true rfl) ?_
  refine gRunN_ok hG.1 3 _ (78, [some (.ref 70), some (.ref 1), some (.ref 53), some (.ref 67)], [.int (s5.1 1 7), .ref 70], (gSq_138, s5, 650286)) rfl ?_
  obtain ⟨hc, hP⟩ := g_if hP
  refine hG.2.2.1 _ (80, [some (.ref 70), some (.ref 1), some (.ref 53), some (.ref 67)], [.ref 76, .ref 70], (gSq_139, (gZr s5 76 (s5.1 1 7).toNatClampNeg), (650286 + (s5.1 1 7).toNatClampNeg))) _ rfl (if_pos ⟨hc.1, Nat.le_trans hc.2 (by decide)⟩) (Nat.le_of_ble_eq_true rfl) (Nat.le_trans (Nat.add_le_add_left hc.2 650286) (show (650286 + 20000 : Nat) ≤ 750286 from Nat.le_of_ble_eq_true rfl)) ?_
  refine hG.2.2.2.2.2.1 _ _ _ _ _ _ 670286 (Nat.add_le_add_left hc.2 650286) (show (670286 : Nat) ≤ 750286 from Nat.le_of_ble_eq_true rfl) ?_
  obtain ⟨s6, es6, hP⟩ := g_let hP
  rw [← es6]
  refine hG.2.2.1 _ (83, [some (.ref 70), some (.ref 1), some (.ref 53), some (.ref 67)], [], (gSq_140, s6, 670286)) _ rfl rfl (Nat.le_of_ble_eq_true rfl) (show (670286 : Nat) ≤ 750286 from Nat.le_of_ble_eq_true rfl) ?_
  refine gRunN_ok hG.1 3 _ (88, [some (.ref 70), some (.ref 1), some (.ref 53), some (.ref 67)], [.int (s6.1 1 7), .ref 70], (gSq_140, s6, 670286)) rfl ?_
  obtain ⟨hc, hP⟩ := g_if hP
  refine hG.2.2.1 _ (90, [some (.ref 70), some (.ref 1), some (.ref 53), some (.ref 67)], [.ref 77, .ref 70], (gSq_141, (gZr s6 77 (s6.1 1 7).toNatClampNeg), (670286 + (s6.1 1 7).toNatClampNeg))) _ rfl (if_pos ⟨hc.1, Nat.le_trans hc.2 (by decide)⟩) (Nat.le_of_ble_eq_true rfl) (Nat.le_trans (Nat.add_le_add_left hc.2 670286) (show (670286 + 20000 : Nat) ≤ 750286 from Nat.le_of_ble_eq_true rfl)) ?_
  refine hG.2.2.2.2.2.1 _ _ _ _ _ _ 690286 (Nat.add_le_add_left hc.2 670286) (show (690286 : Nat) ≤ 750286 from Nat.le_of_ble_eq_true rfl) ?_
  obtain ⟨s7, es7, hP⟩ := g_let hP
  rw [← es7]
  refine hG.2.2.1 _ (93, [some (.ref 70), some (.ref 1), some (.ref 53), some (.ref 67)], [], (gSq_142, s7, 690286)) _ rfl rfl (Nat.le_of_ble_eq_true rfl) (show (690286 : Nat) ≤ 750286 from Nat.le_of_ble_eq_true rfl) ?_
  refine gRunN_ok hG.1 3 _ (98, [some (.ref 70), some (.ref 1), some (.ref 53), some (.ref 67)], [.int (s7.1 1 7), .ref 70], (gSq_142, s7, 690286)) rfl ?_
  obtain ⟨hc, hP⟩ := g_if hP
  refine hG.2.2.1 _ (100, [some (.ref 70), some (.ref 1), some (.ref 53), some (.ref 67)], [.ref 78, .ref 70], (gSq_143, (gZr s7 78 (s7.1 1 7).toNatClampNeg), (690286 + (s7.1 1 7).toNatClampNeg))) _ rfl (if_pos ⟨hc.1, Nat.le_trans hc.2 (by decide)⟩) (Nat.le_of_ble_eq_true rfl) (Nat.le_trans (Nat.add_le_add_left hc.2 690286) (show (690286 + 20000 : Nat) ≤ 750286 from Nat.le_of_ble_eq_true rfl)) ?_
  refine hG.2.2.2.2.2.1 _ _ _ _ _ _ 710286 (Nat.add_le_add_left hc.2 690286) (show (710286 : Nat) ≤ 750286 from Nat.le_of_ble_eq_true rfl) ?_
  obtain ⟨s8, es8, hP⟩ := g_let hP
  rw [← es8]
  refine hG.2.2.1 _ (103, [some (.ref 70), some (.ref 1), some (.ref 53), some (.ref 67)], [], (gSq_144, s8, 710286)) _ rfl rfl (Nat.le_of_ble_eq_true rfl) (show (710286 : Nat) ≤ 750286 from Nat.le_of_ble_eq_true rfl) ?_
  refine gRunN_ok hG.1 4 _ (109, [some (.ref 70), some (.ref 1), some (.ref 53), some (.ref 67)], [.int (Int32.ofNat (s8.2.1 63)), .ref 70], (gSq_144, s8, 710286)) rfl ?_
  obtain ⟨hc, hP⟩ := g_if hP
  refine hG.2.2.1 _ (111, [some (.ref 70), some (.ref 1), some (.ref 53), some (.ref 67)], [.ref 79, .ref 70], (gSq_145, (gZr s8 79 (Int32.ofNat (s8.2.1 63)).toNatClampNeg), (710286 + (Int32.ofNat (s8.2.1 63)).toNatClampNeg))) _ rfl (if_pos ⟨hc.1, Nat.le_trans hc.2 (by decide)⟩) (Nat.le_of_ble_eq_true rfl) (Nat.le_trans (Nat.add_le_add_left hc.2 710286) (show (710286 + 20000 : Nat) ≤ 750286 from Nat.le_of_ble_eq_true rfl)) ?_
  refine hG.2.2.2.2.2.1 _ _ _ _ _ _ 730286 (Nat.add_le_add_left hc.2 710286) (show (730286 : Nat) ≤ 750286 from Nat.le_of_ble_eq_true rfl) ?_
  obtain ⟨s9, es9, hP⟩ := g_let hP
  rw [← es9]
  refine hG.2.2.1 _ (114, [some (.ref 70), some (.ref 1), some (.ref 53), some (.ref 67)], [], (gSq_146, s9, 730286)) _ rfl rfl (Nat.le_of_ble_eq_true rfl) (show (730286 : Nat) ≤ 750286 from Nat.le_of_ble_eq_true rfl) ?_
  refine gRunN_ok hG.1 3 _ (119, [some (.ref 70), some (.ref 1), some (.ref 53), some (.ref 67)], [.int (s9.1 1 7), .ref 70], (gSq_146, s9, 730286)) rfl ?_
  obtain ⟨hc, hP⟩ := g_if hP
  refine hG.2.2.1 _ (121, [some (.ref 70), some (.ref 1), some (.ref 53), some (.ref 67)], [.ref 80, .ref 70], (gSq_147, (gZr s9 80 (s9.1 1 7).toNatClampNeg), (730286 + (s9.1 1 7).toNatClampNeg))) _ rfl (if_pos ⟨hc.1, Nat.le_trans hc.2 (by decide)⟩) (Nat.le_of_ble_eq_true rfl) (Nat.le_trans (Nat.add_le_add_left hc.2 730286) (show (730286 + 20000 : Nat) ≤ 750286 from Nat.le_of_ble_eq_true rfl)) ?_
  refine hG.2.2.2.2.2.1 _ _ _ _ _ _ 750286 (Nat.add_le_add_left hc.2 730286) (show (750286 : Nat) ≤ 750286 from Nat.le_of_ble_eq_true rfl) ?_
  obtain ⟨s10, es10, hP⟩ := g_let hP
  rw [← es10]
  refine hG.2.2.1 _ (124, [some (.ref 70), some (.ref 1), some (.ref 53), some (.ref 67)], [], (gSq_148, s10, 750286)) _ rfl rfl (Nat.le_of_ble_eq_true rfl) (show (750286 : Nat) ≤ 750286 from Nat.le_of_ble_eq_true rfl) ?_
  cases hP
  exact hG.2.1 _ _ rfl rfl⟩
def p_Field_init (E : gEv) (σ : gS) : Option gS :=
  if ¬ (σ.1 1 8) < 0 ∧ (σ.1 1 8).toNatClampNeg ≤ 20000 then gLet (gZr σ 82 (σ.1 1 8).toNatClampNeg) fun s1 => if ¬ (s1.1 1 5) < 0 ∧ (s1.1 1 5).toNatClampNeg ≤ 20000 then gLet (gZr s1 83 (s1.1 1 5).toNatClampNeg) fun s2 => if ¬ (s2.1 1 6) < 0 ∧ (s2.1 1 6).toNatClampNeg ≤ 20000 then gLet (gZr s2 84 (s2.1 1 6).toNatClampNeg) fun s3 => if ¬ (s3.1 1 6) < 0 ∧ (s3.1 1 6).toNatClampNeg ≤ 20000 then gLet (gZr s3 85 (s3.1 1 6).toNatClampNeg) fun s4 => if ¬ (s4.1 1 6) < 0 ∧ (s4.1 1 6).toNatClampNeg ≤ 20000 then gLet (gZr s4 86 (s4.1 1 6).toNatClampNeg) fun s5 => if ¬ (s5.1 1 7) < 0 ∧ (s5.1 1 7).toNatClampNeg ≤ 20000 then gLet (gZr s5 87 (s5.1 1 7).toNatClampNeg) fun s6 => if ¬ (s6.1 1 7) < 0 ∧ (s6.1 1 7).toNatClampNeg ≤ 20000 then gLet (gZr s6 88 (s6.1 1 7).toNatClampNeg) fun s7 => if ¬ (s7.1 1 7) < 0 ∧ (s7.1 1 7).toNatClampNeg ≤ 20000 then gLet (gZr s7 89 (s7.1 1 7).toNatClampNeg) fun s8 => if ¬ (s8.1 1 6) < 0 ∧ (s8.1 1 6).toNatClampNeg ≤ 20000 then gLet (gZr s8 90 (s8.1 1 6).toNatClampNeg) fun s9 => if ¬ ((s9.1 1 6) * (4 : Int32)) < 0 ∧ ((s9.1 1 6) * (4 : Int32)).toNatClampNeg ≤ 20000 then gLet (gZr s9 91 ((s9.1 1 6) * (4 : Int32)).toNatClampNeg) fun s10 => if ¬ ((s10.1 1 6) + (1 : Int32)) < 0 ∧ ((s10.1 1 6) + (1 : Int32)).toNatClampNeg ≤ 20000 then gLet (gZr s10 92 ((s10.1 1 6) + (1 : Int32)).toNatClampNeg) fun s11 => if ¬ (((s11.1 1 6) * (4 : Int32)) * (s11.1 1 3)) < 0 ∧ (((s11.1 1 6) * (4 : Int32)) * (s11.1 1 3)).toNatClampNeg ≤ 20000 then gLet (gZr s11 93 (((s11.1 1 6) * (4 : Int32)) * (s11.1 1 3)).toNatClampNeg) fun s12 => some s12 else none else none else none else none else none else none else none else none else none else none else none else none
set_option maxRecDepth 20000 in
theorem c_Field_init (E : gEv) (d : Nat) (σ : gS) {sr : gS} (hq : p_Field_init E σ = some sr) : gC E gDf gMs (d + 1) 22 [.ref 81, .ref 1] (gSq_150, σ, 750303) (none, (gSq_175, sr, 990303)) := ⟨gM22, rfl, Nat.le_of_ble_eq_true rfl, fun G hG => by
  have hP := hq
  unfold p_Field_init at hP
  replace hG : gClo E gDf gP12i gY22 none (gC E gDf gMs (d + 0)) (none, (gSq_175, sr, 990303)) G := hG
  show G (0, [some (.ref 81), some (.ref 1)], [], (gSq_150, σ, 750303))
  refine gRunN_ok hG.1 4 _ (6, [some (.ref 81), some (.ref 1)], [.ref 1, .ref 81], (gSq_150, σ, 750303)) rfl ?_
  refine hG.2.2.1 _ (9, [some (.ref 81), some (.ref 1)], [], (gSq_151, σ, 750303)) _ rfl rfl (Nat.le_of_ble_eq_true rfl) (show (750303 : Nat) ≤ 990303 from Nat.le_of_ble_eq_true rfl) ?_
  refine gRunN_ok hG.1 3 _ (14, [some (.ref 81), some (.ref 1)], [.int (σ.1 1 8), .ref 81], (gSq_151, σ, 750303)) rfl ?_
  obtain ⟨hc, hP⟩ := g_if hP
  refine hG.2.2.1 _ (16, [some (.ref 81), some (.ref 1)], [.ref 82, .ref 81], (gSq_152, (gZr σ 82 (σ.1 1 8).toNatClampNeg), (750303 + (σ.1 1 8).toNatClampNeg))) _ rfl (if_pos ⟨hc.1, Nat.le_trans hc.2 (by decide)⟩) (Nat.le_of_ble_eq_true rfl) (Nat.le_trans (Nat.add_le_add_left hc.2 750303) (show (750303 + 20000 : Nat) ≤ 990303 from Nat.le_of_ble_eq_true rfl)) ?_
  refine hG.2.2.2.2.2.1 _ _ _ _ _ _ 770303 (Nat.add_le_add_left hc.2 750303) (show (770303 : Nat) ≤ 990303 from Nat.le_of_ble_eq_true rfl) ?_
  obtain ⟨s1, es1, hP⟩ := g_let hP
  rw [← es1]
  refine hG.2.2.1 _ (19, [some (.ref 81), some (.ref 1)], [], (gSq_153, s1, 770303)) _ rfl rfl (Nat.le_of_ble_eq_true rfl) (show (770303 : Nat) ≤ 990303 from Nat.le_of_ble_eq_true rfl) ?_
  refine gRunN_ok hG.1 3 _ (24, [some (.ref 81), some (.ref 1)], [.int (s1.1 1 5), .ref 81], (gSq_153, s1, 770303)) rfl ?_
  obtain ⟨hc, hP⟩ := g_if hP
  refine hG.2.2.1 _ (26, [some (.ref 81), some (.ref 1)], [.ref 83, .ref 81], (gSq_154, (gZr s1 83 (s1.1 1 5).toNatClampNeg), (770303 + (s1.1 1 5).toNatClampNeg))) _ rfl (if_pos ⟨hc.1, Nat.le_trans hc.2 (by decide)⟩) (Nat.le_of_ble_eq_true rfl) (Nat.le_trans (Nat.add_le_add_left hc.2 770303) (show (770303 + 20000 : Nat) ≤ 990303 from Nat.le_of_ble_eq_true rfl)) ?_
  refine hG.2.2.2.2.2.1 _ _ _ _ _ _ 790303 (Nat.add_le_add_left hc.2 770303) (show (790303 : Nat) ≤ 990303 from Nat.le_of_ble_eq_true rfl) ?_
  obtain ⟨s2, es2, hP⟩ := g_let hP
  rw [← es2]
  refine hG.2.2.1 _ (29, [some (.ref 81), some (.ref 1)], [], (gSq_155, s2, 790303)) _ rfl rfl (Nat.le_of_ble_eq_true rfl) (show (790303 : Nat) ≤ 990303 from Nat.le_of_ble_eq_true rfl) ?_
  refine gRunN_ok hG.1 3 _ (34, [some (.ref 81), some (.ref 1)], [.int (s2.1 1 6), .ref 81], (gSq_155, s2, 790303)) rfl ?_
  obtain ⟨hc, hP⟩ := g_if hP
  refine hG.2.2.1 _ (36, [some (.ref 81), some (.ref 1)], [.ref 84, .ref 81], (gSq_156, (gZr s2 84 (s2.1 1 6).toNatClampNeg), (790303 + (s2.1 1 6).toNatClampNeg))) _ rfl (if_pos ⟨hc.1, Nat.le_trans hc.2 (by decide)⟩) (Nat.le_of_ble_eq_true rfl) (Nat.le_trans (Nat.add_le_add_left hc.2 790303) (show (790303 + 20000 : Nat) ≤ 990303 from Nat.le_of_ble_eq_true rfl)) ?_
  refine hG.2.2.2.2.2.1 _ _ _ _ _ _ 810303 (Nat.add_le_add_left hc.2 790303) (show (810303 : Nat) ≤ 990303 from Nat.le_of_ble_eq_true rfl) ?_
  obtain ⟨s3, es3, hP⟩ := g_let hP
  rw [← es3]
  refine hG.2.2.1 _ (39, [some (.ref 81), some (.ref 1)], [], (gSq_157, s3, 810303)) _ rfl rfl (Nat.le_of_ble_eq_true rfl) (show (810303 : Nat) ≤ 990303 from Nat.le_of_ble_eq_true rfl) ?_
  refine gRunN_ok hG.1 3 _ (44, [some (.ref 81), some (.ref 1)], [.int (s3.1 1 6), .ref 81], (gSq_157, s3, 810303)) rfl ?_
  obtain ⟨hc, hP⟩ := g_if hP
  refine hG.2.2.1 _ (46, [some (.ref 81), some (.ref 1)], [.ref 85, .ref 81], (gSq_158, (gZr s3 85 (s3.1 1 6).toNatClampNeg), (810303 + (s3.1 1 6).toNatClampNeg))) _ rfl (if_pos ⟨hc.1, Nat.le_trans hc.2 (by decide)⟩) (Nat.le_of_ble_eq_true rfl) (Nat.le_trans (Nat.add_le_add_left hc.2 810303) (show (810303 + 20000 : Nat) ≤ 990303 from Nat.le_of_ble_eq_true rfl)) ?_
  refine hG.2.2.2.2.2.1 _ _ _ _ _ _ 830303 (Nat.add_le_add_left hc.2 810303) (show (830303 : Nat) ≤ 990303 from Nat.le_of_ble_eq_true rfl) ?_
  obtain ⟨s4, es4, hP⟩ := g_let hP
  rw [← es4]
  refine hG.2.2.1 _ (49, [some (.ref 81), some (.ref 1)], [], (gSq_159, s4, 830303)) _ rfl rfl (Nat.le_of_ble_eq_true rfl) (show (830303 : Nat) ≤ 990303 from Nat.le_of_ble_eq_true rfl) ?_
  refine gRunN_ok hG.1 3 _ (54, [some (.ref 81), some (.ref 1)], [.int (s4.1 1 6), .ref 81], (gSq_159, s4, 830303)) rfl ?_
  obtain ⟨hc, hP⟩ := g_if hP
  refine hG.2.2.1 _ (56, [some (.ref 81), some (.ref 1)], [.ref 86, .ref 81], (gSq_160, (gZr s4 86 (s4.1 1 6).toNatClampNeg), (830303 + (s4.1 1 6).toNatClampNeg))) _ rfl (if_pos ⟨hc.1, Nat.le_trans hc.2 (by decide)⟩) (Nat.le_of_ble_eq_true rfl) (Nat.le_trans (Nat.add_le_add_left hc.2 830303) (show (830303 + 20000 : Nat) ≤ 990303 from Nat.le_of_ble_eq_true rfl)) ?_
  refine hG.2.2.2.2.2.1 _ _ _ _ _ _ 850303 (Nat.add_le_add_left hc.2 830303) (show (850303 : Nat) ≤ 990303 from Nat.le_of_ble_eq_true rfl) ?_
  obtain ⟨s5, es5, hP⟩ := g_let hP
  rw [← es5]
  refine hG.2.2.1 _ (59, [some (.ref 81), some (.ref 1)], [], (gSq_161, s5, 850303)) _ rfl rfl (Nat.le_of_ble_eq_true rfl) (show (850303 : Nat) ≤ 990303 from Nat.le_of_ble_eq_true rfl) ?_
  refine gRunN_ok hG.1 3 _ (64, [some (.ref 81), some (.ref 1)], [.int (s5.1 1 7), .ref 81], (gSq_161, s5, 850303)) rfl ?_
  obtain ⟨hc, hP⟩ := g_if hP
  refine hG.2.2.1 _ (66, [some (.ref 81), some (.ref 1)], [.ref 87, .ref 81], (gSq_162, (gZr s5 87 (s5.1 1 7).toNatClampNeg), (850303 + (s5.1 1 7).toNatClampNeg))) _ rfl (if_pos ⟨hc.1, Nat.le_trans hc.2 (by decide)⟩) (Nat.le_of_ble_eq_true rfl) (Nat.le_trans (Nat.add_le_add_left hc.2 850303) (show (850303 + 20000 : Nat) ≤ 990303 from Nat.le_of_ble_eq_true rfl)) ?_
  refine hG.2.2.2.2.2.1 _ _ _ _ _ _ 870303 (Nat.add_le_add_left hc.2 850303) (show (870303 : Nat) ≤ 990303 from Nat.le_of_ble_eq_true rfl) ?_
  obtain ⟨s6, es6, hP⟩ := g_let hP
  rw [← es6]
  refine hG.2.2.1 _ (69, [some (.ref 81), some (.ref 1)], [], (gSq_163, s6, 870303)) _ rfl rfl (Nat.le_of_ble_eq_true rfl) (show (870303 : Nat) ≤ 990303 from Nat.le_of_ble_eq_true rfl) ?_
  refine gRunN_ok hG.1 3 _ (74, [some (.ref 81), some (.ref 1)], [.int (s6.1 1 7), .ref 81], (gSq_163, s6, 870303)) rfl ?_
  obtain ⟨hc, hP⟩ := g_if hP
  refine hG.2.2.1 _ (76, [some (.ref 81), some (.ref 1)], [.ref 88, .ref 81], (gSq_164, (gZr s6 88 (s6.1 1 7).toNatClampNeg), (870303 + (s6.1 1 7).toNatClampNeg))) _ rfl (if_pos ⟨hc.1, Nat.le_trans hc.2 (by decide)⟩) (Nat.le_of_ble_eq_true rfl) (Nat.le_trans (Nat.add_le_add_left hc.2 870303) (show (870303 + 20000 : Nat) ≤ 990303 from Nat.le_of_ble_eq_true rfl)) ?_
  refine hG.2.2.2.2.2.1 _ _ _ _ _ _ 890303 (Nat.add_le_add_left hc.2 870303) (show (890303 : Nat) ≤ 990303 from Nat.le_of_ble_eq_true rfl) ?_
  obtain ⟨s7, es7, hP⟩ := g_let hP
  rw [← es7]
  refine hG.2.2.1 _ (79, [some (.ref 81), some (.ref 1)], [], (gSq_165, s7, 890303)) _ rfl rfl (Nat.le_of_ble_eq_true rfl) (show (890303 : Nat) ≤ 990303 from Nat.le_of_ble_eq_true rfl) ?_
  refine gRunN_ok hG.1 3 _ (84, [some (.ref 81), some (.ref 1)], [.int (s7.1 1 7), .ref 81], (gSq_165, s7, 890303)) rfl ?_
  obtain ⟨hc, hP⟩ := g_if hP
  refine hG.2.2.1 _ (86, [some (.ref 81), some (.ref 1)], [.ref 89, .ref 81], (gSq_166, (gZr s7 89 (s7.1 1 7).toNatClampNeg), (890303 + (s7.1 1 7).toNatClampNeg))) _ rfl (if_pos ⟨hc.1, Nat.le_trans hc.2 (by decide)⟩) (Nat.le_of_ble_eq_true rfl) (Nat.le_trans (Nat.add_le_add_left hc.2 890303) (show (890303 + 20000 : Nat) ≤ 990303 from Nat.le_of_ble_eq_true rfl)) ?_
  refine hG.2.2.2.2.2.1 _ _ _ _ _ _ 910303 (Nat.add_le_add_left hc.2 890303) (show (910303 : Nat) ≤ 990303 from Nat.le_of_ble_eq_true rfl) ?_
  obtain ⟨s8, es8, hP⟩ := g_let hP
  rw [← es8]
  refine hG.2.2.1 _ (89, [some (.ref 81), some (.ref 1)], [], (gSq_167, s8, 910303)) _ rfl rfl (Nat.le_of_ble_eq_true rfl) (show (910303 : Nat) ≤ 990303 from Nat.le_of_ble_eq_true rfl) ?_
  refine gRunN_ok hG.1 3 _ (94, [some (.ref 81), some (.ref 1)], [.int (s8.1 1 6), .ref 81], (gSq_167, s8, 910303)) rfl ?_
  obtain ⟨hc, hP⟩ := g_if hP
  refine hG.2.2.1 _ (96, [some (.ref 81), some (.ref 1)], [.ref 90, .ref 81], (gSq_168, (gZr s8 90 (s8.1 1 6).toNatClampNeg), (910303 + (s8.1 1 6).toNatClampNeg))) _ rfl (if_pos ⟨hc.1, Nat.le_trans hc.2 (by decide)⟩) (Nat.le_of_ble_eq_true rfl) (Nat.le_trans (Nat.add_le_add_left hc.2 910303) (show (910303 + 20000 : Nat) ≤ 990303 from Nat.le_of_ble_eq_true rfl)) ?_
  refine hG.2.2.2.2.2.1 _ _ _ _ _ _ 930303 (Nat.add_le_add_left hc.2 910303) (show (930303 : Nat) ≤ 990303 from Nat.le_of_ble_eq_true rfl) ?_
  obtain ⟨s9, es9, hP⟩ := g_let hP
  rw [← es9]
  refine hG.2.2.1 _ (99, [some (.ref 81), some (.ref 1)], [], (gSq_169, s9, 930303)) _ rfl rfl (Nat.le_of_ble_eq_true rfl) (show (930303 : Nat) ≤ 990303 from Nat.le_of_ble_eq_true rfl) ?_
  refine gRunN_ok hG.1 5 _ (106, [some (.ref 81), some (.ref 1)], [.int ((s9.1 1 6) * (4 : Int32)), .ref 81], (gSq_169, s9, 930303)) rfl ?_
  obtain ⟨hc, hP⟩ := g_if hP
  refine hG.2.2.1 _ (108, [some (.ref 81), some (.ref 1)], [.ref 91, .ref 81], (gSq_170, (gZr s9 91 ((s9.1 1 6) * (4 : Int32)).toNatClampNeg), (930303 + ((s9.1 1 6) * (4 : Int32)).toNatClampNeg))) _ rfl (if_pos ⟨hc.1, Nat.le_trans hc.2 (by decide)⟩) (Nat.le_of_ble_eq_true rfl) (Nat.le_trans (Nat.add_le_add_left hc.2 930303) (show (930303 + 20000 : Nat) ≤ 990303 from Nat.le_of_ble_eq_true rfl)) ?_
  refine hG.2.2.2.2.2.1 _ _ _ _ _ _ 950303 (Nat.add_le_add_left hc.2 930303) (show (950303 : Nat) ≤ 990303 from Nat.le_of_ble_eq_true rfl) ?_
  obtain ⟨s10, es10, hP⟩ := g_let hP
  rw [← es10]
  refine hG.2.2.1 _ (111, [some (.ref 81), some (.ref 1)], [], (gSq_171, s10, 950303)) _ rfl rfl (Nat.le_of_ble_eq_true rfl) (show (950303 : Nat) ≤ 990303 from Nat.le_of_ble_eq_true rfl) ?_
  refine gRunN_ok hG.1 5 _ (118, [some (.ref 81), some (.ref 1)], [.int ((s10.1 1 6) + (1 : Int32)), .ref 81], (gSq_171, s10, 950303)) rfl ?_
  obtain ⟨hc, hP⟩ := g_if hP
  refine hG.2.2.1 _ (120, [some (.ref 81), some (.ref 1)], [.ref 92, .ref 81], (gSq_172, (gZr s10 92 ((s10.1 1 6) + (1 : Int32)).toNatClampNeg), (950303 + ((s10.1 1 6) + (1 : Int32)).toNatClampNeg))) _ rfl (if_pos ⟨hc.1, Nat.le_trans hc.2 (by decide)⟩) (Nat.le_of_ble_eq_true rfl) (Nat.le_trans (Nat.add_le_add_left hc.2 950303) (show (950303 + 20000 : Nat) ≤ 990303 from Nat.le_of_ble_eq_true rfl)) ?_
  refine hG.2.2.2.2.2.1 _ _ _ _ _ _ 970303 (Nat.add_le_add_left hc.2 950303) (show (970303 : Nat) ≤ 990303 from Nat.le_of_ble_eq_true rfl) ?_
  obtain ⟨s11, es11, hP⟩ := g_let hP
  rw [← es11]
  refine hG.2.2.1 _ (123, [some (.ref 81), some (.ref 1)], [], (gSq_173, s11, 970303)) _ rfl rfl (Nat.le_of_ble_eq_true rfl) (show (970303 : Nat) ≤ 990303 from Nat.le_of_ble_eq_true rfl) ?_
  refine gRunN_ok hG.1 8 _ (135, [some (.ref 81), some (.ref 1)], [.int (((s11.1 1 6) * (4 : Int32)) * (s11.1 1 3)), .ref 81], (gSq_173, s11, 970303)) rfl ?_
  obtain ⟨hc, hP⟩ := g_if hP
  refine hG.2.2.1 _ (137, [some (.ref 81), some (.ref 1)], [.ref 93, .ref 81], (gSq_174, (gZr s11 93 (((s11.1 1 6) * (4 : Int32)) * (s11.1 1 3)).toNatClampNeg), (970303 + (((s11.1 1 6) * (4 : Int32)) * (s11.1 1 3)).toNatClampNeg))) _ rfl (if_pos ⟨hc.1, Nat.le_trans hc.2 (by decide)⟩) (Nat.le_of_ble_eq_true rfl) (Nat.le_trans (Nat.add_le_add_left hc.2 970303) (show (970303 + 20000 : Nat) ≤ 990303 from Nat.le_of_ble_eq_true rfl)) ?_
  refine hG.2.2.2.2.2.1 _ _ _ _ _ _ 990303 (Nat.add_le_add_left hc.2 970303) (show (990303 : Nat) ≤ 990303 from Nat.le_of_ble_eq_true rfl) ?_
  obtain ⟨s12, es12, hP⟩ := g_let hP
  rw [← es12]
  refine hG.2.2.1 _ (140, [some (.ref 81), some (.ref 1)], [], (gSq_175, s12, 990303)) _ rfl rfl (Nat.le_of_ble_eq_true rfl) (show (990303 : Nat) ≤ 990303 from Nat.le_of_ble_eq_true rfl) ?_
  cases hP
  exact hG.2.1 _ _ rfl rfl⟩
def p_Face_init (E : gEv) (a0 : Int32) (a1 : Int32) (a2 : Int32) (a3 : Int32) (σ : gS) : Option gS :=
  gLet (gPut σ 0 11 (-1)) fun s1 => gLet (gZr s1 1 20) fun s2 => gB1 (p_Face_nearest E a0 6 s2) fun v3 => gB1 (p_Face_nearest E a1 6 s2) fun v5 => gB1 (p_Face_nearest E a2 4 s2) fun v7 => gB1 (p_Face_nearest E a3 10 s2) fun v9 => gB1 (p_Grid_init E v3 v5 v7 v9 s2) fun s11 => gLet (gZr s11 10 7) fun s12 => gB1 (p_Text_init E s12) fun s13 => gLet (gZr s13 13 9) fun s14 => gB1 (p_Gates_init E s14) fun s15 => gLet (gZr s15 22 18) fun s16 => gB1 (p_Reader_init E (s16.1 1 5) s16) fun s17 => gLet (gZr s17 30 16) fun s18 => gB1 (p_Circuit_init E (s18.1 1 6) (s18.1 1 5) s18) fun s19 => gLet (gZr s19 40 3) fun s20 => gB1 (p_Mapper_init E s20) fun s21 => gLet (gZr s21 53 18) fun s22 => gB1 (p_Packing_init E s22) fun s23 => gLet (gZr s23 67 5) fun s24 => gB1 (p_Placing_init E s24) fun s25 => gLet (gZr s25 70 16) fun s26 => gB1 (p_Router_init E s26) fun s27 => gLet (gZr s27 81 17) fun s28 => gB1 (p_Field_init E s28) fun s29 => some s29
set_option maxRecDepth 20000 in
theorem c_Face_init (E : gEv) (d : Nat) (a0 : Int32) (a1 : Int32) (a2 : Int32) (a3 : Int32) (σ : gS) {sr : gS} (hq : p_Face_init E a0 a1 a2 a3 σ = some sr) : gC E gDf gMs (d + 4) 0 [.ref 0, .int a0, .int a1, .int a2, .int a3] (gSq_0, σ, 12) (none, (gSq_176, sr, 990303)) := ⟨gM0, rfl, Nat.le_of_ble_eq_true rfl, fun G hG => by
  have hP := hq
  unfold p_Face_init at hP
  replace hG : gClo E gDf gP0i gY0 none (gC E gDf gMs (d + 3)) (none, (gSq_176, sr, 990303)) G := hG
  show G (0, [some (.ref 0), some (.int a0), some (.int a1), some (.int a2), some (.int a3)], [], (gSq_0, σ, 12))
  refine gRunN_ok hG.1 5 _ (9, [some (.ref 0), some (.int a0), some (.int a1), some (.int a2), some (.int a3)], [], (gSq_0, (gPut σ 0 11 (-1)), 12)) rfl ?_
  obtain ⟨s1, es1, hP⟩ := g_let hP
  rw [← es1]
  refine gRunN_ok hG.1 1 _ (10, [some (.ref 0), some (.int a0), some (.int a1), some (.int a2), some (.int a3)], [.ref 0], (gSq_0, s1, 12)) rfl ?_
  refine hG.2.2.1 _ (13, [some (.ref 0), some (.int a0), some (.int a1), some (.int a2), some (.int a3)], [.ref 1, .ref 0], (gSq_1, (gZr s1 1 20), 32)) _ rfl rfl (Nat.le_of_ble_eq_true rfl) (show (32 : Nat) ≤ 990303 from Nat.le_of_ble_eq_true rfl) ?_
  obtain ⟨s2, es2, hP⟩ := g_let hP
  rw [← es2]
  refine gRunN_ok hG.1 3 _ (17, [some (.ref 0), some (.int a0), some (.int a1), some (.int a2), some (.int a3)], [.int 6, .int a0, .ref 1, .ref 1, .ref 0], (gSq_1, s2, 32)) rfl ?_
  obtain ⟨v3, hq, hP⟩ := g_b1 hP
  refine hG.2.2.2.1 _ _ _ [.int a0, .int 6] [.ref 1, .ref 1, .ref 0] _ (gSq_1, s2, 32) (some (.int v3)) _ _ _ _ _ _ rfl rfl rfl rfl rfl rfl (c_Face_nearest E (d + 2) 32 a0 6 _  hq) (Nat.le_refl _) (Nat.le_refl _) (Nat.le_of_ble_eq_true rfl) (show (32 : Nat) ≤ 990303 from Nat.le_of_ble_eq_true rfl) ?_
  show G (20, [some (.ref 0), some (.int a0), some (.int a1), some (.int a2), some (.int a3)], [.int v3, .ref 1, .ref 1, .ref 0], (gSq_1, s2, 32))
  refine gRunN_ok hG.1 2 _ (23, [some (.ref 0), some (.int a0), some (.int a1), some (.int a2), some (.int a3)], [.int 6, .int a1, .int v3, .ref 1, .ref 1, .ref 0], (gSq_1, s2, 32)) rfl ?_
  obtain ⟨v5, hq, hP⟩ := g_b1 hP
  refine hG.2.2.2.1 _ _ _ [.int a1, .int 6] [.int v3, .ref 1, .ref 1, .ref 0] _ (gSq_1, s2, 32) (some (.int v5)) _ _ _ _ _ _ rfl rfl rfl rfl rfl rfl (c_Face_nearest E (d + 2) 32 a1 6 _  hq) (Nat.le_refl _) (Nat.le_refl _) (Nat.le_of_ble_eq_true rfl) (show (32 : Nat) ≤ 990303 from Nat.le_of_ble_eq_true rfl) ?_
  show G (26, [some (.ref 0), some (.int a0), some (.int a1), some (.int a2), some (.int a3)], [.int v5, .int v3, .ref 1, .ref 1, .ref 0], (gSq_1, s2, 32))
  refine gRunN_ok hG.1 2 _ (28, [some (.ref 0), some (.int a0), some (.int a1), some (.int a2), some (.int a3)], [.int 4, .int a2, .int v5, .int v3, .ref 1, .ref 1, .ref 0], (gSq_1, s2, 32)) rfl ?_
  obtain ⟨v7, hq, hP⟩ := g_b1 hP
  refine hG.2.2.2.1 _ _ _ [.int a2, .int 4] [.int v5, .int v3, .ref 1, .ref 1, .ref 0] _ (gSq_1, s2, 32) (some (.int v7)) _ _ _ _ _ _ rfl rfl rfl rfl rfl rfl (c_Face_nearest E (d + 2) 32 a2 4 _  hq) (Nat.le_refl _) (Nat.le_refl _) (Nat.le_of_ble_eq_true rfl) (show (32 : Nat) ≤ 990303 from Nat.le_of_ble_eq_true rfl) ?_
  show G (31, [some (.ref 0), some (.int a0), some (.int a1), some (.int a2), some (.int a3)], [.int v7, .int v5, .int v3, .ref 1, .ref 1, .ref 0], (gSq_1, s2, 32))
  refine gRunN_ok hG.1 2 _ (35, [some (.ref 0), some (.int a0), some (.int a1), some (.int a2), some (.int a3)], [.int 10, .int a3, .int v7, .int v5, .int v3, .ref 1, .ref 1, .ref 0], (gSq_1, s2, 32)) rfl ?_
  obtain ⟨v9, hq, hP⟩ := g_b1 hP
  refine hG.2.2.2.1 _ _ _ [.int a3, .int 10] [.int v7, .int v5, .int v3, .ref 1, .ref 1, .ref 0] _ (gSq_1, s2, 32) (some (.int v9)) _ _ _ _ _ _ rfl rfl rfl rfl rfl rfl (c_Face_nearest E (d + 2) 32 a3 10 _  hq) (Nat.le_refl _) (Nat.le_refl _) (Nat.le_of_ble_eq_true rfl) (show (32 : Nat) ≤ 990303 from Nat.le_of_ble_eq_true rfl) ?_
  show G (38, [some (.ref 0), some (.int a0), some (.int a1), some (.int a2), some (.int a3)], [.int v9, .int v7, .int v5, .int v3, .ref 1, .ref 1, .ref 0], (gSq_1, s2, 32))
  obtain ⟨s11, hq, hP⟩ := g_b1 hP
  refine hG.2.2.2.1 _ _ _ [.ref 1, .int v3, .int v5, .int v7, .int v9] [.ref 1, .ref 0] _ (gShG, s11, 160032) none _ _ _ _ _ _ rfl rfl rfl rfl rfl rfl (c_Grid_init E (d + 0) v3 v5 v7 v9 _ hq) (Nat.le_of_ble_eq_true rfl) (show (32 : Nat) ≤ 160032 from Nat.le_of_ble_eq_true rfl) (Nat.le_of_ble_eq_true rfl) (show (160032 : Nat) ≤ 990303 from Nat.le_of_ble_eq_true rfl) ?_
  show G (41, [some (.ref 0), some (.int a0), some (.int a1), some (.int a2), some (.int a3)], [.ref 1, .ref 0], (gShG, s11, 160032))
  refine hG.2.2.1 _ (44, [some (.ref 0), some (.int a0), some (.int a1), some (.int a2), some (.int a3)], [], (gSq_17, s11, 160032)) _ rfl rfl (Nat.le_of_ble_eq_true rfl) (show (160032 : Nat) ≤ 990303 from Nat.le_of_ble_eq_true rfl) ?_
  refine gRunN_ok hG.1 1 _ (45, [some (.ref 0), some (.int a0), some (.int a1), some (.int a2), some (.int a3)], [.ref 0], (gSq_17, s11, 160032)) rfl ?_
  refine hG.2.2.1 _ (48, [some (.ref 0), some (.int a0), some (.int a1), some (.int a2), some (.int a3)], [.ref 10, .ref 0], (gSq_18, (gZr s11 10 7), 160039)) _ rfl rfl (Nat.le_of_ble_eq_true rfl) (show (160039 : Nat) ≤ 990303 from Nat.le_of_ble_eq_true rfl) ?_
  obtain ⟨s12, es12, hP⟩ := g_let hP
  rw [← es12]
  refine gRunN_ok hG.1 1 _ (49, [some (.ref 0), some (.int a0), some (.int a1), some (.int a2), some (.int a3)], [.ref 10, .ref 10, .ref 0], (gSq_18, s12, 160039)) rfl ?_
  obtain ⟨s13, hq, hP⟩ := g_b1 hP
  refine hG.2.2.2.1 _ _ _ [.ref 10] [.ref 10, .ref 0] _ (gSq_22, s13, 164059) none _ _ _ _ _ _ rfl rfl rfl rfl rfl rfl (c_Text_init E (d + 2) _ hq) (Nat.le_of_ble_eq_true rfl) (show (160039 : Nat) ≤ 164059 from Nat.le_of_ble_eq_true rfl) (Nat.le_of_ble_eq_true rfl) (show (164059 : Nat) ≤ 990303 from Nat.le_of_ble_eq_true rfl) ?_
  show G (52, [some (.ref 0), some (.int a0), some (.int a1), some (.int a2), some (.int a3)], [.ref 10, .ref 0], (gSq_22, s13, 164059))
  refine hG.2.2.1 _ (55, [some (.ref 0), some (.int a0), some (.int a1), some (.int a2), some (.int a3)], [], (gSq_23, s13, 164059)) _ rfl rfl (Nat.le_of_ble_eq_true rfl) (show (164059 : Nat) ≤ 990303 from Nat.le_of_ble_eq_true rfl) ?_
  refine gRunN_ok hG.1 1 _ (56, [some (.ref 0), some (.int a0), some (.int a1), some (.int a2), some (.int a3)], [.ref 0], (gSq_23, s13, 164059)) rfl ?_
  refine hG.2.2.1 _ (59, [some (.ref 0), some (.int a0), some (.int a1), some (.int a2), some (.int a3)], [.ref 13, .ref 0], (gSq_24, (gZr s13 13 9), 164068)) _ rfl rfl (Nat.le_of_ble_eq_true rfl) (show (164068 : Nat) ≤ 990303 from Nat.le_of_ble_eq_true rfl) ?_
  obtain ⟨s14, es14, hP⟩ := g_let hP
  rw [← es14]
  refine gRunN_ok hG.1 1 _ (60, [some (.ref 0), some (.int a0), some (.int a1), some (.int a2), some (.int a3)], [.ref 13, .ref 13, .ref 0], (gSq_24, s14, 164068)) rfl ?_
  obtain ⟨s15, hq, hP⟩ := g_b1 hP
  refine hG.2.2.2.1 _ _ _ [.ref 13] [.ref 13, .ref 0] _ (gSq_40, s15, 167368) none _ _ _ _ _ _ rfl rfl rfl rfl rfl rfl (c_Gates_init E (d + 2) _ hq) (Nat.le_of_ble_eq_true rfl) (show (164068 : Nat) ≤ 167368 from Nat.le_of_ble_eq_true rfl) (Nat.le_of_ble_eq_true rfl) (show (167368 : Nat) ≤ 990303 from Nat.le_of_ble_eq_true rfl) ?_
  show G (63, [some (.ref 0), some (.int a0), some (.int a1), some (.int a2), some (.int a3)], [.ref 13, .ref 0], (gSq_40, s15, 167368))
  refine hG.2.2.1 _ (66, [some (.ref 0), some (.int a0), some (.int a1), some (.int a2), some (.int a3)], [], (gSq_41, s15, 167368)) _ rfl rfl (Nat.le_of_ble_eq_true rfl) (show (167368 : Nat) ≤ 990303 from Nat.le_of_ble_eq_true rfl) ?_
  refine gRunN_ok hG.1 1 _ (67, [some (.ref 0), some (.int a0), some (.int a1), some (.int a2), some (.int a3)], [.ref 0], (gSq_41, s15, 167368)) rfl ?_
  refine hG.2.2.1 _ (70, [some (.ref 0), some (.int a0), some (.int a1), some (.int a2), some (.int a3)], [.ref 22, .ref 0], (gSq_42, (gZr s15 22 18), 167386)) _ rfl rfl (Nat.le_of_ble_eq_true rfl) (show (167386 : Nat) ≤ 990303 from Nat.le_of_ble_eq_true rfl) ?_
  obtain ⟨s16, es16, hP⟩ := g_let hP
  rw [← es16]
  refine gRunN_ok hG.1 8 _ (86, [some (.ref 0), some (.int a0), some (.int a1), some (.int a2), some (.int a3)], [.int (s16.1 1 5), .ref 13, .ref 10, .ref 22, .ref 22, .ref 0], (gSq_42, s16, 167386)) rfl ?_
  obtain ⟨s17, hq, hP⟩ := g_b1 hP
  refine hG.2.2.2.1 _ _ _ [.ref 22, .ref 10, .ref 13, .int (s16.1 1 5)] [.ref 22, .ref 0] _ (gSq_58, s17, 188145) none _ _ _ _ _ _ rfl rfl rfl rfl rfl rfl (c_Reader_init E (d + 2) (s16.1 1 5) _ hq) (Nat.le_of_ble_eq_true rfl) (show (167386 : Nat) ≤ 188145 from Nat.le_of_ble_eq_true rfl) (Nat.le_of_ble_eq_true rfl) (show (188145 : Nat) ≤ 990303 from Nat.le_of_ble_eq_true rfl) ?_
  show G (89, [some (.ref 0), some (.int a0), some (.int a1), some (.int a2), some (.int a3)], [.ref 22, .ref 0], (gSq_58, s17, 188145))
  refine hG.2.2.1 _ (92, [some (.ref 0), some (.int a0), some (.int a1), some (.int a2), some (.int a3)], [], (gSq_59, s17, 188145)) _ rfl rfl (Nat.le_of_ble_eq_true rfl) (show (188145 : Nat) ≤ 990303 from Nat.le_of_ble_eq_true rfl) ?_
  refine gRunN_ok hG.1 1 _ (93, [some (.ref 0), some (.int a0), some (.int a1), some (.int a2), some (.int a3)], [.ref 0], (gSq_59, s17, 188145)) rfl ?_
  refine hG.2.2.1 _ (96, [some (.ref 0), some (.int a0), some (.int a1), some (.int a2), some (.int a3)], [.ref 30, .ref 0], (gSq_60, (gZr s17 30 16), 188161)) _ rfl rfl (Nat.le_of_ble_eq_true rfl) (show (188161 : Nat) ≤ 990303 from Nat.le_of_ble_eq_true rfl) ?_
  obtain ⟨s18, es18, hP⟩ := g_let hP
  rw [← es18]
  refine gRunN_ok hG.1 7 _ (111, [some (.ref 0), some (.int a0), some (.int a1), some (.int a2), some (.int a3)], [.int (s18.1 1 5), .int (s18.1 1 6), .ref 30, .ref 30, .ref 0], (gSq_60, s18, 188161)) rfl ?_
  obtain ⟨s19, hq, hP⟩ := g_b1 hP
  refine hG.2.2.2.1 _ _ _ [.ref 30, .int (s18.1 1 6), .int (s18.1 1 5)] [.ref 30, .ref 0] _ (gSq_78, s19, 288761) none _ _ _ _ _ _ rfl rfl rfl rfl rfl rfl (c_Circuit_init E (d + 2) (s18.1 1 6) (s18.1 1 5) _ hq) (Nat.le_of_ble_eq_true rfl) (show (188161 : Nat) ≤ 288761 from Nat.le_of_ble_eq_true rfl) (Nat.le_of_ble_eq_true rfl) (show (288761 : Nat) ≤ 990303 from Nat.le_of_ble_eq_true rfl) ?_
  show G (114, [some (.ref 0), some (.int a0), some (.int a1), some (.int a2), some (.int a3)], [.ref 30, .ref 0], (gSq_78, s19, 288761))
  refine hG.2.2.1 _ (117, [some (.ref 0), some (.int a0), some (.int a1), some (.int a2), some (.int a3)], [], (gSq_79, s19, 288761)) _ rfl rfl (Nat.le_of_ble_eq_true rfl) (show (288761 : Nat) ≤ 990303 from Nat.le_of_ble_eq_true rfl) ?_
  refine gRunN_ok hG.1 1 _ (118, [some (.ref 0), some (.int a0), some (.int a1), some (.int a2), some (.int a3)], [.ref 0], (gSq_79, s19, 288761)) rfl ?_
  refine hG.2.2.1 _ (121, [some (.ref 0), some (.int a0), some (.int a1), some (.int a2), some (.int a3)], [.ref 40, .ref 0], (gSq_80, (gZr s19 40 3), 288764)) _ rfl rfl (Nat.le_of_ble_eq_true rfl) (show (288764 : Nat) ≤ 990303 from Nat.le_of_ble_eq_true rfl) ?_
  obtain ⟨s20, es20, hP⟩ := g_let hP
  rw [← es20]
  refine gRunN_ok hG.1 3 _ (126, [some (.ref 0), some (.int a0), some (.int a1), some (.int a2), some (.int a3)], [.ref 30, .ref 40, .ref 40, .ref 0], (gSq_80, s20, 288764)) rfl ?_
  obtain ⟨s21, hq, hP⟩ := g_b1 hP
  refine hG.2.2.2.1 _ _ _ [.ref 40, .ref 30] [.ref 40, .ref 0] _ (gSq_85, s21, 290094) none _ _ _ _ _ _ rfl rfl rfl rfl rfl rfl (c_Mapper_init E (d + 2) _ hq) (Nat.le_of_ble_eq_true rfl) (show (288764 : Nat) ≤ 290094 from Nat.le_of_ble_eq_true rfl) (Nat.le_of_ble_eq_true rfl) (show (290094 : Nat) ≤ 990303 from Nat.le_of_ble_eq_true rfl) ?_
  show G (129, [some (.ref 0), some (.int a0), some (.int a1), some (.int a2), some (.int a3)], [.ref 40, .ref 0], (gSq_85, s21, 290094))
  refine hG.2.2.1 _ (132, [some (.ref 0), some (.int a0), some (.int a1), some (.int a2), some (.int a3)], [], (gSq_86, s21, 290094)) _ rfl rfl (Nat.le_of_ble_eq_true rfl) (show (290094 : Nat) ≤ 990303 from Nat.le_of_ble_eq_true rfl) ?_
  refine gRunN_ok hG.1 1 _ (133, [some (.ref 0), some (.int a0), some (.int a1), some (.int a2), some (.int a3)], [.ref 0], (gSq_86, s21, 290094)) rfl ?_
  refine hG.2.2.1 _ (136, [some (.ref 0), some (.int a0), some (.int a1), some (.int a2), some (.int a3)], [.ref 53, .ref 0], (gSq_87, (gZr s21 53 18), 290112)) _ rfl rfl (Nat.le_of_ble_eq_true rfl) (show (290112 : Nat) ≤ 990303 from Nat.le_of_ble_eq_true rfl) ?_
  obtain ⟨s22, es22, hP⟩ := g_let hP
  rw [← es22]
  refine gRunN_ok hG.1 5 _ (145, [some (.ref 0), some (.int a0), some (.int a1), some (.int a2), some (.int a3)], [.ref 30, .ref 1, .ref 53, .ref 53, .ref 0], (gSq_87, s22, 290112)) rfl ?_
  obtain ⟨s23, hq, hP⟩ := g_b1 hP
  refine hG.2.2.2.1 _ _ _ [.ref 53, .ref 1, .ref 30] [.ref 53, .ref 0] _ (gSq_115, s23, 530262) none _ _ _ _ _ _ rfl rfl rfl rfl rfl rfl (c_Packing_init E (d + 2) _ hq) (Nat.le_of_ble_eq_true rfl) (show (290112 : Nat) ≤ 530262 from Nat.le_of_ble_eq_true rfl) (Nat.le_of_ble_eq_true rfl) (show (530262 : Nat) ≤ 990303 from Nat.le_of_ble_eq_true rfl) ?_
  show G (148, [some (.ref 0), some (.int a0), some (.int a1), some (.int a2), some (.int a3)], [.ref 53, .ref 0], (gSq_115, s23, 530262))
  refine hG.2.2.1 _ (151, [some (.ref 0), some (.int a0), some (.int a1), some (.int a2), some (.int a3)], [], (gSq_116, s23, 530262)) _ rfl rfl (Nat.le_of_ble_eq_true rfl) (show (530262 : Nat) ≤ 990303 from Nat.le_of_ble_eq_true rfl) ?_
  refine gRunN_ok hG.1 1 _ (152, [some (.ref 0), some (.int a0), some (.int a1), some (.int a2), some (.int a3)], [.ref 0], (gSq_116, s23, 530262)) rfl ?_
  refine hG.2.2.1 _ (155, [some (.ref 0), some (.int a0), some (.int a1), some (.int a2), some (.int a3)], [.ref 67, .ref 0], (gSq_117, (gZr s23 67 5), 530267)) _ rfl rfl (Nat.le_of_ble_eq_true rfl) (show (530267 : Nat) ≤ 990303 from Nat.le_of_ble_eq_true rfl) ?_
  obtain ⟨s24, es24, hP⟩ := g_let hP
  rw [← es24]
  refine gRunN_ok hG.1 5 _ (164, [some (.ref 0), some (.int a0), some (.int a1), some (.int a2), some (.int a3)], [.ref 53, .ref 1, .ref 67, .ref 67, .ref 0], (gSq_117, s24, 530267)) rfl ?_
  obtain ⟨s25, hq, hP⟩ := g_b1 hP
  refine hG.2.2.2.1 _ _ _ [.ref 67, .ref 1, .ref 53] [.ref 67, .ref 0] _ (gSq_123, s25, 570267) none _ _ _ _ _ _ rfl rfl rfl rfl rfl rfl (c_Placing_init E (d + 1) _ hq) (Nat.le_of_ble_eq_true rfl) (show (530267 : Nat) ≤ 570267 from Nat.le_of_ble_eq_true rfl) (Nat.le_of_ble_eq_true rfl) (show (570267 : Nat) ≤ 990303 from Nat.le_of_ble_eq_true rfl) ?_
  show G (167, [some (.ref 0), some (.int a0), some (.int a1), some (.int a2), some (.int a3)], [.ref 67, .ref 0], (gSq_123, s25, 570267))
  refine hG.2.2.1 _ (170, [some (.ref 0), some (.int a0), some (.int a1), some (.int a2), some (.int a3)], [], (gSq_124, s25, 570267)) _ rfl rfl (Nat.le_of_ble_eq_true rfl) (show (570267 : Nat) ≤ 990303 from Nat.le_of_ble_eq_true rfl) ?_
  refine gRunN_ok hG.1 1 _ (171, [some (.ref 0), some (.int a0), some (.int a1), some (.int a2), some (.int a3)], [.ref 0], (gSq_124, s25, 570267)) rfl ?_
  refine hG.2.2.1 _ (174, [some (.ref 0), some (.int a0), some (.int a1), some (.int a2), some (.int a3)], [.ref 70, .ref 0], (gSq_125, (gZr s25 70 16), 570283)) _ rfl rfl (Nat.le_of_ble_eq_true rfl) (show (570283 : Nat) ≤ 990303 from Nat.le_of_ble_eq_true rfl) ?_
  obtain ⟨s26, es26, hP⟩ := g_let hP
  rw [← es26]
  refine gRunN_ok hG.1 7 _ (187, [some (.ref 0), some (.int a0), some (.int a1), some (.int a2), some (.int a3)], [.ref 67, .ref 53, .ref 1, .ref 70, .ref 70, .ref 0], (gSq_125, s26, 570283)) rfl ?_
  obtain ⟨s27, hq, hP⟩ := g_b1 hP
  refine hG.2.2.2.1 _ _ _ [.ref 70, .ref 1, .ref 53, .ref 67] [.ref 70, .ref 0] _ (gSq_148, s27, 750286) none _ _ _ _ _ _ rfl rfl rfl rfl rfl rfl (c_Router_init E (d + 1) _ hq) (Nat.le_of_ble_eq_true rfl) (show (570283 : Nat) ≤ 750286 from Nat.le_of_ble_eq_true rfl) (Nat.le_of_ble_eq_true rfl) (show (750286 : Nat) ≤ 990303 from Nat.le_of_ble_eq_true rfl) ?_
  show G (190, [some (.ref 0), some (.int a0), some (.int a1), some (.int a2), some (.int a3)], [.ref 70, .ref 0], (gSq_148, s27, 750286))
  refine hG.2.2.1 _ (193, [some (.ref 0), some (.int a0), some (.int a1), some (.int a2), some (.int a3)], [], (gSq_149, s27, 750286)) _ rfl rfl (Nat.le_of_ble_eq_true rfl) (show (750286 : Nat) ≤ 990303 from Nat.le_of_ble_eq_true rfl) ?_
  refine gRunN_ok hG.1 1 _ (194, [some (.ref 0), some (.int a0), some (.int a1), some (.int a2), some (.int a3)], [.ref 0], (gSq_149, s27, 750286)) rfl ?_
  refine hG.2.2.1 _ (197, [some (.ref 0), some (.int a0), some (.int a1), some (.int a2), some (.int a3)], [.ref 81, .ref 0], (gSq_150, (gZr s27 81 17), 750303)) _ rfl rfl (Nat.le_of_ble_eq_true rfl) (show (750303 : Nat) ≤ 990303 from Nat.le_of_ble_eq_true rfl) ?_
  obtain ⟨s28, es28, hP⟩ := g_let hP
  rw [← es28]
  refine gRunN_ok hG.1 3 _ (202, [some (.ref 0), some (.int a0), some (.int a1), some (.int a2), some (.int a3)], [.ref 1, .ref 81, .ref 81, .ref 0], (gSq_150, s28, 750303)) rfl ?_
  obtain ⟨s29, hq, hP⟩ := g_b1 hP
  refine hG.2.2.2.1 _ _ _ [.ref 81, .ref 1] [.ref 81, .ref 0] _ (gSq_175, s29, 990303) none _ _ _ _ _ _ rfl rfl rfl rfl rfl rfl (c_Field_init E (d + 2) _ hq) (Nat.le_of_ble_eq_true rfl) (show (750303 : Nat) ≤ 990303 from Nat.le_of_ble_eq_true rfl) (Nat.le_of_ble_eq_true rfl) (show (990303 : Nat) ≤ 990303 from Nat.le_of_ble_eq_true rfl) ?_
  show G (205, [some (.ref 0), some (.int a0), some (.int a1), some (.int a2), some (.int a3)], [.ref 81, .ref 0], (gSq_175, s29, 990303))
  refine hG.2.2.1 _ (208, [some (.ref 0), some (.int a0), some (.int a1), some (.int a2), some (.int a3)], [], (gSq_176, s29, 990303)) _ rfl rfl (Nat.le_of_ble_eq_true rfl) (show (990303 : Nat) ≤ 990303 from Nat.le_of_ble_eq_true rfl) ?_
  cases hP
  exact hG.2.1 _ _ rfl rfl⟩
def p_Model_init_j717 (E : gEv) (y1 : Int32) (σ : gS) : Option (gS) :=
  gLet (gPut σ 94 3 y1) fun s174 => gLet (gPut s174 94 4 ((s174.1 94 0) * (s174.1 94 1))) fun s175 => gLet (gPut s175 94 5 ((s175.1 94 4) * (s175.1 94 2))) fun s176 => gLet (gPut s176 94 6 ((4 : Int32) * ((s176.1 94 0) + (s176.1 94 1)))) fun s177 => gLet (gPut s177 94 7 ((((s177.1 94 1) + (1 : Int32)) * (s177.1 94 0)) * (s177.1 94 3))) fun s178 => gLet (gPut s178 94 8 ((s178.1 94 7) + (((s178.1 94 1) * ((s178.1 94 0) + (1 : Int32))) * (s178.1 94 3)))) fun s179 => gLet (gPut s179 94 9 ((42 : Int32) + ((4 : Int32) * (s179.1 94 3)))) fun s180 => gLet (gPut s180 94 10 ((6 : Int32) + (s180.1 94 3))) fun s181 => gLet (gPut s181 94 11 ((s181.1 94 5) * (s181.1 94 9))) fun s182 => gLet (gPut s182 94 12 ((s182.1 94 11) + ((s182.1 94 6) * (s182.1 94 10)))) fun s183 => gLet (gPut s183 94 13 ((s183.1 94 12) + (((((s183.1 94 0) + (1 : Int32)) * ((s183.1 94 1) + (1 : Int32))) * (s183.1 94 3)) * (6 : Int32)))) fun s184 => gLet (gPut s184 94 18 (-1)) fun s185 => gB1 (p_Model_neighbours E s185) fun s187 => some s187
set_option maxRecDepth 20000 in
theorem j_Model_init_j717 (E : gEv) (d : Nat) {G : gFr → Prop} {sr : gS} (hG : gClo E gDf gP18i gY187 none (gC E gDf gMs (d + 3)) (none, (gSh, sr, 1862292)) G) (y1 : Int32) (σ : gS) (hP : p_Model_init_j717 E y1 σ = some sr) : G (717, [some (.ref 94), none, none, none, none], [.int y1, .ref 94], (gSh, σ, 1862292)) := by
  unfold p_Model_init_j717 at hP
  refine gRunN_ok hG.1 1 _ (720, [some (.ref 94), none, none, none, none], [], (gSh, (gPut σ 94 3 y1), 1862292)) rfl ?_
  obtain ⟨s174, es174, hP⟩ := g_let hP
  rw [← es174]
  refine gRunN_ok hG.1 7 _ (733, [some (.ref 94), none, none, none, none], [], (gSh, (gPut s174 94 4 ((s174.1 94 0) * (s174.1 94 1))), 1862292)) rfl ?_
  obtain ⟨s175, es175, hP⟩ := g_let hP
  rw [← es175]
  refine gRunN_ok hG.1 7 _ (746, [some (.ref 94), none, none, none, none], [], (gSh, (gPut s175 94 5 ((s175.1 94 4) * (s175.1 94 2))), 1862292)) rfl ?_
  obtain ⟨s176, es176, hP⟩ := g_let hP
  rw [← es176]
  refine gRunN_ok hG.1 9 _ (761, [some (.ref 94), none, none, none, none], [], (gSh, (gPut s176 94 6 ((4 : Int32) * ((s176.1 94 0) + (s176.1 94 1)))), 1862292)) rfl ?_
  obtain ⟨s177, es177, hP⟩ := g_let hP
  rw [← es177]
  refine gRunN_ok hG.1 12 _ (781, [some (.ref 94), none, none, none, none], [], (gSh, (gPut s177 94 7 ((((s177.1 94 1) + (1 : Int32)) * (s177.1 94 0)) * (s177.1 94 3))), 1862292)) rfl ?_
  obtain ⟨s178, es178, hP⟩ := g_let hP
  rw [← es178]
  refine gRunN_ok hG.1 15 _ (806, [some (.ref 94), none, none, none, none], [], (gSh, (gPut s178 94 8 ((s178.1 94 7) + (((s178.1 94 1) * ((s178.1 94 0) + (1 : Int32))) * (s178.1 94 3)))), 1862292)) rfl ?_
  obtain ⟨s179, es179, hP⟩ := g_let hP
  rw [← es179]
  refine gRunN_ok hG.1 8 _ (819, [some (.ref 94), none, none, none, none], [], (gSh, (gPut s179 94 9 ((42 : Int32) + ((4 : Int32) * (s179.1 94 3)))), 1862292)) rfl ?_
  obtain ⟨s180, es180, hP⟩ := g_let hP
  rw [← es180]
  refine gRunN_ok hG.1 6 _ (830, [some (.ref 94), none, none, none, none], [], (gSh, (gPut s180 94 10 ((6 : Int32) + (s180.1 94 3))), 1862292)) rfl ?_
  obtain ⟨s181, es181, hP⟩ := g_let hP
  rw [← es181]
  refine gRunN_ok hG.1 7 _ (843, [some (.ref 94), none, none, none, none], [], (gSh, (gPut s181 94 11 ((s181.1 94 5) * (s181.1 94 9))), 1862292)) rfl ?_
  obtain ⟨s182, es182, hP⟩ := g_let hP
  rw [← es182]
  refine gRunN_ok hG.1 10 _ (861, [some (.ref 94), none, none, none, none], [], (gSh, (gPut s182 94 12 ((s182.1 94 11) + ((s182.1 94 6) * (s182.1 94 10)))), 1862292)) rfl ?_
  obtain ⟨s183, es183, hP⟩ := g_let hP
  rw [← es183]
  refine gRunN_ok hG.1 19 _ (891, [some (.ref 94), none, none, none, none], [], (gSh, (gPut s183 94 13 ((s183.1 94 12) + (((((s183.1 94 0) + (1 : Int32)) * ((s183.1 94 1) + (1 : Int32))) * (s183.1 94 3)) * (6 : Int32)))), 1862292)) rfl ?_
  obtain ⟨s184, es184, hP⟩ := g_let hP
  rw [← es184]
  refine gRunN_ok hG.1 3 _ (896, [some (.ref 94), none, none, none, none], [], (gSh, (gPut s184 94 18 (-1)), 1862292)) rfl ?_
  obtain ⟨s185, es185, hP⟩ := g_let hP
  rw [← es185]
  refine gRunN_ok hG.1 1 _ (897, [some (.ref 94), none, none, none, none], [.ref 94], (gSh, s185, 1862292)) rfl ?_
  obtain ⟨s187, hq, hP⟩ := g_b1 hP
  refine hG.2.2.2.1 _ _ _ [.ref 94] [] _ (gSh, s187, 1862292) none _ _ _ _ _ _ rfl rfl rfl rfl rfl rfl (c_Model_neighbours E (d + 0) 1862292 _  hq) (Nat.le_refl _) (Nat.le_refl _) (Nat.le_refl _) (Nat.le_refl _) ?_
  show G (900, [some (.ref 94), none, none, none, none], [], (gSh, s187, 1862292))
  cases hP
  exact hG.2.1 _ _ rfl rfl
def p_Model_init_j689 (E : gEv) (l4 : Int32) (y1 : Int32) (σ : gS) : Option (gS) :=
  gLet (gPut σ 94 2 y1) fun s173 => if (1 : Int32) ≤ l4 then (if l4 ≤ (10 : Int32) then (p_Model_init_j717 E l4 s173) else (p_Model_init_j717 E 10 s173)) else (p_Model_init_j717 E 1 s173)
set_option maxRecDepth 20000 in
theorem j_Model_init_j689 (E : gEv) (d : Nat) {G : gFr → Prop} {sr : gS} (hG : gClo E gDf gP18i gY187 none (gC E gDf gMs (d + 3)) (none, (gSh, sr, 1862292)) G) (l4 : Int32) (y1 : Int32) (σ : gS) (hP : p_Model_init_j689 E l4 y1 σ = some sr) : G (689, [some (.ref 94), none, none, none, some (.int l4)], [.int y1, .ref 94], (gSh, σ, 1862292)) := by
  unfold p_Model_init_j689 at hP
  refine gRunN_ok hG.1 1 _ (692, [some (.ref 94), none, none, none, some (.int l4)], [], (gSh, (gPut σ 94 2 y1), 1862292)) rfl ?_
  obtain ⟨s173, es173, hP⟩ := g_let hP
  rw [← es173]
  refine gRunN_ok hG.1 3 _ (696, [some (.ref 94), none, none, none, some (.int l4)], [.int 1, .int l4, .ref 94], (gSh, s173, 1862292)) rfl ?_
  rcases g_ite hP with ⟨hc, hP⟩ | ⟨hc, hP⟩
  · refine hG.1 _ (703, [some (.ref 94), none, none, none, some (.int l4)], [.ref 94], (gSh, s173, 1862292)) _ rfl (if_pos hc) ?_
    refine gRunN_ok hG.1 2 _ (707, [some (.ref 94), none, none, none, some (.int l4)], [.int 10, .int l4, .ref 94], (gSh, s173, 1862292)) rfl ?_
    rcases g_ite hP with ⟨hc, hP⟩ | ⟨hc, hP⟩
    · refine hG.1 _ (715, [some (.ref 94), none, none, none, some (.int l4)], [.ref 94], (gSh, s173, 1862292)) _ rfl (if_pos hc) ?_
      refine gRunN_ok hG.1 1 _ (717, [some (.ref 94), none, none, none, some (.int l4)], [.int l4, .ref 94], (gSh, s173, 1862292)) rfl ?_
      refine hG.2.2.2.2.1 _ _ [some (.ref 94), none, none, none, none] _ _ ⟨rfl, trivial⟩ ?_
      exact j_Model_init_j717 E d hG l4 s173 hP
    · refine hG.1 _ (710, [some (.ref 94), none, none, none, some (.int l4)], [.ref 94], (gSh, s173, 1862292)) _ rfl (if_neg hc) ?_
      refine gRunN_ok hG.1 2 _ (717, [some (.ref 94), none, none, none, some (.int l4)], [.int 10, .ref 94], (gSh, s173, 1862292)) rfl ?_
      refine hG.2.2.2.2.1 _ _ [some (.ref 94), none, none, none, none] _ _ ⟨rfl, trivial⟩ ?_
      exact j_Model_init_j717 E d hG 10 s173 hP
  · refine hG.1 _ (699, [some (.ref 94), none, none, none, some (.int l4)], [.ref 94], (gSh, s173, 1862292)) _ rfl (if_neg hc) ?_
    refine gRunN_ok hG.1 2 _ (717, [some (.ref 94), none, none, none, some (.int l4)], [.int 1, .ref 94], (gSh, s173, 1862292)) rfl ?_
    refine hG.2.2.2.2.1 _ _ [some (.ref 94), none, none, none, none] _ _ ⟨rfl, trivial⟩ ?_
    exact j_Model_init_j717 E d hG 1 s173 hP
def p_Model_init_j666 (E : gEv) (l3 : Int32) (l4 : Int32) (y1 : Int32) (σ : gS) : Option (gS) :=
  gLet (gPut σ 94 1 y1) fun s172 => if (1 : Int32) ≤ l3 then (if l3 ≤ (4 : Int32) then (p_Model_init_j689 E l4 l3 s172) else (p_Model_init_j689 E l4 4 s172)) else (p_Model_init_j689 E l4 1 s172)
set_option maxRecDepth 20000 in
theorem j_Model_init_j666 (E : gEv) (d : Nat) {G : gFr → Prop} {sr : gS} (hG : gClo E gDf gP18i gY187 none (gC E gDf gMs (d + 3)) (none, (gSh, sr, 1862292)) G) (l3 : Int32) (l4 : Int32) (y1 : Int32) (σ : gS) (hP : p_Model_init_j666 E l3 l4 y1 σ = some sr) : G (666, [some (.ref 94), none, none, some (.int l3), some (.int l4)], [.int y1, .ref 94], (gSh, σ, 1862292)) := by
  unfold p_Model_init_j666 at hP
  refine gRunN_ok hG.1 1 _ (669, [some (.ref 94), none, none, some (.int l3), some (.int l4)], [], (gSh, (gPut σ 94 1 y1), 1862292)) rfl ?_
  obtain ⟨s172, es172, hP⟩ := g_let hP
  rw [← es172]
  refine gRunN_ok hG.1 3 _ (672, [some (.ref 94), none, none, some (.int l3), some (.int l4)], [.int 1, .int l3, .ref 94], (gSh, s172, 1862292)) rfl ?_
  rcases g_ite hP with ⟨hc, hP⟩ | ⟨hc, hP⟩
  · refine hG.1 _ (679, [some (.ref 94), none, none, some (.int l3), some (.int l4)], [.ref 94], (gSh, s172, 1862292)) _ rfl (if_pos hc) ?_
    refine gRunN_ok hG.1 2 _ (681, [some (.ref 94), none, none, some (.int l3), some (.int l4)], [.int 4, .int l3, .ref 94], (gSh, s172, 1862292)) rfl ?_
    rcases g_ite hP with ⟨hc, hP⟩ | ⟨hc, hP⟩
    · refine hG.1 _ (688, [some (.ref 94), none, none, some (.int l3), some (.int l4)], [.ref 94], (gSh, s172, 1862292)) _ rfl (if_pos hc) ?_
      refine gRunN_ok hG.1 1 _ (689, [some (.ref 94), none, none, some (.int l3), some (.int l4)], [.int l3, .ref 94], (gSh, s172, 1862292)) rfl ?_
      refine hG.2.2.2.2.1 _ _ [some (.ref 94), none, none, none, some (.int l4)] _ _ ⟨rfl, ⟨rfl, trivial⟩⟩ ?_
      exact j_Model_init_j689 E d hG l4 l3 s172 hP
    · refine hG.1 _ (684, [some (.ref 94), none, none, some (.int l3), some (.int l4)], [.ref 94], (gSh, s172, 1862292)) _ rfl (if_neg hc) ?_
      refine gRunN_ok hG.1 2 _ (689, [some (.ref 94), none, none, some (.int l3), some (.int l4)], [.int 4, .ref 94], (gSh, s172, 1862292)) rfl ?_
      refine hG.2.2.2.2.1 _ _ [some (.ref 94), none, none, none, some (.int l4)] _ _ ⟨rfl, ⟨rfl, trivial⟩⟩ ?_
      exact j_Model_init_j689 E d hG l4 4 s172 hP
  · refine hG.1 _ (675, [some (.ref 94), none, none, some (.int l3), some (.int l4)], [.ref 94], (gSh, s172, 1862292)) _ rfl (if_neg hc) ?_
    refine gRunN_ok hG.1 2 _ (689, [some (.ref 94), none, none, some (.int l3), some (.int l4)], [.int 1, .ref 94], (gSh, s172, 1862292)) rfl ?_
    refine hG.2.2.2.2.1 _ _ [some (.ref 94), none, none, none, some (.int l4)] _ _ ⟨rfl, ⟨rfl, trivial⟩⟩ ?_
    exact j_Model_init_j689 E d hG l4 1 s172 hP
def p_Model_init_j641 (E : gEv) (l2 : Int32) (l3 : Int32) (l4 : Int32) (y1 : Int32) (σ : gS) : Option (gS) :=
  gLet (gPut σ 94 0 y1) fun s171 => if (1 : Int32) ≤ l2 then (if l2 ≤ (6 : Int32) then (p_Model_init_j666 E l3 l4 l2 s171) else (p_Model_init_j666 E l3 l4 6 s171)) else (p_Model_init_j666 E l3 l4 1 s171)
set_option maxRecDepth 20000 in
theorem j_Model_init_j641 (E : gEv) (d : Nat) {G : gFr → Prop} {sr : gS} (hG : gClo E gDf gP18i gY187 none (gC E gDf gMs (d + 3)) (none, (gSh, sr, 1862292)) G) (l2 : Int32) (l3 : Int32) (l4 : Int32) (y1 : Int32) (σ : gS) (hP : p_Model_init_j641 E l2 l3 l4 y1 σ = some sr) : G (641, [some (.ref 94), none, some (.int l2), some (.int l3), some (.int l4)], [.int y1, .ref 94], (gSh, σ, 1862292)) := by
  unfold p_Model_init_j641 at hP
  refine gRunN_ok hG.1 1 _ (644, [some (.ref 94), none, some (.int l2), some (.int l3), some (.int l4)], [], (gSh, (gPut σ 94 0 y1), 1862292)) rfl ?_
  obtain ⟨s171, es171, hP⟩ := g_let hP
  rw [← es171]
  refine gRunN_ok hG.1 3 _ (647, [some (.ref 94), none, some (.int l2), some (.int l3), some (.int l4)], [.int 1, .int l2, .ref 94], (gSh, s171, 1862292)) rfl ?_
  rcases g_ite hP with ⟨hc, hP⟩ | ⟨hc, hP⟩
  · refine hG.1 _ (654, [some (.ref 94), none, some (.int l2), some (.int l3), some (.int l4)], [.ref 94], (gSh, s171, 1862292)) _ rfl (if_pos hc) ?_
    refine gRunN_ok hG.1 2 _ (657, [some (.ref 94), none, some (.int l2), some (.int l3), some (.int l4)], [.int 6, .int l2, .ref 94], (gSh, s171, 1862292)) rfl ?_
    rcases g_ite hP with ⟨hc, hP⟩ | ⟨hc, hP⟩
    · refine hG.1 _ (665, [some (.ref 94), none, some (.int l2), some (.int l3), some (.int l4)], [.ref 94], (gSh, s171, 1862292)) _ rfl (if_pos hc) ?_
      refine gRunN_ok hG.1 1 _ (666, [some (.ref 94), none, some (.int l2), some (.int l3), some (.int l4)], [.int l2, .ref 94], (gSh, s171, 1862292)) rfl ?_
      refine hG.2.2.2.2.1 _ _ [some (.ref 94), none, none, some (.int l3), some (.int l4)] _ _ ⟨rfl, ⟨rfl, ⟨rfl, trivial⟩⟩⟩ ?_
      exact j_Model_init_j666 E d hG l3 l4 l2 s171 hP
    · refine hG.1 _ (660, [some (.ref 94), none, some (.int l2), some (.int l3), some (.int l4)], [.ref 94], (gSh, s171, 1862292)) _ rfl (if_neg hc) ?_
      refine gRunN_ok hG.1 2 _ (666, [some (.ref 94), none, some (.int l2), some (.int l3), some (.int l4)], [.int 6, .ref 94], (gSh, s171, 1862292)) rfl ?_
      refine hG.2.2.2.2.1 _ _ [some (.ref 94), none, none, some (.int l3), some (.int l4)] _ _ ⟨rfl, ⟨rfl, ⟨rfl, trivial⟩⟩⟩ ?_
      exact j_Model_init_j666 E d hG l3 l4 6 s171 hP
  · refine hG.1 _ (650, [some (.ref 94), none, some (.int l2), some (.int l3), some (.int l4)], [.ref 94], (gSh, s171, 1862292)) _ rfl (if_neg hc) ?_
    refine gRunN_ok hG.1 2 _ (666, [some (.ref 94), none, some (.int l2), some (.int l3), some (.int l4)], [.int 1, .ref 94], (gSh, s171, 1862292)) rfl ?_
    refine hG.2.2.2.2.1 _ _ [some (.ref 94), none, none, some (.int l3), some (.int l4)] _ _ ⟨rfl, ⟨rfl, ⟨rfl, trivial⟩⟩⟩ ?_
    exact j_Model_init_j666 E d hG l3 l4 1 s171 hP
def p_Model_init_s6 (E : gEv) (a0 : Int32) (a1 : Int32) (a2 : Int32) (a3 : Int32) (σ : gS) : Option gS :=
  gLet (gZr σ 161 150) fun s67 => gLet (gZr s67 162 150) fun s68 => gLet (gZr s68 163 150) fun s69 => gLet (gZr s69 164 5000) fun s70 => if (1 : Int32) ≤ a0 then (if a0 ≤ (6 : Int32) then (p_Model_init_j641 E a1 a2 a3 a0 s70) else (p_Model_init_j641 E a1 a2 a3 6 s70)) else (p_Model_init_j641 E a1 a2 a3 1 s70)
set_option maxRecDepth 20000 in
theorem j_Model_init_s6 (E : gEv) (d : Nat) {G : gFr → Prop} {sr : gS} (hG : gClo E gDf gP18i gY187 none (gC E gDf gMs (d + 3)) (none, (gSh, sr, 1862292)) G) (a0 : Int32) (a1 : Int32) (a2 : Int32) (a3 : Int32) (σ : gS) (hP : p_Model_init_s6 E a0 a1 a2 a3 σ = some sr) : G (583, [some (.ref 94), some (.int a0), some (.int a1), some (.int a2), some (.int a3)], [], (gSq_309, σ, 1856842)) := by
  unfold p_Model_init_s6 at hP
  refine gRunN_ok hG.1 2 _ (587, [some (.ref 94), some (.int a0), some (.int a1), some (.int a2), some (.int a3)], [.int 150, .ref 94], (gSq_309, σ, 1856842)) rfl ?_
  refine g_na hG.2.2.1 (ty := .boolean) (N := 150) (k := 161) (sh' := gSq_310) (u' := 1856992) (fun _ _ _ _ => rfl) rfl ⟨by decide, Nat.le_of_ble_eq_true rfl⟩ rfl rfl rfl rfl (Nat.le_of_ble_eq_true rfl) (show (1856992 : Nat) ≤ 1862292 from Nat.le_of_ble_eq_true rfl) ?_
  show G (589, [some (.ref 94), some (.int a0), some (.int a1), some (.int a2), some (.int a3)], [.ref 161, .ref 94], (gSq_310, (gZr σ 161 150), 1856992))
  obtain ⟨s67, es67, hP⟩ := g_let hP
  rw [← es67]
  refine hG.2.2.1 _ (592, [some (.ref 94), some (.int a0), some (.int a1), some (.int a2), some (.int a3)], [], (gSq_311, s67, 1856992)) _ rfl rfl (Nat.le_of_ble_eq_true rfl) (show (1856992 : Nat) ≤ 1862292 from Nat.le_of_ble_eq_true rfl) ?_
  refine gRunN_ok hG.1 2 _ (596, [some (.ref 94), some (.int a0), some (.int a1), some (.int a2), some (.int a3)], [.int 150, .ref 94], (gSq_311, s67, 1856992)) rfl ?_
  refine g_na hG.2.2.1 (ty := .boolean) (N := 150) (k := 162) (sh' := gSq_312) (u' := 1857142) (fun _ _ _ _ => rfl) rfl ⟨by decide, Nat.le_of_ble_eq_true rfl⟩ rfl rfl rfl rfl (Nat.le_of_ble_eq_true rfl) (show (1857142 : Nat) ≤ 1862292 from Nat.le_of_ble_eq_true rfl) ?_
  show G (598, [some (.ref 94), some (.int a0), some (.int a1), some (.int a2), some (.int a3)], [.ref 162, .ref 94], (gSq_312, (gZr s67 162 150), 1857142))
  obtain ⟨s68, es68, hP⟩ := g_let hP
  rw [← es68]
  refine hG.2.2.1 _ (601, [some (.ref 94), some (.int a0), some (.int a1), some (.int a2), some (.int a3)], [], (gSq_313, s68, 1857142)) _ rfl rfl (Nat.le_of_ble_eq_true rfl) (show (1857142 : Nat) ≤ 1862292 from Nat.le_of_ble_eq_true rfl) ?_
  refine gRunN_ok hG.1 2 _ (605, [some (.ref 94), some (.int a0), some (.int a1), some (.int a2), some (.int a3)], [.int 150, .ref 94], (gSq_313, s68, 1857142)) rfl ?_
  refine g_na hG.2.2.1 (ty := .boolean) (N := 150) (k := 163) (sh' := gSq_314) (u' := 1857292) (fun _ _ _ _ => rfl) rfl ⟨by decide, Nat.le_of_ble_eq_true rfl⟩ rfl rfl rfl rfl (Nat.le_of_ble_eq_true rfl) (show (1857292 : Nat) ≤ 1862292 from Nat.le_of_ble_eq_true rfl) ?_
  show G (607, [some (.ref 94), some (.int a0), some (.int a1), some (.int a2), some (.int a3)], [.ref 163, .ref 94], (gSq_314, (gZr s68 163 150), 1857292))
  obtain ⟨s69, es69, hP⟩ := g_let hP
  rw [← es69]
  refine hG.2.2.1 _ (610, [some (.ref 94), some (.int a0), some (.int a1), some (.int a2), some (.int a3)], [], (gSq_315, s69, 1857292)) _ rfl rfl (Nat.le_of_ble_eq_true rfl) (show (1857292 : Nat) ≤ 1862292 from Nat.le_of_ble_eq_true rfl) ?_
  refine gRunN_ok hG.1 2 _ (614, [some (.ref 94), some (.int a0), some (.int a1), some (.int a2), some (.int a3)], [.int 5000, .ref 94], (gSq_315, s69, 1857292)) rfl ?_
  refine g_na hG.2.2.1 (ty := .boolean) (N := 5000) (k := 164) (sh' := gSq_316) (u' := 1862292) (fun _ _ _ _ => rfl) rfl ⟨by decide, Nat.le_of_ble_eq_true rfl⟩ rfl rfl rfl rfl (Nat.le_of_ble_eq_true rfl) (show (1862292 : Nat) ≤ 1862292 from Nat.le_of_ble_eq_true rfl) ?_
  show G (616, [some (.ref 94), some (.int a0), some (.int a1), some (.int a2), some (.int a3)], [.ref 164, .ref 94], (gSq_316, (gZr s69 164 5000), 1862292))
  obtain ⟨s70, es70, hP⟩ := g_let hP
  rw [← es70]
  refine hG.2.2.1 _ (619, [some (.ref 94), some (.int a0), some (.int a1), some (.int a2), some (.int a3)], [], (gSh, s70, 1862292)) _ rfl rfl (Nat.le_of_ble_eq_true rfl) (show (1862292 : Nat) ≤ 1862292 from Nat.le_of_ble_eq_true rfl) ?_
  refine gRunN_ok hG.1 3 _ (622, [some (.ref 94), some (.int a0), some (.int a1), some (.int a2), some (.int a3)], [.int 1, .int a0, .ref 94], (gSh, s70, 1862292)) rfl ?_
  rcases g_ite hP with ⟨hc, hP⟩ | ⟨hc, hP⟩
  · refine hG.1 _ (629, [some (.ref 94), some (.int a0), some (.int a1), some (.int a2), some (.int a3)], [.ref 94], (gSh, s70, 1862292)) _ rfl (if_pos hc) ?_
    refine gRunN_ok hG.1 2 _ (632, [some (.ref 94), some (.int a0), some (.int a1), some (.int a2), some (.int a3)], [.int 6, .int a0, .ref 94], (gSh, s70, 1862292)) rfl ?_
    rcases g_ite hP with ⟨hc, hP⟩ | ⟨hc, hP⟩
    · refine hG.1 _ (640, [some (.ref 94), some (.int a0), some (.int a1), some (.int a2), some (.int a3)], [.ref 94], (gSh, s70, 1862292)) _ rfl (if_pos hc) ?_
      refine gRunN_ok hG.1 1 _ (641, [some (.ref 94), some (.int a0), some (.int a1), some (.int a2), some (.int a3)], [.int a0, .ref 94], (gSh, s70, 1862292)) rfl ?_
      refine hG.2.2.2.2.1 _ _ [some (.ref 94), none, some (.int a1), some (.int a2), some (.int a3)] _ _ ⟨rfl, ⟨rfl, ⟨rfl, ⟨rfl, trivial⟩⟩⟩⟩ ?_
      exact j_Model_init_j641 E d hG a1 a2 a3 a0 s70 hP
    · refine hG.1 _ (635, [some (.ref 94), some (.int a0), some (.int a1), some (.int a2), some (.int a3)], [.ref 94], (gSh, s70, 1862292)) _ rfl (if_neg hc) ?_
      refine gRunN_ok hG.1 2 _ (641, [some (.ref 94), some (.int a0), some (.int a1), some (.int a2), some (.int a3)], [.int 6, .ref 94], (gSh, s70, 1862292)) rfl ?_
      refine hG.2.2.2.2.1 _ _ [some (.ref 94), none, some (.int a1), some (.int a2), some (.int a3)] _ _ ⟨rfl, ⟨rfl, ⟨rfl, ⟨rfl, trivial⟩⟩⟩⟩ ?_
      exact j_Model_init_j641 E d hG a1 a2 a3 6 s70 hP
  · refine hG.1 _ (625, [some (.ref 94), some (.int a0), some (.int a1), some (.int a2), some (.int a3)], [.ref 94], (gSh, s70, 1862292)) _ rfl (if_neg hc) ?_
    refine gRunN_ok hG.1 2 _ (641, [some (.ref 94), some (.int a0), some (.int a1), some (.int a2), some (.int a3)], [.int 1, .ref 94], (gSh, s70, 1862292)) rfl ?_
    refine hG.2.2.2.2.1 _ _ [some (.ref 94), none, some (.int a1), some (.int a2), some (.int a3)] _ _ ⟨rfl, ⟨rfl, ⟨rfl, ⟨rfl, trivial⟩⟩⟩⟩ ?_
    exact j_Model_init_j641 E d hG a1 a2 a3 1 s70 hP
def p_Model_init_s5 (E : gEv) (a0 : Int32) (a1 : Int32) (a2 : Int32) (a3 : Int32) (σ : gS) : Option gS :=
  gLet (gZr σ 150 840) fun s56 => gLet (gZr s56 151 840) fun s57 => gLet (gZr s57 152 841) fun s58 => gLet (gZr s58 153 840) fun s59 => gLet (gZr s59 154 15600) fun s60 => gLet (gZr s60 155 144) fun s61 => gLet (gZr s61 156 144) fun s62 => gLet (gZr s62 157 144) fun s63 => gLet (gZr s63 158 48) fun s64 => gLet (gZr s64 159 840) fun s65 => gLet (gZr s65 160 48) fun s66 => p_Model_init_s6 E a0 a1 a2 a3 s66
set_option maxRecDepth 20000 in
theorem j_Model_init_s5 (E : gEv) (d : Nat) {G : gFr → Prop} {sr : gS} (hG : gClo E gDf gP18i gY187 none (gC E gDf gMs (d + 3)) (none, (gSh, sr, 1862292)) G) (a0 : Int32) (a1 : Int32) (a2 : Int32) (a3 : Int32) (σ : gS) (hP : p_Model_init_s5 E a0 a1 a2 a3 σ = some sr) : G (486, [some (.ref 94), some (.int a0), some (.int a1), some (.int a2), some (.int a3)], [], (gSq_287, σ, 1836513)) := by
  unfold p_Model_init_s5 at hP
  refine gRunN_ok hG.1 2 _ (490, [some (.ref 94), some (.int a0), some (.int a1), some (.int a2), some (.int a3)], [.int 840, .ref 94], (gSq_287, σ, 1836513)) rfl ?_
  refine g_na hG.2.2.1 (ty := .boolean) (N := 840) (k := 150) (sh' := gSq_288) (u' := 1837353) (fun _ _ _ _ => rfl) rfl ⟨by decide, Nat.le_of_ble_eq_true rfl⟩ rfl rfl rfl rfl (Nat.le_of_ble_eq_true rfl) (show (1837353 : Nat) ≤ 1862292 from Nat.le_of_ble_eq_true rfl) ?_
  show G (492, [some (.ref 94), some (.int a0), some (.int a1), some (.int a2), some (.int a3)], [.ref 150, .ref 94], (gSq_288, (gZr σ 150 840), 1837353))
  obtain ⟨s56, es56, hP⟩ := g_let hP
  rw [← es56]
  refine hG.2.2.1 _ (495, [some (.ref 94), some (.int a0), some (.int a1), some (.int a2), some (.int a3)], [], (gSq_289, s56, 1837353)) _ rfl rfl (Nat.le_of_ble_eq_true rfl) (show (1837353 : Nat) ≤ 1862292 from Nat.le_of_ble_eq_true rfl) ?_
  refine gRunN_ok hG.1 2 _ (499, [some (.ref 94), some (.int a0), some (.int a1), some (.int a2), some (.int a3)], [.int 840, .ref 94], (gSq_289, s56, 1837353)) rfl ?_
  refine g_na hG.2.2.1 (ty := .boolean) (N := 840) (k := 151) (sh' := gSq_290) (u' := 1838193) (fun _ _ _ _ => rfl) rfl ⟨by decide, Nat.le_of_ble_eq_true rfl⟩ rfl rfl rfl rfl (Nat.le_of_ble_eq_true rfl) (show (1838193 : Nat) ≤ 1862292 from Nat.le_of_ble_eq_true rfl) ?_
  show G (501, [some (.ref 94), some (.int a0), some (.int a1), some (.int a2), some (.int a3)], [.ref 151, .ref 94], (gSq_290, (gZr s56 151 840), 1838193))
  obtain ⟨s57, es57, hP⟩ := g_let hP
  rw [← es57]
  refine hG.2.2.1 _ (504, [some (.ref 94), some (.int a0), some (.int a1), some (.int a2), some (.int a3)], [], (gSq_291, s57, 1838193)) _ rfl rfl (Nat.le_of_ble_eq_true rfl) (show (1838193 : Nat) ≤ 1862292 from Nat.le_of_ble_eq_true rfl) ?_
  refine gRunN_ok hG.1 2 _ (508, [some (.ref 94), some (.int a0), some (.int a1), some (.int a2), some (.int a3)], [.int 841, .ref 94], (gSq_291, s57, 1838193)) rfl ?_
  refine g_na hG.2.2.1 (ty := .int) (N := 841) (k := 152) (sh' := gSq_292) (u' := 1839034) (fun _ _ _ _ => rfl) rfl ⟨by decide, Nat.le_of_ble_eq_true rfl⟩ rfl rfl rfl rfl (Nat.le_of_ble_eq_true rfl) (show (1839034 : Nat) ≤ 1862292 from Nat.le_of_ble_eq_true rfl) ?_
  show G (510, [some (.ref 94), some (.int a0), some (.int a1), some (.int a2), some (.int a3)], [.ref 152, .ref 94], (gSq_292, (gZr s57 152 841), 1839034))
  obtain ⟨s58, es58, hP⟩ := g_let hP
  rw [← es58]
  refine hG.2.2.1 _ (513, [some (.ref 94), some (.int a0), some (.int a1), some (.int a2), some (.int a3)], [], (gSq_293, s58, 1839034)) _ rfl rfl (Nat.le_of_ble_eq_true rfl) (show (1839034 : Nat) ≤ 1862292 from Nat.le_of_ble_eq_true rfl) ?_
  refine gRunN_ok hG.1 2 _ (517, [some (.ref 94), some (.int a0), some (.int a1), some (.int a2), some (.int a3)], [.int 840, .ref 94], (gSq_293, s58, 1839034)) rfl ?_
  refine g_na hG.2.2.1 (ty := .boolean) (N := 840) (k := 153) (sh' := gSq_294) (u' := 1839874) (fun _ _ _ _ => rfl) rfl ⟨by decide, Nat.le_of_ble_eq_true rfl⟩ rfl rfl rfl rfl (Nat.le_of_ble_eq_true rfl) (show (1839874 : Nat) ≤ 1862292 from Nat.le_of_ble_eq_true rfl) ?_
  show G (519, [some (.ref 94), some (.int a0), some (.int a1), some (.int a2), some (.int a3)], [.ref 153, .ref 94], (gSq_294, (gZr s58 153 840), 1839874))
  obtain ⟨s59, es59, hP⟩ := g_let hP
  rw [← es59]
  refine hG.2.2.1 _ (522, [some (.ref 94), some (.int a0), some (.int a1), some (.int a2), some (.int a3)], [], (gSq_295, s59, 1839874)) _ rfl rfl (Nat.le_of_ble_eq_true rfl) (show (1839874 : Nat) ≤ 1862292 from Nat.le_of_ble_eq_true rfl) ?_
  refine gRunN_ok hG.1 2 _ (526, [some (.ref 94), some (.int a0), some (.int a1), some (.int a2), some (.int a3)], [.int 15600, .ref 94], (gSq_295, s59, 1839874)) rfl ?_
  refine g_na hG.2.2.1 (ty := .boolean) (N := 15600) (k := 154) (sh' := gSq_296) (u' := 1855474) (fun _ _ _ _ => rfl) rfl ⟨by decide, Nat.le_of_ble_eq_true rfl⟩ rfl rfl rfl rfl (Nat.le_of_ble_eq_true rfl) (show (1855474 : Nat) ≤ 1862292 from Nat.le_of_ble_eq_true rfl) ?_
  show G (528, [some (.ref 94), some (.int a0), some (.int a1), some (.int a2), some (.int a3)], [.ref 154, .ref 94], (gSq_296, (gZr s59 154 15600), 1855474))
  obtain ⟨s60, es60, hP⟩ := g_let hP
  rw [← es60]
  refine hG.2.2.1 _ (531, [some (.ref 94), some (.int a0), some (.int a1), some (.int a2), some (.int a3)], [], (gSq_297, s60, 1855474)) _ rfl rfl (Nat.le_of_ble_eq_true rfl) (show (1855474 : Nat) ≤ 1862292 from Nat.le_of_ble_eq_true rfl) ?_
  refine gRunN_ok hG.1 2 _ (535, [some (.ref 94), some (.int a0), some (.int a1), some (.int a2), some (.int a3)], [.int 144, .ref 94], (gSq_297, s60, 1855474)) rfl ?_
  refine g_na hG.2.2.1 (ty := .boolean) (N := 144) (k := 155) (sh' := gSq_298) (u' := 1855618) (fun _ _ _ _ => rfl) rfl ⟨by decide, Nat.le_of_ble_eq_true rfl⟩ rfl rfl rfl rfl (Nat.le_of_ble_eq_true rfl) (show (1855618 : Nat) ≤ 1862292 from Nat.le_of_ble_eq_true rfl) ?_
  show G (537, [some (.ref 94), some (.int a0), some (.int a1), some (.int a2), some (.int a3)], [.ref 155, .ref 94], (gSq_298, (gZr s60 155 144), 1855618))
  obtain ⟨s61, es61, hP⟩ := g_let hP
  rw [← es61]
  refine hG.2.2.1 _ (540, [some (.ref 94), some (.int a0), some (.int a1), some (.int a2), some (.int a3)], [], (gSq_299, s61, 1855618)) _ rfl rfl (Nat.le_of_ble_eq_true rfl) (show (1855618 : Nat) ≤ 1862292 from Nat.le_of_ble_eq_true rfl) ?_
  refine gRunN_ok hG.1 2 _ (544, [some (.ref 94), some (.int a0), some (.int a1), some (.int a2), some (.int a3)], [.int 144, .ref 94], (gSq_299, s61, 1855618)) rfl ?_
  refine g_na hG.2.2.1 (ty := .boolean) (N := 144) (k := 156) (sh' := gSq_300) (u' := 1855762) (fun _ _ _ _ => rfl) rfl ⟨by decide, Nat.le_of_ble_eq_true rfl⟩ rfl rfl rfl rfl (Nat.le_of_ble_eq_true rfl) (show (1855762 : Nat) ≤ 1862292 from Nat.le_of_ble_eq_true rfl) ?_
  show G (546, [some (.ref 94), some (.int a0), some (.int a1), some (.int a2), some (.int a3)], [.ref 156, .ref 94], (gSq_300, (gZr s61 156 144), 1855762))
  obtain ⟨s62, es62, hP⟩ := g_let hP
  rw [← es62]
  refine hG.2.2.1 _ (549, [some (.ref 94), some (.int a0), some (.int a1), some (.int a2), some (.int a3)], [], (gSq_301, s62, 1855762)) _ rfl rfl (Nat.le_of_ble_eq_true rfl) (show (1855762 : Nat) ≤ 1862292 from Nat.le_of_ble_eq_true rfl) ?_
  refine gRunN_ok hG.1 2 _ (553, [some (.ref 94), some (.int a0), some (.int a1), some (.int a2), some (.int a3)], [.int 144, .ref 94], (gSq_301, s62, 1855762)) rfl ?_
  refine g_na hG.2.2.1 (ty := .boolean) (N := 144) (k := 157) (sh' := gSq_302) (u' := 1855906) (fun _ _ _ _ => rfl) rfl ⟨by decide, Nat.le_of_ble_eq_true rfl⟩ rfl rfl rfl rfl (Nat.le_of_ble_eq_true rfl) (show (1855906 : Nat) ≤ 1862292 from Nat.le_of_ble_eq_true rfl) ?_
  show G (555, [some (.ref 94), some (.int a0), some (.int a1), some (.int a2), some (.int a3)], [.ref 157, .ref 94], (gSq_302, (gZr s62 157 144), 1855906))
  obtain ⟨s63, es63, hP⟩ := g_let hP
  rw [← es63]
  refine hG.2.2.1 _ (558, [some (.ref 94), some (.int a0), some (.int a1), some (.int a2), some (.int a3)], [], (gSq_303, s63, 1855906)) _ rfl rfl (Nat.le_of_ble_eq_true rfl) (show (1855906 : Nat) ≤ 1862292 from Nat.le_of_ble_eq_true rfl) ?_
  refine gRunN_ok hG.1 2 _ (561, [some (.ref 94), some (.int a0), some (.int a1), some (.int a2), some (.int a3)], [.int 48, .ref 94], (gSq_303, s63, 1855906)) rfl ?_
  refine g_na hG.2.2.1 (ty := .boolean) (N := 48) (k := 158) (sh' := gSq_304) (u' := 1855954) (fun _ _ _ _ => rfl) rfl ⟨by decide, Nat.le_of_ble_eq_true rfl⟩ rfl rfl rfl rfl (Nat.le_of_ble_eq_true rfl) (show (1855954 : Nat) ≤ 1862292 from Nat.le_of_ble_eq_true rfl) ?_
  show G (563, [some (.ref 94), some (.int a0), some (.int a1), some (.int a2), some (.int a3)], [.ref 158, .ref 94], (gSq_304, (gZr s63 158 48), 1855954))
  obtain ⟨s64, es64, hP⟩ := g_let hP
  rw [← es64]
  refine hG.2.2.1 _ (566, [some (.ref 94), some (.int a0), some (.int a1), some (.int a2), some (.int a3)], [], (gSq_305, s64, 1855954)) _ rfl rfl (Nat.le_of_ble_eq_true rfl) (show (1855954 : Nat) ≤ 1862292 from Nat.le_of_ble_eq_true rfl) ?_
  refine gRunN_ok hG.1 2 _ (570, [some (.ref 94), some (.int a0), some (.int a1), some (.int a2), some (.int a3)], [.int 840, .ref 94], (gSq_305, s64, 1855954)) rfl ?_
  refine g_na hG.2.2.1 (ty := .boolean) (N := 840) (k := 159) (sh' := gSq_306) (u' := 1856794) (fun _ _ _ _ => rfl) rfl ⟨by decide, Nat.le_of_ble_eq_true rfl⟩ rfl rfl rfl rfl (Nat.le_of_ble_eq_true rfl) (show (1856794 : Nat) ≤ 1862292 from Nat.le_of_ble_eq_true rfl) ?_
  show G (572, [some (.ref 94), some (.int a0), some (.int a1), some (.int a2), some (.int a3)], [.ref 159, .ref 94], (gSq_306, (gZr s64 159 840), 1856794))
  obtain ⟨s65, es65, hP⟩ := g_let hP
  rw [← es65]
  refine hG.2.2.1 _ (575, [some (.ref 94), some (.int a0), some (.int a1), some (.int a2), some (.int a3)], [], (gSq_307, s65, 1856794)) _ rfl rfl (Nat.le_of_ble_eq_true rfl) (show (1856794 : Nat) ≤ 1862292 from Nat.le_of_ble_eq_true rfl) ?_
  refine gRunN_ok hG.1 2 _ (578, [some (.ref 94), some (.int a0), some (.int a1), some (.int a2), some (.int a3)], [.int 48, .ref 94], (gSq_307, s65, 1856794)) rfl ?_
  refine g_na hG.2.2.1 (ty := .boolean) (N := 48) (k := 160) (sh' := gSq_308) (u' := 1856842) (fun _ _ _ _ => rfl) rfl ⟨by decide, Nat.le_of_ble_eq_true rfl⟩ rfl rfl rfl rfl (Nat.le_of_ble_eq_true rfl) (show (1856842 : Nat) ≤ 1862292 from Nat.le_of_ble_eq_true rfl) ?_
  show G (580, [some (.ref 94), some (.int a0), some (.int a1), some (.int a2), some (.int a3)], [.ref 160, .ref 94], (gSq_308, (gZr s65 160 48), 1856842))
  obtain ⟨s66, es66, hP⟩ := g_let hP
  rw [← es66]
  refine hG.2.2.1 _ (583, [some (.ref 94), some (.int a0), some (.int a1), some (.int a2), some (.int a3)], [], (gSq_309, s66, 1856842)) _ rfl rfl (Nat.le_of_ble_eq_true rfl) (show (1856842 : Nat) ≤ 1862292 from Nat.le_of_ble_eq_true rfl) ?_
  exact j_Model_init_s6 E d hG a0 a1 a2 a3 s66 hP
def p_Model_init_s4 (E : gEv) (a0 : Int32) (a1 : Int32) (a2 : Int32) (a3 : Int32) (σ : gS) : Option gS :=
  gLet (gZr σ 139 5040) fun s45 => gLet (gZr s45 140 840) fun s46 => gLet (gZr s46 141 336000) fun s47 => gLet (gZr s47 142 336000) fun s48 => gLet (gZr s48 143 400) fun s49 => gLet (gZr s49 144 20000) fun s50 => gLet (gZr s50 145 400) fun s51 => gLet (gZr s51 146 840) fun s52 => gLet (gZr s52 147 840) fun s53 => gLet (gZr s53 148 840) fun s54 => gLet (gZr s54 149 840) fun s55 => p_Model_init_s5 E a0 a1 a2 a3 s55
set_option maxRecDepth 20000 in
theorem j_Model_init_s4 (E : gEv) (d : Nat) {G : gFr → Prop} {sr : gS} (hG : gClo E gDf gP18i gY187 none (gC E gDf gMs (d + 3)) (none, (gSh, sr, 1862292)) G) (a0 : Int32) (a1 : Int32) (a2 : Int32) (a3 : Int32) (σ : gS) (hP : p_Model_init_s4 E a0 a1 a2 a3 σ = some sr) : G (389, [some (.ref 94), some (.int a0), some (.int a1), some (.int a2), some (.int a3)], [], (gSq_265, σ, 1134473)) := by
  unfold p_Model_init_s4 at hP
  refine gRunN_ok hG.1 2 _ (393, [some (.ref 94), some (.int a0), some (.int a1), some (.int a2), some (.int a3)], [.int 5040, .ref 94], (gSq_265, σ, 1134473)) rfl ?_
  refine g_na hG.2.2.1 (ty := .int) (N := 5040) (k := 139) (sh' := gSq_266) (u' := 1139513) (fun _ _ _ _ => rfl) rfl ⟨by decide, Nat.le_of_ble_eq_true rfl⟩ rfl rfl rfl rfl (Nat.le_of_ble_eq_true rfl) (show (1139513 : Nat) ≤ 1862292 from Nat.le_of_ble_eq_true rfl) ?_
  show G (395, [some (.ref 94), some (.int a0), some (.int a1), some (.int a2), some (.int a3)], [.ref 139, .ref 94], (gSq_266, (gZr σ 139 5040), 1139513))
  obtain ⟨s45, es45, hP⟩ := g_let hP
  rw [← es45]
  refine hG.2.2.1 _ (398, [some (.ref 94), some (.int a0), some (.int a1), some (.int a2), some (.int a3)], [], (gSq_267, s45, 1139513)) _ rfl rfl (Nat.le_of_ble_eq_true rfl) (show (1139513 : Nat) ≤ 1862292 from Nat.le_of_ble_eq_true rfl) ?_
  refine gRunN_ok hG.1 2 _ (402, [some (.ref 94), some (.int a0), some (.int a1), some (.int a2), some (.int a3)], [.int 840, .ref 94], (gSq_267, s45, 1139513)) rfl ?_
  refine g_na hG.2.2.1 (ty := .int) (N := 840) (k := 140) (sh' := gSq_268) (u' := 1140353) (fun _ _ _ _ => rfl) rfl ⟨by decide, Nat.le_of_ble_eq_true rfl⟩ rfl rfl rfl rfl (Nat.le_of_ble_eq_true rfl) (show (1140353 : Nat) ≤ 1862292 from Nat.le_of_ble_eq_true rfl) ?_
  show G (404, [some (.ref 94), some (.int a0), some (.int a1), some (.int a2), some (.int a3)], [.ref 140, .ref 94], (gSq_268, (gZr s45 140 840), 1140353))
  obtain ⟨s46, es46, hP⟩ := g_let hP
  rw [← es46]
  refine hG.2.2.1 _ (407, [some (.ref 94), some (.int a0), some (.int a1), some (.int a2), some (.int a3)], [], (gSq_269, s46, 1140353)) _ rfl rfl (Nat.le_of_ble_eq_true rfl) (show (1140353 : Nat) ≤ 1862292 from Nat.le_of_ble_eq_true rfl) ?_
  refine gRunN_ok hG.1 2 _ (410, [some (.ref 94), some (.int a0), some (.int a1), some (.int a2), some (.int a3)], [.int 336000, .ref 94], (gSq_269, s46, 1140353)) rfl ?_
  refine g_na hG.2.2.1 (ty := .boolean) (N := 336000) (k := 141) (sh' := gSq_270) (u' := 1476353) (fun _ _ _ _ => rfl) rfl ⟨by decide, Nat.le_of_ble_eq_true rfl⟩ rfl rfl rfl rfl (Nat.le_of_ble_eq_true rfl) (show (1476353 : Nat) ≤ 1862292 from Nat.le_of_ble_eq_true rfl) ?_
  show G (412, [some (.ref 94), some (.int a0), some (.int a1), some (.int a2), some (.int a3)], [.ref 141, .ref 94], (gSq_270, (gZr s46 141 336000), 1476353))
  obtain ⟨s47, es47, hP⟩ := g_let hP
  rw [← es47]
  refine hG.2.2.1 _ (415, [some (.ref 94), some (.int a0), some (.int a1), some (.int a2), some (.int a3)], [], (gSq_271, s47, 1476353)) _ rfl rfl (Nat.le_of_ble_eq_true rfl) (show (1476353 : Nat) ≤ 1862292 from Nat.le_of_ble_eq_true rfl) ?_
  refine gRunN_ok hG.1 2 _ (418, [some (.ref 94), some (.int a0), some (.int a1), some (.int a2), some (.int a3)], [.int 336000, .ref 94], (gSq_271, s47, 1476353)) rfl ?_
  refine g_na hG.2.2.1 (ty := .int) (N := 336000) (k := 142) (sh' := gSq_272) (u' := 1812353) (fun _ _ _ _ => rfl) rfl ⟨by decide, Nat.le_of_ble_eq_true rfl⟩ rfl rfl rfl rfl (Nat.le_of_ble_eq_true rfl) (show (1812353 : Nat) ≤ 1862292 from Nat.le_of_ble_eq_true rfl) ?_
  show G (420, [some (.ref 94), some (.int a0), some (.int a1), some (.int a2), some (.int a3)], [.ref 142, .ref 94], (gSq_272, (gZr s47 142 336000), 1812353))
  obtain ⟨s48, es48, hP⟩ := g_let hP
  rw [← es48]
  refine hG.2.2.1 _ (423, [some (.ref 94), some (.int a0), some (.int a1), some (.int a2), some (.int a3)], [], (gSq_273, s48, 1812353)) _ rfl rfl (Nat.le_of_ble_eq_true rfl) (show (1812353 : Nat) ≤ 1862292 from Nat.le_of_ble_eq_true rfl) ?_
  refine gRunN_ok hG.1 2 _ (427, [some (.ref 94), some (.int a0), some (.int a1), some (.int a2), some (.int a3)], [.int 400, .ref 94], (gSq_273, s48, 1812353)) rfl ?_
  refine g_na hG.2.2.1 (ty := .int) (N := 400) (k := 143) (sh' := gSq_274) (u' := 1812753) (fun _ _ _ _ => rfl) rfl ⟨by decide, Nat.le_of_ble_eq_true rfl⟩ rfl rfl rfl rfl (Nat.le_of_ble_eq_true rfl) (show (1812753 : Nat) ≤ 1862292 from Nat.le_of_ble_eq_true rfl) ?_
  show G (429, [some (.ref 94), some (.int a0), some (.int a1), some (.int a2), some (.int a3)], [.ref 143, .ref 94], (gSq_274, (gZr s48 143 400), 1812753))
  obtain ⟨s49, es49, hP⟩ := g_let hP
  rw [← es49]
  refine hG.2.2.1 _ (432, [some (.ref 94), some (.int a0), some (.int a1), some (.int a2), some (.int a3)], [], (gSq_275, s49, 1812753)) _ rfl rfl (Nat.le_of_ble_eq_true rfl) (show (1812753 : Nat) ≤ 1862292 from Nat.le_of_ble_eq_true rfl) ?_
  refine gRunN_ok hG.1 2 _ (436, [some (.ref 94), some (.int a0), some (.int a1), some (.int a2), some (.int a3)], [.int 20000, .ref 94], (gSq_275, s49, 1812753)) rfl ?_
  refine g_na hG.2.2.1 (ty := .int) (N := 20000) (k := 144) (sh' := gSq_276) (u' := 1832753) (fun _ _ _ _ => rfl) rfl ⟨by decide, Nat.le_of_ble_eq_true rfl⟩ rfl rfl rfl rfl (Nat.le_of_ble_eq_true rfl) (show (1832753 : Nat) ≤ 1862292 from Nat.le_of_ble_eq_true rfl) ?_
  show G (438, [some (.ref 94), some (.int a0), some (.int a1), some (.int a2), some (.int a3)], [.ref 144, .ref 94], (gSq_276, (gZr s49 144 20000), 1832753))
  obtain ⟨s50, es50, hP⟩ := g_let hP
  rw [← es50]
  refine hG.2.2.1 _ (441, [some (.ref 94), some (.int a0), some (.int a1), some (.int a2), some (.int a3)], [], (gSq_277, s50, 1832753)) _ rfl rfl (Nat.le_of_ble_eq_true rfl) (show (1832753 : Nat) ≤ 1862292 from Nat.le_of_ble_eq_true rfl) ?_
  refine gRunN_ok hG.1 2 _ (445, [some (.ref 94), some (.int a0), some (.int a1), some (.int a2), some (.int a3)], [.int 400, .ref 94], (gSq_277, s50, 1832753)) rfl ?_
  refine g_na hG.2.2.1 (ty := .int) (N := 400) (k := 145) (sh' := gSq_278) (u' := 1833153) (fun _ _ _ _ => rfl) rfl ⟨by decide, Nat.le_of_ble_eq_true rfl⟩ rfl rfl rfl rfl (Nat.le_of_ble_eq_true rfl) (show (1833153 : Nat) ≤ 1862292 from Nat.le_of_ble_eq_true rfl) ?_
  show G (447, [some (.ref 94), some (.int a0), some (.int a1), some (.int a2), some (.int a3)], [.ref 145, .ref 94], (gSq_278, (gZr s50 145 400), 1833153))
  obtain ⟨s51, es51, hP⟩ := g_let hP
  rw [← es51]
  refine hG.2.2.1 _ (450, [some (.ref 94), some (.int a0), some (.int a1), some (.int a2), some (.int a3)], [], (gSq_279, s51, 1833153)) _ rfl rfl (Nat.le_of_ble_eq_true rfl) (show (1833153 : Nat) ≤ 1862292 from Nat.le_of_ble_eq_true rfl) ?_
  refine gRunN_ok hG.1 2 _ (454, [some (.ref 94), some (.int a0), some (.int a1), some (.int a2), some (.int a3)], [.int 840, .ref 94], (gSq_279, s51, 1833153)) rfl ?_
  refine g_na hG.2.2.1 (ty := .int) (N := 840) (k := 146) (sh' := gSq_280) (u' := 1833993) (fun _ _ _ _ => rfl) rfl ⟨by decide, Nat.le_of_ble_eq_true rfl⟩ rfl rfl rfl rfl (Nat.le_of_ble_eq_true rfl) (show (1833993 : Nat) ≤ 1862292 from Nat.le_of_ble_eq_true rfl) ?_
  show G (456, [some (.ref 94), some (.int a0), some (.int a1), some (.int a2), some (.int a3)], [.ref 146, .ref 94], (gSq_280, (gZr s51 146 840), 1833993))
  obtain ⟨s52, es52, hP⟩ := g_let hP
  rw [← es52]
  refine hG.2.2.1 _ (459, [some (.ref 94), some (.int a0), some (.int a1), some (.int a2), some (.int a3)], [], (gSq_281, s52, 1833993)) _ rfl rfl (Nat.le_of_ble_eq_true rfl) (show (1833993 : Nat) ≤ 1862292 from Nat.le_of_ble_eq_true rfl) ?_
  refine gRunN_ok hG.1 2 _ (463, [some (.ref 94), some (.int a0), some (.int a1), some (.int a2), some (.int a3)], [.int 840, .ref 94], (gSq_281, s52, 1833993)) rfl ?_
  refine g_na hG.2.2.1 (ty := .int) (N := 840) (k := 147) (sh' := gSq_282) (u' := 1834833) (fun _ _ _ _ => rfl) rfl ⟨by decide, Nat.le_of_ble_eq_true rfl⟩ rfl rfl rfl rfl (Nat.le_of_ble_eq_true rfl) (show (1834833 : Nat) ≤ 1862292 from Nat.le_of_ble_eq_true rfl) ?_
  show G (465, [some (.ref 94), some (.int a0), some (.int a1), some (.int a2), some (.int a3)], [.ref 147, .ref 94], (gSq_282, (gZr s52 147 840), 1834833))
  obtain ⟨s53, es53, hP⟩ := g_let hP
  rw [← es53]
  refine hG.2.2.1 _ (468, [some (.ref 94), some (.int a0), some (.int a1), some (.int a2), some (.int a3)], [], (gSq_283, s53, 1834833)) _ rfl rfl (Nat.le_of_ble_eq_true rfl) (show (1834833 : Nat) ≤ 1862292 from Nat.le_of_ble_eq_true rfl) ?_
  refine gRunN_ok hG.1 2 _ (472, [some (.ref 94), some (.int a0), some (.int a1), some (.int a2), some (.int a3)], [.int 840, .ref 94], (gSq_283, s53, 1834833)) rfl ?_
  refine g_na hG.2.2.1 (ty := .long) (N := 840) (k := 148) (sh' := gSq_284) (u' := 1835673) (fun _ _ _ _ => rfl) rfl ⟨by decide, Nat.le_of_ble_eq_true rfl⟩ rfl rfl rfl rfl (Nat.le_of_ble_eq_true rfl) (show (1835673 : Nat) ≤ 1862292 from Nat.le_of_ble_eq_true rfl) ?_
  show G (474, [some (.ref 94), some (.int a0), some (.int a1), some (.int a2), some (.int a3)], [.ref 148, .ref 94], (gSq_284, (gZr s53 148 840), 1835673))
  obtain ⟨s54, es54, hP⟩ := g_let hP
  rw [← es54]
  refine hG.2.2.1 _ (477, [some (.ref 94), some (.int a0), some (.int a1), some (.int a2), some (.int a3)], [], (gSq_285, s54, 1835673)) _ rfl rfl (Nat.le_of_ble_eq_true rfl) (show (1835673 : Nat) ≤ 1862292 from Nat.le_of_ble_eq_true rfl) ?_
  refine gRunN_ok hG.1 2 _ (481, [some (.ref 94), some (.int a0), some (.int a1), some (.int a2), some (.int a3)], [.int 840, .ref 94], (gSq_285, s54, 1835673)) rfl ?_
  refine g_na hG.2.2.1 (ty := .long) (N := 840) (k := 149) (sh' := gSq_286) (u' := 1836513) (fun _ _ _ _ => rfl) rfl ⟨by decide, Nat.le_of_ble_eq_true rfl⟩ rfl rfl rfl rfl (Nat.le_of_ble_eq_true rfl) (show (1836513 : Nat) ≤ 1862292 from Nat.le_of_ble_eq_true rfl) ?_
  show G (483, [some (.ref 94), some (.int a0), some (.int a1), some (.int a2), some (.int a3)], [.ref 149, .ref 94], (gSq_286, (gZr s54 149 840), 1836513))
  obtain ⟨s55, es55, hP⟩ := g_let hP
  rw [← es55]
  refine hG.2.2.1 _ (486, [some (.ref 94), some (.int a0), some (.int a1), some (.int a2), some (.int a3)], [], (gSq_287, s55, 1836513)) _ rfl rfl (Nat.le_of_ble_eq_true rfl) (show (1836513 : Nat) ≤ 1862292 from Nat.le_of_ble_eq_true rfl) ?_
  exact j_Model_init_s5 E d hG a0 a1 a2 a3 s55 hP
def p_Model_init_s3 (E : gEv) (a0 : Int32) (a1 : Int32) (a2 : Int32) (a3 : Int32) (σ : gS) : Option gS :=
  gLet (gZr σ 128 150) fun s34 => gLet (gZr s34 129 400) fun s35 => gLet (gZr s35 130 401) fun s36 => gLet (gZr s36 131 700) fun s37 => gLet (gZr s37 132 700) fun s38 => gLet (gZr s38 133 144) fun s39 => gLet (gZr s39 134 144) fun s40 => gLet (gZr s40 135 57600) fun s41 => gLet (gZr s41 136 36) fun s42 => gLet (gZr s42 137 48) fun s43 => gLet (gZr s43 138 5040) fun s44 => p_Model_init_s4 E a0 a1 a2 a3 s44
set_option maxRecDepth 20000 in
theorem j_Model_init_s3 (E : gEv) (d : Nat) {G : gFr → Prop} {sr : gS} (hG : gClo E gDf gP18i gY187 none (gC E gDf gMs (d + 3)) (none, (gSh, sr, 1862292)) G) (a0 : Int32) (a1 : Int32) (a2 : Int32) (a3 : Int32) (σ : gS) (hP : p_Model_init_s3 E a0 a1 a2 a3 σ = some sr) : G (293, [some (.ref 94), some (.int a0), some (.int a1), some (.int a2), some (.int a3)], [], (gSq_243, σ, 1069110)) := by
  unfold p_Model_init_s3 at hP
  refine gRunN_ok hG.1 2 _ (297, [some (.ref 94), some (.int a0), some (.int a1), some (.int a2), some (.int a3)], [.int 150, .ref 94], (gSq_243, σ, 1069110)) rfl ?_
  refine g_na hG.2.2.1 (ty := .int) (N := 150) (k := 128) (sh' := gSq_244) (u' := 1069260) (fun _ _ _ _ => rfl) rfl ⟨by decide, Nat.le_of_ble_eq_true rfl⟩ rfl rfl rfl rfl (Nat.le_of_ble_eq_true rfl) (show (1069260 : Nat) ≤ 1862292 from Nat.le_of_ble_eq_true rfl) ?_
  show G (299, [some (.ref 94), some (.int a0), some (.int a1), some (.int a2), some (.int a3)], [.ref 128, .ref 94], (gSq_244, (gZr σ 128 150), 1069260))
  obtain ⟨s34, es34, hP⟩ := g_let hP
  rw [← es34]
  refine hG.2.2.1 _ (302, [some (.ref 94), some (.int a0), some (.int a1), some (.int a2), some (.int a3)], [], (gSq_245, s34, 1069260)) _ rfl rfl (Nat.le_of_ble_eq_true rfl) (show (1069260 : Nat) ≤ 1862292 from Nat.le_of_ble_eq_true rfl) ?_
  refine gRunN_ok hG.1 2 _ (306, [some (.ref 94), some (.int a0), some (.int a1), some (.int a2), some (.int a3)], [.int 400, .ref 94], (gSq_245, s34, 1069260)) rfl ?_
  refine g_na hG.2.2.1 (ty := .int) (N := 400) (k := 129) (sh' := gSq_246) (u' := 1069660) (fun _ _ _ _ => rfl) rfl ⟨by decide, Nat.le_of_ble_eq_true rfl⟩ rfl rfl rfl rfl (Nat.le_of_ble_eq_true rfl) (show (1069660 : Nat) ≤ 1862292 from Nat.le_of_ble_eq_true rfl) ?_
  show G (308, [some (.ref 94), some (.int a0), some (.int a1), some (.int a2), some (.int a3)], [.ref 129, .ref 94], (gSq_246, (gZr s34 129 400), 1069660))
  obtain ⟨s35, es35, hP⟩ := g_let hP
  rw [← es35]
  refine hG.2.2.1 _ (311, [some (.ref 94), some (.int a0), some (.int a1), some (.int a2), some (.int a3)], [], (gSq_247, s35, 1069660)) _ rfl rfl (Nat.le_of_ble_eq_true rfl) (show (1069660 : Nat) ≤ 1862292 from Nat.le_of_ble_eq_true rfl) ?_
  refine gRunN_ok hG.1 2 _ (315, [some (.ref 94), some (.int a0), some (.int a1), some (.int a2), some (.int a3)], [.int 401, .ref 94], (gSq_247, s35, 1069660)) rfl ?_
  refine g_na hG.2.2.1 (ty := .int) (N := 401) (k := 130) (sh' := gSq_248) (u' := 1070061) (fun _ _ _ _ => rfl) rfl ⟨by decide, Nat.le_of_ble_eq_true rfl⟩ rfl rfl rfl rfl (Nat.le_of_ble_eq_true rfl) (show (1070061 : Nat) ≤ 1862292 from Nat.le_of_ble_eq_true rfl) ?_
  show G (317, [some (.ref 94), some (.int a0), some (.int a1), some (.int a2), some (.int a3)], [.ref 130, .ref 94], (gSq_248, (gZr s35 130 401), 1070061))
  obtain ⟨s36, es36, hP⟩ := g_let hP
  rw [← es36]
  refine hG.2.2.1 _ (320, [some (.ref 94), some (.int a0), some (.int a1), some (.int a2), some (.int a3)], [], (gSq_249, s36, 1070061)) _ rfl rfl (Nat.le_of_ble_eq_true rfl) (show (1070061 : Nat) ≤ 1862292 from Nat.le_of_ble_eq_true rfl) ?_
  refine gRunN_ok hG.1 2 _ (324, [some (.ref 94), some (.int a0), some (.int a1), some (.int a2), some (.int a3)], [.int 700, .ref 94], (gSq_249, s36, 1070061)) rfl ?_
  refine g_na hG.2.2.1 (ty := .int) (N := 700) (k := 131) (sh' := gSq_250) (u' := 1070761) (fun _ _ _ _ => rfl) rfl ⟨by decide, Nat.le_of_ble_eq_true rfl⟩ rfl rfl rfl rfl (Nat.le_of_ble_eq_true rfl) (show (1070761 : Nat) ≤ 1862292 from Nat.le_of_ble_eq_true rfl) ?_
  show G (326, [some (.ref 94), some (.int a0), some (.int a1), some (.int a2), some (.int a3)], [.ref 131, .ref 94], (gSq_250, (gZr s36 131 700), 1070761))
  obtain ⟨s37, es37, hP⟩ := g_let hP
  rw [← es37]
  refine hG.2.2.1 _ (329, [some (.ref 94), some (.int a0), some (.int a1), some (.int a2), some (.int a3)], [], (gSq_251, s37, 1070761)) _ rfl rfl (Nat.le_of_ble_eq_true rfl) (show (1070761 : Nat) ≤ 1862292 from Nat.le_of_ble_eq_true rfl) ?_
  refine gRunN_ok hG.1 2 _ (333, [some (.ref 94), some (.int a0), some (.int a1), some (.int a2), some (.int a3)], [.int 700, .ref 94], (gSq_251, s37, 1070761)) rfl ?_
  refine g_na hG.2.2.1 (ty := .int) (N := 700) (k := 132) (sh' := gSq_252) (u' := 1071461) (fun _ _ _ _ => rfl) rfl ⟨by decide, Nat.le_of_ble_eq_true rfl⟩ rfl rfl rfl rfl (Nat.le_of_ble_eq_true rfl) (show (1071461 : Nat) ≤ 1862292 from Nat.le_of_ble_eq_true rfl) ?_
  show G (335, [some (.ref 94), some (.int a0), some (.int a1), some (.int a2), some (.int a3)], [.ref 132, .ref 94], (gSq_252, (gZr s37 132 700), 1071461))
  obtain ⟨s38, es38, hP⟩ := g_let hP
  rw [← es38]
  refine hG.2.2.1 _ (338, [some (.ref 94), some (.int a0), some (.int a1), some (.int a2), some (.int a3)], [], (gSq_253, s38, 1071461)) _ rfl rfl (Nat.le_of_ble_eq_true rfl) (show (1071461 : Nat) ≤ 1862292 from Nat.le_of_ble_eq_true rfl) ?_
  refine gRunN_ok hG.1 2 _ (342, [some (.ref 94), some (.int a0), some (.int a1), some (.int a2), some (.int a3)], [.int 144, .ref 94], (gSq_253, s38, 1071461)) rfl ?_
  refine g_na hG.2.2.1 (ty := .int) (N := 144) (k := 133) (sh' := gSq_254) (u' := 1071605) (fun _ _ _ _ => rfl) rfl ⟨by decide, Nat.le_of_ble_eq_true rfl⟩ rfl rfl rfl rfl (Nat.le_of_ble_eq_true rfl) (show (1071605 : Nat) ≤ 1862292 from Nat.le_of_ble_eq_true rfl) ?_
  show G (344, [some (.ref 94), some (.int a0), some (.int a1), some (.int a2), some (.int a3)], [.ref 133, .ref 94], (gSq_254, (gZr s38 133 144), 1071605))
  obtain ⟨s39, es39, hP⟩ := g_let hP
  rw [← es39]
  refine hG.2.2.1 _ (347, [some (.ref 94), some (.int a0), some (.int a1), some (.int a2), some (.int a3)], [], (gSq_255, s39, 1071605)) _ rfl rfl (Nat.le_of_ble_eq_true rfl) (show (1071605 : Nat) ≤ 1862292 from Nat.le_of_ble_eq_true rfl) ?_
  refine gRunN_ok hG.1 2 _ (351, [some (.ref 94), some (.int a0), some (.int a1), some (.int a2), some (.int a3)], [.int 144, .ref 94], (gSq_255, s39, 1071605)) rfl ?_
  refine g_na hG.2.2.1 (ty := .int) (N := 144) (k := 134) (sh' := gSq_256) (u' := 1071749) (fun _ _ _ _ => rfl) rfl ⟨by decide, Nat.le_of_ble_eq_true rfl⟩ rfl rfl rfl rfl (Nat.le_of_ble_eq_true rfl) (show (1071749 : Nat) ≤ 1862292 from Nat.le_of_ble_eq_true rfl) ?_
  show G (353, [some (.ref 94), some (.int a0), some (.int a1), some (.int a2), some (.int a3)], [.ref 134, .ref 94], (gSq_256, (gZr s39 134 144), 1071749))
  obtain ⟨s40, es40, hP⟩ := g_let hP
  rw [← es40]
  refine hG.2.2.1 _ (356, [some (.ref 94), some (.int a0), some (.int a1), some (.int a2), some (.int a3)], [], (gSq_257, s40, 1071749)) _ rfl rfl (Nat.le_of_ble_eq_true rfl) (show (1071749 : Nat) ≤ 1862292 from Nat.le_of_ble_eq_true rfl) ?_
  refine gRunN_ok hG.1 2 _ (359, [some (.ref 94), some (.int a0), some (.int a1), some (.int a2), some (.int a3)], [.int 57600, .ref 94], (gSq_257, s40, 1071749)) rfl ?_
  refine g_na hG.2.2.1 (ty := .boolean) (N := 57600) (k := 135) (sh' := gSq_258) (u' := 1129349) (fun _ _ _ _ => rfl) rfl ⟨by decide, Nat.le_of_ble_eq_true rfl⟩ rfl rfl rfl rfl (Nat.le_of_ble_eq_true rfl) (show (1129349 : Nat) ≤ 1862292 from Nat.le_of_ble_eq_true rfl) ?_
  show G (361, [some (.ref 94), some (.int a0), some (.int a1), some (.int a2), some (.int a3)], [.ref 135, .ref 94], (gSq_258, (gZr s40 135 57600), 1129349))
  obtain ⟨s41, es41, hP⟩ := g_let hP
  rw [← es41]
  refine hG.2.2.1 _ (364, [some (.ref 94), some (.int a0), some (.int a1), some (.int a2), some (.int a3)], [], (gSq_259, s41, 1129349)) _ rfl rfl (Nat.le_of_ble_eq_true rfl) (show (1129349 : Nat) ≤ 1862292 from Nat.le_of_ble_eq_true rfl) ?_
  refine gRunN_ok hG.1 2 _ (367, [some (.ref 94), some (.int a0), some (.int a1), some (.int a2), some (.int a3)], [.int 36, .ref 94], (gSq_259, s41, 1129349)) rfl ?_
  refine g_na hG.2.2.1 (ty := .int) (N := 36) (k := 136) (sh' := gSq_260) (u' := 1129385) (fun _ _ _ _ => rfl) rfl ⟨by decide, Nat.le_of_ble_eq_true rfl⟩ rfl rfl rfl rfl (Nat.le_of_ble_eq_true rfl) (show (1129385 : Nat) ≤ 1862292 from Nat.le_of_ble_eq_true rfl) ?_
  show G (369, [some (.ref 94), some (.int a0), some (.int a1), some (.int a2), some (.int a3)], [.ref 136, .ref 94], (gSq_260, (gZr s41 136 36), 1129385))
  obtain ⟨s42, es42, hP⟩ := g_let hP
  rw [← es42]
  refine hG.2.2.1 _ (372, [some (.ref 94), some (.int a0), some (.int a1), some (.int a2), some (.int a3)], [], (gSq_261, s42, 1129385)) _ rfl rfl (Nat.le_of_ble_eq_true rfl) (show (1129385 : Nat) ≤ 1862292 from Nat.le_of_ble_eq_true rfl) ?_
  refine gRunN_ok hG.1 2 _ (375, [some (.ref 94), some (.int a0), some (.int a1), some (.int a2), some (.int a3)], [.int 48, .ref 94], (gSq_261, s42, 1129385)) rfl ?_
  refine g_na hG.2.2.1 (ty := .int) (N := 48) (k := 137) (sh' := gSq_262) (u' := 1129433) (fun _ _ _ _ => rfl) rfl ⟨by decide, Nat.le_of_ble_eq_true rfl⟩ rfl rfl rfl rfl (Nat.le_of_ble_eq_true rfl) (show (1129433 : Nat) ≤ 1862292 from Nat.le_of_ble_eq_true rfl) ?_
  show G (377, [some (.ref 94), some (.int a0), some (.int a1), some (.int a2), some (.int a3)], [.ref 137, .ref 94], (gSq_262, (gZr s42 137 48), 1129433))
  obtain ⟨s43, es43, hP⟩ := g_let hP
  rw [← es43]
  refine hG.2.2.1 _ (380, [some (.ref 94), some (.int a0), some (.int a1), some (.int a2), some (.int a3)], [], (gSq_263, s43, 1129433)) _ rfl rfl (Nat.le_of_ble_eq_true rfl) (show (1129433 : Nat) ≤ 1862292 from Nat.le_of_ble_eq_true rfl) ?_
  refine gRunN_ok hG.1 2 _ (384, [some (.ref 94), some (.int a0), some (.int a1), some (.int a2), some (.int a3)], [.int 5040, .ref 94], (gSq_263, s43, 1129433)) rfl ?_
  refine g_na hG.2.2.1 (ty := .int) (N := 5040) (k := 138) (sh' := gSq_264) (u' := 1134473) (fun _ _ _ _ => rfl) rfl ⟨by decide, Nat.le_of_ble_eq_true rfl⟩ rfl rfl rfl rfl (Nat.le_of_ble_eq_true rfl) (show (1134473 : Nat) ≤ 1862292 from Nat.le_of_ble_eq_true rfl) ?_
  show G (386, [some (.ref 94), some (.int a0), some (.int a1), some (.int a2), some (.int a3)], [.ref 138, .ref 94], (gSq_264, (gZr s43 138 5040), 1134473))
  obtain ⟨s44, es44, hP⟩ := g_let hP
  rw [← es44]
  refine hG.2.2.1 _ (389, [some (.ref 94), some (.int a0), some (.int a1), some (.int a2), some (.int a3)], [], (gSq_265, s44, 1134473)) _ rfl rfl (Nat.le_of_ble_eq_true rfl) (show (1134473 : Nat) ≤ 1862292 from Nat.le_of_ble_eq_true rfl) ?_
  exact j_Model_init_s4 E d hG a0 a1 a2 a3 s44 hP
def p_Model_init_s2 (E : gEv) (a0 : Int32) (a1 : Int32) (a2 : Int32) (a3 : Int32) (σ : gS) : Option gS :=
  gLet (gZr σ 117 20000) fun s23 => gLet (gZr s23 118 5000) fun s24 => gLet (gZr s24 119 150) fun s25 => gLet (gZr s25 120 2560) fun s26 => gLet (gZr s26 121 80) fun s27 => gLet (gZr s27 122 10) fun s28 => gLet (gZr s28 123 10) fun s29 => gLet (gZr s29 124 10) fun s30 => gLet (gZr s30 125 144) fun s31 => gLet (gZr s31 126 576) fun s32 => gLet (gZr s32 127 144) fun s33 => p_Model_init_s3 E a0 a1 a2 a3 s33
set_option maxRecDepth 20000 in
theorem j_Model_init_s2 (E : gEv) (d : Nat) {G : gFr → Prop} {sr : gS} (hG : gClo E gDf gP18i gY187 none (gC E gDf gMs (d + 3)) (none, (gSh, sr, 1862292)) G) (a0 : Int32) (a1 : Int32) (a2 : Int32) (a3 : Int32) (σ : gS) (hP : p_Model_init_s2 E a0 a1 a2 a3 σ = some sr) : G (198, [some (.ref 94), some (.int a0), some (.int a1), some (.int a2), some (.int a3)], [], (gSq_221, σ, 1040426)) := by
  unfold p_Model_init_s2 at hP
  refine gRunN_ok hG.1 2 _ (202, [some (.ref 94), some (.int a0), some (.int a1), some (.int a2), some (.int a3)], [.int 20000, .ref 94], (gSq_221, σ, 1040426)) rfl ?_
  refine g_na hG.2.2.1 (ty := .int) (N := 20000) (k := 117) (sh' := gSq_222) (u' := 1060426) (fun _ _ _ _ => rfl) rfl ⟨by decide, Nat.le_of_ble_eq_true rfl⟩ rfl rfl rfl rfl (Nat.le_of_ble_eq_true rfl) (show (1060426 : Nat) ≤ 1862292 from Nat.le_of_ble_eq_true rfl) ?_
  show G (204, [some (.ref 94), some (.int a0), some (.int a1), some (.int a2), some (.int a3)], [.ref 117, .ref 94], (gSq_222, (gZr σ 117 20000), 1060426))
  obtain ⟨s23, es23, hP⟩ := g_let hP
  rw [← es23]
  refine hG.2.2.1 _ (207, [some (.ref 94), some (.int a0), some (.int a1), some (.int a2), some (.int a3)], [], (gSq_223, s23, 1060426)) _ rfl rfl (Nat.le_of_ble_eq_true rfl) (show (1060426 : Nat) ≤ 1862292 from Nat.le_of_ble_eq_true rfl) ?_
  refine gRunN_ok hG.1 2 _ (211, [some (.ref 94), some (.int a0), some (.int a1), some (.int a2), some (.int a3)], [.int 5000, .ref 94], (gSq_223, s23, 1060426)) rfl ?_
  refine g_na hG.2.2.1 (ty := .int) (N := 5000) (k := 118) (sh' := gSq_224) (u' := 1065426) (fun _ _ _ _ => rfl) rfl ⟨by decide, Nat.le_of_ble_eq_true rfl⟩ rfl rfl rfl rfl (Nat.le_of_ble_eq_true rfl) (show (1065426 : Nat) ≤ 1862292 from Nat.le_of_ble_eq_true rfl) ?_
  show G (213, [some (.ref 94), some (.int a0), some (.int a1), some (.int a2), some (.int a3)], [.ref 118, .ref 94], (gSq_224, (gZr s23 118 5000), 1065426))
  obtain ⟨s24, es24, hP⟩ := g_let hP
  rw [← es24]
  refine hG.2.2.1 _ (216, [some (.ref 94), some (.int a0), some (.int a1), some (.int a2), some (.int a3)], [], (gSq_225, s24, 1065426)) _ rfl rfl (Nat.le_of_ble_eq_true rfl) (show (1065426 : Nat) ≤ 1862292 from Nat.le_of_ble_eq_true rfl) ?_
  refine gRunN_ok hG.1 2 _ (220, [some (.ref 94), some (.int a0), some (.int a1), some (.int a2), some (.int a3)], [.int 150, .ref 94], (gSq_225, s24, 1065426)) rfl ?_
  refine g_na hG.2.2.1 (ty := .int) (N := 150) (k := 119) (sh' := gSq_226) (u' := 1065576) (fun _ _ _ _ => rfl) rfl ⟨by decide, Nat.le_of_ble_eq_true rfl⟩ rfl rfl rfl rfl (Nat.le_of_ble_eq_true rfl) (show (1065576 : Nat) ≤ 1862292 from Nat.le_of_ble_eq_true rfl) ?_
  show G (222, [some (.ref 94), some (.int a0), some (.int a1), some (.int a2), some (.int a3)], [.ref 119, .ref 94], (gSq_226, (gZr s24 119 150), 1065576))
  obtain ⟨s25, es25, hP⟩ := g_let hP
  rw [← es25]
  refine hG.2.2.1 _ (225, [some (.ref 94), some (.int a0), some (.int a1), some (.int a2), some (.int a3)], [], (gSq_227, s25, 1065576)) _ rfl rfl (Nat.le_of_ble_eq_true rfl) (show (1065576 : Nat) ≤ 1862292 from Nat.le_of_ble_eq_true rfl) ?_
  refine gRunN_ok hG.1 2 _ (229, [some (.ref 94), some (.int a0), some (.int a1), some (.int a2), some (.int a3)], [.int 2560, .ref 94], (gSq_227, s25, 1065576)) rfl ?_
  refine g_na hG.2.2.1 (ty := .boolean) (N := 2560) (k := 120) (sh' := gSq_228) (u' := 1068136) (fun _ _ _ _ => rfl) rfl ⟨by decide, Nat.le_of_ble_eq_true rfl⟩ rfl rfl rfl rfl (Nat.le_of_ble_eq_true rfl) (show (1068136 : Nat) ≤ 1862292 from Nat.le_of_ble_eq_true rfl) ?_
  show G (231, [some (.ref 94), some (.int a0), some (.int a1), some (.int a2), some (.int a3)], [.ref 120, .ref 94], (gSq_228, (gZr s25 120 2560), 1068136))
  obtain ⟨s26, es26, hP⟩ := g_let hP
  rw [← es26]
  refine hG.2.2.1 _ (234, [some (.ref 94), some (.int a0), some (.int a1), some (.int a2), some (.int a3)], [], (gSq_229, s26, 1068136)) _ rfl rfl (Nat.le_of_ble_eq_true rfl) (show (1068136 : Nat) ≤ 1862292 from Nat.le_of_ble_eq_true rfl) ?_
  refine gRunN_ok hG.1 2 _ (237, [some (.ref 94), some (.int a0), some (.int a1), some (.int a2), some (.int a3)], [.int 80, .ref 94], (gSq_229, s26, 1068136)) rfl ?_
  refine g_na hG.2.2.1 (ty := .int) (N := 80) (k := 121) (sh' := gSq_230) (u' := 1068216) (fun _ _ _ _ => rfl) rfl ⟨by decide, Nat.le_of_ble_eq_true rfl⟩ rfl rfl rfl rfl (Nat.le_of_ble_eq_true rfl) (show (1068216 : Nat) ≤ 1862292 from Nat.le_of_ble_eq_true rfl) ?_
  show G (239, [some (.ref 94), some (.int a0), some (.int a1), some (.int a2), some (.int a3)], [.ref 121, .ref 94], (gSq_230, (gZr s26 121 80), 1068216))
  obtain ⟨s27, es27, hP⟩ := g_let hP
  rw [← es27]
  refine hG.2.2.1 _ (242, [some (.ref 94), some (.int a0), some (.int a1), some (.int a2), some (.int a3)], [], (gSq_231, s27, 1068216)) _ rfl rfl (Nat.le_of_ble_eq_true rfl) (show (1068216 : Nat) ≤ 1862292 from Nat.le_of_ble_eq_true rfl) ?_
  refine gRunN_ok hG.1 2 _ (245, [some (.ref 94), some (.int a0), some (.int a1), some (.int a2), some (.int a3)], [.int 10, .ref 94], (gSq_231, s27, 1068216)) rfl ?_
  refine g_na hG.2.2.1 (ty := .int) (N := 10) (k := 122) (sh' := gSq_232) (u' := 1068226) (fun _ _ _ _ => rfl) rfl ⟨by decide, Nat.le_of_ble_eq_true rfl⟩ rfl rfl rfl rfl (Nat.le_of_ble_eq_true rfl) (show (1068226 : Nat) ≤ 1862292 from Nat.le_of_ble_eq_true rfl) ?_
  show G (247, [some (.ref 94), some (.int a0), some (.int a1), some (.int a2), some (.int a3)], [.ref 122, .ref 94], (gSq_232, (gZr s27 122 10), 1068226))
  obtain ⟨s28, es28, hP⟩ := g_let hP
  rw [← es28]
  refine hG.2.2.1 _ (250, [some (.ref 94), some (.int a0), some (.int a1), some (.int a2), some (.int a3)], [], (gSq_233, s28, 1068226)) _ rfl rfl (Nat.le_of_ble_eq_true rfl) (show (1068226 : Nat) ≤ 1862292 from Nat.le_of_ble_eq_true rfl) ?_
  refine gRunN_ok hG.1 2 _ (253, [some (.ref 94), some (.int a0), some (.int a1), some (.int a2), some (.int a3)], [.int 10, .ref 94], (gSq_233, s28, 1068226)) rfl ?_
  refine g_na hG.2.2.1 (ty := .int) (N := 10) (k := 123) (sh' := gSq_234) (u' := 1068236) (fun _ _ _ _ => rfl) rfl ⟨by decide, Nat.le_of_ble_eq_true rfl⟩ rfl rfl rfl rfl (Nat.le_of_ble_eq_true rfl) (show (1068236 : Nat) ≤ 1862292 from Nat.le_of_ble_eq_true rfl) ?_
  show G (255, [some (.ref 94), some (.int a0), some (.int a1), some (.int a2), some (.int a3)], [.ref 123, .ref 94], (gSq_234, (gZr s28 123 10), 1068236))
  obtain ⟨s29, es29, hP⟩ := g_let hP
  rw [← es29]
  refine hG.2.2.1 _ (258, [some (.ref 94), some (.int a0), some (.int a1), some (.int a2), some (.int a3)], [], (gSq_235, s29, 1068236)) _ rfl rfl (Nat.le_of_ble_eq_true rfl) (show (1068236 : Nat) ≤ 1862292 from Nat.le_of_ble_eq_true rfl) ?_
  refine gRunN_ok hG.1 2 _ (261, [some (.ref 94), some (.int a0), some (.int a1), some (.int a2), some (.int a3)], [.int 10, .ref 94], (gSq_235, s29, 1068236)) rfl ?_
  refine g_na hG.2.2.1 (ty := .int) (N := 10) (k := 124) (sh' := gSq_236) (u' := 1068246) (fun _ _ _ _ => rfl) rfl ⟨by decide, Nat.le_of_ble_eq_true rfl⟩ rfl rfl rfl rfl (Nat.le_of_ble_eq_true rfl) (show (1068246 : Nat) ≤ 1862292 from Nat.le_of_ble_eq_true rfl) ?_
  show G (263, [some (.ref 94), some (.int a0), some (.int a1), some (.int a2), some (.int a3)], [.ref 124, .ref 94], (gSq_236, (gZr s29 124 10), 1068246))
  obtain ⟨s30, es30, hP⟩ := g_let hP
  rw [← es30]
  refine hG.2.2.1 _ (266, [some (.ref 94), some (.int a0), some (.int a1), some (.int a2), some (.int a3)], [], (gSq_237, s30, 1068246)) _ rfl rfl (Nat.le_of_ble_eq_true rfl) (show (1068246 : Nat) ≤ 1862292 from Nat.le_of_ble_eq_true rfl) ?_
  refine gRunN_ok hG.1 2 _ (270, [some (.ref 94), some (.int a0), some (.int a1), some (.int a2), some (.int a3)], [.int 144, .ref 94], (gSq_237, s30, 1068246)) rfl ?_
  refine g_na hG.2.2.1 (ty := .int) (N := 144) (k := 125) (sh' := gSq_238) (u' := 1068390) (fun _ _ _ _ => rfl) rfl ⟨by decide, Nat.le_of_ble_eq_true rfl⟩ rfl rfl rfl rfl (Nat.le_of_ble_eq_true rfl) (show (1068390 : Nat) ≤ 1862292 from Nat.le_of_ble_eq_true rfl) ?_
  show G (272, [some (.ref 94), some (.int a0), some (.int a1), some (.int a2), some (.int a3)], [.ref 125, .ref 94], (gSq_238, (gZr s30 125 144), 1068390))
  obtain ⟨s31, es31, hP⟩ := g_let hP
  rw [← es31]
  refine hG.2.2.1 _ (275, [some (.ref 94), some (.int a0), some (.int a1), some (.int a2), some (.int a3)], [], (gSq_239, s31, 1068390)) _ rfl rfl (Nat.le_of_ble_eq_true rfl) (show (1068390 : Nat) ≤ 1862292 from Nat.le_of_ble_eq_true rfl) ?_
  refine gRunN_ok hG.1 2 _ (279, [some (.ref 94), some (.int a0), some (.int a1), some (.int a2), some (.int a3)], [.int 576, .ref 94], (gSq_239, s31, 1068390)) rfl ?_
  refine g_na hG.2.2.1 (ty := .int) (N := 576) (k := 126) (sh' := gSq_240) (u' := 1068966) (fun _ _ _ _ => rfl) rfl ⟨by decide, Nat.le_of_ble_eq_true rfl⟩ rfl rfl rfl rfl (Nat.le_of_ble_eq_true rfl) (show (1068966 : Nat) ≤ 1862292 from Nat.le_of_ble_eq_true rfl) ?_
  show G (281, [some (.ref 94), some (.int a0), some (.int a1), some (.int a2), some (.int a3)], [.ref 126, .ref 94], (gSq_240, (gZr s31 126 576), 1068966))
  obtain ⟨s32, es32, hP⟩ := g_let hP
  rw [← es32]
  refine hG.2.2.1 _ (284, [some (.ref 94), some (.int a0), some (.int a1), some (.int a2), some (.int a3)], [], (gSq_241, s32, 1068966)) _ rfl rfl (Nat.le_of_ble_eq_true rfl) (show (1068966 : Nat) ≤ 1862292 from Nat.le_of_ble_eq_true rfl) ?_
  refine gRunN_ok hG.1 2 _ (288, [some (.ref 94), some (.int a0), some (.int a1), some (.int a2), some (.int a3)], [.int 144, .ref 94], (gSq_241, s32, 1068966)) rfl ?_
  refine g_na hG.2.2.1 (ty := .int) (N := 144) (k := 127) (sh' := gSq_242) (u' := 1069110) (fun _ _ _ _ => rfl) rfl ⟨by decide, Nat.le_of_ble_eq_true rfl⟩ rfl rfl rfl rfl (Nat.le_of_ble_eq_true rfl) (show (1069110 : Nat) ≤ 1862292 from Nat.le_of_ble_eq_true rfl) ?_
  show G (290, [some (.ref 94), some (.int a0), some (.int a1), some (.int a2), some (.int a3)], [.ref 127, .ref 94], (gSq_242, (gZr s32 127 144), 1069110))
  obtain ⟨s33, es33, hP⟩ := g_let hP
  rw [← es33]
  refine hG.2.2.1 _ (293, [some (.ref 94), some (.int a0), some (.int a1), some (.int a2), some (.int a3)], [], (gSq_243, s33, 1069110)) _ rfl rfl (Nat.le_of_ble_eq_true rfl) (show (1069110 : Nat) ≤ 1862292 from Nat.le_of_ble_eq_true rfl) ?_
  exact j_Model_init_s3 E d hG a0 a1 a2 a3 s33 hP
def p_Model_init_s1 (E : gEv) (a0 : Int32) (a1 : Int32) (a2 : Int32) (a3 : Int32) (σ : gS) : Option gS :=
  gLet (gZr σ 106 150) fun s12 => gLet (gZr s12 107 150) fun s13 => gLet (gZr s13 108 150) fun s14 => gLet (gZr s14 109 150) fun s15 => gLet (gZr s15 110 150) fun s16 => gLet (gZr s16 111 1200) fun s17 => gLet (gZr s17 112 150) fun s18 => gLet (gZr s18 113 150) fun s19 => gLet (gZr s19 114 38400) fun s20 => gLet (gZr s20 115 150) fun s21 => gLet (gZr s21 116 150) fun s22 => p_Model_init_s2 E a0 a1 a2 a3 s22
set_option maxRecDepth 20000 in
theorem j_Model_init_s1 (E : gEv) (d : Nat) {G : gFr → Prop} {sr : gS} (hG : gClo E gDf gP18i gY187 none (gC E gDf gMs (d + 3)) (none, (gSh, sr, 1862292)) G) (a0 : Int32) (a1 : Int32) (a2 : Int32) (a3 : Int32) (σ : gS) (hP : p_Model_init_s1 E a0 a1 a2 a3 σ = some sr) : G (100, [some (.ref 94), some (.int a0), some (.int a1), some (.int a2), some (.int a3)], [], (gSq_199, σ, 999476)) := by
  unfold p_Model_init_s1 at hP
  refine gRunN_ok hG.1 2 _ (104, [some (.ref 94), some (.int a0), some (.int a1), some (.int a2), some (.int a3)], [.int 150, .ref 94], (gSq_199, σ, 999476)) rfl ?_
  refine g_na hG.2.2.1 (ty := .int) (N := 150) (k := 106) (sh' := gSq_200) (u' := 999626) (fun _ _ _ _ => rfl) rfl ⟨by decide, Nat.le_of_ble_eq_true rfl⟩ rfl rfl rfl rfl (Nat.le_of_ble_eq_true rfl) (show (999626 : Nat) ≤ 1862292 from Nat.le_of_ble_eq_true rfl) ?_
  show G (106, [some (.ref 94), some (.int a0), some (.int a1), some (.int a2), some (.int a3)], [.ref 106, .ref 94], (gSq_200, (gZr σ 106 150), 999626))
  obtain ⟨s12, es12, hP⟩ := g_let hP
  rw [← es12]
  refine hG.2.2.1 _ (109, [some (.ref 94), some (.int a0), some (.int a1), some (.int a2), some (.int a3)], [], (gSq_201, s12, 999626)) _ rfl rfl (Nat.le_of_ble_eq_true rfl) (show (999626 : Nat) ≤ 1862292 from Nat.le_of_ble_eq_true rfl) ?_
  refine gRunN_ok hG.1 2 _ (113, [some (.ref 94), some (.int a0), some (.int a1), some (.int a2), some (.int a3)], [.int 150, .ref 94], (gSq_201, s12, 999626)) rfl ?_
  refine g_na hG.2.2.1 (ty := .int) (N := 150) (k := 107) (sh' := gSq_202) (u' := 999776) (fun _ _ _ _ => rfl) rfl ⟨by decide, Nat.le_of_ble_eq_true rfl⟩ rfl rfl rfl rfl (Nat.le_of_ble_eq_true rfl) (show (999776 : Nat) ≤ 1862292 from Nat.le_of_ble_eq_true rfl) ?_
  show G (115, [some (.ref 94), some (.int a0), some (.int a1), some (.int a2), some (.int a3)], [.ref 107, .ref 94], (gSq_202, (gZr s12 107 150), 999776))
  obtain ⟨s13, es13, hP⟩ := g_let hP
  rw [← es13]
  refine hG.2.2.1 _ (118, [some (.ref 94), some (.int a0), some (.int a1), some (.int a2), some (.int a3)], [], (gSq_203, s13, 999776)) _ rfl rfl (Nat.le_of_ble_eq_true rfl) (show (999776 : Nat) ≤ 1862292 from Nat.le_of_ble_eq_true rfl) ?_
  refine gRunN_ok hG.1 2 _ (122, [some (.ref 94), some (.int a0), some (.int a1), some (.int a2), some (.int a3)], [.int 150, .ref 94], (gSq_203, s13, 999776)) rfl ?_
  refine g_na hG.2.2.1 (ty := .int) (N := 150) (k := 108) (sh' := gSq_204) (u' := 999926) (fun _ _ _ _ => rfl) rfl ⟨by decide, Nat.le_of_ble_eq_true rfl⟩ rfl rfl rfl rfl (Nat.le_of_ble_eq_true rfl) (show (999926 : Nat) ≤ 1862292 from Nat.le_of_ble_eq_true rfl) ?_
  show G (124, [some (.ref 94), some (.int a0), some (.int a1), some (.int a2), some (.int a3)], [.ref 108, .ref 94], (gSq_204, (gZr s13 108 150), 999926))
  obtain ⟨s14, es14, hP⟩ := g_let hP
  rw [← es14]
  refine hG.2.2.1 _ (127, [some (.ref 94), some (.int a0), some (.int a1), some (.int a2), some (.int a3)], [], (gSq_205, s14, 999926)) _ rfl rfl (Nat.le_of_ble_eq_true rfl) (show (999926 : Nat) ≤ 1862292 from Nat.le_of_ble_eq_true rfl) ?_
  refine gRunN_ok hG.1 2 _ (131, [some (.ref 94), some (.int a0), some (.int a1), some (.int a2), some (.int a3)], [.int 150, .ref 94], (gSq_205, s14, 999926)) rfl ?_
  refine g_na hG.2.2.1 (ty := .int) (N := 150) (k := 109) (sh' := gSq_206) (u' := 1000076) (fun _ _ _ _ => rfl) rfl ⟨by decide, Nat.le_of_ble_eq_true rfl⟩ rfl rfl rfl rfl (Nat.le_of_ble_eq_true rfl) (show (1000076 : Nat) ≤ 1862292 from Nat.le_of_ble_eq_true rfl) ?_
  show G (133, [some (.ref 94), some (.int a0), some (.int a1), some (.int a2), some (.int a3)], [.ref 109, .ref 94], (gSq_206, (gZr s14 109 150), 1000076))
  obtain ⟨s15, es15, hP⟩ := g_let hP
  rw [← es15]
  refine hG.2.2.1 _ (136, [some (.ref 94), some (.int a0), some (.int a1), some (.int a2), some (.int a3)], [], (gSq_207, s15, 1000076)) _ rfl rfl (Nat.le_of_ble_eq_true rfl) (show (1000076 : Nat) ≤ 1862292 from Nat.le_of_ble_eq_true rfl) ?_
  refine gRunN_ok hG.1 2 _ (140, [some (.ref 94), some (.int a0), some (.int a1), some (.int a2), some (.int a3)], [.int 150, .ref 94], (gSq_207, s15, 1000076)) rfl ?_
  refine g_na hG.2.2.1 (ty := .int) (N := 150) (k := 110) (sh' := gSq_208) (u' := 1000226) (fun _ _ _ _ => rfl) rfl ⟨by decide, Nat.le_of_ble_eq_true rfl⟩ rfl rfl rfl rfl (Nat.le_of_ble_eq_true rfl) (show (1000226 : Nat) ≤ 1862292 from Nat.le_of_ble_eq_true rfl) ?_
  show G (142, [some (.ref 94), some (.int a0), some (.int a1), some (.int a2), some (.int a3)], [.ref 110, .ref 94], (gSq_208, (gZr s15 110 150), 1000226))
  obtain ⟨s16, es16, hP⟩ := g_let hP
  rw [← es16]
  refine hG.2.2.1 _ (145, [some (.ref 94), some (.int a0), some (.int a1), some (.int a2), some (.int a3)], [], (gSq_209, s16, 1000226)) _ rfl rfl (Nat.le_of_ble_eq_true rfl) (show (1000226 : Nat) ≤ 1862292 from Nat.le_of_ble_eq_true rfl) ?_
  refine gRunN_ok hG.1 2 _ (149, [some (.ref 94), some (.int a0), some (.int a1), some (.int a2), some (.int a3)], [.int 1200, .ref 94], (gSq_209, s16, 1000226)) rfl ?_
  refine g_na hG.2.2.1 (ty := .int) (N := 1200) (k := 111) (sh' := gSq_210) (u' := 1001426) (fun _ _ _ _ => rfl) rfl ⟨by decide, Nat.le_of_ble_eq_true rfl⟩ rfl rfl rfl rfl (Nat.le_of_ble_eq_true rfl) (show (1001426 : Nat) ≤ 1862292 from Nat.le_of_ble_eq_true rfl) ?_
  show G (151, [some (.ref 94), some (.int a0), some (.int a1), some (.int a2), some (.int a3)], [.ref 111, .ref 94], (gSq_210, (gZr s16 111 1200), 1001426))
  obtain ⟨s17, es17, hP⟩ := g_let hP
  rw [← es17]
  refine hG.2.2.1 _ (154, [some (.ref 94), some (.int a0), some (.int a1), some (.int a2), some (.int a3)], [], (gSq_211, s17, 1001426)) _ rfl rfl (Nat.le_of_ble_eq_true rfl) (show (1001426 : Nat) ≤ 1862292 from Nat.le_of_ble_eq_true rfl) ?_
  refine gRunN_ok hG.1 2 _ (158, [some (.ref 94), some (.int a0), some (.int a1), some (.int a2), some (.int a3)], [.int 150, .ref 94], (gSq_211, s17, 1001426)) rfl ?_
  refine g_na hG.2.2.1 (ty := .int) (N := 150) (k := 112) (sh' := gSq_212) (u' := 1001576) (fun _ _ _ _ => rfl) rfl ⟨by decide, Nat.le_of_ble_eq_true rfl⟩ rfl rfl rfl rfl (Nat.le_of_ble_eq_true rfl) (show (1001576 : Nat) ≤ 1862292 from Nat.le_of_ble_eq_true rfl) ?_
  show G (160, [some (.ref 94), some (.int a0), some (.int a1), some (.int a2), some (.int a3)], [.ref 112, .ref 94], (gSq_212, (gZr s17 112 150), 1001576))
  obtain ⟨s18, es18, hP⟩ := g_let hP
  rw [← es18]
  refine hG.2.2.1 _ (163, [some (.ref 94), some (.int a0), some (.int a1), some (.int a2), some (.int a3)], [], (gSq_213, s18, 1001576)) _ rfl rfl (Nat.le_of_ble_eq_true rfl) (show (1001576 : Nat) ≤ 1862292 from Nat.le_of_ble_eq_true rfl) ?_
  refine gRunN_ok hG.1 2 _ (167, [some (.ref 94), some (.int a0), some (.int a1), some (.int a2), some (.int a3)], [.int 150, .ref 94], (gSq_213, s18, 1001576)) rfl ?_
  refine g_na hG.2.2.1 (ty := .int) (N := 150) (k := 113) (sh' := gSq_214) (u' := 1001726) (fun _ _ _ _ => rfl) rfl ⟨by decide, Nat.le_of_ble_eq_true rfl⟩ rfl rfl rfl rfl (Nat.le_of_ble_eq_true rfl) (show (1001726 : Nat) ≤ 1862292 from Nat.le_of_ble_eq_true rfl) ?_
  show G (169, [some (.ref 94), some (.int a0), some (.int a1), some (.int a2), some (.int a3)], [.ref 113, .ref 94], (gSq_214, (gZr s18 113 150), 1001726))
  obtain ⟨s19, es19, hP⟩ := g_let hP
  rw [← es19]
  refine hG.2.2.1 _ (172, [some (.ref 94), some (.int a0), some (.int a1), some (.int a2), some (.int a3)], [], (gSq_215, s19, 1001726)) _ rfl rfl (Nat.le_of_ble_eq_true rfl) (show (1001726 : Nat) ≤ 1862292 from Nat.le_of_ble_eq_true rfl) ?_
  refine gRunN_ok hG.1 2 _ (175, [some (.ref 94), some (.int a0), some (.int a1), some (.int a2), some (.int a3)], [.int 38400, .ref 94], (gSq_215, s19, 1001726)) rfl ?_
  refine g_na hG.2.2.1 (ty := .boolean) (N := 38400) (k := 114) (sh' := gSq_216) (u' := 1040126) (fun _ _ _ _ => rfl) rfl ⟨by decide, Nat.le_of_ble_eq_true rfl⟩ rfl rfl rfl rfl (Nat.le_of_ble_eq_true rfl) (show (1040126 : Nat) ≤ 1862292 from Nat.le_of_ble_eq_true rfl) ?_
  show G (177, [some (.ref 94), some (.int a0), some (.int a1), some (.int a2), some (.int a3)], [.ref 114, .ref 94], (gSq_216, (gZr s19 114 38400), 1040126))
  obtain ⟨s20, es20, hP⟩ := g_let hP
  rw [← es20]
  refine hG.2.2.1 _ (180, [some (.ref 94), some (.int a0), some (.int a1), some (.int a2), some (.int a3)], [], (gSq_217, s20, 1040126)) _ rfl rfl (Nat.le_of_ble_eq_true rfl) (show (1040126 : Nat) ≤ 1862292 from Nat.le_of_ble_eq_true rfl) ?_
  refine gRunN_ok hG.1 2 _ (184, [some (.ref 94), some (.int a0), some (.int a1), some (.int a2), some (.int a3)], [.int 150, .ref 94], (gSq_217, s20, 1040126)) rfl ?_
  refine g_na hG.2.2.1 (ty := .int) (N := 150) (k := 115) (sh' := gSq_218) (u' := 1040276) (fun _ _ _ _ => rfl) rfl ⟨by decide, Nat.le_of_ble_eq_true rfl⟩ rfl rfl rfl rfl (Nat.le_of_ble_eq_true rfl) (show (1040276 : Nat) ≤ 1862292 from Nat.le_of_ble_eq_true rfl) ?_
  show G (186, [some (.ref 94), some (.int a0), some (.int a1), some (.int a2), some (.int a3)], [.ref 115, .ref 94], (gSq_218, (gZr s20 115 150), 1040276))
  obtain ⟨s21, es21, hP⟩ := g_let hP
  rw [← es21]
  refine hG.2.2.1 _ (189, [some (.ref 94), some (.int a0), some (.int a1), some (.int a2), some (.int a3)], [], (gSq_219, s21, 1040276)) _ rfl rfl (Nat.le_of_ble_eq_true rfl) (show (1040276 : Nat) ≤ 1862292 from Nat.le_of_ble_eq_true rfl) ?_
  refine gRunN_ok hG.1 2 _ (193, [some (.ref 94), some (.int a0), some (.int a1), some (.int a2), some (.int a3)], [.int 150, .ref 94], (gSq_219, s21, 1040276)) rfl ?_
  refine g_na hG.2.2.1 (ty := .boolean) (N := 150) (k := 116) (sh' := gSq_220) (u' := 1040426) (fun _ _ _ _ => rfl) rfl ⟨by decide, Nat.le_of_ble_eq_true rfl⟩ rfl rfl rfl rfl (Nat.le_of_ble_eq_true rfl) (show (1040426 : Nat) ≤ 1862292 from Nat.le_of_ble_eq_true rfl) ?_
  show G (195, [some (.ref 94), some (.int a0), some (.int a1), some (.int a2), some (.int a3)], [.ref 116, .ref 94], (gSq_220, (gZr s21 116 150), 1040426))
  obtain ⟨s22, es22, hP⟩ := g_let hP
  rw [← es22]
  refine hG.2.2.1 _ (198, [some (.ref 94), some (.int a0), some (.int a1), some (.int a2), some (.int a3)], [], (gSq_221, s22, 1040426)) _ rfl rfl (Nat.le_of_ble_eq_true rfl) (show (1040426 : Nat) ≤ 1862292 from Nat.le_of_ble_eq_true rfl) ?_
  exact j_Model_init_s2 E d hG a0 a1 a2 a3 s22 hP
def p_Model_init (E : gEv) (a0 : Int32) (a1 : Int32) (a2 : Int32) (a3 : Int32) (σ : gS) : Option gS :=
  gLet (gZr σ 95 20) fun s1 => gLet (gZr s1 96 4000) fun s2 => gLet (gZr s2 97 2100) fun s3 => gLet (gZr s3 98 2100) fun s4 => gLet (gZr s4 99 150) fun s5 => gLet (gZr s5 100 150) fun s6 => gLet (gZr s6 101 150) fun s7 => gLet (gZr s7 102 150) fun s8 => gLet (gZr s8 103 150) fun s9 => gLet (gZr s9 104 48) fun s10 => gLet (gZr s10 105 48) fun s11 => p_Model_init_s1 E a0 a1 a2 a3 s11
set_option maxRecDepth 20000 in
theorem c_Model_init (E : gEv) (d : Nat) (a0 : Int32) (a1 : Int32) (a2 : Int32) (a3 : Int32) (σ : gS) {sr : gS} (hq : p_Model_init E a0 a1 a2 a3 σ = some sr) : gC E gDf gMs (d + 4) 187 [.ref 94, .int a0, .int a1, .int a2, .int a3] (gSq_177, σ, 990410) (none, (gSh, sr, 1862292)) := ⟨gM187, rfl, Nat.le_of_ble_eq_true rfl, fun G hG => by
  have hP := hq
  unfold p_Model_init at hP
  replace hG : gClo E gDf gP18i gY187 none (gC E gDf gMs (d + 3)) (none, (gSh, sr, 1862292)) G := hG
  show G (0, [some (.ref 94), some (.int a0), some (.int a1), some (.int a2), some (.int a3)], [], (gSq_177, σ, 990410))
  refine gRunN_ok hG.1 4 _ (7, [some (.ref 94), some (.int a0), some (.int a1), some (.int a2), some (.int a3)], [.int 20, .ref 94], (gSq_177, σ, 990410)) rfl ?_
  refine g_na hG.2.2.1 (ty := .int) (N := 20) (k := 95) (sh' := gSq_178) (u' := 990430) (fun _ _ _ _ => rfl) rfl ⟨by decide, Nat.le_of_ble_eq_true rfl⟩ rfl rfl rfl rfl (Nat.le_of_ble_eq_true rfl) (show (990430 : Nat) ≤ 1862292 from Nat.le_of_ble_eq_true rfl) ?_
  show G (9, [some (.ref 94), some (.int a0), some (.int a1), some (.int a2), some (.int a3)], [.ref 95, .ref 94], (gSq_178, (gZr σ 95 20), 990430))
  obtain ⟨s1, es1, hP⟩ := g_let hP
  rw [← es1]
  refine hG.2.2.1 _ (12, [some (.ref 94), some (.int a0), some (.int a1), some (.int a2), some (.int a3)], [], (gSq_179, s1, 990430)) _ rfl rfl (Nat.le_of_ble_eq_true rfl) (show (990430 : Nat) ≤ 1862292 from Nat.le_of_ble_eq_true rfl) ?_
  refine gRunN_ok hG.1 2 _ (16, [some (.ref 94), some (.int a0), some (.int a1), some (.int a2), some (.int a3)], [.int 4000, .ref 94], (gSq_179, s1, 990430)) rfl ?_
  refine g_na hG.2.2.1 (ty := .int) (N := 4000) (k := 96) (sh' := gSq_180) (u' := 994430) (fun _ _ _ _ => rfl) rfl ⟨by decide, Nat.le_of_ble_eq_true rfl⟩ rfl rfl rfl rfl (Nat.le_of_ble_eq_true rfl) (show (994430 : Nat) ≤ 1862292 from Nat.le_of_ble_eq_true rfl) ?_
  show G (18, [some (.ref 94), some (.int a0), some (.int a1), some (.int a2), some (.int a3)], [.ref 96, .ref 94], (gSq_180, (gZr s1 96 4000), 994430))
  obtain ⟨s2, es2, hP⟩ := g_let hP
  rw [← es2]
  refine hG.2.2.1 _ (21, [some (.ref 94), some (.int a0), some (.int a1), some (.int a2), some (.int a3)], [], (gSq_181, s2, 994430)) _ rfl rfl (Nat.le_of_ble_eq_true rfl) (show (994430 : Nat) ≤ 1862292 from Nat.le_of_ble_eq_true rfl) ?_
  refine gRunN_ok hG.1 2 _ (25, [some (.ref 94), some (.int a0), some (.int a1), some (.int a2), some (.int a3)], [.int 2100, .ref 94], (gSq_181, s2, 994430)) rfl ?_
  refine g_na hG.2.2.1 (ty := .int) (N := 2100) (k := 97) (sh' := gSq_182) (u' := 996530) (fun _ _ _ _ => rfl) rfl ⟨by decide, Nat.le_of_ble_eq_true rfl⟩ rfl rfl rfl rfl (Nat.le_of_ble_eq_true rfl) (show (996530 : Nat) ≤ 1862292 from Nat.le_of_ble_eq_true rfl) ?_
  show G (27, [some (.ref 94), some (.int a0), some (.int a1), some (.int a2), some (.int a3)], [.ref 97, .ref 94], (gSq_182, (gZr s2 97 2100), 996530))
  obtain ⟨s3, es3, hP⟩ := g_let hP
  rw [← es3]
  refine hG.2.2.1 _ (30, [some (.ref 94), some (.int a0), some (.int a1), some (.int a2), some (.int a3)], [], (gSq_183, s3, 996530)) _ rfl rfl (Nat.le_of_ble_eq_true rfl) (show (996530 : Nat) ≤ 1862292 from Nat.le_of_ble_eq_true rfl) ?_
  refine gRunN_ok hG.1 2 _ (34, [some (.ref 94), some (.int a0), some (.int a1), some (.int a2), some (.int a3)], [.int 2100, .ref 94], (gSq_183, s3, 996530)) rfl ?_
  refine g_na hG.2.2.1 (ty := .int) (N := 2100) (k := 98) (sh' := gSq_184) (u' := 998630) (fun _ _ _ _ => rfl) rfl ⟨by decide, Nat.le_of_ble_eq_true rfl⟩ rfl rfl rfl rfl (Nat.le_of_ble_eq_true rfl) (show (998630 : Nat) ≤ 1862292 from Nat.le_of_ble_eq_true rfl) ?_
  show G (36, [some (.ref 94), some (.int a0), some (.int a1), some (.int a2), some (.int a3)], [.ref 98, .ref 94], (gSq_184, (gZr s3 98 2100), 998630))
  obtain ⟨s4, es4, hP⟩ := g_let hP
  rw [← es4]
  refine hG.2.2.1 _ (39, [some (.ref 94), some (.int a0), some (.int a1), some (.int a2), some (.int a3)], [], (gSq_185, s4, 998630)) _ rfl rfl (Nat.le_of_ble_eq_true rfl) (show (998630 : Nat) ≤ 1862292 from Nat.le_of_ble_eq_true rfl) ?_
  refine gRunN_ok hG.1 2 _ (43, [some (.ref 94), some (.int a0), some (.int a1), some (.int a2), some (.int a3)], [.int 150, .ref 94], (gSq_185, s4, 998630)) rfl ?_
  refine g_na hG.2.2.1 (ty := .int) (N := 150) (k := 99) (sh' := gSq_186) (u' := 998780) (fun _ _ _ _ => rfl) rfl ⟨by decide, Nat.le_of_ble_eq_true rfl⟩ rfl rfl rfl rfl (Nat.le_of_ble_eq_true rfl) (show (998780 : Nat) ≤ 1862292 from Nat.le_of_ble_eq_true rfl) ?_
  show G (45, [some (.ref 94), some (.int a0), some (.int a1), some (.int a2), some (.int a3)], [.ref 99, .ref 94], (gSq_186, (gZr s4 99 150), 998780))
  obtain ⟨s5, es5, hP⟩ := g_let hP
  rw [← es5]
  refine hG.2.2.1 _ (48, [some (.ref 94), some (.int a0), some (.int a1), some (.int a2), some (.int a3)], [], (gSq_187, s5, 998780)) _ rfl rfl (Nat.le_of_ble_eq_true rfl) (show (998780 : Nat) ≤ 1862292 from Nat.le_of_ble_eq_true rfl) ?_
  refine gRunN_ok hG.1 2 _ (52, [some (.ref 94), some (.int a0), some (.int a1), some (.int a2), some (.int a3)], [.int 150, .ref 94], (gSq_187, s5, 998780)) rfl ?_
  refine g_na hG.2.2.1 (ty := .int) (N := 150) (k := 100) (sh' := gSq_188) (u' := 998930) (fun _ _ _ _ => rfl) rfl ⟨by decide, Nat.le_of_ble_eq_true rfl⟩ rfl rfl rfl rfl (Nat.le_of_ble_eq_true rfl) (show (998930 : Nat) ≤ 1862292 from Nat.le_of_ble_eq_true rfl) ?_
  show G (54, [some (.ref 94), some (.int a0), some (.int a1), some (.int a2), some (.int a3)], [.ref 100, .ref 94], (gSq_188, (gZr s5 100 150), 998930))
  obtain ⟨s6, es6, hP⟩ := g_let hP
  rw [← es6]
  refine hG.2.2.1 _ (57, [some (.ref 94), some (.int a0), some (.int a1), some (.int a2), some (.int a3)], [], (gSq_189, s6, 998930)) _ rfl rfl (Nat.le_of_ble_eq_true rfl) (show (998930 : Nat) ≤ 1862292 from Nat.le_of_ble_eq_true rfl) ?_
  refine gRunN_ok hG.1 2 _ (61, [some (.ref 94), some (.int a0), some (.int a1), some (.int a2), some (.int a3)], [.int 150, .ref 94], (gSq_189, s6, 998930)) rfl ?_
  refine g_na hG.2.2.1 (ty := .int) (N := 150) (k := 101) (sh' := gSq_190) (u' := 999080) (fun _ _ _ _ => rfl) rfl ⟨by decide, Nat.le_of_ble_eq_true rfl⟩ rfl rfl rfl rfl (Nat.le_of_ble_eq_true rfl) (show (999080 : Nat) ≤ 1862292 from Nat.le_of_ble_eq_true rfl) ?_
  show G (63, [some (.ref 94), some (.int a0), some (.int a1), some (.int a2), some (.int a3)], [.ref 101, .ref 94], (gSq_190, (gZr s6 101 150), 999080))
  obtain ⟨s7, es7, hP⟩ := g_let hP
  rw [← es7]
  refine hG.2.2.1 _ (66, [some (.ref 94), some (.int a0), some (.int a1), some (.int a2), some (.int a3)], [], (gSq_191, s7, 999080)) _ rfl rfl (Nat.le_of_ble_eq_true rfl) (show (999080 : Nat) ≤ 1862292 from Nat.le_of_ble_eq_true rfl) ?_
  refine gRunN_ok hG.1 2 _ (70, [some (.ref 94), some (.int a0), some (.int a1), some (.int a2), some (.int a3)], [.int 150, .ref 94], (gSq_191, s7, 999080)) rfl ?_
  refine g_na hG.2.2.1 (ty := .int) (N := 150) (k := 102) (sh' := gSq_192) (u' := 999230) (fun _ _ _ _ => rfl) rfl ⟨by decide, Nat.le_of_ble_eq_true rfl⟩ rfl rfl rfl rfl (Nat.le_of_ble_eq_true rfl) (show (999230 : Nat) ≤ 1862292 from Nat.le_of_ble_eq_true rfl) ?_
  show G (72, [some (.ref 94), some (.int a0), some (.int a1), some (.int a2), some (.int a3)], [.ref 102, .ref 94], (gSq_192, (gZr s7 102 150), 999230))
  obtain ⟨s8, es8, hP⟩ := g_let hP
  rw [← es8]
  refine hG.2.2.1 _ (75, [some (.ref 94), some (.int a0), some (.int a1), some (.int a2), some (.int a3)], [], (gSq_193, s8, 999230)) _ rfl rfl (Nat.le_of_ble_eq_true rfl) (show (999230 : Nat) ≤ 1862292 from Nat.le_of_ble_eq_true rfl) ?_
  refine gRunN_ok hG.1 2 _ (79, [some (.ref 94), some (.int a0), some (.int a1), some (.int a2), some (.int a3)], [.int 150, .ref 94], (gSq_193, s8, 999230)) rfl ?_
  refine g_na hG.2.2.1 (ty := .int) (N := 150) (k := 103) (sh' := gSq_194) (u' := 999380) (fun _ _ _ _ => rfl) rfl ⟨by decide, Nat.le_of_ble_eq_true rfl⟩ rfl rfl rfl rfl (Nat.le_of_ble_eq_true rfl) (show (999380 : Nat) ≤ 1862292 from Nat.le_of_ble_eq_true rfl) ?_
  show G (81, [some (.ref 94), some (.int a0), some (.int a1), some (.int a2), some (.int a3)], [.ref 103, .ref 94], (gSq_194, (gZr s8 103 150), 999380))
  obtain ⟨s9, es9, hP⟩ := g_let hP
  rw [← es9]
  refine hG.2.2.1 _ (84, [some (.ref 94), some (.int a0), some (.int a1), some (.int a2), some (.int a3)], [], (gSq_195, s9, 999380)) _ rfl rfl (Nat.le_of_ble_eq_true rfl) (show (999380 : Nat) ≤ 1862292 from Nat.le_of_ble_eq_true rfl) ?_
  refine gRunN_ok hG.1 2 _ (87, [some (.ref 94), some (.int a0), some (.int a1), some (.int a2), some (.int a3)], [.int 48, .ref 94], (gSq_195, s9, 999380)) rfl ?_
  refine g_na hG.2.2.1 (ty := .int) (N := 48) (k := 104) (sh' := gSq_196) (u' := 999428) (fun _ _ _ _ => rfl) rfl ⟨by decide, Nat.le_of_ble_eq_true rfl⟩ rfl rfl rfl rfl (Nat.le_of_ble_eq_true rfl) (show (999428 : Nat) ≤ 1862292 from Nat.le_of_ble_eq_true rfl) ?_
  show G (89, [some (.ref 94), some (.int a0), some (.int a1), some (.int a2), some (.int a3)], [.ref 104, .ref 94], (gSq_196, (gZr s9 104 48), 999428))
  obtain ⟨s10, es10, hP⟩ := g_let hP
  rw [← es10]
  refine hG.2.2.1 _ (92, [some (.ref 94), some (.int a0), some (.int a1), some (.int a2), some (.int a3)], [], (gSq_197, s10, 999428)) _ rfl rfl (Nat.le_of_ble_eq_true rfl) (show (999428 : Nat) ≤ 1862292 from Nat.le_of_ble_eq_true rfl) ?_
  refine gRunN_ok hG.1 2 _ (95, [some (.ref 94), some (.int a0), some (.int a1), some (.int a2), some (.int a3)], [.int 48, .ref 94], (gSq_197, s10, 999428)) rfl ?_
  refine g_na hG.2.2.1 (ty := .int) (N := 48) (k := 105) (sh' := gSq_198) (u' := 999476) (fun _ _ _ _ => rfl) rfl ⟨by decide, Nat.le_of_ble_eq_true rfl⟩ rfl rfl rfl rfl (Nat.le_of_ble_eq_true rfl) (show (999476 : Nat) ≤ 1862292 from Nat.le_of_ble_eq_true rfl) ?_
  show G (97, [some (.ref 94), some (.int a0), some (.int a1), some (.int a2), some (.int a3)], [.ref 105, .ref 94], (gSq_198, (gZr s10 105 48), 999476))
  obtain ⟨s11, es11, hP⟩ := g_let hP
  rw [← es11]
  refine hG.2.2.1 _ (100, [some (.ref 94), some (.int a0), some (.int a1), some (.int a2), some (.int a3)], [], (gSq_199, s11, 999476)) _ rfl rfl (Nat.le_of_ble_eq_true rfl) (show (999476 : Nat) ≤ 1862292 from Nat.le_of_ble_eq_true rfl) ?_
  exact j_Model_init_s1 E d hG a0 a1 a2 a3 s11 hP⟩
