def p_Router_writeEnd (E : gEv) (a1 : Int32) (σ : gS) : Option (gS) :=
  if gIn a1 (σ.2.1 64) then if gIn (σ.1 64 a1.toNatClampNeg) (σ.2.1 69) then gLet (σ.1 69 (σ.1 64 a1.toNatClampNeg).toNatClampNeg) fun x1 => if gIn a1 (σ.2.1 79) then gB1 (p_Grid_reach E x1 (σ.1 79 a1.toNatClampNeg) σ) fun v2 => gLet ((1 : Int32) + v2) fun x4 => gB1 (p_Packing_isPin E a1 σ) fun v5 => if v5 = 0 then (gB1 (p_Grid_padBit E (x1 - (σ.1 1 4)) σ) fun v7 => gB1 (p_Field_put E (v7 + (2 : Int32)) 4 x4 σ) fun s10 => some s10) else (if gIn a1 (σ.2.1 63) then gB1 (p_Packing_firstBit E ((σ.1 63 a1.toNatClampNeg) / (4 : Int32)) x1 σ) fun v11 => gLet (v11 + (18 : Int32)) fun x13 => if gIn a1 (σ.2.1 63) then gB1 (p_Field_put E (x13 + (((σ.1 63 a1.toNatClampNeg) - (σ.1 63 a1.toNatClampNeg) / (4 : Int32) * (4 : Int32)) * (6 : Int32))) 6 x4 σ) fun s15 => some s15 else none else none) else none else none else none
set_option maxRecDepth 20000 in
theorem c_Router_writeEnd (E : gEv) (d u : Nat) (a1 : Int32) (σ : gS) {sr : gS}  (hq : p_Router_writeEnd E a1 σ = some sr) : gC E gDf gMs (d + 2) 146 [.ref 70, .ref 81, .int a1] (gSh, σ, u) (none, (gSh, sr, u)) := ⟨gM146, rfl, Nat.le_of_ble_eq_true rfl, fun G hG => by
  have hP := hq
  unfold p_Router_writeEnd at hP
  replace hG : gClo E gDf gP10 gY146 none (gC E gDf gMs (d + 1)) (none, (gSh, sr, u)) G := hG
  show G (0, [some (.ref 70), some (.ref 81), some (.int a1), none, none, none], [], (gSh, σ, u))
  refine gRunN_ok hG.1 7 _ (15, [some (.ref 70), some (.ref 81), some (.int a1), none, none, none], [.int a1, .ref 64, .ref 69], (gSh, σ, u)) rfl ?_
  obtain ⟨hc, hP⟩ := g_if hP
  refine hG.1 _ (16, [some (.ref 70), some (.ref 81), some (.int a1), none, none, none], [.int (σ.1 64 a1.toNatClampNeg), .ref 69], (gSh, σ, u)) _ rfl (if_pos hc) ?_
  obtain ⟨hc, hP⟩ := g_if hP
  refine hG.1 _ (17, [some (.ref 70), some (.ref 81), some (.int a1), none, none, none], [.int (σ.1 69 (σ.1 64 a1.toNatClampNeg).toNatClampNeg)], (gSh, σ, u)) _ rfl (if_pos hc) ?_
  refine gRunN_ok hG.1 1 _ (18, [some (.ref 70), some (.ref 81), some (.int a1), some (.int (σ.1 69 (σ.1 64 a1.toNatClampNeg).toNatClampNeg)), none, none], [], (gSh, σ, u)) rfl ?_
  obtain ⟨x1, ex1, hP⟩ := g_let hP
  rw [← ex1]
  refine gRunN_ok hG.1 7 _ (29, [some (.ref 70), some (.ref 81), some (.int a1), some (.int x1), none, none], [.int a1, .ref 79, .int x1, .ref 1, .int 1], (gSh, σ, u)) rfl ?_
  obtain ⟨hc, hP⟩ := g_if hP
  refine hG.1 _ (30, [some (.ref 70), some (.ref 81), some (.int a1), some (.int x1), none, none], [.int (σ.1 79 a1.toNatClampNeg), .int x1, .ref 1, .int 1], (gSh, σ, u)) _ rfl (if_pos hc) ?_
  obtain ⟨v2, hq, hP⟩ := g_b1 hP
  refine hG.2.2.2.1 _ _ _ [.ref 1, .int x1, .int (σ.1 79 a1.toNatClampNeg)] [.int 1] _ (gSh, σ, u) (some (.int v2)) _ _ _ _ _ _ rfl rfl rfl rfl rfl rfl (c_Grid_reach E (d + 0) u x1 (σ.1 79 a1.toNatClampNeg) _  hq) (Nat.le_refl _) (Nat.le_refl _) (Nat.le_refl _) (Nat.le_refl _) ?_
  show G (33, [some (.ref 70), some (.ref 81), some (.int a1), some (.int x1), none, none], [.int v2, .int 1], (gSh, σ, u))
  refine gRunN_ok hG.1 2 _ (36, [some (.ref 70), some (.ref 81), some (.int a1), some (.int x1), some (.int ((1 : Int32) + v2)), none], [], (gSh, σ, u)) rfl ?_
  obtain ⟨x4, ex4, hP⟩ := g_let hP
  rw [← ex4]
  refine gRunN_ok hG.1 3 _ (41, [some (.ref 70), some (.ref 81), some (.int a1), some (.int x1), some (.int x4), none], [.int a1, .ref 53], (gSh, σ, u)) rfl ?_
  obtain ⟨v5, hq, hP⟩ := g_b1 hP
  refine hG.2.2.2.1 _ _ _ [.ref 53, .int a1] [] _ (gSh, σ, u) (some (.int v5)) _ _ _ _ _ _ rfl rfl rfl rfl rfl rfl (c_Packing_isPin E (d + 0) u a1 _  hq) (Nat.le_refl _) (Nat.le_refl _) (Nat.le_refl _) (Nat.le_refl _) ?_
  show G (44, [some (.ref 70), some (.ref 81), some (.int a1), some (.int x1), some (.int x4), none], [.int v5], (gSh, σ, u))
  rcases g_ite hP with ⟨hc, hP⟩ | ⟨hc, hP⟩
  · refine hG.1 _ (99, [some (.ref 70), some (.ref 81), some (.int a1), some (.int x1), some (.int x4), none], [], (gSh, σ, u)) _ rfl (if_pos hc) ?_
    refine gRunN_ok hG.1 8 _ (113, [some (.ref 70), some (.ref 81), some (.int a1), some (.int x1), some (.int x4), none], [.int (x1 - (σ.1 1 4)), .ref 1, .ref 81], (gSh, σ, u)) rfl ?_
    obtain ⟨v7, hq, hP⟩ := g_b1 hP
    refine hG.2.2.2.1 _ _ _ [.ref 1, .int (x1 - (σ.1 1 4))] [.ref 81] _ (gSh, σ, u) (some (.int v7)) _ _ _ _ _ _ rfl rfl rfl rfl rfl rfl (c_Grid_padBit E (d + 0) u (x1 - (σ.1 1 4)) _  hq) (Nat.le_refl _) (Nat.le_refl _) (Nat.le_refl _) (Nat.le_refl _) ?_
    show G (116, [some (.ref 70), some (.ref 81), some (.int a1), some (.int x1), some (.int x4), none], [.int v7, .ref 81], (gSh, σ, u))
    refine gRunN_ok hG.1 4 _ (121, [some (.ref 70), some (.ref 81), some (.int a1), some (.int x1), some (.int x4), none], [.int x4, .int 4, .int (v7 + (2 : Int32)), .ref 81], (gSh, σ, u)) rfl ?_
    obtain ⟨s10, hq, hP⟩ := g_b1 hP
    refine hG.2.2.2.1 _ _ _ [.ref 81, .int (v7 + (2 : Int32)), .int 4, .int x4] [] _ (gSh, s10, u) none _ _ _ _ _ _ rfl rfl rfl rfl rfl rfl (c_Field_put E (d + 0) u (v7 + (2 : Int32)) 4 x4 _  hq) (Nat.le_refl _) (Nat.le_refl _) (Nat.le_refl _) (Nat.le_refl _) ?_
    show G (124, [some (.ref 70), some (.ref 81), some (.int a1), some (.int x1), some (.int x4), none], [], (gSh, s10, u))
    cases hP
    exact hG.2.1 _ _ rfl rfl
  · refine hG.1 _ (47, [some (.ref 70), some (.ref 81), some (.int a1), some (.int x1), some (.int x4), none], [], (gSh, σ, u)) _ rfl (if_neg hc) ?_
    refine gRunN_ok hG.1 6 _ (59, [some (.ref 70), some (.ref 81), some (.int a1), some (.int x1), some (.int x4), none], [.int a1, .ref 63, .ref 53], (gSh, σ, u)) rfl ?_
    obtain ⟨hc, hP⟩ := g_if hP
    refine hG.1 _ (60, [some (.ref 70), some (.ref 81), some (.int a1), some (.int x1), some (.int x4), none], [.int (σ.1 63 a1.toNatClampNeg), .ref 53], (gSh, σ, u)) _ rfl (if_pos hc) ?_
    refine gRunN_ok hG.1 3 _ (63, [some (.ref 70), some (.ref 81), some (.int a1), some (.int x1), some (.int x4), none], [.int x1, .int ((σ.1 63 a1.toNatClampNeg) / (4 : Int32)), .ref 53], (gSh, σ, u)) rfl ?_
    obtain ⟨v11, hq, hP⟩ := g_b1 hP
    refine hG.2.2.2.1 _ _ _ [.ref 53, .int ((σ.1 63 a1.toNatClampNeg) / (4 : Int32)), .int x1] [] _ (gSh, σ, u) (some (.int v11)) _ _ _ _ _ _ rfl rfl rfl rfl rfl rfl (c_Packing_firstBit E (d + 0) u ((σ.1 63 a1.toNatClampNeg) / (4 : Int32)) x1 _  hq) (Nat.le_refl _) (Nat.le_refl _) (Nat.le_refl _) (Nat.le_refl _) ?_
    show G (66, [some (.ref 70), some (.ref 81), some (.int a1), some (.int x1), some (.int x4), none], [.int v11], (gSh, σ, u))
    refine gRunN_ok hG.1 3 _ (71, [some (.ref 70), some (.ref 81), some (.int a1), some (.int x1), some (.int x4), some (.int (v11 + (18 : Int32)))], [], (gSh, σ, u)) rfl ?_
    obtain ⟨x13, ex13, hP⟩ := g_let hP
    rw [← ex13]
    refine gRunN_ok hG.1 6 _ (82, [some (.ref 70), some (.ref 81), some (.int a1), some (.int x1), some (.int x4), some (.int x13)], [.int a1, .ref 63, .int x13, .ref 81], (gSh, σ, u)) rfl ?_
    obtain ⟨hc, hP⟩ := g_if hP
    refine hG.1 _ (83, [some (.ref 70), some (.ref 81), some (.int a1), some (.int x1), some (.int x4), some (.int x13)], [.int (σ.1 63 a1.toNatClampNeg), .int x13, .ref 81], (gSh, σ, u)) _ rfl (if_pos hc) ?_
    refine gRunN_ok hG.1 7 _ (93, [some (.ref 70), some (.ref 81), some (.int a1), some (.int x1), some (.int x4), some (.int x13)], [.int x4, .int 6, .int (x13 + (((σ.1 63 a1.toNatClampNeg) - (σ.1 63 a1.toNatClampNeg) / (4 : Int32) * (4 : Int32)) * (6 : Int32))), .ref 81], (gSh, σ, u)) rfl ?_
    obtain ⟨s15, hq, hP⟩ := g_b1 hP
    refine hG.2.2.2.1 _ _ _ [.ref 81, .int (x13 + (((σ.1 63 a1.toNatClampNeg) - (σ.1 63 a1.toNatClampNeg) / (4 : Int32) * (4 : Int32)) * (6 : Int32))), .int 6, .int x4] [] _ (gSh, s15, u) none _ _ _ _ _ _ rfl rfl rfl rfl rfl rfl (c_Field_put E (d + 0) u (x13 + (((σ.1 63 a1.toNatClampNeg) - (σ.1 63 a1.toNatClampNeg) / (4 : Int32) * (4 : Int32)) * (6 : Int32))) 6 x4 _  hq) (Nat.le_refl _) (Nat.le_refl _) (Nat.le_refl _) (Nat.le_refl _) ?_
    show G (96, [some (.ref 70), some (.ref 81), some (.int a1), some (.int x1), some (.int x4), some (.int x13)], [], (gSh, s15, u))
    refine gRunN_ok hG.1 1 _ (124, [some (.ref 70), some (.ref 81), some (.int a1), some (.int x1), some (.int x4), some (.int x13)], [], (gSh, s15, u)) rfl ?_
    cases hP
    exact hG.2.1 _ _ rfl rfl⟩
def p_Router_drivenBit (E : gEv) (a0 : Int32) (σ : gS) : Option (Int32) :=
  if gIn a0 (σ.2.1 78) then gLet (σ.1 78 a0.toNatClampNeg) fun x1 => if gIn x1 (σ.2.1 61) then if gIn (σ.1 61 x1.toNatClampNeg) (σ.2.1 69) then gLet (σ.1 69 (σ.1 61 x1.toNatClampNeg).toNatClampNeg) fun x2 => gB1 (p_Grid_reach E x2 a0 σ) fun v3 => if x2 < (σ.1 1 4) then (if gIn x1 (σ.2.1 60) then gB1 (p_Packing_elementMaking E (σ.1 60 x1.toNatClampNeg) σ) fun v5 => gB1 (p_Packing_firstBit E v5 x2 σ) fun v7 => some ((v7 + (42 : Int32)) + v3) else none) else (gB1 (p_Grid_padBit E (x2 - (σ.1 1 4)) σ) fun v9 => some ((v9 + (6 : Int32)) + v3)) else none else none else none
set_option maxRecDepth 20000 in
theorem c_Router_drivenBit (E : gEv) (d u : Nat) (a0 : Int32) (σ : gS) {v : Int32}  (hq : p_Router_drivenBit E a0 σ = some v) : gC E gDf gMs (d + 2) 147 [.ref 70, .int a0] (gSh, σ, u) (some (.int v), (gSh, σ, u)) := ⟨gM147, rfl, Nat.le_of_ble_eq_true rfl, fun G hG => by
  have hP := hq
  unfold p_Router_drivenBit at hP
  replace hG : gClo E gDf gP10 gY147 (some .int) (gC E gDf gMs (d + 1)) (some (.int v), (gSh, σ, u)) G := hG
  show G (0, [some (.ref 70), some (.int a0), none, none, none, none], [], (gSh, σ, u))
  refine gRunN_ok hG.1 3 _ (5, [some (.ref 70), some (.int a0), none, none, none, none], [.int a0, .ref 78], (gSh, σ, u)) rfl ?_
  obtain ⟨hc, hP⟩ := g_if hP
  refine hG.1 _ (6, [some (.ref 70), some (.int a0), none, none, none, none], [.int (σ.1 78 a0.toNatClampNeg)], (gSh, σ, u)) _ rfl (if_pos hc) ?_
  refine gRunN_ok hG.1 1 _ (7, [some (.ref 70), some (.int a0), some (.int (σ.1 78 a0.toNatClampNeg)), none, none, none], [], (gSh, σ, u)) rfl ?_
  obtain ⟨x1, ex1, hP⟩ := g_let hP
  rw [← ex1]
  refine gRunN_ok hG.1 7 _ (22, [some (.ref 70), some (.int a0), some (.int x1), none, none, none], [.int x1, .ref 61, .ref 69], (gSh, σ, u)) rfl ?_
  obtain ⟨hc, hP⟩ := g_if hP
  refine hG.1 _ (23, [some (.ref 70), some (.int a0), some (.int x1), none, none, none], [.int (σ.1 61 x1.toNatClampNeg), .ref 69], (gSh, σ, u)) _ rfl (if_pos hc) ?_
  obtain ⟨hc, hP⟩ := g_if hP
  refine hG.1 _ (24, [some (.ref 70), some (.int a0), some (.int x1), none, none, none], [.int (σ.1 69 (σ.1 61 x1.toNatClampNeg).toNatClampNeg)], (gSh, σ, u)) _ rfl (if_pos hc) ?_
  refine gRunN_ok hG.1 1 _ (25, [some (.ref 70), some (.int a0), some (.int x1), some (.int (σ.1 69 (σ.1 61 x1.toNatClampNeg).toNatClampNeg)), none, none], [], (gSh, σ, u)) rfl ?_
  obtain ⟨x2, ex2, hP⟩ := g_let hP
  rw [← ex2]
  refine gRunN_ok hG.1 4 _ (31, [some (.ref 70), some (.int a0), some (.int x1), some (.int x2), none, none], [.int a0, .int x2, .ref 1], (gSh, σ, u)) rfl ?_
  obtain ⟨v3, hq, hP⟩ := g_b1 hP
  refine hG.2.2.2.1 _ _ _ [.ref 1, .int x2, .int a0] [] _ (gSh, σ, u) (some (.int v3)) _ _ _ _ _ _ rfl rfl rfl rfl rfl rfl (c_Grid_reach E (d + 0) u x2 a0 _  hq) (Nat.le_refl _) (Nat.le_refl _) (Nat.le_refl _) (Nat.le_refl _) ?_
  show G (34, [some (.ref 70), some (.int a0), some (.int x1), some (.int x2), none, none], [.int v3], (gSh, σ, u))
  refine gRunN_ok hG.1 5 _ (44, [some (.ref 70), some (.int a0), some (.int x1), some (.int x2), some (.int v3), none], [.int (σ.1 1 4), .int x2], (gSh, σ, u)) rfl ?_
  rcases g_ite hP with ⟨hc, hP⟩ | ⟨hc, hP⟩
  · refine hG.1 _ (70, [some (.ref 70), some (.int a0), some (.int x1), some (.int x2), some (.int v3), none], [], (gSh, σ, u)) _ rfl (if_pos hc) ?_
    refine gRunN_ok hG.1 6 _ (82, [some (.ref 70), some (.int a0), some (.int x1), some (.int x2), some (.int v3), none], [.int x1, .ref 60, .ref 53], (gSh, σ, u)) rfl ?_
    obtain ⟨hc, hP⟩ := g_if hP
    refine hG.1 _ (83, [some (.ref 70), some (.int a0), some (.int x1), some (.int x2), some (.int v3), none], [.int (σ.1 60 x1.toNatClampNeg), .ref 53], (gSh, σ, u)) _ rfl (if_pos hc) ?_
    obtain ⟨v5, hq, hP⟩ := g_b1 hP
    refine hG.2.2.2.1 _ _ _ [.ref 53, .int (σ.1 60 x1.toNatClampNeg)] [] _ (gSh, σ, u) (some (.int v5)) _ _ _ _ _ _ rfl rfl rfl rfl rfl rfl (c_Packing_elementMaking E (d + 0) u (σ.1 60 x1.toNatClampNeg) _  hq) (Nat.le_refl _) (Nat.le_refl _) (Nat.le_refl _) (Nat.le_refl _) ?_
    show G (86, [some (.ref 70), some (.int a0), some (.int x1), some (.int x2), some (.int v3), none], [.int v5], (gSh, σ, u))
    refine gRunN_ok hG.1 5 _ (95, [some (.ref 70), some (.int a0), some (.int x1), some (.int x2), some (.int v3), some (.int v5)], [.int x2, .int v5, .ref 53], (gSh, σ, u)) rfl ?_
    obtain ⟨v7, hq, hP⟩ := g_b1 hP
    refine hG.2.2.2.1 _ _ _ [.ref 53, .int v5, .int x2] [] _ (gSh, σ, u) (some (.int v7)) _ _ _ _ _ _ rfl rfl rfl rfl rfl rfl (c_Packing_firstBit E (d + 0) u v5 x2 _  hq) (Nat.le_refl _) (Nat.le_refl _) (Nat.le_refl _) (Nat.le_refl _) ?_
    show G (98, [some (.ref 70), some (.int a0), some (.int x1), some (.int x2), some (.int v3), some (.int v5)], [.int v7], (gSh, σ, u))
    refine gRunN_ok hG.1 4 _ (104, [some (.ref 70), some (.int a0), some (.int x1), some (.int x2), some (.int v3), some (.int v5)], [.int ((v7 + (42 : Int32)) + v3)], (gSh, σ, u)) rfl ?_
    cases hP
    exact hG.2.1 _ _ rfl rfl
  · refine hG.1 _ (47, [some (.ref 70), some (.int a0), some (.int x1), some (.int x2), some (.int v3), none], [], (gSh, σ, u)) _ rfl (if_neg hc) ?_
    refine gRunN_ok hG.1 7 _ (60, [some (.ref 70), some (.int a0), some (.int x1), some (.int x2), some (.int v3), none], [.int (x2 - (σ.1 1 4)), .ref 1], (gSh, σ, u)) rfl ?_
    obtain ⟨v9, hq, hP⟩ := g_b1 hP
    refine hG.2.2.2.1 _ _ _ [.ref 1, .int (x2 - (σ.1 1 4))] [] _ (gSh, σ, u) (some (.int v9)) _ _ _ _ _ _ rfl rfl rfl rfl rfl rfl (c_Grid_padBit E (d + 0) u (x2 - (σ.1 1 4)) _  hq) (Nat.le_refl _) (Nat.le_refl _) (Nat.le_refl _) (Nat.le_refl _) ?_
    show G (63, [some (.ref 70), some (.int a0), some (.int x1), some (.int x2), some (.int v3), none], [.int v9], (gSh, σ, u))
    refine gRunN_ok hG.1 4 _ (69, [some (.ref 70), some (.int a0), some (.int x1), some (.int x2), some (.int v3), none], [.int ((v9 + (6 : Int32)) + v3)], (gSh, σ, u)) rfl ?_
    cases hP
    exact hG.2.1 _ _ rfl rfl⟩
def p_Face_flip (E : gEv) (a0 : Int32) (σ : gS) : Option (Int32 × gS) :=
  if a0 < 0 then (some ((-1), σ)) else (if a0 < (σ.1 1 8) then (gB2 (p_Field_turn E a0 σ) fun v1 s2 => some (v1, s2)) else (some ((-1), σ)))
set_option maxRecDepth 20000 in
theorem c_Face_flip (E : gEv) (d u : Nat) (a0 : Int32) (σ : gS) {v : Int32} {sr : gS}  (hq : p_Face_flip E a0 σ = some (v, sr)) : gC E gDf gMs (d + 2) 150 [.ref 0, .int a0] (gSh, σ, u) (some (.int v), (gSh, sr, u)) := ⟨gM150, rfl, Nat.le_of_ble_eq_true rfl, fun G hG => by
  have hP := hq
  unfold p_Face_flip at hP
  replace hG : gClo E gDf gP0 gY150 (some .int) (gC E gDf gMs (d + 1)) (some (.int v), (gSh, sr, u)) G := hG
  show G (0, [some (.ref 0), some (.int a0)], [], (gSh, σ, u))
  refine gRunN_ok hG.1 1 _ (1, [some (.ref 0), some (.int a0)], [.int a0], (gSh, σ, u)) rfl ?_
  rcases g_ite hP with ⟨hc, hP⟩ | ⟨hc, hP⟩
  · refine hG.1 _ (15, [some (.ref 0), some (.int a0)], [], (gSh, σ, u)) _ rfl (if_pos hc) ?_
    refine gRunN_ok hG.1 2 _ (27, [some (.ref 0), some (.int a0)], [.int (-1)], (gSh, σ, u)) rfl ?_
    cases hP
    exact hG.2.1 _ _ rfl rfl
  · refine hG.1 _ (4, [some (.ref 0), some (.int a0)], [], (gSh, σ, u)) _ rfl (if_neg hc) ?_
    refine gRunN_ok hG.1 4 _ (12, [some (.ref 0), some (.int a0)], [.int (σ.1 1 8), .int a0], (gSh, σ, u)) rfl ?_
    rcases g_ite hP with ⟨hc, hP⟩ | ⟨hc, hP⟩
    · refine hG.1 _ (19, [some (.ref 0), some (.int a0)], [], (gSh, σ, u)) _ rfl (if_pos hc) ?_
      refine gRunN_ok hG.1 3 _ (24, [some (.ref 0), some (.int a0)], [.int a0, .ref 81], (gSh, σ, u)) rfl ?_
      obtain ⟨v1, s2, hq, hP⟩ := g_b2 hP
      refine hG.2.2.2.1 _ _ _ [.ref 81, .int a0] [] _ (gSh, s2, u) (some (.int v1)) _ _ _ _ _ _ rfl rfl rfl rfl rfl rfl (c_Field_turn E (d + 0) u a0 _  hq) (Nat.le_refl _) (Nat.le_refl _) (Nat.le_refl _) (Nat.le_refl _) ?_
      show G (27, [some (.ref 0), some (.int a0)], [.int v1], (gSh, s2, u))
      cases hP
      exact hG.2.1 _ _ rfl rfl
    · refine hG.1 _ (15, [some (.ref 0), some (.int a0)], [], (gSh, σ, u)) _ rfl (if_neg hc) ?_
      refine gRunN_ok hG.1 2 _ (27, [some (.ref 0), some (.int a0)], [.int (-1)], (gSh, σ, u)) rfl ?_
      cases hP
      exact hG.2.1 _ _ rfl rfl⟩
def p_Face_start (E : gEv) (σ : gS) : Option (gS) :=
  gB1 (p_Field_begin E σ) fun s2 => some s2
set_option maxRecDepth 20000 in
theorem c_Face_start (E : gEv) (d u : Nat) (σ : gS) {sr : gS}  (hq : p_Face_start E σ = some sr) : gC E gDf gMs (d + 2) 152 [.ref 0] (gSh, σ, u) (none, (gSh, sr, u)) := ⟨gM152, rfl, Nat.le_of_ble_eq_true rfl, fun G hG => by
  have hP := hq
  unfold p_Face_start at hP
  replace hG : gClo E gDf gP0 gY152 none (gC E gDf gMs (d + 1)) (none, (gSh, sr, u)) G := hG
  show G (0, [some (.ref 0)], [], (gSh, σ, u))
  refine gRunN_ok hG.1 2 _ (4, [some (.ref 0)], [.ref 81], (gSh, σ, u)) rfl ?_
  obtain ⟨s2, hq, hP⟩ := g_b1 hP
  refine hG.2.2.2.1 _ _ _ [.ref 81] [] _ (gSh, s2, u) none _ _ _ _ _ _ rfl rfl rfl rfl rfl rfl (c_Field_begin E (d + 0) u _  hq) (Nat.le_refl _) (Nat.le_refl _) (Nat.le_refl _) (Nat.le_refl _) ?_
  show G (7, [some (.ref 0)], [], (gSh, s2, u))
  cases hP
  exact hG.2.1 _ _ rfl rfl⟩
def p_Face_level_j31 (E : gEv) (y1 : Int32) (y2 : Int32) (σ : gS) : Option (Int32 × gS) :=
  gB1 (p_Field_setPad E y1 y2 σ) fun s2 => some (1, s2)
set_option maxRecDepth 20000 in
theorem j_Face_level_j31 (E : gEv) (d u : Nat) {G : gFr → Prop} {v : Int32} {sr : gS} (hG : gClo E gDf gP0 gY153 (some .boolean) (gC E gDf gMs (d + 1)) (some (.int v), (gSh, sr, u)) G) (y1 : Int32) (y2 : Int32) (σ : gS) (hP : p_Face_level_j31 E y1 y2 σ = some (v, sr)) : G (31, [none, none, none], [.int y2, .int y1, .ref 81], (gSh, σ, u)) := by
  unfold p_Face_level_j31 at hP
  obtain ⟨s2, hq, hP⟩ := g_b1 hP
  refine hG.2.2.2.1 _ _ _ [.ref 81, .int y1, .int y2] [] _ (gSh, s2, u) none _ _ _ _ _ _ rfl rfl rfl rfl rfl rfl (c_Field_setPad E (d + 0) u y1 y2 _  hq) (Nat.le_refl _) (Nat.le_refl _) (Nat.le_refl _) (Nat.le_refl _) ?_
  show G (34, [none, none, none], [], (gSh, s2, u))
  refine gRunN_ok hG.1 1 _ (35, [none, none, none], [.int 1], (gSh, s2, u)) rfl ?_
  cases hP
  exact hG.2.1 _ _ rfl rfl
def p_Face_level (E : gEv) (a0 : Int32) (a1 : Int32) (σ : gS) : Option (Int32 × gS) :=
  if a0 < 0 then (some (0, σ)) else (if a0 < (σ.1 1 5) then (if a1 = 0 then (p_Face_level_j31 E a0 0 σ) else (p_Face_level_j31 E a0 1 σ)) else (some (0, σ)))
set_option maxRecDepth 20000 in
theorem c_Face_level (E : gEv) (d u : Nat) (a0 : Int32) (a1 : Int32) (σ : gS) {v : Int32} {sr : gS}  (hq : p_Face_level E a0 a1 σ = some (v, sr)) : gC E gDf gMs (d + 2) 153 [.ref 0, .int a0, .int a1] (gSh, σ, u) (some (.int v), (gSh, sr, u)) := ⟨gM153, rfl, Nat.le_of_ble_eq_true rfl, fun G hG => by
  have hP := hq
  unfold p_Face_level at hP
  replace hG : gClo E gDf gP0 gY153 (some .boolean) (gC E gDf gMs (d + 1)) (some (.int v), (gSh, sr, u)) G := hG
  show G (0, [some (.ref 0), some (.int a0), some (.int a1)], [], (gSh, σ, u))
  refine gRunN_ok hG.1 1 _ (1, [some (.ref 0), some (.int a0), some (.int a1)], [.int a0], (gSh, σ, u)) rfl ?_
  rcases g_ite hP with ⟨hc, hP⟩ | ⟨hc, hP⟩
  · refine hG.1 _ (15, [some (.ref 0), some (.int a0), some (.int a1)], [], (gSh, σ, u)) _ rfl (if_pos hc) ?_
    refine gRunN_ok hG.1 1 _ (16, [some (.ref 0), some (.int a0), some (.int a1)], [.int 0], (gSh, σ, u)) rfl ?_
    cases hP
    exact hG.2.1 _ _ rfl rfl
  · refine hG.1 _ (4, [some (.ref 0), some (.int a0), some (.int a1)], [], (gSh, σ, u)) _ rfl (if_neg hc) ?_
    refine gRunN_ok hG.1 4 _ (12, [some (.ref 0), some (.int a0), some (.int a1)], [.int (σ.1 1 5), .int a0], (gSh, σ, u)) rfl ?_
    rcases g_ite hP with ⟨hc, hP⟩ | ⟨hc, hP⟩
    · refine hG.1 _ (17, [some (.ref 0), some (.int a0), some (.int a1)], [], (gSh, σ, u)) _ rfl (if_pos hc) ?_
      refine gRunN_ok hG.1 4 _ (23, [some (.ref 0), some (.int a0), some (.int a1)], [.int a1, .int a0, .ref 81], (gSh, σ, u)) rfl ?_
      rcases g_ite hP with ⟨hc, hP⟩ | ⟨hc, hP⟩
      · refine hG.1 _ (30, [some (.ref 0), some (.int a0), some (.int a1)], [.int a0, .ref 81], (gSh, σ, u)) _ rfl (if_pos hc) ?_
        refine gRunN_ok hG.1 1 _ (31, [some (.ref 0), some (.int a0), some (.int a1)], [.int 0, .int a0, .ref 81], (gSh, σ, u)) rfl ?_
        refine hG.2.2.2.2.1 _ _ [none, none, none] _ _ trivial ?_
        exact j_Face_level_j31 E d u hG a0 0 σ hP
      · refine hG.1 _ (26, [some (.ref 0), some (.int a0), some (.int a1)], [.int a0, .ref 81], (gSh, σ, u)) _ rfl (if_neg hc) ?_
        refine gRunN_ok hG.1 2 _ (31, [some (.ref 0), some (.int a0), some (.int a1)], [.int 1, .int a0, .ref 81], (gSh, σ, u)) rfl ?_
        refine hG.2.2.2.2.1 _ _ [none, none, none] _ _ trivial ?_
        exact j_Face_level_j31 E d u hG a0 1 σ hP
    · refine hG.1 _ (15, [some (.ref 0), some (.int a0), some (.int a1)], [], (gSh, σ, u)) _ rfl (if_neg hc) ?_
      refine gRunN_ok hG.1 1 _ (16, [some (.ref 0), some (.int a0), some (.int a1)], [.int 0], (gSh, σ, u)) rfl ?_
      cases hP
      exact hG.2.1 _ _ rfl rfl⟩
def p_Field_setGroups_2 (E : gEv) (l1 : Int32) (σ : gS) : Option ((Int32 × gS) ⊕ (gS)) :=
  if (σ.1 1 7) ≤ l1 then (some (.inr σ)) else (if gIn l1 (σ.2.1 89) then gLet (gPut σ 89 l1.toNatClampNeg l1) fun s1 => gLet (l1 + 1) fun x2 => some (.inl (x2, s1)) else none)
set_option maxRecDepth 20000 in
theorem b_Field_setGroups_2 (E : gEv) (d u : Nat) {G : gFr → Prop} {vo : Option Value} {sr : gS} (hG : gClo E gDf gP12 gY159 none (gC E gDf gMs (d + 1)) (vo, (gSh, sr, u)) G) (l1 : Int32) (σ : gS) {r : (Int32 × gS) ⊕ (gS)} (hP : p_Field_setGroups_2 E l1 σ = some r) (K1 : ∀ (m1 : Int32) (σ1 : gS), r = .inl (m1, σ1) → G (2, [some (.ref 81), some (.int m1), none, none], [], (gSh, σ1, u))) (K2 : ∀ (σ1 : gS), r = .inr σ1 → G (26, [some (.ref 81), none, none, none], [], (gSh, σ1, u))) : G (2, [some (.ref 81), some (.int l1), none, none], [], (gSh, σ, u)) := by
  unfold p_Field_setGroups_2 at hP
  refine gRunN_ok hG.1 4 _ (10, [some (.ref 81), some (.int l1), none, none], [.int (σ.1 1 7), .int l1], (gSh, σ, u)) rfl ?_
  rcases g_ite hP with ⟨hc, hP⟩ | ⟨hc, hP⟩
  · refine hG.1 _ (26, [some (.ref 81), some (.int l1), none, none], [], (gSh, σ, u)) _ rfl (if_pos hc) ?_
    refine hG.2.2.2.2.1 _ _ [some (.ref 81), none, none, none] _ _ ⟨rfl, trivial⟩ ?_
    cases hP
    exact K2 _ rfl
  · refine hG.1 _ (13, [some (.ref 81), some (.int l1), none, none], [], (gSh, σ, u)) _ rfl (if_neg hc) ?_
    refine gRunN_ok hG.1 4 _ (19, [some (.ref 81), some (.int l1), none, none], [.int l1, .int l1, .ref 89], (gSh, σ, u)) rfl ?_
    obtain ⟨hc, hP⟩ := g_if hP
    refine hG.1 _ (20, [some (.ref 81), some (.int l1), none, none], [], (gSh, (gPut σ 89 l1.toNatClampNeg l1), u)) _ rfl (if_pos hc) ?_
    obtain ⟨s1, es1, hP⟩ := g_let hP
    rw [← es1]
    refine gRunN_ok hG.1 1 _ (23, [some (.ref 81), some (.int (l1 + 1)), none, none], [], (gSh, s1, u)) rfl ?_
    obtain ⟨x2, ex2, hP⟩ := g_let hP
    rw [← ex2]
    refine gRunN_ok hG.1 1 _ (2, [some (.ref 81), some (.int x2), none, none], [], (gSh, s1, u)) rfl ?_
    cases hP
    exact K1 _ _ rfl
theorem l_Field_setGroups_2 (E : gEv) (d u : Nat) {G : gFr → Prop} {vo : Option Value} {sr : gS} (hG : gClo E gDf gP12 gY159 none (gC E gDf gMs (d + 1)) (vo, (gSh, sr, u)) G) : ∀ (n : Nat) (l1 : Int32) (σ : gS) (e : (gS)), gIter (fun z => p_Field_setGroups_2 E z.1 z.2) n (l1, σ) = some e → (∀ (σ1 : gS), e = σ1 → G (26, [some (.ref 81), none, none, none], [], (gSh, σ1, u))) → G (2, [some (.ref 81), some (.int l1), none, none], [], (gSh, σ, u)) := by
  intro n
  induction n with
  | zero => intro l1 σ e h; cases h
  | succ n ih =>
    intro l1 σ e h K2
    rcases g_iter h with ⟨z, h1, h2⟩ | h1
    · exact b_Field_setGroups_2 E d u hG l1 σ h1 (fun n0 n1 hz => by cases hz; exact ih _ _ e h2 K2) (fun _ hz => by cases hz)
    · exact b_Field_setGroups_2 E d u hG l1 σ h1 (fun _ _ hz => by cases hz) (fun σ1 hz => K2 σ1 (by cases hz; rfl))
def p_Field_setGroups_28 (E : gEv) (l1 : Int32) (σ : gS) : Option ((Int32 × gS) ⊕ (gS)) :=
  if (Int32.ofNat (σ.2.1 5)) ≤ l1 then (some (.inr σ)) else (if gIn ((σ.1 1 11) + l1) (σ.2.1 82) then if (σ.1 82 ((σ.1 1 11) + l1).toNatClampNeg) = (1 : Int32) then (if gIn l1 (σ.2.1 5) then if (σ.1 5 l1.toNatClampNeg) = ((-1) : Int32) then (gLet (l1 + 1) fun x5 => some (.inl (x5, σ))) else (if gIn l1 (σ.2.1 5) then gB2 (p_Field_rootOf E (σ.1 5 l1.toNatClampNeg) σ) fun v6 s7 => if gIn l1 (s7.2.1 6) then gB2 (p_Field_rootOf E (s7.1 6 l1.toNatClampNeg) s7) fun v8 s9 => if gIn (if v6 < v8 then v8 else v6) (s9.2.1 89) then gLet (gPut s9 89 (if v6 < v8 then v8 else v6).toNatClampNeg (if v8 < v6 then v8 else v6)) fun s10 => gLet (l1 + 1) fun x11 => some (.inl (x11, s10)) else none else none else none) else none) else (gLet (l1 + 1) fun x12 => some (.inl (x12, σ))) else none)
set_option maxRecDepth 20000 in
theorem b_Field_setGroups_28 (E : gEv) (d u : Nat) {G : gFr → Prop} {vo : Option Value} {sr : gS} (hG : gClo E gDf gP12 gY159 none (gC E gDf gMs (d + 1)) (vo, (gSh, sr, u)) G) (l1 : Int32) (σ : gS) {r : (Int32 × gS) ⊕ (gS)} (hP : p_Field_setGroups_28 E l1 σ = some r) (K1 : ∀ (m1 : Int32) (σ1 : gS), r = .inl (m1, σ1) → G (28, [some (.ref 81), some (.int m1), none, none], [], (gSh, σ1, u))) (K2 : ∀ (σ1 : gS), r = .inr σ1 → G (120, [some (.ref 81), none, none, none], [], (gSh, σ1, u))) : G (28, [some (.ref 81), some (.int l1), none, none], [], (gSh, σ, u)) := by
  unfold p_Field_setGroups_28 at hP
  refine gRunN_ok hG.1 5 _ (37, [some (.ref 81), some (.int l1), none, none], [.int (Int32.ofNat (σ.2.1 5)), .int l1], (gSh, σ, u)) rfl ?_
  rcases g_ite hP with ⟨hc, hP⟩ | ⟨hc, hP⟩
  · refine hG.1 _ (120, [some (.ref 81), some (.int l1), none, none], [], (gSh, σ, u)) _ rfl (if_pos hc) ?_
    refine hG.2.2.2.2.1 _ _ [some (.ref 81), none, none, none] _ _ ⟨rfl, trivial⟩ ?_
    cases hP
    exact K2 _ rfl
  · refine hG.1 _ (40, [some (.ref 81), some (.int l1), none, none], [], (gSh, σ, u)) _ rfl (if_neg hc) ?_
    refine gRunN_ok hG.1 7 _ (53, [some (.ref 81), some (.int l1), none, none], [.int ((σ.1 1 11) + l1), .ref 82], (gSh, σ, u)) rfl ?_
    obtain ⟨hc, hP⟩ := g_if hP
    refine hG.1 _ (54, [some (.ref 81), some (.int l1), none, none], [.int (σ.1 82 ((σ.1 1 11) + l1).toNatClampNeg)], (gSh, σ, u)) _ rfl (if_pos hc) ?_
    refine gRunN_ok hG.1 1 _ (55, [some (.ref 81), some (.int l1), none, none], [.int 1, .int (σ.1 82 ((σ.1 1 11) + l1).toNatClampNeg)], (gSh, σ, u)) rfl ?_
    rcases g_ite hP with ⟨hc, hP⟩ | ⟨hc, hP⟩
    · refine hG.1 _ (58, [some (.ref 81), some (.int l1), none, none], [], (gSh, σ, u)) _ rfl (if_pos hc) ?_
      refine gRunN_ok hG.1 4 _ (66, [some (.ref 81), some (.int l1), none, none], [.int l1, .ref 5], (gSh, σ, u)) rfl ?_
      obtain ⟨hc, hP⟩ := g_if hP
      refine hG.1 _ (67, [some (.ref 81), some (.int l1), none, none], [.int (σ.1 5 l1.toNatClampNeg)], (gSh, σ, u)) _ rfl (if_pos hc) ?_
      refine gRunN_ok hG.1 1 _ (68, [some (.ref 81), some (.int l1), none, none], [.int (-1), .int (σ.1 5 l1.toNatClampNeg)], (gSh, σ, u)) rfl ?_
      rcases g_ite hP with ⟨hc, hP⟩ | ⟨hc, hP⟩
      · refine hG.1 _ (114, [some (.ref 81), some (.int l1), none, none], [], (gSh, σ, u)) _ rfl (if_pos hc) ?_
        refine gRunN_ok hG.1 1 _ (117, [some (.ref 81), some (.int (l1 + 1)), none, none], [], (gSh, σ, u)) rfl ?_
        obtain ⟨x5, ex5, hP⟩ := g_let hP
        rw [← ex5]
        refine gRunN_ok hG.1 1 _ (28, [some (.ref 81), some (.int x5), none, none], [], (gSh, σ, u)) rfl ?_
        cases hP
        exact K1 _ _ rfl
      · refine hG.1 _ (71, [some (.ref 81), some (.int l1), none, none], [], (gSh, σ, u)) _ rfl (if_neg hc) ?_
        refine gRunN_ok hG.1 5 _ (80, [some (.ref 81), some (.int l1), none, none], [.int l1, .ref 5, .ref 81], (gSh, σ, u)) rfl ?_
        obtain ⟨hc, hP⟩ := g_if hP
        refine hG.1 _ (81, [some (.ref 81), some (.int l1), none, none], [.int (σ.1 5 l1.toNatClampNeg), .ref 81], (gSh, σ, u)) _ rfl (if_pos hc) ?_
        obtain ⟨v6, s7, hq, hP⟩ := g_b2 hP
        refine hG.2.2.2.1 _ _ _ [.ref 81, .int (σ.1 5 l1.toNatClampNeg)] [] _ (gSh, s7, u) (some (.int v6)) _ _ _ _ _ _ rfl rfl rfl rfl rfl rfl (c_Field_rootOf E (d + 0) u (σ.1 5 l1.toNatClampNeg) _  hq) (Nat.le_refl _) (Nat.le_refl _) (Nat.le_refl _) (Nat.le_refl _) ?_
        show G (84, [some (.ref 81), some (.int l1), none, none], [.int v6], (gSh, s7, u))
        refine gRunN_ok hG.1 6 _ (94, [some (.ref 81), some (.int l1), some (.int v6), none], [.int l1, .ref 6, .ref 81], (gSh, s7, u)) rfl ?_
        obtain ⟨hc, hP⟩ := g_if hP
        refine hG.1 _ (95, [some (.ref 81), some (.int l1), some (.int v6), none], [.int (s7.1 6 l1.toNatClampNeg), .ref 81], (gSh, s7, u)) _ rfl (if_pos hc) ?_
        obtain ⟨v8, s9, hq, hP⟩ := g_b2 hP
        refine hG.2.2.2.1 _ _ _ [.ref 81, .int (s7.1 6 l1.toNatClampNeg)] [] _ (gSh, s9, u) (some (.int v8)) _ _ _ _ _ _ rfl rfl rfl rfl rfl rfl (c_Field_rootOf E (d + 0) u (s7.1 6 l1.toNatClampNeg) _  hq) (Nat.le_refl _) (Nat.le_refl _) (Nat.le_refl _) (Nat.le_refl _) ?_
        show G (98, [some (.ref 81), some (.int l1), some (.int v6), none], [.int v8], (gSh, s9, u))
        refine gRunN_ok hG.1 5 _ (105, [some (.ref 81), some (.int l1), some (.int v6), some (.int v8)], [.int v8, .int v6, .ref 89], (gSh, s9, u)) rfl ?_
        refine hG.2.2.2.2.2.2.1 _ _ _ _ _ _ _ _ _ rfl rfl rfl (Nat.le_refl _) (Nat.le_refl _) ?_
        show G (108, [some (.ref 81), some (.int l1), some (.int v6), some (.int v8)], [.int (if v6 < v8 then v8 else v6), .ref 89], (gSh, s9, u))
        refine gRunN_ok hG.1 2 _ (110, [some (.ref 81), some (.int l1), some (.int v6), some (.int v8)], [.int v8, .int v6, .int (if v6 < v8 then v8 else v6), .ref 89], (gSh, s9, u)) rfl ?_
        refine hG.2.2.2.2.2.2.2 _ _ _ _ _ _ _ _ _ rfl rfl rfl (Nat.le_refl _) (Nat.le_refl _) ?_
        show G (113, [some (.ref 81), some (.int l1), some (.int v6), some (.int v8)], [.int (if v8 < v6 then v8 else v6), .int (if v6 < v8 then v8 else v6), .ref 89], (gSh, s9, u))
        obtain ⟨hc, hP⟩ := g_if hP
        refine hG.1 _ (114, [some (.ref 81), some (.int l1), some (.int v6), some (.int v8)], [], (gSh, (gPut s9 89 (if v6 < v8 then v8 else v6).toNatClampNeg (if v8 < v6 then v8 else v6)), u)) _ rfl (if_pos hc) ?_
        obtain ⟨s10, es10, hP⟩ := g_let hP
        rw [← es10]
        refine gRunN_ok hG.1 1 _ (117, [some (.ref 81), some (.int (l1 + 1)), some (.int v6), some (.int v8)], [], (gSh, s10, u)) rfl ?_
        obtain ⟨x11, ex11, hP⟩ := g_let hP
        rw [← ex11]
        refine gRunN_ok hG.1 1 _ (28, [some (.ref 81), some (.int x11), some (.int v6), some (.int v8)], [], (gSh, s10, u)) rfl ?_
        refine hG.2.2.2.2.1 _ _ [some (.ref 81), some (.int x11), none, none] _ _ ⟨rfl, ⟨rfl, trivial⟩⟩ ?_
        cases hP
        exact K1 _ _ rfl
    · refine hG.1 _ (114, [some (.ref 81), some (.int l1), none, none], [], (gSh, σ, u)) _ rfl (if_neg hc) ?_
      refine gRunN_ok hG.1 1 _ (117, [some (.ref 81), some (.int (l1 + 1)), none, none], [], (gSh, σ, u)) rfl ?_
      obtain ⟨x12, ex12, hP⟩ := g_let hP
      rw [← ex12]
      refine gRunN_ok hG.1 1 _ (28, [some (.ref 81), some (.int x12), none, none], [], (gSh, σ, u)) rfl ?_
      cases hP
      exact K1 _ _ rfl
theorem l_Field_setGroups_28 (E : gEv) (d u : Nat) {G : gFr → Prop} {vo : Option Value} {sr : gS} (hG : gClo E gDf gP12 gY159 none (gC E gDf gMs (d + 1)) (vo, (gSh, sr, u)) G) : ∀ (n : Nat) (l1 : Int32) (σ : gS) (e : (gS)), gIter (fun z => p_Field_setGroups_28 E z.1 z.2) n (l1, σ) = some e → (∀ (σ1 : gS), e = σ1 → G (120, [some (.ref 81), none, none, none], [], (gSh, σ1, u))) → G (28, [some (.ref 81), some (.int l1), none, none], [], (gSh, σ, u)) := by
  intro n
  induction n with
  | zero => intro l1 σ e h; cases h
  | succ n ih =>
    intro l1 σ e h K2
    rcases g_iter h with ⟨z, h1, h2⟩ | h1
    · exact b_Field_setGroups_28 E d u hG l1 σ h1 (fun n0 n1 hz => by cases hz; exact ih _ _ e h2 K2) (fun _ hz => by cases hz)
    · exact b_Field_setGroups_28 E d u hG l1 σ h1 (fun _ _ hz => by cases hz) (fun σ1 hz => K2 σ1 (by cases hz; rfl))
def p_Field_setGroups_122 (E : gEv) (l1 : Int32) (σ : gS) : Option ((Int32 × gS) ⊕ (gS)) :=
  if (σ.1 1 7) ≤ l1 then (some (.inr σ)) else (gB2 (p_Field_rootOf E l1 σ) fun v15 s16 => if gIn l1 (s16.2.1 89) then gLet (gPut s16 89 l1.toNatClampNeg v15) fun s17 => gLet (l1 + 1) fun x18 => some (.inl (x18, s17)) else none)
set_option maxRecDepth 20000 in
theorem b_Field_setGroups_122 (E : gEv) (d u : Nat) {G : gFr → Prop} {vo : Option Value} {sr : gS} (hG : gClo E gDf gP12 gY159 none (gC E gDf gMs (d + 1)) (vo, (gSh, sr, u)) G) (l1 : Int32) (σ : gS) {r : (Int32 × gS) ⊕ (gS)} (hP : p_Field_setGroups_122 E l1 σ = some r) (K1 : ∀ (m1 : Int32) (σ1 : gS), r = .inl (m1, σ1) → G (122, [some (.ref 81), some (.int m1), none, none], [], (gSh, σ1, u))) (K2 : ∀ (σ1 : gS), r = .inr σ1 → G (150, [none, none, none, none], [], (gSh, σ1, u))) : G (122, [some (.ref 81), some (.int l1), none, none], [], (gSh, σ, u)) := by
  unfold p_Field_setGroups_122 at hP
  refine gRunN_ok hG.1 4 _ (130, [some (.ref 81), some (.int l1), none, none], [.int (σ.1 1 7), .int l1], (gSh, σ, u)) rfl ?_
  rcases g_ite hP with ⟨hc, hP⟩ | ⟨hc, hP⟩
  · refine hG.1 _ (150, [some (.ref 81), some (.int l1), none, none], [], (gSh, σ, u)) _ rfl (if_pos hc) ?_
    refine hG.2.2.2.2.1 _ _ [none, none, none, none] _ _ trivial ?_
    cases hP
    exact K2 _ rfl
  · refine hG.1 _ (133, [some (.ref 81), some (.int l1), none, none], [], (gSh, σ, u)) _ rfl (if_neg hc) ?_
    refine gRunN_ok hG.1 5 _ (140, [some (.ref 81), some (.int l1), none, none], [.int l1, .ref 81, .int l1, .ref 89], (gSh, σ, u)) rfl ?_
    obtain ⟨v15, s16, hq, hP⟩ := g_b2 hP
    refine hG.2.2.2.1 _ _ _ [.ref 81, .int l1] [.int l1, .ref 89] _ (gSh, s16, u) (some (.int v15)) _ _ _ _ _ _ rfl rfl rfl rfl rfl rfl (c_Field_rootOf E (d + 0) u l1 _  hq) (Nat.le_refl _) (Nat.le_refl _) (Nat.le_refl _) (Nat.le_refl _) ?_
    show G (143, [some (.ref 81), some (.int l1), none, none], [.int v15, .int l1, .ref 89], (gSh, s16, u))
    obtain ⟨hc, hP⟩ := g_if hP
    refine hG.1 _ (144, [some (.ref 81), some (.int l1), none, none], [], (gSh, (gPut s16 89 l1.toNatClampNeg v15), u)) _ rfl (if_pos hc) ?_
    obtain ⟨s17, es17, hP⟩ := g_let hP
    rw [← es17]
    refine gRunN_ok hG.1 1 _ (147, [some (.ref 81), some (.int (l1 + 1)), none, none], [], (gSh, s17, u)) rfl ?_
    obtain ⟨x18, ex18, hP⟩ := g_let hP
    rw [← ex18]
    refine gRunN_ok hG.1 1 _ (122, [some (.ref 81), some (.int x18), none, none], [], (gSh, s17, u)) rfl ?_
    cases hP
    exact K1 _ _ rfl
theorem l_Field_setGroups_122 (E : gEv) (d u : Nat) {G : gFr → Prop} {vo : Option Value} {sr : gS} (hG : gClo E gDf gP12 gY159 none (gC E gDf gMs (d + 1)) (vo, (gSh, sr, u)) G) : ∀ (n : Nat) (l1 : Int32) (σ : gS) (e : (gS)), gIter (fun z => p_Field_setGroups_122 E z.1 z.2) n (l1, σ) = some e → (∀ (σ1 : gS), e = σ1 → G (150, [none, none, none, none], [], (gSh, σ1, u))) → G (122, [some (.ref 81), some (.int l1), none, none], [], (gSh, σ, u)) := by
  intro n
  induction n with
  | zero => intro l1 σ e h; cases h
  | succ n ih =>
    intro l1 σ e h K2
    rcases g_iter h with ⟨z, h1, h2⟩ | h1
    · exact b_Field_setGroups_122 E d u hG l1 σ h1 (fun n0 n1 hz => by cases hz; exact ih _ _ e h2 K2) (fun _ hz => by cases hz)
    · exact b_Field_setGroups_122 E d u hG l1 σ h1 (fun _ _ hz => by cases hz) (fun σ1 hz => K2 σ1 (by cases hz; rfl))
def p_Field_setGroups (E : gEv) (σ : gS) : Option (gS) :=
  gB1 (gIter (fun z => p_Field_setGroups_2 E z.1 z.2) gN (0, σ)) fun e3 => (fun s4 => gB1 (gIter (fun z => p_Field_setGroups_28 E z.1 z.2) gN (0, s4)) fun e13 => (fun s14 => gB1 (gIter (fun z => p_Field_setGroups_122 E z.1 z.2) gN (0, s14)) fun e19 => (fun s20 => some s20) e19) e13) e3
set_option maxRecDepth 20000 in
theorem c_Field_setGroups (E : gEv) (d u : Nat) (σ : gS) {sr : gS}  (hq : p_Field_setGroups E σ = some sr) : gC E gDf gMs (d + 2) 159 [.ref 81] (gSh, σ, u) (none, (gSh, sr, u)) := ⟨gM159, rfl, Nat.le_of_ble_eq_true rfl, fun G hG => by
  have hP := hq
  unfold p_Field_setGroups at hP
  replace hG : gClo E gDf gP12 gY159 none (gC E gDf gMs (d + 1)) (none, (gSh, sr, u)) G := hG
  show G (0, [some (.ref 81), none, none, none], [], (gSh, σ, u))
  refine gRunN_ok hG.1 2 _ (2, [some (.ref 81), some (.int 0), none, none], [], (gSh, σ, u)) rfl ?_
  obtain ⟨e3, hq, hP⟩ := g_b1 hP
  refine l_Field_setGroups_2 E d u hG gN 0 σ _ hq (fun s4 he => ?_)
  · replace he := he.symm
    subst he
    try dsimp only [gSum] at hP
    refine gRunN_ok hG.1 2 _ (28, [some (.ref 81), some (.int 0), none, none], [], (gSh, s4, u)) rfl ?_
    obtain ⟨e13, hq, hP⟩ := g_b1 hP
    refine l_Field_setGroups_28 E d u hG gN 0 s4 _ hq (fun s14 he => ?_)
    · replace he := he.symm
      subst he
      try dsimp only [gSum] at hP
      refine gRunN_ok hG.1 2 _ (122, [some (.ref 81), some (.int 0), none, none], [], (gSh, s14, u)) rfl ?_
      obtain ⟨e19, hq, hP⟩ := g_b1 hP
      refine l_Field_setGroups_122 E d u hG gN 0 s14 _ hq (fun s20 he => ?_)
      · replace he := he.symm
        subst he
        try dsimp only [gSum] at hP
        cases hP
        exact hG.2.1 _ _ rfl rfl⟩
def p_Field_setPins_j89_13 (E : gEv) (l1 : Int32) (l2 : Int32) (l3 : Int32) (l4 : Int32) (y1 : Int32) (y2 : Int32) (σ : gS) : Option ((Int32 × gS) ⊕ (gS)) :=
  if gIn y1 (σ.2.1 91) then gLet (gPut σ 91 y1.toNatClampNeg y2) fun s4 => gLet (l4 + 1) fun x5 => some (.inl (x5, s4)) else none
set_option maxRecDepth 20000 in
theorem j_Field_setPins_j89_13 (E : gEv) (d u : Nat) {G : gFr → Prop} {vo : Option Value} {sr : gS} (hG : gClo E gDf gP12 gY162 none (gC E gDf gMs (d + 1)) (vo, (gSh, sr, u)) G) (l1 : Int32) (l2 : Int32) (l3 : Int32) (l4 : Int32) (y1 : Int32) (y2 : Int32) (σ : gS) {r : (Int32 × gS) ⊕ (gS)} (hP : p_Field_setPins_j89_13 E l1 l2 l3 l4 y1 y2 σ = some r) (K1 : ∀ (m4 : Int32) (σ1 : gS), r = .inl (m4, σ1) → G (13, [some (.ref 81), some (.int l1), some (.int l2), some (.int l3), some (.int m4), none, none], [], (gSh, σ1, u))) (K2 : ∀ (σ1 : gS), r = .inr σ1 → G (96, [none, none, none, none, none, none, none], [], (gSh, σ1, u))) : G (89, [some (.ref 81), some (.int l1), some (.int l2), some (.int l3), some (.int l4), none, none], [.int y2, .int y1, .ref 91], (gSh, σ, u)) := by
  unfold p_Field_setPins_j89_13 at hP
  obtain ⟨hc, hP⟩ := g_if hP
  refine hG.1 _ (90, [some (.ref 81), some (.int l1), some (.int l2), some (.int l3), some (.int l4), none, none], [], (gSh, (gPut σ 91 y1.toNatClampNeg y2), u)) _ rfl (if_pos hc) ?_
  obtain ⟨s4, es4, hP⟩ := g_let hP
  rw [← es4]
  refine gRunN_ok hG.1 1 _ (93, [some (.ref 81), some (.int l1), some (.int l2), some (.int l3), some (.int (l4 + 1)), none, none], [], (gSh, s4, u)) rfl ?_
  obtain ⟨x5, ex5, hP⟩ := g_let hP
  rw [← ex5]
  refine gRunN_ok hG.1 1 _ (13, [some (.ref 81), some (.int l1), some (.int l2), some (.int l3), some (.int x5), none, none], [], (gSh, s4, u)) rfl ?_
  cases hP
  exact K1 _ _ rfl
def p_Field_setPins_j59_13 (E : gEv) (l1 : Int32) (l2 : Int32) (l3 : Int32) (l4 : Int32) (l5 : Int32) (y0 : Int32) (σ : gS) : Option ((Int32 × gS) ⊕ (gS)) :=
  if y0 = 0 then (p_Field_setPins_j89_13 E l1 l2 l3 l4 ((l1 * (4 : Int32)) + l4) (-1) σ) else (gB1 (p_Field_groupAt E l3 (l5 - (1 : Int32)) σ) fun v6 => p_Field_setPins_j89_13 E l1 l2 l3 l4 ((l1 * (4 : Int32)) + l4) v6 σ)
set_option maxRecDepth 20000 in
theorem j_Field_setPins_j59_13 (E : gEv) (d u : Nat) {G : gFr → Prop} {vo : Option Value} {sr : gS} (hG : gClo E gDf gP12 gY162 none (gC E gDf gMs (d + 1)) (vo, (gSh, sr, u)) G) (l1 : Int32) (l2 : Int32) (l3 : Int32) (l4 : Int32) (l5 : Int32) (y0 : Int32) (σ : gS) {r : (Int32 × gS) ⊕ (gS)} (hP : p_Field_setPins_j59_13 E l1 l2 l3 l4 l5 y0 σ = some r) (K1 : ∀ (m4 : Int32) (σ1 : gS), r = .inl (m4, σ1) → G (13, [some (.ref 81), some (.int l1), some (.int l2), some (.int l3), some (.int m4), none, none], [], (gSh, σ1, u))) (K2 : ∀ (σ1 : gS), r = .inr σ1 → G (96, [none, none, none, none, none, none, none], [], (gSh, σ1, u))) : G (59, [some (.ref 81), some (.int l1), some (.int l2), some (.int l3), some (.int l4), some (.int l5), none], [.int y0], (gSh, σ, u)) := by
  unfold p_Field_setPins_j59_13 at hP
  refine gRunN_ok hG.1 9 _ (73, [some (.ref 81), some (.int l1), some (.int l2), some (.int l3), some (.int l4), some (.int l5), some (.int y0)], [.int y0, .int ((l1 * (4 : Int32)) + l4), .ref 91], (gSh, σ, u)) rfl ?_
  rcases g_ite hP with ⟨hc, hP⟩ | ⟨hc, hP⟩
  · refine hG.1 _ (88, [some (.ref 81), some (.int l1), some (.int l2), some (.int l3), some (.int l4), some (.int l5), some (.int y0)], [.int ((l1 * (4 : Int32)) + l4), .ref 91], (gSh, σ, u)) _ rfl (if_pos hc) ?_
    refine gRunN_ok hG.1 1 _ (89, [some (.ref 81), some (.int l1), some (.int l2), some (.int l3), some (.int l4), some (.int l5), some (.int y0)], [.int (-1), .int ((l1 * (4 : Int32)) + l4), .ref 91], (gSh, σ, u)) rfl ?_
    refine hG.2.2.2.2.1 _ _ [some (.ref 81), some (.int l1), some (.int l2), some (.int l3), some (.int l4), none, none] _ _ ⟨rfl, ⟨rfl, ⟨rfl, ⟨rfl, ⟨rfl, trivial⟩⟩⟩⟩⟩ ?_
    exact j_Field_setPins_j89_13 E d u hG l1 l2 l3 l4 ((l1 * (4 : Int32)) + l4) (-1) σ hP K1 K2
  · refine hG.1 _ (76, [some (.ref 81), some (.int l1), some (.int l2), some (.int l3), some (.int l4), some (.int l5), some (.int y0)], [.int ((l1 * (4 : Int32)) + l4), .ref 91], (gSh, σ, u)) _ rfl (if_neg hc) ?_
    refine gRunN_ok hG.1 5 _ (82, [some (.ref 81), some (.int l1), some (.int l2), some (.int l3), some (.int l4), some (.int l5), some (.int y0)], [.int (l5 - (1 : Int32)), .int l3, .ref 81, .int ((l1 * (4 : Int32)) + l4), .ref 91], (gSh, σ, u)) rfl ?_
    obtain ⟨v6, hq, hP⟩ := g_b1 hP
    refine hG.2.2.2.1 _ _ _ [.ref 81, .int l3, .int (l5 - (1 : Int32))] [.int ((l1 * (4 : Int32)) + l4), .ref 91] _ (gSh, σ, u) (some (.int v6)) _ _ _ _ _ _ rfl rfl rfl rfl rfl rfl (c_Field_groupAt E (d + 0) u l3 (l5 - (1 : Int32)) _  hq) (Nat.le_refl _) (Nat.le_refl _) (Nat.le_refl _) (Nat.le_refl _) ?_
    show G (85, [some (.ref 81), some (.int l1), some (.int l2), some (.int l3), some (.int l4), some (.int l5), some (.int y0)], [.int v6, .int ((l1 * (4 : Int32)) + l4), .ref 91], (gSh, σ, u))
    refine gRunN_ok hG.1 1 _ (89, [some (.ref 81), some (.int l1), some (.int l2), some (.int l3), some (.int l4), some (.int l5), some (.int y0)], [.int v6, .int ((l1 * (4 : Int32)) + l4), .ref 91], (gSh, σ, u)) rfl ?_
    refine hG.2.2.2.2.1 _ _ [some (.ref 81), some (.int l1), some (.int l2), some (.int l3), some (.int l4), none, none] _ _ ⟨rfl, ⟨rfl, ⟨rfl, ⟨rfl, ⟨rfl, trivial⟩⟩⟩⟩⟩ ?_
    exact j_Field_setPins_j89_13 E d u hG l1 l2 l3 l4 ((l1 * (4 : Int32)) + l4) v6 σ hP K1 K2
def p_Field_setPins_j58_13 (E : gEv) (l1 : Int32) (l2 : Int32) (l3 : Int32) (l4 : Int32) (l5 : Int32) (σ : gS) : Option ((Int32 × gS) ⊕ (gS)) :=
  p_Field_setPins_j59_13 E l1 l2 l3 l4 l5 0 σ
set_option maxRecDepth 20000 in
theorem j_Field_setPins_j58_13 (E : gEv) (d u : Nat) {G : gFr → Prop} {vo : Option Value} {sr : gS} (hG : gClo E gDf gP12 gY162 none (gC E gDf gMs (d + 1)) (vo, (gSh, sr, u)) G) (l1 : Int32) (l2 : Int32) (l3 : Int32) (l4 : Int32) (l5 : Int32) (σ : gS) {r : (Int32 × gS) ⊕ (gS)} (hP : p_Field_setPins_j58_13 E l1 l2 l3 l4 l5 σ = some r) (K1 : ∀ (m4 : Int32) (σ1 : gS), r = .inl (m4, σ1) → G (13, [some (.ref 81), some (.int l1), some (.int l2), some (.int l3), some (.int m4), none, none], [], (gSh, σ1, u))) (K2 : ∀ (σ1 : gS), r = .inr σ1 → G (96, [none, none, none, none, none, none, none], [], (gSh, σ1, u))) : G (58, [some (.ref 81), some (.int l1), some (.int l2), some (.int l3), some (.int l4), some (.int l5), none], [], (gSh, σ, u)) := by
  unfold p_Field_setPins_j58_13 at hP
  refine gRunN_ok hG.1 1 _ (59, [some (.ref 81), some (.int l1), some (.int l2), some (.int l3), some (.int l4), some (.int l5), none], [.int 0], (gSh, σ, u)) rfl ?_
  exact j_Field_setPins_j59_13 E d u hG l1 l2 l3 l4 l5 0 σ hP K1 K2
def p_Field_setPins_13 (E : gEv) (l1 : Int32) (l2 : Int32) (l3 : Int32) (l4 : Int32) (σ : gS) : Option ((Int32 × gS) ⊕ (gS)) :=
  if (4 : Int32) ≤ l4 then (some (.inr σ)) else (gB1 (p_Field_numberAt E (l2 + (l4 * (6 : Int32))) 6 σ) fun v2 => if v2 < (1 : Int32) then (p_Field_setPins_j58_13 E l1 l2 l3 l4 v2 σ) else (if ((4 : Int32) * (σ.1 1 3)) < v2 then (p_Field_setPins_j58_13 E l1 l2 l3 l4 v2 σ) else (p_Field_setPins_j59_13 E l1 l2 l3 l4 v2 1 σ)))
set_option maxRecDepth 20000 in
theorem b_Field_setPins_13 (E : gEv) (d u : Nat) {G : gFr → Prop} {vo : Option Value} {sr : gS} (hG : gClo E gDf gP12 gY162 none (gC E gDf gMs (d + 1)) (vo, (gSh, sr, u)) G) (l1 : Int32) (l2 : Int32) (l3 : Int32) (l4 : Int32) (σ : gS) {r : (Int32 × gS) ⊕ (gS)} (hP : p_Field_setPins_13 E l1 l2 l3 l4 σ = some r) (K1 : ∀ (m4 : Int32) (σ1 : gS), r = .inl (m4, σ1) → G (13, [some (.ref 81), some (.int l1), some (.int l2), some (.int l3), some (.int m4), none, none], [], (gSh, σ1, u))) (K2 : ∀ (σ1 : gS), r = .inr σ1 → G (96, [none, none, none, none, none, none, none], [], (gSh, σ1, u))) : G (13, [some (.ref 81), some (.int l1), some (.int l2), some (.int l3), some (.int l4), none, none], [], (gSh, σ, u)) := by
  unfold p_Field_setPins_13 at hP
  refine gRunN_ok hG.1 2 _ (16, [some (.ref 81), some (.int l1), some (.int l2), some (.int l3), some (.int l4), none, none], [.int 4, .int l4], (gSh, σ, u)) rfl ?_
  rcases g_ite hP with ⟨hc, hP⟩ | ⟨hc, hP⟩
  · refine hG.1 _ (96, [some (.ref 81), some (.int l1), some (.int l2), some (.int l3), some (.int l4), none, none], [], (gSh, σ, u)) _ rfl (if_pos hc) ?_
    refine hG.2.2.2.2.1 _ _ [none, none, none, none, none, none, none] _ _ trivial ?_
    cases hP
    exact K2 _ rfl
  · refine hG.1 _ (19, [some (.ref 81), some (.int l1), some (.int l2), some (.int l3), some (.int l4), none, none], [], (gSh, σ, u)) _ rfl (if_neg hc) ?_
    refine gRunN_ok hG.1 7 _ (29, [some (.ref 81), some (.int l1), some (.int l2), some (.int l3), some (.int l4), none, none], [.int 6, .int (l2 + (l4 * (6 : Int32))), .ref 81], (gSh, σ, u)) rfl ?_
    obtain ⟨v2, hq, hP⟩ := g_b1 hP
    refine hG.2.2.2.1 _ _ _ [.ref 81, .int (l2 + (l4 * (6 : Int32))), .int 6] [] _ (gSh, σ, u) (some (.int v2)) _ _ _ _ _ _ rfl rfl rfl rfl rfl rfl (c_Field_numberAt E (d + 0) u (l2 + (l4 * (6 : Int32))) 6 _  hq) (Nat.le_refl _) (Nat.le_refl _) (Nat.le_refl _) (Nat.le_refl _) ?_
    show G (32, [some (.ref 81), some (.int l1), some (.int l2), some (.int l3), some (.int l4), none, none], [.int v2], (gSh, σ, u))
    refine gRunN_ok hG.1 3 _ (37, [some (.ref 81), some (.int l1), some (.int l2), some (.int l3), some (.int l4), some (.int v2), none], [.int 1, .int v2], (gSh, σ, u)) rfl ?_
    rcases g_ite hP with ⟨hc, hP⟩ | ⟨hc, hP⟩
    · refine hG.1 _ (58, [some (.ref 81), some (.int l1), some (.int l2), some (.int l3), some (.int l4), some (.int v2), none], [], (gSh, σ, u)) _ rfl (if_pos hc) ?_
      exact j_Field_setPins_j58_13 E d u hG l1 l2 l3 l4 v2 σ hP K1 K2
    · refine hG.1 _ (40, [some (.ref 81), some (.int l1), some (.int l2), some (.int l3), some (.int l4), some (.int v2), none], [], (gSh, σ, u)) _ rfl (if_neg hc) ?_
      refine gRunN_ok hG.1 6 _ (51, [some (.ref 81), some (.int l1), some (.int l2), some (.int l3), some (.int l4), some (.int v2), none], [.int ((4 : Int32) * (σ.1 1 3)), .int v2], (gSh, σ, u)) rfl ?_
      rcases g_ite hP with ⟨hc, hP⟩ | ⟨hc, hP⟩
      · refine hG.1 _ (58, [some (.ref 81), some (.int l1), some (.int l2), some (.int l3), some (.int l4), some (.int v2), none], [], (gSh, σ, u)) _ rfl (if_pos hc) ?_
        exact j_Field_setPins_j58_13 E d u hG l1 l2 l3 l4 v2 σ hP K1 K2
      · refine hG.1 _ (54, [some (.ref 81), some (.int l1), some (.int l2), some (.int l3), some (.int l4), some (.int v2), none], [], (gSh, σ, u)) _ rfl (if_neg hc) ?_
        refine gRunN_ok hG.1 2 _ (59, [some (.ref 81), some (.int l1), some (.int l2), some (.int l3), some (.int l4), some (.int v2), none], [.int 1], (gSh, σ, u)) rfl ?_
        exact j_Field_setPins_j59_13 E d u hG l1 l2 l3 l4 v2 1 σ hP K1 K2
theorem l_Field_setPins_13 (E : gEv) (d u : Nat) {G : gFr → Prop} {vo : Option Value} {sr : gS} (hG : gClo E gDf gP12 gY162 none (gC E gDf gMs (d + 1)) (vo, (gSh, sr, u)) G) (l1 : Int32) (l2 : Int32) (l3 : Int32) : ∀ (n : Nat) (l4 : Int32) (σ : gS) (e : (gS)), gIter (fun z => p_Field_setPins_13 E l1 l2 l3 z.1 z.2) n (l4, σ) = some e → (∀ (σ1 : gS), e = σ1 → G (96, [none, none, none, none, none, none, none], [], (gSh, σ1, u))) → G (13, [some (.ref 81), some (.int l1), some (.int l2), some (.int l3), some (.int l4), none, none], [], (gSh, σ, u)) := by
  intro n
  induction n with
  | zero => intro l4 σ e h; cases h
  | succ n ih =>
    intro l4 σ e h K2
    rcases g_iter h with ⟨z, h1, h2⟩ | h1
    · exact b_Field_setPins_13 E d u hG l1 l2 l3 l4 σ h1 (fun n0 n1 hz => by cases hz; exact ih _ _ e h2 K2) (fun _ hz => by cases hz)
    · exact b_Field_setPins_13 E d u hG l1 l2 l3 l4 σ h1 (fun _ _ hz => by cases hz) (fun σ1 hz => K2 σ1 (by cases hz; rfl))
def p_Field_setPins (E : gEv) (a0 : Int32) (a1 : Int32) (σ : gS) : Option (gS) :=
  if ¬ (σ.1 1 2) = 0 then gLet (a0 / (σ.1 1 2)) fun x1 => gB1 (gIter (fun z => p_Field_setPins_13 E a0 a1 x1 z.1 z.2) gN (0, σ)) fun e8 => (fun s9 => some s9) e8 else none
set_option maxRecDepth 20000 in
theorem c_Field_setPins (E : gEv) (d u : Nat) (a0 : Int32) (a1 : Int32) (σ : gS) {sr : gS}  (hq : p_Field_setPins E a0 a1 σ = some sr) : gC E gDf gMs (d + 2) 162 [.ref 81, .int a0, .int a1] (gSh, σ, u) (none, (gSh, sr, u)) := ⟨gM162, rfl, Nat.le_of_ble_eq_true rfl, fun G hG => by
  have hP := hq
  unfold p_Field_setPins at hP
  replace hG : gClo E gDf gP12 gY162 none (gC E gDf gMs (d + 1)) (none, (gSh, sr, u)) G := hG
  show G (0, [some (.ref 81), some (.int a0), some (.int a1), none, none, none, none], [], (gSh, σ, u))
  refine gRunN_ok hG.1 4 _ (8, [some (.ref 81), some (.int a0), some (.int a1), none, none, none, none], [.int (σ.1 1 2), .int a0], (gSh, σ, u)) rfl ?_
  obtain ⟨hc, hP⟩ := g_if hP
  refine hG.1 _ (9, [some (.ref 81), some (.int a0), some (.int a1), none, none, none, none], [.int (a0 / (σ.1 1 2))], (gSh, σ, u)) _ rfl (if_pos hc) ?_
  refine gRunN_ok hG.1 1 _ (10, [some (.ref 81), some (.int a0), some (.int a1), some (.int (a0 / (σ.1 1 2))), none, none, none], [], (gSh, σ, u)) rfl ?_
  obtain ⟨x1, ex1, hP⟩ := g_let hP
  rw [← ex1]
  refine gRunN_ok hG.1 2 _ (13, [some (.ref 81), some (.int a0), some (.int a1), some (.int x1), some (.int 0), none, none], [], (gSh, σ, u)) rfl ?_
  obtain ⟨e8, hq, hP⟩ := g_b1 hP
  refine l_Field_setPins_13 E d u hG a0 a1 x1 gN 0 σ _ hq (fun s9 he => ?_)
  · replace he := he.symm
    subst he
    try dsimp only [gSum] at hP
    cases hP
    exact hG.2.1 _ _ rfl rfl⟩
def p_Field_addDriven_6 (E : gEv) (l1 : Int32) (l2 : Int32) (l4 : Int32) (l5 : Int32) (σ : gS) : Option ((Int32 × Int32 × gS) ⊕ (Int32 × gS)) :=
  if ((4 : Int32) * (σ.1 1 3)) ≤ l5 then (some (.inr (l4, σ))) else (if gIn (l2 + l5) (σ.2.1 82) then if (σ.1 82 (l2 + l5).toNatClampNeg) = (1 : Int32) then (if ¬ (σ.1 1 2) = 0 then gB1 (p_Field_groupAt E (l1 / (σ.1 1 2)) l5 σ) fun v1 => if gIn l4 (σ.2.1 93) then gLet (gPut σ 93 l4.toNatClampNeg v1) fun s3 => gLet (l4 + 1) fun x4 => gLet (l5 + 1) fun x5 => some (.inl (x4, x5, s3)) else none else none) else (gLet (l5 + 1) fun x6 => some (.inl (l4, x6, σ))) else none)
set_option maxRecDepth 20000 in
theorem b_Field_addDriven_6 (E : gEv) (d u : Nat) {G : gFr → Prop} {vo : Option Value} {sr : gS} (hG : gClo E gDf gP12 gY164 (some .int) (gC E gDf gMs (d + 1)) (vo, (gSh, sr, u)) G) (l1 : Int32) (l2 : Int32) (l4 : Int32) (l5 : Int32) (σ : gS) {r : (Int32 × Int32 × gS) ⊕ (Int32 × gS)} (hP : p_Field_addDriven_6 E l1 l2 l4 l5 σ = some r) (K1 : ∀ (m4 : Int32) (m5 : Int32) (σ1 : gS), r = .inl (m4, m5, σ1) → G (6, [some (.ref 81), some (.int l1), some (.int l2), none, some (.int m4), some (.int m5)], [], (gSh, σ1, u))) (K2 : ∀ (m4 : Int32) (σ1 : gS), r = .inr (m4, σ1) → G (64, [none, none, none, none, some (.int m4), none], [], (gSh, σ1, u))) : G (6, [some (.ref 81), some (.int l1), some (.int l2), none, some (.int l4), some (.int l5)], [], (gSh, σ, u)) := by
  unfold p_Field_addDriven_6 at hP
  refine gRunN_ok hG.1 6 _ (17, [some (.ref 81), some (.int l1), some (.int l2), none, some (.int l4), some (.int l5)], [.int ((4 : Int32) * (σ.1 1 3)), .int l5], (gSh, σ, u)) rfl ?_
  rcases g_ite hP with ⟨hc, hP⟩ | ⟨hc, hP⟩
  · refine hG.1 _ (64, [some (.ref 81), some (.int l1), some (.int l2), none, some (.int l4), some (.int l5)], [], (gSh, σ, u)) _ rfl (if_pos hc) ?_
    refine hG.2.2.2.2.1 _ _ [none, none, none, none, some (.int l4), none] _ _ ⟨rfl, trivial⟩ ?_
    cases hP
    exact K2 _ _ rfl
  · refine hG.1 _ (20, [some (.ref 81), some (.int l1), some (.int l2), none, some (.int l4), some (.int l5)], [], (gSh, σ, u)) _ rfl (if_neg hc) ?_
    refine gRunN_ok hG.1 5 _ (28, [some (.ref 81), some (.int l1), some (.int l2), none, some (.int l4), some (.int l5)], [.int (l2 + l5), .ref 82], (gSh, σ, u)) rfl ?_
    obtain ⟨hc, hP⟩ := g_if hP
    refine hG.1 _ (29, [some (.ref 81), some (.int l1), some (.int l2), none, some (.int l4), some (.int l5)], [.int (σ.1 82 (l2 + l5).toNatClampNeg)], (gSh, σ, u)) _ rfl (if_pos hc) ?_
    refine gRunN_ok hG.1 1 _ (30, [some (.ref 81), some (.int l1), some (.int l2), none, some (.int l4), some (.int l5)], [.int 1, .int (σ.1 82 (l2 + l5).toNatClampNeg)], (gSh, σ, u)) rfl ?_
    rcases g_ite hP with ⟨hc, hP⟩ | ⟨hc, hP⟩
    · refine hG.1 _ (33, [some (.ref 81), some (.int l1), some (.int l2), none, some (.int l4), some (.int l5)], [], (gSh, σ, u)) _ rfl (if_pos hc) ?_
      refine gRunN_ok hG.1 8 _ (48, [some (.ref 81), some (.int l1), some (.int l2), none, some (.int l4), some (.int l5)], [.int (σ.1 1 2), .int l1, .ref 81, .int l4, .ref 93], (gSh, σ, u)) rfl ?_
      obtain ⟨hc, hP⟩ := g_if hP
      refine hG.1 _ (49, [some (.ref 81), some (.int l1), some (.int l2), none, some (.int l4), some (.int l5)], [.int (l1 / (σ.1 1 2)), .ref 81, .int l4, .ref 93], (gSh, σ, u)) _ rfl (if_pos hc) ?_
      refine gRunN_ok hG.1 1 _ (51, [some (.ref 81), some (.int l1), some (.int l2), none, some (.int l4), some (.int l5)], [.int l5, .int (l1 / (σ.1 1 2)), .ref 81, .int l4, .ref 93], (gSh, σ, u)) rfl ?_
      obtain ⟨v1, hq, hP⟩ := g_b1 hP
      refine hG.2.2.2.1 _ _ _ [.ref 81, .int (l1 / (σ.1 1 2)), .int l5] [.int l4, .ref 93] _ (gSh, σ, u) (some (.int v1)) _ _ _ _ _ _ rfl rfl rfl rfl rfl rfl (c_Field_groupAt E (d + 0) u (l1 / (σ.1 1 2)) l5 _  hq) (Nat.le_refl _) (Nat.le_refl _) (Nat.le_refl _) (Nat.le_refl _) ?_
      show G (54, [some (.ref 81), some (.int l1), some (.int l2), none, some (.int l4), some (.int l5)], [.int v1, .int l4, .ref 93], (gSh, σ, u))
      obtain ⟨hc, hP⟩ := g_if hP
      refine hG.1 _ (55, [some (.ref 81), some (.int l1), some (.int l2), none, some (.int l4), some (.int l5)], [], (gSh, (gPut σ 93 l4.toNatClampNeg v1), u)) _ rfl (if_pos hc) ?_
      obtain ⟨s3, es3, hP⟩ := g_let hP
      rw [← es3]
      refine gRunN_ok hG.1 1 _ (58, [some (.ref 81), some (.int l1), some (.int l2), none, some (.int (l4 + 1)), some (.int l5)], [], (gSh, s3, u)) rfl ?_
      obtain ⟨x4, ex4, hP⟩ := g_let hP
      rw [← ex4]
      refine gRunN_ok hG.1 1 _ (61, [some (.ref 81), some (.int l1), some (.int l2), none, some (.int x4), some (.int (l5 + 1))], [], (gSh, s3, u)) rfl ?_
      obtain ⟨x5, ex5, hP⟩ := g_let hP
      rw [← ex5]
      refine gRunN_ok hG.1 1 _ (6, [some (.ref 81), some (.int l1), some (.int l2), none, some (.int x4), some (.int x5)], [], (gSh, s3, u)) rfl ?_
      cases hP
      exact K1 _ _ _ rfl
    · refine hG.1 _ (58, [some (.ref 81), some (.int l1), some (.int l2), none, some (.int l4), some (.int l5)], [], (gSh, σ, u)) _ rfl (if_neg hc) ?_
      refine gRunN_ok hG.1 1 _ (61, [some (.ref 81), some (.int l1), some (.int l2), none, some (.int l4), some (.int (l5 + 1))], [], (gSh, σ, u)) rfl ?_
      obtain ⟨x6, ex6, hP⟩ := g_let hP
      rw [← ex6]
      refine gRunN_ok hG.1 1 _ (6, [some (.ref 81), some (.int l1), some (.int l2), none, some (.int l4), some (.int x6)], [], (gSh, σ, u)) rfl ?_
      cases hP
      exact K1 _ _ _ rfl
theorem l_Field_addDriven_6 (E : gEv) (d u : Nat) {G : gFr → Prop} {vo : Option Value} {sr : gS} (hG : gClo E gDf gP12 gY164 (some .int) (gC E gDf gMs (d + 1)) (vo, (gSh, sr, u)) G) (l1 : Int32) (l2 : Int32) : ∀ (n : Nat) (l4 : Int32) (l5 : Int32) (σ : gS) (e : (Int32 × gS)), gIter (fun z => p_Field_addDriven_6 E l1 l2 z.1 z.2.1 z.2.2) n (l4, l5, σ) = some e → (∀ (m4 : Int32) (σ1 : gS), e = (m4, σ1) → G (64, [none, none, none, none, some (.int m4), none], [], (gSh, σ1, u))) → G (6, [some (.ref 81), some (.int l1), some (.int l2), none, some (.int l4), some (.int l5)], [], (gSh, σ, u)) := by
  intro n
  induction n with
  | zero => intro l4 l5 σ e h; cases h
  | succ n ih =>
    intro l4 l5 σ e h K2
    rcases g_iter h with ⟨z, h1, h2⟩ | h1
    · exact b_Field_addDriven_6 E d u hG l1 l2 l4 l5 σ h1 (fun n0 n1 n2 hz => by cases hz; exact ih _ _ _ e h2 K2) (fun _ _ hz => by cases hz)
    · exact b_Field_addDriven_6 E d u hG l1 l2 l4 l5 σ h1 (fun _ _ _ hz => by cases hz) (fun m4 σ1 hz => K2 m4 σ1 (by cases hz; rfl))
def p_Field_addDriven (E : gEv) (a0 : Int32) (a1 : Int32) (a2 : Int32) (σ : gS) : Option (Int32 × gS) :=
  gB1 (gIter (fun z => p_Field_addDriven_6 E a0 a1 z.1 z.2.1 z.2.2) gN (a2, 0, σ)) fun e7 => (fun w8 s9 => some (w8, s9)) e7.1 e7.2
set_option maxRecDepth 20000 in
theorem c_Field_addDriven (E : gEv) (d u : Nat) (a0 : Int32) (a1 : Int32) (a2 : Int32) (σ : gS) {v : Int32} {sr : gS}  (hq : p_Field_addDriven E a0 a1 a2 σ = some (v, sr)) : gC E gDf gMs (d + 2) 164 [.ref 81, .int a0, .int a1, .int a2] (gSh, σ, u) (some (.int v), (gSh, sr, u)) := ⟨gM164, rfl, Nat.le_of_ble_eq_true rfl, fun G hG => by
  have hP := hq
  unfold p_Field_addDriven at hP
  replace hG : gClo E gDf gP12 gY164 (some .int) (gC E gDf gMs (d + 1)) (some (.int v), (gSh, sr, u)) G := hG
  show G (0, [some (.ref 81), some (.int a0), some (.int a1), some (.int a2), none, none], [], (gSh, σ, u))
  refine gRunN_ok hG.1 4 _ (6, [some (.ref 81), some (.int a0), some (.int a1), some (.int a2), some (.int a2), some (.int 0)], [], (gSh, σ, u)) rfl ?_
  refine hG.2.2.2.2.1 _ _ [some (.ref 81), some (.int a0), some (.int a1), none, some (.int a2), some (.int 0)] _ _ ⟨rfl, ⟨rfl, ⟨rfl, ⟨rfl, ⟨rfl, trivial⟩⟩⟩⟩⟩ ?_
  obtain ⟨e7, hq, hP⟩ := g_b1 hP
  refine l_Field_addDriven_6 E d u hG a0 a1 gN a2 0 σ _ hq (fun w8 s9 he => ?_)
  · subst he
    try dsimp only [gSum] at hP
    refine gRunN_ok hG.1 1 _ (66, [none, none, none, none, some (.int w8), none], [.int w8], (gSh, s9, u)) rfl ?_
    cases hP
    exact hG.2.1 _ _ rfl rfl⟩
def p_Field_drivePad_2 (E : gEv) (l1 : Int32) (l2 : Int32) (l3 : Int32) (σ : gS) : Option ((Int32 × gS) ⊕ (gS)) :=
  if (σ.1 1 3) ≤ l3 then (some (.inr σ)) else (if gIn (l2 + l3) (σ.2.1 82) then if (σ.1 82 (l2 + l3).toNatClampNeg) = (1 : Int32) then (gB1 (p_Field_groupAt E ((σ.1 1 4) + l1) l3 σ) fun v1 => if gIn v1 (σ.2.1 87) then gLet (gPut σ 87 v1.toNatClampNeg (vp_nar .byte 1)) fun s3 => gLet (l3 + 1) fun x4 => some (.inl (x4, s3)) else none) else (gLet (l3 + 1) fun x5 => some (.inl (x5, σ))) else none)
set_option maxRecDepth 20000 in
theorem b_Field_drivePad_2 (E : gEv) (d u : Nat) {G : gFr → Prop} {vo : Option Value} {sr : gS} (hG : gClo E gDf gP12 gY166 none (gC E gDf gMs (d + 1)) (vo, (gSh, sr, u)) G) (l1 : Int32) (l2 : Int32) (l3 : Int32) (σ : gS) {r : (Int32 × gS) ⊕ (gS)} (hP : p_Field_drivePad_2 E l1 l2 l3 σ = some r) (K1 : ∀ (m3 : Int32) (σ1 : gS), r = .inl (m3, σ1) → G (2, [some (.ref 81), some (.int l1), some (.int l2), some (.int m3)], [], (gSh, σ1, u))) (K2 : ∀ (σ1 : gS), r = .inr σ1 → G (51, [none, none, none, none], [], (gSh, σ1, u))) : G (2, [some (.ref 81), some (.int l1), some (.int l2), some (.int l3)], [], (gSh, σ, u)) := by
  unfold p_Field_drivePad_2 at hP
  refine gRunN_ok hG.1 4 _ (10, [some (.ref 81), some (.int l1), some (.int l2), some (.int l3)], [.int (σ.1 1 3), .int l3], (gSh, σ, u)) rfl ?_
  rcases g_ite hP with ⟨hc, hP⟩ | ⟨hc, hP⟩
  · refine hG.1 _ (51, [some (.ref 81), some (.int l1), some (.int l2), some (.int l3)], [], (gSh, σ, u)) _ rfl (if_pos hc) ?_
    refine hG.2.2.2.2.1 _ _ [none, none, none, none] _ _ trivial ?_
    cases hP
    exact K2 _ rfl
  · refine hG.1 _ (13, [some (.ref 81), some (.int l1), some (.int l2), some (.int l3)], [], (gSh, σ, u)) _ rfl (if_neg hc) ?_
    refine gRunN_ok hG.1 5 _ (20, [some (.ref 81), some (.int l1), some (.int l2), some (.int l3)], [.int (l2 + l3), .ref 82], (gSh, σ, u)) rfl ?_
    obtain ⟨hc, hP⟩ := g_if hP
    refine hG.1 _ (21, [some (.ref 81), some (.int l1), some (.int l2), some (.int l3)], [.int (σ.1 82 (l2 + l3).toNatClampNeg)], (gSh, σ, u)) _ rfl (if_pos hc) ?_
    refine gRunN_ok hG.1 1 _ (22, [some (.ref 81), some (.int l1), some (.int l2), some (.int l3)], [.int 1, .int (σ.1 82 (l2 + l3).toNatClampNeg)], (gSh, σ, u)) rfl ?_
    rcases g_ite hP with ⟨hc, hP⟩ | ⟨hc, hP⟩
    · refine hG.1 _ (25, [some (.ref 81), some (.int l1), some (.int l2), some (.int l3)], [], (gSh, σ, u)) _ rfl (if_pos hc) ?_
      refine gRunN_ok hG.1 9 _ (40, [some (.ref 81), some (.int l1), some (.int l2), some (.int l3)], [.int l3, .int ((σ.1 1 4) + l1), .ref 81, .ref 87], (gSh, σ, u)) rfl ?_
      obtain ⟨v1, hq, hP⟩ := g_b1 hP
      refine hG.2.2.2.1 _ _ _ [.ref 81, .int ((σ.1 1 4) + l1), .int l3] [.ref 87] _ (gSh, σ, u) (some (.int v1)) _ _ _ _ _ _ rfl rfl rfl rfl rfl rfl (c_Field_groupAt E (d + 0) u ((σ.1 1 4) + l1) l3 _  hq) (Nat.le_refl _) (Nat.le_refl _) (Nat.le_refl _) (Nat.le_refl _) ?_
      show G (43, [some (.ref 81), some (.int l1), some (.int l2), some (.int l3)], [.int v1, .ref 87], (gSh, σ, u))
      refine gRunN_ok hG.1 1 _ (44, [some (.ref 81), some (.int l1), some (.int l2), some (.int l3)], [.int 1, .int v1, .ref 87], (gSh, σ, u)) rfl ?_
      obtain ⟨hc, hP⟩ := g_if hP
      refine hG.1 _ (45, [some (.ref 81), some (.int l1), some (.int l2), some (.int l3)], [], (gSh, (gPut σ 87 v1.toNatClampNeg (vp_nar .byte 1)), u)) _ rfl (if_pos hc) ?_
      obtain ⟨s3, es3, hP⟩ := g_let hP
      rw [← es3]
      refine gRunN_ok hG.1 1 _ (48, [some (.ref 81), some (.int l1), some (.int l2), some (.int (l3 + 1))], [], (gSh, s3, u)) rfl ?_
      obtain ⟨x4, ex4, hP⟩ := g_let hP
      rw [← ex4]
      refine gRunN_ok hG.1 1 _ (2, [some (.ref 81), some (.int l1), some (.int l2), some (.int x4)], [], (gSh, s3, u)) rfl ?_
      cases hP
      exact K1 _ _ rfl
    · refine hG.1 _ (45, [some (.ref 81), some (.int l1), some (.int l2), some (.int l3)], [], (gSh, σ, u)) _ rfl (if_neg hc) ?_
      refine gRunN_ok hG.1 1 _ (48, [some (.ref 81), some (.int l1), some (.int l2), some (.int (l3 + 1))], [], (gSh, σ, u)) rfl ?_
      obtain ⟨x5, ex5, hP⟩ := g_let hP
      rw [← ex5]
      refine gRunN_ok hG.1 1 _ (2, [some (.ref 81), some (.int l1), some (.int l2), some (.int x5)], [], (gSh, σ, u)) rfl ?_
      cases hP
      exact K1 _ _ rfl
theorem l_Field_drivePad_2 (E : gEv) (d u : Nat) {G : gFr → Prop} {vo : Option Value} {sr : gS} (hG : gClo E gDf gP12 gY166 none (gC E gDf gMs (d + 1)) (vo, (gSh, sr, u)) G) (l1 : Int32) (l2 : Int32) : ∀ (n : Nat) (l3 : Int32) (σ : gS) (e : (gS)), gIter (fun z => p_Field_drivePad_2 E l1 l2 z.1 z.2) n (l3, σ) = some e → (∀ (σ1 : gS), e = σ1 → G (51, [none, none, none, none], [], (gSh, σ1, u))) → G (2, [some (.ref 81), some (.int l1), some (.int l2), some (.int l3)], [], (gSh, σ, u)) := by
  intro n
  induction n with
  | zero => intro l3 σ e h; cases h
  | succ n ih =>
    intro l3 σ e h K2
    rcases g_iter h with ⟨z, h1, h2⟩ | h1
    · exact b_Field_drivePad_2 E d u hG l1 l2 l3 σ h1 (fun n0 n1 hz => by cases hz; exact ih _ _ e h2 K2) (fun _ hz => by cases hz)
    · exact b_Field_drivePad_2 E d u hG l1 l2 l3 σ h1 (fun _ _ hz => by cases hz) (fun σ1 hz => K2 σ1 (by cases hz; rfl))
def p_Field_drivePad (E : gEv) (a0 : Int32) (a1 : Int32) (σ : gS) : Option (gS) :=
  gB1 (gIter (fun z => p_Field_drivePad_2 E a0 a1 z.1 z.2) gN (0, σ)) fun e6 => (fun s7 => some s7) e6
set_option maxRecDepth 20000 in
theorem c_Field_drivePad (E : gEv) (d u : Nat) (a0 : Int32) (a1 : Int32) (σ : gS) {sr : gS}  (hq : p_Field_drivePad E a0 a1 σ = some sr) : gC E gDf gMs (d + 2) 166 [.ref 81, .int a0, .int a1] (gSh, σ, u) (none, (gSh, sr, u)) := ⟨gM166, rfl, Nat.le_of_ble_eq_true rfl, fun G hG => by
  have hP := hq
  unfold p_Field_drivePad at hP
  replace hG : gClo E gDf gP12 gY166 none (gC E gDf gMs (d + 1)) (none, (gSh, sr, u)) G := hG
  show G (0, [some (.ref 81), some (.int a0), some (.int a1), none], [], (gSh, σ, u))
  refine gRunN_ok hG.1 2 _ (2, [some (.ref 81), some (.int a0), some (.int a1), some (.int 0)], [], (gSh, σ, u)) rfl ?_
  obtain ⟨e6, hq, hP⟩ := g_b1 hP
  refine l_Field_drivePad_2 E d u hG a0 a1 gN 0 σ _ hq (fun s7 he => ?_)
  · replace he := he.symm
    subst he
    try dsimp only [gSum] at hP
    cases hP
    exact hG.2.1 _ _ rfl rfl⟩
def p_Field_sweep_22 (E : gEv) (l1 : Int32) (σ : gS) : Option ((Int32 × gS) ⊕ (gS)) :=
  if (σ.1 1 6) ≤ l1 then (some (.inr σ)) else (if gIn l1 (σ.2.1 85) then if (σ.1 85 l1.toNatClampNeg) = (1 : Int32) then (gB1 (p_Field_isUsed E l1 σ) fun v2 => if v2 = 0 then (gB1 (p_Field_raise E 88 l1 σ) fun s5 => gLet (l1 + 1) fun x6 => some (.inl (x6, s5))) else (gLet (l1 + 1) fun x7 => some (.inl (x7, σ)))) else (gLet (l1 + 1) fun x8 => some (.inl (x8, σ))) else none)
set_option maxRecDepth 20000 in
theorem b_Field_sweep_22 (E : gEv) (d u : Nat) {G : gFr → Prop} {vo : Option Value} {sr : gS} (hG : gClo E gDf gP12 gY169 (some .boolean) (gC E gDf gMs (d + 1)) (vo, (gSh, sr, u)) G) (l1 : Int32) (σ : gS) {r : (Int32 × gS) ⊕ (gS)} (hP : p_Field_sweep_22 E l1 σ = some r) (K1 : ∀ (m1 : Int32) (σ1 : gS), r = .inl (m1, σ1) → G (22, [some (.ref 81), some (.int m1), none], [], (gSh, σ1, u))) (K2 : ∀ (σ1 : gS), r = .inr σ1 → G (66, [some (.ref 81), none, none], [], (gSh, σ1, u))) : G (22, [some (.ref 81), some (.int l1), none], [], (gSh, σ, u)) := by
  unfold p_Field_sweep_22 at hP
  refine gRunN_ok hG.1 4 _ (30, [some (.ref 81), some (.int l1), none], [.int (σ.1 1 6), .int l1], (gSh, σ, u)) rfl ?_
  rcases g_ite hP with ⟨hc, hP⟩ | ⟨hc, hP⟩
  · refine hG.1 _ (66, [some (.ref 81), some (.int l1), none], [], (gSh, σ, u)) _ rfl (if_pos hc) ?_
    refine hG.2.2.2.2.1 _ _ [some (.ref 81), none, none] _ _ ⟨rfl, trivial⟩ ?_
    cases hP
    exact K2 _ rfl
  · refine hG.1 _ (33, [some (.ref 81), some (.int l1), none], [], (gSh, σ, u)) _ rfl (if_neg hc) ?_
    refine gRunN_ok hG.1 3 _ (38, [some (.ref 81), some (.int l1), none], [.int l1, .ref 85], (gSh, σ, u)) rfl ?_
    obtain ⟨hc, hP⟩ := g_if hP
    refine hG.1 _ (39, [some (.ref 81), some (.int l1), none], [.int (σ.1 85 l1.toNatClampNeg)], (gSh, σ, u)) _ rfl (if_pos hc) ?_
    refine gRunN_ok hG.1 1 _ (40, [some (.ref 81), some (.int l1), none], [.int 1, .int (σ.1 85 l1.toNatClampNeg)], (gSh, σ, u)) rfl ?_
    rcases g_ite hP with ⟨hc, hP⟩ | ⟨hc, hP⟩
    · refine hG.1 _ (43, [some (.ref 81), some (.int l1), none], [], (gSh, σ, u)) _ rfl (if_pos hc) ?_
      refine gRunN_ok hG.1 2 _ (45, [some (.ref 81), some (.int l1), none], [.int l1, .ref 81], (gSh, σ, u)) rfl ?_
      obtain ⟨v2, hq, hP⟩ := g_b1 hP
      refine hG.2.2.2.1 _ _ _ [.ref 81, .int l1] [] _ (gSh, σ, u) (some (.int v2)) _ _ _ _ _ _ rfl rfl rfl rfl rfl rfl (c_Field_isUsed E (d + 0) u l1 _  hq) (Nat.le_refl _) (Nat.le_refl _) (Nat.le_refl _) (Nat.le_refl _) ?_
      show G (48, [some (.ref 81), some (.int l1), none], [.int v2], (gSh, σ, u))
      rcases g_ite hP with ⟨hc, hP⟩ | ⟨hc, hP⟩
      · refine hG.1 _ (51, [some (.ref 81), some (.int l1), none], [], (gSh, σ, u)) _ rfl (if_pos hc) ?_
        refine gRunN_ok hG.1 4 _ (57, [some (.ref 81), some (.int l1), none], [.int l1, .ref 88, .ref 81], (gSh, σ, u)) rfl ?_
        obtain ⟨s5, hq, hP⟩ := g_b1 hP
        refine hG.2.2.2.1 _ _ _ [.ref 81, .ref 88, .int l1] [] _ (gSh, s5, u) none _ _ _ _ _ _ rfl rfl rfl rfl rfl rfl (c_Field_raise E (d + 0) u 88 l1 _ rfl hq) (Nat.le_refl _) (Nat.le_refl _) (Nat.le_refl _) (Nat.le_refl _) ?_
        show G (60, [some (.ref 81), some (.int l1), none], [], (gSh, s5, u))
        refine gRunN_ok hG.1 1 _ (63, [some (.ref 81), some (.int (l1 + 1)), none], [], (gSh, s5, u)) rfl ?_
        obtain ⟨x6, ex6, hP⟩ := g_let hP
        rw [← ex6]
        refine gRunN_ok hG.1 1 _ (22, [some (.ref 81), some (.int x6), none], [], (gSh, s5, u)) rfl ?_
        cases hP
        exact K1 _ _ rfl
      · refine hG.1 _ (60, [some (.ref 81), some (.int l1), none], [], (gSh, σ, u)) _ rfl (if_neg hc) ?_
        refine gRunN_ok hG.1 1 _ (63, [some (.ref 81), some (.int (l1 + 1)), none], [], (gSh, σ, u)) rfl ?_
        obtain ⟨x7, ex7, hP⟩ := g_let hP
        rw [← ex7]
        refine gRunN_ok hG.1 1 _ (22, [some (.ref 81), some (.int x7), none], [], (gSh, σ, u)) rfl ?_
        cases hP
        exact K1 _ _ rfl
    · refine hG.1 _ (60, [some (.ref 81), some (.int l1), none], [], (gSh, σ, u)) _ rfl (if_neg hc) ?_
      refine gRunN_ok hG.1 1 _ (63, [some (.ref 81), some (.int (l1 + 1)), none], [], (gSh, σ, u)) rfl ?_
      obtain ⟨x8, ex8, hP⟩ := g_let hP
      rw [← ex8]
      refine gRunN_ok hG.1 1 _ (22, [some (.ref 81), some (.int x8), none], [], (gSh, σ, u)) rfl ?_
      cases hP
      exact K1 _ _ rfl
theorem l_Field_sweep_22 (E : gEv) (d u : Nat) {G : gFr → Prop} {vo : Option Value} {sr : gS} (hG : gClo E gDf gP12 gY169 (some .boolean) (gC E gDf gMs (d + 1)) (vo, (gSh, sr, u)) G) : ∀ (n : Nat) (l1 : Int32) (σ : gS) (e : (gS)), gIter (fun z => p_Field_sweep_22 E z.1 z.2) n (l1, σ) = some e → (∀ (σ1 : gS), e = σ1 → G (66, [some (.ref 81), none, none], [], (gSh, σ1, u))) → G (22, [some (.ref 81), some (.int l1), none], [], (gSh, σ, u)) := by
  intro n
  induction n with
  | zero => intro l1 σ e h; cases h
  | succ n ih =>
    intro l1 σ e h K2
    rcases g_iter h with ⟨z, h1, h2⟩ | h1
    · exact b_Field_sweep_22 E d u hG l1 σ h1 (fun n0 n1 hz => by cases hz; exact ih _ _ e h2 K2) (fun _ hz => by cases hz)
    · exact b_Field_sweep_22 E d u hG l1 σ h1 (fun _ _ hz => by cases hz) (fun σ1 hz => K2 σ1 (by cases hz; rfl))
def p_Field_sweep_j113_70 (E : gEv) (l1 : Int32) (l2 : Int32) (y1 : Int32) (y2 : Int32) (σ : gS) : Option ((Int32 × Int32 × gS) ⊕ (Int32 × gS)) :=
  if gIn y1 (σ.2.1 86) then gLet (gPut σ 86 y1.toNatClampNeg (vp_nar .byte (y2.toInt8.toInt32))) fun s11 => if gIn l2 (s11.2.1 86) then if gIn l2 (s11.2.1 85) then if (s11.1 86 l2.toNatClampNeg) = (s11.1 85 l2.toNatClampNeg) then (gLet (l1 ||| (0 : Int32)) fun x12 => gLet (l2 + 1) fun x13 => some (.inl (x12, x13, s11))) else (gLet (l1 ||| (1 : Int32)) fun x14 => gLet (l2 + 1) fun x15 => some (.inl (x14, x15, s11))) else none else none else none
set_option maxRecDepth 20000 in
theorem j_Field_sweep_j113_70 (E : gEv) (d u : Nat) {G : gFr → Prop} {vo : Option Value} {sr : gS} (hG : gClo E gDf gP12 gY169 (some .boolean) (gC E gDf gMs (d + 1)) (vo, (gSh, sr, u)) G) (l1 : Int32) (l2 : Int32) (y1 : Int32) (y2 : Int32) (σ : gS) {r : (Int32 × Int32 × gS) ⊕ (Int32 × gS)} (hP : p_Field_sweep_j113_70 E l1 l2 y1 y2 σ = some r) (K1 : ∀ (m1 : Int32) (m2 : Int32) (σ1 : gS), r = .inl (m1, m2, σ1) → G (70, [some (.ref 81), some (.int m1), some (.int m2)], [], (gSh, σ1, u))) (K2 : ∀ (m1 : Int32) (σ1 : gS), r = .inr (m1, σ1) → G (144, [some (.ref 81), some (.int m1), none], [], (gSh, σ1, u))) : G (113, [some (.ref 81), some (.int l1), some (.int l2)], [.int y2, .int y1, .ref 86], (gSh, σ, u)) := by
  unfold p_Field_sweep_j113_70 at hP
  refine gRunN_ok hG.1 1 _ (114, [some (.ref 81), some (.int l1), some (.int l2)], [.int (y2.toInt8.toInt32), .int y1, .ref 86], (gSh, σ, u)) rfl ?_
  obtain ⟨hc, hP⟩ := g_if hP
  refine hG.1 _ (115, [some (.ref 81), some (.int l1), some (.int l2)], [], (gSh, (gPut σ 86 y1.toNatClampNeg (vp_nar .byte (y2.toInt8.toInt32))), u)) _ rfl (if_pos hc) ?_
  obtain ⟨s11, es11, hP⟩ := g_let hP
  rw [← es11]
  refine gRunN_ok hG.1 4 _ (121, [some (.ref 81), some (.int l1), some (.int l2)], [.int l2, .ref 86, .int l1], (gSh, s11, u)) rfl ?_
  obtain ⟨hc, hP⟩ := g_if hP
  refine hG.1 _ (122, [some (.ref 81), some (.int l1), some (.int l2)], [.int (s11.1 86 l2.toNatClampNeg), .int l1], (gSh, s11, u)) _ rfl (if_pos hc) ?_
  refine gRunN_ok hG.1 3 _ (127, [some (.ref 81), some (.int l1), some (.int l2)], [.int l2, .ref 85, .int (s11.1 86 l2.toNatClampNeg), .int l1], (gSh, s11, u)) rfl ?_
  obtain ⟨hc, hP⟩ := g_if hP
  refine hG.1 _ (128, [some (.ref 81), some (.int l1), some (.int l2)], [.int (s11.1 85 l2.toNatClampNeg), .int (s11.1 86 l2.toNatClampNeg), .int l1], (gSh, s11, u)) _ rfl (if_pos hc) ?_
  rcases g_ite hP with ⟨hc, hP⟩ | ⟨hc, hP⟩
  · refine hG.1 _ (135, [some (.ref 81), some (.int l1), some (.int l2)], [.int l1], (gSh, s11, u)) _ rfl (if_pos hc) ?_
    refine gRunN_ok hG.1 3 _ (138, [some (.ref 81), some (.int (l1 ||| (0 : Int32))), some (.int l2)], [], (gSh, s11, u)) rfl ?_
    obtain ⟨x12, ex12, hP⟩ := g_let hP
    rw [← ex12]
    refine gRunN_ok hG.1 1 _ (141, [some (.ref 81), some (.int x12), some (.int (l2 + 1))], [], (gSh, s11, u)) rfl ?_
    obtain ⟨x13, ex13, hP⟩ := g_let hP
    rw [← ex13]
    refine gRunN_ok hG.1 1 _ (70, [some (.ref 81), some (.int x12), some (.int x13)], [], (gSh, s11, u)) rfl ?_
    cases hP
    exact K1 _ _ _ rfl
  · refine hG.1 _ (131, [some (.ref 81), some (.int l1), some (.int l2)], [.int l1], (gSh, s11, u)) _ rfl (if_neg hc) ?_
    refine gRunN_ok hG.1 4 _ (138, [some (.ref 81), some (.int (l1 ||| (1 : Int32))), some (.int l2)], [], (gSh, s11, u)) rfl ?_
    obtain ⟨x14, ex14, hP⟩ := g_let hP
    rw [← ex14]
    refine gRunN_ok hG.1 1 _ (141, [some (.ref 81), some (.int x14), some (.int (l2 + 1))], [], (gSh, s11, u)) rfl ?_
    obtain ⟨x15, ex15, hP⟩ := g_let hP
    rw [← ex15]
    refine gRunN_ok hG.1 1 _ (70, [some (.ref 81), some (.int x14), some (.int x15)], [], (gSh, s11, u)) rfl ?_
    cases hP
    exact K1 _ _ _ rfl
def p_Field_sweep_70 (E : gEv) (l1 : Int32) (l2 : Int32) (σ : gS) : Option ((Int32 × Int32 × gS) ⊕ (Int32 × gS)) :=
  if (σ.1 1 6) ≤ l2 then (some (.inr (l1, σ))) else (if gIn l2 (σ.2.1 90) then if (σ.1 90 l2.toNatClampNeg) = 0 then (p_Field_sweep_j113_70 E l1 l2 l2 0 σ) else (if gIn l2 (σ.2.1 90) then gB1 (p_Field_pinsOf E l2 σ) fun v16 => p_Field_sweep_j113_70 E l1 l2 l2 ((((σ.1 90 l2.toNatClampNeg).toUInt32 >>> (v16.toUInt32 &&& Int32.toUInt32 31)).toInt32) &&& (1 : Int32)) σ else none) else none)
set_option maxRecDepth 20000 in
theorem b_Field_sweep_70 (E : gEv) (d u : Nat) {G : gFr → Prop} {vo : Option Value} {sr : gS} (hG : gClo E gDf gP12 gY169 (some .boolean) (gC E gDf gMs (d + 1)) (vo, (gSh, sr, u)) G) (l1 : Int32) (l2 : Int32) (σ : gS) {r : (Int32 × Int32 × gS) ⊕ (Int32 × gS)} (hP : p_Field_sweep_70 E l1 l2 σ = some r) (K1 : ∀ (m1 : Int32) (m2 : Int32) (σ1 : gS), r = .inl (m1, m2, σ1) → G (70, [some (.ref 81), some (.int m1), some (.int m2)], [], (gSh, σ1, u))) (K2 : ∀ (m1 : Int32) (σ1 : gS), r = .inr (m1, σ1) → G (144, [some (.ref 81), some (.int m1), none], [], (gSh, σ1, u))) : G (70, [some (.ref 81), some (.int l1), some (.int l2)], [], (gSh, σ, u)) := by
  unfold p_Field_sweep_70 at hP
  refine gRunN_ok hG.1 4 _ (78, [some (.ref 81), some (.int l1), some (.int l2)], [.int (σ.1 1 6), .int l2], (gSh, σ, u)) rfl ?_
  rcases g_ite hP with ⟨hc, hP⟩ | ⟨hc, hP⟩
  · refine hG.1 _ (144, [some (.ref 81), some (.int l1), some (.int l2)], [], (gSh, σ, u)) _ rfl (if_pos hc) ?_
    refine hG.2.2.2.2.1 _ _ [some (.ref 81), some (.int l1), none] _ _ ⟨rfl, ⟨rfl, trivial⟩⟩ ?_
    cases hP
    exact K2 _ _ rfl
  · refine hG.1 _ (81, [some (.ref 81), some (.int l1), some (.int l2)], [], (gSh, σ, u)) _ rfl (if_neg hc) ?_
    refine gRunN_ok hG.1 6 _ (91, [some (.ref 81), some (.int l1), some (.int l2)], [.int l2, .ref 90, .int l2, .ref 86], (gSh, σ, u)) rfl ?_
    obtain ⟨hc, hP⟩ := g_if hP
    refine hG.1 _ (92, [some (.ref 81), some (.int l1), some (.int l2)], [.int (σ.1 90 l2.toNatClampNeg), .int l2, .ref 86], (gSh, σ, u)) _ rfl (if_pos hc) ?_
    rcases g_ite hP with ⟨hc, hP⟩ | ⟨hc, hP⟩
    · refine hG.1 _ (95, [some (.ref 81), some (.int l1), some (.int l2)], [.int l2, .ref 86], (gSh, σ, u)) _ rfl (if_pos hc) ?_
      refine gRunN_ok hG.1 2 _ (113, [some (.ref 81), some (.int l1), some (.int l2)], [.int 0, .int l2, .ref 86], (gSh, σ, u)) rfl ?_
      exact j_Field_sweep_j113_70 E d u hG l1 l2 l2 0 σ hP K1 K2
    · refine hG.1 _ (99, [some (.ref 81), some (.int l1), some (.int l2)], [.int l2, .ref 86], (gSh, σ, u)) _ rfl (if_neg hc) ?_
      refine gRunN_ok hG.1 3 _ (104, [some (.ref 81), some (.int l1), some (.int l2)], [.int l2, .ref 90, .int l2, .ref 86], (gSh, σ, u)) rfl ?_
      obtain ⟨hc, hP⟩ := g_if hP
      refine hG.1 _ (105, [some (.ref 81), some (.int l1), some (.int l2)], [.int (σ.1 90 l2.toNatClampNeg), .int l2, .ref 86], (gSh, σ, u)) _ rfl (if_pos hc) ?_
      refine gRunN_ok hG.1 2 _ (107, [some (.ref 81), some (.int l1), some (.int l2)], [.int l2, .ref 81, .int (σ.1 90 l2.toNatClampNeg), .int l2, .ref 86], (gSh, σ, u)) rfl ?_
      obtain ⟨v16, hq, hP⟩ := g_b1 hP
      refine hG.2.2.2.1 _ _ _ [.ref 81, .int l2] [.int (σ.1 90 l2.toNatClampNeg), .int l2, .ref 86] _ (gSh, σ, u) (some (.int v16)) _ _ _ _ _ _ rfl rfl rfl rfl rfl rfl (c_Field_pinsOf E (d + 0) u l2 _  hq) (Nat.le_refl _) (Nat.le_refl _) (Nat.le_refl _) (Nat.le_refl _) ?_
      show G (110, [some (.ref 81), some (.int l1), some (.int l2)], [.int v16, .int (σ.1 90 l2.toNatClampNeg), .int l2, .ref 86], (gSh, σ, u))
      refine gRunN_ok hG.1 3 _ (113, [some (.ref 81), some (.int l1), some (.int l2)], [.int ((((σ.1 90 l2.toNatClampNeg).toUInt32 >>> (v16.toUInt32 &&& Int32.toUInt32 31)).toInt32) &&& (1 : Int32)), .int l2, .ref 86], (gSh, σ, u)) rfl ?_
      exact j_Field_sweep_j113_70 E d u hG l1 l2 l2 ((((σ.1 90 l2.toNatClampNeg).toUInt32 >>> (v16.toUInt32 &&& Int32.toUInt32 31)).toInt32) &&& (1 : Int32)) σ hP K1 K2
theorem l_Field_sweep_70 (E : gEv) (d u : Nat) {G : gFr → Prop} {vo : Option Value} {sr : gS} (hG : gClo E gDf gP12 gY169 (some .boolean) (gC E gDf gMs (d + 1)) (vo, (gSh, sr, u)) G) : ∀ (n : Nat) (l1 : Int32) (l2 : Int32) (σ : gS) (e : (Int32 × gS)), gIter (fun z => p_Field_sweep_70 E z.1 z.2.1 z.2.2) n (l1, l2, σ) = some e → (∀ (m1 : Int32) (σ1 : gS), e = (m1, σ1) → G (144, [some (.ref 81), some (.int m1), none], [], (gSh, σ1, u))) → G (70, [some (.ref 81), some (.int l1), some (.int l2)], [], (gSh, σ, u)) := by
  intro n
  induction n with
  | zero => intro l1 l2 σ e h; cases h
  | succ n ih =>
    intro l1 l2 σ e h K2
    rcases g_iter h with ⟨z, h1, h2⟩ | h1
    · exact b_Field_sweep_70 E d u hG l1 l2 σ h1 (fun n0 n1 n2 hz => by cases hz; exact ih _ _ _ e h2 K2) (fun _ _ hz => by cases hz)
    · exact b_Field_sweep_70 E d u hG l1 l2 σ h1 (fun _ _ _ hz => by cases hz) (fun m1 σ1 hz => K2 m1 σ1 (by cases hz; rfl))
def p_Field_sweep (E : gEv) (σ : gS) : Option (Int32 × gS) :=
  if (¬ (0 : Int32) < 0 ∧ ¬ (0 : Int32) < 0 ∧ ¬ (σ.1 1 7) < 0 ∧ (0 : Int32).toNatClampNeg + (σ.1 1 7).toNatClampNeg ≤ σ.2.1 87 ∧ (0 : Int32).toNatClampNeg + (σ.1 1 7).toNatClampNeg ≤ σ.2.1 88) ∧ ∀ i, i < (σ.1 1 7).toNatClampNeg → fits .byte (.int (σ.1 87 ((0 : Int32).toNatClampNeg + i))) = true then gLet (gRow σ 88 (va_cpy (σ.1 87) (σ.1 88) (0 : Int32).toNatClampNeg (0 : Int32).toNatClampNeg (σ.1 1 7).toNatClampNeg)) fun s1 => gB1 (gIter (fun z => p_Field_sweep_22 E z.1 z.2) gN (0, s1)) fun e9 => (fun s10 => gB1 (gIter (fun z => p_Field_sweep_70 E z.1 z.2.1 z.2.2) gN (0, 0, s10)) fun e18 => (fun w19 s20 => if (¬ (0 : Int32) < 0 ∧ ¬ (0 : Int32) < 0 ∧ ¬ (s20.1 1 6) < 0 ∧ (0 : Int32).toNatClampNeg + (s20.1 1 6).toNatClampNeg ≤ s20.2.1 86 ∧ (0 : Int32).toNatClampNeg + (s20.1 1 6).toNatClampNeg ≤ s20.2.1 85) ∧ ∀ i, i < (s20.1 1 6).toNatClampNeg → fits .byte (.int (s20.1 86 ((0 : Int32).toNatClampNeg + i))) = true then gLet (gRow s20 85 (va_cpy (s20.1 86) (s20.1 85) (0 : Int32).toNatClampNeg (0 : Int32).toNatClampNeg (s20.1 1 6).toNatClampNeg)) fun s21 => if w19 = 0 ∨ w19 = 1 then some (w19, s21) else none else none) e18.1 e18.2) e9 else none
set_option maxRecDepth 20000 in
theorem c_Field_sweep (E : gEv) (d u : Nat) (σ : gS) {v : Int32} {sr : gS}  (hq : p_Field_sweep E σ = some (v, sr)) : gC E gDf gMs (d + 2) 169 [.ref 81] (gSh, σ, u) (some (.int v), (gSh, sr, u)) := ⟨gM169, rfl, Nat.le_of_ble_eq_true rfl, fun G hG => by
  have hP := hq
  unfold p_Field_sweep at hP
  replace hG : gClo E gDf gP12 gY169 (some .boolean) (gC E gDf gMs (d + 1)) (some (.int v), (gSh, sr, u)) G := hG
  show G (0, [some (.ref 81), none, none], [], (gSh, σ, u))
  refine gRunN_ok hG.1 9 _ (17, [some (.ref 81), none, none], [.int (σ.1 1 7), .int 0, .ref 88, .int 0, .ref 87], (gSh, σ, u)) rfl ?_
  obtain ⟨hc, hP⟩ := g_if hP
  refine hG.1 _ (20, [some (.ref 81), none, none], [], (gSh, (gRow σ 88 (va_cpy (σ.1 87) (σ.1 88) (0 : Int32).toNatClampNeg (0 : Int32).toNatClampNeg (σ.1 1 7).toNatClampNeg)), u)) _ rfl (if_pos hc) ?_
  obtain ⟨s1, es1, hP⟩ := g_let hP
  rw [← es1]
  refine gRunN_ok hG.1 2 _ (22, [some (.ref 81), some (.int 0), none], [], (gSh, s1, u)) rfl ?_
  obtain ⟨e9, hq, hP⟩ := g_b1 hP
  refine l_Field_sweep_22 E d u hG gN 0 s1 _ hq (fun s10 he => ?_)
  · replace he := he.symm
    subst he
    try dsimp only [gSum] at hP
    refine gRunN_ok hG.1 4 _ (70, [some (.ref 81), some (.int 0), some (.int 0)], [], (gSh, s10, u)) rfl ?_
    obtain ⟨e18, hq, hP⟩ := g_b1 hP
    refine l_Field_sweep_70 E d u hG gN 0 0 s10 _ hq (fun w19 s20 he => ?_)
    · subst he
      try dsimp only [gSum] at hP
      refine gRunN_ok hG.1 9 _ (161, [some (.ref 81), some (.int w19), none], [.int (s20.1 1 6), .int 0, .ref 85, .int 0, .ref 86], (gSh, s20, u)) rfl ?_
      obtain ⟨hc, hP⟩ := g_if hP
      refine hG.1 _ (164, [some (.ref 81), some (.int w19), none], [], (gSh, (gRow s20 85 (va_cpy (s20.1 86) (s20.1 85) (0 : Int32).toNatClampNeg (0 : Int32).toNatClampNeg (s20.1 1 6).toNatClampNeg)), u)) _ rfl (if_pos hc) ?_
      obtain ⟨s21, es21, hP⟩ := g_let hP
      rw [← es21]
      refine gRunN_ok hG.1 1 _ (165, [some (.ref 81), some (.int w19), none], [.int w19], (gSh, s21, u)) rfl ?_
      obtain ⟨hc, hP⟩ := g_if hP
      cases hP
      exact hG.2.1 _ _ rfl (if_pos hc)⟩
def p_Field_takeLuts_4 (E : gEv) (l1 : Int32) (l2 : Int32) (σ : gS) : Option ((Int32 × Int32 × gS) ⊕ (Int32 × gS)) :=
  if (σ.1 1 6) ≤ l2 then (some (.inr (l1, σ))) else (gB1 (p_Field_isUsed E l2 σ) fun v1 => if v1 = 0 then (gLet (l2 + 1) fun x3 => some (.inl (l1, x3, σ))) else (if gIn l2 (σ.2.1 84) then if gIn l2 (σ.2.1 85) then if (σ.1 84 l2.toNatClampNeg) = (σ.1 85 l2.toNatClampNeg) then (gLet (l2 + 1) fun x4 => some (.inl (l1, x4, σ))) else (if gIn l2 (σ.2.1 85) then if gIn l2 (σ.2.1 84) then gLet (gPut σ 84 l2.toNatClampNeg (vp_nar .byte (σ.1 85 l2.toNatClampNeg))) fun s5 => gLet (l2 + 1) fun x6 => some (.inl (1, x6, s5)) else none else none) else none else none))
set_option maxRecDepth 20000 in
theorem b_Field_takeLuts_4 (E : gEv) (d u : Nat) {G : gFr → Prop} {vo : Option Value} {sr : gS} (hG : gClo E gDf gP12 gY171 (some .boolean) (gC E gDf gMs (d + 1)) (vo, (gSh, sr, u)) G) (l1 : Int32) (l2 : Int32) (σ : gS) {r : (Int32 × Int32 × gS) ⊕ (Int32 × gS)} (hP : p_Field_takeLuts_4 E l1 l2 σ = some r) (K1 : ∀ (m1 : Int32) (m2 : Int32) (σ1 : gS), r = .inl (m1, m2, σ1) → G (4, [some (.ref 81), some (.int m1), some (.int m2)], [], (gSh, σ1, u))) (K2 : ∀ (m1 : Int32) (σ1 : gS), r = .inr (m1, σ1) → G (58, [some (.ref 81), some (.int m1), none], [], (gSh, σ1, u))) : G (4, [some (.ref 81), some (.int l1), some (.int l2)], [], (gSh, σ, u)) := by
  unfold p_Field_takeLuts_4 at hP
  refine gRunN_ok hG.1 4 _ (12, [some (.ref 81), some (.int l1), some (.int l2)], [.int (σ.1 1 6), .int l2], (gSh, σ, u)) rfl ?_
  rcases g_ite hP with ⟨hc, hP⟩ | ⟨hc, hP⟩
  · refine hG.1 _ (58, [some (.ref 81), some (.int l1), some (.int l2)], [], (gSh, σ, u)) _ rfl (if_pos hc) ?_
    refine hG.2.2.2.2.1 _ _ [some (.ref 81), some (.int l1), none] _ _ ⟨rfl, ⟨rfl, trivial⟩⟩ ?_
    cases hP
    exact K2 _ _ rfl
  · refine hG.1 _ (15, [some (.ref 81), some (.int l1), some (.int l2)], [], (gSh, σ, u)) _ rfl (if_neg hc) ?_
    refine gRunN_ok hG.1 2 _ (17, [some (.ref 81), some (.int l1), some (.int l2)], [.int l2, .ref 81], (gSh, σ, u)) rfl ?_
    obtain ⟨v1, hq, hP⟩ := g_b1 hP
    refine hG.2.2.2.1 _ _ _ [.ref 81, .int l2] [] _ (gSh, σ, u) (some (.int v1)) _ _ _ _ _ _ rfl rfl rfl rfl rfl rfl (c_Field_isUsed E (d + 0) u l2 _  hq) (Nat.le_refl _) (Nat.le_refl _) (Nat.le_refl _) (Nat.le_refl _) ?_
    show G (20, [some (.ref 81), some (.int l1), some (.int l2)], [.int v1], (gSh, σ, u))
    rcases g_ite hP with ⟨hc, hP⟩ | ⟨hc, hP⟩
    · refine hG.1 _ (52, [some (.ref 81), some (.int l1), some (.int l2)], [], (gSh, σ, u)) _ rfl (if_pos hc) ?_
      refine gRunN_ok hG.1 1 _ (55, [some (.ref 81), some (.int l1), some (.int (l2 + 1))], [], (gSh, σ, u)) rfl ?_
      obtain ⟨x3, ex3, hP⟩ := g_let hP
      rw [← ex3]
      refine gRunN_ok hG.1 1 _ (4, [some (.ref 81), some (.int l1), some (.int x3)], [], (gSh, σ, u)) rfl ?_
      cases hP
      exact K1 _ _ _ rfl
    · refine hG.1 _ (23, [some (.ref 81), some (.int l1), some (.int l2)], [], (gSh, σ, u)) _ rfl (if_neg hc) ?_
      refine gRunN_ok hG.1 3 _ (28, [some (.ref 81), some (.int l1), some (.int l2)], [.int l2, .ref 84], (gSh, σ, u)) rfl ?_
      obtain ⟨hc, hP⟩ := g_if hP
      refine hG.1 _ (29, [some (.ref 81), some (.int l1), some (.int l2)], [.int (σ.1 84 l2.toNatClampNeg)], (gSh, σ, u)) _ rfl (if_pos hc) ?_
      refine gRunN_ok hG.1 3 _ (34, [some (.ref 81), some (.int l1), some (.int l2)], [.int l2, .ref 85, .int (σ.1 84 l2.toNatClampNeg)], (gSh, σ, u)) rfl ?_
      obtain ⟨hc, hP⟩ := g_if hP
      refine hG.1 _ (35, [some (.ref 81), some (.int l1), some (.int l2)], [.int (σ.1 85 l2.toNatClampNeg), .int (σ.1 84 l2.toNatClampNeg)], (gSh, σ, u)) _ rfl (if_pos hc) ?_
      rcases g_ite hP with ⟨hc, hP⟩ | ⟨hc, hP⟩
      · refine hG.1 _ (52, [some (.ref 81), some (.int l1), some (.int l2)], [], (gSh, σ, u)) _ rfl (if_pos hc) ?_
        refine gRunN_ok hG.1 1 _ (55, [some (.ref 81), some (.int l1), some (.int (l2 + 1))], [], (gSh, σ, u)) rfl ?_
        obtain ⟨x4, ex4, hP⟩ := g_let hP
        rw [← ex4]
        refine gRunN_ok hG.1 1 _ (4, [some (.ref 81), some (.int l1), some (.int x4)], [], (gSh, σ, u)) rfl ?_
        cases hP
        exact K1 _ _ _ rfl
      · refine hG.1 _ (38, [some (.ref 81), some (.int l1), some (.int l2)], [], (gSh, σ, u)) _ rfl (if_neg hc) ?_
        refine gRunN_ok hG.1 6 _ (48, [some (.ref 81), some (.int l1), some (.int l2)], [.int l2, .ref 85, .int l2, .ref 84], (gSh, σ, u)) rfl ?_
        obtain ⟨hc, hP⟩ := g_if hP
        refine hG.1 _ (49, [some (.ref 81), some (.int l1), some (.int l2)], [.int (σ.1 85 l2.toNatClampNeg), .int l2, .ref 84], (gSh, σ, u)) _ rfl (if_pos hc) ?_
        obtain ⟨hc, hP⟩ := g_if hP
        refine hG.1 _ (50, [some (.ref 81), some (.int l1), some (.int l2)], [], (gSh, (gPut σ 84 l2.toNatClampNeg (vp_nar .byte (σ.1 85 l2.toNatClampNeg))), u)) _ rfl (if_pos hc) ?_
        obtain ⟨s5, es5, hP⟩ := g_let hP
        rw [← es5]
        refine gRunN_ok hG.1 3 _ (55, [some (.ref 81), some (.int 1), some (.int (l2 + 1))], [], (gSh, s5, u)) rfl ?_
        obtain ⟨x6, ex6, hP⟩ := g_let hP
        rw [← ex6]
        refine gRunN_ok hG.1 1 _ (4, [some (.ref 81), some (.int 1), some (.int x6)], [], (gSh, s5, u)) rfl ?_
        cases hP
        exact K1 _ _ _ rfl
theorem l_Field_takeLuts_4 (E : gEv) (d u : Nat) {G : gFr → Prop} {vo : Option Value} {sr : gS} (hG : gClo E gDf gP12 gY171 (some .boolean) (gC E gDf gMs (d + 1)) (vo, (gSh, sr, u)) G) : ∀ (n : Nat) (l1 : Int32) (l2 : Int32) (σ : gS) (e : (Int32 × gS)), gIter (fun z => p_Field_takeLuts_4 E z.1 z.2.1 z.2.2) n (l1, l2, σ) = some e → (∀ (m1 : Int32) (σ1 : gS), e = (m1, σ1) → G (58, [some (.ref 81), some (.int m1), none], [], (gSh, σ1, u))) → G (4, [some (.ref 81), some (.int l1), some (.int l2)], [], (gSh, σ, u)) := by
  intro n
  induction n with
  | zero => intro l1 l2 σ e h; cases h
  | succ n ih =>
    intro l1 l2 σ e h K2
    rcases g_iter h with ⟨z, h1, h2⟩ | h1
    · exact b_Field_takeLuts_4 E d u hG l1 l2 σ h1 (fun n0 n1 n2 hz => by cases hz; exact ih _ _ _ e h2 K2) (fun _ _ hz => by cases hz)
    · exact b_Field_takeLuts_4 E d u hG l1 l2 σ h1 (fun _ _ _ hz => by cases hz) (fun m1 σ1 hz => K2 m1 σ1 (by cases hz; rfl))
def p_Field_takeLuts_j75 (E : gEv) (l1 : Int32) (y1 : Int32) (σ : gS) : Option (Int32 × gS) :=
  if y1 = 0 ∨ y1 = 1 then gLet (gPut σ 81 15 y1) fun s10 => if l1 = 0 ∨ l1 = 1 then some (l1, s10) else none else none
set_option maxRecDepth 20000 in
theorem j_Field_takeLuts_j75 (E : gEv) (d u : Nat) {G : gFr → Prop} {v : Int32} {sr : gS} (hG : gClo E gDf gP12 gY171 (some .boolean) (gC E gDf gMs (d + 1)) (some (.int v), (gSh, sr, u)) G) (l1 : Int32) (y1 : Int32) (σ : gS) (hP : p_Field_takeLuts_j75 E l1 y1 σ = some (v, sr)) : G (75, [none, some (.int l1), none], [.int y1, .ref 81], (gSh, σ, u)) := by
  unfold p_Field_takeLuts_j75 at hP
  obtain ⟨hc, hP⟩ := g_if hP
  refine hG.1 _ (78, [none, some (.int l1), none], [], (gSh, (gPut σ 81 15 y1), u)) _ rfl (if_pos hc) ?_
  obtain ⟨s10, es10, hP⟩ := g_let hP
  rw [← es10]
  refine gRunN_ok hG.1 1 _ (79, [none, some (.int l1), none], [.int l1], (gSh, s10, u)) rfl ?_
  obtain ⟨hc, hP⟩ := g_if hP
  cases hP
  exact hG.2.1 _ _ rfl (if_pos hc)
def p_Field_takeLuts_j74 (E : gEv) (l1 : Int32) (σ : gS) : Option (Int32 × gS) :=
  p_Field_takeLuts_j75 E l1 0 σ
set_option maxRecDepth 20000 in
theorem j_Field_takeLuts_j74 (E : gEv) (d u : Nat) {G : gFr → Prop} {v : Int32} {sr : gS} (hG : gClo E gDf gP12 gY171 (some .boolean) (gC E gDf gMs (d + 1)) (some (.int v), (gSh, sr, u)) G) (l1 : Int32) (σ : gS) (hP : p_Field_takeLuts_j74 E l1 σ = some (v, sr)) : G (74, [none, some (.int l1), none], [.ref 81], (gSh, σ, u)) := by
  unfold p_Field_takeLuts_j74 at hP
  refine gRunN_ok hG.1 1 _ (75, [none, some (.int l1), none], [.int 0, .ref 81], (gSh, σ, u)) rfl ?_
  exact j_Field_takeLuts_j75 E d u hG l1 0 σ hP
def p_Field_takeLuts (E : gEv) (σ : gS) : Option (Int32 × gS) :=
  gB1 (gIter (fun z => p_Field_takeLuts_4 E z.1 z.2.1 z.2.2) gN (0, 0, σ)) fun e7 => (fun w8 s9 => if (s9.1 81 15) = 0 then (p_Field_takeLuts_j74 E w8 s9) else (if w8 = 0 then (p_Field_takeLuts_j75 E w8 1 s9) else (p_Field_takeLuts_j74 E w8 s9))) e7.1 e7.2
set_option maxRecDepth 20000 in
theorem c_Field_takeLuts (E : gEv) (d u : Nat) (σ : gS) {v : Int32} {sr : gS}  (hq : p_Field_takeLuts E σ = some (v, sr)) : gC E gDf gMs (d + 2) 171 [.ref 81] (gSh, σ, u) (some (.int v), (gSh, sr, u)) := ⟨gM171, rfl, Nat.le_of_ble_eq_true rfl, fun G hG => by
  have hP := hq
  unfold p_Field_takeLuts at hP
  replace hG : gClo E gDf gP12 gY171 (some .boolean) (gC E gDf gMs (d + 1)) (some (.int v), (gSh, sr, u)) G := hG
  show G (0, [some (.ref 81), none, none], [], (gSh, σ, u))
  refine gRunN_ok hG.1 4 _ (4, [some (.ref 81), some (.int 0), some (.int 0)], [], (gSh, σ, u)) rfl ?_
  obtain ⟨e7, hq, hP⟩ := g_b1 hP
  refine l_Field_takeLuts_4 E d u hG gN 0 0 σ _ hq (fun w8 s9 he => ?_)
  · subst he
    try dsimp only [gSum] at hP
    refine gRunN_ok hG.1 3 _ (63, [some (.ref 81), some (.int w8), none], [.int (s9.1 81 15), .ref 81], (gSh, s9, u)) rfl ?_
    rcases g_ite hP with ⟨hc, hP⟩ | ⟨hc, hP⟩
    · refine hG.1 _ (74, [some (.ref 81), some (.int w8), none], [.ref 81], (gSh, s9, u)) _ rfl (if_pos hc) ?_
      refine hG.2.2.2.2.1 _ _ [none, some (.int w8), none] _ _ ⟨rfl, trivial⟩ ?_
      exact j_Field_takeLuts_j74 E d u hG w8 s9 hP
    · refine hG.1 _ (66, [some (.ref 81), some (.int w8), none], [.ref 81], (gSh, s9, u)) _ rfl (if_neg hc) ?_
      refine gRunN_ok hG.1 1 _ (67, [some (.ref 81), some (.int w8), none], [.int w8, .ref 81], (gSh, s9, u)) rfl ?_
      rcases g_ite hP with ⟨hc, hP⟩ | ⟨hc, hP⟩
      · refine hG.1 _ (70, [some (.ref 81), some (.int w8), none], [.ref 81], (gSh, s9, u)) _ rfl (if_pos hc) ?_
        refine gRunN_ok hG.1 2 _ (75, [some (.ref 81), some (.int w8), none], [.int 1, .ref 81], (gSh, s9, u)) rfl ?_
        refine hG.2.2.2.2.1 _ _ [none, some (.int w8), none] _ _ ⟨rfl, trivial⟩ ?_
        exact j_Field_takeLuts_j75 E d u hG w8 1 s9 hP
      · refine hG.1 _ (74, [some (.ref 81), some (.int w8), none], [.ref 81], (gSh, s9, u)) _ rfl (if_neg hc) ?_
        refine hG.2.2.2.2.1 _ _ [none, some (.int w8), none] _ _ ⟨rfl, trivial⟩ ?_
        exact j_Field_takeLuts_j74 E d u hG w8 s9 hP⟩
def p_Field_canAsk (E : gEv) (a0 : Int32) (a1 : Int32) (σ : gS) : Option (Int32) :=
  if a0 = 0 then (if a1 < 0 then (some 0) else (if (σ.1 1 7) ≤ a1 then (some 0) else (some 1))) else if a0 = 1 then (if a1 < 0 then (some 0) else (if (σ.1 1 5) ≤ a1 then (some 0) else (gB1 (p_Grid_padBit E a1 σ) fun v1 => gB1 (p_Field_numberAt E v1 2 σ) fun v3 => if v3 = (2 : Int32) then (some 1) else (some 0)))) else if a0 = 2 then (if a1 < 0 then (some 0) else (if (σ.1 1 6) ≤ a1 then (some 0) else (some 1))) else if a0 = 3 then (if a1 < 0 then (some 0) else (if (σ.1 1 6) ≤ a1 then (some 0) else (some 1))) else (some 0)
set_option maxRecDepth 20000 in
theorem c_Field_canAsk (E : gEv) (d u : Nat) (a0 : Int32) (a1 : Int32) (σ : gS) {v : Int32}  (hq : p_Field_canAsk E a0 a1 σ = some v) : gC E gDf gMs (d + 2) 173 [.ref 81, .int a0, .int a1] (gSh, σ, u) (some (.int v), (gSh, σ, u)) := ⟨gM173, rfl, Nat.le_of_ble_eq_true rfl, fun G hG => by
  have hP := hq
  unfold p_Field_canAsk at hP
  replace hG : gClo E gDf gP12 gY173 (some .boolean) (gC E gDf gMs (d + 1)) (some (.int v), (gSh, σ, u)) G := hG
  show G (0, [some (.ref 81), some (.int a0), some (.int a1)], [], (gSh, σ, u))
  refine gRunN_ok hG.1 1 _ (1, [some (.ref 81), some (.int a0), some (.int a1)], [.int a0], (gSh, σ, u)) rfl ?_
  rcases g_ite hP with ⟨hc0, hP⟩ | ⟨hc0, hP⟩
  · refine hG.1 _ (32, [some (.ref 81), some (.int a0), some (.int a1)], [], (gSh, σ, u)) _ rfl (if_pos hc0) ?_
    refine gRunN_ok hG.1 1 _ (33, [some (.ref 81), some (.int a0), some (.int a1)], [.int a1], (gSh, σ, u)) rfl ?_
    rcases g_ite hP with ⟨hc, hP⟩ | ⟨hc, hP⟩
    · refine hG.1 _ (51, [some (.ref 81), some (.int a0), some (.int a1)], [], (gSh, σ, u)) _ rfl (if_pos hc) ?_
      refine gRunN_ok hG.1 1 _ (52, [some (.ref 81), some (.int a0), some (.int a1)], [.int 0], (gSh, σ, u)) rfl ?_
      cases hP
      exact hG.2.1 _ _ rfl rfl
    · refine hG.1 _ (36, [some (.ref 81), some (.int a0), some (.int a1)], [], (gSh, σ, u)) _ rfl (if_neg hc) ?_
      refine gRunN_ok hG.1 4 _ (44, [some (.ref 81), some (.int a0), some (.int a1)], [.int (σ.1 1 7), .int a1], (gSh, σ, u)) rfl ?_
      rcases g_ite hP with ⟨hc, hP⟩ | ⟨hc, hP⟩
      · refine hG.1 _ (51, [some (.ref 81), some (.int a0), some (.int a1)], [], (gSh, σ, u)) _ rfl (if_pos hc) ?_
        refine gRunN_ok hG.1 1 _ (52, [some (.ref 81), some (.int a0), some (.int a1)], [.int 0], (gSh, σ, u)) rfl ?_
        cases hP
        exact hG.2.1 _ _ rfl rfl
      · refine hG.1 _ (47, [some (.ref 81), some (.int a0), some (.int a1)], [], (gSh, σ, u)) _ rfl (if_neg hc) ?_
        refine gRunN_ok hG.1 2 _ (52, [some (.ref 81), some (.int a0), some (.int a1)], [.int 1], (gSh, σ, u)) rfl ?_
        cases hP
        exact hG.2.1 _ _ rfl rfl
  rcases g_ite hP with ⟨hc1, hP⟩ | ⟨hc1, hP⟩
  · refine hG.1 _ (53, [some (.ref 81), some (.int a0), some (.int a1)], [], (gSh, σ, u)) _ rfl ((if_neg hc0).trans (if_pos hc1)) ?_
    refine gRunN_ok hG.1 1 _ (54, [some (.ref 81), some (.int a0), some (.int a1)], [.int a1], (gSh, σ, u)) rfl ?_
    rcases g_ite hP with ⟨hc, hP⟩ | ⟨hc, hP⟩
    · refine hG.1 _ (89, [some (.ref 81), some (.int a0), some (.int a1)], [], (gSh, σ, u)) _ rfl (if_pos hc) ?_
      refine gRunN_ok hG.1 1 _ (90, [some (.ref 81), some (.int a0), some (.int a1)], [.int 0], (gSh, σ, u)) rfl ?_
      cases hP
      exact hG.2.1 _ _ rfl rfl
    · refine hG.1 _ (57, [some (.ref 81), some (.int a0), some (.int a1)], [], (gSh, σ, u)) _ rfl (if_neg hc) ?_
      refine gRunN_ok hG.1 4 _ (65, [some (.ref 81), some (.int a0), some (.int a1)], [.int (σ.1 1 5), .int a1], (gSh, σ, u)) rfl ?_
      rcases g_ite hP with ⟨hc, hP⟩ | ⟨hc, hP⟩
      · refine hG.1 _ (89, [some (.ref 81), some (.int a0), some (.int a1)], [], (gSh, σ, u)) _ rfl (if_pos hc) ?_
        refine gRunN_ok hG.1 1 _ (90, [some (.ref 81), some (.int a0), some (.int a1)], [.int 0], (gSh, σ, u)) rfl ?_
        cases hP
        exact hG.2.1 _ _ rfl rfl
      · refine hG.1 _ (68, [some (.ref 81), some (.int a0), some (.int a1)], [], (gSh, σ, u)) _ rfl (if_neg hc) ?_
        refine gRunN_ok hG.1 4 _ (74, [some (.ref 81), some (.int a0), some (.int a1)], [.int a1, .ref 1, .ref 81], (gSh, σ, u)) rfl ?_
        obtain ⟨v1, hq, hP⟩ := g_b1 hP
        refine hG.2.2.2.1 _ _ _ [.ref 1, .int a1] [.ref 81] _ (gSh, σ, u) (some (.int v1)) _ _ _ _ _ _ rfl rfl rfl rfl rfl rfl (c_Grid_padBit E (d + 0) u a1 _  hq) (Nat.le_refl _) (Nat.le_refl _) (Nat.le_refl _) (Nat.le_refl _) ?_
        show G (77, [some (.ref 81), some (.int a0), some (.int a1)], [.int v1, .ref 81], (gSh, σ, u))
        refine gRunN_ok hG.1 1 _ (78, [some (.ref 81), some (.int a0), some (.int a1)], [.int 2, .int v1, .ref 81], (gSh, σ, u)) rfl ?_
        obtain ⟨v3, hq, hP⟩ := g_b1 hP
        refine hG.2.2.2.1 _ _ _ [.ref 81, .int v1, .int 2] [] _ (gSh, σ, u) (some (.int v3)) _ _ _ _ _ _ rfl rfl rfl rfl rfl rfl (c_Field_numberAt E (d + 0) u v1 2 _  hq) (Nat.le_refl _) (Nat.le_refl _) (Nat.le_refl _) (Nat.le_refl _) ?_
        show G (81, [some (.ref 81), some (.int a0), some (.int a1)], [.int v3], (gSh, σ, u))
        refine gRunN_ok hG.1 1 _ (82, [some (.ref 81), some (.int a0), some (.int a1)], [.int 2, .int v3], (gSh, σ, u)) rfl ?_
        rcases g_ite hP with ⟨hc, hP⟩ | ⟨hc, hP⟩
        · refine hG.1 _ (85, [some (.ref 81), some (.int a0), some (.int a1)], [], (gSh, σ, u)) _ rfl (if_pos hc) ?_
          refine gRunN_ok hG.1 2 _ (90, [some (.ref 81), some (.int a0), some (.int a1)], [.int 1], (gSh, σ, u)) rfl ?_
          cases hP
          exact hG.2.1 _ _ rfl rfl
        · refine hG.1 _ (89, [some (.ref 81), some (.int a0), some (.int a1)], [], (gSh, σ, u)) _ rfl (if_neg hc) ?_
          refine gRunN_ok hG.1 1 _ (90, [some (.ref 81), some (.int a0), some (.int a1)], [.int 0], (gSh, σ, u)) rfl ?_
          cases hP
          exact hG.2.1 _ _ rfl rfl
  rcases g_ite hP with ⟨hc2, hP⟩ | ⟨hc2, hP⟩
  · refine hG.1 _ (91, [some (.ref 81), some (.int a0), some (.int a1)], [], (gSh, σ, u)) _ rfl ((if_neg hc0).trans ((if_neg hc1).trans (if_pos hc2))) ?_
    refine gRunN_ok hG.1 1 _ (92, [some (.ref 81), some (.int a0), some (.int a1)], [.int a1], (gSh, σ, u)) rfl ?_
    rcases g_ite hP with ⟨hc, hP⟩ | ⟨hc, hP⟩
    · refine hG.1 _ (110, [some (.ref 81), some (.int a0), some (.int a1)], [], (gSh, σ, u)) _ rfl (if_pos hc) ?_
      refine gRunN_ok hG.1 1 _ (111, [some (.ref 81), some (.int a0), some (.int a1)], [.int 0], (gSh, σ, u)) rfl ?_
      cases hP
      exact hG.2.1 _ _ rfl rfl
    · refine hG.1 _ (95, [some (.ref 81), some (.int a0), some (.int a1)], [], (gSh, σ, u)) _ rfl (if_neg hc) ?_
      refine gRunN_ok hG.1 4 _ (103, [some (.ref 81), some (.int a0), some (.int a1)], [.int (σ.1 1 6), .int a1], (gSh, σ, u)) rfl ?_
      rcases g_ite hP with ⟨hc, hP⟩ | ⟨hc, hP⟩
      · refine hG.1 _ (110, [some (.ref 81), some (.int a0), some (.int a1)], [], (gSh, σ, u)) _ rfl (if_pos hc) ?_
        refine gRunN_ok hG.1 1 _ (111, [some (.ref 81), some (.int a0), some (.int a1)], [.int 0], (gSh, σ, u)) rfl ?_
        cases hP
        exact hG.2.1 _ _ rfl rfl
      · refine hG.1 _ (106, [some (.ref 81), some (.int a0), some (.int a1)], [], (gSh, σ, u)) _ rfl (if_neg hc) ?_
        refine gRunN_ok hG.1 2 _ (111, [some (.ref 81), some (.int a0), some (.int a1)], [.int 1], (gSh, σ, u)) rfl ?_
        cases hP
        exact hG.2.1 _ _ rfl rfl
  rcases g_ite hP with ⟨hc3, hP⟩ | ⟨hc3, hP⟩
  · refine hG.1 _ (91, [some (.ref 81), some (.int a0), some (.int a1)], [], (gSh, σ, u)) _ rfl ((if_neg hc0).trans ((if_neg hc1).trans ((if_neg hc2).trans (if_pos hc3)))) ?_
    refine gRunN_ok hG.1 1 _ (92, [some (.ref 81), some (.int a0), some (.int a1)], [.int a1], (gSh, σ, u)) rfl ?_
    rcases g_ite hP with ⟨hc, hP⟩ | ⟨hc, hP⟩
    · refine hG.1 _ (110, [some (.ref 81), some (.int a0), some (.int a1)], [], (gSh, σ, u)) _ rfl (if_pos hc) ?_
      refine gRunN_ok hG.1 1 _ (111, [some (.ref 81), some (.int a0), some (.int a1)], [.int 0], (gSh, σ, u)) rfl ?_
      cases hP
      exact hG.2.1 _ _ rfl rfl
    · refine hG.1 _ (95, [some (.ref 81), some (.int a0), some (.int a1)], [], (gSh, σ, u)) _ rfl (if_neg hc) ?_
      refine gRunN_ok hG.1 4 _ (103, [some (.ref 81), some (.int a0), some (.int a1)], [.int (σ.1 1 6), .int a1], (gSh, σ, u)) rfl ?_
      rcases g_ite hP with ⟨hc, hP⟩ | ⟨hc, hP⟩
      · refine hG.1 _ (110, [some (.ref 81), some (.int a0), some (.int a1)], [], (gSh, σ, u)) _ rfl (if_pos hc) ?_
        refine gRunN_ok hG.1 1 _ (111, [some (.ref 81), some (.int a0), some (.int a1)], [.int 0], (gSh, σ, u)) rfl ?_
        cases hP
        exact hG.2.1 _ _ rfl rfl
      · refine hG.1 _ (106, [some (.ref 81), some (.int a0), some (.int a1)], [], (gSh, σ, u)) _ rfl (if_neg hc) ?_
        refine gRunN_ok hG.1 2 _ (111, [some (.ref 81), some (.int a0), some (.int a1)], [.int 1], (gSh, σ, u)) rfl ?_
        cases hP
        exact hG.2.1 _ _ rfl rfl
  · refine hG.1 _ (112, [some (.ref 81), some (.int a0), some (.int a1)], [], (gSh, σ, u)) _ rfl ((if_neg hc0).trans ((if_neg hc1).trans ((if_neg hc2).trans ((if_neg hc3).trans rfl)))) ?_
    refine gRunN_ok hG.1 1 _ (113, [some (.ref 81), some (.int a0), some (.int a1)], [.int 0], (gSh, σ, u)) rfl ?_
    cases hP
    exact hG.2.1 _ _ rfl rfl⟩
def p_Field_outOf (E : gEv) (a0 : Int32) (σ : gS) : Option (Int32) :=
  gB1 (p_Field_isUsed E a0 σ) fun v1 => if v1 = 0 then (if gIn a0 (σ.2.1 85) then some (σ.1 85 a0.toNatClampNeg) else none) else (if gIn a0 (σ.2.1 84) then some (σ.1 84 a0.toNatClampNeg) else none)
set_option maxRecDepth 20000 in
theorem c_Field_outOf (E : gEv) (d u : Nat) (a0 : Int32) (σ : gS) {v : Int32}  (hq : p_Field_outOf E a0 σ = some v) : gC E gDf gMs (d + 2) 175 [.ref 81, .int a0] (gSh, σ, u) (some (.int v), (gSh, σ, u)) := ⟨gM175, rfl, Nat.le_of_ble_eq_true rfl, fun G hG => by
  have hP := hq
  unfold p_Field_outOf at hP
  replace hG : gClo E gDf gP12 gY175 (some .int) (gC E gDf gMs (d + 1)) (some (.int v), (gSh, σ, u)) G := hG
  show G (0, [some (.ref 81), some (.int a0)], [], (gSh, σ, u))
  refine gRunN_ok hG.1 2 _ (2, [some (.ref 81), some (.int a0)], [.int a0, .ref 81], (gSh, σ, u)) rfl ?_
  obtain ⟨v1, hq, hP⟩ := g_b1 hP
  refine hG.2.2.2.1 _ _ _ [.ref 81, .int a0] [] _ (gSh, σ, u) (some (.int v1)) _ _ _ _ _ _ rfl rfl rfl rfl rfl rfl (c_Field_isUsed E (d + 0) u a0 _  hq) (Nat.le_refl _) (Nat.le_refl _) (Nat.le_refl _) (Nat.le_refl _) ?_
  show G (5, [some (.ref 81), some (.int a0)], [.int v1], (gSh, σ, u))
  rcases g_ite hP with ⟨hc, hP⟩ | ⟨hc, hP⟩
  · refine hG.1 _ (17, [some (.ref 81), some (.int a0)], [], (gSh, σ, u)) _ rfl (if_pos hc) ?_
    refine gRunN_ok hG.1 3 _ (22, [some (.ref 81), some (.int a0)], [.int a0, .ref 85], (gSh, σ, u)) rfl ?_
    obtain ⟨hc, hP⟩ := g_if hP
    refine hG.1 _ (23, [some (.ref 81), some (.int a0)], [.int (σ.1 85 a0.toNatClampNeg)], (gSh, σ, u)) _ rfl (if_pos hc) ?_
    cases hP
    exact hG.2.1 _ _ rfl rfl
  · refine hG.1 _ (8, [some (.ref 81), some (.int a0)], [], (gSh, σ, u)) _ rfl (if_neg hc) ?_
    refine gRunN_ok hG.1 3 _ (13, [some (.ref 81), some (.int a0)], [.int a0, .ref 84], (gSh, σ, u)) rfl ?_
    obtain ⟨hc, hP⟩ := g_if hP
    refine hG.1 _ (14, [some (.ref 81), some (.int a0)], [.int (σ.1 84 a0.toNatClampNeg)], (gSh, σ, u)) _ rfl (if_pos hc) ?_
    refine gRunN_ok hG.1 1 _ (23, [some (.ref 81), some (.int a0)], [.int (σ.1 84 a0.toNatClampNeg)], (gSh, σ, u)) rfl ?_
    cases hP
    exact hG.2.1 _ _ rfl rfl⟩
def p_Face_drive_j31 (E : gEv) (y1 : Int32) (y2 : Int32) (σ : gS) : Option (Int32 × gS) :=
  gB1 (p_Circuit_setInput E y1 y2 σ) fun s2 => some (1, s2)
set_option maxRecDepth 20000 in
theorem j_Face_drive_j31 (E : gEv) (d u : Nat) {G : gFr → Prop} {v : Int32} {sr : gS} (hG : gClo E gDf gP0 gY176 (some .boolean) (gC E gDf gMs (d + 1)) (some (.int v), (gSh, sr, u)) G) (y1 : Int32) (y2 : Int32) (σ : gS) (hP : p_Face_drive_j31 E y1 y2 σ = some (v, sr)) : G (31, [none, none, none], [.int y2, .int y1, .ref 30], (gSh, σ, u)) := by
  unfold p_Face_drive_j31 at hP
  obtain ⟨s2, hq, hP⟩ := g_b1 hP
  refine hG.2.2.2.1 _ _ _ [.ref 30, .int y1, .int y2] [] _ (gSh, s2, u) none _ _ _ _ _ _ rfl rfl rfl rfl rfl rfl (c_Circuit_setInput E (d + 0) u y1 y2 _  hq) (Nat.le_refl _) (Nat.le_refl _) (Nat.le_refl _) (Nat.le_refl _) ?_
  show G (34, [none, none, none], [], (gSh, s2, u))
  refine gRunN_ok hG.1 1 _ (35, [none, none, none], [.int 1], (gSh, s2, u)) rfl ?_
  cases hP
  exact hG.2.1 _ _ rfl rfl
def p_Face_drive (E : gEv) (a0 : Int32) (a1 : Int32) (σ : gS) : Option (Int32 × gS) :=
  if a0 < 0 then (some (0, σ)) else (if a0 < (σ.1 30 12) then (if a1 = 0 then (p_Face_drive_j31 E a0 0 σ) else (p_Face_drive_j31 E a0 1 σ)) else (some (0, σ)))
set_option maxRecDepth 20000 in
theorem c_Face_drive (E : gEv) (d u : Nat) (a0 : Int32) (a1 : Int32) (σ : gS) {v : Int32} {sr : gS}  (hq : p_Face_drive E a0 a1 σ = some (v, sr)) : gC E gDf gMs (d + 2) 176 [.ref 0, .int a0, .int a1] (gSh, σ, u) (some (.int v), (gSh, sr, u)) := ⟨gM176, rfl, Nat.le_of_ble_eq_true rfl, fun G hG => by
  have hP := hq
  unfold p_Face_drive at hP
  replace hG : gClo E gDf gP0 gY176 (some .boolean) (gC E gDf gMs (d + 1)) (some (.int v), (gSh, sr, u)) G := hG
  show G (0, [some (.ref 0), some (.int a0), some (.int a1)], [], (gSh, σ, u))
  refine gRunN_ok hG.1 1 _ (1, [some (.ref 0), some (.int a0), some (.int a1)], [.int a0], (gSh, σ, u)) rfl ?_
  rcases g_ite hP with ⟨hc, hP⟩ | ⟨hc, hP⟩
  · refine hG.1 _ (15, [some (.ref 0), some (.int a0), some (.int a1)], [], (gSh, σ, u)) _ rfl (if_pos hc) ?_
    refine gRunN_ok hG.1 1 _ (16, [some (.ref 0), some (.int a0), some (.int a1)], [.int 0], (gSh, σ, u)) rfl ?_
    cases hP
    exact hG.2.1 _ _ rfl rfl
  · refine hG.1 _ (4, [some (.ref 0), some (.int a0), some (.int a1)], [], (gSh, σ, u)) _ rfl (if_neg hc) ?_
    refine gRunN_ok hG.1 4 _ (12, [some (.ref 0), some (.int a0), some (.int a1)], [.int (σ.1 30 12), .int a0], (gSh, σ, u)) rfl ?_
    rcases g_ite hP with ⟨hc, hP⟩ | ⟨hc, hP⟩
    · refine hG.1 _ (17, [some (.ref 0), some (.int a0), some (.int a1)], [], (gSh, σ, u)) _ rfl (if_pos hc) ?_
      refine gRunN_ok hG.1 4 _ (23, [some (.ref 0), some (.int a0), some (.int a1)], [.int a1, .int a0, .ref 30], (gSh, σ, u)) rfl ?_
      rcases g_ite hP with ⟨hc, hP⟩ | ⟨hc, hP⟩
      · refine hG.1 _ (30, [some (.ref 0), some (.int a0), some (.int a1)], [.int a0, .ref 30], (gSh, σ, u)) _ rfl (if_pos hc) ?_
        refine gRunN_ok hG.1 1 _ (31, [some (.ref 0), some (.int a0), some (.int a1)], [.int 0, .int a0, .ref 30], (gSh, σ, u)) rfl ?_
        refine hG.2.2.2.2.1 _ _ [none, none, none] _ _ trivial ?_
        exact j_Face_drive_j31 E d u hG a0 0 σ hP
      · refine hG.1 _ (26, [some (.ref 0), some (.int a0), some (.int a1)], [.int a0, .ref 30], (gSh, σ, u)) _ rfl (if_neg hc) ?_
        refine gRunN_ok hG.1 2 _ (31, [some (.ref 0), some (.int a0), some (.int a1)], [.int 1, .int a0, .ref 30], (gSh, σ, u)) rfl ?_
        refine hG.2.2.2.2.1 _ _ [none, none, none] _ _ trivial ?_
        exact j_Face_drive_j31 E d u hG a0 1 σ hP
    · refine hG.1 _ (15, [some (.ref 0), some (.int a0), some (.int a1)], [], (gSh, σ, u)) _ rfl (if_neg hc) ?_
      refine gRunN_ok hG.1 1 _ (16, [some (.ref 0), some (.int a0), some (.int a1)], [.int 0], (gSh, σ, u)) rfl ?_
      cases hP
      exact hG.2.1 _ _ rfl rfl⟩
def p_Circuit_refresh_27 (E : gEv) (l1 : Int32) (l2 : Int32) (l3 : Int32) (σ : gS) : Option ((Int32 × Int32) ⊕ (Int32)) :=
  if (4 : Int32) ≤ l3 then (some (.inr l2)) else (if gIn ((l1 * (4 : Int32)) + l3) (σ.2.1 35) then gLet (σ.1 35 ((l1 * (4 : Int32)) + l3).toNatClampNeg) fun x2 => if x2 = ((-1) : Int32) then (gLet (l3 + 1) fun x3 => some (.inl (l2, x3))) else (gB1 (p_Circuit_levelOf E x2 σ) fun v4 => gLet (l2 ||| (v4 <<< (l3 &&& 31))) fun x6 => gLet (l3 + 1) fun x7 => some (.inl (x6, x7))) else none)
set_option maxRecDepth 20000 in
theorem b_Circuit_refresh_27 (E : gEv) (d u : Nat) {G : gFr → Prop} {vo : Option Value} {sr : gS} (hG : gClo E gDf gP6 gY181 none (gC E gDf gMs (d + 1)) (vo, (gSh, sr, u)) G) (l1 : Int32) (l2 : Int32) (l3 : Int32) (σ : gS) {r : (Int32 × Int32) ⊕ (Int32)} (hP : p_Circuit_refresh_27 E l1 l2 l3 σ = some r) (K1 : ∀ (m2 : Int32) (m3 : Int32), r = .inl (m2, m3) → G (27, [some (.ref 30), some (.int l1), some (.int m2), some (.int m3), none], [], (gSh, σ, u))) (K2 : ∀ (m2 : Int32), r = .inr m2 → G (67, [some (.ref 30), some (.int l1), some (.int m2), none, none], [], (gSh, σ, u))) : G (27, [some (.ref 30), some (.int l1), some (.int l2), some (.int l3), none], [], (gSh, σ, u)) := by
  unfold p_Circuit_refresh_27 at hP
  refine gRunN_ok hG.1 2 _ (29, [some (.ref 30), some (.int l1), some (.int l2), some (.int l3), none], [.int 4, .int l3], (gSh, σ, u)) rfl ?_
  rcases g_ite hP with ⟨hc, hP⟩ | ⟨hc, hP⟩
  · refine hG.1 _ (67, [some (.ref 30), some (.int l1), some (.int l2), some (.int l3), none], [], (gSh, σ, u)) _ rfl (if_pos hc) ?_
    refine hG.2.2.2.2.1 _ _ [some (.ref 30), some (.int l1), some (.int l2), none, none] _ _ ⟨rfl, ⟨rfl, ⟨rfl, trivial⟩⟩⟩ ?_
    cases hP
    exact K2 _ rfl
  · refine hG.1 _ (32, [some (.ref 30), some (.int l1), some (.int l2), some (.int l3), none], [], (gSh, σ, u)) _ rfl (if_neg hc) ?_
    refine gRunN_ok hG.1 7 _ (41, [some (.ref 30), some (.int l1), some (.int l2), some (.int l3), none], [.int ((l1 * (4 : Int32)) + l3), .ref 35], (gSh, σ, u)) rfl ?_
    obtain ⟨hc, hP⟩ := g_if hP
    refine hG.1 _ (42, [some (.ref 30), some (.int l1), some (.int l2), some (.int l3), none], [.int (σ.1 35 ((l1 * (4 : Int32)) + l3).toNatClampNeg)], (gSh, σ, u)) _ rfl (if_pos hc) ?_
    refine gRunN_ok hG.1 1 _ (44, [some (.ref 30), some (.int l1), some (.int l2), some (.int l3), some (.int (σ.1 35 ((l1 * (4 : Int32)) + l3).toNatClampNeg))], [], (gSh, σ, u)) rfl ?_
    obtain ⟨x2, ex2, hP⟩ := g_let hP
    rw [← ex2]
    refine gRunN_ok hG.1 2 _ (47, [some (.ref 30), some (.int l1), some (.int l2), some (.int l3), some (.int x2)], [.int (-1), .int x2], (gSh, σ, u)) rfl ?_
    rcases g_ite hP with ⟨hc, hP⟩ | ⟨hc, hP⟩
    · refine hG.1 _ (61, [some (.ref 30), some (.int l1), some (.int l2), some (.int l3), some (.int x2)], [], (gSh, σ, u)) _ rfl (if_pos hc) ?_
      refine gRunN_ok hG.1 1 _ (64, [some (.ref 30), some (.int l1), some (.int l2), some (.int (l3 + 1)), some (.int x2)], [], (gSh, σ, u)) rfl ?_
      obtain ⟨x3, ex3, hP⟩ := g_let hP
      rw [← ex3]
      refine gRunN_ok hG.1 1 _ (27, [some (.ref 30), some (.int l1), some (.int l2), some (.int x3), some (.int x2)], [], (gSh, σ, u)) rfl ?_
      refine hG.2.2.2.2.1 _ _ [some (.ref 30), some (.int l1), some (.int l2), some (.int x3), none] _ _ ⟨rfl, ⟨rfl, ⟨rfl, ⟨rfl, trivial⟩⟩⟩⟩ ?_
      cases hP
      exact K1 _ _ rfl
    · refine hG.1 _ (50, [some (.ref 30), some (.int l1), some (.int l2), some (.int l3), some (.int x2)], [], (gSh, σ, u)) _ rfl (if_neg hc) ?_
      refine gRunN_ok hG.1 3 _ (54, [some (.ref 30), some (.int l1), some (.int l2), some (.int l3), some (.int x2)], [.int x2, .ref 30, .int l2], (gSh, σ, u)) rfl ?_
      obtain ⟨v4, hq, hP⟩ := g_b1 hP
      refine hG.2.2.2.1 _ _ _ [.ref 30, .int x2] [.int l2] _ (gSh, σ, u) (some (.int v4)) _ _ _ _ _ _ rfl rfl rfl rfl rfl rfl (c_Circuit_levelOf E (d + 0) u x2 _  hq) (Nat.le_refl _) (Nat.le_refl _) (Nat.le_refl _) (Nat.le_refl _) ?_
      show G (57, [some (.ref 30), some (.int l1), some (.int l2), some (.int l3), some (.int x2)], [.int v4, .int l2], (gSh, σ, u))
      refine gRunN_ok hG.1 4 _ (61, [some (.ref 30), some (.int l1), some (.int (l2 ||| (v4 <<< (l3 &&& 31)))), some (.int l3), some (.int x2)], [], (gSh, σ, u)) rfl ?_
      obtain ⟨x6, ex6, hP⟩ := g_let hP
      rw [← ex6]
      refine gRunN_ok hG.1 1 _ (64, [some (.ref 30), some (.int l1), some (.int x6), some (.int (l3 + 1)), some (.int x2)], [], (gSh, σ, u)) rfl ?_
      obtain ⟨x7, ex7, hP⟩ := g_let hP
      rw [← ex7]
      refine gRunN_ok hG.1 1 _ (27, [some (.ref 30), some (.int l1), some (.int x6), some (.int x7), some (.int x2)], [], (gSh, σ, u)) rfl ?_
      refine hG.2.2.2.2.1 _ _ [some (.ref 30), some (.int l1), some (.int x6), some (.int x7), none] _ _ ⟨rfl, ⟨rfl, ⟨rfl, ⟨rfl, trivial⟩⟩⟩⟩ ?_
      cases hP
      exact K1 _ _ rfl
theorem l_Circuit_refresh_27 (E : gEv) (d u : Nat) {G : gFr → Prop} {vo : Option Value} {sr : gS} (hG : gClo E gDf gP6 gY181 none (gC E gDf gMs (d + 1)) (vo, (gSh, sr, u)) G) (l1 : Int32) (σ : gS) : ∀ (n : Nat) (l2 : Int32) (l3 : Int32) (e : (Int32)), gIter (fun z => p_Circuit_refresh_27 E l1 z.1 z.2 σ) n (l2, l3) = some e → (∀ (m2 : Int32), e = m2 → G (67, [some (.ref 30), some (.int l1), some (.int m2), none, none], [], (gSh, σ, u))) → G (27, [some (.ref 30), some (.int l1), some (.int l2), some (.int l3), none], [], (gSh, σ, u)) := by
  intro n
  induction n with
  | zero => intro l2 l3 e h; cases h
  | succ n ih =>
    intro l2 l3 e h K2
    rcases g_iter h with ⟨z, h1, h2⟩ | h1
    · exact b_Circuit_refresh_27 E d u hG l1 l2 l3 σ h1 (fun n0 n1 hz => by cases hz; exact ih _ _ e h2 K2) (fun _ hz => by cases hz)
    · exact b_Circuit_refresh_27 E d u hG l1 l2 l3 σ h1 (fun _ _ hz => by cases hz) (fun m2 hz => K2 m2 (by cases hz; rfl))
def p_Circuit_refresh_15 (E : gEv) (l1 : Int32) (σ : gS) : Option ((Int32 × gS) ⊕ (gS)) :=
  if (σ.1 30 10) ≤ l1 then (some (.inr σ)) else (gB1 (gIter (fun z => p_Circuit_refresh_27 E l1 z.1 z.2 σ) gN (0, 0)) fun e8 => (fun w9 => if gIn l1 (σ.2.1 36) then if gIn l1 (σ.2.1 37) then gLet (gPut σ 37 l1.toNatClampNeg ((((σ.1 36 l1.toNatClampNeg).toUInt32 >>> (w9.toUInt32 &&& Int32.toUInt32 31)).toInt32) &&& (1 : Int32))) fun s10 => gLet (l1 + 1) fun x11 => some (.inl (x11, s10)) else none else none) e8)
set_option maxRecDepth 20000 in
theorem b_Circuit_refresh_15 (E : gEv) (d u : Nat) {G : gFr → Prop} {vo : Option Value} {sr : gS} (hG : gClo E gDf gP6 gY181 none (gC E gDf gMs (d + 1)) (vo, (gSh, sr, u)) G) (l1 : Int32) (σ : gS) {r : (Int32 × gS) ⊕ (gS)} (hP : p_Circuit_refresh_15 E l1 σ = some r) (K1 : ∀ (m1 : Int32) (σ1 : gS), r = .inl (m1, σ1) → G (15, [some (.ref 30), some (.int m1), none, none, none], [], (gSh, σ1, u))) (K2 : ∀ (σ1 : gS), r = .inr σ1 → G (89, [none, none, none, none, none], [], (gSh, σ1, u))) : G (15, [some (.ref 30), some (.int l1), none, none, none], [], (gSh, σ, u)) := by
  unfold p_Circuit_refresh_15 at hP
  refine gRunN_ok hG.1 3 _ (20, [some (.ref 30), some (.int l1), none, none, none], [.int (σ.1 30 10), .int l1], (gSh, σ, u)) rfl ?_
  rcases g_ite hP with ⟨hc, hP⟩ | ⟨hc, hP⟩
  · refine hG.1 _ (89, [some (.ref 30), some (.int l1), none, none, none], [], (gSh, σ, u)) _ rfl (if_pos hc) ?_
    refine hG.2.2.2.2.1 _ _ [none, none, none, none, none] _ _ trivial ?_
    cases hP
    exact K2 _ rfl
  · refine hG.1 _ (23, [some (.ref 30), some (.int l1), none, none, none], [], (gSh, σ, u)) _ rfl (if_neg hc) ?_
    refine gRunN_ok hG.1 4 _ (27, [some (.ref 30), some (.int l1), some (.int 0), some (.int 0), none], [], (gSh, σ, u)) rfl ?_
    obtain ⟨e8, hq, hP⟩ := g_b1 hP
    refine l_Circuit_refresh_27 E d u hG l1 σ gN 0 0 _ hq (fun w9 he => ?_)
    · replace he := he.symm
      subst he
      try dsimp only [gSum] at hP
      refine gRunN_ok hG.1 6 _ (77, [some (.ref 30), some (.int l1), some (.int w9), none, none], [.int l1, .ref 36, .int l1, .ref 37], (gSh, σ, u)) rfl ?_
      obtain ⟨hc, hP⟩ := g_if hP
      refine hG.1 _ (78, [some (.ref 30), some (.int l1), some (.int w9), none, none], [.int (σ.1 36 l1.toNatClampNeg), .int l1, .ref 37], (gSh, σ, u)) _ rfl (if_pos hc) ?_
      refine gRunN_ok hG.1 4 _ (82, [some (.ref 30), some (.int l1), some (.int w9), none, none], [.int ((((σ.1 36 l1.toNatClampNeg).toUInt32 >>> (w9.toUInt32 &&& Int32.toUInt32 31)).toInt32) &&& (1 : Int32)), .int l1, .ref 37], (gSh, σ, u)) rfl ?_
      obtain ⟨hc, hP⟩ := g_if hP
      refine hG.1 _ (83, [some (.ref 30), some (.int l1), some (.int w9), none, none], [], (gSh, (gPut σ 37 l1.toNatClampNeg ((((σ.1 36 l1.toNatClampNeg).toUInt32 >>> (w9.toUInt32 &&& Int32.toUInt32 31)).toInt32) &&& (1 : Int32))), u)) _ rfl (if_pos hc) ?_
      obtain ⟨s10, es10, hP⟩ := g_let hP
      rw [← es10]
      refine gRunN_ok hG.1 1 _ (86, [some (.ref 30), some (.int (l1 + 1)), some (.int w9), none, none], [], (gSh, s10, u)) rfl ?_
      obtain ⟨x11, ex11, hP⟩ := g_let hP
      rw [← ex11]
      refine gRunN_ok hG.1 1 _ (15, [some (.ref 30), some (.int x11), some (.int w9), none, none], [], (gSh, s10, u)) rfl ?_
      refine hG.2.2.2.2.1 _ _ [some (.ref 30), some (.int x11), none, none, none] _ _ ⟨rfl, ⟨rfl, trivial⟩⟩ ?_
      cases hP
      exact K1 _ _ rfl
theorem l_Circuit_refresh_15 (E : gEv) (d u : Nat) {G : gFr → Prop} {vo : Option Value} {sr : gS} (hG : gClo E gDf gP6 gY181 none (gC E gDf gMs (d + 1)) (vo, (gSh, sr, u)) G) : ∀ (n : Nat) (l1 : Int32) (σ : gS) (e : (gS)), gIter (fun z => p_Circuit_refresh_15 E z.1 z.2) n (l1, σ) = some e → (∀ (σ1 : gS), e = σ1 → G (89, [none, none, none, none, none], [], (gSh, σ1, u))) → G (15, [some (.ref 30), some (.int l1), none, none, none], [], (gSh, σ, u)) := by
  intro n
  induction n with
  | zero => intro l1 σ e h; cases h
  | succ n ih =>
    intro l1 σ e h K2
    rcases g_iter h with ⟨z, h1, h2⟩ | h1
    · exact b_Circuit_refresh_15 E d u hG l1 σ h1 (fun n0 n1 hz => by cases hz; exact ih _ _ e h2 K2) (fun _ hz => by cases hz)
    · exact b_Circuit_refresh_15 E d u hG l1 σ h1 (fun _ _ hz => by cases hz) (fun σ1 hz => K2 σ1 (by cases hz; rfl))
def p_Circuit_refresh (E : gEv) (σ : gS) : Option (gS) :=
  if (σ.1 30 15) = 0 then (gLet (gPut σ 30 15 1) fun s1 => gB1 (gIter (fun z => p_Circuit_refresh_15 E z.1 z.2) gN (0, s1)) fun e12 => (fun s13 => some s13) e12) else (some σ)
set_option maxRecDepth 20000 in
theorem c_Circuit_refresh (E : gEv) (d u : Nat) (σ : gS) {sr : gS}  (hq : p_Circuit_refresh E σ = some sr) : gC E gDf gMs (d + 2) 181 [.ref 30] (gSh, σ, u) (none, (gSh, sr, u)) := ⟨gM181, rfl, Nat.le_of_ble_eq_true rfl, fun G hG => by
  have hP := hq
  unfold p_Circuit_refresh at hP
  replace hG : gClo E gDf gP6 gY181 none (gC E gDf gMs (d + 1)) (none, (gSh, sr, u)) G := hG
  show G (0, [some (.ref 30), none, none, none, none], [], (gSh, σ, u))
  refine gRunN_ok hG.1 2 _ (4, [some (.ref 30), none, none, none, none], [.int (σ.1 30 15)], (gSh, σ, u)) rfl ?_
  rcases g_ite hP with ⟨hc, hP⟩ | ⟨hc, hP⟩
  · refine hG.1 _ (8, [some (.ref 30), none, none, none, none], [], (gSh, σ, u)) _ rfl (if_pos hc) ?_
    refine gRunN_ok hG.1 3 _ (13, [some (.ref 30), none, none, none, none], [], (gSh, (gPut σ 30 15 1), u)) rfl ?_
    obtain ⟨s1, es1, hP⟩ := g_let hP
    rw [← es1]
    refine gRunN_ok hG.1 2 _ (15, [some (.ref 30), some (.int 0), none, none, none], [], (gSh, s1, u)) rfl ?_
    obtain ⟨e12, hq, hP⟩ := g_b1 hP
    refine l_Circuit_refresh_15 E d u hG gN 0 s1 _ hq (fun s13 he => ?_)
    · replace he := he.symm
      subst he
      try dsimp only [gSum] at hP
      cases hP
      exact hG.2.1 _ _ rfl rfl
  · refine hG.1 _ (7, [some (.ref 30), none, none, none, none], [], (gSh, σ, u)) _ rfl (if_neg hc) ?_
    cases hP
    exact hG.2.1 _ _ rfl rfl⟩
def p_Model_cornerWire (E : gEv) (a0 : Int32) (a1 : Int32) (a2 : Int32) (a3 : Int32) (σ : gS) : Option (Int32) :=
  if a2 = 0 then (if a0 ≤ 0 then (some (-1)) else (gB1 (p_Model_flatWire E (a0 - (1 : Int32)) a1 a3 σ) fun v1 => some v1)) else if a2 = 1 then (if (σ.1 94 0) ≤ a0 then (some (-1)) else (gB1 (p_Model_flatWire E a0 a1 a3 σ) fun v3 => some v3)) else if a2 = 2 then (if a1 ≤ 0 then (some (-1)) else (gB1 (p_Model_uprightWire E a0 (a1 - (1 : Int32)) a3 σ) fun v5 => some v5)) else (if (σ.1 94 1) ≤ a1 then (some (-1)) else (gB1 (p_Model_uprightWire E a0 a1 a3 σ) fun v7 => some v7))
set_option maxRecDepth 20000 in
theorem c_Model_cornerWire (E : gEv) (d u : Nat) (a0 : Int32) (a1 : Int32) (a2 : Int32) (a3 : Int32) (σ : gS) {v : Int32}  (hq : p_Model_cornerWire E a0 a1 a2 a3 σ = some v) : gC E gDf gMs (d + 2) 189 [.ref 94, .int a0, .int a1, .int a2, .int a3] (gSh, σ, u) (some (.int v), (gSh, σ, u)) := ⟨gM189, rfl, Nat.le_of_ble_eq_true rfl, fun G hG => by
  have hP := hq
  unfold p_Model_cornerWire at hP
  replace hG : gClo E gDf gP18 gY189 (some .int) (gC E gDf gMs (d + 1)) (some (.int v), (gSh, σ, u)) G := hG
  show G (0, [some (.ref 94), some (.int a0), some (.int a1), some (.int a2), some (.int a3)], [], (gSh, σ, u))
  refine gRunN_ok hG.1 1 _ (1, [some (.ref 94), some (.int a0), some (.int a1), some (.int a2), some (.int a3)], [.int a2], (gSh, σ, u)) rfl ?_
  rcases g_ite hP with ⟨hc0, hP⟩ | ⟨hc0, hP⟩
  · refine hG.1 _ (28, [some (.ref 94), some (.int a0), some (.int a1), some (.int a2), some (.int a3)], [], (gSh, σ, u)) _ rfl (if_pos hc0) ?_
    refine gRunN_ok hG.1 1 _ (29, [some (.ref 94), some (.int a0), some (.int a1), some (.int a2), some (.int a3)], [.int a0], (gSh, σ, u)) rfl ?_
    rcases g_ite hP with ⟨hc, hP⟩ | ⟨hc, hP⟩
    · refine hG.1 _ (45, [some (.ref 94), some (.int a0), some (.int a1), some (.int a2), some (.int a3)], [], (gSh, σ, u)) _ rfl (if_pos hc) ?_
      refine gRunN_ok hG.1 1 _ (46, [some (.ref 94), some (.int a0), some (.int a1), some (.int a2), some (.int a3)], [.int (-1)], (gSh, σ, u)) rfl ?_
      cases hP
      exact hG.2.1 _ _ rfl rfl
    · refine hG.1 _ (32, [some (.ref 94), some (.int a0), some (.int a1), some (.int a2), some (.int a3)], [], (gSh, σ, u)) _ rfl (if_neg hc) ?_
      refine gRunN_ok hG.1 6 _ (39, [some (.ref 94), some (.int a0), some (.int a1), some (.int a2), some (.int a3)], [.int a3, .int a1, .int (a0 - (1 : Int32)), .ref 94], (gSh, σ, u)) rfl ?_
      obtain ⟨v1, hq, hP⟩ := g_b1 hP
      refine hG.2.2.2.1 _ _ _ [.ref 94, .int (a0 - (1 : Int32)), .int a1, .int a3] [] _ (gSh, σ, u) (some (.int v1)) _ _ _ _ _ _ rfl rfl rfl rfl rfl rfl (c_Model_flatWire E (d + 0) u (a0 - (1 : Int32)) a1 a3 _  hq) (Nat.le_refl _) (Nat.le_refl _) (Nat.le_refl _) (Nat.le_refl _) ?_
      show G (42, [some (.ref 94), some (.int a0), some (.int a1), some (.int a2), some (.int a3)], [.int v1], (gSh, σ, u))
      refine gRunN_ok hG.1 1 _ (46, [some (.ref 94), some (.int a0), some (.int a1), some (.int a2), some (.int a3)], [.int v1], (gSh, σ, u)) rfl ?_
      cases hP
      exact hG.2.1 _ _ rfl rfl
  rcases g_ite hP with ⟨hc1, hP⟩ | ⟨hc1, hP⟩
  · refine hG.1 _ (47, [some (.ref 94), some (.int a0), some (.int a1), some (.int a2), some (.int a3)], [], (gSh, σ, u)) _ rfl ((if_neg hc0).trans (if_pos hc1)) ?_
    refine gRunN_ok hG.1 3 _ (52, [some (.ref 94), some (.int a0), some (.int a1), some (.int a2), some (.int a3)], [.int (σ.1 94 0), .int a0], (gSh, σ, u)) rfl ?_
    rcases g_ite hP with ⟨hc, hP⟩ | ⟨hc, hP⟩
    · refine hG.1 _ (66, [some (.ref 94), some (.int a0), some (.int a1), some (.int a2), some (.int a3)], [], (gSh, σ, u)) _ rfl (if_pos hc) ?_
      refine gRunN_ok hG.1 1 _ (67, [some (.ref 94), some (.int a0), some (.int a1), some (.int a2), some (.int a3)], [.int (-1)], (gSh, σ, u)) rfl ?_
      cases hP
      exact hG.2.1 _ _ rfl rfl
    · refine hG.1 _ (55, [some (.ref 94), some (.int a0), some (.int a1), some (.int a2), some (.int a3)], [], (gSh, σ, u)) _ rfl (if_neg hc) ?_
      refine gRunN_ok hG.1 4 _ (60, [some (.ref 94), some (.int a0), some (.int a1), some (.int a2), some (.int a3)], [.int a3, .int a1, .int a0, .ref 94], (gSh, σ, u)) rfl ?_
      obtain ⟨v3, hq, hP⟩ := g_b1 hP
      refine hG.2.2.2.1 _ _ _ [.ref 94, .int a0, .int a1, .int a3] [] _ (gSh, σ, u) (some (.int v3)) _ _ _ _ _ _ rfl rfl rfl rfl rfl rfl (c_Model_flatWire E (d + 0) u a0 a1 a3 _  hq) (Nat.le_refl _) (Nat.le_refl _) (Nat.le_refl _) (Nat.le_refl _) ?_
      show G (63, [some (.ref 94), some (.int a0), some (.int a1), some (.int a2), some (.int a3)], [.int v3], (gSh, σ, u))
      refine gRunN_ok hG.1 1 _ (67, [some (.ref 94), some (.int a0), some (.int a1), some (.int a2), some (.int a3)], [.int v3], (gSh, σ, u)) rfl ?_
      cases hP
      exact hG.2.1 _ _ rfl rfl
  rcases g_ite hP with ⟨hc2, hP⟩ | ⟨hc2, hP⟩
  · refine hG.1 _ (68, [some (.ref 94), some (.int a0), some (.int a1), some (.int a2), some (.int a3)], [], (gSh, σ, u)) _ rfl ((if_neg hc0).trans ((if_neg hc1).trans (if_pos hc2))) ?_
    refine gRunN_ok hG.1 1 _ (69, [some (.ref 94), some (.int a0), some (.int a1), some (.int a2), some (.int a3)], [.int a1], (gSh, σ, u)) rfl ?_
    rcases g_ite hP with ⟨hc, hP⟩ | ⟨hc, hP⟩
    · refine hG.1 _ (85, [some (.ref 94), some (.int a0), some (.int a1), some (.int a2), some (.int a3)], [], (gSh, σ, u)) _ rfl (if_pos hc) ?_
      refine gRunN_ok hG.1 1 _ (86, [some (.ref 94), some (.int a0), some (.int a1), some (.int a2), some (.int a3)], [.int (-1)], (gSh, σ, u)) rfl ?_
      cases hP
      exact hG.2.1 _ _ rfl rfl
    · refine hG.1 _ (72, [some (.ref 94), some (.int a0), some (.int a1), some (.int a2), some (.int a3)], [], (gSh, σ, u)) _ rfl (if_neg hc) ?_
      refine gRunN_ok hG.1 6 _ (79, [some (.ref 94), some (.int a0), some (.int a1), some (.int a2), some (.int a3)], [.int a3, .int (a1 - (1 : Int32)), .int a0, .ref 94], (gSh, σ, u)) rfl ?_
      obtain ⟨v5, hq, hP⟩ := g_b1 hP
      refine hG.2.2.2.1 _ _ _ [.ref 94, .int a0, .int (a1 - (1 : Int32)), .int a3] [] _ (gSh, σ, u) (some (.int v5)) _ _ _ _ _ _ rfl rfl rfl rfl rfl rfl (c_Model_uprightWire E (d + 0) u a0 (a1 - (1 : Int32)) a3 _  hq) (Nat.le_refl _) (Nat.le_refl _) (Nat.le_refl _) (Nat.le_refl _) ?_
      show G (82, [some (.ref 94), some (.int a0), some (.int a1), some (.int a2), some (.int a3)], [.int v5], (gSh, σ, u))
      refine gRunN_ok hG.1 1 _ (86, [some (.ref 94), some (.int a0), some (.int a1), some (.int a2), some (.int a3)], [.int v5], (gSh, σ, u)) rfl ?_
      cases hP
      exact hG.2.1 _ _ rfl rfl
  · refine hG.1 _ (87, [some (.ref 94), some (.int a0), some (.int a1), some (.int a2), some (.int a3)], [], (gSh, σ, u)) _ rfl ((if_neg hc0).trans ((if_neg hc1).trans ((if_neg hc2).trans rfl))) ?_
    refine gRunN_ok hG.1 3 _ (92, [some (.ref 94), some (.int a0), some (.int a1), some (.int a2), some (.int a3)], [.int (σ.1 94 1), .int a1], (gSh, σ, u)) rfl ?_
    rcases g_ite hP with ⟨hc, hP⟩ | ⟨hc, hP⟩
    · refine hG.1 _ (106, [some (.ref 94), some (.int a0), some (.int a1), some (.int a2), some (.int a3)], [], (gSh, σ, u)) _ rfl (if_pos hc) ?_
      refine gRunN_ok hG.1 1 _ (107, [some (.ref 94), some (.int a0), some (.int a1), some (.int a2), some (.int a3)], [.int (-1)], (gSh, σ, u)) rfl ?_
      cases hP
      exact hG.2.1 _ _ rfl rfl
    · refine hG.1 _ (95, [some (.ref 94), some (.int a0), some (.int a1), some (.int a2), some (.int a3)], [], (gSh, σ, u)) _ rfl (if_neg hc) ?_
      refine gRunN_ok hG.1 4 _ (100, [some (.ref 94), some (.int a0), some (.int a1), some (.int a2), some (.int a3)], [.int a3, .int a1, .int a0, .ref 94], (gSh, σ, u)) rfl ?_
      obtain ⟨v7, hq, hP⟩ := g_b1 hP
      refine hG.2.2.2.1 _ _ _ [.ref 94, .int a0, .int a1, .int a3] [] _ (gSh, σ, u) (some (.int v7)) _ _ _ _ _ _ rfl rfl rfl rfl rfl rfl (c_Model_uprightWire E (d + 0) u a0 a1 a3 _  hq) (Nat.le_refl _) (Nat.le_refl _) (Nat.le_refl _) (Nat.le_refl _) ?_
      show G (103, [some (.ref 94), some (.int a0), some (.int a1), some (.int a2), some (.int a3)], [.int v7], (gSh, σ, u))
      refine gRunN_ok hG.1 1 _ (107, [some (.ref 94), some (.int a0), some (.int a1), some (.int a2), some (.int a3)], [.int v7], (gSh, σ, u)) rfl ?_
      cases hP
      exact hG.2.1 _ _ rfl rfl⟩
def p_Model_feed (E : gEv) (a0 : Int32) (a1 : Int32) (a2 : Int32) (a3 : Int32) (a4 : Int32) (σ : gS) : Option (gS) :=
  gB1 (p_Model_word E 0 a0 σ) fun s2 => gB1 (p_Model_word E 4 a1 s2) fun s4 => gB1 (p_Model_word E 8 a2 s4) fun s6 => gB1 (p_Model_word E 12 a3 s6) fun s8 => gB1 (p_Model_word E 16 a4 s8) fun s10 => some s10
set_option maxRecDepth 20000 in
theorem c_Model_feed (E : gEv) (d u : Nat) (a0 : Int32) (a1 : Int32) (a2 : Int32) (a3 : Int32) (a4 : Int32) (σ : gS) {sr : gS}  (hq : p_Model_feed E a0 a1 a2 a3 a4 σ = some sr) : gC E gDf gMs (d + 2) 193 [.ref 94, .int a0, .int a1, .int a2, .int a3, .int a4] (gSh, σ, u) (none, (gSh, sr, u)) := ⟨gM193, rfl, Nat.le_of_ble_eq_true rfl, fun G hG => by
  have hP := hq
  unfold p_Model_feed at hP
  replace hG : gClo E gDf gP18 gY193 none (gC E gDf gMs (d + 1)) (none, (gSh, sr, u)) G := hG
  show G (0, [some (.ref 94), some (.int a0), some (.int a1), some (.int a2), some (.int a3), some (.int a4)], [], (gSh, σ, u))
  refine gRunN_ok hG.1 3 _ (3, [some (.ref 94), some (.int a0), some (.int a1), some (.int a2), some (.int a3), some (.int a4)], [.int a0, .int 0, .ref 94], (gSh, σ, u)) rfl ?_
  obtain ⟨s2, hq, hP⟩ := g_b1 hP
  refine hG.2.2.2.1 _ _ _ [.ref 94, .int 0, .int a0] [] _ (gSh, s2, u) none _ _ _ _ _ _ rfl rfl rfl rfl rfl rfl (c_Model_word E (d + 0) u 0 a0 _  hq) (Nat.le_refl _) (Nat.le_refl _) (Nat.le_refl _) (Nat.le_refl _) ?_
  show G (6, [some (.ref 94), some (.int a0), some (.int a1), some (.int a2), some (.int a3), some (.int a4)], [], (gSh, s2, u))
  refine gRunN_ok hG.1 3 _ (9, [some (.ref 94), some (.int a0), some (.int a1), some (.int a2), some (.int a3), some (.int a4)], [.int a1, .int 4, .ref 94], (gSh, s2, u)) rfl ?_
  obtain ⟨s4, hq, hP⟩ := g_b1 hP
  refine hG.2.2.2.1 _ _ _ [.ref 94, .int 4, .int a1] [] _ (gSh, s4, u) none _ _ _ _ _ _ rfl rfl rfl rfl rfl rfl (c_Model_word E (d + 0) u 4 a1 _  hq) (Nat.le_refl _) (Nat.le_refl _) (Nat.le_refl _) (Nat.le_refl _) ?_
  show G (12, [some (.ref 94), some (.int a0), some (.int a1), some (.int a2), some (.int a3), some (.int a4)], [], (gSh, s4, u))
  refine gRunN_ok hG.1 3 _ (16, [some (.ref 94), some (.int a0), some (.int a1), some (.int a2), some (.int a3), some (.int a4)], [.int a2, .int 8, .ref 94], (gSh, s4, u)) rfl ?_
  obtain ⟨s6, hq, hP⟩ := g_b1 hP
  refine hG.2.2.2.1 _ _ _ [.ref 94, .int 8, .int a2] [] _ (gSh, s6, u) none _ _ _ _ _ _ rfl rfl rfl rfl rfl rfl (c_Model_word E (d + 0) u 8 a2 _  hq) (Nat.le_refl _) (Nat.le_refl _) (Nat.le_refl _) (Nat.le_refl _) ?_
  show G (19, [some (.ref 94), some (.int a0), some (.int a1), some (.int a2), some (.int a3), some (.int a4)], [], (gSh, s6, u))
  refine gRunN_ok hG.1 3 _ (24, [some (.ref 94), some (.int a0), some (.int a1), some (.int a2), some (.int a3), some (.int a4)], [.int a3, .int 12, .ref 94], (gSh, s6, u)) rfl ?_
  obtain ⟨s8, hq, hP⟩ := g_b1 hP
  refine hG.2.2.2.1 _ _ _ [.ref 94, .int 12, .int a3] [] _ (gSh, s8, u) none _ _ _ _ _ _ rfl rfl rfl rfl rfl rfl (c_Model_word E (d + 0) u 12 a3 _  hq) (Nat.le_refl _) (Nat.le_refl _) (Nat.le_refl _) (Nat.le_refl _) ?_
  show G (27, [some (.ref 94), some (.int a0), some (.int a1), some (.int a2), some (.int a3), some (.int a4)], [], (gSh, s8, u))
  refine gRunN_ok hG.1 3 _ (32, [some (.ref 94), some (.int a0), some (.int a1), some (.int a2), some (.int a3), some (.int a4)], [.int a4, .int 16, .ref 94], (gSh, s8, u)) rfl ?_
  obtain ⟨s10, hq, hP⟩ := g_b1 hP
  refine hG.2.2.2.1 _ _ _ [.ref 94, .int 16, .int a4] [] _ (gSh, s10, u) none _ _ _ _ _ _ rfl rfl rfl rfl rfl rfl (c_Model_word E (d + 0) u 16 a4 _  hq) (Nat.le_refl _) (Nat.le_refl _) (Nat.le_refl _) (Nat.le_refl _) ?_
  show G (35, [some (.ref 94), some (.int a0), some (.int a1), some (.int a2), some (.int a3), some (.int a4)], [], (gSh, s10, u))
  cases hP
  exact hG.2.1 _ _ rfl rfl⟩
def p_Model_name_99 (E : gEv) (l2 : Int32) (l3 : Int32) (l4 : Int32) (l5 : Int32) (l6 : Int32) (σ : gS) : Option ((Int32 × Int32) ⊕ (Int32)) :=
  if l5 = 0 then (some (.inr l5)) else (if l3 ≤ l6 then (some (.inr l5)) else (if gIn l4 (σ.2.1 99) then if gIn ((σ.1 99 l4.toNatClampNeg) + l6) (σ.2.1 96) then if gIn (l2 + l6) (σ.2.1 96) then if (σ.1 96 ((σ.1 99 l4.toNatClampNeg) + l6).toNatClampNeg) = (σ.1 96 (l2 + l6).toNatClampNeg) then (gLet (l6 + 1) fun x5 => some (.inl (1, x5))) else (gLet (l6 + 1) fun x6 => some (.inl (0, x6))) else none else none else none))
set_option maxRecDepth 20000 in
theorem b_Model_name_99 (E : gEv) (d u : Nat) {G : gFr → Prop} {vo : Option Value} {sr : gS} (hG : gClo E gDf gP18 gY203 (some .int) (gC E gDf gMs (d + 1)) (vo, (gSh, sr, u)) G) (l2 : Int32) (l3 : Int32) (l4 : Int32) (l5 : Int32) (l6 : Int32) (σ : gS) {r : (Int32 × Int32) ⊕ (Int32)} (hP : p_Model_name_99 E l2 l3 l4 l5 l6 σ = some r) (K1 : ∀ (m5 : Int32) (m6 : Int32), r = .inl (m5, m6) → G (99, [some (.ref 94), none, some (.int l2), some (.int l3), some (.int l4), some (.int m5), some (.int m6)], [], (gSh, σ, u))) (K2 : ∀ (m5 : Int32), r = .inr m5 → G (150, [some (.ref 94), none, some (.int l2), some (.int l3), some (.int l4), some (.int m5), none], [], (gSh, σ, u))) : G (99, [some (.ref 94), none, some (.int l2), some (.int l3), some (.int l4), some (.int l5), some (.int l6)], [], (gSh, σ, u)) := by
  unfold p_Model_name_99 at hP
  refine gRunN_ok hG.1 1 _ (101, [some (.ref 94), none, some (.int l2), some (.int l3), some (.int l4), some (.int l5), some (.int l6)], [.int l5], (gSh, σ, u)) rfl ?_
  rcases g_ite hP with ⟨hc, hP⟩ | ⟨hc, hP⟩
  · refine hG.1 _ (150, [some (.ref 94), none, some (.int l2), some (.int l3), some (.int l4), some (.int l5), some (.int l6)], [], (gSh, σ, u)) _ rfl (if_pos hc) ?_
    refine hG.2.2.2.2.1 _ _ [some (.ref 94), none, some (.int l2), some (.int l3), some (.int l4), some (.int l5), none] _ _ ⟨rfl, ⟨rfl, ⟨rfl, ⟨rfl, ⟨rfl, trivial⟩⟩⟩⟩⟩ ?_
    cases hP
    exact K2 _ rfl
  · refine hG.1 _ (104, [some (.ref 94), none, some (.int l2), some (.int l3), some (.int l4), some (.int l5), some (.int l6)], [], (gSh, σ, u)) _ rfl (if_neg hc) ?_
    refine gRunN_ok hG.1 2 _ (107, [some (.ref 94), none, some (.int l2), some (.int l3), some (.int l4), some (.int l5), some (.int l6)], [.int l3, .int l6], (gSh, σ, u)) rfl ?_
    rcases g_ite hP with ⟨hc, hP⟩ | ⟨hc, hP⟩
    · refine hG.1 _ (150, [some (.ref 94), none, some (.int l2), some (.int l3), some (.int l4), some (.int l5), some (.int l6)], [], (gSh, σ, u)) _ rfl (if_pos hc) ?_
      refine hG.2.2.2.2.1 _ _ [some (.ref 94), none, some (.int l2), some (.int l3), some (.int l4), some (.int l5), none] _ _ ⟨rfl, ⟨rfl, ⟨rfl, ⟨rfl, ⟨rfl, trivial⟩⟩⟩⟩⟩ ?_
      cases hP
      exact K2 _ rfl
    · refine hG.1 _ (110, [some (.ref 94), none, some (.int l2), some (.int l3), some (.int l4), some (.int l5), some (.int l6)], [], (gSh, σ, u)) _ rfl (if_neg hc) ?_
      refine gRunN_ok hG.1 5 _ (120, [some (.ref 94), none, some (.int l2), some (.int l3), some (.int l4), some (.int l5), some (.int l6)], [.int l4, .ref 99, .ref 96], (gSh, σ, u)) rfl ?_
      obtain ⟨hc, hP⟩ := g_if hP
      refine hG.1 _ (121, [some (.ref 94), none, some (.int l2), some (.int l3), some (.int l4), some (.int l5), some (.int l6)], [.int (σ.1 99 l4.toNatClampNeg), .ref 96], (gSh, σ, u)) _ rfl (if_pos hc) ?_
      refine gRunN_ok hG.1 2 _ (124, [some (.ref 94), none, some (.int l2), some (.int l3), some (.int l4), some (.int l5), some (.int l6)], [.int ((σ.1 99 l4.toNatClampNeg) + l6), .ref 96], (gSh, σ, u)) rfl ?_
      obtain ⟨hc, hP⟩ := g_if hP
      refine hG.1 _ (125, [some (.ref 94), none, some (.int l2), some (.int l3), some (.int l4), some (.int l5), some (.int l6)], [.int (σ.1 96 ((σ.1 99 l4.toNatClampNeg) + l6).toNatClampNeg)], (gSh, σ, u)) _ rfl (if_pos hc) ?_
      refine gRunN_ok hG.1 5 _ (133, [some (.ref 94), none, some (.int l2), some (.int l3), some (.int l4), some (.int l5), some (.int l6)], [.int (l2 + l6), .ref 96, .int (σ.1 96 ((σ.1 99 l4.toNatClampNeg) + l6).toNatClampNeg)], (gSh, σ, u)) rfl ?_
      obtain ⟨hc, hP⟩ := g_if hP
      refine hG.1 _ (134, [some (.ref 94), none, some (.int l2), some (.int l3), some (.int l4), some (.int l5), some (.int l6)], [.int (σ.1 96 (l2 + l6).toNatClampNeg), .int (σ.1 96 ((σ.1 99 l4.toNatClampNeg) + l6).toNatClampNeg)], (gSh, σ, u)) _ rfl (if_pos hc) ?_
      rcases g_ite hP with ⟨hc, hP⟩ | ⟨hc, hP⟩
      · refine hG.1 _ (137, [some (.ref 94), none, some (.int l2), some (.int l3), some (.int l4), some (.int l5), some (.int l6)], [], (gSh, σ, u)) _ rfl (if_pos hc) ?_
        refine gRunN_ok hG.1 4 _ (147, [some (.ref 94), none, some (.int l2), some (.int l3), some (.int l4), some (.int 1), some (.int (l6 + 1))], [], (gSh, σ, u)) rfl ?_
        obtain ⟨x5, ex5, hP⟩ := g_let hP
        rw [← ex5]
        refine gRunN_ok hG.1 1 _ (99, [some (.ref 94), none, some (.int l2), some (.int l3), some (.int l4), some (.int 1), some (.int x5)], [], (gSh, σ, u)) rfl ?_
        cases hP
        exact K1 _ _ rfl
      · refine hG.1 _ (141, [some (.ref 94), none, some (.int l2), some (.int l3), some (.int l4), some (.int l5), some (.int l6)], [], (gSh, σ, u)) _ rfl (if_neg hc) ?_
        refine gRunN_ok hG.1 3 _ (147, [some (.ref 94), none, some (.int l2), some (.int l3), some (.int l4), some (.int 0), some (.int (l6 + 1))], [], (gSh, σ, u)) rfl ?_
        obtain ⟨x6, ex6, hP⟩ := g_let hP
        rw [← ex6]
        refine gRunN_ok hG.1 1 _ (99, [some (.ref 94), none, some (.int l2), some (.int l3), some (.int l4), some (.int 0), some (.int x6)], [], (gSh, σ, u)) rfl ?_
        cases hP
        exact K1 _ _ rfl
theorem l_Model_name_99 (E : gEv) (d u : Nat) {G : gFr → Prop} {vo : Option Value} {sr : gS} (hG : gClo E gDf gP18 gY203 (some .int) (gC E gDf gMs (d + 1)) (vo, (gSh, sr, u)) G) (l2 : Int32) (l3 : Int32) (l4 : Int32) (σ : gS) : ∀ (n : Nat) (l5 : Int32) (l6 : Int32) (e : (Int32)), gIter (fun z => p_Model_name_99 E l2 l3 l4 z.1 z.2 σ) n (l5, l6) = some e → (∀ (m5 : Int32), e = m5 → G (150, [some (.ref 94), none, some (.int l2), some (.int l3), some (.int l4), some (.int m5), none], [], (gSh, σ, u))) → G (99, [some (.ref 94), none, some (.int l2), some (.int l3), some (.int l4), some (.int l5), some (.int l6)], [], (gSh, σ, u)) := by
  intro n
  induction n with
  | zero => intro l5 l6 e h; cases h
  | succ n ih =>
    intro l5 l6 e h K2
    rcases g_iter h with ⟨z, h1, h2⟩ | h1
    · exact b_Model_name_99 E d u hG l2 l3 l4 l5 l6 σ h1 (fun n0 n1 hz => by cases hz; exact ih _ _ e h2 K2) (fun _ hz => by cases hz)
    · exact b_Model_name_99 E d u hG l2 l3 l4 l5 l6 σ h1 (fun _ _ hz => by cases hz) (fun m5 hz => K2 m5 (by cases hz; rfl))
def p_Model_name_j150_69 (E : gEv) (l2 : Int32) (l3 : Int32) (l4 : Int32) (l5 : Int32) (σ : gS) : Option ((Int32) ⊕ ((Int32) ⊕ (Unit))) :=
  if l5 = 0 then (gLet (l4 + 1) fun x9 => some (.inl x9)) else (some (.inr (.inl l4)))
set_option maxRecDepth 20000 in
theorem j_Model_name_j150_69 (E : gEv) (d u : Nat) {G : gFr → Prop} {vo : Option Value} {sr : gS} (hG : gClo E gDf gP18 gY203 (some .int) (gC E gDf gMs (d + 1)) (vo, (gSh, sr, u)) G) (l2 : Int32) (l3 : Int32) (l4 : Int32) (l5 : Int32) (σ : gS) {r : (Int32) ⊕ ((Int32) ⊕ (Unit))} (hP : p_Model_name_j150_69 E l2 l3 l4 l5 σ = some r) (K1 : ∀ (m4 : Int32), r = .inl m4 → G (69, [some (.ref 94), none, some (.int l2), some (.int l3), some (.int m4), none, none], [], (gSh, σ, u))) (K2 : ∀ (m4 : Int32), r = .inr (.inl m4) → G (155, [none, none, none, none, some (.int m4), none, none], [], (gSh, σ, u))) (K3 : r = .inr (.inr ()) → G (164, [some (.ref 94), none, some (.int l2), some (.int l3), none, none, none], [], (gSh, σ, u))) : G (150, [some (.ref 94), none, some (.int l2), some (.int l3), some (.int l4), some (.int l5), none], [], (gSh, σ, u)) := by
  unfold p_Model_name_j150_69 at hP
  refine gRunN_ok hG.1 1 _ (152, [some (.ref 94), none, some (.int l2), some (.int l3), some (.int l4), some (.int l5), none], [.int l5], (gSh, σ, u)) rfl ?_
  rcases g_ite hP with ⟨hc, hP⟩ | ⟨hc, hP⟩
  · refine hG.1 _ (158, [some (.ref 94), none, some (.int l2), some (.int l3), some (.int l4), some (.int l5), none], [], (gSh, σ, u)) _ rfl (if_pos hc) ?_
    refine gRunN_ok hG.1 1 _ (161, [some (.ref 94), none, some (.int l2), some (.int l3), some (.int (l4 + 1)), some (.int l5), none], [], (gSh, σ, u)) rfl ?_
    obtain ⟨x9, ex9, hP⟩ := g_let hP
    rw [← ex9]
    refine gRunN_ok hG.1 1 _ (69, [some (.ref 94), none, some (.int l2), some (.int l3), some (.int x9), some (.int l5), none], [], (gSh, σ, u)) rfl ?_
    refine hG.2.2.2.2.1 _ _ [some (.ref 94), none, some (.int l2), some (.int l3), some (.int x9), none, none] _ _ ⟨rfl, ⟨rfl, ⟨rfl, ⟨rfl, trivial⟩⟩⟩⟩ ?_
    cases hP
    exact K1 _ rfl
  · refine hG.1 _ (155, [some (.ref 94), none, some (.int l2), some (.int l3), some (.int l4), some (.int l5), none], [], (gSh, σ, u)) _ rfl (if_neg hc) ?_
    refine hG.2.2.2.2.1 _ _ [none, none, none, none, some (.int l4), none, none] _ _ ⟨rfl, trivial⟩ ?_
    cases hP
    exact K2 _ rfl
def p_Model_name_j94_69 (E : gEv) (l2 : Int32) (l3 : Int32) (l4 : Int32) (y0 : Int32) (σ : gS) : Option ((Int32) ⊕ ((Int32) ⊕ (Unit))) :=
  gB1 (gIter (fun z => p_Model_name_99 E l2 l3 l4 z.1 z.2 σ) gN (y0, 0)) fun e7 => (fun w8 => p_Model_name_j150_69 E l2 l3 l4 w8 σ) e7
set_option maxRecDepth 20000 in
theorem j_Model_name_j94_69 (E : gEv) (d u : Nat) {G : gFr → Prop} {vo : Option Value} {sr : gS} (hG : gClo E gDf gP18 gY203 (some .int) (gC E gDf gMs (d + 1)) (vo, (gSh, sr, u)) G) (l2 : Int32) (l3 : Int32) (l4 : Int32) (y0 : Int32) (σ : gS) {r : (Int32) ⊕ ((Int32) ⊕ (Unit))} (hP : p_Model_name_j94_69 E l2 l3 l4 y0 σ = some r) (K1 : ∀ (m4 : Int32), r = .inl m4 → G (69, [some (.ref 94), none, some (.int l2), some (.int l3), some (.int m4), none, none], [], (gSh, σ, u))) (K2 : ∀ (m4 : Int32), r = .inr (.inl m4) → G (155, [none, none, none, none, some (.int m4), none, none], [], (gSh, σ, u))) (K3 : r = .inr (.inr ()) → G (164, [some (.ref 94), none, some (.int l2), some (.int l3), none, none, none], [], (gSh, σ, u))) : G (94, [some (.ref 94), none, some (.int l2), some (.int l3), some (.int l4), none, none], [.int y0], (gSh, σ, u)) := by
  unfold p_Model_name_j94_69 at hP
  refine gRunN_ok hG.1 3 _ (99, [some (.ref 94), none, some (.int l2), some (.int l3), some (.int l4), some (.int y0), some (.int 0)], [], (gSh, σ, u)) rfl ?_
  obtain ⟨e7, hq, hP⟩ := g_b1 hP
  refine l_Model_name_99 E d u hG l2 l3 l4 σ gN y0 0 _ hq (fun w8 he => ?_)
  · replace he := he.symm
    subst he
    try dsimp only [gSum] at hP
    exact j_Model_name_j150_69 E d u hG l2 l3 l4 w8 σ hP K1 K2 K3
def p_Model_name_69 (E : gEv) (l2 : Int32) (l3 : Int32) (l4 : Int32) (σ : gS) : Option ((Int32) ⊕ ((Int32) ⊕ (Unit))) :=
  if (σ.1 94 23) ≤ l4 then (some (.inr (.inr ()))) else (if gIn l4 (σ.2.1 100) then if (σ.1 100 l4.toNatClampNeg) = l3 then (p_Model_name_j94_69 E l2 l3 l4 1 σ) else (p_Model_name_j94_69 E l2 l3 l4 0 σ) else none)
set_option maxRecDepth 20000 in
theorem b_Model_name_69 (E : gEv) (d u : Nat) {G : gFr → Prop} {vo : Option Value} {sr : gS} (hG : gClo E gDf gP18 gY203 (some .int) (gC E gDf gMs (d + 1)) (vo, (gSh, sr, u)) G) (l2 : Int32) (l3 : Int32) (l4 : Int32) (σ : gS) {r : (Int32) ⊕ ((Int32) ⊕ (Unit))} (hP : p_Model_name_69 E l2 l3 l4 σ = some r) (K1 : ∀ (m4 : Int32), r = .inl m4 → G (69, [some (.ref 94), none, some (.int l2), some (.int l3), some (.int m4), none, none], [], (gSh, σ, u))) (K2 : ∀ (m4 : Int32), r = .inr (.inl m4) → G (155, [none, none, none, none, some (.int m4), none, none], [], (gSh, σ, u))) (K3 : r = .inr (.inr ()) → G (164, [some (.ref 94), none, some (.int l2), some (.int l3), none, none, none], [], (gSh, σ, u))) : G (69, [some (.ref 94), none, some (.int l2), some (.int l3), some (.int l4), none, none], [], (gSh, σ, u)) := by
  unfold p_Model_name_69 at hP
  refine gRunN_ok hG.1 3 _ (75, [some (.ref 94), none, some (.int l2), some (.int l3), some (.int l4), none, none], [.int (σ.1 94 23), .int l4], (gSh, σ, u)) rfl ?_
  rcases g_ite hP with ⟨hc, hP⟩ | ⟨hc, hP⟩
  · refine hG.1 _ (164, [some (.ref 94), none, some (.int l2), some (.int l3), some (.int l4), none, none], [], (gSh, σ, u)) _ rfl (if_pos hc) ?_
    refine hG.2.2.2.2.1 _ _ [some (.ref 94), none, some (.int l2), some (.int l3), none, none, none] _ _ ⟨rfl, ⟨rfl, ⟨rfl, trivial⟩⟩⟩ ?_
    cases hP
    exact K3 rfl
  · refine hG.1 _ (78, [some (.ref 94), none, some (.int l2), some (.int l3), some (.int l4), none, none], [], (gSh, σ, u)) _ rfl (if_neg hc) ?_
    refine gRunN_ok hG.1 3 _ (84, [some (.ref 94), none, some (.int l2), some (.int l3), some (.int l4), none, none], [.int l4, .ref 100], (gSh, σ, u)) rfl ?_
    obtain ⟨hc, hP⟩ := g_if hP
    refine hG.1 _ (85, [some (.ref 94), none, some (.int l2), some (.int l3), some (.int l4), none, none], [.int (σ.1 100 l4.toNatClampNeg)], (gSh, σ, u)) _ rfl (if_pos hc) ?_
    refine gRunN_ok hG.1 1 _ (86, [some (.ref 94), none, some (.int l2), some (.int l3), some (.int l4), none, none], [.int l3, .int (σ.1 100 l4.toNatClampNeg)], (gSh, σ, u)) rfl ?_
    rcases g_ite hP with ⟨hc, hP⟩ | ⟨hc, hP⟩
    · refine hG.1 _ (89, [some (.ref 94), none, some (.int l2), some (.int l3), some (.int l4), none, none], [], (gSh, σ, u)) _ rfl (if_pos hc) ?_
      refine gRunN_ok hG.1 2 _ (94, [some (.ref 94), none, some (.int l2), some (.int l3), some (.int l4), none, none], [.int 1], (gSh, σ, u)) rfl ?_
      exact j_Model_name_j94_69 E d u hG l2 l3 l4 1 σ hP K1 K2 K3
    · refine hG.1 _ (93, [some (.ref 94), none, some (.int l2), some (.int l3), some (.int l4), none, none], [], (gSh, σ, u)) _ rfl (if_neg hc) ?_
      refine gRunN_ok hG.1 1 _ (94, [some (.ref 94), none, some (.int l2), some (.int l3), some (.int l4), none, none], [.int 0], (gSh, σ, u)) rfl ?_
      exact j_Model_name_j94_69 E d u hG l2 l3 l4 0 σ hP K1 K2 K3
theorem l_Model_name_69 (E : gEv) (d u : Nat) {G : gFr → Prop} {vo : Option Value} {sr : gS} (hG : gClo E gDf gP18 gY203 (some .int) (gC E gDf gMs (d + 1)) (vo, (gSh, sr, u)) G) (l2 : Int32) (l3 : Int32) (σ : gS) : ∀ (n : Nat) (l4 : Int32) (e : ((Int32) ⊕ (Unit))), gIter (fun z => p_Model_name_69 E l2 l3 z σ) n l4 = some e → (∀ (m4 : Int32), e = (.inl m4) → G (155, [none, none, none, none, some (.int m4), none, none], [], (gSh, σ, u))) → ( e = (.inr ()) → G (164, [some (.ref 94), none, some (.int l2), some (.int l3), none, none, none], [], (gSh, σ, u))) → G (69, [some (.ref 94), none, some (.int l2), some (.int l3), some (.int l4), none, none], [], (gSh, σ, u)) := by
  intro n
  induction n with
  | zero => intro l4 e h; cases h
  | succ n ih =>
    intro l4 e h K2 K3
    rcases g_iter h with ⟨z, h1, h2⟩ | h1
    · exact b_Model_name_69 E d u hG l2 l3 l4 σ h1 (fun n0 hz => by cases hz; exact ih _ e h2 K2 K3) (fun _ hz => by cases hz) (fun  hz => by cases hz)
    · exact b_Model_name_69 E d u hG l2 l3 l4 σ h1 (fun _ hz => by cases hz) (fun m4 hz => K2 m4 (by cases hz; rfl)) (fun  hz => K3  (by cases hz; rfl))
def p_Model_name (E : gEv) (a0 : Int32) (σ : gS) : Option (Int32 × gS) :=
  if a0 < (σ.1 94 19) then (if gIn a0 (σ.2.1 97) then gLet (σ.1 97 a0.toNatClampNeg) fun x1 => if gIn a0 (σ.2.1 98) then gLet (σ.1 98 a0.toNatClampNeg) fun x2 => if gIn x1 (σ.2.1 96) then if (σ.1 96 x1.toNatClampNeg) = (46 : Int32) then (gB1 (p_Model_fail E 1 x1 σ) fun s4 => some (0, s4)) else (if x2 ≤ (12 : Int32) then (gB1 (gIter (fun z => p_Model_name_69 E x1 x2 z σ) gN 0) fun e10 => gSum e10 (fun e19 => (fun w11 => some (w11, σ)) e19) (fun e20 => if (σ.1 94 23) = (150 : Int32) then (gB1 (p_Model_fail E 2 x1 σ) fun s13 => some (0, s13)) else (if gIn (σ.1 94 23) (σ.2.1 99) then gLet (gPut σ 99 (σ.1 94 23).toNatClampNeg x1) fun s14 => if gIn (s14.1 94 23) (s14.2.1 100) then gLet (gPut s14 100 (s14.1 94 23).toNatClampNeg x2) fun s15 => if gIn (s15.1 94 23) (s15.2.1 101) then gLet (gPut s15 101 (s15.1 94 23).toNatClampNeg 0) fun s16 => if gIn (s16.1 94 23) (s16.2.1 103) then gLet (gPut s16 103 (s16.1 94 23).toNatClampNeg (-1)) fun s17 => gLet (gPut s17 94 23 ((s17.1 94 23) + (1 : Int32))) fun s18 => some ((s18.1 94 23) - (1 : Int32), s18) else none else none else none else none))) else (gB1 (p_Model_fail E 2 x1 σ) fun s22 => some (0, s22))) else none else none else none) else (gB1 (p_Model_fail E 1 (σ.1 94 20) σ) fun s24 => some (0, s24))
set_option maxRecDepth 20000 in
theorem c_Model_name (E : gEv) (d u : Nat) (a0 : Int32) (σ : gS) {v : Int32} {sr : gS}  (hq : p_Model_name E a0 σ = some (v, sr)) : gC E gDf gMs (d + 2) 203 [.ref 94, .int a0] (gSh, σ, u) (some (.int v), (gSh, sr, u)) := ⟨gM203, rfl, Nat.le_of_ble_eq_true rfl, fun G hG => by
  have hP := hq
  unfold p_Model_name at hP
  replace hG : gClo E gDf gP18 gY203 (some .int) (gC E gDf gMs (d + 1)) (some (.int v), (gSh, sr, u)) G := hG
  show G (0, [some (.ref 94), some (.int a0), none, none, none, none, none], [], (gSh, σ, u))
  refine gRunN_ok hG.1 3 _ (5, [some (.ref 94), some (.int a0), none, none, none, none, none], [.int (σ.1 94 19), .int a0], (gSh, σ, u)) rfl ?_
  rcases g_ite hP with ⟨hc, hP⟩ | ⟨hc, hP⟩
  · refine hG.1 _ (19, [some (.ref 94), some (.int a0), none, none, none, none, none], [], (gSh, σ, u)) _ rfl (if_pos hc) ?_
    refine gRunN_ok hG.1 3 _ (24, [some (.ref 94), some (.int a0), none, none, none, none, none], [.int a0, .ref 97], (gSh, σ, u)) rfl ?_
    obtain ⟨hc, hP⟩ := g_if hP
    refine hG.1 _ (25, [some (.ref 94), some (.int a0), none, none, none, none, none], [.int (σ.1 97 a0.toNatClampNeg)], (gSh, σ, u)) _ rfl (if_pos hc) ?_
    refine gRunN_ok hG.1 1 _ (26, [some (.ref 94), some (.int a0), some (.int (σ.1 97 a0.toNatClampNeg)), none, none, none, none], [], (gSh, σ, u)) rfl ?_
    obtain ⟨x1, ex1, hP⟩ := g_let hP
    rw [← ex1]
    refine gRunN_ok hG.1 3 _ (31, [some (.ref 94), some (.int a0), some (.int x1), none, none, none, none], [.int a0, .ref 98], (gSh, σ, u)) rfl ?_
    obtain ⟨hc, hP⟩ := g_if hP
    refine hG.1 _ (32, [some (.ref 94), some (.int a0), some (.int x1), none, none, none, none], [.int (σ.1 98 a0.toNatClampNeg)], (gSh, σ, u)) _ rfl (if_pos hc) ?_
    refine gRunN_ok hG.1 1 _ (33, [some (.ref 94), some (.int a0), some (.int x1), some (.int (σ.1 98 a0.toNatClampNeg)), none, none, none], [], (gSh, σ, u)) rfl ?_
    obtain ⟨x2, ex2, hP⟩ := g_let hP
    rw [← ex2]
    refine gRunN_ok hG.1 3 _ (38, [some (.ref 94), some (.int a0), some (.int x1), some (.int x2), none, none, none], [.int x1, .ref 96], (gSh, σ, u)) rfl ?_
    obtain ⟨hc, hP⟩ := g_if hP
    refine hG.1 _ (39, [some (.ref 94), some (.int a0), some (.int x1), some (.int x2), none, none, none], [.int (σ.1 96 x1.toNatClampNeg)], (gSh, σ, u)) _ rfl (if_pos hc) ?_
    refine gRunN_ok hG.1 1 _ (41, [some (.ref 94), some (.int a0), some (.int x1), some (.int x2), none, none, none], [.int 46, .int (σ.1 96 x1.toNatClampNeg)], (gSh, σ, u)) rfl ?_
    rcases g_ite hP with ⟨hc, hP⟩ | ⟨hc, hP⟩
    · refine hG.1 _ (44, [some (.ref 94), some (.int a0), some (.int x1), some (.int x2), none, none, none], [], (gSh, σ, u)) _ rfl (if_pos hc) ?_
      refine gRunN_ok hG.1 3 _ (47, [some (.ref 94), some (.int a0), some (.int x1), some (.int x2), none, none, none], [.int x1, .int 1, .ref 94], (gSh, σ, u)) rfl ?_
      obtain ⟨s4, hq, hP⟩ := g_b1 hP
      refine hG.2.2.2.1 _ _ _ [.ref 94, .int 1, .int x1] [] _ (gSh, s4, u) none _ _ _ _ _ _ rfl rfl rfl rfl rfl rfl (c_Model_fail E (d + 0) u 1 x1 _  hq) (Nat.le_refl _) (Nat.le_refl _) (Nat.le_refl _) (Nat.le_refl _) ?_
      show G (50, [some (.ref 94), some (.int a0), some (.int x1), some (.int x2), none, none, none], [], (gSh, s4, u))
      refine gRunN_ok hG.1 1 _ (51, [some (.ref 94), some (.int a0), some (.int x1), some (.int x2), none, none, none], [.int 0], (gSh, s4, u)) rfl ?_
      cases hP
      exact hG.2.1 _ _ rfl rfl
    · refine hG.1 _ (52, [some (.ref 94), some (.int a0), some (.int x1), some (.int x2), none, none, none], [], (gSh, σ, u)) _ rfl (if_neg hc) ?_
      refine gRunN_ok hG.1 2 _ (55, [some (.ref 94), some (.int a0), some (.int x1), some (.int x2), none, none, none], [.int 12, .int x2], (gSh, σ, u)) rfl ?_
      rcases g_ite hP with ⟨hc, hP⟩ | ⟨hc, hP⟩
      · refine hG.1 _ (66, [some (.ref 94), some (.int a0), some (.int x1), some (.int x2), none, none, none], [], (gSh, σ, u)) _ rfl (if_pos hc) ?_
        refine gRunN_ok hG.1 2 _ (69, [some (.ref 94), some (.int a0), some (.int x1), some (.int x2), some (.int 0), none, none], [], (gSh, σ, u)) rfl ?_
        refine hG.2.2.2.2.1 _ _ [some (.ref 94), none, some (.int x1), some (.int x2), some (.int 0), none, none] _ _ ⟨rfl, ⟨rfl, ⟨rfl, ⟨rfl, trivial⟩⟩⟩⟩ ?_
        obtain ⟨e10, hq, hP⟩ := g_b1 hP
        refine l_Model_name_69 E d u hG x1 x2 σ gN 0 _ hq (fun w11 he => ?_) (fun  he => ?_)
        · subst he
          try dsimp only [gSum] at hP
          refine gRunN_ok hG.1 1 _ (157, [none, none, none, none, some (.int w11), none, none], [.int w11], (gSh, σ, u)) rfl ?_
          cases hP
          exact hG.2.1 _ _ rfl rfl
        · subst he
          try dsimp only [gSum] at hP
          refine gRunN_ok hG.1 3 _ (171, [some (.ref 94), none, some (.int x1), some (.int x2), none, none, none], [.int 150, .int (σ.1 94 23)], (gSh, σ, u)) rfl ?_
          rcases g_ite hP with ⟨hc, hP⟩ | ⟨hc, hP⟩
          · refine hG.1 _ (174, [some (.ref 94), none, some (.int x1), some (.int x2), none, none, none], [], (gSh, σ, u)) _ rfl (if_pos hc) ?_
            refine gRunN_ok hG.1 3 _ (177, [some (.ref 94), none, some (.int x1), some (.int x2), none, none, none], [.int x1, .int 2, .ref 94], (gSh, σ, u)) rfl ?_
            obtain ⟨s13, hq, hP⟩ := g_b1 hP
            refine hG.2.2.2.1 _ _ _ [.ref 94, .int 2, .int x1] [] _ (gSh, s13, u) none _ _ _ _ _ _ rfl rfl rfl rfl rfl rfl (c_Model_fail E (d + 0) u 2 x1 _  hq) (Nat.le_refl _) (Nat.le_refl _) (Nat.le_refl _) (Nat.le_refl _) ?_
            show G (180, [some (.ref 94), none, some (.int x1), some (.int x2), none, none, none], [], (gSh, s13, u))
            refine gRunN_ok hG.1 1 _ (181, [some (.ref 94), none, some (.int x1), some (.int x2), none, none, none], [.int 0], (gSh, s13, u)) rfl ?_
            cases hP
            exact hG.2.1 _ _ rfl rfl
          · refine hG.1 _ (182, [some (.ref 94), none, some (.int x1), some (.int x2), none, none, none], [], (gSh, σ, u)) _ rfl (if_neg hc) ?_
            refine gRunN_ok hG.1 5 _ (191, [some (.ref 94), none, some (.int x1), some (.int x2), none, none, none], [.int x1, .int (σ.1 94 23), .ref 99], (gSh, σ, u)) rfl ?_
            obtain ⟨hc, hP⟩ := g_if hP
            refine hG.1 _ (192, [some (.ref 94), none, some (.int x1), some (.int x2), none, none, none], [], (gSh, (gPut σ 99 (σ.1 94 23).toNatClampNeg x1), u)) _ rfl (if_pos hc) ?_
            obtain ⟨s14, es14, hP⟩ := g_let hP
            rw [← es14]
            refine gRunN_ok hG.1 5 _ (201, [some (.ref 94), none, some (.int x1), some (.int x2), none, none, none], [.int x2, .int (s14.1 94 23), .ref 100], (gSh, s14, u)) rfl ?_
            obtain ⟨hc, hP⟩ := g_if hP
            refine hG.1 _ (202, [some (.ref 94), none, some (.int x1), some (.int x2), none, none, none], [], (gSh, (gPut s14 100 (s14.1 94 23).toNatClampNeg x2), u)) _ rfl (if_pos hc) ?_
            obtain ⟨s15, es15, hP⟩ := g_let hP
            rw [← es15]
            refine gRunN_ok hG.1 5 _ (211, [some (.ref 94), none, some (.int x1), some (.int x2), none, none, none], [.int 0, .int (s15.1 94 23), .ref 101], (gSh, s15, u)) rfl ?_
            obtain ⟨hc, hP⟩ := g_if hP
            refine hG.1 _ (212, [some (.ref 94), none, some (.int x1), some (.int x2), none, none, none], [], (gSh, (gPut s15 101 (s15.1 94 23).toNatClampNeg 0), u)) _ rfl (if_pos hc) ?_
            obtain ⟨s16, es16, hP⟩ := g_let hP
            rw [← es16]
            refine gRunN_ok hG.1 5 _ (221, [some (.ref 94), none, some (.int x1), some (.int x2), none, none, none], [.int (-1), .int (s16.1 94 23), .ref 103], (gSh, s16, u)) rfl ?_
            obtain ⟨hc, hP⟩ := g_if hP
            refine hG.1 _ (222, [some (.ref 94), none, some (.int x1), some (.int x2), none, none, none], [], (gSh, (gPut s16 103 (s16.1 94 23).toNatClampNeg (-1)), u)) _ rfl (if_pos hc) ?_
            obtain ⟨s17, es17, hP⟩ := g_let hP
            rw [← es17]
            refine gRunN_ok hG.1 6 _ (232, [some (.ref 94), none, some (.int x1), some (.int x2), none, none, none], [], (gSh, (gPut s17 94 23 ((s17.1 94 23) + (1 : Int32))), u)) rfl ?_
            obtain ⟨s18, es18, hP⟩ := g_let hP
            rw [← es18]
            refine gRunN_ok hG.1 4 _ (238, [some (.ref 94), none, some (.int x1), some (.int x2), none, none, none], [.int ((s18.1 94 23) - (1 : Int32))], (gSh, s18, u)) rfl ?_
            cases hP
            exact hG.2.1 _ _ rfl rfl
      · refine hG.1 _ (58, [some (.ref 94), some (.int a0), some (.int x1), some (.int x2), none, none, none], [], (gSh, σ, u)) _ rfl (if_neg hc) ?_
        refine gRunN_ok hG.1 3 _ (61, [some (.ref 94), some (.int a0), some (.int x1), some (.int x2), none, none, none], [.int x1, .int 2, .ref 94], (gSh, σ, u)) rfl ?_
        obtain ⟨s22, hq, hP⟩ := g_b1 hP
        refine hG.2.2.2.1 _ _ _ [.ref 94, .int 2, .int x1] [] _ (gSh, s22, u) none _ _ _ _ _ _ rfl rfl rfl rfl rfl rfl (c_Model_fail E (d + 0) u 2 x1 _  hq) (Nat.le_refl _) (Nat.le_refl _) (Nat.le_refl _) (Nat.le_refl _) ?_
        show G (64, [some (.ref 94), some (.int a0), some (.int x1), some (.int x2), none, none, none], [], (gSh, s22, u))
        refine gRunN_ok hG.1 1 _ (65, [some (.ref 94), some (.int a0), some (.int x1), some (.int x2), none, none, none], [.int 0], (gSh, s22, u)) rfl ?_
        cases hP
        exact hG.2.1 _ _ rfl rfl
  · refine hG.1 _ (8, [some (.ref 94), some (.int a0), none, none, none, none, none], [], (gSh, σ, u)) _ rfl (if_neg hc) ?_
    refine gRunN_ok hG.1 4 _ (14, [some (.ref 94), some (.int a0), none, none, none, none, none], [.int (σ.1 94 20), .int 1, .ref 94], (gSh, σ, u)) rfl ?_
    obtain ⟨s24, hq, hP⟩ := g_b1 hP
    refine hG.2.2.2.1 _ _ _ [.ref 94, .int 1, .int (σ.1 94 20)] [] _ (gSh, s24, u) none _ _ _ _ _ _ rfl rfl rfl rfl rfl rfl (c_Model_fail E (d + 0) u 1 (σ.1 94 20) _  hq) (Nat.le_refl _) (Nat.le_refl _) (Nat.le_refl _) (Nat.le_refl _) ?_
    show G (17, [some (.ref 94), some (.int a0), none, none, none, none, none], [], (gSh, s24, u))
    refine gRunN_ok hG.1 1 _ (18, [some (.ref 94), some (.int a0), none, none, none, none, none], [.int 0], (gSh, s24, u)) rfl ?_
    cases hP
    exact hG.2.1 _ _ rfl rfl⟩
def p_Model_makes (E : gEv) (a0 : Int32) (a1 : Int32) (a2 : Int32) (a3 : Int32) (σ : gS) : Option (gS) :=
  if gIn a0 (σ.2.1 101) then if (σ.1 101 a0.toNatClampNeg) = 0 then (if gIn a0 (σ.2.1 101) then gLet (gPut σ 101 a0.toNatClampNeg a1) fun s1 => if gIn a0 (s1.2.1 102) then gLet (gPut s1 102 a0.toNatClampNeg a2) fun s2 => some s2 else none else none) else (gB1 (p_Model_fail E 3 a3 σ) fun s4 => some s4) else none
set_option maxRecDepth 20000 in
theorem c_Model_makes (E : gEv) (d u : Nat) (a0 : Int32) (a1 : Int32) (a2 : Int32) (a3 : Int32) (σ : gS) {sr : gS}  (hq : p_Model_makes E a0 a1 a2 a3 σ = some sr) : gC E gDf gMs (d + 2) 204 [.ref 94, .int a0, .int a1, .int a2, .int a3] (gSh, σ, u) (none, (gSh, sr, u)) := ⟨gM204, rfl, Nat.le_of_ble_eq_true rfl, fun G hG => by
  have hP := hq
  unfold p_Model_makes at hP
  replace hG : gClo E gDf gP18 gY204 none (gC E gDf gMs (d + 1)) (none, (gSh, sr, u)) G := hG
  show G (0, [some (.ref 94), some (.int a0), some (.int a1), some (.int a2), some (.int a3)], [], (gSh, σ, u))
  refine gRunN_ok hG.1 3 _ (5, [some (.ref 94), some (.int a0), some (.int a1), some (.int a2), some (.int a3)], [.int a0, .ref 101], (gSh, σ, u)) rfl ?_
  obtain ⟨hc, hP⟩ := g_if hP
  refine hG.1 _ (6, [some (.ref 94), some (.int a0), some (.int a1), some (.int a2), some (.int a3)], [.int (σ.1 101 a0.toNatClampNeg)], (gSh, σ, u)) _ rfl (if_pos hc) ?_
  rcases g_ite hP with ⟨hc, hP⟩ | ⟨hc, hP⟩
  · refine hG.1 _ (17, [some (.ref 94), some (.int a0), some (.int a1), some (.int a2), some (.int a3)], [], (gSh, σ, u)) _ rfl (if_pos hc) ?_
    refine gRunN_ok hG.1 4 _ (23, [some (.ref 94), some (.int a0), some (.int a1), some (.int a2), some (.int a3)], [.int a1, .int a0, .ref 101], (gSh, σ, u)) rfl ?_
    obtain ⟨hc, hP⟩ := g_if hP
    refine hG.1 _ (24, [some (.ref 94), some (.int a0), some (.int a1), some (.int a2), some (.int a3)], [], (gSh, (gPut σ 101 a0.toNatClampNeg a1), u)) _ rfl (if_pos hc) ?_
    obtain ⟨s1, es1, hP⟩ := g_let hP
    rw [← es1]
    refine gRunN_ok hG.1 4 _ (30, [some (.ref 94), some (.int a0), some (.int a1), some (.int a2), some (.int a3)], [.int a2, .int a0, .ref 102], (gSh, s1, u)) rfl ?_
    obtain ⟨hc, hP⟩ := g_if hP
    refine hG.1 _ (31, [some (.ref 94), some (.int a0), some (.int a1), some (.int a2), some (.int a3)], [], (gSh, (gPut s1 102 a0.toNatClampNeg a2), u)) _ rfl (if_pos hc) ?_
    obtain ⟨s2, es2, hP⟩ := g_let hP
    rw [← es2]
    cases hP
    exact hG.2.1 _ _ rfl rfl
  · refine hG.1 _ (9, [some (.ref 94), some (.int a0), some (.int a1), some (.int a2), some (.int a3)], [], (gSh, σ, u)) _ rfl (if_neg hc) ?_
    refine gRunN_ok hG.1 3 _ (13, [some (.ref 94), some (.int a0), some (.int a1), some (.int a2), some (.int a3)], [.int a3, .int 3, .ref 94], (gSh, σ, u)) rfl ?_
    obtain ⟨s4, hq, hP⟩ := g_b1 hP
    refine hG.2.2.2.1 _ _ _ [.ref 94, .int 3, .int a3] [] _ (gSh, s4, u) none _ _ _ _ _ _ rfl rfl rfl rfl rfl rfl (c_Model_fail E (d + 0) u 3 a3 _  hq) (Nat.le_refl _) (Nat.le_refl _) (Nat.le_refl _) (Nat.le_refl _) ?_
    show G (16, [some (.ref 94), some (.int a0), some (.int a1), some (.int a2), some (.int a3)], [], (gSh, s4, u))
    cases hP
    exact hG.2.1 _ _ rfl rfl⟩
def p_Model_check_j56_4 (E : gEv) (l2 : Int32) (σ : gS) : Option ((Int32 × Int32) ⊕ (Int32)) :=
  if gIn l2 (σ.2.1 103) then gLet (σ.1 103 l2.toNatClampNeg) fun x2 => gLet (l2 + 1) fun x3 => some (.inl (x2, x3)) else none
set_option maxRecDepth 20000 in
theorem j_Model_check_j56_4 (E : gEv) (d u : Nat) {G : gFr → Prop} {vo : Option Value} {sr : gS} (hG : gClo E gDf gP18 gY208 none (gC E gDf gMs (d + 1)) (vo, (gSh, sr, u)) G) (l2 : Int32) (σ : gS) {r : (Int32 × Int32) ⊕ (Int32)} (hP : p_Model_check_j56_4 E l2 σ = some r) (K1 : ∀ (m1 : Int32) (m2 : Int32), r = .inl (m1, m2) → G (4, [some (.ref 94), some (.int m1), some (.int m2), none, none, none, none, none], [], (gSh, σ, u))) (K2 : ∀ (m1 : Int32), r = .inr m1 → G (73, [some (.ref 94), some (.int m1), none, none, none, none, none, none], [], (gSh, σ, u))) : G (56, [some (.ref 94), none, some (.int l2), none, none, none, none, none], [], (gSh, σ, u)) := by
  unfold p_Model_check_j56_4 at hP
  refine gRunN_ok hG.1 3 _ (61, [some (.ref 94), none, some (.int l2), none, none, none, none, none], [.int l2, .ref 103], (gSh, σ, u)) rfl ?_
  obtain ⟨hc, hP⟩ := g_if hP
  refine hG.1 _ (62, [some (.ref 94), none, some (.int l2), none, none, none, none, none], [.int (σ.1 103 l2.toNatClampNeg)], (gSh, σ, u)) _ rfl (if_pos hc) ?_
  refine gRunN_ok hG.1 2 _ (67, [some (.ref 94), some (.int (σ.1 103 l2.toNatClampNeg)), some (.int l2), none, none, none, none, none], [], (gSh, σ, u)) rfl ?_
  obtain ⟨x2, ex2, hP⟩ := g_let hP
  rw [← ex2]
  refine gRunN_ok hG.1 1 _ (70, [some (.ref 94), some (.int x2), some (.int (l2 + 1)), none, none, none, none, none], [], (gSh, σ, u)) rfl ?_
  obtain ⟨x3, ex3, hP⟩ := g_let hP
  rw [← ex3]
  refine gRunN_ok hG.1 1 _ (4, [some (.ref 94), some (.int x2), some (.int x3), none, none, none, none, none], [], (gSh, σ, u)) rfl ?_
  cases hP
  exact K1 _ _ rfl
def p_Model_check_j36_4 (E : gEv) (l1 : Int32) (l2 : Int32) (y0 : Int32) (σ : gS) : Option ((Int32 × Int32) ⊕ (Int32)) :=
  if y0 = 0 then (gLet (l2 + 1) fun x1 => some (.inl (l1, x1))) else (if l1 = ((-1) : Int32) then (p_Model_check_j56_4 E l2 σ) else (if gIn l2 (σ.2.1 103) then if l1 ≤ (σ.1 103 l2.toNatClampNeg) then (gLet (l2 + 1) fun x4 => some (.inl (l1, x4))) else (p_Model_check_j56_4 E l2 σ) else none))
set_option maxRecDepth 20000 in
theorem j_Model_check_j36_4 (E : gEv) (d u : Nat) {G : gFr → Prop} {vo : Option Value} {sr : gS} (hG : gClo E gDf gP18 gY208 none (gC E gDf gMs (d + 1)) (vo, (gSh, sr, u)) G) (l1 : Int32) (l2 : Int32) (y0 : Int32) (σ : gS) {r : (Int32 × Int32) ⊕ (Int32)} (hP : p_Model_check_j36_4 E l1 l2 y0 σ = some r) (K1 : ∀ (m1 : Int32) (m2 : Int32), r = .inl (m1, m2) → G (4, [some (.ref 94), some (.int m1), some (.int m2), none, none, none, none, none], [], (gSh, σ, u))) (K2 : ∀ (m1 : Int32), r = .inr m1 → G (73, [some (.ref 94), some (.int m1), none, none, none, none, none, none], [], (gSh, σ, u))) : G (36, [some (.ref 94), some (.int l1), some (.int l2), none, none, none, none, none], [.int y0], (gSh, σ, u)) := by
  unfold p_Model_check_j36_4 at hP
  refine gRunN_ok hG.1 2 _ (38, [some (.ref 94), some (.int l1), some (.int l2), some (.int y0), none, none, none, none], [.int y0], (gSh, σ, u)) rfl ?_
  rcases g_ite hP with ⟨hc, hP⟩ | ⟨hc, hP⟩
  · refine hG.1 _ (65, [some (.ref 94), some (.int l1), some (.int l2), some (.int y0), none, none, none, none], [], (gSh, σ, u)) _ rfl (if_pos hc) ?_
    refine gRunN_ok hG.1 3 _ (70, [some (.ref 94), some (.int l1), some (.int (l2 + 1)), some (.int y0), none, none, none, none], [], (gSh, σ, u)) rfl ?_
    obtain ⟨x1, ex1, hP⟩ := g_let hP
    rw [← ex1]
    refine gRunN_ok hG.1 1 _ (4, [some (.ref 94), some (.int l1), some (.int x1), some (.int y0), none, none, none, none], [], (gSh, σ, u)) rfl ?_
    refine hG.2.2.2.2.1 _ _ [some (.ref 94), some (.int l1), some (.int x1), none, none, none, none, none] _ _ ⟨rfl, ⟨rfl, ⟨rfl, trivial⟩⟩⟩ ?_
    cases hP
    exact K1 _ _ rfl
  · refine hG.1 _ (41, [some (.ref 94), some (.int l1), some (.int l2), some (.int y0), none, none, none, none], [], (gSh, σ, u)) _ rfl (if_neg hc) ?_
    refine gRunN_ok hG.1 2 _ (43, [some (.ref 94), some (.int l1), some (.int l2), some (.int y0), none, none, none, none], [.int (-1), .int l1], (gSh, σ, u)) rfl ?_
    rcases g_ite hP with ⟨hc, hP⟩ | ⟨hc, hP⟩
    · refine hG.1 _ (56, [some (.ref 94), some (.int l1), some (.int l2), some (.int y0), none, none, none, none], [], (gSh, σ, u)) _ rfl (if_pos hc) ?_
      refine hG.2.2.2.2.1 _ _ [some (.ref 94), none, some (.int l2), none, none, none, none, none] _ _ ⟨rfl, ⟨rfl, trivial⟩⟩ ?_
      exact j_Model_check_j56_4 E d u hG l2 σ hP K1 K2
    · refine hG.1 _ (46, [some (.ref 94), some (.int l1), some (.int l2), some (.int y0), none, none, none, none], [], (gSh, σ, u)) _ rfl (if_neg hc) ?_
      refine gRunN_ok hG.1 3 _ (51, [some (.ref 94), some (.int l1), some (.int l2), some (.int y0), none, none, none, none], [.int l2, .ref 103], (gSh, σ, u)) rfl ?_
      obtain ⟨hc, hP⟩ := g_if hP
      refine hG.1 _ (52, [some (.ref 94), some (.int l1), some (.int l2), some (.int y0), none, none, none, none], [.int (σ.1 103 l2.toNatClampNeg)], (gSh, σ, u)) _ rfl (if_pos hc) ?_
      refine gRunN_ok hG.1 1 _ (53, [some (.ref 94), some (.int l1), some (.int l2), some (.int y0), none, none, none, none], [.int l1, .int (σ.1 103 l2.toNatClampNeg)], (gSh, σ, u)) rfl ?_
      rcases g_ite hP with ⟨hc, hP⟩ | ⟨hc, hP⟩
      · refine hG.1 _ (65, [some (.ref 94), some (.int l1), some (.int l2), some (.int y0), none, none, none, none], [], (gSh, σ, u)) _ rfl (if_pos hc) ?_
        refine gRunN_ok hG.1 3 _ (70, [some (.ref 94), some (.int l1), some (.int (l2 + 1)), some (.int y0), none, none, none, none], [], (gSh, σ, u)) rfl ?_
        obtain ⟨x4, ex4, hP⟩ := g_let hP
        rw [← ex4]
        refine gRunN_ok hG.1 1 _ (4, [some (.ref 94), some (.int l1), some (.int x4), some (.int y0), none, none, none, none], [], (gSh, σ, u)) rfl ?_
        refine hG.2.2.2.2.1 _ _ [some (.ref 94), some (.int l1), some (.int x4), none, none, none, none, none] _ _ ⟨rfl, ⟨rfl, ⟨rfl, trivial⟩⟩⟩ ?_
        cases hP
        exact K1 _ _ rfl
      · refine hG.1 _ (56, [some (.ref 94), some (.int l1), some (.int l2), some (.int y0), none, none, none, none], [], (gSh, σ, u)) _ rfl (if_neg hc) ?_
        refine hG.2.2.2.2.1 _ _ [some (.ref 94), none, some (.int l2), none, none, none, none, none] _ _ ⟨rfl, ⟨rfl, trivial⟩⟩ ?_
        exact j_Model_check_j56_4 E d u hG l2 σ hP K1 K2
def p_Model_check_j35_4 (E : gEv) (l1 : Int32) (l2 : Int32) (σ : gS) : Option ((Int32 × Int32) ⊕ (Int32)) :=
  p_Model_check_j36_4 E l1 l2 0 σ
set_option maxRecDepth 20000 in
theorem j_Model_check_j35_4 (E : gEv) (d u : Nat) {G : gFr → Prop} {vo : Option Value} {sr : gS} (hG : gClo E gDf gP18 gY208 none (gC E gDf gMs (d + 1)) (vo, (gSh, sr, u)) G) (l1 : Int32) (l2 : Int32) (σ : gS) {r : (Int32 × Int32) ⊕ (Int32)} (hP : p_Model_check_j35_4 E l1 l2 σ = some r) (K1 : ∀ (m1 : Int32) (m2 : Int32), r = .inl (m1, m2) → G (4, [some (.ref 94), some (.int m1), some (.int m2), none, none, none, none, none], [], (gSh, σ, u))) (K2 : ∀ (m1 : Int32), r = .inr m1 → G (73, [some (.ref 94), some (.int m1), none, none, none, none, none, none], [], (gSh, σ, u))) : G (35, [some (.ref 94), some (.int l1), some (.int l2), none, none, none, none, none], [], (gSh, σ, u)) := by
  unfold p_Model_check_j35_4 at hP
  refine gRunN_ok hG.1 1 _ (36, [some (.ref 94), some (.int l1), some (.int l2), none, none, none, none, none], [.int 0], (gSh, σ, u)) rfl ?_
  exact j_Model_check_j36_4 E d u hG l1 l2 0 σ hP K1 K2
def p_Model_check_4 (E : gEv) (l1 : Int32) (l2 : Int32) (σ : gS) : Option ((Int32 × Int32) ⊕ (Int32)) :=
  if (σ.1 94 23) ≤ l2 then (some (.inr l1)) else (if gIn l2 (σ.2.1 101) then if (σ.1 101 l2.toNatClampNeg) = 0 then (if gIn l2 (σ.2.1 103) then if (σ.1 103 l2.toNatClampNeg) = ((-1) : Int32) then (p_Model_check_j35_4 E l1 l2 σ) else (p_Model_check_j36_4 E l1 l2 1 σ) else none) else (p_Model_check_j35_4 E l1 l2 σ) else none)
set_option maxRecDepth 20000 in
theorem b_Model_check_4 (E : gEv) (d u : Nat) {G : gFr → Prop} {vo : Option Value} {sr : gS} (hG : gClo E gDf gP18 gY208 none (gC E gDf gMs (d + 1)) (vo, (gSh, sr, u)) G) (l1 : Int32) (l2 : Int32) (σ : gS) {r : (Int32 × Int32) ⊕ (Int32)} (hP : p_Model_check_4 E l1 l2 σ = some r) (K1 : ∀ (m1 : Int32) (m2 : Int32), r = .inl (m1, m2) → G (4, [some (.ref 94), some (.int m1), some (.int m2), none, none, none, none, none], [], (gSh, σ, u))) (K2 : ∀ (m1 : Int32), r = .inr m1 → G (73, [some (.ref 94), some (.int m1), none, none, none, none, none, none], [], (gSh, σ, u))) : G (4, [some (.ref 94), some (.int l1), some (.int l2), none, none, none, none, none], [], (gSh, σ, u)) := by
  unfold p_Model_check_4 at hP
  refine gRunN_ok hG.1 3 _ (9, [some (.ref 94), some (.int l1), some (.int l2), none, none, none, none, none], [.int (σ.1 94 23), .int l2], (gSh, σ, u)) rfl ?_
  rcases g_ite hP with ⟨hc, hP⟩ | ⟨hc, hP⟩
  · refine hG.1 _ (73, [some (.ref 94), some (.int l1), some (.int l2), none, none, none, none, none], [], (gSh, σ, u)) _ rfl (if_pos hc) ?_
    refine hG.2.2.2.2.1 _ _ [some (.ref 94), some (.int l1), none, none, none, none, none, none] _ _ ⟨rfl, ⟨rfl, trivial⟩⟩ ?_
    cases hP
    exact K2 _ rfl
  · refine hG.1 _ (12, [some (.ref 94), some (.int l1), some (.int l2), none, none, none, none, none], [], (gSh, σ, u)) _ rfl (if_neg hc) ?_
    refine gRunN_ok hG.1 3 _ (17, [some (.ref 94), some (.int l1), some (.int l2), none, none, none, none, none], [.int l2, .ref 101], (gSh, σ, u)) rfl ?_
    obtain ⟨hc, hP⟩ := g_if hP
    refine hG.1 _ (18, [some (.ref 94), some (.int l1), some (.int l2), none, none, none, none, none], [.int (σ.1 101 l2.toNatClampNeg)], (gSh, σ, u)) _ rfl (if_pos hc) ?_
    rcases g_ite hP with ⟨hc, hP⟩ | ⟨hc, hP⟩
    · refine hG.1 _ (21, [some (.ref 94), some (.int l1), some (.int l2), none, none, none, none, none], [], (gSh, σ, u)) _ rfl (if_pos hc) ?_
      refine gRunN_ok hG.1 3 _ (26, [some (.ref 94), some (.int l1), some (.int l2), none, none, none, none, none], [.int l2, .ref 103], (gSh, σ, u)) rfl ?_
      obtain ⟨hc, hP⟩ := g_if hP
      refine hG.1 _ (27, [some (.ref 94), some (.int l1), some (.int l2), none, none, none, none, none], [.int (σ.1 103 l2.toNatClampNeg)], (gSh, σ, u)) _ rfl (if_pos hc) ?_
      refine gRunN_ok hG.1 1 _ (28, [some (.ref 94), some (.int l1), some (.int l2), none, none, none, none, none], [.int (-1), .int (σ.1 103 l2.toNatClampNeg)], (gSh, σ, u)) rfl ?_
      rcases g_ite hP with ⟨hc, hP⟩ | ⟨hc, hP⟩
      · refine hG.1 _ (35, [some (.ref 94), some (.int l1), some (.int l2), none, none, none, none, none], [], (gSh, σ, u)) _ rfl (if_pos hc) ?_
        exact j_Model_check_j35_4 E d u hG l1 l2 σ hP K1 K2
      · refine hG.1 _ (31, [some (.ref 94), some (.int l1), some (.int l2), none, none, none, none, none], [], (gSh, σ, u)) _ rfl (if_neg hc) ?_
        refine gRunN_ok hG.1 2 _ (36, [some (.ref 94), some (.int l1), some (.int l2), none, none, none, none, none], [.int 1], (gSh, σ, u)) rfl ?_
        exact j_Model_check_j36_4 E d u hG l1 l2 1 σ hP K1 K2
    · refine hG.1 _ (35, [some (.ref 94), some (.int l1), some (.int l2), none, none, none, none, none], [], (gSh, σ, u)) _ rfl (if_neg hc) ?_
      exact j_Model_check_j35_4 E d u hG l1 l2 σ hP K1 K2
theorem l_Model_check_4 (E : gEv) (d u : Nat) {G : gFr → Prop} {vo : Option Value} {sr : gS} (hG : gClo E gDf gP18 gY208 none (gC E gDf gMs (d + 1)) (vo, (gSh, sr, u)) G) (σ : gS) : ∀ (n : Nat) (l1 : Int32) (l2 : Int32) (e : (Int32)), gIter (fun z => p_Model_check_4 E z.1 z.2 σ) n (l1, l2) = some e → (∀ (m1 : Int32), e = m1 → G (73, [some (.ref 94), some (.int m1), none, none, none, none, none, none], [], (gSh, σ, u))) → G (4, [some (.ref 94), some (.int l1), some (.int l2), none, none, none, none, none], [], (gSh, σ, u)) := by
  intro n
  induction n with
  | zero => intro l1 l2 e h; cases h
  | succ n ih =>
    intro l1 l2 e h K2
    rcases g_iter h with ⟨z, h1, h2⟩ | h1
    · exact b_Model_check_4 E d u hG l1 l2 σ h1 (fun n0 n1 hz => by cases hz; exact ih _ _ e h2 K2) (fun _ hz => by cases hz)
    · exact b_Model_check_4 E d u hG l1 l2 σ h1 (fun _ _ hz => by cases hz) (fun m1 hz => K2 m1 (by cases hz; rfl))
def p_Model_check_87 (E : gEv) (l2 : Int32) (σ : gS) : Option ((Int32 × gS) ⊕ (gS)) :=
  if (σ.1 94 32) ≤ l2 then (some (.inr σ)) else (if gIn l2 (σ.2.1 116) then gLet (gPut σ 116 l2.toNatClampNeg (vp_nar .boolean 0)) fun s7 => gLet (l2 + 1) fun x8 => some (.inl (x8, s7)) else none)
set_option maxRecDepth 20000 in
theorem b_Model_check_87 (E : gEv) (d u : Nat) {G : gFr → Prop} {vo : Option Value} {sr : gS} (hG : gClo E gDf gP18 gY208 none (gC E gDf gMs (d + 1)) (vo, (gSh, sr, u)) G) (l2 : Int32) (σ : gS) {r : (Int32 × gS) ⊕ (gS)} (hP : p_Model_check_87 E l2 σ = some r) (K1 : ∀ (m2 : Int32) (σ1 : gS), r = .inl (m2, σ1) → G (87, [some (.ref 94), none, some (.int m2), none, none, none, none, none], [], (gSh, σ1, u))) (K2 : ∀ (σ1 : gS), r = .inr σ1 → G (108, [some (.ref 94), none, none, none, none, none, none, none], [], (gSh, σ1, u))) : G (87, [some (.ref 94), none, some (.int l2), none, none, none, none, none], [], (gSh, σ, u)) := by
  unfold p_Model_check_87 at hP
  refine gRunN_ok hG.1 3 _ (92, [some (.ref 94), none, some (.int l2), none, none, none, none, none], [.int (σ.1 94 32), .int l2], (gSh, σ, u)) rfl ?_
  rcases g_ite hP with ⟨hc, hP⟩ | ⟨hc, hP⟩
  · refine hG.1 _ (108, [some (.ref 94), none, some (.int l2), none, none, none, none, none], [], (gSh, σ, u)) _ rfl (if_pos hc) ?_
    refine hG.2.2.2.2.1 _ _ [some (.ref 94), none, none, none, none, none, none, none] _ _ ⟨rfl, trivial⟩ ?_
    cases hP
    exact K2 _ rfl
  · refine hG.1 _ (95, [some (.ref 94), none, some (.int l2), none, none, none, none, none], [], (gSh, σ, u)) _ rfl (if_neg hc) ?_
    refine gRunN_ok hG.1 4 _ (101, [some (.ref 94), none, some (.int l2), none, none, none, none, none], [.int 0, .int l2, .ref 116], (gSh, σ, u)) rfl ?_
    obtain ⟨hc, hP⟩ := g_if hP
    refine hG.1 _ (102, [some (.ref 94), none, some (.int l2), none, none, none, none, none], [], (gSh, (gPut σ 116 l2.toNatClampNeg (vp_nar .boolean 0)), u)) _ rfl (if_pos hc) ?_
    obtain ⟨s7, es7, hP⟩ := g_let hP
    rw [← es7]
    refine gRunN_ok hG.1 1 _ (105, [some (.ref 94), none, some (.int (l2 + 1)), none, none, none, none, none], [], (gSh, s7, u)) rfl ?_
    obtain ⟨x8, ex8, hP⟩ := g_let hP
    rw [← ex8]
    refine gRunN_ok hG.1 1 _ (87, [some (.ref 94), none, some (.int x8), none, none, none, none, none], [], (gSh, s7, u)) rfl ?_
    cases hP
    exact K1 _ _ rfl
theorem l_Model_check_87 (E : gEv) (d u : Nat) {G : gFr → Prop} {vo : Option Value} {sr : gS} (hG : gClo E gDf gP18 gY208 none (gC E gDf gMs (d + 1)) (vo, (gSh, sr, u)) G) : ∀ (n : Nat) (l2 : Int32) (σ : gS) (e : (gS)), gIter (fun z => p_Model_check_87 E z.1 z.2) n (l2, σ) = some e → (∀ (σ1 : gS), e = σ1 → G (108, [some (.ref 94), none, none, none, none, none, none, none], [], (gSh, σ1, u))) → G (87, [some (.ref 94), none, some (.int l2), none, none, none, none, none], [], (gSh, σ, u)) := by
  intro n
  induction n with
  | zero => intro l2 σ e h; cases h
  | succ n ih =>
    intro l2 σ e h K2
    rcases g_iter h with ⟨z, h1, h2⟩ | h1
    · exact b_Model_check_87 E d u hG l2 σ h1 (fun n0 n1 hz => by cases hz; exact ih _ _ e h2 K2) (fun _ hz => by cases hz)
    · exact b_Model_check_87 E d u hG l2 σ h1 (fun _ _ hz => by cases hz) (fun σ1 hz => K2 σ1 (by cases hz; rfl))
def p_Model_check_154 (E : gEv) (l2 : Int32) (l3 : Int32) (l4 : Int32) (l5 : Int32) (l6 : Int32) (σ : gS) : Option ((Int32 × Int32) ⊕ (Int32)) :=
  if l5 = 0 then (some (.inr l5)) else (if gIn l4 (σ.2.1 110) then if (σ.1 110 l4.toNatClampNeg) ≤ l6 then (some (.inr l5)) else (if gIn (((8 : Int32) * l4) + l6) (σ.2.1 111) then gLet (σ.1 111 (((8 : Int32) * l4) + l6).toNatClampNeg) fun x11 => if gIn x11 (σ.2.1 101) then if (σ.1 101 x11.toNatClampNeg) = (3 : Int32) then (if gIn x11 (σ.2.1 102) then if gIn (σ.1 102 x11.toNatClampNeg) (σ.2.1 116) then if (σ.1 116 (σ.1 102 x11.toNatClampNeg).toNatClampNeg) = 0 then (gLet (l6 + 1) fun x12 => some (.inl (0, x12))) else (gLet (l6 + 1) fun x13 => some (.inl (1, x13))) else none else none) else (gLet (l6 + 1) fun x14 => some (.inl (1, x14))) else none else none) else none)
set_option maxRecDepth 20000 in
theorem b_Model_check_154 (E : gEv) (d u : Nat) {G : gFr → Prop} {vo : Option Value} {sr : gS} (hG : gClo E gDf gP18 gY208 none (gC E gDf gMs (d + 1)) (vo, (gSh, sr, u)) G) (l2 : Int32) (l3 : Int32) (l4 : Int32) (l5 : Int32) (l6 : Int32) (σ : gS) {r : (Int32 × Int32) ⊕ (Int32)} (hP : p_Model_check_154 E l2 l3 l4 l5 l6 σ = some r) (K1 : ∀ (m5 : Int32) (m6 : Int32), r = .inl (m5, m6) → G (154, [some (.ref 94), none, some (.int l2), some (.int l3), some (.int l4), some (.int m5), some (.int m6), none], [], (gSh, σ, u))) (K2 : ∀ (m5 : Int32), r = .inr m5 → G (225, [some (.ref 94), none, some (.int l2), some (.int l3), some (.int l4), some (.int m5), none, none], [], (gSh, σ, u))) : G (154, [some (.ref 94), none, some (.int l2), some (.int l3), some (.int l4), some (.int l5), some (.int l6), none], [], (gSh, σ, u)) := by
  unfold p_Model_check_154 at hP
  refine gRunN_ok hG.1 1 _ (156, [some (.ref 94), none, some (.int l2), some (.int l3), some (.int l4), some (.int l5), some (.int l6), none], [.int l5], (gSh, σ, u)) rfl ?_
  rcases g_ite hP with ⟨hc, hP⟩ | ⟨hc, hP⟩
  · refine hG.1 _ (225, [some (.ref 94), none, some (.int l2), some (.int l3), some (.int l4), some (.int l5), some (.int l6), none], [], (gSh, σ, u)) _ rfl (if_pos hc) ?_
    refine hG.2.2.2.2.1 _ _ [some (.ref 94), none, some (.int l2), some (.int l3), some (.int l4), some (.int l5), none, none] _ _ ⟨rfl, ⟨rfl, ⟨rfl, ⟨rfl, ⟨rfl, trivial⟩⟩⟩⟩⟩ ?_
    cases hP
    exact K2 _ rfl
  · refine hG.1 _ (159, [some (.ref 94), none, some (.int l2), some (.int l3), some (.int l4), some (.int l5), some (.int l6), none], [], (gSh, σ, u)) _ rfl (if_neg hc) ?_
    refine gRunN_ok hG.1 4 _ (167, [some (.ref 94), none, some (.int l2), some (.int l3), some (.int l4), some (.int l5), some (.int l6), none], [.int l4, .ref 110, .int l6], (gSh, σ, u)) rfl ?_
    obtain ⟨hc, hP⟩ := g_if hP
    refine hG.1 _ (168, [some (.ref 94), none, some (.int l2), some (.int l3), some (.int l4), some (.int l5), some (.int l6), none], [.int (σ.1 110 l4.toNatClampNeg), .int l6], (gSh, σ, u)) _ rfl (if_pos hc) ?_
    rcases g_ite hP with ⟨hc, hP⟩ | ⟨hc, hP⟩
    · refine hG.1 _ (225, [some (.ref 94), none, some (.int l2), some (.int l3), some (.int l4), some (.int l5), some (.int l6), none], [], (gSh, σ, u)) _ rfl (if_pos hc) ?_
      refine hG.2.2.2.2.1 _ _ [some (.ref 94), none, some (.int l2), some (.int l3), some (.int l4), some (.int l5), none, none] _ _ ⟨rfl, ⟨rfl, ⟨rfl, ⟨rfl, ⟨rfl, trivial⟩⟩⟩⟩⟩ ?_
      cases hP
      exact K2 _ rfl
    · refine hG.1 _ (171, [some (.ref 94), none, some (.int l2), some (.int l3), some (.int l4), some (.int l5), some (.int l6), none], [], (gSh, σ, u)) _ rfl (if_neg hc) ?_
      refine gRunN_ok hG.1 7 _ (183, [some (.ref 94), none, some (.int l2), some (.int l3), some (.int l4), some (.int l5), some (.int l6), none], [.int (((8 : Int32) * l4) + l6), .ref 111], (gSh, σ, u)) rfl ?_
      obtain ⟨hc, hP⟩ := g_if hP
      refine hG.1 _ (184, [some (.ref 94), none, some (.int l2), some (.int l3), some (.int l4), some (.int l5), some (.int l6), none], [.int (σ.1 111 (((8 : Int32) * l4) + l6).toNatClampNeg)], (gSh, σ, u)) _ rfl (if_pos hc) ?_
      refine gRunN_ok hG.1 1 _ (186, [some (.ref 94), none, some (.int l2), some (.int l3), some (.int l4), some (.int l5), some (.int l6), some (.int (σ.1 111 (((8 : Int32) * l4) + l6).toNatClampNeg))], [], (gSh, σ, u)) rfl ?_
      obtain ⟨x11, ex11, hP⟩ := g_let hP
      rw [← ex11]
      refine gRunN_ok hG.1 3 _ (192, [some (.ref 94), none, some (.int l2), some (.int l3), some (.int l4), some (.int l5), some (.int l6), some (.int x11)], [.int x11, .ref 101], (gSh, σ, u)) rfl ?_
      obtain ⟨hc, hP⟩ := g_if hP
      refine hG.1 _ (193, [some (.ref 94), none, some (.int l2), some (.int l3), some (.int l4), some (.int l5), some (.int l6), some (.int x11)], [.int (σ.1 101 x11.toNatClampNeg)], (gSh, σ, u)) _ rfl (if_pos hc) ?_
      refine gRunN_ok hG.1 1 _ (194, [some (.ref 94), none, some (.int l2), some (.int l3), some (.int l4), some (.int l5), some (.int l6), some (.int x11)], [.int 3, .int (σ.1 101 x11.toNatClampNeg)], (gSh, σ, u)) rfl ?_
      rcases g_ite hP with ⟨hc, hP⟩ | ⟨hc, hP⟩
      · refine hG.1 _ (197, [some (.ref 94), none, some (.int l2), some (.int l3), some (.int l4), some (.int l5), some (.int l6), some (.int x11)], [], (gSh, σ, u)) _ rfl (if_pos hc) ?_
        refine gRunN_ok hG.1 5 _ (207, [some (.ref 94), none, some (.int l2), some (.int l3), some (.int l4), some (.int l5), some (.int l6), some (.int x11)], [.int x11, .ref 102, .ref 116], (gSh, σ, u)) rfl ?_
        obtain ⟨hc, hP⟩ := g_if hP
        refine hG.1 _ (208, [some (.ref 94), none, some (.int l2), some (.int l3), some (.int l4), some (.int l5), some (.int l6), some (.int x11)], [.int (σ.1 102 x11.toNatClampNeg), .ref 116], (gSh, σ, u)) _ rfl (if_pos hc) ?_
        obtain ⟨hc, hP⟩ := g_if hP
        refine hG.1 _ (209, [some (.ref 94), none, some (.int l2), some (.int l3), some (.int l4), some (.int l5), some (.int l6), some (.int x11)], [.int (σ.1 116 (σ.1 102 x11.toNatClampNeg).toNatClampNeg)], (gSh, σ, u)) _ rfl (if_pos hc) ?_
        rcases g_ite hP with ⟨hc, hP⟩ | ⟨hc, hP⟩
        · refine hG.1 _ (216, [some (.ref 94), none, some (.int l2), some (.int l3), some (.int l4), some (.int l5), some (.int l6), some (.int x11)], [], (gSh, σ, u)) _ rfl (if_pos hc) ?_
          refine gRunN_ok hG.1 3 _ (222, [some (.ref 94), none, some (.int l2), some (.int l3), some (.int l4), some (.int 0), some (.int (l6 + 1)), some (.int x11)], [], (gSh, σ, u)) rfl ?_
          obtain ⟨x12, ex12, hP⟩ := g_let hP
          rw [← ex12]
          refine gRunN_ok hG.1 1 _ (154, [some (.ref 94), none, some (.int l2), some (.int l3), some (.int l4), some (.int 0), some (.int x12), some (.int x11)], [], (gSh, σ, u)) rfl ?_
          refine hG.2.2.2.2.1 _ _ [some (.ref 94), none, some (.int l2), some (.int l3), some (.int l4), some (.int 0), some (.int x12), none] _ _ ⟨rfl, ⟨rfl, ⟨rfl, ⟨rfl, ⟨rfl, ⟨rfl, trivial⟩⟩⟩⟩⟩⟩ ?_
          cases hP
          exact K1 _ _ rfl
        · refine hG.1 _ (212, [some (.ref 94), none, some (.int l2), some (.int l3), some (.int l4), some (.int l5), some (.int l6), some (.int x11)], [], (gSh, σ, u)) _ rfl (if_neg hc) ?_
          refine gRunN_ok hG.1 4 _ (222, [some (.ref 94), none, some (.int l2), some (.int l3), some (.int l4), some (.int 1), some (.int (l6 + 1)), some (.int x11)], [], (gSh, σ, u)) rfl ?_
          obtain ⟨x13, ex13, hP⟩ := g_let hP
          rw [← ex13]
          refine gRunN_ok hG.1 1 _ (154, [some (.ref 94), none, some (.int l2), some (.int l3), some (.int l4), some (.int 1), some (.int x13), some (.int x11)], [], (gSh, σ, u)) rfl ?_
          refine hG.2.2.2.2.1 _ _ [some (.ref 94), none, some (.int l2), some (.int l3), some (.int l4), some (.int 1), some (.int x13), none] _ _ ⟨rfl, ⟨rfl, ⟨rfl, ⟨rfl, ⟨rfl, ⟨rfl, trivial⟩⟩⟩⟩⟩⟩ ?_
          cases hP
          exact K1 _ _ rfl
      · refine hG.1 _ (212, [some (.ref 94), none, some (.int l2), some (.int l3), some (.int l4), some (.int l5), some (.int l6), some (.int x11)], [], (gSh, σ, u)) _ rfl (if_neg hc) ?_
        refine gRunN_ok hG.1 4 _ (222, [some (.ref 94), none, some (.int l2), some (.int l3), some (.int l4), some (.int 1), some (.int (l6 + 1)), some (.int x11)], [], (gSh, σ, u)) rfl ?_
        obtain ⟨x14, ex14, hP⟩ := g_let hP
        rw [← ex14]
        refine gRunN_ok hG.1 1 _ (154, [some (.ref 94), none, some (.int l2), some (.int l3), some (.int l4), some (.int 1), some (.int x14), some (.int x11)], [], (gSh, σ, u)) rfl ?_
        refine hG.2.2.2.2.1 _ _ [some (.ref 94), none, some (.int l2), some (.int l3), some (.int l4), some (.int 1), some (.int x14), none] _ _ ⟨rfl, ⟨rfl, ⟨rfl, ⟨rfl, ⟨rfl, ⟨rfl, trivial⟩⟩⟩⟩⟩⟩ ?_
        cases hP
        exact K1 _ _ rfl
theorem l_Model_check_154 (E : gEv) (d u : Nat) {G : gFr → Prop} {vo : Option Value} {sr : gS} (hG : gClo E gDf gP18 gY208 none (gC E gDf gMs (d + 1)) (vo, (gSh, sr, u)) G) (l2 : Int32) (l3 : Int32) (l4 : Int32) (σ : gS) : ∀ (n : Nat) (l5 : Int32) (l6 : Int32) (e : (Int32)), gIter (fun z => p_Model_check_154 E l2 l3 l4 z.1 z.2 σ) n (l5, l6) = some e → (∀ (m5 : Int32), e = m5 → G (225, [some (.ref 94), none, some (.int l2), some (.int l3), some (.int l4), some (.int m5), none, none], [], (gSh, σ, u))) → G (154, [some (.ref 94), none, some (.int l2), some (.int l3), some (.int l4), some (.int l5), some (.int l6), none], [], (gSh, σ, u)) := by
  intro n
  induction n with
  | zero => intro l5 l6 e h; cases h
  | succ n ih =>
    intro l5 l6 e h K2
    rcases g_iter h with ⟨z, h1, h2⟩ | h1
    · exact b_Model_check_154 E d u hG l2 l3 l4 l5 l6 σ h1 (fun n0 n1 hz => by cases hz; exact ih _ _ e h2 K2) (fun _ hz => by cases hz)
    · exact b_Model_check_154 E d u hG l2 l3 l4 l5 l6 σ h1 (fun _ _ hz => by cases hz) (fun m5 hz => K2 m5 (by cases hz; rfl))
def p_Model_check_j225_121 (E : gEv) (l2 : Int32) (l3 : Int32) (l4 : Int32) (l5 : Int32) (σ : gS) : Option ((Int32 × Int32 × Int32 × gS) ⊕ (Int32 × Int32 × gS)) :=
  if l5 = 0 then (gLet (l4 + 1) fun x17 => some (.inl (l2, l3, x17, σ))) else (if gIn l4 (σ.2.1 116) then gLet (gPut σ 116 l4.toNatClampNeg (vp_nar .boolean 1)) fun s18 => if gIn l2 (s18.2.1 115) then gLet (gPut s18 115 l2.toNatClampNeg l4) fun s19 => gLet (l2 + 1) fun x20 => gLet (l4 + 1) fun x21 => some (.inl (x20, 1, x21, s19)) else none else none)
set_option maxRecDepth 20000 in
theorem j_Model_check_j225_121 (E : gEv) (d u : Nat) {G : gFr → Prop} {vo : Option Value} {sr : gS} (hG : gClo E gDf gP18 gY208 none (gC E gDf gMs (d + 1)) (vo, (gSh, sr, u)) G) (l2 : Int32) (l3 : Int32) (l4 : Int32) (l5 : Int32) (σ : gS) {r : (Int32 × Int32 × Int32 × gS) ⊕ (Int32 × Int32 × gS)} (hP : p_Model_check_j225_121 E l2 l3 l4 l5 σ = some r) (K1 : ∀ (m2 : Int32) (m3 : Int32) (m4 : Int32) (σ1 : gS), r = .inl (m2, m3, m4, σ1) → G (121, [some (.ref 94), none, some (.int m2), some (.int m3), some (.int m4), none, none, none], [], (gSh, σ1, u))) (K2 : ∀ (m2 : Int32) (m3 : Int32) (σ1 : gS), r = .inr (m2, m3, σ1) → G (257, [some (.ref 94), none, some (.int m2), some (.int m3), none, none, none, none], [], (gSh, σ1, u))) : G (225, [some (.ref 94), none, some (.int l2), some (.int l3), some (.int l4), some (.int l5), none, none], [], (gSh, σ, u)) := by
  unfold p_Model_check_j225_121 at hP
  refine gRunN_ok hG.1 1 _ (227, [some (.ref 94), none, some (.int l2), some (.int l3), some (.int l4), some (.int l5), none, none], [.int l5], (gSh, σ, u)) rfl ?_
  rcases g_ite hP with ⟨hc, hP⟩ | ⟨hc, hP⟩
  · refine hG.1 _ (251, [some (.ref 94), none, some (.int l2), some (.int l3), some (.int l4), some (.int l5), none, none], [], (gSh, σ, u)) _ rfl (if_pos hc) ?_
    refine gRunN_ok hG.1 1 _ (254, [some (.ref 94), none, some (.int l2), some (.int l3), some (.int (l4 + 1)), some (.int l5), none, none], [], (gSh, σ, u)) rfl ?_
    obtain ⟨x17, ex17, hP⟩ := g_let hP
    rw [← ex17]
    refine gRunN_ok hG.1 1 _ (121, [some (.ref 94), none, some (.int l2), some (.int l3), some (.int x17), some (.int l5), none, none], [], (gSh, σ, u)) rfl ?_
    refine hG.2.2.2.2.1 _ _ [some (.ref 94), none, some (.int l2), some (.int l3), some (.int x17), none, none, none] _ _ ⟨rfl, ⟨rfl, ⟨rfl, ⟨rfl, trivial⟩⟩⟩⟩ ?_
    cases hP
    exact K1 _ _ _ _ rfl
  · refine hG.1 _ (230, [some (.ref 94), none, some (.int l2), some (.int l3), some (.int l4), some (.int l5), none, none], [], (gSh, σ, u)) _ rfl (if_neg hc) ?_
    refine gRunN_ok hG.1 4 _ (237, [some (.ref 94), none, some (.int l2), some (.int l3), some (.int l4), some (.int l5), none, none], [.int 1, .int l4, .ref 116], (gSh, σ, u)) rfl ?_
    obtain ⟨hc, hP⟩ := g_if hP
    refine hG.1 _ (238, [some (.ref 94), none, some (.int l2), some (.int l3), some (.int l4), some (.int l5), none, none], [], (gSh, (gPut σ 116 l4.toNatClampNeg (vp_nar .boolean 1)), u)) _ rfl (if_pos hc) ?_
    obtain ⟨s18, es18, hP⟩ := g_let hP
    rw [← es18]
    refine gRunN_ok hG.1 4 _ (245, [some (.ref 94), none, some (.int l2), some (.int l3), some (.int l4), some (.int l5), none, none], [.int l4, .int l2, .ref 115], (gSh, s18, u)) rfl ?_
    obtain ⟨hc, hP⟩ := g_if hP
    refine hG.1 _ (246, [some (.ref 94), none, some (.int l2), some (.int l3), some (.int l4), some (.int l5), none, none], [], (gSh, (gPut s18 115 l2.toNatClampNeg l4), u)) _ rfl (if_pos hc) ?_
    obtain ⟨s19, es19, hP⟩ := g_let hP
    rw [← es19]
    refine gRunN_ok hG.1 1 _ (249, [some (.ref 94), none, some (.int (l2 + 1)), some (.int l3), some (.int l4), some (.int l5), none, none], [], (gSh, s19, u)) rfl ?_
    obtain ⟨x20, ex20, hP⟩ := g_let hP
    rw [← ex20]
    refine gRunN_ok hG.1 3 _ (254, [some (.ref 94), none, some (.int x20), some (.int 1), some (.int (l4 + 1)), some (.int l5), none, none], [], (gSh, s19, u)) rfl ?_
    obtain ⟨x21, ex21, hP⟩ := g_let hP
    rw [← ex21]
    refine gRunN_ok hG.1 1 _ (121, [some (.ref 94), none, some (.int x20), some (.int 1), some (.int x21), some (.int l5), none, none], [], (gSh, s19, u)) rfl ?_
    refine hG.2.2.2.2.1 _ _ [some (.ref 94), none, some (.int x20), some (.int 1), some (.int x21), none, none, none] _ _ ⟨rfl, ⟨rfl, ⟨rfl, ⟨rfl, trivial⟩⟩⟩⟩ ?_
    cases hP
    exact K1 _ _ _ _ rfl
def p_Model_check_j149_121 (E : gEv) (l2 : Int32) (l3 : Int32) (l4 : Int32) (y0 : Int32) (σ : gS) : Option ((Int32 × Int32 × Int32 × gS) ⊕ (Int32 × Int32 × gS)) :=
  gB1 (gIter (fun z => p_Model_check_154 E l2 l3 l4 z.1 z.2 σ) gN (y0, 0)) fun e15 => (fun w16 => p_Model_check_j225_121 E l2 l3 l4 w16 σ) e15
set_option maxRecDepth 20000 in
theorem j_Model_check_j149_121 (E : gEv) (d u : Nat) {G : gFr → Prop} {vo : Option Value} {sr : gS} (hG : gClo E gDf gP18 gY208 none (gC E gDf gMs (d + 1)) (vo, (gSh, sr, u)) G) (l2 : Int32) (l3 : Int32) (l4 : Int32) (y0 : Int32) (σ : gS) {r : (Int32 × Int32 × Int32 × gS) ⊕ (Int32 × Int32 × gS)} (hP : p_Model_check_j149_121 E l2 l3 l4 y0 σ = some r) (K1 : ∀ (m2 : Int32) (m3 : Int32) (m4 : Int32) (σ1 : gS), r = .inl (m2, m3, m4, σ1) → G (121, [some (.ref 94), none, some (.int m2), some (.int m3), some (.int m4), none, none, none], [], (gSh, σ1, u))) (K2 : ∀ (m2 : Int32) (m3 : Int32) (σ1 : gS), r = .inr (m2, m3, σ1) → G (257, [some (.ref 94), none, some (.int m2), some (.int m3), none, none, none, none], [], (gSh, σ1, u))) : G (149, [some (.ref 94), none, some (.int l2), some (.int l3), some (.int l4), none, none, none], [.int y0], (gSh, σ, u)) := by
  unfold p_Model_check_j149_121 at hP
  refine gRunN_ok hG.1 3 _ (154, [some (.ref 94), none, some (.int l2), some (.int l3), some (.int l4), some (.int y0), some (.int 0), none], [], (gSh, σ, u)) rfl ?_
  obtain ⟨e15, hq, hP⟩ := g_b1 hP
  refine l_Model_check_154 E d u hG l2 l3 l4 σ gN y0 0 _ hq (fun w16 he => ?_)
  · replace he := he.symm
    subst he
    try dsimp only [gSum] at hP
    exact j_Model_check_j225_121 E d u hG l2 l3 l4 w16 σ hP K1 K2
def p_Model_check_121 (E : gEv) (l2 : Int32) (l3 : Int32) (l4 : Int32) (σ : gS) : Option ((Int32 × Int32 × Int32 × gS) ⊕ (Int32 × Int32 × gS)) :=
  if (σ.1 94 32) ≤ l4 then (some (.inr (l2, l3, σ))) else (if l3 = 0 then (if gIn l4 (σ.2.1 116) then if (σ.1 116 l4.toNatClampNeg) = 0 then (p_Model_check_j149_121 E l2 l3 l4 1 σ) else (p_Model_check_j149_121 E l2 l3 l4 0 σ) else none) else (some (.inr (l2, l3, σ))))
set_option maxRecDepth 20000 in
theorem b_Model_check_121 (E : gEv) (d u : Nat) {G : gFr → Prop} {vo : Option Value} {sr : gS} (hG : gClo E gDf gP18 gY208 none (gC E gDf gMs (d + 1)) (vo, (gSh, sr, u)) G) (l2 : Int32) (l3 : Int32) (l4 : Int32) (σ : gS) {r : (Int32 × Int32 × Int32 × gS) ⊕ (Int32 × Int32 × gS)} (hP : p_Model_check_121 E l2 l3 l4 σ = some r) (K1 : ∀ (m2 : Int32) (m3 : Int32) (m4 : Int32) (σ1 : gS), r = .inl (m2, m3, m4, σ1) → G (121, [some (.ref 94), none, some (.int m2), some (.int m3), some (.int m4), none, none, none], [], (gSh, σ1, u))) (K2 : ∀ (m2 : Int32) (m3 : Int32) (σ1 : gS), r = .inr (m2, m3, σ1) → G (257, [some (.ref 94), none, some (.int m2), some (.int m3), none, none, none, none], [], (gSh, σ1, u))) : G (121, [some (.ref 94), none, some (.int l2), some (.int l3), some (.int l4), none, none, none], [], (gSh, σ, u)) := by
  unfold p_Model_check_121 at hP
  refine gRunN_ok hG.1 3 _ (127, [some (.ref 94), none, some (.int l2), some (.int l3), some (.int l4), none, none, none], [.int (σ.1 94 32), .int l4], (gSh, σ, u)) rfl ?_
  rcases g_ite hP with ⟨hc, hP⟩ | ⟨hc, hP⟩
  · refine hG.1 _ (257, [some (.ref 94), none, some (.int l2), some (.int l3), some (.int l4), none, none, none], [], (gSh, σ, u)) _ rfl (if_pos hc) ?_
    refine hG.2.2.2.2.1 _ _ [some (.ref 94), none, some (.int l2), some (.int l3), none, none, none, none] _ _ ⟨rfl, ⟨rfl, ⟨rfl, trivial⟩⟩⟩ ?_
    cases hP
    exact K2 _ _ _ rfl
  · refine hG.1 _ (130, [some (.ref 94), none, some (.int l2), some (.int l3), some (.int l4), none, none, none], [], (gSh, σ, u)) _ rfl (if_neg hc) ?_
    refine gRunN_ok hG.1 1 _ (131, [some (.ref 94), none, some (.int l2), some (.int l3), some (.int l4), none, none, none], [.int l3], (gSh, σ, u)) rfl ?_
    rcases g_ite hP with ⟨hc, hP⟩ | ⟨hc, hP⟩
    · refine hG.1 _ (134, [some (.ref 94), none, some (.int l2), some (.int l3), some (.int l4), none, none, none], [], (gSh, σ, u)) _ rfl (if_pos hc) ?_
      refine gRunN_ok hG.1 3 _ (140, [some (.ref 94), none, some (.int l2), some (.int l3), some (.int l4), none, none, none], [.int l4, .ref 116], (gSh, σ, u)) rfl ?_
      obtain ⟨hc, hP⟩ := g_if hP
      refine hG.1 _ (141, [some (.ref 94), none, some (.int l2), some (.int l3), some (.int l4), none, none, none], [.int (σ.1 116 l4.toNatClampNeg)], (gSh, σ, u)) _ rfl (if_pos hc) ?_
      rcases g_ite hP with ⟨hc, hP⟩ | ⟨hc, hP⟩
      · refine hG.1 _ (144, [some (.ref 94), none, some (.int l2), some (.int l3), some (.int l4), none, none, none], [], (gSh, σ, u)) _ rfl (if_pos hc) ?_
        refine gRunN_ok hG.1 2 _ (149, [some (.ref 94), none, some (.int l2), some (.int l3), some (.int l4), none, none, none], [.int 1], (gSh, σ, u)) rfl ?_
        exact j_Model_check_j149_121 E d u hG l2 l3 l4 1 σ hP K1 K2
      · refine hG.1 _ (148, [some (.ref 94), none, some (.int l2), some (.int l3), some (.int l4), none, none, none], [], (gSh, σ, u)) _ rfl (if_neg hc) ?_
        refine gRunN_ok hG.1 1 _ (149, [some (.ref 94), none, some (.int l2), some (.int l3), some (.int l4), none, none, none], [.int 0], (gSh, σ, u)) rfl ?_
        exact j_Model_check_j149_121 E d u hG l2 l3 l4 0 σ hP K1 K2
    · refine hG.1 _ (257, [some (.ref 94), none, some (.int l2), some (.int l3), some (.int l4), none, none, none], [], (gSh, σ, u)) _ rfl (if_neg hc) ?_
      refine hG.2.2.2.2.1 _ _ [some (.ref 94), none, some (.int l2), some (.int l3), none, none, none, none] _ _ ⟨rfl, ⟨rfl, ⟨rfl, trivial⟩⟩⟩ ?_
      cases hP
      exact K2 _ _ _ rfl
theorem l_Model_check_121 (E : gEv) (d u : Nat) {G : gFr → Prop} {vo : Option Value} {sr : gS} (hG : gClo E gDf gP18 gY208 none (gC E gDf gMs (d + 1)) (vo, (gSh, sr, u)) G) : ∀ (n : Nat) (l2 : Int32) (l3 : Int32) (l4 : Int32) (σ : gS) (e : (Int32 × Int32 × gS)), gIter (fun z => p_Model_check_121 E z.1 z.2.1 z.2.2.1 z.2.2.2) n (l2, l3, l4, σ) = some e → (∀ (m2 : Int32) (m3 : Int32) (σ1 : gS), e = (m2, m3, σ1) → G (257, [some (.ref 94), none, some (.int m2), some (.int m3), none, none, none, none], [], (gSh, σ1, u))) → G (121, [some (.ref 94), none, some (.int l2), some (.int l3), some (.int l4), none, none, none], [], (gSh, σ, u)) := by
  intro n
  induction n with
  | zero => intro l2 l3 l4 σ e h; cases h
  | succ n ih =>
    intro l2 l3 l4 σ e h K2
    rcases g_iter h with ⟨z, h1, h2⟩ | h1
    · exact b_Model_check_121 E d u hG l2 l3 l4 σ h1 (fun n0 n1 n2 n3 hz => by cases hz; exact ih _ _ _ _ e h2 K2) (fun _ _ _ hz => by cases hz)
    · exact b_Model_check_121 E d u hG l2 l3 l4 σ h1 (fun _ _ _ _ hz => by cases hz) (fun m2 m3 σ1 hz => K2 m2 m3 σ1 (by cases hz; rfl))
def p_Model_check_112 (E : gEv) (l2 : Int32) (l3 : Int32) (σ : gS) : Option ((Int32 × Int32 × gS) ⊕ (gS)) :=
  if l3 = 0 then (some (.inr σ)) else (gB1 (gIter (fun z => p_Model_check_121 E z.1 z.2.1 z.2.2.1 z.2.2.2) gN (l2, 0, 0, σ)) fun e22 => (fun w23 w24 s25 => some (.inl (w23, w24, s25))) e22.1 e22.2.1 e22.2.2)
set_option maxRecDepth 20000 in
theorem b_Model_check_112 (E : gEv) (d u : Nat) {G : gFr → Prop} {vo : Option Value} {sr : gS} (hG : gClo E gDf gP18 gY208 none (gC E gDf gMs (d + 1)) (vo, (gSh, sr, u)) G) (l2 : Int32) (l3 : Int32) (σ : gS) {r : (Int32 × Int32 × gS) ⊕ (gS)} (hP : p_Model_check_112 E l2 l3 σ = some r) (K1 : ∀ (m2 : Int32) (m3 : Int32) (σ1 : gS), r = .inl (m2, m3, σ1) → G (112, [some (.ref 94), none, some (.int m2), some (.int m3), none, none, none, none], [], (gSh, σ1, u))) (K2 : ∀ (σ1 : gS), r = .inr σ1 → G (260, [some (.ref 94), none, none, none, none, none, none, none], [], (gSh, σ1, u))) : G (112, [some (.ref 94), none, some (.int l2), some (.int l3), none, none, none, none], [], (gSh, σ, u)) := by
  unfold p_Model_check_112 at hP
  refine gRunN_ok hG.1 1 _ (113, [some (.ref 94), none, some (.int l2), some (.int l3), none, none, none, none], [.int l3], (gSh, σ, u)) rfl ?_
  rcases g_ite hP with ⟨hc, hP⟩ | ⟨hc, hP⟩
  · refine hG.1 _ (260, [some (.ref 94), none, some (.int l2), some (.int l3), none, none, none, none], [], (gSh, σ, u)) _ rfl (if_pos hc) ?_
    refine hG.2.2.2.2.1 _ _ [some (.ref 94), none, none, none, none, none, none, none] _ _ ⟨rfl, trivial⟩ ?_
    cases hP
    exact K2 _ rfl
  · refine hG.1 _ (116, [some (.ref 94), none, some (.int l2), some (.int l3), none, none, none, none], [], (gSh, σ, u)) _ rfl (if_neg hc) ?_
    refine gRunN_ok hG.1 4 _ (121, [some (.ref 94), none, some (.int l2), some (.int 0), some (.int 0), none, none, none], [], (gSh, σ, u)) rfl ?_
    obtain ⟨e22, hq, hP⟩ := g_b1 hP
    refine l_Model_check_121 E d u hG gN l2 0 0 σ _ hq (fun w23 w24 s25 he => ?_)
    · subst he
      try dsimp only [gSum] at hP
      refine gRunN_ok hG.1 1 _ (112, [some (.ref 94), none, some (.int w23), some (.int w24), none, none, none, none], [], (gSh, s25, u)) rfl ?_
      cases hP
      exact K1 _ _ _ rfl
theorem l_Model_check_112 (E : gEv) (d u : Nat) {G : gFr → Prop} {vo : Option Value} {sr : gS} (hG : gClo E gDf gP18 gY208 none (gC E gDf gMs (d + 1)) (vo, (gSh, sr, u)) G) : ∀ (n : Nat) (l2 : Int32) (l3 : Int32) (σ : gS) (e : (gS)), gIter (fun z => p_Model_check_112 E z.1 z.2.1 z.2.2) n (l2, l3, σ) = some e → (∀ (σ1 : gS), e = σ1 → G (260, [some (.ref 94), none, none, none, none, none, none, none], [], (gSh, σ1, u))) → G (112, [some (.ref 94), none, some (.int l2), some (.int l3), none, none, none, none], [], (gSh, σ, u)) := by
  intro n
  induction n with
  | zero => intro l2 l3 σ e h; cases h
  | succ n ih =>
    intro l2 l3 σ e h K2
    rcases g_iter h with ⟨z, h1, h2⟩ | h1
    · exact b_Model_check_112 E d u hG l2 l3 σ h1 (fun n0 n1 n2 hz => by cases hz; exact ih _ _ _ e h2 K2) (fun _ hz => by cases hz)
    · exact b_Model_check_112 E d u hG l2 l3 σ h1 (fun _ _ _ hz => by cases hz) (fun σ1 hz => K2 σ1 (by cases hz; rfl))
def p_Model_check_263 (E : gEv) (l4 : Int32) (σ : gS) : Option ((Int32 × gS) ⊕ (gS)) :=
  if (σ.1 94 32) ≤ l4 then (some (.inr σ)) else (if gIn l4 (σ.2.1 116) then if (σ.1 116 l4.toNatClampNeg) = 0 then (if gIn l4 (σ.2.1 109) then gB1 (p_Model_fail E 5 (σ.1 109 l4.toNatClampNeg) σ) fun s29 => gLet (l4 + 1) fun x30 => some (.inl (x30, s29)) else none) else (gLet (l4 + 1) fun x31 => some (.inl (x31, σ))) else none)
set_option maxRecDepth 20000 in
theorem b_Model_check_263 (E : gEv) (d u : Nat) {G : gFr → Prop} {vo : Option Value} {sr : gS} (hG : gClo E gDf gP18 gY208 none (gC E gDf gMs (d + 1)) (vo, (gSh, sr, u)) G) (l4 : Int32) (σ : gS) {r : (Int32 × gS) ⊕ (gS)} (hP : p_Model_check_263 E l4 σ = some r) (K1 : ∀ (m4 : Int32) (σ1 : gS), r = .inl (m4, σ1) → G (263, [some (.ref 94), none, none, none, some (.int m4), none, none, none], [], (gSh, σ1, u))) (K2 : ∀ (σ1 : gS), r = .inr σ1 → G (300, [none, none, none, none, none, none, none, none], [], (gSh, σ1, u))) : G (263, [some (.ref 94), none, none, none, some (.int l4), none, none, none], [], (gSh, σ, u)) := by
  unfold p_Model_check_263 at hP
  refine gRunN_ok hG.1 3 _ (269, [some (.ref 94), none, none, none, some (.int l4), none, none, none], [.int (σ.1 94 32), .int l4], (gSh, σ, u)) rfl ?_
  rcases g_ite hP with ⟨hc, hP⟩ | ⟨hc, hP⟩
  · refine hG.1 _ (300, [some (.ref 94), none, none, none, some (.int l4), none, none, none], [], (gSh, σ, u)) _ rfl (if_pos hc) ?_
    refine hG.2.2.2.2.1 _ _ [none, none, none, none, none, none, none, none] _ _ trivial ?_
    cases hP
    exact K2 _ rfl
  · refine hG.1 _ (272, [some (.ref 94), none, none, none, some (.int l4), none, none, none], [], (gSh, σ, u)) _ rfl (if_neg hc) ?_
    refine gRunN_ok hG.1 3 _ (278, [some (.ref 94), none, none, none, some (.int l4), none, none, none], [.int l4, .ref 116], (gSh, σ, u)) rfl ?_
    obtain ⟨hc, hP⟩ := g_if hP
    refine hG.1 _ (279, [some (.ref 94), none, none, none, some (.int l4), none, none, none], [.int (σ.1 116 l4.toNatClampNeg)], (gSh, σ, u)) _ rfl (if_pos hc) ?_
    rcases g_ite hP with ⟨hc, hP⟩ | ⟨hc, hP⟩
    · refine hG.1 _ (282, [some (.ref 94), none, none, none, some (.int l4), none, none, none], [], (gSh, σ, u)) _ rfl (if_pos hc) ?_
      refine gRunN_ok hG.1 5 _ (290, [some (.ref 94), none, none, none, some (.int l4), none, none, none], [.int l4, .ref 109, .int 5, .ref 94], (gSh, σ, u)) rfl ?_
      obtain ⟨hc, hP⟩ := g_if hP
      refine hG.1 _ (291, [some (.ref 94), none, none, none, some (.int l4), none, none, none], [.int (σ.1 109 l4.toNatClampNeg), .int 5, .ref 94], (gSh, σ, u)) _ rfl (if_pos hc) ?_
      obtain ⟨s29, hq, hP⟩ := g_b1 hP
      refine hG.2.2.2.1 _ _ _ [.ref 94, .int 5, .int (σ.1 109 l4.toNatClampNeg)] [] _ (gSh, s29, u) none _ _ _ _ _ _ rfl rfl rfl rfl rfl rfl (c_Model_fail E (d + 0) u 5 (σ.1 109 l4.toNatClampNeg) _  hq) (Nat.le_refl _) (Nat.le_refl _) (Nat.le_refl _) (Nat.le_refl _) ?_
      show G (294, [some (.ref 94), none, none, none, some (.int l4), none, none, none], [], (gSh, s29, u))
      refine gRunN_ok hG.1 1 _ (297, [some (.ref 94), none, none, none, some (.int (l4 + 1)), none, none, none], [], (gSh, s29, u)) rfl ?_
      obtain ⟨x30, ex30, hP⟩ := g_let hP
      rw [← ex30]
      refine gRunN_ok hG.1 1 _ (263, [some (.ref 94), none, none, none, some (.int x30), none, none, none], [], (gSh, s29, u)) rfl ?_
      cases hP
      exact K1 _ _ rfl
    · refine hG.1 _ (294, [some (.ref 94), none, none, none, some (.int l4), none, none, none], [], (gSh, σ, u)) _ rfl (if_neg hc) ?_
      refine gRunN_ok hG.1 1 _ (297, [some (.ref 94), none, none, none, some (.int (l4 + 1)), none, none, none], [], (gSh, σ, u)) rfl ?_
      obtain ⟨x31, ex31, hP⟩ := g_let hP
      rw [← ex31]
      refine gRunN_ok hG.1 1 _ (263, [some (.ref 94), none, none, none, some (.int x31), none, none, none], [], (gSh, σ, u)) rfl ?_
      cases hP
      exact K1 _ _ rfl
theorem l_Model_check_263 (E : gEv) (d u : Nat) {G : gFr → Prop} {vo : Option Value} {sr : gS} (hG : gClo E gDf gP18 gY208 none (gC E gDf gMs (d + 1)) (vo, (gSh, sr, u)) G) : ∀ (n : Nat) (l4 : Int32) (σ : gS) (e : (gS)), gIter (fun z => p_Model_check_263 E z.1 z.2) n (l4, σ) = some e → (∀ (σ1 : gS), e = σ1 → G (300, [none, none, none, none, none, none, none, none], [], (gSh, σ1, u))) → G (263, [some (.ref 94), none, none, none, some (.int l4), none, none, none], [], (gSh, σ, u)) := by
  intro n
  induction n with
  | zero => intro l4 σ e h; cases h
  | succ n ih =>
    intro l4 σ e h K2
    rcases g_iter h with ⟨z, h1, h2⟩ | h1
    · exact b_Model_check_263 E d u hG l4 σ h1 (fun n0 n1 hz => by cases hz; exact ih _ _ e h2 K2) (fun _ hz => by cases hz)
    · exact b_Model_check_263 E d u hG l4 σ h1 (fun _ _ hz => by cases hz) (fun σ1 hz => K2 σ1 (by cases hz; rfl))
def p_Model_check (E : gEv) (σ : gS) : Option (gS) :=
  gB1 (gIter (fun z => p_Model_check_4 E z.1 z.2 σ) gN ((-1), 0)) fun e5 => (fun w6 => if w6 = ((-1) : Int32) then (gB1 (gIter (fun z => p_Model_check_87 E z.1 z.2) gN (0, σ)) fun e9 => (fun s10 => gB1 (gIter (fun z => p_Model_check_112 E z.1 z.2.1 z.2.2) gN (0, 1, s10)) fun e26 => (fun s27 => gB1 (gIter (fun z => p_Model_check_263 E z.1 z.2) gN (0, s27)) fun e32 => (fun s33 => some s33) e32) e26) e9) else (gB1 (p_Model_fail E 4 w6 σ) fun s35 => some s35)) e5
set_option maxRecDepth 20000 in
theorem c_Model_check (E : gEv) (d u : Nat) (σ : gS) {sr : gS}  (hq : p_Model_check E σ = some sr) : gC E gDf gMs (d + 2) 208 [.ref 94] (gSh, σ, u) (none, (gSh, sr, u)) := ⟨gM208, rfl, Nat.le_of_ble_eq_true rfl, fun G hG => by
  have hP := hq
  unfold p_Model_check at hP
  replace hG : gClo E gDf gP18 gY208 none (gC E gDf gMs (d + 1)) (none, (gSh, sr, u)) G := hG
  show G (0, [some (.ref 94), none, none, none, none, none, none, none], [], (gSh, σ, u))
  refine gRunN_ok hG.1 4 _ (4, [some (.ref 94), some (.int (-1)), some (.int 0), none, none, none, none, none], [], (gSh, σ, u)) rfl ?_
  obtain ⟨e5, hq, hP⟩ := g_b1 hP
  refine l_Model_check_4 E d u hG σ gN (-1) 0 _ hq (fun w6 he => ?_)
  · replace he := he.symm
    subst he
    try dsimp only [gSum] at hP
    refine gRunN_ok hG.1 2 _ (75, [some (.ref 94), some (.int w6), none, none, none, none, none, none], [.int (-1), .int w6], (gSh, σ, u)) rfl ?_
    rcases g_ite hP with ⟨hc, hP⟩ | ⟨hc, hP⟩
    · refine hG.1 _ (85, [some (.ref 94), some (.int w6), none, none, none, none, none, none], [], (gSh, σ, u)) _ rfl (if_pos hc) ?_
      refine gRunN_ok hG.1 2 _ (87, [some (.ref 94), some (.int w6), some (.int 0), none, none, none, none, none], [], (gSh, σ, u)) rfl ?_
      refine hG.2.2.2.2.1 _ _ [some (.ref 94), none, some (.int 0), none, none, none, none, none] _ _ ⟨rfl, ⟨rfl, trivial⟩⟩ ?_
      obtain ⟨e9, hq, hP⟩ := g_b1 hP
      refine l_Model_check_87 E d u hG gN 0 σ _ hq (fun s10 he => ?_)
      · replace he := he.symm
        subst he
        try dsimp only [gSum] at hP
        refine gRunN_ok hG.1 4 _ (112, [some (.ref 94), none, some (.int 0), some (.int 1), none, none, none, none], [], (gSh, s10, u)) rfl ?_
        obtain ⟨e26, hq, hP⟩ := g_b1 hP
        refine l_Model_check_112 E d u hG gN 0 1 s10 _ hq (fun s27 he => ?_)
        · replace he := he.symm
          subst he
          try dsimp only [gSum] at hP
          refine gRunN_ok hG.1 2 _ (263, [some (.ref 94), none, none, none, some (.int 0), none, none, none], [], (gSh, s27, u)) rfl ?_
          obtain ⟨e32, hq, hP⟩ := g_b1 hP
          refine l_Model_check_263 E d u hG gN 0 s27 _ hq (fun s33 he => ?_)
          · replace he := he.symm
            subst he
            try dsimp only [gSum] at hP
            cases hP
            exact hG.2.1 _ _ rfl rfl
    · refine hG.1 _ (78, [some (.ref 94), some (.int w6), none, none, none, none, none, none], [], (gSh, σ, u)) _ rfl (if_neg hc) ?_
      refine gRunN_ok hG.1 3 _ (81, [some (.ref 94), some (.int w6), none, none, none, none, none, none], [.int w6, .int 4, .ref 94], (gSh, σ, u)) rfl ?_
      obtain ⟨s35, hq, hP⟩ := g_b1 hP
      refine hG.2.2.2.1 _ _ _ [.ref 94, .int 4, .int w6] [] _ (gSh, s35, u) none _ _ _ _ _ _ rfl rfl rfl rfl rfl rfl (c_Model_fail E (d + 0) u 4 w6 _  hq) (Nat.le_refl _) (Nat.le_refl _) (Nat.le_refl _) (Nat.le_refl _) ?_
      show G (84, [some (.ref 94), some (.int w6), none, none, none, none, none, none], [], (gSh, s35, u))
      cases hP
      exact hG.2.1 _ _ rfl rfl⟩
def p_Model_small_12 (E : gEv) (l1 : Int32) (l2 : Int32) (l3 : Int32) (l4 : Int32) (σ : gS) : Option ((Int32 × Int32) ⊕ (Int32)) :=
  if (16 : Int32) ≤ l4 then (some (.inr l3)) else (if gIn (((256 : Int32) * l1) + (l4 &&& (((1 : Int32) <<< (l2 &&& 31)) - (1 : Int32)))) (σ.2.1 120) then if (σ.1 120 (((256 : Int32) * l1) + (l4 &&& (((1 : Int32) <<< (l2 &&& 31)) - (1 : Int32)))).toNatClampNeg) = 0 then (gLet (l3 ||| (0 : Int32)) fun x2 => gLet (l4 + 1) fun x3 => some (.inl (x2, x3))) else (gLet (l3 ||| ((1 : Int32) <<< (l4 &&& 31))) fun x4 => gLet (l4 + 1) fun x5 => some (.inl (x4, x5))) else none)
set_option maxRecDepth 20000 in
theorem b_Model_small_12 (E : gEv) (d u : Nat) {G : gFr → Prop} {vo : Option Value} {sr : gS} (hG : gClo E gDf gP18 gY213 (some .int) (gC E gDf gMs (d + 1)) (vo, (gSh, sr, u)) G) (l1 : Int32) (l2 : Int32) (l3 : Int32) (l4 : Int32) (σ : gS) {r : (Int32 × Int32) ⊕ (Int32)} (hP : p_Model_small_12 E l1 l2 l3 l4 σ = some r) (K1 : ∀ (m3 : Int32) (m4 : Int32), r = .inl (m3, m4) → G (12, [some (.ref 94), some (.int l1), some (.int l2), some (.int m3), some (.int m4)], [], (gSh, σ, u))) (K2 : ∀ (m3 : Int32), r = .inr m3 → G (58, [some (.ref 94), some (.int l1), some (.int l2), some (.int m3), none], [], (gSh, σ, u))) : G (12, [some (.ref 94), some (.int l1), some (.int l2), some (.int l3), some (.int l4)], [], (gSh, σ, u)) := by
  unfold p_Model_small_12 at hP
  refine gRunN_ok hG.1 2 _ (16, [some (.ref 94), some (.int l1), some (.int l2), some (.int l3), some (.int l4)], [.int 16, .int l4], (gSh, σ, u)) rfl ?_
  rcases g_ite hP with ⟨hc, hP⟩ | ⟨hc, hP⟩
  · refine hG.1 _ (58, [some (.ref 94), some (.int l1), some (.int l2), some (.int l3), some (.int l4)], [], (gSh, σ, u)) _ rfl (if_pos hc) ?_
    refine hG.2.2.2.2.1 _ _ [some (.ref 94), some (.int l1), some (.int l2), some (.int l3), none] _ _ ⟨rfl, ⟨rfl, ⟨rfl, ⟨rfl, trivial⟩⟩⟩⟩ ?_
    cases hP
    exact K2 _ rfl
  · refine hG.1 _ (19, [some (.ref 94), some (.int l1), some (.int l2), some (.int l3), some (.int l4)], [], (gSh, σ, u)) _ rfl (if_neg hc) ?_
    refine gRunN_ok hG.1 14 _ (38, [some (.ref 94), some (.int l1), some (.int l2), some (.int l3), some (.int l4)], [.int (((256 : Int32) * l1) + (l4 &&& (((1 : Int32) <<< (l2 &&& 31)) - (1 : Int32)))), .ref 120, .int l3], (gSh, σ, u)) rfl ?_
    obtain ⟨hc, hP⟩ := g_if hP
    refine hG.1 _ (39, [some (.ref 94), some (.int l1), some (.int l2), some (.int l3), some (.int l4)], [.int (σ.1 120 (((256 : Int32) * l1) + (l4 &&& (((1 : Int32) <<< (l2 &&& 31)) - (1 : Int32)))).toNatClampNeg), .int l3], (gSh, σ, u)) _ rfl (if_pos hc) ?_
    rcases g_ite hP with ⟨hc, hP⟩ | ⟨hc, hP⟩
    · refine hG.1 _ (49, [some (.ref 94), some (.int l1), some (.int l2), some (.int l3), some (.int l4)], [.int l3], (gSh, σ, u)) _ rfl (if_pos hc) ?_
      refine gRunN_ok hG.1 3 _ (52, [some (.ref 94), some (.int l1), some (.int l2), some (.int (l3 ||| (0 : Int32))), some (.int l4)], [], (gSh, σ, u)) rfl ?_
      obtain ⟨x2, ex2, hP⟩ := g_let hP
      rw [← ex2]
      refine gRunN_ok hG.1 1 _ (55, [some (.ref 94), some (.int l1), some (.int l2), some (.int x2), some (.int (l4 + 1))], [], (gSh, σ, u)) rfl ?_
      obtain ⟨x3, ex3, hP⟩ := g_let hP
      rw [← ex3]
      refine gRunN_ok hG.1 1 _ (12, [some (.ref 94), some (.int l1), some (.int l2), some (.int x2), some (.int x3)], [], (gSh, σ, u)) rfl ?_
      cases hP
      exact K1 _ _ rfl
    · refine hG.1 _ (42, [some (.ref 94), some (.int l1), some (.int l2), some (.int l3), some (.int l4)], [.int l3], (gSh, σ, u)) _ rfl (if_neg hc) ?_
      refine gRunN_ok hG.1 6 _ (52, [some (.ref 94), some (.int l1), some (.int l2), some (.int (l3 ||| ((1 : Int32) <<< (l4 &&& 31)))), some (.int l4)], [], (gSh, σ, u)) rfl ?_
      obtain ⟨x4, ex4, hP⟩ := g_let hP
      rw [← ex4]
      refine gRunN_ok hG.1 1 _ (55, [some (.ref 94), some (.int l1), some (.int l2), some (.int x4), some (.int (l4 + 1))], [], (gSh, σ, u)) rfl ?_
      obtain ⟨x5, ex5, hP⟩ := g_let hP
      rw [← ex5]
      refine gRunN_ok hG.1 1 _ (12, [some (.ref 94), some (.int l1), some (.int l2), some (.int x4), some (.int x5)], [], (gSh, σ, u)) rfl ?_
      cases hP
      exact K1 _ _ rfl
theorem l_Model_small_12 (E : gEv) (d u : Nat) {G : gFr → Prop} {vo : Option Value} {sr : gS} (hG : gClo E gDf gP18 gY213 (some .int) (gC E gDf gMs (d + 1)) (vo, (gSh, sr, u)) G) (l1 : Int32) (l2 : Int32) (σ : gS) : ∀ (n : Nat) (l3 : Int32) (l4 : Int32) (e : (Int32)), gIter (fun z => p_Model_small_12 E l1 l2 z.1 z.2 σ) n (l3, l4) = some e → (∀ (m3 : Int32), e = m3 → G (58, [some (.ref 94), some (.int l1), some (.int l2), some (.int m3), none], [], (gSh, σ, u))) → G (12, [some (.ref 94), some (.int l1), some (.int l2), some (.int l3), some (.int l4)], [], (gSh, σ, u)) := by
  intro n
  induction n with
  | zero => intro l3 l4 e h; cases h
  | succ n ih =>
    intro l3 l4 e h K2
    rcases g_iter h with ⟨z, h1, h2⟩ | h1
    · exact b_Model_small_12 E d u hG l1 l2 l3 l4 σ h1 (fun n0 n1 hz => by cases hz; exact ih _ _ e h2 K2) (fun _ hz => by cases hz)
    · exact b_Model_small_12 E d u hG l1 l2 l3 l4 σ h1 (fun _ _ hz => by cases hz) (fun m3 hz => K2 m3 (by cases hz; rfl))
def p_Model_small_j134 (E : gEv) (l3 : Int32) (y1 : Int32) (y2 : Int32) (y3 : Int32) (y4 : Int32) (σ : gS) : Option (Int32 × gS) :=
  gB2 (p_Model_newLut E y1 y2 y3 y4 l3 σ) fun v9 s10 => some (v9, s10)
set_option maxRecDepth 20000 in
theorem j_Model_small_j134 (E : gEv) (d u : Nat) {G : gFr → Prop} {v : Int32} {sr : gS} (hG : gClo E gDf gP18 gY213 (some .int) (gC E gDf gMs (d + 1)) (some (.int v), (gSh, sr, u)) G) (l3 : Int32) (y1 : Int32) (y2 : Int32) (y3 : Int32) (y4 : Int32) (σ : gS) (hP : p_Model_small_j134 E l3 y1 y2 y3 y4 σ = some (v, sr)) : G (134, [none, none, none, some (.int l3), none], [.int y4, .int y3, .int y2, .int y1, .ref 94], (gSh, σ, u)) := by
  unfold p_Model_small_j134 at hP
  refine gRunN_ok hG.1 1 _ (135, [none, none, none, some (.int l3), none], [.int l3, .int y4, .int y3, .int y2, .int y1, .ref 94], (gSh, σ, u)) rfl ?_
  obtain ⟨v9, s10, hq, hP⟩ := g_b2 hP
  refine hG.2.2.2.1 _ _ _ [.ref 94, .int y1, .int y2, .int y3, .int y4, .int l3] [] _ (gSh, s10, u) (some (.int v9)) _ _ _ _ _ _ rfl rfl rfl rfl rfl rfl (c_Model_newLut E (d + 0) u y1 y2 y3 y4 l3 _  hq) (Nat.le_refl _) (Nat.le_refl _) (Nat.le_refl _) (Nat.le_refl _) ?_
  show G (138, [none, none, none, some (.int l3), none], [.int v9], (gSh, s10, u))
  cases hP
  exact hG.2.1 _ _ rfl rfl
def p_Model_small_j116 (E : gEv) (l2 : Int32) (l3 : Int32) (l4 : Int32) (y1 : Int32) (y2 : Int32) (y3 : Int32) (σ : gS) : Option (Int32 × gS) :=
  if l2 ≤ (3 : Int32) then (p_Model_small_j134 E l3 y1 y2 y3 (-1) σ) else (if gIn (l4 + (3 : Int32)) (σ.2.1 121) then p_Model_small_j134 E l3 y1 y2 y3 (σ.1 121 (l4 + (3 : Int32)).toNatClampNeg) σ else none)
set_option maxRecDepth 20000 in
theorem j_Model_small_j116 (E : gEv) (d u : Nat) {G : gFr → Prop} {v : Int32} {sr : gS} (hG : gClo E gDf gP18 gY213 (some .int) (gC E gDf gMs (d + 1)) (some (.int v), (gSh, sr, u)) G) (l2 : Int32) (l3 : Int32) (l4 : Int32) (y1 : Int32) (y2 : Int32) (y3 : Int32) (σ : gS) (hP : p_Model_small_j116 E l2 l3 l4 y1 y2 y3 σ = some (v, sr)) : G (116, [some (.ref 94), none, some (.int l2), some (.int l3), some (.int l4)], [.int y3, .int y2, .int y1, .ref 94], (gSh, σ, u)) := by
  unfold p_Model_small_j116 at hP
  refine gRunN_ok hG.1 2 _ (118, [some (.ref 94), none, some (.int l2), some (.int l3), some (.int l4)], [.int 3, .int l2, .int y3, .int y2, .int y1, .ref 94], (gSh, σ, u)) rfl ?_
  rcases g_ite hP with ⟨hc, hP⟩ | ⟨hc, hP⟩
  · refine hG.1 _ (133, [some (.ref 94), none, some (.int l2), some (.int l3), some (.int l4)], [.int y3, .int y2, .int y1, .ref 94], (gSh, σ, u)) _ rfl (if_pos hc) ?_
    refine gRunN_ok hG.1 1 _ (134, [some (.ref 94), none, some (.int l2), some (.int l3), some (.int l4)], [.int (-1), .int y3, .int y2, .int y1, .ref 94], (gSh, σ, u)) rfl ?_
    refine hG.2.2.2.2.1 _ _ [none, none, none, some (.int l3), none] _ _ ⟨rfl, trivial⟩ ?_
    exact j_Model_small_j134 E d u hG l3 y1 y2 y3 (-1) σ hP
  · refine hG.1 _ (121, [some (.ref 94), none, some (.int l2), some (.int l3), some (.int l4)], [.int y3, .int y2, .int y1, .ref 94], (gSh, σ, u)) _ rfl (if_neg hc) ?_
    refine gRunN_ok hG.1 5 _ (129, [some (.ref 94), none, some (.int l2), some (.int l3), some (.int l4)], [.int (l4 + (3 : Int32)), .ref 121, .int y3, .int y2, .int y1, .ref 94], (gSh, σ, u)) rfl ?_
    obtain ⟨hc, hP⟩ := g_if hP
    refine hG.1 _ (130, [some (.ref 94), none, some (.int l2), some (.int l3), some (.int l4)], [.int (σ.1 121 (l4 + (3 : Int32)).toNatClampNeg), .int y3, .int y2, .int y1, .ref 94], (gSh, σ, u)) _ rfl (if_pos hc) ?_
    refine gRunN_ok hG.1 1 _ (134, [some (.ref 94), none, some (.int l2), some (.int l3), some (.int l4)], [.int (σ.1 121 (l4 + (3 : Int32)).toNatClampNeg), .int y3, .int y2, .int y1, .ref 94], (gSh, σ, u)) rfl ?_
    refine hG.2.2.2.2.1 _ _ [none, none, none, some (.int l3), none] _ _ ⟨rfl, trivial⟩ ?_
    exact j_Model_small_j134 E d u hG l3 y1 y2 y3 (σ.1 121 (l4 + (3 : Int32)).toNatClampNeg) σ hP
def p_Model_small_j98 (E : gEv) (l2 : Int32) (l3 : Int32) (l4 : Int32) (y1 : Int32) (y2 : Int32) (σ : gS) : Option (Int32 × gS) :=
  if l2 ≤ (2 : Int32) then (p_Model_small_j116 E l2 l3 l4 y1 y2 (-1) σ) else (if gIn (l4 + (2 : Int32)) (σ.2.1 121) then p_Model_small_j116 E l2 l3 l4 y1 y2 (σ.1 121 (l4 + (2 : Int32)).toNatClampNeg) σ else none)
set_option maxRecDepth 20000 in
theorem j_Model_small_j98 (E : gEv) (d u : Nat) {G : gFr → Prop} {v : Int32} {sr : gS} (hG : gClo E gDf gP18 gY213 (some .int) (gC E gDf gMs (d + 1)) (some (.int v), (gSh, sr, u)) G) (l2 : Int32) (l3 : Int32) (l4 : Int32) (y1 : Int32) (y2 : Int32) (σ : gS) (hP : p_Model_small_j98 E l2 l3 l4 y1 y2 σ = some (v, sr)) : G (98, [some (.ref 94), none, some (.int l2), some (.int l3), some (.int l4)], [.int y2, .int y1, .ref 94], (gSh, σ, u)) := by
  unfold p_Model_small_j98 at hP
  refine gRunN_ok hG.1 2 _ (100, [some (.ref 94), none, some (.int l2), some (.int l3), some (.int l4)], [.int 2, .int l2, .int y2, .int y1, .ref 94], (gSh, σ, u)) rfl ?_
  rcases g_ite hP with ⟨hc, hP⟩ | ⟨hc, hP⟩
  · refine hG.1 _ (115, [some (.ref 94), none, some (.int l2), some (.int l3), some (.int l4)], [.int y2, .int y1, .ref 94], (gSh, σ, u)) _ rfl (if_pos hc) ?_
    refine gRunN_ok hG.1 1 _ (116, [some (.ref 94), none, some (.int l2), some (.int l3), some (.int l4)], [.int (-1), .int y2, .int y1, .ref 94], (gSh, σ, u)) rfl ?_
    exact j_Model_small_j116 E d u hG l2 l3 l4 y1 y2 (-1) σ hP
  · refine hG.1 _ (103, [some (.ref 94), none, some (.int l2), some (.int l3), some (.int l4)], [.int y2, .int y1, .ref 94], (gSh, σ, u)) _ rfl (if_neg hc) ?_
    refine gRunN_ok hG.1 5 _ (111, [some (.ref 94), none, some (.int l2), some (.int l3), some (.int l4)], [.int (l4 + (2 : Int32)), .ref 121, .int y2, .int y1, .ref 94], (gSh, σ, u)) rfl ?_
    obtain ⟨hc, hP⟩ := g_if hP
    refine hG.1 _ (112, [some (.ref 94), none, some (.int l2), some (.int l3), some (.int l4)], [.int (σ.1 121 (l4 + (2 : Int32)).toNatClampNeg), .int y2, .int y1, .ref 94], (gSh, σ, u)) _ rfl (if_pos hc) ?_
    refine gRunN_ok hG.1 1 _ (116, [some (.ref 94), none, some (.int l2), some (.int l3), some (.int l4)], [.int (σ.1 121 (l4 + (2 : Int32)).toNatClampNeg), .int y2, .int y1, .ref 94], (gSh, σ, u)) rfl ?_
    exact j_Model_small_j116 E d u hG l2 l3 l4 y1 y2 (σ.1 121 (l4 + (2 : Int32)).toNatClampNeg) σ hP
def p_Model_small_j80 (E : gEv) (l2 : Int32) (l3 : Int32) (l4 : Int32) (y1 : Int32) (σ : gS) : Option (Int32 × gS) :=
  if l2 ≤ (1 : Int32) then (p_Model_small_j98 E l2 l3 l4 y1 (-1) σ) else (if gIn (l4 + (1 : Int32)) (σ.2.1 121) then p_Model_small_j98 E l2 l3 l4 y1 (σ.1 121 (l4 + (1 : Int32)).toNatClampNeg) σ else none)
set_option maxRecDepth 20000 in
theorem j_Model_small_j80 (E : gEv) (d u : Nat) {G : gFr → Prop} {v : Int32} {sr : gS} (hG : gClo E gDf gP18 gY213 (some .int) (gC E gDf gMs (d + 1)) (some (.int v), (gSh, sr, u)) G) (l2 : Int32) (l3 : Int32) (l4 : Int32) (y1 : Int32) (σ : gS) (hP : p_Model_small_j80 E l2 l3 l4 y1 σ = some (v, sr)) : G (80, [some (.ref 94), none, some (.int l2), some (.int l3), some (.int l4)], [.int y1, .ref 94], (gSh, σ, u)) := by
  unfold p_Model_small_j80 at hP
  refine gRunN_ok hG.1 2 _ (82, [some (.ref 94), none, some (.int l2), some (.int l3), some (.int l4)], [.int 1, .int l2, .int y1, .ref 94], (gSh, σ, u)) rfl ?_
  rcases g_ite hP with ⟨hc, hP⟩ | ⟨hc, hP⟩
  · refine hG.1 _ (97, [some (.ref 94), none, some (.int l2), some (.int l3), some (.int l4)], [.int y1, .ref 94], (gSh, σ, u)) _ rfl (if_pos hc) ?_
    refine gRunN_ok hG.1 1 _ (98, [some (.ref 94), none, some (.int l2), some (.int l3), some (.int l4)], [.int (-1), .int y1, .ref 94], (gSh, σ, u)) rfl ?_
    exact j_Model_small_j98 E d u hG l2 l3 l4 y1 (-1) σ hP
  · refine hG.1 _ (85, [some (.ref 94), none, some (.int l2), some (.int l3), some (.int l4)], [.int y1, .ref 94], (gSh, σ, u)) _ rfl (if_neg hc) ?_
    refine gRunN_ok hG.1 5 _ (93, [some (.ref 94), none, some (.int l2), some (.int l3), some (.int l4)], [.int (l4 + (1 : Int32)), .ref 121, .int y1, .ref 94], (gSh, σ, u)) rfl ?_
    obtain ⟨hc, hP⟩ := g_if hP
    refine hG.1 _ (94, [some (.ref 94), none, some (.int l2), some (.int l3), some (.int l4)], [.int (σ.1 121 (l4 + (1 : Int32)).toNatClampNeg), .int y1, .ref 94], (gSh, σ, u)) _ rfl (if_pos hc) ?_
    refine gRunN_ok hG.1 1 _ (98, [some (.ref 94), none, some (.int l2), some (.int l3), some (.int l4)], [.int (σ.1 121 (l4 + (1 : Int32)).toNatClampNeg), .int y1, .ref 94], (gSh, σ, u)) rfl ?_
    exact j_Model_small_j98 E d u hG l2 l3 l4 y1 (σ.1 121 (l4 + (1 : Int32)).toNatClampNeg) σ hP
def p_Model_small (E : gEv) (a0 : Int32) (σ : gS) : Option (Int32 × gS) :=
  if gIn a0 (σ.2.1 122) then gLet (σ.1 122 a0.toNatClampNeg) fun x1 => gB1 (gIter (fun z => p_Model_small_12 E a0 x1 z.1 z.2 σ) gN (0, 0)) fun e6 => (fun w7 => gLet ((8 : Int32) * a0) fun x8 => if x1 ≤ 0 then (p_Model_small_j80 E x1 w7 x8 (-1) σ) else (if gIn x8 (σ.2.1 121) then p_Model_small_j80 E x1 w7 x8 (σ.1 121 x8.toNatClampNeg) σ else none)) e6 else none
set_option maxRecDepth 20000 in
theorem c_Model_small (E : gEv) (d u : Nat) (a0 : Int32) (σ : gS) {v : Int32} {sr : gS}  (hq : p_Model_small E a0 σ = some (v, sr)) : gC E gDf gMs (d + 2) 213 [.ref 94, .int a0] (gSh, σ, u) (some (.int v), (gSh, sr, u)) := ⟨gM213, rfl, Nat.le_of_ble_eq_true rfl, fun G hG => by
  have hP := hq
  unfold p_Model_small at hP
  replace hG : gClo E gDf gP18 gY213 (some .int) (gC E gDf gMs (d + 1)) (some (.int v), (gSh, sr, u)) G := hG
  show G (0, [some (.ref 94), some (.int a0), none, none, none], [], (gSh, σ, u))
  refine gRunN_ok hG.1 3 _ (5, [some (.ref 94), some (.int a0), none, none, none], [.int a0, .ref 122], (gSh, σ, u)) rfl ?_
  obtain ⟨hc, hP⟩ := g_if hP
  refine hG.1 _ (6, [some (.ref 94), some (.int a0), none, none, none], [.int (σ.1 122 a0.toNatClampNeg)], (gSh, σ, u)) _ rfl (if_pos hc) ?_
  refine gRunN_ok hG.1 1 _ (7, [some (.ref 94), some (.int a0), some (.int (σ.1 122 a0.toNatClampNeg)), none, none], [], (gSh, σ, u)) rfl ?_
  obtain ⟨x1, ex1, hP⟩ := g_let hP
  rw [← ex1]
  refine gRunN_ok hG.1 4 _ (12, [some (.ref 94), some (.int a0), some (.int x1), some (.int 0), some (.int 0)], [], (gSh, σ, u)) rfl ?_
  obtain ⟨e6, hq, hP⟩ := g_b1 hP
  refine l_Model_small_12 E d u hG a0 x1 σ gN 0 0 _ hq (fun w7 he => ?_)
  · replace he := he.symm
    subst he
    try dsimp only [gSum] at hP
    refine gRunN_ok hG.1 4 _ (64, [some (.ref 94), some (.int a0), some (.int x1), some (.int w7), some (.int ((8 : Int32) * a0))], [], (gSh, σ, u)) rfl ?_
    obtain ⟨x8, ex8, hP⟩ := g_let hP
    rw [← ex8]
    refine gRunN_ok hG.1 2 _ (66, [some (.ref 94), some (.int a0), some (.int x1), some (.int w7), some (.int x8)], [.int x1, .ref 94], (gSh, σ, u)) rfl ?_
    rcases g_ite hP with ⟨hc, hP⟩ | ⟨hc, hP⟩
    · refine hG.1 _ (79, [some (.ref 94), some (.int a0), some (.int x1), some (.int w7), some (.int x8)], [.ref 94], (gSh, σ, u)) _ rfl (if_pos hc) ?_
      refine gRunN_ok hG.1 1 _ (80, [some (.ref 94), some (.int a0), some (.int x1), some (.int w7), some (.int x8)], [.int (-1), .ref 94], (gSh, σ, u)) rfl ?_
      refine hG.2.2.2.2.1 _ _ [some (.ref 94), none, some (.int x1), some (.int w7), some (.int x8)] _ _ ⟨rfl, ⟨rfl, ⟨rfl, ⟨rfl, trivial⟩⟩⟩⟩ ?_
      exact j_Model_small_j80 E d u hG x1 w7 x8 (-1) σ hP
    · refine hG.1 _ (69, [some (.ref 94), some (.int a0), some (.int x1), some (.int w7), some (.int x8)], [.ref 94], (gSh, σ, u)) _ rfl (if_neg hc) ?_
      refine gRunN_ok hG.1 3 _ (75, [some (.ref 94), some (.int a0), some (.int x1), some (.int w7), some (.int x8)], [.int x8, .ref 121, .ref 94], (gSh, σ, u)) rfl ?_
      obtain ⟨hc, hP⟩ := g_if hP
      refine hG.1 _ (76, [some (.ref 94), some (.int a0), some (.int x1), some (.int w7), some (.int x8)], [.int (σ.1 121 x8.toNatClampNeg), .ref 94], (gSh, σ, u)) _ rfl (if_pos hc) ?_
      refine gRunN_ok hG.1 1 _ (80, [some (.ref 94), some (.int a0), some (.int x1), some (.int w7), some (.int x8)], [.int (σ.1 121 x8.toNatClampNeg), .ref 94], (gSh, σ, u)) rfl ?_
      refine hG.2.2.2.2.1 _ _ [some (.ref 94), none, some (.int x1), some (.int w7), some (.int x8)] _ _ ⟨rfl, ⟨rfl, ⟨rfl, ⟨rfl, trivial⟩⟩⟩⟩ ?_
      exact j_Model_small_j80 E d u hG x1 w7 x8 (σ.1 121 x8.toNatClampNeg) σ hP⟩
