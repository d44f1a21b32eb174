def p_Face_lut (E : gEv) (a0 : Int32) (a1 : Int32) (σ : gS) : Option (Int32) :=
  if a0 < 0 then (some (-1)) else (if (σ.1 30 10) ≤ a0 then (some (-1)) else (if a1 < 0 then (some (-1)) else (if a1 ≤ (4 : Int32) then (if a1 = (4 : Int32) then (if gIn a0 (σ.2.1 36) then some (σ.1 36 a0.toNatClampNeg) else none) else (if gIn ((a0 * (4 : Int32)) + a1) (σ.2.1 35) then some (σ.1 35 ((a0 * (4 : Int32)) + a1).toNatClampNeg) else none)) else (some (-1)))))
set_option maxRecDepth 20000 in
theorem c_Face_lut (E : gEv) (d u : Nat) (a0 : Int32) (a1 : Int32) (σ : gS) {v : Int32}  (hq : p_Face_lut E a0 a1 σ = some v) : gC E gDf gMs (d + 1) 109 [.ref 0, .int a0, .int a1] (gSh, σ, u) (some (.int v), (gSh, σ, u)) := ⟨gM109, rfl, Nat.le_of_ble_eq_true rfl, fun G hG => by
  have hP := hq
  unfold p_Face_lut at hP
  replace hG : gClo E gDf gP0 gY109 (some .int) (gC E gDf gMs (d + 0)) (some (.int v), (gSh, σ, u)) G := hG
  show G (0, [some (.ref 0), some (.int a0), some (.int a1)], [], (gSh, σ, u))
  refine gRunN_ok hG.1 1 _ (1, [some (.ref 0), some (.int a0), some (.int a1)], [.int a0], (gSh, σ, u)) rfl ?_
  rcases g_ite hP with ⟨hc, hP⟩ | ⟨hc, hP⟩
  · refine hG.1 _ (24, [some (.ref 0), some (.int a0), some (.int a1)], [], (gSh, σ, u)) _ rfl (if_pos hc) ?_
    refine gRunN_ok hG.1 1 _ (25, [some (.ref 0), some (.int a0), some (.int a1)], [.int (-1)], (gSh, σ, u)) rfl ?_
    cases hP
    exact hG.2.1 _ _ rfl rfl
  · refine hG.1 _ (4, [some (.ref 0), some (.int a0), some (.int a1)], [], (gSh, σ, u)) _ rfl (if_neg hc) ?_
    refine gRunN_ok hG.1 4 _ (12, [some (.ref 0), some (.int a0), some (.int a1)], [.int (σ.1 30 10), .int a0], (gSh, σ, u)) rfl ?_
    rcases g_ite hP with ⟨hc, hP⟩ | ⟨hc, hP⟩
    · refine hG.1 _ (24, [some (.ref 0), some (.int a0), some (.int a1)], [], (gSh, σ, u)) _ rfl (if_pos hc) ?_
      refine gRunN_ok hG.1 1 _ (25, [some (.ref 0), some (.int a0), some (.int a1)], [.int (-1)], (gSh, σ, u)) rfl ?_
      cases hP
      exact hG.2.1 _ _ rfl rfl
    · refine hG.1 _ (15, [some (.ref 0), some (.int a0), some (.int a1)], [], (gSh, σ, u)) _ rfl (if_neg hc) ?_
      refine gRunN_ok hG.1 1 _ (16, [some (.ref 0), some (.int a0), some (.int a1)], [.int a1], (gSh, σ, u)) rfl ?_
      rcases g_ite hP with ⟨hc, hP⟩ | ⟨hc, hP⟩
      · refine hG.1 _ (24, [some (.ref 0), some (.int a0), some (.int a1)], [], (gSh, σ, u)) _ rfl (if_pos hc) ?_
        refine gRunN_ok hG.1 1 _ (25, [some (.ref 0), some (.int a0), some (.int a1)], [.int (-1)], (gSh, σ, u)) rfl ?_
        cases hP
        exact hG.2.1 _ _ rfl rfl
      · refine hG.1 _ (19, [some (.ref 0), some (.int a0), some (.int a1)], [], (gSh, σ, u)) _ rfl (if_neg hc) ?_
        refine gRunN_ok hG.1 2 _ (21, [some (.ref 0), some (.int a0), some (.int a1)], [.int 4, .int a1], (gSh, σ, u)) rfl ?_
        rcases g_ite hP with ⟨hc, hP⟩ | ⟨hc, hP⟩
        · refine hG.1 _ (26, [some (.ref 0), some (.int a0), some (.int a1)], [], (gSh, σ, u)) _ rfl (if_pos hc) ?_
          refine gRunN_ok hG.1 2 _ (28, [some (.ref 0), some (.int a0), some (.int a1)], [.int 4, .int a1], (gSh, σ, u)) rfl ?_
          rcases g_ite hP with ⟨hc, hP⟩ | ⟨hc, hP⟩
          · refine hG.1 _ (31, [some (.ref 0), some (.int a0), some (.int a1)], [], (gSh, σ, u)) _ rfl (if_pos hc) ?_
            refine gRunN_ok hG.1 4 _ (39, [some (.ref 0), some (.int a0), some (.int a1)], [.int a0, .ref 36], (gSh, σ, u)) rfl ?_
            obtain ⟨hc, hP⟩ := g_if hP
            refine hG.1 _ (40, [some (.ref 0), some (.int a0), some (.int a1)], [.int (σ.1 36 a0.toNatClampNeg)], (gSh, σ, u)) _ rfl (if_pos hc) ?_
            refine gRunN_ok hG.1 1 _ (56, [some (.ref 0), some (.int a0), some (.int a1)], [.int (σ.1 36 a0.toNatClampNeg)], (gSh, σ, u)) rfl ?_
            cases hP
            exact hG.2.1 _ _ rfl rfl
          · refine hG.1 _ (43, [some (.ref 0), some (.int a0), some (.int a1)], [], (gSh, σ, u)) _ rfl (if_neg hc) ?_
            refine gRunN_ok hG.1 8 _ (55, [some (.ref 0), some (.int a0), some (.int a1)], [.int ((a0 * (4 : Int32)) + a1), .ref 35], (gSh, σ, u)) rfl ?_
            obtain ⟨hc, hP⟩ := g_if hP
            refine hG.1 _ (56, [some (.ref 0), some (.int a0), some (.int a1)], [.int (σ.1 35 ((a0 * (4 : Int32)) + a1).toNatClampNeg)], (gSh, σ, u)) _ rfl (if_pos hc) ?_
            cases hP
            exact hG.2.1 _ _ rfl rfl
        · refine hG.1 _ (24, [some (.ref 0), some (.int a0), some (.int a1)], [], (gSh, σ, u)) _ rfl (if_neg hc) ?_
          refine gRunN_ok hG.1 1 _ (25, [some (.ref 0), some (.int a0), some (.int a1)], [.int (-1)], (gSh, σ, u)) rfl ?_
          cases hP
          exact hG.2.1 _ _ rfl rfl⟩
def p_Face_element (E : gEv) (a0 : Int32) (a1 : Int32) (σ : gS) : Option (Int32) :=
  if a0 < 0 then (some (-1)) else (if a0 < (σ.1 53 15) then (if a1 = 0 then (if (σ.1 30 10) ≤ a0 then (some (-1)) else (some a0)) else if a1 = 1 then (if gIn a0 (σ.2.1 55) then some (σ.1 55 a0.toNatClampNeg) else none) else if a1 = 2 then (if gIn a0 (σ.2.1 56) then some (σ.1 56 a0.toNatClampNeg) else none) else if a1 = 3 then (if gIn a0 (σ.2.1 57) then some (σ.1 57 a0.toNatClampNeg) else none) else (some (-1))) else (some (-1)))
set_option maxRecDepth 20000 in
theorem c_Face_element (E : gEv) (d u : Nat) (a0 : Int32) (a1 : Int32) (σ : gS) {v : Int32}  (hq : p_Face_element E a0 a1 σ = some v) : gC E gDf gMs (d + 1) 110 [.ref 0, .int a0, .int a1] (gSh, σ, u) (some (.int v), (gSh, σ, u)) := ⟨gM110, rfl, Nat.le_of_ble_eq_true rfl, fun G hG => by
  have hP := hq
  unfold p_Face_element at hP
  replace hG : gClo E gDf gP0 gY110 (some .int) (gC E gDf gMs (d + 0)) (some (.int v), (gSh, σ, u)) G := hG
  show G (0, [some (.ref 0), some (.int a0), some (.int a1)], [], (gSh, σ, u))
  refine gRunN_ok hG.1 1 _ (1, [some (.ref 0), some (.int a0), some (.int a1)], [.int a0], (gSh, σ, u)) rfl ?_
  rcases g_ite hP with ⟨hc, hP⟩ | ⟨hc, hP⟩
  · refine hG.1 _ (15, [some (.ref 0), some (.int a0), some (.int a1)], [], (gSh, σ, u)) _ rfl (if_pos hc) ?_
    refine gRunN_ok hG.1 1 _ (16, [some (.ref 0), some (.int a0), some (.int a1)], [.int (-1)], (gSh, σ, u)) rfl ?_
    cases hP
    exact hG.2.1 _ _ rfl rfl
  · refine hG.1 _ (4, [some (.ref 0), some (.int a0), some (.int a1)], [], (gSh, σ, u)) _ rfl (if_neg hc) ?_
    refine gRunN_ok hG.1 4 _ (12, [some (.ref 0), some (.int a0), some (.int a1)], [.int (σ.1 53 15), .int a0], (gSh, σ, u)) rfl ?_
    rcases g_ite hP with ⟨hc, hP⟩ | ⟨hc, hP⟩
    · refine hG.1 _ (17, [some (.ref 0), some (.int a0), some (.int a1)], [], (gSh, σ, u)) _ rfl (if_pos hc) ?_
      refine gRunN_ok hG.1 1 _ (18, [some (.ref 0), some (.int a0), some (.int a1)], [.int a1], (gSh, σ, u)) rfl ?_
      rcases g_ite hP with ⟨hc0, hP⟩ | ⟨hc0, hP⟩
      · refine hG.1 _ (48, [some (.ref 0), some (.int a0), some (.int a1)], [], (gSh, σ, u)) _ rfl (if_pos hc0) ?_
        refine gRunN_ok hG.1 4 _ (56, [some (.ref 0), some (.int a0), some (.int a1)], [.int (σ.1 30 10), .int a0], (gSh, σ, u)) rfl ?_
        rcases g_ite hP with ⟨hc, hP⟩ | ⟨hc, hP⟩
        · refine hG.1 _ (63, [some (.ref 0), some (.int a0), some (.int a1)], [], (gSh, σ, u)) _ rfl (if_pos hc) ?_
          refine gRunN_ok hG.1 1 _ (64, [some (.ref 0), some (.int a0), some (.int a1)], [.int (-1)], (gSh, σ, u)) rfl ?_
          cases hP
          exact hG.2.1 _ _ rfl rfl
        · refine hG.1 _ (59, [some (.ref 0), some (.int a0), some (.int a1)], [], (gSh, σ, u)) _ rfl (if_neg hc) ?_
          refine gRunN_ok hG.1 2 _ (64, [some (.ref 0), some (.int a0), some (.int a1)], [.int a0], (gSh, σ, u)) rfl ?_
          cases hP
          exact hG.2.1 _ _ rfl rfl
      rcases g_ite hP with ⟨hc1, hP⟩ | ⟨hc1, hP⟩
      · refine hG.1 _ (65, [some (.ref 0), some (.int a0), some (.int a1)], [], (gSh, σ, u)) _ rfl ((if_neg hc0).trans (if_pos hc1)) ?_
        refine gRunN_ok hG.1 4 _ (73, [some (.ref 0), some (.int a0), some (.int a1)], [.int a0, .ref 55], (gSh, σ, u)) rfl ?_
        obtain ⟨hc, hP⟩ := g_if hP
        refine hG.1 _ (74, [some (.ref 0), some (.int a0), some (.int a1)], [.int (σ.1 55 a0.toNatClampNeg)], (gSh, σ, u)) _ rfl (if_pos hc) ?_
        cases hP
        exact hG.2.1 _ _ rfl rfl
      rcases g_ite hP with ⟨hc2, hP⟩ | ⟨hc2, hP⟩
      · refine hG.1 _ (75, [some (.ref 0), some (.int a0), some (.int a1)], [], (gSh, σ, u)) _ rfl ((if_neg hc0).trans ((if_neg hc1).trans (if_pos hc2))) ?_
        refine gRunN_ok hG.1 4 _ (83, [some (.ref 0), some (.int a0), some (.int a1)], [.int a0, .ref 56], (gSh, σ, u)) rfl ?_
        obtain ⟨hc, hP⟩ := g_if hP
        refine hG.1 _ (84, [some (.ref 0), some (.int a0), some (.int a1)], [.int (σ.1 56 a0.toNatClampNeg)], (gSh, σ, u)) _ rfl (if_pos hc) ?_
        cases hP
        exact hG.2.1 _ _ rfl rfl
      rcases g_ite hP with ⟨hc3, hP⟩ | ⟨hc3, hP⟩
      · refine hG.1 _ (85, [some (.ref 0), some (.int a0), some (.int a1)], [], (gSh, σ, u)) _ rfl ((if_neg hc0).trans ((if_neg hc1).trans ((if_neg hc2).trans (if_pos hc3)))) ?_
        refine gRunN_ok hG.1 4 _ (93, [some (.ref 0), some (.int a0), some (.int a1)], [.int a0, .ref 57], (gSh, σ, u)) rfl ?_
        obtain ⟨hc, hP⟩ := g_if hP
        refine hG.1 _ (94, [some (.ref 0), some (.int a0), some (.int a1)], [.int (σ.1 57 a0.toNatClampNeg)], (gSh, σ, u)) _ rfl (if_pos hc) ?_
        cases hP
        exact hG.2.1 _ _ rfl rfl
      · refine hG.1 _ (95, [some (.ref 0), some (.int a0), some (.int a1)], [], (gSh, σ, u)) _ rfl ((if_neg hc0).trans ((if_neg hc1).trans ((if_neg hc2).trans ((if_neg hc3).trans rfl)))) ?_
        refine gRunN_ok hG.1 1 _ (96, [some (.ref 0), some (.int a0), some (.int a1)], [.int (-1)], (gSh, σ, u)) rfl ?_
        cases hP
        exact hG.2.1 _ _ rfl rfl
    · refine hG.1 _ (15, [some (.ref 0), some (.int a0), some (.int a1)], [], (gSh, σ, u)) _ rfl (if_neg hc) ?_
      refine gRunN_ok hG.1 1 _ (16, [some (.ref 0), some (.int a0), some (.int a1)], [.int (-1)], (gSh, σ, u)) rfl ?_
      cases hP
      exact hG.2.1 _ _ rfl rfl⟩
def p_Router_endOf (E : gEv) (a0 : Int32) (σ : gS) : Option (Int32) :=
  if (σ.1 70 15) ≤ 0 then (some (-1)) else (if gIn a0 (σ.2.1 79) then some (σ.1 79 a0.toNatClampNeg) else none)
set_option maxRecDepth 20000 in
theorem c_Router_endOf (E : gEv) (d u : Nat) (a0 : Int32) (σ : gS) {v : Int32}  (hq : p_Router_endOf E a0 σ = some v) : gC E gDf gMs (d + 1) 112 [.ref 70, .int a0] (gSh, σ, u) (some (.int v), (gSh, σ, u)) := ⟨gM112, rfl, Nat.le_of_ble_eq_true rfl, fun G hG => by
  have hP := hq
  unfold p_Router_endOf at hP
  replace hG : gClo E gDf gP10 gY112 (some .int) (gC E gDf gMs (d + 0)) (some (.int v), (gSh, σ, u)) G := hG
  show G (0, [some (.ref 70), some (.int a0)], [], (gSh, σ, u))
  refine gRunN_ok hG.1 2 _ (4, [some (.ref 70), some (.int a0)], [.int (σ.1 70 15)], (gSh, σ, u)) rfl ?_
  rcases g_ite hP with ⟨hc, hP⟩ | ⟨hc, hP⟩
  · refine hG.1 _ (16, [some (.ref 70), some (.int a0)], [], (gSh, σ, u)) _ rfl (if_pos hc) ?_
    refine gRunN_ok hG.1 1 _ (17, [some (.ref 70), some (.int a0)], [.int (-1)], (gSh, σ, u)) rfl ?_
    cases hP
    exact hG.2.1 _ _ rfl rfl
  · refine hG.1 _ (7, [some (.ref 70), some (.int a0)], [], (gSh, σ, u)) _ rfl (if_neg hc) ?_
    refine gRunN_ok hG.1 3 _ (12, [some (.ref 70), some (.int a0)], [.int a0, .ref 79], (gSh, σ, u)) rfl ?_
    obtain ⟨hc, hP⟩ := g_if hP
    refine hG.1 _ (13, [some (.ref 70), some (.int a0)], [.int (σ.1 79 a0.toNatClampNeg)], (gSh, σ, u)) _ rfl (if_pos hc) ?_
    refine gRunN_ok hG.1 1 _ (17, [some (.ref 70), some (.int a0)], [.int (σ.1 79 a0.toNatClampNeg)], (gSh, σ, u)) rfl ?_
    cases hP
    exact hG.2.1 _ _ rfl rfl⟩
def p_Face_tile (E : gEv) (a0 : Int32) (σ : gS) : Option (Int32) :=
  if a0 < 0 then (some (-1)) else (if a0 < (σ.1 1 4) then (if gIn a0 (σ.2.1 68) then some (σ.1 68 a0.toNatClampNeg) else none) else (some (-1)))
set_option maxRecDepth 20000 in
theorem c_Face_tile (E : gEv) (d u : Nat) (a0 : Int32) (σ : gS) {v : Int32}  (hq : p_Face_tile E a0 σ = some v) : gC E gDf gMs (d + 1) 113 [.ref 0, .int a0] (gSh, σ, u) (some (.int v), (gSh, σ, u)) := ⟨gM113, rfl, Nat.le_of_ble_eq_true rfl, fun G hG => by
  have hP := hq
  unfold p_Face_tile at hP
  replace hG : gClo E gDf gP0 gY113 (some .int) (gC E gDf gMs (d + 0)) (some (.int v), (gSh, σ, u)) G := hG
  show G (0, [some (.ref 0), some (.int a0)], [], (gSh, σ, u))
  refine gRunN_ok hG.1 1 _ (1, [some (.ref 0), some (.int a0)], [.int a0], (gSh, σ, u)) rfl ?_
  rcases g_ite hP with ⟨hc, hP⟩ | ⟨hc, hP⟩
  · refine hG.1 _ (15, [some (.ref 0), some (.int a0)], [], (gSh, σ, u)) _ rfl (if_pos hc) ?_
    refine gRunN_ok hG.1 2 _ (28, [some (.ref 0), some (.int a0)], [.int (-1)], (gSh, σ, u)) rfl ?_
    cases hP
    exact hG.2.1 _ _ rfl rfl
  · refine hG.1 _ (4, [some (.ref 0), some (.int a0)], [], (gSh, σ, u)) _ rfl (if_neg hc) ?_
    refine gRunN_ok hG.1 4 _ (12, [some (.ref 0), some (.int a0)], [.int (σ.1 1 4), .int a0], (gSh, σ, u)) rfl ?_
    rcases g_ite hP with ⟨hc, hP⟩ | ⟨hc, hP⟩
    · refine hG.1 _ (19, [some (.ref 0), some (.int a0)], [], (gSh, σ, u)) _ rfl (if_pos hc) ?_
      refine gRunN_ok hG.1 4 _ (27, [some (.ref 0), some (.int a0)], [.int a0, .ref 68], (gSh, σ, u)) rfl ?_
      obtain ⟨hc, hP⟩ := g_if hP
      refine hG.1 _ (28, [some (.ref 0), some (.int a0)], [.int (σ.1 68 a0.toNatClampNeg)], (gSh, σ, u)) _ rfl (if_pos hc) ?_
      cases hP
      exact hG.2.1 _ _ rfl rfl
    · refine hG.1 _ (15, [some (.ref 0), some (.int a0)], [], (gSh, σ, u)) _ rfl (if_neg hc) ?_
      refine gRunN_ok hG.1 2 _ (28, [some (.ref 0), some (.int a0)], [.int (-1)], (gSh, σ, u)) rfl ?_
      cases hP
      exact hG.2.1 _ _ rfl rfl⟩
def p_Face_pad (E : gEv) (a0 : Int32) (σ : gS) : Option (Int32) :=
  if a0 < 0 then (some (-1)) else (if a0 < (σ.1 1 5) then (if gIn ((σ.1 1 4) + a0) (σ.2.1 68) then gLet (σ.1 68 ((σ.1 1 4) + a0).toNatClampNeg) fun x1 => if x1 = ((-1) : Int32) then (some (-1)) else (gLet (x1 - (σ.1 1 4)) fun x2 => if (σ.1 1 5) ≤ x2 then (some (((200 : Int32) + x2) - (σ.1 1 5))) else (some x2)) else none) else (some (-1)))
set_option maxRecDepth 20000 in
theorem c_Face_pad (E : gEv) (d u : Nat) (a0 : Int32) (σ : gS) {v : Int32}  (hq : p_Face_pad E a0 σ = some v) : gC E gDf gMs (d + 1) 114 [.ref 0, .int a0] (gSh, σ, u) (some (.int v), (gSh, σ, u)) := ⟨gM114, rfl, Nat.le_of_ble_eq_true rfl, fun G hG => by
  have hP := hq
  unfold p_Face_pad at hP
  replace hG : gClo E gDf gP0 gY114 (some .int) (gC E gDf gMs (d + 0)) (some (.int v), (gSh, σ, u)) G := hG
  show G (0, [some (.ref 0), some (.int a0), none, none], [], (gSh, σ, u))
  refine gRunN_ok hG.1 1 _ (1, [some (.ref 0), some (.int a0), none, none], [.int a0], (gSh, σ, u)) rfl ?_
  rcases g_ite hP with ⟨hc, hP⟩ | ⟨hc, hP⟩
  · refine hG.1 _ (15, [some (.ref 0), some (.int a0), none, none], [], (gSh, σ, u)) _ rfl (if_pos hc) ?_
    refine gRunN_ok hG.1 1 _ (16, [some (.ref 0), some (.int a0), none, none], [.int (-1)], (gSh, σ, u)) rfl ?_
    cases hP
    exact hG.2.1 _ _ rfl rfl
  · refine hG.1 _ (4, [some (.ref 0), some (.int a0), none, none], [], (gSh, σ, u)) _ rfl (if_neg hc) ?_
    refine gRunN_ok hG.1 4 _ (12, [some (.ref 0), some (.int a0), none, none], [.int (σ.1 1 5), .int a0], (gSh, σ, u)) rfl ?_
    rcases g_ite hP with ⟨hc, hP⟩ | ⟨hc, hP⟩
    · refine hG.1 _ (17, [some (.ref 0), some (.int a0), none, none], [], (gSh, σ, u)) _ rfl (if_pos hc) ?_
      refine gRunN_ok hG.1 8 _ (33, [some (.ref 0), some (.int a0), none, none], [.int ((σ.1 1 4) + a0), .ref 68], (gSh, σ, u)) rfl ?_
      obtain ⟨hc, hP⟩ := g_if hP
      refine hG.1 _ (34, [some (.ref 0), some (.int a0), none, none], [.int (σ.1 68 ((σ.1 1 4) + a0).toNatClampNeg)], (gSh, σ, u)) _ rfl (if_pos hc) ?_
      refine gRunN_ok hG.1 1 _ (35, [some (.ref 0), some (.int a0), some (.int (σ.1 68 ((σ.1 1 4) + a0).toNatClampNeg)), none], [], (gSh, σ, u)) rfl ?_
      obtain ⟨x1, ex1, hP⟩ := g_let hP
      rw [← ex1]
      refine gRunN_ok hG.1 2 _ (37, [some (.ref 0), some (.int a0), some (.int x1), none], [.int (-1), .int x1], (gSh, σ, u)) rfl ?_
      rcases g_ite hP with ⟨hc, hP⟩ | ⟨hc, hP⟩
      · refine hG.1 _ (40, [some (.ref 0), some (.int a0), some (.int x1), none], [], (gSh, σ, u)) _ rfl (if_pos hc) ?_
        refine gRunN_ok hG.1 1 _ (41, [some (.ref 0), some (.int a0), some (.int x1), none], [.int (-1)], (gSh, σ, u)) rfl ?_
        cases hP
        exact hG.2.1 _ _ rfl rfl
      · refine hG.1 _ (42, [some (.ref 0), some (.int a0), some (.int x1), none], [], (gSh, σ, u)) _ rfl (if_neg hc) ?_
        refine gRunN_ok hG.1 6 _ (52, [some (.ref 0), some (.int a0), some (.int x1), some (.int (x1 - (σ.1 1 4)))], [], (gSh, σ, u)) rfl ?_
        obtain ⟨x2, ex2, hP⟩ := g_let hP
        rw [← ex2]
        refine gRunN_ok hG.1 4 _ (60, [some (.ref 0), some (.int a0), some (.int x1), some (.int x2)], [.int (σ.1 1 5), .int x2], (gSh, σ, u)) rfl ?_
        rcases g_ite hP with ⟨hc, hP⟩ | ⟨hc, hP⟩
        · refine hG.1 _ (67, [some (.ref 0), some (.int a0), some (.int x1), some (.int x2)], [], (gSh, σ, u)) _ rfl (if_pos hc) ?_
          refine gRunN_ok hG.1 7 _ (80, [some (.ref 0), some (.int a0), some (.int x1), some (.int x2)], [.int (((200 : Int32) + x2) - (σ.1 1 5))], (gSh, σ, u)) rfl ?_
          cases hP
          exact hG.2.1 _ _ rfl rfl
        · refine hG.1 _ (63, [some (.ref 0), some (.int a0), some (.int x1), some (.int x2)], [], (gSh, σ, u)) _ rfl (if_neg hc) ?_
          refine gRunN_ok hG.1 2 _ (80, [some (.ref 0), some (.int a0), some (.int x1), some (.int x2)], [.int x2], (gSh, σ, u)) rfl ?_
          cases hP
          exact hG.2.1 _ _ rfl rfl
    · refine hG.1 _ (15, [some (.ref 0), some (.int a0), none, none], [], (gSh, σ, u)) _ rfl (if_neg hc) ?_
      refine gRunN_ok hG.1 1 _ (16, [some (.ref 0), some (.int a0), none, none], [.int (-1)], (gSh, σ, u)) rfl ?_
      cases hP
      exact hG.2.1 _ _ rfl rfl⟩
def p_Router_giveUp_41 (E : gEv) (l1 : Int32) (l2 : Int32) (l3 : Int32) (l4 : Int32) (σ : gS) : Option ((Int32 × Int32 × gS) ⊕ (gS)) :=
  if (32 : Int32) ≤ l4 then (some (.inr σ)) else (if l3 = 0 then (some (.inr σ)) else (if (l3 &&& (1 : Int32)) = (1 : Int32) then (if gIn ((l2 * (32 : Int32)) + l4) (σ.2.1 75) then if gIn ((l2 * (32 : Int32)) + l4) (σ.2.1 75) then gLet (gPut σ 75 ((l2 * (32 : Int32)) + l4).toNatClampNeg ((σ.1 75 ((l2 * (32 : Int32)) + l4).toNatClampNeg) - (1 : Int32))) fun s3 => gLet ((l3.toUInt32 >>> ((1 : Int32).toUInt32 &&& Int32.toUInt32 31)).toInt32) fun x4 => gLet (l4 + 1) fun x5 => some (.inl (x4, x5, s3)) else none else none) else (gLet ((l3.toUInt32 >>> ((1 : Int32).toUInt32 &&& Int32.toUInt32 31)).toInt32) fun x6 => gLet (l4 + 1) fun x7 => some (.inl (x6, x7, σ)))))
set_option maxRecDepth 20000 in
theorem b_Router_giveUp_41 (E : gEv) (d u : Nat) {G : gFr → Prop} {vo : Option Value} {sr : gS} (hG : gClo E gDf gP10 gY124 none (gC E gDf gMs (d + 0)) (vo, (gSh, sr, u)) G) (l1 : Int32) (l2 : Int32) (l3 : Int32) (l4 : Int32) (σ : gS) {r : (Int32 × Int32 × gS) ⊕ (gS)} (hP : p_Router_giveUp_41 E l1 l2 l3 l4 σ = some r) (K1 : ∀ (m3 : Int32) (m4 : Int32) (σ1 : gS), r = .inl (m3, m4, σ1) → G (41, [some (.ref 70), some (.int l1), some (.int l2), some (.int m3), some (.int m4)], [], (gSh, σ1, u))) (K2 : ∀ (σ1 : gS), r = .inr σ1 → G (85, [some (.ref 70), some (.int l1), some (.int l2), none, none], [], (gSh, σ1, u))) : G (41, [some (.ref 70), some (.int l1), some (.int l2), some (.int l3), some (.int l4)], [], (gSh, σ, u)) := by
  unfold p_Router_giveUp_41 at hP
  refine gRunN_ok hG.1 2 _ (45, [some (.ref 70), some (.int l1), some (.int l2), some (.int l3), some (.int l4)], [.int 32, .int l4], (gSh, σ, u)) rfl ?_
  rcases g_ite hP with ⟨hc, hP⟩ | ⟨hc, hP⟩
  · refine hG.1 _ (85, [some (.ref 70), some (.int l1), some (.int l2), some (.int l3), some (.int l4)], [], (gSh, σ, u)) _ rfl (if_pos hc) ?_
    refine hG.2.2.2.2.1 _ _ [some (.ref 70), some (.int l1), some (.int l2), none, none] _ _ ⟨rfl, ⟨rfl, ⟨rfl, trivial⟩⟩⟩ ?_
    cases hP
    exact K2 _ rfl
  · refine hG.1 _ (48, [some (.ref 70), some (.int l1), some (.int l2), some (.int l3), some (.int l4)], [], (gSh, σ, u)) _ rfl (if_neg hc) ?_
    refine gRunN_ok hG.1 1 _ (49, [some (.ref 70), some (.int l1), some (.int l2), some (.int l3), some (.int l4)], [.int l3], (gSh, σ, u)) rfl ?_
    rcases g_ite hP with ⟨hc, hP⟩ | ⟨hc, hP⟩
    · refine hG.1 _ (85, [some (.ref 70), some (.int l1), some (.int l2), some (.int l3), some (.int l4)], [], (gSh, σ, u)) _ rfl (if_pos hc) ?_
      refine hG.2.2.2.2.1 _ _ [some (.ref 70), some (.int l1), some (.int l2), none, none] _ _ ⟨rfl, ⟨rfl, ⟨rfl, trivial⟩⟩⟩ ?_
      cases hP
      exact K2 _ rfl
    · refine hG.1 _ (52, [some (.ref 70), some (.int l1), some (.int l2), some (.int l3), some (.int l4)], [], (gSh, σ, u)) _ rfl (if_neg hc) ?_
      refine gRunN_ok hG.1 4 _ (56, [some (.ref 70), some (.int l1), some (.int l2), some (.int l3), some (.int l4)], [.int 1, .int (l3 &&& (1 : Int32))], (gSh, σ, u)) rfl ?_
      rcases g_ite hP with ⟨hc, hP⟩ | ⟨hc, hP⟩
      · refine hG.1 _ (59, [some (.ref 70), some (.int l1), some (.int l2), some (.int l3), some (.int l4)], [], (gSh, σ, u)) _ rfl (if_pos hc) ?_
        refine gRunN_ok hG.1 8 _ (71, [some (.ref 70), some (.int l1), some (.int l2), some (.int l3), some (.int l4)], [.int ((l2 * (32 : Int32)) + l4), .ref 75, .int ((l2 * (32 : Int32)) + l4), .ref 75], (gSh, σ, u)) rfl ?_
        obtain ⟨hc, hP⟩ := g_if hP
        refine hG.1 _ (72, [some (.ref 70), some (.int l1), some (.int l2), some (.int l3), some (.int l4)], [.int (σ.1 75 ((l2 * (32 : Int32)) + l4).toNatClampNeg), .int ((l2 * (32 : Int32)) + l4), .ref 75], (gSh, σ, u)) _ rfl (if_pos hc) ?_
        refine gRunN_ok hG.1 2 _ (74, [some (.ref 70), some (.int l1), some (.int l2), some (.int l3), some (.int l4)], [.int ((σ.1 75 ((l2 * (32 : Int32)) + l4).toNatClampNeg) - (1 : Int32)), .int ((l2 * (32 : Int32)) + l4), .ref 75], (gSh, σ, u)) rfl ?_
        obtain ⟨hc, hP⟩ := g_if hP
        refine hG.1 _ (75, [some (.ref 70), some (.int l1), some (.int l2), some (.int l3), some (.int l4)], [], (gSh, (gPut σ 75 ((l2 * (32 : Int32)) + l4).toNatClampNeg ((σ.1 75 ((l2 * (32 : Int32)) + l4).toNatClampNeg) - (1 : Int32))), u)) _ rfl (if_pos hc) ?_
        obtain ⟨s3, es3, hP⟩ := g_let hP
        rw [← es3]
        refine gRunN_ok hG.1 4 _ (79, [some (.ref 70), some (.int l1), some (.int l2), some (.int ((l3.toUInt32 >>> ((1 : Int32).toUInt32 &&& Int32.toUInt32 31)).toInt32)), some (.int l4)], [], (gSh, s3, u)) rfl ?_
        obtain ⟨x4, ex4, hP⟩ := g_let hP
        rw [← ex4]
        refine gRunN_ok hG.1 1 _ (82, [some (.ref 70), some (.int l1), some (.int l2), some (.int x4), some (.int (l4 + 1))], [], (gSh, s3, u)) rfl ?_
        obtain ⟨x5, ex5, hP⟩ := g_let hP
        rw [← ex5]
        refine gRunN_ok hG.1 1 _ (41, [some (.ref 70), some (.int l1), some (.int l2), some (.int x4), some (.int x5)], [], (gSh, s3, u)) rfl ?_
        cases hP
        exact K1 _ _ _ rfl
      · refine hG.1 _ (75, [some (.ref 70), some (.int l1), some (.int l2), some (.int l3), some (.int l4)], [], (gSh, σ, u)) _ rfl (if_neg hc) ?_
        refine gRunN_ok hG.1 4 _ (79, [some (.ref 70), some (.int l1), some (.int l2), some (.int ((l3.toUInt32 >>> ((1 : Int32).toUInt32 &&& Int32.toUInt32 31)).toInt32)), some (.int l4)], [], (gSh, σ, u)) rfl ?_
        obtain ⟨x6, ex6, hP⟩ := g_let hP
        rw [← ex6]
        refine gRunN_ok hG.1 1 _ (82, [some (.ref 70), some (.int l1), some (.int l2), some (.int x6), some (.int (l4 + 1))], [], (gSh, σ, u)) rfl ?_
        obtain ⟨x7, ex7, hP⟩ := g_let hP
        rw [← ex7]
        refine gRunN_ok hG.1 1 _ (41, [some (.ref 70), some (.int l1), some (.int l2), some (.int x6), some (.int x7)], [], (gSh, σ, u)) rfl ?_
        cases hP
        exact K1 _ _ _ rfl
theorem l_Router_giveUp_41 (E : gEv) (d u : Nat) {G : gFr → Prop} {vo : Option Value} {sr : gS} (hG : gClo E gDf gP10 gY124 none (gC E gDf gMs (d + 0)) (vo, (gSh, sr, u)) G) (l1 : Int32) (l2 : Int32) : ∀ (n : Nat) (l3 : Int32) (l4 : Int32) (σ : gS) (e : (gS)), gIter (fun z => p_Router_giveUp_41 E l1 l2 z.1 z.2.1 z.2.2) n (l3, l4, σ) = some e → (∀ (σ1 : gS), e = σ1 → G (85, [some (.ref 70), some (.int l1), some (.int l2), none, none], [], (gSh, σ1, u))) → G (41, [some (.ref 70), some (.int l1), some (.int l2), some (.int l3), some (.int l4)], [], (gSh, σ, u)) := by
  intro n
  induction n with
  | zero => intro l3 l4 σ e h; cases h
  | succ n ih =>
    intro l3 l4 σ e h K2
    rcases g_iter h with ⟨z, h1, h2⟩ | h1
    · exact b_Router_giveUp_41 E d u hG l1 l2 l3 l4 σ h1 (fun n0 n1 n2 hz => by cases hz; exact ih _ _ _ e h2 K2) (fun _ hz => by cases hz)
    · exact b_Router_giveUp_41 E d u hG l1 l2 l3 l4 σ h1 (fun _ _ _ hz => by cases hz) (fun σ1 hz => K2 σ1 (by cases hz; rfl))
def p_Router_giveUp_2 (E : gEv) (l1 : Int32) (l2 : Int32) (σ : gS) : Option ((Int32 × gS) ⊕ (gS)) :=
  if (σ.1 70 4) ≤ l2 then (some (.inr σ)) else (if gIn ((l1 * (σ.1 70 4)) + l2) (σ.2.1 74) then gLet (σ.1 74 ((l1 * (σ.1 70 4)) + l2).toNatClampNeg) fun x1 => if gIn ((l1 * (σ.1 70 4)) + l2) (σ.2.1 74) then gLet (gPut σ 74 ((l1 * (σ.1 70 4)) + l2).toNatClampNeg 0) fun s2 => gB1 (gIter (fun z => p_Router_giveUp_41 E l1 l2 z.1 z.2.1 z.2.2) gN (x1, 0, s2)) fun e8 => (fun s9 => gLet (l2 + 1) fun x10 => some (.inl (x10, s9))) e8 else none else none)
set_option maxRecDepth 20000 in
theorem b_Router_giveUp_2 (E : gEv) (d u : Nat) {G : gFr → Prop} {vo : Option Value} {sr : gS} (hG : gClo E gDf gP10 gY124 none (gC E gDf gMs (d + 0)) (vo, (gSh, sr, u)) G) (l1 : Int32) (l2 : Int32) (σ : gS) {r : (Int32 × gS) ⊕ (gS)} (hP : p_Router_giveUp_2 E l1 l2 σ = some r) (K1 : ∀ (m2 : Int32) (σ1 : gS), r = .inl (m2, σ1) → G (2, [some (.ref 70), some (.int l1), some (.int m2), none, none], [], (gSh, σ1, u))) (K2 : ∀ (σ1 : gS), r = .inr σ1 → G (91, [some (.ref 70), none, none, none, none], [], (gSh, σ1, u))) : G (2, [some (.ref 70), some (.int l1), some (.int l2), none, none], [], (gSh, σ, u)) := by
  unfold p_Router_giveUp_2 at hP
  refine gRunN_ok hG.1 3 _ (7, [some (.ref 70), some (.int l1), some (.int l2), none, none], [.int (σ.1 70 4), .int l2], (gSh, σ, u)) rfl ?_
  rcases g_ite hP with ⟨hc, hP⟩ | ⟨hc, hP⟩
  · refine hG.1 _ (91, [some (.ref 70), some (.int l1), some (.int l2), none, none], [], (gSh, σ, u)) _ rfl (if_pos hc) ?_
    refine hG.2.2.2.2.1 _ _ [some (.ref 70), none, none, none, none] _ _ ⟨rfl, trivial⟩ ?_
    cases hP
    exact K2 _ rfl
  · refine hG.1 _ (10, [some (.ref 70), some (.int l1), some (.int l2), none, none], [], (gSh, σ, u)) _ rfl (if_neg hc) ?_
    refine gRunN_ok hG.1 8 _ (22, [some (.ref 70), some (.int l1), some (.int l2), none, none], [.int ((l1 * (σ.1 70 4)) + l2), .ref 74], (gSh, σ, u)) rfl ?_
    obtain ⟨hc, hP⟩ := g_if hP
    refine hG.1 _ (23, [some (.ref 70), some (.int l1), some (.int l2), none, none], [.int (σ.1 74 ((l1 * (σ.1 70 4)) + l2).toNatClampNeg)], (gSh, σ, u)) _ rfl (if_pos hc) ?_
    refine gRunN_ok hG.1 1 _ (24, [some (.ref 70), some (.int l1), some (.int l2), some (.int (σ.1 74 ((l1 * (σ.1 70 4)) + l2).toNatClampNeg)), none], [], (gSh, σ, u)) rfl ?_
    obtain ⟨x1, ex1, hP⟩ := g_let hP
    rw [← ex1]
    refine gRunN_ok hG.1 9 _ (37, [some (.ref 70), some (.int l1), some (.int l2), some (.int x1), none], [.int 0, .int ((l1 * (σ.1 70 4)) + l2), .ref 74], (gSh, σ, u)) rfl ?_
    obtain ⟨hc, hP⟩ := g_if hP
    refine hG.1 _ (38, [some (.ref 70), some (.int l1), some (.int l2), some (.int x1), none], [], (gSh, (gPut σ 74 ((l1 * (σ.1 70 4)) + l2).toNatClampNeg 0), u)) _ rfl (if_pos hc) ?_
    obtain ⟨s2, es2, hP⟩ := g_let hP
    rw [← es2]
    refine gRunN_ok hG.1 2 _ (41, [some (.ref 70), some (.int l1), some (.int l2), some (.int x1), some (.int 0)], [], (gSh, s2, u)) rfl ?_
    obtain ⟨e8, hq, hP⟩ := g_b1 hP
    refine l_Router_giveUp_41 E d u hG l1 l2 gN x1 0 s2 _ hq (fun s9 he => ?_)
    · replace he := he.symm
      subst he
      try dsimp only [gSum] at hP
      refine gRunN_ok hG.1 1 _ (88, [some (.ref 70), some (.int l1), some (.int (l2 + 1)), none, none], [], (gSh, s9, u)) rfl ?_
      obtain ⟨x10, ex10, hP⟩ := g_let hP
      rw [← ex10]
      refine gRunN_ok hG.1 1 _ (2, [some (.ref 70), some (.int l1), some (.int x10), none, none], [], (gSh, s9, u)) rfl ?_
      cases hP
      exact K1 _ _ rfl
theorem l_Router_giveUp_2 (E : gEv) (d u : Nat) {G : gFr → Prop} {vo : Option Value} {sr : gS} (hG : gClo E gDf gP10 gY124 none (gC E gDf gMs (d + 0)) (vo, (gSh, sr, u)) G) (l1 : Int32) : ∀ (n : Nat) (l2 : Int32) (σ : gS) (e : (gS)), gIter (fun z => p_Router_giveUp_2 E l1 z.1 z.2) n (l2, σ) = some e → (∀ (σ1 : gS), e = σ1 → G (91, [some (.ref 70), none, none, none, none], [], (gSh, σ1, u))) → G (2, [some (.ref 70), some (.int l1), some (.int l2), none, none], [], (gSh, σ, u)) := by
  intro n
  induction n with
  | zero => intro l2 σ e h; cases h
  | succ n ih =>
    intro l2 σ e h K2
    rcases g_iter h with ⟨z, h1, h2⟩ | h1
    · exact b_Router_giveUp_2 E d u hG l1 l2 σ h1 (fun n0 n1 hz => by cases hz; exact ih _ _ e h2 K2) (fun _ hz => by cases hz)
    · exact b_Router_giveUp_2 E d u hG l1 l2 σ h1 (fun _ _ hz => by cases hz) (fun σ1 hz => K2 σ1 (by cases hz; rfl))
def p_Router_giveUp (E : gEv) (a0 : Int32) (σ : gS) : Option (gS) :=
  gB1 (gIter (fun z => p_Router_giveUp_2 E a0 z.1 z.2) gN (0, σ)) fun e11 => (fun s12 => gLet (gPut s12 70 12 0) fun s13 => some s13) e11
set_option maxRecDepth 20000 in
theorem c_Router_giveUp (E : gEv) (d u : Nat) (a0 : Int32) (σ : gS) {sr : gS}  (hq : p_Router_giveUp E a0 σ = some sr) : gC E gDf gMs (d + 1) 124 [.ref 70, .int a0] (gSh, σ, u) (none, (gSh, sr, u)) := ⟨gM124, rfl, Nat.le_of_ble_eq_true rfl, fun G hG => by
  have hP := hq
  unfold p_Router_giveUp at hP
  replace hG : gClo E gDf gP10 gY124 none (gC E gDf gMs (d + 0)) (none, (gSh, sr, u)) G := hG
  show G (0, [some (.ref 70), some (.int a0), none, none, none], [], (gSh, σ, u))
  refine gRunN_ok hG.1 2 _ (2, [some (.ref 70), some (.int a0), some (.int 0), none, none], [], (gSh, σ, u)) rfl ?_
  obtain ⟨e11, hq, hP⟩ := g_b1 hP
  refine l_Router_giveUp_2 E d u hG a0 gN 0 σ _ hq (fun s12 he => ?_)
  · replace he := he.symm
    subst he
    try dsimp only [gSum] at hP
    refine gRunN_ok hG.1 3 _ (96, [some (.ref 70), none, none, none, none], [], (gSh, (gPut s12 70 12 0), u)) rfl ?_
    obtain ⟨s13, es13, hP⟩ := g_let hP
    rw [← es13]
    cases hP
    exact hG.2.1 _ _ rfl rfl⟩
def p_Front_push_45 (E : gEv) (l3 : Int64) (l5 : Int32) (σ : gS) : Option ((Int32 × gS) ⊕ (Int32 × gS)) :=
  if l5 ≤ 0 then (some (.inr (l5, σ))) else (if gIn ((l5 - (1 : Int32)) / (2 : Int32)) (σ.2.1 72) then if (lg_cmp (σ.2.2 72 ((l5 - (1 : Int32)) / (2 : Int32)).toNatClampNeg) l3) ≤ 0 then (some (.inr (l5, σ))) else (if gIn ((l5 - (1 : Int32)) / (2 : Int32)) (σ.2.1 72) then if gIn l5 (σ.2.1 72) then gLet (gPutL σ 72 l5.toNatClampNeg (σ.2.2 72 ((l5 - (1 : Int32)) / (2 : Int32)).toNatClampNeg)) fun s4 => gLet ((l5 - (1 : Int32)) / (2 : Int32)) fun x5 => some (.inl (x5, s4)) else none else none) else none)
set_option maxRecDepth 20000 in
theorem b_Front_push_45 (E : gEv) (d u : Nat) {G : gFr → Prop} {vo : Option Value} {sr : gS} (hG : gClo E gDf gP11 gY127 none (gC E gDf gMs (d + 0)) (vo, (gSh, sr, u)) G) (l3 : Int64) (l5 : Int32) (σ : gS) {r : (Int32 × gS) ⊕ (Int32 × gS)} (hP : p_Front_push_45 E l3 l5 σ = some r) (K1 : ∀ (m5 : Int32) (σ1 : gS), r = .inl (m5, σ1) → G (45, [some (.ref 71), none, none, some (.long l3), none, some (.int m5)], [], (gSh, σ1, u))) (K2 : ∀ (m5 : Int32) (σ1 : gS), r = .inr (m5, σ1) → G (95, [some (.ref 71), none, none, some (.long l3), none, some (.int m5)], [], (gSh, σ1, u))) : G (45, [some (.ref 71), none, none, some (.long l3), none, some (.int l5)], [], (gSh, σ, u)) := by
  unfold p_Front_push_45 at hP
  refine gRunN_ok hG.1 1 _ (47, [some (.ref 71), none, none, some (.long l3), none, some (.int l5)], [.int l5], (gSh, σ, u)) rfl ?_
  rcases g_ite hP with ⟨hc, hP⟩ | ⟨hc, hP⟩
  · refine hG.1 _ (95, [some (.ref 71), none, none, some (.long l3), none, some (.int l5)], [], (gSh, σ, u)) _ rfl (if_pos hc) ?_
    cases hP
    exact K2 _ _ rfl
  · refine hG.1 _ (50, [some (.ref 71), none, none, some (.long l3), none, some (.int l5)], [], (gSh, σ, u)) _ rfl (if_neg hc) ?_
    refine gRunN_ok hG.1 7 _ (60, [some (.ref 71), none, none, some (.long l3), none, some (.int l5)], [.int ((l5 - (1 : Int32)) / (2 : Int32)), .ref 72], (gSh, σ, u)) rfl ?_
    obtain ⟨hc, hP⟩ := g_if hP
    refine hG.1 _ (61, [some (.ref 71), none, none, some (.long l3), none, some (.int l5)], [.long (σ.2.2 72 ((l5 - (1 : Int32)) / (2 : Int32)).toNatClampNeg)], (gSh, σ, u)) _ rfl (if_pos hc) ?_
    refine gRunN_ok hG.1 2 _ (63, [some (.ref 71), none, none, some (.long l3), none, some (.int l5)], [.int (lg_cmp (σ.2.2 72 ((l5 - (1 : Int32)) / (2 : Int32)).toNatClampNeg) l3)], (gSh, σ, u)) rfl ?_
    rcases g_ite hP with ⟨hc, hP⟩ | ⟨hc, hP⟩
    · refine hG.1 _ (95, [some (.ref 71), none, none, some (.long l3), none, some (.int l5)], [], (gSh, σ, u)) _ rfl (if_pos hc) ?_
      cases hP
      exact K2 _ _ rfl
    · refine hG.1 _ (66, [some (.ref 71), none, none, some (.long l3), none, some (.int l5)], [], (gSh, σ, u)) _ rfl (if_neg hc) ?_
      refine gRunN_ok hG.1 10 _ (82, [some (.ref 71), none, none, some (.long l3), none, some (.int l5)], [.int ((l5 - (1 : Int32)) / (2 : Int32)), .ref 72, .int l5, .ref 72], (gSh, σ, u)) rfl ?_
      obtain ⟨hc, hP⟩ := g_if hP
      refine hG.1 _ (83, [some (.ref 71), none, none, some (.long l3), none, some (.int l5)], [.long (σ.2.2 72 ((l5 - (1 : Int32)) / (2 : Int32)).toNatClampNeg), .int l5, .ref 72], (gSh, σ, u)) _ rfl (if_pos hc) ?_
      obtain ⟨hc, hP⟩ := g_if hP
      refine hG.1 _ (84, [some (.ref 71), none, none, some (.long l3), none, some (.int l5)], [], (gSh, (gPutL σ 72 l5.toNatClampNeg (σ.2.2 72 ((l5 - (1 : Int32)) / (2 : Int32)).toNatClampNeg)), u)) _ rfl (if_pos hc) ?_
      obtain ⟨s4, es4, hP⟩ := g_let hP
      rw [← es4]
      refine gRunN_ok hG.1 6 _ (92, [some (.ref 71), none, none, some (.long l3), none, some (.int ((l5 - (1 : Int32)) / (2 : Int32)))], [], (gSh, s4, u)) rfl ?_
      obtain ⟨x5, ex5, hP⟩ := g_let hP
      rw [← ex5]
      refine gRunN_ok hG.1 1 _ (45, [some (.ref 71), none, none, some (.long l3), none, some (.int x5)], [], (gSh, s4, u)) rfl ?_
      cases hP
      exact K1 _ _ rfl
theorem l_Front_push_45 (E : gEv) (d u : Nat) {G : gFr → Prop} {vo : Option Value} {sr : gS} (hG : gClo E gDf gP11 gY127 none (gC E gDf gMs (d + 0)) (vo, (gSh, sr, u)) G) (l3 : Int64) : ∀ (n : Nat) (l5 : Int32) (σ : gS) (e : (Int32 × gS)), gIter (fun z => p_Front_push_45 E l3 z.1 z.2) n (l5, σ) = some e → (∀ (m5 : Int32) (σ1 : gS), e = (m5, σ1) → G (95, [some (.ref 71), none, none, some (.long l3), none, some (.int m5)], [], (gSh, σ1, u))) → G (45, [some (.ref 71), none, none, some (.long l3), none, some (.int l5)], [], (gSh, σ, u)) := by
  intro n
  induction n with
  | zero => intro l5 σ e h; cases h
  | succ n ih =>
    intro l5 σ e h K2
    rcases g_iter h with ⟨z, h1, h2⟩ | h1
    · exact b_Front_push_45 E d u hG l3 l5 σ h1 (fun n0 n1 hz => by cases hz; exact ih _ _ e h2 K2) (fun _ _ hz => by cases hz)
    · exact b_Front_push_45 E d u hG l3 l5 σ h1 (fun _ _ hz => by cases hz) (fun m5 σ1 hz => K2 m5 σ1 (by cases hz; rfl))
def p_Front_push_j95 (E : gEv) (l3 : Int64) (l5 : Int32) (σ : gS) : Option (gS) :=
  if gIn l5 (σ.2.1 72) then gLet (gPutL σ 72 l5.toNatClampNeg l3) fun s9 => gLet (gPut s9 71 2 ((s9.1 71 2) + (1 : Int32))) fun s10 => some s10 else none
set_option maxRecDepth 20000 in
theorem j_Front_push_j95 (E : gEv) (d u : Nat) {G : gFr → Prop} {sr : gS} (hG : gClo E gDf gP11 gY127 none (gC E gDf gMs (d + 0)) (none, (gSh, sr, u)) G) (l3 : Int64) (l5 : Int32) (σ : gS) (hP : p_Front_push_j95 E l3 l5 σ = some sr) : G (95, [some (.ref 71), none, none, some (.long l3), none, some (.int l5)], [], (gSh, σ, u)) := by
  unfold p_Front_push_j95 at hP
  refine gRunN_ok hG.1 4 _ (102, [some (.ref 71), none, none, some (.long l3), none, some (.int l5)], [.long l3, .int l5, .ref 72], (gSh, σ, u)) rfl ?_
  obtain ⟨hc, hP⟩ := g_if hP
  refine hG.1 _ (103, [some (.ref 71), none, none, some (.long l3), none, some (.int l5)], [], (gSh, (gPutL σ 72 l5.toNatClampNeg l3), u)) _ rfl (if_pos hc) ?_
  obtain ⟨s9, es9, hP⟩ := g_let hP
  rw [← es9]
  refine gRunN_ok hG.1 6 _ (113, [some (.ref 71), none, none, some (.long l3), none, some (.int l5)], [], (gSh, (gPut s9 71 2 ((s9.1 71 2) + (1 : Int32))), u)) rfl ?_
  obtain ⟨s10, es10, hP⟩ := g_let hP
  rw [← es10]
  cases hP
  exact hG.2.1 _ _ rfl rfl
def p_Front_push (E : gEv) (a0 : Int32) (a1 : Int32) (σ : gS) : Option (gS) :=
  if gIn a0 (σ.2.1 73) then if (σ.1 73 a0.toNatClampNeg) = ((-1) : Int32) then (if (σ.1 71 2) < (Int32.ofNat (σ.2.1 72)) then (if gIn a0 (σ.2.1 73) then gLet (gPut σ 73 a0.toNatClampNeg a1) fun s1 => gLet (((a1.toInt64) <<< ((10 : Int32).toInt64 &&& 63)) ||| (a0.toInt64)) fun x2 => gLet (s1.1 71 2) fun x3 => gB1 (gIter (fun z => p_Front_push_45 E x2 z.1 z.2) gN (x3, s1)) fun e6 => (fun w7 s8 => p_Front_push_j95 E x2 w7 s8) e6.1 e6.2 else none) else (some σ)) else (some σ) else none
set_option maxRecDepth 20000 in
theorem c_Front_push (E : gEv) (d u : Nat) (a0 : Int32) (a1 : Int32) (σ : gS) {sr : gS}  (hq : p_Front_push E a0 a1 σ = some sr) : gC E gDf gMs (d + 1) 127 [.ref 71, .int a0, .int a1] (gSh, σ, u) (none, (gSh, sr, u)) := ⟨gM127, rfl, Nat.le_of_ble_eq_true rfl, fun G hG => by
  have hP := hq
  unfold p_Front_push at hP
  replace hG : gClo E gDf gP11 gY127 none (gC E gDf gMs (d + 0)) (none, (gSh, sr, u)) G := hG
  show G (0, [some (.ref 71), some (.int a0), some (.int a1), none, none, none], [], (gSh, σ, u))
  refine gRunN_ok hG.1 3 _ (5, [some (.ref 71), some (.int a0), some (.int a1), none, none, none], [.int a0, .ref 73], (gSh, σ, u)) rfl ?_
  obtain ⟨hc, hP⟩ := g_if hP
  refine hG.1 _ (6, [some (.ref 71), some (.int a0), some (.int a1), none, none, none], [.int (σ.1 73 a0.toNatClampNeg)], (gSh, σ, u)) _ rfl (if_pos hc) ?_
  refine gRunN_ok hG.1 1 _ (7, [some (.ref 71), some (.int a0), some (.int a1), none, none, none], [.int (-1), .int (σ.1 73 a0.toNatClampNeg)], (gSh, σ, u)) rfl ?_
  rcases g_ite hP with ⟨hc, hP⟩ | ⟨hc, hP⟩
  · refine hG.1 _ (10, [some (.ref 71), some (.int a0), some (.int a1), none, none, none], [], (gSh, σ, u)) _ rfl (if_pos hc) ?_
    refine gRunN_ok hG.1 5 _ (19, [some (.ref 71), some (.int a0), some (.int a1), none, none, none], [.int (Int32.ofNat (σ.2.1 72)), .int (σ.1 71 2)], (gSh, σ, u)) rfl ?_
    rcases g_ite hP with ⟨hc, hP⟩ | ⟨hc, hP⟩
    · refine hG.1 _ (23, [some (.ref 71), some (.int a0), some (.int a1), none, none, none], [], (gSh, σ, u)) _ rfl (if_pos hc) ?_
      refine gRunN_ok hG.1 4 _ (29, [some (.ref 71), some (.int a0), some (.int a1), none, none, none], [.int a1, .int a0, .ref 73], (gSh, σ, u)) rfl ?_
      obtain ⟨hc, hP⟩ := g_if hP
      refine hG.1 _ (30, [some (.ref 71), some (.int a0), some (.int a1), none, none, none], [], (gSh, (gPut σ 73 a0.toNatClampNeg a1), u)) _ rfl (if_pos hc) ?_
      obtain ⟨s1, es1, hP⟩ := g_let hP
      rw [← es1]
      refine gRunN_ok hG.1 8 _ (39, [some (.ref 71), some (.int a0), some (.int a1), some (.long (((a1.toInt64) <<< ((10 : Int32).toInt64 &&& 63)) ||| (a0.toInt64))), none, none], [], (gSh, s1, u)) rfl ?_
      obtain ⟨x2, ex2, hP⟩ := g_let hP
      rw [← ex2]
      refine gRunN_ok hG.1 3 _ (45, [some (.ref 71), some (.int a0), some (.int a1), some (.long x2), none, some (.int (s1.1 71 2))], [], (gSh, s1, u)) rfl ?_
      obtain ⟨x3, ex3, hP⟩ := g_let hP
      rw [← ex3]
      refine hG.2.2.2.2.1 _ _ [some (.ref 71), none, none, some (.long x2), none, some (.int x3)] _ _ ⟨rfl, ⟨rfl, ⟨rfl, trivial⟩⟩⟩ ?_
      obtain ⟨e6, hq, hP⟩ := g_b1 hP
      refine l_Front_push_45 E d u hG x2 gN x3 s1 _ hq (fun w7 s8 he => ?_)
      · subst he
        try dsimp only [gSum] at hP
        exact j_Front_push_j95 E d u hG x2 w7 s8 hP
    · refine hG.1 _ (22, [some (.ref 71), some (.int a0), some (.int a1), none, none, none], [], (gSh, σ, u)) _ rfl (if_neg hc) ?_
      cases hP
      exact hG.2.1 _ _ rfl rfl
  · refine hG.1 _ (22, [some (.ref 71), some (.int a0), some (.int a1), none, none, none], [], (gSh, σ, u)) _ rfl (if_neg hc) ?_
    cases hP
    exact hG.2.1 _ _ rfl rfl⟩
def p_Router_costOf (E : gEv) (a0 : Int32) (σ : gS) : Option (Int32) :=
  if (σ.1 70 14) = ((-1) : Int32) then (if gIn a0 (σ.2.1 76) then if gIn a0 (σ.2.1 75) then some (((1 : Int32) + (σ.1 76 a0.toNatClampNeg)) * ((1 : Int32) + (((σ.1 70 13) - (1 : Int32)) * (σ.1 75 a0.toNatClampNeg)))) else none else none) else (some 1)
set_option maxRecDepth 20000 in
theorem c_Router_costOf (E : gEv) (d u : Nat) (a0 : Int32) (σ : gS) {v : Int32}  (hq : p_Router_costOf E a0 σ = some v) : gC E gDf gMs (d + 1) 129 [.ref 70, .int a0] (gSh, σ, u) (some (.int v), (gSh, σ, u)) := ⟨gM129, rfl, Nat.le_of_ble_eq_true rfl, fun G hG => by
  have hP := hq
  unfold p_Router_costOf at hP
  replace hG : gClo E gDf gP10 gY129 (some .int) (gC E gDf gMs (d + 0)) (some (.int v), (gSh, σ, u)) G := hG
  show G (0, [some (.ref 70), some (.int a0)], [], (gSh, σ, u))
  refine gRunN_ok hG.1 3 _ (5, [some (.ref 70), some (.int a0)], [.int (-1), .int (σ.1 70 14)], (gSh, σ, u)) rfl ?_
  rcases g_ite hP with ⟨hc, hP⟩ | ⟨hc, hP⟩
  · refine hG.1 _ (8, [some (.ref 70), some (.int a0)], [], (gSh, σ, u)) _ rfl (if_pos hc) ?_
    refine gRunN_ok hG.1 4 _ (14, [some (.ref 70), some (.int a0)], [.int a0, .ref 76, .int 1], (gSh, σ, u)) rfl ?_
    obtain ⟨hc, hP⟩ := g_if hP
    refine hG.1 _ (15, [some (.ref 70), some (.int a0)], [.int (σ.1 76 a0.toNatClampNeg), .int 1], (gSh, σ, u)) _ rfl (if_pos hc) ?_
    refine gRunN_ok hG.1 9 _ (28, [some (.ref 70), some (.int a0)], [.int a0, .ref 75, .int ((σ.1 70 13) - (1 : Int32)), .int 1, .int ((1 : Int32) + (σ.1 76 a0.toNatClampNeg))], (gSh, σ, u)) rfl ?_
    obtain ⟨hc, hP⟩ := g_if hP
    refine hG.1 _ (29, [some (.ref 70), some (.int a0)], [.int (σ.1 75 a0.toNatClampNeg), .int ((σ.1 70 13) - (1 : Int32)), .int 1, .int ((1 : Int32) + (σ.1 76 a0.toNatClampNeg))], (gSh, σ, u)) _ rfl (if_pos hc) ?_
    refine gRunN_ok hG.1 4 _ (36, [some (.ref 70), some (.int a0)], [.int (((1 : Int32) + (σ.1 76 a0.toNatClampNeg)) * ((1 : Int32) + (((σ.1 70 13) - (1 : Int32)) * (σ.1 75 a0.toNatClampNeg))))], (gSh, σ, u)) rfl ?_
    cases hP
    exact hG.2.1 _ _ rfl rfl
  · refine hG.1 _ (35, [some (.ref 70), some (.int a0)], [], (gSh, σ, u)) _ rfl (if_neg hc) ?_
    refine gRunN_ok hG.1 1 _ (36, [some (.ref 70), some (.int a0)], [.int 1], (gSh, σ, u)) rfl ?_
    cases hP
    exact hG.2.1 _ _ rfl rfl⟩
def p_Front_pop_j94_39 (E : gEv) (l1 : Int64) (l3 : Int64) (l5 : Int32) (l6 : Int32) (σ : gS) : Option ((Int32 × gS) ⊕ ((Int32 × gS) ⊕ (Int32 × gS))) :=
  if gIn l6 (σ.2.1 72) then if (lg_cmp (σ.2.2 72 l6.toNatClampNeg) l3) < 0 then (if gIn l6 (σ.2.1 72) then if gIn l5 (σ.2.1 72) then gLet (gPutL σ 72 l5.toNatClampNeg (σ.2.2 72 l6.toNatClampNeg)) fun s5 => some (.inl (l6, s5)) else none else none) else (some (.inr (.inl (l5, σ)))) else none
set_option maxRecDepth 20000 in
theorem j_Front_pop_j94_39 (E : gEv) (d u : Nat) {G : gFr → Prop} {vo : Option Value} {sr : gS} (hG : gClo E gDf gP11 gY130 (some .int) (gC E gDf gMs (d + 0)) (vo, (gSh, sr, u)) G) (l1 : Int64) (l3 : Int64) (l5 : Int32) (l6 : Int32) (σ : gS) {r : (Int32 × gS) ⊕ ((Int32 × gS) ⊕ (Int32 × gS))} (hP : p_Front_pop_j94_39 E l1 l3 l5 l6 σ = some r) (K1 : ∀ (m5 : Int32) (σ1 : gS), r = .inl (m5, σ1) → G (39, [some (.ref 71), some (.long l1), none, some (.long l3), none, some (.int m5), none], [], (gSh, σ1, u))) (K2 : ∀ (m5 : Int32) (σ1 : gS), r = .inr (.inl (m5, σ1)) → G (106, [some (.ref 71), some (.long l1), none, some (.long l3), none, some (.int m5), none], [], (gSh, σ1, u))) (K3 : ∀ (m5 : Int32) (σ1 : gS), r = .inr (.inr (m5, σ1)) → G (130, [some (.ref 71), some (.long l1), none, some (.long l3), none, some (.int m5), none], [], (gSh, σ1, u))) : G (94, [some (.ref 71), some (.long l1), none, some (.long l3), none, some (.int l5), some (.int l6)], [], (gSh, σ, u)) := by
  unfold p_Front_pop_j94_39 at hP
  refine gRunN_ok hG.1 3 _ (100, [some (.ref 71), some (.long l1), none, some (.long l3), none, some (.int l5), some (.int l6)], [.int l6, .ref 72], (gSh, σ, u)) rfl ?_
  obtain ⟨hc, hP⟩ := g_if hP
  refine hG.1 _ (101, [some (.ref 71), some (.long l1), none, some (.long l3), none, some (.int l5), some (.int l6)], [.long (σ.2.2 72 l6.toNatClampNeg)], (gSh, σ, u)) _ rfl (if_pos hc) ?_
  refine gRunN_ok hG.1 2 _ (103, [some (.ref 71), some (.long l1), none, some (.long l3), none, some (.int l5), some (.int l6)], [.int (lg_cmp (σ.2.2 72 l6.toNatClampNeg) l3)], (gSh, σ, u)) rfl ?_
  rcases g_ite hP with ⟨hc, hP⟩ | ⟨hc, hP⟩
  · refine hG.1 _ (109, [some (.ref 71), some (.long l1), none, some (.long l3), none, some (.int l5), some (.int l6)], [], (gSh, σ, u)) _ rfl (if_pos hc) ?_
    refine gRunN_ok hG.1 6 _ (121, [some (.ref 71), some (.long l1), none, some (.long l3), none, some (.int l5), some (.int l6)], [.int l6, .ref 72, .int l5, .ref 72], (gSh, σ, u)) rfl ?_
    obtain ⟨hc, hP⟩ := g_if hP
    refine hG.1 _ (122, [some (.ref 71), some (.long l1), none, some (.long l3), none, some (.int l5), some (.int l6)], [.long (σ.2.2 72 l6.toNatClampNeg), .int l5, .ref 72], (gSh, σ, u)) _ rfl (if_pos hc) ?_
    obtain ⟨hc, hP⟩ := g_if hP
    refine hG.1 _ (123, [some (.ref 71), some (.long l1), none, some (.long l3), none, some (.int l5), some (.int l6)], [], (gSh, (gPutL σ 72 l5.toNatClampNeg (σ.2.2 72 l6.toNatClampNeg)), u)) _ rfl (if_pos hc) ?_
    obtain ⟨s5, es5, hP⟩ := g_let hP
    rw [← es5]
    refine gRunN_ok hG.1 3 _ (39, [some (.ref 71), some (.long l1), none, some (.long l3), none, some (.int l6), some (.int l6)], [], (gSh, s5, u)) rfl ?_
    refine hG.2.2.2.2.1 _ _ [some (.ref 71), some (.long l1), none, some (.long l3), none, some (.int l6), none] _ _ ⟨rfl, ⟨rfl, ⟨rfl, ⟨rfl, trivial⟩⟩⟩⟩ ?_
    cases hP
    exact K1 _ _ rfl
  · refine hG.1 _ (106, [some (.ref 71), some (.long l1), none, some (.long l3), none, some (.int l5), some (.int l6)], [], (gSh, σ, u)) _ rfl (if_neg hc) ?_
    refine hG.2.2.2.2.1 _ _ [some (.ref 71), some (.long l1), none, some (.long l3), none, some (.int l5), none] _ _ ⟨rfl, ⟨rfl, ⟨rfl, ⟨rfl, trivial⟩⟩⟩⟩ ?_
    cases hP
    exact K2 _ _ rfl
def p_Front_pop_39 (E : gEv) (l1 : Int64) (l3 : Int64) (l5 : Int32) (σ : gS) : Option ((Int32 × gS) ⊕ ((Int32 × gS) ⊕ (Int32 × gS))) :=
  if (σ.1 71 2) ≤ (((2 : Int32) * l5) + (1 : Int32)) then (some (.inr (.inr (l5, σ)))) else (gLet (((2 : Int32) * l5) + (1 : Int32)) fun x4 => if (σ.1 71 2) ≤ (x4 + (1 : Int32)) then (p_Front_pop_j94_39 E l1 l3 l5 x4 σ) else (if gIn (x4 + (1 : Int32)) (σ.2.1 72) then if gIn x4 (σ.2.1 72) then if 0 ≤ (lg_cmp (σ.2.2 72 (x4 + (1 : Int32)).toNatClampNeg) (σ.2.2 72 x4.toNatClampNeg)) then (p_Front_pop_j94_39 E l1 l3 l5 x4 σ) else (gLet (x4 + 1) fun x6 => p_Front_pop_j94_39 E l1 l3 l5 x6 σ) else none else none))
set_option maxRecDepth 20000 in
theorem b_Front_pop_39 (E : gEv) (d u : Nat) {G : gFr → Prop} {vo : Option Value} {sr : gS} (hG : gClo E gDf gP11 gY130 (some .int) (gC E gDf gMs (d + 0)) (vo, (gSh, sr, u)) G) (l1 : Int64) (l3 : Int64) (l5 : Int32) (σ : gS) {r : (Int32 × gS) ⊕ ((Int32 × gS) ⊕ (Int32 × gS))} (hP : p_Front_pop_39 E l1 l3 l5 σ = some r) (K1 : ∀ (m5 : Int32) (σ1 : gS), r = .inl (m5, σ1) → G (39, [some (.ref 71), some (.long l1), none, some (.long l3), none, some (.int m5), none], [], (gSh, σ1, u))) (K2 : ∀ (m5 : Int32) (σ1 : gS), r = .inr (.inl (m5, σ1)) → G (106, [some (.ref 71), some (.long l1), none, some (.long l3), none, some (.int m5), none], [], (gSh, σ1, u))) (K3 : ∀ (m5 : Int32) (σ1 : gS), r = .inr (.inr (m5, σ1)) → G (130, [some (.ref 71), some (.long l1), none, some (.long l3), none, some (.int m5), none], [], (gSh, σ1, u))) : G (39, [some (.ref 71), some (.long l1), none, some (.long l3), none, some (.int l5), none], [], (gSh, σ, u)) := by
  unfold p_Front_pop_39 at hP
  refine gRunN_ok hG.1 7 _ (49, [some (.ref 71), some (.long l1), none, some (.long l3), none, some (.int l5), none], [.int (σ.1 71 2), .int (((2 : Int32) * l5) + (1 : Int32))], (gSh, σ, u)) rfl ?_
  rcases g_ite hP with ⟨hc, hP⟩ | ⟨hc, hP⟩
  · refine hG.1 _ (130, [some (.ref 71), some (.long l1), none, some (.long l3), none, some (.int l5), none], [], (gSh, σ, u)) _ rfl (if_pos hc) ?_
    cases hP
    exact K3 _ _ rfl
  · refine hG.1 _ (52, [some (.ref 71), some (.long l1), none, some (.long l3), none, some (.int l5), none], [], (gSh, σ, u)) _ rfl (if_neg hc) ?_
    refine gRunN_ok hG.1 6 _ (60, [some (.ref 71), some (.long l1), none, some (.long l3), none, some (.int l5), some (.int (((2 : Int32) * l5) + (1 : Int32)))], [], (gSh, σ, u)) rfl ?_
    obtain ⟨x4, ex4, hP⟩ := g_let hP
    rw [← ex4]
    refine gRunN_ok hG.1 5 _ (68, [some (.ref 71), some (.long l1), none, some (.long l3), none, some (.int l5), some (.int x4)], [.int (σ.1 71 2), .int (x4 + (1 : Int32))], (gSh, σ, u)) rfl ?_
    rcases g_ite hP with ⟨hc, hP⟩ | ⟨hc, hP⟩
    · refine hG.1 _ (94, [some (.ref 71), some (.long l1), none, some (.long l3), none, some (.int l5), some (.int x4)], [], (gSh, σ, u)) _ rfl (if_pos hc) ?_
      exact j_Front_pop_j94_39 E d u hG l1 l3 l5 x4 σ hP K1 K2 K3
    · refine hG.1 _ (71, [some (.ref 71), some (.long l1), none, some (.long l3), none, some (.int l5), some (.int x4)], [], (gSh, σ, u)) _ rfl (if_neg hc) ?_
      refine gRunN_ok hG.1 5 _ (79, [some (.ref 71), some (.long l1), none, some (.long l3), none, some (.int l5), some (.int x4)], [.int (x4 + (1 : Int32)), .ref 72], (gSh, σ, u)) rfl ?_
      obtain ⟨hc, hP⟩ := g_if hP
      refine hG.1 _ (80, [some (.ref 71), some (.long l1), none, some (.long l3), none, some (.int l5), some (.int x4)], [.long (σ.2.2 72 (x4 + (1 : Int32)).toNatClampNeg)], (gSh, σ, u)) _ rfl (if_pos hc) ?_
      refine gRunN_ok hG.1 3 _ (86, [some (.ref 71), some (.long l1), none, some (.long l3), none, some (.int l5), some (.int x4)], [.int x4, .ref 72, .long (σ.2.2 72 (x4 + (1 : Int32)).toNatClampNeg)], (gSh, σ, u)) rfl ?_
      obtain ⟨hc, hP⟩ := g_if hP
      refine hG.1 _ (87, [some (.ref 71), some (.long l1), none, some (.long l3), none, some (.int l5), some (.int x4)], [.long (σ.2.2 72 x4.toNatClampNeg), .long (σ.2.2 72 (x4 + (1 : Int32)).toNatClampNeg)], (gSh, σ, u)) _ rfl (if_pos hc) ?_
      refine gRunN_ok hG.1 1 _ (88, [some (.ref 71), some (.long l1), none, some (.long l3), none, some (.int l5), some (.int x4)], [.int (lg_cmp (σ.2.2 72 (x4 + (1 : Int32)).toNatClampNeg) (σ.2.2 72 x4.toNatClampNeg))], (gSh, σ, u)) rfl ?_
      rcases g_ite hP with ⟨hc, hP⟩ | ⟨hc, hP⟩
      · refine hG.1 _ (94, [some (.ref 71), some (.long l1), none, some (.long l3), none, some (.int l5), some (.int x4)], [], (gSh, σ, u)) _ rfl (if_pos hc) ?_
        exact j_Front_pop_j94_39 E d u hG l1 l3 l5 x4 σ hP K1 K2 K3
      · refine hG.1 _ (91, [some (.ref 71), some (.long l1), none, some (.long l3), none, some (.int l5), some (.int x4)], [], (gSh, σ, u)) _ rfl (if_neg hc) ?_
        refine gRunN_ok hG.1 1 _ (94, [some (.ref 71), some (.long l1), none, some (.long l3), none, some (.int l5), some (.int (x4 + 1))], [], (gSh, σ, u)) rfl ?_
        obtain ⟨x6, ex6, hP⟩ := g_let hP
        rw [← ex6]
        exact j_Front_pop_j94_39 E d u hG l1 l3 l5 x6 σ hP K1 K2 K3
theorem l_Front_pop_39 (E : gEv) (d u : Nat) {G : gFr → Prop} {vo : Option Value} {sr : gS} (hG : gClo E gDf gP11 gY130 (some .int) (gC E gDf gMs (d + 0)) (vo, (gSh, sr, u)) G) (l1 : Int64) (l3 : Int64) : ∀ (n : Nat) (l5 : Int32) (σ : gS) (e : ((Int32 × gS) ⊕ (Int32 × gS))), gIter (fun z => p_Front_pop_39 E l1 l3 z.1 z.2) n (l5, σ) = some e → (∀ (m5 : Int32) (σ1 : gS), e = (.inl (m5, σ1)) → G (106, [some (.ref 71), some (.long l1), none, some (.long l3), none, some (.int m5), none], [], (gSh, σ1, u))) → (∀ (m5 : Int32) (σ1 : gS), e = (.inr (m5, σ1)) → G (130, [some (.ref 71), some (.long l1), none, some (.long l3), none, some (.int m5), none], [], (gSh, σ1, u))) → G (39, [some (.ref 71), some (.long l1), none, some (.long l3), none, some (.int l5), none], [], (gSh, σ, u)) := by
  intro n
  induction n with
  | zero => intro l5 σ e h; cases h
  | succ n ih =>
    intro l5 σ e h K2 K3
    rcases g_iter h with ⟨z, h1, h2⟩ | h1
    · exact b_Front_pop_39 E d u hG l1 l3 l5 σ h1 (fun n0 n1 hz => by cases hz; exact ih _ _ e h2 K2 K3) (fun _ _ hz => by cases hz) (fun _ _ hz => by cases hz)
    · exact b_Front_pop_39 E d u hG l1 l3 l5 σ h1 (fun _ _ hz => by cases hz) (fun m5 σ1 hz => K2 m5 σ1 (by cases hz; rfl)) (fun m5 σ1 hz => K3 m5 σ1 (by cases hz; rfl))
def p_Front_pop_j130 (E : gEv) (l1 : Int64) (l3 : Int64) (l5 : Int32) (σ : gS) : Option (Int32 × gS) :=
  if gIn l5 (σ.2.1 72) then gLet (gPutL σ 72 l5.toNatClampNeg l3) fun s10 => some ((l1 &&& (1023 : Int64)).toInt32, s10) else none
set_option maxRecDepth 20000 in
theorem j_Front_pop_j130 (E : gEv) (d u : Nat) {G : gFr → Prop} {v : Int32} {sr : gS} (hG : gClo E gDf gP11 gY130 (some .int) (gC E gDf gMs (d + 0)) (some (.int v), (gSh, sr, u)) G) (l1 : Int64) (l3 : Int64) (l5 : Int32) (σ : gS) (hP : p_Front_pop_j130 E l1 l3 l5 σ = some (v, sr)) : G (130, [some (.ref 71), some (.long l1), none, some (.long l3), none, some (.int l5), none], [], (gSh, σ, u)) := by
  unfold p_Front_pop_j130 at hP
  refine gRunN_ok hG.1 4 _ (137, [some (.ref 71), some (.long l1), none, some (.long l3), none, some (.int l5), none], [.long l3, .int l5, .ref 72], (gSh, σ, u)) rfl ?_
  obtain ⟨hc, hP⟩ := g_if hP
  refine hG.1 _ (138, [some (.ref 71), some (.long l1), none, some (.long l3), none, some (.int l5), none], [], (gSh, (gPutL σ 72 l5.toNatClampNeg l3), u)) _ rfl (if_pos hc) ?_
  obtain ⟨s10, es10, hP⟩ := g_let hP
  rw [← es10]
  refine gRunN_ok hG.1 4 _ (144, [some (.ref 71), some (.long l1), none, some (.long l3), none, some (.int l5), none], [.int ((l1 &&& (1023 : Int64)).toInt32)], (gSh, s10, u)) rfl ?_
  cases hP
  exact hG.2.1 _ _ rfl rfl
def p_Front_pop (E : gEv) (σ : gS) : Option (Int32 × gS) :=
  if (σ.1 71 2) = 0 then (some ((-1), σ)) else (if gIn (0 : Int32) (σ.2.1 72) then gLet (σ.2.2 72 (0 : Int32).toNatClampNeg) fun x1 => gLet (gPut σ 71 2 ((σ.1 71 2) - (1 : Int32))) fun s2 => if gIn (s2.1 71 2) (s2.2.1 72) then gLet (s2.2.2 72 (s2.1 71 2).toNatClampNeg) fun x3 => gB1 (gIter (fun z => p_Front_pop_39 E x1 x3 z.1 z.2) gN (0, s2)) fun e7 => gSum e7 (fun e13 => (fun w8 s9 => p_Front_pop_j130 E x1 x3 w8 s9) e13.1 e13.2) (fun e14 => (fun w11 s12 => p_Front_pop_j130 E x1 x3 w11 s12) e14.1 e14.2) else none else none)
set_option maxRecDepth 20000 in
theorem c_Front_pop (E : gEv) (d u : Nat) (σ : gS) {v : Int32} {sr : gS}  (hq : p_Front_pop E σ = some (v, sr)) : gC E gDf gMs (d + 1) 130 [.ref 71] (gSh, σ, u) (some (.int v), (gSh, sr, u)) := ⟨gM130, rfl, Nat.le_of_ble_eq_true rfl, fun G hG => by
  have hP := hq
  unfold p_Front_pop at hP
  replace hG : gClo E gDf gP11 gY130 (some .int) (gC E gDf gMs (d + 0)) (some (.int v), (gSh, sr, u)) G := hG
  show G (0, [some (.ref 71), none, none, none, none, none, none], [], (gSh, σ, u))
  refine gRunN_ok hG.1 2 _ (4, [some (.ref 71), none, none, none, none, none, none], [.int (σ.1 71 2)], (gSh, σ, u)) rfl ?_
  rcases g_ite hP with ⟨hc, hP⟩ | ⟨hc, hP⟩
  · refine hG.1 _ (7, [some (.ref 71), none, none, none, none, none, none], [], (gSh, σ, u)) _ rfl (if_pos hc) ?_
    refine gRunN_ok hG.1 1 _ (8, [some (.ref 71), none, none, none, none, none, none], [.int (-1)], (gSh, σ, u)) rfl ?_
    cases hP
    exact hG.2.1 _ _ rfl rfl
  · refine hG.1 _ (9, [some (.ref 71), none, none, none, none, none, none], [], (gSh, σ, u)) _ rfl (if_neg hc) ?_
    refine gRunN_ok hG.1 3 _ (14, [some (.ref 71), none, none, none, none, none, none], [.int 0, .ref 72], (gSh, σ, u)) rfl ?_
    obtain ⟨hc, hP⟩ := g_if hP
    refine hG.1 _ (15, [some (.ref 71), none, none, none, none, none, none], [.long (σ.2.2 72 (0 : Int32).toNatClampNeg)], (gSh, σ, u)) _ rfl (if_pos hc) ?_
    refine gRunN_ok hG.1 1 _ (16, [some (.ref 71), some (.long (σ.2.2 72 (0 : Int32).toNatClampNeg)), none, none, none, none, none], [], (gSh, σ, u)) rfl ?_
    obtain ⟨x1, ex1, hP⟩ := g_let hP
    rw [← ex1]
    refine gRunN_ok hG.1 6 _ (26, [some (.ref 71), some (.long x1), none, none, none, none, none], [], (gSh, (gPut σ 71 2 ((σ.1 71 2) - (1 : Int32))), u)) rfl ?_
    obtain ⟨s2, es2, hP⟩ := g_let hP
    rw [← es2]
    refine gRunN_ok hG.1 4 _ (34, [some (.ref 71), some (.long x1), none, none, none, none, none], [.int (s2.1 71 2), .ref 72], (gSh, s2, u)) rfl ?_
    obtain ⟨hc, hP⟩ := g_if hP
    refine hG.1 _ (35, [some (.ref 71), some (.long x1), none, none, none, none, none], [.long (s2.2.2 72 (s2.1 71 2).toNatClampNeg)], (gSh, s2, u)) _ rfl (if_pos hc) ?_
    refine gRunN_ok hG.1 1 _ (36, [some (.ref 71), some (.long x1), none, some (.long (s2.2.2 72 (s2.1 71 2).toNatClampNeg)), none, none, none], [], (gSh, s2, u)) rfl ?_
    obtain ⟨x3, ex3, hP⟩ := g_let hP
    rw [← ex3]
    refine gRunN_ok hG.1 2 _ (39, [some (.ref 71), some (.long x1), none, some (.long x3), none, some (.int 0), none], [], (gSh, s2, u)) rfl ?_
    obtain ⟨e7, hq, hP⟩ := g_b1 hP
    refine l_Front_pop_39 E d u hG x1 x3 gN 0 s2 _ hq (fun w8 s9 he => ?_) (fun w11 s12 he => ?_)
    · subst he
      try dsimp only [gSum] at hP
      refine gRunN_ok hG.1 1 _ (130, [some (.ref 71), some (.long x1), none, some (.long x3), none, some (.int w8), none], [], (gSh, s9, u)) rfl ?_
      exact j_Front_pop_j130 E d u hG x1 x3 w8 s9 hP
    · subst he
      try dsimp only [gSum] at hP
      exact j_Front_pop_j130 E d u hG x1 x3 w11 s12 hP⟩
def p_Grid_reach_2 (E : gEv) (l1 : Int32) (l2 : Int32) (l3 : Int32) (σ : gS) : Option ((Int32) ⊕ ((Int32 × Int32) ⊕ (Unit))) :=
  if (4 : Int32) ≤ l3 then (some (.inr (.inr ()))) else (if gIn ((l1 * (4 : Int32)) + l3) (σ.2.1 4) then gLet (σ.1 4 ((l1 * (4 : Int32)) + l3).toNatClampNeg) fun x1 => if x1 = ((-1) : Int32) then (gLet (l3 + 1) fun x2 => some (.inl x2)) else (if l2 < x1 then (gLet (l3 + 1) fun x3 => some (.inl x3)) else (if (x1 + (σ.1 1 3)) ≤ l2 then (gLet (l3 + 1) fun x4 => some (.inl x4)) else (some (.inr (.inl (l3, x1)))))) else none)
set_option maxRecDepth 20000 in
theorem b_Grid_reach_2 (E : gEv) (d u : Nat) {G : gFr → Prop} {vo : Option Value} {sr : gS} (hG : gClo E gDf gP1 gY131 (some .int) (gC E gDf gMs (d + 0)) (vo, (gSh, sr, u)) G) (l1 : Int32) (l2 : Int32) (l3 : Int32) (σ : gS) {r : (Int32) ⊕ ((Int32 × Int32) ⊕ (Unit))} (hP : p_Grid_reach_2 E l1 l2 l3 σ = some r) (K1 : ∀ (m3 : Int32), r = .inl m3 → G (2, [some (.ref 1), some (.int l1), some (.int l2), some (.int m3), none], [], (gSh, σ, u))) (K2 : ∀ (m3 : Int32) (m4 : Int32), r = .inr (.inl (m3, m4)) → G (42, [some (.ref 1), none, some (.int l2), some (.int m3), some (.int m4)], [], (gSh, σ, u))) (K3 : r = .inr (.inr ()) → G (60, [none, none, none, none, none], [], (gSh, σ, u))) : G (2, [some (.ref 1), some (.int l1), some (.int l2), some (.int l3), none], [], (gSh, σ, u)) := by
  unfold p_Grid_reach_2 at hP
  refine gRunN_ok hG.1 2 _ (4, [some (.ref 1), some (.int l1), some (.int l2), some (.int l3), none], [.int 4, .int l3], (gSh, σ, u)) rfl ?_
  rcases g_ite hP with ⟨hc, hP⟩ | ⟨hc, hP⟩
  · refine hG.1 _ (60, [some (.ref 1), some (.int l1), some (.int l2), some (.int l3), none], [], (gSh, σ, u)) _ rfl (if_pos hc) ?_
    refine hG.2.2.2.2.1 _ _ [none, none, none, none, none] _ _ trivial ?_
    cases hP
    exact K3 rfl
  · refine hG.1 _ (7, [some (.ref 1), some (.int l1), some (.int l2), some (.int l3), none], [], (gSh, σ, u)) _ rfl (if_neg hc) ?_
    refine gRunN_ok hG.1 7 _ (16, [some (.ref 1), some (.int l1), some (.int l2), some (.int l3), none], [.int ((l1 * (4 : Int32)) + l3), .ref 4], (gSh, σ, u)) rfl ?_
    obtain ⟨hc, hP⟩ := g_if hP
    refine hG.1 _ (17, [some (.ref 1), some (.int l1), some (.int l2), some (.int l3), none], [.int (σ.1 4 ((l1 * (4 : Int32)) + l3).toNatClampNeg)], (gSh, σ, u)) _ rfl (if_pos hc) ?_
    refine gRunN_ok hG.1 1 _ (19, [some (.ref 1), some (.int l1), some (.int l2), some (.int l3), some (.int (σ.1 4 ((l1 * (4 : Int32)) + l3).toNatClampNeg))], [], (gSh, σ, u)) rfl ?_
    obtain ⟨x1, ex1, hP⟩ := g_let hP
    rw [← ex1]
    refine gRunN_ok hG.1 2 _ (22, [some (.ref 1), some (.int l1), some (.int l2), some (.int l3), some (.int x1)], [.int (-1), .int x1], (gSh, σ, u)) rfl ?_
    rcases g_ite hP with ⟨hc, hP⟩ | ⟨hc, hP⟩
    · refine hG.1 _ (54, [some (.ref 1), some (.int l1), some (.int l2), some (.int l3), some (.int x1)], [], (gSh, σ, u)) _ rfl (if_pos hc) ?_
      refine gRunN_ok hG.1 1 _ (57, [some (.ref 1), some (.int l1), some (.int l2), some (.int (l3 + 1)), some (.int x1)], [], (gSh, σ, u)) rfl ?_
      obtain ⟨x2, ex2, hP⟩ := g_let hP
      rw [← ex2]
      refine gRunN_ok hG.1 1 _ (2, [some (.ref 1), some (.int l1), some (.int l2), some (.int x2), some (.int x1)], [], (gSh, σ, u)) rfl ?_
      refine hG.2.2.2.2.1 _ _ [some (.ref 1), some (.int l1), some (.int l2), some (.int x2), none] _ _ ⟨rfl, ⟨rfl, ⟨rfl, ⟨rfl, trivial⟩⟩⟩⟩ ?_
      cases hP
      exact K1 _ rfl
    · refine hG.1 _ (25, [some (.ref 1), some (.int l1), some (.int l2), some (.int l3), some (.int x1)], [], (gSh, σ, u)) _ rfl (if_neg hc) ?_
      refine gRunN_ok hG.1 2 _ (28, [some (.ref 1), some (.int l1), some (.int l2), some (.int l3), some (.int x1)], [.int x1, .int l2], (gSh, σ, u)) rfl ?_
      rcases g_ite hP with ⟨hc, hP⟩ | ⟨hc, hP⟩
      · refine hG.1 _ (54, [some (.ref 1), some (.int l1), some (.int l2), some (.int l3), some (.int x1)], [], (gSh, σ, u)) _ rfl (if_pos hc) ?_
        refine gRunN_ok hG.1 1 _ (57, [some (.ref 1), some (.int l1), some (.int l2), some (.int (l3 + 1)), some (.int x1)], [], (gSh, σ, u)) rfl ?_
        obtain ⟨x3, ex3, hP⟩ := g_let hP
        rw [← ex3]
        refine gRunN_ok hG.1 1 _ (2, [some (.ref 1), some (.int l1), some (.int l2), some (.int x3), some (.int x1)], [], (gSh, σ, u)) rfl ?_
        refine hG.2.2.2.2.1 _ _ [some (.ref 1), some (.int l1), some (.int l2), some (.int x3), none] _ _ ⟨rfl, ⟨rfl, ⟨rfl, ⟨rfl, trivial⟩⟩⟩⟩ ?_
        cases hP
        exact K1 _ rfl
      · refine hG.1 _ (31, [some (.ref 1), some (.int l1), some (.int l2), some (.int l3), some (.int x1)], [], (gSh, σ, u)) _ rfl (if_neg hc) ?_
        refine gRunN_ok hG.1 5 _ (39, [some (.ref 1), some (.int l1), some (.int l2), some (.int l3), some (.int x1)], [.int (x1 + (σ.1 1 3)), .int l2], (gSh, σ, u)) rfl ?_
        rcases g_ite hP with ⟨hc, hP⟩ | ⟨hc, hP⟩
        · refine hG.1 _ (54, [some (.ref 1), some (.int l1), some (.int l2), some (.int l3), some (.int x1)], [], (gSh, σ, u)) _ rfl (if_pos hc) ?_
          refine gRunN_ok hG.1 1 _ (57, [some (.ref 1), some (.int l1), some (.int l2), some (.int (l3 + 1)), some (.int x1)], [], (gSh, σ, u)) rfl ?_
          obtain ⟨x4, ex4, hP⟩ := g_let hP
          rw [← ex4]
          refine gRunN_ok hG.1 1 _ (2, [some (.ref 1), some (.int l1), some (.int l2), some (.int x4), some (.int x1)], [], (gSh, σ, u)) rfl ?_
          refine hG.2.2.2.2.1 _ _ [some (.ref 1), some (.int l1), some (.int l2), some (.int x4), none] _ _ ⟨rfl, ⟨rfl, ⟨rfl, ⟨rfl, trivial⟩⟩⟩⟩ ?_
          cases hP
          exact K1 _ rfl
        · refine hG.1 _ (42, [some (.ref 1), some (.int l1), some (.int l2), some (.int l3), some (.int x1)], [], (gSh, σ, u)) _ rfl (if_neg hc) ?_
          refine hG.2.2.2.2.1 _ _ [some (.ref 1), none, some (.int l2), some (.int l3), some (.int x1)] _ _ ⟨rfl, ⟨rfl, ⟨rfl, ⟨rfl, trivial⟩⟩⟩⟩ ?_
          cases hP
          exact K2 _ _ rfl
theorem l_Grid_reach_2 (E : gEv) (d u : Nat) {G : gFr → Prop} {vo : Option Value} {sr : gS} (hG : gClo E gDf gP1 gY131 (some .int) (gC E gDf gMs (d + 0)) (vo, (gSh, sr, u)) G) (l1 : Int32) (l2 : Int32) (σ : gS) : ∀ (n : Nat) (l3 : Int32) (e : ((Int32 × Int32) ⊕ (Unit))), gIter (fun z => p_Grid_reach_2 E l1 l2 z σ) n l3 = some e → (∀ (m3 : Int32) (m4 : Int32), e = (.inl (m3, m4)) → G (42, [some (.ref 1), none, some (.int l2), some (.int m3), some (.int m4)], [], (gSh, σ, u))) → ( e = (.inr ()) → G (60, [none, none, none, none, none], [], (gSh, σ, u))) → G (2, [some (.ref 1), some (.int l1), some (.int l2), some (.int l3), none], [], (gSh, σ, u)) := by
  intro n
  induction n with
  | zero => intro l3 e h; cases h
  | succ n ih =>
    intro l3 e h K2 K3
    rcases g_iter h with ⟨z, h1, h2⟩ | h1
    · exact b_Grid_reach_2 E d u hG l1 l2 l3 σ h1 (fun n0 hz => by cases hz; exact ih _ e h2 K2 K3) (fun _ _ hz => by cases hz) (fun  hz => by cases hz)
    · exact b_Grid_reach_2 E d u hG l1 l2 l3 σ h1 (fun _ hz => by cases hz) (fun m3 m4 hz => K2 m3 m4 (by cases hz; rfl)) (fun  hz => K3  (by cases hz; rfl))
def p_Grid_reach (E : gEv) (a0 : Int32) (a1 : Int32) (σ : gS) : Option (Int32) :=
  gB1 (gIter (fun z => p_Grid_reach_2 E a0 a1 z σ) gN 0) fun e5 => gSum e5 (fun e8 => (fun w6 w7 => some (((w6 * (σ.1 1 3)) + a1) - w7)) e8.1 e8.2) (fun e9 => some (-1))
set_option maxRecDepth 20000 in
theorem c_Grid_reach (E : gEv) (d u : Nat) (a0 : Int32) (a1 : Int32) (σ : gS) {v : Int32}  (hq : p_Grid_reach E a0 a1 σ = some v) : gC E gDf gMs (d + 1) 131 [.ref 1, .int a0, .int a1] (gSh, σ, u) (some (.int v), (gSh, σ, u)) := ⟨gM131, rfl, Nat.le_of_ble_eq_true rfl, fun G hG => by
  have hP := hq
  unfold p_Grid_reach at hP
  replace hG : gClo E gDf gP1 gY131 (some .int) (gC E gDf gMs (d + 0)) (some (.int v), (gSh, σ, u)) G := hG
  show G (0, [some (.ref 1), some (.int a0), some (.int a1), none, none], [], (gSh, σ, u))
  refine gRunN_ok hG.1 2 _ (2, [some (.ref 1), some (.int a0), some (.int a1), some (.int 0), none], [], (gSh, σ, u)) rfl ?_
  obtain ⟨e5, hq, hP⟩ := g_b1 hP
  refine l_Grid_reach_2 E d u hG a0 a1 σ gN 0 _ hq (fun w6 w7 he => ?_) (fun  he => ?_)
  · subst he
    try dsimp only [gSum] at hP
    refine gRunN_ok hG.1 8 _ (53, [some (.ref 1), none, some (.int a1), some (.int w6), some (.int w7)], [.int (((w6 * (σ.1 1 3)) + a1) - w7)], (gSh, σ, u)) rfl ?_
    cases hP
    exact hG.2.1 _ _ rfl rfl
  · subst he
    try dsimp only [gSum] at hP
    refine gRunN_ok hG.1 1 _ (61, [none, none, none, none, none], [.int (-1)], (gSh, σ, u)) rfl ?_
    cases hP
    exact hG.2.1 _ _ rfl rfl⟩
def p_Router_gain (E : gEv) (a0 : Int32) (a1 : Int32) (σ : gS) : Option (gS) :=
  gLet (gPut σ 70 12 ((σ.1 70 12) + (1 : Int32))) fun s1 => if gIn (σ.1 70 12) (s1.2.1 80) then gLet (gPut s1 80 (σ.1 70 12).toNatClampNeg a1) fun s2 => if gIn ((a0 * (s2.1 70 4)) + ((a1.toUInt32 >>> ((5 : Int32).toUInt32 &&& Int32.toUInt32 31)).toInt32)) (s2.2.1 74) then if gIn ((a0 * (s2.1 70 4)) + ((a1.toUInt32 >>> ((5 : Int32).toUInt32 &&& Int32.toUInt32 31)).toInt32)) (s2.2.1 74) then gLet (gPut s2 74 ((a0 * (s2.1 70 4)) + ((a1.toUInt32 >>> ((5 : Int32).toUInt32 &&& Int32.toUInt32 31)).toInt32)).toNatClampNeg ((s2.1 74 ((a0 * (s2.1 70 4)) + ((a1.toUInt32 >>> ((5 : Int32).toUInt32 &&& Int32.toUInt32 31)).toInt32)).toNatClampNeg) ||| ((1 : Int32) <<< ((a1 &&& (31 : Int32)) &&& 31)))) fun s3 => if gIn a1 (s3.2.1 75) then if gIn a1 (s3.2.1 75) then gLet (gPut s3 75 a1.toNatClampNeg ((s3.1 75 a1.toNatClampNeg) + (1 : Int32))) fun s4 => some s4 else none else none else none else none else none
set_option maxRecDepth 20000 in
theorem c_Router_gain (E : gEv) (d u : Nat) (a0 : Int32) (a1 : Int32) (σ : gS) {sr : gS}  (hq : p_Router_gain E a0 a1 σ = some sr) : gC E gDf gMs (d + 1) 133 [.ref 70, .int a0, .int a1] (gSh, σ, u) (none, (gSh, sr, u)) := ⟨gM133, rfl, Nat.le_of_ble_eq_true rfl, fun G hG => by
  have hP := hq
  unfold p_Router_gain at hP
  replace hG : gClo E gDf gP10 gY133 none (gC E gDf gMs (d + 0)) (none, (gSh, sr, u)) G := hG
  show G (0, [some (.ref 70), some (.int a0), some (.int a1)], [], (gSh, σ, u))
  refine gRunN_ok hG.1 9 _ (15, [some (.ref 70), some (.int a0), some (.int a1)], [.int (σ.1 70 12), .ref 80], (gSh, (gPut σ 70 12 ((σ.1 70 12) + (1 : Int32))), u)) rfl ?_
  obtain ⟨s1, es1, hP⟩ := g_let hP
  rw [← es1]
  refine gRunN_ok hG.1 1 _ (16, [some (.ref 70), some (.int a0), some (.int a1)], [.int a1, .int (σ.1 70 12), .ref 80], (gSh, s1, u)) rfl ?_
  obtain ⟨hc, hP⟩ := g_if hP
  refine hG.1 _ (17, [some (.ref 70), some (.int a0), some (.int a1)], [], (gSh, (gPut s1 80 (σ.1 70 12).toNatClampNeg a1), u)) _ rfl (if_pos hc) ?_
  obtain ⟨s2, es2, hP⟩ := g_let hP
  rw [← es2]
  refine gRunN_ok hG.1 11 _ (32, [some (.ref 70), some (.int a0), some (.int a1)], [.int ((a0 * (s2.1 70 4)) + ((a1.toUInt32 >>> ((5 : Int32).toUInt32 &&& Int32.toUInt32 31)).toInt32)), .ref 74, .int ((a0 * (s2.1 70 4)) + ((a1.toUInt32 >>> ((5 : Int32).toUInt32 &&& Int32.toUInt32 31)).toInt32)), .ref 74], (gSh, s2, u)) rfl ?_
  obtain ⟨hc, hP⟩ := g_if hP
  refine hG.1 _ (33, [some (.ref 70), some (.int a0), some (.int a1)], [.int (s2.1 74 ((a0 * (s2.1 70 4)) + ((a1.toUInt32 >>> ((5 : Int32).toUInt32 &&& Int32.toUInt32 31)).toInt32)).toNatClampNeg), .int ((a0 * (s2.1 70 4)) + ((a1.toUInt32 >>> ((5 : Int32).toUInt32 &&& Int32.toUInt32 31)).toInt32)), .ref 74], (gSh, s2, u)) _ rfl (if_pos hc) ?_
  refine gRunN_ok hG.1 6 _ (40, [some (.ref 70), some (.int a0), some (.int a1)], [.int ((s2.1 74 ((a0 * (s2.1 70 4)) + ((a1.toUInt32 >>> ((5 : Int32).toUInt32 &&& Int32.toUInt32 31)).toInt32)).toNatClampNeg) ||| ((1 : Int32) <<< ((a1 &&& (31 : Int32)) &&& 31))), .int ((a0 * (s2.1 70 4)) + ((a1.toUInt32 >>> ((5 : Int32).toUInt32 &&& Int32.toUInt32 31)).toInt32)), .ref 74], (gSh, s2, u)) rfl ?_
  obtain ⟨hc, hP⟩ := g_if hP
  refine hG.1 _ (41, [some (.ref 70), some (.int a0), some (.int a1)], [], (gSh, (gPut s2 74 ((a0 * (s2.1 70 4)) + ((a1.toUInt32 >>> ((5 : Int32).toUInt32 &&& Int32.toUInt32 31)).toInt32)).toNatClampNeg ((s2.1 74 ((a0 * (s2.1 70 4)) + ((a1.toUInt32 >>> ((5 : Int32).toUInt32 &&& Int32.toUInt32 31)).toInt32)).toNatClampNeg) ||| ((1 : Int32) <<< ((a1 &&& (31 : Int32)) &&& 31)))), u)) _ rfl (if_pos hc) ?_
  obtain ⟨s3, es3, hP⟩ := g_let hP
  rw [← es3]
  refine gRunN_ok hG.1 4 _ (47, [some (.ref 70), some (.int a0), some (.int a1)], [.int a1, .ref 75, .int a1, .ref 75], (gSh, s3, u)) rfl ?_
  obtain ⟨hc, hP⟩ := g_if hP
  refine hG.1 _ (48, [some (.ref 70), some (.int a0), some (.int a1)], [.int (s3.1 75 a1.toNatClampNeg), .int a1, .ref 75], (gSh, s3, u)) _ rfl (if_pos hc) ?_
  refine gRunN_ok hG.1 2 _ (50, [some (.ref 70), some (.int a0), some (.int a1)], [.int ((s3.1 75 a1.toNatClampNeg) + (1 : Int32)), .int a1, .ref 75], (gSh, s3, u)) rfl ?_
  obtain ⟨hc, hP⟩ := g_if hP
  refine hG.1 _ (51, [some (.ref 70), some (.int a0), some (.int a1)], [], (gSh, (gPut s3 75 a1.toNatClampNeg ((s3.1 75 a1.toNatClampNeg) + (1 : Int32))), u)) _ rfl (if_pos hc) ?_
  obtain ⟨s4, es4, hP⟩ := g_let hP
  rw [← es4]
  cases hP
  exact hG.2.1 _ _ rfl rfl⟩
def p_Router_joinNext_j68_24 (E : gEv) (l1 : Int32) (l2 : Int32) (l4 : Int32) (l5 : Int32) (l6 : Int32) (σ : gS) : Option ((Int32 × Int32 × gS) ⊕ (Int32 × gS)) :=
  if gIn l5 (σ.2.1 9) then if gIn l1 (σ.2.1 77) then gLet (gPut σ 77 l1.toNatClampNeg (σ.1 9 l5.toNatClampNeg)) fun s4 => gLet (l5 + 1) fun x5 => some (.inl (l6, x5, s4)) else none else none
set_option maxRecDepth 20000 in
theorem j_Router_joinNext_j68_24 (E : gEv) (d u : Nat) {G : gFr → Prop} {vo : Option Value} {sr : gS} (hG : gClo E gDf gP10 gY134 (some .int) (gC E gDf gMs (d + 0)) (vo, (gSh, sr, u)) G) (l1 : Int32) (l2 : Int32) (l4 : Int32) (l5 : Int32) (l6 : Int32) (σ : gS) {r : (Int32 × Int32 × gS) ⊕ (Int32 × gS)} (hP : p_Router_joinNext_j68_24 E l1 l2 l4 l5 l6 σ = some r) (K1 : ∀ (m3 : Int32) (m5 : Int32) (σ1 : gS), r = .inl (m3, m5, σ1) → G (24, [some (.ref 70), some (.int l1), some (.int l2), some (.int m3), some (.int l4), some (.int m5), none], [], (gSh, σ1, u))) (K2 : ∀ (m3 : Int32) (σ1 : gS), r = .inr (m3, σ1) → G (93, [none, none, none, some (.int m3), none, none, none], [], (gSh, σ1, u))) : G (68, [some (.ref 70), some (.int l1), some (.int l2), none, some (.int l4), some (.int l5), some (.int l6)], [], (gSh, σ, u)) := by
  unfold p_Router_joinNext_j68_24 at hP
  refine gRunN_ok hG.1 9 _ (85, [some (.ref 70), some (.int l1), some (.int l2), some (.int l6), some (.int l4), some (.int l5), some (.int l6)], [.int l5, .ref 9, .int l1, .ref 77], (gSh, σ, u)) rfl ?_
  obtain ⟨hc, hP⟩ := g_if hP
  refine hG.1 _ (86, [some (.ref 70), some (.int l1), some (.int l2), some (.int l6), some (.int l4), some (.int l5), some (.int l6)], [.int (σ.1 9 l5.toNatClampNeg), .int l1, .ref 77], (gSh, σ, u)) _ rfl (if_pos hc) ?_
  obtain ⟨hc, hP⟩ := g_if hP
  refine hG.1 _ (87, [some (.ref 70), some (.int l1), some (.int l2), some (.int l6), some (.int l4), some (.int l5), some (.int l6)], [], (gSh, (gPut σ 77 l1.toNatClampNeg (σ.1 9 l5.toNatClampNeg)), u)) _ rfl (if_pos hc) ?_
  obtain ⟨s4, es4, hP⟩ := g_let hP
  rw [← es4]
  refine gRunN_ok hG.1 1 _ (90, [some (.ref 70), some (.int l1), some (.int l2), some (.int l6), some (.int l4), some (.int (l5 + 1)), some (.int l6)], [], (gSh, s4, u)) rfl ?_
  obtain ⟨x5, ex5, hP⟩ := g_let hP
  rw [← ex5]
  refine gRunN_ok hG.1 1 _ (24, [some (.ref 70), some (.int l1), some (.int l2), some (.int l6), some (.int l4), some (.int x5), some (.int l6)], [], (gSh, s4, u)) rfl ?_
  refine hG.2.2.2.2.1 _ _ [some (.ref 70), some (.int l1), some (.int l2), some (.int l6), some (.int l4), some (.int x5), none] _ _ ⟨rfl, ⟨rfl, ⟨rfl, ⟨rfl, ⟨rfl, ⟨rfl, trivial⟩⟩⟩⟩⟩⟩ ?_
  cases hP
  exact K1 _ _ _ rfl
def p_Router_joinNext_24 (E : gEv) (l1 : Int32) (l2 : Int32) (l4 : Int32) (l3 : Int32) (l5 : Int32) (σ : gS) : Option ((Int32 × Int32 × gS) ⊕ (Int32 × gS)) :=
  if l4 ≤ l5 then (some (.inr (l3, σ))) else (if gIn l5 (σ.2.1 8) then gLet (σ.1 8 l5.toNatClampNeg) fun x3 => if gIn x3 (σ.2.1 73) then if (σ.1 73 x3.toNatClampNeg) = l2 then (if l3 = ((-1) : Int32) then (p_Router_joinNext_j68_24 E l1 l2 l4 l5 x3 σ) else (if l3 ≤ x3 then (gLet (l5 + 1) fun x6 => some (.inl (l3, x6, σ))) else (p_Router_joinNext_j68_24 E l1 l2 l4 l5 x3 σ))) else (gLet (l5 + 1) fun x7 => some (.inl (l3, x7, σ))) else none else none)
set_option maxRecDepth 20000 in
theorem b_Router_joinNext_24 (E : gEv) (d u : Nat) {G : gFr → Prop} {vo : Option Value} {sr : gS} (hG : gClo E gDf gP10 gY134 (some .int) (gC E gDf gMs (d + 0)) (vo, (gSh, sr, u)) G) (l1 : Int32) (l2 : Int32) (l4 : Int32) (l3 : Int32) (l5 : Int32) (σ : gS) {r : (Int32 × Int32 × gS) ⊕ (Int32 × gS)} (hP : p_Router_joinNext_24 E l1 l2 l4 l3 l5 σ = some r) (K1 : ∀ (m3 : Int32) (m5 : Int32) (σ1 : gS), r = .inl (m3, m5, σ1) → G (24, [some (.ref 70), some (.int l1), some (.int l2), some (.int m3), some (.int l4), some (.int m5), none], [], (gSh, σ1, u))) (K2 : ∀ (m3 : Int32) (σ1 : gS), r = .inr (m3, σ1) → G (93, [none, none, none, some (.int m3), none, none, none], [], (gSh, σ1, u))) : G (24, [some (.ref 70), some (.int l1), some (.int l2), some (.int l3), some (.int l4), some (.int l5), none], [], (gSh, σ, u)) := by
  unfold p_Router_joinNext_24 at hP
  refine gRunN_ok hG.1 2 _ (28, [some (.ref 70), some (.int l1), some (.int l2), some (.int l3), some (.int l4), some (.int l5), none], [.int l4, .int l5], (gSh, σ, u)) rfl ?_
  rcases g_ite hP with ⟨hc, hP⟩ | ⟨hc, hP⟩
  · refine hG.1 _ (93, [some (.ref 70), some (.int l1), some (.int l2), some (.int l3), some (.int l4), some (.int l5), none], [], (gSh, σ, u)) _ rfl (if_pos hc) ?_
    refine hG.2.2.2.2.1 _ _ [none, none, none, some (.int l3), none, none, none] _ _ ⟨rfl, trivial⟩ ?_
    cases hP
    exact K2 _ _ rfl
  · refine hG.1 _ (31, [some (.ref 70), some (.int l1), some (.int l2), some (.int l3), some (.int l4), some (.int l5), none], [], (gSh, σ, u)) _ rfl (if_neg hc) ?_
    refine gRunN_ok hG.1 4 _ (40, [some (.ref 70), some (.int l1), some (.int l2), some (.int l3), some (.int l4), some (.int l5), none], [.int l5, .ref 8], (gSh, σ, u)) rfl ?_
    obtain ⟨hc, hP⟩ := g_if hP
    refine hG.1 _ (41, [some (.ref 70), some (.int l1), some (.int l2), some (.int l3), some (.int l4), some (.int l5), none], [.int (σ.1 8 l5.toNatClampNeg)], (gSh, σ, u)) _ rfl (if_pos hc) ?_
    refine gRunN_ok hG.1 1 _ (43, [some (.ref 70), some (.int l1), some (.int l2), some (.int l3), some (.int l4), some (.int l5), some (.int (σ.1 8 l5.toNatClampNeg))], [], (gSh, σ, u)) rfl ?_
    obtain ⟨x3, ex3, hP⟩ := g_let hP
    rw [← ex3]
    refine gRunN_ok hG.1 4 _ (52, [some (.ref 70), some (.int l1), some (.int l2), some (.int l3), some (.int l4), some (.int l5), some (.int x3)], [.int x3, .ref 73], (gSh, σ, u)) rfl ?_
    obtain ⟨hc, hP⟩ := g_if hP
    refine hG.1 _ (53, [some (.ref 70), some (.int l1), some (.int l2), some (.int l3), some (.int l4), some (.int l5), some (.int x3)], [.int (σ.1 73 x3.toNatClampNeg)], (gSh, σ, u)) _ rfl (if_pos hc) ?_
    refine gRunN_ok hG.1 1 _ (54, [some (.ref 70), some (.int l1), some (.int l2), some (.int l3), some (.int l4), some (.int l5), some (.int x3)], [.int l2, .int (σ.1 73 x3.toNatClampNeg)], (gSh, σ, u)) rfl ?_
    rcases g_ite hP with ⟨hc, hP⟩ | ⟨hc, hP⟩
    · refine hG.1 _ (57, [some (.ref 70), some (.int l1), some (.int l2), some (.int l3), some (.int l4), some (.int l5), some (.int x3)], [], (gSh, σ, u)) _ rfl (if_pos hc) ?_
      refine gRunN_ok hG.1 2 _ (59, [some (.ref 70), some (.int l1), some (.int l2), some (.int l3), some (.int l4), some (.int l5), some (.int x3)], [.int (-1), .int l3], (gSh, σ, u)) rfl ?_
      rcases g_ite hP with ⟨hc, hP⟩ | ⟨hc, hP⟩
      · refine hG.1 _ (68, [some (.ref 70), some (.int l1), some (.int l2), some (.int l3), some (.int l4), some (.int l5), some (.int x3)], [], (gSh, σ, u)) _ rfl (if_pos hc) ?_
        refine hG.2.2.2.2.1 _ _ [some (.ref 70), some (.int l1), some (.int l2), none, some (.int l4), some (.int l5), some (.int x3)] _ _ ⟨rfl, ⟨rfl, ⟨rfl, ⟨rfl, ⟨rfl, ⟨rfl, trivial⟩⟩⟩⟩⟩⟩ ?_
        exact j_Router_joinNext_j68_24 E d u hG l1 l2 l4 l5 x3 σ hP K1 K2
      · refine hG.1 _ (62, [some (.ref 70), some (.int l1), some (.int l2), some (.int l3), some (.int l4), some (.int l5), some (.int x3)], [], (gSh, σ, u)) _ rfl (if_neg hc) ?_
        refine gRunN_ok hG.1 2 _ (65, [some (.ref 70), some (.int l1), some (.int l2), some (.int l3), some (.int l4), some (.int l5), some (.int x3)], [.int l3, .int x3], (gSh, σ, u)) rfl ?_
        rcases g_ite hP with ⟨hc, hP⟩ | ⟨hc, hP⟩
        · refine hG.1 _ (87, [some (.ref 70), some (.int l1), some (.int l2), some (.int l3), some (.int l4), some (.int l5), some (.int x3)], [], (gSh, σ, u)) _ rfl (if_pos hc) ?_
          refine gRunN_ok hG.1 1 _ (90, [some (.ref 70), some (.int l1), some (.int l2), some (.int l3), some (.int l4), some (.int (l5 + 1)), some (.int x3)], [], (gSh, σ, u)) rfl ?_
          obtain ⟨x6, ex6, hP⟩ := g_let hP
          rw [← ex6]
          refine gRunN_ok hG.1 1 _ (24, [some (.ref 70), some (.int l1), some (.int l2), some (.int l3), some (.int l4), some (.int x6), some (.int x3)], [], (gSh, σ, u)) rfl ?_
          refine hG.2.2.2.2.1 _ _ [some (.ref 70), some (.int l1), some (.int l2), some (.int l3), some (.int l4), some (.int x6), none] _ _ ⟨rfl, ⟨rfl, ⟨rfl, ⟨rfl, ⟨rfl, ⟨rfl, trivial⟩⟩⟩⟩⟩⟩ ?_
          cases hP
          exact K1 _ _ _ rfl
        · refine hG.1 _ (68, [some (.ref 70), some (.int l1), some (.int l2), some (.int l3), some (.int l4), some (.int l5), some (.int x3)], [], (gSh, σ, u)) _ rfl (if_neg hc) ?_
          refine hG.2.2.2.2.1 _ _ [some (.ref 70), some (.int l1), some (.int l2), none, some (.int l4), some (.int l5), some (.int x3)] _ _ ⟨rfl, ⟨rfl, ⟨rfl, ⟨rfl, ⟨rfl, ⟨rfl, trivial⟩⟩⟩⟩⟩⟩ ?_
          exact j_Router_joinNext_j68_24 E d u hG l1 l2 l4 l5 x3 σ hP K1 K2
    · refine hG.1 _ (87, [some (.ref 70), some (.int l1), some (.int l2), some (.int l3), some (.int l4), some (.int l5), some (.int x3)], [], (gSh, σ, u)) _ rfl (if_neg hc) ?_
      refine gRunN_ok hG.1 1 _ (90, [some (.ref 70), some (.int l1), some (.int l2), some (.int l3), some (.int l4), some (.int (l5 + 1)), some (.int x3)], [], (gSh, σ, u)) rfl ?_
      obtain ⟨x7, ex7, hP⟩ := g_let hP
      rw [← ex7]
      refine gRunN_ok hG.1 1 _ (24, [some (.ref 70), some (.int l1), some (.int l2), some (.int l3), some (.int l4), some (.int x7), some (.int x3)], [], (gSh, σ, u)) rfl ?_
      refine hG.2.2.2.2.1 _ _ [some (.ref 70), some (.int l1), some (.int l2), some (.int l3), some (.int l4), some (.int x7), none] _ _ ⟨rfl, ⟨rfl, ⟨rfl, ⟨rfl, ⟨rfl, ⟨rfl, trivial⟩⟩⟩⟩⟩⟩ ?_
      cases hP
      exact K1 _ _ _ rfl
theorem l_Router_joinNext_24 (E : gEv) (d u : Nat) {G : gFr → Prop} {vo : Option Value} {sr : gS} (hG : gClo E gDf gP10 gY134 (some .int) (gC E gDf gMs (d + 0)) (vo, (gSh, sr, u)) G) (l1 : Int32) (l2 : Int32) (l4 : Int32) : ∀ (n : Nat) (l3 : Int32) (l5 : Int32) (σ : gS) (e : (Int32 × gS)), gIter (fun z => p_Router_joinNext_24 E l1 l2 l4 z.1 z.2.1 z.2.2) n (l3, l5, σ) = some e → (∀ (m3 : Int32) (σ1 : gS), e = (m3, σ1) → G (93, [none, none, none, some (.int m3), none, none, none], [], (gSh, σ1, u))) → G (24, [some (.ref 70), some (.int l1), some (.int l2), some (.int l3), some (.int l4), some (.int l5), none], [], (gSh, σ, u)) := by
  intro n
  induction n with
  | zero => intro l3 l5 σ e h; cases h
  | succ n ih =>
    intro l3 l5 σ e h K2
    rcases g_iter h with ⟨z, h1, h2⟩ | h1
    · exact b_Router_joinNext_24 E d u hG l1 l2 l4 l3 l5 σ h1 (fun n0 n1 n2 hz => by cases hz; exact ih _ _ _ e h2 K2) (fun _ _ hz => by cases hz)
    · exact b_Router_joinNext_24 E d u hG l1 l2 l4 l3 l5 σ h1 (fun _ _ _ hz => by cases hz) (fun m3 σ1 hz => K2 m3 σ1 (by cases hz; rfl))
def p_Router_joinNext (E : gEv) (a0 : Int32) (a1 : Int32) (σ : gS) : Option (Int32 × gS) :=
  if gIn a0 (σ.2.1 7) then gLet ((a0 * (6 : Int32)) + (σ.1 7 a0.toNatClampNeg)) fun x1 => gLet (a0 * (6 : Int32)) fun x2 => gB1 (gIter (fun z => p_Router_joinNext_24 E a0 a1 x1 z.1 z.2.1 z.2.2) gN ((-1), x2, σ)) fun e8 => (fun w9 s10 => some (w9, s10)) e8.1 e8.2 else none
set_option maxRecDepth 20000 in
theorem c_Router_joinNext (E : gEv) (d u : Nat) (a0 : Int32) (a1 : Int32) (σ : gS) {v : Int32} {sr : gS}  (hq : p_Router_joinNext E a0 a1 σ = some (v, sr)) : gC E gDf gMs (d + 1) 134 [.ref 70, .int a0, .int a1] (gSh, σ, u) (some (.int v), (gSh, sr, u)) := ⟨gM134, rfl, Nat.le_of_ble_eq_true rfl, fun G hG => by
  have hP := hq
  unfold p_Router_joinNext at hP
  replace hG : gClo E gDf gP10 gY134 (some .int) (gC E gDf gMs (d + 0)) (some (.int v), (gSh, sr, u)) G := hG
  show G (0, [some (.ref 70), some (.int a0), some (.int a1), none, none, none, none], [], (gSh, σ, u))
  refine gRunN_ok hG.1 9 _ (14, [some (.ref 70), some (.int a0), some (.int a1), some (.int (-1)), none, none, none], [.int a0, .ref 7, .int (a0 * (6 : Int32))], (gSh, σ, u)) rfl ?_
  obtain ⟨hc, hP⟩ := g_if hP
  refine hG.1 _ (15, [some (.ref 70), some (.int a0), some (.int a1), some (.int (-1)), none, none, none], [.int (σ.1 7 a0.toNatClampNeg), .int (a0 * (6 : Int32))], (gSh, σ, u)) _ rfl (if_pos hc) ?_
  refine gRunN_ok hG.1 2 _ (18, [some (.ref 70), some (.int a0), some (.int a1), some (.int (-1)), some (.int ((a0 * (6 : Int32)) + (σ.1 7 a0.toNatClampNeg))), none, none], [], (gSh, σ, u)) rfl ?_
  obtain ⟨x1, ex1, hP⟩ := g_let hP
  rw [← ex1]
  refine gRunN_ok hG.1 4 _ (24, [some (.ref 70), some (.int a0), some (.int a1), some (.int (-1)), some (.int x1), some (.int (a0 * (6 : Int32))), none], [], (gSh, σ, u)) rfl ?_
  obtain ⟨x2, ex2, hP⟩ := g_let hP
  rw [← ex2]
  obtain ⟨e8, hq, hP⟩ := g_b1 hP
  refine l_Router_joinNext_24 E d u hG a0 a1 x1 gN (-1) x2 σ _ hq (fun w9 s10 he => ?_)
  · subst he
    try dsimp only [gSum] at hP
    refine gRunN_ok hG.1 1 _ (94, [none, none, none, some (.int w9), none, none, none], [.int w9], (gSh, s10, u)) rfl ?_
    cases hP
    exact hG.2.1 _ _ rfl rfl⟩
def p_Router_isDone_4 (E : gEv) (l1 : Int32) (l2 : Int32) (σ : gS) : Option ((Int32 × Int32 × gS) ⊕ (Int32 × gS)) :=
  if (σ.1 1 7) ≤ l2 then (some (.inr (l1, σ))) else (if gIn l2 (σ.2.1 75) then if (σ.1 75 l2.toNatClampNeg) ≤ (1 : Int32) then (gLet (l2 + 1) fun x1 => some (.inl (l1, x1, σ))) else (if gIn l2 (σ.2.1 76) then if gIn l2 (σ.2.1 75) then if gIn l2 (σ.2.1 76) then gLet (gPut σ 76 l2.toNatClampNeg ((σ.1 76 l2.toNatClampNeg) + ((σ.1 75 l2.toNatClampNeg) - (1 : Int32)))) fun s2 => gLet (l2 + 1) fun x3 => some (.inl (0, x3, s2)) else none else none else none) else none)
set_option maxRecDepth 20000 in
theorem b_Router_isDone_4 (E : gEv) (d u : Nat) {G : gFr → Prop} {vo : Option Value} {sr : gS} (hG : gClo E gDf gP10 gY135 (some .boolean) (gC E gDf gMs (d + 0)) (vo, (gSh, sr, u)) G) (l1 : Int32) (l2 : Int32) (σ : gS) {r : (Int32 × Int32 × gS) ⊕ (Int32 × gS)} (hP : p_Router_isDone_4 E l1 l2 σ = some r) (K1 : ∀ (m1 : Int32) (m2 : Int32) (σ1 : gS), r = .inl (m1, m2, σ1) → G (4, [some (.ref 70), some (.int m1), some (.int m2)], [], (gSh, σ1, u))) (K2 : ∀ (m1 : Int32) (σ1 : gS), r = .inr (m1, σ1) → G (50, [none, some (.int m1), none], [], (gSh, σ1, u))) : G (4, [some (.ref 70), some (.int l1), some (.int l2)], [], (gSh, σ, u)) := by
  unfold p_Router_isDone_4 at hP
  refine gRunN_ok hG.1 4 _ (12, [some (.ref 70), some (.int l1), some (.int l2)], [.int (σ.1 1 7), .int l2], (gSh, σ, u)) rfl ?_
  rcases g_ite hP with ⟨hc, hP⟩ | ⟨hc, hP⟩
  · refine hG.1 _ (50, [some (.ref 70), some (.int l1), some (.int l2)], [], (gSh, σ, u)) _ rfl (if_pos hc) ?_
    refine hG.2.2.2.2.1 _ _ [none, some (.int l1), none] _ _ ⟨rfl, trivial⟩ ?_
    cases hP
    exact K2 _ _ rfl
  · refine hG.1 _ (15, [some (.ref 70), some (.int l1), some (.int l2)], [], (gSh, σ, u)) _ rfl (if_neg hc) ?_
    refine gRunN_ok hG.1 3 _ (20, [some (.ref 70), some (.int l1), some (.int l2)], [.int l2, .ref 75], (gSh, σ, u)) rfl ?_
    obtain ⟨hc, hP⟩ := g_if hP
    refine hG.1 _ (21, [some (.ref 70), some (.int l1), some (.int l2)], [.int (σ.1 75 l2.toNatClampNeg)], (gSh, σ, u)) _ rfl (if_pos hc) ?_
    refine gRunN_ok hG.1 1 _ (22, [some (.ref 70), some (.int l1), some (.int l2)], [.int 1, .int (σ.1 75 l2.toNatClampNeg)], (gSh, σ, u)) rfl ?_
    rcases g_ite hP with ⟨hc, hP⟩ | ⟨hc, hP⟩
    · refine hG.1 _ (44, [some (.ref 70), some (.int l1), some (.int l2)], [], (gSh, σ, u)) _ rfl (if_pos hc) ?_
      refine gRunN_ok hG.1 1 _ (47, [some (.ref 70), some (.int l1), some (.int (l2 + 1))], [], (gSh, σ, u)) rfl ?_
      obtain ⟨x1, ex1, hP⟩ := g_let hP
      rw [← ex1]
      refine gRunN_ok hG.1 1 _ (4, [some (.ref 70), some (.int l1), some (.int x1)], [], (gSh, σ, u)) rfl ?_
      cases hP
      exact K1 _ _ _ rfl
    · refine hG.1 _ (25, [some (.ref 70), some (.int l1), some (.int l2)], [], (gSh, σ, u)) _ rfl (if_neg hc) ?_
      refine gRunN_ok hG.1 4 _ (31, [some (.ref 70), some (.int l1), some (.int l2)], [.int l2, .ref 76, .int l2, .ref 76], (gSh, σ, u)) rfl ?_
      obtain ⟨hc, hP⟩ := g_if hP
      refine hG.1 _ (32, [some (.ref 70), some (.int l1), some (.int l2)], [.int (σ.1 76 l2.toNatClampNeg), .int l2, .ref 76], (gSh, σ, u)) _ rfl (if_pos hc) ?_
      refine gRunN_ok hG.1 3 _ (37, [some (.ref 70), some (.int l1), some (.int l2)], [.int l2, .ref 75, .int (σ.1 76 l2.toNatClampNeg), .int l2, .ref 76], (gSh, σ, u)) rfl ?_
      obtain ⟨hc, hP⟩ := g_if hP
      refine hG.1 _ (38, [some (.ref 70), some (.int l1), some (.int l2)], [.int (σ.1 75 l2.toNatClampNeg), .int (σ.1 76 l2.toNatClampNeg), .int l2, .ref 76], (gSh, σ, u)) _ rfl (if_pos hc) ?_
      refine gRunN_ok hG.1 3 _ (41, [some (.ref 70), some (.int l1), some (.int l2)], [.int ((σ.1 76 l2.toNatClampNeg) + ((σ.1 75 l2.toNatClampNeg) - (1 : Int32))), .int l2, .ref 76], (gSh, σ, u)) rfl ?_
      obtain ⟨hc, hP⟩ := g_if hP
      refine hG.1 _ (42, [some (.ref 70), some (.int l1), some (.int l2)], [], (gSh, (gPut σ 76 l2.toNatClampNeg ((σ.1 76 l2.toNatClampNeg) + ((σ.1 75 l2.toNatClampNeg) - (1 : Int32)))), u)) _ rfl (if_pos hc) ?_
      obtain ⟨s2, es2, hP⟩ := g_let hP
      rw [← es2]
      refine gRunN_ok hG.1 3 _ (47, [some (.ref 70), some (.int 0), some (.int (l2 + 1))], [], (gSh, s2, u)) rfl ?_
      obtain ⟨x3, ex3, hP⟩ := g_let hP
      rw [← ex3]
      refine gRunN_ok hG.1 1 _ (4, [some (.ref 70), some (.int 0), some (.int x3)], [], (gSh, s2, u)) rfl ?_
      cases hP
      exact K1 _ _ _ rfl
theorem l_Router_isDone_4 (E : gEv) (d u : Nat) {G : gFr → Prop} {vo : Option Value} {sr : gS} (hG : gClo E gDf gP10 gY135 (some .boolean) (gC E gDf gMs (d + 0)) (vo, (gSh, sr, u)) G) : ∀ (n : Nat) (l1 : Int32) (l2 : Int32) (σ : gS) (e : (Int32 × gS)), gIter (fun z => p_Router_isDone_4 E z.1 z.2.1 z.2.2) n (l1, l2, σ) = some e → (∀ (m1 : Int32) (σ1 : gS), e = (m1, σ1) → G (50, [none, some (.int m1), none], [], (gSh, σ1, u))) → G (4, [some (.ref 70), some (.int l1), some (.int l2)], [], (gSh, σ, u)) := by
  intro n
  induction n with
  | zero => intro l1 l2 σ e h; cases h
  | succ n ih =>
    intro l1 l2 σ e h K2
    rcases g_iter h with ⟨z, h1, h2⟩ | h1
    · exact b_Router_isDone_4 E d u hG l1 l2 σ h1 (fun n0 n1 n2 hz => by cases hz; exact ih _ _ _ e h2 K2) (fun _ _ hz => by cases hz)
    · exact b_Router_isDone_4 E d u hG l1 l2 σ h1 (fun _ _ _ hz => by cases hz) (fun m1 σ1 hz => K2 m1 σ1 (by cases hz; rfl))
def p_Router_isDone (E : gEv) (σ : gS) : Option (Int32 × gS) :=
  gB1 (gIter (fun z => p_Router_isDone_4 E z.1 z.2.1 z.2.2) gN (1, 0, σ)) fun e4 => (fun w5 s6 => if w5 = 0 ∨ w5 = 1 then some (w5, s6) else none) e4.1 e4.2
set_option maxRecDepth 20000 in
theorem c_Router_isDone (E : gEv) (d u : Nat) (σ : gS) {v : Int32} {sr : gS}  (hq : p_Router_isDone E σ = some (v, sr)) : gC E gDf gMs (d + 1) 135 [.ref 70] (gSh, σ, u) (some (.int v), (gSh, sr, u)) := ⟨gM135, rfl, Nat.le_of_ble_eq_true rfl, fun G hG => by
  have hP := hq
  unfold p_Router_isDone at hP
  replace hG : gClo E gDf gP10 gY135 (some .boolean) (gC E gDf gMs (d + 0)) (some (.int v), (gSh, sr, u)) G := hG
  show G (0, [some (.ref 70), none, none], [], (gSh, σ, u))
  refine gRunN_ok hG.1 4 _ (4, [some (.ref 70), some (.int 1), some (.int 0)], [], (gSh, σ, u)) rfl ?_
  obtain ⟨e4, hq, hP⟩ := g_b1 hP
  refine l_Router_isDone_4 E d u hG gN 1 0 σ _ hq (fun w5 s6 he => ?_)
  · subst he
    try dsimp only [gSum] at hP
    refine gRunN_ok hG.1 1 _ (51, [none, some (.int w5), none], [.int w5], (gSh, s6, u)) rfl ?_
    obtain ⟨hc, hP⟩ := g_if hP
    cases hP
    exact hG.2.1 _ _ rfl (if_pos hc)⟩
def p_Router_keeperOf (E : gEv) (a0 : Int32) (σ : gS) : Option (Int32) :=
  if (σ.1 70 15) ≤ 0 then (some (-1)) else (if gIn a0 (σ.2.1 78) then some (σ.1 78 a0.toNatClampNeg) else none)
set_option maxRecDepth 20000 in
theorem c_Router_keeperOf (E : gEv) (d u : Nat) (a0 : Int32) (σ : gS) {v : Int32}  (hq : p_Router_keeperOf E a0 σ = some v) : gC E gDf gMs (d + 1) 138 [.ref 70, .int a0] (gSh, σ, u) (some (.int v), (gSh, σ, u)) := ⟨gM138, rfl, Nat.le_of_ble_eq_true rfl, fun G hG => by
  have hP := hq
  unfold p_Router_keeperOf at hP
  replace hG : gClo E gDf gP10 gY138 (some .int) (gC E gDf gMs (d + 0)) (some (.int v), (gSh, σ, u)) G := hG
  show G (0, [some (.ref 70), some (.int a0)], [], (gSh, σ, u))
  refine gRunN_ok hG.1 2 _ (4, [some (.ref 70), some (.int a0)], [.int (σ.1 70 15)], (gSh, σ, u)) rfl ?_
  rcases g_ite hP with ⟨hc, hP⟩ | ⟨hc, hP⟩
  · refine hG.1 _ (16, [some (.ref 70), some (.int a0)], [], (gSh, σ, u)) _ rfl (if_pos hc) ?_
    refine gRunN_ok hG.1 1 _ (17, [some (.ref 70), some (.int a0)], [.int (-1)], (gSh, σ, u)) rfl ?_
    cases hP
    exact hG.2.1 _ _ rfl rfl
  · refine hG.1 _ (7, [some (.ref 70), some (.int a0)], [], (gSh, σ, u)) _ rfl (if_neg hc) ?_
    refine gRunN_ok hG.1 3 _ (12, [some (.ref 70), some (.int a0)], [.int a0, .ref 78], (gSh, σ, u)) rfl ?_
    obtain ⟨hc, hP⟩ := g_if hP
    refine hG.1 _ (13, [some (.ref 70), some (.int a0)], [.int (σ.1 78 a0.toNatClampNeg)], (gSh, σ, u)) _ rfl (if_pos hc) ?_
    refine gRunN_ok hG.1 1 _ (17, [some (.ref 70), some (.int a0)], [.int (σ.1 78 a0.toNatClampNeg)], (gSh, σ, u)) rfl ?_
    cases hP
    exact hG.2.1 _ _ rfl rfl⟩
def p_Packing_firstBit (E : gEv) (a0 : Int32) (a1 : Int32) (σ : gS) : Option (Int32) :=
  if gIn a0 (σ.2.1 57) then some (((a1 * (σ.1 1 2)) + (σ.1 57 a0.toNatClampNeg)) * (σ.1 1 9)) else none
set_option maxRecDepth 20000 in
theorem c_Packing_firstBit (E : gEv) (d u : Nat) (a0 : Int32) (a1 : Int32) (σ : gS) {v : Int32}  (hq : p_Packing_firstBit E a0 a1 σ = some v) : gC E gDf gMs (d + 1) 142 [.ref 53, .int a0, .int a1] (gSh, σ, u) (some (.int v), (gSh, σ, u)) := ⟨gM142, rfl, Nat.le_of_ble_eq_true rfl, fun G hG => by
  have hP := hq
  unfold p_Packing_firstBit at hP
  replace hG : gClo E gDf gP8 gY142 (some .int) (gC E gDf gMs (d + 0)) (some (.int v), (gSh, σ, u)) G := hG
  show G (0, [some (.ref 53), some (.int a0), some (.int a1)], [], (gSh, σ, u))
  refine gRunN_ok hG.1 8 _ (14, [some (.ref 53), some (.int a0), some (.int a1)], [.int a0, .ref 57, .int (a1 * (σ.1 1 2))], (gSh, σ, u)) rfl ?_
  obtain ⟨hc, hP⟩ := g_if hP
  refine hG.1 _ (15, [some (.ref 53), some (.int a0), some (.int a1)], [.int (σ.1 57 a0.toNatClampNeg), .int (a1 * (σ.1 1 2))], (gSh, σ, u)) _ rfl (if_pos hc) ?_
  refine gRunN_ok hG.1 5 _ (24, [some (.ref 53), some (.int a0), some (.int a1)], [.int (((a1 * (σ.1 1 2)) + (σ.1 57 a0.toNatClampNeg)) * (σ.1 1 9))], (gSh, σ, u)) rfl ?_
  cases hP
  exact hG.2.1 _ _ rfl rfl⟩
def p_Field_put_3 (E : gEv) (l1 : Int32) (l2 : Int32) (l3 : Int32) (l4 : Int32) (σ : gS) : Option ((Int32 × gS) ⊕ (gS)) :=
  if l2 ≤ l4 then (some (.inr σ)) else (if l1 < 0 then (some (.inr σ)) else (if (σ.1 1 8) ≤ (l1 + l4) then (some (.inr σ)) else (if gIn (l1 + l4) (σ.2.1 82) then gLet (gPut σ 82 (l1 + l4).toNatClampNeg (vp_nar .byte ((((l3.toUInt32 >>> (l4.toUInt32 &&& Int32.toUInt32 31)).toInt32) &&& (1 : Int32)).toInt8.toInt32))) fun s1 => gLet (l4 + 1) fun x2 => some (.inl (x2, s1)) else none)))
set_option maxRecDepth 20000 in
theorem b_Field_put_3 (E : gEv) (d u : Nat) {G : gFr → Prop} {vo : Option Value} {sr : gS} (hG : gClo E gDf gP12 gY143 none (gC E gDf gMs (d + 0)) (vo, (gSh, sr, u)) G) (l1 : Int32) (l2 : Int32) (l3 : Int32) (l4 : Int32) (σ : gS) {r : (Int32 × gS) ⊕ (gS)} (hP : p_Field_put_3 E l1 l2 l3 l4 σ = some r) (K1 : ∀ (m4 : Int32) (σ1 : gS), r = .inl (m4, σ1) → G (3, [some (.ref 81), some (.int l1), some (.int l2), some (.int l3), some (.int m4)], [], (gSh, σ1, u))) (K2 : ∀ (σ1 : gS), r = .inr σ1 → G (49, [none, none, none, none, none], [], (gSh, σ1, u))) : G (3, [some (.ref 81), some (.int l1), some (.int l2), some (.int l3), some (.int l4)], [], (gSh, σ, u)) := by
  unfold p_Field_put_3 at hP
  refine gRunN_ok hG.1 2 _ (6, [some (.ref 81), some (.int l1), some (.int l2), some (.int l3), some (.int l4)], [.int l2, .int l4], (gSh, σ, u)) rfl ?_
  rcases g_ite hP with ⟨hc, hP⟩ | ⟨hc, hP⟩
  · refine hG.1 _ (49, [some (.ref 81), some (.int l1), some (.int l2), some (.int l3), some (.int l4)], [], (gSh, σ, u)) _ rfl (if_pos hc) ?_
    refine hG.2.2.2.2.1 _ _ [none, none, none, none, none] _ _ trivial ?_
    cases hP
    exact K2 _ rfl
  · refine hG.1 _ (9, [some (.ref 81), some (.int l1), some (.int l2), some (.int l3), some (.int l4)], [], (gSh, σ, u)) _ rfl (if_neg hc) ?_
    refine gRunN_ok hG.1 1 _ (10, [some (.ref 81), some (.int l1), some (.int l2), some (.int l3), some (.int l4)], [.int l1], (gSh, σ, u)) rfl ?_
    rcases g_ite hP with ⟨hc, hP⟩ | ⟨hc, hP⟩
    · refine hG.1 _ (49, [some (.ref 81), some (.int l1), some (.int l2), some (.int l3), some (.int l4)], [], (gSh, σ, u)) _ rfl (if_pos hc) ?_
      refine hG.2.2.2.2.1 _ _ [none, none, none, none, none] _ _ trivial ?_
      cases hP
      exact K2 _ rfl
    · refine hG.1 _ (13, [some (.ref 81), some (.int l1), some (.int l2), some (.int l3), some (.int l4)], [], (gSh, σ, u)) _ rfl (if_neg hc) ?_
      refine gRunN_ok hG.1 6 _ (24, [some (.ref 81), some (.int l1), some (.int l2), some (.int l3), some (.int l4)], [.int (σ.1 1 8), .int (l1 + l4)], (gSh, σ, u)) rfl ?_
      rcases g_ite hP with ⟨hc, hP⟩ | ⟨hc, hP⟩
      · refine hG.1 _ (49, [some (.ref 81), some (.int l1), some (.int l2), some (.int l3), some (.int l4)], [], (gSh, σ, u)) _ rfl (if_pos hc) ?_
        refine hG.2.2.2.2.1 _ _ [none, none, none, none, none] _ _ trivial ?_
        cases hP
        exact K2 _ rfl
      · refine hG.1 _ (27, [some (.ref 81), some (.int l1), some (.int l2), some (.int l3), some (.int l4)], [], (gSh, σ, u)) _ rfl (if_neg hc) ?_
        refine gRunN_ok hG.1 11 _ (42, [some (.ref 81), some (.int l1), some (.int l2), some (.int l3), some (.int l4)], [.int ((((l3.toUInt32 >>> (l4.toUInt32 &&& Int32.toUInt32 31)).toInt32) &&& (1 : Int32)).toInt8.toInt32), .int (l1 + l4), .ref 82], (gSh, σ, u)) rfl ?_
        obtain ⟨hc, hP⟩ := g_if hP
        refine hG.1 _ (43, [some (.ref 81), some (.int l1), some (.int l2), some (.int l3), some (.int l4)], [], (gSh, (gPut σ 82 (l1 + l4).toNatClampNeg (vp_nar .byte ((((l3.toUInt32 >>> (l4.toUInt32 &&& Int32.toUInt32 31)).toInt32) &&& (1 : Int32)).toInt8.toInt32))), u)) _ rfl (if_pos hc) ?_
        obtain ⟨s1, es1, hP⟩ := g_let hP
        rw [← es1]
        refine gRunN_ok hG.1 1 _ (46, [some (.ref 81), some (.int l1), some (.int l2), some (.int l3), some (.int (l4 + 1))], [], (gSh, s1, u)) rfl ?_
        obtain ⟨x2, ex2, hP⟩ := g_let hP
        rw [← ex2]
        refine gRunN_ok hG.1 1 _ (3, [some (.ref 81), some (.int l1), some (.int l2), some (.int l3), some (.int x2)], [], (gSh, s1, u)) rfl ?_
        cases hP
        exact K1 _ _ rfl
theorem l_Field_put_3 (E : gEv) (d u : Nat) {G : gFr → Prop} {vo : Option Value} {sr : gS} (hG : gClo E gDf gP12 gY143 none (gC E gDf gMs (d + 0)) (vo, (gSh, sr, u)) G) (l1 : Int32) (l2 : Int32) (l3 : Int32) : ∀ (n : Nat) (l4 : Int32) (σ : gS) (e : (gS)), gIter (fun z => p_Field_put_3 E l1 l2 l3 z.1 z.2) n (l4, σ) = some e → (∀ (σ1 : gS), e = σ1 → G (49, [none, none, none, none, none], [], (gSh, σ1, u))) → G (3, [some (.ref 81), some (.int l1), some (.int l2), some (.int l3), some (.int l4)], [], (gSh, σ, u)) := by
  intro n
  induction n with
  | zero => intro l4 σ e h; cases h
  | succ n ih =>
    intro l4 σ e h K2
    rcases g_iter h with ⟨z, h1, h2⟩ | h1
    · exact b_Field_put_3 E d u hG l1 l2 l3 l4 σ h1 (fun n0 n1 hz => by cases hz; exact ih _ _ e h2 K2) (fun _ hz => by cases hz)
    · exact b_Field_put_3 E d u hG l1 l2 l3 l4 σ h1 (fun _ _ hz => by cases hz) (fun σ1 hz => K2 σ1 (by cases hz; rfl))
def p_Field_put (E : gEv) (a0 : Int32) (a1 : Int32) (a2 : Int32) (σ : gS) : Option (gS) :=
  gB1 (gIter (fun z => p_Field_put_3 E a0 a1 a2 z.1 z.2) gN (0, σ)) fun e3 => (fun s4 => some s4) e3
set_option maxRecDepth 20000 in
theorem c_Field_put (E : gEv) (d u : Nat) (a0 : Int32) (a1 : Int32) (a2 : Int32) (σ : gS) {sr : gS}  (hq : p_Field_put E a0 a1 a2 σ = some sr) : gC E gDf gMs (d + 1) 143 [.ref 81, .int a0, .int a1, .int a2] (gSh, σ, u) (none, (gSh, sr, u)) := ⟨gM143, rfl, Nat.le_of_ble_eq_true rfl, fun G hG => by
  have hP := hq
  unfold p_Field_put at hP
  replace hG : gClo E gDf gP12 gY143 none (gC E gDf gMs (d + 0)) (none, (gSh, sr, u)) G := hG
  show G (0, [some (.ref 81), some (.int a0), some (.int a1), some (.int a2), none], [], (gSh, σ, u))
  refine gRunN_ok hG.1 2 _ (3, [some (.ref 81), some (.int a0), some (.int a1), some (.int a2), some (.int 0)], [], (gSh, σ, u)) rfl ?_
  obtain ⟨e3, hq, hP⟩ := g_b1 hP
  refine l_Field_put_3 E d u hG a0 a1 a2 gN 0 σ _ hq (fun s4 he => ?_)
  · replace he := he.symm
    subst he
    try dsimp only [gSum] at hP
    cases hP
    exact hG.2.1 _ _ rfl rfl⟩
def p_Grid_padBit (E : gEv) (a0 : Int32) (σ : gS) : Option (Int32) :=
  some ((σ.1 1 10) + (a0 * ((6 : Int32) + (σ.1 1 3))))
set_option maxRecDepth 20000 in
theorem c_Grid_padBit (E : gEv) (d u : Nat) (a0 : Int32) (σ : gS) {v : Int32}  (hq : p_Grid_padBit E a0 σ = some v) : gC E gDf gMs (d + 1) 144 [.ref 1, .int a0] (gSh, σ, u) (some (.int v), (gSh, σ, u)) := ⟨gM144, rfl, Nat.le_of_ble_eq_true rfl, fun G hG => by
  have hP := hq
  unfold p_Grid_padBit at hP
  replace hG : gClo E gDf gP1 gY144 (some .int) (gC E gDf gMs (d + 0)) (some (.int v), (gSh, σ, u)) G := hG
  show G (0, [some (.ref 1), some (.int a0)], [], (gSh, σ, u))
  refine gRunN_ok hG.1 9 _ (14, [some (.ref 1), some (.int a0)], [.int ((σ.1 1 10) + (a0 * ((6 : Int32) + (σ.1 1 3))))], (gSh, σ, u)) rfl ?_
  cases hP
  exact hG.2.1 _ _ rfl rfl⟩
def p_Field_begin_2 (E : gEv) (l1 : Int32) (σ : gS) : Option ((Int32 × gS) ⊕ (gS)) :=
  if (σ.1 1 6) ≤ l1 then (some (.inr σ)) else (if gIn ((l1 * (σ.1 1 9)) + (17 : Int32)) (σ.2.1 82) then if gIn l1 (σ.2.1 84) then gLet (gPut σ 84 l1.toNatClampNeg (vp_nar .byte (σ.1 82 ((l1 * (σ.1 1 9)) + (17 : Int32)).toNatClampNeg))) fun s1 => gLet (l1 + 1) fun x2 => some (.inl (x2, s1)) else none else none)
set_option maxRecDepth 20000 in
theorem b_Field_begin_2 (E : gEv) (d u : Nat) {G : gFr → Prop} {vo : Option Value} {sr : gS} (hG : gClo E gDf gP12 gY148 none (gC E gDf gMs (d + 0)) (vo, (gSh, sr, u)) G) (l1 : Int32) (σ : gS) {r : (Int32 × gS) ⊕ (gS)} (hP : p_Field_begin_2 E l1 σ = some r) (K1 : ∀ (m1 : Int32) (σ1 : gS), r = .inl (m1, σ1) → G (2, [some (.ref 81), some (.int m1)], [], (gSh, σ1, u))) (K2 : ∀ (σ1 : gS), r = .inr σ1 → G (42, [some (.ref 81), none], [], (gSh, σ1, u))) : G (2, [some (.ref 81), some (.int l1)], [], (gSh, σ, u)) := by
  unfold p_Field_begin_2 at hP
  refine gRunN_ok hG.1 4 _ (10, [some (.ref 81), some (.int l1)], [.int (σ.1 1 6), .int l1], (gSh, σ, u)) rfl ?_
  rcases g_ite hP with ⟨hc, hP⟩ | ⟨hc, hP⟩
  · refine hG.1 _ (42, [some (.ref 81), some (.int l1)], [], (gSh, σ, u)) _ rfl (if_pos hc) ?_
    refine hG.2.2.2.2.1 _ _ [some (.ref 81), none] _ _ ⟨rfl, trivial⟩ ?_
    cases hP
    exact K2 _ rfl
  · refine hG.1 _ (13, [some (.ref 81), some (.int l1)], [], (gSh, σ, u)) _ rfl (if_neg hc) ?_
    refine gRunN_ok hG.1 12 _ (34, [some (.ref 81), some (.int l1)], [.int ((l1 * (σ.1 1 9)) + (17 : Int32)), .ref 82, .int l1, .ref 84], (gSh, σ, u)) rfl ?_
    obtain ⟨hc, hP⟩ := g_if hP
    refine hG.1 _ (35, [some (.ref 81), some (.int l1)], [.int (σ.1 82 ((l1 * (σ.1 1 9)) + (17 : Int32)).toNatClampNeg), .int l1, .ref 84], (gSh, σ, u)) _ rfl (if_pos hc) ?_
    obtain ⟨hc, hP⟩ := g_if hP
    refine hG.1 _ (36, [some (.ref 81), some (.int l1)], [], (gSh, (gPut σ 84 l1.toNatClampNeg (vp_nar .byte (σ.1 82 ((l1 * (σ.1 1 9)) + (17 : Int32)).toNatClampNeg))), u)) _ rfl (if_pos hc) ?_
    obtain ⟨s1, es1, hP⟩ := g_let hP
    rw [← es1]
    refine gRunN_ok hG.1 1 _ (39, [some (.ref 81), some (.int (l1 + 1))], [], (gSh, s1, u)) rfl ?_
    obtain ⟨x2, ex2, hP⟩ := g_let hP
    rw [← ex2]
    refine gRunN_ok hG.1 1 _ (2, [some (.ref 81), some (.int x2)], [], (gSh, s1, u)) rfl ?_
    cases hP
    exact K1 _ _ rfl
theorem l_Field_begin_2 (E : gEv) (d u : Nat) {G : gFr → Prop} {vo : Option Value} {sr : gS} (hG : gClo E gDf gP12 gY148 none (gC E gDf gMs (d + 0)) (vo, (gSh, sr, u)) G) : ∀ (n : Nat) (l1 : Int32) (σ : gS) (e : (gS)), gIter (fun z => p_Field_begin_2 E z.1 z.2) n (l1, σ) = some e → (∀ (σ1 : gS), e = σ1 → G (42, [some (.ref 81), none], [], (gSh, σ1, u))) → G (2, [some (.ref 81), some (.int l1)], [], (gSh, σ, u)) := by
  intro n
  induction n with
  | zero => intro l1 σ e h; cases h
  | succ n ih =>
    intro l1 σ e h K2
    rcases g_iter h with ⟨z, h1, h2⟩ | h1
    · exact b_Field_begin_2 E d u hG l1 σ h1 (fun n0 n1 hz => by cases hz; exact ih _ _ e h2 K2) (fun _ hz => by cases hz)
    · exact b_Field_begin_2 E d u hG l1 σ h1 (fun _ _ hz => by cases hz) (fun σ1 hz => K2 σ1 (by cases hz; rfl))
def p_Field_begin (E : gEv) (σ : gS) : Option (gS) :=
  gB1 (gIter (fun z => p_Field_begin_2 E z.1 z.2) gN (0, σ)) fun e3 => (fun s4 => gLet (gPut s4 81 13 0) fun s5 => gLet (gPut s5 81 15 0) fun s6 => some s6) e3
set_option maxRecDepth 20000 in
theorem c_Field_begin (E : gEv) (d u : Nat) (σ : gS) {sr : gS}  (hq : p_Field_begin E σ = some sr) : gC E gDf gMs (d + 1) 148 [.ref 81] (gSh, σ, u) (none, (gSh, sr, u)) := ⟨gM148, rfl, Nat.le_of_ble_eq_true rfl, fun G hG => by
  have hP := hq
  unfold p_Field_begin at hP
  replace hG : gClo E gDf gP12 gY148 none (gC E gDf gMs (d + 0)) (none, (gSh, sr, u)) G := hG
  show G (0, [some (.ref 81), none], [], (gSh, σ, u))
  refine gRunN_ok hG.1 2 _ (2, [some (.ref 81), some (.int 0)], [], (gSh, σ, u)) rfl ?_
  obtain ⟨e3, hq, hP⟩ := g_b1 hP
  refine l_Field_begin_2 E d u hG gN 0 σ _ hq (fun s4 he => ?_)
  · replace he := he.symm
    subst he
    try dsimp only [gSum] at hP
    refine gRunN_ok hG.1 3 _ (47, [some (.ref 81), none], [], (gSh, (gPut s4 81 13 0), u)) rfl ?_
    obtain ⟨s5, es5, hP⟩ := g_let hP
    rw [← es5]
    refine gRunN_ok hG.1 3 _ (52, [some (.ref 81), none], [], (gSh, (gPut s5 81 15 0), u)) rfl ?_
    obtain ⟨s6, es6, hP⟩ := g_let hP
    rw [← es6]
    cases hP
    exact hG.2.1 _ _ rfl rfl⟩
def p_Face_bit (E : gEv) (a0 : Int32) (σ : gS) : Option (Int32) :=
  if a0 < 0 then (some (-1)) else (if a0 < (σ.1 1 8) then (if gIn a0 (σ.2.1 82) then some (σ.1 82 a0.toNatClampNeg) else none) else (some (-1)))
set_option maxRecDepth 20000 in
theorem c_Face_bit (E : gEv) (d u : Nat) (a0 : Int32) (σ : gS) {v : Int32}  (hq : p_Face_bit E a0 σ = some v) : gC E gDf gMs (d + 1) 149 [.ref 0, .int a0] (gSh, σ, u) (some (.int v), (gSh, σ, u)) := ⟨gM149, rfl, Nat.le_of_ble_eq_true rfl, fun G hG => by
  have hP := hq
  unfold p_Face_bit at hP
  replace hG : gClo E gDf gP0 gY149 (some .int) (gC E gDf gMs (d + 0)) (some (.int v), (gSh, σ, u)) G := hG
  show G (0, [some (.ref 0), some (.int a0)], [], (gSh, σ, u))
  refine gRunN_ok hG.1 1 _ (1, [some (.ref 0), some (.int a0)], [.int a0], (gSh, σ, u)) rfl ?_
  rcases g_ite hP with ⟨hc, hP⟩ | ⟨hc, hP⟩
  · refine hG.1 _ (15, [some (.ref 0), some (.int a0)], [], (gSh, σ, u)) _ rfl (if_pos hc) ?_
    refine gRunN_ok hG.1 2 _ (28, [some (.ref 0), some (.int a0)], [.int (-1)], (gSh, σ, u)) rfl ?_
    cases hP
    exact hG.2.1 _ _ rfl rfl
  · refine hG.1 _ (4, [some (.ref 0), some (.int a0)], [], (gSh, σ, u)) _ rfl (if_neg hc) ?_
    refine gRunN_ok hG.1 4 _ (12, [some (.ref 0), some (.int a0)], [.int (σ.1 1 8), .int a0], (gSh, σ, u)) rfl ?_
    rcases g_ite hP with ⟨hc, hP⟩ | ⟨hc, hP⟩
    · refine hG.1 _ (19, [some (.ref 0), some (.int a0)], [], (gSh, σ, u)) _ rfl (if_pos hc) ?_
      refine gRunN_ok hG.1 4 _ (27, [some (.ref 0), some (.int a0)], [.int a0, .ref 82], (gSh, σ, u)) rfl ?_
      obtain ⟨hc, hP⟩ := g_if hP
      refine hG.1 _ (28, [some (.ref 0), some (.int a0)], [.int (σ.1 82 a0.toNatClampNeg)], (gSh, σ, u)) _ rfl (if_pos hc) ?_
      cases hP
      exact hG.2.1 _ _ rfl rfl
    · refine hG.1 _ (15, [some (.ref 0), some (.int a0)], [], (gSh, σ, u)) _ rfl (if_neg hc) ?_
      refine gRunN_ok hG.1 2 _ (28, [some (.ref 0), some (.int a0)], [.int (-1)], (gSh, σ, u)) rfl ?_
      cases hP
      exact hG.2.1 _ _ rfl rfl⟩
def p_Field_turn (E : gEv) (a0 : Int32) (σ : gS) : Option (Int32 × gS) :=
  if gIn a0 (σ.2.1 82) then if gIn a0 (σ.2.1 82) then gLet (gPut σ 82 a0.toNatClampNeg (vp_nar .byte (((1 : Int32) - (σ.1 82 a0.toNatClampNeg)).toInt8.toInt32))) fun s1 => gLet (gPut s1 81 14 0) fun s2 => if gIn a0 (s2.2.1 82) then some (s2.1 82 a0.toNatClampNeg, s2) else none else none else none
set_option maxRecDepth 20000 in
theorem c_Field_turn (E : gEv) (d u : Nat) (a0 : Int32) (σ : gS) {v : Int32} {sr : gS}  (hq : p_Field_turn E a0 σ = some (v, sr)) : gC E gDf gMs (d + 1) 151 [.ref 81, .int a0] (gSh, σ, u) (some (.int v), (gSh, sr, u)) := ⟨gM151, rfl, Nat.le_of_ble_eq_true rfl, fun G hG => by
  have hP := hq
  unfold p_Field_turn at hP
  replace hG : gClo E gDf gP12 gY151 (some .int) (gC E gDf gMs (d + 0)) (some (.int v), (gSh, sr, u)) G := hG
  show G (0, [some (.ref 81), some (.int a0)], [], (gSh, σ, u))
  refine gRunN_ok hG.1 7 _ (11, [some (.ref 81), some (.int a0)], [.int a0, .ref 82, .int 1, .int a0, .ref 82], (gSh, σ, u)) rfl ?_
  obtain ⟨hc, hP⟩ := g_if hP
  refine hG.1 _ (12, [some (.ref 81), some (.int a0)], [.int (σ.1 82 a0.toNatClampNeg), .int 1, .int a0, .ref 82], (gSh, σ, u)) _ rfl (if_pos hc) ?_
  refine gRunN_ok hG.1 2 _ (14, [some (.ref 81), some (.int a0)], [.int (((1 : Int32) - (σ.1 82 a0.toNatClampNeg)).toInt8.toInt32), .int a0, .ref 82], (gSh, σ, u)) rfl ?_
  obtain ⟨hc, hP⟩ := g_if hP
  refine hG.1 _ (15, [some (.ref 81), some (.int a0)], [], (gSh, (gPut σ 82 a0.toNatClampNeg (vp_nar .byte (((1 : Int32) - (σ.1 82 a0.toNatClampNeg)).toInt8.toInt32))), u)) _ rfl (if_pos hc) ?_
  obtain ⟨s1, es1, hP⟩ := g_let hP
  rw [← es1]
  refine gRunN_ok hG.1 3 _ (20, [some (.ref 81), some (.int a0)], [], (gSh, (gPut s1 81 14 0), u)) rfl ?_
  obtain ⟨s2, es2, hP⟩ := g_let hP
  rw [← es2]
  refine gRunN_ok hG.1 3 _ (25, [some (.ref 81), some (.int a0)], [.int a0, .ref 82], (gSh, s2, u)) rfl ?_
  obtain ⟨hc, hP⟩ := g_if hP
  refine hG.1 _ (26, [some (.ref 81), some (.int a0)], [.int (s2.1 82 a0.toNatClampNeg)], (gSh, s2, u)) _ rfl (if_pos hc) ?_
  cases hP
  exact hG.2.1 _ _ rfl rfl⟩
def p_Field_setPad (E : gEv) (a0 : Int32) (a1 : Int32) (σ : gS) : Option (gS) :=
  if gIn a0 (σ.2.1 83) then gLet (gPut σ 83 a0.toNatClampNeg (vp_nar .byte (a1.toInt8.toInt32))) fun s1 => gLet (gPut s1 81 15 0) fun s2 => some s2 else none
set_option maxRecDepth 20000 in
theorem c_Field_setPad (E : gEv) (d u : Nat) (a0 : Int32) (a1 : Int32) (σ : gS) {sr : gS}  (hq : p_Field_setPad E a0 a1 σ = some sr) : gC E gDf gMs (d + 1) 154 [.ref 81, .int a0, .int a1] (gSh, σ, u) (none, (gSh, sr, u)) := ⟨gM154, rfl, Nat.le_of_ble_eq_true rfl, fun G hG => by
  have hP := hq
  unfold p_Field_setPad at hP
  replace hG : gClo E gDf gP12 gY154 none (gC E gDf gMs (d + 0)) (none, (gSh, sr, u)) G := hG
  show G (0, [some (.ref 81), some (.int a0), some (.int a1)], [], (gSh, σ, u))
  refine gRunN_ok hG.1 5 _ (7, [some (.ref 81), some (.int a0), some (.int a1)], [.int (a1.toInt8.toInt32), .int a0, .ref 83], (gSh, σ, u)) rfl ?_
  obtain ⟨hc, hP⟩ := g_if hP
  refine hG.1 _ (8, [some (.ref 81), some (.int a0), some (.int a1)], [], (gSh, (gPut σ 83 a0.toNatClampNeg (vp_nar .byte (a1.toInt8.toInt32))), u)) _ rfl (if_pos hc) ?_
  obtain ⟨s1, es1, hP⟩ := g_let hP
  rw [← es1]
  refine gRunN_ok hG.1 3 _ (13, [some (.ref 81), some (.int a0), some (.int a1)], [], (gSh, (gPut s1 81 15 0), u)) rfl ?_
  obtain ⟨s2, es2, hP⟩ := g_let hP
  rw [← es2]
  cases hP
  exact hG.2.1 _ _ rfl rfl⟩
def p_Field_rootOf_4 (E : gEv) (l2 : Int32) (l3 : Int32) (σ : gS) : Option ((Int32 × Int32 × gS) ⊕ (Int32 × gS)) :=
  if (σ.1 1 7) ≤ l3 then (some (.inr (l2, σ))) else (if gIn l2 (σ.2.1 89) then if (σ.1 89 l2.toNatClampNeg) = l2 then (some (.inr (l2, σ))) else (if gIn l2 (σ.2.1 89) then if gIn (σ.1 89 l2.toNatClampNeg) (σ.2.1 89) then if gIn l2 (σ.2.1 89) then gLet (gPut σ 89 l2.toNatClampNeg (σ.1 89 (σ.1 89 l2.toNatClampNeg).toNatClampNeg)) fun s1 => if gIn l2 (s1.2.1 89) then gLet (s1.1 89 l2.toNatClampNeg) fun x2 => gLet (l3 + 1) fun x3 => some (.inl (x2, x3, s1)) else none else none else none else none) else none)
set_option maxRecDepth 20000 in
theorem b_Field_rootOf_4 (E : gEv) (d u : Nat) {G : gFr → Prop} {vo : Option Value} {sr : gS} (hG : gClo E gDf gP12 gY160 (some .int) (gC E gDf gMs (d + 0)) (vo, (gSh, sr, u)) G) (l2 : Int32) (l3 : Int32) (σ : gS) {r : (Int32 × Int32 × gS) ⊕ (Int32 × gS)} (hP : p_Field_rootOf_4 E l2 l3 σ = some r) (K1 : ∀ (m2 : Int32) (m3 : Int32) (σ1 : gS), r = .inl (m2, m3, σ1) → G (4, [some (.ref 81), none, some (.int m2), some (.int m3)], [], (gSh, σ1, u))) (K2 : ∀ (m2 : Int32) (σ1 : gS), r = .inr (m2, σ1) → G (55, [none, none, some (.int m2), none], [], (gSh, σ1, u))) : G (4, [some (.ref 81), none, some (.int l2), some (.int l3)], [], (gSh, σ, u)) := by
  unfold p_Field_rootOf_4 at hP
  refine gRunN_ok hG.1 4 _ (12, [some (.ref 81), none, some (.int l2), some (.int l3)], [.int (σ.1 1 7), .int l3], (gSh, σ, u)) rfl ?_
  rcases g_ite hP with ⟨hc, hP⟩ | ⟨hc, hP⟩
  · refine hG.1 _ (55, [some (.ref 81), none, some (.int l2), some (.int l3)], [], (gSh, σ, u)) _ rfl (if_pos hc) ?_
    refine hG.2.2.2.2.1 _ _ [none, none, some (.int l2), none] _ _ ⟨rfl, trivial⟩ ?_
    cases hP
    exact K2 _ _ rfl
  · refine hG.1 _ (15, [some (.ref 81), none, some (.int l2), some (.int l3)], [], (gSh, σ, u)) _ rfl (if_neg hc) ?_
    refine gRunN_ok hG.1 3 _ (20, [some (.ref 81), none, some (.int l2), some (.int l3)], [.int l2, .ref 89], (gSh, σ, u)) rfl ?_
    obtain ⟨hc, hP⟩ := g_if hP
    refine hG.1 _ (21, [some (.ref 81), none, some (.int l2), some (.int l3)], [.int (σ.1 89 l2.toNatClampNeg)], (gSh, σ, u)) _ rfl (if_pos hc) ?_
    refine gRunN_ok hG.1 1 _ (22, [some (.ref 81), none, some (.int l2), some (.int l3)], [.int l2, .int (σ.1 89 l2.toNatClampNeg)], (gSh, σ, u)) rfl ?_
    rcases g_ite hP with ⟨hc, hP⟩ | ⟨hc, hP⟩
    · refine hG.1 _ (55, [some (.ref 81), none, some (.int l2), some (.int l3)], [], (gSh, σ, u)) _ rfl (if_pos hc) ?_
      refine hG.2.2.2.2.1 _ _ [none, none, some (.int l2), none] _ _ ⟨rfl, trivial⟩ ?_
      cases hP
      exact K2 _ _ rfl
    · refine hG.1 _ (25, [some (.ref 81), none, some (.int l2), some (.int l3)], [], (gSh, σ, u)) _ rfl (if_neg hc) ?_
      refine gRunN_ok hG.1 8 _ (39, [some (.ref 81), none, some (.int l2), some (.int l3)], [.int l2, .ref 89, .ref 89, .int l2, .ref 89], (gSh, σ, u)) rfl ?_
      obtain ⟨hc, hP⟩ := g_if hP
      refine hG.1 _ (40, [some (.ref 81), none, some (.int l2), some (.int l3)], [.int (σ.1 89 l2.toNatClampNeg), .ref 89, .int l2, .ref 89], (gSh, σ, u)) _ rfl (if_pos hc) ?_
      obtain ⟨hc, hP⟩ := g_if hP
      refine hG.1 _ (41, [some (.ref 81), none, some (.int l2), some (.int l3)], [.int (σ.1 89 (σ.1 89 l2.toNatClampNeg).toNatClampNeg), .int l2, .ref 89], (gSh, σ, u)) _ rfl (if_pos hc) ?_
      obtain ⟨hc, hP⟩ := g_if hP
      refine hG.1 _ (42, [some (.ref 81), none, some (.int l2), some (.int l3)], [], (gSh, (gPut σ 89 l2.toNatClampNeg (σ.1 89 (σ.1 89 l2.toNatClampNeg).toNatClampNeg)), u)) _ rfl (if_pos hc) ?_
      obtain ⟨s1, es1, hP⟩ := g_let hP
      rw [← es1]
      refine gRunN_ok hG.1 3 _ (47, [some (.ref 81), none, some (.int l2), some (.int l3)], [.int l2, .ref 89], (gSh, s1, u)) rfl ?_
      obtain ⟨hc, hP⟩ := g_if hP
      refine hG.1 _ (48, [some (.ref 81), none, some (.int l2), some (.int l3)], [.int (s1.1 89 l2.toNatClampNeg)], (gSh, s1, u)) _ rfl (if_pos hc) ?_
      refine gRunN_ok hG.1 1 _ (49, [some (.ref 81), none, some (.int (s1.1 89 l2.toNatClampNeg)), some (.int l3)], [], (gSh, s1, u)) rfl ?_
      obtain ⟨x2, ex2, hP⟩ := g_let hP
      rw [← ex2]
      refine gRunN_ok hG.1 1 _ (52, [some (.ref 81), none, some (.int x2), some (.int (l3 + 1))], [], (gSh, s1, u)) rfl ?_
      obtain ⟨x3, ex3, hP⟩ := g_let hP
      rw [← ex3]
      refine gRunN_ok hG.1 1 _ (4, [some (.ref 81), none, some (.int x2), some (.int x3)], [], (gSh, s1, u)) rfl ?_
      cases hP
      exact K1 _ _ _ rfl
theorem l_Field_rootOf_4 (E : gEv) (d u : Nat) {G : gFr → Prop} {vo : Option Value} {sr : gS} (hG : gClo E gDf gP12 gY160 (some .int) (gC E gDf gMs (d + 0)) (vo, (gSh, sr, u)) G) : ∀ (n : Nat) (l2 : Int32) (l3 : Int32) (σ : gS) (e : (Int32 × gS)), gIter (fun z => p_Field_rootOf_4 E z.1 z.2.1 z.2.2) n (l2, l3, σ) = some e → (∀ (m2 : Int32) (σ1 : gS), e = (m2, σ1) → G (55, [none, none, some (.int m2), none], [], (gSh, σ1, u))) → G (4, [some (.ref 81), none, some (.int l2), some (.int l3)], [], (gSh, σ, u)) := by
  intro n
  induction n with
  | zero => intro l2 l3 σ e h; cases h
  | succ n ih =>
    intro l2 l3 σ e h K2
    rcases g_iter h with ⟨z, h1, h2⟩ | h1
    · exact b_Field_rootOf_4 E d u hG l2 l3 σ h1 (fun n0 n1 n2 hz => by cases hz; exact ih _ _ _ e h2 K2) (fun _ _ hz => by cases hz)
    · exact b_Field_rootOf_4 E d u hG l2 l3 σ h1 (fun _ _ _ hz => by cases hz) (fun m2 σ1 hz => K2 m2 σ1 (by cases hz; rfl))
def p_Field_rootOf (E : gEv) (a0 : Int32) (σ : gS) : Option (Int32 × gS) :=
  gB1 (gIter (fun z => p_Field_rootOf_4 E z.1 z.2.1 z.2.2) gN (a0, 0, σ)) fun e4 => (fun w5 s6 => some (w5, s6)) e4.1 e4.2
set_option maxRecDepth 20000 in
theorem c_Field_rootOf (E : gEv) (d u : Nat) (a0 : Int32) (σ : gS) {v : Int32} {sr : gS}  (hq : p_Field_rootOf E a0 σ = some (v, sr)) : gC E gDf gMs (d + 1) 160 [.ref 81, .int a0] (gSh, σ, u) (some (.int v), (gSh, sr, u)) := ⟨gM160, rfl, Nat.le_of_ble_eq_true rfl, fun G hG => by
  have hP := hq
  unfold p_Field_rootOf at hP
  replace hG : gClo E gDf gP12 gY160 (some .int) (gC E gDf gMs (d + 0)) (some (.int v), (gSh, sr, u)) G := hG
  show G (0, [some (.ref 81), some (.int a0), none, none], [], (gSh, σ, u))
  refine gRunN_ok hG.1 4 _ (4, [some (.ref 81), some (.int a0), some (.int a0), some (.int 0)], [], (gSh, σ, u)) rfl ?_
  refine hG.2.2.2.2.1 _ _ [some (.ref 81), none, some (.int a0), some (.int 0)] _ _ ⟨rfl, ⟨rfl, ⟨rfl, trivial⟩⟩⟩ ?_
  obtain ⟨e4, hq, hP⟩ := g_b1 hP
  refine l_Field_rootOf_4 E d u hG gN a0 0 σ _ hq (fun w5 s6 he => ?_)
  · subst he
    try dsimp only [gSum] at hP
    refine gRunN_ok hG.1 1 _ (56, [none, none, some (.int w5), none], [.int w5], (gSh, s6, u)) rfl ?_
    cases hP
    exact hG.2.1 _ _ rfl rfl⟩
def p_Field_numberAt_5 (E : gEv) (l1 : Int32) (l2 : Int32) (l3 : Int32) (l4 : Int32) (σ : gS) : Option ((Int32 × Int32) ⊕ (Int32)) :=
  if l2 ≤ l4 then (some (.inr l3)) else (if gIn (l1 + l4) (σ.2.1 82) then gLet (l3 ||| ((σ.1 82 (l1 + l4).toNatClampNeg) <<< (l4 &&& 31))) fun x1 => gLet (l4 + 1) fun x2 => some (.inl (x1, x2)) else none)
set_option maxRecDepth 20000 in
theorem b_Field_numberAt_5 (E : gEv) (d u : Nat) {G : gFr → Prop} {vo : Option Value} {sr : gS} (hG : gClo E gDf gP12 gY161 (some .int) (gC E gDf gMs (d + 0)) (vo, (gSh, sr, u)) G) (l1 : Int32) (l2 : Int32) (l3 : Int32) (l4 : Int32) (σ : gS) {r : (Int32 × Int32) ⊕ (Int32)} (hP : p_Field_numberAt_5 E l1 l2 l3 l4 σ = some r) (K1 : ∀ (m3 : Int32) (m4 : Int32), r = .inl (m3, m4) → G (5, [some (.ref 81), some (.int l1), some (.int l2), some (.int m3), some (.int m4)], [], (gSh, σ, u))) (K2 : ∀ (m3 : Int32), r = .inr m3 → G (32, [none, none, none, some (.int m3), none], [], (gSh, σ, u))) : G (5, [some (.ref 81), some (.int l1), some (.int l2), some (.int l3), some (.int l4)], [], (gSh, σ, u)) := by
  unfold p_Field_numberAt_5 at hP
  refine gRunN_ok hG.1 2 _ (8, [some (.ref 81), some (.int l1), some (.int l2), some (.int l3), some (.int l4)], [.int l2, .int l4], (gSh, σ, u)) rfl ?_
  rcases g_ite hP with ⟨hc, hP⟩ | ⟨hc, hP⟩
  · refine hG.1 _ (32, [some (.ref 81), some (.int l1), some (.int l2), some (.int l3), some (.int l4)], [], (gSh, σ, u)) _ rfl (if_pos hc) ?_
    refine hG.2.2.2.2.1 _ _ [none, none, none, some (.int l3), none] _ _ ⟨rfl, trivial⟩ ?_
    cases hP
    exact K2 _ rfl
  · refine hG.1 _ (11, [some (.ref 81), some (.int l1), some (.int l2), some (.int l3), some (.int l4)], [], (gSh, σ, u)) _ rfl (if_neg hc) ?_
    refine gRunN_ok hG.1 6 _ (20, [some (.ref 81), some (.int l1), some (.int l2), some (.int l3), some (.int l4)], [.int (l1 + l4), .ref 82, .int l3], (gSh, σ, u)) rfl ?_
    obtain ⟨hc, hP⟩ := g_if hP
    refine hG.1 _ (21, [some (.ref 81), some (.int l1), some (.int l2), some (.int l3), some (.int l4)], [.int (σ.1 82 (l1 + l4).toNatClampNeg), .int l3], (gSh, σ, u)) _ rfl (if_pos hc) ?_
    refine gRunN_ok hG.1 4 _ (26, [some (.ref 81), some (.int l1), some (.int l2), some (.int (l3 ||| ((σ.1 82 (l1 + l4).toNatClampNeg) <<< (l4 &&& 31)))), some (.int l4)], [], (gSh, σ, u)) rfl ?_
    obtain ⟨x1, ex1, hP⟩ := g_let hP
    rw [← ex1]
    refine gRunN_ok hG.1 1 _ (29, [some (.ref 81), some (.int l1), some (.int l2), some (.int x1), some (.int (l4 + 1))], [], (gSh, σ, u)) rfl ?_
    obtain ⟨x2, ex2, hP⟩ := g_let hP
    rw [← ex2]
    refine gRunN_ok hG.1 1 _ (5, [some (.ref 81), some (.int l1), some (.int l2), some (.int x1), some (.int x2)], [], (gSh, σ, u)) rfl ?_
    cases hP
    exact K1 _ _ rfl
theorem l_Field_numberAt_5 (E : gEv) (d u : Nat) {G : gFr → Prop} {vo : Option Value} {sr : gS} (hG : gClo E gDf gP12 gY161 (some .int) (gC E gDf gMs (d + 0)) (vo, (gSh, sr, u)) G) (l1 : Int32) (l2 : Int32) (σ : gS) : ∀ (n : Nat) (l3 : Int32) (l4 : Int32) (e : (Int32)), gIter (fun z => p_Field_numberAt_5 E l1 l2 z.1 z.2 σ) n (l3, l4) = some e → (∀ (m3 : Int32), e = m3 → G (32, [none, none, none, some (.int m3), none], [], (gSh, σ, u))) → G (5, [some (.ref 81), some (.int l1), some (.int l2), some (.int l3), some (.int l4)], [], (gSh, σ, u)) := by
  intro n
  induction n with
  | zero => intro l3 l4 e h; cases h
  | succ n ih =>
    intro l3 l4 e h K2
    rcases g_iter h with ⟨z, h1, h2⟩ | h1
    · exact b_Field_numberAt_5 E d u hG l1 l2 l3 l4 σ h1 (fun n0 n1 hz => by cases hz; exact ih _ _ e h2 K2) (fun _ hz => by cases hz)
    · exact b_Field_numberAt_5 E d u hG l1 l2 l3 l4 σ h1 (fun _ _ hz => by cases hz) (fun m3 hz => K2 m3 (by cases hz; rfl))
def p_Field_numberAt (E : gEv) (a0 : Int32) (a1 : Int32) (σ : gS) : Option (Int32) :=
  gB1 (gIter (fun z => p_Field_numberAt_5 E a0 a1 z.1 z.2 σ) gN (0, 0)) fun e3 => (fun w4 => some w4) e3
set_option maxRecDepth 20000 in
theorem c_Field_numberAt (E : gEv) (d u : Nat) (a0 : Int32) (a1 : Int32) (σ : gS) {v : Int32}  (hq : p_Field_numberAt E a0 a1 σ = some v) : gC E gDf gMs (d + 1) 161 [.ref 81, .int a0, .int a1] (gSh, σ, u) (some (.int v), (gSh, σ, u)) := ⟨gM161, rfl, Nat.le_of_ble_eq_true rfl, fun G hG => by
  have hP := hq
  unfold p_Field_numberAt at hP
  replace hG : gClo E gDf gP12 gY161 (some .int) (gC E gDf gMs (d + 0)) (some (.int v), (gSh, σ, u)) G := hG
  show G (0, [some (.ref 81), some (.int a0), some (.int a1), none, none], [], (gSh, σ, u))
  refine gRunN_ok hG.1 4 _ (5, [some (.ref 81), some (.int a0), some (.int a1), some (.int 0), some (.int 0)], [], (gSh, σ, u)) rfl ?_
  obtain ⟨e3, hq, hP⟩ := g_b1 hP
  refine l_Field_numberAt_5 E d u hG a0 a1 σ gN 0 0 _ hq (fun w4 he => ?_)
  · replace he := he.symm
    subst he
    try dsimp only [gSum] at hP
    refine gRunN_ok hG.1 1 _ (33, [none, none, none, some (.int w4), none], [.int w4], (gSh, σ, u)) rfl ?_
    cases hP
    exact hG.2.1 _ _ rfl rfl⟩
def p_Field_groupAt (E : gEv) (a0 : Int32) (a1 : Int32) (σ : gS) : Option (Int32) :=
  if ¬ (σ.1 1 3) = 0 then gLet (a1 / (σ.1 1 3)) fun x1 => if ¬ (σ.1 1 3) = 0 then gLet (a1 - a1 / (σ.1 1 3) * (σ.1 1 3)) fun x2 => if gIn ((a0 * (4 : Int32)) + x1) (σ.2.1 4) then gLet (σ.1 4 ((a0 * (4 : Int32)) + x1).toNatClampNeg) fun x3 => if x3 = ((-1) : Int32) then (some (-1)) else (if gIn (x3 + x2) (σ.2.1 89) then some (σ.1 89 (x3 + x2).toNatClampNeg) else none) else none else none else none
set_option maxRecDepth 20000 in
theorem c_Field_groupAt (E : gEv) (d u : Nat) (a0 : Int32) (a1 : Int32) (σ : gS) {v : Int32}  (hq : p_Field_groupAt E a0 a1 σ = some v) : gC E gDf gMs (d + 1) 163 [.ref 81, .int a0, .int a1] (gSh, σ, u) (some (.int v), (gSh, σ, u)) := ⟨gM163, rfl, Nat.le_of_ble_eq_true rfl, fun G hG => by
  have hP := hq
  unfold p_Field_groupAt at hP
  replace hG : gClo E gDf gP12 gY163 (some .int) (gC E gDf gMs (d + 0)) (some (.int v), (gSh, σ, u)) G := hG
  show G (0, [some (.ref 81), some (.int a0), some (.int a1), none, none, none], [], (gSh, σ, u))
  refine gRunN_ok hG.1 4 _ (8, [some (.ref 81), some (.int a0), some (.int a1), none, none, none], [.int (σ.1 1 3), .int a1], (gSh, σ, u)) rfl ?_
  obtain ⟨hc, hP⟩ := g_if hP
  refine hG.1 _ (9, [some (.ref 81), some (.int a0), some (.int a1), none, none, none], [.int (a1 / (σ.1 1 3))], (gSh, σ, u)) _ rfl (if_pos hc) ?_
  refine gRunN_ok hG.1 1 _ (10, [some (.ref 81), some (.int a0), some (.int a1), some (.int (a1 / (σ.1 1 3))), none, none], [], (gSh, σ, u)) rfl ?_
  obtain ⟨x1, ex1, hP⟩ := g_let hP
  rw [← ex1]
  refine gRunN_ok hG.1 4 _ (18, [some (.ref 81), some (.int a0), some (.int a1), some (.int x1), none, none], [.int (σ.1 1 3), .int a1], (gSh, σ, u)) rfl ?_
  obtain ⟨hc, hP⟩ := g_if hP
  refine hG.1 _ (19, [some (.ref 81), some (.int a0), some (.int a1), some (.int x1), none, none], [.int (a1 - a1 / (σ.1 1 3) * (σ.1 1 3))], (gSh, σ, u)) _ rfl (if_pos hc) ?_
  refine gRunN_ok hG.1 1 _ (21, [some (.ref 81), some (.int a0), some (.int a1), some (.int x1), some (.int (a1 - a1 / (σ.1 1 3) * (σ.1 1 3))), none], [], (gSh, σ, u)) rfl ?_
  obtain ⟨x2, ex2, hP⟩ := g_let hP
  rw [← ex2]
  refine gRunN_ok hG.1 8 _ (33, [some (.ref 81), some (.int a0), some (.int a1), some (.int x1), some (.int x2), none], [.int ((a0 * (4 : Int32)) + x1), .ref 4], (gSh, σ, u)) rfl ?_
  obtain ⟨hc, hP⟩ := g_if hP
  refine hG.1 _ (34, [some (.ref 81), some (.int a0), some (.int a1), some (.int x1), some (.int x2), none], [.int (σ.1 4 ((a0 * (4 : Int32)) + x1).toNatClampNeg)], (gSh, σ, u)) _ rfl (if_pos hc) ?_
  refine gRunN_ok hG.1 1 _ (36, [some (.ref 81), some (.int a0), some (.int a1), some (.int x1), some (.int x2), some (.int (σ.1 4 ((a0 * (4 : Int32)) + x1).toNatClampNeg))], [], (gSh, σ, u)) rfl ?_
  obtain ⟨x3, ex3, hP⟩ := g_let hP
  rw [← ex3]
  refine gRunN_ok hG.1 2 _ (39, [some (.ref 81), some (.int a0), some (.int a1), some (.int x1), some (.int x2), some (.int x3)], [.int (-1), .int x3], (gSh, σ, u)) rfl ?_
  rcases g_ite hP with ⟨hc, hP⟩ | ⟨hc, hP⟩
  · refine hG.1 _ (42, [some (.ref 81), some (.int a0), some (.int a1), some (.int x1), some (.int x2), some (.int x3)], [], (gSh, σ, u)) _ rfl (if_pos hc) ?_
    refine gRunN_ok hG.1 2 _ (56, [some (.ref 81), some (.int a0), some (.int a1), some (.int x1), some (.int x2), some (.int x3)], [.int (-1)], (gSh, σ, u)) rfl ?_
    cases hP
    exact hG.2.1 _ _ rfl rfl
  · refine hG.1 _ (46, [some (.ref 81), some (.int a0), some (.int a1), some (.int x1), some (.int x2), some (.int x3)], [], (gSh, σ, u)) _ rfl (if_neg hc) ?_
    refine gRunN_ok hG.1 5 _ (55, [some (.ref 81), some (.int a0), some (.int a1), some (.int x1), some (.int x2), some (.int x3)], [.int (x3 + x2), .ref 89], (gSh, σ, u)) rfl ?_
    obtain ⟨hc, hP⟩ := g_if hP
    refine hG.1 _ (56, [some (.ref 81), some (.int a0), some (.int a1), some (.int x1), some (.int x2), some (.int x3)], [.int (σ.1 89 (x3 + x2).toNatClampNeg)], (gSh, σ, u)) _ rfl (if_pos hc) ?_
    cases hP
    exact hG.2.1 _ _ rfl rfl⟩
def p_Field_isUsed (E : gEv) (a0 : Int32) (σ : gS) : Option (Int32) :=
  if gIn ((a0 * (σ.1 1 9)) + (16 : Int32)) (σ.2.1 82) then if (σ.1 82 ((a0 * (σ.1 1 9)) + (16 : Int32)).toNatClampNeg) = (1 : Int32) then (some 1) else (some 0) else none
set_option maxRecDepth 20000 in
theorem c_Field_isUsed (E : gEv) (d u : Nat) (a0 : Int32) (σ : gS) {v : Int32}  (hq : p_Field_isUsed E a0 σ = some v) : gC E gDf gMs (d + 1) 167 [.ref 81, .int a0] (gSh, σ, u) (some (.int v), (gSh, σ, u)) := ⟨gM167, rfl, Nat.le_of_ble_eq_true rfl, fun G hG => by
  have hP := hq
  unfold p_Field_isUsed at hP
  replace hG : gClo E gDf gP12 gY167 (some .boolean) (gC E gDf gMs (d + 0)) (some (.int v), (gSh, σ, u)) G := hG
  show G (0, [some (.ref 81), some (.int a0)], [], (gSh, σ, u))
  refine gRunN_ok hG.1 9 _ (16, [some (.ref 81), some (.int a0)], [.int ((a0 * (σ.1 1 9)) + (16 : Int32)), .ref 82], (gSh, σ, u)) rfl ?_
  obtain ⟨hc, hP⟩ := g_if hP
  refine hG.1 _ (17, [some (.ref 81), some (.int a0)], [.int (σ.1 82 ((a0 * (σ.1 1 9)) + (16 : Int32)).toNatClampNeg)], (gSh, σ, u)) _ rfl (if_pos hc) ?_
  refine gRunN_ok hG.1 1 _ (18, [some (.ref 81), some (.int a0)], [.int 1, .int (σ.1 82 ((a0 * (σ.1 1 9)) + (16 : Int32)).toNatClampNeg)], (gSh, σ, u)) rfl ?_
  rcases g_ite hP with ⟨hc, hP⟩ | ⟨hc, hP⟩
  · refine hG.1 _ (21, [some (.ref 81), some (.int a0)], [], (gSh, σ, u)) _ rfl (if_pos hc) ?_
    refine gRunN_ok hG.1 2 _ (26, [some (.ref 81), some (.int a0)], [.int 1], (gSh, σ, u)) rfl ?_
    cases hP
    exact hG.2.1 _ _ rfl rfl
  · refine hG.1 _ (25, [some (.ref 81), some (.int a0)], [], (gSh, σ, u)) _ rfl (if_neg hc) ?_
    refine gRunN_ok hG.1 1 _ (26, [some (.ref 81), some (.int a0)], [.int 0], (gSh, σ, u)) rfl ?_
    cases hP
    exact hG.2.1 _ _ rfl rfl⟩
def p_Field_raise_7 (E : gEv) (k0 : Nat) (l2 : Int32) (l3 : Int32) (σ : gS) : Option ((Int32 × gS) ⊕ (gS)) :=
  if gIn (l2 + (1 : Int32)) (σ.2.1 92) then if (σ.1 92 (l2 + (1 : Int32)).toNatClampNeg) ≤ l3 then (some (.inr σ)) else (if gIn l3 (σ.2.1 93) then if gIn (σ.1 93 l3.toNatClampNeg) (σ.2.1 k0) then gLet (gPut σ k0 (σ.1 93 l3.toNatClampNeg).toNatClampNeg (vp_nar .byte 1)) fun s2 => gLet (l3 + 1) fun x3 => some (.inl (x3, s2)) else none else none) else none
set_option maxRecDepth 20000 in
theorem b_Field_raise_7 (E : gEv) (d u : Nat) {G : gFr → Prop} {vo : Option Value} {sr : gS} (hG : gClo E gDf gP12 gY168 none (gC E gDf gMs (d + 0)) (vo, (gSh, sr, u)) G) (k0 : Nat) (l2 : Int32) (l3 : Int32) (σ : gS) (hk0 : gSh[k0]? = some (.inl (.byte, none))) {r : (Int32 × gS) ⊕ (gS)} (hP : p_Field_raise_7 E k0 l2 l3 σ = some r) (K1 : ∀ (m3 : Int32) (σ1 : gS), r = .inl (m3, σ1) → G (7, [some (.ref 81), some (.ref k0), some (.int l2), some (.int m3)], [], (gSh, σ1, u))) (K2 : ∀ (σ1 : gS), r = .inr σ1 → G (34, [none, none, none, none], [], (gSh, σ1, u))) : G (7, [some (.ref 81), some (.ref k0), some (.int l2), some (.int l3)], [], (gSh, σ, u)) := by
  unfold p_Field_raise_7 at hP
  refine gRunN_ok hG.1 6 _ (15, [some (.ref 81), some (.ref k0), some (.int l2), some (.int l3)], [.int (l2 + (1 : Int32)), .ref 92, .int l3], (gSh, σ, u)) rfl ?_
  obtain ⟨hc, hP⟩ := g_if hP
  refine hG.1 _ (16, [some (.ref 81), some (.ref k0), some (.int l2), some (.int l3)], [.int (σ.1 92 (l2 + (1 : Int32)).toNatClampNeg), .int l3], (gSh, σ, u)) _ rfl (if_pos hc) ?_
  rcases g_ite hP with ⟨hc, hP⟩ | ⟨hc, hP⟩
  · refine hG.1 _ (34, [some (.ref 81), some (.ref k0), some (.int l2), some (.int l3)], [], (gSh, σ, u)) _ rfl (if_pos hc) ?_
    refine hG.2.2.2.2.1 _ _ [none, none, none, none] _ _ trivial ?_
    cases hP
    exact K2 _ rfl
  · refine hG.1 _ (19, [some (.ref 81), some (.ref k0), some (.int l2), some (.int l3)], [], (gSh, σ, u)) _ rfl (if_neg hc) ?_
    refine gRunN_ok hG.1 4 _ (25, [some (.ref 81), some (.ref k0), some (.int l2), some (.int l3)], [.int l3, .ref 93, .ref k0], (gSh, σ, u)) rfl ?_
    obtain ⟨hc, hP⟩ := g_if hP
    refine hG.1 _ (26, [some (.ref 81), some (.ref k0), some (.int l2), some (.int l3)], [.int (σ.1 93 l3.toNatClampNeg), .ref k0], (gSh, σ, u)) _ rfl (if_pos hc) ?_
    refine gRunN_ok hG.1 1 _ (27, [some (.ref 81), some (.ref k0), some (.int l2), some (.int l3)], [.int 1, .int (σ.1 93 l3.toNatClampNeg), .ref k0], (gSh, σ, u)) rfl ?_
    obtain ⟨hc, hP⟩ := g_if hP
    refine hG.1 _ (28, [some (.ref 81), some (.ref k0), some (.int l2), some (.int l3)], [], (gSh, (gPut σ k0 (σ.1 93 l3.toNatClampNeg).toNatClampNeg (vp_nar .byte 1)), u)) _ rfl (by simp only [gStep, gAldI, gAldB, gAldL, gAstI, gAstB, gAstL, gAln, hk0]; exact (if_pos hc)) ?_
    obtain ⟨s2, es2, hP⟩ := g_let hP
    rw [← es2]
    refine gRunN_ok hG.1 1 _ (31, [some (.ref 81), some (.ref k0), some (.int l2), some (.int (l3 + 1))], [], (gSh, s2, u)) rfl ?_
    obtain ⟨x3, ex3, hP⟩ := g_let hP
    rw [← ex3]
    refine gRunN_ok hG.1 1 _ (7, [some (.ref 81), some (.ref k0), some (.int l2), some (.int x3)], [], (gSh, s2, u)) rfl ?_
    cases hP
    exact K1 _ _ rfl
theorem l_Field_raise_7 (E : gEv) (d u : Nat) {G : gFr → Prop} {vo : Option Value} {sr : gS} (hG : gClo E gDf gP12 gY168 none (gC E gDf gMs (d + 0)) (vo, (gSh, sr, u)) G) (k0 : Nat) (l2 : Int32) (hk0 : gSh[k0]? = some (.inl (.byte, none))) : ∀ (n : Nat) (l3 : Int32) (σ : gS) (e : (gS)), gIter (fun z => p_Field_raise_7 E k0 l2 z.1 z.2) n (l3, σ) = some e → (∀ (σ1 : gS), e = σ1 → G (34, [none, none, none, none], [], (gSh, σ1, u))) → G (7, [some (.ref 81), some (.ref k0), some (.int l2), some (.int l3)], [], (gSh, σ, u)) := by
  intro n
  induction n with
  | zero => intro l3 σ e h; cases h
  | succ n ih =>
    intro l3 σ e h K2
    rcases g_iter h with ⟨z, h1, h2⟩ | h1
    · exact b_Field_raise_7 E d u hG k0 l2 l3 σ hk0 h1 (fun n0 n1 hz => by cases hz; exact ih _ _ e h2 K2) (fun _ hz => by cases hz)
    · exact b_Field_raise_7 E d u hG k0 l2 l3 σ hk0 h1 (fun _ _ hz => by cases hz) (fun σ1 hz => K2 σ1 (by cases hz; rfl))
def p_Field_raise (E : gEv) (k0 : Nat) (a1 : Int32) (σ : gS) : Option (gS) :=
  if gIn a1 (σ.2.1 92) then gLet (σ.1 92 a1.toNatClampNeg) fun x1 => gB1 (gIter (fun z => p_Field_raise_7 E k0 a1 z.1 z.2) gN (x1, σ)) fun e4 => (fun s5 => some s5) e4 else none
set_option maxRecDepth 20000 in
theorem c_Field_raise (E : gEv) (d u : Nat) (k0 : Nat) (a1 : Int32) (σ : gS) {sr : gS}  (hk0 : gSh[k0]? = some (.inl (.byte, none))) (hq : p_Field_raise E k0 a1 σ = some sr) : gC E gDf gMs (d + 1) 168 [.ref 81, .ref k0, .int a1] (gSh, σ, u) (none, (gSh, sr, u)) := ⟨gM168, rfl, Nat.le_of_ble_eq_true rfl, fun G hG => by
  have hP := hq
  unfold p_Field_raise at hP
  replace hG : gClo E gDf gP12 gY168 none (gC E gDf gMs (d + 0)) (none, (gSh, sr, u)) G := hG
  show G (0, [some (.ref 81), some (.ref k0), some (.int a1), none], [], (gSh, σ, u))
  refine gRunN_ok hG.1 3 _ (5, [some (.ref 81), some (.ref k0), some (.int a1), none], [.int a1, .ref 92], (gSh, σ, u)) rfl ?_
  obtain ⟨hc, hP⟩ := g_if hP
  refine hG.1 _ (6, [some (.ref 81), some (.ref k0), some (.int a1), none], [.int (σ.1 92 a1.toNatClampNeg)], (gSh, σ, u)) _ rfl (if_pos hc) ?_
  refine gRunN_ok hG.1 1 _ (7, [some (.ref 81), some (.ref k0), some (.int a1), some (.int (σ.1 92 a1.toNatClampNeg))], [], (gSh, σ, u)) rfl ?_
  obtain ⟨x1, ex1, hP⟩ := g_let hP
  rw [← ex1]
  obtain ⟨e4, hq, hP⟩ := g_b1 hP
  refine l_Field_raise_7 E d u hG k0 a1 hk0 gN x1 σ _ hq (fun s5 he => ?_)
  · replace he := he.symm
    subst he
    try dsimp only [gSum] at hP
    cases hP
    exact hG.2.1 _ _ rfl rfl⟩
def p_Field_pinsOf_4 (E : gEv) (l1 : Int32) (l2 : Int32) (l3 : Int32) (σ : gS) : Option ((Int32 × Int32) ⊕ (Int32)) :=
  if (4 : Int32) ≤ l3 then (some (.inr l2)) else (if gIn ((l1 * (4 : Int32)) + l3) (σ.2.1 91) then gLet (σ.1 91 ((l1 * (4 : Int32)) + l3).toNatClampNeg) fun x1 => if x1 = ((-1) : Int32) then (gLet (l3 + 1) fun x2 => some (.inl (l2, x2))) else (if gIn x1 (σ.2.1 88) then gLet (l2 ||| ((σ.1 88 x1.toNatClampNeg) <<< (l3 &&& 31))) fun x3 => gLet (l3 + 1) fun x4 => some (.inl (x3, x4)) else none) else none)
set_option maxRecDepth 20000 in
theorem b_Field_pinsOf_4 (E : gEv) (d u : Nat) {G : gFr → Prop} {vo : Option Value} {sr : gS} (hG : gClo E gDf gP12 gY170 (some .int) (gC E gDf gMs (d + 0)) (vo, (gSh, sr, u)) G) (l1 : Int32) (l2 : Int32) (l3 : Int32) (σ : gS) {r : (Int32 × Int32) ⊕ (Int32)} (hP : p_Field_pinsOf_4 E l1 l2 l3 σ = some r) (K1 : ∀ (m2 : Int32) (m3 : Int32), r = .inl (m2, m3) → G (4, [some (.ref 81), some (.int l1), some (.int m2), some (.int m3), none], [], (gSh, σ, u))) (K2 : ∀ (m2 : Int32), r = .inr m2 → G (45, [none, none, some (.int m2), none, none], [], (gSh, σ, u))) : G (4, [some (.ref 81), some (.int l1), some (.int l2), some (.int l3), none], [], (gSh, σ, u)) := by
  unfold p_Field_pinsOf_4 at hP
  refine gRunN_ok hG.1 2 _ (6, [some (.ref 81), some (.int l1), some (.int l2), some (.int l3), none], [.int 4, .int l3], (gSh, σ, u)) rfl ?_
  rcases g_ite hP with ⟨hc, hP⟩ | ⟨hc, hP⟩
  · refine hG.1 _ (45, [some (.ref 81), some (.int l1), some (.int l2), some (.int l3), none], [], (gSh, σ, u)) _ rfl (if_pos hc) ?_
    refine hG.2.2.2.2.1 _ _ [none, none, some (.int l2), none, none] _ _ ⟨rfl, trivial⟩ ?_
    cases hP
    exact K2 _ rfl
  · refine hG.1 _ (9, [some (.ref 81), some (.int l1), some (.int l2), some (.int l3), none], [], (gSh, σ, u)) _ rfl (if_neg hc) ?_
    refine gRunN_ok hG.1 7 _ (18, [some (.ref 81), some (.int l1), some (.int l2), some (.int l3), none], [.int ((l1 * (4 : Int32)) + l3), .ref 91], (gSh, σ, u)) rfl ?_
    obtain ⟨hc, hP⟩ := g_if hP
    refine hG.1 _ (19, [some (.ref 81), some (.int l1), some (.int l2), some (.int l3), none], [.int (σ.1 91 ((l1 * (4 : Int32)) + l3).toNatClampNeg)], (gSh, σ, u)) _ rfl (if_pos hc) ?_
    refine gRunN_ok hG.1 1 _ (21, [some (.ref 81), some (.int l1), some (.int l2), some (.int l3), some (.int (σ.1 91 ((l1 * (4 : Int32)) + l3).toNatClampNeg))], [], (gSh, σ, u)) rfl ?_
    obtain ⟨x1, ex1, hP⟩ := g_let hP
    rw [← ex1]
    refine gRunN_ok hG.1 2 _ (24, [some (.ref 81), some (.int l1), some (.int l2), some (.int l3), some (.int x1)], [.int (-1), .int x1], (gSh, σ, u)) rfl ?_
    rcases g_ite hP with ⟨hc, hP⟩ | ⟨hc, hP⟩
    · refine hG.1 _ (39, [some (.ref 81), some (.int l1), some (.int l2), some (.int l3), some (.int x1)], [], (gSh, σ, u)) _ rfl (if_pos hc) ?_
      refine gRunN_ok hG.1 1 _ (42, [some (.ref 81), some (.int l1), some (.int l2), some (.int (l3 + 1)), some (.int x1)], [], (gSh, σ, u)) rfl ?_
      obtain ⟨x2, ex2, hP⟩ := g_let hP
      rw [← ex2]
      refine gRunN_ok hG.1 1 _ (4, [some (.ref 81), some (.int l1), some (.int l2), some (.int x2), some (.int x1)], [], (gSh, σ, u)) rfl ?_
      refine hG.2.2.2.2.1 _ _ [some (.ref 81), some (.int l1), some (.int l2), some (.int x2), none] _ _ ⟨rfl, ⟨rfl, ⟨rfl, ⟨rfl, trivial⟩⟩⟩⟩ ?_
      cases hP
      exact K1 _ _ rfl
    · refine hG.1 _ (27, [some (.ref 81), some (.int l1), some (.int l2), some (.int l3), some (.int x1)], [], (gSh, σ, u)) _ rfl (if_neg hc) ?_
      refine gRunN_ok hG.1 4 _ (34, [some (.ref 81), some (.int l1), some (.int l2), some (.int l3), some (.int x1)], [.int x1, .ref 88, .int l2], (gSh, σ, u)) rfl ?_
      obtain ⟨hc, hP⟩ := g_if hP
      refine hG.1 _ (35, [some (.ref 81), some (.int l1), some (.int l2), some (.int l3), some (.int x1)], [.int (σ.1 88 x1.toNatClampNeg), .int l2], (gSh, σ, u)) _ rfl (if_pos hc) ?_
      refine gRunN_ok hG.1 4 _ (39, [some (.ref 81), some (.int l1), some (.int (l2 ||| ((σ.1 88 x1.toNatClampNeg) <<< (l3 &&& 31)))), some (.int l3), some (.int x1)], [], (gSh, σ, u)) rfl ?_
      obtain ⟨x3, ex3, hP⟩ := g_let hP
      rw [← ex3]
      refine gRunN_ok hG.1 1 _ (42, [some (.ref 81), some (.int l1), some (.int x3), some (.int (l3 + 1)), some (.int x1)], [], (gSh, σ, u)) rfl ?_
      obtain ⟨x4, ex4, hP⟩ := g_let hP
      rw [← ex4]
      refine gRunN_ok hG.1 1 _ (4, [some (.ref 81), some (.int l1), some (.int x3), some (.int x4), some (.int x1)], [], (gSh, σ, u)) rfl ?_
      refine hG.2.2.2.2.1 _ _ [some (.ref 81), some (.int l1), some (.int x3), some (.int x4), none] _ _ ⟨rfl, ⟨rfl, ⟨rfl, ⟨rfl, trivial⟩⟩⟩⟩ ?_
      cases hP
      exact K1 _ _ rfl
theorem l_Field_pinsOf_4 (E : gEv) (d u : Nat) {G : gFr → Prop} {vo : Option Value} {sr : gS} (hG : gClo E gDf gP12 gY170 (some .int) (gC E gDf gMs (d + 0)) (vo, (gSh, sr, u)) G) (l1 : Int32) (σ : gS) : ∀ (n : Nat) (l2 : Int32) (l3 : Int32) (e : (Int32)), gIter (fun z => p_Field_pinsOf_4 E l1 z.1 z.2 σ) n (l2, l3) = some e → (∀ (m2 : Int32), e = m2 → G (45, [none, none, some (.int m2), none, none], [], (gSh, σ, u))) → G (4, [some (.ref 81), some (.int l1), some (.int l2), some (.int l3), none], [], (gSh, σ, u)) := by
  intro n
  induction n with
  | zero => intro l2 l3 e h; cases h
  | succ n ih =>
    intro l2 l3 e h K2
    rcases g_iter h with ⟨z, h1, h2⟩ | h1
    · exact b_Field_pinsOf_4 E d u hG l1 l2 l3 σ h1 (fun n0 n1 hz => by cases hz; exact ih _ _ e h2 K2) (fun _ hz => by cases hz)
    · exact b_Field_pinsOf_4 E d u hG l1 l2 l3 σ h1 (fun _ _ hz => by cases hz) (fun m2 hz => K2 m2 (by cases hz; rfl))
def p_Field_pinsOf (E : gEv) (a0 : Int32) (σ : gS) : Option (Int32) :=
  gB1 (gIter (fun z => p_Field_pinsOf_4 E a0 z.1 z.2 σ) gN (0, 0)) fun e5 => (fun w6 => some w6) e5
set_option maxRecDepth 20000 in
theorem c_Field_pinsOf (E : gEv) (d u : Nat) (a0 : Int32) (σ : gS) {v : Int32}  (hq : p_Field_pinsOf E a0 σ = some v) : gC E gDf gMs (d + 1) 170 [.ref 81, .int a0] (gSh, σ, u) (some (.int v), (gSh, σ, u)) := ⟨gM170, rfl, Nat.le_of_ble_eq_true rfl, fun G hG => by
  have hP := hq
  unfold p_Field_pinsOf at hP
  replace hG : gClo E gDf gP12 gY170 (some .int) (gC E gDf gMs (d + 0)) (some (.int v), (gSh, σ, u)) G := hG
  show G (0, [some (.ref 81), some (.int a0), none, none, none], [], (gSh, σ, u))
  refine gRunN_ok hG.1 4 _ (4, [some (.ref 81), some (.int a0), some (.int 0), some (.int 0), none], [], (gSh, σ, u)) rfl ?_
  obtain ⟨e5, hq, hP⟩ := g_b1 hP
  refine l_Field_pinsOf_4 E d u hG a0 σ gN 0 0 _ hq (fun w6 he => ?_)
  · replace he := he.symm
    subst he
    try dsimp only [gSum] at hP
    refine gRunN_ok hG.1 1 _ (46, [none, none, some (.int w6), none, none], [.int w6], (gSh, σ, u)) rfl ?_
    cases hP
    exact hG.2.1 _ _ rfl rfl⟩
def p_Circuit_setInput (E : gEv) (a0 : Int32) (a1 : Int32) (σ : gS) : Option (gS) :=
  if gIn a0 (σ.2.1 38) then gLet (gPut σ 38 a0.toNatClampNeg a1) fun s1 => gLet (gPut s1 30 15 0) fun s2 => some s2 else none
set_option maxRecDepth 20000 in
theorem c_Circuit_setInput (E : gEv) (d u : Nat) (a0 : Int32) (a1 : Int32) (σ : gS) {sr : gS}  (hq : p_Circuit_setInput E a0 a1 σ = some sr) : gC E gDf gMs (d + 1) 177 [.ref 30, .int a0, .int a1] (gSh, σ, u) (none, (gSh, sr, u)) := ⟨gM177, rfl, Nat.le_of_ble_eq_true rfl, fun G hG => by
  have hP := hq
  unfold p_Circuit_setInput at hP
  replace hG : gClo E gDf gP6 gY177 none (gC E gDf gMs (d + 0)) (none, (gSh, sr, u)) G := hG
  show G (0, [some (.ref 30), some (.int a0), some (.int a1)], [], (gSh, σ, u))
  refine gRunN_ok hG.1 4 _ (6, [some (.ref 30), some (.int a0), some (.int a1)], [.int a1, .int a0, .ref 38], (gSh, σ, u)) rfl ?_
  obtain ⟨hc, hP⟩ := g_if hP
  refine hG.1 _ (7, [some (.ref 30), some (.int a0), some (.int a1)], [], (gSh, (gPut σ 38 a0.toNatClampNeg a1), u)) _ rfl (if_pos hc) ?_
  obtain ⟨s1, es1, hP⟩ := g_let hP
  rw [← es1]
  refine gRunN_ok hG.1 3 _ (12, [some (.ref 30), some (.int a0), some (.int a1)], [], (gSh, (gPut s1 30 15 0), u)) rfl ?_
  obtain ⟨s2, es2, hP⟩ := g_let hP
  rw [← es2]
  cases hP
  exact hG.2.1 _ _ rfl rfl⟩
def p_Circuit_levelOf (E : gEv) (a0 : Int32) (σ : gS) : Option (Int32) :=
  if (200 : Int32) ≤ a0 then (if (400 : Int32) ≤ a0 then (if gIn (a0 - (400 : Int32)) (σ.2.1 37) then some (σ.1 37 (a0 - (400 : Int32)).toNatClampNeg) else none) else (if gIn (a0 - (200 : Int32)) (σ.2.1 33) then some (σ.1 33 (a0 - (200 : Int32)).toNatClampNeg) else none)) else (if gIn a0 (σ.2.1 38) then some (σ.1 38 a0.toNatClampNeg) else none)
set_option maxRecDepth 20000 in
theorem c_Circuit_levelOf (E : gEv) (d u : Nat) (a0 : Int32) (σ : gS) {v : Int32}  (hq : p_Circuit_levelOf E a0 σ = some v) : gC E gDf gMs (d + 1) 182 [.ref 30, .int a0] (gSh, σ, u) (some (.int v), (gSh, σ, u)) := ⟨gM182, rfl, Nat.le_of_ble_eq_true rfl, fun G hG => by
  have hP := hq
  unfold p_Circuit_levelOf at hP
  replace hG : gClo E gDf gP6 gY182 (some .int) (gC E gDf gMs (d + 0)) (some (.int v), (gSh, σ, u)) G := hG
  show G (0, [some (.ref 30), some (.int a0)], [], (gSh, σ, u))
  refine gRunN_ok hG.1 2 _ (4, [some (.ref 30), some (.int a0)], [.int 200, .int a0], (gSh, σ, u)) rfl ?_
  rcases g_ite hP with ⟨hc, hP⟩ | ⟨hc, hP⟩
  · refine hG.1 _ (14, [some (.ref 30), some (.int a0)], [], (gSh, σ, u)) _ rfl (if_pos hc) ?_
    refine gRunN_ok hG.1 2 _ (18, [some (.ref 30), some (.int a0)], [.int 400, .int a0], (gSh, σ, u)) rfl ?_
    rcases g_ite hP with ⟨hc, hP⟩ | ⟨hc, hP⟩
    · refine hG.1 _ (34, [some (.ref 30), some (.int a0)], [], (gSh, σ, u)) _ rfl (if_pos hc) ?_
      refine gRunN_ok hG.1 5 _ (43, [some (.ref 30), some (.int a0)], [.int (a0 - (400 : Int32)), .ref 37], (gSh, σ, u)) rfl ?_
      obtain ⟨hc, hP⟩ := g_if hP
      refine hG.1 _ (44, [some (.ref 30), some (.int a0)], [.int (σ.1 37 (a0 - (400 : Int32)).toNatClampNeg)], (gSh, σ, u)) _ rfl (if_pos hc) ?_
      cases hP
      exact hG.2.1 _ _ rfl rfl
    · refine hG.1 _ (21, [some (.ref 30), some (.int a0)], [], (gSh, σ, u)) _ rfl (if_neg hc) ?_
      refine gRunN_ok hG.1 5 _ (30, [some (.ref 30), some (.int a0)], [.int (a0 - (200 : Int32)), .ref 33], (gSh, σ, u)) rfl ?_
      obtain ⟨hc, hP⟩ := g_if hP
      refine hG.1 _ (31, [some (.ref 30), some (.int a0)], [.int (σ.1 33 (a0 - (200 : Int32)).toNatClampNeg)], (gSh, σ, u)) _ rfl (if_pos hc) ?_
      refine gRunN_ok hG.1 1 _ (44, [some (.ref 30), some (.int a0)], [.int (σ.1 33 (a0 - (200 : Int32)).toNatClampNeg)], (gSh, σ, u)) rfl ?_
      cases hP
      exact hG.2.1 _ _ rfl rfl
  · refine hG.1 _ (7, [some (.ref 30), some (.int a0)], [], (gSh, σ, u)) _ rfl (if_neg hc) ?_
    refine gRunN_ok hG.1 3 _ (12, [some (.ref 30), some (.int a0)], [.int a0, .ref 38], (gSh, σ, u)) rfl ?_
    obtain ⟨hc, hP⟩ := g_if hP
    refine hG.1 _ (13, [some (.ref 30), some (.int a0)], [.int (σ.1 38 a0.toNatClampNeg)], (gSh, σ, u)) _ rfl (if_pos hc) ?_
    cases hP
    exact hG.2.1 _ _ rfl rfl⟩
def p_Law_cell (E : gEv) (a1 : Int32) (σ : gS) : Option (Int32) :=
  if (Int32.ofNat (E 1000).1) ≤ a1 then (some 0) else (if gIn a1 ((E 1000).1) then some ((E 1000).2 a1.toNatClampNeg) else none)
set_option maxRecDepth 20000 in
theorem c_Law_cell (E : gEv) (d u : Nat) (a1 : Int32) (σ : gS) {v : Int32}  (hq : p_Law_cell E a1 σ = some v) : gC E gDf gMs (d + 1) 186 [.retAddr 1000, .int a1] (gSh, σ, u) (some (.int v), (gSh, σ, u)) := ⟨gM186, rfl, Nat.le_of_ble_eq_true rfl, fun G hG => by
  have hP := hq
  unfold p_Law_cell at hP
  replace hG : gClo E gDf gP17 gY186 (some .int) (gC E gDf gMs (d + 0)) (some (.int v), (gSh, σ, u)) G := hG
  show G (0, [some (.retAddr 1000), some (.int a1)], [], (gSh, σ, u))
  refine gRunN_ok hG.1 3 _ (3, [some (.retAddr 1000), some (.int a1)], [.int (Int32.ofNat (E 1000).1), .int a1], (gSh, σ, u)) rfl ?_
  rcases g_ite hP with ⟨hc, hP⟩ | ⟨hc, hP⟩
  · refine hG.1 _ (12, [some (.retAddr 1000), some (.int a1)], [], (gSh, σ, u)) _ rfl (if_pos hc) ?_
    refine gRunN_ok hG.1 1 _ (13, [some (.retAddr 1000), some (.int a1)], [.int 0], (gSh, σ, u)) rfl ?_
    cases hP
    exact hG.2.1 _ _ rfl rfl
  · refine hG.1 _ (6, [some (.retAddr 1000), some (.int a1)], [], (gSh, σ, u)) _ rfl (if_neg hc) ?_
    refine gRunN_ok hG.1 2 _ (8, [some (.retAddr 1000), some (.int a1)], [.int a1, .retAddr 1000], (gSh, σ, u)) rfl ?_
    obtain ⟨hc, hP⟩ := g_if hP
    refine hG.1 _ (9, [some (.retAddr 1000), some (.int a1)], [.int ((E 1000).2 a1.toNatClampNeg)], (gSh, σ, u)) _ rfl (if_pos hc) ?_
    refine gRunN_ok hG.1 1 _ (13, [some (.retAddr 1000), some (.int a1)], [.int ((E 1000).2 a1.toNatClampNeg)], (gSh, σ, u)) rfl ?_
    cases hP
    exact hG.2.1 _ _ rfl rfl⟩
def p_Model_flatWire (E : gEv) (a0 : Int32) (a1 : Int32) (a2 : Int32) (σ : gS) : Option (Int32) :=
  some ((((a1 * (σ.1 94 0)) + a0) * (σ.1 94 3)) + a2)
set_option maxRecDepth 20000 in
theorem c_Model_flatWire (E : gEv) (d u : Nat) (a0 : Int32) (a1 : Int32) (a2 : Int32) (σ : gS) {v : Int32}  (hq : p_Model_flatWire E a0 a1 a2 σ = some v) : gC E gDf gMs (d + 1) 190 [.ref 94, .int a0, .int a1, .int a2] (gSh, σ, u) (some (.int v), (gSh, σ, u)) := ⟨gM190, rfl, Nat.le_of_ble_eq_true rfl, fun G hG => by
  have hP := hq
  unfold p_Model_flatWire at hP
  replace hG : gClo E gDf gP18 gY190 (some .int) (gC E gDf gMs (d + 0)) (some (.int v), (gSh, σ, u)) G := hG
  show G (0, [some (.ref 94), some (.int a0), some (.int a1), some (.int a2)], [], (gSh, σ, u))
  refine gRunN_ok hG.1 11 _ (15, [some (.ref 94), some (.int a0), some (.int a1), some (.int a2)], [.int ((((a1 * (σ.1 94 0)) + a0) * (σ.1 94 3)) + a2)], (gSh, σ, u)) rfl ?_
  cases hP
  exact hG.2.1 _ _ rfl rfl⟩
def p_Model_uprightWire (E : gEv) (a0 : Int32) (a1 : Int32) (a2 : Int32) (σ : gS) : Option (Int32) :=
  some (((σ.1 94 7) + (((a1 * ((σ.1 94 0) + (1 : Int32))) + a0) * (σ.1 94 3))) + a2)
set_option maxRecDepth 20000 in
theorem c_Model_uprightWire (E : gEv) (d u : Nat) (a0 : Int32) (a1 : Int32) (a2 : Int32) (σ : gS) {v : Int32}  (hq : p_Model_uprightWire E a0 a1 a2 σ = some v) : gC E gDf gMs (d + 1) 191 [.ref 94, .int a0, .int a1, .int a2] (gSh, σ, u) (some (.int v), (gSh, σ, u)) := ⟨gM191, rfl, Nat.le_of_ble_eq_true rfl, fun G hG => by
  have hP := hq
  unfold p_Model_uprightWire at hP
  replace hG : gClo E gDf gP18 gY191 (some .int) (gC E gDf gMs (d + 0)) (some (.int v), (gSh, σ, u)) G := hG
  show G (0, [some (.ref 94), some (.int a0), some (.int a1), some (.int a2)], [], (gSh, σ, u))
  refine gRunN_ok hG.1 16 _ (22, [some (.ref 94), some (.int a0), some (.int a1), some (.int a2)], [.int (((σ.1 94 7) + (((a1 * ((σ.1 94 0) + (1 : Int32))) + a0) * (σ.1 94 3))) + a2)], (gSh, σ, u)) rfl ?_
  cases hP
  exact hG.2.1 _ _ rfl rfl⟩
def p_Model_meet (E : gEv) (a0 : Int32) (a1 : Int32) (a2 : Int32) (σ : gS) : Option (gS) :=
  if gIn a0 (σ.2.1 140) then if gIn (((6 : Int32) * a0) + (σ.1 140 a0.toNatClampNeg)) (σ.2.1 138) then gLet (gPut σ 138 (((6 : Int32) * a0) + (σ.1 140 a0.toNatClampNeg)).toNatClampNeg a1) fun s1 => if gIn a0 (s1.2.1 140) then if gIn (((6 : Int32) * a0) + (s1.1 140 a0.toNatClampNeg)) (s1.2.1 139) then gLet (gPut s1 139 (((6 : Int32) * a0) + (s1.1 140 a0.toNatClampNeg)).toNatClampNeg a2) fun s2 => if gIn a0 (s2.2.1 140) then if gIn a0 (s2.2.1 140) then gLet (gPut s2 140 a0.toNatClampNeg ((s2.1 140 a0.toNatClampNeg) + (1 : Int32))) fun s3 => some s3 else none else none else none else none else none else none
set_option maxRecDepth 20000 in
theorem c_Model_meet (E : gEv) (d u : Nat) (a0 : Int32) (a1 : Int32) (a2 : Int32) (σ : gS) {sr : gS}  (hq : p_Model_meet E a0 a1 a2 σ = some sr) : gC E gDf gMs (d + 1) 192 [.ref 94, .int a0, .int a1, .int a2] (gSh, σ, u) (none, (gSh, sr, u)) := ⟨gM192, rfl, Nat.le_of_ble_eq_true rfl, fun G hG => by
  have hP := hq
  unfold p_Model_meet at hP
  replace hG : gClo E gDf gP18 gY192 none (gC E gDf gMs (d + 0)) (none, (gSh, sr, u)) G := hG
  show G (0, [some (.ref 94), some (.int a0), some (.int a1), some (.int a2)], [], (gSh, σ, u))
  refine gRunN_ok hG.1 8 _ (13, [some (.ref 94), some (.int a0), some (.int a1), some (.int a2)], [.int a0, .ref 140, .int ((6 : Int32) * a0), .ref 138], (gSh, σ, u)) rfl ?_
  obtain ⟨hc, hP⟩ := g_if hP
  refine hG.1 _ (14, [some (.ref 94), some (.int a0), some (.int a1), some (.int a2)], [.int (σ.1 140 a0.toNatClampNeg), .int ((6 : Int32) * a0), .ref 138], (gSh, σ, u)) _ rfl (if_pos hc) ?_
  refine gRunN_ok hG.1 2 _ (16, [some (.ref 94), some (.int a0), some (.int a1), some (.int a2)], [.int a1, .int (((6 : Int32) * a0) + (σ.1 140 a0.toNatClampNeg)), .ref 138], (gSh, σ, u)) rfl ?_
  obtain ⟨hc, hP⟩ := g_if hP
  refine hG.1 _ (17, [some (.ref 94), some (.int a0), some (.int a1), some (.int a2)], [], (gSh, (gPut σ 138 (((6 : Int32) * a0) + (σ.1 140 a0.toNatClampNeg)).toNatClampNeg a1), u)) _ rfl (if_pos hc) ?_
  obtain ⟨s1, es1, hP⟩ := g_let hP
  rw [← es1]
  refine gRunN_ok hG.1 8 _ (30, [some (.ref 94), some (.int a0), some (.int a1), some (.int a2)], [.int a0, .ref 140, .int ((6 : Int32) * a0), .ref 139], (gSh, s1, u)) rfl ?_
  obtain ⟨hc, hP⟩ := g_if hP
  refine hG.1 _ (31, [some (.ref 94), some (.int a0), some (.int a1), some (.int a2)], [.int (s1.1 140 a0.toNatClampNeg), .int ((6 : Int32) * a0), .ref 139], (gSh, s1, u)) _ rfl (if_pos hc) ?_
  refine gRunN_ok hG.1 2 _ (33, [some (.ref 94), some (.int a0), some (.int a1), some (.int a2)], [.int a2, .int (((6 : Int32) * a0) + (s1.1 140 a0.toNatClampNeg)), .ref 139], (gSh, s1, u)) rfl ?_
  obtain ⟨hc, hP⟩ := g_if hP
  refine hG.1 _ (34, [some (.ref 94), some (.int a0), some (.int a1), some (.int a2)], [], (gSh, (gPut s1 139 (((6 : Int32) * a0) + (s1.1 140 a0.toNatClampNeg)).toNatClampNeg a2), u)) _ rfl (if_pos hc) ?_
  obtain ⟨s2, es2, hP⟩ := g_let hP
  rw [← es2]
  refine gRunN_ok hG.1 4 _ (40, [some (.ref 94), some (.int a0), some (.int a1), some (.int a2)], [.int a0, .ref 140, .int a0, .ref 140], (gSh, s2, u)) rfl ?_
  obtain ⟨hc, hP⟩ := g_if hP
  refine hG.1 _ (41, [some (.ref 94), some (.int a0), some (.int a1), some (.int a2)], [.int (s2.1 140 a0.toNatClampNeg), .int a0, .ref 140], (gSh, s2, u)) _ rfl (if_pos hc) ?_
  refine gRunN_ok hG.1 2 _ (43, [some (.ref 94), some (.int a0), some (.int a1), some (.int a2)], [.int ((s2.1 140 a0.toNatClampNeg) + (1 : Int32)), .int a0, .ref 140], (gSh, s2, u)) rfl ?_
  obtain ⟨hc, hP⟩ := g_if hP
  refine hG.1 _ (44, [some (.ref 94), some (.int a0), some (.int a1), some (.int a2)], [], (gSh, (gPut s2 140 a0.toNatClampNeg ((s2.1 140 a0.toNatClampNeg) + (1 : Int32))), u)) _ rfl (if_pos hc) ?_
  obtain ⟨s3, es3, hP⟩ := g_let hP
  rw [← es3]
  cases hP
  exact hG.2.1 _ _ rfl rfl⟩
def p_Model_word_2 (E : gEv) (l1 : Int32) (l2 : Int32) (l3 : Int32) (σ : gS) : Option ((Int32 × gS) ⊕ (gS)) :=
  if (4 : Int32) ≤ l3 then (some (.inr σ)) else (if gIn (l1 + l3) (σ.2.1 95) then gLet (gPut σ 95 (l1 + l3).toNatClampNeg ((l2 >>> (((24 : Int32) - ((8 : Int32) * l3)) &&& 31)) &&& (255 : Int32))) fun s1 => gLet (l3 + 1) fun x2 => some (.inl (x2, s1)) else none)
set_option maxRecDepth 20000 in
theorem b_Model_word_2 (E : gEv) (d u : Nat) {G : gFr → Prop} {vo : Option Value} {sr : gS} (hG : gClo E gDf gP18 gY194 none (gC E gDf gMs (d + 0)) (vo, (gSh, sr, u)) G) (l1 : Int32) (l2 : Int32) (l3 : Int32) (σ : gS) {r : (Int32 × gS) ⊕ (gS)} (hP : p_Model_word_2 E l1 l2 l3 σ = some r) (K1 : ∀ (m3 : Int32) (σ1 : gS), r = .inl (m3, σ1) → G (2, [some (.ref 94), some (.int l1), some (.int l2), some (.int m3)], [], (gSh, σ1, u))) (K2 : ∀ (σ1 : gS), r = .inr σ1 → G (34, [none, none, none, none], [], (gSh, σ1, u))) : G (2, [some (.ref 94), some (.int l1), some (.int l2), some (.int l3)], [], (gSh, σ, u)) := by
  unfold p_Model_word_2 at hP
  refine gRunN_ok hG.1 2 _ (4, [some (.ref 94), some (.int l1), some (.int l2), some (.int l3)], [.int 4, .int l3], (gSh, σ, u)) rfl ?_
  rcases g_ite hP with ⟨hc, hP⟩ | ⟨hc, hP⟩
  · refine hG.1 _ (34, [some (.ref 94), some (.int l1), some (.int l2), some (.int l3)], [], (gSh, σ, u)) _ rfl (if_pos hc) ?_
    refine hG.2.2.2.2.1 _ _ [none, none, none, none] _ _ trivial ?_
    cases hP
    exact K2 _ rfl
  · refine hG.1 _ (7, [some (.ref 94), some (.int l1), some (.int l2), some (.int l3)], [], (gSh, σ, u)) _ rfl (if_neg hc) ?_
    refine gRunN_ok hG.1 14 _ (27, [some (.ref 94), some (.int l1), some (.int l2), some (.int l3)], [.int ((l2 >>> (((24 : Int32) - ((8 : Int32) * l3)) &&& 31)) &&& (255 : Int32)), .int (l1 + l3), .ref 95], (gSh, σ, u)) rfl ?_
    obtain ⟨hc, hP⟩ := g_if hP
    refine hG.1 _ (28, [some (.ref 94), some (.int l1), some (.int l2), some (.int l3)], [], (gSh, (gPut σ 95 (l1 + l3).toNatClampNeg ((l2 >>> (((24 : Int32) - ((8 : Int32) * l3)) &&& 31)) &&& (255 : Int32))), u)) _ rfl (if_pos hc) ?_
    obtain ⟨s1, es1, hP⟩ := g_let hP
    rw [← es1]
    refine gRunN_ok hG.1 1 _ (31, [some (.ref 94), some (.int l1), some (.int l2), some (.int (l3 + 1))], [], (gSh, s1, u)) rfl ?_
    obtain ⟨x2, ex2, hP⟩ := g_let hP
    rw [← ex2]
    refine gRunN_ok hG.1 1 _ (2, [some (.ref 94), some (.int l1), some (.int l2), some (.int x2)], [], (gSh, s1, u)) rfl ?_
    cases hP
    exact K1 _ _ rfl
theorem l_Model_word_2 (E : gEv) (d u : Nat) {G : gFr → Prop} {vo : Option Value} {sr : gS} (hG : gClo E gDf gP18 gY194 none (gC E gDf gMs (d + 0)) (vo, (gSh, sr, u)) G) (l1 : Int32) (l2 : Int32) : ∀ (n : Nat) (l3 : Int32) (σ : gS) (e : (gS)), gIter (fun z => p_Model_word_2 E l1 l2 z.1 z.2) n (l3, σ) = some e → (∀ (σ1 : gS), e = σ1 → G (34, [none, none, none, none], [], (gSh, σ1, u))) → G (2, [some (.ref 94), some (.int l1), some (.int l2), some (.int l3)], [], (gSh, σ, u)) := by
  intro n
  induction n with
  | zero => intro l3 σ e h; cases h
  | succ n ih =>
    intro l3 σ e h K2
    rcases g_iter h with ⟨z, h1, h2⟩ | h1
    · exact b_Model_word_2 E d u hG l1 l2 l3 σ h1 (fun n0 n1 hz => by cases hz; exact ih _ _ e h2 K2) (fun _ hz => by cases hz)
    · exact b_Model_word_2 E d u hG l1 l2 l3 σ h1 (fun _ _ hz => by cases hz) (fun σ1 hz => K2 σ1 (by cases hz; rfl))
def p_Model_word (E : gEv) (a0 : Int32) (a1 : Int32) (σ : gS) : Option (gS) :=
  gB1 (gIter (fun z => p_Model_word_2 E a0 a1 z.1 z.2) gN (0, σ)) fun e3 => (fun s4 => some s4) e3
set_option maxRecDepth 20000 in
theorem c_Model_word (E : gEv) (d u : Nat) (a0 : Int32) (a1 : Int32) (σ : gS) {sr : gS}  (hq : p_Model_word E a0 a1 σ = some sr) : gC E gDf gMs (d + 1) 194 [.ref 94, .int a0, .int a1] (gSh, σ, u) (none, (gSh, sr, u)) := ⟨gM194, rfl, Nat.le_of_ble_eq_true rfl, fun G hG => by
  have hP := hq
  unfold p_Model_word at hP
  replace hG : gClo E gDf gP18 gY194 none (gC E gDf gMs (d + 0)) (none, (gSh, sr, u)) G := hG
  show G (0, [some (.ref 94), some (.int a0), some (.int a1), none], [], (gSh, σ, u))
  refine gRunN_ok hG.1 2 _ (2, [some (.ref 94), some (.int a0), some (.int a1), some (.int 0)], [], (gSh, σ, u)) rfl ?_
  obtain ⟨e3, hq, hP⟩ := g_b1 hP
  refine l_Model_word_2 E d u hG a0 a1 gN 0 σ _ hq (fun s4 he => ?_)
  · replace he := he.symm
    subst he
    try dsimp only [gSum] at hP
    cases hP
    exact hG.2.1 _ _ rfl rfl⟩
def p_Model_end_26 (E : gEv) (l1 : Int32) (l2 : Int32) (σ : gS) : Option ((Int32) ⊕ ((Unit) ⊕ (Unit))) :=
  if l1 ≤ l2 then (some (.inr (.inr ()))) else (if gIn l2 (σ.2.1 95) then if (σ.1 95 l2.toNatClampNeg) = (9 : Int32) then (gLet (l2 + 1) fun x1 => some (.inl x1)) else (if gIn l2 (σ.2.1 95) then if (σ.1 95 l2.toNatClampNeg) = (10 : Int32) then (gLet (l2 + 1) fun x2 => some (.inl x2)) else (if gIn l2 (σ.2.1 95) then if (σ.1 95 l2.toNatClampNeg) < (32 : Int32) then (some (.inr (.inl ()))) else (if gIn l2 (σ.2.1 95) then if (σ.1 95 l2.toNatClampNeg) ≤ (126 : Int32) then (gLet (l2 + 1) fun x3 => some (.inl x3)) else (some (.inr (.inl ()))) else none) else none) else none) else none)
set_option maxRecDepth 20000 in
theorem b_Model_end_26 (E : gEv) (d u : Nat) {G : gFr → Prop} {vo : Option Value} {sr : gS} (hG : gClo E gDf gP18 gY195 (some .int) (gC E gDf gMs (d + 0)) (vo, (gSh, sr, u)) G) (l1 : Int32) (l2 : Int32) (σ : gS) {r : (Int32) ⊕ ((Unit) ⊕ (Unit))} (hP : p_Model_end_26 E l1 l2 σ = some r) (K1 : ∀ (m2 : Int32), r = .inl m2 → G (26, [some (.ref 94), some (.int l1), some (.int m2)], [], (gSh, σ, u))) (K2 : r = .inr (.inl ()) → G (75, [none, none, none], [], (gSh, σ, u))) (K3 : r = .inr (.inr ()) → G (83, [some (.ref 94), some (.int l1), none], [], (gSh, σ, u))) : G (26, [some (.ref 94), some (.int l1), some (.int l2)], [], (gSh, σ, u)) := by
  unfold p_Model_end_26 at hP
  refine gRunN_ok hG.1 2 _ (28, [some (.ref 94), some (.int l1), some (.int l2)], [.int l1, .int l2], (gSh, σ, u)) rfl ?_
  rcases g_ite hP with ⟨hc, hP⟩ | ⟨hc, hP⟩
  · refine hG.1 _ (83, [some (.ref 94), some (.int l1), some (.int l2)], [], (gSh, σ, u)) _ rfl (if_pos hc) ?_
    refine hG.2.2.2.2.1 _ _ [some (.ref 94), some (.int l1), none] _ _ ⟨rfl, ⟨rfl, trivial⟩⟩ ?_
    cases hP
    exact K3 rfl
  · refine hG.1 _ (31, [some (.ref 94), some (.int l1), some (.int l2)], [], (gSh, σ, u)) _ rfl (if_neg hc) ?_
    refine gRunN_ok hG.1 3 _ (36, [some (.ref 94), some (.int l1), some (.int l2)], [.int l2, .ref 95], (gSh, σ, u)) rfl ?_
    obtain ⟨hc, hP⟩ := g_if hP
    refine hG.1 _ (37, [some (.ref 94), some (.int l1), some (.int l2)], [.int (σ.1 95 l2.toNatClampNeg)], (gSh, σ, u)) _ rfl (if_pos hc) ?_
    refine gRunN_ok hG.1 1 _ (39, [some (.ref 94), some (.int l1), some (.int l2)], [.int 9, .int (σ.1 95 l2.toNatClampNeg)], (gSh, σ, u)) rfl ?_
    rcases g_ite hP with ⟨hc, hP⟩ | ⟨hc, hP⟩
    · refine hG.1 _ (77, [some (.ref 94), some (.int l1), some (.int l2)], [], (gSh, σ, u)) _ rfl (if_pos hc) ?_
      refine gRunN_ok hG.1 1 _ (80, [some (.ref 94), some (.int l1), some (.int (l2 + 1))], [], (gSh, σ, u)) rfl ?_
      obtain ⟨x1, ex1, hP⟩ := g_let hP
      rw [← ex1]
      refine gRunN_ok hG.1 1 _ (26, [some (.ref 94), some (.int l1), some (.int x1)], [], (gSh, σ, u)) rfl ?_
      cases hP
      exact K1 _ rfl
    · refine hG.1 _ (42, [some (.ref 94), some (.int l1), some (.int l2)], [], (gSh, σ, u)) _ rfl (if_neg hc) ?_
      refine gRunN_ok hG.1 3 _ (47, [some (.ref 94), some (.int l1), some (.int l2)], [.int l2, .ref 95], (gSh, σ, u)) rfl ?_
      obtain ⟨hc, hP⟩ := g_if hP
      refine hG.1 _ (48, [some (.ref 94), some (.int l1), some (.int l2)], [.int (σ.1 95 l2.toNatClampNeg)], (gSh, σ, u)) _ rfl (if_pos hc) ?_
      refine gRunN_ok hG.1 1 _ (50, [some (.ref 94), some (.int l1), some (.int l2)], [.int 10, .int (σ.1 95 l2.toNatClampNeg)], (gSh, σ, u)) rfl ?_
      rcases g_ite hP with ⟨hc, hP⟩ | ⟨hc, hP⟩
      · refine hG.1 _ (77, [some (.ref 94), some (.int l1), some (.int l2)], [], (gSh, σ, u)) _ rfl (if_pos hc) ?_
        refine gRunN_ok hG.1 1 _ (80, [some (.ref 94), some (.int l1), some (.int (l2 + 1))], [], (gSh, σ, u)) rfl ?_
        obtain ⟨x2, ex2, hP⟩ := g_let hP
        rw [← ex2]
        refine gRunN_ok hG.1 1 _ (26, [some (.ref 94), some (.int l1), some (.int x2)], [], (gSh, σ, u)) rfl ?_
        cases hP
        exact K1 _ rfl
      · refine hG.1 _ (53, [some (.ref 94), some (.int l1), some (.int l2)], [], (gSh, σ, u)) _ rfl (if_neg hc) ?_
        refine gRunN_ok hG.1 3 _ (58, [some (.ref 94), some (.int l1), some (.int l2)], [.int l2, .ref 95], (gSh, σ, u)) rfl ?_
        obtain ⟨hc, hP⟩ := g_if hP
        refine hG.1 _ (59, [some (.ref 94), some (.int l1), some (.int l2)], [.int (σ.1 95 l2.toNatClampNeg)], (gSh, σ, u)) _ rfl (if_pos hc) ?_
        refine gRunN_ok hG.1 1 _ (61, [some (.ref 94), some (.int l1), some (.int l2)], [.int 32, .int (σ.1 95 l2.toNatClampNeg)], (gSh, σ, u)) rfl ?_
        rcases g_ite hP with ⟨hc, hP⟩ | ⟨hc, hP⟩
        · refine hG.1 _ (75, [some (.ref 94), some (.int l1), some (.int l2)], [], (gSh, σ, u)) _ rfl (if_pos hc) ?_
          refine hG.2.2.2.2.1 _ _ [none, none, none] _ _ trivial ?_
          cases hP
          exact K2 rfl
        · refine hG.1 _ (64, [some (.ref 94), some (.int l1), some (.int l2)], [], (gSh, σ, u)) _ rfl (if_neg hc) ?_
          refine gRunN_ok hG.1 3 _ (69, [some (.ref 94), some (.int l1), some (.int l2)], [.int l2, .ref 95], (gSh, σ, u)) rfl ?_
          obtain ⟨hc, hP⟩ := g_if hP
          refine hG.1 _ (70, [some (.ref 94), some (.int l1), some (.int l2)], [.int (σ.1 95 l2.toNatClampNeg)], (gSh, σ, u)) _ rfl (if_pos hc) ?_
          refine gRunN_ok hG.1 1 _ (72, [some (.ref 94), some (.int l1), some (.int l2)], [.int 126, .int (σ.1 95 l2.toNatClampNeg)], (gSh, σ, u)) rfl ?_
          rcases g_ite hP with ⟨hc, hP⟩ | ⟨hc, hP⟩
          · refine hG.1 _ (77, [some (.ref 94), some (.int l1), some (.int l2)], [], (gSh, σ, u)) _ rfl (if_pos hc) ?_
            refine gRunN_ok hG.1 1 _ (80, [some (.ref 94), some (.int l1), some (.int (l2 + 1))], [], (gSh, σ, u)) rfl ?_
            obtain ⟨x3, ex3, hP⟩ := g_let hP
            rw [← ex3]
            refine gRunN_ok hG.1 1 _ (26, [some (.ref 94), some (.int l1), some (.int x3)], [], (gSh, σ, u)) rfl ?_
            cases hP
            exact K1 _ rfl
          · refine hG.1 _ (75, [some (.ref 94), some (.int l1), some (.int l2)], [], (gSh, σ, u)) _ rfl (if_neg hc) ?_
            refine hG.2.2.2.2.1 _ _ [none, none, none] _ _ trivial ?_
            cases hP
            exact K2 rfl
theorem l_Model_end_26 (E : gEv) (d u : Nat) {G : gFr → Prop} {vo : Option Value} {sr : gS} (hG : gClo E gDf gP18 gY195 (some .int) (gC E gDf gMs (d + 0)) (vo, (gSh, sr, u)) G) (l1 : Int32) (σ : gS) : ∀ (n : Nat) (l2 : Int32) (e : ((Unit) ⊕ (Unit))), gIter (fun z => p_Model_end_26 E l1 z σ) n l2 = some e → ( e = (.inl ()) → G (75, [none, none, none], [], (gSh, σ, u))) → ( e = (.inr ()) → G (83, [some (.ref 94), some (.int l1), none], [], (gSh, σ, u))) → G (26, [some (.ref 94), some (.int l1), some (.int l2)], [], (gSh, σ, u)) := by
  intro n
  induction n with
  | zero => intro l2 e h; cases h
  | succ n ih =>
    intro l2 e h K2 K3
    rcases g_iter h with ⟨z, h1, h2⟩ | h1
    · exact b_Model_end_26 E d u hG l1 l2 σ h1 (fun n0 hz => by cases hz; exact ih _ e h2 K2 K3) (fun  hz => by cases hz) (fun  hz => by cases hz)
    · exact b_Model_end_26 E d u hG l1 l2 σ h1 (fun _ hz => by cases hz) (fun  hz => K2  (by cases hz; rfl)) (fun  hz => K3  (by cases hz; rfl))
def p_Model_end_85 (E : gEv) (l1 : Int32) (l2 : Int32) (σ : gS) : Option ((Int32 × gS) ⊕ (gS)) :=
  if l1 ≤ l2 then (some (.inr σ)) else (if gIn l2 (σ.2.1 95) then if gIn ((σ.1 94 16) + l2) (σ.2.1 96) then gLet (gPut σ 96 ((σ.1 94 16) + l2).toNatClampNeg (σ.1 95 l2.toNatClampNeg)) fun s5 => gLet (l2 + 1) fun x6 => some (.inl (x6, s5)) else none else none)
set_option maxRecDepth 20000 in
theorem b_Model_end_85 (E : gEv) (d u : Nat) {G : gFr → Prop} {vo : Option Value} {sr : gS} (hG : gClo E gDf gP18 gY195 (some .int) (gC E gDf gMs (d + 0)) (vo, (gSh, sr, u)) G) (l1 : Int32) (l2 : Int32) (σ : gS) {r : (Int32 × gS) ⊕ (gS)} (hP : p_Model_end_85 E l1 l2 σ = some r) (K1 : ∀ (m2 : Int32) (σ1 : gS), r = .inl (m2, σ1) → G (85, [some (.ref 94), some (.int l1), some (.int m2)], [], (gSh, σ1, u))) (K2 : ∀ (σ1 : gS), r = .inr σ1 → G (113, [some (.ref 94), some (.int l1), none], [], (gSh, σ1, u))) : G (85, [some (.ref 94), some (.int l1), some (.int l2)], [], (gSh, σ, u)) := by
  unfold p_Model_end_85 at hP
  refine gRunN_ok hG.1 2 _ (87, [some (.ref 94), some (.int l1), some (.int l2)], [.int l1, .int l2], (gSh, σ, u)) rfl ?_
  rcases g_ite hP with ⟨hc, hP⟩ | ⟨hc, hP⟩
  · refine hG.1 _ (113, [some (.ref 94), some (.int l1), some (.int l2)], [], (gSh, σ, u)) _ rfl (if_pos hc) ?_
    refine hG.2.2.2.2.1 _ _ [some (.ref 94), some (.int l1), none] _ _ ⟨rfl, ⟨rfl, trivial⟩⟩ ?_
    cases hP
    exact K2 _ rfl
  · refine hG.1 _ (90, [some (.ref 94), some (.int l1), some (.int l2)], [], (gSh, σ, u)) _ rfl (if_neg hc) ?_
    refine gRunN_ok hG.1 9 _ (105, [some (.ref 94), some (.int l1), some (.int l2)], [.int l2, .ref 95, .int ((σ.1 94 16) + l2), .ref 96], (gSh, σ, u)) rfl ?_
    obtain ⟨hc, hP⟩ := g_if hP
    refine hG.1 _ (106, [some (.ref 94), some (.int l1), some (.int l2)], [.int (σ.1 95 l2.toNatClampNeg), .int ((σ.1 94 16) + l2), .ref 96], (gSh, σ, u)) _ rfl (if_pos hc) ?_
    obtain ⟨hc, hP⟩ := g_if hP
    refine hG.1 _ (107, [some (.ref 94), some (.int l1), some (.int l2)], [], (gSh, (gPut σ 96 ((σ.1 94 16) + l2).toNatClampNeg (σ.1 95 l2.toNatClampNeg)), u)) _ rfl (if_pos hc) ?_
    obtain ⟨s5, es5, hP⟩ := g_let hP
    rw [← es5]
    refine gRunN_ok hG.1 1 _ (110, [some (.ref 94), some (.int l1), some (.int (l2 + 1))], [], (gSh, s5, u)) rfl ?_
    obtain ⟨x6, ex6, hP⟩ := g_let hP
    rw [← ex6]
    refine gRunN_ok hG.1 1 _ (85, [some (.ref 94), some (.int l1), some (.int x6)], [], (gSh, s5, u)) rfl ?_
    cases hP
    exact K1 _ _ rfl
theorem l_Model_end_85 (E : gEv) (d u : Nat) {G : gFr → Prop} {vo : Option Value} {sr : gS} (hG : gClo E gDf gP18 gY195 (some .int) (gC E gDf gMs (d + 0)) (vo, (gSh, sr, u)) G) (l1 : Int32) : ∀ (n : Nat) (l2 : Int32) (σ : gS) (e : (gS)), gIter (fun z => p_Model_end_85 E l1 z.1 z.2) n (l2, σ) = some e → (∀ (σ1 : gS), e = σ1 → G (113, [some (.ref 94), some (.int l1), none], [], (gSh, σ1, u))) → G (85, [some (.ref 94), some (.int l1), some (.int l2)], [], (gSh, σ, u)) := by
  intro n
  induction n with
  | zero => intro l2 σ e h; cases h
  | succ n ih =>
    intro l2 σ e h K2
    rcases g_iter h with ⟨z, h1, h2⟩ | h1
    · exact b_Model_end_85 E d u hG l1 l2 σ h1 (fun n0 n1 hz => by cases hz; exact ih _ _ e h2 K2) (fun _ hz => by cases hz)
    · exact b_Model_end_85 E d u hG l1 l2 σ h1 (fun _ _ hz => by cases hz) (fun σ1 hz => K2 σ1 (by cases hz; rfl))
def p_Model_end_125 (E : gEv) (l2 : Int32) (σ : gS) : Option ((Int32 × gS) ⊕ (gS)) :=
  if (20 : Int32) ≤ l2 then (some (.inr σ)) else (if gIn l2 (σ.2.1 95) then gLet (gPut σ 95 l2.toNatClampNeg 0) fun s10 => gLet (l2 + 1) fun x11 => some (.inl (x11, s10)) else none)
set_option maxRecDepth 20000 in
theorem b_Model_end_125 (E : gEv) (d u : Nat) {G : gFr → Prop} {vo : Option Value} {sr : gS} (hG : gClo E gDf gP18 gY195 (some .int) (gC E gDf gMs (d + 0)) (vo, (gSh, sr, u)) G) (l2 : Int32) (σ : gS) {r : (Int32 × gS) ⊕ (gS)} (hP : p_Model_end_125 E l2 σ = some r) (K1 : ∀ (m2 : Int32) (σ1 : gS), r = .inl (m2, σ1) → G (125, [some (.ref 94), none, some (.int m2)], [], (gSh, σ1, u))) (K2 : ∀ (σ1 : gS), r = .inr σ1 → G (144, [some (.ref 94), none, none], [], (gSh, σ1, u))) : G (125, [some (.ref 94), none, some (.int l2)], [], (gSh, σ, u)) := by
  unfold p_Model_end_125 at hP
  refine gRunN_ok hG.1 2 _ (128, [some (.ref 94), none, some (.int l2)], [.int 20, .int l2], (gSh, σ, u)) rfl ?_
  rcases g_ite hP with ⟨hc, hP⟩ | ⟨hc, hP⟩
  · refine hG.1 _ (144, [some (.ref 94), none, some (.int l2)], [], (gSh, σ, u)) _ rfl (if_pos hc) ?_
    refine hG.2.2.2.2.1 _ _ [some (.ref 94), none, none] _ _ ⟨rfl, trivial⟩ ?_
    cases hP
    exact K2 _ rfl
  · refine hG.1 _ (131, [some (.ref 94), none, some (.int l2)], [], (gSh, σ, u)) _ rfl (if_neg hc) ?_
    refine gRunN_ok hG.1 4 _ (137, [some (.ref 94), none, some (.int l2)], [.int 0, .int l2, .ref 95], (gSh, σ, u)) rfl ?_
    obtain ⟨hc, hP⟩ := g_if hP
    refine hG.1 _ (138, [some (.ref 94), none, some (.int l2)], [], (gSh, (gPut σ 95 l2.toNatClampNeg 0), u)) _ rfl (if_pos hc) ?_
    obtain ⟨s10, es10, hP⟩ := g_let hP
    rw [← es10]
    refine gRunN_ok hG.1 1 _ (141, [some (.ref 94), none, some (.int (l2 + 1))], [], (gSh, s10, u)) rfl ?_
    obtain ⟨x11, ex11, hP⟩ := g_let hP
    rw [← ex11]
    refine gRunN_ok hG.1 1 _ (125, [some (.ref 94), none, some (.int x11)], [], (gSh, s10, u)) rfl ?_
    cases hP
    exact K1 _ _ rfl
theorem l_Model_end_125 (E : gEv) (d u : Nat) {G : gFr → Prop} {vo : Option Value} {sr : gS} (hG : gClo E gDf gP18 gY195 (some .int) (gC E gDf gMs (d + 0)) (vo, (gSh, sr, u)) G) : ∀ (n : Nat) (l2 : Int32) (σ : gS) (e : (gS)), gIter (fun z => p_Model_end_125 E z.1 z.2) n (l2, σ) = some e → (∀ (σ1 : gS), e = σ1 → G (144, [some (.ref 94), none, none], [], (gSh, σ1, u))) → G (125, [some (.ref 94), none, some (.int l2)], [], (gSh, σ, u)) := by
  intro n
  induction n with
  | zero => intro l2 σ e h; cases h
  | succ n ih =>
    intro l2 σ e h K2
    rcases g_iter h with ⟨z, h1, h2⟩ | h1
    · exact b_Model_end_125 E d u hG l2 σ h1 (fun n0 n1 hz => by cases hz; exact ih _ _ e h2 K2) (fun _ hz => by cases hz)
    · exact b_Model_end_125 E d u hG l2 σ h1 (fun _ _ hz => by cases hz) (fun σ1 hz => K2 σ1 (by cases hz; rfl))
def p_Model_end (E : gEv) (a0 : Int32) (σ : gS) : Option (Int32 × gS) :=
  if a0 < 0 then (some ((-1), σ)) else (if (20 : Int32) < a0 then (some ((-1), σ)) else (if ((σ.1 94 16) + a0) ≤ (4000 : Int32) then (gB1 (gIter (fun z => p_Model_end_26 E a0 z σ) gN 0) fun e4 => gSum e4 (fun e14 => some ((-1), σ)) (fun e15 => gB1 (gIter (fun z => p_Model_end_85 E a0 z.1 z.2) gN (0, σ)) fun e7 => (fun s8 => gLet (gPut s8 94 16 ((s8.1 94 16) + a0)) fun s9 => gB1 (gIter (fun z => p_Model_end_125 E z.1 z.2) gN (0, s9)) fun e12 => (fun s13 => some (s13.1 94 16, s13)) e12) e7)) else (some ((-1), σ))))
set_option maxRecDepth 20000 in
theorem c_Model_end (E : gEv) (d u : Nat) (a0 : Int32) (σ : gS) {v : Int32} {sr : gS}  (hq : p_Model_end E a0 σ = some (v, sr)) : gC E gDf gMs (d + 1) 195 [.ref 94, .int a0] (gSh, σ, u) (some (.int v), (gSh, sr, u)) := ⟨gM195, rfl, Nat.le_of_ble_eq_true rfl, fun G hG => by
  have hP := hq
  unfold p_Model_end at hP
  replace hG : gClo E gDf gP18 gY195 (some .int) (gC E gDf gMs (d + 0)) (some (.int v), (gSh, sr, u)) G := hG
  show G (0, [some (.ref 94), some (.int a0), none], [], (gSh, σ, u))
  refine gRunN_ok hG.1 1 _ (1, [some (.ref 94), some (.int a0), none], [.int a0], (gSh, σ, u)) rfl ?_
  rcases g_ite hP with ⟨hc, hP⟩ | ⟨hc, hP⟩
  · refine hG.1 _ (22, [some (.ref 94), some (.int a0), none], [], (gSh, σ, u)) _ rfl (if_pos hc) ?_
    refine gRunN_ok hG.1 1 _ (23, [some (.ref 94), some (.int a0), none], [.int (-1)], (gSh, σ, u)) rfl ?_
    cases hP
    exact hG.2.1 _ _ rfl rfl
  · refine hG.1 _ (4, [some (.ref 94), some (.int a0), none], [], (gSh, σ, u)) _ rfl (if_neg hc) ?_
    refine gRunN_ok hG.1 2 _ (7, [some (.ref 94), some (.int a0), none], [.int 20, .int a0], (gSh, σ, u)) rfl ?_
    rcases g_ite hP with ⟨hc, hP⟩ | ⟨hc, hP⟩
    · refine hG.1 _ (22, [some (.ref 94), some (.int a0), none], [], (gSh, σ, u)) _ rfl (if_pos hc) ?_
      refine gRunN_ok hG.1 1 _ (23, [some (.ref 94), some (.int a0), none], [.int (-1)], (gSh, σ, u)) rfl ?_
      cases hP
      exact hG.2.1 _ _ rfl rfl
    · refine hG.1 _ (10, [some (.ref 94), some (.int a0), none], [], (gSh, σ, u)) _ rfl (if_neg hc) ?_
      refine gRunN_ok hG.1 5 _ (19, [some (.ref 94), some (.int a0), none], [.int 4000, .int ((σ.1 94 16) + a0)], (gSh, σ, u)) rfl ?_
      rcases g_ite hP with ⟨hc, hP⟩ | ⟨hc, hP⟩
      · refine hG.1 _ (24, [some (.ref 94), some (.int a0), none], [], (gSh, σ, u)) _ rfl (if_pos hc) ?_
        refine gRunN_ok hG.1 2 _ (26, [some (.ref 94), some (.int a0), some (.int 0)], [], (gSh, σ, u)) rfl ?_
        obtain ⟨e4, hq, hP⟩ := g_b1 hP
        refine l_Model_end_26 E d u hG a0 σ gN 0 _ hq (fun  he => ?_) (fun  he => ?_)
        · subst he
          try dsimp only [gSum] at hP
          refine gRunN_ok hG.1 1 _ (76, [none, none, none], [.int (-1)], (gSh, σ, u)) rfl ?_
          cases hP
          exact hG.2.1 _ _ rfl rfl
        · subst he
          try dsimp only [gSum] at hP
          refine gRunN_ok hG.1 2 _ (85, [some (.ref 94), some (.int a0), some (.int 0)], [], (gSh, σ, u)) rfl ?_
          obtain ⟨e7, hq, hP⟩ := g_b1 hP
          refine l_Model_end_85 E d u hG a0 gN 0 σ _ hq (fun s8 he => ?_)
          · replace he := he.symm
            subst he
            try dsimp only [gSum] at hP
            refine gRunN_ok hG.1 6 _ (123, [some (.ref 94), some (.int a0), none], [], (gSh, (gPut s8 94 16 ((s8.1 94 16) + a0)), u)) rfl ?_
            obtain ⟨s9, es9, hP⟩ := g_let hP
            rw [← es9]
            refine gRunN_ok hG.1 2 _ (125, [some (.ref 94), some (.int a0), some (.int 0)], [], (gSh, s9, u)) rfl ?_
            refine hG.2.2.2.2.1 _ _ [some (.ref 94), none, some (.int 0)] _ _ ⟨rfl, ⟨rfl, trivial⟩⟩ ?_
            obtain ⟨e12, hq, hP⟩ := g_b1 hP
            refine l_Model_end_125 E d u hG gN 0 s9 _ hq (fun s13 he => ?_)
            · replace he := he.symm
              subst he
              try dsimp only [gSum] at hP
              refine gRunN_ok hG.1 2 _ (148, [some (.ref 94), none, none], [.int (s13.1 94 16)], (gSh, s13, u)) rfl ?_
              cases hP
              exact hG.2.1 _ _ rfl rfl
      · refine hG.1 _ (22, [some (.ref 94), some (.int a0), none], [], (gSh, σ, u)) _ rfl (if_neg hc) ?_
        refine gRunN_ok hG.1 1 _ (23, [some (.ref 94), some (.int a0), none], [.int (-1)], (gSh, σ, u)) rfl ?_
        cases hP
        exact hG.2.1 _ _ rfl rfl⟩
def p_Model_line_j132_12 (E : gEv) (l2 : Int32) (l3 : Int32) (l6 : Int32) (σ : gS) : Option ((Int32 × Int32 × Int32 × gS) ⊕ (Int32 × gS)) :=
  if l6 = 0 then (gLet (l2 + 1) fun x3 => some (.inl (x3, l3, l6, σ))) else (if gIn ((σ.1 94 19) - (1 : Int32)) (σ.2.1 98) then if gIn ((σ.1 94 19) - (1 : Int32)) (σ.2.1 98) then gLet (gPut σ 98 ((σ.1 94 19) - (1 : Int32)).toNatClampNeg ((σ.1 98 ((σ.1 94 19) - (1 : Int32)).toNatClampNeg) + (1 : Int32))) fun s4 => gLet (l2 + 1) fun x5 => some (.inl (x5, l3, l6, s4)) else none else none)
set_option maxRecDepth 20000 in
theorem j_Model_line_j132_12 (E : gEv) (d u : Nat) {G : gFr → Prop} {vo : Option Value} {sr : gS} (hG : gClo E gDf gP18 gY198 (some .int) (gC E gDf gMs (d + 0)) (vo, (gSh, sr, u)) G) (l2 : Int32) (l3 : Int32) (l6 : Int32) (σ : gS) {r : (Int32 × Int32 × Int32 × gS) ⊕ (Int32 × gS)} (hP : p_Model_line_j132_12 E l2 l3 l6 σ = some r) (K1 : ∀ (m2 : Int32) (m3 : Int32) (m4 : Int32) (σ1 : gS), r = .inl (m2, m3, m4, σ1) → G (12, [some (.ref 94), none, some (.int m2), some (.int m3), some (.int m4), none, none], [], (gSh, σ1, u))) (K2 : ∀ (m2 : Int32) (σ1 : gS), r = .inr (m2, σ1) → G (162, [some (.ref 94), none, some (.int m2), none, none, none, none], [], (gSh, σ1, u))) : G (132, [some (.ref 94), none, some (.int l2), some (.int l3), none, none, some (.int l6)], [], (gSh, σ, u)) := by
  unfold p_Model_line_j132_12 at hP
  refine gRunN_ok hG.1 1 _ (134, [some (.ref 94), none, some (.int l2), some (.int l3), none, none, some (.int l6)], [.int l6], (gSh, σ, u)) rfl ?_
  rcases g_ite hP with ⟨hc, hP⟩ | ⟨hc, hP⟩
  · refine hG.1 _ (152, [some (.ref 94), none, some (.int l2), some (.int l3), none, none, some (.int l6)], [], (gSh, σ, u)) _ rfl (if_pos hc) ?_
    refine gRunN_ok hG.1 3 _ (159, [some (.ref 94), none, some (.int (l2 + 1)), some (.int l3), some (.int l6), none, some (.int l6)], [], (gSh, σ, u)) rfl ?_
    obtain ⟨x3, ex3, hP⟩ := g_let hP
    rw [← ex3]
    refine gRunN_ok hG.1 1 _ (12, [some (.ref 94), none, some (.int x3), some (.int l3), some (.int l6), none, some (.int l6)], [], (gSh, σ, u)) rfl ?_
    refine hG.2.2.2.2.1 _ _ [some (.ref 94), none, some (.int x3), some (.int l3), some (.int l6), none, none] _ _ ⟨rfl, ⟨rfl, ⟨rfl, ⟨rfl, trivial⟩⟩⟩⟩ ?_
    cases hP
    exact K1 _ _ _ _ rfl
  · refine hG.1 _ (137, [some (.ref 94), none, some (.int l2), some (.int l3), none, none, some (.int l6)], [], (gSh, σ, u)) _ rfl (if_neg hc) ?_
    refine gRunN_ok hG.1 7 _ (148, [some (.ref 94), none, some (.int l2), some (.int l3), none, none, some (.int l6)], [.int ((σ.1 94 19) - (1 : Int32)), .ref 98, .int ((σ.1 94 19) - (1 : Int32)), .ref 98], (gSh, σ, u)) rfl ?_
    obtain ⟨hc, hP⟩ := g_if hP
    refine hG.1 _ (149, [some (.ref 94), none, some (.int l2), some (.int l3), none, none, some (.int l6)], [.int (σ.1 98 ((σ.1 94 19) - (1 : Int32)).toNatClampNeg), .int ((σ.1 94 19) - (1 : Int32)), .ref 98], (gSh, σ, u)) _ rfl (if_pos hc) ?_
    refine gRunN_ok hG.1 2 _ (151, [some (.ref 94), none, some (.int l2), some (.int l3), none, none, some (.int l6)], [.int ((σ.1 98 ((σ.1 94 19) - (1 : Int32)).toNatClampNeg) + (1 : Int32)), .int ((σ.1 94 19) - (1 : Int32)), .ref 98], (gSh, σ, u)) rfl ?_
    obtain ⟨hc, hP⟩ := g_if hP
    refine hG.1 _ (152, [some (.ref 94), none, some (.int l2), some (.int l3), none, none, some (.int l6)], [], (gSh, (gPut σ 98 ((σ.1 94 19) - (1 : Int32)).toNatClampNeg ((σ.1 98 ((σ.1 94 19) - (1 : Int32)).toNatClampNeg) + (1 : Int32))), u)) _ rfl (if_pos hc) ?_
    obtain ⟨s4, es4, hP⟩ := g_let hP
    rw [← es4]
    refine gRunN_ok hG.1 3 _ (159, [some (.ref 94), none, some (.int (l2 + 1)), some (.int l3), some (.int l6), none, some (.int l6)], [], (gSh, s4, u)) rfl ?_
    obtain ⟨x5, ex5, hP⟩ := g_let hP
    rw [← ex5]
    refine gRunN_ok hG.1 1 _ (12, [some (.ref 94), none, some (.int x5), some (.int l3), some (.int l6), none, some (.int l6)], [], (gSh, s4, u)) rfl ?_
    refine hG.2.2.2.2.1 _ _ [some (.ref 94), none, some (.int x5), some (.int l3), some (.int l6), none, none] _ _ ⟨rfl, ⟨rfl, ⟨rfl, ⟨rfl, trivial⟩⟩⟩⟩ ?_
    cases hP
    exact K1 _ _ _ _ rfl
def p_Model_line_j90_12 (E : gEv) (l2 : Int32) (l3 : Int32) (l4 : Int32) (y0 : Int32) (σ : gS) : Option ((Int32 × Int32 × Int32 × gS) ⊕ (Int32 × gS)) :=
  if y0 = 0 then (p_Model_line_j132_12 E l2 l3 y0 σ) else (if l4 = 0 then (if gIn (σ.1 94 19) (σ.2.1 97) then gLet (gPut σ 97 (σ.1 94 19).toNatClampNeg l2) fun s6 => if gIn (s6.1 94 19) (s6.2.1 98) then gLet (gPut s6 98 (s6.1 94 19).toNatClampNeg 0) fun s7 => gLet (gPut s7 94 19 ((s7.1 94 19) + (1 : Int32))) fun s8 => p_Model_line_j132_12 E l2 l3 y0 s8 else none else none) else (p_Model_line_j132_12 E l2 l3 y0 σ))
set_option maxRecDepth 20000 in
theorem j_Model_line_j90_12 (E : gEv) (d u : Nat) {G : gFr → Prop} {vo : Option Value} {sr : gS} (hG : gClo E gDf gP18 gY198 (some .int) (gC E gDf gMs (d + 0)) (vo, (gSh, sr, u)) G) (l2 : Int32) (l3 : Int32) (l4 : Int32) (y0 : Int32) (σ : gS) {r : (Int32 × Int32 × Int32 × gS) ⊕ (Int32 × gS)} (hP : p_Model_line_j90_12 E l2 l3 l4 y0 σ = some r) (K1 : ∀ (m2 : Int32) (m3 : Int32) (m4 : Int32) (σ1 : gS), r = .inl (m2, m3, m4, σ1) → G (12, [some (.ref 94), none, some (.int m2), some (.int m3), some (.int m4), none, none], [], (gSh, σ1, u))) (K2 : ∀ (m2 : Int32) (σ1 : gS), r = .inr (m2, σ1) → G (162, [some (.ref 94), none, some (.int m2), none, none, none, none], [], (gSh, σ1, u))) : G (90, [some (.ref 94), none, some (.int l2), some (.int l3), some (.int l4), none, none], [.int y0], (gSh, σ, u)) := by
  unfold p_Model_line_j90_12 at hP
  refine gRunN_ok hG.1 2 _ (94, [some (.ref 94), none, some (.int l2), some (.int l3), some (.int l4), none, some (.int y0)], [.int y0], (gSh, σ, u)) rfl ?_
  rcases g_ite hP with ⟨hc, hP⟩ | ⟨hc, hP⟩
  · refine hG.1 _ (132, [some (.ref 94), none, some (.int l2), some (.int l3), some (.int l4), none, some (.int y0)], [], (gSh, σ, u)) _ rfl (if_pos hc) ?_
    refine hG.2.2.2.2.1 _ _ [some (.ref 94), none, some (.int l2), some (.int l3), none, none, some (.int y0)] _ _ ⟨rfl, ⟨rfl, ⟨rfl, ⟨rfl, trivial⟩⟩⟩⟩ ?_
    exact j_Model_line_j132_12 E d u hG l2 l3 y0 σ hP K1 K2
  · refine hG.1 _ (97, [some (.ref 94), none, some (.int l2), some (.int l3), some (.int l4), none, some (.int y0)], [], (gSh, σ, u)) _ rfl (if_neg hc) ?_
    refine gRunN_ok hG.1 1 _ (99, [some (.ref 94), none, some (.int l2), some (.int l3), some (.int l4), none, some (.int y0)], [.int l4], (gSh, σ, u)) rfl ?_
    rcases g_ite hP with ⟨hc, hP⟩ | ⟨hc, hP⟩
    · refine hG.1 _ (102, [some (.ref 94), none, some (.int l2), some (.int l3), some (.int l4), none, some (.int y0)], [], (gSh, σ, u)) _ rfl (if_pos hc) ?_
      refine gRunN_ok hG.1 5 _ (111, [some (.ref 94), none, some (.int l2), some (.int l3), some (.int l4), none, some (.int y0)], [.int l2, .int (σ.1 94 19), .ref 97], (gSh, σ, u)) rfl ?_
      obtain ⟨hc, hP⟩ := g_if hP
      refine hG.1 _ (112, [some (.ref 94), none, some (.int l2), some (.int l3), some (.int l4), none, some (.int y0)], [], (gSh, (gPut σ 97 (σ.1 94 19).toNatClampNeg l2), u)) _ rfl (if_pos hc) ?_
      obtain ⟨s6, es6, hP⟩ := g_let hP
      rw [← es6]
      refine gRunN_ok hG.1 5 _ (121, [some (.ref 94), none, some (.int l2), some (.int l3), some (.int l4), none, some (.int y0)], [.int 0, .int (s6.1 94 19), .ref 98], (gSh, s6, u)) rfl ?_
      obtain ⟨hc, hP⟩ := g_if hP
      refine hG.1 _ (122, [some (.ref 94), none, some (.int l2), some (.int l3), some (.int l4), none, some (.int y0)], [], (gSh, (gPut s6 98 (s6.1 94 19).toNatClampNeg 0), u)) _ rfl (if_pos hc) ?_
      obtain ⟨s7, es7, hP⟩ := g_let hP
      rw [← es7]
      refine gRunN_ok hG.1 6 _ (132, [some (.ref 94), none, some (.int l2), some (.int l3), some (.int l4), none, some (.int y0)], [], (gSh, (gPut s7 94 19 ((s7.1 94 19) + (1 : Int32))), u)) rfl ?_
      obtain ⟨s8, es8, hP⟩ := g_let hP
      rw [← es8]
      refine hG.2.2.2.2.1 _ _ [some (.ref 94), none, some (.int l2), some (.int l3), none, none, some (.int y0)] _ _ ⟨rfl, ⟨rfl, ⟨rfl, ⟨rfl, trivial⟩⟩⟩⟩ ?_
      exact j_Model_line_j132_12 E d u hG l2 l3 y0 s8 hP K1 K2
    · refine hG.1 _ (132, [some (.ref 94), none, some (.int l2), some (.int l3), some (.int l4), none, some (.int y0)], [], (gSh, σ, u)) _ rfl (if_neg hc) ?_
      refine hG.2.2.2.2.1 _ _ [some (.ref 94), none, some (.int l2), some (.int l3), none, none, some (.int y0)] _ _ ⟨rfl, ⟨rfl, ⟨rfl, ⟨rfl, trivial⟩⟩⟩⟩ ?_
      exact j_Model_line_j132_12 E d u hG l2 l3 y0 σ hP K1 K2
def p_Model_line_j89_12 (E : gEv) (l2 : Int32) (l3 : Int32) (l4 : Int32) (σ : gS) : Option ((Int32 × Int32 × Int32 × gS) ⊕ (Int32 × gS)) :=
  p_Model_line_j90_12 E l2 l3 l4 0 σ
set_option maxRecDepth 20000 in
theorem j_Model_line_j89_12 (E : gEv) (d u : Nat) {G : gFr → Prop} {vo : Option Value} {sr : gS} (hG : gClo E gDf gP18 gY198 (some .int) (gC E gDf gMs (d + 0)) (vo, (gSh, sr, u)) G) (l2 : Int32) (l3 : Int32) (l4 : Int32) (σ : gS) {r : (Int32 × Int32 × Int32 × gS) ⊕ (Int32 × gS)} (hP : p_Model_line_j89_12 E l2 l3 l4 σ = some r) (K1 : ∀ (m2 : Int32) (m3 : Int32) (m4 : Int32) (σ1 : gS), r = .inl (m2, m3, m4, σ1) → G (12, [some (.ref 94), none, some (.int m2), some (.int m3), some (.int m4), none, none], [], (gSh, σ1, u))) (K2 : ∀ (m2 : Int32) (σ1 : gS), r = .inr (m2, σ1) → G (162, [some (.ref 94), none, some (.int m2), none, none, none, none], [], (gSh, σ1, u))) : G (89, [some (.ref 94), none, some (.int l2), some (.int l3), some (.int l4), none, none], [], (gSh, σ, u)) := by
  unfold p_Model_line_j89_12 at hP
  refine gRunN_ok hG.1 1 _ (90, [some (.ref 94), none, some (.int l2), some (.int l3), some (.int l4), none, none], [.int 0], (gSh, σ, u)) rfl ?_
  exact j_Model_line_j90_12 E d u hG l2 l3 l4 0 σ hP K1 K2
def p_Model_line_j66_12 (E : gEv) (l2 : Int32) (l4 : Int32) (l5 : Int32) (y0 : Int32) (σ : gS) : Option ((Int32 × Int32 × Int32 × gS) ⊕ (Int32 × gS)) :=
  if y0 = 0 then (if l5 = (32 : Int32) then (p_Model_line_j89_12 E l2 y0 l4 σ) else (if l5 = (9 : Int32) then (p_Model_line_j89_12 E l2 y0 l4 σ) else (p_Model_line_j90_12 E l2 y0 l4 1 σ))) else (p_Model_line_j89_12 E l2 y0 l4 σ)
set_option maxRecDepth 20000 in
theorem j_Model_line_j66_12 (E : gEv) (d u : Nat) {G : gFr → Prop} {vo : Option Value} {sr : gS} (hG : gClo E gDf gP18 gY198 (some .int) (gC E gDf gMs (d + 0)) (vo, (gSh, sr, u)) G) (l2 : Int32) (l4 : Int32) (l5 : Int32) (y0 : Int32) (σ : gS) {r : (Int32 × Int32 × Int32 × gS) ⊕ (Int32 × gS)} (hP : p_Model_line_j66_12 E l2 l4 l5 y0 σ = some r) (K1 : ∀ (m2 : Int32) (m3 : Int32) (m4 : Int32) (σ1 : gS), r = .inl (m2, m3, m4, σ1) → G (12, [some (.ref 94), none, some (.int m2), some (.int m3), some (.int m4), none, none], [], (gSh, σ1, u))) (K2 : ∀ (m2 : Int32) (σ1 : gS), r = .inr (m2, σ1) → G (162, [some (.ref 94), none, some (.int m2), none, none, none, none], [], (gSh, σ1, u))) : G (66, [some (.ref 94), none, some (.int l2), none, some (.int l4), some (.int l5), none], [.int y0], (gSh, σ, u)) := by
  unfold p_Model_line_j66_12 at hP
  refine gRunN_ok hG.1 2 _ (68, [some (.ref 94), none, some (.int l2), some (.int y0), some (.int l4), some (.int l5), none], [.int y0], (gSh, σ, u)) rfl ?_
  rcases g_ite hP with ⟨hc, hP⟩ | ⟨hc, hP⟩
  · refine hG.1 _ (71, [some (.ref 94), none, some (.int l2), some (.int y0), some (.int l4), some (.int l5), none], [], (gSh, σ, u)) _ rfl (if_pos hc) ?_
    refine gRunN_ok hG.1 2 _ (75, [some (.ref 94), none, some (.int l2), some (.int y0), some (.int l4), some (.int l5), none], [.int 32, .int l5], (gSh, σ, u)) rfl ?_
    rcases g_ite hP with ⟨hc, hP⟩ | ⟨hc, hP⟩
    · refine hG.1 _ (89, [some (.ref 94), none, some (.int l2), some (.int y0), some (.int l4), some (.int l5), none], [], (gSh, σ, u)) _ rfl (if_pos hc) ?_
      refine hG.2.2.2.2.1 _ _ [some (.ref 94), none, some (.int l2), some (.int y0), some (.int l4), none, none] _ _ ⟨rfl, ⟨rfl, ⟨rfl, ⟨rfl, trivial⟩⟩⟩⟩ ?_
      exact j_Model_line_j89_12 E d u hG l2 y0 l4 σ hP K1 K2
    · refine hG.1 _ (78, [some (.ref 94), none, some (.int l2), some (.int y0), some (.int l4), some (.int l5), none], [], (gSh, σ, u)) _ rfl (if_neg hc) ?_
      refine gRunN_ok hG.1 2 _ (82, [some (.ref 94), none, some (.int l2), some (.int y0), some (.int l4), some (.int l5), none], [.int 9, .int l5], (gSh, σ, u)) rfl ?_
      rcases g_ite hP with ⟨hc, hP⟩ | ⟨hc, hP⟩
      · refine hG.1 _ (89, [some (.ref 94), none, some (.int l2), some (.int y0), some (.int l4), some (.int l5), none], [], (gSh, σ, u)) _ rfl (if_pos hc) ?_
        refine hG.2.2.2.2.1 _ _ [some (.ref 94), none, some (.int l2), some (.int y0), some (.int l4), none, none] _ _ ⟨rfl, ⟨rfl, ⟨rfl, ⟨rfl, trivial⟩⟩⟩⟩ ?_
        exact j_Model_line_j89_12 E d u hG l2 y0 l4 σ hP K1 K2
      · refine hG.1 _ (85, [some (.ref 94), none, some (.int l2), some (.int y0), some (.int l4), some (.int l5), none], [], (gSh, σ, u)) _ rfl (if_neg hc) ?_
        refine gRunN_ok hG.1 2 _ (90, [some (.ref 94), none, some (.int l2), some (.int y0), some (.int l4), some (.int l5), none], [.int 1], (gSh, σ, u)) rfl ?_
        refine hG.2.2.2.2.1 _ _ [some (.ref 94), none, some (.int l2), some (.int y0), some (.int l4), none, none] _ _ ⟨rfl, ⟨rfl, ⟨rfl, ⟨rfl, trivial⟩⟩⟩⟩ ?_
        exact j_Model_line_j90_12 E d u hG l2 y0 l4 1 σ hP K1 K2
  · refine hG.1 _ (89, [some (.ref 94), none, some (.int l2), some (.int y0), some (.int l4), some (.int l5), none], [], (gSh, σ, u)) _ rfl (if_neg hc) ?_
    refine hG.2.2.2.2.1 _ _ [some (.ref 94), none, some (.int l2), some (.int y0), some (.int l4), none, none] _ _ ⟨rfl, ⟨rfl, ⟨rfl, ⟨rfl, trivial⟩⟩⟩⟩ ?_
    exact j_Model_line_j89_12 E d u hG l2 y0 l4 σ hP K1 K2
def p_Model_line_j61_12 (E : gEv) (l2 : Int32) (l4 : Int32) (l5 : Int32) (σ : gS) : Option ((Int32 × Int32 × Int32 × gS) ⊕ (Int32 × gS)) :=
  p_Model_line_j66_12 E l2 l4 l5 1 σ
set_option maxRecDepth 20000 in
theorem j_Model_line_j61_12 (E : gEv) (d u : Nat) {G : gFr → Prop} {vo : Option Value} {sr : gS} (hG : gClo E gDf gP18 gY198 (some .int) (gC E gDf gMs (d + 0)) (vo, (gSh, sr, u)) G) (l2 : Int32) (l4 : Int32) (l5 : Int32) (σ : gS) {r : (Int32 × Int32 × Int32 × gS) ⊕ (Int32 × gS)} (hP : p_Model_line_j61_12 E l2 l4 l5 σ = some r) (K1 : ∀ (m2 : Int32) (m3 : Int32) (m4 : Int32) (σ1 : gS), r = .inl (m2, m3, m4, σ1) → G (12, [some (.ref 94), none, some (.int m2), some (.int m3), some (.int m4), none, none], [], (gSh, σ1, u))) (K2 : ∀ (m2 : Int32) (σ1 : gS), r = .inr (m2, σ1) → G (162, [some (.ref 94), none, some (.int m2), none, none, none, none], [], (gSh, σ1, u))) : G (61, [some (.ref 94), none, some (.int l2), none, some (.int l4), some (.int l5), none], [], (gSh, σ, u)) := by
  unfold p_Model_line_j61_12 at hP
  refine gRunN_ok hG.1 2 _ (66, [some (.ref 94), none, some (.int l2), none, some (.int l4), some (.int l5), none], [.int 1], (gSh, σ, u)) rfl ?_
  exact j_Model_line_j66_12 E d u hG l2 l4 l5 1 σ hP K1 K2
def p_Model_line_j36_12 (E : gEv) (l2 : Int32) (l3 : Int32) (l4 : Int32) (y1 : Int32) (σ : gS) : Option ((Int32 × Int32 × Int32 × gS) ⊕ (Int32 × gS)) :=
  if gIn y1 (σ.2.1 96) then if (σ.1 96 y1.toNatClampNeg) = (10 : Int32) then (some (.inr (l2, σ))) else (if gIn l2 (σ.2.1 96) then gLet (σ.1 96 l2.toNatClampNeg) fun x2 => if l3 = 0 then (if x2 = (35 : Int32) then (p_Model_line_j61_12 E l2 l4 x2 σ) else (p_Model_line_j66_12 E l2 l4 x2 0 σ)) else (p_Model_line_j61_12 E l2 l4 x2 σ) else none) else none
set_option maxRecDepth 20000 in
theorem j_Model_line_j36_12 (E : gEv) (d u : Nat) {G : gFr → Prop} {vo : Option Value} {sr : gS} (hG : gClo E gDf gP18 gY198 (some .int) (gC E gDf gMs (d + 0)) (vo, (gSh, sr, u)) G) (l2 : Int32) (l3 : Int32) (l4 : Int32) (y1 : Int32) (σ : gS) {r : (Int32 × Int32 × Int32 × gS) ⊕ (Int32 × gS)} (hP : p_Model_line_j36_12 E l2 l3 l4 y1 σ = some r) (K1 : ∀ (m2 : Int32) (m3 : Int32) (m4 : Int32) (σ1 : gS), r = .inl (m2, m3, m4, σ1) → G (12, [some (.ref 94), none, some (.int m2), some (.int m3), some (.int m4), none, none], [], (gSh, σ1, u))) (K2 : ∀ (m2 : Int32) (σ1 : gS), r = .inr (m2, σ1) → G (162, [some (.ref 94), none, some (.int m2), none, none, none, none], [], (gSh, σ1, u))) : G (36, [some (.ref 94), none, some (.int l2), some (.int l3), some (.int l4), none, none], [.int y1, .ref 96], (gSh, σ, u)) := by
  unfold p_Model_line_j36_12 at hP
  obtain ⟨hc, hP⟩ := g_if hP
  refine hG.1 _ (37, [some (.ref 94), none, some (.int l2), some (.int l3), some (.int l4), none, none], [.int (σ.1 96 y1.toNatClampNeg)], (gSh, σ, u)) _ rfl (if_pos hc) ?_
  refine gRunN_ok hG.1 1 _ (39, [some (.ref 94), none, some (.int l2), some (.int l3), some (.int l4), none, none], [.int 10, .int (σ.1 96 y1.toNatClampNeg)], (gSh, σ, u)) rfl ?_
  rcases g_ite hP with ⟨hc, hP⟩ | ⟨hc, hP⟩
  · refine hG.1 _ (162, [some (.ref 94), none, some (.int l2), some (.int l3), some (.int l4), none, none], [], (gSh, σ, u)) _ rfl (if_pos hc) ?_
    refine hG.2.2.2.2.1 _ _ [some (.ref 94), none, some (.int l2), none, none, none, none] _ _ ⟨rfl, ⟨rfl, trivial⟩⟩ ?_
    cases hP
    exact K2 _ _ rfl
  · refine hG.1 _ (42, [some (.ref 94), none, some (.int l2), some (.int l3), some (.int l4), none, none], [], (gSh, σ, u)) _ rfl (if_neg hc) ?_
    refine gRunN_ok hG.1 3 _ (47, [some (.ref 94), none, some (.int l2), some (.int l3), some (.int l4), none, none], [.int l2, .ref 96], (gSh, σ, u)) rfl ?_
    obtain ⟨hc, hP⟩ := g_if hP
    refine hG.1 _ (48, [some (.ref 94), none, some (.int l2), some (.int l3), some (.int l4), none, none], [.int (σ.1 96 l2.toNatClampNeg)], (gSh, σ, u)) _ rfl (if_pos hc) ?_
    refine gRunN_ok hG.1 1 _ (50, [some (.ref 94), none, some (.int l2), some (.int l3), some (.int l4), some (.int (σ.1 96 l2.toNatClampNeg)), none], [], (gSh, σ, u)) rfl ?_
    obtain ⟨x2, ex2, hP⟩ := g_let hP
    rw [← ex2]
    refine gRunN_ok hG.1 1 _ (51, [some (.ref 94), none, some (.int l2), some (.int l3), some (.int l4), some (.int x2), none], [.int l3], (gSh, σ, u)) rfl ?_
    rcases g_ite hP with ⟨hc, hP⟩ | ⟨hc, hP⟩
    · refine hG.1 _ (54, [some (.ref 94), none, some (.int l2), some (.int l3), some (.int l4), some (.int x2), none], [], (gSh, σ, u)) _ rfl (if_pos hc) ?_
      refine gRunN_ok hG.1 2 _ (58, [some (.ref 94), none, some (.int l2), some (.int l3), some (.int l4), some (.int x2), none], [.int 35, .int x2], (gSh, σ, u)) rfl ?_
      rcases g_ite hP with ⟨hc, hP⟩ | ⟨hc, hP⟩
      · refine hG.1 _ (61, [some (.ref 94), none, some (.int l2), some (.int l3), some (.int l4), some (.int x2), none], [], (gSh, σ, u)) _ rfl (if_pos hc) ?_
        refine hG.2.2.2.2.1 _ _ [some (.ref 94), none, some (.int l2), none, some (.int l4), some (.int x2), none] _ _ ⟨rfl, ⟨rfl, ⟨rfl, ⟨rfl, trivial⟩⟩⟩⟩ ?_
        exact j_Model_line_j61_12 E d u hG l2 l4 x2 σ hP K1 K2
      · refine hG.1 _ (65, [some (.ref 94), none, some (.int l2), some (.int l3), some (.int l4), some (.int x2), none], [], (gSh, σ, u)) _ rfl (if_neg hc) ?_
        refine gRunN_ok hG.1 1 _ (66, [some (.ref 94), none, some (.int l2), some (.int l3), some (.int l4), some (.int x2), none], [.int 0], (gSh, σ, u)) rfl ?_
        refine hG.2.2.2.2.1 _ _ [some (.ref 94), none, some (.int l2), none, some (.int l4), some (.int x2), none] _ _ ⟨rfl, ⟨rfl, ⟨rfl, ⟨rfl, trivial⟩⟩⟩⟩ ?_
        exact j_Model_line_j66_12 E d u hG l2 l4 x2 0 σ hP K1 K2
    · refine hG.1 _ (61, [some (.ref 94), none, some (.int l2), some (.int l3), some (.int l4), some (.int x2), none], [], (gSh, σ, u)) _ rfl (if_neg hc) ?_
      refine hG.2.2.2.2.1 _ _ [some (.ref 94), none, some (.int l2), none, some (.int l4), some (.int x2), none] _ _ ⟨rfl, ⟨rfl, ⟨rfl, ⟨rfl, trivial⟩⟩⟩⟩ ?_
      exact j_Model_line_j61_12 E d u hG l2 l4 x2 σ hP K1 K2
def p_Model_line_12 (E : gEv) (l2 : Int32) (l3 : Int32) (l4 : Int32) (σ : gS) : Option ((Int32 × Int32 × Int32 × gS) ⊕ (Int32 × gS)) :=
  if (σ.1 94 16) ≤ l2 then (some (.inr (l2, σ))) else (if (4000 : Int32) ≤ l2 then (p_Model_line_j36_12 E l2 l3 l4 0 σ) else (p_Model_line_j36_12 E l2 l3 l4 l2 σ))
set_option maxRecDepth 20000 in
theorem b_Model_line_12 (E : gEv) (d u : Nat) {G : gFr → Prop} {vo : Option Value} {sr : gS} (hG : gClo E gDf gP18 gY198 (some .int) (gC E gDf gMs (d + 0)) (vo, (gSh, sr, u)) G) (l2 : Int32) (l3 : Int32) (l4 : Int32) (σ : gS) {r : (Int32 × Int32 × Int32 × gS) ⊕ (Int32 × gS)} (hP : p_Model_line_12 E l2 l3 l4 σ = some r) (K1 : ∀ (m2 : Int32) (m3 : Int32) (m4 : Int32) (σ1 : gS), r = .inl (m2, m3, m4, σ1) → G (12, [some (.ref 94), none, some (.int m2), some (.int m3), some (.int m4), none, none], [], (gSh, σ1, u))) (K2 : ∀ (m2 : Int32) (σ1 : gS), r = .inr (m2, σ1) → G (162, [some (.ref 94), none, some (.int m2), none, none, none, none], [], (gSh, σ1, u))) : G (12, [some (.ref 94), none, some (.int l2), some (.int l3), some (.int l4), none, none], [], (gSh, σ, u)) := by
  unfold p_Model_line_12 at hP
  refine gRunN_ok hG.1 3 _ (17, [some (.ref 94), none, some (.int l2), some (.int l3), some (.int l4), none, none], [.int (σ.1 94 16), .int l2], (gSh, σ, u)) rfl ?_
  rcases g_ite hP with ⟨hc, hP⟩ | ⟨hc, hP⟩
  · refine hG.1 _ (162, [some (.ref 94), none, some (.int l2), some (.int l3), some (.int l4), none, none], [], (gSh, σ, u)) _ rfl (if_pos hc) ?_
    refine hG.2.2.2.2.1 _ _ [some (.ref 94), none, some (.int l2), none, none, none, none] _ _ ⟨rfl, ⟨rfl, trivial⟩⟩ ?_
    cases hP
    exact K2 _ _ rfl
  · refine hG.1 _ (20, [some (.ref 94), none, some (.int l2), some (.int l3), some (.int l4), none, none], [], (gSh, σ, u)) _ rfl (if_neg hc) ?_
    refine gRunN_ok hG.1 4 _ (28, [some (.ref 94), none, some (.int l2), some (.int l3), some (.int l4), none, none], [.int 4000, .int l2, .ref 96], (gSh, σ, u)) rfl ?_
    rcases g_ite hP with ⟨hc, hP⟩ | ⟨hc, hP⟩
    · refine hG.1 _ (35, [some (.ref 94), none, some (.int l2), some (.int l3), some (.int l4), none, none], [.ref 96], (gSh, σ, u)) _ rfl (if_pos hc) ?_
      refine gRunN_ok hG.1 1 _ (36, [some (.ref 94), none, some (.int l2), some (.int l3), some (.int l4), none, none], [.int 0, .ref 96], (gSh, σ, u)) rfl ?_
      exact j_Model_line_j36_12 E d u hG l2 l3 l4 0 σ hP K1 K2
    · refine hG.1 _ (31, [some (.ref 94), none, some (.int l2), some (.int l3), some (.int l4), none, none], [.ref 96], (gSh, σ, u)) _ rfl (if_neg hc) ?_
      refine gRunN_ok hG.1 2 _ (36, [some (.ref 94), none, some (.int l2), some (.int l3), some (.int l4), none, none], [.int l2, .ref 96], (gSh, σ, u)) rfl ?_
      exact j_Model_line_j36_12 E d u hG l2 l3 l4 l2 σ hP K1 K2
theorem l_Model_line_12 (E : gEv) (d u : Nat) {G : gFr → Prop} {vo : Option Value} {sr : gS} (hG : gClo E gDf gP18 gY198 (some .int) (gC E gDf gMs (d + 0)) (vo, (gSh, sr, u)) G) : ∀ (n : Nat) (l2 : Int32) (l3 : Int32) (l4 : Int32) (σ : gS) (e : (Int32 × gS)), gIter (fun z => p_Model_line_12 E z.1 z.2.1 z.2.2.1 z.2.2.2) n (l2, l3, l4, σ) = some e → (∀ (m2 : Int32) (σ1 : gS), e = (m2, σ1) → G (162, [some (.ref 94), none, some (.int m2), none, none, none, none], [], (gSh, σ1, u))) → G (12, [some (.ref 94), none, some (.int l2), some (.int l3), some (.int l4), none, none], [], (gSh, σ, u)) := by
  intro n
  induction n with
  | zero => intro l2 l3 l4 σ e h; cases h
  | succ n ih =>
    intro l2 l3 l4 σ e h K2
    rcases g_iter h with ⟨z, h1, h2⟩ | h1
    · exact b_Model_line_12 E d u hG l2 l3 l4 σ h1 (fun n0 n1 n2 n3 hz => by cases hz; exact ih _ _ _ _ e h2 K2) (fun _ _ hz => by cases hz)
    · exact b_Model_line_12 E d u hG l2 l3 l4 σ h1 (fun _ _ _ _ hz => by cases hz) (fun m2 σ1 hz => K2 m2 σ1 (by cases hz; rfl))
def p_Model_line_j162 (E : gEv) (l2 : Int32) (σ : gS) : Option (Int32 × gS) :=
  gLet (gPut σ 94 20 l2) fun s12 => some (l2 + (1 : Int32), s12)
set_option maxRecDepth 20000 in
theorem j_Model_line_j162 (E : gEv) (d u : Nat) {G : gFr → Prop} {v : Int32} {sr : gS} (hG : gClo E gDf gP18 gY198 (some .int) (gC E gDf gMs (d + 0)) (some (.int v), (gSh, sr, u)) G) (l2 : Int32) (σ : gS) (hP : p_Model_line_j162 E l2 σ = some (v, sr)) : G (162, [some (.ref 94), none, some (.int l2), none, none, none, none], [], (gSh, σ, u)) := by
  unfold p_Model_line_j162 at hP
  refine gRunN_ok hG.1 3 _ (167, [some (.ref 94), none, some (.int l2), none, none, none, none], [], (gSh, (gPut σ 94 20 l2), u)) rfl ?_
  obtain ⟨s12, es12, hP⟩ := g_let hP
  rw [← es12]
  refine gRunN_ok hG.1 3 _ (170, [some (.ref 94), none, some (.int l2), none, none, none, none], [.int (l2 + (1 : Int32))], (gSh, s12, u)) rfl ?_
  cases hP
  exact hG.2.1 _ _ rfl rfl
def p_Model_line (E : gEv) (a0 : Int32) (σ : gS) : Option (Int32 × gS) :=
  gLet (gPut σ 94 19 0) fun s1 => gB1 (gIter (fun z => p_Model_line_12 E z.1 z.2.1 z.2.2.1 z.2.2.2) gN (a0, 0, 0, s1)) fun e9 => (fun w10 s11 => p_Model_line_j162 E w10 s11) e9.1 e9.2
set_option maxRecDepth 20000 in
theorem c_Model_line (E : gEv) (d u : Nat) (a0 : Int32) (σ : gS) {v : Int32} {sr : gS}  (hq : p_Model_line E a0 σ = some (v, sr)) : gC E gDf gMs (d + 1) 198 [.ref 94, .int a0] (gSh, σ, u) (some (.int v), (gSh, sr, u)) := ⟨gM198, rfl, Nat.le_of_ble_eq_true rfl, fun G hG => by
  have hP := hq
  unfold p_Model_line at hP
  replace hG : gClo E gDf gP18 gY198 (some .int) (gC E gDf gMs (d + 0)) (some (.int v), (gSh, sr, u)) G := hG
  show G (0, [some (.ref 94), some (.int a0), none, none, none, none, none], [], (gSh, σ, u))
  refine gRunN_ok hG.1 3 _ (5, [some (.ref 94), some (.int a0), none, none, none, none, none], [], (gSh, (gPut σ 94 19 0), u)) rfl ?_
  obtain ⟨s1, es1, hP⟩ := g_let hP
  rw [← es1]
  refine gRunN_ok hG.1 6 _ (12, [some (.ref 94), some (.int a0), some (.int a0), some (.int 0), some (.int 0), none, none], [], (gSh, s1, u)) rfl ?_
  refine hG.2.2.2.2.1 _ _ [some (.ref 94), none, some (.int a0), some (.int 0), some (.int 0), none, none] _ _ ⟨rfl, ⟨rfl, ⟨rfl, ⟨rfl, trivial⟩⟩⟩⟩ ?_
  obtain ⟨e9, hq, hP⟩ := g_b1 hP
  refine l_Model_line_12 E d u hG gN a0 0 0 s1 _ hq (fun w10 s11 he => ?_)
  · subst he
    try dsimp only [gSum] at hP
    exact j_Model_line_j162 E d u hG w10 s11 hP⟩
def p_Model_fail (E : gEv) (a0 : Int32) (a1 : Int32) (σ : gS) : Option (gS) :=
  if (σ.1 94 17) = 0 then (gLet (gPut σ 94 17 a0) fun s1 => gLet (gPut s1 94 18 a1) fun s2 => some s2) else (some σ)
set_option maxRecDepth 20000 in
theorem c_Model_fail (E : gEv) (d u : Nat) (a0 : Int32) (a1 : Int32) (σ : gS) {sr : gS}  (hq : p_Model_fail E a0 a1 σ = some sr) : gC E gDf gMs (d + 1) 200 [.ref 94, .int a0, .int a1] (gSh, σ, u) (none, (gSh, sr, u)) := ⟨gM200, rfl, Nat.le_of_ble_eq_true rfl, fun G hG => by
  have hP := hq
  unfold p_Model_fail at hP
  replace hG : gClo E gDf gP18 gY200 none (gC E gDf gMs (d + 0)) (none, (gSh, sr, u)) G := hG
  show G (0, [some (.ref 94), some (.int a0), some (.int a1)], [], (gSh, σ, u))
  refine gRunN_ok hG.1 2 _ (4, [some (.ref 94), some (.int a0), some (.int a1)], [.int (σ.1 94 17)], (gSh, σ, u)) rfl ?_
  rcases g_ite hP with ⟨hc, hP⟩ | ⟨hc, hP⟩
  · refine hG.1 _ (7, [some (.ref 94), some (.int a0), some (.int a1)], [], (gSh, σ, u)) _ rfl (if_pos hc) ?_
    refine gRunN_ok hG.1 3 _ (12, [some (.ref 94), some (.int a0), some (.int a1)], [], (gSh, (gPut σ 94 17 a0), u)) rfl ?_
    obtain ⟨s1, es1, hP⟩ := g_let hP
    rw [← es1]
    refine gRunN_ok hG.1 3 _ (17, [some (.ref 94), some (.int a0), some (.int a1)], [], (gSh, (gPut s1 94 18 a1), u)) rfl ?_
    obtain ⟨s2, es2, hP⟩ := g_let hP
    rw [← es2]
    cases hP
    exact hG.2.1 _ _ rfl rfl
  · refine hG.1 _ (17, [some (.ref 94), some (.int a0), some (.int a1)], [], (gSh, σ, u)) _ rfl (if_neg hc) ?_
    cases hP
    exact hG.2.1 _ _ rfl rfl⟩
def p_Model_isUsed (E : gEv) (a0 : Int32) (a1 : Int32) (σ : gS) : Option (gS) :=
  if gIn a0 (σ.2.1 103) then if (σ.1 103 a0.toNatClampNeg) = ((-1) : Int32) then (if gIn a0 (σ.2.1 103) then gLet (gPut σ 103 a0.toNatClampNeg a1) fun s1 => some s1 else none) else (some σ) else none
set_option maxRecDepth 20000 in
theorem c_Model_isUsed (E : gEv) (d u : Nat) (a0 : Int32) (a1 : Int32) (σ : gS) {sr : gS}  (hq : p_Model_isUsed E a0 a1 σ = some sr) : gC E gDf gMs (d + 1) 205 [.ref 94, .int a0, .int a1] (gSh, σ, u) (none, (gSh, sr, u)) := ⟨gM205, rfl, Nat.le_of_ble_eq_true rfl, fun G hG => by
  have hP := hq
  unfold p_Model_isUsed at hP
  replace hG : gClo E gDf gP18 gY205 none (gC E gDf gMs (d + 0)) (none, (gSh, sr, u)) G := hG
  show G (0, [some (.ref 94), some (.int a0), some (.int a1)], [], (gSh, σ, u))
  refine gRunN_ok hG.1 3 _ (5, [some (.ref 94), some (.int a0), some (.int a1)], [.int a0, .ref 103], (gSh, σ, u)) rfl ?_
  obtain ⟨hc, hP⟩ := g_if hP
  refine hG.1 _ (6, [some (.ref 94), some (.int a0), some (.int a1)], [.int (σ.1 103 a0.toNatClampNeg)], (gSh, σ, u)) _ rfl (if_pos hc) ?_
  refine gRunN_ok hG.1 1 _ (7, [some (.ref 94), some (.int a0), some (.int a1)], [.int (-1), .int (σ.1 103 a0.toNatClampNeg)], (gSh, σ, u)) rfl ?_
  rcases g_ite hP with ⟨hc, hP⟩ | ⟨hc, hP⟩
  · refine hG.1 _ (10, [some (.ref 94), some (.int a0), some (.int a1)], [], (gSh, σ, u)) _ rfl (if_pos hc) ?_
    refine gRunN_ok hG.1 4 _ (16, [some (.ref 94), some (.int a0), some (.int a1)], [.int a1, .int a0, .ref 103], (gSh, σ, u)) rfl ?_
    obtain ⟨hc, hP⟩ := g_if hP
    refine hG.1 _ (17, [some (.ref 94), some (.int a0), some (.int a1)], [], (gSh, (gPut σ 103 a0.toNatClampNeg a1), u)) _ rfl (if_pos hc) ?_
    obtain ⟨s1, es1, hP⟩ := g_let hP
    rw [← es1]
    cases hP
    exact hG.2.1 _ _ rfl rfl
  · refine hG.1 _ (17, [some (.ref 94), some (.int a0), some (.int a1)], [], (gSh, σ, u)) _ rfl (if_neg hc) ?_
    cases hP
    exact hG.2.1 _ _ rfl rfl⟩
def p_Model_source (E : gEv) (a0 : Int32) (σ : gS) : Option (Int32) :=
  if gIn a0 (σ.2.1 101) then if (σ.1 101 a0.toNatClampNeg) = (1 : Int32) then (if gIn a0 (σ.2.1 102) then some (σ.1 102 a0.toNatClampNeg) else none) else (if gIn a0 (σ.2.1 101) then if (σ.1 101 a0.toNatClampNeg) = (2 : Int32) then (if gIn a0 (σ.2.1 102) then some ((200 : Int32) + (σ.1 102 a0.toNatClampNeg)) else none) else (if gIn a0 (σ.2.1 119) then some (σ.1 119 a0.toNatClampNeg) else none) else none) else none
set_option maxRecDepth 20000 in
theorem c_Model_source (E : gEv) (d u : Nat) (a0 : Int32) (σ : gS) {v : Int32}  (hq : p_Model_source E a0 σ = some v) : gC E gDf gMs (d + 1) 210 [.ref 94, .int a0] (gSh, σ, u) (some (.int v), (gSh, σ, u)) := ⟨gM210, rfl, Nat.le_of_ble_eq_true rfl, fun G hG => by
  have hP := hq
  unfold p_Model_source at hP
  replace hG : gClo E gDf gP18 gY210 (some .int) (gC E gDf gMs (d + 0)) (some (.int v), (gSh, σ, u)) G := hG
  show G (0, [some (.ref 94), some (.int a0)], [], (gSh, σ, u))
  refine gRunN_ok hG.1 3 _ (5, [some (.ref 94), some (.int a0)], [.int a0, .ref 101], (gSh, σ, u)) rfl ?_
  obtain ⟨hc, hP⟩ := g_if hP
  refine hG.1 _ (6, [some (.ref 94), some (.int a0)], [.int (σ.1 101 a0.toNatClampNeg)], (gSh, σ, u)) _ rfl (if_pos hc) ?_
  refine gRunN_ok hG.1 1 _ (7, [some (.ref 94), some (.int a0)], [.int 1, .int (σ.1 101 a0.toNatClampNeg)], (gSh, σ, u)) rfl ?_
  rcases g_ite hP with ⟨hc, hP⟩ | ⟨hc, hP⟩
  · refine hG.1 _ (10, [some (.ref 94), some (.int a0)], [], (gSh, σ, u)) _ rfl (if_pos hc) ?_
    refine gRunN_ok hG.1 3 _ (15, [some (.ref 94), some (.int a0)], [.int a0, .ref 102], (gSh, σ, u)) rfl ?_
    obtain ⟨hc, hP⟩ := g_if hP
    refine hG.1 _ (16, [some (.ref 94), some (.int a0)], [.int (σ.1 102 a0.toNatClampNeg)], (gSh, σ, u)) _ rfl (if_pos hc) ?_
    refine gRunN_ok hG.1 1 _ (48, [some (.ref 94), some (.int a0)], [.int (σ.1 102 a0.toNatClampNeg)], (gSh, σ, u)) rfl ?_
    cases hP
    exact hG.2.1 _ _ rfl rfl
  · refine hG.1 _ (19, [some (.ref 94), some (.int a0)], [], (gSh, σ, u)) _ rfl (if_neg hc) ?_
    refine gRunN_ok hG.1 3 _ (24, [some (.ref 94), some (.int a0)], [.int a0, .ref 101], (gSh, σ, u)) rfl ?_
    obtain ⟨hc, hP⟩ := g_if hP
    refine hG.1 _ (25, [some (.ref 94), some (.int a0)], [.int (σ.1 101 a0.toNatClampNeg)], (gSh, σ, u)) _ rfl (if_pos hc) ?_
    refine gRunN_ok hG.1 1 _ (26, [some (.ref 94), some (.int a0)], [.int 2, .int (σ.1 101 a0.toNatClampNeg)], (gSh, σ, u)) rfl ?_
    rcases g_ite hP with ⟨hc, hP⟩ | ⟨hc, hP⟩
    · refine hG.1 _ (29, [some (.ref 94), some (.int a0)], [], (gSh, σ, u)) _ rfl (if_pos hc) ?_
      refine gRunN_ok hG.1 4 _ (37, [some (.ref 94), some (.int a0)], [.int a0, .ref 102, .int 200], (gSh, σ, u)) rfl ?_
      obtain ⟨hc, hP⟩ := g_if hP
      refine hG.1 _ (38, [some (.ref 94), some (.int a0)], [.int (σ.1 102 a0.toNatClampNeg), .int 200], (gSh, σ, u)) _ rfl (if_pos hc) ?_
      refine gRunN_ok hG.1 2 _ (48, [some (.ref 94), some (.int a0)], [.int ((200 : Int32) + (σ.1 102 a0.toNatClampNeg))], (gSh, σ, u)) rfl ?_
      cases hP
      exact hG.2.1 _ _ rfl rfl
    · refine hG.1 _ (42, [some (.ref 94), some (.int a0)], [], (gSh, σ, u)) _ rfl (if_neg hc) ?_
      refine gRunN_ok hG.1 3 _ (47, [some (.ref 94), some (.int a0)], [.int a0, .ref 119], (gSh, σ, u)) rfl ?_
      obtain ⟨hc, hP⟩ := g_if hP
      refine hG.1 _ (48, [some (.ref 94), some (.int a0)], [.int (σ.1 119 a0.toNatClampNeg)], (gSh, σ, u)) _ rfl (if_pos hc) ?_
      cases hP
      exact hG.2.1 _ _ rfl rfl⟩
def p_Model_depends_2 (E : gEv) (l1 : Int32) (l2 : Int32) (l3 : Int32) (σ : gS) : Option ((Int32) ⊕ ((Unit) ⊕ (Unit))) :=
  if gIn l1 (σ.2.1 122) then if ((1 : Int32) <<< ((σ.1 122 l1.toNatClampNeg) &&& 31)) ≤ l3 then (some (.inr (.inr ()))) else (if gIn (((256 : Int32) * l1) + l3) (σ.2.1 120) then if gIn (((256 : Int32) * l1) + (l3 ^^^ ((1 : Int32) <<< (l2 &&& 31)))) (σ.2.1 120) then if (σ.1 120 (((256 : Int32) * l1) + l3).toNatClampNeg) = (σ.1 120 (((256 : Int32) * l1) + (l3 ^^^ ((1 : Int32) <<< (l2 &&& 31)))).toNatClampNeg) then (gLet (l3 + 1) fun x1 => some (.inl x1)) else (some (.inr (.inl ()))) else none else none) else none
set_option maxRecDepth 20000 in
theorem b_Model_depends_2 (E : gEv) (d u : Nat) {G : gFr → Prop} {vo : Option Value} {sr : gS} (hG : gClo E gDf gP18 gY211 (some .boolean) (gC E gDf gMs (d + 0)) (vo, (gSh, sr, u)) G) (l1 : Int32) (l2 : Int32) (l3 : Int32) (σ : gS) {r : (Int32) ⊕ ((Unit) ⊕ (Unit))} (hP : p_Model_depends_2 E l1 l2 l3 σ = some r) (K1 : ∀ (m3 : Int32), r = .inl m3 → G (2, [some (.ref 94), some (.int l1), some (.int l2), some (.int m3)], [], (gSh, σ, u))) (K2 : r = .inr (.inl ()) → G (45, [none, none, none, none], [], (gSh, σ, u))) (K3 : r = .inr (.inr ()) → G (53, [none, none, none, none], [], (gSh, σ, u))) : G (2, [some (.ref 94), some (.int l1), some (.int l2), some (.int l3)], [], (gSh, σ, u)) := by
  unfold p_Model_depends_2 at hP
  refine gRunN_ok hG.1 5 _ (9, [some (.ref 94), some (.int l1), some (.int l2), some (.int l3)], [.int l1, .ref 122, .int 1, .int l3], (gSh, σ, u)) rfl ?_
  obtain ⟨hc, hP⟩ := g_if hP
  refine hG.1 _ (10, [some (.ref 94), some (.int l1), some (.int l2), some (.int l3)], [.int (σ.1 122 l1.toNatClampNeg), .int 1, .int l3], (gSh, σ, u)) _ rfl (if_pos hc) ?_
  refine gRunN_ok hG.1 1 _ (11, [some (.ref 94), some (.int l1), some (.int l2), some (.int l3)], [.int ((1 : Int32) <<< ((σ.1 122 l1.toNatClampNeg) &&& 31)), .int l3], (gSh, σ, u)) rfl ?_
  rcases g_ite hP with ⟨hc, hP⟩ | ⟨hc, hP⟩
  · refine hG.1 _ (53, [some (.ref 94), some (.int l1), some (.int l2), some (.int l3)], [], (gSh, σ, u)) _ rfl (if_pos hc) ?_
    refine hG.2.2.2.2.1 _ _ [none, none, none, none] _ _ trivial ?_
    cases hP
    exact K3 rfl
  · refine hG.1 _ (14, [some (.ref 94), some (.int l1), some (.int l2), some (.int l3)], [], (gSh, σ, u)) _ rfl (if_neg hc) ?_
    refine gRunN_ok hG.1 7 _ (25, [some (.ref 94), some (.int l1), some (.int l2), some (.int l3)], [.int (((256 : Int32) * l1) + l3), .ref 120], (gSh, σ, u)) rfl ?_
    obtain ⟨hc, hP⟩ := g_if hP
    refine hG.1 _ (26, [some (.ref 94), some (.int l1), some (.int l2), some (.int l3)], [.int (σ.1 120 (((256 : Int32) * l1) + l3).toNatClampNeg)], (gSh, σ, u)) _ rfl (if_pos hc) ?_
    refine gRunN_ok hG.1 11 _ (41, [some (.ref 94), some (.int l1), some (.int l2), some (.int l3)], [.int (((256 : Int32) * l1) + (l3 ^^^ ((1 : Int32) <<< (l2 &&& 31)))), .ref 120, .int (σ.1 120 (((256 : Int32) * l1) + l3).toNatClampNeg)], (gSh, σ, u)) rfl ?_
    obtain ⟨hc, hP⟩ := g_if hP
    refine hG.1 _ (42, [some (.ref 94), some (.int l1), some (.int l2), some (.int l3)], [.int (σ.1 120 (((256 : Int32) * l1) + (l3 ^^^ ((1 : Int32) <<< (l2 &&& 31)))).toNatClampNeg), .int (σ.1 120 (((256 : Int32) * l1) + l3).toNatClampNeg)], (gSh, σ, u)) _ rfl (if_pos hc) ?_
    rcases g_ite hP with ⟨hc, hP⟩ | ⟨hc, hP⟩
    · refine hG.1 _ (47, [some (.ref 94), some (.int l1), some (.int l2), some (.int l3)], [], (gSh, σ, u)) _ rfl (if_pos hc) ?_
      refine gRunN_ok hG.1 1 _ (50, [some (.ref 94), some (.int l1), some (.int l2), some (.int (l3 + 1))], [], (gSh, σ, u)) rfl ?_
      obtain ⟨x1, ex1, hP⟩ := g_let hP
      rw [← ex1]
      refine gRunN_ok hG.1 1 _ (2, [some (.ref 94), some (.int l1), some (.int l2), some (.int x1)], [], (gSh, σ, u)) rfl ?_
      cases hP
      exact K1 _ rfl
    · refine hG.1 _ (45, [some (.ref 94), some (.int l1), some (.int l2), some (.int l3)], [], (gSh, σ, u)) _ rfl (if_neg hc) ?_
      refine hG.2.2.2.2.1 _ _ [none, none, none, none] _ _ trivial ?_
      cases hP
      exact K2 rfl
theorem l_Model_depends_2 (E : gEv) (d u : Nat) {G : gFr → Prop} {vo : Option Value} {sr : gS} (hG : gClo E gDf gP18 gY211 (some .boolean) (gC E gDf gMs (d + 0)) (vo, (gSh, sr, u)) G) (l1 : Int32) (l2 : Int32) (σ : gS) : ∀ (n : Nat) (l3 : Int32) (e : ((Unit) ⊕ (Unit))), gIter (fun z => p_Model_depends_2 E l1 l2 z σ) n l3 = some e → ( e = (.inl ()) → G (45, [none, none, none, none], [], (gSh, σ, u))) → ( e = (.inr ()) → G (53, [none, none, none, none], [], (gSh, σ, u))) → G (2, [some (.ref 94), some (.int l1), some (.int l2), some (.int l3)], [], (gSh, σ, u)) := by
  intro n
  induction n with
  | zero => intro l3 e h; cases h
  | succ n ih =>
    intro l3 e h K2 K3
    rcases g_iter h with ⟨z, h1, h2⟩ | h1
    · exact b_Model_depends_2 E d u hG l1 l2 l3 σ h1 (fun n0 hz => by cases hz; exact ih _ e h2 K2 K3) (fun  hz => by cases hz) (fun  hz => by cases hz)
    · exact b_Model_depends_2 E d u hG l1 l2 l3 σ h1 (fun _ hz => by cases hz) (fun  hz => K2  (by cases hz; rfl)) (fun  hz => K3  (by cases hz; rfl))
def p_Model_depends (E : gEv) (a0 : Int32) (a1 : Int32) (σ : gS) : Option (Int32) :=
  gB1 (gIter (fun z => p_Model_depends_2 E a0 a1 z σ) gN 0) fun e2 => gSum e2 (fun e3 => some 1) (fun e4 => some 0)
set_option maxRecDepth 20000 in
theorem c_Model_depends (E : gEv) (d u : Nat) (a0 : Int32) (a1 : Int32) (σ : gS) {v : Int32}  (hq : p_Model_depends E a0 a1 σ = some v) : gC E gDf gMs (d + 1) 211 [.ref 94, .int a0, .int a1] (gSh, σ, u) (some (.int v), (gSh, σ, u)) := ⟨gM211, rfl, Nat.le_of_ble_eq_true rfl, fun G hG => by
  have hP := hq
  unfold p_Model_depends at hP
  replace hG : gClo E gDf gP18 gY211 (some .boolean) (gC E gDf gMs (d + 0)) (some (.int v), (gSh, σ, u)) G := hG
  show G (0, [some (.ref 94), some (.int a0), some (.int a1), none], [], (gSh, σ, u))
  refine gRunN_ok hG.1 2 _ (2, [some (.ref 94), some (.int a0), some (.int a1), some (.int 0)], [], (gSh, σ, u)) rfl ?_
  obtain ⟨e2, hq, hP⟩ := g_b1 hP
  refine l_Model_depends_2 E d u hG a0 a1 σ gN 0 _ hq (fun  he => ?_) (fun  he => ?_)
  · subst he
    try dsimp only [gSum] at hP
    refine gRunN_ok hG.1 1 _ (46, [none, none, none, none], [.int 1], (gSh, σ, u)) rfl ?_
    cases hP
    exact hG.2.1 _ _ rfl rfl
  · subst he
    try dsimp only [gSum] at hP
    refine gRunN_ok hG.1 1 _ (54, [none, none, none, none], [.int 0], (gSh, σ, u)) rfl ?_
    cases hP
    exact hG.2.1 _ _ rfl rfl⟩
def p_Model_hold_14 (E : gEv) (l1 : Int32) (l2 : Int32) (l3 : Int32) (l4 : Int32) (l5 : Int32) (l6 : Int32) (σ : gS) : Option ((Int32 × Int32 × gS) ⊕ (gS)) :=
  if ((1 : Int32) <<< (l4 &&& 31)) ≤ l6 then (some (.inr σ)) else (if ((l6 >>> (l2 &&& 31)) &&& (1 : Int32)) = l3 then (if gIn (((256 : Int32) * l1) + l6) (σ.2.1 120) then if gIn (((256 : Int32) * l1) + l5) (σ.2.1 120) then gLet (gPut σ 120 (((256 : Int32) * l1) + l5).toNatClampNeg (vp_nar .boolean (σ.1 120 (((256 : Int32) * l1) + l6).toNatClampNeg))) fun s2 => gLet (l5 + 1) fun x3 => gLet (l6 + 1) fun x4 => some (.inl (x3, x4, s2)) else none else none) else (gLet (l6 + 1) fun x5 => some (.inl (l5, x5, σ))))
set_option maxRecDepth 20000 in
theorem b_Model_hold_14 (E : gEv) (d u : Nat) {G : gFr → Prop} {vo : Option Value} {sr : gS} (hG : gClo E gDf gP18 gY212 none (gC E gDf gMs (d + 0)) (vo, (gSh, sr, u)) G) (l1 : Int32) (l2 : Int32) (l3 : Int32) (l4 : Int32) (l5 : Int32) (l6 : Int32) (σ : gS) {r : (Int32 × Int32 × gS) ⊕ (gS)} (hP : p_Model_hold_14 E l1 l2 l3 l4 l5 l6 σ = some r) (K1 : ∀ (m5 : Int32) (m6 : Int32) (σ1 : gS), r = .inl (m5, m6, σ1) → G (14, [some (.ref 94), some (.int l1), some (.int l2), some (.int l3), some (.int l4), some (.int m5), some (.int m6)], [], (gSh, σ1, u))) (K2 : ∀ (σ1 : gS), r = .inr σ1 → G (68, [some (.ref 94), some (.int l1), some (.int l2), none, some (.int l4), none, none], [], (gSh, σ1, u))) : G (14, [some (.ref 94), some (.int l1), some (.int l2), some (.int l3), some (.int l4), some (.int l5), some (.int l6)], [], (gSh, σ, u)) := by
  unfold p_Model_hold_14 at hP
  refine gRunN_ok hG.1 4 _ (20, [some (.ref 94), some (.int l1), some (.int l2), some (.int l3), some (.int l4), some (.int l5), some (.int l6)], [.int ((1 : Int32) <<< (l4 &&& 31)), .int l6], (gSh, σ, u)) rfl ?_
  rcases g_ite hP with ⟨hc, hP⟩ | ⟨hc, hP⟩
  · refine hG.1 _ (68, [some (.ref 94), some (.int l1), some (.int l2), some (.int l3), some (.int l4), some (.int l5), some (.int l6)], [], (gSh, σ, u)) _ rfl (if_pos hc) ?_
    refine hG.2.2.2.2.1 _ _ [some (.ref 94), some (.int l1), some (.int l2), none, some (.int l4), none, none] _ _ ⟨rfl, ⟨rfl, ⟨rfl, ⟨rfl, trivial⟩⟩⟩⟩ ?_
    cases hP
    exact K2 _ rfl
  · refine hG.1 _ (23, [some (.ref 94), some (.int l1), some (.int l2), some (.int l3), some (.int l4), some (.int l5), some (.int l6)], [], (gSh, σ, u)) _ rfl (if_neg hc) ?_
    refine gRunN_ok hG.1 6 _ (30, [some (.ref 94), some (.int l1), some (.int l2), some (.int l3), some (.int l4), some (.int l5), some (.int l6)], [.int l3, .int ((l6 >>> (l2 &&& 31)) &&& (1 : Int32))], (gSh, σ, u)) rfl ?_
    rcases g_ite hP with ⟨hc, hP⟩ | ⟨hc, hP⟩
    · refine hG.1 _ (33, [some (.ref 94), some (.int l1), some (.int l2), some (.int l3), some (.int l4), some (.int l5), some (.int l6)], [], (gSh, σ, u)) _ rfl (if_pos hc) ?_
      refine gRunN_ok hG.1 14 _ (57, [some (.ref 94), some (.int l1), some (.int l2), some (.int l3), some (.int l4), some (.int l5), some (.int l6)], [.int (((256 : Int32) * l1) + l6), .ref 120, .int (((256 : Int32) * l1) + l5), .ref 120], (gSh, σ, u)) rfl ?_
      obtain ⟨hc, hP⟩ := g_if hP
      refine hG.1 _ (58, [some (.ref 94), some (.int l1), some (.int l2), some (.int l3), some (.int l4), some (.int l5), some (.int l6)], [.int (σ.1 120 (((256 : Int32) * l1) + l6).toNatClampNeg), .int (((256 : Int32) * l1) + l5), .ref 120], (gSh, σ, u)) _ rfl (if_pos hc) ?_
      obtain ⟨hc, hP⟩ := g_if hP
      refine hG.1 _ (59, [some (.ref 94), some (.int l1), some (.int l2), some (.int l3), some (.int l4), some (.int l5), some (.int l6)], [], (gSh, (gPut σ 120 (((256 : Int32) * l1) + l5).toNatClampNeg (vp_nar .boolean (σ.1 120 (((256 : Int32) * l1) + l6).toNatClampNeg))), u)) _ rfl (if_pos hc) ?_
      obtain ⟨s2, es2, hP⟩ := g_let hP
      rw [← es2]
      refine gRunN_ok hG.1 1 _ (62, [some (.ref 94), some (.int l1), some (.int l2), some (.int l3), some (.int l4), some (.int (l5 + 1)), some (.int l6)], [], (gSh, s2, u)) rfl ?_
      obtain ⟨x3, ex3, hP⟩ := g_let hP
      rw [← ex3]
      refine gRunN_ok hG.1 1 _ (65, [some (.ref 94), some (.int l1), some (.int l2), some (.int l3), some (.int l4), some (.int x3), some (.int (l6 + 1))], [], (gSh, s2, u)) rfl ?_
      obtain ⟨x4, ex4, hP⟩ := g_let hP
      rw [← ex4]
      refine gRunN_ok hG.1 1 _ (14, [some (.ref 94), some (.int l1), some (.int l2), some (.int l3), some (.int l4), some (.int x3), some (.int x4)], [], (gSh, s2, u)) rfl ?_
      cases hP
      exact K1 _ _ _ rfl
    · refine hG.1 _ (62, [some (.ref 94), some (.int l1), some (.int l2), some (.int l3), some (.int l4), some (.int l5), some (.int l6)], [], (gSh, σ, u)) _ rfl (if_neg hc) ?_
      refine gRunN_ok hG.1 1 _ (65, [some (.ref 94), some (.int l1), some (.int l2), some (.int l3), some (.int l4), some (.int l5), some (.int (l6 + 1))], [], (gSh, σ, u)) rfl ?_
      obtain ⟨x5, ex5, hP⟩ := g_let hP
      rw [← ex5]
      refine gRunN_ok hG.1 1 _ (14, [some (.ref 94), some (.int l1), some (.int l2), some (.int l3), some (.int l4), some (.int l5), some (.int x5)], [], (gSh, σ, u)) rfl ?_
      cases hP
      exact K1 _ _ _ rfl
theorem l_Model_hold_14 (E : gEv) (d u : Nat) {G : gFr → Prop} {vo : Option Value} {sr : gS} (hG : gClo E gDf gP18 gY212 none (gC E gDf gMs (d + 0)) (vo, (gSh, sr, u)) G) (l1 : Int32) (l2 : Int32) (l3 : Int32) (l4 : Int32) : ∀ (n : Nat) (l5 : Int32) (l6 : Int32) (σ : gS) (e : (gS)), gIter (fun z => p_Model_hold_14 E l1 l2 l3 l4 z.1 z.2.1 z.2.2) n (l5, l6, σ) = some e → (∀ (σ1 : gS), e = σ1 → G (68, [some (.ref 94), some (.int l1), some (.int l2), none, some (.int l4), none, none], [], (gSh, σ1, u))) → G (14, [some (.ref 94), some (.int l1), some (.int l2), some (.int l3), some (.int l4), some (.int l5), some (.int l6)], [], (gSh, σ, u)) := by
  intro n
  induction n with
  | zero => intro l5 l6 σ e h; cases h
  | succ n ih =>
    intro l5 l6 σ e h K2
    rcases g_iter h with ⟨z, h1, h2⟩ | h1
    · exact b_Model_hold_14 E d u hG l1 l2 l3 l4 l5 l6 σ h1 (fun n0 n1 n2 hz => by cases hz; exact ih _ _ _ e h2 K2) (fun _ hz => by cases hz)
    · exact b_Model_hold_14 E d u hG l1 l2 l3 l4 l5 l6 σ h1 (fun _ _ _ hz => by cases hz) (fun σ1 hz => K2 σ1 (by cases hz; rfl))
def p_Model_hold_71 (E : gEv) (l1 : Int32) (l4 : Int32) (l6 : Int32) (σ : gS) : Option ((Int32 × gS) ⊕ (gS)) :=
  if (l4 - (1 : Int32)) ≤ l6 then (some (.inr σ)) else (if gIn ((((8 : Int32) * l1) + l6) + (1 : Int32)) (σ.2.1 121) then if gIn (((8 : Int32) * l1) + l6) (σ.2.1 121) then gLet (gPut σ 121 (((8 : Int32) * l1) + l6).toNatClampNeg (σ.1 121 ((((8 : Int32) * l1) + l6) + (1 : Int32)).toNatClampNeg)) fun s8 => gLet (l6 + 1) fun x9 => some (.inl (x9, s8)) else none else none)
set_option maxRecDepth 20000 in
theorem b_Model_hold_71 (E : gEv) (d u : Nat) {G : gFr → Prop} {vo : Option Value} {sr : gS} (hG : gClo E gDf gP18 gY212 none (gC E gDf gMs (d + 0)) (vo, (gSh, sr, u)) G) (l1 : Int32) (l4 : Int32) (l6 : Int32) (σ : gS) {r : (Int32 × gS) ⊕ (gS)} (hP : p_Model_hold_71 E l1 l4 l6 σ = some r) (K1 : ∀ (m6 : Int32) (σ1 : gS), r = .inl (m6, σ1) → G (71, [some (.ref 94), some (.int l1), none, none, some (.int l4), none, some (.int m6)], [], (gSh, σ1, u))) (K2 : ∀ (σ1 : gS), r = .inr σ1 → G (112, [some (.ref 94), some (.int l1), none, none, none, none, none], [], (gSh, σ1, u))) : G (71, [some (.ref 94), some (.int l1), none, none, some (.int l4), none, some (.int l6)], [], (gSh, σ, u)) := by
  unfold p_Model_hold_71 at hP
  refine gRunN_ok hG.1 4 _ (77, [some (.ref 94), some (.int l1), none, none, some (.int l4), none, some (.int l6)], [.int (l4 - (1 : Int32)), .int l6], (gSh, σ, u)) rfl ?_
  rcases g_ite hP with ⟨hc, hP⟩ | ⟨hc, hP⟩
  · refine hG.1 _ (112, [some (.ref 94), some (.int l1), none, none, some (.int l4), none, some (.int l6)], [], (gSh, σ, u)) _ rfl (if_pos hc) ?_
    refine hG.2.2.2.2.1 _ _ [some (.ref 94), some (.int l1), none, none, none, none, none] _ _ ⟨rfl, ⟨rfl, trivial⟩⟩ ?_
    cases hP
    exact K2 _ rfl
  · refine hG.1 _ (80, [some (.ref 94), some (.int l1), none, none, some (.int l4), none, some (.int l6)], [], (gSh, σ, u)) _ rfl (if_neg hc) ?_
    refine gRunN_ok hG.1 16 _ (104, [some (.ref 94), some (.int l1), none, none, some (.int l4), none, some (.int l6)], [.int ((((8 : Int32) * l1) + l6) + (1 : Int32)), .ref 121, .int (((8 : Int32) * l1) + l6), .ref 121], (gSh, σ, u)) rfl ?_
    obtain ⟨hc, hP⟩ := g_if hP
    refine hG.1 _ (105, [some (.ref 94), some (.int l1), none, none, some (.int l4), none, some (.int l6)], [.int (σ.1 121 ((((8 : Int32) * l1) + l6) + (1 : Int32)).toNatClampNeg), .int (((8 : Int32) * l1) + l6), .ref 121], (gSh, σ, u)) _ rfl (if_pos hc) ?_
    obtain ⟨hc, hP⟩ := g_if hP
    refine hG.1 _ (106, [some (.ref 94), some (.int l1), none, none, some (.int l4), none, some (.int l6)], [], (gSh, (gPut σ 121 (((8 : Int32) * l1) + l6).toNatClampNeg (σ.1 121 ((((8 : Int32) * l1) + l6) + (1 : Int32)).toNatClampNeg)), u)) _ rfl (if_pos hc) ?_
    obtain ⟨s8, es8, hP⟩ := g_let hP
    rw [← es8]
    refine gRunN_ok hG.1 1 _ (109, [some (.ref 94), some (.int l1), none, none, some (.int l4), none, some (.int (l6 + 1))], [], (gSh, s8, u)) rfl ?_
    obtain ⟨x9, ex9, hP⟩ := g_let hP
    rw [← ex9]
    refine gRunN_ok hG.1 1 _ (71, [some (.ref 94), some (.int l1), none, none, some (.int l4), none, some (.int x9)], [], (gSh, s8, u)) rfl ?_
    cases hP
    exact K1 _ _ rfl
theorem l_Model_hold_71 (E : gEv) (d u : Nat) {G : gFr → Prop} {vo : Option Value} {sr : gS} (hG : gClo E gDf gP18 gY212 none (gC E gDf gMs (d + 0)) (vo, (gSh, sr, u)) G) (l1 : Int32) (l4 : Int32) : ∀ (n : Nat) (l6 : Int32) (σ : gS) (e : (gS)), gIter (fun z => p_Model_hold_71 E l1 l4 z.1 z.2) n (l6, σ) = some e → (∀ (σ1 : gS), e = σ1 → G (112, [some (.ref 94), some (.int l1), none, none, none, none, none], [], (gSh, σ1, u))) → G (71, [some (.ref 94), some (.int l1), none, none, some (.int l4), none, some (.int l6)], [], (gSh, σ, u)) := by
  intro n
  induction n with
  | zero => intro l6 σ e h; cases h
  | succ n ih =>
    intro l6 σ e h K2
    rcases g_iter h with ⟨z, h1, h2⟩ | h1
    · exact b_Model_hold_71 E d u hG l1 l4 l6 σ h1 (fun n0 n1 hz => by cases hz; exact ih _ _ e h2 K2) (fun _ hz => by cases hz)
    · exact b_Model_hold_71 E d u hG l1 l4 l6 σ h1 (fun _ _ hz => by cases hz) (fun σ1 hz => K2 σ1 (by cases hz; rfl))
def p_Model_hold (E : gEv) (a0 : Int32) (a1 : Int32) (a2 : Int32) (σ : gS) : Option (gS) :=
  if gIn a0 (σ.2.1 122) then gLet (σ.1 122 a0.toNatClampNeg) fun x1 => gB1 (gIter (fun z => p_Model_hold_14 E a0 a1 a2 x1 z.1 z.2.1 z.2.2) gN (0, 0, σ)) fun e6 => (fun s7 => gB1 (gIter (fun z => p_Model_hold_71 E a0 x1 z.1 z.2) gN (a1, s7)) fun e10 => (fun s11 => if gIn a0 (s11.2.1 122) then if gIn a0 (s11.2.1 122) then gLet (gPut s11 122 a0.toNatClampNeg ((s11.1 122 a0.toNatClampNeg) - (1 : Int32))) fun s12 => some s12 else none else none) e10) e6 else none
set_option maxRecDepth 20000 in
theorem c_Model_hold (E : gEv) (d u : Nat) (a0 : Int32) (a1 : Int32) (a2 : Int32) (σ : gS) {sr : gS}  (hq : p_Model_hold E a0 a1 a2 σ = some sr) : gC E gDf gMs (d + 1) 212 [.ref 94, .int a0, .int a1, .int a2] (gSh, σ, u) (none, (gSh, sr, u)) := ⟨gM212, rfl, Nat.le_of_ble_eq_true rfl, fun G hG => by
  have hP := hq
  unfold p_Model_hold at hP
  replace hG : gClo E gDf gP18 gY212 none (gC E gDf gMs (d + 0)) (none, (gSh, sr, u)) G := hG
  show G (0, [some (.ref 94), some (.int a0), some (.int a1), some (.int a2), none, none, none], [], (gSh, σ, u))
  refine gRunN_ok hG.1 3 _ (5, [some (.ref 94), some (.int a0), some (.int a1), some (.int a2), none, none, none], [.int a0, .ref 122], (gSh, σ, u)) rfl ?_
  obtain ⟨hc, hP⟩ := g_if hP
  refine hG.1 _ (6, [some (.ref 94), some (.int a0), some (.int a1), some (.int a2), none, none, none], [.int (σ.1 122 a0.toNatClampNeg)], (gSh, σ, u)) _ rfl (if_pos hc) ?_
  refine gRunN_ok hG.1 1 _ (8, [some (.ref 94), some (.int a0), some (.int a1), some (.int a2), some (.int (σ.1 122 a0.toNatClampNeg)), none, none], [], (gSh, σ, u)) rfl ?_
  obtain ⟨x1, ex1, hP⟩ := g_let hP
  rw [← ex1]
  refine gRunN_ok hG.1 4 _ (14, [some (.ref 94), some (.int a0), some (.int a1), some (.int a2), some (.int x1), some (.int 0), some (.int 0)], [], (gSh, σ, u)) rfl ?_
  obtain ⟨e6, hq, hP⟩ := g_b1 hP
  refine l_Model_hold_14 E d u hG a0 a1 a2 x1 gN 0 0 σ _ hq (fun s7 he => ?_)
  · replace he := he.symm
    subst he
    try dsimp only [gSum] at hP
    refine gRunN_ok hG.1 2 _ (71, [some (.ref 94), some (.int a0), some (.int a1), none, some (.int x1), none, some (.int a1)], [], (gSh, s7, u)) rfl ?_
    refine hG.2.2.2.2.1 _ _ [some (.ref 94), some (.int a0), none, none, some (.int x1), none, some (.int a1)] _ _ ⟨rfl, ⟨rfl, ⟨rfl, ⟨rfl, trivial⟩⟩⟩⟩ ?_
    obtain ⟨e10, hq, hP⟩ := g_b1 hP
    refine l_Model_hold_71 E d u hG a0 x1 gN a1 s7 _ hq (fun s11 he => ?_)
    · replace he := he.symm
      subst he
      try dsimp only [gSum] at hP
      refine gRunN_ok hG.1 4 _ (118, [some (.ref 94), some (.int a0), none, none, none, none, none], [.int a0, .ref 122, .int a0, .ref 122], (gSh, s11, u)) rfl ?_
      obtain ⟨hc, hP⟩ := g_if hP
      refine hG.1 _ (119, [some (.ref 94), some (.int a0), none, none, none, none, none], [.int (s11.1 122 a0.toNatClampNeg), .int a0, .ref 122], (gSh, s11, u)) _ rfl (if_pos hc) ?_
      refine gRunN_ok hG.1 2 _ (121, [some (.ref 94), some (.int a0), none, none, none, none, none], [.int ((s11.1 122 a0.toNatClampNeg) - (1 : Int32)), .int a0, .ref 122], (gSh, s11, u)) rfl ?_
      obtain ⟨hc, hP⟩ := g_if hP
      refine hG.1 _ (122, [some (.ref 94), some (.int a0), none, none, none, none, none], [], (gSh, (gPut s11 122 a0.toNatClampNeg ((s11.1 122 a0.toNatClampNeg) - (1 : Int32))), u)) _ rfl (if_pos hc) ?_
      obtain ⟨s12, es12, hP⟩ := g_let hP
      rw [← es12]
      cases hP
      exact hG.2.1 _ _ rfl rfl⟩
