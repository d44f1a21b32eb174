/-! The law: where the answers differ nothing is said. -/
set_option maxRecDepth 20000 in
theorem cg_Law_cell (sh : List gD) (E : gEv) (d u : Nat) (a1 : Int32) (σ : gS) {v : Int32}  (hq : p_Law_cell E a1 σ = some v) : gC E gDf gMs (d + 1) 186 [.retAddr 1000, .int a1] (sh, σ, u) (some (.int v), (sh, σ, u)) := ⟨gM186, rfl, Nat.le_of_ble_eq_true rfl, fun G hG => by
  have hP := hq
  unfold p_Law_cell at hP
  replace hG : gClo E gDf gP17 gY186 (some .int) (gC E gDf gMs (d + 0)) (some (.int v), (sh, σ, u)) G := hG
  show G (0, [some (.retAddr 1000), some (.int a1)], [], (sh, σ, u))
  refine gRunN_ok hG.1 3 _ (3, [some (.retAddr 1000), some (.int a1)], [.int (Int32.ofNat (E 1000).1), .int a1], (sh, σ, u)) rfl ?_
  rcases g_ite hP with ⟨hc, hP⟩ | ⟨hc, hP⟩
  · refine hG.1 _ (12, [some (.retAddr 1000), some (.int a1)], [], (sh, σ, u)) _ rfl (if_pos hc) ?_
    refine gRunN_ok hG.1 1 _ (13, [some (.retAddr 1000), some (.int a1)], [.int 0], (sh, σ, u)) rfl ?_
    cases hP
    exact hG.2.1 _ _ rfl rfl
  · refine hG.1 _ (6, [some (.retAddr 1000), some (.int a1)], [], (sh, σ, u)) _ rfl (if_neg hc) ?_
    refine gRunN_ok hG.1 2 _ (8, [some (.retAddr 1000), some (.int a1)], [.int a1, .retAddr 1000], (sh, σ, u)) rfl ?_
    obtain ⟨hc, hP⟩ := g_if hP
    refine hG.1 _ (9, [some (.retAddr 1000), some (.int a1)], [.int ((E 1000).2 a1.toNatClampNeg)], (sh, σ, u)) _ rfl (if_pos hc) ?_
    refine gRunN_ok hG.1 1 _ (13, [some (.retAddr 1000), some (.int a1)], [.int ((E 1000).2 a1.toNatClampNeg)], (sh, σ, u)) rfl ?_
    cases hP
    exact hG.2.1 _ _ rfl rfl⟩
def p_Law_law_j495_58 (E : gEv) (l3 : Int32) (y0 : Int32) (y2 : Int32) (σ : gS) : Option ((Int32 × gS) ⊕ (gS)) :=
  if gIn (l3 + (2 : Int32)) ((E 1000).1) then if gIn (l3 + (3 : Int32)) ((E 1000).1) then if gIn (l3 + (4 : Int32)) ((E 1000).1) then gB2 (p_Model_swap E y2 ((E 1000).2 (l3 + (2 : Int32)).toNatClampNeg) ((E 1000).2 (l3 + (3 : Int32)).toNatClampNeg) ((E 1000).2 (l3 + (4 : Int32)).toNatClampNeg) σ) fun v160 s161 => if y0 = v160 then (gLet (l3 + 6) fun x162 => some (.inl (x162, s161))) else (none) else none else none else none
set_option maxRecDepth 20000 in
theorem j_Law_law_j495_58 (E : gEv) (d : Nat) {G : gFr → Prop} {vo : Option Value} {sr : gS} (hG : gClo E gDf gP17 gY279 (some .boolean) (gC E gDf gMs (d + 12)) (vo, (gSh, sr, 1862292)) G) (l3 : Int32) (y0 : Int32) (y2 : Int32) (σ : gS) {r : (Int32 × gS) ⊕ (gS)} (hP : p_Law_law_j495_58 E l3 y0 y2 σ = some r) (K1 : ∀ (m3 : Int32) (σ1 : gS), r = .inl (m3, σ1) → G (58, [some (.retAddr 1000), some (.ref 0), some (.ref 94), some (.int m3)], [], (gSh, σ1, 1862292))) (K2 : ∀ (σ1 : gS), r = .inr σ1 → G (896, [none, none, none, none], [], (gSh, σ1, 1862292))) : G (495, [some (.retAddr 1000), some (.ref 0), some (.ref 94), some (.int l3)], [.int y2, .ref 94, .int y0], (gSh, σ, 1862292)) := by
  unfold p_Law_law_j495_58 at hP
  refine gRunN_ok hG.1 4 _ (499, [some (.retAddr 1000), some (.ref 0), some (.ref 94), some (.int l3)], [.int (l3 + (2 : Int32)), .retAddr 1000, .int y2, .ref 94, .int y0], (gSh, σ, 1862292)) rfl ?_
  obtain ⟨hc, hP⟩ := g_if hP
  refine hG.1 _ (500, [some (.retAddr 1000), some (.ref 0), some (.ref 94), some (.int l3)], [.int ((E 1000).2 (l3 + (2 : Int32)).toNatClampNeg), .int y2, .ref 94, .int y0], (gSh, σ, 1862292)) _ rfl (if_pos hc) ?_
  refine gRunN_ok hG.1 4 _ (504, [some (.retAddr 1000), some (.ref 0), some (.ref 94), some (.int l3)], [.int (l3 + (3 : Int32)), .retAddr 1000, .int ((E 1000).2 (l3 + (2 : Int32)).toNatClampNeg), .int y2, .ref 94, .int y0], (gSh, σ, 1862292)) rfl ?_
  obtain ⟨hc, hP⟩ := g_if hP
  refine hG.1 _ (505, [some (.retAddr 1000), some (.ref 0), some (.ref 94), some (.int l3)], [.int ((E 1000).2 (l3 + (3 : Int32)).toNatClampNeg), .int ((E 1000).2 (l3 + (2 : Int32)).toNatClampNeg), .int y2, .ref 94, .int y0], (gSh, σ, 1862292)) _ rfl (if_pos hc) ?_
  refine gRunN_ok hG.1 4 _ (509, [some (.retAddr 1000), some (.ref 0), some (.ref 94), some (.int l3)], [.int (l3 + (4 : Int32)), .retAddr 1000, .int ((E 1000).2 (l3 + (3 : Int32)).toNatClampNeg), .int ((E 1000).2 (l3 + (2 : Int32)).toNatClampNeg), .int y2, .ref 94, .int y0], (gSh, σ, 1862292)) rfl ?_
  obtain ⟨hc, hP⟩ := g_if hP
  refine hG.1 _ (510, [some (.retAddr 1000), some (.ref 0), some (.ref 94), some (.int l3)], [.int ((E 1000).2 (l3 + (4 : Int32)).toNatClampNeg), .int ((E 1000).2 (l3 + (3 : Int32)).toNatClampNeg), .int ((E 1000).2 (l3 + (2 : Int32)).toNatClampNeg), .int y2, .ref 94, .int y0], (gSh, σ, 1862292)) _ rfl (if_pos hc) ?_
  obtain ⟨v160, s161, hq, hP⟩ := g_b2 hP
  refine hG.2.2.2.1 _ _ _ [.ref 94, .int y2, .int ((E 1000).2 (l3 + (2 : Int32)).toNatClampNeg), .int ((E 1000).2 (l3 + (3 : Int32)).toNatClampNeg), .int ((E 1000).2 (l3 + (4 : Int32)).toNatClampNeg)] [.int y0] _ (gSh, s161, 1862292) (some (.int v160)) _ _ _ _ _ _ rfl rfl rfl rfl rfl rfl (c_Model_swap E (d + 6) 1862292 y2 ((E 1000).2 (l3 + (2 : Int32)).toNatClampNeg) ((E 1000).2 (l3 + (3 : Int32)).toNatClampNeg) ((E 1000).2 (l3 + (4 : Int32)).toNatClampNeg) _  hq) (Nat.le_refl _) (Nat.le_refl _) (Nat.le_refl _) (Nat.le_refl _) ?_
  show G (513, [some (.retAddr 1000), some (.ref 0), some (.ref 94), some (.int l3)], [.int v160, .int y0], (gSh, s161, 1862292))
  rcases g_ite hP with ⟨hc, hP⟩ | ⟨hc, hP⟩
  · refine hG.1 _ (890, [some (.retAddr 1000), some (.ref 0), some (.ref 94), some (.int l3)], [], (gSh, s161, 1862292)) _ rfl (if_pos hc) ?_
    refine gRunN_ok hG.1 1 _ (893, [some (.retAddr 1000), some (.ref 0), some (.ref 94), some (.int (l3 + 6))], [], (gSh, s161, 1862292)) rfl ?_
    obtain ⟨x162, ex162, hP⟩ := g_let hP
    rw [← ex162]
    refine gRunN_ok hG.1 1 _ (58, [some (.retAddr 1000), some (.ref 0), some (.ref 94), some (.int x162)], [], (gSh, s161, 1862292)) rfl ?_
    cases hP
    exact K1 _ _ rfl
  · refine hG.1 _ (516, [some (.retAddr 1000), some (.ref 0), some (.ref 94), some (.int l3)], [], (gSh, s161, 1862292)) _ rfl (if_neg hc) ?_
    cases hP
def p_Law_law_j463_58 (E : gEv) (l3 : Int32) (y1 : Int32) (σ : gS) : Option ((Int32 × gS) ⊕ (gS)) :=
  if gIn (l3 + (2 : Int32)) ((E 1000).1) then if gIn (l3 + (3 : Int32)) ((E 1000).1) then if gIn (l3 + (4 : Int32)) ((E 1000).1) then gB2 (p_Face_swap E y1 ((E 1000).2 (l3 + (2 : Int32)).toNatClampNeg) ((E 1000).2 (l3 + (3 : Int32)).toNatClampNeg) ((E 1000).2 (l3 + (4 : Int32)).toNatClampNeg) σ) fun v158 s159 => if gIn (l3 + (1 : Int32)) ((E 1000).1) then if ((E 1000).2 (l3 + (1 : Int32)).toNatClampNeg) = 0 then (p_Law_law_j495_58 E l3 v158 0 s159) else (p_Law_law_j495_58 E l3 v158 1 s159) else none else none else none else none
set_option maxRecDepth 20000 in
theorem j_Law_law_j463_58 (E : gEv) (d : Nat) {G : gFr → Prop} {vo : Option Value} {sr : gS} (hG : gClo E gDf gP17 gY279 (some .boolean) (gC E gDf gMs (d + 12)) (vo, (gSh, sr, 1862292)) G) (l3 : Int32) (y1 : Int32) (σ : gS) {r : (Int32 × gS) ⊕ (gS)} (hP : p_Law_law_j463_58 E l3 y1 σ = some r) (K1 : ∀ (m3 : Int32) (σ1 : gS), r = .inl (m3, σ1) → G (58, [some (.retAddr 1000), some (.ref 0), some (.ref 94), some (.int m3)], [], (gSh, σ1, 1862292))) (K2 : ∀ (σ1 : gS), r = .inr σ1 → G (896, [none, none, none, none], [], (gSh, σ1, 1862292))) : G (463, [some (.retAddr 1000), some (.ref 0), some (.ref 94), some (.int l3)], [.int y1, .ref 0], (gSh, σ, 1862292)) := by
  unfold p_Law_law_j463_58 at hP
  refine gRunN_ok hG.1 4 _ (467, [some (.retAddr 1000), some (.ref 0), some (.ref 94), some (.int l3)], [.int (l3 + (2 : Int32)), .retAddr 1000, .int y1, .ref 0], (gSh, σ, 1862292)) rfl ?_
  obtain ⟨hc, hP⟩ := g_if hP
  refine hG.1 _ (468, [some (.retAddr 1000), some (.ref 0), some (.ref 94), some (.int l3)], [.int ((E 1000).2 (l3 + (2 : Int32)).toNatClampNeg), .int y1, .ref 0], (gSh, σ, 1862292)) _ rfl (if_pos hc) ?_
  refine gRunN_ok hG.1 4 _ (472, [some (.retAddr 1000), some (.ref 0), some (.ref 94), some (.int l3)], [.int (l3 + (3 : Int32)), .retAddr 1000, .int ((E 1000).2 (l3 + (2 : Int32)).toNatClampNeg), .int y1, .ref 0], (gSh, σ, 1862292)) rfl ?_
  obtain ⟨hc, hP⟩ := g_if hP
  refine hG.1 _ (473, [some (.retAddr 1000), some (.ref 0), some (.ref 94), some (.int l3)], [.int ((E 1000).2 (l3 + (3 : Int32)).toNatClampNeg), .int ((E 1000).2 (l3 + (2 : Int32)).toNatClampNeg), .int y1, .ref 0], (gSh, σ, 1862292)) _ rfl (if_pos hc) ?_
  refine gRunN_ok hG.1 4 _ (477, [some (.retAddr 1000), some (.ref 0), some (.ref 94), some (.int l3)], [.int (l3 + (4 : Int32)), .retAddr 1000, .int ((E 1000).2 (l3 + (3 : Int32)).toNatClampNeg), .int ((E 1000).2 (l3 + (2 : Int32)).toNatClampNeg), .int y1, .ref 0], (gSh, σ, 1862292)) rfl ?_
  obtain ⟨hc, hP⟩ := g_if hP
  refine hG.1 _ (478, [some (.retAddr 1000), some (.ref 0), some (.ref 94), some (.int l3)], [.int ((E 1000).2 (l3 + (4 : Int32)).toNatClampNeg), .int ((E 1000).2 (l3 + (3 : Int32)).toNatClampNeg), .int ((E 1000).2 (l3 + (2 : Int32)).toNatClampNeg), .int y1, .ref 0], (gSh, σ, 1862292)) _ rfl (if_pos hc) ?_
  obtain ⟨v158, s159, hq, hP⟩ := g_b2 hP
  refine hG.2.2.2.1 _ _ _ [.ref 0, .int y1, .int ((E 1000).2 (l3 + (2 : Int32)).toNatClampNeg), .int ((E 1000).2 (l3 + (3 : Int32)).toNatClampNeg), .int ((E 1000).2 (l3 + (4 : Int32)).toNatClampNeg)] [] _ (gSh, s159, 1862292) (some (.int v158)) _ _ _ _ _ _ rfl rfl rfl rfl rfl rfl (c_Face_swap E (d + 8) 1862292 y1 ((E 1000).2 (l3 + (2 : Int32)).toNatClampNeg) ((E 1000).2 (l3 + (3 : Int32)).toNatClampNeg) ((E 1000).2 (l3 + (4 : Int32)).toNatClampNeg) _  hq) (Nat.le_refl _) (Nat.le_refl _) (Nat.le_refl _) (Nat.le_refl _) ?_
  show G (481, [some (.retAddr 1000), some (.ref 0), some (.ref 94), some (.int l3)], [.int v158], (gSh, s159, 1862292))
  refine gRunN_ok hG.1 5 _ (486, [some (.retAddr 1000), some (.ref 0), some (.ref 94), some (.int l3)], [.int (l3 + (1 : Int32)), .retAddr 1000, .ref 94, .int v158], (gSh, s159, 1862292)) rfl ?_
  obtain ⟨hc, hP⟩ := g_if hP
  refine hG.1 _ (487, [some (.retAddr 1000), some (.ref 0), some (.ref 94), some (.int l3)], [.int ((E 1000).2 (l3 + (1 : Int32)).toNatClampNeg), .ref 94, .int v158], (gSh, s159, 1862292)) _ rfl (if_pos hc) ?_
  rcases g_ite hP with ⟨hc, hP⟩ | ⟨hc, hP⟩
  · refine hG.1 _ (494, [some (.retAddr 1000), some (.ref 0), some (.ref 94), some (.int l3)], [.ref 94, .int v158], (gSh, s159, 1862292)) _ rfl (if_pos hc) ?_
    refine gRunN_ok hG.1 1 _ (495, [some (.retAddr 1000), some (.ref 0), some (.ref 94), some (.int l3)], [.int 0, .ref 94, .int v158], (gSh, s159, 1862292)) rfl ?_
    exact j_Law_law_j495_58 E d hG l3 v158 0 s159 hP K1 K2
  · refine hG.1 _ (490, [some (.retAddr 1000), some (.ref 0), some (.ref 94), some (.int l3)], [.ref 94, .int v158], (gSh, s159, 1862292)) _ rfl (if_neg hc) ?_
    refine gRunN_ok hG.1 2 _ (495, [some (.retAddr 1000), some (.ref 0), some (.ref 94), some (.int l3)], [.int 1, .ref 94, .int v158], (gSh, s159, 1862292)) rfl ?_
    exact j_Law_law_j495_58 E d hG l3 v158 1 s159 hP K1 K2
def p_Law_law_j708_58 (E : gEv) (l3 : Int32) (y0 : Int32) (y2 : Int32) (y3 : Int32) (σ : gS) : Option ((Int32 × gS) ⊕ (gS)) :=
  gB2 (p_Model_level E y2 y3 σ) fun v200 s201 => if y0 = v200 then (gLet (l3 + 6) fun x202 => some (.inl (x202, s201))) else (none)
set_option maxRecDepth 20000 in
theorem j_Law_law_j708_58 (E : gEv) (d : Nat) {G : gFr → Prop} {vo : Option Value} {sr : gS} (hG : gClo E gDf gP17 gY279 (some .boolean) (gC E gDf gMs (d + 12)) (vo, (gSh, sr, 1862292)) G) (l3 : Int32) (y0 : Int32) (y2 : Int32) (y3 : Int32) (σ : gS) {r : (Int32 × gS) ⊕ (gS)} (hP : p_Law_law_j708_58 E l3 y0 y2 y3 σ = some r) (K1 : ∀ (m3 : Int32) (σ1 : gS), r = .inl (m3, σ1) → G (58, [some (.retAddr 1000), some (.ref 0), some (.ref 94), some (.int m3)], [], (gSh, σ1, 1862292))) (K2 : ∀ (σ1 : gS), r = .inr σ1 → G (896, [none, none, none, none], [], (gSh, σ1, 1862292))) : G (708, [some (.retAddr 1000), some (.ref 0), some (.ref 94), some (.int l3)], [.int y3, .int y2, .ref 94, .int y0], (gSh, σ, 1862292)) := by
  unfold p_Law_law_j708_58 at hP
  obtain ⟨v200, s201, hq, hP⟩ := g_b2 hP
  refine hG.2.2.2.1 _ _ _ [.ref 94, .int y2, .int y3] [.int y0] _ (gSh, s201, 1862292) (some (.int v200)) _ _ _ _ _ _ rfl rfl rfl rfl rfl rfl (c_Model_level E (d + 11) 1862292 y2 y3 _  hq) (Nat.le_refl _) (Nat.le_refl _) (Nat.le_refl _) (Nat.le_refl _) ?_
  show G (711, [some (.retAddr 1000), some (.ref 0), some (.ref 94), some (.int l3)], [.int v200, .int y0], (gSh, s201, 1862292))
  rcases g_ite hP with ⟨hc, hP⟩ | ⟨hc, hP⟩
  · refine hG.1 _ (890, [some (.retAddr 1000), some (.ref 0), some (.ref 94), some (.int l3)], [], (gSh, s201, 1862292)) _ rfl (if_pos hc) ?_
    refine gRunN_ok hG.1 1 _ (893, [some (.retAddr 1000), some (.ref 0), some (.ref 94), some (.int (l3 + 6))], [], (gSh, s201, 1862292)) rfl ?_
    obtain ⟨x202, ex202, hP⟩ := g_let hP
    rw [← ex202]
    refine gRunN_ok hG.1 1 _ (58, [some (.retAddr 1000), some (.ref 0), some (.ref 94), some (.int x202)], [], (gSh, s201, 1862292)) rfl ?_
    cases hP
    exact K1 _ _ rfl
  · refine hG.1 _ (714, [some (.retAddr 1000), some (.ref 0), some (.ref 94), some (.int l3)], [], (gSh, s201, 1862292)) _ rfl (if_neg hc) ?_
    cases hP
def p_Law_law_j686_58 (E : gEv) (l3 : Int32) (y1 : Int32) (y2 : Int32) (σ : gS) : Option ((Int32 × gS) ⊕ (gS)) :=
  gB2 (p_Face_level E y1 y2 σ) fun v198 s199 => if gIn (l3 + (1 : Int32)) ((E 1000).1) then if gIn (l3 + (2 : Int32)) ((E 1000).1) then if ((E 1000).2 (l3 + (2 : Int32)).toNatClampNeg) = 0 then (p_Law_law_j708_58 E l3 v198 ((E 1000).2 (l3 + (1 : Int32)).toNatClampNeg) 0 s199) else (p_Law_law_j708_58 E l3 v198 ((E 1000).2 (l3 + (1 : Int32)).toNatClampNeg) 1 s199) else none else none
set_option maxRecDepth 20000 in
theorem j_Law_law_j686_58 (E : gEv) (d : Nat) {G : gFr → Prop} {vo : Option Value} {sr : gS} (hG : gClo E gDf gP17 gY279 (some .boolean) (gC E gDf gMs (d + 12)) (vo, (gSh, sr, 1862292)) G) (l3 : Int32) (y1 : Int32) (y2 : Int32) (σ : gS) {r : (Int32 × gS) ⊕ (gS)} (hP : p_Law_law_j686_58 E l3 y1 y2 σ = some r) (K1 : ∀ (m3 : Int32) (σ1 : gS), r = .inl (m3, σ1) → G (58, [some (.retAddr 1000), some (.ref 0), some (.ref 94), some (.int m3)], [], (gSh, σ1, 1862292))) (K2 : ∀ (σ1 : gS), r = .inr σ1 → G (896, [none, none, none, none], [], (gSh, σ1, 1862292))) : G (686, [some (.retAddr 1000), some (.ref 0), some (.ref 94), some (.int l3)], [.int y2, .int y1, .ref 0], (gSh, σ, 1862292)) := by
  unfold p_Law_law_j686_58 at hP
  obtain ⟨v198, s199, hq, hP⟩ := g_b2 hP
  refine hG.2.2.2.1 _ _ _ [.ref 0, .int y1, .int y2] [] _ (gSh, s199, 1862292) (some (.int v198)) _ _ _ _ _ _ rfl rfl rfl rfl rfl rfl (c_Face_level E (d + 10) 1862292 y1 y2 _  hq) (Nat.le_refl _) (Nat.le_refl _) (Nat.le_refl _) (Nat.le_refl _) ?_
  show G (689, [some (.retAddr 1000), some (.ref 0), some (.ref 94), some (.int l3)], [.int v198], (gSh, s199, 1862292))
  refine gRunN_ok hG.1 5 _ (694, [some (.retAddr 1000), some (.ref 0), some (.ref 94), some (.int l3)], [.int (l3 + (1 : Int32)), .retAddr 1000, .ref 94, .int v198], (gSh, s199, 1862292)) rfl ?_
  obtain ⟨hc, hP⟩ := g_if hP
  refine hG.1 _ (695, [some (.retAddr 1000), some (.ref 0), some (.ref 94), some (.int l3)], [.int ((E 1000).2 (l3 + (1 : Int32)).toNatClampNeg), .ref 94, .int v198], (gSh, s199, 1862292)) _ rfl (if_pos hc) ?_
  refine gRunN_ok hG.1 4 _ (699, [some (.retAddr 1000), some (.ref 0), some (.ref 94), some (.int l3)], [.int (l3 + (2 : Int32)), .retAddr 1000, .int ((E 1000).2 (l3 + (1 : Int32)).toNatClampNeg), .ref 94, .int v198], (gSh, s199, 1862292)) rfl ?_
  obtain ⟨hc, hP⟩ := g_if hP
  refine hG.1 _ (700, [some (.retAddr 1000), some (.ref 0), some (.ref 94), some (.int l3)], [.int ((E 1000).2 (l3 + (2 : Int32)).toNatClampNeg), .int ((E 1000).2 (l3 + (1 : Int32)).toNatClampNeg), .ref 94, .int v198], (gSh, s199, 1862292)) _ rfl (if_pos hc) ?_
  rcases g_ite hP with ⟨hc, hP⟩ | ⟨hc, hP⟩
  · refine hG.1 _ (707, [some (.retAddr 1000), some (.ref 0), some (.ref 94), some (.int l3)], [.int ((E 1000).2 (l3 + (1 : Int32)).toNatClampNeg), .ref 94, .int v198], (gSh, s199, 1862292)) _ rfl (if_pos hc) ?_
    refine gRunN_ok hG.1 1 _ (708, [some (.retAddr 1000), some (.ref 0), some (.ref 94), some (.int l3)], [.int 0, .int ((E 1000).2 (l3 + (1 : Int32)).toNatClampNeg), .ref 94, .int v198], (gSh, s199, 1862292)) rfl ?_
    exact j_Law_law_j708_58 E d hG l3 v198 ((E 1000).2 (l3 + (1 : Int32)).toNatClampNeg) 0 s199 hP K1 K2
  · refine hG.1 _ (703, [some (.retAddr 1000), some (.ref 0), some (.ref 94), some (.int l3)], [.int ((E 1000).2 (l3 + (1 : Int32)).toNatClampNeg), .ref 94, .int v198], (gSh, s199, 1862292)) _ rfl (if_neg hc) ?_
    refine gRunN_ok hG.1 2 _ (708, [some (.retAddr 1000), some (.ref 0), some (.ref 94), some (.int l3)], [.int 1, .int ((E 1000).2 (l3 + (1 : Int32)).toNatClampNeg), .ref 94, .int v198], (gSh, s199, 1862292)) rfl ?_
    exact j_Law_law_j708_58 E d hG l3 v198 ((E 1000).2 (l3 + (1 : Int32)).toNatClampNeg) 1 s199 hP K1 K2
def p_Law_law_j813_58 (E : gEv) (l3 : Int32) (y0 : Int32) (y2 : Int32) (y3 : Int32) (σ : gS) : Option ((Int32 × gS) ⊕ (gS)) :=
  gB2 (p_Model_drive E y2 y3 σ) fun v215 s216 => if y0 = v215 then (gLet (l3 + 6) fun x217 => some (.inl (x217, s216))) else (none)
set_option maxRecDepth 20000 in
theorem j_Law_law_j813_58 (E : gEv) (d : Nat) {G : gFr → Prop} {vo : Option Value} {sr : gS} (hG : gClo E gDf gP17 gY279 (some .boolean) (gC E gDf gMs (d + 12)) (vo, (gSh, sr, 1862292)) G) (l3 : Int32) (y0 : Int32) (y2 : Int32) (y3 : Int32) (σ : gS) {r : (Int32 × gS) ⊕ (gS)} (hP : p_Law_law_j813_58 E l3 y0 y2 y3 σ = some r) (K1 : ∀ (m3 : Int32) (σ1 : gS), r = .inl (m3, σ1) → G (58, [some (.retAddr 1000), some (.ref 0), some (.ref 94), some (.int m3)], [], (gSh, σ1, 1862292))) (K2 : ∀ (σ1 : gS), r = .inr σ1 → G (896, [none, none, none, none], [], (gSh, σ1, 1862292))) : G (813, [some (.retAddr 1000), some (.ref 0), some (.ref 94), some (.int l3)], [.int y3, .int y2, .ref 94, .int y0], (gSh, σ, 1862292)) := by
  unfold p_Law_law_j813_58 at hP
  obtain ⟨v215, s216, hq, hP⟩ := g_b2 hP
  refine hG.2.2.2.1 _ _ _ [.ref 94, .int y2, .int y3] [.int y0] _ (gSh, s216, 1862292) (some (.int v215)) _ _ _ _ _ _ rfl rfl rfl rfl rfl rfl (c_Model_drive E (d + 11) 1862292 y2 y3 _  hq) (Nat.le_refl _) (Nat.le_refl _) (Nat.le_refl _) (Nat.le_refl _) ?_
  show G (816, [some (.retAddr 1000), some (.ref 0), some (.ref 94), some (.int l3)], [.int v215, .int y0], (gSh, s216, 1862292))
  rcases g_ite hP with ⟨hc, hP⟩ | ⟨hc, hP⟩
  · refine hG.1 _ (890, [some (.retAddr 1000), some (.ref 0), some (.ref 94), some (.int l3)], [], (gSh, s216, 1862292)) _ rfl (if_pos hc) ?_
    refine gRunN_ok hG.1 1 _ (893, [some (.retAddr 1000), some (.ref 0), some (.ref 94), some (.int (l3 + 6))], [], (gSh, s216, 1862292)) rfl ?_
    obtain ⟨x217, ex217, hP⟩ := g_let hP
    rw [← ex217]
    refine gRunN_ok hG.1 1 _ (58, [some (.retAddr 1000), some (.ref 0), some (.ref 94), some (.int x217)], [], (gSh, s216, 1862292)) rfl ?_
    cases hP
    exact K1 _ _ rfl
  · refine hG.1 _ (819, [some (.retAddr 1000), some (.ref 0), some (.ref 94), some (.int l3)], [], (gSh, s216, 1862292)) _ rfl (if_neg hc) ?_
    cases hP
def p_Law_law_j791_58 (E : gEv) (l3 : Int32) (y1 : Int32) (y2 : Int32) (σ : gS) : Option ((Int32 × gS) ⊕ (gS)) :=
  gB2 (p_Face_drive E y1 y2 σ) fun v213 s214 => if gIn (l3 + (1 : Int32)) ((E 1000).1) then if gIn (l3 + (2 : Int32)) ((E 1000).1) then if ((E 1000).2 (l3 + (2 : Int32)).toNatClampNeg) = 0 then (p_Law_law_j813_58 E l3 v213 ((E 1000).2 (l3 + (1 : Int32)).toNatClampNeg) 0 s214) else (p_Law_law_j813_58 E l3 v213 ((E 1000).2 (l3 + (1 : Int32)).toNatClampNeg) 1 s214) else none else none
set_option maxRecDepth 20000 in
theorem j_Law_law_j791_58 (E : gEv) (d : Nat) {G : gFr → Prop} {vo : Option Value} {sr : gS} (hG : gClo E gDf gP17 gY279 (some .boolean) (gC E gDf gMs (d + 12)) (vo, (gSh, sr, 1862292)) G) (l3 : Int32) (y1 : Int32) (y2 : Int32) (σ : gS) {r : (Int32 × gS) ⊕ (gS)} (hP : p_Law_law_j791_58 E l3 y1 y2 σ = some r) (K1 : ∀ (m3 : Int32) (σ1 : gS), r = .inl (m3, σ1) → G (58, [some (.retAddr 1000), some (.ref 0), some (.ref 94), some (.int m3)], [], (gSh, σ1, 1862292))) (K2 : ∀ (σ1 : gS), r = .inr σ1 → G (896, [none, none, none, none], [], (gSh, σ1, 1862292))) : G (791, [some (.retAddr 1000), some (.ref 0), some (.ref 94), some (.int l3)], [.int y2, .int y1, .ref 0], (gSh, σ, 1862292)) := by
  unfold p_Law_law_j791_58 at hP
  obtain ⟨v213, s214, hq, hP⟩ := g_b2 hP
  refine hG.2.2.2.1 _ _ _ [.ref 0, .int y1, .int y2] [] _ (gSh, s214, 1862292) (some (.int v213)) _ _ _ _ _ _ rfl rfl rfl rfl rfl rfl (c_Face_drive E (d + 10) 1862292 y1 y2 _  hq) (Nat.le_refl _) (Nat.le_refl _) (Nat.le_refl _) (Nat.le_refl _) ?_
  show G (794, [some (.retAddr 1000), some (.ref 0), some (.ref 94), some (.int l3)], [.int v213], (gSh, s214, 1862292))
  refine gRunN_ok hG.1 5 _ (799, [some (.retAddr 1000), some (.ref 0), some (.ref 94), some (.int l3)], [.int (l3 + (1 : Int32)), .retAddr 1000, .ref 94, .int v213], (gSh, s214, 1862292)) rfl ?_
  obtain ⟨hc, hP⟩ := g_if hP
  refine hG.1 _ (800, [some (.retAddr 1000), some (.ref 0), some (.ref 94), some (.int l3)], [.int ((E 1000).2 (l3 + (1 : Int32)).toNatClampNeg), .ref 94, .int v213], (gSh, s214, 1862292)) _ rfl (if_pos hc) ?_
  refine gRunN_ok hG.1 4 _ (804, [some (.retAddr 1000), some (.ref 0), some (.ref 94), some (.int l3)], [.int (l3 + (2 : Int32)), .retAddr 1000, .int ((E 1000).2 (l3 + (1 : Int32)).toNatClampNeg), .ref 94, .int v213], (gSh, s214, 1862292)) rfl ?_
  obtain ⟨hc, hP⟩ := g_if hP
  refine hG.1 _ (805, [some (.retAddr 1000), some (.ref 0), some (.ref 94), some (.int l3)], [.int ((E 1000).2 (l3 + (2 : Int32)).toNatClampNeg), .int ((E 1000).2 (l3 + (1 : Int32)).toNatClampNeg), .ref 94, .int v213], (gSh, s214, 1862292)) _ rfl (if_pos hc) ?_
  rcases g_ite hP with ⟨hc, hP⟩ | ⟨hc, hP⟩
  · refine hG.1 _ (812, [some (.retAddr 1000), some (.ref 0), some (.ref 94), some (.int l3)], [.int ((E 1000).2 (l3 + (1 : Int32)).toNatClampNeg), .ref 94, .int v213], (gSh, s214, 1862292)) _ rfl (if_pos hc) ?_
    refine gRunN_ok hG.1 1 _ (813, [some (.retAddr 1000), some (.ref 0), some (.ref 94), some (.int l3)], [.int 0, .int ((E 1000).2 (l3 + (1 : Int32)).toNatClampNeg), .ref 94, .int v213], (gSh, s214, 1862292)) rfl ?_
    exact j_Law_law_j813_58 E d hG l3 v213 ((E 1000).2 (l3 + (1 : Int32)).toNatClampNeg) 0 s214 hP K1 K2
  · refine hG.1 _ (808, [some (.retAddr 1000), some (.ref 0), some (.ref 94), some (.int l3)], [.int ((E 1000).2 (l3 + (1 : Int32)).toNatClampNeg), .ref 94, .int v213], (gSh, s214, 1862292)) _ rfl (if_neg hc) ?_
    refine gRunN_ok hG.1 2 _ (813, [some (.retAddr 1000), some (.ref 0), some (.ref 94), some (.int l3)], [.int 1, .int ((E 1000).2 (l3 + (1 : Int32)).toNatClampNeg), .ref 94, .int v213], (gSh, s214, 1862292)) rfl ?_
    exact j_Law_law_j813_58 E d hG l3 v213 ((E 1000).2 (l3 + (1 : Int32)).toNatClampNeg) 1 s214 hP K1 K2
def p_Law_law_58 (E : gEv) (l3 : Int32) (σ : gS) : Option ((Int32 × gS) ⊕ (gS)) :=
  if ((Int32.ofNat (E 1000).1) - (6 : Int32)) < l3 then (some (.inr σ)) else (if gIn l3 ((E 1000).1) then if (((E 1000).2 l3.toNatClampNeg) &&& (31 : Int32)) = 0 then (if gIn (l3 + (1 : Int32)) ((E 1000).1) then if gIn (l3 + (2 : Int32)) ((E 1000).1) then if gIn (l3 + (3 : Int32)) ((E 1000).1) then if gIn (l3 + (4 : Int32)) ((E 1000).1) then if gIn (l3 + (5 : Int32)) ((E 1000).1) then gB1 (p_Face_feed E ((E 1000).2 (l3 + (1 : Int32)).toNatClampNeg) ((E 1000).2 (l3 + (2 : Int32)).toNatClampNeg) ((E 1000).2 (l3 + (3 : Int32)).toNatClampNeg) ((E 1000).2 (l3 + (4 : Int32)).toNatClampNeg) ((E 1000).2 (l3 + (5 : Int32)).toNatClampNeg) σ) fun s114 => if gIn (l3 + (1 : Int32)) ((E 1000).1) then if gIn (l3 + (2 : Int32)) ((E 1000).1) then if gIn (l3 + (3 : Int32)) ((E 1000).1) then if gIn (l3 + (4 : Int32)) ((E 1000).1) then if gIn (l3 + (5 : Int32)) ((E 1000).1) then gB1 (p_Model_feed E ((E 1000).2 (l3 + (1 : Int32)).toNatClampNeg) ((E 1000).2 (l3 + (2 : Int32)).toNatClampNeg) ((E 1000).2 (l3 + (3 : Int32)).toNatClampNeg) ((E 1000).2 (l3 + (4 : Int32)).toNatClampNeg) ((E 1000).2 (l3 + (5 : Int32)).toNatClampNeg) s114) fun s116 => gLet (l3 + 6) fun x117 => some (.inl (x117, s116)) else none else none else none else none else none else none else none else none else none else none) else if (((E 1000).2 l3.toNatClampNeg) &&& (31 : Int32)) = 1 then (if gIn (l3 + (1 : Int32)) ((E 1000).1) then gB2 (p_Face_end E ((E 1000).2 (l3 + (1 : Int32)).toNatClampNeg) σ) fun v118 s119 => if gIn (l3 + (1 : Int32)) ((E 1000).1) then gB2 (p_Model_end E ((E 1000).2 (l3 + (1 : Int32)).toNatClampNeg) s119) fun v120 s121 => if v118 = v120 then (gLet (l3 + 6) fun x122 => some (.inl (x122, s121))) else (none) else none else none) else if (((E 1000).2 l3.toNatClampNeg) &&& (31 : Int32)) = 2 then (gB2 (p_Face_compile E σ) fun v123 s124 => gB2 (p_Model_compile E s124) fun v125 s126 => if v123 = v125 then (gLet (l3 + 6) fun x127 => some (.inl (x127, s126))) else (none)) else if (((E 1000).2 l3.toNatClampNeg) &&& (31 : Int32)) = 3 then (if gIn (l3 + (1 : Int32)) ((E 1000).1) then gB1 (p_Face_look E ((E 1000).2 (l3 + (1 : Int32)).toNatClampNeg) σ) fun v128 => if gIn (l3 + (1 : Int32)) ((E 1000).1) then gB2 (p_Model_look E ((E 1000).2 (l3 + (1 : Int32)).toNatClampNeg) σ) fun v130 s131 => if v128 = v130 then (gLet (l3 + 6) fun x132 => some (.inl (x132, s131))) else (none) else none else none) else if (((E 1000).2 l3.toNatClampNeg) &&& (31 : Int32)) = 4 then (if gIn (l3 + (1 : Int32)) ((E 1000).1) then if gIn (l3 + (2 : Int32)) ((E 1000).1) then gB1 (p_Face_lut E ((E 1000).2 (l3 + (1 : Int32)).toNatClampNeg) ((E 1000).2 (l3 + (2 : Int32)).toNatClampNeg) σ) fun v133 => if gIn (l3 + (1 : Int32)) ((E 1000).1) then if gIn (l3 + (2 : Int32)) ((E 1000).1) then gB1 (p_Model_lut E ((E 1000).2 (l3 + (1 : Int32)).toNatClampNeg) ((E 1000).2 (l3 + (2 : Int32)).toNatClampNeg) σ) fun v135 => if v133 = v135 then (gLet (l3 + 6) fun x137 => some (.inl (x137, σ))) else (none) else none else none else none else none) else if (((E 1000).2 l3.toNatClampNeg) &&& (31 : Int32)) = 5 then (if gIn (l3 + (1 : Int32)) ((E 1000).1) then if gIn (l3 + (2 : Int32)) ((E 1000).1) then gB1 (p_Face_element E ((E 1000).2 (l3 + (1 : Int32)).toNatClampNeg) ((E 1000).2 (l3 + (2 : Int32)).toNatClampNeg) σ) fun v138 => if gIn (l3 + (1 : Int32)) ((E 1000).1) then if gIn (l3 + (2 : Int32)) ((E 1000).1) then gB1 (p_Model_element E ((E 1000).2 (l3 + (1 : Int32)).toNatClampNeg) ((E 1000).2 (l3 + (2 : Int32)).toNatClampNeg) σ) fun v140 => if v138 = v140 then (gLet (l3 + 6) fun x142 => some (.inl (x142, σ))) else (none) else none else none else none else none) else if (((E 1000).2 l3.toNatClampNeg) &&& (31 : Int32)) = 6 then (if gIn (l3 + (1 : Int32)) ((E 1000).1) then if gIn (l3 + (2 : Int32)) ((E 1000).1) then gB1 (p_Face_net E ((E 1000).2 (l3 + (1 : Int32)).toNatClampNeg) ((E 1000).2 (l3 + (2 : Int32)).toNatClampNeg) σ) fun v143 => if gIn (l3 + (1 : Int32)) ((E 1000).1) then if gIn (l3 + (2 : Int32)) ((E 1000).1) then gB1 (p_Model_net E ((E 1000).2 (l3 + (1 : Int32)).toNatClampNeg) ((E 1000).2 (l3 + (2 : Int32)).toNatClampNeg) σ) fun v145 => if v143 = v145 then (gLet (l3 + 6) fun x147 => some (.inl (x147, σ))) else (none) else none else none else none else none) else if (((E 1000).2 l3.toNatClampNeg) &&& (31 : Int32)) = 7 then (if gIn (l3 + (1 : Int32)) ((E 1000).1) then gB1 (p_Face_tile E ((E 1000).2 (l3 + (1 : Int32)).toNatClampNeg) σ) fun v148 => if gIn (l3 + (1 : Int32)) ((E 1000).1) then gB1 (p_Model_tile E ((E 1000).2 (l3 + (1 : Int32)).toNatClampNeg) σ) fun v150 => if v148 = v150 then (gLet (l3 + 6) fun x152 => some (.inl (x152, σ))) else (none) else none else none) else if (((E 1000).2 l3.toNatClampNeg) &&& (31 : Int32)) = 8 then (if gIn (l3 + (1 : Int32)) ((E 1000).1) then gB1 (p_Face_pad E ((E 1000).2 (l3 + (1 : Int32)).toNatClampNeg) σ) fun v153 => if gIn (l3 + (1 : Int32)) ((E 1000).1) then gB1 (p_Model_pad E ((E 1000).2 (l3 + (1 : Int32)).toNatClampNeg) σ) fun v155 => if v153 = v155 then (gLet (l3 + 6) fun x157 => some (.inl (x157, σ))) else (none) else none else none) else if (((E 1000).2 l3.toNatClampNeg) &&& (31 : Int32)) = 9 then (if gIn (l3 + (1 : Int32)) ((E 1000).1) then if ((E 1000).2 (l3 + (1 : Int32)).toNatClampNeg) = 0 then (p_Law_law_j463_58 E l3 0 σ) else (p_Law_law_j463_58 E l3 1 σ) else none) else if (((E 1000).2 l3.toNatClampNeg) &&& (31 : Int32)) = 10 then (if gIn (l3 + (1 : Int32)) ((E 1000).1) then if gIn (l3 + (2 : Int32)) ((E 1000).1) then gB2 (p_Face_shake E ((E 1000).2 (l3 + (1 : Int32)).toNatClampNeg) ((E 1000).2 (l3 + (2 : Int32)).toNatClampNeg) σ) fun v163 s164 => if gIn (l3 + (1 : Int32)) ((E 1000).1) then if gIn (l3 + (2 : Int32)) ((E 1000).1) then gB2 (p_Model_shake E ((E 1000).2 (l3 + (1 : Int32)).toNatClampNeg) ((E 1000).2 (l3 + (2 : Int32)).toNatClampNeg) s164) fun v165 s166 => if v163 = v165 then (gLet (l3 + 6) fun x167 => some (.inl (x167, s166))) else (none) else none else none else none else none) else if (((E 1000).2 l3.toNatClampNeg) &&& (31 : Int32)) = 11 then (if gIn (l3 + (1 : Int32)) ((E 1000).1) then gB2 (p_Face_route E ((E 1000).2 (l3 + (1 : Int32)).toNatClampNeg) σ) fun v168 s169 => if gIn (l3 + (1 : Int32)) ((E 1000).1) then gB2 (p_Model_route E ((E 1000).2 (l3 + (1 : Int32)).toNatClampNeg) s169) fun v170 s171 => if v168 = v170 then (gLet (l3 + 6) fun x172 => some (.inl (x172, s171))) else (none) else none else none) else if (((E 1000).2 l3.toNatClampNeg) &&& (31 : Int32)) = 12 then (if gIn (l3 + (1 : Int32)) ((E 1000).1) then gB1 (p_Face_owner E ((E 1000).2 (l3 + (1 : Int32)).toNatClampNeg) σ) fun v173 => if gIn (l3 + (1 : Int32)) ((E 1000).1) then gB1 (p_Model_owner E ((E 1000).2 (l3 + (1 : Int32)).toNatClampNeg) σ) fun v175 => if v173 = v175 then (gLet (l3 + 6) fun x177 => some (.inl (x177, σ))) else (none) else none else none) else if (((E 1000).2 l3.toNatClampNeg) &&& (31 : Int32)) = 13 then (gB2 (p_Face_burn E σ) fun v178 s179 => gB2 (p_Model_burn E s179) fun v180 s181 => if v178 = v180 then (gLet (l3 + 6) fun x182 => some (.inl (x182, s181))) else (none)) else if (((E 1000).2 l3.toNatClampNeg) &&& (31 : Int32)) = 14 then (if gIn (l3 + (1 : Int32)) ((E 1000).1) then gB1 (p_Face_bit E ((E 1000).2 (l3 + (1 : Int32)).toNatClampNeg) σ) fun v183 => if gIn (l3 + (1 : Int32)) ((E 1000).1) then gB1 (p_Model_bit E ((E 1000).2 (l3 + (1 : Int32)).toNatClampNeg) σ) fun v185 => if v183 = v185 then (gLet (l3 + 6) fun x187 => some (.inl (x187, σ))) else (none) else none else none) else if (((E 1000).2 l3.toNatClampNeg) &&& (31 : Int32)) = 15 then (if gIn (l3 + (1 : Int32)) ((E 1000).1) then gB2 (p_Face_flip E ((E 1000).2 (l3 + (1 : Int32)).toNatClampNeg) σ) fun v188 s189 => if gIn (l3 + (1 : Int32)) ((E 1000).1) then gB2 (p_Model_flip E ((E 1000).2 (l3 + (1 : Int32)).toNatClampNeg) s189) fun v190 s191 => if v188 = v190 then (gLet (l3 + 6) fun x192 => some (.inl (x192, s191))) else (none) else none else none) else if (((E 1000).2 l3.toNatClampNeg) &&& (31 : Int32)) = 16 then (gB1 (p_Face_start E σ) fun s194 => gB1 (p_Model_start E s194) fun s196 => gLet (l3 + 6) fun x197 => some (.inl (x197, s196))) else if (((E 1000).2 l3.toNatClampNeg) &&& (31 : Int32)) = 17 then (if gIn (l3 + (1 : Int32)) ((E 1000).1) then if gIn (l3 + (2 : Int32)) ((E 1000).1) then if ((E 1000).2 (l3 + (2 : Int32)).toNatClampNeg) = 0 then (p_Law_law_j686_58 E l3 ((E 1000).2 (l3 + (1 : Int32)).toNatClampNeg) 0 σ) else (p_Law_law_j686_58 E l3 ((E 1000).2 (l3 + (1 : Int32)).toNatClampNeg) 1 σ) else none else none) else if (((E 1000).2 l3.toNatClampNeg) &&& (31 : Int32)) = 18 then (if gIn (l3 + (1 : Int32)) ((E 1000).1) then gB2 (p_Face_tick E ((E 1000).2 (l3 + (1 : Int32)).toNatClampNeg) σ) fun v203 s204 => if gIn (l3 + (1 : Int32)) ((E 1000).1) then gB2 (p_Model_tick E ((E 1000).2 (l3 + (1 : Int32)).toNatClampNeg) s204) fun v205 s206 => if v203 = v205 then (gLet (l3 + 6) fun x207 => some (.inl (x207, s206))) else (none) else none else none) else if (((E 1000).2 l3.toNatClampNeg) &&& (31 : Int32)) = 19 then (if gIn (l3 + (1 : Int32)) ((E 1000).1) then if gIn (l3 + (2 : Int32)) ((E 1000).1) then gB2 (p_Face_probe E ((E 1000).2 (l3 + (1 : Int32)).toNatClampNeg) ((E 1000).2 (l3 + (2 : Int32)).toNatClampNeg) σ) fun v208 s209 => if gIn (l3 + (1 : Int32)) ((E 1000).1) then if gIn (l3 + (2 : Int32)) ((E 1000).1) then gB2 (p_Model_probe E ((E 1000).2 (l3 + (1 : Int32)).toNatClampNeg) ((E 1000).2 (l3 + (2 : Int32)).toNatClampNeg) s209) fun v210 s211 => if v208 = v210 then (gLet (l3 + 6) fun x212 => some (.inl (x212, s211))) else (none) else none else none else none else none) else if (((E 1000).2 l3.toNatClampNeg) &&& (31 : Int32)) = 20 then (if gIn (l3 + (1 : Int32)) ((E 1000).1) then if gIn (l3 + (2 : Int32)) ((E 1000).1) then if ((E 1000).2 (l3 + (2 : Int32)).toNatClampNeg) = 0 then (p_Law_law_j791_58 E l3 ((E 1000).2 (l3 + (1 : Int32)).toNatClampNeg) 0 σ) else (p_Law_law_j791_58 E l3 ((E 1000).2 (l3 + (1 : Int32)).toNatClampNeg) 1 σ) else none else none) else if (((E 1000).2 l3.toNatClampNeg) &&& (31 : Int32)) = 21 then (if gIn (l3 + (1 : Int32)) ((E 1000).1) then gB2 (p_Face_clock E ((E 1000).2 (l3 + (1 : Int32)).toNatClampNeg) σ) fun v218 s219 => if gIn (l3 + (1 : Int32)) ((E 1000).1) then gB2 (p_Model_clock E ((E 1000).2 (l3 + (1 : Int32)).toNatClampNeg) s219) fun v220 s221 => if v218 = v220 then (gLet (l3 + 6) fun x222 => some (.inl (x222, s221))) else (none) else none else none) else if (((E 1000).2 l3.toNatClampNeg) &&& (31 : Int32)) = 22 then (if gIn (l3 + (1 : Int32)) ((E 1000).1) then gB2 (p_Face_value E ((E 1000).2 (l3 + (1 : Int32)).toNatClampNeg) σ) fun v223 s224 => if gIn (l3 + (1 : Int32)) ((E 1000).1) then gB2 (p_Model_value E ((E 1000).2 (l3 + (1 : Int32)).toNatClampNeg) s224) fun v225 s226 => if v223 = v225 then (gLet (l3 + 6) fun x227 => some (.inl (x227, s226))) else (none) else none else none) else if (((E 1000).2 l3.toNatClampNeg) &&& (31 : Int32)) = 23 then (if gIn (l3 + (1 : Int32)) ((E 1000).1) then gB2 (p_Face_out E ((E 1000).2 (l3 + (1 : Int32)).toNatClampNeg) σ) fun v228 s229 => if gIn (l3 + (1 : Int32)) ((E 1000).1) then gB2 (p_Model_out E ((E 1000).2 (l3 + (1 : Int32)).toNatClampNeg) s229) fun v230 s231 => if v228 = v230 then (gLet (l3 + 6) fun x232 => some (.inl (x232, s231))) else (none) else none else none) else (gLet (l3 + 6) fun x233 => some (.inl (x233, σ))) else none)
set_option maxRecDepth 20000 in
theorem b_Law_law_58 (E : gEv) (d : Nat) {G : gFr → Prop} {vo : Option Value} {sr : gS} (hG : gClo E gDf gP17 gY279 (some .boolean) (gC E gDf gMs (d + 12)) (vo, (gSh, sr, 1862292)) G) (l3 : Int32) (σ : gS) {r : (Int32 × gS) ⊕ (gS)} (hP : p_Law_law_58 E l3 σ = some r) (K1 : ∀ (m3 : Int32) (σ1 : gS), r = .inl (m3, σ1) → G (58, [some (.retAddr 1000), some (.ref 0), some (.ref 94), some (.int m3)], [], (gSh, σ1, 1862292))) (K2 : ∀ (σ1 : gS), r = .inr σ1 → G (896, [none, none, none, none], [], (gSh, σ1, 1862292))) : G (58, [some (.retAddr 1000), some (.ref 0), some (.ref 94), some (.int l3)], [], (gSh, σ, 1862292)) := by
  unfold p_Law_law_58 at hP
  refine gRunN_ok hG.1 5 _ (64, [some (.retAddr 1000), some (.ref 0), some (.ref 94), some (.int l3)], [.int ((Int32.ofNat (E 1000).1) - (6 : Int32)), .int l3], (gSh, σ, 1862292)) rfl ?_
  rcases g_ite hP with ⟨hc, hP⟩ | ⟨hc, hP⟩
  · refine hG.1 _ (896, [some (.retAddr 1000), some (.ref 0), some (.ref 94), some (.int l3)], [], (gSh, σ, 1862292)) _ rfl (if_pos hc) ?_
    refine hG.2.2.2.2.1 _ _ [none, none, none, none] _ _ trivial ?_
    cases hP
    exact K2 _ rfl
  · refine hG.1 _ (67, [some (.retAddr 1000), some (.ref 0), some (.ref 94), some (.int l3)], [], (gSh, σ, 1862292)) _ rfl (if_neg hc) ?_
    refine gRunN_ok hG.1 2 _ (69, [some (.retAddr 1000), some (.ref 0), some (.ref 94), some (.int l3)], [.int l3, .retAddr 1000], (gSh, σ, 1862292)) rfl ?_
    obtain ⟨hc, hP⟩ := g_if hP
    refine hG.1 _ (70, [some (.retAddr 1000), some (.ref 0), some (.ref 94), some (.int l3)], [.int ((E 1000).2 l3.toNatClampNeg)], (gSh, σ, 1862292)) _ rfl (if_pos hc) ?_
    refine gRunN_ok hG.1 2 _ (73, [some (.retAddr 1000), some (.ref 0), some (.ref 94), some (.int l3)], [.int (((E 1000).2 l3.toNatClampNeg) &&& (31 : Int32))], (gSh, σ, 1862292)) rfl ?_
    rcases g_ite hP with ⟨hc0, hP⟩ | ⟨hc0, hP⟩
    · refine hG.1 _ (184, [some (.retAddr 1000), some (.ref 0), some (.ref 94), some (.int l3)], [], (gSh, σ, 1862292)) _ rfl (if_pos hc0) ?_
      refine gRunN_ok hG.1 5 _ (189, [some (.retAddr 1000), some (.ref 0), some (.ref 94), some (.int l3)], [.int (l3 + (1 : Int32)), .retAddr 1000, .ref 0], (gSh, σ, 1862292)) rfl ?_
      obtain ⟨hc, hP⟩ := g_if hP
      refine hG.1 _ (190, [some (.retAddr 1000), some (.ref 0), some (.ref 94), some (.int l3)], [.int ((E 1000).2 (l3 + (1 : Int32)).toNatClampNeg), .ref 0], (gSh, σ, 1862292)) _ rfl (if_pos hc) ?_
      refine gRunN_ok hG.1 4 _ (194, [some (.retAddr 1000), some (.ref 0), some (.ref 94), some (.int l3)], [.int (l3 + (2 : Int32)), .retAddr 1000, .int ((E 1000).2 (l3 + (1 : Int32)).toNatClampNeg), .ref 0], (gSh, σ, 1862292)) rfl ?_
      obtain ⟨hc, hP⟩ := g_if hP
      refine hG.1 _ (195, [some (.retAddr 1000), some (.ref 0), some (.ref 94), some (.int l3)], [.int ((E 1000).2 (l3 + (2 : Int32)).toNatClampNeg), .int ((E 1000).2 (l3 + (1 : Int32)).toNatClampNeg), .ref 0], (gSh, σ, 1862292)) _ rfl (if_pos hc) ?_
      refine gRunN_ok hG.1 4 _ (199, [some (.retAddr 1000), some (.ref 0), some (.ref 94), some (.int l3)], [.int (l3 + (3 : Int32)), .retAddr 1000, .int ((E 1000).2 (l3 + (2 : Int32)).toNatClampNeg), .int ((E 1000).2 (l3 + (1 : Int32)).toNatClampNeg), .ref 0], (gSh, σ, 1862292)) rfl ?_
      obtain ⟨hc, hP⟩ := g_if hP
      refine hG.1 _ (200, [some (.retAddr 1000), some (.ref 0), some (.ref 94), some (.int l3)], [.int ((E 1000).2 (l3 + (3 : Int32)).toNatClampNeg), .int ((E 1000).2 (l3 + (2 : Int32)).toNatClampNeg), .int ((E 1000).2 (l3 + (1 : Int32)).toNatClampNeg), .ref 0], (gSh, σ, 1862292)) _ rfl (if_pos hc) ?_
      refine gRunN_ok hG.1 4 _ (204, [some (.retAddr 1000), some (.ref 0), some (.ref 94), some (.int l3)], [.int (l3 + (4 : Int32)), .retAddr 1000, .int ((E 1000).2 (l3 + (3 : Int32)).toNatClampNeg), .int ((E 1000).2 (l3 + (2 : Int32)).toNatClampNeg), .int ((E 1000).2 (l3 + (1 : Int32)).toNatClampNeg), .ref 0], (gSh, σ, 1862292)) rfl ?_
      obtain ⟨hc, hP⟩ := g_if hP
      refine hG.1 _ (205, [some (.retAddr 1000), some (.ref 0), some (.ref 94), some (.int l3)], [.int ((E 1000).2 (l3 + (4 : Int32)).toNatClampNeg), .int ((E 1000).2 (l3 + (3 : Int32)).toNatClampNeg), .int ((E 1000).2 (l3 + (2 : Int32)).toNatClampNeg), .int ((E 1000).2 (l3 + (1 : Int32)).toNatClampNeg), .ref 0], (gSh, σ, 1862292)) _ rfl (if_pos hc) ?_
      refine gRunN_ok hG.1 4 _ (209, [some (.retAddr 1000), some (.ref 0), some (.ref 94), some (.int l3)], [.int (l3 + (5 : Int32)), .retAddr 1000, .int ((E 1000).2 (l3 + (4 : Int32)).toNatClampNeg), .int ((E 1000).2 (l3 + (3 : Int32)).toNatClampNeg), .int ((E 1000).2 (l3 + (2 : Int32)).toNatClampNeg), .int ((E 1000).2 (l3 + (1 : Int32)).toNatClampNeg), .ref 0], (gSh, σ, 1862292)) rfl ?_
      obtain ⟨hc, hP⟩ := g_if hP
      refine hG.1 _ (210, [some (.retAddr 1000), some (.ref 0), some (.ref 94), some (.int l3)], [.int ((E 1000).2 (l3 + (5 : Int32)).toNatClampNeg), .int ((E 1000).2 (l3 + (4 : Int32)).toNatClampNeg), .int ((E 1000).2 (l3 + (3 : Int32)).toNatClampNeg), .int ((E 1000).2 (l3 + (2 : Int32)).toNatClampNeg), .int ((E 1000).2 (l3 + (1 : Int32)).toNatClampNeg), .ref 0], (gSh, σ, 1862292)) _ rfl (if_pos hc) ?_
      obtain ⟨s114, hq, hP⟩ := g_b1 hP
      refine hG.2.2.2.1 _ _ _ [.ref 0, .int ((E 1000).2 (l3 + (1 : Int32)).toNatClampNeg), .int ((E 1000).2 (l3 + (2 : Int32)).toNatClampNeg), .int ((E 1000).2 (l3 + (3 : Int32)).toNatClampNeg), .int ((E 1000).2 (l3 + (4 : Int32)).toNatClampNeg), .int ((E 1000).2 (l3 + (5 : Int32)).toNatClampNeg)] [] _ (gSh, s114, 1862292) none _ _ _ _ _ _ rfl rfl rfl rfl rfl rfl (c_Face_feed E (d + 10) 1862292 ((E 1000).2 (l3 + (1 : Int32)).toNatClampNeg) ((E 1000).2 (l3 + (2 : Int32)).toNatClampNeg) ((E 1000).2 (l3 + (3 : Int32)).toNatClampNeg) ((E 1000).2 (l3 + (4 : Int32)).toNatClampNeg) ((E 1000).2 (l3 + (5 : Int32)).toNatClampNeg) _  hq) (Nat.le_refl _) (Nat.le_refl _) (Nat.le_refl _) (Nat.le_refl _) ?_
      show G (213, [some (.retAddr 1000), some (.ref 0), some (.ref 94), some (.int l3)], [], (gSh, s114, 1862292))
      refine gRunN_ok hG.1 5 _ (218, [some (.retAddr 1000), some (.ref 0), some (.ref 94), some (.int l3)], [.int (l3 + (1 : Int32)), .retAddr 1000, .ref 94], (gSh, s114, 1862292)) rfl ?_
      obtain ⟨hc, hP⟩ := g_if hP
      refine hG.1 _ (219, [some (.retAddr 1000), some (.ref 0), some (.ref 94), some (.int l3)], [.int ((E 1000).2 (l3 + (1 : Int32)).toNatClampNeg), .ref 94], (gSh, s114, 1862292)) _ rfl (if_pos hc) ?_
      refine gRunN_ok hG.1 4 _ (223, [some (.retAddr 1000), some (.ref 0), some (.ref 94), some (.int l3)], [.int (l3 + (2 : Int32)), .retAddr 1000, .int ((E 1000).2 (l3 + (1 : Int32)).toNatClampNeg), .ref 94], (gSh, s114, 1862292)) rfl ?_
      obtain ⟨hc, hP⟩ := g_if hP
      refine hG.1 _ (224, [some (.retAddr 1000), some (.ref 0), some (.ref 94), some (.int l3)], [.int ((E 1000).2 (l3 + (2 : Int32)).toNatClampNeg), .int ((E 1000).2 (l3 + (1 : Int32)).toNatClampNeg), .ref 94], (gSh, s114, 1862292)) _ rfl (if_pos hc) ?_
      refine gRunN_ok hG.1 4 _ (228, [some (.retAddr 1000), some (.ref 0), some (.ref 94), some (.int l3)], [.int (l3 + (3 : Int32)), .retAddr 1000, .int ((E 1000).2 (l3 + (2 : Int32)).toNatClampNeg), .int ((E 1000).2 (l3 + (1 : Int32)).toNatClampNeg), .ref 94], (gSh, s114, 1862292)) rfl ?_
      obtain ⟨hc, hP⟩ := g_if hP
      refine hG.1 _ (229, [some (.retAddr 1000), some (.ref 0), some (.ref 94), some (.int l3)], [.int ((E 1000).2 (l3 + (3 : Int32)).toNatClampNeg), .int ((E 1000).2 (l3 + (2 : Int32)).toNatClampNeg), .int ((E 1000).2 (l3 + (1 : Int32)).toNatClampNeg), .ref 94], (gSh, s114, 1862292)) _ rfl (if_pos hc) ?_
      refine gRunN_ok hG.1 4 _ (233, [some (.retAddr 1000), some (.ref 0), some (.ref 94), some (.int l3)], [.int (l3 + (4 : Int32)), .retAddr 1000, .int ((E 1000).2 (l3 + (3 : Int32)).toNatClampNeg), .int ((E 1000).2 (l3 + (2 : Int32)).toNatClampNeg), .int ((E 1000).2 (l3 + (1 : Int32)).toNatClampNeg), .ref 94], (gSh, s114, 1862292)) rfl ?_
      obtain ⟨hc, hP⟩ := g_if hP
      refine hG.1 _ (234, [some (.retAddr 1000), some (.ref 0), some (.ref 94), some (.int l3)], [.int ((E 1000).2 (l3 + (4 : Int32)).toNatClampNeg), .int ((E 1000).2 (l3 + (3 : Int32)).toNatClampNeg), .int ((E 1000).2 (l3 + (2 : Int32)).toNatClampNeg), .int ((E 1000).2 (l3 + (1 : Int32)).toNatClampNeg), .ref 94], (gSh, s114, 1862292)) _ rfl (if_pos hc) ?_
      refine gRunN_ok hG.1 4 _ (238, [some (.retAddr 1000), some (.ref 0), some (.ref 94), some (.int l3)], [.int (l3 + (5 : Int32)), .retAddr 1000, .int ((E 1000).2 (l3 + (4 : Int32)).toNatClampNeg), .int ((E 1000).2 (l3 + (3 : Int32)).toNatClampNeg), .int ((E 1000).2 (l3 + (2 : Int32)).toNatClampNeg), .int ((E 1000).2 (l3 + (1 : Int32)).toNatClampNeg), .ref 94], (gSh, s114, 1862292)) rfl ?_
      obtain ⟨hc, hP⟩ := g_if hP
      refine hG.1 _ (239, [some (.retAddr 1000), some (.ref 0), some (.ref 94), some (.int l3)], [.int ((E 1000).2 (l3 + (5 : Int32)).toNatClampNeg), .int ((E 1000).2 (l3 + (4 : Int32)).toNatClampNeg), .int ((E 1000).2 (l3 + (3 : Int32)).toNatClampNeg), .int ((E 1000).2 (l3 + (2 : Int32)).toNatClampNeg), .int ((E 1000).2 (l3 + (1 : Int32)).toNatClampNeg), .ref 94], (gSh, s114, 1862292)) _ rfl (if_pos hc) ?_
      obtain ⟨s116, hq, hP⟩ := g_b1 hP
      refine hG.2.2.2.1 _ _ _ [.ref 94, .int ((E 1000).2 (l3 + (1 : Int32)).toNatClampNeg), .int ((E 1000).2 (l3 + (2 : Int32)).toNatClampNeg), .int ((E 1000).2 (l3 + (3 : Int32)).toNatClampNeg), .int ((E 1000).2 (l3 + (4 : Int32)).toNatClampNeg), .int ((E 1000).2 (l3 + (5 : Int32)).toNatClampNeg)] [] _ (gSh, s116, 1862292) none _ _ _ _ _ _ rfl rfl rfl rfl rfl rfl (c_Model_feed E (d + 10) 1862292 ((E 1000).2 (l3 + (1 : Int32)).toNatClampNeg) ((E 1000).2 (l3 + (2 : Int32)).toNatClampNeg) ((E 1000).2 (l3 + (3 : Int32)).toNatClampNeg) ((E 1000).2 (l3 + (4 : Int32)).toNatClampNeg) ((E 1000).2 (l3 + (5 : Int32)).toNatClampNeg) _  hq) (Nat.le_refl _) (Nat.le_refl _) (Nat.le_refl _) (Nat.le_refl _) ?_
      show G (242, [some (.retAddr 1000), some (.ref 0), some (.ref 94), some (.int l3)], [], (gSh, s116, 1862292))
      refine gRunN_ok hG.1 2 _ (893, [some (.retAddr 1000), some (.ref 0), some (.ref 94), some (.int (l3 + 6))], [], (gSh, s116, 1862292)) rfl ?_
      obtain ⟨x117, ex117, hP⟩ := g_let hP
      rw [← ex117]
      refine gRunN_ok hG.1 1 _ (58, [some (.retAddr 1000), some (.ref 0), some (.ref 94), some (.int x117)], [], (gSh, s116, 1862292)) rfl ?_
      cases hP
      exact K1 _ _ rfl
    rcases g_ite hP with ⟨hc1, hP⟩ | ⟨hc1, hP⟩
    · refine hG.1 _ (245, [some (.retAddr 1000), some (.ref 0), some (.ref 94), some (.int l3)], [], (gSh, σ, 1862292)) _ rfl ((if_neg hc0).trans (if_pos hc1)) ?_
      refine gRunN_ok hG.1 5 _ (250, [some (.retAddr 1000), some (.ref 0), some (.ref 94), some (.int l3)], [.int (l3 + (1 : Int32)), .retAddr 1000, .ref 0], (gSh, σ, 1862292)) rfl ?_
      obtain ⟨hc, hP⟩ := g_if hP
      refine hG.1 _ (251, [some (.retAddr 1000), some (.ref 0), some (.ref 94), some (.int l3)], [.int ((E 1000).2 (l3 + (1 : Int32)).toNatClampNeg), .ref 0], (gSh, σ, 1862292)) _ rfl (if_pos hc) ?_
      obtain ⟨v118, s119, hq, hP⟩ := g_b2 hP
      refine hG.2.2.2.1 _ _ _ [.ref 0, .int ((E 1000).2 (l3 + (1 : Int32)).toNatClampNeg)] [] _ (gSh, s119, 1862292) (some (.int v118)) _ _ _ _ _ _ rfl rfl rfl rfl rfl rfl (c_Face_end E (d + 9) 1862292 ((E 1000).2 (l3 + (1 : Int32)).toNatClampNeg) _  hq) (Nat.le_refl _) (Nat.le_refl _) (Nat.le_refl _) (Nat.le_refl _) ?_
      show G (254, [some (.retAddr 1000), some (.ref 0), some (.ref 94), some (.int l3)], [.int v118], (gSh, s119, 1862292))
      refine gRunN_ok hG.1 5 _ (259, [some (.retAddr 1000), some (.ref 0), some (.ref 94), some (.int l3)], [.int (l3 + (1 : Int32)), .retAddr 1000, .ref 94, .int v118], (gSh, s119, 1862292)) rfl ?_
      obtain ⟨hc, hP⟩ := g_if hP
      refine hG.1 _ (260, [some (.retAddr 1000), some (.ref 0), some (.ref 94), some (.int l3)], [.int ((E 1000).2 (l3 + (1 : Int32)).toNatClampNeg), .ref 94, .int v118], (gSh, s119, 1862292)) _ rfl (if_pos hc) ?_
      obtain ⟨v120, s121, hq, hP⟩ := g_b2 hP
      refine hG.2.2.2.1 _ _ _ [.ref 94, .int ((E 1000).2 (l3 + (1 : Int32)).toNatClampNeg)] [.int v118] _ (gSh, s121, 1862292) (some (.int v120)) _ _ _ _ _ _ rfl rfl rfl rfl rfl rfl (c_Model_end E (d + 11) 1862292 ((E 1000).2 (l3 + (1 : Int32)).toNatClampNeg) _  hq) (Nat.le_refl _) (Nat.le_refl _) (Nat.le_refl _) (Nat.le_refl _) ?_
      show G (263, [some (.retAddr 1000), some (.ref 0), some (.ref 94), some (.int l3)], [.int v120, .int v118], (gSh, s121, 1862292))
      rcases g_ite hP with ⟨hc, hP⟩ | ⟨hc, hP⟩
      · refine hG.1 _ (890, [some (.retAddr 1000), some (.ref 0), some (.ref 94), some (.int l3)], [], (gSh, s121, 1862292)) _ rfl (if_pos hc) ?_
        refine gRunN_ok hG.1 1 _ (893, [some (.retAddr 1000), some (.ref 0), some (.ref 94), some (.int (l3 + 6))], [], (gSh, s121, 1862292)) rfl ?_
        obtain ⟨x122, ex122, hP⟩ := g_let hP
        rw [← ex122]
        refine gRunN_ok hG.1 1 _ (58, [some (.retAddr 1000), some (.ref 0), some (.ref 94), some (.int x122)], [], (gSh, s121, 1862292)) rfl ?_
        cases hP
        exact K1 _ _ rfl
      · refine hG.1 _ (266, [some (.retAddr 1000), some (.ref 0), some (.ref 94), some (.int l3)], [], (gSh, s121, 1862292)) _ rfl (if_neg hc) ?_
        cases hP
    rcases g_ite hP with ⟨hc2, hP⟩ | ⟨hc2, hP⟩
    · refine hG.1 _ (268, [some (.retAddr 1000), some (.ref 0), some (.ref 94), some (.int l3)], [], (gSh, σ, 1862292)) _ rfl ((if_neg hc0).trans ((if_neg hc1).trans (if_pos hc2))) ?_
      refine gRunN_ok hG.1 1 _ (269, [some (.retAddr 1000), some (.ref 0), some (.ref 94), some (.int l3)], [.ref 0], (gSh, σ, 1862292)) rfl ?_
      obtain ⟨v123, s124, hq, hP⟩ := g_b2 hP
      refine hG.2.2.2.1 _ _ _ [.ref 0] [] _ (gSh, s124, 1862292) (some (.int v123)) _ _ _ _ _ _ rfl rfl rfl rfl rfl rfl (c_Face_compile E (d + 0) 1862292 _  hq) (Nat.le_refl _) (Nat.le_refl _) (Nat.le_refl _) (Nat.le_refl _) ?_
      show G (272, [some (.retAddr 1000), some (.ref 0), some (.ref 94), some (.int l3)], [.int v123], (gSh, s124, 1862292))
      refine gRunN_ok hG.1 1 _ (273, [some (.retAddr 1000), some (.ref 0), some (.ref 94), some (.int l3)], [.ref 94, .int v123], (gSh, s124, 1862292)) rfl ?_
      obtain ⟨v125, s126, hq, hP⟩ := g_b2 hP
      refine hG.2.2.2.1 _ _ _ [.ref 94] [.int v123] _ (gSh, s126, 1862292) (some (.int v125)) _ _ _ _ _ _ rfl rfl rfl rfl rfl rfl (c_Model_compile E (d + 4) 1862292 _  hq) (Nat.le_refl _) (Nat.le_refl _) (Nat.le_refl _) (Nat.le_refl _) ?_
      show G (276, [some (.retAddr 1000), some (.ref 0), some (.ref 94), some (.int l3)], [.int v125, .int v123], (gSh, s126, 1862292))
      rcases g_ite hP with ⟨hc, hP⟩ | ⟨hc, hP⟩
      · refine hG.1 _ (890, [some (.retAddr 1000), some (.ref 0), some (.ref 94), some (.int l3)], [], (gSh, s126, 1862292)) _ rfl (if_pos hc) ?_
        refine gRunN_ok hG.1 1 _ (893, [some (.retAddr 1000), some (.ref 0), some (.ref 94), some (.int (l3 + 6))], [], (gSh, s126, 1862292)) rfl ?_
        obtain ⟨x127, ex127, hP⟩ := g_let hP
        rw [← ex127]
        refine gRunN_ok hG.1 1 _ (58, [some (.retAddr 1000), some (.ref 0), some (.ref 94), some (.int x127)], [], (gSh, s126, 1862292)) rfl ?_
        cases hP
        exact K1 _ _ rfl
      · refine hG.1 _ (279, [some (.retAddr 1000), some (.ref 0), some (.ref 94), some (.int l3)], [], (gSh, s126, 1862292)) _ rfl (if_neg hc) ?_
        cases hP
    rcases g_ite hP with ⟨hc3, hP⟩ | ⟨hc3, hP⟩
    · refine hG.1 _ (281, [some (.retAddr 1000), some (.ref 0), some (.ref 94), some (.int l3)], [], (gSh, σ, 1862292)) _ rfl ((if_neg hc0).trans ((if_neg hc1).trans ((if_neg hc2).trans (if_pos hc3)))) ?_
      refine gRunN_ok hG.1 5 _ (286, [some (.retAddr 1000), some (.ref 0), some (.ref 94), some (.int l3)], [.int (l3 + (1 : Int32)), .retAddr 1000, .ref 0], (gSh, σ, 1862292)) rfl ?_
      obtain ⟨hc, hP⟩ := g_if hP
      refine hG.1 _ (287, [some (.retAddr 1000), some (.ref 0), some (.ref 94), some (.int l3)], [.int ((E 1000).2 (l3 + (1 : Int32)).toNatClampNeg), .ref 0], (gSh, σ, 1862292)) _ rfl (if_pos hc) ?_
      obtain ⟨v128, hq, hP⟩ := g_b1 hP
      refine hG.2.2.2.1 _ _ _ [.ref 0, .int ((E 1000).2 (l3 + (1 : Int32)).toNatClampNeg)] [] _ (gSh, σ, 1862292) (some (.int v128)) _ _ _ _ _ _ rfl rfl rfl rfl rfl rfl (c_Face_look E (d + 8) 1862292 ((E 1000).2 (l3 + (1 : Int32)).toNatClampNeg) _  hq) (Nat.le_refl _) (Nat.le_refl _) (Nat.le_refl _) (Nat.le_refl _) ?_
      show G (290, [some (.retAddr 1000), some (.ref 0), some (.ref 94), some (.int l3)], [.int v128], (gSh, σ, 1862292))
      refine gRunN_ok hG.1 5 _ (295, [some (.retAddr 1000), some (.ref 0), some (.ref 94), some (.int l3)], [.int (l3 + (1 : Int32)), .retAddr 1000, .ref 94, .int v128], (gSh, σ, 1862292)) rfl ?_
      obtain ⟨hc, hP⟩ := g_if hP
      refine hG.1 _ (296, [some (.retAddr 1000), some (.ref 0), some (.ref 94), some (.int l3)], [.int ((E 1000).2 (l3 + (1 : Int32)).toNatClampNeg), .ref 94, .int v128], (gSh, σ, 1862292)) _ rfl (if_pos hc) ?_
      obtain ⟨v130, s131, hq, hP⟩ := g_b2 hP
      refine hG.2.2.2.1 _ _ _ [.ref 94, .int ((E 1000).2 (l3 + (1 : Int32)).toNatClampNeg)] [.int v128] _ (gSh, s131, 1862292) (some (.int v130)) _ _ _ _ _ _ rfl rfl rfl rfl rfl rfl (c_Model_look E (d + 7) 1862292 ((E 1000).2 (l3 + (1 : Int32)).toNatClampNeg) _  hq) (Nat.le_refl _) (Nat.le_refl _) (Nat.le_refl _) (Nat.le_refl _) ?_
      show G (299, [some (.retAddr 1000), some (.ref 0), some (.ref 94), some (.int l3)], [.int v130, .int v128], (gSh, s131, 1862292))
      rcases g_ite hP with ⟨hc, hP⟩ | ⟨hc, hP⟩
      · refine hG.1 _ (890, [some (.retAddr 1000), some (.ref 0), some (.ref 94), some (.int l3)], [], (gSh, s131, 1862292)) _ rfl (if_pos hc) ?_
        refine gRunN_ok hG.1 1 _ (893, [some (.retAddr 1000), some (.ref 0), some (.ref 94), some (.int (l3 + 6))], [], (gSh, s131, 1862292)) rfl ?_
        obtain ⟨x132, ex132, hP⟩ := g_let hP
        rw [← ex132]
        refine gRunN_ok hG.1 1 _ (58, [some (.retAddr 1000), some (.ref 0), some (.ref 94), some (.int x132)], [], (gSh, s131, 1862292)) rfl ?_
        cases hP
        exact K1 _ _ rfl
      · refine hG.1 _ (302, [some (.retAddr 1000), some (.ref 0), some (.ref 94), some (.int l3)], [], (gSh, s131, 1862292)) _ rfl (if_neg hc) ?_
        cases hP
    rcases g_ite hP with ⟨hc4, hP⟩ | ⟨hc4, hP⟩
    · refine hG.1 _ (304, [some (.retAddr 1000), some (.ref 0), some (.ref 94), some (.int l3)], [], (gSh, σ, 1862292)) _ rfl ((if_neg hc0).trans ((if_neg hc1).trans ((if_neg hc2).trans ((if_neg hc3).trans (if_pos hc4))))) ?_
      refine gRunN_ok hG.1 5 _ (309, [some (.retAddr 1000), some (.ref 0), some (.ref 94), some (.int l3)], [.int (l3 + (1 : Int32)), .retAddr 1000, .ref 0], (gSh, σ, 1862292)) rfl ?_
      obtain ⟨hc, hP⟩ := g_if hP
      refine hG.1 _ (310, [some (.retAddr 1000), some (.ref 0), some (.ref 94), some (.int l3)], [.int ((E 1000).2 (l3 + (1 : Int32)).toNatClampNeg), .ref 0], (gSh, σ, 1862292)) _ rfl (if_pos hc) ?_
      refine gRunN_ok hG.1 4 _ (314, [some (.retAddr 1000), some (.ref 0), some (.ref 94), some (.int l3)], [.int (l3 + (2 : Int32)), .retAddr 1000, .int ((E 1000).2 (l3 + (1 : Int32)).toNatClampNeg), .ref 0], (gSh, σ, 1862292)) rfl ?_
      obtain ⟨hc, hP⟩ := g_if hP
      refine hG.1 _ (315, [some (.retAddr 1000), some (.ref 0), some (.ref 94), some (.int l3)], [.int ((E 1000).2 (l3 + (2 : Int32)).toNatClampNeg), .int ((E 1000).2 (l3 + (1 : Int32)).toNatClampNeg), .ref 0], (gSh, σ, 1862292)) _ rfl (if_pos hc) ?_
      obtain ⟨v133, hq, hP⟩ := g_b1 hP
      refine hG.2.2.2.1 _ _ _ [.ref 0, .int ((E 1000).2 (l3 + (1 : Int32)).toNatClampNeg), .int ((E 1000).2 (l3 + (2 : Int32)).toNatClampNeg)] [] _ (gSh, σ, 1862292) (some (.int v133)) _ _ _ _ _ _ rfl rfl rfl rfl rfl rfl (c_Face_lut E (d + 11) 1862292 ((E 1000).2 (l3 + (1 : Int32)).toNatClampNeg) ((E 1000).2 (l3 + (2 : Int32)).toNatClampNeg) _  hq) (Nat.le_refl _) (Nat.le_refl _) (Nat.le_refl _) (Nat.le_refl _) ?_
      show G (318, [some (.retAddr 1000), some (.ref 0), some (.ref 94), some (.int l3)], [.int v133], (gSh, σ, 1862292))
      refine gRunN_ok hG.1 5 _ (323, [some (.retAddr 1000), some (.ref 0), some (.ref 94), some (.int l3)], [.int (l3 + (1 : Int32)), .retAddr 1000, .ref 94, .int v133], (gSh, σ, 1862292)) rfl ?_
      obtain ⟨hc, hP⟩ := g_if hP
      refine hG.1 _ (324, [some (.retAddr 1000), some (.ref 0), some (.ref 94), some (.int l3)], [.int ((E 1000).2 (l3 + (1 : Int32)).toNatClampNeg), .ref 94, .int v133], (gSh, σ, 1862292)) _ rfl (if_pos hc) ?_
      refine gRunN_ok hG.1 4 _ (328, [some (.retAddr 1000), some (.ref 0), some (.ref 94), some (.int l3)], [.int (l3 + (2 : Int32)), .retAddr 1000, .int ((E 1000).2 (l3 + (1 : Int32)).toNatClampNeg), .ref 94, .int v133], (gSh, σ, 1862292)) rfl ?_
      obtain ⟨hc, hP⟩ := g_if hP
      refine hG.1 _ (329, [some (.retAddr 1000), some (.ref 0), some (.ref 94), some (.int l3)], [.int ((E 1000).2 (l3 + (2 : Int32)).toNatClampNeg), .int ((E 1000).2 (l3 + (1 : Int32)).toNatClampNeg), .ref 94, .int v133], (gSh, σ, 1862292)) _ rfl (if_pos hc) ?_
      obtain ⟨v135, hq, hP⟩ := g_b1 hP
      refine hG.2.2.2.1 _ _ _ [.ref 94, .int ((E 1000).2 (l3 + (1 : Int32)).toNatClampNeg), .int ((E 1000).2 (l3 + (2 : Int32)).toNatClampNeg)] [.int v133] _ (gSh, σ, 1862292) (some (.int v135)) _ _ _ _ _ _ rfl rfl rfl rfl rfl rfl (c_Model_lut E (d + 11) 1862292 ((E 1000).2 (l3 + (1 : Int32)).toNatClampNeg) ((E 1000).2 (l3 + (2 : Int32)).toNatClampNeg) _  hq) (Nat.le_refl _) (Nat.le_refl _) (Nat.le_refl _) (Nat.le_refl _) ?_
      show G (332, [some (.retAddr 1000), some (.ref 0), some (.ref 94), some (.int l3)], [.int v135, .int v133], (gSh, σ, 1862292))
      rcases g_ite hP with ⟨hc, hP⟩ | ⟨hc, hP⟩
      · refine hG.1 _ (890, [some (.retAddr 1000), some (.ref 0), some (.ref 94), some (.int l3)], [], (gSh, σ, 1862292)) _ rfl (if_pos hc) ?_
        refine gRunN_ok hG.1 1 _ (893, [some (.retAddr 1000), some (.ref 0), some (.ref 94), some (.int (l3 + 6))], [], (gSh, σ, 1862292)) rfl ?_
        obtain ⟨x137, ex137, hP⟩ := g_let hP
        rw [← ex137]
        refine gRunN_ok hG.1 1 _ (58, [some (.retAddr 1000), some (.ref 0), some (.ref 94), some (.int x137)], [], (gSh, σ, 1862292)) rfl ?_
        cases hP
        exact K1 _ _ rfl
      · refine hG.1 _ (335, [some (.retAddr 1000), some (.ref 0), some (.ref 94), some (.int l3)], [], (gSh, σ, 1862292)) _ rfl (if_neg hc) ?_
        cases hP
    rcases g_ite hP with ⟨hc5, hP⟩ | ⟨hc5, hP⟩
    · refine hG.1 _ (337, [some (.retAddr 1000), some (.ref 0), some (.ref 94), some (.int l3)], [], (gSh, σ, 1862292)) _ rfl ((if_neg hc0).trans ((if_neg hc1).trans ((if_neg hc2).trans ((if_neg hc3).trans ((if_neg hc4).trans (if_pos hc5)))))) ?_
      refine gRunN_ok hG.1 5 _ (342, [some (.retAddr 1000), some (.ref 0), some (.ref 94), some (.int l3)], [.int (l3 + (1 : Int32)), .retAddr 1000, .ref 0], (gSh, σ, 1862292)) rfl ?_
      obtain ⟨hc, hP⟩ := g_if hP
      refine hG.1 _ (343, [some (.retAddr 1000), some (.ref 0), some (.ref 94), some (.int l3)], [.int ((E 1000).2 (l3 + (1 : Int32)).toNatClampNeg), .ref 0], (gSh, σ, 1862292)) _ rfl (if_pos hc) ?_
      refine gRunN_ok hG.1 4 _ (347, [some (.retAddr 1000), some (.ref 0), some (.ref 94), some (.int l3)], [.int (l3 + (2 : Int32)), .retAddr 1000, .int ((E 1000).2 (l3 + (1 : Int32)).toNatClampNeg), .ref 0], (gSh, σ, 1862292)) rfl ?_
      obtain ⟨hc, hP⟩ := g_if hP
      refine hG.1 _ (348, [some (.retAddr 1000), some (.ref 0), some (.ref 94), some (.int l3)], [.int ((E 1000).2 (l3 + (2 : Int32)).toNatClampNeg), .int ((E 1000).2 (l3 + (1 : Int32)).toNatClampNeg), .ref 0], (gSh, σ, 1862292)) _ rfl (if_pos hc) ?_
      obtain ⟨v138, hq, hP⟩ := g_b1 hP
      refine hG.2.2.2.1 _ _ _ [.ref 0, .int ((E 1000).2 (l3 + (1 : Int32)).toNatClampNeg), .int ((E 1000).2 (l3 + (2 : Int32)).toNatClampNeg)] [] _ (gSh, σ, 1862292) (some (.int v138)) _ _ _ _ _ _ rfl rfl rfl rfl rfl rfl (c_Face_element E (d + 11) 1862292 ((E 1000).2 (l3 + (1 : Int32)).toNatClampNeg) ((E 1000).2 (l3 + (2 : Int32)).toNatClampNeg) _  hq) (Nat.le_refl _) (Nat.le_refl _) (Nat.le_refl _) (Nat.le_refl _) ?_
      show G (351, [some (.retAddr 1000), some (.ref 0), some (.ref 94), some (.int l3)], [.int v138], (gSh, σ, 1862292))
      refine gRunN_ok hG.1 5 _ (356, [some (.retAddr 1000), some (.ref 0), some (.ref 94), some (.int l3)], [.int (l3 + (1 : Int32)), .retAddr 1000, .ref 94, .int v138], (gSh, σ, 1862292)) rfl ?_
      obtain ⟨hc, hP⟩ := g_if hP
      refine hG.1 _ (357, [some (.retAddr 1000), some (.ref 0), some (.ref 94), some (.int l3)], [.int ((E 1000).2 (l3 + (1 : Int32)).toNatClampNeg), .ref 94, .int v138], (gSh, σ, 1862292)) _ rfl (if_pos hc) ?_
      refine gRunN_ok hG.1 4 _ (361, [some (.retAddr 1000), some (.ref 0), some (.ref 94), some (.int l3)], [.int (l3 + (2 : Int32)), .retAddr 1000, .int ((E 1000).2 (l3 + (1 : Int32)).toNatClampNeg), .ref 94, .int v138], (gSh, σ, 1862292)) rfl ?_
      obtain ⟨hc, hP⟩ := g_if hP
      refine hG.1 _ (362, [some (.retAddr 1000), some (.ref 0), some (.ref 94), some (.int l3)], [.int ((E 1000).2 (l3 + (2 : Int32)).toNatClampNeg), .int ((E 1000).2 (l3 + (1 : Int32)).toNatClampNeg), .ref 94, .int v138], (gSh, σ, 1862292)) _ rfl (if_pos hc) ?_
      obtain ⟨v140, hq, hP⟩ := g_b1 hP
      refine hG.2.2.2.1 _ _ _ [.ref 94, .int ((E 1000).2 (l3 + (1 : Int32)).toNatClampNeg), .int ((E 1000).2 (l3 + (2 : Int32)).toNatClampNeg)] [.int v138] _ (gSh, σ, 1862292) (some (.int v140)) _ _ _ _ _ _ rfl rfl rfl rfl rfl rfl (c_Model_element E (d + 11) 1862292 ((E 1000).2 (l3 + (1 : Int32)).toNatClampNeg) ((E 1000).2 (l3 + (2 : Int32)).toNatClampNeg) _  hq) (Nat.le_refl _) (Nat.le_refl _) (Nat.le_refl _) (Nat.le_refl _) ?_
      show G (365, [some (.retAddr 1000), some (.ref 0), some (.ref 94), some (.int l3)], [.int v140, .int v138], (gSh, σ, 1862292))
      rcases g_ite hP with ⟨hc, hP⟩ | ⟨hc, hP⟩
      · refine hG.1 _ (890, [some (.retAddr 1000), some (.ref 0), some (.ref 94), some (.int l3)], [], (gSh, σ, 1862292)) _ rfl (if_pos hc) ?_
        refine gRunN_ok hG.1 1 _ (893, [some (.retAddr 1000), some (.ref 0), some (.ref 94), some (.int (l3 + 6))], [], (gSh, σ, 1862292)) rfl ?_
        obtain ⟨x142, ex142, hP⟩ := g_let hP
        rw [← ex142]
        refine gRunN_ok hG.1 1 _ (58, [some (.retAddr 1000), some (.ref 0), some (.ref 94), some (.int x142)], [], (gSh, σ, 1862292)) rfl ?_
        cases hP
        exact K1 _ _ rfl
      · refine hG.1 _ (368, [some (.retAddr 1000), some (.ref 0), some (.ref 94), some (.int l3)], [], (gSh, σ, 1862292)) _ rfl (if_neg hc) ?_
        cases hP
    rcases g_ite hP with ⟨hc6, hP⟩ | ⟨hc6, hP⟩
    · refine hG.1 _ (370, [some (.retAddr 1000), some (.ref 0), some (.ref 94), some (.int l3)], [], (gSh, σ, 1862292)) _ rfl ((if_neg hc0).trans ((if_neg hc1).trans ((if_neg hc2).trans ((if_neg hc3).trans ((if_neg hc4).trans ((if_neg hc5).trans (if_pos hc6))))))) ?_
      refine gRunN_ok hG.1 5 _ (375, [some (.retAddr 1000), some (.ref 0), some (.ref 94), some (.int l3)], [.int (l3 + (1 : Int32)), .retAddr 1000, .ref 0], (gSh, σ, 1862292)) rfl ?_
      obtain ⟨hc, hP⟩ := g_if hP
      refine hG.1 _ (376, [some (.retAddr 1000), some (.ref 0), some (.ref 94), some (.int l3)], [.int ((E 1000).2 (l3 + (1 : Int32)).toNatClampNeg), .ref 0], (gSh, σ, 1862292)) _ rfl (if_pos hc) ?_
      refine gRunN_ok hG.1 4 _ (380, [some (.retAddr 1000), some (.ref 0), some (.ref 94), some (.int l3)], [.int (l3 + (2 : Int32)), .retAddr 1000, .int ((E 1000).2 (l3 + (1 : Int32)).toNatClampNeg), .ref 0], (gSh, σ, 1862292)) rfl ?_
      obtain ⟨hc, hP⟩ := g_if hP
      refine hG.1 _ (381, [some (.retAddr 1000), some (.ref 0), some (.ref 94), some (.int l3)], [.int ((E 1000).2 (l3 + (2 : Int32)).toNatClampNeg), .int ((E 1000).2 (l3 + (1 : Int32)).toNatClampNeg), .ref 0], (gSh, σ, 1862292)) _ rfl (if_pos hc) ?_
      obtain ⟨v143, hq, hP⟩ := g_b1 hP
      refine hG.2.2.2.1 _ _ _ [.ref 0, .int ((E 1000).2 (l3 + (1 : Int32)).toNatClampNeg), .int ((E 1000).2 (l3 + (2 : Int32)).toNatClampNeg)] [] _ (gSh, σ, 1862292) (some (.int v143)) _ _ _ _ _ _ rfl rfl rfl rfl rfl rfl (c_Face_net E (d + 9) 1862292 ((E 1000).2 (l3 + (1 : Int32)).toNatClampNeg) ((E 1000).2 (l3 + (2 : Int32)).toNatClampNeg) _  hq) (Nat.le_refl _) (Nat.le_refl _) (Nat.le_refl _) (Nat.le_refl _) ?_
      show G (384, [some (.retAddr 1000), some (.ref 0), some (.ref 94), some (.int l3)], [.int v143], (gSh, σ, 1862292))
      refine gRunN_ok hG.1 5 _ (389, [some (.retAddr 1000), some (.ref 0), some (.ref 94), some (.int l3)], [.int (l3 + (1 : Int32)), .retAddr 1000, .ref 94, .int v143], (gSh, σ, 1862292)) rfl ?_
      obtain ⟨hc, hP⟩ := g_if hP
      refine hG.1 _ (390, [some (.retAddr 1000), some (.ref 0), some (.ref 94), some (.int l3)], [.int ((E 1000).2 (l3 + (1 : Int32)).toNatClampNeg), .ref 94, .int v143], (gSh, σ, 1862292)) _ rfl (if_pos hc) ?_
      refine gRunN_ok hG.1 4 _ (394, [some (.retAddr 1000), some (.ref 0), some (.ref 94), some (.int l3)], [.int (l3 + (2 : Int32)), .retAddr 1000, .int ((E 1000).2 (l3 + (1 : Int32)).toNatClampNeg), .ref 94, .int v143], (gSh, σ, 1862292)) rfl ?_
      obtain ⟨hc, hP⟩ := g_if hP
      refine hG.1 _ (395, [some (.retAddr 1000), some (.ref 0), some (.ref 94), some (.int l3)], [.int ((E 1000).2 (l3 + (2 : Int32)).toNatClampNeg), .int ((E 1000).2 (l3 + (1 : Int32)).toNatClampNeg), .ref 94, .int v143], (gSh, σ, 1862292)) _ rfl (if_pos hc) ?_
      obtain ⟨v145, hq, hP⟩ := g_b1 hP
      refine hG.2.2.2.1 _ _ _ [.ref 94, .int ((E 1000).2 (l3 + (1 : Int32)).toNatClampNeg), .int ((E 1000).2 (l3 + (2 : Int32)).toNatClampNeg)] [.int v143] _ (gSh, σ, 1862292) (some (.int v145)) _ _ _ _ _ _ rfl rfl rfl rfl rfl rfl (c_Model_net E (d + 11) 1862292 ((E 1000).2 (l3 + (1 : Int32)).toNatClampNeg) ((E 1000).2 (l3 + (2 : Int32)).toNatClampNeg) _  hq) (Nat.le_refl _) (Nat.le_refl _) (Nat.le_refl _) (Nat.le_refl _) ?_
      show G (398, [some (.retAddr 1000), some (.ref 0), some (.ref 94), some (.int l3)], [.int v145, .int v143], (gSh, σ, 1862292))
      rcases g_ite hP with ⟨hc, hP⟩ | ⟨hc, hP⟩
      · refine hG.1 _ (890, [some (.retAddr 1000), some (.ref 0), some (.ref 94), some (.int l3)], [], (gSh, σ, 1862292)) _ rfl (if_pos hc) ?_
        refine gRunN_ok hG.1 1 _ (893, [some (.retAddr 1000), some (.ref 0), some (.ref 94), some (.int (l3 + 6))], [], (gSh, σ, 1862292)) rfl ?_
        obtain ⟨x147, ex147, hP⟩ := g_let hP
        rw [← ex147]
        refine gRunN_ok hG.1 1 _ (58, [some (.retAddr 1000), some (.ref 0), some (.ref 94), some (.int x147)], [], (gSh, σ, 1862292)) rfl ?_
        cases hP
        exact K1 _ _ rfl
      · refine hG.1 _ (401, [some (.retAddr 1000), some (.ref 0), some (.ref 94), some (.int l3)], [], (gSh, σ, 1862292)) _ rfl (if_neg hc) ?_
        cases hP
    rcases g_ite hP with ⟨hc7, hP⟩ | ⟨hc7, hP⟩
    · refine hG.1 _ (403, [some (.retAddr 1000), some (.ref 0), some (.ref 94), some (.int l3)], [], (gSh, σ, 1862292)) _ rfl ((if_neg hc0).trans ((if_neg hc1).trans ((if_neg hc2).trans ((if_neg hc3).trans ((if_neg hc4).trans ((if_neg hc5).trans ((if_neg hc6).trans (if_pos hc7)))))))) ?_
      refine gRunN_ok hG.1 5 _ (408, [some (.retAddr 1000), some (.ref 0), some (.ref 94), some (.int l3)], [.int (l3 + (1 : Int32)), .retAddr 1000, .ref 0], (gSh, σ, 1862292)) rfl ?_
      obtain ⟨hc, hP⟩ := g_if hP
      refine hG.1 _ (409, [some (.retAddr 1000), some (.ref 0), some (.ref 94), some (.int l3)], [.int ((E 1000).2 (l3 + (1 : Int32)).toNatClampNeg), .ref 0], (gSh, σ, 1862292)) _ rfl (if_pos hc) ?_
      obtain ⟨v148, hq, hP⟩ := g_b1 hP
      refine hG.2.2.2.1 _ _ _ [.ref 0, .int ((E 1000).2 (l3 + (1 : Int32)).toNatClampNeg)] [] _ (gSh, σ, 1862292) (some (.int v148)) _ _ _ _ _ _ rfl rfl rfl rfl rfl rfl (c_Face_tile E (d + 11) 1862292 ((E 1000).2 (l3 + (1 : Int32)).toNatClampNeg) _  hq) (Nat.le_refl _) (Nat.le_refl _) (Nat.le_refl _) (Nat.le_refl _) ?_
      show G (412, [some (.retAddr 1000), some (.ref 0), some (.ref 94), some (.int l3)], [.int v148], (gSh, σ, 1862292))
      refine gRunN_ok hG.1 5 _ (417, [some (.retAddr 1000), some (.ref 0), some (.ref 94), some (.int l3)], [.int (l3 + (1 : Int32)), .retAddr 1000, .ref 94, .int v148], (gSh, σ, 1862292)) rfl ?_
      obtain ⟨hc, hP⟩ := g_if hP
      refine hG.1 _ (418, [some (.retAddr 1000), some (.ref 0), some (.ref 94), some (.int l3)], [.int ((E 1000).2 (l3 + (1 : Int32)).toNatClampNeg), .ref 94, .int v148], (gSh, σ, 1862292)) _ rfl (if_pos hc) ?_
      obtain ⟨v150, hq, hP⟩ := g_b1 hP
      refine hG.2.2.2.1 _ _ _ [.ref 94, .int ((E 1000).2 (l3 + (1 : Int32)).toNatClampNeg)] [.int v148] _ (gSh, σ, 1862292) (some (.int v150)) _ _ _ _ _ _ rfl rfl rfl rfl rfl rfl (c_Model_tile E (d + 11) 1862292 ((E 1000).2 (l3 + (1 : Int32)).toNatClampNeg) _  hq) (Nat.le_refl _) (Nat.le_refl _) (Nat.le_refl _) (Nat.le_refl _) ?_
      show G (421, [some (.retAddr 1000), some (.ref 0), some (.ref 94), some (.int l3)], [.int v150, .int v148], (gSh, σ, 1862292))
      rcases g_ite hP with ⟨hc, hP⟩ | ⟨hc, hP⟩
      · refine hG.1 _ (890, [some (.retAddr 1000), some (.ref 0), some (.ref 94), some (.int l3)], [], (gSh, σ, 1862292)) _ rfl (if_pos hc) ?_
        refine gRunN_ok hG.1 1 _ (893, [some (.retAddr 1000), some (.ref 0), some (.ref 94), some (.int (l3 + 6))], [], (gSh, σ, 1862292)) rfl ?_
        obtain ⟨x152, ex152, hP⟩ := g_let hP
        rw [← ex152]
        refine gRunN_ok hG.1 1 _ (58, [some (.retAddr 1000), some (.ref 0), some (.ref 94), some (.int x152)], [], (gSh, σ, 1862292)) rfl ?_
        cases hP
        exact K1 _ _ rfl
      · refine hG.1 _ (424, [some (.retAddr 1000), some (.ref 0), some (.ref 94), some (.int l3)], [], (gSh, σ, 1862292)) _ rfl (if_neg hc) ?_
        cases hP
    rcases g_ite hP with ⟨hc8, hP⟩ | ⟨hc8, hP⟩
    · refine hG.1 _ (426, [some (.retAddr 1000), some (.ref 0), some (.ref 94), some (.int l3)], [], (gSh, σ, 1862292)) _ rfl ((if_neg hc0).trans ((if_neg hc1).trans ((if_neg hc2).trans ((if_neg hc3).trans ((if_neg hc4).trans ((if_neg hc5).trans ((if_neg hc6).trans ((if_neg hc7).trans (if_pos hc8))))))))) ?_
      refine gRunN_ok hG.1 5 _ (431, [some (.retAddr 1000), some (.ref 0), some (.ref 94), some (.int l3)], [.int (l3 + (1 : Int32)), .retAddr 1000, .ref 0], (gSh, σ, 1862292)) rfl ?_
      obtain ⟨hc, hP⟩ := g_if hP
      refine hG.1 _ (432, [some (.retAddr 1000), some (.ref 0), some (.ref 94), some (.int l3)], [.int ((E 1000).2 (l3 + (1 : Int32)).toNatClampNeg), .ref 0], (gSh, σ, 1862292)) _ rfl (if_pos hc) ?_
      obtain ⟨v153, hq, hP⟩ := g_b1 hP
      refine hG.2.2.2.1 _ _ _ [.ref 0, .int ((E 1000).2 (l3 + (1 : Int32)).toNatClampNeg)] [] _ (gSh, σ, 1862292) (some (.int v153)) _ _ _ _ _ _ rfl rfl rfl rfl rfl rfl (c_Face_pad E (d + 11) 1862292 ((E 1000).2 (l3 + (1 : Int32)).toNatClampNeg) _  hq) (Nat.le_refl _) (Nat.le_refl _) (Nat.le_refl _) (Nat.le_refl _) ?_
      show G (435, [some (.retAddr 1000), some (.ref 0), some (.ref 94), some (.int l3)], [.int v153], (gSh, σ, 1862292))
      refine gRunN_ok hG.1 5 _ (440, [some (.retAddr 1000), some (.ref 0), some (.ref 94), some (.int l3)], [.int (l3 + (1 : Int32)), .retAddr 1000, .ref 94, .int v153], (gSh, σ, 1862292)) rfl ?_
      obtain ⟨hc, hP⟩ := g_if hP
      refine hG.1 _ (441, [some (.retAddr 1000), some (.ref 0), some (.ref 94), some (.int l3)], [.int ((E 1000).2 (l3 + (1 : Int32)).toNatClampNeg), .ref 94, .int v153], (gSh, σ, 1862292)) _ rfl (if_pos hc) ?_
      obtain ⟨v155, hq, hP⟩ := g_b1 hP
      refine hG.2.2.2.1 _ _ _ [.ref 94, .int ((E 1000).2 (l3 + (1 : Int32)).toNatClampNeg)] [.int v153] _ (gSh, σ, 1862292) (some (.int v155)) _ _ _ _ _ _ rfl rfl rfl rfl rfl rfl (c_Model_pad E (d + 11) 1862292 ((E 1000).2 (l3 + (1 : Int32)).toNatClampNeg) _  hq) (Nat.le_refl _) (Nat.le_refl _) (Nat.le_refl _) (Nat.le_refl _) ?_
      show G (444, [some (.retAddr 1000), some (.ref 0), some (.ref 94), some (.int l3)], [.int v155, .int v153], (gSh, σ, 1862292))
      rcases g_ite hP with ⟨hc, hP⟩ | ⟨hc, hP⟩
      · refine hG.1 _ (890, [some (.retAddr 1000), some (.ref 0), some (.ref 94), some (.int l3)], [], (gSh, σ, 1862292)) _ rfl (if_pos hc) ?_
        refine gRunN_ok hG.1 1 _ (893, [some (.retAddr 1000), some (.ref 0), some (.ref 94), some (.int (l3 + 6))], [], (gSh, σ, 1862292)) rfl ?_
        obtain ⟨x157, ex157, hP⟩ := g_let hP
        rw [← ex157]
        refine gRunN_ok hG.1 1 _ (58, [some (.retAddr 1000), some (.ref 0), some (.ref 94), some (.int x157)], [], (gSh, σ, 1862292)) rfl ?_
        cases hP
        exact K1 _ _ rfl
      · refine hG.1 _ (447, [some (.retAddr 1000), some (.ref 0), some (.ref 94), some (.int l3)], [], (gSh, σ, 1862292)) _ rfl (if_neg hc) ?_
        cases hP
    rcases g_ite hP with ⟨hc9, hP⟩ | ⟨hc9, hP⟩
    · refine hG.1 _ (449, [some (.retAddr 1000), some (.ref 0), some (.ref 94), some (.int l3)], [], (gSh, σ, 1862292)) _ rfl ((if_neg hc0).trans ((if_neg hc1).trans ((if_neg hc2).trans ((if_neg hc3).trans ((if_neg hc4).trans ((if_neg hc5).trans ((if_neg hc6).trans ((if_neg hc7).trans ((if_neg hc8).trans (if_pos hc9)))))))))) ?_
      refine gRunN_ok hG.1 5 _ (454, [some (.retAddr 1000), some (.ref 0), some (.ref 94), some (.int l3)], [.int (l3 + (1 : Int32)), .retAddr 1000, .ref 0], (gSh, σ, 1862292)) rfl ?_
      obtain ⟨hc, hP⟩ := g_if hP
      refine hG.1 _ (455, [some (.retAddr 1000), some (.ref 0), some (.ref 94), some (.int l3)], [.int ((E 1000).2 (l3 + (1 : Int32)).toNatClampNeg), .ref 0], (gSh, σ, 1862292)) _ rfl (if_pos hc) ?_
      rcases g_ite hP with ⟨hc, hP⟩ | ⟨hc, hP⟩
      · refine hG.1 _ (462, [some (.retAddr 1000), some (.ref 0), some (.ref 94), some (.int l3)], [.ref 0], (gSh, σ, 1862292)) _ rfl (if_pos hc) ?_
        refine gRunN_ok hG.1 1 _ (463, [some (.retAddr 1000), some (.ref 0), some (.ref 94), some (.int l3)], [.int 0, .ref 0], (gSh, σ, 1862292)) rfl ?_
        exact j_Law_law_j463_58 E d hG l3 0 σ hP K1 K2
      · refine hG.1 _ (458, [some (.retAddr 1000), some (.ref 0), some (.ref 94), some (.int l3)], [.ref 0], (gSh, σ, 1862292)) _ rfl (if_neg hc) ?_
        refine gRunN_ok hG.1 2 _ (463, [some (.retAddr 1000), some (.ref 0), some (.ref 94), some (.int l3)], [.int 1, .ref 0], (gSh, σ, 1862292)) rfl ?_
        exact j_Law_law_j463_58 E d hG l3 1 σ hP K1 K2
    rcases g_ite hP with ⟨hc10, hP⟩ | ⟨hc10, hP⟩
    · refine hG.1 _ (518, [some (.retAddr 1000), some (.ref 0), some (.ref 94), some (.int l3)], [], (gSh, σ, 1862292)) _ rfl ((if_neg hc0).trans ((if_neg hc1).trans ((if_neg hc2).trans ((if_neg hc3).trans ((if_neg hc4).trans ((if_neg hc5).trans ((if_neg hc6).trans ((if_neg hc7).trans ((if_neg hc8).trans ((if_neg hc9).trans (if_pos hc10))))))))))) ?_
      refine gRunN_ok hG.1 5 _ (523, [some (.retAddr 1000), some (.ref 0), some (.ref 94), some (.int l3)], [.int (l3 + (1 : Int32)), .retAddr 1000, .ref 0], (gSh, σ, 1862292)) rfl ?_
      obtain ⟨hc, hP⟩ := g_if hP
      refine hG.1 _ (524, [some (.retAddr 1000), some (.ref 0), some (.ref 94), some (.int l3)], [.int ((E 1000).2 (l3 + (1 : Int32)).toNatClampNeg), .ref 0], (gSh, σ, 1862292)) _ rfl (if_pos hc) ?_
      refine gRunN_ok hG.1 4 _ (528, [some (.retAddr 1000), some (.ref 0), some (.ref 94), some (.int l3)], [.int (l3 + (2 : Int32)), .retAddr 1000, .int ((E 1000).2 (l3 + (1 : Int32)).toNatClampNeg), .ref 0], (gSh, σ, 1862292)) rfl ?_
      obtain ⟨hc, hP⟩ := g_if hP
      refine hG.1 _ (529, [some (.retAddr 1000), some (.ref 0), some (.ref 94), some (.int l3)], [.int ((E 1000).2 (l3 + (2 : Int32)).toNatClampNeg), .int ((E 1000).2 (l3 + (1 : Int32)).toNatClampNeg), .ref 0], (gSh, σ, 1862292)) _ rfl (if_pos hc) ?_
      obtain ⟨v163, s164, hq, hP⟩ := g_b2 hP
      refine hG.2.2.2.1 _ _ _ [.ref 0, .int ((E 1000).2 (l3 + (1 : Int32)).toNatClampNeg), .int ((E 1000).2 (l3 + (2 : Int32)).toNatClampNeg)] [] _ (gSh, s164, 1862292) (some (.int v163)) _ _ _ _ _ _ rfl rfl rfl rfl rfl rfl (c_Face_shake E (d + 7) 1862292 ((E 1000).2 (l3 + (1 : Int32)).toNatClampNeg) ((E 1000).2 (l3 + (2 : Int32)).toNatClampNeg) _  hq) (Nat.le_refl _) (Nat.le_refl _) (Nat.le_refl _) (Nat.le_refl _) ?_
      show G (532, [some (.retAddr 1000), some (.ref 0), some (.ref 94), some (.int l3)], [.int v163], (gSh, s164, 1862292))
      refine gRunN_ok hG.1 5 _ (537, [some (.retAddr 1000), some (.ref 0), some (.ref 94), some (.int l3)], [.int (l3 + (1 : Int32)), .retAddr 1000, .ref 94, .int v163], (gSh, s164, 1862292)) rfl ?_
      obtain ⟨hc, hP⟩ := g_if hP
      refine hG.1 _ (538, [some (.retAddr 1000), some (.ref 0), some (.ref 94), some (.int l3)], [.int ((E 1000).2 (l3 + (1 : Int32)).toNatClampNeg), .ref 94, .int v163], (gSh, s164, 1862292)) _ rfl (if_pos hc) ?_
      refine gRunN_ok hG.1 4 _ (542, [some (.retAddr 1000), some (.ref 0), some (.ref 94), some (.int l3)], [.int (l3 + (2 : Int32)), .retAddr 1000, .int ((E 1000).2 (l3 + (1 : Int32)).toNatClampNeg), .ref 94, .int v163], (gSh, s164, 1862292)) rfl ?_
      obtain ⟨hc, hP⟩ := g_if hP
      refine hG.1 _ (543, [some (.retAddr 1000), some (.ref 0), some (.ref 94), some (.int l3)], [.int ((E 1000).2 (l3 + (2 : Int32)).toNatClampNeg), .int ((E 1000).2 (l3 + (1 : Int32)).toNatClampNeg), .ref 94, .int v163], (gSh, s164, 1862292)) _ rfl (if_pos hc) ?_
      obtain ⟨v165, s166, hq, hP⟩ := g_b2 hP
      refine hG.2.2.2.1 _ _ _ [.ref 94, .int ((E 1000).2 (l3 + (1 : Int32)).toNatClampNeg), .int ((E 1000).2 (l3 + (2 : Int32)).toNatClampNeg)] [.int v163] _ (gSh, s166, 1862292) (some (.int v165)) _ _ _ _ _ _ rfl rfl rfl rfl rfl rfl (c_Model_shake E (d + 6) 1862292 ((E 1000).2 (l3 + (1 : Int32)).toNatClampNeg) ((E 1000).2 (l3 + (2 : Int32)).toNatClampNeg) _  hq) (Nat.le_refl _) (Nat.le_refl _) (Nat.le_refl _) (Nat.le_refl _) ?_
      show G (546, [some (.retAddr 1000), some (.ref 0), some (.ref 94), some (.int l3)], [.int v165, .int v163], (gSh, s166, 1862292))
      rcases g_ite hP with ⟨hc, hP⟩ | ⟨hc, hP⟩
      · refine hG.1 _ (890, [some (.retAddr 1000), some (.ref 0), some (.ref 94), some (.int l3)], [], (gSh, s166, 1862292)) _ rfl (if_pos hc) ?_
        refine gRunN_ok hG.1 1 _ (893, [some (.retAddr 1000), some (.ref 0), some (.ref 94), some (.int (l3 + 6))], [], (gSh, s166, 1862292)) rfl ?_
        obtain ⟨x167, ex167, hP⟩ := g_let hP
        rw [← ex167]
        refine gRunN_ok hG.1 1 _ (58, [some (.retAddr 1000), some (.ref 0), some (.ref 94), some (.int x167)], [], (gSh, s166, 1862292)) rfl ?_
        cases hP
        exact K1 _ _ rfl
      · refine hG.1 _ (549, [some (.retAddr 1000), some (.ref 0), some (.ref 94), some (.int l3)], [], (gSh, s166, 1862292)) _ rfl (if_neg hc) ?_
        cases hP
    rcases g_ite hP with ⟨hc11, hP⟩ | ⟨hc11, hP⟩
    · refine hG.1 _ (551, [some (.retAddr 1000), some (.ref 0), some (.ref 94), some (.int l3)], [], (gSh, σ, 1862292)) _ rfl ((if_neg hc0).trans ((if_neg hc1).trans ((if_neg hc2).trans ((if_neg hc3).trans ((if_neg hc4).trans ((if_neg hc5).trans ((if_neg hc6).trans ((if_neg hc7).trans ((if_neg hc8).trans ((if_neg hc9).trans ((if_neg hc10).trans (if_pos hc11)))))))))))) ?_
      refine gRunN_ok hG.1 5 _ (556, [some (.retAddr 1000), some (.ref 0), some (.ref 94), some (.int l3)], [.int (l3 + (1 : Int32)), .retAddr 1000, .ref 0], (gSh, σ, 1862292)) rfl ?_
      obtain ⟨hc, hP⟩ := g_if hP
      refine hG.1 _ (557, [some (.retAddr 1000), some (.ref 0), some (.ref 94), some (.int l3)], [.int ((E 1000).2 (l3 + (1 : Int32)).toNatClampNeg), .ref 0], (gSh, σ, 1862292)) _ rfl (if_pos hc) ?_
      obtain ⟨v168, s169, hq, hP⟩ := g_b2 hP
      refine hG.2.2.2.1 _ _ _ [.ref 0, .int ((E 1000).2 (l3 + (1 : Int32)).toNatClampNeg)] [] _ (gSh, s169, 1862292) (some (.int v168)) _ _ _ _ _ _ rfl rfl rfl rfl rfl rfl (c_Face_route E (d + 6) 1862292 ((E 1000).2 (l3 + (1 : Int32)).toNatClampNeg) _  hq) (Nat.le_refl _) (Nat.le_refl _) (Nat.le_refl _) (Nat.le_refl _) ?_
      show G (560, [some (.retAddr 1000), some (.ref 0), some (.ref 94), some (.int l3)], [.int v168], (gSh, s169, 1862292))
      refine gRunN_ok hG.1 5 _ (565, [some (.retAddr 1000), some (.ref 0), some (.ref 94), some (.int l3)], [.int (l3 + (1 : Int32)), .retAddr 1000, .ref 94, .int v168], (gSh, s169, 1862292)) rfl ?_
      obtain ⟨hc, hP⟩ := g_if hP
      refine hG.1 _ (566, [some (.retAddr 1000), some (.ref 0), some (.ref 94), some (.int l3)], [.int ((E 1000).2 (l3 + (1 : Int32)).toNatClampNeg), .ref 94, .int v168], (gSh, s169, 1862292)) _ rfl (if_pos hc) ?_
      obtain ⟨v170, s171, hq, hP⟩ := g_b2 hP
      refine hG.2.2.2.1 _ _ _ [.ref 94, .int ((E 1000).2 (l3 + (1 : Int32)).toNatClampNeg)] [.int v168] _ (gSh, s171, 1862292) (some (.int v170)) _ _ _ _ _ _ rfl rfl rfl rfl rfl rfl (c_Model_route E (d + 5) 1862292 ((E 1000).2 (l3 + (1 : Int32)).toNatClampNeg) _  hq) (Nat.le_refl _) (Nat.le_refl _) (Nat.le_refl _) (Nat.le_refl _) ?_
      show G (569, [some (.retAddr 1000), some (.ref 0), some (.ref 94), some (.int l3)], [.int v170, .int v168], (gSh, s171, 1862292))
      rcases g_ite hP with ⟨hc, hP⟩ | ⟨hc, hP⟩
      · refine hG.1 _ (890, [some (.retAddr 1000), some (.ref 0), some (.ref 94), some (.int l3)], [], (gSh, s171, 1862292)) _ rfl (if_pos hc) ?_
        refine gRunN_ok hG.1 1 _ (893, [some (.retAddr 1000), some (.ref 0), some (.ref 94), some (.int (l3 + 6))], [], (gSh, s171, 1862292)) rfl ?_
        obtain ⟨x172, ex172, hP⟩ := g_let hP
        rw [← ex172]
        refine gRunN_ok hG.1 1 _ (58, [some (.retAddr 1000), some (.ref 0), some (.ref 94), some (.int x172)], [], (gSh, s171, 1862292)) rfl ?_
        cases hP
        exact K1 _ _ rfl
      · refine hG.1 _ (572, [some (.retAddr 1000), some (.ref 0), some (.ref 94), some (.int l3)], [], (gSh, s171, 1862292)) _ rfl (if_neg hc) ?_
        cases hP
    rcases g_ite hP with ⟨hc12, hP⟩ | ⟨hc12, hP⟩
    · refine hG.1 _ (574, [some (.retAddr 1000), some (.ref 0), some (.ref 94), some (.int l3)], [], (gSh, σ, 1862292)) _ rfl ((if_neg hc0).trans ((if_neg hc1).trans ((if_neg hc2).trans ((if_neg hc3).trans ((if_neg hc4).trans ((if_neg hc5).trans ((if_neg hc6).trans ((if_neg hc7).trans ((if_neg hc8).trans ((if_neg hc9).trans ((if_neg hc10).trans ((if_neg hc11).trans (if_pos hc12))))))))))))) ?_
      refine gRunN_ok hG.1 5 _ (579, [some (.retAddr 1000), some (.ref 0), some (.ref 94), some (.int l3)], [.int (l3 + (1 : Int32)), .retAddr 1000, .ref 0], (gSh, σ, 1862292)) rfl ?_
      obtain ⟨hc, hP⟩ := g_if hP
      refine hG.1 _ (580, [some (.retAddr 1000), some (.ref 0), some (.ref 94), some (.int l3)], [.int ((E 1000).2 (l3 + (1 : Int32)).toNatClampNeg), .ref 0], (gSh, σ, 1862292)) _ rfl (if_pos hc) ?_
      obtain ⟨v173, hq, hP⟩ := g_b1 hP
      refine hG.2.2.2.1 _ _ _ [.ref 0, .int ((E 1000).2 (l3 + (1 : Int32)).toNatClampNeg)] [] _ (gSh, σ, 1862292) (some (.int v173)) _ _ _ _ _ _ rfl rfl rfl rfl rfl rfl (c_Face_owner E (d + 10) 1862292 ((E 1000).2 (l3 + (1 : Int32)).toNatClampNeg) _  hq) (Nat.le_refl _) (Nat.le_refl _) (Nat.le_refl _) (Nat.le_refl _) ?_
      show G (583, [some (.retAddr 1000), some (.ref 0), some (.ref 94), some (.int l3)], [.int v173], (gSh, σ, 1862292))
      refine gRunN_ok hG.1 5 _ (588, [some (.retAddr 1000), some (.ref 0), some (.ref 94), some (.int l3)], [.int (l3 + (1 : Int32)), .retAddr 1000, .ref 94, .int v173], (gSh, σ, 1862292)) rfl ?_
      obtain ⟨hc, hP⟩ := g_if hP
      refine hG.1 _ (589, [some (.retAddr 1000), some (.ref 0), some (.ref 94), some (.int l3)], [.int ((E 1000).2 (l3 + (1 : Int32)).toNatClampNeg), .ref 94, .int v173], (gSh, σ, 1862292)) _ rfl (if_pos hc) ?_
      obtain ⟨v175, hq, hP⟩ := g_b1 hP
      refine hG.2.2.2.1 _ _ _ [.ref 94, .int ((E 1000).2 (l3 + (1 : Int32)).toNatClampNeg)] [.int v173] _ (gSh, σ, 1862292) (some (.int v175)) _ _ _ _ _ _ rfl rfl rfl rfl rfl rfl (c_Model_owner E (d + 11) 1862292 ((E 1000).2 (l3 + (1 : Int32)).toNatClampNeg) _  hq) (Nat.le_refl _) (Nat.le_refl _) (Nat.le_refl _) (Nat.le_refl _) ?_
      show G (592, [some (.retAddr 1000), some (.ref 0), some (.ref 94), some (.int l3)], [.int v175, .int v173], (gSh, σ, 1862292))
      rcases g_ite hP with ⟨hc, hP⟩ | ⟨hc, hP⟩
      · refine hG.1 _ (890, [some (.retAddr 1000), some (.ref 0), some (.ref 94), some (.int l3)], [], (gSh, σ, 1862292)) _ rfl (if_pos hc) ?_
        refine gRunN_ok hG.1 1 _ (893, [some (.retAddr 1000), some (.ref 0), some (.ref 94), some (.int (l3 + 6))], [], (gSh, σ, 1862292)) rfl ?_
        obtain ⟨x177, ex177, hP⟩ := g_let hP
        rw [← ex177]
        refine gRunN_ok hG.1 1 _ (58, [some (.retAddr 1000), some (.ref 0), some (.ref 94), some (.int x177)], [], (gSh, σ, 1862292)) rfl ?_
        cases hP
        exact K1 _ _ rfl
      · refine hG.1 _ (595, [some (.retAddr 1000), some (.ref 0), some (.ref 94), some (.int l3)], [], (gSh, σ, 1862292)) _ rfl (if_neg hc) ?_
        cases hP
    rcases g_ite hP with ⟨hc13, hP⟩ | ⟨hc13, hP⟩
    · refine hG.1 _ (597, [some (.retAddr 1000), some (.ref 0), some (.ref 94), some (.int l3)], [], (gSh, σ, 1862292)) _ rfl ((if_neg hc0).trans ((if_neg hc1).trans ((if_neg hc2).trans ((if_neg hc3).trans ((if_neg hc4).trans ((if_neg hc5).trans ((if_neg hc6).trans ((if_neg hc7).trans ((if_neg hc8).trans ((if_neg hc9).trans ((if_neg hc10).trans ((if_neg hc11).trans ((if_neg hc12).trans (if_pos hc13)))))))))))))) ?_
      refine gRunN_ok hG.1 1 _ (598, [some (.retAddr 1000), some (.ref 0), some (.ref 94), some (.int l3)], [.ref 0], (gSh, σ, 1862292)) rfl ?_
      obtain ⟨v178, s179, hq, hP⟩ := g_b2 hP
      refine hG.2.2.2.1 _ _ _ [.ref 0] [] _ (gSh, s179, 1862292) (some (.int v178)) _ _ _ _ _ _ rfl rfl rfl rfl rfl rfl (c_Face_burn E (d + 8) 1862292 _  hq) (Nat.le_refl _) (Nat.le_refl _) (Nat.le_refl _) (Nat.le_refl _) ?_
      show G (601, [some (.retAddr 1000), some (.ref 0), some (.ref 94), some (.int l3)], [.int v178], (gSh, s179, 1862292))
      refine gRunN_ok hG.1 1 _ (602, [some (.retAddr 1000), some (.ref 0), some (.ref 94), some (.int l3)], [.ref 94, .int v178], (gSh, s179, 1862292)) rfl ?_
      obtain ⟨v180, s181, hq, hP⟩ := g_b2 hP
      refine hG.2.2.2.1 _ _ _ [.ref 94] [.int v178] _ (gSh, s181, 1862292) (some (.int v180)) _ _ _ _ _ _ rfl rfl rfl rfl rfl rfl (c_Model_burn E (d + 7) 1862292 _  hq) (Nat.le_refl _) (Nat.le_refl _) (Nat.le_refl _) (Nat.le_refl _) ?_
      show G (605, [some (.retAddr 1000), some (.ref 0), some (.ref 94), some (.int l3)], [.int v180, .int v178], (gSh, s181, 1862292))
      rcases g_ite hP with ⟨hc, hP⟩ | ⟨hc, hP⟩
      · refine hG.1 _ (890, [some (.retAddr 1000), some (.ref 0), some (.ref 94), some (.int l3)], [], (gSh, s181, 1862292)) _ rfl (if_pos hc) ?_
        refine gRunN_ok hG.1 1 _ (893, [some (.retAddr 1000), some (.ref 0), some (.ref 94), some (.int (l3 + 6))], [], (gSh, s181, 1862292)) rfl ?_
        obtain ⟨x182, ex182, hP⟩ := g_let hP
        rw [← ex182]
        refine gRunN_ok hG.1 1 _ (58, [some (.retAddr 1000), some (.ref 0), some (.ref 94), some (.int x182)], [], (gSh, s181, 1862292)) rfl ?_
        cases hP
        exact K1 _ _ rfl
      · refine hG.1 _ (608, [some (.retAddr 1000), some (.ref 0), some (.ref 94), some (.int l3)], [], (gSh, s181, 1862292)) _ rfl (if_neg hc) ?_
        cases hP
    rcases g_ite hP with ⟨hc14, hP⟩ | ⟨hc14, hP⟩
    · refine hG.1 _ (610, [some (.retAddr 1000), some (.ref 0), some (.ref 94), some (.int l3)], [], (gSh, σ, 1862292)) _ rfl ((if_neg hc0).trans ((if_neg hc1).trans ((if_neg hc2).trans ((if_neg hc3).trans ((if_neg hc4).trans ((if_neg hc5).trans ((if_neg hc6).trans ((if_neg hc7).trans ((if_neg hc8).trans ((if_neg hc9).trans ((if_neg hc10).trans ((if_neg hc11).trans ((if_neg hc12).trans ((if_neg hc13).trans (if_pos hc14))))))))))))))) ?_
      refine gRunN_ok hG.1 5 _ (615, [some (.retAddr 1000), some (.ref 0), some (.ref 94), some (.int l3)], [.int (l3 + (1 : Int32)), .retAddr 1000, .ref 0], (gSh, σ, 1862292)) rfl ?_
      obtain ⟨hc, hP⟩ := g_if hP
      refine hG.1 _ (616, [some (.retAddr 1000), some (.ref 0), some (.ref 94), some (.int l3)], [.int ((E 1000).2 (l3 + (1 : Int32)).toNatClampNeg), .ref 0], (gSh, σ, 1862292)) _ rfl (if_pos hc) ?_
      obtain ⟨v183, hq, hP⟩ := g_b1 hP
      refine hG.2.2.2.1 _ _ _ [.ref 0, .int ((E 1000).2 (l3 + (1 : Int32)).toNatClampNeg)] [] _ (gSh, σ, 1862292) (some (.int v183)) _ _ _ _ _ _ rfl rfl rfl rfl rfl rfl (c_Face_bit E (d + 11) 1862292 ((E 1000).2 (l3 + (1 : Int32)).toNatClampNeg) _  hq) (Nat.le_refl _) (Nat.le_refl _) (Nat.le_refl _) (Nat.le_refl _) ?_
      show G (619, [some (.retAddr 1000), some (.ref 0), some (.ref 94), some (.int l3)], [.int v183], (gSh, σ, 1862292))
      refine gRunN_ok hG.1 5 _ (624, [some (.retAddr 1000), some (.ref 0), some (.ref 94), some (.int l3)], [.int (l3 + (1 : Int32)), .retAddr 1000, .ref 94, .int v183], (gSh, σ, 1862292)) rfl ?_
      obtain ⟨hc, hP⟩ := g_if hP
      refine hG.1 _ (625, [some (.retAddr 1000), some (.ref 0), some (.ref 94), some (.int l3)], [.int ((E 1000).2 (l3 + (1 : Int32)).toNatClampNeg), .ref 94, .int v183], (gSh, σ, 1862292)) _ rfl (if_pos hc) ?_
      obtain ⟨v185, hq, hP⟩ := g_b1 hP
      refine hG.2.2.2.1 _ _ _ [.ref 94, .int ((E 1000).2 (l3 + (1 : Int32)).toNatClampNeg)] [.int v183] _ (gSh, σ, 1862292) (some (.int v185)) _ _ _ _ _ _ rfl rfl rfl rfl rfl rfl (c_Model_bit E (d + 11) 1862292 ((E 1000).2 (l3 + (1 : Int32)).toNatClampNeg) _  hq) (Nat.le_refl _) (Nat.le_refl _) (Nat.le_refl _) (Nat.le_refl _) ?_
      show G (628, [some (.retAddr 1000), some (.ref 0), some (.ref 94), some (.int l3)], [.int v185, .int v183], (gSh, σ, 1862292))
      rcases g_ite hP with ⟨hc, hP⟩ | ⟨hc, hP⟩
      · refine hG.1 _ (890, [some (.retAddr 1000), some (.ref 0), some (.ref 94), some (.int l3)], [], (gSh, σ, 1862292)) _ rfl (if_pos hc) ?_
        refine gRunN_ok hG.1 1 _ (893, [some (.retAddr 1000), some (.ref 0), some (.ref 94), some (.int (l3 + 6))], [], (gSh, σ, 1862292)) rfl ?_
        obtain ⟨x187, ex187, hP⟩ := g_let hP
        rw [← ex187]
        refine gRunN_ok hG.1 1 _ (58, [some (.retAddr 1000), some (.ref 0), some (.ref 94), some (.int x187)], [], (gSh, σ, 1862292)) rfl ?_
        cases hP
        exact K1 _ _ rfl
      · refine hG.1 _ (631, [some (.retAddr 1000), some (.ref 0), some (.ref 94), some (.int l3)], [], (gSh, σ, 1862292)) _ rfl (if_neg hc) ?_
        cases hP
    rcases g_ite hP with ⟨hc15, hP⟩ | ⟨hc15, hP⟩
    · refine hG.1 _ (633, [some (.retAddr 1000), some (.ref 0), some (.ref 94), some (.int l3)], [], (gSh, σ, 1862292)) _ rfl ((if_neg hc0).trans ((if_neg hc1).trans ((if_neg hc2).trans ((if_neg hc3).trans ((if_neg hc4).trans ((if_neg hc5).trans ((if_neg hc6).trans ((if_neg hc7).trans ((if_neg hc8).trans ((if_neg hc9).trans ((if_neg hc10).trans ((if_neg hc11).trans ((if_neg hc12).trans ((if_neg hc13).trans ((if_neg hc14).trans (if_pos hc15)))))))))))))))) ?_
      refine gRunN_ok hG.1 5 _ (638, [some (.retAddr 1000), some (.ref 0), some (.ref 94), some (.int l3)], [.int (l3 + (1 : Int32)), .retAddr 1000, .ref 0], (gSh, σ, 1862292)) rfl ?_
      obtain ⟨hc, hP⟩ := g_if hP
      refine hG.1 _ (639, [some (.retAddr 1000), some (.ref 0), some (.ref 94), some (.int l3)], [.int ((E 1000).2 (l3 + (1 : Int32)).toNatClampNeg), .ref 0], (gSh, σ, 1862292)) _ rfl (if_pos hc) ?_
      obtain ⟨v188, s189, hq, hP⟩ := g_b2 hP
      refine hG.2.2.2.1 _ _ _ [.ref 0, .int ((E 1000).2 (l3 + (1 : Int32)).toNatClampNeg)] [] _ (gSh, s189, 1862292) (some (.int v188)) _ _ _ _ _ _ rfl rfl rfl rfl rfl rfl (c_Face_flip E (d + 10) 1862292 ((E 1000).2 (l3 + (1 : Int32)).toNatClampNeg) _  hq) (Nat.le_refl _) (Nat.le_refl _) (Nat.le_refl _) (Nat.le_refl _) ?_
      show G (642, [some (.retAddr 1000), some (.ref 0), some (.ref 94), some (.int l3)], [.int v188], (gSh, s189, 1862292))
      refine gRunN_ok hG.1 5 _ (647, [some (.retAddr 1000), some (.ref 0), some (.ref 94), some (.int l3)], [.int (l3 + (1 : Int32)), .retAddr 1000, .ref 94, .int v188], (gSh, s189, 1862292)) rfl ?_
      obtain ⟨hc, hP⟩ := g_if hP
      refine hG.1 _ (648, [some (.retAddr 1000), some (.ref 0), some (.ref 94), some (.int l3)], [.int ((E 1000).2 (l3 + (1 : Int32)).toNatClampNeg), .ref 94, .int v188], (gSh, s189, 1862292)) _ rfl (if_pos hc) ?_
      obtain ⟨v190, s191, hq, hP⟩ := g_b2 hP
      refine hG.2.2.2.1 _ _ _ [.ref 94, .int ((E 1000).2 (l3 + (1 : Int32)).toNatClampNeg)] [.int v188] _ (gSh, s191, 1862292) (some (.int v190)) _ _ _ _ _ _ rfl rfl rfl rfl rfl rfl (c_Model_flip E (d + 11) 1862292 ((E 1000).2 (l3 + (1 : Int32)).toNatClampNeg) _  hq) (Nat.le_refl _) (Nat.le_refl _) (Nat.le_refl _) (Nat.le_refl _) ?_
      show G (651, [some (.retAddr 1000), some (.ref 0), some (.ref 94), some (.int l3)], [.int v190, .int v188], (gSh, s191, 1862292))
      rcases g_ite hP with ⟨hc, hP⟩ | ⟨hc, hP⟩
      · refine hG.1 _ (890, [some (.retAddr 1000), some (.ref 0), some (.ref 94), some (.int l3)], [], (gSh, s191, 1862292)) _ rfl (if_pos hc) ?_
        refine gRunN_ok hG.1 1 _ (893, [some (.retAddr 1000), some (.ref 0), some (.ref 94), some (.int (l3 + 6))], [], (gSh, s191, 1862292)) rfl ?_
        obtain ⟨x192, ex192, hP⟩ := g_let hP
        rw [← ex192]
        refine gRunN_ok hG.1 1 _ (58, [some (.retAddr 1000), some (.ref 0), some (.ref 94), some (.int x192)], [], (gSh, s191, 1862292)) rfl ?_
        cases hP
        exact K1 _ _ rfl
      · refine hG.1 _ (654, [some (.retAddr 1000), some (.ref 0), some (.ref 94), some (.int l3)], [], (gSh, s191, 1862292)) _ rfl (if_neg hc) ?_
        cases hP
    rcases g_ite hP with ⟨hc16, hP⟩ | ⟨hc16, hP⟩
    · refine hG.1 _ (656, [some (.retAddr 1000), some (.ref 0), some (.ref 94), some (.int l3)], [], (gSh, σ, 1862292)) _ rfl ((if_neg hc0).trans ((if_neg hc1).trans ((if_neg hc2).trans ((if_neg hc3).trans ((if_neg hc4).trans ((if_neg hc5).trans ((if_neg hc6).trans ((if_neg hc7).trans ((if_neg hc8).trans ((if_neg hc9).trans ((if_neg hc10).trans ((if_neg hc11).trans ((if_neg hc12).trans ((if_neg hc13).trans ((if_neg hc14).trans ((if_neg hc15).trans (if_pos hc16))))))))))))))))) ?_
      refine gRunN_ok hG.1 1 _ (657, [some (.retAddr 1000), some (.ref 0), some (.ref 94), some (.int l3)], [.ref 0], (gSh, σ, 1862292)) rfl ?_
      obtain ⟨s194, hq, hP⟩ := g_b1 hP
      refine hG.2.2.2.1 _ _ _ [.ref 0] [] _ (gSh, s194, 1862292) none _ _ _ _ _ _ rfl rfl rfl rfl rfl rfl (c_Face_start E (d + 10) 1862292 _  hq) (Nat.le_refl _) (Nat.le_refl _) (Nat.le_refl _) (Nat.le_refl _) ?_
      show G (660, [some (.retAddr 1000), some (.ref 0), some (.ref 94), some (.int l3)], [], (gSh, s194, 1862292))
      refine gRunN_ok hG.1 1 _ (661, [some (.retAddr 1000), some (.ref 0), some (.ref 94), some (.int l3)], [.ref 94], (gSh, s194, 1862292)) rfl ?_
      obtain ⟨s196, hq, hP⟩ := g_b1 hP
      refine hG.2.2.2.1 _ _ _ [.ref 94] [] _ (gSh, s196, 1862292) none _ _ _ _ _ _ rfl rfl rfl rfl rfl rfl (c_Model_start E (d + 11) 1862292 _  hq) (Nat.le_refl _) (Nat.le_refl _) (Nat.le_refl _) (Nat.le_refl _) ?_
      show G (664, [some (.retAddr 1000), some (.ref 0), some (.ref 94), some (.int l3)], [], (gSh, s196, 1862292))
      refine gRunN_ok hG.1 2 _ (893, [some (.retAddr 1000), some (.ref 0), some (.ref 94), some (.int (l3 + 6))], [], (gSh, s196, 1862292)) rfl ?_
      obtain ⟨x197, ex197, hP⟩ := g_let hP
      rw [← ex197]
      refine gRunN_ok hG.1 1 _ (58, [some (.retAddr 1000), some (.ref 0), some (.ref 94), some (.int x197)], [], (gSh, s196, 1862292)) rfl ?_
      cases hP
      exact K1 _ _ rfl
    rcases g_ite hP with ⟨hc17, hP⟩ | ⟨hc17, hP⟩
    · refine hG.1 _ (667, [some (.retAddr 1000), some (.ref 0), some (.ref 94), some (.int l3)], [], (gSh, σ, 1862292)) _ rfl ((if_neg hc0).trans ((if_neg hc1).trans ((if_neg hc2).trans ((if_neg hc3).trans ((if_neg hc4).trans ((if_neg hc5).trans ((if_neg hc6).trans ((if_neg hc7).trans ((if_neg hc8).trans ((if_neg hc9).trans ((if_neg hc10).trans ((if_neg hc11).trans ((if_neg hc12).trans ((if_neg hc13).trans ((if_neg hc14).trans ((if_neg hc15).trans ((if_neg hc16).trans (if_pos hc17)))))))))))))))))) ?_
      refine gRunN_ok hG.1 5 _ (672, [some (.retAddr 1000), some (.ref 0), some (.ref 94), some (.int l3)], [.int (l3 + (1 : Int32)), .retAddr 1000, .ref 0], (gSh, σ, 1862292)) rfl ?_
      obtain ⟨hc, hP⟩ := g_if hP
      refine hG.1 _ (673, [some (.retAddr 1000), some (.ref 0), some (.ref 94), some (.int l3)], [.int ((E 1000).2 (l3 + (1 : Int32)).toNatClampNeg), .ref 0], (gSh, σ, 1862292)) _ rfl (if_pos hc) ?_
      refine gRunN_ok hG.1 4 _ (677, [some (.retAddr 1000), some (.ref 0), some (.ref 94), some (.int l3)], [.int (l3 + (2 : Int32)), .retAddr 1000, .int ((E 1000).2 (l3 + (1 : Int32)).toNatClampNeg), .ref 0], (gSh, σ, 1862292)) rfl ?_
      obtain ⟨hc, hP⟩ := g_if hP
      refine hG.1 _ (678, [some (.retAddr 1000), some (.ref 0), some (.ref 94), some (.int l3)], [.int ((E 1000).2 (l3 + (2 : Int32)).toNatClampNeg), .int ((E 1000).2 (l3 + (1 : Int32)).toNatClampNeg), .ref 0], (gSh, σ, 1862292)) _ rfl (if_pos hc) ?_
      rcases g_ite hP with ⟨hc, hP⟩ | ⟨hc, hP⟩
      · refine hG.1 _ (685, [some (.retAddr 1000), some (.ref 0), some (.ref 94), some (.int l3)], [.int ((E 1000).2 (l3 + (1 : Int32)).toNatClampNeg), .ref 0], (gSh, σ, 1862292)) _ rfl (if_pos hc) ?_
        refine gRunN_ok hG.1 1 _ (686, [some (.retAddr 1000), some (.ref 0), some (.ref 94), some (.int l3)], [.int 0, .int ((E 1000).2 (l3 + (1 : Int32)).toNatClampNeg), .ref 0], (gSh, σ, 1862292)) rfl ?_
        exact j_Law_law_j686_58 E d hG l3 ((E 1000).2 (l3 + (1 : Int32)).toNatClampNeg) 0 σ hP K1 K2
      · refine hG.1 _ (681, [some (.retAddr 1000), some (.ref 0), some (.ref 94), some (.int l3)], [.int ((E 1000).2 (l3 + (1 : Int32)).toNatClampNeg), .ref 0], (gSh, σ, 1862292)) _ rfl (if_neg hc) ?_
        refine gRunN_ok hG.1 2 _ (686, [some (.retAddr 1000), some (.ref 0), some (.ref 94), some (.int l3)], [.int 1, .int ((E 1000).2 (l3 + (1 : Int32)).toNatClampNeg), .ref 0], (gSh, σ, 1862292)) rfl ?_
        exact j_Law_law_j686_58 E d hG l3 ((E 1000).2 (l3 + (1 : Int32)).toNatClampNeg) 1 σ hP K1 K2
    rcases g_ite hP with ⟨hc18, hP⟩ | ⟨hc18, hP⟩
    · refine hG.1 _ (716, [some (.retAddr 1000), some (.ref 0), some (.ref 94), some (.int l3)], [], (gSh, σ, 1862292)) _ rfl ((if_neg hc0).trans ((if_neg hc1).trans ((if_neg hc2).trans ((if_neg hc3).trans ((if_neg hc4).trans ((if_neg hc5).trans ((if_neg hc6).trans ((if_neg hc7).trans ((if_neg hc8).trans ((if_neg hc9).trans ((if_neg hc10).trans ((if_neg hc11).trans ((if_neg hc12).trans ((if_neg hc13).trans ((if_neg hc14).trans ((if_neg hc15).trans ((if_neg hc16).trans ((if_neg hc17).trans (if_pos hc18))))))))))))))))))) ?_
      refine gRunN_ok hG.1 5 _ (721, [some (.retAddr 1000), some (.ref 0), some (.ref 94), some (.int l3)], [.int (l3 + (1 : Int32)), .retAddr 1000, .ref 0], (gSh, σ, 1862292)) rfl ?_
      obtain ⟨hc, hP⟩ := g_if hP
      refine hG.1 _ (722, [some (.retAddr 1000), some (.ref 0), some (.ref 94), some (.int l3)], [.int ((E 1000).2 (l3 + (1 : Int32)).toNatClampNeg), .ref 0], (gSh, σ, 1862292)) _ rfl (if_pos hc) ?_
      obtain ⟨v203, s204, hq, hP⟩ := g_b2 hP
      refine hG.2.2.2.1 _ _ _ [.ref 0, .int ((E 1000).2 (l3 + (1 : Int32)).toNatClampNeg)] [] _ (gSh, s204, 1862292) (some (.int v203)) _ _ _ _ _ _ rfl rfl rfl rfl rfl rfl (c_Face_tick E (d + 6) 1862292 ((E 1000).2 (l3 + (1 : Int32)).toNatClampNeg) _  hq) (Nat.le_refl _) (Nat.le_refl _) (Nat.le_refl _) (Nat.le_refl _) ?_
      show G (725, [some (.retAddr 1000), some (.ref 0), some (.ref 94), some (.int l3)], [.int v203], (gSh, s204, 1862292))
      refine gRunN_ok hG.1 5 _ (730, [some (.retAddr 1000), some (.ref 0), some (.ref 94), some (.int l3)], [.int (l3 + (1 : Int32)), .retAddr 1000, .ref 94, .int v203], (gSh, s204, 1862292)) rfl ?_
      obtain ⟨hc, hP⟩ := g_if hP
      refine hG.1 _ (731, [some (.retAddr 1000), some (.ref 0), some (.ref 94), some (.int l3)], [.int ((E 1000).2 (l3 + (1 : Int32)).toNatClampNeg), .ref 94, .int v203], (gSh, s204, 1862292)) _ rfl (if_pos hc) ?_
      obtain ⟨v205, s206, hq, hP⟩ := g_b2 hP
      refine hG.2.2.2.1 _ _ _ [.ref 94, .int ((E 1000).2 (l3 + (1 : Int32)).toNatClampNeg)] [.int v203] _ (gSh, s206, 1862292) (some (.int v205)) _ _ _ _ _ _ rfl rfl rfl rfl rfl rfl (c_Model_tick E (d + 7) 1862292 ((E 1000).2 (l3 + (1 : Int32)).toNatClampNeg) _  hq) (Nat.le_refl _) (Nat.le_refl _) (Nat.le_refl _) (Nat.le_refl _) ?_
      show G (734, [some (.retAddr 1000), some (.ref 0), some (.ref 94), some (.int l3)], [.int v205, .int v203], (gSh, s206, 1862292))
      rcases g_ite hP with ⟨hc, hP⟩ | ⟨hc, hP⟩
      · refine hG.1 _ (890, [some (.retAddr 1000), some (.ref 0), some (.ref 94), some (.int l3)], [], (gSh, s206, 1862292)) _ rfl (if_pos hc) ?_
        refine gRunN_ok hG.1 1 _ (893, [some (.retAddr 1000), some (.ref 0), some (.ref 94), some (.int (l3 + 6))], [], (gSh, s206, 1862292)) rfl ?_
        obtain ⟨x207, ex207, hP⟩ := g_let hP
        rw [← ex207]
        refine gRunN_ok hG.1 1 _ (58, [some (.retAddr 1000), some (.ref 0), some (.ref 94), some (.int x207)], [], (gSh, s206, 1862292)) rfl ?_
        cases hP
        exact K1 _ _ rfl
      · refine hG.1 _ (737, [some (.retAddr 1000), some (.ref 0), some (.ref 94), some (.int l3)], [], (gSh, s206, 1862292)) _ rfl (if_neg hc) ?_
        cases hP
    rcases g_ite hP with ⟨hc19, hP⟩ | ⟨hc19, hP⟩
    · refine hG.1 _ (739, [some (.retAddr 1000), some (.ref 0), some (.ref 94), some (.int l3)], [], (gSh, σ, 1862292)) _ rfl ((if_neg hc0).trans ((if_neg hc1).trans ((if_neg hc2).trans ((if_neg hc3).trans ((if_neg hc4).trans ((if_neg hc5).trans ((if_neg hc6).trans ((if_neg hc7).trans ((if_neg hc8).trans ((if_neg hc9).trans ((if_neg hc10).trans ((if_neg hc11).trans ((if_neg hc12).trans ((if_neg hc13).trans ((if_neg hc14).trans ((if_neg hc15).trans ((if_neg hc16).trans ((if_neg hc17).trans ((if_neg hc18).trans (if_pos hc19)))))))))))))))))))) ?_
      refine gRunN_ok hG.1 5 _ (744, [some (.retAddr 1000), some (.ref 0), some (.ref 94), some (.int l3)], [.int (l3 + (1 : Int32)), .retAddr 1000, .ref 0], (gSh, σ, 1862292)) rfl ?_
      obtain ⟨hc, hP⟩ := g_if hP
      refine hG.1 _ (745, [some (.retAddr 1000), some (.ref 0), some (.ref 94), some (.int l3)], [.int ((E 1000).2 (l3 + (1 : Int32)).toNatClampNeg), .ref 0], (gSh, σ, 1862292)) _ rfl (if_pos hc) ?_
      refine gRunN_ok hG.1 4 _ (749, [some (.retAddr 1000), some (.ref 0), some (.ref 94), some (.int l3)], [.int (l3 + (2 : Int32)), .retAddr 1000, .int ((E 1000).2 (l3 + (1 : Int32)).toNatClampNeg), .ref 0], (gSh, σ, 1862292)) rfl ?_
      obtain ⟨hc, hP⟩ := g_if hP
      refine hG.1 _ (750, [some (.retAddr 1000), some (.ref 0), some (.ref 94), some (.int l3)], [.int ((E 1000).2 (l3 + (2 : Int32)).toNatClampNeg), .int ((E 1000).2 (l3 + (1 : Int32)).toNatClampNeg), .ref 0], (gSh, σ, 1862292)) _ rfl (if_pos hc) ?_
      obtain ⟨v208, s209, hq, hP⟩ := g_b2 hP
      refine hG.2.2.2.1 _ _ _ [.ref 0, .int ((E 1000).2 (l3 + (1 : Int32)).toNatClampNeg), .int ((E 1000).2 (l3 + (2 : Int32)).toNatClampNeg)] [] _ (gSh, s209, 1862292) (some (.int v208)) _ _ _ _ _ _ rfl rfl rfl rfl rfl rfl (c_Face_probe E (d + 7) 1862292 ((E 1000).2 (l3 + (1 : Int32)).toNatClampNeg) ((E 1000).2 (l3 + (2 : Int32)).toNatClampNeg) _  hq) (Nat.le_refl _) (Nat.le_refl _) (Nat.le_refl _) (Nat.le_refl _) ?_
      show G (753, [some (.retAddr 1000), some (.ref 0), some (.ref 94), some (.int l3)], [.int v208], (gSh, s209, 1862292))
      refine gRunN_ok hG.1 5 _ (758, [some (.retAddr 1000), some (.ref 0), some (.ref 94), some (.int l3)], [.int (l3 + (1 : Int32)), .retAddr 1000, .ref 94, .int v208], (gSh, s209, 1862292)) rfl ?_
      obtain ⟨hc, hP⟩ := g_if hP
      refine hG.1 _ (759, [some (.retAddr 1000), some (.ref 0), some (.ref 94), some (.int l3)], [.int ((E 1000).2 (l3 + (1 : Int32)).toNatClampNeg), .ref 94, .int v208], (gSh, s209, 1862292)) _ rfl (if_pos hc) ?_
      refine gRunN_ok hG.1 4 _ (763, [some (.retAddr 1000), some (.ref 0), some (.ref 94), some (.int l3)], [.int (l3 + (2 : Int32)), .retAddr 1000, .int ((E 1000).2 (l3 + (1 : Int32)).toNatClampNeg), .ref 94, .int v208], (gSh, s209, 1862292)) rfl ?_
      obtain ⟨hc, hP⟩ := g_if hP
      refine hG.1 _ (764, [some (.retAddr 1000), some (.ref 0), some (.ref 94), some (.int l3)], [.int ((E 1000).2 (l3 + (2 : Int32)).toNatClampNeg), .int ((E 1000).2 (l3 + (1 : Int32)).toNatClampNeg), .ref 94, .int v208], (gSh, s209, 1862292)) _ rfl (if_pos hc) ?_
      obtain ⟨v210, s211, hq, hP⟩ := g_b2 hP
      refine hG.2.2.2.1 _ _ _ [.ref 94, .int ((E 1000).2 (l3 + (1 : Int32)).toNatClampNeg), .int ((E 1000).2 (l3 + (2 : Int32)).toNatClampNeg)] [.int v208] _ (gSh, s211, 1862292) (some (.int v210)) _ _ _ _ _ _ rfl rfl rfl rfl rfl rfl (c_Model_probe E (d + 7) 1862292 ((E 1000).2 (l3 + (1 : Int32)).toNatClampNeg) ((E 1000).2 (l3 + (2 : Int32)).toNatClampNeg) _  hq) (Nat.le_refl _) (Nat.le_refl _) (Nat.le_refl _) (Nat.le_refl _) ?_
      show G (767, [some (.retAddr 1000), some (.ref 0), some (.ref 94), some (.int l3)], [.int v210, .int v208], (gSh, s211, 1862292))
      rcases g_ite hP with ⟨hc, hP⟩ | ⟨hc, hP⟩
      · refine hG.1 _ (890, [some (.retAddr 1000), some (.ref 0), some (.ref 94), some (.int l3)], [], (gSh, s211, 1862292)) _ rfl (if_pos hc) ?_
        refine gRunN_ok hG.1 1 _ (893, [some (.retAddr 1000), some (.ref 0), some (.ref 94), some (.int (l3 + 6))], [], (gSh, s211, 1862292)) rfl ?_
        obtain ⟨x212, ex212, hP⟩ := g_let hP
        rw [← ex212]
        refine gRunN_ok hG.1 1 _ (58, [some (.retAddr 1000), some (.ref 0), some (.ref 94), some (.int x212)], [], (gSh, s211, 1862292)) rfl ?_
        cases hP
        exact K1 _ _ rfl
      · refine hG.1 _ (770, [some (.retAddr 1000), some (.ref 0), some (.ref 94), some (.int l3)], [], (gSh, s211, 1862292)) _ rfl (if_neg hc) ?_
        cases hP
    rcases g_ite hP with ⟨hc20, hP⟩ | ⟨hc20, hP⟩
    · refine hG.1 _ (772, [some (.retAddr 1000), some (.ref 0), some (.ref 94), some (.int l3)], [], (gSh, σ, 1862292)) _ rfl ((if_neg hc0).trans ((if_neg hc1).trans ((if_neg hc2).trans ((if_neg hc3).trans ((if_neg hc4).trans ((if_neg hc5).trans ((if_neg hc6).trans ((if_neg hc7).trans ((if_neg hc8).trans ((if_neg hc9).trans ((if_neg hc10).trans ((if_neg hc11).trans ((if_neg hc12).trans ((if_neg hc13).trans ((if_neg hc14).trans ((if_neg hc15).trans ((if_neg hc16).trans ((if_neg hc17).trans ((if_neg hc18).trans ((if_neg hc19).trans (if_pos hc20))))))))))))))))))))) ?_
      refine gRunN_ok hG.1 5 _ (777, [some (.retAddr 1000), some (.ref 0), some (.ref 94), some (.int l3)], [.int (l3 + (1 : Int32)), .retAddr 1000, .ref 0], (gSh, σ, 1862292)) rfl ?_
      obtain ⟨hc, hP⟩ := g_if hP
      refine hG.1 _ (778, [some (.retAddr 1000), some (.ref 0), some (.ref 94), some (.int l3)], [.int ((E 1000).2 (l3 + (1 : Int32)).toNatClampNeg), .ref 0], (gSh, σ, 1862292)) _ rfl (if_pos hc) ?_
      refine gRunN_ok hG.1 4 _ (782, [some (.retAddr 1000), some (.ref 0), some (.ref 94), some (.int l3)], [.int (l3 + (2 : Int32)), .retAddr 1000, .int ((E 1000).2 (l3 + (1 : Int32)).toNatClampNeg), .ref 0], (gSh, σ, 1862292)) rfl ?_
      obtain ⟨hc, hP⟩ := g_if hP
      refine hG.1 _ (783, [some (.retAddr 1000), some (.ref 0), some (.ref 94), some (.int l3)], [.int ((E 1000).2 (l3 + (2 : Int32)).toNatClampNeg), .int ((E 1000).2 (l3 + (1 : Int32)).toNatClampNeg), .ref 0], (gSh, σ, 1862292)) _ rfl (if_pos hc) ?_
      rcases g_ite hP with ⟨hc, hP⟩ | ⟨hc, hP⟩
      · refine hG.1 _ (790, [some (.retAddr 1000), some (.ref 0), some (.ref 94), some (.int l3)], [.int ((E 1000).2 (l3 + (1 : Int32)).toNatClampNeg), .ref 0], (gSh, σ, 1862292)) _ rfl (if_pos hc) ?_
        refine gRunN_ok hG.1 1 _ (791, [some (.retAddr 1000), some (.ref 0), some (.ref 94), some (.int l3)], [.int 0, .int ((E 1000).2 (l3 + (1 : Int32)).toNatClampNeg), .ref 0], (gSh, σ, 1862292)) rfl ?_
        exact j_Law_law_j791_58 E d hG l3 ((E 1000).2 (l3 + (1 : Int32)).toNatClampNeg) 0 σ hP K1 K2
      · refine hG.1 _ (786, [some (.retAddr 1000), some (.ref 0), some (.ref 94), some (.int l3)], [.int ((E 1000).2 (l3 + (1 : Int32)).toNatClampNeg), .ref 0], (gSh, σ, 1862292)) _ rfl (if_neg hc) ?_
        refine gRunN_ok hG.1 2 _ (791, [some (.retAddr 1000), some (.ref 0), some (.ref 94), some (.int l3)], [.int 1, .int ((E 1000).2 (l3 + (1 : Int32)).toNatClampNeg), .ref 0], (gSh, σ, 1862292)) rfl ?_
        exact j_Law_law_j791_58 E d hG l3 ((E 1000).2 (l3 + (1 : Int32)).toNatClampNeg) 1 σ hP K1 K2
    rcases g_ite hP with ⟨hc21, hP⟩ | ⟨hc21, hP⟩
    · refine hG.1 _ (821, [some (.retAddr 1000), some (.ref 0), some (.ref 94), some (.int l3)], [], (gSh, σ, 1862292)) _ rfl ((if_neg hc0).trans ((if_neg hc1).trans ((if_neg hc2).trans ((if_neg hc3).trans ((if_neg hc4).trans ((if_neg hc5).trans ((if_neg hc6).trans ((if_neg hc7).trans ((if_neg hc8).trans ((if_neg hc9).trans ((if_neg hc10).trans ((if_neg hc11).trans ((if_neg hc12).trans ((if_neg hc13).trans ((if_neg hc14).trans ((if_neg hc15).trans ((if_neg hc16).trans ((if_neg hc17).trans ((if_neg hc18).trans ((if_neg hc19).trans ((if_neg hc20).trans (if_pos hc21)))))))))))))))))))))) ?_
      refine gRunN_ok hG.1 5 _ (826, [some (.retAddr 1000), some (.ref 0), some (.ref 94), some (.int l3)], [.int (l3 + (1 : Int32)), .retAddr 1000, .ref 0], (gSh, σ, 1862292)) rfl ?_
      obtain ⟨hc, hP⟩ := g_if hP
      refine hG.1 _ (827, [some (.retAddr 1000), some (.ref 0), some (.ref 94), some (.int l3)], [.int ((E 1000).2 (l3 + (1 : Int32)).toNatClampNeg), .ref 0], (gSh, σ, 1862292)) _ rfl (if_pos hc) ?_
      obtain ⟨v218, s219, hq, hP⟩ := g_b2 hP
      refine hG.2.2.2.1 _ _ _ [.ref 0, .int ((E 1000).2 (l3 + (1 : Int32)).toNatClampNeg)] [] _ (gSh, s219, 1862292) (some (.int v218)) _ _ _ _ _ _ rfl rfl rfl rfl rfl rfl (c_Face_clock E (d + 7) 1862292 ((E 1000).2 (l3 + (1 : Int32)).toNatClampNeg) _  hq) (Nat.le_refl _) (Nat.le_refl _) (Nat.le_refl _) (Nat.le_refl _) ?_
      show G (830, [some (.retAddr 1000), some (.ref 0), some (.ref 94), some (.int l3)], [.int v218], (gSh, s219, 1862292))
      refine gRunN_ok hG.1 5 _ (835, [some (.retAddr 1000), some (.ref 0), some (.ref 94), some (.int l3)], [.int (l3 + (1 : Int32)), .retAddr 1000, .ref 94, .int v218], (gSh, s219, 1862292)) rfl ?_
      obtain ⟨hc, hP⟩ := g_if hP
      refine hG.1 _ (836, [some (.retAddr 1000), some (.ref 0), some (.ref 94), some (.int l3)], [.int ((E 1000).2 (l3 + (1 : Int32)).toNatClampNeg), .ref 94, .int v218], (gSh, s219, 1862292)) _ rfl (if_pos hc) ?_
      obtain ⟨v220, s221, hq, hP⟩ := g_b2 hP
      refine hG.2.2.2.1 _ _ _ [.ref 94, .int ((E 1000).2 (l3 + (1 : Int32)).toNatClampNeg)] [.int v218] _ (gSh, s221, 1862292) (some (.int v220)) _ _ _ _ _ _ rfl rfl rfl rfl rfl rfl (c_Model_clock E (d + 9) 1862292 ((E 1000).2 (l3 + (1 : Int32)).toNatClampNeg) _  hq) (Nat.le_refl _) (Nat.le_refl _) (Nat.le_refl _) (Nat.le_refl _) ?_
      show G (839, [some (.retAddr 1000), some (.ref 0), some (.ref 94), some (.int l3)], [.int v220, .int v218], (gSh, s221, 1862292))
      rcases g_ite hP with ⟨hc, hP⟩ | ⟨hc, hP⟩
      · refine hG.1 _ (890, [some (.retAddr 1000), some (.ref 0), some (.ref 94), some (.int l3)], [], (gSh, s221, 1862292)) _ rfl (if_pos hc) ?_
        refine gRunN_ok hG.1 1 _ (893, [some (.retAddr 1000), some (.ref 0), some (.ref 94), some (.int (l3 + 6))], [], (gSh, s221, 1862292)) rfl ?_
        obtain ⟨x222, ex222, hP⟩ := g_let hP
        rw [← ex222]
        refine gRunN_ok hG.1 1 _ (58, [some (.retAddr 1000), some (.ref 0), some (.ref 94), some (.int x222)], [], (gSh, s221, 1862292)) rfl ?_
        cases hP
        exact K1 _ _ rfl
      · refine hG.1 _ (842, [some (.retAddr 1000), some (.ref 0), some (.ref 94), some (.int l3)], [], (gSh, s221, 1862292)) _ rfl (if_neg hc) ?_
        cases hP
    rcases g_ite hP with ⟨hc22, hP⟩ | ⟨hc22, hP⟩
    · refine hG.1 _ (844, [some (.retAddr 1000), some (.ref 0), some (.ref 94), some (.int l3)], [], (gSh, σ, 1862292)) _ rfl ((if_neg hc0).trans ((if_neg hc1).trans ((if_neg hc2).trans ((if_neg hc3).trans ((if_neg hc4).trans ((if_neg hc5).trans ((if_neg hc6).trans ((if_neg hc7).trans ((if_neg hc8).trans ((if_neg hc9).trans ((if_neg hc10).trans ((if_neg hc11).trans ((if_neg hc12).trans ((if_neg hc13).trans ((if_neg hc14).trans ((if_neg hc15).trans ((if_neg hc16).trans ((if_neg hc17).trans ((if_neg hc18).trans ((if_neg hc19).trans ((if_neg hc20).trans ((if_neg hc21).trans (if_pos hc22))))))))))))))))))))))) ?_
      refine gRunN_ok hG.1 5 _ (849, [some (.retAddr 1000), some (.ref 0), some (.ref 94), some (.int l3)], [.int (l3 + (1 : Int32)), .retAddr 1000, .ref 0], (gSh, σ, 1862292)) rfl ?_
      obtain ⟨hc, hP⟩ := g_if hP
      refine hG.1 _ (850, [some (.retAddr 1000), some (.ref 0), some (.ref 94), some (.int l3)], [.int ((E 1000).2 (l3 + (1 : Int32)).toNatClampNeg), .ref 0], (gSh, σ, 1862292)) _ rfl (if_pos hc) ?_
      obtain ⟨v223, s224, hq, hP⟩ := g_b2 hP
      refine hG.2.2.2.1 _ _ _ [.ref 0, .int ((E 1000).2 (l3 + (1 : Int32)).toNatClampNeg)] [] _ (gSh, s224, 1862292) (some (.int v223)) _ _ _ _ _ _ rfl rfl rfl rfl rfl rfl (c_Face_value E (d + 8) 1862292 ((E 1000).2 (l3 + (1 : Int32)).toNatClampNeg) _  hq) (Nat.le_refl _) (Nat.le_refl _) (Nat.le_refl _) (Nat.le_refl _) ?_
      show G (853, [some (.retAddr 1000), some (.ref 0), some (.ref 94), some (.int l3)], [.int v223], (gSh, s224, 1862292))
      refine gRunN_ok hG.1 5 _ (858, [some (.retAddr 1000), some (.ref 0), some (.ref 94), some (.int l3)], [.int (l3 + (1 : Int32)), .retAddr 1000, .ref 94, .int v223], (gSh, s224, 1862292)) rfl ?_
      obtain ⟨hc, hP⟩ := g_if hP
      refine hG.1 _ (859, [some (.retAddr 1000), some (.ref 0), some (.ref 94), some (.int l3)], [.int ((E 1000).2 (l3 + (1 : Int32)).toNatClampNeg), .ref 94, .int v223], (gSh, s224, 1862292)) _ rfl (if_pos hc) ?_
      obtain ⟨v225, s226, hq, hP⟩ := g_b2 hP
      refine hG.2.2.2.1 _ _ _ [.ref 94, .int ((E 1000).2 (l3 + (1 : Int32)).toNatClampNeg)] [.int v223] _ (gSh, s226, 1862292) (some (.int v225)) _ _ _ _ _ _ rfl rfl rfl rfl rfl rfl (c_Model_value E (d + 10) 1862292 ((E 1000).2 (l3 + (1 : Int32)).toNatClampNeg) _  hq) (Nat.le_refl _) (Nat.le_refl _) (Nat.le_refl _) (Nat.le_refl _) ?_
      show G (862, [some (.retAddr 1000), some (.ref 0), some (.ref 94), some (.int l3)], [.int v225, .int v223], (gSh, s226, 1862292))
      rcases g_ite hP with ⟨hc, hP⟩ | ⟨hc, hP⟩
      · refine hG.1 _ (890, [some (.retAddr 1000), some (.ref 0), some (.ref 94), some (.int l3)], [], (gSh, s226, 1862292)) _ rfl (if_pos hc) ?_
        refine gRunN_ok hG.1 1 _ (893, [some (.retAddr 1000), some (.ref 0), some (.ref 94), some (.int (l3 + 6))], [], (gSh, s226, 1862292)) rfl ?_
        obtain ⟨x227, ex227, hP⟩ := g_let hP
        rw [← ex227]
        refine gRunN_ok hG.1 1 _ (58, [some (.retAddr 1000), some (.ref 0), some (.ref 94), some (.int x227)], [], (gSh, s226, 1862292)) rfl ?_
        cases hP
        exact K1 _ _ rfl
      · refine hG.1 _ (865, [some (.retAddr 1000), some (.ref 0), some (.ref 94), some (.int l3)], [], (gSh, s226, 1862292)) _ rfl (if_neg hc) ?_
        cases hP
    rcases g_ite hP with ⟨hc23, hP⟩ | ⟨hc23, hP⟩
    · refine hG.1 _ (867, [some (.retAddr 1000), some (.ref 0), some (.ref 94), some (.int l3)], [], (gSh, σ, 1862292)) _ rfl ((if_neg hc0).trans ((if_neg hc1).trans ((if_neg hc2).trans ((if_neg hc3).trans ((if_neg hc4).trans ((if_neg hc5).trans ((if_neg hc6).trans ((if_neg hc7).trans ((if_neg hc8).trans ((if_neg hc9).trans ((if_neg hc10).trans ((if_neg hc11).trans ((if_neg hc12).trans ((if_neg hc13).trans ((if_neg hc14).trans ((if_neg hc15).trans ((if_neg hc16).trans ((if_neg hc17).trans ((if_neg hc18).trans ((if_neg hc19).trans ((if_neg hc20).trans ((if_neg hc21).trans ((if_neg hc22).trans (if_pos hc23)))))))))))))))))))))))) ?_
      refine gRunN_ok hG.1 5 _ (872, [some (.retAddr 1000), some (.ref 0), some (.ref 94), some (.int l3)], [.int (l3 + (1 : Int32)), .retAddr 1000, .ref 0], (gSh, σ, 1862292)) rfl ?_
      obtain ⟨hc, hP⟩ := g_if hP
      refine hG.1 _ (873, [some (.retAddr 1000), some (.ref 0), some (.ref 94), some (.int l3)], [.int ((E 1000).2 (l3 + (1 : Int32)).toNatClampNeg), .ref 0], (gSh, σ, 1862292)) _ rfl (if_pos hc) ?_
      obtain ⟨v228, s229, hq, hP⟩ := g_b2 hP
      refine hG.2.2.2.1 _ _ _ [.ref 0, .int ((E 1000).2 (l3 + (1 : Int32)).toNatClampNeg)] [] _ (gSh, s229, 1862292) (some (.int v228)) _ _ _ _ _ _ rfl rfl rfl rfl rfl rfl (c_Face_out E (d + 8) 1862292 ((E 1000).2 (l3 + (1 : Int32)).toNatClampNeg) _  hq) (Nat.le_refl _) (Nat.le_refl _) (Nat.le_refl _) (Nat.le_refl _) ?_
      show G (876, [some (.retAddr 1000), some (.ref 0), some (.ref 94), some (.int l3)], [.int v228], (gSh, s229, 1862292))
      refine gRunN_ok hG.1 5 _ (881, [some (.retAddr 1000), some (.ref 0), some (.ref 94), some (.int l3)], [.int (l3 + (1 : Int32)), .retAddr 1000, .ref 94, .int v228], (gSh, s229, 1862292)) rfl ?_
      obtain ⟨hc, hP⟩ := g_if hP
      refine hG.1 _ (882, [some (.retAddr 1000), some (.ref 0), some (.ref 94), some (.int l3)], [.int ((E 1000).2 (l3 + (1 : Int32)).toNatClampNeg), .ref 94, .int v228], (gSh, s229, 1862292)) _ rfl (if_pos hc) ?_
      obtain ⟨v230, s231, hq, hP⟩ := g_b2 hP
      refine hG.2.2.2.1 _ _ _ [.ref 94, .int ((E 1000).2 (l3 + (1 : Int32)).toNatClampNeg)] [.int v228] _ (gSh, s231, 1862292) (some (.int v230)) _ _ _ _ _ _ rfl rfl rfl rfl rfl rfl (c_Model_out E (d + 9) 1862292 ((E 1000).2 (l3 + (1 : Int32)).toNatClampNeg) _  hq) (Nat.le_refl _) (Nat.le_refl _) (Nat.le_refl _) (Nat.le_refl _) ?_
      show G (885, [some (.retAddr 1000), some (.ref 0), some (.ref 94), some (.int l3)], [.int v230, .int v228], (gSh, s231, 1862292))
      rcases g_ite hP with ⟨hc, hP⟩ | ⟨hc, hP⟩
      · refine hG.1 _ (890, [some (.retAddr 1000), some (.ref 0), some (.ref 94), some (.int l3)], [], (gSh, s231, 1862292)) _ rfl (if_pos hc) ?_
        refine gRunN_ok hG.1 1 _ (893, [some (.retAddr 1000), some (.ref 0), some (.ref 94), some (.int (l3 + 6))], [], (gSh, s231, 1862292)) rfl ?_
        obtain ⟨x232, ex232, hP⟩ := g_let hP
        rw [← ex232]
        refine gRunN_ok hG.1 1 _ (58, [some (.retAddr 1000), some (.ref 0), some (.ref 94), some (.int x232)], [], (gSh, s231, 1862292)) rfl ?_
        cases hP
        exact K1 _ _ rfl
      · refine hG.1 _ (888, [some (.retAddr 1000), some (.ref 0), some (.ref 94), some (.int l3)], [], (gSh, s231, 1862292)) _ rfl (if_neg hc) ?_
        cases hP
    · refine hG.1 _ (890, [some (.retAddr 1000), some (.ref 0), some (.ref 94), some (.int l3)], [], (gSh, σ, 1862292)) _ rfl ((if_neg hc0).trans ((if_neg hc1).trans ((if_neg hc2).trans ((if_neg hc3).trans ((if_neg hc4).trans ((if_neg hc5).trans ((if_neg hc6).trans ((if_neg hc7).trans ((if_neg hc8).trans ((if_neg hc9).trans ((if_neg hc10).trans ((if_neg hc11).trans ((if_neg hc12).trans ((if_neg hc13).trans ((if_neg hc14).trans ((if_neg hc15).trans ((if_neg hc16).trans ((if_neg hc17).trans ((if_neg hc18).trans ((if_neg hc19).trans ((if_neg hc20).trans ((if_neg hc21).trans ((if_neg hc22).trans ((if_neg hc23).trans rfl)))))))))))))))))))))))) ?_
      refine gRunN_ok hG.1 1 _ (893, [some (.retAddr 1000), some (.ref 0), some (.ref 94), some (.int (l3 + 6))], [], (gSh, σ, 1862292)) rfl ?_
      obtain ⟨x233, ex233, hP⟩ := g_let hP
      rw [← ex233]
      refine gRunN_ok hG.1 1 _ (58, [some (.retAddr 1000), some (.ref 0), some (.ref 94), some (.int x233)], [], (gSh, σ, 1862292)) rfl ?_
      cases hP
      exact K1 _ _ rfl
theorem l_Law_law_58 (E : gEv) (d : Nat) {G : gFr → Prop} {vo : Option Value} {sr : gS} (hG : gClo E gDf gP17 gY279 (some .boolean) (gC E gDf gMs (d + 12)) (vo, (gSh, sr, 1862292)) G) : ∀ (n : Nat) (l3 : Int32) (σ : gS) (e : (gS)), gIter (fun z => p_Law_law_58 E z.1 z.2) n (l3, σ) = some e → (∀ (σ1 : gS), e = σ1 → G (896, [none, none, none, none], [], (gSh, σ1, 1862292))) → G (58, [some (.retAddr 1000), some (.ref 0), some (.ref 94), some (.int l3)], [], (gSh, σ, 1862292)) := by
  intro n
  induction n with
  | zero => intro l3 σ e h; cases h
  | succ n ih =>
    intro l3 σ e h K2
    rcases g_iter h with ⟨z, h1, h2⟩ | h1
    · exact b_Law_law_58 E d hG l3 σ h1 (fun n0 n1 hz => by cases hz; exact ih _ _ e h2 K2) (fun _ hz => by cases hz)
    · exact b_Law_law_58 E d hG l3 σ h1 (fun _ _ hz => by cases hz) (fun σ1 hz => K2 σ1 (by cases hz; rfl))
def p_Law_law (E : gEv) (σ : gS) : Option (Int32 × gS) :=
  gLet (gZr σ 0 12) fun s1 => gB1 (p_Law_cell E 0 s1) fun v2 => gB1 (p_Law_cell E 1 s1) fun v3 => gB1 (p_Law_cell E 2 s1) fun v4 => gB1 (p_Law_cell E 3 s1) fun v5 => gB1 (p_Face_init E v2 v3 v4 v5 s1) fun s6 => gLet (gZr s6 94 107) fun s7 => gB1 (p_Law_cell E 0 s7) fun v8 => gB1 (p_Law_cell E 1 s7) fun v9 => gB1 (p_Law_cell E 2 s7) fun v10 => gB1 (p_Law_cell E 3 s7) fun v11 => gB1 (p_Model_init E v8 v9 v10 v11 s7) fun s12 => gB1 (gIter (fun z => p_Law_law_58 E z.1 z.2) gN (4, s12)) fun e234 => (fun s235 => some (1, s235)) e234
set_option maxRecDepth 20000 in
theorem c_Law_law (E : gEv) (d : Nat) (σ : gS) {v : Int32} {sr : gS} (hq : p_Law_law E σ = some (v, sr)) (G : gFr → Prop) (hG : gClo E gDf gP17 gY279 (some .boolean) (gC E gDf gMs (d + 12)) (some (.int v), (gSh, sr, 1862292)) G) : G (0, [some (.retAddr 1000), none, none, none], [], ([], σ, 0)) := by
  have hP := hq
  unfold p_Law_law at hP
  refine hG.2.2.1 _ (3, [some (.retAddr 1000), none, none, none], [.ref 0], (gSq_0, (gZr σ 0 12), 12)) _ rfl rfl (Nat.le_of_ble_eq_true rfl) (show (12 : Nat) ≤ 1862292 from Nat.le_of_ble_eq_true rfl) ?_
  obtain ⟨s1, es1, hP⟩ := g_let hP
  rw [← es1]
  refine gRunN_ok hG.1 3 _ (6, [some (.retAddr 1000), none, none, none], [.int 0, .retAddr 1000, .ref 0, .ref 0], (gSq_0, s1, 12)) rfl ?_
  obtain ⟨v2, hq, hP⟩ := g_b1 hP
  refine hG.2.2.2.1 _ _ _ [.retAddr 1000, .int 0] [.ref 0, .ref 0] _ (gSq_0, s1, 12) (some (.int v2)) _ _ _ _ _ _ rfl rfl rfl rfl rfl rfl (cg_Law_cell gSq_0 E (d + 11) 12 0 _ hq) (Nat.le_refl _) (Nat.le_refl _) (Nat.le_of_ble_eq_true rfl) (show (12 : Nat) ≤ 1862292 from Nat.le_of_ble_eq_true rfl) ?_
  show G (9, [some (.retAddr 1000), none, none, none], [.int v2, .ref 0, .ref 0], (gSq_0, s1, 12))
  refine gRunN_ok hG.1 2 _ (11, [some (.retAddr 1000), none, none, none], [.int 1, .retAddr 1000, .int v2, .ref 0, .ref 0], (gSq_0, s1, 12)) rfl ?_
  obtain ⟨v3, hq, hP⟩ := g_b1 hP
  refine hG.2.2.2.1 _ _ _ [.retAddr 1000, .int 1] [.int v2, .ref 0, .ref 0] _ (gSq_0, s1, 12) (some (.int v3)) _ _ _ _ _ _ rfl rfl rfl rfl rfl rfl (cg_Law_cell gSq_0 E (d + 11) 12 1 _ hq) (Nat.le_refl _) (Nat.le_refl _) (Nat.le_of_ble_eq_true rfl) (show (12 : Nat) ≤ 1862292 from Nat.le_of_ble_eq_true rfl) ?_
  show G (14, [some (.retAddr 1000), none, none, none], [.int v3, .int v2, .ref 0, .ref 0], (gSq_0, s1, 12))
  refine gRunN_ok hG.1 2 _ (16, [some (.retAddr 1000), none, none, none], [.int 2, .retAddr 1000, .int v3, .int v2, .ref 0, .ref 0], (gSq_0, s1, 12)) rfl ?_
  obtain ⟨v4, hq, hP⟩ := g_b1 hP
  refine hG.2.2.2.1 _ _ _ [.retAddr 1000, .int 2] [.int v3, .int v2, .ref 0, .ref 0] _ (gSq_0, s1, 12) (some (.int v4)) _ _ _ _ _ _ rfl rfl rfl rfl rfl rfl (cg_Law_cell gSq_0 E (d + 11) 12 2 _ hq) (Nat.le_refl _) (Nat.le_refl _) (Nat.le_of_ble_eq_true rfl) (show (12 : Nat) ≤ 1862292 from Nat.le_of_ble_eq_true rfl) ?_
  show G (19, [some (.retAddr 1000), none, none, none], [.int v4, .int v3, .int v2, .ref 0, .ref 0], (gSq_0, s1, 12))
  refine gRunN_ok hG.1 2 _ (21, [some (.retAddr 1000), none, none, none], [.int 3, .retAddr 1000, .int v4, .int v3, .int v2, .ref 0, .ref 0], (gSq_0, s1, 12)) rfl ?_
  obtain ⟨v5, hq, hP⟩ := g_b1 hP
  refine hG.2.2.2.1 _ _ _ [.retAddr 1000, .int 3] [.int v4, .int v3, .int v2, .ref 0, .ref 0] _ (gSq_0, s1, 12) (some (.int v5)) _ _ _ _ _ _ rfl rfl rfl rfl rfl rfl (cg_Law_cell gSq_0 E (d + 11) 12 3 _ hq) (Nat.le_refl _) (Nat.le_refl _) (Nat.le_of_ble_eq_true rfl) (show (12 : Nat) ≤ 1862292 from Nat.le_of_ble_eq_true rfl) ?_
  show G (24, [some (.retAddr 1000), none, none, none], [.int v5, .int v4, .int v3, .int v2, .ref 0, .ref 0], (gSq_0, s1, 12))
  obtain ⟨s6, hq, hP⟩ := g_b1 hP
  refine hG.2.2.2.1 _ _ _ [.ref 0, .int v2, .int v3, .int v4, .int v5] [.ref 0] _ (gSq_176, s6, 990303) none _ _ _ _ _ _ rfl rfl rfl rfl rfl rfl (c_Face_init E (d + 8) v2 v3 v4 v5 _ hq) (Nat.le_of_ble_eq_true rfl) (show (12 : Nat) ≤ 990303 from Nat.le_of_ble_eq_true rfl) (Nat.le_of_ble_eq_true rfl) (show (990303 : Nat) ≤ 1862292 from Nat.le_of_ble_eq_true rfl) ?_
  show G (27, [some (.retAddr 1000), none, none, none], [.ref 0], (gSq_176, s6, 990303))
  refine gRunN_ok hG.1 1 _ (28, [some (.retAddr 1000), some (.ref 0), none, none], [], (gSq_176, s6, 990303)) rfl ?_
  refine hG.2.2.1 _ (31, [some (.retAddr 1000), some (.ref 0), none, none], [.ref 94], (gSq_177, (gZr s6 94 107), 990410)) _ rfl rfl (Nat.le_of_ble_eq_true rfl) (show (990410 : Nat) ≤ 1862292 from Nat.le_of_ble_eq_true rfl) ?_
  obtain ⟨s7, es7, hP⟩ := g_let hP
  rw [← es7]
  refine gRunN_ok hG.1 3 _ (34, [some (.retAddr 1000), some (.ref 0), none, none], [.int 0, .retAddr 1000, .ref 94, .ref 94], (gSq_177, s7, 990410)) rfl ?_
  obtain ⟨v8, hq, hP⟩ := g_b1 hP
  refine hG.2.2.2.1 _ _ _ [.retAddr 1000, .int 0] [.ref 94, .ref 94] _ (gSq_177, s7, 990410) (some (.int v8)) _ _ _ _ _ _ rfl rfl rfl rfl rfl rfl (cg_Law_cell gSq_177 E (d + 11) 990410 0 _ hq) (Nat.le_refl _) (Nat.le_refl _) (Nat.le_of_ble_eq_true rfl) (show (990410 : Nat) ≤ 1862292 from Nat.le_of_ble_eq_true rfl) ?_
  show G (37, [some (.retAddr 1000), some (.ref 0), none, none], [.int v8, .ref 94, .ref 94], (gSq_177, s7, 990410))
  refine gRunN_ok hG.1 2 _ (39, [some (.retAddr 1000), some (.ref 0), none, none], [.int 1, .retAddr 1000, .int v8, .ref 94, .ref 94], (gSq_177, s7, 990410)) rfl ?_
  obtain ⟨v9, hq, hP⟩ := g_b1 hP
  refine hG.2.2.2.1 _ _ _ [.retAddr 1000, .int 1] [.int v8, .ref 94, .ref 94] _ (gSq_177, s7, 990410) (some (.int v9)) _ _ _ _ _ _ rfl rfl rfl rfl rfl rfl (cg_Law_cell gSq_177 E (d + 11) 990410 1 _ hq) (Nat.le_refl _) (Nat.le_refl _) (Nat.le_of_ble_eq_true rfl) (show (990410 : Nat) ≤ 1862292 from Nat.le_of_ble_eq_true rfl) ?_
  show G (42, [some (.retAddr 1000), some (.ref 0), none, none], [.int v9, .int v8, .ref 94, .ref 94], (gSq_177, s7, 990410))
  refine gRunN_ok hG.1 2 _ (44, [some (.retAddr 1000), some (.ref 0), none, none], [.int 2, .retAddr 1000, .int v9, .int v8, .ref 94, .ref 94], (gSq_177, s7, 990410)) rfl ?_
  obtain ⟨v10, hq, hP⟩ := g_b1 hP
  refine hG.2.2.2.1 _ _ _ [.retAddr 1000, .int 2] [.int v9, .int v8, .ref 94, .ref 94] _ (gSq_177, s7, 990410) (some (.int v10)) _ _ _ _ _ _ rfl rfl rfl rfl rfl rfl (cg_Law_cell gSq_177 E (d + 11) 990410 2 _ hq) (Nat.le_refl _) (Nat.le_refl _) (Nat.le_of_ble_eq_true rfl) (show (990410 : Nat) ≤ 1862292 from Nat.le_of_ble_eq_true rfl) ?_
  show G (47, [some (.retAddr 1000), some (.ref 0), none, none], [.int v10, .int v9, .int v8, .ref 94, .ref 94], (gSq_177, s7, 990410))
  refine gRunN_ok hG.1 2 _ (49, [some (.retAddr 1000), some (.ref 0), none, none], [.int 3, .retAddr 1000, .int v10, .int v9, .int v8, .ref 94, .ref 94], (gSq_177, s7, 990410)) rfl ?_
  obtain ⟨v11, hq, hP⟩ := g_b1 hP
  refine hG.2.2.2.1 _ _ _ [.retAddr 1000, .int 3] [.int v10, .int v9, .int v8, .ref 94, .ref 94] _ (gSq_177, s7, 990410) (some (.int v11)) _ _ _ _ _ _ rfl rfl rfl rfl rfl rfl (cg_Law_cell gSq_177 E (d + 11) 990410 3 _ hq) (Nat.le_refl _) (Nat.le_refl _) (Nat.le_of_ble_eq_true rfl) (show (990410 : Nat) ≤ 1862292 from Nat.le_of_ble_eq_true rfl) ?_
  show G (52, [some (.retAddr 1000), some (.ref 0), none, none], [.int v11, .int v10, .int v9, .int v8, .ref 94, .ref 94], (gSq_177, s7, 990410))
  obtain ⟨s12, hq, hP⟩ := g_b1 hP
  refine hG.2.2.2.1 _ _ _ [.ref 94, .int v8, .int v9, .int v10, .int v11] [.ref 94] _ (gSh, s12, 1862292) none _ _ _ _ _ _ rfl rfl rfl rfl rfl rfl (c_Model_init E (d + 8) v8 v9 v10 v11 _ hq) (Nat.le_of_ble_eq_true rfl) (show (990410 : Nat) ≤ 1862292 from Nat.le_of_ble_eq_true rfl) (Nat.le_of_ble_eq_true rfl) (show (1862292 : Nat) ≤ 1862292 from Nat.le_of_ble_eq_true rfl) ?_
  show G (55, [some (.retAddr 1000), some (.ref 0), none, none], [.ref 94], (gSh, s12, 1862292))
  refine gRunN_ok hG.1 3 _ (58, [some (.retAddr 1000), some (.ref 0), some (.ref 94), some (.int 4)], [], (gSh, s12, 1862292)) rfl ?_
  obtain ⟨e234, hq, hP⟩ := g_b1 hP
  refine l_Law_law_58 E d hG gN 4 s12 _ hq (fun s235 he => ?_)
  · replace he := he.symm
    subst he
    try dsimp only [gSum] at hP
    refine gRunN_ok hG.1 1 _ (897, [none, none, none, none], [.int 1], (gSh, s235, 1862292)) rfl ?_
    cases hP
    exact hG.2.1 _ _ rfl rfl
