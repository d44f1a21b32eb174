def p_Model_route (E : gEv) (a0 : Int32) (σ : gS) : Option (Int32 × gS) :=
  if (σ.1 94 106) = 0 then (some ((-1), σ)) else (if a0 < (1 : Int32) then (some ((-1), σ)) else (if a0 ≤ (20 : Int32) then (gB2 (p_Model_routeAll E a0 σ) fun v1 s2 => gLet (gPut s2 94 77 v1) fun s3 => some (s3.1 94 77, s3)) else (some ((-1), σ))))
set_option maxRecDepth 20000 in
theorem c_Model_route (E : gEv) (d u : Nat) (a0 : Int32) (σ : gS) {v : Int32} {sr : gS}  (hq : p_Model_route E a0 σ = some (v, sr)) : gC E gDf gMs (d + 7) 243 [.ref 94, .int a0] (gSh, σ, u) (some (.int v), (gSh, sr, u)) := ⟨gM243, rfl, Nat.le_of_ble_eq_true rfl, fun G hG => by
  have hP := hq
  unfold p_Model_route at hP
  replace hG : gClo E gDf gP18 gY243 (some .int) (gC E gDf gMs (d + 6)) (some (.int v), (gSh, sr, u)) G := hG
  show G (0, [some (.ref 94), some (.int a0)], [], (gSh, σ, u))
  refine gRunN_ok hG.1 2 _ (4, [some (.ref 94), some (.int a0)], [.int (σ.1 94 106)], (gSh, σ, u)) rfl ?_
  rcases g_ite hP with ⟨hc, hP⟩ | ⟨hc, hP⟩
  · refine hG.1 _ (18, [some (.ref 94), some (.int a0)], [], (gSh, σ, u)) _ rfl (if_pos hc) ?_
    refine gRunN_ok hG.1 1 _ (19, [some (.ref 94), some (.int a0)], [.int (-1)], (gSh, σ, u)) rfl ?_
    cases hP
    exact hG.2.1 _ _ rfl rfl
  · refine hG.1 _ (7, [some (.ref 94), some (.int a0)], [], (gSh, σ, u)) _ rfl (if_neg hc) ?_
    refine gRunN_ok hG.1 2 _ (9, [some (.ref 94), some (.int a0)], [.int 1, .int a0], (gSh, σ, u)) rfl ?_
    rcases g_ite hP with ⟨hc, hP⟩ | ⟨hc, hP⟩
    · refine hG.1 _ (18, [some (.ref 94), some (.int a0)], [], (gSh, σ, u)) _ rfl (if_pos hc) ?_
      refine gRunN_ok hG.1 1 _ (19, [some (.ref 94), some (.int a0)], [.int (-1)], (gSh, σ, u)) rfl ?_
      cases hP
      exact hG.2.1 _ _ rfl rfl
    · refine hG.1 _ (12, [some (.ref 94), some (.int a0)], [], (gSh, σ, u)) _ rfl (if_neg hc) ?_
      refine gRunN_ok hG.1 2 _ (15, [some (.ref 94), some (.int a0)], [.int 20, .int a0], (gSh, σ, u)) rfl ?_
      rcases g_ite hP with ⟨hc, hP⟩ | ⟨hc, hP⟩
      · refine hG.1 _ (20, [some (.ref 94), some (.int a0)], [], (gSh, σ, u)) _ rfl (if_pos hc) ?_
        refine gRunN_ok hG.1 3 _ (23, [some (.ref 94), some (.int a0)], [.int a0, .ref 94, .ref 94], (gSh, σ, u)) rfl ?_
        obtain ⟨v1, s2, hq, hP⟩ := g_b2 hP
        refine hG.2.2.2.1 _ _ _ [.ref 94, .int a0] [.ref 94] _ (gSh, s2, u) (some (.int v1)) _ _ _ _ _ _ rfl rfl rfl rfl rfl rfl (c_Model_routeAll E (d + 0) u a0 _  hq) (Nat.le_refl _) (Nat.le_refl _) (Nat.le_refl _) (Nat.le_refl _) ?_
        show G (26, [some (.ref 94), some (.int a0)], [.int v1, .ref 94], (gSh, s2, u))
        refine gRunN_ok hG.1 1 _ (29, [some (.ref 94), some (.int a0)], [], (gSh, (gPut s2 94 77 v1), u)) rfl ?_
        obtain ⟨s3, es3, hP⟩ := g_let hP
        rw [← es3]
        refine gRunN_ok hG.1 2 _ (33, [some (.ref 94), some (.int a0)], [.int (s3.1 94 77)], (gSh, s3, u)) rfl ?_
        cases hP
        exact hG.2.1 _ _ rfl rfl
      · refine hG.1 _ (18, [some (.ref 94), some (.int a0)], [], (gSh, σ, u)) _ rfl (if_neg hc) ?_
        refine gRunN_ok hG.1 1 _ (19, [some (.ref 94), some (.int a0)], [.int (-1)], (gSh, σ, u)) rfl ?_
        cases hP
        exact hG.2.1 _ _ rfl rfl⟩
def p_Model_compile_39 (E : gEv) (l1 : Int32) (σ : gS) : Option ((Int32 × gS) ⊕ (gS)) :=
  if (σ.1 94 32) ≤ l1 then (some (.inr σ)) else (if gIn l1 (σ.2.1 115) then if gIn (σ.1 115 l1.toNatClampNeg) (σ.2.1 112) then if gIn l1 (σ.2.1 115) then gB2 (p_Model_map E (σ.1 115 l1.toNatClampNeg) σ) fun v8 s9 => if gIn (σ.1 112 (σ.1 115 l1.toNatClampNeg).toNatClampNeg) (s9.2.1 119) then gLet (gPut s9 119 (σ.1 112 (σ.1 115 l1.toNatClampNeg).toNatClampNeg).toNatClampNeg v8) fun s10 => gLet (l1 + 1) fun x11 => some (.inl (x11, s10)) else none else none else none else none)
set_option maxRecDepth 20000 in
theorem b_Model_compile_39 (E : gEv) (d u : Nat) {G : gFr → Prop} {vo : Option Value} {sr : gS} (hG : gClo E gDf gP18 gY196 (some .int) (gC E gDf gMs (d + 7)) (vo, (gSh, sr, u)) G) (l1 : Int32) (σ : gS) {r : (Int32 × gS) ⊕ (gS)} (hP : p_Model_compile_39 E l1 σ = some r) (K1 : ∀ (m1 : Int32) (σ1 : gS), r = .inl (m1, σ1) → G (39, [some (.ref 94), some (.int m1)], [], (gSh, σ1, u))) (K2 : ∀ (σ1 : gS), r = .inr σ1 → G (79, [some (.ref 94), none], [], (gSh, σ1, u))) : G (39, [some (.ref 94), some (.int l1)], [], (gSh, σ, u)) := by
  unfold p_Model_compile_39 at hP
  refine gRunN_ok hG.1 3 _ (44, [some (.ref 94), some (.int l1)], [.int (σ.1 94 32), .int l1], (gSh, σ, u)) rfl ?_
  rcases g_ite hP with ⟨hc, hP⟩ | ⟨hc, hP⟩
  · refine hG.1 _ (79, [some (.ref 94), some (.int l1)], [], (gSh, σ, u)) _ rfl (if_pos hc) ?_
    refine hG.2.2.2.2.1 _ _ [some (.ref 94), none] _ _ ⟨rfl, trivial⟩ ?_
    cases hP
    exact K2 _ rfl
  · refine hG.1 _ (47, [some (.ref 94), some (.int l1)], [], (gSh, σ, u)) _ rfl (if_neg hc) ?_
    refine gRunN_ok hG.1 7 _ (60, [some (.ref 94), some (.int l1)], [.int l1, .ref 115, .ref 112, .ref 119], (gSh, σ, u)) rfl ?_
    obtain ⟨hc, hP⟩ := g_if hP
    refine hG.1 _ (61, [some (.ref 94), some (.int l1)], [.int (σ.1 115 l1.toNatClampNeg), .ref 112, .ref 119], (gSh, σ, u)) _ rfl (if_pos hc) ?_
    obtain ⟨hc, hP⟩ := g_if hP
    refine hG.1 _ (62, [some (.ref 94), some (.int l1)], [.int (σ.1 112 (σ.1 115 l1.toNatClampNeg).toNatClampNeg), .ref 119], (gSh, σ, u)) _ rfl (if_pos hc) ?_
    refine gRunN_ok hG.1 4 _ (68, [some (.ref 94), some (.int l1)], [.int l1, .ref 115, .ref 94, .int (σ.1 112 (σ.1 115 l1.toNatClampNeg).toNatClampNeg), .ref 119], (gSh, σ, u)) rfl ?_
    obtain ⟨hc, hP⟩ := g_if hP
    refine hG.1 _ (69, [some (.ref 94), some (.int l1)], [.int (σ.1 115 l1.toNatClampNeg), .ref 94, .int (σ.1 112 (σ.1 115 l1.toNatClampNeg).toNatClampNeg), .ref 119], (gSh, σ, u)) _ rfl (if_pos hc) ?_
    obtain ⟨v8, s9, hq, hP⟩ := g_b2 hP
    refine hG.2.2.2.1 _ _ _ [.ref 94, .int (σ.1 115 l1.toNatClampNeg)] [.int (σ.1 112 (σ.1 115 l1.toNatClampNeg).toNatClampNeg), .ref 119] _ (gSh, s9, u) (some (.int v8)) _ _ _ _ _ _ rfl rfl rfl rfl rfl rfl (c_Model_map E (d + 4) u (σ.1 115 l1.toNatClampNeg) _  hq) (Nat.le_refl _) (Nat.le_refl _) (Nat.le_refl _) (Nat.le_refl _) ?_
    show G (72, [some (.ref 94), some (.int l1)], [.int v8, .int (σ.1 112 (σ.1 115 l1.toNatClampNeg).toNatClampNeg), .ref 119], (gSh, s9, u))
    obtain ⟨hc, hP⟩ := g_if hP
    refine hG.1 _ (73, [some (.ref 94), some (.int l1)], [], (gSh, (gPut s9 119 (σ.1 112 (σ.1 115 l1.toNatClampNeg).toNatClampNeg).toNatClampNeg v8), u)) _ rfl (if_pos hc) ?_
    obtain ⟨s10, es10, hP⟩ := g_let hP
    rw [← es10]
    refine gRunN_ok hG.1 1 _ (76, [some (.ref 94), some (.int (l1 + 1))], [], (gSh, s10, u)) rfl ?_
    obtain ⟨x11, ex11, hP⟩ := g_let hP
    rw [← ex11]
    refine gRunN_ok hG.1 1 _ (39, [some (.ref 94), some (.int x11)], [], (gSh, s10, u)) rfl ?_
    cases hP
    exact K1 _ _ rfl
theorem l_Model_compile_39 (E : gEv) (d u : Nat) {G : gFr → Prop} {vo : Option Value} {sr : gS} (hG : gClo E gDf gP18 gY196 (some .int) (gC E gDf gMs (d + 7)) (vo, (gSh, sr, u)) G) : ∀ (n : Nat) (l1 : Int32) (σ : gS) (e : (gS)), gIter (fun z => p_Model_compile_39 E z.1 z.2) n (l1, σ) = some e → (∀ (σ1 : gS), e = σ1 → G (79, [some (.ref 94), none], [], (gSh, σ1, u))) → G (39, [some (.ref 94), some (.int l1)], [], (gSh, σ, u)) := by
  intro n
  induction n with
  | zero => intro l1 σ e h; cases h
  | succ n ih =>
    intro l1 σ e h K2
    rcases g_iter h with ⟨z, h1, h2⟩ | h1
    · exact b_Model_compile_39 E d u hG l1 σ h1 (fun n0 n1 hz => by cases hz; exact ih _ _ e h2 K2) (fun _ hz => by cases hz)
    · exact b_Model_compile_39 E d u hG l1 σ h1 (fun _ _ hz => by cases hz) (fun σ1 hz => K2 σ1 (by cases hz; rfl))
def p_Model_compile_127 (E : gEv) (l1 : Int32) (σ : gS) : Option ((Int32 × gS) ⊕ (gS)) :=
  if (48 : Int32) ≤ l1 then (some (.inr σ)) else (if gIn l1 (σ.2.1 160) then gLet (gPut σ 160 l1.toNatClampNeg (vp_nar .boolean 0)) fun s22 => gLet (l1 + 1) fun x23 => some (.inl (x23, s22)) else none)
set_option maxRecDepth 20000 in
theorem b_Model_compile_127 (E : gEv) (d u : Nat) {G : gFr → Prop} {vo : Option Value} {sr : gS} (hG : gClo E gDf gP18 gY196 (some .int) (gC E gDf gMs (d + 7)) (vo, (gSh, sr, u)) G) (l1 : Int32) (σ : gS) {r : (Int32 × gS) ⊕ (gS)} (hP : p_Model_compile_127 E l1 σ = some r) (K1 : ∀ (m1 : Int32) (σ1 : gS), r = .inl (m1, σ1) → G (127, [some (.ref 94), some (.int m1)], [], (gSh, σ1, u))) (K2 : ∀ (σ1 : gS), r = .inr σ1 → G (146, [some (.ref 94), none], [], (gSh, σ1, u))) : G (127, [some (.ref 94), some (.int l1)], [], (gSh, σ, u)) := by
  unfold p_Model_compile_127 at hP
  refine gRunN_ok hG.1 2 _ (130, [some (.ref 94), some (.int l1)], [.int 48, .int l1], (gSh, σ, u)) rfl ?_
  rcases g_ite hP with ⟨hc, hP⟩ | ⟨hc, hP⟩
  · refine hG.1 _ (146, [some (.ref 94), some (.int l1)], [], (gSh, σ, u)) _ rfl (if_pos hc) ?_
    refine hG.2.2.2.2.1 _ _ [some (.ref 94), none] _ _ ⟨rfl, trivial⟩ ?_
    cases hP
    exact K2 _ rfl
  · refine hG.1 _ (133, [some (.ref 94), some (.int l1)], [], (gSh, σ, u)) _ rfl (if_neg hc) ?_
    refine gRunN_ok hG.1 4 _ (139, [some (.ref 94), some (.int l1)], [.int 0, .int l1, .ref 160], (gSh, σ, u)) rfl ?_
    obtain ⟨hc, hP⟩ := g_if hP
    refine hG.1 _ (140, [some (.ref 94), some (.int l1)], [], (gSh, (gPut σ 160 l1.toNatClampNeg (vp_nar .boolean 0)), u)) _ rfl (if_pos hc) ?_
    obtain ⟨s22, es22, hP⟩ := g_let hP
    rw [← es22]
    refine gRunN_ok hG.1 1 _ (143, [some (.ref 94), some (.int (l1 + 1))], [], (gSh, s22, u)) rfl ?_
    obtain ⟨x23, ex23, hP⟩ := g_let hP
    rw [← ex23]
    refine gRunN_ok hG.1 1 _ (127, [some (.ref 94), some (.int x23)], [], (gSh, s22, u)) rfl ?_
    cases hP
    exact K1 _ _ rfl
theorem l_Model_compile_127 (E : gEv) (d u : Nat) {G : gFr → Prop} {vo : Option Value} {sr : gS} (hG : gClo E gDf gP18 gY196 (some .int) (gC E gDf gMs (d + 7)) (vo, (gSh, sr, u)) G) : ∀ (n : Nat) (l1 : Int32) (σ : gS) (e : (gS)), gIter (fun z => p_Model_compile_127 E z.1 z.2) n (l1, σ) = some e → (∀ (σ1 : gS), e = σ1 → G (146, [some (.ref 94), none], [], (gSh, σ1, u))) → G (127, [some (.ref 94), some (.int l1)], [], (gSh, σ, u)) := by
  intro n
  induction n with
  | zero => intro l1 σ e h; cases h
  | succ n ih =>
    intro l1 σ e h K2
    rcases g_iter h with ⟨z, h1, h2⟩ | h1
    · exact b_Model_compile_127 E d u hG l1 σ h1 (fun n0 n1 hz => by cases hz; exact ih _ _ e h2 K2) (fun _ hz => by cases hz)
    · exact b_Model_compile_127 E d u hG l1 σ h1 (fun _ _ hz => by cases hz) (fun σ1 hz => K2 σ1 (by cases hz; rfl))
def p_Model_compile_j176_148 (E : gEv) (l1 : Int32) (y1 : Int32) (y2 : Int32) (σ : gS) : Option ((Int32 × gS) ⊕ (gS)) :=
  if gIn y1 (σ.2.1 161) then gLet (gPut σ 161 y1.toNatClampNeg (vp_nar .boolean y2)) fun s26 => gLet (l1 + 1) fun x27 => some (.inl (x27, s26)) else none
set_option maxRecDepth 20000 in
theorem j_Model_compile_j176_148 (E : gEv) (d u : Nat) {G : gFr → Prop} {vo : Option Value} {sr : gS} (hG : gClo E gDf gP18 gY196 (some .int) (gC E gDf gMs (d + 7)) (vo, (gSh, sr, u)) G) (l1 : Int32) (y1 : Int32) (y2 : Int32) (σ : gS) {r : (Int32 × gS) ⊕ (gS)} (hP : p_Model_compile_j176_148 E l1 y1 y2 σ = some r) (K1 : ∀ (m1 : Int32) (σ1 : gS), r = .inl (m1, σ1) → G (148, [some (.ref 94), some (.int m1)], [], (gSh, σ1, u))) (K2 : ∀ (σ1 : gS), r = .inr σ1 → G (183, [some (.ref 94), none], [], (gSh, σ1, u))) : G (176, [some (.ref 94), some (.int l1)], [.int y2, .int y1, .ref 161], (gSh, σ, u)) := by
  unfold p_Model_compile_j176_148 at hP
  obtain ⟨hc, hP⟩ := g_if hP
  refine hG.1 _ (177, [some (.ref 94), some (.int l1)], [], (gSh, (gPut σ 161 y1.toNatClampNeg (vp_nar .boolean y2)), u)) _ rfl (if_pos hc) ?_
  obtain ⟨s26, es26, hP⟩ := g_let hP
  rw [← es26]
  refine gRunN_ok hG.1 1 _ (180, [some (.ref 94), some (.int (l1 + 1))], [], (gSh, s26, u)) rfl ?_
  obtain ⟨x27, ex27, hP⟩ := g_let hP
  rw [← ex27]
  refine gRunN_ok hG.1 1 _ (148, [some (.ref 94), some (.int x27)], [], (gSh, s26, u)) rfl ?_
  cases hP
  exact K1 _ _ rfl
def p_Model_compile_148 (E : gEv) (l1 : Int32) (σ : gS) : Option ((Int32 × gS) ⊕ (gS)) :=
  if (σ.1 94 31) ≤ l1 then (some (.inr σ)) else (if gIn l1 (σ.2.1 108) then if (σ.1 108 l1.toNatClampNeg) = (1 : Int32) then (p_Model_compile_j176_148 E l1 l1 1 σ) else (p_Model_compile_j176_148 E l1 l1 0 σ) else none)
set_option maxRecDepth 20000 in
theorem b_Model_compile_148 (E : gEv) (d u : Nat) {G : gFr → Prop} {vo : Option Value} {sr : gS} (hG : gClo E gDf gP18 gY196 (some .int) (gC E gDf gMs (d + 7)) (vo, (gSh, sr, u)) G) (l1 : Int32) (σ : gS) {r : (Int32 × gS) ⊕ (gS)} (hP : p_Model_compile_148 E l1 σ = some r) (K1 : ∀ (m1 : Int32) (σ1 : gS), r = .inl (m1, σ1) → G (148, [some (.ref 94), some (.int m1)], [], (gSh, σ1, u))) (K2 : ∀ (σ1 : gS), r = .inr σ1 → G (183, [some (.ref 94), none], [], (gSh, σ1, u))) : G (148, [some (.ref 94), some (.int l1)], [], (gSh, σ, u)) := by
  unfold p_Model_compile_148 at hP
  refine gRunN_ok hG.1 3 _ (153, [some (.ref 94), some (.int l1)], [.int (σ.1 94 31), .int l1], (gSh, σ, u)) rfl ?_
  rcases g_ite hP with ⟨hc, hP⟩ | ⟨hc, hP⟩
  · refine hG.1 _ (183, [some (.ref 94), some (.int l1)], [], (gSh, σ, u)) _ rfl (if_pos hc) ?_
    refine hG.2.2.2.2.1 _ _ [some (.ref 94), none] _ _ ⟨rfl, trivial⟩ ?_
    cases hP
    exact K2 _ rfl
  · refine hG.1 _ (156, [some (.ref 94), some (.int l1)], [], (gSh, σ, u)) _ rfl (if_neg hc) ?_
    refine gRunN_ok hG.1 6 _ (166, [some (.ref 94), some (.int l1)], [.int l1, .ref 108, .int l1, .ref 161], (gSh, σ, u)) rfl ?_
    obtain ⟨hc, hP⟩ := g_if hP
    refine hG.1 _ (167, [some (.ref 94), some (.int l1)], [.int (σ.1 108 l1.toNatClampNeg), .int l1, .ref 161], (gSh, σ, u)) _ rfl (if_pos hc) ?_
    refine gRunN_ok hG.1 1 _ (168, [some (.ref 94), some (.int l1)], [.int 1, .int (σ.1 108 l1.toNatClampNeg), .int l1, .ref 161], (gSh, σ, u)) rfl ?_
    rcases g_ite hP with ⟨hc, hP⟩ | ⟨hc, hP⟩
    · refine hG.1 _ (171, [some (.ref 94), some (.int l1)], [.int l1, .ref 161], (gSh, σ, u)) _ rfl (if_pos hc) ?_
      refine gRunN_ok hG.1 2 _ (176, [some (.ref 94), some (.int l1)], [.int 1, .int l1, .ref 161], (gSh, σ, u)) rfl ?_
      exact j_Model_compile_j176_148 E d u hG l1 l1 1 σ hP K1 K2
    · refine hG.1 _ (175, [some (.ref 94), some (.int l1)], [.int l1, .ref 161], (gSh, σ, u)) _ rfl (if_neg hc) ?_
      refine gRunN_ok hG.1 1 _ (176, [some (.ref 94), some (.int l1)], [.int 0, .int l1, .ref 161], (gSh, σ, u)) rfl ?_
      exact j_Model_compile_j176_148 E d u hG l1 l1 0 σ hP K1 K2
theorem l_Model_compile_148 (E : gEv) (d u : Nat) {G : gFr → Prop} {vo : Option Value} {sr : gS} (hG : gClo E gDf gP18 gY196 (some .int) (gC E gDf gMs (d + 7)) (vo, (gSh, sr, u)) G) : ∀ (n : Nat) (l1 : Int32) (σ : gS) (e : (gS)), gIter (fun z => p_Model_compile_148 E z.1 z.2) n (l1, σ) = some e → (∀ (σ1 : gS), e = σ1 → G (183, [some (.ref 94), none], [], (gSh, σ1, u))) → G (148, [some (.ref 94), some (.int l1)], [], (gSh, σ, u)) := by
  intro n
  induction n with
  | zero => intro l1 σ e h; cases h
  | succ n ih =>
    intro l1 σ e h K2
    rcases g_iter h with ⟨z, h1, h2⟩ | h1
    · exact b_Model_compile_148 E d u hG l1 σ h1 (fun n0 n1 hz => by cases hz; exact ih _ _ e h2 K2) (fun _ hz => by cases hz)
    · exact b_Model_compile_148 E d u hG l1 σ h1 (fun _ _ hz => by cases hz) (fun σ1 hz => K2 σ1 (by cases hz; rfl))
def p_Model_compile_j106 (E : gEv) (y1 : Int32) (σ : gS) : Option (Int32 × gS) :=
  if y1 = 0 ∨ y1 = 1 then gLet (gPut σ 94 106 y1) fun s18 => gLet (gPut s18 94 105 0) fun s19 => if (s19.1 94 106) = 0 then (some (s19.1 94 17, s19)) else (gB1 (p_Model_place E s19) fun s21 => gB1 (gIter (fun z => p_Model_compile_127 E z.1 z.2) gN (0, s21)) fun e24 => (fun s25 => gB1 (gIter (fun z => p_Model_compile_148 E z.1 z.2) gN (0, s25)) fun e28 => (fun s29 => some (s29.1 94 17, s29)) e28) e24) else none
set_option maxRecDepth 20000 in
theorem j_Model_compile_j106 (E : gEv) (d u : Nat) {G : gFr → Prop} {v : Int32} {sr : gS} (hG : gClo E gDf gP18 gY196 (some .int) (gC E gDf gMs (d + 7)) (some (.int v), (gSh, sr, u)) G) (y1 : Int32) (σ : gS) (hP : p_Model_compile_j106 E y1 σ = some (v, sr)) : G (106, [some (.ref 94), none], [.int y1, .ref 94], (gSh, σ, u)) := by
  unfold p_Model_compile_j106 at hP
  obtain ⟨hc, hP⟩ := g_if hP
  refine hG.1 _ (109, [some (.ref 94), none], [], (gSh, (gPut σ 94 106 y1), u)) _ rfl (if_pos hc) ?_
  obtain ⟨s18, es18, hP⟩ := g_let hP
  rw [← es18]
  refine gRunN_ok hG.1 3 _ (114, [some (.ref 94), none], [], (gSh, (gPut s18 94 105 0), u)) rfl ?_
  obtain ⟨s19, es19, hP⟩ := g_let hP
  rw [← es19]
  refine gRunN_ok hG.1 2 _ (118, [some (.ref 94), none], [.int (s19.1 94 106)], (gSh, s19, u)) rfl ?_
  rcases g_ite hP with ⟨hc, hP⟩ | ⟨hc, hP⟩
  · refine hG.1 _ (183, [some (.ref 94), none], [], (gSh, s19, u)) _ rfl (if_pos hc) ?_
    refine gRunN_ok hG.1 2 _ (187, [some (.ref 94), none], [.int (s19.1 94 17)], (gSh, s19, u)) rfl ?_
    cases hP
    exact hG.2.1 _ _ rfl rfl
  · refine hG.1 _ (121, [some (.ref 94), none], [], (gSh, s19, u)) _ rfl (if_neg hc) ?_
    refine gRunN_ok hG.1 1 _ (122, [some (.ref 94), none], [.ref 94], (gSh, s19, u)) rfl ?_
    obtain ⟨s21, hq, hP⟩ := g_b1 hP
    refine hG.2.2.2.1 _ _ _ [.ref 94] [] _ (gSh, s21, u) none _ _ _ _ _ _ rfl rfl rfl rfl rfl rfl (c_Model_place E (d + 6) u _  hq) (Nat.le_refl _) (Nat.le_refl _) (Nat.le_refl _) (Nat.le_refl _) ?_
    show G (125, [some (.ref 94), none], [], (gSh, s21, u))
    refine gRunN_ok hG.1 2 _ (127, [some (.ref 94), some (.int 0)], [], (gSh, s21, u)) rfl ?_
    obtain ⟨e24, hq, hP⟩ := g_b1 hP
    refine l_Model_compile_127 E d u hG gN 0 s21 _ hq (fun s25 he => ?_)
    · replace he := he.symm
      subst he
      try dsimp only [gSum] at hP
      refine gRunN_ok hG.1 2 _ (148, [some (.ref 94), some (.int 0)], [], (gSh, s25, u)) rfl ?_
      obtain ⟨e28, hq, hP⟩ := g_b1 hP
      refine l_Model_compile_148 E d u hG gN 0 s25 _ hq (fun s29 he => ?_)
      · replace he := he.symm
        subst he
        try dsimp only [gSum] at hP
        refine gRunN_ok hG.1 2 _ (187, [some (.ref 94), none], [.int (s29.1 94 17)], (gSh, s29, u)) rfl ?_
        cases hP
        exact hG.2.1 _ _ rfl rfl
def p_Model_compile_j83 (E : gEv) (σ : gS) : Option (Int32 × gS) :=
  gLet (gPut σ 94 16 0) fun s16 => gLet (gPut s16 94 77 0) fun s17 => if (s17.1 94 17) = 0 then (p_Model_compile_j106 E 1 s17) else (p_Model_compile_j106 E 0 s17)
set_option maxRecDepth 20000 in
theorem j_Model_compile_j83 (E : gEv) (d u : Nat) {G : gFr → Prop} {v : Int32} {sr : gS} (hG : gClo E gDf gP18 gY196 (some .int) (gC E gDf gMs (d + 7)) (some (.int v), (gSh, sr, u)) G) (σ : gS) (hP : p_Model_compile_j83 E σ = some (v, sr)) : G (83, [some (.ref 94), none], [], (gSh, σ, u)) := by
  unfold p_Model_compile_j83 at hP
  refine gRunN_ok hG.1 3 _ (88, [some (.ref 94), none], [], (gSh, (gPut σ 94 16 0), u)) rfl ?_
  obtain ⟨s16, es16, hP⟩ := g_let hP
  rw [← es16]
  refine gRunN_ok hG.1 3 _ (93, [some (.ref 94), none], [], (gSh, (gPut s16 94 77 0), u)) rfl ?_
  obtain ⟨s17, es17, hP⟩ := g_let hP
  rw [← es17]
  refine gRunN_ok hG.1 3 _ (98, [some (.ref 94), none], [.int (s17.1 94 17), .ref 94], (gSh, s17, u)) rfl ?_
  rcases g_ite hP with ⟨hc, hP⟩ | ⟨hc, hP⟩
  · refine hG.1 _ (101, [some (.ref 94), none], [.ref 94], (gSh, s17, u)) _ rfl (if_pos hc) ?_
    refine gRunN_ok hG.1 2 _ (106, [some (.ref 94), none], [.int 1, .ref 94], (gSh, s17, u)) rfl ?_
    exact j_Model_compile_j106 E d u hG 1 s17 hP
  · refine hG.1 _ (105, [some (.ref 94), none], [.ref 94], (gSh, s17, u)) _ rfl (if_neg hc) ?_
    refine gRunN_ok hG.1 1 _ (106, [some (.ref 94), none], [.int 0, .ref 94], (gSh, s17, u)) rfl ?_
    exact j_Model_compile_j106 E d u hG 0 s17 hP
def p_Model_compile_j25 (E : gEv) (σ : gS) : Option (Int32 × gS) :=
  if (σ.1 94 17) = 0 then (gLet (gPut σ 94 46 0) fun s7 => gB1 (gIter (fun z => p_Model_compile_39 E z.1 z.2) gN (0, s7)) fun e12 => (fun s13 => gB1 (p_Model_pack E s13) fun s15 => p_Model_compile_j83 E s15) e12) else (p_Model_compile_j83 E σ)
set_option maxRecDepth 20000 in
theorem j_Model_compile_j25 (E : gEv) (d u : Nat) {G : gFr → Prop} {v : Int32} {sr : gS} (hG : gClo E gDf gP18 gY196 (some .int) (gC E gDf gMs (d + 7)) (some (.int v), (gSh, sr, u)) G) (σ : gS) (hP : p_Model_compile_j25 E σ = some (v, sr)) : G (25, [some (.ref 94), none], [], (gSh, σ, u)) := by
  unfold p_Model_compile_j25 at hP
  refine gRunN_ok hG.1 2 _ (29, [some (.ref 94), none], [.int (σ.1 94 17)], (gSh, σ, u)) rfl ?_
  rcases g_ite hP with ⟨hc, hP⟩ | ⟨hc, hP⟩
  · refine hG.1 _ (32, [some (.ref 94), none], [], (gSh, σ, u)) _ rfl (if_pos hc) ?_
    refine gRunN_ok hG.1 3 _ (37, [some (.ref 94), none], [], (gSh, (gPut σ 94 46 0), u)) rfl ?_
    obtain ⟨s7, es7, hP⟩ := g_let hP
    rw [← es7]
    refine gRunN_ok hG.1 2 _ (39, [some (.ref 94), some (.int 0)], [], (gSh, s7, u)) rfl ?_
    obtain ⟨e12, hq, hP⟩ := g_b1 hP
    refine l_Model_compile_39 E d u hG gN 0 s7 _ hq (fun s13 he => ?_)
    · replace he := he.symm
      subst he
      try dsimp only [gSum] at hP
      refine gRunN_ok hG.1 1 _ (80, [some (.ref 94), none], [.ref 94], (gSh, s13, u)) rfl ?_
      obtain ⟨s15, hq, hP⟩ := g_b1 hP
      refine hG.2.2.2.1 _ _ _ [.ref 94] [] _ (gSh, s15, u) none _ _ _ _ _ _ rfl rfl rfl rfl rfl rfl (c_Model_pack E (d + 3) u _  hq) (Nat.le_refl _) (Nat.le_refl _) (Nat.le_refl _) (Nat.le_refl _) ?_
      show G (83, [some (.ref 94), none], [], (gSh, s15, u))
      exact j_Model_compile_j83 E d u hG s15 hP
  · refine hG.1 _ (83, [some (.ref 94), none], [], (gSh, σ, u)) _ rfl (if_neg hc) ?_
    exact j_Model_compile_j83 E d u hG σ hP
def p_Model_compile (E : gEv) (σ : gS) : Option (Int32 × gS) :=
  gLet (gPut σ 94 17 0) fun s1 => gLet (gPut s1 94 18 (-1)) fun s2 => gB1 (p_Model_read E s2) fun s4 => if (s4.1 94 17) = 0 then (gB1 (p_Model_check E s4) fun s6 => p_Model_compile_j25 E s6) else (p_Model_compile_j25 E s4)
set_option maxRecDepth 20000 in
theorem c_Model_compile (E : gEv) (d u : Nat) (σ : gS) {v : Int32} {sr : gS}  (hq : p_Model_compile E σ = some (v, sr)) : gC E gDf gMs (d + 8) 196 [.ref 94] (gSh, σ, u) (some (.int v), (gSh, sr, u)) := ⟨gM196, rfl, Nat.le_of_ble_eq_true rfl, fun G hG => by
  have hP := hq
  unfold p_Model_compile at hP
  replace hG : gClo E gDf gP18 gY196 (some .int) (gC E gDf gMs (d + 7)) (some (.int v), (gSh, sr, u)) G := hG
  show G (0, [some (.ref 94), none], [], (gSh, σ, u))
  refine gRunN_ok hG.1 3 _ (5, [some (.ref 94), none], [], (gSh, (gPut σ 94 17 0), u)) rfl ?_
  obtain ⟨s1, es1, hP⟩ := g_let hP
  rw [← es1]
  refine gRunN_ok hG.1 3 _ (10, [some (.ref 94), none], [], (gSh, (gPut s1 94 18 (-1)), u)) rfl ?_
  obtain ⟨s2, es2, hP⟩ := g_let hP
  rw [← es2]
  refine gRunN_ok hG.1 1 _ (11, [some (.ref 94), none], [.ref 94], (gSh, s2, u)) rfl ?_
  obtain ⟨s4, hq, hP⟩ := g_b1 hP
  refine hG.2.2.2.1 _ _ _ [.ref 94] [] _ (gSh, s4, u) none _ _ _ _ _ _ rfl rfl rfl rfl rfl rfl (c_Model_read E (d + 0) u _  hq) (Nat.le_refl _) (Nat.le_refl _) (Nat.le_refl _) (Nat.le_refl _) ?_
  show G (14, [some (.ref 94), none], [], (gSh, s4, u))
  refine gRunN_ok hG.1 2 _ (18, [some (.ref 94), none], [.int (s4.1 94 17)], (gSh, s4, u)) rfl ?_
  rcases g_ite hP with ⟨hc, hP⟩ | ⟨hc, hP⟩
  · refine hG.1 _ (21, [some (.ref 94), none], [], (gSh, s4, u)) _ rfl (if_pos hc) ?_
    refine gRunN_ok hG.1 1 _ (22, [some (.ref 94), none], [.ref 94], (gSh, s4, u)) rfl ?_
    obtain ⟨s6, hq, hP⟩ := g_b1 hP
    refine hG.2.2.2.1 _ _ _ [.ref 94] [] _ (gSh, s6, u) none _ _ _ _ _ _ rfl rfl rfl rfl rfl rfl (c_Model_check E (d + 5) u _  hq) (Nat.le_refl _) (Nat.le_refl _) (Nat.le_refl _) (Nat.le_refl _) ?_
    show G (25, [some (.ref 94), none], [], (gSh, s6, u))
    exact j_Model_compile_j25 E d u hG s6 hP
  · refine hG.1 _ (25, [some (.ref 94), none], [], (gSh, s4, u)) _ rfl (if_neg hc) ?_
    exact j_Model_compile_j25 E d u hG s4 hP⟩
def p_Mapper_map_j19 (E : gEv) (l1 : Int32) (l3 : Int32) (σ : gS) : Option (Int32 × gS) :=
  gB2 (p_Mapper_addSmall E l1 (if (4 : Int32) < l3 then (4 : Int32) else l3) σ) fun v3 s4 => some (v3, s4)
set_option maxRecDepth 20000 in
theorem j_Mapper_map_j19 (E : gEv) (d u : Nat) {G : gFr → Prop} {v : Int32} {sr : gS} (hG : gClo E gDf gP7 gY77 (some .int) (gC E gDf gMs (d + 2)) (some (.int v), (gSh, sr, u)) G) (l1 : Int32) (l3 : Int32) (σ : gS) (hP : p_Mapper_map_j19 E l1 l3 σ = some (v, sr)) : G (19, [some (.ref 40), some (.int l1), none, some (.int l3), none, none, none, none, none], [], (gSh, σ, u)) := by
  unfold p_Mapper_map_j19 at hP
  refine gRunN_ok hG.1 4 _ (23, [some (.ref 40), some (.int l1), none, some (.int l3), none, none, none, none, none], [.int 4, .int l3, .int l1, .ref 40], (gSh, σ, u)) rfl ?_
  refine hG.2.2.2.2.2.2.2 _ _ _ _ _ _ _ _ _ rfl rfl rfl (Nat.le_refl _) (Nat.le_refl _) ?_
  show G (26, [some (.ref 40), some (.int l1), none, some (.int l3), none, none, none, none, none], [.int (if (4 : Int32) < l3 then (4 : Int32) else l3), .int l1, .ref 40], (gSh, σ, u))
  obtain ⟨v3, s4, hq, hP⟩ := g_b2 hP
  refine hG.2.2.2.1 _ _ _ [.ref 40, .int l1, .int (if (4 : Int32) < l3 then (4 : Int32) else l3)] [] _ (gSh, s4, u) (some (.int v3)) _ _ _ _ _ _ rfl rfl rfl rfl rfl rfl (c_Mapper_addSmall E (d + 0) u l1 (if (4 : Int32) < l3 then (4 : Int32) else l3) _  hq) (Nat.le_refl _) (Nat.le_refl _) (Nat.le_refl _) (Nat.le_refl _) ?_
  show G (29, [some (.ref 40), some (.int l1), none, some (.int l3), none, none, none, none, none], [.int v3], (gSh, s4, u))
  cases hP
  exact hG.2.1 _ _ rfl rfl
def p_Mapper_map (E : gEv) : Nat → Int32 → Int32 → gS → Option (Int32 × gS)
  | 0, _, _, _ => none
  | n + 1, a0, a1, σ => gB2 (p_Mapper_leaveOut E a0 a1 σ) fun v1 s2 => if v1 ≤ (4 : Int32) then (p_Mapper_map_j19 E a0 v1 s2) else (if (a0 + (1 : Int32)) < (5 : Int32) then (gLet (v1 - (1 : Int32)) fun x5 => gLet ((1 : Int32) <<< (x5 &&& 31)) fun x6 => if gIn a0 5 then gLet (42 + a0.toNatClampNeg) fun k7 => if gIn (a0 + (1 : Int32)) 5 then gLet (42 + (a0 + (1 : Int32)).toNatClampNeg) fun k8 => if (¬ (0 : Int32) < 0 ∧ ¬ (0 : Int32) < 0 ∧ ¬ x6 < 0 ∧ (0 : Int32).toNatClampNeg + x6.toNatClampNeg ≤ s2.2.1 k7 ∧ (0 : Int32).toNatClampNeg + x6.toNatClampNeg ≤ s2.2.1 k8) ∧ ∀ i, i < x6.toNatClampNeg → fits .byte (.int (s2.1 k7 ((0 : Int32).toNatClampNeg + i))) = true then gLet (gRow s2 k8 (va_cpy (s2.1 k7) (s2.1 k8) (0 : Int32).toNatClampNeg (0 : Int32).toNatClampNeg x6.toNatClampNeg)) fun s9 => if gIn a0 5 then gLet (48 + a0.toNatClampNeg) fun k10 => if gIn (a0 + (1 : Int32)) 5 then gLet (48 + (a0 + (1 : Int32)).toNatClampNeg) fun k11 => if ¬ (0 : Int32) < 0 ∧ ¬ (0 : Int32) < 0 ∧ ¬ x5 < 0 ∧ (0 : Int32).toNatClampNeg + x5.toNatClampNeg ≤ s9.2.1 k10 ∧ (0 : Int32).toNatClampNeg + x5.toNatClampNeg ≤ s9.2.1 k11 then gLet (gRow s9 k11 (va_cpy (s9.1 k10) (s9.1 k11) (0 : Int32).toNatClampNeg (0 : Int32).toNatClampNeg x5.toNatClampNeg)) fun s12 => gB2 (p_Mapper_map E n (a0 + (1 : Int32)) x5 s12) fun v13 s14 => if gIn a0 5 then gLet (42 + a0.toNatClampNeg) fun k15 => if gIn (a0 + (1 : Int32)) 5 then gLet (42 + (a0 + (1 : Int32)).toNatClampNeg) fun k16 => if (¬ x6 < 0 ∧ ¬ (0 : Int32) < 0 ∧ ¬ x6 < 0 ∧ x6.toNatClampNeg + x6.toNatClampNeg ≤ s14.2.1 k15 ∧ (0 : Int32).toNatClampNeg + x6.toNatClampNeg ≤ s14.2.1 k16) ∧ ∀ i, i < x6.toNatClampNeg → fits .byte (.int (s14.1 k15 (x6.toNatClampNeg + i))) = true then gLet (gRow s14 k16 (va_cpy (s14.1 k15) (s14.1 k16) x6.toNatClampNeg (0 : Int32).toNatClampNeg x6.toNatClampNeg)) fun s17 => if gIn a0 5 then gLet (48 + a0.toNatClampNeg) fun k18 => if gIn (a0 + (1 : Int32)) 5 then gLet (48 + (a0 + (1 : Int32)).toNatClampNeg) fun k19 => if ¬ (0 : Int32) < 0 ∧ ¬ (0 : Int32) < 0 ∧ ¬ x5 < 0 ∧ (0 : Int32).toNatClampNeg + x5.toNatClampNeg ≤ s17.2.1 k18 ∧ (0 : Int32).toNatClampNeg + x5.toNatClampNeg ≤ s17.2.1 k19 then gLet (gRow s17 k19 (va_cpy (s17.1 k18) (s17.1 k19) (0 : Int32).toNatClampNeg (0 : Int32).toNatClampNeg x5.toNatClampNeg)) fun s20 => gB2 (p_Mapper_map E n (a0 + (1 : Int32)) x5 s20) fun v21 s22 => if gIn a0 5 then gLet (48 + a0.toNatClampNeg) fun k23 => if gIn x5 (s22.2.1 k23) then gLet (s22.1 k23 x5.toNatClampNeg) fun x24 => if gIn a0 5 then gLet (48 + a0.toNatClampNeg) fun k25 => if gIn (0 : Int32) (s22.2.1 k25) then gLet (gPut s22 k25 (0 : Int32).toNatClampNeg v13) fun s26 => if gIn a0 5 then gLet (48 + a0.toNatClampNeg) fun k27 => if gIn (1 : Int32) (s26.2.1 k27) then gLet (gPut s26 k27 (1 : Int32).toNatClampNeg v21) fun s28 => if gIn a0 5 then gLet (48 + a0.toNatClampNeg) fun k29 => if gIn (2 : Int32) (s28.2.1 k29) then gLet (gPut s28 k29 (2 : Int32).toNatClampNeg x24) fun s30 => if gIn a0 5 then gLet (48 + a0.toNatClampNeg) fun k31 => gB2 (p_Circuit_addLut E k31 3 51914 s30) fun v32 s33 => some (v32, s33) else none else none else none else none else none else none else none else none else none else none else none else none else none else none else none else none else none else none else none else none else none) else (p_Mapper_map_j19 E a0 v1 s2))
set_option maxRecDepth 20000 in
theorem c_Mapper_map (E : gEv) : ∀ (n d u : Nat) (a0 a1 : Int32) (σ : gS) {v : Int32} {sr : gS} (_ : p_Mapper_map E n a0 a1 σ = some (v, sr)), gC E gDf gMs (d + n + 3) 77 [.ref 40, .int a0, .int a1] (gSh, σ, u) (some (.int v), (gSh, sr, u)) := by
  intro n
  induction n with
  | zero => intro d u a0 a1 σ v sr hq; cases hq
  | succ n ih =>
    intro d u a0 a1 σ v sr hq
    refine ⟨gM77, rfl, Nat.le_of_ble_eq_true rfl, fun G hG => ?_⟩
    have hP := hq
    unfold p_Mapper_map at hP
    replace hG : gClo E gDf gP7 gY77 (some .int) (gC E gDf gMs (d + (n + 1) + 2)) (some (.int v), (gSh, sr, u)) G := hG
    show G (0, [some (.ref 40), some (.int a0), some (.int a1), none, none, none, none, none, none], [], (gSh, σ, u))
    refine gRunN_ok hG.1 3 _ (3, [some (.ref 40), some (.int a0), some (.int a1), none, none, none, none, none, none], [.int a1, .int a0, .ref 40], (gSh, σ, u)) rfl ?_
    obtain ⟨v1, s2, hq, hP⟩ := g_b2 hP
    refine hG.2.2.2.1 _ _ _ [.ref 40, .int a0, .int a1] [] _ (gSh, s2, u) (some (.int v1)) _ _ _ _ _ _ rfl rfl rfl rfl rfl rfl (c_Mapper_leaveOut E (d + (n + 1) + 0) u a0 a1 _  hq) (Nat.le_refl _) (Nat.le_refl _) (Nat.le_refl _) (Nat.le_refl _) ?_
    show G (6, [some (.ref 40), some (.int a0), some (.int a1), none, none, none, none, none, none], [.int v1], (gSh, s2, u))
    refine gRunN_ok hG.1 3 _ (9, [some (.ref 40), some (.int a0), some (.int a1), some (.int v1), none, none, none, none, none], [.int 4, .int v1], (gSh, s2, u)) rfl ?_
    rcases g_ite hP with ⟨hc, hP⟩ | ⟨hc, hP⟩
    · refine hG.1 _ (19, [some (.ref 40), some (.int a0), some (.int a1), some (.int v1), none, none, none, none, none], [], (gSh, s2, u)) _ rfl (if_pos hc) ?_
      refine hG.2.2.2.2.1 _ _ [some (.ref 40), some (.int a0), none, some (.int v1), none, none, none, none, none] _ _ ⟨rfl, ⟨rfl, ⟨rfl, trivial⟩⟩⟩ ?_
      exact j_Mapper_map_j19 E (d + (n + 1)) u hG a0 v1 s2 hP
    · refine hG.1 _ (12, [some (.ref 40), some (.int a0), some (.int a1), some (.int v1), none, none, none, none, none], [], (gSh, s2, u)) _ rfl (if_neg hc) ?_
      refine gRunN_ok hG.1 4 _ (16, [some (.ref 40), some (.int a0), some (.int a1), some (.int v1), none, none, none, none, none], [.int 5, .int (a0 + (1 : Int32))], (gSh, s2, u)) rfl ?_
      rcases g_ite hP with ⟨hc, hP⟩ | ⟨hc, hP⟩
      · refine hG.1 _ (30, [some (.ref 40), some (.int a0), some (.int a1), some (.int v1), none, none, none, none, none], [], (gSh, s2, u)) _ rfl (if_pos hc) ?_
        refine gRunN_ok hG.1 4 _ (35, [some (.ref 40), some (.int a0), some (.int a1), some (.int v1), some (.int (v1 - (1 : Int32))), none, none, none, none], [], (gSh, s2, u)) rfl ?_
        obtain ⟨x5, ex5, hP⟩ := g_let hP
        rw [← ex5]
        refine gRunN_ok hG.1 4 _ (41, [some (.ref 40), some (.int a0), some (.int a1), some (.int v1), some (.int x5), some (.int ((1 : Int32) <<< (x5 &&& 31))), none, none, none], [], (gSh, s2, u)) rfl ?_
        obtain ⟨x6, ex6, hP⟩ := g_let hP
        rw [← ex6]
        refine gRunN_ok hG.1 3 _ (46, [some (.ref 40), some (.int a0), some (.int a1), some (.int v1), some (.int x5), some (.int x6), none, none, none], [.int a0, .ref 41], (gSh, s2, u)) rfl ?_
        obtain ⟨hc, hP⟩ := g_if hP
        refine hG.1 _ (47, [some (.ref 40), some (.int a0), some (.int a1), some (.int v1), some (.int x5), some (.int x6), none, none, none], [.ref (42 + a0.toNatClampNeg)], (gSh, s2, u)) _ rfl (gAa_41 hc) ?_
        obtain ⟨k7, ek7, hP⟩ := g_let hP
        rw [← ek7]
        have hk7 : gSh[k7]? = some (.inl (.byte, none)) := by rw [ek7]; exact gSh_41 hc
        refine gRunN_ok hG.1 6 _ (55, [some (.ref 40), some (.int a0), some (.int a1), some (.int v1), some (.int x5), some (.int x6), none, none, none], [.int (a0 + (1 : Int32)), .ref 41, .int 0, .ref k7], (gSh, s2, u)) rfl ?_
        obtain ⟨hc, hP⟩ := g_if hP
        refine hG.1 _ (56, [some (.ref 40), some (.int a0), some (.int a1), some (.int v1), some (.int x5), some (.int x6), none, none, none], [.ref (42 + (a0 + (1 : Int32)).toNatClampNeg), .int 0, .ref k7], (gSh, s2, u)) _ rfl (gAa_41 hc) ?_
        obtain ⟨k8, ek8, hP⟩ := g_let hP
        rw [← ek8]
        have hk8 : gSh[k8]? = some (.inl (.byte, none)) := by rw [ek8]; exact gSh_41 hc
        refine gRunN_ok hG.1 2 _ (59, [some (.ref 40), some (.int a0), some (.int a1), some (.int v1), some (.int x5), some (.int x6), none, none, none], [.int x6, .int 0, .ref k8, .int 0, .ref k7], (gSh, s2, u)) rfl ?_
        obtain ⟨hc, hP⟩ := g_if hP
        refine hG.1 _ (62, [some (.ref 40), some (.int a0), some (.int a1), some (.int v1), some (.int x5), some (.int x6), none, none, none], [], (gSh, (gRow s2 k8 (va_cpy (s2.1 k7) (s2.1 k8) (0 : Int32).toNatClampNeg (0 : Int32).toNatClampNeg x6.toNatClampNeg)), u)) _ rfl (gCopy_B rfl hk7 hk8 rfl hc) ?_
        obtain ⟨s9, es9, hP⟩ := g_let hP
        rw [← es9]
        refine gRunN_ok hG.1 3 _ (67, [some (.ref 40), some (.int a0), some (.int a1), some (.int v1), some (.int x5), some (.int x6), none, none, none], [.int a0, .ref 47], (gSh, s9, u)) rfl ?_
        obtain ⟨hc, hP⟩ := g_if hP
        refine hG.1 _ (68, [some (.ref 40), some (.int a0), some (.int a1), some (.int v1), some (.int x5), some (.int x6), none, none, none], [.ref (48 + a0.toNatClampNeg)], (gSh, s9, u)) _ rfl (gAa_47 hc) ?_
        obtain ⟨k10, ek10, hP⟩ := g_let hP
        rw [← ek10]
        have hk10 : gSh[k10]? = some (.inl (.int, none)) := by rw [ek10]; exact gSh_47 hc
        refine gRunN_ok hG.1 6 _ (76, [some (.ref 40), some (.int a0), some (.int a1), some (.int v1), some (.int x5), some (.int x6), none, none, none], [.int (a0 + (1 : Int32)), .ref 47, .int 0, .ref k10], (gSh, s9, u)) rfl ?_
        obtain ⟨hc, hP⟩ := g_if hP
        refine hG.1 _ (77, [some (.ref 40), some (.int a0), some (.int a1), some (.int v1), some (.int x5), some (.int x6), none, none, none], [.ref (48 + (a0 + (1 : Int32)).toNatClampNeg), .int 0, .ref k10], (gSh, s9, u)) _ rfl (gAa_47 hc) ?_
        obtain ⟨k11, ek11, hP⟩ := g_let hP
        rw [← ek11]
        have hk11 : gSh[k11]? = some (.inl (.int, none)) := by rw [ek11]; exact gSh_47 hc
        refine gRunN_ok hG.1 2 _ (80, [some (.ref 40), some (.int a0), some (.int a1), some (.int v1), some (.int x5), some (.int x6), none, none, none], [.int x5, .int 0, .ref k11, .int 0, .ref k10], (gSh, s9, u)) rfl ?_
        obtain ⟨hc, hP⟩ := g_if hP
        refine hG.1 _ (83, [some (.ref 40), some (.int a0), some (.int a1), some (.int v1), some (.int x5), some (.int x6), none, none, none], [], (gSh, (gRow s9 k11 (va_cpy (s9.1 k10) (s9.1 k11) (0 : Int32).toNatClampNeg (0 : Int32).toNatClampNeg x5.toNatClampNeg)), u)) _ rfl (gCopy_I rfl hk10 hk11 rfl hc) ?_
        obtain ⟨s12, es12, hP⟩ := g_let hP
        rw [← es12]
        refine gRunN_ok hG.1 5 _ (89, [some (.ref 40), some (.int a0), some (.int a1), some (.int v1), some (.int x5), some (.int x6), none, none, none], [.int x5, .int (a0 + (1 : Int32)), .ref 40], (gSh, s12, u)) rfl ?_
        obtain ⟨v13, s14, hq, hP⟩ := g_b2 hP
        refine hG.2.2.2.1 _ _ _ [.ref 40, .int (a0 + (1 : Int32)), .int x5] [] _ (gSh, s14, u) (some (.int v13)) _ _ _ _ _ _ rfl rfl rfl rfl rfl rfl (ih d u (a0 + (1 : Int32)) x5 _ hq) (Nat.le_refl _) (Nat.le_refl _) (Nat.le_refl _) (Nat.le_refl _) ?_
        show G (92, [some (.ref 40), some (.int a0), some (.int a1), some (.int v1), some (.int x5), some (.int x6), none, none, none], [.int v13], (gSh, s14, u))
        refine gRunN_ok hG.1 4 _ (99, [some (.ref 40), some (.int a0), some (.int a1), some (.int v1), some (.int x5), some (.int x6), some (.int v13), none, none], [.int a0, .ref 41], (gSh, s14, u)) rfl ?_
        obtain ⟨hc, hP⟩ := g_if hP
        refine hG.1 _ (100, [some (.ref 40), some (.int a0), some (.int a1), some (.int v1), some (.int x5), some (.int x6), some (.int v13), none, none], [.ref (42 + a0.toNatClampNeg)], (gSh, s14, u)) _ rfl (gAa_41 hc) ?_
        obtain ⟨k15, ek15, hP⟩ := g_let hP
        rw [← ek15]
        have hk15 : gSh[k15]? = some (.inl (.byte, none)) := by rw [ek15]; exact gSh_41 hc
        refine gRunN_ok hG.1 6 _ (109, [some (.ref 40), some (.int a0), some (.int a1), some (.int v1), some (.int x5), some (.int x6), some (.int v13), none, none], [.int (a0 + (1 : Int32)), .ref 41, .int x6, .ref k15], (gSh, s14, u)) rfl ?_
        obtain ⟨hc, hP⟩ := g_if hP
        refine hG.1 _ (110, [some (.ref 40), some (.int a0), some (.int a1), some (.int v1), some (.int x5), some (.int x6), some (.int v13), none, none], [.ref (42 + (a0 + (1 : Int32)).toNatClampNeg), .int x6, .ref k15], (gSh, s14, u)) _ rfl (gAa_41 hc) ?_
        obtain ⟨k16, ek16, hP⟩ := g_let hP
        rw [← ek16]
        have hk16 : gSh[k16]? = some (.inl (.byte, none)) := by rw [ek16]; exact gSh_41 hc
        refine gRunN_ok hG.1 2 _ (113, [some (.ref 40), some (.int a0), some (.int a1), some (.int v1), some (.int x5), some (.int x6), some (.int v13), none, none], [.int x6, .int 0, .ref k16, .int x6, .ref k15], (gSh, s14, u)) rfl ?_
        obtain ⟨hc, hP⟩ := g_if hP
        refine hG.1 _ (116, [some (.ref 40), some (.int a0), some (.int a1), some (.int v1), some (.int x5), some (.int x6), some (.int v13), none, none], [], (gSh, (gRow s14 k16 (va_cpy (s14.1 k15) (s14.1 k16) x6.toNatClampNeg (0 : Int32).toNatClampNeg x6.toNatClampNeg)), u)) _ rfl (gCopy_B rfl hk15 hk16 rfl hc) ?_
        obtain ⟨s17, es17, hP⟩ := g_let hP
        rw [← es17]
        refine gRunN_ok hG.1 3 _ (121, [some (.ref 40), some (.int a0), some (.int a1), some (.int v1), some (.int x5), some (.int x6), some (.int v13), none, none], [.int a0, .ref 47], (gSh, s17, u)) rfl ?_
        obtain ⟨hc, hP⟩ := g_if hP
        refine hG.1 _ (122, [some (.ref 40), some (.int a0), some (.int a1), some (.int v1), some (.int x5), some (.int x6), some (.int v13), none, none], [.ref (48 + a0.toNatClampNeg)], (gSh, s17, u)) _ rfl (gAa_47 hc) ?_
        obtain ⟨k18, ek18, hP⟩ := g_let hP
        rw [← ek18]
        have hk18 : gSh[k18]? = some (.inl (.int, none)) := by rw [ek18]; exact gSh_47 hc
        refine gRunN_ok hG.1 6 _ (130, [some (.ref 40), some (.int a0), some (.int a1), some (.int v1), some (.int x5), some (.int x6), some (.int v13), none, none], [.int (a0 + (1 : Int32)), .ref 47, .int 0, .ref k18], (gSh, s17, u)) rfl ?_
        obtain ⟨hc, hP⟩ := g_if hP
        refine hG.1 _ (131, [some (.ref 40), some (.int a0), some (.int a1), some (.int v1), some (.int x5), some (.int x6), some (.int v13), none, none], [.ref (48 + (a0 + (1 : Int32)).toNatClampNeg), .int 0, .ref k18], (gSh, s17, u)) _ rfl (gAa_47 hc) ?_
        obtain ⟨k19, ek19, hP⟩ := g_let hP
        rw [← ek19]
        have hk19 : gSh[k19]? = some (.inl (.int, none)) := by rw [ek19]; exact gSh_47 hc
        refine gRunN_ok hG.1 2 _ (134, [some (.ref 40), some (.int a0), some (.int a1), some (.int v1), some (.int x5), some (.int x6), some (.int v13), none, none], [.int x5, .int 0, .ref k19, .int 0, .ref k18], (gSh, s17, u)) rfl ?_
        obtain ⟨hc, hP⟩ := g_if hP
        refine hG.1 _ (137, [some (.ref 40), some (.int a0), some (.int a1), some (.int v1), some (.int x5), some (.int x6), some (.int v13), none, none], [], (gSh, (gRow s17 k19 (va_cpy (s17.1 k18) (s17.1 k19) (0 : Int32).toNatClampNeg (0 : Int32).toNatClampNeg x5.toNatClampNeg)), u)) _ rfl (gCopy_I rfl hk18 hk19 rfl hc) ?_
        obtain ⟨s20, es20, hP⟩ := g_let hP
        rw [← es20]
        refine gRunN_ok hG.1 5 _ (143, [some (.ref 40), some (.int a0), some (.int a1), some (.int v1), some (.int x5), some (.int x6), some (.int v13), none, none], [.int x5, .int (a0 + (1 : Int32)), .ref 40], (gSh, s20, u)) rfl ?_
        obtain ⟨v21, s22, hq, hP⟩ := g_b2 hP
        refine hG.2.2.2.1 _ _ _ [.ref 40, .int (a0 + (1 : Int32)), .int x5] [] _ (gSh, s22, u) (some (.int v21)) _ _ _ _ _ _ rfl rfl rfl rfl rfl rfl (ih d u (a0 + (1 : Int32)) x5 _ hq) (Nat.le_refl _) (Nat.le_refl _) (Nat.le_refl _) (Nat.le_refl _) ?_
        show G (146, [some (.ref 40), some (.int a0), some (.int a1), some (.int v1), some (.int x5), some (.int x6), some (.int v13), none, none], [.int v21], (gSh, s22, u))
        refine gRunN_ok hG.1 4 _ (153, [some (.ref 40), some (.int a0), some (.int a1), some (.int v1), some (.int x5), some (.int x6), some (.int v13), some (.int v21), none], [.int a0, .ref 47], (gSh, s22, u)) rfl ?_
        obtain ⟨hc, hP⟩ := g_if hP
        refine hG.1 _ (154, [some (.ref 40), some (.int a0), some (.int a1), some (.int v1), some (.int x5), some (.int x6), some (.int v13), some (.int v21), none], [.ref (48 + a0.toNatClampNeg)], (gSh, s22, u)) _ rfl (gAa_47 hc) ?_
        obtain ⟨k23, ek23, hP⟩ := g_let hP
        rw [← ek23]
        have hk23 : gSh[k23]? = some (.inl (.int, none)) := by rw [ek23]; exact gSh_47 hc
        refine gRunN_ok hG.1 1 _ (156, [some (.ref 40), some (.int a0), some (.int a1), some (.int v1), some (.int x5), some (.int x6), some (.int v13), some (.int v21), none], [.int x5, .ref k23], (gSh, s22, u)) rfl ?_
        obtain ⟨hc, hP⟩ := g_if hP
        refine hG.1 _ (157, [some (.ref 40), some (.int a0), some (.int a1), some (.int v1), some (.int x5), some (.int x6), some (.int v13), some (.int v21), none], [.int (s22.1 k23 x5.toNatClampNeg)], (gSh, s22, u)) _ rfl (by simp only [gStep, gAldI, gAldB, gAldL, gAstI, gAstB, gAstL, gAln, hk23]; exact (if_pos hc)) ?_
        refine gRunN_ok hG.1 1 _ (159, [some (.ref 40), some (.int a0), some (.int a1), some (.int v1), some (.int x5), some (.int x6), some (.int v13), some (.int v21), some (.int (s22.1 k23 x5.toNatClampNeg))], [], (gSh, s22, u)) rfl ?_
        obtain ⟨x24, ex24, hP⟩ := g_let hP
        rw [← ex24]
        refine gRunN_ok hG.1 3 _ (164, [some (.ref 40), some (.int a0), some (.int a1), some (.int v1), some (.int x5), some (.int x6), some (.int v13), some (.int v21), some (.int x24)], [.int a0, .ref 47], (gSh, s22, u)) rfl ?_
        obtain ⟨hc, hP⟩ := g_if hP
        refine hG.1 _ (165, [some (.ref 40), some (.int a0), some (.int a1), some (.int v1), some (.int x5), some (.int x6), some (.int v13), some (.int v21), some (.int x24)], [.ref (48 + a0.toNatClampNeg)], (gSh, s22, u)) _ rfl (gAa_47 hc) ?_
        obtain ⟨k25, ek25, hP⟩ := g_let hP
        rw [← ek25]
        have hk25 : gSh[k25]? = some (.inl (.int, none)) := by rw [ek25]; exact gSh_47 hc
        refine gRunN_ok hG.1 2 _ (168, [some (.ref 40), some (.int a0), some (.int a1), some (.int v1), some (.int x5), some (.int x6), some (.int v13), some (.int v21), some (.int x24)], [.int v13, .int 0, .ref k25], (gSh, s22, u)) rfl ?_
        obtain ⟨hc, hP⟩ := g_if hP
        refine hG.1 _ (169, [some (.ref 40), some (.int a0), some (.int a1), some (.int v1), some (.int x5), some (.int x6), some (.int v13), some (.int v21), some (.int x24)], [], (gSh, (gPut s22 k25 (0 : Int32).toNatClampNeg v13), u)) _ rfl (by simp only [gStep, gAldI, gAldB, gAldL, gAstI, gAstB, gAstL, gAln, hk25]; exact (if_pos hc)) ?_
        obtain ⟨s26, es26, hP⟩ := g_let hP
        rw [← es26]
        refine gRunN_ok hG.1 3 _ (174, [some (.ref 40), some (.int a0), some (.int a1), some (.int v1), some (.int x5), some (.int x6), some (.int v13), some (.int v21), some (.int x24)], [.int a0, .ref 47], (gSh, s26, u)) rfl ?_
        obtain ⟨hc, hP⟩ := g_if hP
        refine hG.1 _ (175, [some (.ref 40), some (.int a0), some (.int a1), some (.int v1), some (.int x5), some (.int x6), some (.int v13), some (.int v21), some (.int x24)], [.ref (48 + a0.toNatClampNeg)], (gSh, s26, u)) _ rfl (gAa_47 hc) ?_
        obtain ⟨k27, ek27, hP⟩ := g_let hP
        rw [← ek27]
        have hk27 : gSh[k27]? = some (.inl (.int, none)) := by rw [ek27]; exact gSh_47 hc
        refine gRunN_ok hG.1 2 _ (178, [some (.ref 40), some (.int a0), some (.int a1), some (.int v1), some (.int x5), some (.int x6), some (.int v13), some (.int v21), some (.int x24)], [.int v21, .int 1, .ref k27], (gSh, s26, u)) rfl ?_
        obtain ⟨hc, hP⟩ := g_if hP
        refine hG.1 _ (179, [some (.ref 40), some (.int a0), some (.int a1), some (.int v1), some (.int x5), some (.int x6), some (.int v13), some (.int v21), some (.int x24)], [], (gSh, (gPut s26 k27 (1 : Int32).toNatClampNeg v21), u)) _ rfl (by simp only [gStep, gAldI, gAldB, gAldL, gAstI, gAstB, gAstL, gAln, hk27]; exact (if_pos hc)) ?_
        obtain ⟨s28, es28, hP⟩ := g_let hP
        rw [← es28]
        refine gRunN_ok hG.1 3 _ (184, [some (.ref 40), some (.int a0), some (.int a1), some (.int v1), some (.int x5), some (.int x6), some (.int v13), some (.int v21), some (.int x24)], [.int a0, .ref 47], (gSh, s28, u)) rfl ?_
        obtain ⟨hc, hP⟩ := g_if hP
        refine hG.1 _ (185, [some (.ref 40), some (.int a0), some (.int a1), some (.int v1), some (.int x5), some (.int x6), some (.int v13), some (.int v21), some (.int x24)], [.ref (48 + a0.toNatClampNeg)], (gSh, s28, u)) _ rfl (gAa_47 hc) ?_
        obtain ⟨k29, ek29, hP⟩ := g_let hP
        rw [← ek29]
        have hk29 : gSh[k29]? = some (.inl (.int, none)) := by rw [ek29]; exact gSh_47 hc
        refine gRunN_ok hG.1 2 _ (188, [some (.ref 40), some (.int a0), some (.int a1), some (.int v1), some (.int x5), some (.int x6), some (.int v13), some (.int v21), some (.int x24)], [.int x24, .int 2, .ref k29], (gSh, s28, u)) rfl ?_
        obtain ⟨hc, hP⟩ := g_if hP
        refine hG.1 _ (189, [some (.ref 40), some (.int a0), some (.int a1), some (.int v1), some (.int x5), some (.int x6), some (.int v13), some (.int v21), some (.int x24)], [], (gSh, (gPut s28 k29 (2 : Int32).toNatClampNeg x24), u)) _ rfl (by simp only [gStep, gAldI, gAldB, gAldL, gAstI, gAstB, gAstL, gAln, hk29]; exact (if_pos hc)) ?_
        obtain ⟨s30, es30, hP⟩ := g_let hP
        rw [← es30]
        refine gRunN_ok hG.1 5 _ (198, [some (.ref 40), some (.int a0), some (.int a1), some (.int v1), some (.int x5), some (.int x6), some (.int v13), some (.int v21), some (.int x24)], [.int a0, .ref 47, .ref 30], (gSh, s30, u)) rfl ?_
        obtain ⟨hc, hP⟩ := g_if hP
        refine hG.1 _ (199, [some (.ref 40), some (.int a0), some (.int a1), some (.int v1), some (.int x5), some (.int x6), some (.int v13), some (.int v21), some (.int x24)], [.ref (48 + a0.toNatClampNeg), .ref 30], (gSh, s30, u)) _ rfl (gAa_47 hc) ?_
        obtain ⟨k31, ek31, hP⟩ := g_let hP
        rw [← ek31]
        have hk31 : gSh[k31]? = some (.inl (.int, none)) := by rw [ek31]; exact gSh_47 hc
        refine gRunN_ok hG.1 2 _ (202, [some (.ref 40), some (.int a0), some (.int a1), some (.int v1), some (.int x5), some (.int x6), some (.int v13), some (.int v21), some (.int x24)], [.int 51914, .int 3, .ref k31, .ref 30], (gSh, s30, u)) rfl ?_
        obtain ⟨v32, s33, hq, hP⟩ := g_b2 hP
        refine hG.2.2.2.1 _ _ _ [.ref 30, .ref k31, .int 3, .int 51914] [] _ (gSh, s33, u) (some (.int v32)) _ _ _ _ _ _ rfl rfl rfl rfl rfl rfl (c_Circuit_addLut E (d + (n + 1) + 1) u k31 3 51914 _ hk31 hq) (Nat.le_refl _) (Nat.le_refl _) (Nat.le_refl _) (Nat.le_refl _) ?_
        show G (205, [some (.ref 40), some (.int a0), some (.int a1), some (.int v1), some (.int x5), some (.int x6), some (.int v13), some (.int v21), some (.int x24)], [.int v32], (gSh, s33, u))
        cases hP
        exact hG.2.1 _ _ rfl rfl
      · refine hG.1 _ (19, [some (.ref 40), some (.int a0), some (.int a1), some (.int v1), none, none, none, none, none], [], (gSh, s2, u)) _ rfl (if_neg hc) ?_
        refine hG.2.2.2.2.1 _ _ [some (.ref 40), some (.int a0), none, some (.int v1), none, none, none, none, none] _ _ ⟨rfl, ⟨rfl, ⟨rfl, trivial⟩⟩⟩ ?_
        exact j_Mapper_map_j19 E (d + (n + 1)) u hG a0 v1 s2 hP
def p_Mapper_mapAll_30 (E : gEv) (l3 : Int32) (l4 : Int32) (l5 : Int32) (l6 : Int32) (σ : gS) : Option ((Int32 × gS) ⊕ (gS)) :=
  if l5 ≤ l6 then (some (.inr σ)) else (if gIn (0 : Int32) 5 then gLet (48 + (0 : Int32).toNatClampNeg) fun k3 => if gIn ((l4 * (8 : Int32)) + l6) (σ.2.1 16) then if gIn (σ.1 16 ((l4 * (8 : Int32)) + l6).toNatClampNeg) (σ.2.1 25) then if gIn l6 (σ.2.1 k3) then gLet (gPut σ k3 l6.toNatClampNeg (σ.1 25 (σ.1 16 ((l4 * (8 : Int32)) + l6).toNatClampNeg).toNatClampNeg)) fun s4 => gLet (l6 + 1) fun x5 => some (.inl (x5, s4)) else none else none else none else none)
set_option maxRecDepth 20000 in
theorem b_Mapper_mapAll_30 (E : gEv) (d u : Nat) {G : gFr → Prop} {vo : Option Value} {sr : gS} (hG : gClo E gDf gP7 gY75 none (gC E gDf gMs (d + 9)) (vo, (gSh, sr, u)) G) (l3 : Int32) (l4 : Int32) (l5 : Int32) (l6 : Int32) (σ : gS) {r : (Int32 × gS) ⊕ (gS)} (hP : p_Mapper_mapAll_30 E l3 l4 l5 l6 σ = some r) (K1 : ∀ (m6 : Int32) (σ1 : gS), r = .inl (m6, σ1) → G (30, [some (.ref 40), some (.ref 13), some (.ref 22), some (.int l3), some (.int l4), some (.int l5), some (.int m6)], [], (gSh, σ1, u))) (K2 : ∀ (σ1 : gS), r = .inr σ1 → G (70, [some (.ref 40), some (.ref 13), some (.ref 22), some (.int l3), some (.int l4), some (.int l5), none], [], (gSh, σ1, u))) : G (30, [some (.ref 40), some (.ref 13), some (.ref 22), some (.int l3), some (.int l4), some (.int l5), some (.int l6)], [], (gSh, σ, u)) := by
  unfold p_Mapper_mapAll_30 at hP
  refine gRunN_ok hG.1 2 _ (34, [some (.ref 40), some (.ref 13), some (.ref 22), some (.int l3), some (.int l4), some (.int l5), some (.int l6)], [.int l5, .int l6], (gSh, σ, u)) rfl ?_
  rcases g_ite hP with ⟨hc, hP⟩ | ⟨hc, hP⟩
  · refine hG.1 _ (70, [some (.ref 40), some (.ref 13), some (.ref 22), some (.int l3), some (.int l4), some (.int l5), some (.int l6)], [], (gSh, σ, u)) _ rfl (if_pos hc) ?_
    refine hG.2.2.2.2.1 _ _ [some (.ref 40), some (.ref 13), some (.ref 22), some (.int l3), some (.int l4), some (.int l5), none] _ _ ⟨rfl, ⟨rfl, ⟨rfl, ⟨rfl, ⟨rfl, ⟨rfl, trivial⟩⟩⟩⟩⟩⟩ ?_
    cases hP
    exact K2 _ rfl
  · refine hG.1 _ (37, [some (.ref 40), some (.ref 13), some (.ref 22), some (.int l3), some (.int l4), some (.int l5), some (.int l6)], [], (gSh, σ, u)) _ rfl (if_neg hc) ?_
    refine gRunN_ok hG.1 3 _ (42, [some (.ref 40), some (.ref 13), some (.ref 22), some (.int l3), some (.int l4), some (.int l5), some (.int l6)], [.int 0, .ref 47], (gSh, σ, u)) rfl ?_
    obtain ⟨hc, hP⟩ := g_if hP
    refine hG.1 _ (43, [some (.ref 40), some (.ref 13), some (.ref 22), some (.int l3), some (.int l4), some (.int l5), some (.int l6)], [.ref (48 + (0 : Int32).toNatClampNeg)], (gSh, σ, u)) _ rfl (gAa_47 hc) ?_
    obtain ⟨k3, ek3, hP⟩ := g_let hP
    rw [← ek3]
    have hk3 : gSh[k3]? = some (.inl (.int, none)) := by rw [ek3]; exact gSh_47 hc
    refine gRunN_ok hG.1 10 _ (61, [some (.ref 40), some (.ref 13), some (.ref 22), some (.int l3), some (.int l4), some (.int l5), some (.int l6)], [.int ((l4 * (8 : Int32)) + l6), .ref 16, .ref 25, .int l6, .ref k3], (gSh, σ, u)) rfl ?_
    obtain ⟨hc, hP⟩ := g_if hP
    refine hG.1 _ (62, [some (.ref 40), some (.ref 13), some (.ref 22), some (.int l3), some (.int l4), some (.int l5), some (.int l6)], [.int (σ.1 16 ((l4 * (8 : Int32)) + l6).toNatClampNeg), .ref 25, .int l6, .ref k3], (gSh, σ, u)) _ rfl (if_pos hc) ?_
    obtain ⟨hc, hP⟩ := g_if hP
    refine hG.1 _ (63, [some (.ref 40), some (.ref 13), some (.ref 22), some (.int l3), some (.int l4), some (.int l5), some (.int l6)], [.int (σ.1 25 (σ.1 16 ((l4 * (8 : Int32)) + l6).toNatClampNeg).toNatClampNeg), .int l6, .ref k3], (gSh, σ, u)) _ rfl (if_pos hc) ?_
    obtain ⟨hc, hP⟩ := g_if hP
    refine hG.1 _ (64, [some (.ref 40), some (.ref 13), some (.ref 22), some (.int l3), some (.int l4), some (.int l5), some (.int l6)], [], (gSh, (gPut σ k3 l6.toNatClampNeg (σ.1 25 (σ.1 16 ((l4 * (8 : Int32)) + l6).toNatClampNeg).toNatClampNeg)), u)) _ rfl (by simp only [gStep, gAldI, gAldB, gAldL, gAstI, gAstB, gAstL, gAln, hk3]; exact (if_pos hc)) ?_
    obtain ⟨s4, es4, hP⟩ := g_let hP
    rw [← es4]
    refine gRunN_ok hG.1 1 _ (67, [some (.ref 40), some (.ref 13), some (.ref 22), some (.int l3), some (.int l4), some (.int l5), some (.int (l6 + 1))], [], (gSh, s4, u)) rfl ?_
    obtain ⟨x5, ex5, hP⟩ := g_let hP
    rw [← ex5]
    refine gRunN_ok hG.1 1 _ (30, [some (.ref 40), some (.ref 13), some (.ref 22), some (.int l3), some (.int l4), some (.int l5), some (.int x5)], [], (gSh, s4, u)) rfl ?_
    cases hP
    exact K1 _ _ rfl
theorem l_Mapper_mapAll_30 (E : gEv) (d u : Nat) {G : gFr → Prop} {vo : Option Value} {sr : gS} (hG : gClo E gDf gP7 gY75 none (gC E gDf gMs (d + 9)) (vo, (gSh, sr, u)) G) (l3 : Int32) (l4 : Int32) (l5 : Int32) : ∀ (n : Nat) (l6 : Int32) (σ : gS) (e : (gS)), gIter (fun z => p_Mapper_mapAll_30 E l3 l4 l5 z.1 z.2) n (l6, σ) = some e → (∀ (σ1 : gS), e = σ1 → G (70, [some (.ref 40), some (.ref 13), some (.ref 22), some (.int l3), some (.int l4), some (.int l5), none], [], (gSh, σ1, u))) → G (30, [some (.ref 40), some (.ref 13), some (.ref 22), some (.int l3), some (.int l4), some (.int l5), some (.int l6)], [], (gSh, σ, u)) := by
  intro n
  induction n with
  | zero => intro l6 σ e h; cases h
  | succ n ih =>
    intro l6 σ e h K2
    rcases g_iter h with ⟨z, h1, h2⟩ | h1
    · exact b_Mapper_mapAll_30 E d u hG l3 l4 l5 l6 σ h1 (fun n0 n1 hz => by cases hz; exact ih _ _ e h2 K2) (fun _ hz => by cases hz)
    · exact b_Mapper_mapAll_30 E d u hG l3 l4 l5 l6 σ h1 (fun _ _ hz => by cases hz) (fun σ1 hz => K2 σ1 (by cases hz; rfl))
def p_Mapper_mapAll_73 (E : gEv) (l3 : Int32) (l4 : Int32) (l5 : Int32) (l6 : Int32) (σ : gS) : Option ((Int32 × gS) ⊕ (gS)) :=
  if ((1 : Int32) <<< (l5 &&& 31)) ≤ l6 then (some (.inr σ)) else (if gIn (0 : Int32) 5 then gLet (42 + (0 : Int32).toNatClampNeg) fun k8 => gB1 (p_Gates_valueAt E l4 l6 σ) fun v9 => if gIn l6 (σ.2.1 k8) then gLet (gPut σ k8 l6.toNatClampNeg (vp_nar .byte (v9.toInt8.toInt32))) fun s11 => gLet (l6 + 1) fun x12 => some (.inl (x12, s11)) else none else none)
set_option maxRecDepth 20000 in
theorem b_Mapper_mapAll_73 (E : gEv) (d u : Nat) {G : gFr → Prop} {vo : Option Value} {sr : gS} (hG : gClo E gDf gP7 gY75 none (gC E gDf gMs (d + 9)) (vo, (gSh, sr, u)) G) (l3 : Int32) (l4 : Int32) (l5 : Int32) (l6 : Int32) (σ : gS) {r : (Int32 × gS) ⊕ (gS)} (hP : p_Mapper_mapAll_73 E l3 l4 l5 l6 σ = some r) (K1 : ∀ (m6 : Int32) (σ1 : gS), r = .inl (m6, σ1) → G (73, [some (.ref 40), some (.ref 13), some (.ref 22), some (.int l3), some (.int l4), some (.int l5), some (.int m6)], [], (gSh, σ1, u))) (K2 : ∀ (σ1 : gS), r = .inr σ1 → G (106, [some (.ref 40), some (.ref 13), some (.ref 22), some (.int l3), some (.int l4), some (.int l5), none], [], (gSh, σ1, u))) : G (73, [some (.ref 40), some (.ref 13), some (.ref 22), some (.int l3), some (.int l4), some (.int l5), some (.int l6)], [], (gSh, σ, u)) := by
  unfold p_Mapper_mapAll_73 at hP
  refine gRunN_ok hG.1 4 _ (79, [some (.ref 40), some (.ref 13), some (.ref 22), some (.int l3), some (.int l4), some (.int l5), some (.int l6)], [.int ((1 : Int32) <<< (l5 &&& 31)), .int l6], (gSh, σ, u)) rfl ?_
  rcases g_ite hP with ⟨hc, hP⟩ | ⟨hc, hP⟩
  · refine hG.1 _ (106, [some (.ref 40), some (.ref 13), some (.ref 22), some (.int l3), some (.int l4), some (.int l5), some (.int l6)], [], (gSh, σ, u)) _ rfl (if_pos hc) ?_
    refine hG.2.2.2.2.1 _ _ [some (.ref 40), some (.ref 13), some (.ref 22), some (.int l3), some (.int l4), some (.int l5), none] _ _ ⟨rfl, ⟨rfl, ⟨rfl, ⟨rfl, ⟨rfl, ⟨rfl, trivial⟩⟩⟩⟩⟩⟩ ?_
    cases hP
    exact K2 _ rfl
  · refine hG.1 _ (82, [some (.ref 40), some (.ref 13), some (.ref 22), some (.int l3), some (.int l4), some (.int l5), some (.int l6)], [], (gSh, σ, u)) _ rfl (if_neg hc) ?_
    refine gRunN_ok hG.1 3 _ (87, [some (.ref 40), some (.ref 13), some (.ref 22), some (.int l3), some (.int l4), some (.int l5), some (.int l6)], [.int 0, .ref 41], (gSh, σ, u)) rfl ?_
    obtain ⟨hc, hP⟩ := g_if hP
    refine hG.1 _ (88, [some (.ref 40), some (.ref 13), some (.ref 22), some (.int l3), some (.int l4), some (.int l5), some (.int l6)], [.ref (42 + (0 : Int32).toNatClampNeg)], (gSh, σ, u)) _ rfl (gAa_41 hc) ?_
    obtain ⟨k8, ek8, hP⟩ := g_let hP
    rw [← ek8]
    have hk8 : gSh[k8]? = some (.inl (.byte, none)) := by rw [ek8]; exact gSh_41 hc
    refine gRunN_ok hG.1 4 _ (95, [some (.ref 40), some (.ref 13), some (.ref 22), some (.int l3), some (.int l4), some (.int l5), some (.int l6)], [.int l6, .int l4, .ref 13, .int l6, .ref k8], (gSh, σ, u)) rfl ?_
    obtain ⟨v9, hq, hP⟩ := g_b1 hP
    refine hG.2.2.2.1 _ _ _ [.ref 13, .int l4, .int l6] [.int l6, .ref k8] _ (gSh, σ, u) (some (.int v9)) _ _ _ _ _ _ rfl rfl rfl rfl rfl rfl (c_Gates_valueAt E (d + 8) u l4 l6 _  hq) (Nat.le_refl _) (Nat.le_refl _) (Nat.le_refl _) (Nat.le_refl _) ?_
    show G (98, [some (.ref 40), some (.ref 13), some (.ref 22), some (.int l3), some (.int l4), some (.int l5), some (.int l6)], [.int v9, .int l6, .ref k8], (gSh, σ, u))
    refine gRunN_ok hG.1 1 _ (99, [some (.ref 40), some (.ref 13), some (.ref 22), some (.int l3), some (.int l4), some (.int l5), some (.int l6)], [.int (v9.toInt8.toInt32), .int l6, .ref k8], (gSh, σ, u)) rfl ?_
    obtain ⟨hc, hP⟩ := g_if hP
    refine hG.1 _ (100, [some (.ref 40), some (.ref 13), some (.ref 22), some (.int l3), some (.int l4), some (.int l5), some (.int l6)], [], (gSh, (gPut σ k8 l6.toNatClampNeg (vp_nar .byte (v9.toInt8.toInt32))), u)) _ rfl (by simp only [gStep, gAldI, gAldB, gAldL, gAstI, gAstB, gAstL, gAln, hk8]; exact (if_pos hc)) ?_
    obtain ⟨s11, es11, hP⟩ := g_let hP
    rw [← es11]
    refine gRunN_ok hG.1 1 _ (103, [some (.ref 40), some (.ref 13), some (.ref 22), some (.int l3), some (.int l4), some (.int l5), some (.int (l6 + 1))], [], (gSh, s11, u)) rfl ?_
    obtain ⟨x12, ex12, hP⟩ := g_let hP
    rw [← ex12]
    refine gRunN_ok hG.1 1 _ (73, [some (.ref 40), some (.ref 13), some (.ref 22), some (.int l3), some (.int l4), some (.int l5), some (.int x12)], [], (gSh, s11, u)) rfl ?_
    cases hP
    exact K1 _ _ rfl
theorem l_Mapper_mapAll_73 (E : gEv) (d u : Nat) {G : gFr → Prop} {vo : Option Value} {sr : gS} (hG : gClo E gDf gP7 gY75 none (gC E gDf gMs (d + 9)) (vo, (gSh, sr, u)) G) (l3 : Int32) (l4 : Int32) (l5 : Int32) : ∀ (n : Nat) (l6 : Int32) (σ : gS) (e : (gS)), gIter (fun z => p_Mapper_mapAll_73 E l3 l4 l5 z.1 z.2) n (l6, σ) = some e → (∀ (σ1 : gS), e = σ1 → G (106, [some (.ref 40), some (.ref 13), some (.ref 22), some (.int l3), some (.int l4), some (.int l5), none], [], (gSh, σ1, u))) → G (73, [some (.ref 40), some (.ref 13), some (.ref 22), some (.int l3), some (.int l4), some (.int l5), some (.int l6)], [], (gSh, σ, u)) := by
  intro n
  induction n with
  | zero => intro l6 σ e h; cases h
  | succ n ih =>
    intro l6 σ e h K2
    rcases g_iter h with ⟨z, h1, h2⟩ | h1
    · exact b_Mapper_mapAll_73 E d u hG l3 l4 l5 l6 σ h1 (fun n0 n1 hz => by cases hz; exact ih _ _ e h2 K2) (fun _ hz => by cases hz)
    · exact b_Mapper_mapAll_73 E d u hG l3 l4 l5 l6 σ h1 (fun _ _ hz => by cases hz) (fun σ1 hz => K2 σ1 (by cases hz; rfl))
def p_Mapper_mapAll_2 (E : gEv) (l3 : Int32) (σ : gS) : Option ((Int32 × gS) ⊕ (gS)) :=
  if (σ.1 13 8) ≤ l3 then (some (.inr σ)) else (if gIn l3 (σ.2.1 21) then gLet (σ.1 21 l3.toNatClampNeg) fun x1 => if gIn x1 (σ.2.1 15) then gLet (σ.1 15 x1.toNatClampNeg) fun x2 => gB1 (gIter (fun z => p_Mapper_mapAll_30 E l3 x1 x2 z.1 z.2) gN (0, σ)) fun e6 => (fun s7 => gB1 (gIter (fun z => p_Mapper_mapAll_73 E l3 x1 x2 z.1 z.2) gN (0, s7)) fun e13 => (fun s14 => if gIn x1 (s14.2.1 17) then gB2 (p_Mapper_map E 6 0 x2 s14) fun v15 s16 => if gIn (s14.1 17 x1.toNatClampNeg) (s16.2.1 25) then gLet (gPut s16 25 (s14.1 17 x1.toNatClampNeg).toNatClampNeg v15) fun s17 => gLet (l3 + 1) fun x18 => some (.inl (x18, s17)) else none else none) e13) e6 else none else none)
set_option maxRecDepth 20000 in
theorem b_Mapper_mapAll_2 (E : gEv) (d u : Nat) {G : gFr → Prop} {vo : Option Value} {sr : gS} (hG : gClo E gDf gP7 gY75 none (gC E gDf gMs (d + 9)) (vo, (gSh, sr, u)) G) (l3 : Int32) (σ : gS) {r : (Int32 × gS) ⊕ (gS)} (hP : p_Mapper_mapAll_2 E l3 σ = some r) (K1 : ∀ (m3 : Int32) (σ1 : gS), r = .inl (m3, σ1) → G (2, [some (.ref 40), some (.ref 13), some (.ref 22), some (.int m3), none, none, none], [], (gSh, σ1, u))) (K2 : ∀ (σ1 : gS), r = .inr σ1 → G (131, [none, none, none, none, none, none, none], [], (gSh, σ1, u))) : G (2, [some (.ref 40), some (.ref 13), some (.ref 22), some (.int l3), none, none, none], [], (gSh, σ, u)) := by
  unfold p_Mapper_mapAll_2 at hP
  refine gRunN_ok hG.1 3 _ (7, [some (.ref 40), some (.ref 13), some (.ref 22), some (.int l3), none, none, none], [.int (σ.1 13 8), .int l3], (gSh, σ, u)) rfl ?_
  rcases g_ite hP with ⟨hc, hP⟩ | ⟨hc, hP⟩
  · refine hG.1 _ (131, [some (.ref 40), some (.ref 13), some (.ref 22), some (.int l3), none, none, none], [], (gSh, σ, u)) _ rfl (if_pos hc) ?_
    refine hG.2.2.2.2.1 _ _ [none, none, none, none, none, none, none] _ _ trivial ?_
    cases hP
    exact K2 _ rfl
  · refine hG.1 _ (10, [some (.ref 40), some (.ref 13), some (.ref 22), some (.int l3), none, none, none], [], (gSh, σ, u)) _ rfl (if_neg hc) ?_
    refine gRunN_ok hG.1 3 _ (15, [some (.ref 40), some (.ref 13), some (.ref 22), some (.int l3), none, none, none], [.int l3, .ref 21], (gSh, σ, u)) rfl ?_
    obtain ⟨hc, hP⟩ := g_if hP
    refine hG.1 _ (16, [some (.ref 40), some (.ref 13), some (.ref 22), some (.int l3), none, none, none], [.int (σ.1 21 l3.toNatClampNeg)], (gSh, σ, u)) _ rfl (if_pos hc) ?_
    refine gRunN_ok hG.1 1 _ (18, [some (.ref 40), some (.ref 13), some (.ref 22), some (.int l3), some (.int (σ.1 21 l3.toNatClampNeg)), none, none], [], (gSh, σ, u)) rfl ?_
    obtain ⟨x1, ex1, hP⟩ := g_let hP
    rw [← ex1]
    refine gRunN_ok hG.1 3 _ (24, [some (.ref 40), some (.ref 13), some (.ref 22), some (.int l3), some (.int x1), none, none], [.int x1, .ref 15], (gSh, σ, u)) rfl ?_
    obtain ⟨hc, hP⟩ := g_if hP
    refine hG.1 _ (25, [some (.ref 40), some (.ref 13), some (.ref 22), some (.int l3), some (.int x1), none, none], [.int (σ.1 15 x1.toNatClampNeg)], (gSh, σ, u)) _ rfl (if_pos hc) ?_
    refine gRunN_ok hG.1 1 _ (27, [some (.ref 40), some (.ref 13), some (.ref 22), some (.int l3), some (.int x1), some (.int (σ.1 15 x1.toNatClampNeg)), none], [], (gSh, σ, u)) rfl ?_
    obtain ⟨x2, ex2, hP⟩ := g_let hP
    rw [← ex2]
    refine gRunN_ok hG.1 2 _ (30, [some (.ref 40), some (.ref 13), some (.ref 22), some (.int l3), some (.int x1), some (.int x2), some (.int 0)], [], (gSh, σ, u)) rfl ?_
    obtain ⟨e6, hq, hP⟩ := g_b1 hP
    refine l_Mapper_mapAll_30 E d u hG l3 x1 x2 gN 0 σ _ hq (fun s7 he => ?_)
    · replace he := he.symm
      subst he
      try dsimp only [gSum] at hP
      refine gRunN_ok hG.1 2 _ (73, [some (.ref 40), some (.ref 13), some (.ref 22), some (.int l3), some (.int x1), some (.int x2), some (.int 0)], [], (gSh, s7, u)) rfl ?_
      obtain ⟨e13, hq, hP⟩ := g_b1 hP
      refine l_Mapper_mapAll_73 E d u hG l3 x1 x2 gN 0 s7 _ hq (fun s14 he => ?_)
      · replace he := he.symm
        subst he
        try dsimp only [gSum] at hP
        refine gRunN_ok hG.1 5 _ (116, [some (.ref 40), some (.ref 13), some (.ref 22), some (.int l3), some (.int x1), some (.int x2), none], [.int x1, .ref 17, .ref 25], (gSh, s14, u)) rfl ?_
        obtain ⟨hc, hP⟩ := g_if hP
        refine hG.1 _ (117, [some (.ref 40), some (.ref 13), some (.ref 22), some (.int l3), some (.int x1), some (.int x2), none], [.int (s14.1 17 x1.toNatClampNeg), .ref 25], (gSh, s14, u)) _ rfl (if_pos hc) ?_
        refine gRunN_ok hG.1 3 _ (121, [some (.ref 40), some (.ref 13), some (.ref 22), some (.int l3), some (.int x1), some (.int x2), none], [.int x2, .int 0, .ref 40, .int (s14.1 17 x1.toNatClampNeg), .ref 25], (gSh, s14, u)) rfl ?_
        obtain ⟨v15, s16, hq, hP⟩ := g_b2 hP
        refine hG.2.2.2.1 _ _ _ [.ref 40, .int 0, .int x2] [.int (s14.1 17 x1.toNatClampNeg), .ref 25] _ (gSh, s16, u) (some (.int v15)) _ _ _ _ _ _ rfl rfl rfl rfl rfl rfl (c_Mapper_map E 6 (d + 0) u 0 x2 _ hq) (Nat.le_refl _) (Nat.le_refl _) (Nat.le_refl _) (Nat.le_refl _) ?_
        show G (124, [some (.ref 40), some (.ref 13), some (.ref 22), some (.int l3), some (.int x1), some (.int x2), none], [.int v15, .int (s14.1 17 x1.toNatClampNeg), .ref 25], (gSh, s16, u))
        obtain ⟨hc, hP⟩ := g_if hP
        refine hG.1 _ (125, [some (.ref 40), some (.ref 13), some (.ref 22), some (.int l3), some (.int x1), some (.int x2), none], [], (gSh, (gPut s16 25 (s14.1 17 x1.toNatClampNeg).toNatClampNeg v15), u)) _ rfl (if_pos hc) ?_
        obtain ⟨s17, es17, hP⟩ := g_let hP
        rw [← es17]
        refine gRunN_ok hG.1 1 _ (128, [some (.ref 40), some (.ref 13), some (.ref 22), some (.int (l3 + 1)), some (.int x1), some (.int x2), none], [], (gSh, s17, u)) rfl ?_
        obtain ⟨x18, ex18, hP⟩ := g_let hP
        rw [← ex18]
        refine gRunN_ok hG.1 1 _ (2, [some (.ref 40), some (.ref 13), some (.ref 22), some (.int x18), some (.int x1), some (.int x2), none], [], (gSh, s17, u)) rfl ?_
        refine hG.2.2.2.2.1 _ _ [some (.ref 40), some (.ref 13), some (.ref 22), some (.int x18), none, none, none] _ _ ⟨rfl, ⟨rfl, ⟨rfl, ⟨rfl, trivial⟩⟩⟩⟩ ?_
        cases hP
        exact K1 _ _ rfl
theorem l_Mapper_mapAll_2 (E : gEv) (d u : Nat) {G : gFr → Prop} {vo : Option Value} {sr : gS} (hG : gClo E gDf gP7 gY75 none (gC E gDf gMs (d + 9)) (vo, (gSh, sr, u)) G) : ∀ (n : Nat) (l3 : Int32) (σ : gS) (e : (gS)), gIter (fun z => p_Mapper_mapAll_2 E z.1 z.2) n (l3, σ) = some e → (∀ (σ1 : gS), e = σ1 → G (131, [none, none, none, none, none, none, none], [], (gSh, σ1, u))) → G (2, [some (.ref 40), some (.ref 13), some (.ref 22), some (.int l3), none, none, none], [], (gSh, σ, u)) := by
  intro n
  induction n with
  | zero => intro l3 σ e h; cases h
  | succ n ih =>
    intro l3 σ e h K2
    rcases g_iter h with ⟨z, h1, h2⟩ | h1
    · exact b_Mapper_mapAll_2 E d u hG l3 σ h1 (fun n0 n1 hz => by cases hz; exact ih _ _ e h2 K2) (fun _ hz => by cases hz)
    · exact b_Mapper_mapAll_2 E d u hG l3 σ h1 (fun _ _ hz => by cases hz) (fun σ1 hz => K2 σ1 (by cases hz; rfl))
def p_Mapper_mapAll (E : gEv) (σ : gS) : Option (gS) :=
  gB1 (gIter (fun z => p_Mapper_mapAll_2 E z.1 z.2) gN (0, σ)) fun e19 => (fun s20 => some s20) e19
set_option maxRecDepth 20000 in
theorem c_Mapper_mapAll (E : gEv) (d u : Nat) (σ : gS) {sr : gS}  (hq : p_Mapper_mapAll E σ = some sr) : gC E gDf gMs (d + 10) 75 [.ref 40, .ref 13, .ref 22] (gSh, σ, u) (none, (gSh, sr, u)) := ⟨gM75, rfl, Nat.le_of_ble_eq_true rfl, fun G hG => by
  have hP := hq
  unfold p_Mapper_mapAll at hP
  replace hG : gClo E gDf gP7 gY75 none (gC E gDf gMs (d + 9)) (none, (gSh, sr, u)) G := hG
  show G (0, [some (.ref 40), some (.ref 13), some (.ref 22), none, none, none, none], [], (gSh, σ, u))
  refine gRunN_ok hG.1 2 _ (2, [some (.ref 40), some (.ref 13), some (.ref 22), some (.int 0), none, none, none], [], (gSh, σ, u)) rfl ?_
  obtain ⟨e19, hq, hP⟩ := g_b1 hP
  refine l_Mapper_mapAll_2 E d u hG gN 0 σ _ hq (fun s20 he => ?_)
  · replace he := he.symm
    subst he
    try dsimp only [gSum] at hP
    cases hP
    exact hG.2.1 _ _ rfl rfl⟩
def p_Face_build (E : gEv) (σ : gS) : Option (Int32 × gS) :=
  gB1 (p_Mapper_mapAll E σ) fun s2 => if (s2.1 30 10) ≤ (s2.1 1 6) then (gB1 (p_Circuit_take E s2) fun s4 => gB2 (p_Packing_pack E s4) fun v5 s6 => if v5 = 0 then (some (0, s6)) else (gB1 (p_Placing_begin E s6) fun s8 => some (1, s8))) else (some (0, s2))
set_option maxRecDepth 20000 in
theorem c_Face_build (E : gEv) (d u : Nat) (σ : gS) {v : Int32} {sr : gS}  (hq : p_Face_build E σ = some (v, sr)) : gC E gDf gMs (d + 11) 74 [.ref 0] (gSh, σ, u) (some (.int v), (gSh, sr, u)) := ⟨gM74, rfl, Nat.le_of_ble_eq_true rfl, fun G hG => by
  have hP := hq
  unfold p_Face_build at hP
  replace hG : gClo E gDf gP0 gY74 (some .boolean) (gC E gDf gMs (d + 10)) (some (.int v), (gSh, sr, u)) G := hG
  show G (0, [some (.ref 0)], [], (gSh, σ, u))
  refine gRunN_ok hG.1 6 _ (12, [some (.ref 0)], [.ref 22, .ref 13, .ref 40], (gSh, σ, u)) rfl ?_
  obtain ⟨s2, hq, hP⟩ := g_b1 hP
  refine hG.2.2.2.1 _ _ _ [.ref 40, .ref 13, .ref 22] [] _ (gSh, s2, u) none _ _ _ _ _ _ rfl rfl rfl rfl rfl rfl (c_Mapper_mapAll E (d + 0) u _  hq) (Nat.le_refl _) (Nat.le_refl _) (Nat.le_refl _) (Nat.le_refl _) ?_
  show G (15, [some (.ref 0)], [], (gSh, s2, u))
  refine gRunN_ok hG.1 6 _ (29, [some (.ref 0)], [.int (s2.1 1 6), .int (s2.1 30 10)], (gSh, s2, u)) rfl ?_
  rcases g_ite hP with ⟨hc, hP⟩ | ⟨hc, hP⟩
  · refine hG.1 _ (34, [some (.ref 0)], [], (gSh, s2, u)) _ rfl (if_pos hc) ?_
    refine gRunN_ok hG.1 4 _ (42, [some (.ref 0)], [.ref 22, .ref 30], (gSh, s2, u)) rfl ?_
    obtain ⟨s4, hq, hP⟩ := g_b1 hP
    refine hG.2.2.2.1 _ _ _ [.ref 30, .ref 22] [] _ (gSh, s4, u) none _ _ _ _ _ _ rfl rfl rfl rfl rfl rfl (c_Circuit_take E (d + 9) u _  hq) (Nat.le_refl _) (Nat.le_refl _) (Nat.le_refl _) (Nat.le_refl _) ?_
    show G (45, [some (.ref 0)], [], (gSh, s4, u))
    refine gRunN_ok hG.1 2 _ (49, [some (.ref 0)], [.ref 53], (gSh, s4, u)) rfl ?_
    obtain ⟨v5, s6, hq, hP⟩ := g_b2 hP
    refine hG.2.2.2.1 _ _ _ [.ref 53] [] _ (gSh, s6, u) (some (.int v5)) _ _ _ _ _ _ rfl rfl rfl rfl rfl rfl (c_Packing_pack E (d + 6) u _  hq) (Nat.le_refl _) (Nat.le_refl _) (Nat.le_refl _) (Nat.le_refl _) ?_
    show G (52, [some (.ref 0)], [.int v5], (gSh, s6, u))
    rcases g_ite hP with ⟨hc, hP⟩ | ⟨hc, hP⟩
    · refine hG.1 _ (55, [some (.ref 0)], [], (gSh, s6, u)) _ rfl (if_pos hc) ?_
      refine gRunN_ok hG.1 1 _ (56, [some (.ref 0)], [.int 0], (gSh, s6, u)) rfl ?_
      cases hP
      exact hG.2.1 _ _ rfl rfl
    · refine hG.1 _ (57, [some (.ref 0)], [], (gSh, s6, u)) _ rfl (if_neg hc) ?_
      refine gRunN_ok hG.1 2 _ (61, [some (.ref 0)], [.ref 67], (gSh, s6, u)) rfl ?_
      obtain ⟨s8, hq, hP⟩ := g_b1 hP
      refine hG.2.2.2.1 _ _ _ [.ref 67] [] _ (gSh, s8, u) none _ _ _ _ _ _ rfl rfl rfl rfl rfl rfl (c_Placing_begin E (d + 7) u _  hq) (Nat.le_refl _) (Nat.le_refl _) (Nat.le_refl _) (Nat.le_refl _) ?_
      show G (64, [some (.ref 0)], [], (gSh, s8, u))
      refine gRunN_ok hG.1 1 _ (65, [some (.ref 0)], [.int 1], (gSh, s8, u)) rfl ?_
      cases hP
      exact hG.2.1 _ _ rfl rfl
  · refine hG.1 _ (32, [some (.ref 0)], [], (gSh, s2, u)) _ rfl (if_neg hc) ?_
    refine gRunN_ok hG.1 1 _ (33, [some (.ref 0)], [.int 0], (gSh, s2, u)) rfl ?_
    cases hP
    exact hG.2.1 _ _ rfl rfl⟩
def p_Face_compile_j54 (E : gEv) (l1 : Int32) (y1 : Int32) (σ : gS) : Option (Int32 × gS) :=
  if y1 = 0 ∨ y1 = 1 then gLet (gPut σ 0 10 y1) fun s10 => if (s10.1 0 10) = 0 then (gB1 (p_Face_forget E s10) fun s12 => some (l1, s12)) else (some (l1, s10)) else none
set_option maxRecDepth 20000 in
theorem j_Face_compile_j54 (E : gEv) (d u : Nat) {G : gFr → Prop} {v : Int32} {sr : gS} (hG : gClo E gDf gP0 gY28 (some .int) (gC E gDf gMs (d + 11)) (some (.int v), (gSh, sr, u)) G) (l1 : Int32) (y1 : Int32) (σ : gS) (hP : p_Face_compile_j54 E l1 y1 σ = some (v, sr)) : G (54, [some (.ref 0), some (.int l1)], [.int y1, .ref 0], (gSh, σ, u)) := by
  unfold p_Face_compile_j54 at hP
  obtain ⟨hc, hP⟩ := g_if hP
  refine hG.1 _ (57, [some (.ref 0), some (.int l1)], [], (gSh, (gPut σ 0 10 y1), u)) _ rfl (if_pos hc) ?_
  obtain ⟨s10, es10, hP⟩ := g_let hP
  rw [← es10]
  refine gRunN_ok hG.1 2 _ (61, [some (.ref 0), some (.int l1)], [.int (s10.1 0 10)], (gSh, s10, u)) rfl ?_
  rcases g_ite hP with ⟨hc, hP⟩ | ⟨hc, hP⟩
  · refine hG.1 _ (64, [some (.ref 0), some (.int l1)], [], (gSh, s10, u)) _ rfl (if_pos hc) ?_
    refine gRunN_ok hG.1 1 _ (65, [some (.ref 0), some (.int l1)], [.ref 0], (gSh, s10, u)) rfl ?_
    obtain ⟨s12, hq, hP⟩ := g_b1 hP
    refine hG.2.2.2.1 _ _ _ [.ref 0] [] _ (gSh, s12, u) none _ _ _ _ _ _ rfl rfl rfl rfl rfl rfl (c_Face_forget E (d + 8) u _  hq) (Nat.le_refl _) (Nat.le_refl _) (Nat.le_refl _) (Nat.le_refl _) ?_
    show G (68, [some (.ref 0), some (.int l1)], [], (gSh, s12, u))
    refine gRunN_ok hG.1 1 _ (69, [some (.ref 0), some (.int l1)], [.int l1], (gSh, s12, u)) rfl ?_
    cases hP
    exact hG.2.1 _ _ rfl rfl
  · refine hG.1 _ (68, [some (.ref 0), some (.int l1)], [], (gSh, s10, u)) _ rfl (if_neg hc) ?_
    refine gRunN_ok hG.1 1 _ (69, [some (.ref 0), some (.int l1)], [.int l1], (gSh, s10, u)) rfl ?_
    cases hP
    exact hG.2.1 _ _ rfl rfl
def p_Face_compile_j44 (E : gEv) (l1 : Int32) (σ : gS) : Option (Int32 × gS) :=
  if l1 = 0 then (p_Face_compile_j54 E l1 1 σ) else (p_Face_compile_j54 E l1 0 σ)
set_option maxRecDepth 20000 in
theorem j_Face_compile_j44 (E : gEv) (d u : Nat) {G : gFr → Prop} {v : Int32} {sr : gS} (hG : gClo E gDf gP0 gY28 (some .int) (gC E gDf gMs (d + 11)) (some (.int v), (gSh, sr, u)) G) (l1 : Int32) (σ : gS) (hP : p_Face_compile_j44 E l1 σ = some (v, sr)) : G (44, [some (.ref 0), some (.int l1)], [], (gSh, σ, u)) := by
  unfold p_Face_compile_j44 at hP
  refine gRunN_ok hG.1 2 _ (46, [some (.ref 0), some (.int l1)], [.int l1, .ref 0], (gSh, σ, u)) rfl ?_
  rcases g_ite hP with ⟨hc, hP⟩ | ⟨hc, hP⟩
  · refine hG.1 _ (49, [some (.ref 0), some (.int l1)], [.ref 0], (gSh, σ, u)) _ rfl (if_pos hc) ?_
    refine gRunN_ok hG.1 2 _ (54, [some (.ref 0), some (.int l1)], [.int 1, .ref 0], (gSh, σ, u)) rfl ?_
    exact j_Face_compile_j54 E d u hG l1 1 σ hP
  · refine hG.1 _ (53, [some (.ref 0), some (.int l1)], [.ref 0], (gSh, σ, u)) _ rfl (if_neg hc) ?_
    refine gRunN_ok hG.1 1 _ (54, [some (.ref 0), some (.int l1)], [.int 0, .ref 0], (gSh, σ, u)) rfl ?_
    exact j_Face_compile_j54 E d u hG l1 0 σ hP
def p_Face_compile (E : gEv) (σ : gS) : Option (Int32 × gS) :=
  gB1 (p_Text_open E σ) fun s2 => gB1 (p_Face_forget E s2) fun s4 => gB2 (p_Reader_read E s4) fun v5 s6 => gLet (gPut s6 0 11 (s6.1 22 15)) fun s7 => if v5 = 0 then (gB2 (p_Face_build E s7) fun v8 s9 => if v8 = 0 then (p_Face_compile_j44 E 6 s9) else (p_Face_compile_j44 E v5 s9)) else (p_Face_compile_j44 E v5 s7)
set_option maxRecDepth 20000 in
theorem c_Face_compile (E : gEv) (d u : Nat) (σ : gS) {v : Int32} {sr : gS}  (hq : p_Face_compile E σ = some (v, sr)) : gC E gDf gMs (d + 12) 28 [.ref 0] (gSh, σ, u) (some (.int v), (gSh, sr, u)) := ⟨gM28, rfl, Nat.le_of_ble_eq_true rfl, fun G hG => by
  have hP := hq
  unfold p_Face_compile at hP
  replace hG : gClo E gDf gP0 gY28 (some .int) (gC E gDf gMs (d + 11)) (some (.int v), (gSh, sr, u)) G := hG
  show G (0, [some (.ref 0), none], [], (gSh, σ, u))
  refine gRunN_ok hG.1 2 _ (4, [some (.ref 0), none], [.ref 10], (gSh, σ, u)) rfl ?_
  obtain ⟨s2, hq, hP⟩ := g_b1 hP
  refine hG.2.2.2.1 _ _ _ [.ref 10] [] _ (gSh, s2, u) none _ _ _ _ _ _ rfl rfl rfl rfl rfl rfl (c_Text_open E (d + 10) u _  hq) (Nat.le_refl _) (Nat.le_refl _) (Nat.le_refl _) (Nat.le_refl _) ?_
  show G (7, [some (.ref 0), none], [], (gSh, s2, u))
  refine gRunN_ok hG.1 1 _ (8, [some (.ref 0), none], [.ref 0], (gSh, s2, u)) rfl ?_
  obtain ⟨s4, hq, hP⟩ := g_b1 hP
  refine hG.2.2.2.1 _ _ _ [.ref 0] [] _ (gSh, s4, u) none _ _ _ _ _ _ rfl rfl rfl rfl rfl rfl (c_Face_forget E (d + 8) u _  hq) (Nat.le_refl _) (Nat.le_refl _) (Nat.le_refl _) (Nat.le_refl _) ?_
  show G (11, [some (.ref 0), none], [], (gSh, s4, u))
  refine gRunN_ok hG.1 2 _ (15, [some (.ref 0), none], [.ref 22], (gSh, s4, u)) rfl ?_
  obtain ⟨v5, s6, hq, hP⟩ := g_b2 hP
  refine hG.2.2.2.1 _ _ _ [.ref 22] [] _ (gSh, s6, u) (some (.int v5)) _ _ _ _ _ _ rfl rfl rfl rfl rfl rfl (c_Reader_read E (d + 4) u _  hq) (Nat.le_refl _) (Nat.le_refl _) (Nat.le_refl _) (Nat.le_refl _) ?_
  show G (18, [some (.ref 0), none], [.int v5], (gSh, s6, u))
  refine gRunN_ok hG.1 6 _ (30, [some (.ref 0), some (.int v5)], [], (gSh, (gPut s6 0 11 (s6.1 22 15)), u)) rfl ?_
  obtain ⟨s7, es7, hP⟩ := g_let hP
  rw [← es7]
  refine gRunN_ok hG.1 1 _ (31, [some (.ref 0), some (.int v5)], [.int v5], (gSh, s7, u)) rfl ?_
  rcases g_ite hP with ⟨hc, hP⟩ | ⟨hc, hP⟩
  · refine hG.1 _ (34, [some (.ref 0), some (.int v5)], [], (gSh, s7, u)) _ rfl (if_pos hc) ?_
    refine gRunN_ok hG.1 1 _ (35, [some (.ref 0), some (.int v5)], [.ref 0], (gSh, s7, u)) rfl ?_
    obtain ⟨v8, s9, hq, hP⟩ := g_b2 hP
    refine hG.2.2.2.1 _ _ _ [.ref 0] [] _ (gSh, s9, u) (some (.int v8)) _ _ _ _ _ _ rfl rfl rfl rfl rfl rfl (c_Face_build E (d + 0) u _  hq) (Nat.le_refl _) (Nat.le_refl _) (Nat.le_refl _) (Nat.le_refl _) ?_
    show G (38, [some (.ref 0), some (.int v5)], [.int v8], (gSh, s9, u))
    rcases g_ite hP with ⟨hc, hP⟩ | ⟨hc, hP⟩
    · refine hG.1 _ (41, [some (.ref 0), some (.int v5)], [], (gSh, s9, u)) _ rfl (if_pos hc) ?_
      refine gRunN_ok hG.1 2 _ (44, [some (.ref 0), some (.int 6)], [], (gSh, s9, u)) rfl ?_
      exact j_Face_compile_j44 E d u hG 6 s9 hP
    · refine hG.1 _ (44, [some (.ref 0), some (.int v5)], [], (gSh, s9, u)) _ rfl (if_neg hc) ?_
      exact j_Face_compile_j44 E d u hG v5 s9 hP
  · refine hG.1 _ (44, [some (.ref 0), some (.int v5)], [], (gSh, s7, u)) _ rfl (if_neg hc) ?_
    exact j_Face_compile_j44 E d u hG v5 s7 hP⟩
