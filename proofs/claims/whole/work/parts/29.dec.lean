def p_Model_length_j127_53 (E : gEv) (l1 : Int32) (l2 : Int32) (l3 : Int32) (l4 : Int32) (l6 : Int32) (l7 : Int32) (y0 : Int32) (σ : gS) : Option ((Int32 × Int32 × Int32 × Int32 × Int32 × gS) ⊕ (Int32 × Int32 × Int32 × Int32 × gS)) :=
  if (σ.1 94 73) ≤ l6 then (gLet (l7 + 1) fun x10 => some (.inl (l3, l4, y0, l6, x10, σ))) else (gLet (σ.1 94 73) fun x11 => gLet (l7 + 1) fun x12 => some (.inl (l3, l4, y0, x11, x12, σ)))
set_option maxRecDepth 20000 in
theorem j_Model_length_j127_53 (E : gEv) (d u : Nat) {G : gFr → Prop} {vo : Option Value} {sr : gS} (hG : gClo E gDf gP18 gY225 (some .int) (gC E gDf gMs (d + 3)) (vo, (gSh, sr, u)) G) (l1 : Int32) (l2 : Int32) (l3 : Int32) (l4 : Int32) (l6 : Int32) (l7 : Int32) (y0 : Int32) (σ : gS) {r : (Int32 × Int32 × Int32 × Int32 × Int32 × gS) ⊕ (Int32 × Int32 × Int32 × Int32 × gS)} (hP : p_Model_length_j127_53 E l1 l2 l3 l4 l6 l7 y0 σ = some r) (K1 : ∀ (m3 : Int32) (m4 : Int32) (m5 : Int32) (m6 : Int32) (m7 : Int32) (σ1 : gS), r = .inl (m3, m4, m5, m6, m7, σ1) → G (53, [some (.ref 94), some (.int l1), some (.int l2), some (.int m3), some (.int m4), some (.int m5), some (.int m6), some (.int m7)], [], (gSh, σ1, u))) (K2 : ∀ (m3 : Int32) (m4 : Int32) (m5 : Int32) (m6 : Int32) (σ1 : gS), r = .inr (m3, m4, m5, m6, σ1) → G (155, [some (.ref 94), some (.int l1), some (.int l2), some (.int m3), some (.int m4), some (.int m5), some (.int m6), none], [], (gSh, σ1, u))) : G (127, [some (.ref 94), some (.int l1), some (.int l2), some (.int l3), some (.int l4), none, some (.int l6), some (.int l7)], [.int y0], (gSh, σ, u)) := by
  unfold p_Model_length_j127_53 at hP
  refine gRunN_ok hG.1 4 _ (135, [some (.ref 94), some (.int l1), some (.int l2), some (.int l3), some (.int l4), some (.int y0), some (.int l6), some (.int l7)], [.int l6, .int (σ.1 94 73)], (gSh, σ, u)) rfl ?_
  rcases g_ite hP with ⟨hc, hP⟩ | ⟨hc, hP⟩
  · refine hG.1 _ (145, [some (.ref 94), some (.int l1), some (.int l2), some (.int l3), some (.int l4), some (.int y0), some (.int l6), some (.int l7)], [], (gSh, σ, u)) _ rfl (if_pos hc) ?_
    refine gRunN_ok hG.1 3 _ (152, [some (.ref 94), some (.int l1), some (.int l2), some (.int l3), some (.int l4), some (.int y0), some (.int l6), some (.int (l7 + 1))], [], (gSh, σ, u)) rfl ?_
    obtain ⟨x10, ex10, hP⟩ := g_let hP
    rw [← ex10]
    refine gRunN_ok hG.1 1 _ (53, [some (.ref 94), some (.int l1), some (.int l2), some (.int l3), some (.int l4), some (.int y0), some (.int l6), some (.int x10)], [], (gSh, σ, u)) rfl ?_
    cases hP
    exact K1 _ _ _ _ _ _ rfl
  · refine hG.1 _ (138, [some (.ref 94), some (.int l1), some (.int l2), some (.int l3), some (.int l4), some (.int y0), some (.int l6), some (.int l7)], [], (gSh, σ, u)) _ rfl (if_neg hc) ?_
    refine gRunN_ok hG.1 4 _ (149, [some (.ref 94), some (.int l1), some (.int l2), some (.int l3), some (.int l4), some (.int y0), some (.int (σ.1 94 73)), some (.int l7)], [], (gSh, σ, u)) rfl ?_
    obtain ⟨x11, ex11, hP⟩ := g_let hP
    rw [← ex11]
    refine gRunN_ok hG.1 1 _ (152, [some (.ref 94), some (.int l1), some (.int l2), some (.int l3), some (.int l4), some (.int y0), some (.int x11), some (.int (l7 + 1))], [], (gSh, σ, u)) rfl ?_
    obtain ⟨x12, ex12, hP⟩ := g_let hP
    rw [← ex12]
    refine gRunN_ok hG.1 1 _ (53, [some (.ref 94), some (.int l1), some (.int l2), some (.int l3), some (.int l4), some (.int y0), some (.int x11), some (.int x12)], [], (gSh, σ, u)) rfl ?_
    cases hP
    exact K1 _ _ _ _ _ _ rfl
def p_Model_length_j107_53 (E : gEv) (l1 : Int32) (l2 : Int32) (l3 : Int32) (l5 : Int32) (l6 : Int32) (l7 : Int32) (y0 : Int32) (σ : gS) : Option ((Int32 × Int32 × Int32 × Int32 × Int32 × gS) ⊕ (Int32 × Int32 × Int32 × Int32 × gS)) :=
  if l5 ≤ (σ.1 94 73) then (p_Model_length_j127_53 E l1 l2 l3 y0 l6 l7 l5 σ) else (p_Model_length_j127_53 E l1 l2 l3 y0 l6 l7 (σ.1 94 73) σ)
set_option maxRecDepth 20000 in
theorem j_Model_length_j107_53 (E : gEv) (d u : Nat) {G : gFr → Prop} {vo : Option Value} {sr : gS} (hG : gClo E gDf gP18 gY225 (some .int) (gC E gDf gMs (d + 3)) (vo, (gSh, sr, u)) G) (l1 : Int32) (l2 : Int32) (l3 : Int32) (l5 : Int32) (l6 : Int32) (l7 : Int32) (y0 : Int32) (σ : gS) {r : (Int32 × Int32 × Int32 × Int32 × Int32 × gS) ⊕ (Int32 × Int32 × Int32 × Int32 × gS)} (hP : p_Model_length_j107_53 E l1 l2 l3 l5 l6 l7 y0 σ = some r) (K1 : ∀ (m3 : Int32) (m4 : Int32) (m5 : Int32) (m6 : Int32) (m7 : Int32) (σ1 : gS), r = .inl (m3, m4, m5, m6, m7, σ1) → G (53, [some (.ref 94), some (.int l1), some (.int l2), some (.int m3), some (.int m4), some (.int m5), some (.int m6), some (.int m7)], [], (gSh, σ1, u))) (K2 : ∀ (m3 : Int32) (m4 : Int32) (m5 : Int32) (m6 : Int32) (σ1 : gS), r = .inr (m3, m4, m5, m6, σ1) → G (155, [some (.ref 94), some (.int l1), some (.int l2), some (.int m3), some (.int m4), some (.int m5), some (.int m6), none], [], (gSh, σ1, u))) : G (107, [some (.ref 94), some (.int l1), some (.int l2), some (.int l3), none, some (.int l5), some (.int l6), some (.int l7)], [.int y0], (gSh, σ, u)) := by
  unfold p_Model_length_j107_53 at hP
  refine gRunN_ok hG.1 4 _ (115, [some (.ref 94), some (.int l1), some (.int l2), some (.int l3), some (.int y0), some (.int l5), some (.int l6), some (.int l7)], [.int l5, .int (σ.1 94 73)], (gSh, σ, u)) rfl ?_
  rcases g_ite hP with ⟨hc, hP⟩ | ⟨hc, hP⟩
  · refine hG.1 _ (125, [some (.ref 94), some (.int l1), some (.int l2), some (.int l3), some (.int y0), some (.int l5), some (.int l6), some (.int l7)], [], (gSh, σ, u)) _ rfl (if_pos hc) ?_
    refine gRunN_ok hG.1 1 _ (127, [some (.ref 94), some (.int l1), some (.int l2), some (.int l3), some (.int y0), some (.int l5), some (.int l6), some (.int l7)], [.int l5], (gSh, σ, u)) rfl ?_
    refine hG.2.2.2.2.1 _ _ [some (.ref 94), some (.int l1), some (.int l2), some (.int l3), some (.int y0), none, some (.int l6), some (.int l7)] _ _ ⟨rfl, ⟨rfl, ⟨rfl, ⟨rfl, ⟨rfl, ⟨rfl, ⟨rfl, trivial⟩⟩⟩⟩⟩⟩⟩ ?_
    exact j_Model_length_j127_53 E d u hG l1 l2 l3 y0 l6 l7 l5 σ hP K1 K2
  · refine hG.1 _ (118, [some (.ref 94), some (.int l1), some (.int l2), some (.int l3), some (.int y0), some (.int l5), some (.int l6), some (.int l7)], [], (gSh, σ, u)) _ rfl (if_neg hc) ?_
    refine gRunN_ok hG.1 3 _ (127, [some (.ref 94), some (.int l1), some (.int l2), some (.int l3), some (.int y0), some (.int l5), some (.int l6), some (.int l7)], [.int (σ.1 94 73)], (gSh, σ, u)) rfl ?_
    refine hG.2.2.2.2.1 _ _ [some (.ref 94), some (.int l1), some (.int l2), some (.int l3), some (.int y0), none, some (.int l6), some (.int l7)] _ _ ⟨rfl, ⟨rfl, ⟨rfl, ⟨rfl, ⟨rfl, ⟨rfl, ⟨rfl, trivial⟩⟩⟩⟩⟩⟩⟩ ?_
    exact j_Model_length_j127_53 E d u hG l1 l2 l3 y0 l6 l7 (σ.1 94 73) σ hP K1 K2
def p_Model_length_j88_53 (E : gEv) (l1 : Int32) (l2 : Int32) (l4 : Int32) (l5 : Int32) (l6 : Int32) (l7 : Int32) (y0 : Int32) (σ : gS) : Option ((Int32 × Int32 × Int32 × Int32 × Int32 × gS) ⊕ (Int32 × Int32 × Int32 × Int32 × gS)) :=
  if (σ.1 94 72) ≤ l4 then (p_Model_length_j107_53 E l1 l2 y0 l5 l6 l7 l4 σ) else (p_Model_length_j107_53 E l1 l2 y0 l5 l6 l7 (σ.1 94 72) σ)
set_option maxRecDepth 20000 in
theorem j_Model_length_j88_53 (E : gEv) (d u : Nat) {G : gFr → Prop} {vo : Option Value} {sr : gS} (hG : gClo E gDf gP18 gY225 (some .int) (gC E gDf gMs (d + 3)) (vo, (gSh, sr, u)) G) (l1 : Int32) (l2 : Int32) (l4 : Int32) (l5 : Int32) (l6 : Int32) (l7 : Int32) (y0 : Int32) (σ : gS) {r : (Int32 × Int32 × Int32 × Int32 × Int32 × gS) ⊕ (Int32 × Int32 × Int32 × Int32 × gS)} (hP : p_Model_length_j88_53 E l1 l2 l4 l5 l6 l7 y0 σ = some r) (K1 : ∀ (m3 : Int32) (m4 : Int32) (m5 : Int32) (m6 : Int32) (m7 : Int32) (σ1 : gS), r = .inl (m3, m4, m5, m6, m7, σ1) → G (53, [some (.ref 94), some (.int l1), some (.int l2), some (.int m3), some (.int m4), some (.int m5), some (.int m6), some (.int m7)], [], (gSh, σ1, u))) (K2 : ∀ (m3 : Int32) (m4 : Int32) (m5 : Int32) (m6 : Int32) (σ1 : gS), r = .inr (m3, m4, m5, m6, σ1) → G (155, [some (.ref 94), some (.int l1), some (.int l2), some (.int m3), some (.int m4), some (.int m5), some (.int m6), none], [], (gSh, σ1, u))) : G (88, [some (.ref 94), some (.int l1), some (.int l2), none, some (.int l4), some (.int l5), some (.int l6), some (.int l7)], [.int y0], (gSh, σ, u)) := by
  unfold p_Model_length_j88_53 at hP
  refine gRunN_ok hG.1 4 _ (95, [some (.ref 94), some (.int l1), some (.int l2), some (.int y0), some (.int l4), some (.int l5), some (.int l6), some (.int l7)], [.int l4, .int (σ.1 94 72)], (gSh, σ, u)) rfl ?_
  rcases g_ite hP with ⟨hc, hP⟩ | ⟨hc, hP⟩
  · refine hG.1 _ (105, [some (.ref 94), some (.int l1), some (.int l2), some (.int y0), some (.int l4), some (.int l5), some (.int l6), some (.int l7)], [], (gSh, σ, u)) _ rfl (if_pos hc) ?_
    refine gRunN_ok hG.1 1 _ (107, [some (.ref 94), some (.int l1), some (.int l2), some (.int y0), some (.int l4), some (.int l5), some (.int l6), some (.int l7)], [.int l4], (gSh, σ, u)) rfl ?_
    refine hG.2.2.2.2.1 _ _ [some (.ref 94), some (.int l1), some (.int l2), some (.int y0), none, some (.int l5), some (.int l6), some (.int l7)] _ _ ⟨rfl, ⟨rfl, ⟨rfl, ⟨rfl, ⟨rfl, ⟨rfl, ⟨rfl, trivial⟩⟩⟩⟩⟩⟩⟩ ?_
    exact j_Model_length_j107_53 E d u hG l1 l2 y0 l5 l6 l7 l4 σ hP K1 K2
  · refine hG.1 _ (98, [some (.ref 94), some (.int l1), some (.int l2), some (.int y0), some (.int l4), some (.int l5), some (.int l6), some (.int l7)], [], (gSh, σ, u)) _ rfl (if_neg hc) ?_
    refine gRunN_ok hG.1 3 _ (107, [some (.ref 94), some (.int l1), some (.int l2), some (.int y0), some (.int l4), some (.int l5), some (.int l6), some (.int l7)], [.int (σ.1 94 72)], (gSh, σ, u)) rfl ?_
    refine hG.2.2.2.2.1 _ _ [some (.ref 94), some (.int l1), some (.int l2), some (.int y0), none, some (.int l5), some (.int l6), some (.int l7)] _ _ ⟨rfl, ⟨rfl, ⟨rfl, ⟨rfl, ⟨rfl, ⟨rfl, ⟨rfl, trivial⟩⟩⟩⟩⟩⟩⟩ ?_
    exact j_Model_length_j107_53 E d u hG l1 l2 y0 l5 l6 l7 (σ.1 94 72) σ hP K1 K2
def p_Model_length_53 (E : gEv) (l1 : Int32) (l2 : Int32) (l3 : Int32) (l4 : Int32) (l5 : Int32) (l6 : Int32) (l7 : Int32) (σ : gS) : Option ((Int32 × Int32 × Int32 × Int32 × Int32 × gS) ⊕ (Int32 × Int32 × Int32 × Int32 × gS)) :=
  if gIn (l2 + (1 : Int32)) (σ.2.1 130) then if (σ.1 130 (l2 + (1 : Int32)).toNatClampNeg) ≤ l7 then (some (.inr (l3, l4, l5, l6, σ))) else (gB1 (p_Model_pointOfSink E l7 σ) fun s9 => if l3 ≤ (s9.1 94 72) then (p_Model_length_j88_53 E l1 l2 l4 l5 l6 l7 l3 s9) else (p_Model_length_j88_53 E l1 l2 l4 l5 l6 l7 (s9.1 94 72) s9)) else none
set_option maxRecDepth 20000 in
theorem b_Model_length_53 (E : gEv) (d u : Nat) {G : gFr → Prop} {vo : Option Value} {sr : gS} (hG : gClo E gDf gP18 gY225 (some .int) (gC E gDf gMs (d + 3)) (vo, (gSh, sr, u)) G) (l1 : Int32) (l2 : Int32) (l3 : Int32) (l4 : Int32) (l5 : Int32) (l6 : Int32) (l7 : Int32) (σ : gS) {r : (Int32 × Int32 × Int32 × Int32 × Int32 × gS) ⊕ (Int32 × Int32 × Int32 × Int32 × gS)} (hP : p_Model_length_53 E l1 l2 l3 l4 l5 l6 l7 σ = some r) (K1 : ∀ (m3 : Int32) (m4 : Int32) (m5 : Int32) (m6 : Int32) (m7 : Int32) (σ1 : gS), r = .inl (m3, m4, m5, m6, m7, σ1) → G (53, [some (.ref 94), some (.int l1), some (.int l2), some (.int m3), some (.int m4), some (.int m5), some (.int m6), some (.int m7)], [], (gSh, σ1, u))) (K2 : ∀ (m3 : Int32) (m4 : Int32) (m5 : Int32) (m6 : Int32) (σ1 : gS), r = .inr (m3, m4, m5, m6, σ1) → G (155, [some (.ref 94), some (.int l1), some (.int l2), some (.int m3), some (.int m4), some (.int m5), some (.int m6), none], [], (gSh, σ1, u))) : G (53, [some (.ref 94), some (.int l1), some (.int l2), some (.int l3), some (.int l4), some (.int l5), some (.int l6), some (.int l7)], [], (gSh, σ, u)) := by
  unfold p_Model_length_53 at hP
  refine gRunN_ok hG.1 6 _ (62, [some (.ref 94), some (.int l1), some (.int l2), some (.int l3), some (.int l4), some (.int l5), some (.int l6), some (.int l7)], [.int (l2 + (1 : Int32)), .ref 130, .int l7], (gSh, σ, u)) rfl ?_
  obtain ⟨hc, hP⟩ := g_if hP
  refine hG.1 _ (63, [some (.ref 94), some (.int l1), some (.int l2), some (.int l3), some (.int l4), some (.int l5), some (.int l6), some (.int l7)], [.int (σ.1 130 (l2 + (1 : Int32)).toNatClampNeg), .int l7], (gSh, σ, u)) _ rfl (if_pos hc) ?_
  rcases g_ite hP with ⟨hc, hP⟩ | ⟨hc, hP⟩
  · refine hG.1 _ (155, [some (.ref 94), some (.int l1), some (.int l2), some (.int l3), some (.int l4), some (.int l5), some (.int l6), some (.int l7)], [], (gSh, σ, u)) _ rfl (if_pos hc) ?_
    refine hG.2.2.2.2.1 _ _ [some (.ref 94), some (.int l1), some (.int l2), some (.int l3), some (.int l4), some (.int l5), some (.int l6), none] _ _ ⟨rfl, ⟨rfl, ⟨rfl, ⟨rfl, ⟨rfl, ⟨rfl, ⟨rfl, trivial⟩⟩⟩⟩⟩⟩⟩ ?_
    cases hP
    exact K2 _ _ _ _ _ rfl
  · refine hG.1 _ (66, [some (.ref 94), some (.int l1), some (.int l2), some (.int l3), some (.int l4), some (.int l5), some (.int l6), some (.int l7)], [], (gSh, σ, u)) _ rfl (if_neg hc) ?_
    refine gRunN_ok hG.1 2 _ (69, [some (.ref 94), some (.int l1), some (.int l2), some (.int l3), some (.int l4), some (.int l5), some (.int l6), some (.int l7)], [.int l7, .ref 94], (gSh, σ, u)) rfl ?_
    obtain ⟨s9, hq, hP⟩ := g_b1 hP
    refine hG.2.2.2.1 _ _ _ [.ref 94, .int l7] [] _ (gSh, s9, u) none _ _ _ _ _ _ rfl rfl rfl rfl rfl rfl (c_Model_pointOfSink E (d + 0) u l7 _  hq) (Nat.le_refl _) (Nat.le_refl _) (Nat.le_refl _) (Nat.le_refl _) ?_
    show G (72, [some (.ref 94), some (.int l1), some (.int l2), some (.int l3), some (.int l4), some (.int l5), some (.int l6), some (.int l7)], [], (gSh, s9, u))
    refine gRunN_ok hG.1 3 _ (77, [some (.ref 94), some (.int l1), some (.int l2), some (.int l3), some (.int l4), some (.int l5), some (.int l6), some (.int l7)], [.int l3, .int (s9.1 94 72)], (gSh, s9, u)) rfl ?_
    rcases g_ite hP with ⟨hc, hP⟩ | ⟨hc, hP⟩
    · refine hG.1 _ (87, [some (.ref 94), some (.int l1), some (.int l2), some (.int l3), some (.int l4), some (.int l5), some (.int l6), some (.int l7)], [], (gSh, s9, u)) _ rfl (if_pos hc) ?_
      refine gRunN_ok hG.1 1 _ (88, [some (.ref 94), some (.int l1), some (.int l2), some (.int l3), some (.int l4), some (.int l5), some (.int l6), some (.int l7)], [.int l3], (gSh, s9, u)) rfl ?_
      refine hG.2.2.2.2.1 _ _ [some (.ref 94), some (.int l1), some (.int l2), none, some (.int l4), some (.int l5), some (.int l6), some (.int l7)] _ _ ⟨rfl, ⟨rfl, ⟨rfl, ⟨rfl, ⟨rfl, ⟨rfl, ⟨rfl, trivial⟩⟩⟩⟩⟩⟩⟩ ?_
      exact j_Model_length_j88_53 E d u hG l1 l2 l4 l5 l6 l7 l3 s9 hP K1 K2
    · refine hG.1 _ (80, [some (.ref 94), some (.int l1), some (.int l2), some (.int l3), some (.int l4), some (.int l5), some (.int l6), some (.int l7)], [], (gSh, s9, u)) _ rfl (if_neg hc) ?_
      refine gRunN_ok hG.1 3 _ (88, [some (.ref 94), some (.int l1), some (.int l2), some (.int l3), some (.int l4), some (.int l5), some (.int l6), some (.int l7)], [.int (s9.1 94 72)], (gSh, s9, u)) rfl ?_
      refine hG.2.2.2.2.1 _ _ [some (.ref 94), some (.int l1), some (.int l2), none, some (.int l4), some (.int l5), some (.int l6), some (.int l7)] _ _ ⟨rfl, ⟨rfl, ⟨rfl, ⟨rfl, ⟨rfl, ⟨rfl, ⟨rfl, trivial⟩⟩⟩⟩⟩⟩⟩ ?_
      exact j_Model_length_j88_53 E d u hG l1 l2 l4 l5 l6 l7 (s9.1 94 72) s9 hP K1 K2
theorem l_Model_length_53 (E : gEv) (d u : Nat) {G : gFr → Prop} {vo : Option Value} {sr : gS} (hG : gClo E gDf gP18 gY225 (some .int) (gC E gDf gMs (d + 3)) (vo, (gSh, sr, u)) G) (l1 : Int32) (l2 : Int32) : ∀ (n : Nat) (l3 : Int32) (l4 : Int32) (l5 : Int32) (l6 : Int32) (l7 : Int32) (σ : gS) (e : (Int32 × Int32 × Int32 × Int32 × gS)), gIter (fun z => p_Model_length_53 E l1 l2 z.1 z.2.1 z.2.2.1 z.2.2.2.1 z.2.2.2.2.1 z.2.2.2.2.2) n (l3, l4, l5, l6, l7, σ) = some e → (∀ (m3 : Int32) (m4 : Int32) (m5 : Int32) (m6 : Int32) (σ1 : gS), e = (m3, m4, m5, m6, σ1) → G (155, [some (.ref 94), some (.int l1), some (.int l2), some (.int m3), some (.int m4), some (.int m5), some (.int m6), none], [], (gSh, σ1, u))) → G (53, [some (.ref 94), some (.int l1), some (.int l2), some (.int l3), some (.int l4), some (.int l5), some (.int l6), some (.int l7)], [], (gSh, σ, u)) := by
  intro n
  induction n with
  | zero => intro l3 l4 l5 l6 l7 σ e h; cases h
  | succ n ih =>
    intro l3 l4 l5 l6 l7 σ e h K2
    rcases g_iter h with ⟨z, h1, h2⟩ | h1
    · exact b_Model_length_53 E d u hG l1 l2 l3 l4 l5 l6 l7 σ h1 (fun n0 n1 n2 n3 n4 n5 hz => by cases hz; exact ih _ _ _ _ _ _ e h2 K2) (fun _ _ _ _ _ hz => by cases hz)
    · exact b_Model_length_53 E d u hG l1 l2 l3 l4 l5 l6 l7 σ h1 (fun _ _ _ _ _ _ hz => by cases hz) (fun m3 m4 m5 m6 σ1 hz => K2 m3 m4 m5 m6 σ1 (by cases hz; rfl))
def p_Model_length_4 (E : gEv) (l1 : Int32) (l2 : Int32) (σ : gS) : Option ((Int32 × Int32 × gS) ⊕ (Int32 × gS)) :=
  if (σ.1 94 60) ≤ l2 then (some (.inr (l1, σ))) else (if gIn l2 (σ.2.1 129) then gB1 (p_Model_pointOfSource E (σ.1 129 l2.toNatClampNeg) σ) fun s2 => gLet (s2.1 94 72) fun x3 => gLet (s2.1 94 72) fun x4 => gLet (s2.1 94 73) fun x5 => gLet (s2.1 94 73) fun x6 => if gIn l2 (s2.2.1 130) then gLet (s2.1 130 l2.toNatClampNeg) fun x7 => gB1 (gIter (fun z => p_Model_length_53 E l1 l2 z.1 z.2.1 z.2.2.1 z.2.2.2.1 z.2.2.2.2.1 z.2.2.2.2.2) gN (x3, x4, x5, x6, x7, s2)) fun e13 => (fun w14 w15 w16 w17 s18 => gLet (l1 + (((w15 - w14) + w17) - w16)) fun x19 => gLet (l2 + 1) fun x20 => some (.inl (x19, x20, s18))) e13.1 e13.2.1 e13.2.2.1 e13.2.2.2.1 e13.2.2.2.2 else none else none)
set_option maxRecDepth 20000 in
theorem b_Model_length_4 (E : gEv) (d u : Nat) {G : gFr → Prop} {vo : Option Value} {sr : gS} (hG : gClo E gDf gP18 gY225 (some .int) (gC E gDf gMs (d + 3)) (vo, (gSh, sr, u)) G) (l1 : Int32) (l2 : Int32) (σ : gS) {r : (Int32 × Int32 × gS) ⊕ (Int32 × gS)} (hP : p_Model_length_4 E l1 l2 σ = some r) (K1 : ∀ (m1 : Int32) (m2 : Int32) (σ1 : gS), r = .inl (m1, m2, σ1) → G (4, [some (.ref 94), some (.int m1), some (.int m2), none, none, none, none, none], [], (gSh, σ1, u))) (K2 : ∀ (m1 : Int32) (σ1 : gS), r = .inr (m1, σ1) → G (174, [none, some (.int m1), none, none, none, none, none, none], [], (gSh, σ1, u))) : G (4, [some (.ref 94), some (.int l1), some (.int l2), none, none, none, none, none], [], (gSh, σ, u)) := by
  unfold p_Model_length_4 at hP
  refine gRunN_ok hG.1 3 _ (9, [some (.ref 94), some (.int l1), some (.int l2), none, none, none, none, none], [.int (σ.1 94 60), .int l2], (gSh, σ, u)) rfl ?_
  rcases g_ite hP with ⟨hc, hP⟩ | ⟨hc, hP⟩
  · refine hG.1 _ (174, [some (.ref 94), some (.int l1), some (.int l2), none, none, none, none, none], [], (gSh, σ, u)) _ rfl (if_pos hc) ?_
    refine hG.2.2.2.2.1 _ _ [none, some (.int l1), none, none, none, none, none, none] _ _ ⟨rfl, trivial⟩ ?_
    cases hP
    exact K2 _ _ rfl
  · refine hG.1 _ (12, [some (.ref 94), some (.int l1), some (.int l2), none, none, none, none, none], [], (gSh, σ, u)) _ rfl (if_neg hc) ?_
    refine gRunN_ok hG.1 4 _ (18, [some (.ref 94), some (.int l1), some (.int l2), none, none, none, none, none], [.int l2, .ref 129, .ref 94], (gSh, σ, u)) rfl ?_
    obtain ⟨hc, hP⟩ := g_if hP
    refine hG.1 _ (19, [some (.ref 94), some (.int l1), some (.int l2), none, none, none, none, none], [.int (σ.1 129 l2.toNatClampNeg), .ref 94], (gSh, σ, u)) _ rfl (if_pos hc) ?_
    obtain ⟨s2, hq, hP⟩ := g_b1 hP
    refine hG.2.2.2.1 _ _ _ [.ref 94, .int (σ.1 129 l2.toNatClampNeg)] [] _ (gSh, s2, u) none _ _ _ _ _ _ rfl rfl rfl rfl rfl rfl (c_Model_pointOfSource E (d + 0) u (σ.1 129 l2.toNatClampNeg) _  hq) (Nat.le_refl _) (Nat.le_refl _) (Nat.le_refl _) (Nat.le_refl _) ?_
    show G (22, [some (.ref 94), some (.int l1), some (.int l2), none, none, none, none, none], [], (gSh, s2, u))
    refine gRunN_ok hG.1 3 _ (27, [some (.ref 94), some (.int l1), some (.int l2), some (.int (s2.1 94 72)), none, none, none, none], [], (gSh, s2, u)) rfl ?_
    obtain ⟨x3, ex3, hP⟩ := g_let hP
    rw [← ex3]
    refine gRunN_ok hG.1 3 _ (33, [some (.ref 94), some (.int l1), some (.int l2), some (.int x3), some (.int (s2.1 94 72)), none, none, none], [], (gSh, s2, u)) rfl ?_
    obtain ⟨x4, ex4, hP⟩ := g_let hP
    rw [← ex4]
    refine gRunN_ok hG.1 3 _ (39, [some (.ref 94), some (.int l1), some (.int l2), some (.int x3), some (.int x4), some (.int (s2.1 94 73)), none, none], [], (gSh, s2, u)) rfl ?_
    obtain ⟨x5, ex5, hP⟩ := g_let hP
    rw [← ex5]
    refine gRunN_ok hG.1 3 _ (45, [some (.ref 94), some (.int l1), some (.int l2), some (.int x3), some (.int x4), some (.int x5), some (.int (s2.1 94 73)), none], [], (gSh, s2, u)) rfl ?_
    obtain ⟨x6, ex6, hP⟩ := g_let hP
    rw [← ex6]
    refine gRunN_ok hG.1 3 _ (50, [some (.ref 94), some (.int l1), some (.int l2), some (.int x3), some (.int x4), some (.int x5), some (.int x6), none], [.int l2, .ref 130], (gSh, s2, u)) rfl ?_
    obtain ⟨hc, hP⟩ := g_if hP
    refine hG.1 _ (51, [some (.ref 94), some (.int l1), some (.int l2), some (.int x3), some (.int x4), some (.int x5), some (.int x6), none], [.int (s2.1 130 l2.toNatClampNeg)], (gSh, s2, u)) _ rfl (if_pos hc) ?_
    refine gRunN_ok hG.1 1 _ (53, [some (.ref 94), some (.int l1), some (.int l2), some (.int x3), some (.int x4), some (.int x5), some (.int x6), some (.int (s2.1 130 l2.toNatClampNeg))], [], (gSh, s2, u)) rfl ?_
    obtain ⟨x7, ex7, hP⟩ := g_let hP
    rw [← ex7]
    obtain ⟨e13, hq, hP⟩ := g_b1 hP
    refine l_Model_length_53 E d u hG l1 l2 gN x3 x4 x5 x6 x7 s2 _ hq (fun w14 w15 w16 w17 s18 he => ?_)
    · subst he
      try dsimp only [gSum] at hP
      refine gRunN_ok hG.1 10 _ (168, [some (.ref 94), some (.int (l1 + (((w15 - w14) + w17) - w16))), some (.int l2), some (.int w14), some (.int w15), some (.int w16), some (.int w17), none], [], (gSh, s18, u)) rfl ?_
      obtain ⟨x19, ex19, hP⟩ := g_let hP
      rw [← ex19]
      refine gRunN_ok hG.1 1 _ (171, [some (.ref 94), some (.int x19), some (.int (l2 + 1)), some (.int w14), some (.int w15), some (.int w16), some (.int w17), none], [], (gSh, s18, u)) rfl ?_
      obtain ⟨x20, ex20, hP⟩ := g_let hP
      rw [← ex20]
      refine gRunN_ok hG.1 1 _ (4, [some (.ref 94), some (.int x19), some (.int x20), some (.int w14), some (.int w15), some (.int w16), some (.int w17), none], [], (gSh, s18, u)) rfl ?_
      refine hG.2.2.2.2.1 _ _ [some (.ref 94), some (.int x19), some (.int x20), none, none, none, none, none] _ _ ⟨rfl, ⟨rfl, ⟨rfl, trivial⟩⟩⟩ ?_
      cases hP
      exact K1 _ _ _ rfl
theorem l_Model_length_4 (E : gEv) (d u : Nat) {G : gFr → Prop} {vo : Option Value} {sr : gS} (hG : gClo E gDf gP18 gY225 (some .int) (gC E gDf gMs (d + 3)) (vo, (gSh, sr, u)) G) : ∀ (n : Nat) (l1 : Int32) (l2 : Int32) (σ : gS) (e : (Int32 × gS)), gIter (fun z => p_Model_length_4 E z.1 z.2.1 z.2.2) n (l1, l2, σ) = some e → (∀ (m1 : Int32) (σ1 : gS), e = (m1, σ1) → G (174, [none, some (.int m1), none, none, none, none, none, none], [], (gSh, σ1, u))) → G (4, [some (.ref 94), some (.int l1), some (.int l2), none, none, none, none, none], [], (gSh, σ, u)) := by
  intro n
  induction n with
  | zero => intro l1 l2 σ e h; cases h
  | succ n ih =>
    intro l1 l2 σ e h K2
    rcases g_iter h with ⟨z, h1, h2⟩ | h1
    · exact b_Model_length_4 E d u hG l1 l2 σ h1 (fun n0 n1 n2 hz => by cases hz; exact ih _ _ _ e h2 K2) (fun _ _ hz => by cases hz)
    · exact b_Model_length_4 E d u hG l1 l2 σ h1 (fun _ _ _ hz => by cases hz) (fun m1 σ1 hz => K2 m1 σ1 (by cases hz; rfl))
def p_Model_length (E : gEv) (σ : gS) : Option (Int32 × gS) :=
  gB1 (gIter (fun z => p_Model_length_4 E z.1 z.2.1 z.2.2) gN (0, 0, σ)) fun e21 => (fun w22 s23 => some (w22, s23)) e21.1 e21.2
set_option maxRecDepth 20000 in
theorem c_Model_length (E : gEv) (d u : Nat) (σ : gS) {v : Int32} {sr : gS}  (hq : p_Model_length E σ = some (v, sr)) : gC E gDf gMs (d + 4) 225 [.ref 94] (gSh, σ, u) (some (.int v), (gSh, sr, u)) := ⟨gM225, rfl, Nat.le_of_ble_eq_true rfl, fun G hG => by
  have hP := hq
  unfold p_Model_length at hP
  replace hG : gClo E gDf gP18 gY225 (some .int) (gC E gDf gMs (d + 3)) (some (.int v), (gSh, sr, u)) G := hG
  show G (0, [some (.ref 94), none, none, none, none, none, none, none], [], (gSh, σ, u))
  refine gRunN_ok hG.1 4 _ (4, [some (.ref 94), some (.int 0), some (.int 0), none, none, none, none, none], [], (gSh, σ, u)) rfl ?_
  obtain ⟨e21, hq, hP⟩ := g_b1 hP
  refine l_Model_length_4 E d u hG gN 0 0 σ _ hq (fun w22 s23 he => ?_)
  · subst he
    try dsimp only [gSum] at hP
    refine gRunN_ok hG.1 1 _ (175, [none, some (.int w22), none, none, none, none, none, none], [.int w22], (gSh, s23, u)) rfl ?_
    cases hP
    exact hG.2.1 _ _ rfl rfl⟩
def p_Model_routeSink_7 (E : gEv) (l1 : Int32) (l2 : Int32) (l3 : Int32) (σ : gS) : Option ((Int32 × gS) ⊕ (gS)) :=
  if (σ.1 94 8) ≤ l3 then (some (.inr σ)) else (if gIn l3 (σ.2.1 151) then gLet (gPut σ 151 l3.toNatClampNeg (vp_nar .boolean 0)) fun s3 => gLet (l3 + 1) fun x4 => some (.inl (x4, s3)) else none)
set_option maxRecDepth 20000 in
theorem b_Model_routeSink_7 (E : gEv) (d u : Nat) {G : gFr → Prop} {vo : Option Value} {sr : gS} (hG : gClo E gDf gP18 gY251 none (gC E gDf gMs (d + 3)) (vo, (gSh, sr, u)) G) (l1 : Int32) (l2 : Int32) (l3 : Int32) (σ : gS) {r : (Int32 × gS) ⊕ (gS)} (hP : p_Model_routeSink_7 E l1 l2 l3 σ = some r) (K1 : ∀ (m3 : Int32) (σ1 : gS), r = .inl (m3, σ1) → G (7, [some (.ref 94), some (.int l1), some (.int l2), some (.int m3), none, none, none, none, none, none], [], (gSh, σ1, u))) (K2 : ∀ (σ1 : gS), r = .inr σ1 → G (28, [some (.ref 94), some (.int l1), some (.int l2), none, none, none, none, none, none, none], [], (gSh, σ1, u))) : G (7, [some (.ref 94), some (.int l1), some (.int l2), some (.int l3), none, none, none, none, none, none], [], (gSh, σ, u)) := by
  unfold p_Model_routeSink_7 at hP
  refine gRunN_ok hG.1 3 _ (12, [some (.ref 94), some (.int l1), some (.int l2), some (.int l3), none, none, none, none, none, none], [.int (σ.1 94 8), .int l3], (gSh, σ, u)) rfl ?_
  rcases g_ite hP with ⟨hc, hP⟩ | ⟨hc, hP⟩
  · refine hG.1 _ (28, [some (.ref 94), some (.int l1), some (.int l2), some (.int l3), none, none, none, none, none, none], [], (gSh, σ, u)) _ rfl (if_pos hc) ?_
    refine hG.2.2.2.2.1 _ _ [some (.ref 94), some (.int l1), some (.int l2), none, none, none, none, none, none, none] _ _ ⟨rfl, ⟨rfl, ⟨rfl, trivial⟩⟩⟩ ?_
    cases hP
    exact K2 _ rfl
  · refine hG.1 _ (15, [some (.ref 94), some (.int l1), some (.int l2), some (.int l3), none, none, none, none, none, none], [], (gSh, σ, u)) _ rfl (if_neg hc) ?_
    refine gRunN_ok hG.1 4 _ (21, [some (.ref 94), some (.int l1), some (.int l2), some (.int l3), none, none, none, none, none, none], [.int 0, .int l3, .ref 151], (gSh, σ, u)) rfl ?_
    obtain ⟨hc, hP⟩ := g_if hP
    refine hG.1 _ (22, [some (.ref 94), some (.int l1), some (.int l2), some (.int l3), none, none, none, none, none, none], [], (gSh, (gPut σ 151 l3.toNatClampNeg (vp_nar .boolean 0)), u)) _ rfl (if_pos hc) ?_
    obtain ⟨s3, es3, hP⟩ := g_let hP
    rw [← es3]
    refine gRunN_ok hG.1 1 _ (25, [some (.ref 94), some (.int l1), some (.int l2), some (.int (l3 + 1)), none, none, none, none, none, none], [], (gSh, s3, u)) rfl ?_
    obtain ⟨x4, ex4, hP⟩ := g_let hP
    rw [← ex4]
    refine gRunN_ok hG.1 1 _ (7, [some (.ref 94), some (.int l1), some (.int l2), some (.int x4), none, none, none, none, none, none], [], (gSh, s3, u)) rfl ?_
    cases hP
    exact K1 _ _ rfl
theorem l_Model_routeSink_7 (E : gEv) (d u : Nat) {G : gFr → Prop} {vo : Option Value} {sr : gS} (hG : gClo E gDf gP18 gY251 none (gC E gDf gMs (d + 3)) (vo, (gSh, sr, u)) G) (l1 : Int32) (l2 : Int32) : ∀ (n : Nat) (l3 : Int32) (σ : gS) (e : (gS)), gIter (fun z => p_Model_routeSink_7 E l1 l2 z.1 z.2) n (l3, σ) = some e → (∀ (σ1 : gS), e = σ1 → G (28, [some (.ref 94), some (.int l1), some (.int l2), none, none, none, none, none, none, none], [], (gSh, σ1, u))) → G (7, [some (.ref 94), some (.int l1), some (.int l2), some (.int l3), none, none, none, none, none, none], [], (gSh, σ, u)) := by
  intro n
  induction n with
  | zero => intro l3 σ e h; cases h
  | succ n ih =>
    intro l3 σ e h K2
    rcases g_iter h with ⟨z, h1, h2⟩ | h1
    · exact b_Model_routeSink_7 E d u hG l1 l2 l3 σ h1 (fun n0 n1 hz => by cases hz; exact ih _ _ e h2 K2) (fun _ hz => by cases hz)
    · exact b_Model_routeSink_7 E d u hG l1 l2 l3 σ h1 (fun _ _ hz => by cases hz) (fun σ1 hz => K2 σ1 (by cases hz; rfl))
def p_Model_routeSink_94 (E : gEv) (l1 : Int32) (l2 : Int32) (l3 : Int32) (l4 : Int32) (σ : gS) : Option ((Int32 × Int32) ⊕ (Int32)) :=
  if (σ.1 94 8) ≤ l4 then (some (.inr l3)) else (if gIn l4 (σ.2.1 151) then if (σ.1 151 l4.toNatClampNeg) = 0 then (gLet (l4 + 1) fun x11 => some (.inl (l3, x11))) else (if l3 = ((-1) : Int32) then (gLet (l4 + 1) fun x12 => some (.inl (l4, x12))) else (if gIn l4 (σ.2.1 149) then if gIn l3 (σ.2.1 149) then if 0 ≤ (lg_cmp (σ.2.2 149 l4.toNatClampNeg) (σ.2.2 149 l3.toNatClampNeg)) then (gLet (l4 + 1) fun x13 => some (.inl (l3, x13))) else (gLet (l4 + 1) fun x14 => some (.inl (l4, x14))) else none else none)) else none)
set_option maxRecDepth 20000 in
theorem b_Model_routeSink_94 (E : gEv) (d u : Nat) {G : gFr → Prop} {vo : Option Value} {sr : gS} (hG : gClo E gDf gP18 gY251 none (gC E gDf gMs (d + 3)) (vo, (gSh, sr, u)) G) (l1 : Int32) (l2 : Int32) (l3 : Int32) (l4 : Int32) (σ : gS) {r : (Int32 × Int32) ⊕ (Int32)} (hP : p_Model_routeSink_94 E l1 l2 l3 l4 σ = some r) (K1 : ∀ (m3 : Int32) (m4 : Int32), r = .inl (m3, m4) → G (94, [some (.ref 94), some (.int l1), some (.int l2), some (.int m3), some (.int m4), none, none, none, none, none], [], (gSh, σ, u))) (K2 : ∀ (m3 : Int32), r = .inr m3 → G (144, [some (.ref 94), some (.int l1), some (.int l2), some (.int m3), none, none, none, none, none, none], [], (gSh, σ, u))) : G (94, [some (.ref 94), some (.int l1), some (.int l2), some (.int l3), some (.int l4), none, none, none, none, none], [], (gSh, σ, u)) := by
  unfold p_Model_routeSink_94 at hP
  refine gRunN_ok hG.1 3 _ (100, [some (.ref 94), some (.int l1), some (.int l2), some (.int l3), some (.int l4), none, none, none, none, none], [.int (σ.1 94 8), .int l4], (gSh, σ, u)) rfl ?_
  rcases g_ite hP with ⟨hc, hP⟩ | ⟨hc, hP⟩
  · refine hG.1 _ (144, [some (.ref 94), some (.int l1), some (.int l2), some (.int l3), some (.int l4), none, none, none, none, none], [], (gSh, σ, u)) _ rfl (if_pos hc) ?_
    refine hG.2.2.2.2.1 _ _ [some (.ref 94), some (.int l1), some (.int l2), some (.int l3), none, none, none, none, none, none] _ _ ⟨rfl, ⟨rfl, ⟨rfl, ⟨rfl, trivial⟩⟩⟩⟩ ?_
    cases hP
    exact K2 _ rfl
  · refine hG.1 _ (103, [some (.ref 94), some (.int l1), some (.int l2), some (.int l3), some (.int l4), none, none, none, none, none], [], (gSh, σ, u)) _ rfl (if_neg hc) ?_
    refine gRunN_ok hG.1 3 _ (109, [some (.ref 94), some (.int l1), some (.int l2), some (.int l3), some (.int l4), none, none, none, none, none], [.int l4, .ref 151], (gSh, σ, u)) rfl ?_
    obtain ⟨hc, hP⟩ := g_if hP
    refine hG.1 _ (110, [some (.ref 94), some (.int l1), some (.int l2), some (.int l3), some (.int l4), none, none, none, none, none], [.int (σ.1 151 l4.toNatClampNeg)], (gSh, σ, u)) _ rfl (if_pos hc) ?_
    rcases g_ite hP with ⟨hc, hP⟩ | ⟨hc, hP⟩
    · refine hG.1 _ (138, [some (.ref 94), some (.int l1), some (.int l2), some (.int l3), some (.int l4), none, none, none, none, none], [], (gSh, σ, u)) _ rfl (if_pos hc) ?_
      refine gRunN_ok hG.1 1 _ (141, [some (.ref 94), some (.int l1), some (.int l2), some (.int l3), some (.int (l4 + 1)), none, none, none, none, none], [], (gSh, σ, u)) rfl ?_
      obtain ⟨x11, ex11, hP⟩ := g_let hP
      rw [← ex11]
      refine gRunN_ok hG.1 1 _ (94, [some (.ref 94), some (.int l1), some (.int l2), some (.int l3), some (.int x11), none, none, none, none, none], [], (gSh, σ, u)) rfl ?_
      cases hP
      exact K1 _ _ rfl
    · refine hG.1 _ (113, [some (.ref 94), some (.int l1), some (.int l2), some (.int l3), some (.int l4), none, none, none, none, none], [], (gSh, σ, u)) _ rfl (if_neg hc) ?_
      refine gRunN_ok hG.1 2 _ (115, [some (.ref 94), some (.int l1), some (.int l2), some (.int l3), some (.int l4), none, none, none, none, none], [.int (-1), .int l3], (gSh, σ, u)) rfl ?_
      rcases g_ite hP with ⟨hc, hP⟩ | ⟨hc, hP⟩
      · refine hG.1 _ (135, [some (.ref 94), some (.int l1), some (.int l2), some (.int l3), some (.int l4), none, none, none, none, none], [], (gSh, σ, u)) _ rfl (if_pos hc) ?_
        refine gRunN_ok hG.1 3 _ (141, [some (.ref 94), some (.int l1), some (.int l2), some (.int l4), some (.int (l4 + 1)), none, none, none, none, none], [], (gSh, σ, u)) rfl ?_
        obtain ⟨x12, ex12, hP⟩ := g_let hP
        rw [← ex12]
        refine gRunN_ok hG.1 1 _ (94, [some (.ref 94), some (.int l1), some (.int l2), some (.int l4), some (.int x12), none, none, none, none, none], [], (gSh, σ, u)) rfl ?_
        cases hP
        exact K1 _ _ rfl
      · refine hG.1 _ (118, [some (.ref 94), some (.int l1), some (.int l2), some (.int l3), some (.int l4), none, none, none, none, none], [], (gSh, σ, u)) _ rfl (if_neg hc) ?_
        refine gRunN_ok hG.1 3 _ (124, [some (.ref 94), some (.int l1), some (.int l2), some (.int l3), some (.int l4), none, none, none, none, none], [.int l4, .ref 149], (gSh, σ, u)) rfl ?_
        obtain ⟨hc, hP⟩ := g_if hP
        refine hG.1 _ (125, [some (.ref 94), some (.int l1), some (.int l2), some (.int l3), some (.int l4), none, none, none, none, none], [.long (σ.2.2 149 l4.toNatClampNeg)], (gSh, σ, u)) _ rfl (if_pos hc) ?_
        refine gRunN_ok hG.1 3 _ (130, [some (.ref 94), some (.int l1), some (.int l2), some (.int l3), some (.int l4), none, none, none, none, none], [.int l3, .ref 149, .long (σ.2.2 149 l4.toNatClampNeg)], (gSh, σ, u)) rfl ?_
        obtain ⟨hc, hP⟩ := g_if hP
        refine hG.1 _ (131, [some (.ref 94), some (.int l1), some (.int l2), some (.int l3), some (.int l4), none, none, none, none, none], [.long (σ.2.2 149 l3.toNatClampNeg), .long (σ.2.2 149 l4.toNatClampNeg)], (gSh, σ, u)) _ rfl (if_pos hc) ?_
        refine gRunN_ok hG.1 1 _ (132, [some (.ref 94), some (.int l1), some (.int l2), some (.int l3), some (.int l4), none, none, none, none, none], [.int (lg_cmp (σ.2.2 149 l4.toNatClampNeg) (σ.2.2 149 l3.toNatClampNeg))], (gSh, σ, u)) rfl ?_
        rcases g_ite hP with ⟨hc, hP⟩ | ⟨hc, hP⟩
        · refine hG.1 _ (138, [some (.ref 94), some (.int l1), some (.int l2), some (.int l3), some (.int l4), none, none, none, none, none], [], (gSh, σ, u)) _ rfl (if_pos hc) ?_
          refine gRunN_ok hG.1 1 _ (141, [some (.ref 94), some (.int l1), some (.int l2), some (.int l3), some (.int (l4 + 1)), none, none, none, none, none], [], (gSh, σ, u)) rfl ?_
          obtain ⟨x13, ex13, hP⟩ := g_let hP
          rw [← ex13]
          refine gRunN_ok hG.1 1 _ (94, [some (.ref 94), some (.int l1), some (.int l2), some (.int l3), some (.int x13), none, none, none, none, none], [], (gSh, σ, u)) rfl ?_
          cases hP
          exact K1 _ _ rfl
        · refine hG.1 _ (135, [some (.ref 94), some (.int l1), some (.int l2), some (.int l3), some (.int l4), none, none, none, none, none], [], (gSh, σ, u)) _ rfl (if_neg hc) ?_
          refine gRunN_ok hG.1 3 _ (141, [some (.ref 94), some (.int l1), some (.int l2), some (.int l4), some (.int (l4 + 1)), none, none, none, none, none], [], (gSh, σ, u)) rfl ?_
          obtain ⟨x14, ex14, hP⟩ := g_let hP
          rw [← ex14]
          refine gRunN_ok hG.1 1 _ (94, [some (.ref 94), some (.int l1), some (.int l2), some (.int l4), some (.int x14), none, none, none, none, none], [], (gSh, σ, u)) rfl ?_
          cases hP
          exact K1 _ _ rfl
theorem l_Model_routeSink_94 (E : gEv) (d u : Nat) {G : gFr → Prop} {vo : Option Value} {sr : gS} (hG : gClo E gDf gP18 gY251 none (gC E gDf gMs (d + 3)) (vo, (gSh, sr, u)) G) (l1 : Int32) (l2 : Int32) (σ : gS) : ∀ (n : Nat) (l3 : Int32) (l4 : Int32) (e : (Int32)), gIter (fun z => p_Model_routeSink_94 E l1 l2 z.1 z.2 σ) n (l3, l4) = some e → (∀ (m3 : Int32), e = m3 → G (144, [some (.ref 94), some (.int l1), some (.int l2), some (.int m3), none, none, none, none, none, none], [], (gSh, σ, u))) → G (94, [some (.ref 94), some (.int l1), some (.int l2), some (.int l3), some (.int l4), none, none, none, none, none], [], (gSh, σ, u)) := by
  intro n
  induction n with
  | zero => intro l3 l4 e h; cases h
  | succ n ih =>
    intro l3 l4 e h K2
    rcases g_iter h with ⟨z, h1, h2⟩ | h1
    · exact b_Model_routeSink_94 E d u hG l1 l2 l3 l4 σ h1 (fun n0 n1 hz => by cases hz; exact ih _ _ e h2 K2) (fun _ hz => by cases hz)
    · exact b_Model_routeSink_94 E d u hG l1 l2 l3 l4 σ h1 (fun _ _ hz => by cases hz) (fun m3 hz => K2 m3 (by cases hz; rfl))
def p_Model_routeSink_j340_274 (E : gEv) (l1 : Int32) (l4 : Int32) (l8 : Int32) (l9 : Int32) (σ : gS) : Option ((Int32 × Int32 × Int32) ⊕ (Int32 × Int32)) :=
  if gIn l8 (σ.2.1 139) then gLet (σ.1 139 l8.toNatClampNeg) fun x23 => gLet (l8 + 1) fun x24 => some (.inl (l9, x23, x24)) else none
set_option maxRecDepth 20000 in
theorem j_Model_routeSink_j340_274 (E : gEv) (d u : Nat) {G : gFr → Prop} {vo : Option Value} {sr : gS} (hG : gClo E gDf gP18 gY251 none (gC E gDf gMs (d + 3)) (vo, (gSh, sr, u)) G) (l1 : Int32) (l4 : Int32) (l8 : Int32) (l9 : Int32) (σ : gS) {r : (Int32 × Int32 × Int32) ⊕ (Int32 × Int32)} (hP : p_Model_routeSink_j340_274 E l1 l4 l8 l9 σ = some r) (K1 : ∀ (m6 : Int32) (m7 : Int32) (m8 : Int32), r = .inl (m6, m7, m8) → G (274, [some (.ref 94), some (.int l1), none, none, some (.int l4), none, some (.int m6), some (.int m7), some (.int m8), none], [], (gSh, σ, u))) (K2 : ∀ (m6 : Int32) (m7 : Int32), r = .inr (m6, m7) → G (359, [some (.ref 94), some (.int l1), none, none, none, none, some (.int m6), some (.int m7), none, none], [], (gSh, σ, u))) : G (340, [some (.ref 94), some (.int l1), none, none, some (.int l4), none, none, none, some (.int l8), some (.int l9)], [], (gSh, σ, u)) := by
  unfold p_Model_routeSink_j340_274 at hP
  refine gRunN_ok hG.1 5 _ (350, [some (.ref 94), some (.int l1), none, none, some (.int l4), none, some (.int l9), none, some (.int l8), some (.int l9)], [.int l8, .ref 139], (gSh, σ, u)) rfl ?_
  obtain ⟨hc, hP⟩ := g_if hP
  refine hG.1 _ (351, [some (.ref 94), some (.int l1), none, none, some (.int l4), none, some (.int l9), none, some (.int l8), some (.int l9)], [.int (σ.1 139 l8.toNatClampNeg)], (gSh, σ, u)) _ rfl (if_pos hc) ?_
  refine gRunN_ok hG.1 1 _ (353, [some (.ref 94), some (.int l1), none, none, some (.int l4), none, some (.int l9), some (.int (σ.1 139 l8.toNatClampNeg)), some (.int l8), some (.int l9)], [], (gSh, σ, u)) rfl ?_
  obtain ⟨x23, ex23, hP⟩ := g_let hP
  rw [← ex23]
  refine gRunN_ok hG.1 1 _ (356, [some (.ref 94), some (.int l1), none, none, some (.int l4), none, some (.int l9), some (.int x23), some (.int (l8 + 1)), some (.int l9)], [], (gSh, σ, u)) rfl ?_
  obtain ⟨x24, ex24, hP⟩ := g_let hP
  rw [← ex24]
  refine gRunN_ok hG.1 1 _ (274, [some (.ref 94), some (.int l1), none, none, some (.int l4), none, some (.int l9), some (.int x23), some (.int x24), some (.int l9)], [], (gSh, σ, u)) rfl ?_
  refine hG.2.2.2.2.1 _ _ [some (.ref 94), some (.int l1), none, none, some (.int l4), none, some (.int l9), some (.int x23), some (.int x24), none] _ _ ⟨rfl, ⟨rfl, ⟨rfl, ⟨rfl, ⟨rfl, ⟨rfl, trivial⟩⟩⟩⟩⟩⟩ ?_
  cases hP
  exact K1 _ _ _ rfl
def p_Model_routeSink_274 (E : gEv) (l1 : Int32) (l4 : Int32) (l6 : Int32) (l7 : Int32) (l8 : Int32) (σ : gS) : Option ((Int32 × Int32 × Int32) ⊕ (Int32 × Int32)) :=
  if gIn l4 (σ.2.1 140) then if (((6 : Int32) * l4) + (σ.1 140 l4.toNatClampNeg)) ≤ l8 then (some (.inr (l6, l7))) else (if gIn l8 (σ.2.1 138) then gLet (σ.1 138 l8.toNatClampNeg) fun x22 => if gIn x22 (σ.2.1 149) then if gIn l4 (σ.2.1 149) then if gIn l4 (σ.2.1 148) then if (lg_cmp (σ.2.2 149 x22.toNatClampNeg) ((σ.2.2 149 l4.toNatClampNeg) - (σ.2.2 148 l4.toNatClampNeg))) = 0 then (if l6 = ((-1) : Int32) then (p_Model_routeSink_j340_274 E l1 l4 l8 x22 σ) else (if l6 ≤ x22 then (gLet (l8 + 1) fun x25 => some (.inl (l6, l7, x25))) else (p_Model_routeSink_j340_274 E l1 l4 l8 x22 σ))) else (gLet (l8 + 1) fun x26 => some (.inl (l6, l7, x26))) else none else none else none else none) else none
set_option maxRecDepth 20000 in
theorem b_Model_routeSink_274 (E : gEv) (d u : Nat) {G : gFr → Prop} {vo : Option Value} {sr : gS} (hG : gClo E gDf gP18 gY251 none (gC E gDf gMs (d + 3)) (vo, (gSh, sr, u)) G) (l1 : Int32) (l4 : Int32) (l6 : Int32) (l7 : Int32) (l8 : Int32) (σ : gS) {r : (Int32 × Int32 × Int32) ⊕ (Int32 × Int32)} (hP : p_Model_routeSink_274 E l1 l4 l6 l7 l8 σ = some r) (K1 : ∀ (m6 : Int32) (m7 : Int32) (m8 : Int32), r = .inl (m6, m7, m8) → G (274, [some (.ref 94), some (.int l1), none, none, some (.int l4), none, some (.int m6), some (.int m7), some (.int m8), none], [], (gSh, σ, u))) (K2 : ∀ (m6 : Int32) (m7 : Int32), r = .inr (m6, m7) → G (359, [some (.ref 94), some (.int l1), none, none, none, none, some (.int m6), some (.int m7), none, none], [], (gSh, σ, u))) : G (274, [some (.ref 94), some (.int l1), none, none, some (.int l4), none, some (.int l6), some (.int l7), some (.int l8), none], [], (gSh, σ, u)) := by
  unfold p_Model_routeSink_274 at hP
  refine gRunN_ok hG.1 7 _ (287, [some (.ref 94), some (.int l1), none, none, some (.int l4), none, some (.int l6), some (.int l7), some (.int l8), none], [.int l4, .ref 140, .int ((6 : Int32) * l4), .int l8], (gSh, σ, u)) rfl ?_
  obtain ⟨hc, hP⟩ := g_if hP
  refine hG.1 _ (288, [some (.ref 94), some (.int l1), none, none, some (.int l4), none, some (.int l6), some (.int l7), some (.int l8), none], [.int (σ.1 140 l4.toNatClampNeg), .int ((6 : Int32) * l4), .int l8], (gSh, σ, u)) _ rfl (if_pos hc) ?_
  refine gRunN_ok hG.1 1 _ (289, [some (.ref 94), some (.int l1), none, none, some (.int l4), none, some (.int l6), some (.int l7), some (.int l8), none], [.int (((6 : Int32) * l4) + (σ.1 140 l4.toNatClampNeg)), .int l8], (gSh, σ, u)) rfl ?_
  rcases g_ite hP with ⟨hc, hP⟩ | ⟨hc, hP⟩
  · refine hG.1 _ (359, [some (.ref 94), some (.int l1), none, none, some (.int l4), none, some (.int l6), some (.int l7), some (.int l8), none], [], (gSh, σ, u)) _ rfl (if_pos hc) ?_
    refine hG.2.2.2.2.1 _ _ [some (.ref 94), some (.int l1), none, none, none, none, some (.int l6), some (.int l7), none, none] _ _ ⟨rfl, ⟨rfl, ⟨rfl, ⟨rfl, trivial⟩⟩⟩⟩ ?_
    cases hP
    exact K2 _ _ rfl
  · refine hG.1 _ (292, [some (.ref 94), some (.int l1), none, none, some (.int l4), none, some (.int l6), some (.int l7), some (.int l8), none], [], (gSh, σ, u)) _ rfl (if_neg hc) ?_
    refine gRunN_ok hG.1 3 _ (298, [some (.ref 94), some (.int l1), none, none, some (.int l4), none, some (.int l6), some (.int l7), some (.int l8), none], [.int l8, .ref 138], (gSh, σ, u)) rfl ?_
    obtain ⟨hc, hP⟩ := g_if hP
    refine hG.1 _ (299, [some (.ref 94), some (.int l1), none, none, some (.int l4), none, some (.int l6), some (.int l7), some (.int l8), none], [.int (σ.1 138 l8.toNatClampNeg)], (gSh, σ, u)) _ rfl (if_pos hc) ?_
    refine gRunN_ok hG.1 1 _ (301, [some (.ref 94), some (.int l1), none, none, some (.int l4), none, some (.int l6), some (.int l7), some (.int l8), some (.int (σ.1 138 l8.toNatClampNeg))], [], (gSh, σ, u)) rfl ?_
    obtain ⟨x22, ex22, hP⟩ := g_let hP
    rw [← ex22]
    refine gRunN_ok hG.1 3 _ (307, [some (.ref 94), some (.int l1), none, none, some (.int l4), none, some (.int l6), some (.int l7), some (.int l8), some (.int x22)], [.int x22, .ref 149], (gSh, σ, u)) rfl ?_
    obtain ⟨hc, hP⟩ := g_if hP
    refine hG.1 _ (308, [some (.ref 94), some (.int l1), none, none, some (.int l4), none, some (.int l6), some (.int l7), some (.int l8), some (.int x22)], [.long (σ.2.2 149 x22.toNatClampNeg)], (gSh, σ, u)) _ rfl (if_pos hc) ?_
    refine gRunN_ok hG.1 3 _ (314, [some (.ref 94), some (.int l1), none, none, some (.int l4), none, some (.int l6), some (.int l7), some (.int l8), some (.int x22)], [.int l4, .ref 149, .long (σ.2.2 149 x22.toNatClampNeg)], (gSh, σ, u)) rfl ?_
    obtain ⟨hc, hP⟩ := g_if hP
    refine hG.1 _ (315, [some (.ref 94), some (.int l1), none, none, some (.int l4), none, some (.int l6), some (.int l7), some (.int l8), some (.int x22)], [.long (σ.2.2 149 l4.toNatClampNeg), .long (σ.2.2 149 x22.toNatClampNeg)], (gSh, σ, u)) _ rfl (if_pos hc) ?_
    refine gRunN_ok hG.1 3 _ (321, [some (.ref 94), some (.int l1), none, none, some (.int l4), none, some (.int l6), some (.int l7), some (.int l8), some (.int x22)], [.int l4, .ref 148, .long (σ.2.2 149 l4.toNatClampNeg), .long (σ.2.2 149 x22.toNatClampNeg)], (gSh, σ, u)) rfl ?_
    obtain ⟨hc, hP⟩ := g_if hP
    refine hG.1 _ (322, [some (.ref 94), some (.int l1), none, none, some (.int l4), none, some (.int l6), some (.int l7), some (.int l8), some (.int x22)], [.long (σ.2.2 148 l4.toNatClampNeg), .long (σ.2.2 149 l4.toNatClampNeg), .long (σ.2.2 149 x22.toNatClampNeg)], (gSh, σ, u)) _ rfl (if_pos hc) ?_
    refine gRunN_ok hG.1 2 _ (324, [some (.ref 94), some (.int l1), none, none, some (.int l4), none, some (.int l6), some (.int l7), some (.int l8), some (.int x22)], [.int (lg_cmp (σ.2.2 149 x22.toNatClampNeg) ((σ.2.2 149 l4.toNatClampNeg) - (σ.2.2 148 l4.toNatClampNeg)))], (gSh, σ, u)) rfl ?_
    rcases g_ite hP with ⟨hc, hP⟩ | ⟨hc, hP⟩
    · refine hG.1 _ (327, [some (.ref 94), some (.int l1), none, none, some (.int l4), none, some (.int l6), some (.int l7), some (.int l8), some (.int x22)], [], (gSh, σ, u)) _ rfl (if_pos hc) ?_
      refine gRunN_ok hG.1 2 _ (330, [some (.ref 94), some (.int l1), none, none, some (.int l4), none, some (.int l6), some (.int l7), some (.int l8), some (.int x22)], [.int (-1), .int l6], (gSh, σ, u)) rfl ?_
      rcases g_ite hP with ⟨hc, hP⟩ | ⟨hc, hP⟩
      · refine hG.1 _ (340, [some (.ref 94), some (.int l1), none, none, some (.int l4), none, some (.int l6), some (.int l7), some (.int l8), some (.int x22)], [], (gSh, σ, u)) _ rfl (if_pos hc) ?_
        refine hG.2.2.2.2.1 _ _ [some (.ref 94), some (.int l1), none, none, some (.int l4), none, none, none, some (.int l8), some (.int x22)] _ _ ⟨rfl, ⟨rfl, ⟨rfl, ⟨rfl, ⟨rfl, trivial⟩⟩⟩⟩⟩ ?_
        exact j_Model_routeSink_j340_274 E d u hG l1 l4 l8 x22 σ hP K1 K2
      · refine hG.1 _ (333, [some (.ref 94), some (.int l1), none, none, some (.int l4), none, some (.int l6), some (.int l7), some (.int l8), some (.int x22)], [], (gSh, σ, u)) _ rfl (if_neg hc) ?_
        refine gRunN_ok hG.1 2 _ (337, [some (.ref 94), some (.int l1), none, none, some (.int l4), none, some (.int l6), some (.int l7), some (.int l8), some (.int x22)], [.int l6, .int x22], (gSh, σ, u)) rfl ?_
        rcases g_ite hP with ⟨hc, hP⟩ | ⟨hc, hP⟩
        · refine hG.1 _ (353, [some (.ref 94), some (.int l1), none, none, some (.int l4), none, some (.int l6), some (.int l7), some (.int l8), some (.int x22)], [], (gSh, σ, u)) _ rfl (if_pos hc) ?_
          refine gRunN_ok hG.1 1 _ (356, [some (.ref 94), some (.int l1), none, none, some (.int l4), none, some (.int l6), some (.int l7), some (.int (l8 + 1)), some (.int x22)], [], (gSh, σ, u)) rfl ?_
          obtain ⟨x25, ex25, hP⟩ := g_let hP
          rw [← ex25]
          refine gRunN_ok hG.1 1 _ (274, [some (.ref 94), some (.int l1), none, none, some (.int l4), none, some (.int l6), some (.int l7), some (.int x25), some (.int x22)], [], (gSh, σ, u)) rfl ?_
          refine hG.2.2.2.2.1 _ _ [some (.ref 94), some (.int l1), none, none, some (.int l4), none, some (.int l6), some (.int l7), some (.int x25), none] _ _ ⟨rfl, ⟨rfl, ⟨rfl, ⟨rfl, ⟨rfl, ⟨rfl, trivial⟩⟩⟩⟩⟩⟩ ?_
          cases hP
          exact K1 _ _ _ rfl
        · refine hG.1 _ (340, [some (.ref 94), some (.int l1), none, none, some (.int l4), none, some (.int l6), some (.int l7), some (.int l8), some (.int x22)], [], (gSh, σ, u)) _ rfl (if_neg hc) ?_
          refine hG.2.2.2.2.1 _ _ [some (.ref 94), some (.int l1), none, none, some (.int l4), none, none, none, some (.int l8), some (.int x22)] _ _ ⟨rfl, ⟨rfl, ⟨rfl, ⟨rfl, ⟨rfl, trivial⟩⟩⟩⟩⟩ ?_
          exact j_Model_routeSink_j340_274 E d u hG l1 l4 l8 x22 σ hP K1 K2
    · refine hG.1 _ (353, [some (.ref 94), some (.int l1), none, none, some (.int l4), none, some (.int l6), some (.int l7), some (.int l8), some (.int x22)], [], (gSh, σ, u)) _ rfl (if_neg hc) ?_
      refine gRunN_ok hG.1 1 _ (356, [some (.ref 94), some (.int l1), none, none, some (.int l4), none, some (.int l6), some (.int l7), some (.int (l8 + 1)), some (.int x22)], [], (gSh, σ, u)) rfl ?_
      obtain ⟨x26, ex26, hP⟩ := g_let hP
      rw [← ex26]
      refine gRunN_ok hG.1 1 _ (274, [some (.ref 94), some (.int l1), none, none, some (.int l4), none, some (.int l6), some (.int l7), some (.int x26), some (.int x22)], [], (gSh, σ, u)) rfl ?_
      refine hG.2.2.2.2.1 _ _ [some (.ref 94), some (.int l1), none, none, some (.int l4), none, some (.int l6), some (.int l7), some (.int x26), none] _ _ ⟨rfl, ⟨rfl, ⟨rfl, ⟨rfl, ⟨rfl, ⟨rfl, trivial⟩⟩⟩⟩⟩⟩ ?_
      cases hP
      exact K1 _ _ _ rfl
theorem l_Model_routeSink_274 (E : gEv) (d u : Nat) {G : gFr → Prop} {vo : Option Value} {sr : gS} (hG : gClo E gDf gP18 gY251 none (gC E gDf gMs (d + 3)) (vo, (gSh, sr, u)) G) (l1 : Int32) (l4 : Int32) (σ : gS) : ∀ (n : Nat) (l6 : Int32) (l7 : Int32) (l8 : Int32) (e : (Int32 × Int32)), gIter (fun z => p_Model_routeSink_274 E l1 l4 z.1 z.2.1 z.2.2 σ) n (l6, l7, l8) = some e → (∀ (m6 : Int32) (m7 : Int32), e = (m6, m7) → G (359, [some (.ref 94), some (.int l1), none, none, none, none, some (.int m6), some (.int m7), none, none], [], (gSh, σ, u))) → G (274, [some (.ref 94), some (.int l1), none, none, some (.int l4), none, some (.int l6), some (.int l7), some (.int l8), none], [], (gSh, σ, u)) := by
  intro n
  induction n with
  | zero => intro l6 l7 l8 e h; cases h
  | succ n ih =>
    intro l6 l7 l8 e h K2
    rcases g_iter h with ⟨z, h1, h2⟩ | h1
    · exact b_Model_routeSink_274 E d u hG l1 l4 l6 l7 l8 σ h1 (fun n0 n1 n2 hz => by cases hz; exact ih _ _ _ e h2 K2) (fun _ _ hz => by cases hz)
    · exact b_Model_routeSink_274 E d u hG l1 l4 l6 l7 l8 σ h1 (fun _ _ _ hz => by cases hz) (fun m6 m7 hz => K2 m6 m7 (by cases hz; rfl))
def p_Model_routeSink_j261_169 (E : gEv) (l1 : Int32) (l4 : Int32) (σ : gS) : Option ((Int32 × Int32 × gS) ⊕ (gS)) :=
  gLet ((6 : Int32) * l4) fun x21 => gB1 (gIter (fun z => p_Model_routeSink_274 E l1 l4 z.1 z.2.1 z.2.2 σ) gN ((-1), (-1), x21)) fun e27 => (fun w28 w29 => if gIn l1 (σ.2.1 143) then if gIn (((840 : Int32) * l1) + (σ.1 143 l1.toNatClampNeg)) (σ.2.1 142) then gLet (gPut σ 142 (((840 : Int32) * l1) + (σ.1 143 l1.toNatClampNeg)).toNatClampNeg w29) fun s30 => if gIn l1 (s30.2.1 143) then if gIn l1 (s30.2.1 143) then gLet (gPut s30 143 l1.toNatClampNeg ((s30.1 143 l1.toNatClampNeg) + (1 : Int32))) fun s31 => if gIn (((840 : Int32) * l1) + w28) (s31.2.1 141) then gLet (s31.1 141 (((840 : Int32) * l1) + w28).toNatClampNeg) fun x32 => some (.inl (w28, x32, s31)) else none else none else none else none else none) e27.1 e27.2
set_option maxRecDepth 20000 in
theorem j_Model_routeSink_j261_169 (E : gEv) (d u : Nat) {G : gFr → Prop} {vo : Option Value} {sr : gS} (hG : gClo E gDf gP18 gY251 none (gC E gDf gMs (d + 3)) (vo, (gSh, sr, u)) G) (l1 : Int32) (l4 : Int32) (σ : gS) {r : (Int32 × Int32 × gS) ⊕ (gS)} (hP : p_Model_routeSink_j261_169 E l1 l4 σ = some r) (K1 : ∀ (m4 : Int32) (m5 : Int32) (σ1 : gS), r = .inl (m4, m5, σ1) → G (169, [some (.ref 94), some (.int l1), none, none, some (.int m4), some (.int m5), none, none, none, none], [], (gSh, σ1, u))) (K2 : ∀ (σ1 : gS), r = .inr σ1 → G (410, [none, none, none, none, none, none, none, none, none, none], [], (gSh, σ1, u))) : G (261, [some (.ref 94), some (.int l1), none, none, some (.int l4), none, none, none, none, none], [], (gSh, σ, u)) := by
  unfold p_Model_routeSink_j261_169 at hP
  refine gRunN_ok hG.1 8 _ (274, [some (.ref 94), some (.int l1), none, none, some (.int l4), none, some (.int (-1)), some (.int (-1)), some (.int ((6 : Int32) * l4)), none], [], (gSh, σ, u)) rfl ?_
  obtain ⟨x21, ex21, hP⟩ := g_let hP
  rw [← ex21]
  obtain ⟨e27, hq, hP⟩ := g_b1 hP
  refine l_Model_routeSink_274 E d u hG l1 l4 σ gN (-1) (-1) x21 _ hq (fun w28 w29 he => ?_)
  · subst he
    try dsimp only [gSum] at hP
    refine gRunN_ok hG.1 8 _ (373, [some (.ref 94), some (.int l1), none, none, none, none, some (.int w28), some (.int w29), none, none], [.int l1, .ref 143, .int ((840 : Int32) * l1), .ref 142], (gSh, σ, u)) rfl ?_
    obtain ⟨hc, hP⟩ := g_if hP
    refine hG.1 _ (374, [some (.ref 94), some (.int l1), none, none, none, none, some (.int w28), some (.int w29), none, none], [.int (σ.1 143 l1.toNatClampNeg), .int ((840 : Int32) * l1), .ref 142], (gSh, σ, u)) _ rfl (if_pos hc) ?_
    refine gRunN_ok hG.1 2 _ (377, [some (.ref 94), some (.int l1), none, none, none, none, some (.int w28), some (.int w29), none, none], [.int w29, .int (((840 : Int32) * l1) + (σ.1 143 l1.toNatClampNeg)), .ref 142], (gSh, σ, u)) rfl ?_
    obtain ⟨hc, hP⟩ := g_if hP
    refine hG.1 _ (378, [some (.ref 94), some (.int l1), none, none, none, none, some (.int w28), some (.int w29), none, none], [], (gSh, (gPut σ 142 (((840 : Int32) * l1) + (σ.1 143 l1.toNatClampNeg)).toNatClampNeg w29), u)) _ rfl (if_pos hc) ?_
    obtain ⟨s30, es30, hP⟩ := g_let hP
    rw [← es30]
    refine gRunN_ok hG.1 4 _ (384, [some (.ref 94), some (.int l1), none, none, none, none, some (.int w28), some (.int w29), none, none], [.int l1, .ref 143, .int l1, .ref 143], (gSh, s30, u)) rfl ?_
    obtain ⟨hc, hP⟩ := g_if hP
    refine hG.1 _ (385, [some (.ref 94), some (.int l1), none, none, none, none, some (.int w28), some (.int w29), none, none], [.int (s30.1 143 l1.toNatClampNeg), .int l1, .ref 143], (gSh, s30, u)) _ rfl (if_pos hc) ?_
    refine gRunN_ok hG.1 2 _ (387, [some (.ref 94), some (.int l1), none, none, none, none, some (.int w28), some (.int w29), none, none], [.int ((s30.1 143 l1.toNatClampNeg) + (1 : Int32)), .int l1, .ref 143], (gSh, s30, u)) rfl ?_
    obtain ⟨hc, hP⟩ := g_if hP
    refine hG.1 _ (388, [some (.ref 94), some (.int l1), none, none, none, none, some (.int w28), some (.int w29), none, none], [], (gSh, (gPut s30 143 l1.toNatClampNeg ((s30.1 143 l1.toNatClampNeg) + (1 : Int32))), u)) _ rfl (if_pos hc) ?_
    obtain ⟨s31, es31, hP⟩ := g_let hP
    rw [← es31]
    refine gRunN_ok hG.1 9 _ (404, [some (.ref 94), some (.int l1), none, none, some (.int w28), none, some (.int w28), some (.int w29), none, none], [.int (((840 : Int32) * l1) + w28), .ref 141], (gSh, s31, u)) rfl ?_
    obtain ⟨hc, hP⟩ := g_if hP
    refine hG.1 _ (405, [some (.ref 94), some (.int l1), none, none, some (.int w28), none, some (.int w28), some (.int w29), none, none], [.int (s31.1 141 (((840 : Int32) * l1) + w28).toNatClampNeg)], (gSh, s31, u)) _ rfl (if_pos hc) ?_
    refine gRunN_ok hG.1 1 _ (407, [some (.ref 94), some (.int l1), none, none, some (.int w28), some (.int (s31.1 141 (((840 : Int32) * l1) + w28).toNatClampNeg)), some (.int w28), some (.int w29), none, none], [], (gSh, s31, u)) rfl ?_
    obtain ⟨x32, ex32, hP⟩ := g_let hP
    rw [← ex32]
    refine gRunN_ok hG.1 1 _ (169, [some (.ref 94), some (.int l1), none, none, some (.int w28), some (.int x32), some (.int w28), some (.int w29), none, none], [], (gSh, s31, u)) rfl ?_
    refine hG.2.2.2.2.1 _ _ [some (.ref 94), some (.int l1), none, none, some (.int w28), some (.int x32), none, none, none, none] _ _ ⟨rfl, ⟨rfl, ⟨rfl, ⟨rfl, trivial⟩⟩⟩⟩ ?_
    cases hP
    exact K1 _ _ _ rfl
def p_Model_routeSink_169 (E : gEv) (l1 : Int32) (l4 : Int32) (l5 : Int32) (σ : gS) : Option ((Int32 × Int32 × gS) ⊕ (gS)) :=
  if l5 = 0 then (if gIn (((840 : Int32) * l1) + l4) (σ.2.1 141) then gLet (gPut σ 141 (((840 : Int32) * l1) + l4).toNatClampNeg (vp_nar .boolean 1)) fun s19 => if gIn l4 (s19.2.1 147) then if gIn l4 (s19.2.1 147) then gLet (gPut s19 147 l4.toNatClampNeg ((s19.1 147 l4.toNatClampNeg) + (1 : Int32))) fun s20 => if gIn l4 (s20.2.1 150) then if (s20.1 150 l4.toNatClampNeg) = 0 then (p_Model_routeSink_j261_169 E l1 l4 s20) else (if gIn l4 (s20.2.1 149) then if gIn l4 (s20.2.1 148) then if (lg_cmp (s20.2.2 149 l4.toNatClampNeg) (s20.2.2 148 l4.toNatClampNeg)) = 0 then (if gIn l1 (s20.2.1 145) then if gIn (((50 : Int32) * l1) + (s20.1 145 l1.toNatClampNeg)) (s20.2.1 144) then gLet (gPut s20 144 (((50 : Int32) * l1) + (s20.1 145 l1.toNatClampNeg)).toNatClampNeg l4) fun s33 => if gIn l1 (s33.2.1 145) then if gIn l1 (s33.2.1 145) then gLet (gPut s33 145 l1.toNatClampNeg ((s33.1 145 l1.toNatClampNeg) + (1 : Int32))) fun s34 => some (.inl (l4, 1, s34)) else none else none else none else none) else (p_Model_routeSink_j261_169 E l1 l4 s20) else none else none) else none else none else none else none) else (some (.inr σ))
set_option maxRecDepth 20000 in
theorem b_Model_routeSink_169 (E : gEv) (d u : Nat) {G : gFr → Prop} {vo : Option Value} {sr : gS} (hG : gClo E gDf gP18 gY251 none (gC E gDf gMs (d + 3)) (vo, (gSh, sr, u)) G) (l1 : Int32) (l4 : Int32) (l5 : Int32) (σ : gS) {r : (Int32 × Int32 × gS) ⊕ (gS)} (hP : p_Model_routeSink_169 E l1 l4 l5 σ = some r) (K1 : ∀ (m4 : Int32) (m5 : Int32) (σ1 : gS), r = .inl (m4, m5, σ1) → G (169, [some (.ref 94), some (.int l1), none, none, some (.int m4), some (.int m5), none, none, none, none], [], (gSh, σ1, u))) (K2 : ∀ (σ1 : gS), r = .inr σ1 → G (410, [none, none, none, none, none, none, none, none, none, none], [], (gSh, σ1, u))) : G (169, [some (.ref 94), some (.int l1), none, none, some (.int l4), some (.int l5), none, none, none, none], [], (gSh, σ, u)) := by
  unfold p_Model_routeSink_169 at hP
  refine gRunN_ok hG.1 1 _ (171, [some (.ref 94), some (.int l1), none, none, some (.int l4), some (.int l5), none, none, none, none], [.int l5], (gSh, σ, u)) rfl ?_
  rcases g_ite hP with ⟨hc, hP⟩ | ⟨hc, hP⟩
  · refine hG.1 _ (174, [some (.ref 94), some (.int l1), none, none, some (.int l4), some (.int l5), none, none, none, none], [], (gSh, σ, u)) _ rfl (if_pos hc) ?_
    refine gRunN_ok hG.1 8 _ (187, [some (.ref 94), some (.int l1), none, none, some (.int l4), some (.int l5), none, none, none, none], [.int 1, .int (((840 : Int32) * l1) + l4), .ref 141], (gSh, σ, u)) rfl ?_
    obtain ⟨hc, hP⟩ := g_if hP
    refine hG.1 _ (188, [some (.ref 94), some (.int l1), none, none, some (.int l4), some (.int l5), none, none, none, none], [], (gSh, (gPut σ 141 (((840 : Int32) * l1) + l4).toNatClampNeg (vp_nar .boolean 1)), u)) _ rfl (if_pos hc) ?_
    obtain ⟨s19, es19, hP⟩ := g_let hP
    rw [← es19]
    refine gRunN_ok hG.1 4 _ (195, [some (.ref 94), some (.int l1), none, none, some (.int l4), some (.int l5), none, none, none, none], [.int l4, .ref 147, .int l4, .ref 147], (gSh, s19, u)) rfl ?_
    obtain ⟨hc, hP⟩ := g_if hP
    refine hG.1 _ (196, [some (.ref 94), some (.int l1), none, none, some (.int l4), some (.int l5), none, none, none, none], [.int (s19.1 147 l4.toNatClampNeg), .int l4, .ref 147], (gSh, s19, u)) _ rfl (if_pos hc) ?_
    refine gRunN_ok hG.1 2 _ (198, [some (.ref 94), some (.int l1), none, none, some (.int l4), some (.int l5), none, none, none, none], [.int ((s19.1 147 l4.toNatClampNeg) + (1 : Int32)), .int l4, .ref 147], (gSh, s19, u)) rfl ?_
    obtain ⟨hc, hP⟩ := g_if hP
    refine hG.1 _ (199, [some (.ref 94), some (.int l1), none, none, some (.int l4), some (.int l5), none, none, none, none], [], (gSh, (gPut s19 147 l4.toNatClampNeg ((s19.1 147 l4.toNatClampNeg) + (1 : Int32))), u)) _ rfl (if_pos hc) ?_
    obtain ⟨s20, es20, hP⟩ := g_let hP
    rw [← es20]
    refine gRunN_ok hG.1 3 _ (205, [some (.ref 94), some (.int l1), none, none, some (.int l4), some (.int l5), none, none, none, none], [.int l4, .ref 150], (gSh, s20, u)) rfl ?_
    obtain ⟨hc, hP⟩ := g_if hP
    refine hG.1 _ (206, [some (.ref 94), some (.int l1), none, none, some (.int l4), some (.int l5), none, none, none, none], [.int (s20.1 150 l4.toNatClampNeg)], (gSh, s20, u)) _ rfl (if_pos hc) ?_
    rcases g_ite hP with ⟨hc, hP⟩ | ⟨hc, hP⟩
    · refine hG.1 _ (261, [some (.ref 94), some (.int l1), none, none, some (.int l4), some (.int l5), none, none, none, none], [], (gSh, s20, u)) _ rfl (if_pos hc) ?_
      refine hG.2.2.2.2.1 _ _ [some (.ref 94), some (.int l1), none, none, some (.int l4), none, none, none, none, none] _ _ ⟨rfl, ⟨rfl, ⟨rfl, trivial⟩⟩⟩ ?_
      exact j_Model_routeSink_j261_169 E d u hG l1 l4 s20 hP K1 K2
    · refine hG.1 _ (209, [some (.ref 94), some (.int l1), none, none, some (.int l4), some (.int l5), none, none, none, none], [], (gSh, s20, u)) _ rfl (if_neg hc) ?_
      refine gRunN_ok hG.1 3 _ (215, [some (.ref 94), some (.int l1), none, none, some (.int l4), some (.int l5), none, none, none, none], [.int l4, .ref 149], (gSh, s20, u)) rfl ?_
      obtain ⟨hc, hP⟩ := g_if hP
      refine hG.1 _ (216, [some (.ref 94), some (.int l1), none, none, some (.int l4), some (.int l5), none, none, none, none], [.long (s20.2.2 149 l4.toNatClampNeg)], (gSh, s20, u)) _ rfl (if_pos hc) ?_
      refine gRunN_ok hG.1 3 _ (222, [some (.ref 94), some (.int l1), none, none, some (.int l4), some (.int l5), none, none, none, none], [.int l4, .ref 148, .long (s20.2.2 149 l4.toNatClampNeg)], (gSh, s20, u)) rfl ?_
      obtain ⟨hc, hP⟩ := g_if hP
      refine hG.1 _ (223, [some (.ref 94), some (.int l1), none, none, some (.int l4), some (.int l5), none, none, none, none], [.long (s20.2.2 148 l4.toNatClampNeg), .long (s20.2.2 149 l4.toNatClampNeg)], (gSh, s20, u)) _ rfl (if_pos hc) ?_
      refine gRunN_ok hG.1 1 _ (224, [some (.ref 94), some (.int l1), none, none, some (.int l4), some (.int l5), none, none, none, none], [.int (lg_cmp (s20.2.2 149 l4.toNatClampNeg) (s20.2.2 148 l4.toNatClampNeg))], (gSh, s20, u)) rfl ?_
      rcases g_ite hP with ⟨hc, hP⟩ | ⟨hc, hP⟩
      · refine hG.1 _ (227, [some (.ref 94), some (.int l1), none, none, some (.int l4), some (.int l5), none, none, none, none], [], (gSh, s20, u)) _ rfl (if_pos hc) ?_
        refine gRunN_ok hG.1 8 _ (240, [some (.ref 94), some (.int l1), none, none, some (.int l4), some (.int l5), none, none, none, none], [.int l1, .ref 145, .int ((50 : Int32) * l1), .ref 144], (gSh, s20, u)) rfl ?_
        obtain ⟨hc, hP⟩ := g_if hP
        refine hG.1 _ (241, [some (.ref 94), some (.int l1), none, none, some (.int l4), some (.int l5), none, none, none, none], [.int (s20.1 145 l1.toNatClampNeg), .int ((50 : Int32) * l1), .ref 144], (gSh, s20, u)) _ rfl (if_pos hc) ?_
        refine gRunN_ok hG.1 2 _ (244, [some (.ref 94), some (.int l1), none, none, some (.int l4), some (.int l5), none, none, none, none], [.int l4, .int (((50 : Int32) * l1) + (s20.1 145 l1.toNatClampNeg)), .ref 144], (gSh, s20, u)) rfl ?_
        obtain ⟨hc, hP⟩ := g_if hP
        refine hG.1 _ (245, [some (.ref 94), some (.int l1), none, none, some (.int l4), some (.int l5), none, none, none, none], [], (gSh, (gPut s20 144 (((50 : Int32) * l1) + (s20.1 145 l1.toNatClampNeg)).toNatClampNeg l4), u)) _ rfl (if_pos hc) ?_
        obtain ⟨s33, es33, hP⟩ := g_let hP
        rw [← es33]
        refine gRunN_ok hG.1 4 _ (251, [some (.ref 94), some (.int l1), none, none, some (.int l4), some (.int l5), none, none, none, none], [.int l1, .ref 145, .int l1, .ref 145], (gSh, s33, u)) rfl ?_
        obtain ⟨hc, hP⟩ := g_if hP
        refine hG.1 _ (252, [some (.ref 94), some (.int l1), none, none, some (.int l4), some (.int l5), none, none, none, none], [.int (s33.1 145 l1.toNatClampNeg), .int l1, .ref 145], (gSh, s33, u)) _ rfl (if_pos hc) ?_
        refine gRunN_ok hG.1 2 _ (254, [some (.ref 94), some (.int l1), none, none, some (.int l4), some (.int l5), none, none, none, none], [.int ((s33.1 145 l1.toNatClampNeg) + (1 : Int32)), .int l1, .ref 145], (gSh, s33, u)) rfl ?_
        obtain ⟨hc, hP⟩ := g_if hP
        refine hG.1 _ (255, [some (.ref 94), some (.int l1), none, none, some (.int l4), some (.int l5), none, none, none, none], [], (gSh, (gPut s33 145 l1.toNatClampNeg ((s33.1 145 l1.toNatClampNeg) + (1 : Int32))), u)) _ rfl (if_pos hc) ?_
        obtain ⟨s34, es34, hP⟩ := g_let hP
        rw [← es34]
        refine gRunN_ok hG.1 3 _ (169, [some (.ref 94), some (.int l1), none, none, some (.int l4), some (.int 1), none, none, none, none], [], (gSh, s34, u)) rfl ?_
        cases hP
        exact K1 _ _ _ rfl
      · refine hG.1 _ (261, [some (.ref 94), some (.int l1), none, none, some (.int l4), some (.int l5), none, none, none, none], [], (gSh, s20, u)) _ rfl (if_neg hc) ?_
        refine hG.2.2.2.2.1 _ _ [some (.ref 94), some (.int l1), none, none, some (.int l4), none, none, none, none, none] _ _ ⟨rfl, ⟨rfl, ⟨rfl, trivial⟩⟩⟩ ?_
        exact j_Model_routeSink_j261_169 E d u hG l1 l4 s20 hP K1 K2
  · refine hG.1 _ (410, [some (.ref 94), some (.int l1), none, none, some (.int l4), some (.int l5), none, none, none, none], [], (gSh, σ, u)) _ rfl (if_neg hc) ?_
    refine hG.2.2.2.2.1 _ _ [none, none, none, none, none, none, none, none, none, none] _ _ trivial ?_
    cases hP
    exact K2 _ rfl
theorem l_Model_routeSink_169 (E : gEv) (d u : Nat) {G : gFr → Prop} {vo : Option Value} {sr : gS} (hG : gClo E gDf gP18 gY251 none (gC E gDf gMs (d + 3)) (vo, (gSh, sr, u)) G) (l1 : Int32) : ∀ (n : Nat) (l4 : Int32) (l5 : Int32) (σ : gS) (e : (gS)), gIter (fun z => p_Model_routeSink_169 E l1 z.1 z.2.1 z.2.2) n (l4, l5, σ) = some e → (∀ (σ1 : gS), e = σ1 → G (410, [none, none, none, none, none, none, none, none, none, none], [], (gSh, σ1, u))) → G (169, [some (.ref 94), some (.int l1), none, none, some (.int l4), some (.int l5), none, none, none, none], [], (gSh, σ, u)) := by
  intro n
  induction n with
  | zero => intro l4 l5 σ e h; cases h
  | succ n ih =>
    intro l4 l5 σ e h K2
    rcases g_iter h with ⟨z, h1, h2⟩ | h1
    · exact b_Model_routeSink_169 E d u hG l1 l4 l5 σ h1 (fun n0 n1 n2 hz => by cases hz; exact ih _ _ _ e h2 K2) (fun _ hz => by cases hz)
    · exact b_Model_routeSink_169 E d u hG l1 l4 l5 σ h1 (fun _ _ _ hz => by cases hz) (fun σ1 hz => K2 σ1 (by cases hz; rfl))
def p_Model_routeSink_j89 (E : gEv) (l1 : Int32) (l2 : Int32) (σ : gS) : Option (gS) :=
  gB1 (gIter (fun z => p_Model_routeSink_94 E l1 l2 z.1 z.2 σ) gN ((-1), 0)) fun e15 => (fun w16 => if gIn l2 (σ.2.1 132) then gLet (gPut σ 132 l2.toNatClampNeg w16) fun s17 => if gIn (((840 : Int32) * l1) + w16) (s17.2.1 141) then gLet (s17.1 141 (((840 : Int32) * l1) + w16).toNatClampNeg) fun x18 => gB1 (gIter (fun z => p_Model_routeSink_169 E l1 z.1 z.2.1 z.2.2) gN (w16, x18, s17)) fun e35 => (fun s36 => some s36) e35 else none else none) e15
set_option maxRecDepth 20000 in
theorem j_Model_routeSink_j89 (E : gEv) (d u : Nat) {G : gFr → Prop} {sr : gS} (hG : gClo E gDf gP18 gY251 none (gC E gDf gMs (d + 3)) (none, (gSh, sr, u)) G) (l1 : Int32) (l2 : Int32) (σ : gS) (hP : p_Model_routeSink_j89 E l1 l2 σ = some sr) : G (89, [some (.ref 94), some (.int l1), some (.int l2), none, none, none, none, none, none, none], [], (gSh, σ, u)) := by
  unfold p_Model_routeSink_j89 at hP
  refine gRunN_ok hG.1 4 _ (94, [some (.ref 94), some (.int l1), some (.int l2), some (.int (-1)), some (.int 0), none, none, none, none, none], [], (gSh, σ, u)) rfl ?_
  obtain ⟨e15, hq, hP⟩ := g_b1 hP
  refine l_Model_routeSink_94 E d u hG l1 l2 σ gN (-1) 0 _ hq (fun w16 he => ?_)
  · replace he := he.symm
    subst he
    try dsimp only [gSum] at hP
    refine gRunN_ok hG.1 4 _ (150, [some (.ref 94), some (.int l1), some (.int l2), some (.int w16), none, none, none, none, none, none], [.int w16, .int l2, .ref 132], (gSh, σ, u)) rfl ?_
    obtain ⟨hc, hP⟩ := g_if hP
    refine hG.1 _ (151, [some (.ref 94), some (.int l1), some (.int l2), some (.int w16), none, none, none, none, none, none], [], (gSh, (gPut σ 132 l2.toNatClampNeg w16), u)) _ rfl (if_pos hc) ?_
    obtain ⟨s17, es17, hP⟩ := g_let hP
    rw [← es17]
    refine gRunN_ok hG.1 9 _ (166, [some (.ref 94), some (.int l1), some (.int l2), some (.int w16), some (.int w16), none, none, none, none, none], [.int (((840 : Int32) * l1) + w16), .ref 141], (gSh, s17, u)) rfl ?_
    obtain ⟨hc, hP⟩ := g_if hP
    refine hG.1 _ (167, [some (.ref 94), some (.int l1), some (.int l2), some (.int w16), some (.int w16), none, none, none, none, none], [.int (s17.1 141 (((840 : Int32) * l1) + w16).toNatClampNeg)], (gSh, s17, u)) _ rfl (if_pos hc) ?_
    refine gRunN_ok hG.1 1 _ (169, [some (.ref 94), some (.int l1), some (.int l2), some (.int w16), some (.int w16), some (.int (s17.1 141 (((840 : Int32) * l1) + w16).toNatClampNeg)), none, none, none, none], [], (gSh, s17, u)) rfl ?_
    obtain ⟨x18, ex18, hP⟩ := g_let hP
    rw [← ex18]
    refine hG.2.2.2.2.1 _ _ [some (.ref 94), some (.int l1), none, none, some (.int w16), some (.int x18), none, none, none, none] _ _ ⟨rfl, ⟨rfl, ⟨rfl, ⟨rfl, trivial⟩⟩⟩⟩ ?_
    obtain ⟨e35, hq, hP⟩ := g_b1 hP
    refine l_Model_routeSink_169 E d u hG l1 gN w16 x18 s17 _ hq (fun s36 he => ?_)
    · replace he := he.symm
      subst he
      try dsimp only [gSum] at hP
      cases hP
      exact hG.2.1 _ _ rfl rfl
def p_Model_routeSink (E : gEv) (a0 : Int32) (a1 : Int32) (σ : gS) : Option (gS) :=
  gB1 (p_Model_distances E a0 σ) fun s2 => gB1 (gIter (fun z => p_Model_routeSink_7 E a0 a1 z.1 z.2) gN (0, s2)) fun e5 => (fun s6 => if gIn a1 (s6.2.1 131) then if (s6.1 131 a1.toNatClampNeg) < (1000 : Int32) then (if gIn a1 (s6.2.1 131) then gB1 (p_Model_tileOf E ((s6.1 131 a1.toNatClampNeg) / (4 : Int32)) s6) fun v7 => gB1 (p_Model_touchTile E 151 v7 s6) fun s10 => p_Model_routeSink_j89 E a0 a1 s10 else none) else (if gIn a1 (s6.2.1 131) then gB1 (p_Model_padOf E (((200 : Int32) + (s6.1 131 a1.toNatClampNeg)) - (1000 : Int32)) s6) fun v37 => gB1 (p_Model_touchPad E 151 v37 s6) fun s40 => p_Model_routeSink_j89 E a0 a1 s40 else none) else none) e5
set_option maxRecDepth 20000 in
theorem c_Model_routeSink (E : gEv) (d u : Nat) (a0 : Int32) (a1 : Int32) (σ : gS) {sr : gS}  (hq : p_Model_routeSink E a0 a1 σ = some sr) : gC E gDf gMs (d + 4) 251 [.ref 94, .int a0, .int a1] (gSh, σ, u) (none, (gSh, sr, u)) := ⟨gM251, rfl, Nat.le_of_ble_eq_true rfl, fun G hG => by
  have hP := hq
  unfold p_Model_routeSink at hP
  replace hG : gClo E gDf gP18 gY251 none (gC E gDf gMs (d + 3)) (none, (gSh, sr, u)) G := hG
  show G (0, [some (.ref 94), some (.int a0), some (.int a1), none, none, none, none, none, none, none], [], (gSh, σ, u))
  refine gRunN_ok hG.1 2 _ (2, [some (.ref 94), some (.int a0), some (.int a1), none, none, none, none, none, none, none], [.int a0, .ref 94], (gSh, σ, u)) rfl ?_
  obtain ⟨s2, hq, hP⟩ := g_b1 hP
  refine hG.2.2.2.1 _ _ _ [.ref 94, .int a0] [] _ (gSh, s2, u) none _ _ _ _ _ _ rfl rfl rfl rfl rfl rfl (c_Model_distances E (d + 2) u a0 _  hq) (Nat.le_refl _) (Nat.le_refl _) (Nat.le_refl _) (Nat.le_refl _) ?_
  show G (5, [some (.ref 94), some (.int a0), some (.int a1), none, none, none, none, none, none, none], [], (gSh, s2, u))
  refine gRunN_ok hG.1 2 _ (7, [some (.ref 94), some (.int a0), some (.int a1), some (.int 0), none, none, none, none, none, none], [], (gSh, s2, u)) rfl ?_
  obtain ⟨e5, hq, hP⟩ := g_b1 hP
  refine l_Model_routeSink_7 E d u hG a0 a1 gN 0 s2 _ hq (fun s6 he => ?_)
  · replace he := he.symm
    subst he
    try dsimp only [gSum] at hP
    refine gRunN_ok hG.1 3 _ (33, [some (.ref 94), some (.int a0), some (.int a1), none, none, none, none, none, none, none], [.int a1, .ref 131], (gSh, s6, u)) rfl ?_
    obtain ⟨hc, hP⟩ := g_if hP
    refine hG.1 _ (34, [some (.ref 94), some (.int a0), some (.int a1), none, none, none, none, none, none, none], [.int (s6.1 131 a1.toNatClampNeg)], (gSh, s6, u)) _ rfl (if_pos hc) ?_
    refine gRunN_ok hG.1 1 _ (37, [some (.ref 94), some (.int a0), some (.int a1), none, none, none, none, none, none, none], [.int 1000, .int (s6.1 131 a1.toNatClampNeg)], (gSh, s6, u)) rfl ?_
    rcases g_ite hP with ⟨hc, hP⟩ | ⟨hc, hP⟩
    · refine hG.1 _ (69, [some (.ref 94), some (.int a0), some (.int a1), none, none, none, none, none, none, none], [], (gSh, s6, u)) _ rfl (if_pos hc) ?_
      refine gRunN_ok hG.1 7 _ (80, [some (.ref 94), some (.int a0), some (.int a1), none, none, none, none, none, none, none], [.int a1, .ref 131, .ref 94, .ref 151, .ref 94], (gSh, s6, u)) rfl ?_
      obtain ⟨hc, hP⟩ := g_if hP
      refine hG.1 _ (81, [some (.ref 94), some (.int a0), some (.int a1), none, none, none, none, none, none, none], [.int (s6.1 131 a1.toNatClampNeg), .ref 94, .ref 151, .ref 94], (gSh, s6, u)) _ rfl (if_pos hc) ?_
      refine gRunN_ok hG.1 2 _ (83, [some (.ref 94), some (.int a0), some (.int a1), none, none, none, none, none, none, none], [.int ((s6.1 131 a1.toNatClampNeg) / (4 : Int32)), .ref 94, .ref 151, .ref 94], (gSh, s6, u)) rfl ?_
      obtain ⟨v7, hq, hP⟩ := g_b1 hP
      refine hG.2.2.2.1 _ _ _ [.ref 94, .int ((s6.1 131 a1.toNatClampNeg) / (4 : Int32))] [.ref 151, .ref 94] _ (gSh, s6, u) (some (.int v7)) _ _ _ _ _ _ rfl rfl rfl rfl rfl rfl (c_Model_tileOf E (d + 2) u ((s6.1 131 a1.toNatClampNeg) / (4 : Int32)) _  hq) (Nat.le_refl _) (Nat.le_refl _) (Nat.le_refl _) (Nat.le_refl _) ?_
      show G (86, [some (.ref 94), some (.int a0), some (.int a1), none, none, none, none, none, none, none], [.int v7, .ref 151, .ref 94], (gSh, s6, u))
      obtain ⟨s10, hq, hP⟩ := g_b1 hP
      refine hG.2.2.2.1 _ _ _ [.ref 94, .ref 151, .int v7] [] _ (gSh, s10, u) none _ _ _ _ _ _ rfl rfl rfl rfl rfl rfl (c_Model_touchTile E (d + 0) u 151 v7 _ rfl hq) (Nat.le_refl _) (Nat.le_refl _) (Nat.le_refl _) (Nat.le_refl _) ?_
      show G (89, [some (.ref 94), some (.int a0), some (.int a1), none, none, none, none, none, none, none], [], (gSh, s10, u))
      exact j_Model_routeSink_j89 E d u hG a0 a1 s10 hP
    · refine hG.1 _ (40, [some (.ref 94), some (.int a0), some (.int a1), none, none, none, none, none, none, none], [], (gSh, s6, u)) _ rfl (if_neg hc) ?_
      refine gRunN_ok hG.1 8 _ (54, [some (.ref 94), some (.int a0), some (.int a1), none, none, none, none, none, none, none], [.int a1, .ref 131, .int 200, .ref 94, .ref 151, .ref 94], (gSh, s6, u)) rfl ?_
      obtain ⟨hc, hP⟩ := g_if hP
      refine hG.1 _ (55, [some (.ref 94), some (.int a0), some (.int a1), none, none, none, none, none, none, none], [.int (s6.1 131 a1.toNatClampNeg), .int 200, .ref 94, .ref 151, .ref 94], (gSh, s6, u)) _ rfl (if_pos hc) ?_
      refine gRunN_ok hG.1 3 _ (60, [some (.ref 94), some (.int a0), some (.int a1), none, none, none, none, none, none, none], [.int (((200 : Int32) + (s6.1 131 a1.toNatClampNeg)) - (1000 : Int32)), .ref 94, .ref 151, .ref 94], (gSh, s6, u)) rfl ?_
      obtain ⟨v37, hq, hP⟩ := g_b1 hP
      refine hG.2.2.2.1 _ _ _ [.ref 94, .int (((200 : Int32) + (s6.1 131 a1.toNatClampNeg)) - (1000 : Int32))] [.ref 151, .ref 94] _ (gSh, s6, u) (some (.int v37)) _ _ _ _ _ _ rfl rfl rfl rfl rfl rfl (c_Model_padOf E (d + 2) u (((200 : Int32) + (s6.1 131 a1.toNatClampNeg)) - (1000 : Int32)) _  hq) (Nat.le_refl _) (Nat.le_refl _) (Nat.le_refl _) (Nat.le_refl _) ?_
      show G (63, [some (.ref 94), some (.int a0), some (.int a1), none, none, none, none, none, none, none], [.int v37, .ref 151, .ref 94], (gSh, s6, u))
      obtain ⟨s40, hq, hP⟩ := g_b1 hP
      refine hG.2.2.2.1 _ _ _ [.ref 94, .ref 151, .int v37] [] _ (gSh, s40, u) none _ _ _ _ _ _ rfl rfl rfl rfl rfl rfl (c_Model_touchPad E (d + 0) u 151 v37 _ rfl hq) (Nat.le_refl _) (Nat.le_refl _) (Nat.le_refl _) (Nat.le_refl _) ?_
      show G (66, [some (.ref 94), some (.int a0), some (.int a1), none, none, none, none, none, none, none], [], (gSh, s40, u))
      refine gRunN_ok hG.1 1 _ (89, [some (.ref 94), some (.int a0), some (.int a1), none, none, none, none, none, none, none], [], (gSh, s40, u)) rfl ?_
      exact j_Model_routeSink_j89 E d u hG a0 a1 s40 hP⟩
def p_Model_burnBits_2 (E : gEv) (l1 : Int32) (σ : gS) : Option ((Int32 × gS) ⊕ (gS)) :=
  if (σ.1 94 13) ≤ l1 then (some (.inr σ)) else (if gIn l1 (σ.2.1 154) then gLet (gPut σ 154 l1.toNatClampNeg (vp_nar .boolean 0)) fun s1 => gLet (l1 + 1) fun x2 => some (.inl (x2, s1)) else none)
set_option maxRecDepth 20000 in
theorem b_Model_burnBits_2 (E : gEv) (d u : Nat) {G : gFr → Prop} {vo : Option Value} {sr : gS} (hG : gClo E gDf gP18 gY256 none (gC E gDf gMs (d + 3)) (vo, (gSh, sr, u)) G) (l1 : Int32) (σ : gS) {r : (Int32 × gS) ⊕ (gS)} (hP : p_Model_burnBits_2 E l1 σ = some r) (K1 : ∀ (m1 : Int32) (σ1 : gS), r = .inl (m1, σ1) → G (2, [some (.ref 94), some (.int m1), none, none, none, none], [], (gSh, σ1, u))) (K2 : ∀ (σ1 : gS), r = .inr σ1 → G (23, [some (.ref 94), none, none, none, none, none], [], (gSh, σ1, u))) : G (2, [some (.ref 94), some (.int l1), none, none, none, none], [], (gSh, σ, u)) := by
  unfold p_Model_burnBits_2 at hP
  refine gRunN_ok hG.1 3 _ (7, [some (.ref 94), some (.int l1), none, none, none, none], [.int (σ.1 94 13), .int l1], (gSh, σ, u)) rfl ?_
  rcases g_ite hP with ⟨hc, hP⟩ | ⟨hc, hP⟩
  · refine hG.1 _ (23, [some (.ref 94), some (.int l1), none, none, none, none], [], (gSh, σ, u)) _ rfl (if_pos hc) ?_
    refine hG.2.2.2.2.1 _ _ [some (.ref 94), none, none, none, none, none] _ _ ⟨rfl, trivial⟩ ?_
    cases hP
    exact K2 _ rfl
  · refine hG.1 _ (10, [some (.ref 94), some (.int l1), none, none, none, none], [], (gSh, σ, u)) _ rfl (if_neg hc) ?_
    refine gRunN_ok hG.1 4 _ (16, [some (.ref 94), some (.int l1), none, none, none, none], [.int 0, .int l1, .ref 154], (gSh, σ, u)) rfl ?_
    obtain ⟨hc, hP⟩ := g_if hP
    refine hG.1 _ (17, [some (.ref 94), some (.int l1), none, none, none, none], [], (gSh, (gPut σ 154 l1.toNatClampNeg (vp_nar .boolean 0)), u)) _ rfl (if_pos hc) ?_
    obtain ⟨s1, es1, hP⟩ := g_let hP
    rw [← es1]
    refine gRunN_ok hG.1 1 _ (20, [some (.ref 94), some (.int (l1 + 1)), none, none, none, none], [], (gSh, s1, u)) rfl ?_
    obtain ⟨x2, ex2, hP⟩ := g_let hP
    rw [← ex2]
    refine gRunN_ok hG.1 1 _ (2, [some (.ref 94), some (.int x2), none, none, none, none], [], (gSh, s1, u)) rfl ?_
    cases hP
    exact K1 _ _ rfl
theorem l_Model_burnBits_2 (E : gEv) (d u : Nat) {G : gFr → Prop} {vo : Option Value} {sr : gS} (hG : gClo E gDf gP18 gY256 none (gC E gDf gMs (d + 3)) (vo, (gSh, sr, u)) G) : ∀ (n : Nat) (l1 : Int32) (σ : gS) (e : (gS)), gIter (fun z => p_Model_burnBits_2 E z.1 z.2) n (l1, σ) = some e → (∀ (σ1 : gS), e = σ1 → G (23, [some (.ref 94), none, none, none, none, none], [], (gSh, σ1, u))) → G (2, [some (.ref 94), some (.int l1), none, none, none, none], [], (gSh, σ, u)) := by
  intro n
  induction n with
  | zero => intro l1 σ e h; cases h
  | succ n ih =>
    intro l1 σ e h K2
    rcases g_iter h with ⟨z, h1, h2⟩ | h1
    · exact b_Model_burnBits_2 E d u hG l1 σ h1 (fun n0 n1 hz => by cases hz; exact ih _ _ e h2 K2) (fun _ hz => by cases hz)
    · exact b_Model_burnBits_2 E d u hG l1 σ h1 (fun _ _ hz => by cases hz) (fun σ1 hz => K2 σ1 (by cases hz; rfl))
def p_Model_burnBits_j184_117 (E : gEv) (l1 : Int32) (l2 : Int32) (l3 : Int32) (y1 : Int32) (y2 : Int32) (y3 : Int32) (σ : gS) : Option ((Int32 × gS) ⊕ (gS)) :=
  gB1 (p_Model_number E y1 y2 y3 σ) fun s12 => gLet (l3 + 1) fun x13 => some (.inl (x13, s12))
set_option maxRecDepth 20000 in
theorem j_Model_burnBits_j184_117 (E : gEv) (d u : Nat) {G : gFr → Prop} {vo : Option Value} {sr : gS} (hG : gClo E gDf gP18 gY256 none (gC E gDf gMs (d + 3)) (vo, (gSh, sr, u)) G) (l1 : Int32) (l2 : Int32) (l3 : Int32) (y1 : Int32) (y2 : Int32) (y3 : Int32) (σ : gS) {r : (Int32 × gS) ⊕ (gS)} (hP : p_Model_burnBits_j184_117 E l1 l2 l3 y1 y2 y3 σ = some r) (K1 : ∀ (m3 : Int32) (σ1 : gS), r = .inl (m3, σ1) → G (117, [some (.ref 94), some (.int l1), some (.int l2), some (.int m3), none, none], [], (gSh, σ1, u))) (K2 : ∀ (σ1 : gS), r = .inr σ1 → G (193, [some (.ref 94), some (.int l1), none, none, none, none], [], (gSh, σ1, u))) : G (184, [some (.ref 94), some (.int l1), some (.int l2), some (.int l3), none, none], [.int y3, .int y2, .int y1, .ref 94], (gSh, σ, u)) := by
  unfold p_Model_burnBits_j184_117 at hP
  obtain ⟨s12, hq, hP⟩ := g_b1 hP
  refine hG.2.2.2.1 _ _ _ [.ref 94, .int y1, .int y2, .int y3] [] _ (gSh, s12, u) none _ _ _ _ _ _ rfl rfl rfl rfl rfl rfl (c_Model_number E (d + 2) u y1 y2 y3 _  hq) (Nat.le_refl _) (Nat.le_refl _) (Nat.le_refl _) (Nat.le_refl _) ?_
  show G (187, [some (.ref 94), some (.int l1), some (.int l2), some (.int l3), none, none], [], (gSh, s12, u))
  refine gRunN_ok hG.1 1 _ (190, [some (.ref 94), some (.int l1), some (.int l2), some (.int (l3 + 1)), none, none], [], (gSh, s12, u)) rfl ?_
  obtain ⟨x13, ex13, hP⟩ := g_let hP
  rw [← ex13]
  refine gRunN_ok hG.1 1 _ (117, [some (.ref 94), some (.int l1), some (.int l2), some (.int x13), none, none], [], (gSh, s12, u)) rfl ?_
  cases hP
  exact K1 _ _ rfl
def p_Model_burnBits_j149_117 (E : gEv) (l1 : Int32) (l2 : Int32) (l3 : Int32) (y0 : Int32) (σ : gS) : Option ((Int32 × gS) ⊕ (gS)) :=
  if y0 = ((-1) : Int32) then (p_Model_burnBits_j184_117 E l1 l2 l3 ((l2 + (18 : Int32)) + ((6 : Int32) * l3)) 6 0 σ) else (gB1 (p_Model_tileOf E l1 σ) fun v14 => gB1 (p_Model_placeOfTile E v14 y0 σ) fun v16 => p_Model_burnBits_j184_117 E l1 l2 l3 ((l2 + (18 : Int32)) + ((6 : Int32) * l3)) 6 v16 σ)
set_option maxRecDepth 20000 in
theorem j_Model_burnBits_j149_117 (E : gEv) (d u : Nat) {G : gFr → Prop} {vo : Option Value} {sr : gS} (hG : gClo E gDf gP18 gY256 none (gC E gDf gMs (d + 3)) (vo, (gSh, sr, u)) G) (l1 : Int32) (l2 : Int32) (l3 : Int32) (y0 : Int32) (σ : gS) {r : (Int32 × gS) ⊕ (gS)} (hP : p_Model_burnBits_j149_117 E l1 l2 l3 y0 σ = some r) (K1 : ∀ (m3 : Int32) (σ1 : gS), r = .inl (m3, σ1) → G (117, [some (.ref 94), some (.int l1), some (.int l2), some (.int m3), none, none], [], (gSh, σ1, u))) (K2 : ∀ (σ1 : gS), r = .inr σ1 → G (193, [some (.ref 94), some (.int l1), none, none, none, none], [], (gSh, σ1, u))) : G (149, [some (.ref 94), some (.int l1), some (.int l2), some (.int l3), none, none], [.int y0], (gSh, σ, u)) := by
  unfold p_Model_burnBits_j149_117 at hP
  refine gRunN_ok hG.1 12 _ (166, [some (.ref 94), some (.int l1), some (.int l2), some (.int l3), some (.int y0), none], [.int (-1), .int y0, .int 6, .int ((l2 + (18 : Int32)) + ((6 : Int32) * l3)), .ref 94], (gSh, σ, u)) rfl ?_
  rcases g_ite hP with ⟨hc, hP⟩ | ⟨hc, hP⟩
  · refine hG.1 _ (169, [some (.ref 94), some (.int l1), some (.int l2), some (.int l3), some (.int y0), none], [.int 6, .int ((l2 + (18 : Int32)) + ((6 : Int32) * l3)), .ref 94], (gSh, σ, u)) _ rfl (if_pos hc) ?_
    refine gRunN_ok hG.1 2 _ (184, [some (.ref 94), some (.int l1), some (.int l2), some (.int l3), some (.int y0), none], [.int 0, .int 6, .int ((l2 + (18 : Int32)) + ((6 : Int32) * l3)), .ref 94], (gSh, σ, u)) rfl ?_
    refine hG.2.2.2.2.1 _ _ [some (.ref 94), some (.int l1), some (.int l2), some (.int l3), none, none] _ _ ⟨rfl, ⟨rfl, ⟨rfl, ⟨rfl, trivial⟩⟩⟩⟩ ?_
    exact j_Model_burnBits_j184_117 E d u hG l1 l2 l3 ((l2 + (18 : Int32)) + ((6 : Int32) * l3)) 6 0 σ hP K1 K2
  · refine hG.1 _ (173, [some (.ref 94), some (.int l1), some (.int l2), some (.int l3), some (.int y0), none], [.int 6, .int ((l2 + (18 : Int32)) + ((6 : Int32) * l3)), .ref 94], (gSh, σ, u)) _ rfl (if_neg hc) ?_
    refine gRunN_ok hG.1 3 _ (176, [some (.ref 94), some (.int l1), some (.int l2), some (.int l3), some (.int y0), none], [.int l1, .ref 94, .ref 94, .int 6, .int ((l2 + (18 : Int32)) + ((6 : Int32) * l3)), .ref 94], (gSh, σ, u)) rfl ?_
    obtain ⟨v14, hq, hP⟩ := g_b1 hP
    refine hG.2.2.2.1 _ _ _ [.ref 94, .int l1] [.ref 94, .int 6, .int ((l2 + (18 : Int32)) + ((6 : Int32) * l3)), .ref 94] _ (gSh, σ, u) (some (.int v14)) _ _ _ _ _ _ rfl rfl rfl rfl rfl rfl (c_Model_tileOf E (d + 2) u l1 _  hq) (Nat.le_refl _) (Nat.le_refl _) (Nat.le_refl _) (Nat.le_refl _) ?_
    show G (179, [some (.ref 94), some (.int l1), some (.int l2), some (.int l3), some (.int y0), none], [.int v14, .ref 94, .int 6, .int ((l2 + (18 : Int32)) + ((6 : Int32) * l3)), .ref 94], (gSh, σ, u))
    refine gRunN_ok hG.1 1 _ (181, [some (.ref 94), some (.int l1), some (.int l2), some (.int l3), some (.int y0), none], [.int y0, .int v14, .ref 94, .int 6, .int ((l2 + (18 : Int32)) + ((6 : Int32) * l3)), .ref 94], (gSh, σ, u)) rfl ?_
    obtain ⟨v16, hq, hP⟩ := g_b1 hP
    refine hG.2.2.2.1 _ _ _ [.ref 94, .int v14, .int y0] [.int 6, .int ((l2 + (18 : Int32)) + ((6 : Int32) * l3)), .ref 94] _ (gSh, σ, u) (some (.int v16)) _ _ _ _ _ _ rfl rfl rfl rfl rfl rfl (c_Model_placeOfTile E (d + 0) u v14 y0 _  hq) (Nat.le_refl _) (Nat.le_refl _) (Nat.le_refl _) (Nat.le_refl _) ?_
    show G (184, [some (.ref 94), some (.int l1), some (.int l2), some (.int l3), some (.int y0), none], [.int v16, .int 6, .int ((l2 + (18 : Int32)) + ((6 : Int32) * l3)), .ref 94], (gSh, σ, u))
    refine hG.2.2.2.2.1 _ _ [some (.ref 94), some (.int l1), some (.int l2), some (.int l3), none, none] _ _ ⟨rfl, ⟨rfl, ⟨rfl, ⟨rfl, trivial⟩⟩⟩⟩ ?_
    exact j_Model_burnBits_j184_117 E d u hG l1 l2 l3 ((l2 + (18 : Int32)) + ((6 : Int32) * l3)) 6 v16 σ hP K1 K2
def p_Model_burnBits_117 (E : gEv) (l1 : Int32) (l2 : Int32) (l3 : Int32) (σ : gS) : Option ((Int32 × gS) ⊕ (gS)) :=
  if (4 : Int32) ≤ l3 then (some (.inr σ)) else (if gIn (((4 : Int32) * l1) + l3) (σ.2.1 126) then if (σ.1 126 (((4 : Int32) * l1) + l3).toNatClampNeg) = ((-1) : Int32) then (p_Model_burnBits_j149_117 E l1 l2 l3 (-1) σ) else (gB1 (p_Model_endOf E (((4 : Int32) * l1) + l3) σ) fun v18 => p_Model_burnBits_j149_117 E l1 l2 l3 v18 σ) else none)
set_option maxRecDepth 20000 in
theorem b_Model_burnBits_117 (E : gEv) (d u : Nat) {G : gFr → Prop} {vo : Option Value} {sr : gS} (hG : gClo E gDf gP18 gY256 none (gC E gDf gMs (d + 3)) (vo, (gSh, sr, u)) G) (l1 : Int32) (l2 : Int32) (l3 : Int32) (σ : gS) {r : (Int32 × gS) ⊕ (gS)} (hP : p_Model_burnBits_117 E l1 l2 l3 σ = some r) (K1 : ∀ (m3 : Int32) (σ1 : gS), r = .inl (m3, σ1) → G (117, [some (.ref 94), some (.int l1), some (.int l2), some (.int m3), none, none], [], (gSh, σ1, u))) (K2 : ∀ (σ1 : gS), r = .inr σ1 → G (193, [some (.ref 94), some (.int l1), none, none, none, none], [], (gSh, σ1, u))) : G (117, [some (.ref 94), some (.int l1), some (.int l2), some (.int l3), none, none], [], (gSh, σ, u)) := by
  unfold p_Model_burnBits_117 at hP
  refine gRunN_ok hG.1 2 _ (119, [some (.ref 94), some (.int l1), some (.int l2), some (.int l3), none, none], [.int 4, .int l3], (gSh, σ, u)) rfl ?_
  rcases g_ite hP with ⟨hc, hP⟩ | ⟨hc, hP⟩
  · refine hG.1 _ (193, [some (.ref 94), some (.int l1), some (.int l2), some (.int l3), none, none], [], (gSh, σ, u)) _ rfl (if_pos hc) ?_
    refine hG.2.2.2.2.1 _ _ [some (.ref 94), some (.int l1), none, none, none, none] _ _ ⟨rfl, ⟨rfl, trivial⟩⟩ ?_
    cases hP
    exact K2 _ rfl
  · refine hG.1 _ (122, [some (.ref 94), some (.int l1), some (.int l2), some (.int l3), none, none], [], (gSh, σ, u)) _ rfl (if_neg hc) ?_
    refine gRunN_ok hG.1 7 _ (131, [some (.ref 94), some (.int l1), some (.int l2), some (.int l3), none, none], [.int (((4 : Int32) * l1) + l3), .ref 126], (gSh, σ, u)) rfl ?_
    obtain ⟨hc, hP⟩ := g_if hP
    refine hG.1 _ (132, [some (.ref 94), some (.int l1), some (.int l2), some (.int l3), none, none], [.int (σ.1 126 (((4 : Int32) * l1) + l3).toNatClampNeg)], (gSh, σ, u)) _ rfl (if_pos hc) ?_
    refine gRunN_ok hG.1 1 _ (133, [some (.ref 94), some (.int l1), some (.int l2), some (.int l3), none, none], [.int (-1), .int (σ.1 126 (((4 : Int32) * l1) + l3).toNatClampNeg)], (gSh, σ, u)) rfl ?_
    rcases g_ite hP with ⟨hc, hP⟩ | ⟨hc, hP⟩
    · refine hG.1 _ (136, [some (.ref 94), some (.int l1), some (.int l2), some (.int l3), none, none], [], (gSh, σ, u)) _ rfl (if_pos hc) ?_
      refine gRunN_ok hG.1 2 _ (149, [some (.ref 94), some (.int l1), some (.int l2), some (.int l3), none, none], [.int (-1)], (gSh, σ, u)) rfl ?_
      exact j_Model_burnBits_j149_117 E d u hG l1 l2 l3 (-1) σ hP K1 K2
    · refine hG.1 _ (140, [some (.ref 94), some (.int l1), some (.int l2), some (.int l3), none, none], [], (gSh, σ, u)) _ rfl (if_neg hc) ?_
      refine gRunN_ok hG.1 6 _ (146, [some (.ref 94), some (.int l1), some (.int l2), some (.int l3), none, none], [.int (((4 : Int32) * l1) + l3), .ref 94], (gSh, σ, u)) rfl ?_
      obtain ⟨v18, hq, hP⟩ := g_b1 hP
      refine hG.2.2.2.1 _ _ _ [.ref 94, .int (((4 : Int32) * l1) + l3)] [] _ (gSh, σ, u) (some (.int v18)) _ _ _ _ _ _ rfl rfl rfl rfl rfl rfl (c_Model_endOf E (d + 2) u (((4 : Int32) * l1) + l3) _  hq) (Nat.le_refl _) (Nat.le_refl _) (Nat.le_refl _) (Nat.le_refl _) ?_
      show G (149, [some (.ref 94), some (.int l1), some (.int l2), some (.int l3), none, none], [.int v18], (gSh, σ, u))
      exact j_Model_burnBits_j149_117 E d u hG l1 l2 l3 v18 σ hP K1 K2
theorem l_Model_burnBits_117 (E : gEv) (d u : Nat) {G : gFr → Prop} {vo : Option Value} {sr : gS} (hG : gClo E gDf gP18 gY256 none (gC E gDf gMs (d + 3)) (vo, (gSh, sr, u)) G) (l1 : Int32) (l2 : Int32) : ∀ (n : Nat) (l3 : Int32) (σ : gS) (e : (gS)), gIter (fun z => p_Model_burnBits_117 E l1 l2 z.1 z.2) n (l3, σ) = some e → (∀ (σ1 : gS), e = σ1 → G (193, [some (.ref 94), some (.int l1), none, none, none, none], [], (gSh, σ1, u))) → G (117, [some (.ref 94), some (.int l1), some (.int l2), some (.int l3), none, none], [], (gSh, σ, u)) := by
  intro n
  induction n with
  | zero => intro l3 σ e h; cases h
  | succ n ih =>
    intro l3 σ e h K2
    rcases g_iter h with ⟨z, h1, h2⟩ | h1
    · exact b_Model_burnBits_117 E d u hG l1 l2 l3 σ h1 (fun n0 n1 hz => by cases hz; exact ih _ _ e h2 K2) (fun _ hz => by cases hz)
    · exact b_Model_burnBits_117 E d u hG l1 l2 l3 σ h1 (fun _ _ hz => by cases hz) (fun σ1 hz => K2 σ1 (by cases hz; rfl))
def p_Model_burnBits_j114_25 (E : gEv) (l1 : Int32) (l2 : Int32) (y1 : Int32) (y2 : Int32) (σ : gS) : Option ((Int32 × gS) ⊕ (gS)) :=
  if gIn y1 (σ.2.1 154) then gLet (gPut σ 154 y1.toNatClampNeg (vp_nar .boolean y2)) fun s10 => gB1 (gIter (fun z => p_Model_burnBits_117 E l1 l2 z.1 z.2) gN (0, s10)) fun e20 => (fun s21 => gLet (l1 + 1) fun x22 => some (.inl (x22, s21))) e20 else none
set_option maxRecDepth 20000 in
theorem j_Model_burnBits_j114_25 (E : gEv) (d u : Nat) {G : gFr → Prop} {vo : Option Value} {sr : gS} (hG : gClo E gDf gP18 gY256 none (gC E gDf gMs (d + 3)) (vo, (gSh, sr, u)) G) (l1 : Int32) (l2 : Int32) (y1 : Int32) (y2 : Int32) (σ : gS) {r : (Int32 × gS) ⊕ (gS)} (hP : p_Model_burnBits_j114_25 E l1 l2 y1 y2 σ = some r) (K1 : ∀ (m1 : Int32) (σ1 : gS), r = .inl (m1, σ1) → G (25, [some (.ref 94), some (.int m1), none, none, none, none], [], (gSh, σ1, u))) (K2 : ∀ (σ1 : gS), r = .inr σ1 → G (199, [some (.ref 94), none, none, none, none, none], [], (gSh, σ1, u))) : G (114, [some (.ref 94), some (.int l1), some (.int l2), none, none, none], [.int y2, .int y1, .ref 154], (gSh, σ, u)) := by
  unfold p_Model_burnBits_j114_25 at hP
  obtain ⟨hc, hP⟩ := g_if hP
  refine hG.1 _ (115, [some (.ref 94), some (.int l1), some (.int l2), none, none, none], [], (gSh, (gPut σ 154 y1.toNatClampNeg (vp_nar .boolean y2)), u)) _ rfl (if_pos hc) ?_
  obtain ⟨s10, es10, hP⟩ := g_let hP
  rw [← es10]
  refine gRunN_ok hG.1 2 _ (117, [some (.ref 94), some (.int l1), some (.int l2), some (.int 0), none, none], [], (gSh, s10, u)) rfl ?_
  obtain ⟨e20, hq, hP⟩ := g_b1 hP
  refine l_Model_burnBits_117 E d u hG l1 l2 gN 0 s10 _ hq (fun s21 he => ?_)
  · replace he := he.symm
    subst he
    try dsimp only [gSum] at hP
    refine gRunN_ok hG.1 1 _ (196, [some (.ref 94), some (.int (l1 + 1)), none, none, none, none], [], (gSh, s21, u)) rfl ?_
    obtain ⟨x22, ex22, hP⟩ := g_let hP
    rw [← ex22]
    refine gRunN_ok hG.1 1 _ (25, [some (.ref 94), some (.int x22), none, none, none, none], [], (gSh, s21, u)) rfl ?_
    cases hP
    exact K1 _ _ rfl
def p_Model_burnBits_j113_25 (E : gEv) (l1 : Int32) (l2 : Int32) (y1 : Int32) (σ : gS) : Option ((Int32 × gS) ⊕ (gS)) :=
  p_Model_burnBits_j114_25 E l1 l2 y1 0 σ
set_option maxRecDepth 20000 in
theorem j_Model_burnBits_j113_25 (E : gEv) (d u : Nat) {G : gFr → Prop} {vo : Option Value} {sr : gS} (hG : gClo E gDf gP18 gY256 none (gC E gDf gMs (d + 3)) (vo, (gSh, sr, u)) G) (l1 : Int32) (l2 : Int32) (y1 : Int32) (σ : gS) {r : (Int32 × gS) ⊕ (gS)} (hP : p_Model_burnBits_j113_25 E l1 l2 y1 σ = some r) (K1 : ∀ (m1 : Int32) (σ1 : gS), r = .inl (m1, σ1) → G (25, [some (.ref 94), some (.int m1), none, none, none, none], [], (gSh, σ1, u))) (K2 : ∀ (σ1 : gS), r = .inr σ1 → G (199, [some (.ref 94), none, none, none, none, none], [], (gSh, σ1, u))) : G (113, [some (.ref 94), some (.int l1), some (.int l2), none, none, none], [.int y1, .ref 154], (gSh, σ, u)) := by
  unfold p_Model_burnBits_j113_25 at hP
  refine gRunN_ok hG.1 1 _ (114, [some (.ref 94), some (.int l1), some (.int l2), none, none, none], [.int 0, .int y1, .ref 154], (gSh, σ, u)) rfl ?_
  exact j_Model_burnBits_j114_25 E d u hG l1 l2 y1 0 σ hP K1 K2
def p_Model_burnBits_j75_25 (E : gEv) (l1 : Int32) (l2 : Int32) (y1 : Int32) (y2 : Int32) (σ : gS) : Option ((Int32 × gS) ⊕ (gS)) :=
  if gIn y1 (σ.2.1 154) then gLet (gPut σ 154 y1.toNatClampNeg (vp_nar .boolean y2)) fun s9 => if gIn l1 (s9.2.1 125) then if (s9.1 125 l1.toNatClampNeg) = ((-1) : Int32) then (p_Model_burnBits_j113_25 E l1 l2 (l2 + (17 : Int32)) s9) else (if gIn l1 (s9.2.1 125) then if gIn (s9.1 125 l1.toNatClampNeg) (s9.2.1 108) then if (s9.1 108 (s9.1 125 l1.toNatClampNeg).toNatClampNeg) = (1 : Int32) then (p_Model_burnBits_j114_25 E l1 l2 (l2 + (17 : Int32)) 1 s9) else (p_Model_burnBits_j113_25 E l1 l2 (l2 + (17 : Int32)) s9) else none else none) else none else none
set_option maxRecDepth 20000 in
theorem j_Model_burnBits_j75_25 (E : gEv) (d u : Nat) {G : gFr → Prop} {vo : Option Value} {sr : gS} (hG : gClo E gDf gP18 gY256 none (gC E gDf gMs (d + 3)) (vo, (gSh, sr, u)) G) (l1 : Int32) (l2 : Int32) (y1 : Int32) (y2 : Int32) (σ : gS) {r : (Int32 × gS) ⊕ (gS)} (hP : p_Model_burnBits_j75_25 E l1 l2 y1 y2 σ = some r) (K1 : ∀ (m1 : Int32) (σ1 : gS), r = .inl (m1, σ1) → G (25, [some (.ref 94), some (.int m1), none, none, none, none], [], (gSh, σ1, u))) (K2 : ∀ (σ1 : gS), r = .inr σ1 → G (199, [some (.ref 94), none, none, none, none, none], [], (gSh, σ1, u))) : G (75, [some (.ref 94), some (.int l1), some (.int l2), none, none, none], [.int y2, .int y1, .ref 154], (gSh, σ, u)) := by
  unfold p_Model_burnBits_j75_25 at hP
  obtain ⟨hc, hP⟩ := g_if hP
  refine hG.1 _ (76, [some (.ref 94), some (.int l1), some (.int l2), none, none, none], [], (gSh, (gPut σ 154 y1.toNatClampNeg (vp_nar .boolean y2)), u)) _ rfl (if_pos hc) ?_
  obtain ⟨s9, es9, hP⟩ := g_let hP
  rw [← es9]
  refine gRunN_ok hG.1 8 _ (89, [some (.ref 94), some (.int l1), some (.int l2), none, none, none], [.int l1, .ref 125, .int (l2 + (17 : Int32)), .ref 154], (gSh, s9, u)) rfl ?_
  obtain ⟨hc, hP⟩ := g_if hP
  refine hG.1 _ (90, [some (.ref 94), some (.int l1), some (.int l2), none, none, none], [.int (s9.1 125 l1.toNatClampNeg), .int (l2 + (17 : Int32)), .ref 154], (gSh, s9, u)) _ rfl (if_pos hc) ?_
  refine gRunN_ok hG.1 1 _ (91, [some (.ref 94), some (.int l1), some (.int l2), none, none, none], [.int (-1), .int (s9.1 125 l1.toNatClampNeg), .int (l2 + (17 : Int32)), .ref 154], (gSh, s9, u)) rfl ?_
  rcases g_ite hP with ⟨hc, hP⟩ | ⟨hc, hP⟩
  · refine hG.1 _ (113, [some (.ref 94), some (.int l1), some (.int l2), none, none, none], [.int (l2 + (17 : Int32)), .ref 154], (gSh, s9, u)) _ rfl (if_pos hc) ?_
    exact j_Model_burnBits_j113_25 E d u hG l1 l2 (l2 + (17 : Int32)) s9 hP K1 K2
  · refine hG.1 _ (94, [some (.ref 94), some (.int l1), some (.int l2), none, none, none], [.int (l2 + (17 : Int32)), .ref 154], (gSh, s9, u)) _ rfl (if_neg hc) ?_
    refine gRunN_ok hG.1 5 _ (103, [some (.ref 94), some (.int l1), some (.int l2), none, none, none], [.int l1, .ref 125, .ref 108, .int (l2 + (17 : Int32)), .ref 154], (gSh, s9, u)) rfl ?_
    obtain ⟨hc, hP⟩ := g_if hP
    refine hG.1 _ (104, [some (.ref 94), some (.int l1), some (.int l2), none, none, none], [.int (s9.1 125 l1.toNatClampNeg), .ref 108, .int (l2 + (17 : Int32)), .ref 154], (gSh, s9, u)) _ rfl (if_pos hc) ?_
    obtain ⟨hc, hP⟩ := g_if hP
    refine hG.1 _ (105, [some (.ref 94), some (.int l1), some (.int l2), none, none, none], [.int (s9.1 108 (s9.1 125 l1.toNatClampNeg).toNatClampNeg), .int (l2 + (17 : Int32)), .ref 154], (gSh, s9, u)) _ rfl (if_pos hc) ?_
    refine gRunN_ok hG.1 1 _ (106, [some (.ref 94), some (.int l1), some (.int l2), none, none, none], [.int 1, .int (s9.1 108 (s9.1 125 l1.toNatClampNeg).toNatClampNeg), .int (l2 + (17 : Int32)), .ref 154], (gSh, s9, u)) rfl ?_
    rcases g_ite hP with ⟨hc, hP⟩ | ⟨hc, hP⟩
    · refine hG.1 _ (109, [some (.ref 94), some (.int l1), some (.int l2), none, none, none], [.int (l2 + (17 : Int32)), .ref 154], (gSh, s9, u)) _ rfl (if_pos hc) ?_
      refine gRunN_ok hG.1 2 _ (114, [some (.ref 94), some (.int l1), some (.int l2), none, none, none], [.int 1, .int (l2 + (17 : Int32)), .ref 154], (gSh, s9, u)) rfl ?_
      exact j_Model_burnBits_j114_25 E d u hG l1 l2 (l2 + (17 : Int32)) 1 s9 hP K1 K2
    · refine hG.1 _ (113, [some (.ref 94), some (.int l1), some (.int l2), none, none, none], [.int (l2 + (17 : Int32)), .ref 154], (gSh, s9, u)) _ rfl (if_neg hc) ?_
      exact j_Model_burnBits_j113_25 E d u hG l1 l2 (l2 + (17 : Int32)) s9 hP K1 K2
def p_Model_burnBits_25 (E : gEv) (l1 : Int32) (σ : gS) : Option ((Int32 × gS) ⊕ (gS)) :=
  if (σ.1 94 55) ≤ l1 then (some (.inr σ)) else (gB1 (p_Model_baseOf E l1 σ) fun v5 => if gIn l1 (σ.2.1 127) then gB1 (p_Model_number E v5 16 (σ.1 127 l1.toNatClampNeg) σ) fun s8 => if gIn l1 (s8.2.1 125) then if (s8.1 125 l1.toNatClampNeg) = ((-1) : Int32) then (p_Model_burnBits_j75_25 E l1 v5 (v5 + (16 : Int32)) 0 s8) else (p_Model_burnBits_j75_25 E l1 v5 (v5 + (16 : Int32)) 1 s8) else none else none)
set_option maxRecDepth 20000 in
theorem b_Model_burnBits_25 (E : gEv) (d u : Nat) {G : gFr → Prop} {vo : Option Value} {sr : gS} (hG : gClo E gDf gP18 gY256 none (gC E gDf gMs (d + 3)) (vo, (gSh, sr, u)) G) (l1 : Int32) (σ : gS) {r : (Int32 × gS) ⊕ (gS)} (hP : p_Model_burnBits_25 E l1 σ = some r) (K1 : ∀ (m1 : Int32) (σ1 : gS), r = .inl (m1, σ1) → G (25, [some (.ref 94), some (.int m1), none, none, none, none], [], (gSh, σ1, u))) (K2 : ∀ (σ1 : gS), r = .inr σ1 → G (199, [some (.ref 94), none, none, none, none, none], [], (gSh, σ1, u))) : G (25, [some (.ref 94), some (.int l1), none, none, none, none], [], (gSh, σ, u)) := by
  unfold p_Model_burnBits_25 at hP
  refine gRunN_ok hG.1 3 _ (30, [some (.ref 94), some (.int l1), none, none, none, none], [.int (σ.1 94 55), .int l1], (gSh, σ, u)) rfl ?_
  rcases g_ite hP with ⟨hc, hP⟩ | ⟨hc, hP⟩
  · refine hG.1 _ (199, [some (.ref 94), some (.int l1), none, none, none, none], [], (gSh, σ, u)) _ rfl (if_pos hc) ?_
    refine hG.2.2.2.2.1 _ _ [some (.ref 94), none, none, none, none, none] _ _ ⟨rfl, trivial⟩ ?_
    cases hP
    exact K2 _ rfl
  · refine hG.1 _ (33, [some (.ref 94), some (.int l1), none, none, none, none], [], (gSh, σ, u)) _ rfl (if_neg hc) ?_
    refine gRunN_ok hG.1 2 _ (35, [some (.ref 94), some (.int l1), none, none, none, none], [.int l1, .ref 94], (gSh, σ, u)) rfl ?_
    obtain ⟨v5, hq, hP⟩ := g_b1 hP
    refine hG.2.2.2.1 _ _ _ [.ref 94, .int l1] [] _ (gSh, σ, u) (some (.int v5)) _ _ _ _ _ _ rfl rfl rfl rfl rfl rfl (c_Model_baseOf E (d + 1) u l1 _  hq) (Nat.le_refl _) (Nat.le_refl _) (Nat.le_refl _) (Nat.le_refl _) ?_
    show G (38, [some (.ref 94), some (.int l1), none, none, none, none], [.int v5], (gSh, σ, u))
    refine gRunN_ok hG.1 7 _ (48, [some (.ref 94), some (.int l1), some (.int v5), none, none, none], [.int l1, .ref 127, .int 16, .int v5, .ref 94], (gSh, σ, u)) rfl ?_
    obtain ⟨hc, hP⟩ := g_if hP
    refine hG.1 _ (49, [some (.ref 94), some (.int l1), some (.int v5), none, none, none], [.int (σ.1 127 l1.toNatClampNeg), .int 16, .int v5, .ref 94], (gSh, σ, u)) _ rfl (if_pos hc) ?_
    obtain ⟨s8, hq, hP⟩ := g_b1 hP
    refine hG.2.2.2.1 _ _ _ [.ref 94, .int v5, .int 16, .int (σ.1 127 l1.toNatClampNeg)] [] _ (gSh, s8, u) none _ _ _ _ _ _ rfl rfl rfl rfl rfl rfl (c_Model_number E (d + 2) u v5 16 (σ.1 127 l1.toNatClampNeg) _  hq) (Nat.le_refl _) (Nat.le_refl _) (Nat.le_refl _) (Nat.le_refl _) ?_
    show G (52, [some (.ref 94), some (.int l1), some (.int v5), none, none, none], [], (gSh, s8, u))
    refine gRunN_ok hG.1 8 _ (65, [some (.ref 94), some (.int l1), some (.int v5), none, none, none], [.int l1, .ref 125, .int (v5 + (16 : Int32)), .ref 154], (gSh, s8, u)) rfl ?_
    obtain ⟨hc, hP⟩ := g_if hP
    refine hG.1 _ (66, [some (.ref 94), some (.int l1), some (.int v5), none, none, none], [.int (s8.1 125 l1.toNatClampNeg), .int (v5 + (16 : Int32)), .ref 154], (gSh, s8, u)) _ rfl (if_pos hc) ?_
    refine gRunN_ok hG.1 1 _ (67, [some (.ref 94), some (.int l1), some (.int v5), none, none, none], [.int (-1), .int (s8.1 125 l1.toNatClampNeg), .int (v5 + (16 : Int32)), .ref 154], (gSh, s8, u)) rfl ?_
    rcases g_ite hP with ⟨hc, hP⟩ | ⟨hc, hP⟩
    · refine hG.1 _ (74, [some (.ref 94), some (.int l1), some (.int v5), none, none, none], [.int (v5 + (16 : Int32)), .ref 154], (gSh, s8, u)) _ rfl (if_pos hc) ?_
      refine gRunN_ok hG.1 1 _ (75, [some (.ref 94), some (.int l1), some (.int v5), none, none, none], [.int 0, .int (v5 + (16 : Int32)), .ref 154], (gSh, s8, u)) rfl ?_
      exact j_Model_burnBits_j75_25 E d u hG l1 v5 (v5 + (16 : Int32)) 0 s8 hP K1 K2
    · refine hG.1 _ (70, [some (.ref 94), some (.int l1), some (.int v5), none, none, none], [.int (v5 + (16 : Int32)), .ref 154], (gSh, s8, u)) _ rfl (if_neg hc) ?_
      refine gRunN_ok hG.1 2 _ (75, [some (.ref 94), some (.int l1), some (.int v5), none, none, none], [.int 1, .int (v5 + (16 : Int32)), .ref 154], (gSh, s8, u)) rfl ?_
      exact j_Model_burnBits_j75_25 E d u hG l1 v5 (v5 + (16 : Int32)) 1 s8 hP K1 K2
theorem l_Model_burnBits_25 (E : gEv) (d u : Nat) {G : gFr → Prop} {vo : Option Value} {sr : gS} (hG : gClo E gDf gP18 gY256 none (gC E gDf gMs (d + 3)) (vo, (gSh, sr, u)) G) : ∀ (n : Nat) (l1 : Int32) (σ : gS) (e : (gS)), gIter (fun z => p_Model_burnBits_25 E z.1 z.2) n (l1, σ) = some e → (∀ (σ1 : gS), e = σ1 → G (199, [some (.ref 94), none, none, none, none, none], [], (gSh, σ1, u))) → G (25, [some (.ref 94), some (.int l1), none, none, none, none], [], (gSh, σ, u)) := by
  intro n
  induction n with
  | zero => intro l1 σ e h; cases h
  | succ n ih =>
    intro l1 σ e h K2
    rcases g_iter h with ⟨z, h1, h2⟩ | h1
    · exact b_Model_burnBits_25 E d u hG l1 σ h1 (fun n0 n1 hz => by cases hz; exact ih _ _ e h2 K2) (fun _ hz => by cases hz)
    · exact b_Model_burnBits_25 E d u hG l1 σ h1 (fun _ _ hz => by cases hz) (fun σ1 hz => K2 σ1 (by cases hz; rfl))
def p_Model_burnBits_292 (E : gEv) (l1 : Int32) (l2 : Int32) (l3 : Int32) (l4 : Int32) (σ : gS) : Option ((Int32 × gS) ⊕ (gS)) :=
  if (σ.1 94 3) ≤ l4 then (some (.inr σ)) else (gB1 (p_Model_padWire E l1 l4 σ) fun v31 => if v31 = l3 then (gB1 (p_Model_number E (l2 + (2 : Int32)) 4 ((1 : Int32) + l4) σ) fun s34 => gLet (l4 + 1) fun x35 => some (.inl (x35, s34))) else (gLet (l4 + 1) fun x36 => some (.inl (x36, σ))))
set_option maxRecDepth 20000 in
theorem b_Model_burnBits_292 (E : gEv) (d u : Nat) {G : gFr → Prop} {vo : Option Value} {sr : gS} (hG : gClo E gDf gP18 gY256 none (gC E gDf gMs (d + 3)) (vo, (gSh, sr, u)) G) (l1 : Int32) (l2 : Int32) (l3 : Int32) (l4 : Int32) (σ : gS) {r : (Int32 × gS) ⊕ (gS)} (hP : p_Model_burnBits_292 E l1 l2 l3 l4 σ = some r) (K1 : ∀ (m4 : Int32) (σ1 : gS), r = .inl (m4, σ1) → G (292, [some (.ref 94), some (.int l1), some (.int l2), some (.int l3), some (.int m4), none], [], (gSh, σ1, u))) (K2 : ∀ (σ1 : gS), r = .inr σ1 → G (330, [some (.ref 94), some (.int l1), none, none, none, none], [], (gSh, σ1, u))) : G (292, [some (.ref 94), some (.int l1), some (.int l2), some (.int l3), some (.int l4), none], [], (gSh, σ, u)) := by
  unfold p_Model_burnBits_292 at hP
  refine gRunN_ok hG.1 3 _ (298, [some (.ref 94), some (.int l1), some (.int l2), some (.int l3), some (.int l4), none], [.int (σ.1 94 3), .int l4], (gSh, σ, u)) rfl ?_
  rcases g_ite hP with ⟨hc, hP⟩ | ⟨hc, hP⟩
  · refine hG.1 _ (330, [some (.ref 94), some (.int l1), some (.int l2), some (.int l3), some (.int l4), none], [], (gSh, σ, u)) _ rfl (if_pos hc) ?_
    refine hG.2.2.2.2.1 _ _ [some (.ref 94), some (.int l1), none, none, none, none] _ _ ⟨rfl, ⟨rfl, trivial⟩⟩ ?_
    cases hP
    exact K2 _ rfl
  · refine hG.1 _ (301, [some (.ref 94), some (.int l1), some (.int l2), some (.int l3), some (.int l4), none], [], (gSh, σ, u)) _ rfl (if_neg hc) ?_
    refine gRunN_ok hG.1 3 _ (305, [some (.ref 94), some (.int l1), some (.int l2), some (.int l3), some (.int l4), none], [.int l4, .int l1, .ref 94], (gSh, σ, u)) rfl ?_
    obtain ⟨v31, hq, hP⟩ := g_b1 hP
    refine hG.2.2.2.1 _ _ _ [.ref 94, .int l1, .int l4] [] _ (gSh, σ, u) (some (.int v31)) _ _ _ _ _ _ rfl rfl rfl rfl rfl rfl (c_Model_padWire E (d + 1) u l1 l4 _  hq) (Nat.le_refl _) (Nat.le_refl _) (Nat.le_refl _) (Nat.le_refl _) ?_
    show G (308, [some (.ref 94), some (.int l1), some (.int l2), some (.int l3), some (.int l4), none], [.int v31], (gSh, σ, u))
    refine gRunN_ok hG.1 1 _ (309, [some (.ref 94), some (.int l1), some (.int l2), some (.int l3), some (.int l4), none], [.int l3, .int v31], (gSh, σ, u)) rfl ?_
    rcases g_ite hP with ⟨hc, hP⟩ | ⟨hc, hP⟩
    · refine hG.1 _ (312, [some (.ref 94), some (.int l1), some (.int l2), some (.int l3), some (.int l4), none], [], (gSh, σ, u)) _ rfl (if_pos hc) ?_
      refine gRunN_ok hG.1 8 _ (321, [some (.ref 94), some (.int l1), some (.int l2), some (.int l3), some (.int l4), none], [.int ((1 : Int32) + l4), .int 4, .int (l2 + (2 : Int32)), .ref 94], (gSh, σ, u)) rfl ?_
      obtain ⟨s34, hq, hP⟩ := g_b1 hP
      refine hG.2.2.2.1 _ _ _ [.ref 94, .int (l2 + (2 : Int32)), .int 4, .int ((1 : Int32) + l4)] [] _ (gSh, s34, u) none _ _ _ _ _ _ rfl rfl rfl rfl rfl rfl (c_Model_number E (d + 2) u (l2 + (2 : Int32)) 4 ((1 : Int32) + l4) _  hq) (Nat.le_refl _) (Nat.le_refl _) (Nat.le_refl _) (Nat.le_refl _) ?_
      show G (324, [some (.ref 94), some (.int l1), some (.int l2), some (.int l3), some (.int l4), none], [], (gSh, s34, u))
      refine gRunN_ok hG.1 1 _ (327, [some (.ref 94), some (.int l1), some (.int l2), some (.int l3), some (.int (l4 + 1)), none], [], (gSh, s34, u)) rfl ?_
      obtain ⟨x35, ex35, hP⟩ := g_let hP
      rw [← ex35]
      refine gRunN_ok hG.1 1 _ (292, [some (.ref 94), some (.int l1), some (.int l2), some (.int l3), some (.int x35), none], [], (gSh, s34, u)) rfl ?_
      cases hP
      exact K1 _ _ rfl
    · refine hG.1 _ (324, [some (.ref 94), some (.int l1), some (.int l2), some (.int l3), some (.int l4), none], [], (gSh, σ, u)) _ rfl (if_neg hc) ?_
      refine gRunN_ok hG.1 1 _ (327, [some (.ref 94), some (.int l1), some (.int l2), some (.int l3), some (.int (l4 + 1)), none], [], (gSh, σ, u)) rfl ?_
      obtain ⟨x36, ex36, hP⟩ := g_let hP
      rw [← ex36]
      refine gRunN_ok hG.1 1 _ (292, [some (.ref 94), some (.int l1), some (.int l2), some (.int l3), some (.int x36), none], [], (gSh, σ, u)) rfl ?_
      cases hP
      exact K1 _ _ rfl
theorem l_Model_burnBits_292 (E : gEv) (d u : Nat) {G : gFr → Prop} {vo : Option Value} {sr : gS} (hG : gClo E gDf gP18 gY256 none (gC E gDf gMs (d + 3)) (vo, (gSh, sr, u)) G) (l1 : Int32) (l2 : Int32) (l3 : Int32) : ∀ (n : Nat) (l4 : Int32) (σ : gS) (e : (gS)), gIter (fun z => p_Model_burnBits_292 E l1 l2 l3 z.1 z.2) n (l4, σ) = some e → (∀ (σ1 : gS), e = σ1 → G (330, [some (.ref 94), some (.int l1), none, none, none, none], [], (gSh, σ1, u))) → G (292, [some (.ref 94), some (.int l1), some (.int l2), some (.int l3), some (.int l4), none], [], (gSh, σ, u)) := by
  intro n
  induction n with
  | zero => intro l4 σ e h; cases h
  | succ n ih =>
    intro l4 σ e h K2
    rcases g_iter h with ⟨z, h1, h2⟩ | h1
    · exact b_Model_burnBits_292 E d u hG l1 l2 l3 l4 σ h1 (fun n0 n1 hz => by cases hz; exact ih _ _ e h2 K2) (fun _ hz => by cases hz)
    · exact b_Model_burnBits_292 E d u hG l1 l2 l3 l4 σ h1 (fun _ _ hz => by cases hz) (fun σ1 hz => K2 σ1 (by cases hz; rfl))
def p_Model_burnBits_j255_201 (E : gEv) (l1 : Int32) (l2 : Int32) (y1 : Int32) (y2 : Int32) (y3 : Int32) (σ : gS) : Option ((Int32 × gS) ⊕ (gS)) :=
  gB1 (p_Model_number E y1 y2 y3 σ) fun s27 => if gIn l1 (s27.2.1 137) then if (s27.1 137 l1.toNatClampNeg) < (200 : Int32) then (gLet (l1 + 1) fun x28 => some (.inl (x28, s27))) else (if gIn l1 (s27.2.1 137) then gB1 (p_Model_endOf E (((1000 : Int32) + (s27.1 137 l1.toNatClampNeg)) - (200 : Int32)) s27) fun v29 => gB1 (gIter (fun z => p_Model_burnBits_292 E l1 l2 v29 z.1 z.2) gN (0, s27)) fun e37 => (fun s38 => gLet (l1 + 1) fun x39 => some (.inl (x39, s38))) e37 else none) else none
set_option maxRecDepth 20000 in
theorem j_Model_burnBits_j255_201 (E : gEv) (d u : Nat) {G : gFr → Prop} {vo : Option Value} {sr : gS} (hG : gClo E gDf gP18 gY256 none (gC E gDf gMs (d + 3)) (vo, (gSh, sr, u)) G) (l1 : Int32) (l2 : Int32) (y1 : Int32) (y2 : Int32) (y3 : Int32) (σ : gS) {r : (Int32 × gS) ⊕ (gS)} (hP : p_Model_burnBits_j255_201 E l1 l2 y1 y2 y3 σ = some r) (K1 : ∀ (m1 : Int32) (σ1 : gS), r = .inl (m1, σ1) → G (201, [some (.ref 94), some (.int m1), none, none, none, none], [], (gSh, σ1, u))) (K2 : ∀ (σ1 : gS), r = .inr σ1 → G (336, [some (.ref 94), none, none, none, none, none], [], (gSh, σ1, u))) : G (255, [some (.ref 94), some (.int l1), some (.int l2), none, none, none], [.int y3, .int y2, .int y1, .ref 94], (gSh, σ, u)) := by
  unfold p_Model_burnBits_j255_201 at hP
  obtain ⟨s27, hq, hP⟩ := g_b1 hP
  refine hG.2.2.2.1 _ _ _ [.ref 94, .int y1, .int y2, .int y3] [] _ (gSh, s27, u) none _ _ _ _ _ _ rfl rfl rfl rfl rfl rfl (c_Model_number E (d + 2) u y1 y2 y3 _  hq) (Nat.le_refl _) (Nat.le_refl _) (Nat.le_refl _) (Nat.le_refl _) ?_
  show G (258, [some (.ref 94), some (.int l1), some (.int l2), none, none, none], [], (gSh, s27, u))
  refine gRunN_ok hG.1 3 _ (263, [some (.ref 94), some (.int l1), some (.int l2), none, none, none], [.int l1, .ref 137], (gSh, s27, u)) rfl ?_
  obtain ⟨hc, hP⟩ := g_if hP
  refine hG.1 _ (264, [some (.ref 94), some (.int l1), some (.int l2), none, none, none], [.int (s27.1 137 l1.toNatClampNeg)], (gSh, s27, u)) _ rfl (if_pos hc) ?_
  refine gRunN_ok hG.1 1 _ (267, [some (.ref 94), some (.int l1), some (.int l2), none, none, none], [.int 200, .int (s27.1 137 l1.toNatClampNeg)], (gSh, s27, u)) rfl ?_
  rcases g_ite hP with ⟨hc, hP⟩ | ⟨hc, hP⟩
  · refine hG.1 _ (330, [some (.ref 94), some (.int l1), some (.int l2), none, none, none], [], (gSh, s27, u)) _ rfl (if_pos hc) ?_
    refine gRunN_ok hG.1 1 _ (333, [some (.ref 94), some (.int (l1 + 1)), some (.int l2), none, none, none], [], (gSh, s27, u)) rfl ?_
    obtain ⟨x28, ex28, hP⟩ := g_let hP
    rw [← ex28]
    refine gRunN_ok hG.1 1 _ (201, [some (.ref 94), some (.int x28), some (.int l2), none, none, none], [], (gSh, s27, u)) rfl ?_
    refine hG.2.2.2.2.1 _ _ [some (.ref 94), some (.int x28), none, none, none, none] _ _ ⟨rfl, ⟨rfl, trivial⟩⟩ ?_
    cases hP
    exact K1 _ _ rfl
  · refine hG.1 _ (270, [some (.ref 94), some (.int l1), some (.int l2), none, none, none], [], (gSh, s27, u)) _ rfl (if_neg hc) ?_
    refine gRunN_ok hG.1 5 _ (279, [some (.ref 94), some (.int l1), some (.int l2), none, none, none], [.int l1, .ref 137, .int 1000, .ref 94], (gSh, s27, u)) rfl ?_
    obtain ⟨hc, hP⟩ := g_if hP
    refine hG.1 _ (280, [some (.ref 94), some (.int l1), some (.int l2), none, none, none], [.int (s27.1 137 l1.toNatClampNeg), .int 1000, .ref 94], (gSh, s27, u)) _ rfl (if_pos hc) ?_
    refine gRunN_ok hG.1 3 _ (285, [some (.ref 94), some (.int l1), some (.int l2), none, none, none], [.int (((1000 : Int32) + (s27.1 137 l1.toNatClampNeg)) - (200 : Int32)), .ref 94], (gSh, s27, u)) rfl ?_
    obtain ⟨v29, hq, hP⟩ := g_b1 hP
    refine hG.2.2.2.1 _ _ _ [.ref 94, .int (((1000 : Int32) + (s27.1 137 l1.toNatClampNeg)) - (200 : Int32))] [] _ (gSh, s27, u) (some (.int v29)) _ _ _ _ _ _ rfl rfl rfl rfl rfl rfl (c_Model_endOf E (d + 2) u (((1000 : Int32) + (s27.1 137 l1.toNatClampNeg)) - (200 : Int32)) _  hq) (Nat.le_refl _) (Nat.le_refl _) (Nat.le_refl _) (Nat.le_refl _) ?_
    show G (288, [some (.ref 94), some (.int l1), some (.int l2), none, none, none], [.int v29], (gSh, s27, u))
    refine gRunN_ok hG.1 3 _ (292, [some (.ref 94), some (.int l1), some (.int l2), some (.int v29), some (.int 0), none], [], (gSh, s27, u)) rfl ?_
    obtain ⟨e37, hq, hP⟩ := g_b1 hP
    refine l_Model_burnBits_292 E d u hG l1 l2 v29 gN 0 s27 _ hq (fun s38 he => ?_)
    · replace he := he.symm
      subst he
      try dsimp only [gSum] at hP
      refine gRunN_ok hG.1 1 _ (333, [some (.ref 94), some (.int (l1 + 1)), none, none, none, none], [], (gSh, s38, u)) rfl ?_
      obtain ⟨x39, ex39, hP⟩ := g_let hP
      rw [← ex39]
      refine gRunN_ok hG.1 1 _ (201, [some (.ref 94), some (.int x39), none, none, none, none], [], (gSh, s38, u)) rfl ?_
      cases hP
      exact K1 _ _ rfl
def p_Model_burnBits_201 (E : gEv) (l1 : Int32) (σ : gS) : Option ((Int32 × gS) ⊕ (gS)) :=
  if (σ.1 94 6) ≤ l1 then (some (.inr σ)) else (gLet ((σ.1 94 11) + (l1 * (σ.1 94 10))) fun x25 => if gIn l1 (σ.2.1 137) then if (σ.1 137 l1.toNatClampNeg) = ((-1) : Int32) then (p_Model_burnBits_j255_201 E l1 x25 x25 2 0 σ) else (if gIn l1 (σ.2.1 137) then if (200 : Int32) ≤ (σ.1 137 l1.toNatClampNeg) then (p_Model_burnBits_j255_201 E l1 x25 x25 2 2 σ) else (p_Model_burnBits_j255_201 E l1 x25 x25 2 1 σ) else none) else none)
set_option maxRecDepth 20000 in
theorem b_Model_burnBits_201 (E : gEv) (d u : Nat) {G : gFr → Prop} {vo : Option Value} {sr : gS} (hG : gClo E gDf gP18 gY256 none (gC E gDf gMs (d + 3)) (vo, (gSh, sr, u)) G) (l1 : Int32) (σ : gS) {r : (Int32 × gS) ⊕ (gS)} (hP : p_Model_burnBits_201 E l1 σ = some r) (K1 : ∀ (m1 : Int32) (σ1 : gS), r = .inl (m1, σ1) → G (201, [some (.ref 94), some (.int m1), none, none, none, none], [], (gSh, σ1, u))) (K2 : ∀ (σ1 : gS), r = .inr σ1 → G (336, [some (.ref 94), none, none, none, none, none], [], (gSh, σ1, u))) : G (201, [some (.ref 94), some (.int l1), none, none, none, none], [], (gSh, σ, u)) := by
  unfold p_Model_burnBits_201 at hP
  refine gRunN_ok hG.1 3 _ (206, [some (.ref 94), some (.int l1), none, none, none, none], [.int (σ.1 94 6), .int l1], (gSh, σ, u)) rfl ?_
  rcases g_ite hP with ⟨hc, hP⟩ | ⟨hc, hP⟩
  · refine hG.1 _ (336, [some (.ref 94), some (.int l1), none, none, none, none], [], (gSh, σ, u)) _ rfl (if_pos hc) ?_
    refine hG.2.2.2.2.1 _ _ [some (.ref 94), none, none, none, none, none] _ _ ⟨rfl, trivial⟩ ?_
    cases hP
    exact K2 _ rfl
  · refine hG.1 _ (209, [some (.ref 94), some (.int l1), none, none, none, none], [], (gSh, σ, u)) _ rfl (if_neg hc) ?_
    refine gRunN_ok hG.1 8 _ (221, [some (.ref 94), some (.int l1), some (.int ((σ.1 94 11) + (l1 * (σ.1 94 10)))), none, none, none], [], (gSh, σ, u)) rfl ?_
    obtain ⟨x25, ex25, hP⟩ := g_let hP
    rw [← ex25]
    refine gRunN_ok hG.1 6 _ (229, [some (.ref 94), some (.int l1), some (.int x25), none, none, none], [.int l1, .ref 137, .int 2, .int x25, .ref 94], (gSh, σ, u)) rfl ?_
    obtain ⟨hc, hP⟩ := g_if hP
    refine hG.1 _ (230, [some (.ref 94), some (.int l1), some (.int x25), none, none, none], [.int (σ.1 137 l1.toNatClampNeg), .int 2, .int x25, .ref 94], (gSh, σ, u)) _ rfl (if_pos hc) ?_
    refine gRunN_ok hG.1 1 _ (231, [some (.ref 94), some (.int l1), some (.int x25), none, none, none], [.int (-1), .int (σ.1 137 l1.toNatClampNeg), .int 2, .int x25, .ref 94], (gSh, σ, u)) rfl ?_
    rcases g_ite hP with ⟨hc, hP⟩ | ⟨hc, hP⟩
    · refine hG.1 _ (234, [some (.ref 94), some (.int l1), some (.int x25), none, none, none], [.int 2, .int x25, .ref 94], (gSh, σ, u)) _ rfl (if_pos hc) ?_
      refine gRunN_ok hG.1 2 _ (255, [some (.ref 94), some (.int l1), some (.int x25), none, none, none], [.int 0, .int 2, .int x25, .ref 94], (gSh, σ, u)) rfl ?_
      exact j_Model_burnBits_j255_201 E d u hG l1 x25 x25 2 0 σ hP K1 K2
    · refine hG.1 _ (238, [some (.ref 94), some (.int l1), some (.int x25), none, none, none], [.int 2, .int x25, .ref 94], (gSh, σ, u)) _ rfl (if_neg hc) ?_
      refine gRunN_ok hG.1 3 _ (243, [some (.ref 94), some (.int l1), some (.int x25), none, none, none], [.int l1, .ref 137, .int 2, .int x25, .ref 94], (gSh, σ, u)) rfl ?_
      obtain ⟨hc, hP⟩ := g_if hP
      refine hG.1 _ (244, [some (.ref 94), some (.int l1), some (.int x25), none, none, none], [.int (σ.1 137 l1.toNatClampNeg), .int 2, .int x25, .ref 94], (gSh, σ, u)) _ rfl (if_pos hc) ?_
      refine gRunN_ok hG.1 1 _ (247, [some (.ref 94), some (.int l1), some (.int x25), none, none, none], [.int 200, .int (σ.1 137 l1.toNatClampNeg), .int 2, .int x25, .ref 94], (gSh, σ, u)) rfl ?_
      rcases g_ite hP with ⟨hc, hP⟩ | ⟨hc, hP⟩
      · refine hG.1 _ (254, [some (.ref 94), some (.int l1), some (.int x25), none, none, none], [.int 2, .int x25, .ref 94], (gSh, σ, u)) _ rfl (if_pos hc) ?_
        refine gRunN_ok hG.1 1 _ (255, [some (.ref 94), some (.int l1), some (.int x25), none, none, none], [.int 2, .int 2, .int x25, .ref 94], (gSh, σ, u)) rfl ?_
        exact j_Model_burnBits_j255_201 E d u hG l1 x25 x25 2 2 σ hP K1 K2
      · refine hG.1 _ (250, [some (.ref 94), some (.int l1), some (.int x25), none, none, none], [.int 2, .int x25, .ref 94], (gSh, σ, u)) _ rfl (if_neg hc) ?_
        refine gRunN_ok hG.1 2 _ (255, [some (.ref 94), some (.int l1), some (.int x25), none, none, none], [.int 1, .int 2, .int x25, .ref 94], (gSh, σ, u)) rfl ?_
        exact j_Model_burnBits_j255_201 E d u hG l1 x25 x25 2 1 σ hP K1 K2
theorem l_Model_burnBits_201 (E : gEv) (d u : Nat) {G : gFr → Prop} {vo : Option Value} {sr : gS} (hG : gClo E gDf gP18 gY256 none (gC E gDf gMs (d + 3)) (vo, (gSh, sr, u)) G) : ∀ (n : Nat) (l1 : Int32) (σ : gS) (e : (gS)), gIter (fun z => p_Model_burnBits_201 E z.1 z.2) n (l1, σ) = some e → (∀ (σ1 : gS), e = σ1 → G (336, [some (.ref 94), none, none, none, none, none], [], (gSh, σ1, u))) → G (201, [some (.ref 94), some (.int l1), none, none, none, none], [], (gSh, σ, u)) := by
  intro n
  induction n with
  | zero => intro l1 σ e h; cases h
  | succ n ih =>
    intro l1 σ e h K2
    rcases g_iter h with ⟨z, h1, h2⟩ | h1
    · exact b_Model_burnBits_201 E d u hG l1 σ h1 (fun n0 n1 hz => by cases hz; exact ih _ _ e h2 K2) (fun _ hz => by cases hz)
    · exact b_Model_burnBits_201 E d u hG l1 σ h1 (fun _ _ hz => by cases hz) (fun σ1 hz => K2 σ1 (by cases hz; rfl))
def p_Model_burnBits_355 (E : gEv) (l1 : Int32) (l2 : Int32) (l3 : Int32) (σ : gS) : Option ((Int32 × gS) ⊕ (gS)) :=
  if gIn l1 (σ.2.1 145) then if (σ.1 145 l1.toNatClampNeg) ≤ l3 then (some (.inr σ)) else (if gIn (((50 : Int32) * l1) + l3) (σ.2.1 144) then gLet (σ.1 144 (((50 : Int32) * l1) + l3).toNatClampNeg) fun x43 => if (200 : Int32) ≤ l2 then (gB1 (p_Model_elementOf E l2 σ) fun v44 => gB1 (p_Model_baseOf E v44 σ) fun v46 => gB1 (p_Model_tileOf E v44 σ) fun v48 => gB1 (p_Model_placeOfTile E v48 x43 σ) fun v50 => if gIn (((v46 + (42 : Int32)) + v50) - (1 : Int32)) (σ.2.1 154) then gLet (gPut σ 154 (((v46 + (42 : Int32)) + v50) - (1 : Int32)).toNatClampNeg (vp_nar .boolean 1)) fun s52 => gLet (l3 + 1) fun x53 => some (.inl (x53, s52)) else none) else (gB1 (p_Model_padOf E l2 σ) fun v54 => if ¬ (σ.1 94 3) = 0 then if gIn ((((σ.1 94 11) + (v54 * (σ.1 94 10))) + (6 : Int32)) + (x43 - x43 / (σ.1 94 3) * (σ.1 94 3))) (σ.2.1 154) then gLet (gPut σ 154 ((((σ.1 94 11) + (v54 * (σ.1 94 10))) + (6 : Int32)) + (x43 - x43 / (σ.1 94 3) * (σ.1 94 3))).toNatClampNeg (vp_nar .boolean 1)) fun s56 => gLet (l3 + 1) fun x57 => some (.inl (x57, s56)) else none else none) else none) else none
set_option maxRecDepth 20000 in
theorem b_Model_burnBits_355 (E : gEv) (d u : Nat) {G : gFr → Prop} {vo : Option Value} {sr : gS} (hG : gClo E gDf gP18 gY256 none (gC E gDf gMs (d + 3)) (vo, (gSh, sr, u)) G) (l1 : Int32) (l2 : Int32) (l3 : Int32) (σ : gS) {r : (Int32 × gS) ⊕ (gS)} (hP : p_Model_burnBits_355 E l1 l2 l3 σ = some r) (K1 : ∀ (m3 : Int32) (σ1 : gS), r = .inl (m3, σ1) → G (355, [some (.ref 94), some (.int l1), some (.int l2), some (.int m3), none, none], [], (gSh, σ1, u))) (K2 : ∀ (σ1 : gS), r = .inr σ1 → G (467, [some (.ref 94), some (.int l1), none, none, none, none], [], (gSh, σ1, u))) : G (355, [some (.ref 94), some (.int l1), some (.int l2), some (.int l3), none, none], [], (gSh, σ, u)) := by
  unfold p_Model_burnBits_355 at hP
  refine gRunN_ok hG.1 4 _ (361, [some (.ref 94), some (.int l1), some (.int l2), some (.int l3), none, none], [.int l1, .ref 145, .int l3], (gSh, σ, u)) rfl ?_
  obtain ⟨hc, hP⟩ := g_if hP
  refine hG.1 _ (362, [some (.ref 94), some (.int l1), some (.int l2), some (.int l3), none, none], [.int (σ.1 145 l1.toNatClampNeg), .int l3], (gSh, σ, u)) _ rfl (if_pos hc) ?_
  rcases g_ite hP with ⟨hc, hP⟩ | ⟨hc, hP⟩
  · refine hG.1 _ (467, [some (.ref 94), some (.int l1), some (.int l2), some (.int l3), none, none], [], (gSh, σ, u)) _ rfl (if_pos hc) ?_
    refine hG.2.2.2.2.1 _ _ [some (.ref 94), some (.int l1), none, none, none, none] _ _ ⟨rfl, ⟨rfl, trivial⟩⟩ ?_
    cases hP
    exact K2 _ rfl
  · refine hG.1 _ (365, [some (.ref 94), some (.int l1), some (.int l2), some (.int l3), none, none], [], (gSh, σ, u)) _ rfl (if_neg hc) ?_
    refine gRunN_ok hG.1 7 _ (375, [some (.ref 94), some (.int l1), some (.int l2), some (.int l3), none, none], [.int (((50 : Int32) * l1) + l3), .ref 144], (gSh, σ, u)) rfl ?_
    obtain ⟨hc, hP⟩ := g_if hP
    refine hG.1 _ (376, [some (.ref 94), some (.int l1), some (.int l2), some (.int l3), none, none], [.int (σ.1 144 (((50 : Int32) * l1) + l3).toNatClampNeg)], (gSh, σ, u)) _ rfl (if_pos hc) ?_
    refine gRunN_ok hG.1 1 _ (378, [some (.ref 94), some (.int l1), some (.int l2), some (.int l3), some (.int (σ.1 144 (((50 : Int32) * l1) + l3).toNatClampNeg)), none], [], (gSh, σ, u)) rfl ?_
    obtain ⟨x43, ex43, hP⟩ := g_let hP
    rw [← ex43]
    refine gRunN_ok hG.1 2 _ (382, [some (.ref 94), some (.int l1), some (.int l2), some (.int l3), some (.int x43), none], [.int 200, .int l2], (gSh, σ, u)) rfl ?_
    rcases g_ite hP with ⟨hc, hP⟩ | ⟨hc, hP⟩
    · refine hG.1 _ (424, [some (.ref 94), some (.int l1), some (.int l2), some (.int l3), some (.int x43), none], [], (gSh, σ, u)) _ rfl (if_pos hc) ?_
      refine gRunN_ok hG.1 2 _ (426, [some (.ref 94), some (.int l1), some (.int l2), some (.int l3), some (.int x43), none], [.int l2, .ref 94], (gSh, σ, u)) rfl ?_
      obtain ⟨v44, hq, hP⟩ := g_b1 hP
      refine hG.2.2.2.1 _ _ _ [.ref 94, .int l2] [] _ (gSh, σ, u) (some (.int v44)) _ _ _ _ _ _ rfl rfl rfl rfl rfl rfl (c_Model_elementOf E (d + 2) u l2 _  hq) (Nat.le_refl _) (Nat.le_refl _) (Nat.le_refl _) (Nat.le_refl _) ?_
      show G (429, [some (.ref 94), some (.int l1), some (.int l2), some (.int l3), some (.int x43), none], [.int v44], (gSh, σ, u))
      refine gRunN_ok hG.1 5 _ (438, [some (.ref 94), some (.int l1), some (.int l2), some (.int l3), some (.int x43), some (.int v44)], [.int v44, .ref 94, .ref 154], (gSh, σ, u)) rfl ?_
      obtain ⟨v46, hq, hP⟩ := g_b1 hP
      refine hG.2.2.2.1 _ _ _ [.ref 94, .int v44] [.ref 154] _ (gSh, σ, u) (some (.int v46)) _ _ _ _ _ _ rfl rfl rfl rfl rfl rfl (c_Model_baseOf E (d + 1) u v44 _  hq) (Nat.le_refl _) (Nat.le_refl _) (Nat.le_refl _) (Nat.le_refl _) ?_
      show G (441, [some (.ref 94), some (.int l1), some (.int l2), some (.int l3), some (.int x43), some (.int v44)], [.int v46, .ref 154], (gSh, σ, u))
      refine gRunN_ok hG.1 5 _ (448, [some (.ref 94), some (.int l1), some (.int l2), some (.int l3), some (.int x43), some (.int v44)], [.int v44, .ref 94, .ref 94, .int (v46 + (42 : Int32)), .ref 154], (gSh, σ, u)) rfl ?_
      obtain ⟨v48, hq, hP⟩ := g_b1 hP
      refine hG.2.2.2.1 _ _ _ [.ref 94, .int v44] [.ref 94, .int (v46 + (42 : Int32)), .ref 154] _ (gSh, σ, u) (some (.int v48)) _ _ _ _ _ _ rfl rfl rfl rfl rfl rfl (c_Model_tileOf E (d + 2) u v44 _  hq) (Nat.le_refl _) (Nat.le_refl _) (Nat.le_refl _) (Nat.le_refl _) ?_
      show G (451, [some (.ref 94), some (.int l1), some (.int l2), some (.int l3), some (.int x43), some (.int v44)], [.int v48, .ref 94, .int (v46 + (42 : Int32)), .ref 154], (gSh, σ, u))
      refine gRunN_ok hG.1 1 _ (453, [some (.ref 94), some (.int l1), some (.int l2), some (.int l3), some (.int x43), some (.int v44)], [.int x43, .int v48, .ref 94, .int (v46 + (42 : Int32)), .ref 154], (gSh, σ, u)) rfl ?_
      obtain ⟨v50, hq, hP⟩ := g_b1 hP
      refine hG.2.2.2.1 _ _ _ [.ref 94, .int v48, .int x43] [.int (v46 + (42 : Int32)), .ref 154] _ (gSh, σ, u) (some (.int v50)) _ _ _ _ _ _ rfl rfl rfl rfl rfl rfl (c_Model_placeOfTile E (d + 0) u v48 x43 _  hq) (Nat.le_refl _) (Nat.le_refl _) (Nat.le_refl _) (Nat.le_refl _) ?_
      show G (456, [some (.ref 94), some (.int l1), some (.int l2), some (.int l3), some (.int x43), some (.int v44)], [.int v50, .int (v46 + (42 : Int32)), .ref 154], (gSh, σ, u))
      refine gRunN_ok hG.1 4 _ (460, [some (.ref 94), some (.int l1), some (.int l2), some (.int l3), some (.int x43), some (.int v44)], [.int 1, .int (((v46 + (42 : Int32)) + v50) - (1 : Int32)), .ref 154], (gSh, σ, u)) rfl ?_
      obtain ⟨hc, hP⟩ := g_if hP
      refine hG.1 _ (461, [some (.ref 94), some (.int l1), some (.int l2), some (.int l3), some (.int x43), some (.int v44)], [], (gSh, (gPut σ 154 (((v46 + (42 : Int32)) + v50) - (1 : Int32)).toNatClampNeg (vp_nar .boolean 1)), u)) _ rfl (if_pos hc) ?_
      obtain ⟨s52, es52, hP⟩ := g_let hP
      rw [← es52]
      refine gRunN_ok hG.1 1 _ (464, [some (.ref 94), some (.int l1), some (.int l2), some (.int (l3 + 1)), some (.int x43), some (.int v44)], [], (gSh, s52, u)) rfl ?_
      obtain ⟨x53, ex53, hP⟩ := g_let hP
      rw [← ex53]
      refine gRunN_ok hG.1 1 _ (355, [some (.ref 94), some (.int l1), some (.int l2), some (.int x53), some (.int x43), some (.int v44)], [], (gSh, s52, u)) rfl ?_
      refine hG.2.2.2.2.1 _ _ [some (.ref 94), some (.int l1), some (.int l2), some (.int x53), none, none] _ _ ⟨rfl, ⟨rfl, ⟨rfl, ⟨rfl, trivial⟩⟩⟩⟩ ?_
      cases hP
      exact K1 _ _ rfl
    · refine hG.1 _ (385, [some (.ref 94), some (.int l1), some (.int l2), some (.int l3), some (.int x43), none], [], (gSh, σ, u)) _ rfl (if_neg hc) ?_
      refine gRunN_ok hG.1 2 _ (387, [some (.ref 94), some (.int l1), some (.int l2), some (.int l3), some (.int x43), none], [.int l2, .ref 94], (gSh, σ, u)) rfl ?_
      obtain ⟨v54, hq, hP⟩ := g_b1 hP
      refine hG.2.2.2.1 _ _ _ [.ref 94, .int l2] [] _ (gSh, σ, u) (some (.int v54)) _ _ _ _ _ _ rfl rfl rfl rfl rfl rfl (c_Model_padOf E (d + 2) u l2 _  hq) (Nat.le_refl _) (Nat.le_refl _) (Nat.le_refl _) (Nat.le_refl _) ?_
      show G (390, [some (.ref 94), some (.int l1), some (.int l2), some (.int l3), some (.int x43), none], [.int v54], (gSh, σ, u))
      refine gRunN_ok hG.1 15 _ (417, [some (.ref 94), some (.int l1), some (.int l2), some (.int l3), some (.int x43), some (.int v54)], [.int (σ.1 94 3), .int x43, .int (((σ.1 94 11) + (v54 * (σ.1 94 10))) + (6 : Int32)), .ref 154], (gSh, σ, u)) rfl ?_
      obtain ⟨hc, hP⟩ := g_if hP
      refine hG.1 _ (418, [some (.ref 94), some (.int l1), some (.int l2), some (.int l3), some (.int x43), some (.int v54)], [.int (x43 - x43 / (σ.1 94 3) * (σ.1 94 3)), .int (((σ.1 94 11) + (v54 * (σ.1 94 10))) + (6 : Int32)), .ref 154], (gSh, σ, u)) _ rfl (if_pos hc) ?_
      refine gRunN_ok hG.1 2 _ (420, [some (.ref 94), some (.int l1), some (.int l2), some (.int l3), some (.int x43), some (.int v54)], [.int 1, .int ((((σ.1 94 11) + (v54 * (σ.1 94 10))) + (6 : Int32)) + (x43 - x43 / (σ.1 94 3) * (σ.1 94 3))), .ref 154], (gSh, σ, u)) rfl ?_
      obtain ⟨hc, hP⟩ := g_if hP
      refine hG.1 _ (421, [some (.ref 94), some (.int l1), some (.int l2), some (.int l3), some (.int x43), some (.int v54)], [], (gSh, (gPut σ 154 ((((σ.1 94 11) + (v54 * (σ.1 94 10))) + (6 : Int32)) + (x43 - x43 / (σ.1 94 3) * (σ.1 94 3))).toNatClampNeg (vp_nar .boolean 1)), u)) _ rfl (if_pos hc) ?_
      obtain ⟨s56, es56, hP⟩ := g_let hP
      rw [← es56]
      refine gRunN_ok hG.1 2 _ (464, [some (.ref 94), some (.int l1), some (.int l2), some (.int (l3 + 1)), some (.int x43), some (.int v54)], [], (gSh, s56, u)) rfl ?_
      obtain ⟨x57, ex57, hP⟩ := g_let hP
      rw [← ex57]
      refine gRunN_ok hG.1 1 _ (355, [some (.ref 94), some (.int l1), some (.int l2), some (.int x57), some (.int x43), some (.int v54)], [], (gSh, s56, u)) rfl ?_
      refine hG.2.2.2.2.1 _ _ [some (.ref 94), some (.int l1), some (.int l2), some (.int x57), none, none] _ _ ⟨rfl, ⟨rfl, ⟨rfl, ⟨rfl, trivial⟩⟩⟩⟩ ?_
      cases hP
      exact K1 _ _ rfl
theorem l_Model_burnBits_355 (E : gEv) (d u : Nat) {G : gFr → Prop} {vo : Option Value} {sr : gS} (hG : gClo E gDf gP18 gY256 none (gC E gDf gMs (d + 3)) (vo, (gSh, sr, u)) G) (l1 : Int32) (l2 : Int32) : ∀ (n : Nat) (l3 : Int32) (σ : gS) (e : (gS)), gIter (fun z => p_Model_burnBits_355 E l1 l2 z.1 z.2) n (l3, σ) = some e → (∀ (σ1 : gS), e = σ1 → G (467, [some (.ref 94), some (.int l1), none, none, none, none], [], (gSh, σ1, u))) → G (355, [some (.ref 94), some (.int l1), some (.int l2), some (.int l3), none, none], [], (gSh, σ, u)) := by
  intro n
  induction n with
  | zero => intro l3 σ e h; cases h
  | succ n ih =>
    intro l3 σ e h K2
    rcases g_iter h with ⟨z, h1, h2⟩ | h1
    · exact b_Model_burnBits_355 E d u hG l1 l2 l3 σ h1 (fun n0 n1 hz => by cases hz; exact ih _ _ e h2 K2) (fun _ hz => by cases hz)
    · exact b_Model_burnBits_355 E d u hG l1 l2 l3 σ h1 (fun _ _ hz => by cases hz) (fun σ1 hz => K2 σ1 (by cases hz; rfl))
def p_Model_burnBits_469 (E : gEv) (l1 : Int32) (l3 : Int32) (σ : gS) : Option ((Int32 × gS) ⊕ (gS)) :=
  if gIn l1 (σ.2.1 143) then if (σ.1 143 l1.toNatClampNeg) ≤ l3 then (some (.inr σ)) else (if gIn (((840 : Int32) * l1) + l3) (σ.2.1 142) then if gIn (σ.1 142 (((840 : Int32) * l1) + l3).toNatClampNeg) (σ.2.1 154) then gLet (gPut σ 154 (σ.1 142 (((840 : Int32) * l1) + l3).toNatClampNeg).toNatClampNeg (vp_nar .boolean 1)) fun s60 => gLet (l3 + 1) fun x61 => some (.inl (x61, s60)) else none else none) else none
set_option maxRecDepth 20000 in
theorem b_Model_burnBits_469 (E : gEv) (d u : Nat) {G : gFr → Prop} {vo : Option Value} {sr : gS} (hG : gClo E gDf gP18 gY256 none (gC E gDf gMs (d + 3)) (vo, (gSh, sr, u)) G) (l1 : Int32) (l3 : Int32) (σ : gS) {r : (Int32 × gS) ⊕ (gS)} (hP : p_Model_burnBits_469 E l1 l3 σ = some r) (K1 : ∀ (m3 : Int32) (σ1 : gS), r = .inl (m3, σ1) → G (469, [some (.ref 94), some (.int l1), none, some (.int m3), none, none], [], (gSh, σ1, u))) (K2 : ∀ (σ1 : gS), r = .inr σ1 → G (503, [some (.ref 94), some (.int l1), none, none, none, none], [], (gSh, σ1, u))) : G (469, [some (.ref 94), some (.int l1), none, some (.int l3), none, none], [], (gSh, σ, u)) := by
  unfold p_Model_burnBits_469 at hP
  refine gRunN_ok hG.1 4 _ (475, [some (.ref 94), some (.int l1), none, some (.int l3), none, none], [.int l1, .ref 143, .int l3], (gSh, σ, u)) rfl ?_
  obtain ⟨hc, hP⟩ := g_if hP
  refine hG.1 _ (476, [some (.ref 94), some (.int l1), none, some (.int l3), none, none], [.int (σ.1 143 l1.toNatClampNeg), .int l3], (gSh, σ, u)) _ rfl (if_pos hc) ?_
  rcases g_ite hP with ⟨hc, hP⟩ | ⟨hc, hP⟩
  · refine hG.1 _ (503, [some (.ref 94), some (.int l1), none, some (.int l3), none, none], [], (gSh, σ, u)) _ rfl (if_pos hc) ?_
    refine hG.2.2.2.2.1 _ _ [some (.ref 94), some (.int l1), none, none, none, none] _ _ ⟨rfl, ⟨rfl, trivial⟩⟩ ?_
    cases hP
    exact K2 _ rfl
  · refine hG.1 _ (479, [some (.ref 94), some (.int l1), none, some (.int l3), none, none], [], (gSh, σ, u)) _ rfl (if_neg hc) ?_
    refine gRunN_ok hG.1 9 _ (494, [some (.ref 94), some (.int l1), none, some (.int l3), none, none], [.int (((840 : Int32) * l1) + l3), .ref 142, .ref 154], (gSh, σ, u)) rfl ?_
    obtain ⟨hc, hP⟩ := g_if hP
    refine hG.1 _ (495, [some (.ref 94), some (.int l1), none, some (.int l3), none, none], [.int (σ.1 142 (((840 : Int32) * l1) + l3).toNatClampNeg), .ref 154], (gSh, σ, u)) _ rfl (if_pos hc) ?_
    refine gRunN_ok hG.1 1 _ (496, [some (.ref 94), some (.int l1), none, some (.int l3), none, none], [.int 1, .int (σ.1 142 (((840 : Int32) * l1) + l3).toNatClampNeg), .ref 154], (gSh, σ, u)) rfl ?_
    obtain ⟨hc, hP⟩ := g_if hP
    refine hG.1 _ (497, [some (.ref 94), some (.int l1), none, some (.int l3), none, none], [], (gSh, (gPut σ 154 (σ.1 142 (((840 : Int32) * l1) + l3).toNatClampNeg).toNatClampNeg (vp_nar .boolean 1)), u)) _ rfl (if_pos hc) ?_
    obtain ⟨s60, es60, hP⟩ := g_let hP
    rw [← es60]
    refine gRunN_ok hG.1 1 _ (500, [some (.ref 94), some (.int l1), none, some (.int (l3 + 1)), none, none], [], (gSh, s60, u)) rfl ?_
    obtain ⟨x61, ex61, hP⟩ := g_let hP
    rw [← ex61]
    refine gRunN_ok hG.1 1 _ (469, [some (.ref 94), some (.int l1), none, some (.int x61), none, none], [], (gSh, s60, u)) rfl ?_
    cases hP
    exact K1 _ _ rfl
theorem l_Model_burnBits_469 (E : gEv) (d u : Nat) {G : gFr → Prop} {vo : Option Value} {sr : gS} (hG : gClo E gDf gP18 gY256 none (gC E gDf gMs (d + 3)) (vo, (gSh, sr, u)) G) (l1 : Int32) : ∀ (n : Nat) (l3 : Int32) (σ : gS) (e : (gS)), gIter (fun z => p_Model_burnBits_469 E l1 z.1 z.2) n (l3, σ) = some e → (∀ (σ1 : gS), e = σ1 → G (503, [some (.ref 94), some (.int l1), none, none, none, none], [], (gSh, σ1, u))) → G (469, [some (.ref 94), some (.int l1), none, some (.int l3), none, none], [], (gSh, σ, u)) := by
  intro n
  induction n with
  | zero => intro l3 σ e h; cases h
  | succ n ih =>
    intro l3 σ e h K2
    rcases g_iter h with ⟨z, h1, h2⟩ | h1
    · exact b_Model_burnBits_469 E d u hG l1 l3 σ h1 (fun n0 n1 hz => by cases hz; exact ih _ _ e h2 K2) (fun _ hz => by cases hz)
    · exact b_Model_burnBits_469 E d u hG l1 l3 σ h1 (fun _ _ hz => by cases hz) (fun σ1 hz => K2 σ1 (by cases hz; rfl))
def p_Model_burnBits_338 (E : gEv) (l1 : Int32) (σ : gS) : Option ((Int32 × gS) ⊕ (gS)) :=
  if (σ.1 94 60) ≤ l1 then (some (.inr σ)) else (if gIn l1 (σ.2.1 129) then gLet (σ.1 129 l1.toNatClampNeg) fun x42 => gB1 (gIter (fun z => p_Model_burnBits_355 E l1 x42 z.1 z.2) gN (0, σ)) fun e58 => (fun s59 => gB1 (gIter (fun z => p_Model_burnBits_469 E l1 z.1 z.2) gN (0, s59)) fun e62 => (fun s63 => gLet (l1 + 1) fun x64 => some (.inl (x64, s63))) e62) e58 else none)
set_option maxRecDepth 20000 in
theorem b_Model_burnBits_338 (E : gEv) (d u : Nat) {G : gFr → Prop} {vo : Option Value} {sr : gS} (hG : gClo E gDf gP18 gY256 none (gC E gDf gMs (d + 3)) (vo, (gSh, sr, u)) G) (l1 : Int32) (σ : gS) {r : (Int32 × gS) ⊕ (gS)} (hP : p_Model_burnBits_338 E l1 σ = some r) (K1 : ∀ (m1 : Int32) (σ1 : gS), r = .inl (m1, σ1) → G (338, [some (.ref 94), some (.int m1), none, none, none, none], [], (gSh, σ1, u))) (K2 : ∀ (σ1 : gS), r = .inr σ1 → G (509, [some (.ref 94), none, none, none, none, none], [], (gSh, σ1, u))) : G (338, [some (.ref 94), some (.int l1), none, none, none, none], [], (gSh, σ, u)) := by
  unfold p_Model_burnBits_338 at hP
  refine gRunN_ok hG.1 3 _ (343, [some (.ref 94), some (.int l1), none, none, none, none], [.int (σ.1 94 60), .int l1], (gSh, σ, u)) rfl ?_
  rcases g_ite hP with ⟨hc, hP⟩ | ⟨hc, hP⟩
  · refine hG.1 _ (509, [some (.ref 94), some (.int l1), none, none, none, none], [], (gSh, σ, u)) _ rfl (if_pos hc) ?_
    refine hG.2.2.2.2.1 _ _ [some (.ref 94), none, none, none, none, none] _ _ ⟨rfl, trivial⟩ ?_
    cases hP
    exact K2 _ rfl
  · refine hG.1 _ (346, [some (.ref 94), some (.int l1), none, none, none, none], [], (gSh, σ, u)) _ rfl (if_neg hc) ?_
    refine gRunN_ok hG.1 3 _ (351, [some (.ref 94), some (.int l1), none, none, none, none], [.int l1, .ref 129], (gSh, σ, u)) rfl ?_
    obtain ⟨hc, hP⟩ := g_if hP
    refine hG.1 _ (352, [some (.ref 94), some (.int l1), none, none, none, none], [.int (σ.1 129 l1.toNatClampNeg)], (gSh, σ, u)) _ rfl (if_pos hc) ?_
    refine gRunN_ok hG.1 1 _ (353, [some (.ref 94), some (.int l1), some (.int (σ.1 129 l1.toNatClampNeg)), none, none, none], [], (gSh, σ, u)) rfl ?_
    obtain ⟨x42, ex42, hP⟩ := g_let hP
    rw [← ex42]
    refine gRunN_ok hG.1 2 _ (355, [some (.ref 94), some (.int l1), some (.int x42), some (.int 0), none, none], [], (gSh, σ, u)) rfl ?_
    obtain ⟨e58, hq, hP⟩ := g_b1 hP
    refine l_Model_burnBits_355 E d u hG l1 x42 gN 0 σ _ hq (fun s59 he => ?_)
    · replace he := he.symm
      subst he
      try dsimp only [gSum] at hP
      refine gRunN_ok hG.1 2 _ (469, [some (.ref 94), some (.int l1), none, some (.int 0), none, none], [], (gSh, s59, u)) rfl ?_
      obtain ⟨e62, hq, hP⟩ := g_b1 hP
      refine l_Model_burnBits_469 E d u hG l1 gN 0 s59 _ hq (fun s63 he => ?_)
      · replace he := he.symm
        subst he
        try dsimp only [gSum] at hP
        refine gRunN_ok hG.1 1 _ (506, [some (.ref 94), some (.int (l1 + 1)), none, none, none, none], [], (gSh, s63, u)) rfl ?_
        obtain ⟨x64, ex64, hP⟩ := g_let hP
        rw [← ex64]
        refine gRunN_ok hG.1 1 _ (338, [some (.ref 94), some (.int x64), none, none, none, none], [], (gSh, s63, u)) rfl ?_
        cases hP
        exact K1 _ _ rfl
theorem l_Model_burnBits_338 (E : gEv) (d u : Nat) {G : gFr → Prop} {vo : Option Value} {sr : gS} (hG : gClo E gDf gP18 gY256 none (gC E gDf gMs (d + 3)) (vo, (gSh, sr, u)) G) : ∀ (n : Nat) (l1 : Int32) (σ : gS) (e : (gS)), gIter (fun z => p_Model_burnBits_338 E z.1 z.2) n (l1, σ) = some e → (∀ (σ1 : gS), e = σ1 → G (509, [some (.ref 94), none, none, none, none, none], [], (gSh, σ1, u))) → G (338, [some (.ref 94), some (.int l1), none, none, none, none], [], (gSh, σ, u)) := by
  intro n
  induction n with
  | zero => intro l1 σ e h; cases h
  | succ n ih =>
    intro l1 σ e h K2
    rcases g_iter h with ⟨z, h1, h2⟩ | h1
    · exact b_Model_burnBits_338 E d u hG l1 σ h1 (fun n0 n1 hz => by cases hz; exact ih _ _ e h2 K2) (fun _ hz => by cases hz)
    · exact b_Model_burnBits_338 E d u hG l1 σ h1 (fun _ _ hz => by cases hz) (fun σ1 hz => K2 σ1 (by cases hz; rfl))
def p_Model_burnBits (E : gEv) (σ : gS) : Option (gS) :=
  gB1 (gIter (fun z => p_Model_burnBits_2 E z.1 z.2) gN (0, σ)) fun e3 => (fun s4 => gB1 (gIter (fun z => p_Model_burnBits_25 E z.1 z.2) gN (0, s4)) fun e23 => (fun s24 => gB1 (gIter (fun z => p_Model_burnBits_201 E z.1 z.2) gN (0, s24)) fun e40 => (fun s41 => gB1 (gIter (fun z => p_Model_burnBits_338 E z.1 z.2) gN (0, s41)) fun e65 => (fun s66 => gLet (gPut s66 94 97 0) fun s67 => some s67) e65) e40) e23) e3
set_option maxRecDepth 20000 in
theorem c_Model_burnBits (E : gEv) (d u : Nat) (σ : gS) {sr : gS}  (hq : p_Model_burnBits E σ = some sr) : gC E gDf gMs (d + 4) 256 [.ref 94] (gSh, σ, u) (none, (gSh, sr, u)) := ⟨gM256, rfl, Nat.le_of_ble_eq_true rfl, fun G hG => by
  have hP := hq
  unfold p_Model_burnBits at hP
  replace hG : gClo E gDf gP18 gY256 none (gC E gDf gMs (d + 3)) (none, (gSh, sr, u)) G := hG
  show G (0, [some (.ref 94), none, none, none, none, none], [], (gSh, σ, u))
  refine gRunN_ok hG.1 2 _ (2, [some (.ref 94), some (.int 0), none, none, none, none], [], (gSh, σ, u)) rfl ?_
  obtain ⟨e3, hq, hP⟩ := g_b1 hP
  refine l_Model_burnBits_2 E d u hG gN 0 σ _ hq (fun s4 he => ?_)
  · replace he := he.symm
    subst he
    try dsimp only [gSum] at hP
    refine gRunN_ok hG.1 2 _ (25, [some (.ref 94), some (.int 0), none, none, none, none], [], (gSh, s4, u)) rfl ?_
    obtain ⟨e23, hq, hP⟩ := g_b1 hP
    refine l_Model_burnBits_25 E d u hG gN 0 s4 _ hq (fun s24 he => ?_)
    · replace he := he.symm
      subst he
      try dsimp only [gSum] at hP
      refine gRunN_ok hG.1 2 _ (201, [some (.ref 94), some (.int 0), none, none, none, none], [], (gSh, s24, u)) rfl ?_
      obtain ⟨e40, hq, hP⟩ := g_b1 hP
      refine l_Model_burnBits_201 E d u hG gN 0 s24 _ hq (fun s41 he => ?_)
      · replace he := he.symm
        subst he
        try dsimp only [gSum] at hP
        refine gRunN_ok hG.1 2 _ (338, [some (.ref 94), some (.int 0), none, none, none, none], [], (gSh, s41, u)) rfl ?_
        obtain ⟨e65, hq, hP⟩ := g_b1 hP
        refine l_Model_burnBits_338 E d u hG gN 0 s41 _ hq (fun s66 he => ?_)
        · replace he := he.symm
          subst he
          try dsimp only [gSum] at hP
          refine gRunN_ok hG.1 3 _ (514, [some (.ref 94), none, none, none, none, none], [], (gSh, (gPut s66 94 97 0), u)) rfl ?_
          obtain ⟨s67, es67, hP⟩ := g_let hP
          rw [← es67]
          cases hP
          exact hG.2.1 _ _ rfl rfl⟩
def p_Model_settle_10 (E : gEv) (l1 : Int32) (σ : gS) : Option ((Int32 × gS) ⊕ (gS)) :=
  if (σ.1 94 5) ≤ l1 then (some (.inr σ)) else (if gIn l1 (σ.2.1 156) then gLet (gPut σ 156 l1.toNatClampNeg (vp_nar .boolean 0)) fun s1 => gLet (l1 + 1) fun x2 => some (.inl (x2, s1)) else none)
set_option maxRecDepth 20000 in
theorem b_Model_settle_10 (E : gEv) (d u : Nat) {G : gFr → Prop} {vo : Option Value} {sr : gS} (hG : gClo E gDf gP18 gY266 none (gC E gDf gMs (d + 3)) (vo, (gSh, sr, u)) G) (l1 : Int32) (σ : gS) {r : (Int32 × gS) ⊕ (gS)} (hP : p_Model_settle_10 E l1 σ = some r) (K1 : ∀ (m1 : Int32) (σ1 : gS), r = .inl (m1, σ1) → G (10, [some (.ref 94), some (.int m1), none, none], [], (gSh, σ1, u))) (K2 : ∀ (σ1 : gS), r = .inr σ1 → G (31, [some (.ref 94), none, none, none], [], (gSh, σ1, u))) : G (10, [some (.ref 94), some (.int l1), none, none], [], (gSh, σ, u)) := by
  unfold p_Model_settle_10 at hP
  refine gRunN_ok hG.1 3 _ (15, [some (.ref 94), some (.int l1), none, none], [.int (σ.1 94 5), .int l1], (gSh, σ, u)) rfl ?_
  rcases g_ite hP with ⟨hc, hP⟩ | ⟨hc, hP⟩
  · refine hG.1 _ (31, [some (.ref 94), some (.int l1), none, none], [], (gSh, σ, u)) _ rfl (if_pos hc) ?_
    refine hG.2.2.2.2.1 _ _ [some (.ref 94), none, none, none] _ _ ⟨rfl, trivial⟩ ?_
    cases hP
    exact K2 _ rfl
  · refine hG.1 _ (18, [some (.ref 94), some (.int l1), none, none], [], (gSh, σ, u)) _ rfl (if_neg hc) ?_
    refine gRunN_ok hG.1 4 _ (24, [some (.ref 94), some (.int l1), none, none], [.int 0, .int l1, .ref 156], (gSh, σ, u)) rfl ?_
    obtain ⟨hc, hP⟩ := g_if hP
    refine hG.1 _ (25, [some (.ref 94), some (.int l1), none, none], [], (gSh, (gPut σ 156 l1.toNatClampNeg (vp_nar .boolean 0)), u)) _ rfl (if_pos hc) ?_
    obtain ⟨s1, es1, hP⟩ := g_let hP
    rw [← es1]
    refine gRunN_ok hG.1 1 _ (28, [some (.ref 94), some (.int (l1 + 1)), none, none], [], (gSh, s1, u)) rfl ?_
    obtain ⟨x2, ex2, hP⟩ := g_let hP
    rw [← ex2]
    refine gRunN_ok hG.1 1 _ (10, [some (.ref 94), some (.int x2), none, none], [], (gSh, s1, u)) rfl ?_
    cases hP
    exact K1 _ _ rfl
theorem l_Model_settle_10 (E : gEv) (d u : Nat) {G : gFr → Prop} {vo : Option Value} {sr : gS} (hG : gClo E gDf gP18 gY266 none (gC E gDf gMs (d + 3)) (vo, (gSh, sr, u)) G) : ∀ (n : Nat) (l1 : Int32) (σ : gS) (e : (gS)), gIter (fun z => p_Model_settle_10 E z.1 z.2) n (l1, σ) = some e → (∀ (σ1 : gS), e = σ1 → G (31, [some (.ref 94), none, none, none], [], (gSh, σ1, u))) → G (10, [some (.ref 94), some (.int l1), none, none], [], (gSh, σ, u)) := by
  intro n
  induction n with
  | zero => intro l1 σ e h; cases h
  | succ n ih =>
    intro l1 σ e h K2
    rcases g_iter h with ⟨z, h1, h2⟩ | h1
    · exact b_Model_settle_10 E d u hG l1 σ h1 (fun n0 n1 hz => by cases hz; exact ih _ _ e h2 K2) (fun _ hz => by cases hz)
    · exact b_Model_settle_10 E d u hG l1 σ h1 (fun _ _ hz => by cases hz) (fun σ1 hz => K2 σ1 (by cases hz; rfl))
def p_Model_settle_55 (E : gEv) (l2 : Int32) (l1 : Int32) (l3 : Int32) (σ : gS) : Option ((Int32 × Int32 × gS) ⊕ (Int32 × gS)) :=
  if (σ.1 94 5) ≤ l3 then (some (.inr (l1, σ))) else (gB1 (p_Model_lutOf E l3 σ) fun v7 => if gIn l3 (σ.2.1 157) then gLet (gPut σ 157 l3.toNatClampNeg (vp_nar .boolean v7)) fun s9 => if l1 = 0 then (if gIn l3 (s9.2.1 157) then if gIn l3 (s9.2.1 156) then if (s9.1 157 l3.toNatClampNeg) = (s9.1 156 l3.toNatClampNeg) then (gLet (l3 + 1) fun x10 => some (.inl (0, x10, s9))) else (gLet (l3 + 1) fun x11 => some (.inl (1, x11, s9))) else none else none) else (gLet (l3 + 1) fun x12 => some (.inl (1, x12, s9))) else none)
set_option maxRecDepth 20000 in
theorem b_Model_settle_55 (E : gEv) (d u : Nat) {G : gFr → Prop} {vo : Option Value} {sr : gS} (hG : gClo E gDf gP18 gY266 none (gC E gDf gMs (d + 3)) (vo, (gSh, sr, u)) G) (l2 : Int32) (l1 : Int32) (l3 : Int32) (σ : gS) {r : (Int32 × Int32 × gS) ⊕ (Int32 × gS)} (hP : p_Model_settle_55 E l2 l1 l3 σ = some r) (K1 : ∀ (m1 : Int32) (m3 : Int32) (σ1 : gS), r = .inl (m1, m3, σ1) → G (55, [some (.ref 94), some (.int m1), some (.int l2), some (.int m3)], [], (gSh, σ1, u))) (K2 : ∀ (m1 : Int32) (σ1 : gS), r = .inr (m1, σ1) → G (105, [some (.ref 94), some (.int m1), some (.int l2), none], [], (gSh, σ1, u))) : G (55, [some (.ref 94), some (.int l1), some (.int l2), some (.int l3)], [], (gSh, σ, u)) := by
  unfold p_Model_settle_55 at hP
  refine gRunN_ok hG.1 3 _ (60, [some (.ref 94), some (.int l1), some (.int l2), some (.int l3)], [.int (σ.1 94 5), .int l3], (gSh, σ, u)) rfl ?_
  rcases g_ite hP with ⟨hc, hP⟩ | ⟨hc, hP⟩
  · refine hG.1 _ (105, [some (.ref 94), some (.int l1), some (.int l2), some (.int l3)], [], (gSh, σ, u)) _ rfl (if_pos hc) ?_
    refine hG.2.2.2.2.1 _ _ [some (.ref 94), some (.int l1), some (.int l2), none] _ _ ⟨rfl, ⟨rfl, ⟨rfl, trivial⟩⟩⟩ ?_
    cases hP
    exact K2 _ _ rfl
  · refine hG.1 _ (63, [some (.ref 94), some (.int l1), some (.int l2), some (.int l3)], [], (gSh, σ, u)) _ rfl (if_neg hc) ?_
    refine gRunN_ok hG.1 5 _ (70, [some (.ref 94), some (.int l1), some (.int l2), some (.int l3)], [.int l3, .ref 94, .int l3, .ref 157], (gSh, σ, u)) rfl ?_
    obtain ⟨v7, hq, hP⟩ := g_b1 hP
    refine hG.2.2.2.1 _ _ _ [.ref 94, .int l3] [.int l3, .ref 157] _ (gSh, σ, u) (some (.int v7)) _ _ _ _ _ _ rfl rfl rfl rfl rfl rfl (c_Model_lutOf E (d + 0) u l3 _  hq) (Nat.le_refl _) (Nat.le_refl _) (Nat.le_refl _) (Nat.le_refl _) ?_
    show G (73, [some (.ref 94), some (.int l1), some (.int l2), some (.int l3)], [.int v7, .int l3, .ref 157], (gSh, σ, u))
    obtain ⟨hc, hP⟩ := g_if hP
    refine hG.1 _ (74, [some (.ref 94), some (.int l1), some (.int l2), some (.int l3)], [], (gSh, (gPut σ 157 l3.toNatClampNeg (vp_nar .boolean v7)), u)) _ rfl (if_pos hc) ?_
    obtain ⟨s9, es9, hP⟩ := g_let hP
    rw [← es9]
    refine gRunN_ok hG.1 1 _ (75, [some (.ref 94), some (.int l1), some (.int l2), some (.int l3)], [.int l1], (gSh, s9, u)) rfl ?_
    rcases g_ite hP with ⟨hc, hP⟩ | ⟨hc, hP⟩
    · refine hG.1 _ (78, [some (.ref 94), some (.int l1), some (.int l2), some (.int l3)], [], (gSh, s9, u)) _ rfl (if_pos hc) ?_
      refine gRunN_ok hG.1 3 _ (83, [some (.ref 94), some (.int l1), some (.int l2), some (.int l3)], [.int l3, .ref 157], (gSh, s9, u)) rfl ?_
      obtain ⟨hc, hP⟩ := g_if hP
      refine hG.1 _ (84, [some (.ref 94), some (.int l1), some (.int l2), some (.int l3)], [.int (s9.1 157 l3.toNatClampNeg)], (gSh, s9, u)) _ rfl (if_pos hc) ?_
      refine gRunN_ok hG.1 3 _ (89, [some (.ref 94), some (.int l1), some (.int l2), some (.int l3)], [.int l3, .ref 156, .int (s9.1 157 l3.toNatClampNeg)], (gSh, s9, u)) rfl ?_
      obtain ⟨hc, hP⟩ := g_if hP
      refine hG.1 _ (90, [some (.ref 94), some (.int l1), some (.int l2), some (.int l3)], [.int (s9.1 156 l3.toNatClampNeg), .int (s9.1 157 l3.toNatClampNeg)], (gSh, s9, u)) _ rfl (if_pos hc) ?_
      rcases g_ite hP with ⟨hc, hP⟩ | ⟨hc, hP⟩
      · refine hG.1 _ (97, [some (.ref 94), some (.int l1), some (.int l2), some (.int l3)], [], (gSh, s9, u)) _ rfl (if_pos hc) ?_
        refine gRunN_ok hG.1 3 _ (102, [some (.ref 94), some (.int 0), some (.int l2), some (.int (l3 + 1))], [], (gSh, s9, u)) rfl ?_
        obtain ⟨x10, ex10, hP⟩ := g_let hP
        rw [← ex10]
        refine gRunN_ok hG.1 1 _ (55, [some (.ref 94), some (.int 0), some (.int l2), some (.int x10)], [], (gSh, s9, u)) rfl ?_
        cases hP
        exact K1 _ _ _ rfl
      · refine hG.1 _ (93, [some (.ref 94), some (.int l1), some (.int l2), some (.int l3)], [], (gSh, s9, u)) _ rfl (if_neg hc) ?_
        refine gRunN_ok hG.1 4 _ (102, [some (.ref 94), some (.int 1), some (.int l2), some (.int (l3 + 1))], [], (gSh, s9, u)) rfl ?_
        obtain ⟨x11, ex11, hP⟩ := g_let hP
        rw [← ex11]
        refine gRunN_ok hG.1 1 _ (55, [some (.ref 94), some (.int 1), some (.int l2), some (.int x11)], [], (gSh, s9, u)) rfl ?_
        cases hP
        exact K1 _ _ _ rfl
    · refine hG.1 _ (93, [some (.ref 94), some (.int l1), some (.int l2), some (.int l3)], [], (gSh, s9, u)) _ rfl (if_neg hc) ?_
      refine gRunN_ok hG.1 4 _ (102, [some (.ref 94), some (.int 1), some (.int l2), some (.int (l3 + 1))], [], (gSh, s9, u)) rfl ?_
      obtain ⟨x12, ex12, hP⟩ := g_let hP
      rw [← ex12]
      refine gRunN_ok hG.1 1 _ (55, [some (.ref 94), some (.int 1), some (.int l2), some (.int x12)], [], (gSh, s9, u)) rfl ?_
      cases hP
      exact K1 _ _ _ rfl
theorem l_Model_settle_55 (E : gEv) (d u : Nat) {G : gFr → Prop} {vo : Option Value} {sr : gS} (hG : gClo E gDf gP18 gY266 none (gC E gDf gMs (d + 3)) (vo, (gSh, sr, u)) G) (l2 : Int32) : ∀ (n : Nat) (l1 : Int32) (l3 : Int32) (σ : gS) (e : (Int32 × gS)), gIter (fun z => p_Model_settle_55 E l2 z.1 z.2.1 z.2.2) n (l1, l3, σ) = some e → (∀ (m1 : Int32) (σ1 : gS), e = (m1, σ1) → G (105, [some (.ref 94), some (.int m1), some (.int l2), none], [], (gSh, σ1, u))) → G (55, [some (.ref 94), some (.int l1), some (.int l2), some (.int l3)], [], (gSh, σ, u)) := by
  intro n
  induction n with
  | zero => intro l1 l3 σ e h; cases h
  | succ n ih =>
    intro l1 l3 σ e h K2
    rcases g_iter h with ⟨z, h1, h2⟩ | h1
    · exact b_Model_settle_55 E d u hG l2 l1 l3 σ h1 (fun n0 n1 n2 hz => by cases hz; exact ih _ _ _ e h2 K2) (fun _ _ hz => by cases hz)
    · exact b_Model_settle_55 E d u hG l2 l1 l3 σ h1 (fun _ _ _ hz => by cases hz) (fun m1 σ1 hz => K2 m1 σ1 (by cases hz; rfl))
def p_Model_settle_107 (E : gEv) (l1 : Int32) (l2 : Int32) (l3 : Int32) (σ : gS) : Option ((Int32 × gS) ⊕ (gS)) :=
  if (σ.1 94 5) ≤ l3 then (some (.inr σ)) else (if gIn l3 (σ.2.1 157) then if gIn l3 (σ.2.1 156) then gLet (gPut σ 156 l3.toNatClampNeg (vp_nar .boolean (σ.1 157 l3.toNatClampNeg))) fun s16 => gLet (l3 + 1) fun x17 => some (.inl (x17, s16)) else none else none)
set_option maxRecDepth 20000 in
theorem b_Model_settle_107 (E : gEv) (d u : Nat) {G : gFr → Prop} {vo : Option Value} {sr : gS} (hG : gClo E gDf gP18 gY266 none (gC E gDf gMs (d + 3)) (vo, (gSh, sr, u)) G) (l1 : Int32) (l2 : Int32) (l3 : Int32) (σ : gS) {r : (Int32 × gS) ⊕ (gS)} (hP : p_Model_settle_107 E l1 l2 l3 σ = some r) (K1 : ∀ (m3 : Int32) (σ1 : gS), r = .inl (m3, σ1) → G (107, [some (.ref 94), some (.int l1), some (.int l2), some (.int m3)], [], (gSh, σ1, u))) (K2 : ∀ (σ1 : gS), r = .inr σ1 → G (133, [some (.ref 94), some (.int l1), some (.int l2), none], [], (gSh, σ1, u))) : G (107, [some (.ref 94), some (.int l1), some (.int l2), some (.int l3)], [], (gSh, σ, u)) := by
  unfold p_Model_settle_107 at hP
  refine gRunN_ok hG.1 3 _ (112, [some (.ref 94), some (.int l1), some (.int l2), some (.int l3)], [.int (σ.1 94 5), .int l3], (gSh, σ, u)) rfl ?_
  rcases g_ite hP with ⟨hc, hP⟩ | ⟨hc, hP⟩
  · refine hG.1 _ (133, [some (.ref 94), some (.int l1), some (.int l2), some (.int l3)], [], (gSh, σ, u)) _ rfl (if_pos hc) ?_
    refine hG.2.2.2.2.1 _ _ [some (.ref 94), some (.int l1), some (.int l2), none] _ _ ⟨rfl, ⟨rfl, ⟨rfl, trivial⟩⟩⟩ ?_
    cases hP
    exact K2 _ rfl
  · refine hG.1 _ (115, [some (.ref 94), some (.int l1), some (.int l2), some (.int l3)], [], (gSh, σ, u)) _ rfl (if_neg hc) ?_
    refine gRunN_ok hG.1 6 _ (125, [some (.ref 94), some (.int l1), some (.int l2), some (.int l3)], [.int l3, .ref 157, .int l3, .ref 156], (gSh, σ, u)) rfl ?_
    obtain ⟨hc, hP⟩ := g_if hP
    refine hG.1 _ (126, [some (.ref 94), some (.int l1), some (.int l2), some (.int l3)], [.int (σ.1 157 l3.toNatClampNeg), .int l3, .ref 156], (gSh, σ, u)) _ rfl (if_pos hc) ?_
    obtain ⟨hc, hP⟩ := g_if hP
    refine hG.1 _ (127, [some (.ref 94), some (.int l1), some (.int l2), some (.int l3)], [], (gSh, (gPut σ 156 l3.toNatClampNeg (vp_nar .boolean (σ.1 157 l3.toNatClampNeg))), u)) _ rfl (if_pos hc) ?_
    obtain ⟨s16, es16, hP⟩ := g_let hP
    rw [← es16]
    refine gRunN_ok hG.1 1 _ (130, [some (.ref 94), some (.int l1), some (.int l2), some (.int (l3 + 1))], [], (gSh, s16, u)) rfl ?_
    obtain ⟨x17, ex17, hP⟩ := g_let hP
    rw [← ex17]
    refine gRunN_ok hG.1 1 _ (107, [some (.ref 94), some (.int l1), some (.int l2), some (.int x17)], [], (gSh, s16, u)) rfl ?_
    cases hP
    exact K1 _ _ rfl
theorem l_Model_settle_107 (E : gEv) (d u : Nat) {G : gFr → Prop} {vo : Option Value} {sr : gS} (hG : gClo E gDf gP18 gY266 none (gC E gDf gMs (d + 3)) (vo, (gSh, sr, u)) G) (l1 : Int32) (l2 : Int32) : ∀ (n : Nat) (l3 : Int32) (σ : gS) (e : (gS)), gIter (fun z => p_Model_settle_107 E l1 l2 z.1 z.2) n (l3, σ) = some e → (∀ (σ1 : gS), e = σ1 → G (133, [some (.ref 94), some (.int l1), some (.int l2), none], [], (gSh, σ1, u))) → G (107, [some (.ref 94), some (.int l1), some (.int l2), some (.int l3)], [], (gSh, σ, u)) := by
  intro n
  induction n with
  | zero => intro l3 σ e h; cases h
  | succ n ih =>
    intro l3 σ e h K2
    rcases g_iter h with ⟨z, h1, h2⟩ | h1
    · exact b_Model_settle_107 E d u hG l1 l2 l3 σ h1 (fun n0 n1 hz => by cases hz; exact ih _ _ e h2 K2) (fun _ hz => by cases hz)
    · exact b_Model_settle_107 E d u hG l1 l2 l3 σ h1 (fun _ _ hz => by cases hz) (fun σ1 hz => K2 σ1 (by cases hz; rfl))
def p_Model_settle_35 (E : gEv) (l1 : Int32) (l2 : Int32) (σ : gS) : Option ((Int32 × Int32 × gS) ⊕ (Int32 × gS)) :=
  if l1 = 0 then (some (.inr (l1, σ))) else (if (σ.1 94 5) < l2 then (some (.inr (l1, σ))) else (gB1 (p_Model_spread E σ) fun s6 => gB1 (gIter (fun z => p_Model_settle_55 E l2 z.1 z.2.1 z.2.2) gN (0, 0, s6)) fun e13 => (fun w14 s15 => gB1 (gIter (fun z => p_Model_settle_107 E w14 l2 z.1 z.2) gN (0, s15)) fun e18 => (fun s19 => gLet (l2 + 1) fun x20 => some (.inl (w14, x20, s19))) e18) e13.1 e13.2))
set_option maxRecDepth 20000 in
theorem b_Model_settle_35 (E : gEv) (d u : Nat) {G : gFr → Prop} {vo : Option Value} {sr : gS} (hG : gClo E gDf gP18 gY266 none (gC E gDf gMs (d + 3)) (vo, (gSh, sr, u)) G) (l1 : Int32) (l2 : Int32) (σ : gS) {r : (Int32 × Int32 × gS) ⊕ (Int32 × gS)} (hP : p_Model_settle_35 E l1 l2 σ = some r) (K1 : ∀ (m1 : Int32) (m2 : Int32) (σ1 : gS), r = .inl (m1, m2, σ1) → G (35, [some (.ref 94), some (.int m1), some (.int m2), none], [], (gSh, σ1, u))) (K2 : ∀ (m1 : Int32) (σ1 : gS), r = .inr (m1, σ1) → G (139, [some (.ref 94), some (.int m1), none, none], [], (gSh, σ1, u))) : G (35, [some (.ref 94), some (.int l1), some (.int l2), none], [], (gSh, σ, u)) := by
  unfold p_Model_settle_35 at hP
  refine gRunN_ok hG.1 1 _ (36, [some (.ref 94), some (.int l1), some (.int l2), none], [.int l1], (gSh, σ, u)) rfl ?_
  rcases g_ite hP with ⟨hc, hP⟩ | ⟨hc, hP⟩
  · refine hG.1 _ (139, [some (.ref 94), some (.int l1), some (.int l2), none], [], (gSh, σ, u)) _ rfl (if_pos hc) ?_
    refine hG.2.2.2.2.1 _ _ [some (.ref 94), some (.int l1), none, none] _ _ ⟨rfl, ⟨rfl, trivial⟩⟩ ?_
    cases hP
    exact K2 _ _ rfl
  · refine hG.1 _ (39, [some (.ref 94), some (.int l1), some (.int l2), none], [], (gSh, σ, u)) _ rfl (if_neg hc) ?_
    refine gRunN_ok hG.1 3 _ (44, [some (.ref 94), some (.int l1), some (.int l2), none], [.int (σ.1 94 5), .int l2], (gSh, σ, u)) rfl ?_
    rcases g_ite hP with ⟨hc, hP⟩ | ⟨hc, hP⟩
    · refine hG.1 _ (139, [some (.ref 94), some (.int l1), some (.int l2), none], [], (gSh, σ, u)) _ rfl (if_pos hc) ?_
      refine hG.2.2.2.2.1 _ _ [some (.ref 94), some (.int l1), none, none] _ _ ⟨rfl, ⟨rfl, trivial⟩⟩ ?_
      cases hP
      exact K2 _ _ rfl
    · refine hG.1 _ (47, [some (.ref 94), some (.int l1), some (.int l2), none], [], (gSh, σ, u)) _ rfl (if_neg hc) ?_
      refine gRunN_ok hG.1 1 _ (48, [some (.ref 94), some (.int l1), some (.int l2), none], [.ref 94], (gSh, σ, u)) rfl ?_
      obtain ⟨s6, hq, hP⟩ := g_b1 hP
      refine hG.2.2.2.1 _ _ _ [.ref 94] [] _ (gSh, s6, u) none _ _ _ _ _ _ rfl rfl rfl rfl rfl rfl (c_Model_spread E (d + 0) u _  hq) (Nat.le_refl _) (Nat.le_refl _) (Nat.le_refl _) (Nat.le_refl _) ?_
      show G (51, [some (.ref 94), some (.int l1), some (.int l2), none], [], (gSh, s6, u))
      refine gRunN_ok hG.1 4 _ (55, [some (.ref 94), some (.int 0), some (.int l2), some (.int 0)], [], (gSh, s6, u)) rfl ?_
      obtain ⟨e13, hq, hP⟩ := g_b1 hP
      refine l_Model_settle_55 E d u hG l2 gN 0 0 s6 _ hq (fun w14 s15 he => ?_)
      · subst he
        try dsimp only [gSum] at hP
        refine gRunN_ok hG.1 2 _ (107, [some (.ref 94), some (.int w14), some (.int l2), some (.int 0)], [], (gSh, s15, u)) rfl ?_
        obtain ⟨e18, hq, hP⟩ := g_b1 hP
        refine l_Model_settle_107 E d u hG w14 l2 gN 0 s15 _ hq (fun s19 he => ?_)
        · replace he := he.symm
          subst he
          try dsimp only [gSum] at hP
          refine gRunN_ok hG.1 1 _ (136, [some (.ref 94), some (.int w14), some (.int (l2 + 1)), none], [], (gSh, s19, u)) rfl ?_
          obtain ⟨x20, ex20, hP⟩ := g_let hP
          rw [← ex20]
          refine gRunN_ok hG.1 1 _ (35, [some (.ref 94), some (.int w14), some (.int x20), none], [], (gSh, s19, u)) rfl ?_
          cases hP
          exact K1 _ _ _ rfl
theorem l_Model_settle_35 (E : gEv) (d u : Nat) {G : gFr → Prop} {vo : Option Value} {sr : gS} (hG : gClo E gDf gP18 gY266 none (gC E gDf gMs (d + 3)) (vo, (gSh, sr, u)) G) : ∀ (n : Nat) (l1 : Int32) (l2 : Int32) (σ : gS) (e : (Int32 × gS)), gIter (fun z => p_Model_settle_35 E z.1 z.2.1 z.2.2) n (l1, l2, σ) = some e → (∀ (m1 : Int32) (σ1 : gS), e = (m1, σ1) → G (139, [some (.ref 94), some (.int m1), none, none], [], (gSh, σ1, u))) → G (35, [some (.ref 94), some (.int l1), some (.int l2), none], [], (gSh, σ, u)) := by
  intro n
  induction n with
  | zero => intro l1 l2 σ e h; cases h
  | succ n ih =>
    intro l1 l2 σ e h K2
    rcases g_iter h with ⟨z, h1, h2⟩ | h1
    · exact b_Model_settle_35 E d u hG l1 l2 σ h1 (fun n0 n1 n2 hz => by cases hz; exact ih _ _ _ e h2 K2) (fun _ _ hz => by cases hz)
    · exact b_Model_settle_35 E d u hG l1 l2 σ h1 (fun _ _ _ hz => by cases hz) (fun m1 σ1 hz => K2 m1 σ1 (by cases hz; rfl))
def p_Model_settle_j139 (E : gEv) (l1 : Int32) (σ : gS) : Option (gS) :=
  if l1 = 0 ∨ l1 = 1 then gLet (gPut σ 94 98 l1) fun s24 => gLet (gPut s24 94 97 1) fun s25 => some s25 else none
set_option maxRecDepth 20000 in
theorem j_Model_settle_j139 (E : gEv) (d u : Nat) {G : gFr → Prop} {sr : gS} (hG : gClo E gDf gP18 gY266 none (gC E gDf gMs (d + 3)) (none, (gSh, sr, u)) G) (l1 : Int32) (σ : gS) (hP : p_Model_settle_j139 E l1 σ = some sr) : G (139, [some (.ref 94), some (.int l1), none, none], [], (gSh, σ, u)) := by
  unfold p_Model_settle_j139 at hP
  refine gRunN_ok hG.1 2 _ (141, [some (.ref 94), some (.int l1), none, none], [.int l1, .ref 94], (gSh, σ, u)) rfl ?_
  obtain ⟨hc, hP⟩ := g_if hP
  refine hG.1 _ (144, [some (.ref 94), some (.int l1), none, none], [], (gSh, (gPut σ 94 98 l1), u)) _ rfl (if_pos hc) ?_
  obtain ⟨s24, es24, hP⟩ := g_let hP
  rw [← es24]
  refine gRunN_ok hG.1 3 _ (149, [some (.ref 94), some (.int l1), none, none], [], (gSh, (gPut s24 94 97 1), u)) rfl ?_
  obtain ⟨s25, es25, hP⟩ := g_let hP
  rw [← es25]
  cases hP
  exact hG.2.1 _ _ rfl rfl
def p_Model_settle (E : gEv) (σ : gS) : Option (gS) :=
  if (σ.1 94 97) = 0 then (gB1 (gIter (fun z => p_Model_settle_10 E z.1 z.2) gN (0, σ)) fun e3 => (fun s4 => gB1 (gIter (fun z => p_Model_settle_35 E z.1 z.2.1 z.2.2) gN (1, 0, s4)) fun e21 => (fun w22 s23 => p_Model_settle_j139 E w22 s23) e21.1 e21.2) e3) else (some σ)
set_option maxRecDepth 20000 in
theorem c_Model_settle (E : gEv) (d u : Nat) (σ : gS) {sr : gS}  (hq : p_Model_settle E σ = some sr) : gC E gDf gMs (d + 4) 266 [.ref 94] (gSh, σ, u) (none, (gSh, sr, u)) := ⟨gM266, rfl, Nat.le_of_ble_eq_true rfl, fun G hG => by
  have hP := hq
  unfold p_Model_settle at hP
  replace hG : gClo E gDf gP18 gY266 none (gC E gDf gMs (d + 3)) (none, (gSh, sr, u)) G := hG
  show G (0, [some (.ref 94), none, none, none], [], (gSh, σ, u))
  refine gRunN_ok hG.1 2 _ (4, [some (.ref 94), none, none, none], [.int (σ.1 94 97)], (gSh, σ, u)) rfl ?_
  rcases g_ite hP with ⟨hc, hP⟩ | ⟨hc, hP⟩
  · refine hG.1 _ (8, [some (.ref 94), none, none, none], [], (gSh, σ, u)) _ rfl (if_pos hc) ?_
    refine gRunN_ok hG.1 2 _ (10, [some (.ref 94), some (.int 0), none, none], [], (gSh, σ, u)) rfl ?_
    obtain ⟨e3, hq, hP⟩ := g_b1 hP
    refine l_Model_settle_10 E d u hG gN 0 σ _ hq (fun s4 he => ?_)
    · replace he := he.symm
      subst he
      try dsimp only [gSum] at hP
      refine gRunN_ok hG.1 4 _ (35, [some (.ref 94), some (.int 1), some (.int 0), none], [], (gSh, s4, u)) rfl ?_
      obtain ⟨e21, hq, hP⟩ := g_b1 hP
      refine l_Model_settle_35 E d u hG gN 1 0 s4 _ hq (fun w22 s23 he => ?_)
      · subst he
        try dsimp only [gSum] at hP
        exact j_Model_settle_j139 E d u hG w22 s23 hP
  · refine hG.1 _ (7, [some (.ref 94), none, none, none], [], (gSh, σ, u)) _ rfl (if_neg hc) ?_
    cases hP
    exact hG.2.1 _ _ rfl rfl⟩
def p_Text_isWord_20 (E : gEv) (i0 : Nat) (l2 : Int32) (σ : gS) : Option ((Int32) ⊕ ((Unit) ⊕ (Unit))) :=
  gB1 (p_String_length E i0 σ) fun v3 => if v3 ≤ l2 then (some (.inr (.inr ()))) else (if gIn ((σ.1 10 5) + l2) (σ.2.1 11) then gB1 (p_String_charAt E i0 l2 σ) fun v5 => if (σ.1 11 ((σ.1 10 5) + l2).toNatClampNeg) = v5 then (gLet (l2 + 1) fun x7 => some (.inl x7)) else (some (.inr (.inl ()))) else none)
set_option maxRecDepth 20000 in
theorem b_Text_isWord_20 (E : gEv) (d u : Nat) {G : gFr → Prop} {vo : Option Value} {sr : gS} (hG : gClo E gDf gP3 gY51 (some .boolean) (gC E gDf gMs (d + 4)) (vo, (gSh, sr, u)) G) (i0 : Nat) (l2 : Int32) (σ : gS) (hi0 : i0 < 7) {r : (Int32) ⊕ ((Unit) ⊕ (Unit))} (hP : p_Text_isWord_20 E i0 l2 σ = some r) (K1 : ∀ (m2 : Int32), r = .inl m2 → G (20, [some (.ref 10), some (.retAddr i0), some (.int m2)], [], (gSh, σ, u))) (K2 : r = .inr (.inl ()) → G (47, [none, none, none], [], (gSh, σ, u))) (K3 : r = .inr (.inr ()) → G (55, [none, none, none], [], (gSh, σ, u))) : G (20, [some (.ref 10), some (.retAddr i0), some (.int l2)], [], (gSh, σ, u)) := by
  unfold p_Text_isWord_20 at hP
  refine gRunN_ok hG.1 2 _ (22, [some (.ref 10), some (.retAddr i0), some (.int l2)], [.retAddr i0, .int l2], (gSh, σ, u)) rfl ?_
  obtain ⟨v3, hq, hP⟩ := g_b1 hP
  refine hG.2.2.2.1 _ _ _ [.retAddr i0] [.int l2] _ (gSh, σ, u) (some (.int v3)) _ _ _ _ _ _ rfl rfl rfl rfl rfl (by simp [gRcv, gCat, Value.category, hi0]) (c_String_length E (d + 2) u i0 _ hi0 hq) (Nat.le_refl _) (Nat.le_refl _) (Nat.le_refl _) (Nat.le_refl _) ?_
  show G (25, [some (.ref 10), some (.retAddr i0), some (.int l2)], [.int v3, .int l2], (gSh, σ, u))
  rcases g_ite hP with ⟨hc, hP⟩ | ⟨hc, hP⟩
  · refine hG.1 _ (55, [some (.ref 10), some (.retAddr i0), some (.int l2)], [], (gSh, σ, u)) _ rfl (if_pos hc) ?_
    refine hG.2.2.2.2.1 _ _ [none, none, none] _ _ trivial ?_
    cases hP
    exact K3 rfl
  · refine hG.1 _ (28, [some (.ref 10), some (.retAddr i0), some (.int l2)], [], (gSh, σ, u)) _ rfl (if_neg hc) ?_
    refine gRunN_ok hG.1 6 _ (38, [some (.ref 10), some (.retAddr i0), some (.int l2)], [.int ((σ.1 10 5) + l2), .ref 11], (gSh, σ, u)) rfl ?_
    obtain ⟨hc, hP⟩ := g_if hP
    refine hG.1 _ (39, [some (.ref 10), some (.retAddr i0), some (.int l2)], [.int (σ.1 11 ((σ.1 10 5) + l2).toNatClampNeg)], (gSh, σ, u)) _ rfl (if_pos hc) ?_
    refine gRunN_ok hG.1 2 _ (41, [some (.ref 10), some (.retAddr i0), some (.int l2)], [.int l2, .retAddr i0, .int (σ.1 11 ((σ.1 10 5) + l2).toNatClampNeg)], (gSh, σ, u)) rfl ?_
    obtain ⟨v5, hq, hP⟩ := g_b1 hP
    refine hG.2.2.2.1 _ _ _ [.retAddr i0, .int l2] [.int (σ.1 11 ((σ.1 10 5) + l2).toNatClampNeg)] _ (gSh, σ, u) (some (.int v5)) _ _ _ _ _ _ rfl rfl rfl rfl rfl (by simp [gRcv, gCat, Value.category, hi0]) (c_String_charAt E (d + 0) u i0 l2 _ hi0 hq) (Nat.le_refl _) (Nat.le_refl _) (Nat.le_refl _) (Nat.le_refl _) ?_
    show G (44, [some (.ref 10), some (.retAddr i0), some (.int l2)], [.int v5, .int (σ.1 11 ((σ.1 10 5) + l2).toNatClampNeg)], (gSh, σ, u))
    rcases g_ite hP with ⟨hc, hP⟩ | ⟨hc, hP⟩
    · refine hG.1 _ (49, [some (.ref 10), some (.retAddr i0), some (.int l2)], [], (gSh, σ, u)) _ rfl (if_pos hc) ?_
      refine gRunN_ok hG.1 1 _ (52, [some (.ref 10), some (.retAddr i0), some (.int (l2 + 1))], [], (gSh, σ, u)) rfl ?_
      obtain ⟨x7, ex7, hP⟩ := g_let hP
      rw [← ex7]
      refine gRunN_ok hG.1 1 _ (20, [some (.ref 10), some (.retAddr i0), some (.int x7)], [], (gSh, σ, u)) rfl ?_
      cases hP
      exact K1 _ rfl
    · refine hG.1 _ (47, [some (.ref 10), some (.retAddr i0), some (.int l2)], [], (gSh, σ, u)) _ rfl (if_neg hc) ?_
      refine hG.2.2.2.2.1 _ _ [none, none, none] _ _ trivial ?_
      cases hP
      exact K2 rfl
theorem l_Text_isWord_20 (E : gEv) (d u : Nat) {G : gFr → Prop} {vo : Option Value} {sr : gS} (hG : gClo E gDf gP3 gY51 (some .boolean) (gC E gDf gMs (d + 4)) (vo, (gSh, sr, u)) G) (i0 : Nat) (σ : gS) (hi0 : i0 < 7) : ∀ (n : Nat) (l2 : Int32) (e : ((Unit) ⊕ (Unit))), gIter (fun z => p_Text_isWord_20 E i0 z σ) n l2 = some e → ( e = (.inl ()) → G (47, [none, none, none], [], (gSh, σ, u))) → ( e = (.inr ()) → G (55, [none, none, none], [], (gSh, σ, u))) → G (20, [some (.ref 10), some (.retAddr i0), some (.int l2)], [], (gSh, σ, u)) := by
  intro n
  induction n with
  | zero => intro l2 e h; cases h
  | succ n ih =>
    intro l2 e h K2 K3
    rcases g_iter h with ⟨z, h1, h2⟩ | h1
    · exact b_Text_isWord_20 E d u hG i0 l2 σ hi0 h1 (fun n0 hz => by cases hz; exact ih _ e h2 K2 K3) (fun  hz => by cases hz) (fun  hz => by cases hz)
    · exact b_Text_isWord_20 E d u hG i0 l2 σ hi0 h1 (fun _ hz => by cases hz) (fun  hz => K2  (by cases hz; rfl)) (fun  hz => K3  (by cases hz; rfl))
def p_Text_isWord (E : gEv) (i0 : Nat) (σ : gS) : Option (Int32) :=
  gB1 (p_String_length E i0 σ) fun v1 => if ((σ.1 10 6) - (σ.1 10 5)) = v1 then (gB1 (gIter (fun z => p_Text_isWord_20 E i0 z σ) gN 0) fun e8 => gSum e8 (fun e9 => some 0) (fun e10 => some 1)) else (some 0)
set_option maxRecDepth 20000 in
theorem c_Text_isWord (E : gEv) (d u : Nat) (i0 : Nat) (σ : gS) {v : Int32}  (hi0 : i0 < 7) (hq : p_Text_isWord E i0 σ = some v) : gC E gDf gMs (d + 5) 51 [.ref 10, .retAddr i0] (gSh, σ, u) (some (.int v), (gSh, σ, u)) := ⟨gM51, rfl, Nat.le_of_ble_eq_true rfl, fun G hG => by
  have hP := hq
  unfold p_Text_isWord at hP
  replace hG : gClo E gDf gP3 gY51 (some .boolean) (gC E gDf gMs (d + 4)) (some (.int v), (gSh, σ, u)) G := hG
  show G (0, [some (.ref 10), some (.retAddr i0), none], [], (gSh, σ, u))
  refine gRunN_ok hG.1 6 _ (10, [some (.ref 10), some (.retAddr i0), none], [.retAddr i0, .int ((σ.1 10 6) - (σ.1 10 5))], (gSh, σ, u)) rfl ?_
  obtain ⟨v1, hq, hP⟩ := g_b1 hP
  refine hG.2.2.2.1 _ _ _ [.retAddr i0] [.int ((σ.1 10 6) - (σ.1 10 5))] _ (gSh, σ, u) (some (.int v1)) _ _ _ _ _ _ rfl rfl rfl rfl rfl (by simp [gRcv, gCat, Value.category, hi0]) (c_String_length E (d + 2) u i0 _ hi0 hq) (Nat.le_refl _) (Nat.le_refl _) (Nat.le_refl _) (Nat.le_refl _) ?_
  show G (13, [some (.ref 10), some (.retAddr i0), none], [.int v1, .int ((σ.1 10 6) - (σ.1 10 5))], (gSh, σ, u))
  rcases g_ite hP with ⟨hc, hP⟩ | ⟨hc, hP⟩
  · refine hG.1 _ (18, [some (.ref 10), some (.retAddr i0), none], [], (gSh, σ, u)) _ rfl (if_pos hc) ?_
    refine gRunN_ok hG.1 2 _ (20, [some (.ref 10), some (.retAddr i0), some (.int 0)], [], (gSh, σ, u)) rfl ?_
    obtain ⟨e8, hq, hP⟩ := g_b1 hP
    refine l_Text_isWord_20 E d u hG i0 σ hi0 gN 0 _ hq (fun  he => ?_) (fun  he => ?_)
    · subst he
      try dsimp only [gSum] at hP
      refine gRunN_ok hG.1 1 _ (48, [none, none, none], [.int 0], (gSh, σ, u)) rfl ?_
      cases hP
      exact hG.2.1 _ _ rfl rfl
    · subst he
      try dsimp only [gSum] at hP
      refine gRunN_ok hG.1 1 _ (56, [none, none, none], [.int 1], (gSh, σ, u)) rfl ?_
      cases hP
      exact hG.2.1 _ _ rfl rfl
  · refine hG.1 _ (16, [some (.ref 10), some (.retAddr i0), none], [], (gSh, σ, u)) _ rfl (if_neg hc) ?_
    refine gRunN_ok hG.1 1 _ (17, [some (.ref 10), some (.retAddr i0), none], [.int 0], (gSh, σ, u)) rfl ?_
    cases hP
    exact hG.2.1 _ _ rfl rfl⟩
def p_Face_shake_36 (E : gEv) (l2 : Int32) (l3 : Int32) (l4 : Int32) (σ : gS) : Option ((Int32 × Int32 × gS) ⊕ (gS)) :=
  if l2 ≤ l4 then (some (.inr σ)) else (gB1 (p_Placing_throwCoin E l3 σ) fun s2 => gLet ((l3 * (1103515245 : Int32)) + (12345 : Int32)) fun x3 => gLet (l4 + 1) fun x4 => some (.inl (x3, x4, s2)))
set_option maxRecDepth 20000 in
theorem b_Face_shake_36 (E : gEv) (d u : Nat) {G : gFr → Prop} {vo : Option Value} {sr : gS} (hG : gClo E gDf gP0 gY118 (some .int) (gC E gDf gMs (d + 4)) (vo, (gSh, sr, u)) G) (l2 : Int32) (l3 : Int32) (l4 : Int32) (σ : gS) {r : (Int32 × Int32 × gS) ⊕ (gS)} (hP : p_Face_shake_36 E l2 l3 l4 σ = some r) (K1 : ∀ (m3 : Int32) (m4 : Int32) (σ1 : gS), r = .inl (m3, m4, σ1) → G (36, [some (.ref 0), none, some (.int l2), some (.int m3), some (.int m4)], [], (gSh, σ1, u))) (K2 : ∀ (σ1 : gS), r = .inr σ1 → G (65, [some (.ref 0), none, none, none, none], [], (gSh, σ1, u))) : G (36, [some (.ref 0), none, some (.int l2), some (.int l3), some (.int l4)], [], (gSh, σ, u)) := by
  unfold p_Face_shake_36 at hP
  refine gRunN_ok hG.1 2 _ (39, [some (.ref 0), none, some (.int l2), some (.int l3), some (.int l4)], [.int l2, .int l4], (gSh, σ, u)) rfl ?_
  rcases g_ite hP with ⟨hc, hP⟩ | ⟨hc, hP⟩
  · refine hG.1 _ (65, [some (.ref 0), none, some (.int l2), some (.int l3), some (.int l4)], [], (gSh, σ, u)) _ rfl (if_pos hc) ?_
    refine hG.2.2.2.2.1 _ _ [some (.ref 0), none, none, none, none] _ _ ⟨rfl, trivial⟩ ?_
    cases hP
    exact K2 _ rfl
  · refine hG.1 _ (42, [some (.ref 0), none, some (.int l2), some (.int l3), some (.int l4)], [], (gSh, σ, u)) _ rfl (if_neg hc) ?_
    refine gRunN_ok hG.1 3 _ (47, [some (.ref 0), none, some (.int l2), some (.int l3), some (.int l4)], [.int l3, .ref 67], (gSh, σ, u)) rfl ?_
    obtain ⟨s2, hq, hP⟩ := g_b1 hP
    refine hG.2.2.2.1 _ _ _ [.ref 67, .int l3] [] _ (gSh, s2, u) none _ _ _ _ _ _ rfl rfl rfl rfl rfl rfl (c_Placing_throwCoin E (d + 0) u l3 _  hq) (Nat.le_refl _) (Nat.le_refl _) (Nat.le_refl _) (Nat.le_refl _) ?_
    show G (50, [some (.ref 0), none, some (.int l2), some (.int l3), some (.int l4)], [], (gSh, s2, u))
    refine gRunN_ok hG.1 6 _ (59, [some (.ref 0), none, some (.int l2), some (.int ((l3 * (1103515245 : Int32)) + (12345 : Int32))), some (.int l4)], [], (gSh, s2, u)) rfl ?_
    obtain ⟨x3, ex3, hP⟩ := g_let hP
    rw [← ex3]
    refine gRunN_ok hG.1 1 _ (62, [some (.ref 0), none, some (.int l2), some (.int x3), some (.int (l4 + 1))], [], (gSh, s2, u)) rfl ?_
    obtain ⟨x4, ex4, hP⟩ := g_let hP
    rw [← ex4]
    refine gRunN_ok hG.1 1 _ (36, [some (.ref 0), none, some (.int l2), some (.int x3), some (.int x4)], [], (gSh, s2, u)) rfl ?_
    cases hP
    exact K1 _ _ _ rfl
theorem l_Face_shake_36 (E : gEv) (d u : Nat) {G : gFr → Prop} {vo : Option Value} {sr : gS} (hG : gClo E gDf gP0 gY118 (some .int) (gC E gDf gMs (d + 4)) (vo, (gSh, sr, u)) G) (l2 : Int32) : ∀ (n : Nat) (l3 : Int32) (l4 : Int32) (σ : gS) (e : (gS)), gIter (fun z => p_Face_shake_36 E l2 z.1 z.2.1 z.2.2) n (l3, l4, σ) = some e → (∀ (σ1 : gS), e = σ1 → G (65, [some (.ref 0), none, none, none, none], [], (gSh, σ1, u))) → G (36, [some (.ref 0), none, some (.int l2), some (.int l3), some (.int l4)], [], (gSh, σ, u)) := by
  intro n
  induction n with
  | zero => intro l3 l4 σ e h; cases h
  | succ n ih =>
    intro l3 l4 σ e h K2
    rcases g_iter h with ⟨z, h1, h2⟩ | h1
    · exact b_Face_shake_36 E d u hG l2 l3 l4 σ h1 (fun n0 n1 n2 hz => by cases hz; exact ih _ _ _ e h2 K2) (fun _ hz => by cases hz)
    · exact b_Face_shake_36 E d u hG l2 l3 l4 σ h1 (fun _ _ _ hz => by cases hz) (fun σ1 hz => K2 σ1 (by cases hz; rfl))
def p_Face_shake_j31 (E : gEv) (l1 : Int32) (l2 : Int32) (σ : gS) : Option (Int32 × gS) :=
  gB1 (gIter (fun z => p_Face_shake_36 E l2 z.1 z.2.1 z.2.2) gN (l1, 0, σ)) fun e5 => (fun s6 => some (s6.1 67 4, s6)) e5
set_option maxRecDepth 20000 in
theorem j_Face_shake_j31 (E : gEv) (d u : Nat) {G : gFr → Prop} {v : Int32} {sr : gS} (hG : gClo E gDf gP0 gY118 (some .int) (gC E gDf gMs (d + 4)) (some (.int v), (gSh, sr, u)) G) (l1 : Int32) (l2 : Int32) (σ : gS) (hP : p_Face_shake_j31 E l1 l2 σ = some (v, sr)) : G (31, [some (.ref 0), some (.int l1), some (.int l2), none, none], [], (gSh, σ, u)) := by
  unfold p_Face_shake_j31 at hP
  refine gRunN_ok hG.1 4 _ (36, [some (.ref 0), some (.int l1), some (.int l2), some (.int l1), some (.int 0)], [], (gSh, σ, u)) rfl ?_
  refine hG.2.2.2.2.1 _ _ [some (.ref 0), none, some (.int l2), some (.int l1), some (.int 0)] _ _ ⟨rfl, ⟨rfl, ⟨rfl, ⟨rfl, trivial⟩⟩⟩⟩ ?_
  obtain ⟨e5, hq, hP⟩ := g_b1 hP
  refine l_Face_shake_36 E d u hG l2 gN l1 0 σ _ hq (fun s6 he => ?_)
  · replace he := he.symm
    subst he
    try dsimp only [gSum] at hP
    refine gRunN_ok hG.1 3 _ (72, [some (.ref 0), none, none, none, none], [.int (s6.1 67 4)], (gSh, s6, u)) rfl ?_
    cases hP
    exact hG.2.1 _ _ rfl rfl
def p_Face_shake (E : gEv) (a0 : Int32) (a1 : Int32) (σ : gS) : Option (Int32 × gS) :=
  if (σ.1 0 10) = 0 then (some ((-1), σ)) else (if a1 < 0 then (some ((-1), σ)) else (if a1 ≤ (1000 : Int32) then (if a1 ≤ 0 then (p_Face_shake_j31 E a0 a1 σ) else (gB1 (p_Router_drop E σ) fun s8 => p_Face_shake_j31 E a0 a1 s8)) else (some ((-1), σ))))
set_option maxRecDepth 20000 in
theorem c_Face_shake (E : gEv) (d u : Nat) (a0 : Int32) (a1 : Int32) (σ : gS) {v : Int32} {sr : gS}  (hq : p_Face_shake E a0 a1 σ = some (v, sr)) : gC E gDf gMs (d + 5) 118 [.ref 0, .int a0, .int a1] (gSh, σ, u) (some (.int v), (gSh, sr, u)) := ⟨gM118, rfl, Nat.le_of_ble_eq_true rfl, fun G hG => by
  have hP := hq
  unfold p_Face_shake at hP
  replace hG : gClo E gDf gP0 gY118 (some .int) (gC E gDf gMs (d + 4)) (some (.int v), (gSh, sr, u)) G := hG
  show G (0, [some (.ref 0), some (.int a0), some (.int a1), none, none], [], (gSh, σ, u))
  refine gRunN_ok hG.1 2 _ (4, [some (.ref 0), some (.int a0), some (.int a1), none, none], [.int (σ.1 0 10)], (gSh, σ, u)) rfl ?_
  rcases g_ite hP with ⟨hc, hP⟩ | ⟨hc, hP⟩
  · refine hG.1 _ (18, [some (.ref 0), some (.int a0), some (.int a1), none, none], [], (gSh, σ, u)) _ rfl (if_pos hc) ?_
    refine gRunN_ok hG.1 1 _ (19, [some (.ref 0), some (.int a0), some (.int a1), none, none], [.int (-1)], (gSh, σ, u)) rfl ?_
    cases hP
    exact hG.2.1 _ _ rfl rfl
  · refine hG.1 _ (7, [some (.ref 0), some (.int a0), some (.int a1), none, none], [], (gSh, σ, u)) _ rfl (if_neg hc) ?_
    refine gRunN_ok hG.1 1 _ (8, [some (.ref 0), some (.int a0), some (.int a1), none, none], [.int a1], (gSh, σ, u)) rfl ?_
    rcases g_ite hP with ⟨hc, hP⟩ | ⟨hc, hP⟩
    · refine hG.1 _ (18, [some (.ref 0), some (.int a0), some (.int a1), none, none], [], (gSh, σ, u)) _ rfl (if_pos hc) ?_
      refine gRunN_ok hG.1 1 _ (19, [some (.ref 0), some (.int a0), some (.int a1), none, none], [.int (-1)], (gSh, σ, u)) rfl ?_
      cases hP
      exact hG.2.1 _ _ rfl rfl
    · refine hG.1 _ (11, [some (.ref 0), some (.int a0), some (.int a1), none, none], [], (gSh, σ, u)) _ rfl (if_neg hc) ?_
      refine gRunN_ok hG.1 2 _ (15, [some (.ref 0), some (.int a0), some (.int a1), none, none], [.int 1000, .int a1], (gSh, σ, u)) rfl ?_
      rcases g_ite hP with ⟨hc, hP⟩ | ⟨hc, hP⟩
      · refine hG.1 _ (20, [some (.ref 0), some (.int a0), some (.int a1), none, none], [], (gSh, σ, u)) _ rfl (if_pos hc) ?_
        refine gRunN_ok hG.1 1 _ (21, [some (.ref 0), some (.int a0), some (.int a1), none, none], [.int a1], (gSh, σ, u)) rfl ?_
        rcases g_ite hP with ⟨hc, hP⟩ | ⟨hc, hP⟩
        · refine hG.1 _ (31, [some (.ref 0), some (.int a0), some (.int a1), none, none], [], (gSh, σ, u)) _ rfl (if_pos hc) ?_
          exact j_Face_shake_j31 E d u hG a0 a1 σ hP
        · refine hG.1 _ (24, [some (.ref 0), some (.int a0), some (.int a1), none, none], [], (gSh, σ, u)) _ rfl (if_neg hc) ?_
          refine gRunN_ok hG.1 2 _ (28, [some (.ref 0), some (.int a0), some (.int a1), none, none], [.ref 70], (gSh, σ, u)) rfl ?_
          obtain ⟨s8, hq, hP⟩ := g_b1 hP
          refine hG.2.2.2.1 _ _ _ [.ref 70] [] _ (gSh, s8, u) none _ _ _ _ _ _ rfl rfl rfl rfl rfl rfl (c_Router_drop E (d + 3) u _  hq) (Nat.le_refl _) (Nat.le_refl _) (Nat.le_refl _) (Nat.le_refl _) ?_
          show G (31, [some (.ref 0), some (.int a0), some (.int a1), none, none], [], (gSh, s8, u))
          exact j_Face_shake_j31 E d u hG a0 a1 s8 hP
      · refine hG.1 _ (18, [some (.ref 0), some (.int a0), some (.int a1), none, none], [], (gSh, σ, u)) _ rfl (if_neg hc) ?_
        refine gRunN_ok hG.1 1 _ (19, [some (.ref 0), some (.int a0), some (.int a1), none, none], [.int (-1)], (gSh, σ, u)) rfl ?_
        cases hP
        exact hG.2.1 _ _ rfl rfl⟩
def p_Router_work_37 (E : gEv) (l1 : Int32) (l2 : Int32) (σ : gS) : Option ((Int32 × gS) ⊕ (gS)) :=
  if (σ.1 53 17) ≤ l2 then (some (.inr σ)) else (gB1 (p_Router_routeNet E l2 σ) fun s9 => gLet (l2 + 1) fun x10 => some (.inl (x10, s9)))
set_option maxRecDepth 20000 in
theorem b_Router_work_37 (E : gEv) (d u : Nat) {G : gFr → Prop} {vo : Option Value} {sr : gS} (hG : gClo E gDf gP10 gY121 (some .int) (gC E gDf gMs (d + 4)) (vo, (gSh, sr, u)) G) (l1 : Int32) (l2 : Int32) (σ : gS) {r : (Int32 × gS) ⊕ (gS)} (hP : p_Router_work_37 E l1 l2 σ = some r) (K1 : ∀ (m2 : Int32) (σ1 : gS), r = .inl (m2, σ1) → G (37, [some (.ref 70), some (.int l1), some (.int m2)], [], (gSh, σ1, u))) (K2 : ∀ (σ1 : gS), r = .inr σ1 → G (59, [some (.ref 70), some (.int l1), none], [], (gSh, σ1, u))) : G (37, [some (.ref 70), some (.int l1), some (.int l2)], [], (gSh, σ, u)) := by
  unfold p_Router_work_37 at hP
  refine gRunN_ok hG.1 4 _ (45, [some (.ref 70), some (.int l1), some (.int l2)], [.int (σ.1 53 17), .int l2], (gSh, σ, u)) rfl ?_
  rcases g_ite hP with ⟨hc, hP⟩ | ⟨hc, hP⟩
  · refine hG.1 _ (59, [some (.ref 70), some (.int l1), some (.int l2)], [], (gSh, σ, u)) _ rfl (if_pos hc) ?_
    refine hG.2.2.2.2.1 _ _ [some (.ref 70), some (.int l1), none] _ _ ⟨rfl, ⟨rfl, trivial⟩⟩ ?_
    cases hP
    exact K2 _ rfl
  · refine hG.1 _ (48, [some (.ref 70), some (.int l1), some (.int l2)], [], (gSh, σ, u)) _ rfl (if_neg hc) ?_
    refine gRunN_ok hG.1 2 _ (50, [some (.ref 70), some (.int l1), some (.int l2)], [.int l2, .ref 70], (gSh, σ, u)) rfl ?_
    obtain ⟨s9, hq, hP⟩ := g_b1 hP
    refine hG.2.2.2.1 _ _ _ [.ref 70, .int l2] [] _ (gSh, s9, u) none _ _ _ _ _ _ rfl rfl rfl rfl rfl rfl (c_Router_routeNet E (d + 0) u l2 _  hq) (Nat.le_refl _) (Nat.le_refl _) (Nat.le_refl _) (Nat.le_refl _) ?_
    show G (53, [some (.ref 70), some (.int l1), some (.int l2)], [], (gSh, s9, u))
    refine gRunN_ok hG.1 1 _ (56, [some (.ref 70), some (.int l1), some (.int (l2 + 1))], [], (gSh, s9, u)) rfl ?_
    obtain ⟨x10, ex10, hP⟩ := g_let hP
    rw [← ex10]
    refine gRunN_ok hG.1 1 _ (37, [some (.ref 70), some (.int l1), some (.int x10)], [], (gSh, s9, u)) rfl ?_
    cases hP
    exact K1 _ _ rfl
theorem l_Router_work_37 (E : gEv) (d u : Nat) {G : gFr → Prop} {vo : Option Value} {sr : gS} (hG : gClo E gDf gP10 gY121 (some .int) (gC E gDf gMs (d + 4)) (vo, (gSh, sr, u)) G) (l1 : Int32) : ∀ (n : Nat) (l2 : Int32) (σ : gS) (e : (gS)), gIter (fun z => p_Router_work_37 E l1 z.1 z.2) n (l2, σ) = some e → (∀ (σ1 : gS), e = σ1 → G (59, [some (.ref 70), some (.int l1), none], [], (gSh, σ1, u))) → G (37, [some (.ref 70), some (.int l1), some (.int l2)], [], (gSh, σ, u)) := by
  intro n
  induction n with
  | zero => intro l2 σ e h; cases h
  | succ n ih =>
    intro l2 σ e h K2
    rcases g_iter h with ⟨z, h1, h2⟩ | h1
    · exact b_Router_work_37 E d u hG l1 l2 σ h1 (fun n0 n1 hz => by cases hz; exact ih _ _ e h2 K2) (fun _ hz => by cases hz)
    · exact b_Router_work_37 E d u hG l1 l2 σ h1 (fun _ _ hz => by cases hz) (fun σ1 hz => K2 σ1 (by cases hz; rfl))
def p_Router_work_27 (E : gEv) (l1 : Int32) (σ : gS) : Option ((gS) ⊕ ((gS) ⊕ (gS))) :=
  if l1 < (σ.1 70 13) then (some (.inr (.inr σ))) else (gB1 (gIter (fun z => p_Router_work_37 E l1 z.1 z.2) gN (0, σ)) fun e11 => (fun s12 => gB2 (p_Router_isDone E s12) fun v13 s14 => if v13 = 0 then (gLet (gPut s14 70 13 ((s14.1 70 13) + (1 : Int32))) fun s15 => some (.inl s15)) else (some (.inr (.inl s14)))) e11)
set_option maxRecDepth 20000 in
theorem b_Router_work_27 (E : gEv) (d u : Nat) {G : gFr → Prop} {vo : Option Value} {sr : gS} (hG : gClo E gDf gP10 gY121 (some .int) (gC E gDf gMs (d + 4)) (vo, (gSh, sr, u)) G) (l1 : Int32) (σ : gS) {r : (gS) ⊕ ((gS) ⊕ (gS))} (hP : p_Router_work_27 E l1 σ = some r) (K1 : ∀ (σ1 : gS), r = .inl σ1 → G (27, [some (.ref 70), some (.int l1), none], [], (gSh, σ1, u))) (K2 : ∀ (σ1 : gS), r = .inr (.inl σ1) → G (66, [some (.ref 70), none, none], [], (gSh, σ1, u))) (K3 : ∀ (σ1 : gS), r = .inr (.inr σ1) → G (88, [some (.ref 70), some (.int l1), none], [], (gSh, σ1, u))) : G (27, [some (.ref 70), some (.int l1), none], [], (gSh, σ, u)) := by
  unfold p_Router_work_27 at hP
  refine gRunN_ok hG.1 3 _ (32, [some (.ref 70), some (.int l1), none], [.int l1, .int (σ.1 70 13)], (gSh, σ, u)) rfl ?_
  rcases g_ite hP with ⟨hc, hP⟩ | ⟨hc, hP⟩
  · refine hG.1 _ (88, [some (.ref 70), some (.int l1), none], [], (gSh, σ, u)) _ rfl (if_pos hc) ?_
    cases hP
    exact K3 _ rfl
  · refine hG.1 _ (35, [some (.ref 70), some (.int l1), none], [], (gSh, σ, u)) _ rfl (if_neg hc) ?_
    refine gRunN_ok hG.1 2 _ (37, [some (.ref 70), some (.int l1), some (.int 0)], [], (gSh, σ, u)) rfl ?_
    obtain ⟨e11, hq, hP⟩ := g_b1 hP
    refine l_Router_work_37 E d u hG l1 gN 0 σ _ hq (fun s12 he => ?_)
    · replace he := he.symm
      subst he
      try dsimp only [gSum] at hP
      refine gRunN_ok hG.1 1 _ (60, [some (.ref 70), some (.int l1), none], [.ref 70], (gSh, s12, u)) rfl ?_
      obtain ⟨v13, s14, hq, hP⟩ := g_b2 hP
      refine hG.2.2.2.1 _ _ _ [.ref 70] [] _ (gSh, s14, u) (some (.int v13)) _ _ _ _ _ _ rfl rfl rfl rfl rfl rfl (c_Router_isDone E (d + 3) u _  hq) (Nat.le_refl _) (Nat.le_refl _) (Nat.le_refl _) (Nat.le_refl _) ?_
      show G (63, [some (.ref 70), some (.int l1), none], [.int v13], (gSh, s14, u))
      rcases g_ite hP with ⟨hc, hP⟩ | ⟨hc, hP⟩
      · refine hG.1 _ (75, [some (.ref 70), some (.int l1), none], [], (gSh, s14, u)) _ rfl (if_pos hc) ?_
        refine gRunN_ok hG.1 6 _ (85, [some (.ref 70), some (.int l1), none], [], (gSh, (gPut s14 70 13 ((s14.1 70 13) + (1 : Int32))), u)) rfl ?_
        obtain ⟨s15, es15, hP⟩ := g_let hP
        rw [← es15]
        refine gRunN_ok hG.1 1 _ (27, [some (.ref 70), some (.int l1), none], [], (gSh, s15, u)) rfl ?_
        cases hP
        exact K1 _ rfl
      · refine hG.1 _ (66, [some (.ref 70), some (.int l1), none], [], (gSh, s14, u)) _ rfl (if_neg hc) ?_
        refine hG.2.2.2.2.1 _ _ [some (.ref 70), none, none] _ _ ⟨rfl, trivial⟩ ?_
        cases hP
        exact K2 _ rfl
theorem l_Router_work_27 (E : gEv) (d u : Nat) {G : gFr → Prop} {vo : Option Value} {sr : gS} (hG : gClo E gDf gP10 gY121 (some .int) (gC E gDf gMs (d + 4)) (vo, (gSh, sr, u)) G) (l1 : Int32) : ∀ (n : Nat) (σ : gS) (e : ((gS) ⊕ (gS))), gIter (fun z => p_Router_work_27 E l1 z) n σ = some e → (∀ (σ1 : gS), e = (.inl σ1) → G (66, [some (.ref 70), none, none], [], (gSh, σ1, u))) → (∀ (σ1 : gS), e = (.inr σ1) → G (88, [some (.ref 70), some (.int l1), none], [], (gSh, σ1, u))) → G (27, [some (.ref 70), some (.int l1), none], [], (gSh, σ, u)) := by
  intro n
  induction n with
  | zero => intro σ e h; cases h
  | succ n ih =>
    intro σ e h K2 K3
    rcases g_iter h with ⟨z, h1, h2⟩ | h1
    · exact b_Router_work_27 E d u hG l1 σ h1 (fun n0 hz => by cases hz; exact ih _ e h2 K2 K3) (fun _ hz => by cases hz) (fun _ hz => by cases hz)
    · exact b_Router_work_27 E d u hG l1 σ h1 (fun _ hz => by cases hz) (fun σ1 hz => K2 σ1 (by cases hz; rfl)) (fun σ1 hz => K3 σ1 (by cases hz; rfl))
def p_Router_work_113 (E : gEv) (l1 : Int32) (l2 : Int32) (σ : gS) : Option ((Int32 × gS) ⊕ (gS)) :=
  if (σ.1 53 17) ≤ l2 then (some (.inr σ)) else (gLet (gPut σ 70 14 l2) fun s23 => gB1 (p_Router_routeNet E l2 s23) fun s25 => gLet (l2 + 1) fun x26 => some (.inl (x26, s25)))
set_option maxRecDepth 20000 in
theorem b_Router_work_113 (E : gEv) (d u : Nat) {G : gFr → Prop} {vo : Option Value} {sr : gS} (hG : gClo E gDf gP10 gY121 (some .int) (gC E gDf gMs (d + 4)) (vo, (gSh, sr, u)) G) (l1 : Int32) (l2 : Int32) (σ : gS) {r : (Int32 × gS) ⊕ (gS)} (hP : p_Router_work_113 E l1 l2 σ = some r) (K1 : ∀ (m2 : Int32) (σ1 : gS), r = .inl (m2, σ1) → G (113, [some (.ref 70), some (.int l1), some (.int m2)], [], (gSh, σ1, u))) (K2 : ∀ (σ1 : gS), r = .inr σ1 → G (140, [some (.ref 70), some (.int l1), none], [], (gSh, σ1, u))) : G (113, [some (.ref 70), some (.int l1), some (.int l2)], [], (gSh, σ, u)) := by
  unfold p_Router_work_113 at hP
  refine gRunN_ok hG.1 4 _ (121, [some (.ref 70), some (.int l1), some (.int l2)], [.int (σ.1 53 17), .int l2], (gSh, σ, u)) rfl ?_
  rcases g_ite hP with ⟨hc, hP⟩ | ⟨hc, hP⟩
  · refine hG.1 _ (140, [some (.ref 70), some (.int l1), some (.int l2)], [], (gSh, σ, u)) _ rfl (if_pos hc) ?_
    refine hG.2.2.2.2.1 _ _ [some (.ref 70), some (.int l1), none] _ _ ⟨rfl, ⟨rfl, trivial⟩⟩ ?_
    cases hP
    exact K2 _ rfl
  · refine hG.1 _ (124, [some (.ref 70), some (.int l1), some (.int l2)], [], (gSh, σ, u)) _ rfl (if_neg hc) ?_
    refine gRunN_ok hG.1 3 _ (129, [some (.ref 70), some (.int l1), some (.int l2)], [], (gSh, (gPut σ 70 14 l2), u)) rfl ?_
    obtain ⟨s23, es23, hP⟩ := g_let hP
    rw [← es23]
    refine gRunN_ok hG.1 2 _ (131, [some (.ref 70), some (.int l1), some (.int l2)], [.int l2, .ref 70], (gSh, s23, u)) rfl ?_
    obtain ⟨s25, hq, hP⟩ := g_b1 hP
    refine hG.2.2.2.1 _ _ _ [.ref 70, .int l2] [] _ (gSh, s25, u) none _ _ _ _ _ _ rfl rfl rfl rfl rfl rfl (c_Router_routeNet E (d + 0) u l2 _  hq) (Nat.le_refl _) (Nat.le_refl _) (Nat.le_refl _) (Nat.le_refl _) ?_
    show G (134, [some (.ref 70), some (.int l1), some (.int l2)], [], (gSh, s25, u))
    refine gRunN_ok hG.1 1 _ (137, [some (.ref 70), some (.int l1), some (.int (l2 + 1))], [], (gSh, s25, u)) rfl ?_
    obtain ⟨x26, ex26, hP⟩ := g_let hP
    rw [← ex26]
    refine gRunN_ok hG.1 1 _ (113, [some (.ref 70), some (.int l1), some (.int x26)], [], (gSh, s25, u)) rfl ?_
    cases hP
    exact K1 _ _ rfl
theorem l_Router_work_113 (E : gEv) (d u : Nat) {G : gFr → Prop} {vo : Option Value} {sr : gS} (hG : gClo E gDf gP10 gY121 (some .int) (gC E gDf gMs (d + 4)) (vo, (gSh, sr, u)) G) (l1 : Int32) : ∀ (n : Nat) (l2 : Int32) (σ : gS) (e : (gS)), gIter (fun z => p_Router_work_113 E l1 z.1 z.2) n (l2, σ) = some e → (∀ (σ1 : gS), e = σ1 → G (140, [some (.ref 70), some (.int l1), none], [], (gSh, σ1, u))) → G (113, [some (.ref 70), some (.int l1), some (.int l2)], [], (gSh, σ, u)) := by
  intro n
  induction n with
  | zero => intro l2 σ e h; cases h
  | succ n ih =>
    intro l2 σ e h K2
    rcases g_iter h with ⟨z, h1, h2⟩ | h1
    · exact b_Router_work_113 E d u hG l1 l2 σ h1 (fun n0 n1 hz => by cases hz; exact ih _ _ e h2 K2) (fun _ hz => by cases hz)
    · exact b_Router_work_113 E d u hG l1 l2 σ h1 (fun _ _ hz => by cases hz) (fun σ1 hz => K2 σ1 (by cases hz; rfl))
def p_Router_work (E : gEv) (a0 : Int32) (σ : gS) : Option (Int32 × gS) :=
  gLet (gPut σ 70 15 0) fun s1 => gB1 (p_Router_giveAllUp E s1) fun s3 => gB1 (p_Arrays_fillI E 76 0 s3) fun s5 => gLet (gPut s5 70 14 (-1)) fun s6 => gLet (gPut s6 70 13 1) fun s7 => gB1 (gIter (fun z => p_Router_work_27 E a0 z) gN s7) fun e16 => gSum e16 (fun e31 => (fun s17 => gB2 (p_Router_keep E (s17.1 70 13) s17) fun v18 s19 => some (v18, s19)) e31) (fun e32 => (fun s20 => if (s20.1 53 17) ≤ (s20.1 1 3) then (gB1 (p_Router_giveAllUp E s20) fun s22 => gB1 (gIter (fun z => p_Router_work_113 E a0 z.1 z.2) gN (0, s22)) fun e27 => (fun s28 => gB2 (p_Router_keep E (a0 + (1 : Int32)) s28) fun v29 s30 => some (v29, s30)) e27) else (some (0, s20))) e32)
set_option maxRecDepth 20000 in
theorem c_Router_work (E : gEv) (d u : Nat) (a0 : Int32) (σ : gS) {v : Int32} {sr : gS}  (hq : p_Router_work E a0 σ = some (v, sr)) : gC E gDf gMs (d + 5) 121 [.ref 70, .int a0] (gSh, σ, u) (some (.int v), (gSh, sr, u)) := ⟨gM121, rfl, Nat.le_of_ble_eq_true rfl, fun G hG => by
  have hP := hq
  unfold p_Router_work at hP
  replace hG : gClo E gDf gP10 gY121 (some .int) (gC E gDf gMs (d + 4)) (some (.int v), (gSh, sr, u)) G := hG
  show G (0, [some (.ref 70), some (.int a0), none], [], (gSh, σ, u))
  refine gRunN_ok hG.1 3 _ (5, [some (.ref 70), some (.int a0), none], [], (gSh, (gPut σ 70 15 0), u)) rfl ?_
  obtain ⟨s1, es1, hP⟩ := g_let hP
  rw [← es1]
  refine gRunN_ok hG.1 1 _ (6, [some (.ref 70), some (.int a0), none], [.ref 70], (gSh, s1, u)) rfl ?_
  obtain ⟨s3, hq, hP⟩ := g_b1 hP
  refine hG.2.2.2.1 _ _ _ [.ref 70] [] _ (gSh, s3, u) none _ _ _ _ _ _ rfl rfl rfl rfl rfl rfl (c_Router_giveAllUp E (d + 2) u _  hq) (Nat.le_refl _) (Nat.le_refl _) (Nat.le_refl _) (Nat.le_refl _) ?_
  show G (9, [some (.ref 70), some (.int a0), none], [], (gSh, s3, u))
  refine gRunN_ok hG.1 3 _ (14, [some (.ref 70), some (.int a0), none], [.int 0, .ref 76], (gSh, s3, u)) rfl ?_
  obtain ⟨s5, hq, hP⟩ := g_b1 hP
  refine hG.2.2.2.1 _ _ _ [.ref 76, .int 0] [] _ (gSh, s5, u) none _ _ _ _ _ _ rfl rfl rfl rfl rfl rfl (c_Arrays_fillI E (d + 3) u 76 0 _ rfl hq) (Nat.le_refl _) (Nat.le_refl _) (Nat.le_refl _) (Nat.le_refl _) ?_
  show G (17, [some (.ref 70), some (.int a0), none], [], (gSh, s5, u))
  refine gRunN_ok hG.1 3 _ (22, [some (.ref 70), some (.int a0), none], [], (gSh, (gPut s5 70 14 (-1)), u)) rfl ?_
  obtain ⟨s6, es6, hP⟩ := g_let hP
  rw [← es6]
  refine gRunN_ok hG.1 3 _ (27, [some (.ref 70), some (.int a0), none], [], (gSh, (gPut s6 70 13 1), u)) rfl ?_
  obtain ⟨s7, es7, hP⟩ := g_let hP
  rw [← es7]
  obtain ⟨e16, hq, hP⟩ := g_b1 hP
  refine l_Router_work_27 E d u hG a0 gN s7 _ hq (fun s17 he => ?_) (fun s20 he => ?_)
  · subst he
    try dsimp only [gSum] at hP
    refine gRunN_ok hG.1 3 _ (71, [some (.ref 70), none, none], [.int (s17.1 70 13), .ref 70], (gSh, s17, u)) rfl ?_
    obtain ⟨v18, s19, hq, hP⟩ := g_b2 hP
    refine hG.2.2.2.1 _ _ _ [.ref 70, .int (s17.1 70 13)] [] _ (gSh, s19, u) (some (.int v18)) _ _ _ _ _ _ rfl rfl rfl rfl rfl rfl (c_Router_keep E (d + 2) u (s17.1 70 13) _  hq) (Nat.le_refl _) (Nat.le_refl _) (Nat.le_refl _) (Nat.le_refl _) ?_
    show G (74, [some (.ref 70), none, none], [.int v18], (gSh, s19, u))
    cases hP
    exact hG.2.1 _ _ rfl rfl
  · subst he
    try dsimp only [gSum] at hP
    refine gRunN_ok hG.1 6 _ (102, [some (.ref 70), some (.int a0), none], [.int (s20.1 1 3), .int (s20.1 53 17)], (gSh, s20, u)) rfl ?_
    rcases g_ite hP with ⟨hc, hP⟩ | ⟨hc, hP⟩
    · refine hG.1 _ (107, [some (.ref 70), some (.int a0), none], [], (gSh, s20, u)) _ rfl (if_pos hc) ?_
      refine gRunN_ok hG.1 1 _ (108, [some (.ref 70), some (.int a0), none], [.ref 70], (gSh, s20, u)) rfl ?_
      obtain ⟨s22, hq, hP⟩ := g_b1 hP
      refine hG.2.2.2.1 _ _ _ [.ref 70] [] _ (gSh, s22, u) none _ _ _ _ _ _ rfl rfl rfl rfl rfl rfl (c_Router_giveAllUp E (d + 2) u _  hq) (Nat.le_refl _) (Nat.le_refl _) (Nat.le_refl _) (Nat.le_refl _) ?_
      show G (111, [some (.ref 70), some (.int a0), none], [], (gSh, s22, u))
      refine gRunN_ok hG.1 2 _ (113, [some (.ref 70), some (.int a0), some (.int 0)], [], (gSh, s22, u)) rfl ?_
      obtain ⟨e27, hq, hP⟩ := g_b1 hP
      refine l_Router_work_113 E d u hG a0 gN 0 s22 _ hq (fun s28 he => ?_)
      · replace he := he.symm
        subst he
        try dsimp only [gSum] at hP
        refine gRunN_ok hG.1 4 _ (144, [some (.ref 70), some (.int a0), none], [.int (a0 + (1 : Int32)), .ref 70], (gSh, s28, u)) rfl ?_
        obtain ⟨v29, s30, hq, hP⟩ := g_b2 hP
        refine hG.2.2.2.1 _ _ _ [.ref 70, .int (a0 + (1 : Int32))] [] _ (gSh, s30, u) (some (.int v29)) _ _ _ _ _ _ rfl rfl rfl rfl rfl rfl (c_Router_keep E (d + 2) u (a0 + (1 : Int32)) _  hq) (Nat.le_refl _) (Nat.le_refl _) (Nat.le_refl _) (Nat.le_refl _) ?_
        show G (147, [some (.ref 70), some (.int a0), none], [.int v29], (gSh, s30, u))
        cases hP
        exact hG.2.1 _ _ rfl rfl
    · refine hG.1 _ (105, [some (.ref 70), some (.int a0), none], [], (gSh, s20, u)) _ rfl (if_neg hc) ?_
      refine gRunN_ok hG.1 1 _ (106, [some (.ref 70), some (.int a0), none], [.int 0], (gSh, s20, u)) rfl ?_
      cases hP
      exact hG.2.1 _ _ rfl rfl⟩
def p_Field_run_4 (E : gEv) (l1 : Int32) (l2 : Int32) (l3 : Int32) (σ : gS) : Option ((Int32 × Int32 × gS) ⊕ (Int32 × Int32 × gS)) :=
  if l1 ≤ l2 then (some (.inr (l2, l3, σ))) else (if l3 = 0 then (gB2 (p_Field_settle E σ) fun v1 s2 => if v1 = 0 then (some (.inr (l2, l3, s2))) else (gB2 (p_Field_takeLuts E s2) fun v3 s4 => if v3 = 0 then (gLet (l2 + 1) fun x5 => some (.inl (x5, 1, s4))) else (gLet (l2 + 1) fun x6 => some (.inl (x6, 0, s4))))) else (some (.inr (l2, l3, σ))))
set_option maxRecDepth 20000 in
theorem b_Field_run_4 (E : gEv) (d u : Nat) {G : gFr → Prop} {vo : Option Value} {sr : gS} (hG : gClo E gDf gP12 gY156 (some .int) (gC E gDf gMs (d + 4)) (vo, (gSh, sr, u)) G) (l1 : Int32) (l2 : Int32) (l3 : Int32) (σ : gS) {r : (Int32 × Int32 × gS) ⊕ (Int32 × Int32 × gS)} (hP : p_Field_run_4 E l1 l2 l3 σ = some r) (K1 : ∀ (m2 : Int32) (m3 : Int32) (σ1 : gS), r = .inl (m2, m3, σ1) → G (4, [some (.ref 81), some (.int l1), some (.int m2), some (.int m3)], [], (gSh, σ1, u))) (K2 : ∀ (m2 : Int32) (m3 : Int32) (σ1 : gS), r = .inr (m2, m3, σ1) → G (39, [some (.ref 81), some (.int l1), some (.int m2), some (.int m3)], [], (gSh, σ1, u))) : G (4, [some (.ref 81), some (.int l1), some (.int l2), some (.int l3)], [], (gSh, σ, u)) := by
  unfold p_Field_run_4 at hP
  refine gRunN_ok hG.1 2 _ (6, [some (.ref 81), some (.int l1), some (.int l2), some (.int l3)], [.int l1, .int l2], (gSh, σ, u)) rfl ?_
  rcases g_ite hP with ⟨hc, hP⟩ | ⟨hc, hP⟩
  · refine hG.1 _ (39, [some (.ref 81), some (.int l1), some (.int l2), some (.int l3)], [], (gSh, σ, u)) _ rfl (if_pos hc) ?_
    cases hP
    exact K2 _ _ _ rfl
  · refine hG.1 _ (9, [some (.ref 81), some (.int l1), some (.int l2), some (.int l3)], [], (gSh, σ, u)) _ rfl (if_neg hc) ?_
    refine gRunN_ok hG.1 1 _ (10, [some (.ref 81), some (.int l1), some (.int l2), some (.int l3)], [.int l3], (gSh, σ, u)) rfl ?_
    rcases g_ite hP with ⟨hc, hP⟩ | ⟨hc, hP⟩
    · refine hG.1 _ (13, [some (.ref 81), some (.int l1), some (.int l2), some (.int l3)], [], (gSh, σ, u)) _ rfl (if_pos hc) ?_
      refine gRunN_ok hG.1 1 _ (14, [some (.ref 81), some (.int l1), some (.int l2), some (.int l3)], [.ref 81], (gSh, σ, u)) rfl ?_
      obtain ⟨v1, s2, hq, hP⟩ := g_b2 hP
      refine hG.2.2.2.1 _ _ _ [.ref 81] [] _ (gSh, s2, u) (some (.int v1)) _ _ _ _ _ _ rfl rfl rfl rfl rfl rfl (c_Field_settle E (d + 0) u _  hq) (Nat.le_refl _) (Nat.le_refl _) (Nat.le_refl _) (Nat.le_refl _) ?_
      show G (17, [some (.ref 81), some (.int l1), some (.int l2), some (.int l3)], [.int v1], (gSh, s2, u))
      rcases g_ite hP with ⟨hc, hP⟩ | ⟨hc, hP⟩
      · refine hG.1 _ (39, [some (.ref 81), some (.int l1), some (.int l2), some (.int l3)], [], (gSh, s2, u)) _ rfl (if_pos hc) ?_
        cases hP
        exact K2 _ _ _ rfl
      · refine hG.1 _ (20, [some (.ref 81), some (.int l1), some (.int l2), some (.int l3)], [], (gSh, s2, u)) _ rfl (if_neg hc) ?_
        refine gRunN_ok hG.1 1 _ (21, [some (.ref 81), some (.int l1), some (.int l2), some (.int l3)], [.ref 81], (gSh, s2, u)) rfl ?_
        obtain ⟨v3, s4, hq, hP⟩ := g_b2 hP
        refine hG.2.2.2.1 _ _ _ [.ref 81] [] _ (gSh, s4, u) (some (.int v3)) _ _ _ _ _ _ rfl rfl rfl rfl rfl rfl (c_Field_takeLuts E (d + 2) u _  hq) (Nat.le_refl _) (Nat.le_refl _) (Nat.le_refl _) (Nat.le_refl _) ?_
        show G (24, [some (.ref 81), some (.int l1), some (.int l2), some (.int l3)], [.int v3], (gSh, s4, u))
        rcases g_ite hP with ⟨hc, hP⟩ | ⟨hc, hP⟩
        · refine hG.1 _ (27, [some (.ref 81), some (.int l1), some (.int l2), some (.int l3)], [], (gSh, s4, u)) _ rfl (if_pos hc) ?_
          refine gRunN_ok hG.1 4 _ (36, [some (.ref 81), some (.int l1), some (.int (l2 + 1)), some (.int 1)], [], (gSh, s4, u)) rfl ?_
          obtain ⟨x5, ex5, hP⟩ := g_let hP
          rw [← ex5]
          refine gRunN_ok hG.1 1 _ (4, [some (.ref 81), some (.int l1), some (.int x5), some (.int 1)], [], (gSh, s4, u)) rfl ?_
          cases hP
          exact K1 _ _ _ rfl
        · refine hG.1 _ (31, [some (.ref 81), some (.int l1), some (.int l2), some (.int l3)], [], (gSh, s4, u)) _ rfl (if_neg hc) ?_
          refine gRunN_ok hG.1 3 _ (36, [some (.ref 81), some (.int l1), some (.int (l2 + 1)), some (.int 0)], [], (gSh, s4, u)) rfl ?_
          obtain ⟨x6, ex6, hP⟩ := g_let hP
          rw [← ex6]
          refine gRunN_ok hG.1 1 _ (4, [some (.ref 81), some (.int l1), some (.int x6), some (.int 0)], [], (gSh, s4, u)) rfl ?_
          cases hP
          exact K1 _ _ _ rfl
    · refine hG.1 _ (39, [some (.ref 81), some (.int l1), some (.int l2), some (.int l3)], [], (gSh, σ, u)) _ rfl (if_neg hc) ?_
      cases hP
      exact K2 _ _ _ rfl
theorem l_Field_run_4 (E : gEv) (d u : Nat) {G : gFr → Prop} {vo : Option Value} {sr : gS} (hG : gClo E gDf gP12 gY156 (some .int) (gC E gDf gMs (d + 4)) (vo, (gSh, sr, u)) G) (l1 : Int32) : ∀ (n : Nat) (l2 : Int32) (l3 : Int32) (σ : gS) (e : (Int32 × Int32 × gS)), gIter (fun z => p_Field_run_4 E l1 z.1 z.2.1 z.2.2) n (l2, l3, σ) = some e → (∀ (m2 : Int32) (m3 : Int32) (σ1 : gS), e = (m2, m3, σ1) → G (39, [some (.ref 81), some (.int l1), some (.int m2), some (.int m3)], [], (gSh, σ1, u))) → G (4, [some (.ref 81), some (.int l1), some (.int l2), some (.int l3)], [], (gSh, σ, u)) := by
  intro n
  induction n with
  | zero => intro l2 l3 σ e h; cases h
  | succ n ih =>
    intro l2 l3 σ e h K2
    rcases g_iter h with ⟨z, h1, h2⟩ | h1
    · exact b_Field_run_4 E d u hG l1 l2 l3 σ h1 (fun n0 n1 n2 hz => by cases hz; exact ih _ _ _ e h2 K2) (fun _ _ _ hz => by cases hz)
    · exact b_Field_run_4 E d u hG l1 l2 l3 σ h1 (fun _ _ _ hz => by cases hz) (fun m2 m3 σ1 hz => K2 m2 m3 σ1 (by cases hz; rfl))
def p_Field_run_j45 (E : gEv) (l2 : Int32) (σ : gS) : Option (Int32 × gS) :=
  gLet (gPut σ 81 13 ((σ.1 81 13) + l2)) fun s11 => some (l2, s11)
set_option maxRecDepth 20000 in
theorem j_Field_run_j45 (E : gEv) (d u : Nat) {G : gFr → Prop} {v : Int32} {sr : gS} (hG : gClo E gDf gP12 gY156 (some .int) (gC E gDf gMs (d + 4)) (some (.int v), (gSh, sr, u)) G) (l2 : Int32) (σ : gS) (hP : p_Field_run_j45 E l2 σ = some (v, sr)) : G (45, [some (.ref 81), none, some (.int l2), none], [], (gSh, σ, u)) := by
  unfold p_Field_run_j45 at hP
  refine gRunN_ok hG.1 6 _ (55, [some (.ref 81), none, some (.int l2), none], [], (gSh, (gPut σ 81 13 ((σ.1 81 13) + l2)), u)) rfl ?_
  obtain ⟨s11, es11, hP⟩ := g_let hP
  rw [← es11]
  refine gRunN_ok hG.1 1 _ (56, [some (.ref 81), none, some (.int l2), none], [.int l2], (gSh, s11, u)) rfl ?_
  cases hP
  exact hG.2.1 _ _ rfl rfl
def p_Field_run_j39 (E : gEv) (l1 : Int32) (l2 : Int32) (l3 : Int32) (σ : gS) : Option (Int32 × gS) :=
  if l3 = 0 then (p_Field_run_j45 E l2 σ) else (p_Field_run_j45 E l1 σ)
set_option maxRecDepth 20000 in
theorem j_Field_run_j39 (E : gEv) (d u : Nat) {G : gFr → Prop} {v : Int32} {sr : gS} (hG : gClo E gDf gP12 gY156 (some .int) (gC E gDf gMs (d + 4)) (some (.int v), (gSh, sr, u)) G) (l1 : Int32) (l2 : Int32) (l3 : Int32) (σ : gS) (hP : p_Field_run_j39 E l1 l2 l3 σ = some (v, sr)) : G (39, [some (.ref 81), some (.int l1), some (.int l2), some (.int l3)], [], (gSh, σ, u)) := by
  unfold p_Field_run_j39 at hP
  refine gRunN_ok hG.1 1 _ (40, [some (.ref 81), some (.int l1), some (.int l2), some (.int l3)], [.int l3], (gSh, σ, u)) rfl ?_
  rcases g_ite hP with ⟨hc, hP⟩ | ⟨hc, hP⟩
  · refine hG.1 _ (45, [some (.ref 81), some (.int l1), some (.int l2), some (.int l3)], [], (gSh, σ, u)) _ rfl (if_pos hc) ?_
    refine hG.2.2.2.2.1 _ _ [some (.ref 81), none, some (.int l2), none] _ _ ⟨rfl, ⟨rfl, trivial⟩⟩ ?_
    exact j_Field_run_j45 E d u hG l2 σ hP
  · refine hG.1 _ (43, [some (.ref 81), some (.int l1), some (.int l2), some (.int l3)], [], (gSh, σ, u)) _ rfl (if_neg hc) ?_
    refine gRunN_ok hG.1 2 _ (45, [some (.ref 81), some (.int l1), some (.int l1), some (.int l3)], [], (gSh, σ, u)) rfl ?_
    refine hG.2.2.2.2.1 _ _ [some (.ref 81), none, some (.int l1), none] _ _ ⟨rfl, ⟨rfl, trivial⟩⟩ ?_
    exact j_Field_run_j45 E d u hG l1 σ hP
def p_Field_run (E : gEv) (a0 : Int32) (σ : gS) : Option (Int32 × gS) :=
  gB1 (gIter (fun z => p_Field_run_4 E a0 z.1 z.2.1 z.2.2) gN (0, 0, σ)) fun e7 => (fun w8 w9 s10 => p_Field_run_j39 E a0 w8 w9 s10) e7.1 e7.2.1 e7.2.2
set_option maxRecDepth 20000 in
theorem c_Field_run (E : gEv) (d u : Nat) (a0 : Int32) (σ : gS) {v : Int32} {sr : gS}  (hq : p_Field_run E a0 σ = some (v, sr)) : gC E gDf gMs (d + 5) 156 [.ref 81, .int a0] (gSh, σ, u) (some (.int v), (gSh, sr, u)) := ⟨gM156, rfl, Nat.le_of_ble_eq_true rfl, fun G hG => by
  have hP := hq
  unfold p_Field_run at hP
  replace hG : gClo E gDf gP12 gY156 (some .int) (gC E gDf gMs (d + 4)) (some (.int v), (gSh, sr, u)) G := hG
  show G (0, [some (.ref 81), some (.int a0), none, none], [], (gSh, σ, u))
  refine gRunN_ok hG.1 4 _ (4, [some (.ref 81), some (.int a0), some (.int 0), some (.int 0)], [], (gSh, σ, u)) rfl ?_
  obtain ⟨e7, hq, hP⟩ := g_b1 hP
  refine l_Field_run_4 E d u hG a0 gN 0 0 σ _ hq (fun w8 w9 s10 he => ?_)
  · subst he
    try dsimp only [gSum] at hP
    exact j_Field_run_j39 E d u hG a0 w8 w9 s10 hP⟩
def p_Face_probe (E : gEv) (a0 : Int32) (a1 : Int32) (σ : gS) : Option (Int32 × gS) :=
  gB1 (p_Field_canAsk E a0 a1 σ) fun v1 => if v1 = 0 then (some ((-1), σ)) else (if a0 = (3 : Int32) then (if gIn a1 (σ.2.1 84) then some (σ.1 84 a1.toNatClampNeg, σ) else none) else (gB2 (p_Field_settle E σ) fun v3 s4 => if v3 = 0 then (some ((-2), s4)) else (gB1 (p_Field_ask E a0 a1 s4) fun v5 => some (v5, s4))))
set_option maxRecDepth 20000 in
theorem c_Face_probe (E : gEv) (d u : Nat) (a0 : Int32) (a1 : Int32) (σ : gS) {v : Int32} {sr : gS}  (hq : p_Face_probe E a0 a1 σ = some (v, sr)) : gC E gDf gMs (d + 5) 172 [.ref 0, .int a0, .int a1] (gSh, σ, u) (some (.int v), (gSh, sr, u)) := ⟨gM172, rfl, Nat.le_of_ble_eq_true rfl, fun G hG => by
  have hP := hq
  unfold p_Face_probe at hP
  replace hG : gClo E gDf gP0 gY172 (some .int) (gC E gDf gMs (d + 4)) (some (.int v), (gSh, sr, u)) G := hG
  show G (0, [some (.ref 0), some (.int a0), some (.int a1)], [], (gSh, σ, u))
  refine gRunN_ok hG.1 4 _ (6, [some (.ref 0), some (.int a0), some (.int a1)], [.int a1, .int a0, .ref 81], (gSh, σ, u)) rfl ?_
  obtain ⟨v1, hq, hP⟩ := g_b1 hP
  refine hG.2.2.2.1 _ _ _ [.ref 81, .int a0, .int a1] [] _ (gSh, σ, u) (some (.int v1)) _ _ _ _ _ _ rfl rfl rfl rfl rfl rfl (c_Field_canAsk E (d + 2) u a0 a1 _  hq) (Nat.le_refl _) (Nat.le_refl _) (Nat.le_refl _) (Nat.le_refl _) ?_
  show G (9, [some (.ref 0), some (.int a0), some (.int a1)], [.int v1], (gSh, σ, u))
  rcases g_ite hP with ⟨hc, hP⟩ | ⟨hc, hP⟩
  · refine hG.1 _ (12, [some (.ref 0), some (.int a0), some (.int a1)], [], (gSh, σ, u)) _ rfl (if_pos hc) ?_
    refine gRunN_ok hG.1 1 _ (13, [some (.ref 0), some (.int a0), some (.int a1)], [.int (-1)], (gSh, σ, u)) rfl ?_
    cases hP
    exact hG.2.1 _ _ rfl rfl
  · refine hG.1 _ (14, [some (.ref 0), some (.int a0), some (.int a1)], [], (gSh, σ, u)) _ rfl (if_neg hc) ?_
    refine gRunN_ok hG.1 2 _ (16, [some (.ref 0), some (.int a0), some (.int a1)], [.int 3, .int a0], (gSh, σ, u)) rfl ?_
    rcases g_ite hP with ⟨hc, hP⟩ | ⟨hc, hP⟩
    · refine hG.1 _ (19, [some (.ref 0), some (.int a0), some (.int a1)], [], (gSh, σ, u)) _ rfl (if_pos hc) ?_
      refine gRunN_ok hG.1 4 _ (27, [some (.ref 0), some (.int a0), some (.int a1)], [.int a1, .ref 84], (gSh, σ, u)) rfl ?_
      obtain ⟨hc, hP⟩ := g_if hP
      refine hG.1 _ (28, [some (.ref 0), some (.int a0), some (.int a1)], [.int (σ.1 84 a1.toNatClampNeg)], (gSh, σ, u)) _ rfl (if_pos hc) ?_
      cases hP
      exact hG.2.1 _ _ rfl rfl
    · refine hG.1 _ (29, [some (.ref 0), some (.int a0), some (.int a1)], [], (gSh, σ, u)) _ rfl (if_neg hc) ?_
      refine gRunN_ok hG.1 2 _ (33, [some (.ref 0), some (.int a0), some (.int a1)], [.ref 81], (gSh, σ, u)) rfl ?_
      obtain ⟨v3, s4, hq, hP⟩ := g_b2 hP
      refine hG.2.2.2.1 _ _ _ [.ref 81] [] _ (gSh, s4, u) (some (.int v3)) _ _ _ _ _ _ rfl rfl rfl rfl rfl rfl (c_Field_settle E (d + 0) u _  hq) (Nat.le_refl _) (Nat.le_refl _) (Nat.le_refl _) (Nat.le_refl _) ?_
      show G (36, [some (.ref 0), some (.int a0), some (.int a1)], [.int v3], (gSh, s4, u))
      rcases g_ite hP with ⟨hc, hP⟩ | ⟨hc, hP⟩
      · refine hG.1 _ (51, [some (.ref 0), some (.int a0), some (.int a1)], [], (gSh, s4, u)) _ rfl (if_pos hc) ?_
        refine gRunN_ok hG.1 1 _ (53, [some (.ref 0), some (.int a0), some (.int a1)], [.int (-2)], (gSh, s4, u)) rfl ?_
        cases hP
        exact hG.2.1 _ _ rfl rfl
      · refine hG.1 _ (39, [some (.ref 0), some (.int a0), some (.int a1)], [], (gSh, s4, u)) _ rfl (if_neg hc) ?_
        refine gRunN_ok hG.1 4 _ (45, [some (.ref 0), some (.int a0), some (.int a1)], [.int a1, .int a0, .ref 81], (gSh, s4, u)) rfl ?_
        obtain ⟨v5, hq, hP⟩ := g_b1 hP
        refine hG.2.2.2.1 _ _ _ [.ref 81, .int a0, .int a1] [] _ (gSh, s4, u) (some (.int v5)) _ _ _ _ _ _ rfl rfl rfl rfl rfl rfl (c_Field_ask E (d + 1) u a0 a1 _  hq) (Nat.le_refl _) (Nat.le_refl _) (Nat.le_refl _) (Nat.le_refl _) ?_
        show G (48, [some (.ref 0), some (.int a0), some (.int a1)], [.int v5], (gSh, s4, u))
        refine gRunN_ok hG.1 1 _ (53, [some (.ref 0), some (.int a0), some (.int a1)], [.int v5], (gSh, s4, u)) rfl ?_
        cases hP
        exact hG.2.1 _ _ rfl rfl⟩
def p_Face_clock (E : gEv) (a0 : Int32) (σ : gS) : Option (Int32 × gS) :=
  if (σ.1 0 10) = 0 then (some (0, σ)) else (if a0 < 0 then (some (0, σ)) else (if a0 ≤ (1000 : Int32) then (gB1 (p_Circuit_run E a0 σ) fun s2 => some (1, s2)) else (some (0, σ))))
set_option maxRecDepth 20000 in
theorem c_Face_clock (E : gEv) (d u : Nat) (a0 : Int32) (σ : gS) {v : Int32} {sr : gS}  (hq : p_Face_clock E a0 σ = some (v, sr)) : gC E gDf gMs (d + 5) 178 [.ref 0, .int a0] (gSh, σ, u) (some (.int v), (gSh, sr, u)) := ⟨gM178, rfl, Nat.le_of_ble_eq_true rfl, fun G hG => by
  have hP := hq
  unfold p_Face_clock at hP
  replace hG : gClo E gDf gP0 gY178 (some .boolean) (gC E gDf gMs (d + 4)) (some (.int v), (gSh, sr, u)) G := hG
  show G (0, [some (.ref 0), some (.int a0)], [], (gSh, σ, u))
  refine gRunN_ok hG.1 2 _ (4, [some (.ref 0), some (.int a0)], [.int (σ.1 0 10)], (gSh, σ, u)) rfl ?_
  rcases g_ite hP with ⟨hc, hP⟩ | ⟨hc, hP⟩
  · refine hG.1 _ (18, [some (.ref 0), some (.int a0)], [], (gSh, σ, u)) _ rfl (if_pos hc) ?_
    refine gRunN_ok hG.1 1 _ (19, [some (.ref 0), some (.int a0)], [.int 0], (gSh, σ, u)) rfl ?_
    cases hP
    exact hG.2.1 _ _ rfl rfl
  · refine hG.1 _ (7, [some (.ref 0), some (.int a0)], [], (gSh, σ, u)) _ rfl (if_neg hc) ?_
    refine gRunN_ok hG.1 1 _ (8, [some (.ref 0), some (.int a0)], [.int a0], (gSh, σ, u)) rfl ?_
    rcases g_ite hP with ⟨hc, hP⟩ | ⟨hc, hP⟩
    · refine hG.1 _ (18, [some (.ref 0), some (.int a0)], [], (gSh, σ, u)) _ rfl (if_pos hc) ?_
      refine gRunN_ok hG.1 1 _ (19, [some (.ref 0), some (.int a0)], [.int 0], (gSh, σ, u)) rfl ?_
      cases hP
      exact hG.2.1 _ _ rfl rfl
    · refine hG.1 _ (11, [some (.ref 0), some (.int a0)], [], (gSh, σ, u)) _ rfl (if_neg hc) ?_
      refine gRunN_ok hG.1 2 _ (15, [some (.ref 0), some (.int a0)], [.int 1000, .int a0], (gSh, σ, u)) rfl ?_
      rcases g_ite hP with ⟨hc, hP⟩ | ⟨hc, hP⟩
      · refine hG.1 _ (20, [some (.ref 0), some (.int a0)], [], (gSh, σ, u)) _ rfl (if_pos hc) ?_
        refine gRunN_ok hG.1 3 _ (25, [some (.ref 0), some (.int a0)], [.int a0, .ref 30], (gSh, σ, u)) rfl ?_
        obtain ⟨s2, hq, hP⟩ := g_b1 hP
        refine hG.2.2.2.1 _ _ _ [.ref 30, .int a0] [] _ (gSh, s2, u) none _ _ _ _ _ _ rfl rfl rfl rfl rfl rfl (c_Circuit_run E (d + 0) u a0 _  hq) (Nat.le_refl _) (Nat.le_refl _) (Nat.le_refl _) (Nat.le_refl _) ?_
        show G (28, [some (.ref 0), some (.int a0)], [], (gSh, s2, u))
        refine gRunN_ok hG.1 1 _ (29, [some (.ref 0), some (.int a0)], [.int 1], (gSh, s2, u)) rfl ?_
        cases hP
        exact hG.2.1 _ _ rfl rfl
      · refine hG.1 _ (18, [some (.ref 0), some (.int a0)], [], (gSh, σ, u)) _ rfl (if_neg hc) ?_
        refine gRunN_ok hG.1 1 _ (19, [some (.ref 0), some (.int a0)], [.int 0], (gSh, σ, u)) rfl ?_
        cases hP
        exact hG.2.1 _ _ rfl rfl⟩
def p_Model_isWord_22 (E : gEv) (i1 : Nat) (l1 : Int32) (l3 : Int32) (l4 : Int32) (σ : gS) : Option ((Int32 × Int32) ⊕ (Int32)) :=
  if l3 = 0 then (some (.inr l3)) else (gB1 (p_String_length E i1 σ) fun v3 => if v3 ≤ l4 then (some (.inr l3)) else (if gIn l1 (σ.2.1 97) then if gIn ((σ.1 97 l1.toNatClampNeg) + l4) (σ.2.1 96) then gB1 (p_String_charAt E i1 l4 σ) fun v5 => if (σ.1 96 ((σ.1 97 l1.toNatClampNeg) + l4).toNatClampNeg) = v5 then (gLet (l4 + 1) fun x7 => some (.inl (1, x7))) else (gLet (l4 + 1) fun x8 => some (.inl (0, x8))) else none else none))
set_option maxRecDepth 20000 in
theorem b_Model_isWord_22 (E : gEv) (d u : Nat) {G : gFr → Prop} {vo : Option Value} {sr : gS} (hG : gClo E gDf gP18 gY201 (some .boolean) (gC E gDf gMs (d + 4)) (vo, (gSh, sr, u)) G) (i1 : Nat) (l1 : Int32) (l3 : Int32) (l4 : Int32) (σ : gS) (hi1 : i1 < 7) {r : (Int32 × Int32) ⊕ (Int32)} (hP : p_Model_isWord_22 E i1 l1 l3 l4 σ = some r) (K1 : ∀ (m3 : Int32) (m4 : Int32), r = .inl (m3, m4) → G (22, [some (.ref 94), some (.int l1), some (.retAddr i1), some (.int m3), some (.int m4)], [], (gSh, σ, u))) (K2 : ∀ (m3 : Int32), r = .inr m3 → G (70, [none, none, none, some (.int m3), none], [], (gSh, σ, u))) : G (22, [some (.ref 94), some (.int l1), some (.retAddr i1), some (.int l3), some (.int l4)], [], (gSh, σ, u)) := by
  unfold p_Model_isWord_22 at hP
  refine gRunN_ok hG.1 1 _ (23, [some (.ref 94), some (.int l1), some (.retAddr i1), some (.int l3), some (.int l4)], [.int l3], (gSh, σ, u)) rfl ?_
  rcases g_ite hP with ⟨hc, hP⟩ | ⟨hc, hP⟩
  · refine hG.1 _ (70, [some (.ref 94), some (.int l1), some (.retAddr i1), some (.int l3), some (.int l4)], [], (gSh, σ, u)) _ rfl (if_pos hc) ?_
    refine hG.2.2.2.2.1 _ _ [none, none, none, some (.int l3), none] _ _ ⟨rfl, trivial⟩ ?_
    cases hP
    exact K2 _ rfl
  · refine hG.1 _ (26, [some (.ref 94), some (.int l1), some (.retAddr i1), some (.int l3), some (.int l4)], [], (gSh, σ, u)) _ rfl (if_neg hc) ?_
    refine gRunN_ok hG.1 2 _ (29, [some (.ref 94), some (.int l1), some (.retAddr i1), some (.int l3), some (.int l4)], [.retAddr i1, .int l4], (gSh, σ, u)) rfl ?_
    obtain ⟨v3, hq, hP⟩ := g_b1 hP
    refine hG.2.2.2.1 _ _ _ [.retAddr i1] [.int l4] _ (gSh, σ, u) (some (.int v3)) _ _ _ _ _ _ rfl rfl rfl rfl rfl (by simp [gRcv, gCat, Value.category, hi1]) (c_String_length E (d + 2) u i1 _ hi1 hq) (Nat.le_refl _) (Nat.le_refl _) (Nat.le_refl _) (Nat.le_refl _) ?_
    show G (32, [some (.ref 94), some (.int l1), some (.retAddr i1), some (.int l3), some (.int l4)], [.int v3, .int l4], (gSh, σ, u))
    rcases g_ite hP with ⟨hc, hP⟩ | ⟨hc, hP⟩
    · refine hG.1 _ (70, [some (.ref 94), some (.int l1), some (.retAddr i1), some (.int l3), some (.int l4)], [], (gSh, σ, u)) _ rfl (if_pos hc) ?_
      refine hG.2.2.2.2.1 _ _ [none, none, none, some (.int l3), none] _ _ ⟨rfl, trivial⟩ ?_
      cases hP
      exact K2 _ rfl
    · refine hG.1 _ (35, [some (.ref 94), some (.int l1), some (.retAddr i1), some (.int l3), some (.int l4)], [], (gSh, σ, u)) _ rfl (if_neg hc) ?_
      refine gRunN_ok hG.1 5 _ (44, [some (.ref 94), some (.int l1), some (.retAddr i1), some (.int l3), some (.int l4)], [.int l1, .ref 97, .ref 96], (gSh, σ, u)) rfl ?_
      obtain ⟨hc, hP⟩ := g_if hP
      refine hG.1 _ (45, [some (.ref 94), some (.int l1), some (.retAddr i1), some (.int l3), some (.int l4)], [.int (σ.1 97 l1.toNatClampNeg), .ref 96], (gSh, σ, u)) _ rfl (if_pos hc) ?_
      refine gRunN_ok hG.1 2 _ (48, [some (.ref 94), some (.int l1), some (.retAddr i1), some (.int l3), some (.int l4)], [.int ((σ.1 97 l1.toNatClampNeg) + l4), .ref 96], (gSh, σ, u)) rfl ?_
      obtain ⟨hc, hP⟩ := g_if hP
      refine hG.1 _ (49, [some (.ref 94), some (.int l1), some (.retAddr i1), some (.int l3), some (.int l4)], [.int (σ.1 96 ((σ.1 97 l1.toNatClampNeg) + l4).toNatClampNeg)], (gSh, σ, u)) _ rfl (if_pos hc) ?_
      refine gRunN_ok hG.1 2 _ (52, [some (.ref 94), some (.int l1), some (.retAddr i1), some (.int l3), some (.int l4)], [.int l4, .retAddr i1, .int (σ.1 96 ((σ.1 97 l1.toNatClampNeg) + l4).toNatClampNeg)], (gSh, σ, u)) rfl ?_
      obtain ⟨v5, hq, hP⟩ := g_b1 hP
      refine hG.2.2.2.1 _ _ _ [.retAddr i1, .int l4] [.int (σ.1 96 ((σ.1 97 l1.toNatClampNeg) + l4).toNatClampNeg)] _ (gSh, σ, u) (some (.int v5)) _ _ _ _ _ _ rfl rfl rfl rfl rfl (by simp [gRcv, gCat, Value.category, hi1]) (c_String_charAt E (d + 0) u i1 l4 _ hi1 hq) (Nat.le_refl _) (Nat.le_refl _) (Nat.le_refl _) (Nat.le_refl _) ?_
      show G (55, [some (.ref 94), some (.int l1), some (.retAddr i1), some (.int l3), some (.int l4)], [.int v5, .int (σ.1 96 ((σ.1 97 l1.toNatClampNeg) + l4).toNatClampNeg)], (gSh, σ, u))
      rcases g_ite hP with ⟨hc, hP⟩ | ⟨hc, hP⟩
      · refine hG.1 _ (58, [some (.ref 94), some (.int l1), some (.retAddr i1), some (.int l3), some (.int l4)], [], (gSh, σ, u)) _ rfl (if_pos hc) ?_
        refine gRunN_ok hG.1 4 _ (67, [some (.ref 94), some (.int l1), some (.retAddr i1), some (.int 1), some (.int (l4 + 1))], [], (gSh, σ, u)) rfl ?_
        obtain ⟨x7, ex7, hP⟩ := g_let hP
        rw [← ex7]
        refine gRunN_ok hG.1 1 _ (22, [some (.ref 94), some (.int l1), some (.retAddr i1), some (.int 1), some (.int x7)], [], (gSh, σ, u)) rfl ?_
        cases hP
        exact K1 _ _ rfl
      · refine hG.1 _ (62, [some (.ref 94), some (.int l1), some (.retAddr i1), some (.int l3), some (.int l4)], [], (gSh, σ, u)) _ rfl (if_neg hc) ?_
        refine gRunN_ok hG.1 3 _ (67, [some (.ref 94), some (.int l1), some (.retAddr i1), some (.int 0), some (.int (l4 + 1))], [], (gSh, σ, u)) rfl ?_
        obtain ⟨x8, ex8, hP⟩ := g_let hP
        rw [← ex8]
        refine gRunN_ok hG.1 1 _ (22, [some (.ref 94), some (.int l1), some (.retAddr i1), some (.int 0), some (.int x8)], [], (gSh, σ, u)) rfl ?_
        cases hP
        exact K1 _ _ rfl
theorem l_Model_isWord_22 (E : gEv) (d u : Nat) {G : gFr → Prop} {vo : Option Value} {sr : gS} (hG : gClo E gDf gP18 gY201 (some .boolean) (gC E gDf gMs (d + 4)) (vo, (gSh, sr, u)) G) (i1 : Nat) (l1 : Int32) (σ : gS) (hi1 : i1 < 7) : ∀ (n : Nat) (l3 : Int32) (l4 : Int32) (e : (Int32)), gIter (fun z => p_Model_isWord_22 E i1 l1 z.1 z.2 σ) n (l3, l4) = some e → (∀ (m3 : Int32), e = m3 → G (70, [none, none, none, some (.int m3), none], [], (gSh, σ, u))) → G (22, [some (.ref 94), some (.int l1), some (.retAddr i1), some (.int l3), some (.int l4)], [], (gSh, σ, u)) := by
  intro n
  induction n with
  | zero => intro l3 l4 e h; cases h
  | succ n ih =>
    intro l3 l4 e h K2
    rcases g_iter h with ⟨z, h1, h2⟩ | h1
    · exact b_Model_isWord_22 E d u hG i1 l1 l3 l4 σ hi1 h1 (fun n0 n1 hz => by cases hz; exact ih _ _ e h2 K2) (fun _ hz => by cases hz)
    · exact b_Model_isWord_22 E d u hG i1 l1 l3 l4 σ hi1 h1 (fun _ _ hz => by cases hz) (fun m3 hz => K2 m3 (by cases hz; rfl))
def p_Model_isWord_j18 (E : gEv) (i1 : Nat) (l1 : Int32) (y0 : Int32) (σ : gS) : Option (Int32) :=
  gB1 (gIter (fun z => p_Model_isWord_22 E i1 l1 z.1 z.2 σ) gN (y0, 0)) fun e9 => (fun w10 => if w10 = 0 ∨ w10 = 1 then some w10 else none) e9
set_option maxRecDepth 20000 in
theorem j_Model_isWord_j18 (E : gEv) (d u : Nat) {G : gFr → Prop} (σ : gS) {v : Int32} (hG : gClo E gDf gP18 gY201 (some .boolean) (gC E gDf gMs (d + 4)) (some (.int v), (gSh, σ, u)) G) (i1 : Nat) (l1 : Int32) (y0 : Int32) (hi1 : i1 < 7) (hP : p_Model_isWord_j18 E i1 l1 y0 σ = some v) : G (18, [some (.ref 94), some (.int l1), some (.retAddr i1), none, none], [.int y0], (gSh, σ, u)) := by
  unfold p_Model_isWord_j18 at hP
  refine gRunN_ok hG.1 3 _ (22, [some (.ref 94), some (.int l1), some (.retAddr i1), some (.int y0), some (.int 0)], [], (gSh, σ, u)) rfl ?_
  obtain ⟨e9, hq, hP⟩ := g_b1 hP
  refine l_Model_isWord_22 E d u hG i1 l1 σ hi1 gN y0 0 _ hq (fun w10 he => ?_)
  · replace he := he.symm
    subst he
    try dsimp only [gSum] at hP
    refine gRunN_ok hG.1 1 _ (71, [none, none, none, some (.int w10), none], [.int w10], (gSh, σ, u)) rfl ?_
    obtain ⟨hc, hP⟩ := g_if hP
    cases hP
    exact hG.2.1 _ _ rfl (if_pos hc)
def p_Model_isWord (E : gEv) (a0 : Int32) (i1 : Nat) (σ : gS) : Option (Int32) :=
  if gIn a0 (σ.2.1 98) then gB1 (p_String_length E i1 σ) fun v1 => if (σ.1 98 a0.toNatClampNeg) = v1 then (p_Model_isWord_j18 E i1 a0 1 σ) else (p_Model_isWord_j18 E i1 a0 0 σ) else none
set_option maxRecDepth 20000 in
theorem c_Model_isWord (E : gEv) (d u : Nat) (a0 : Int32) (i1 : Nat) (σ : gS) {v : Int32}  (hi1 : i1 < 7) (hq : p_Model_isWord E a0 i1 σ = some v) : gC E gDf gMs (d + 5) 201 [.ref 94, .int a0, .retAddr i1] (gSh, σ, u) (some (.int v), (gSh, σ, u)) := ⟨gM201, rfl, Nat.le_of_ble_eq_true rfl, fun G hG => by
  have hP := hq
  unfold p_Model_isWord at hP
  replace hG : gClo E gDf gP18 gY201 (some .boolean) (gC E gDf gMs (d + 4)) (some (.int v), (gSh, σ, u)) G := hG
  show G (0, [some (.ref 94), some (.int a0), some (.retAddr i1), none, none], [], (gSh, σ, u))
  refine gRunN_ok hG.1 3 _ (5, [some (.ref 94), some (.int a0), some (.retAddr i1), none, none], [.int a0, .ref 98], (gSh, σ, u)) rfl ?_
  obtain ⟨hc, hP⟩ := g_if hP
  refine hG.1 _ (6, [some (.ref 94), some (.int a0), some (.retAddr i1), none, none], [.int (σ.1 98 a0.toNatClampNeg)], (gSh, σ, u)) _ rfl (if_pos hc) ?_
  refine gRunN_ok hG.1 1 _ (7, [some (.ref 94), some (.int a0), some (.retAddr i1), none, none], [.retAddr i1, .int (σ.1 98 a0.toNatClampNeg)], (gSh, σ, u)) rfl ?_
  obtain ⟨v1, hq, hP⟩ := g_b1 hP
  refine hG.2.2.2.1 _ _ _ [.retAddr i1] [.int (σ.1 98 a0.toNatClampNeg)] _ (gSh, σ, u) (some (.int v1)) _ _ _ _ _ _ rfl rfl rfl rfl rfl (by simp [gRcv, gCat, Value.category, hi1]) (c_String_length E (d + 2) u i1 _ hi1 hq) (Nat.le_refl _) (Nat.le_refl _) (Nat.le_refl _) (Nat.le_refl _) ?_
  show G (10, [some (.ref 94), some (.int a0), some (.retAddr i1), none, none], [.int v1, .int (σ.1 98 a0.toNatClampNeg)], (gSh, σ, u))
  rcases g_ite hP with ⟨hc, hP⟩ | ⟨hc, hP⟩
  · refine hG.1 _ (13, [some (.ref 94), some (.int a0), some (.retAddr i1), none, none], [], (gSh, σ, u)) _ rfl (if_pos hc) ?_
    refine gRunN_ok hG.1 2 _ (18, [some (.ref 94), some (.int a0), some (.retAddr i1), none, none], [.int 1], (gSh, σ, u)) rfl ?_
    exact j_Model_isWord_j18 E d u σ hG i1 a0 1 hi1 hP
  · refine hG.1 _ (17, [some (.ref 94), some (.int a0), some (.retAddr i1), none, none], [], (gSh, σ, u)) _ rfl (if_neg hc) ?_
    refine gRunN_ok hG.1 1 _ (18, [some (.ref 94), some (.int a0), some (.retAddr i1), none, none], [.int 0], (gSh, σ, u)) rfl ?_
    exact j_Model_isWord_j18 E d u σ hG i1 a0 0 hi1 hP⟩
def p_Model_look_197 (E : gEv) (l2 : Int32) (l3 : Int32) (σ : gS) : Option ((Int32 × Int32) ⊕ (Int32)) :=
  if (σ.1 94 8) ≤ l3 then (some (.inr l2)) else (if (σ.1 94 77) ≤ 0 then (some (.inr l2)) else (if gIn l3 (σ.2.1 147) then gLet (l2 + (σ.1 147 l3.toNatClampNeg)) fun x3 => gLet (l3 + 1) fun x4 => some (.inl (x3, x4)) else none))
set_option maxRecDepth 20000 in
theorem b_Model_look_197 (E : gEv) (d u : Nat) {G : gFr → Prop} {vo : Option Value} {sr : gS} (hG : gClo E gDf gP18 gY224 (some .int) (gC E gDf gMs (d + 4)) (vo, (gSh, sr, u)) G) (l2 : Int32) (l3 : Int32) (σ : gS) {r : (Int32 × Int32) ⊕ (Int32)} (hP : p_Model_look_197 E l2 l3 σ = some r) (K1 : ∀ (m2 : Int32) (m3 : Int32), r = .inl (m2, m3) → G (197, [some (.ref 94), none, some (.int m2), some (.int m3)], [], (gSh, σ, u))) (K2 : ∀ (m2 : Int32), r = .inr m2 → G (227, [none, none, some (.int m2), none], [], (gSh, σ, u))) : G (197, [some (.ref 94), none, some (.int l2), some (.int l3)], [], (gSh, σ, u)) := by
  unfold p_Model_look_197 at hP
  refine gRunN_ok hG.1 3 _ (202, [some (.ref 94), none, some (.int l2), some (.int l3)], [.int (σ.1 94 8), .int l3], (gSh, σ, u)) rfl ?_
  rcases g_ite hP with ⟨hc, hP⟩ | ⟨hc, hP⟩
  · refine hG.1 _ (227, [some (.ref 94), none, some (.int l2), some (.int l3)], [], (gSh, σ, u)) _ rfl (if_pos hc) ?_
    refine hG.2.2.2.2.1 _ _ [none, none, some (.int l2), none] _ _ ⟨rfl, trivial⟩ ?_
    cases hP
    exact K2 _ rfl
  · refine hG.1 _ (205, [some (.ref 94), none, some (.int l2), some (.int l3)], [], (gSh, σ, u)) _ rfl (if_neg hc) ?_
    refine gRunN_ok hG.1 2 _ (209, [some (.ref 94), none, some (.int l2), some (.int l3)], [.int (σ.1 94 77)], (gSh, σ, u)) rfl ?_
    rcases g_ite hP with ⟨hc, hP⟩ | ⟨hc, hP⟩
    · refine hG.1 _ (227, [some (.ref 94), none, some (.int l2), some (.int l3)], [], (gSh, σ, u)) _ rfl (if_pos hc) ?_
      refine hG.2.2.2.2.1 _ _ [none, none, some (.int l2), none] _ _ ⟨rfl, trivial⟩ ?_
      cases hP
      exact K2 _ rfl
    · refine hG.1 _ (212, [some (.ref 94), none, some (.int l2), some (.int l3)], [], (gSh, σ, u)) _ rfl (if_neg hc) ?_
      refine gRunN_ok hG.1 4 _ (218, [some (.ref 94), none, some (.int l2), some (.int l3)], [.int l3, .ref 147, .int l2], (gSh, σ, u)) rfl ?_
      obtain ⟨hc, hP⟩ := g_if hP
      refine hG.1 _ (219, [some (.ref 94), none, some (.int l2), some (.int l3)], [.int (σ.1 147 l3.toNatClampNeg), .int l2], (gSh, σ, u)) _ rfl (if_pos hc) ?_
      refine gRunN_ok hG.1 2 _ (221, [some (.ref 94), none, some (.int (l2 + (σ.1 147 l3.toNatClampNeg))), some (.int l3)], [], (gSh, σ, u)) rfl ?_
      obtain ⟨x3, ex3, hP⟩ := g_let hP
      rw [← ex3]
      refine gRunN_ok hG.1 1 _ (224, [some (.ref 94), none, some (.int x3), some (.int (l3 + 1))], [], (gSh, σ, u)) rfl ?_
      obtain ⟨x4, ex4, hP⟩ := g_let hP
      rw [← ex4]
      refine gRunN_ok hG.1 1 _ (197, [some (.ref 94), none, some (.int x3), some (.int x4)], [], (gSh, σ, u)) rfl ?_
      cases hP
      exact K1 _ _ rfl
theorem l_Model_look_197 (E : gEv) (d u : Nat) {G : gFr → Prop} {vo : Option Value} {sr : gS} (hG : gClo E gDf gP18 gY224 (some .int) (gC E gDf gMs (d + 4)) (vo, (gSh, sr, u)) G) (σ : gS) : ∀ (n : Nat) (l2 : Int32) (l3 : Int32) (e : (Int32)), gIter (fun z => p_Model_look_197 E z.1 z.2 σ) n (l2, l3) = some e → (∀ (m2 : Int32), e = m2 → G (227, [none, none, some (.int m2), none], [], (gSh, σ, u))) → G (197, [some (.ref 94), none, some (.int l2), some (.int l3)], [], (gSh, σ, u)) := by
  intro n
  induction n with
  | zero => intro l2 l3 e h; cases h
  | succ n ih =>
    intro l2 l3 e h K2
    rcases g_iter h with ⟨z, h1, h2⟩ | h1
    · exact b_Model_look_197 E d u hG l2 l3 σ h1 (fun n0 n1 hz => by cases hz; exact ih _ _ e h2 K2) (fun _ hz => by cases hz)
    · exact b_Model_look_197 E d u hG l2 l3 σ h1 (fun _ _ hz => by cases hz) (fun m2 hz => K2 m2 (by cases hz; rfl))
def p_Model_look_j19 (E : gEv) (l1 : Int32) (σ : gS) : Option (Int32 × gS) :=
  if l1 = 0 then (some (σ.1 94 18, σ)) else if l1 = 1 then (some (σ.1 94 29, σ)) else if l1 = 2 then (some (σ.1 94 31, σ)) else if l1 = 3 then (some (σ.1 94 46, σ)) else if l1 = 4 then (some (σ.1 94 30, σ)) else if l1 = 5 then (some (σ.1 94 55, σ)) else if l1 = 6 then (some (σ.1 94 66, σ)) else if l1 = 7 then (some (σ.1 94 60, σ)) else if l1 = 8 then (gB2 (p_Model_length E σ) fun v1 s2 => some (v1, s2)) else if l1 = 9 then (some (σ.1 94 6, σ)) else if l1 = 10 then (some (σ.1 94 8, σ)) else if l1 = 11 then (some (σ.1 94 13, σ)) else if l1 = 12 then (if (σ.1 94 106) = 0 then (some (0, σ)) else (if (σ.1 94 77) = 0 then (some (1, σ)) else (some (2, σ)))) else if l1 = 13 then (some (σ.1 94 77, σ)) else if l1 = 14 then (gB1 (gIter (fun z => p_Model_look_197 E z.1 z.2 σ) gN (0, 0)) fun e5 => (fun w6 => some (w6, σ)) e5) else if l1 = 15 then (some (σ.1 94 105, σ)) else if l1 = 16 then (some (σ.1 94 99, σ)) else (some ((-1), σ))
set_option maxRecDepth 20000 in
theorem j_Model_look_j19 (E : gEv) (d u : Nat) {G : gFr → Prop} {v : Int32} {sr : gS} (hG : gClo E gDf gP18 gY224 (some .int) (gC E gDf gMs (d + 4)) (some (.int v), (gSh, sr, u)) G) (l1 : Int32) (σ : gS) (hP : p_Model_look_j19 E l1 σ = some (v, sr)) : G (19, [some (.ref 94), some (.int l1), none, none], [], (gSh, σ, u)) := by
  unfold p_Model_look_j19 at hP
  refine gRunN_ok hG.1 1 _ (20, [some (.ref 94), some (.int l1), none, none], [.int l1], (gSh, σ, u)) rfl ?_
  rcases g_ite hP with ⟨hc0, hP⟩ | ⟨hc0, hP⟩
  · refine hG.1 _ (104, [some (.ref 94), some (.int l1), none, none], [], (gSh, σ, u)) _ rfl (if_pos hc0) ?_
    refine gRunN_ok hG.1 2 _ (108, [some (.ref 94), some (.int l1), none, none], [.int (σ.1 94 18)], (gSh, σ, u)) rfl ?_
    cases hP
    exact hG.2.1 _ _ rfl rfl
  rcases g_ite hP with ⟨hc1, hP⟩ | ⟨hc1, hP⟩
  · refine hG.1 _ (109, [some (.ref 94), some (.int l1), none, none], [], (gSh, σ, u)) _ rfl ((if_neg hc0).trans (if_pos hc1)) ?_
    refine gRunN_ok hG.1 2 _ (113, [some (.ref 94), some (.int l1), none, none], [.int (σ.1 94 29)], (gSh, σ, u)) rfl ?_
    cases hP
    exact hG.2.1 _ _ rfl rfl
  rcases g_ite hP with ⟨hc2, hP⟩ | ⟨hc2, hP⟩
  · refine hG.1 _ (114, [some (.ref 94), some (.int l1), none, none], [], (gSh, σ, u)) _ rfl ((if_neg hc0).trans ((if_neg hc1).trans (if_pos hc2))) ?_
    refine gRunN_ok hG.1 2 _ (118, [some (.ref 94), some (.int l1), none, none], [.int (σ.1 94 31)], (gSh, σ, u)) rfl ?_
    cases hP
    exact hG.2.1 _ _ rfl rfl
  rcases g_ite hP with ⟨hc3, hP⟩ | ⟨hc3, hP⟩
  · refine hG.1 _ (119, [some (.ref 94), some (.int l1), none, none], [], (gSh, σ, u)) _ rfl ((if_neg hc0).trans ((if_neg hc1).trans ((if_neg hc2).trans (if_pos hc3)))) ?_
    refine gRunN_ok hG.1 2 _ (123, [some (.ref 94), some (.int l1), none, none], [.int (σ.1 94 46)], (gSh, σ, u)) rfl ?_
    cases hP
    exact hG.2.1 _ _ rfl rfl
  rcases g_ite hP with ⟨hc4, hP⟩ | ⟨hc4, hP⟩
  · refine hG.1 _ (124, [some (.ref 94), some (.int l1), none, none], [], (gSh, σ, u)) _ rfl ((if_neg hc0).trans ((if_neg hc1).trans ((if_neg hc2).trans ((if_neg hc3).trans (if_pos hc4))))) ?_
    refine gRunN_ok hG.1 2 _ (128, [some (.ref 94), some (.int l1), none, none], [.int (σ.1 94 30)], (gSh, σ, u)) rfl ?_
    cases hP
    exact hG.2.1 _ _ rfl rfl
  rcases g_ite hP with ⟨hc5, hP⟩ | ⟨hc5, hP⟩
  · refine hG.1 _ (129, [some (.ref 94), some (.int l1), none, none], [], (gSh, σ, u)) _ rfl ((if_neg hc0).trans ((if_neg hc1).trans ((if_neg hc2).trans ((if_neg hc3).trans ((if_neg hc4).trans (if_pos hc5)))))) ?_
    refine gRunN_ok hG.1 2 _ (133, [some (.ref 94), some (.int l1), none, none], [.int (σ.1 94 55)], (gSh, σ, u)) rfl ?_
    cases hP
    exact hG.2.1 _ _ rfl rfl
  rcases g_ite hP with ⟨hc6, hP⟩ | ⟨hc6, hP⟩
  · refine hG.1 _ (134, [some (.ref 94), some (.int l1), none, none], [], (gSh, σ, u)) _ rfl ((if_neg hc0).trans ((if_neg hc1).trans ((if_neg hc2).trans ((if_neg hc3).trans ((if_neg hc4).trans ((if_neg hc5).trans (if_pos hc6))))))) ?_
    refine gRunN_ok hG.1 2 _ (138, [some (.ref 94), some (.int l1), none, none], [.int (σ.1 94 66)], (gSh, σ, u)) rfl ?_
    cases hP
    exact hG.2.1 _ _ rfl rfl
  rcases g_ite hP with ⟨hc7, hP⟩ | ⟨hc7, hP⟩
  · refine hG.1 _ (139, [some (.ref 94), some (.int l1), none, none], [], (gSh, σ, u)) _ rfl ((if_neg hc0).trans ((if_neg hc1).trans ((if_neg hc2).trans ((if_neg hc3).trans ((if_neg hc4).trans ((if_neg hc5).trans ((if_neg hc6).trans (if_pos hc7)))))))) ?_
    refine gRunN_ok hG.1 2 _ (143, [some (.ref 94), some (.int l1), none, none], [.int (σ.1 94 60)], (gSh, σ, u)) rfl ?_
    cases hP
    exact hG.2.1 _ _ rfl rfl
  rcases g_ite hP with ⟨hc8, hP⟩ | ⟨hc8, hP⟩
  · refine hG.1 _ (144, [some (.ref 94), some (.int l1), none, none], [], (gSh, σ, u)) _ rfl ((if_neg hc0).trans ((if_neg hc1).trans ((if_neg hc2).trans ((if_neg hc3).trans ((if_neg hc4).trans ((if_neg hc5).trans ((if_neg hc6).trans ((if_neg hc7).trans (if_pos hc8))))))))) ?_
    refine gRunN_ok hG.1 1 _ (145, [some (.ref 94), some (.int l1), none, none], [.ref 94], (gSh, σ, u)) rfl ?_
    obtain ⟨v1, s2, hq, hP⟩ := g_b2 hP
    refine hG.2.2.2.1 _ _ _ [.ref 94] [] _ (gSh, s2, u) (some (.int v1)) _ _ _ _ _ _ rfl rfl rfl rfl rfl rfl (c_Model_length E (d + 0) u _  hq) (Nat.le_refl _) (Nat.le_refl _) (Nat.le_refl _) (Nat.le_refl _) ?_
    show G (148, [some (.ref 94), some (.int l1), none, none], [.int v1], (gSh, s2, u))
    cases hP
    exact hG.2.1 _ _ rfl rfl
  rcases g_ite hP with ⟨hc9, hP⟩ | ⟨hc9, hP⟩
  · refine hG.1 _ (149, [some (.ref 94), some (.int l1), none, none], [], (gSh, σ, u)) _ rfl ((if_neg hc0).trans ((if_neg hc1).trans ((if_neg hc2).trans ((if_neg hc3).trans ((if_neg hc4).trans ((if_neg hc5).trans ((if_neg hc6).trans ((if_neg hc7).trans ((if_neg hc8).trans (if_pos hc9)))))))))) ?_
    refine gRunN_ok hG.1 2 _ (153, [some (.ref 94), some (.int l1), none, none], [.int (σ.1 94 6)], (gSh, σ, u)) rfl ?_
    cases hP
    exact hG.2.1 _ _ rfl rfl
  rcases g_ite hP with ⟨hc10, hP⟩ | ⟨hc10, hP⟩
  · refine hG.1 _ (154, [some (.ref 94), some (.int l1), none, none], [], (gSh, σ, u)) _ rfl ((if_neg hc0).trans ((if_neg hc1).trans ((if_neg hc2).trans ((if_neg hc3).trans ((if_neg hc4).trans ((if_neg hc5).trans ((if_neg hc6).trans ((if_neg hc7).trans ((if_neg hc8).trans ((if_neg hc9).trans (if_pos hc10))))))))))) ?_
    refine gRunN_ok hG.1 2 _ (158, [some (.ref 94), some (.int l1), none, none], [.int (σ.1 94 8)], (gSh, σ, u)) rfl ?_
    cases hP
    exact hG.2.1 _ _ rfl rfl
  rcases g_ite hP with ⟨hc11, hP⟩ | ⟨hc11, hP⟩
  · refine hG.1 _ (159, [some (.ref 94), some (.int l1), none, none], [], (gSh, σ, u)) _ rfl ((if_neg hc0).trans ((if_neg hc1).trans ((if_neg hc2).trans ((if_neg hc3).trans ((if_neg hc4).trans ((if_neg hc5).trans ((if_neg hc6).trans ((if_neg hc7).trans ((if_neg hc8).trans ((if_neg hc9).trans ((if_neg hc10).trans (if_pos hc11)))))))))))) ?_
    refine gRunN_ok hG.1 2 _ (163, [some (.ref 94), some (.int l1), none, none], [.int (σ.1 94 13)], (gSh, σ, u)) rfl ?_
    cases hP
    exact hG.2.1 _ _ rfl rfl
  rcases g_ite hP with ⟨hc12, hP⟩ | ⟨hc12, hP⟩
  · refine hG.1 _ (164, [some (.ref 94), some (.int l1), none, none], [], (gSh, σ, u)) _ rfl ((if_neg hc0).trans ((if_neg hc1).trans ((if_neg hc2).trans ((if_neg hc3).trans ((if_neg hc4).trans ((if_neg hc5).trans ((if_neg hc6).trans ((if_neg hc7).trans ((if_neg hc8).trans ((if_neg hc9).trans ((if_neg hc10).trans ((if_neg hc11).trans (if_pos hc12))))))))))))) ?_
    refine gRunN_ok hG.1 2 _ (168, [some (.ref 94), some (.int l1), none, none], [.int (σ.1 94 106)], (gSh, σ, u)) rfl ?_
    rcases g_ite hP with ⟨hc, hP⟩ | ⟨hc, hP⟩
    · refine hG.1 _ (171, [some (.ref 94), some (.int l1), none, none], [], (gSh, σ, u)) _ rfl (if_pos hc) ?_
      refine gRunN_ok hG.1 2 _ (187, [some (.ref 94), some (.int l1), none, none], [.int 0], (gSh, σ, u)) rfl ?_
      cases hP
      exact hG.2.1 _ _ rfl rfl
    · refine hG.1 _ (175, [some (.ref 94), some (.int l1), none, none], [], (gSh, σ, u)) _ rfl (if_neg hc) ?_
      refine gRunN_ok hG.1 2 _ (179, [some (.ref 94), some (.int l1), none, none], [.int (σ.1 94 77)], (gSh, σ, u)) rfl ?_
      rcases g_ite hP with ⟨hc, hP⟩ | ⟨hc, hP⟩
      · refine hG.1 _ (182, [some (.ref 94), some (.int l1), none, none], [], (gSh, σ, u)) _ rfl (if_pos hc) ?_
        refine gRunN_ok hG.1 2 _ (187, [some (.ref 94), some (.int l1), none, none], [.int 1], (gSh, σ, u)) rfl ?_
        cases hP
        exact hG.2.1 _ _ rfl rfl
      · refine hG.1 _ (186, [some (.ref 94), some (.int l1), none, none], [], (gSh, σ, u)) _ rfl (if_neg hc) ?_
        refine gRunN_ok hG.1 1 _ (187, [some (.ref 94), some (.int l1), none, none], [.int 2], (gSh, σ, u)) rfl ?_
        cases hP
        exact hG.2.1 _ _ rfl rfl
  rcases g_ite hP with ⟨hc13, hP⟩ | ⟨hc13, hP⟩
  · refine hG.1 _ (188, [some (.ref 94), some (.int l1), none, none], [], (gSh, σ, u)) _ rfl ((if_neg hc0).trans ((if_neg hc1).trans ((if_neg hc2).trans ((if_neg hc3).trans ((if_neg hc4).trans ((if_neg hc5).trans ((if_neg hc6).trans ((if_neg hc7).trans ((if_neg hc8).trans ((if_neg hc9).trans ((if_neg hc10).trans ((if_neg hc11).trans ((if_neg hc12).trans (if_pos hc13)))))))))))))) ?_
    refine gRunN_ok hG.1 2 _ (192, [some (.ref 94), some (.int l1), none, none], [.int (σ.1 94 77)], (gSh, σ, u)) rfl ?_
    cases hP
    exact hG.2.1 _ _ rfl rfl
  rcases g_ite hP with ⟨hc14, hP⟩ | ⟨hc14, hP⟩
  · refine hG.1 _ (193, [some (.ref 94), some (.int l1), none, none], [], (gSh, σ, u)) _ rfl ((if_neg hc0).trans ((if_neg hc1).trans ((if_neg hc2).trans ((if_neg hc3).trans ((if_neg hc4).trans ((if_neg hc5).trans ((if_neg hc6).trans ((if_neg hc7).trans ((if_neg hc8).trans ((if_neg hc9).trans ((if_neg hc10).trans ((if_neg hc11).trans ((if_neg hc12).trans ((if_neg hc13).trans (if_pos hc14))))))))))))))) ?_
    refine gRunN_ok hG.1 4 _ (197, [some (.ref 94), some (.int l1), some (.int 0), some (.int 0)], [], (gSh, σ, u)) rfl ?_
    refine hG.2.2.2.2.1 _ _ [some (.ref 94), none, some (.int 0), some (.int 0)] _ _ ⟨rfl, ⟨rfl, ⟨rfl, trivial⟩⟩⟩ ?_
    obtain ⟨e5, hq, hP⟩ := g_b1 hP
    refine l_Model_look_197 E d u hG σ gN 0 0 _ hq (fun w6 he => ?_)
    · replace he := he.symm
      subst he
      try dsimp only [gSum] at hP
      refine gRunN_ok hG.1 1 _ (228, [none, none, some (.int w6), none], [.int w6], (gSh, σ, u)) rfl ?_
      cases hP
      exact hG.2.1 _ _ rfl rfl
  rcases g_ite hP with ⟨hc15, hP⟩ | ⟨hc15, hP⟩
  · refine hG.1 _ (229, [some (.ref 94), some (.int l1), none, none], [], (gSh, σ, u)) _ rfl ((if_neg hc0).trans ((if_neg hc1).trans ((if_neg hc2).trans ((if_neg hc3).trans ((if_neg hc4).trans ((if_neg hc5).trans ((if_neg hc6).trans ((if_neg hc7).trans ((if_neg hc8).trans ((if_neg hc9).trans ((if_neg hc10).trans ((if_neg hc11).trans ((if_neg hc12).trans ((if_neg hc13).trans ((if_neg hc14).trans (if_pos hc15)))))))))))))))) ?_
    refine gRunN_ok hG.1 2 _ (233, [some (.ref 94), some (.int l1), none, none], [.int (σ.1 94 105)], (gSh, σ, u)) rfl ?_
    cases hP
    exact hG.2.1 _ _ rfl rfl
  rcases g_ite hP with ⟨hc16, hP⟩ | ⟨hc16, hP⟩
  · refine hG.1 _ (234, [some (.ref 94), some (.int l1), none, none], [], (gSh, σ, u)) _ rfl ((if_neg hc0).trans ((if_neg hc1).trans ((if_neg hc2).trans ((if_neg hc3).trans ((if_neg hc4).trans ((if_neg hc5).trans ((if_neg hc6).trans ((if_neg hc7).trans ((if_neg hc8).trans ((if_neg hc9).trans ((if_neg hc10).trans ((if_neg hc11).trans ((if_neg hc12).trans ((if_neg hc13).trans ((if_neg hc14).trans ((if_neg hc15).trans (if_pos hc16))))))))))))))))) ?_
    refine gRunN_ok hG.1 2 _ (238, [some (.ref 94), some (.int l1), none, none], [.int (σ.1 94 99)], (gSh, σ, u)) rfl ?_
    cases hP
    exact hG.2.1 _ _ rfl rfl
  · refine hG.1 _ (239, [some (.ref 94), some (.int l1), none, none], [], (gSh, σ, u)) _ rfl ((if_neg hc0).trans ((if_neg hc1).trans ((if_neg hc2).trans ((if_neg hc3).trans ((if_neg hc4).trans ((if_neg hc5).trans ((if_neg hc6).trans ((if_neg hc7).trans ((if_neg hc8).trans ((if_neg hc9).trans ((if_neg hc10).trans ((if_neg hc11).trans ((if_neg hc12).trans ((if_neg hc13).trans ((if_neg hc14).trans ((if_neg hc15).trans ((if_neg hc16).trans rfl))))))))))))))))) ?_
    refine gRunN_ok hG.1 1 _ (240, [some (.ref 94), some (.int l1), none, none], [.int (-1)], (gSh, σ, u)) rfl ?_
    cases hP
    exact hG.2.1 _ _ rfl rfl
def p_Model_look (E : gEv) (a0 : Int32) (σ : gS) : Option (Int32 × gS) :=
  if a0 ≤ 0 then (p_Model_look_j19 E a0 σ) else (if (9 : Int32) ≤ a0 then (p_Model_look_j19 E a0 σ) else (if (σ.1 94 106) = 0 then (some ((-1), σ)) else (p_Model_look_j19 E a0 σ)))
set_option maxRecDepth 20000 in
theorem c_Model_look (E : gEv) (d u : Nat) (a0 : Int32) (σ : gS) {v : Int32} {sr : gS}  (hq : p_Model_look E a0 σ = some (v, sr)) : gC E gDf gMs (d + 5) 224 [.ref 94, .int a0] (gSh, σ, u) (some (.int v), (gSh, sr, u)) := ⟨gM224, rfl, Nat.le_of_ble_eq_true rfl, fun G hG => by
  have hP := hq
  unfold p_Model_look at hP
  replace hG : gClo E gDf gP18 gY224 (some .int) (gC E gDf gMs (d + 4)) (some (.int v), (gSh, sr, u)) G := hG
  show G (0, [some (.ref 94), some (.int a0), none, none], [], (gSh, σ, u))
  refine gRunN_ok hG.1 1 _ (1, [some (.ref 94), some (.int a0), none, none], [.int a0], (gSh, σ, u)) rfl ?_
  rcases g_ite hP with ⟨hc, hP⟩ | ⟨hc, hP⟩
  · refine hG.1 _ (19, [some (.ref 94), some (.int a0), none, none], [], (gSh, σ, u)) _ rfl (if_pos hc) ?_
    exact j_Model_look_j19 E d u hG a0 σ hP
  · refine hG.1 _ (4, [some (.ref 94), some (.int a0), none, none], [], (gSh, σ, u)) _ rfl (if_neg hc) ?_
    refine gRunN_ok hG.1 2 _ (7, [some (.ref 94), some (.int a0), none, none], [.int 9, .int a0], (gSh, σ, u)) rfl ?_
    rcases g_ite hP with ⟨hc, hP⟩ | ⟨hc, hP⟩
    · refine hG.1 _ (19, [some (.ref 94), some (.int a0), none, none], [], (gSh, σ, u)) _ rfl (if_pos hc) ?_
      exact j_Model_look_j19 E d u hG a0 σ hP
    · refine hG.1 _ (10, [some (.ref 94), some (.int a0), none, none], [], (gSh, σ, u)) _ rfl (if_neg hc) ?_
      refine gRunN_ok hG.1 2 _ (14, [some (.ref 94), some (.int a0), none, none], [.int (σ.1 94 106)], (gSh, σ, u)) rfl ?_
      rcases g_ite hP with ⟨hc, hP⟩ | ⟨hc, hP⟩
      · refine hG.1 _ (17, [some (.ref 94), some (.int a0), none, none], [], (gSh, σ, u)) _ rfl (if_pos hc) ?_
        refine gRunN_ok hG.1 1 _ (18, [some (.ref 94), some (.int a0), none, none], [.int (-1)], (gSh, σ, u)) rfl ?_
        cases hP
        exact hG.2.1 _ _ rfl rfl
      · refine hG.1 _ (19, [some (.ref 94), some (.int a0), none, none], [], (gSh, σ, u)) _ rfl (if_neg hc) ?_
        exact j_Model_look_j19 E d u hG a0 σ hP⟩
