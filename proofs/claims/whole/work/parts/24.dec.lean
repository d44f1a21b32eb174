def p_Grid_setJoints_12 (E : gEv) (l1 : Int32) (l2 : Int32) (σ : gS) : Option ((Int32 × gS) ⊕ (gS)) :=
  if (σ.1 1 0) < l2 then (some (.inr σ)) else (gB1 (p_Grid_across E (l2 - (1 : Int32)) l1 σ) fun v1 => gB1 (p_Grid_across E l2 l1 σ) fun v3 => gB1 (p_Grid_upright E l2 (l1 - (1 : Int32)) σ) fun v5 => gB1 (p_Grid_upright E l2 l1 σ) fun v7 => gLet ((((l1 * ((σ.1 1 0) + (1 : Int32))) + l2) * (σ.1 1 3)) * (6 : Int32)) fun x9 => gB1 (p_Grid_setJoint E x9 v1 v3 σ) fun s11 => gB1 (p_Grid_setJoint E (x9 + (1 : Int32)) v1 v5 s11) fun s13 => gB1 (p_Grid_setJoint E (x9 + (2 : Int32)) v1 v7 s13) fun s15 => gB1 (p_Grid_setJoint E (x9 + (3 : Int32)) v3 v5 s15) fun s17 => gB1 (p_Grid_setJoint E (x9 + (4 : Int32)) v3 v7 s17) fun s19 => gB1 (p_Grid_setJoint E (x9 + (5 : Int32)) v5 v7 s19) fun s21 => gLet (l2 + 1) fun x22 => some (.inl (x22, s21)))
set_option maxRecDepth 20000 in
theorem b_Grid_setJoints_12 (E : gEv) (d u : Nat) {G : gFr → Prop} {vo : Option Value} {sr : gS} (hG : gClo E gDf gP1 gY9 none (gC E gDf gMs (d + 1)) (vo, (gShG, sr, u)) G) (l1 : Int32) (l2 : Int32) (σ : gS) {r : (Int32 × gS) ⊕ (gS)} (hP : p_Grid_setJoints_12 E l1 l2 σ = some r) (K1 : ∀ (m2 : Int32) (σ1 : gS), r = .inl (m2, σ1) → G (12, [some (.ref 1), some (.int l1), some (.int m2), none, none, none, none, none], [], (gShG, σ1, u))) (K2 : ∀ (σ1 : gS), r = .inr σ1 → G (148, [some (.ref 1), some (.int l1), none, none, none, none, none, none], [], (gShG, σ1, u))) : G (12, [some (.ref 1), some (.int l1), some (.int l2), none, none, none, none, none], [], (gShG, σ, u)) := by
  unfold p_Grid_setJoints_12 at hP
  refine gRunN_ok hG.1 3 _ (17, [some (.ref 1), some (.int l1), some (.int l2), none, none, none, none, none], [.int (σ.1 1 0), .int l2], (gShG, σ, u)) rfl ?_
  rcases g_ite hP with ⟨hc, hP⟩ | ⟨hc, hP⟩
  · refine hG.1 _ (148, [some (.ref 1), some (.int l1), some (.int l2), none, none, none, none, none], [], (gShG, σ, u)) _ rfl (if_pos hc) ?_
    refine hG.2.2.2.2.1 _ _ [some (.ref 1), some (.int l1), none, none, none, none, none, none] _ _ ⟨rfl, ⟨rfl, trivial⟩⟩ ?_
    cases hP
    exact K2 _ rfl
  · refine hG.1 _ (20, [some (.ref 1), some (.int l1), some (.int l2), none, none, none, none, none], [], (gShG, σ, u)) _ rfl (if_neg hc) ?_
    refine gRunN_ok hG.1 5 _ (25, [some (.ref 1), some (.int l1), some (.int l2), none, none, none, none, none], [.int l1, .int (l2 - (1 : Int32)), .ref 1], (gShG, σ, u)) rfl ?_
    obtain ⟨v1, hq, hP⟩ := g_b1 hP
    refine hG.2.2.2.1 _ _ _ [.ref 1, .int (l2 - (1 : Int32)), .int l1] [] _ (gShG, σ, u) (some (.int v1)) _ _ _ _ _ _ rfl rfl rfl rfl rfl rfl (c_Grid_across E (d + 0) u (l2 - (1 : Int32)) l1 _  hq) (Nat.le_refl _) (Nat.le_refl _) (Nat.le_refl _) (Nat.le_refl _) ?_
    show G (28, [some (.ref 1), some (.int l1), some (.int l2), none, none, none, none, none], [.int v1], (gShG, σ, u))
    refine gRunN_ok hG.1 4 _ (32, [some (.ref 1), some (.int l1), some (.int l2), some (.int v1), none, none, none, none], [.int l1, .int l2, .ref 1], (gShG, σ, u)) rfl ?_
    obtain ⟨v3, hq, hP⟩ := g_b1 hP
    refine hG.2.2.2.1 _ _ _ [.ref 1, .int l2, .int l1] [] _ (gShG, σ, u) (some (.int v3)) _ _ _ _ _ _ rfl rfl rfl rfl rfl rfl (c_Grid_across E (d + 0) u l2 l1 _  hq) (Nat.le_refl _) (Nat.le_refl _) (Nat.le_refl _) (Nat.le_refl _) ?_
    show G (35, [some (.ref 1), some (.int l1), some (.int l2), some (.int v1), none, none, none, none], [.int v3], (gShG, σ, u))
    refine gRunN_ok hG.1 6 _ (42, [some (.ref 1), some (.int l1), some (.int l2), some (.int v1), some (.int v3), none, none, none], [.int (l1 - (1 : Int32)), .int l2, .ref 1], (gShG, σ, u)) rfl ?_
    obtain ⟨v5, hq, hP⟩ := g_b1 hP
    refine hG.2.2.2.1 _ _ _ [.ref 1, .int l2, .int (l1 - (1 : Int32))] [] _ (gShG, σ, u) (some (.int v5)) _ _ _ _ _ _ rfl rfl rfl rfl rfl rfl (c_Grid_upright E (d + 0) u l2 (l1 - (1 : Int32)) _  hq) (Nat.le_refl _) (Nat.le_refl _) (Nat.le_refl _) (Nat.le_refl _) ?_
    show G (45, [some (.ref 1), some (.int l1), some (.int l2), some (.int v1), some (.int v3), none, none, none], [.int v5], (gShG, σ, u))
    refine gRunN_ok hG.1 4 _ (50, [some (.ref 1), some (.int l1), some (.int l2), some (.int v1), some (.int v3), some (.int v5), none, none], [.int l1, .int l2, .ref 1], (gShG, σ, u)) rfl ?_
    obtain ⟨v7, hq, hP⟩ := g_b1 hP
    refine hG.2.2.2.1 _ _ _ [.ref 1, .int l2, .int l1] [] _ (gShG, σ, u) (some (.int v7)) _ _ _ _ _ _ rfl rfl rfl rfl rfl rfl (c_Grid_upright E (d + 0) u l2 l1 _  hq) (Nat.le_refl _) (Nat.le_refl _) (Nat.le_refl _) (Nat.le_refl _) ?_
    show G (53, [some (.ref 1), some (.int l1), some (.int l2), some (.int v1), some (.int v3), some (.int v5), none, none], [.int v7], (gShG, σ, u))
    refine gRunN_ok hG.1 15 _ (75, [some (.ref 1), some (.int l1), some (.int l2), some (.int v1), some (.int v3), some (.int v5), some (.int v7), some (.int ((((l1 * ((σ.1 1 0) + (1 : Int32))) + l2) * (σ.1 1 3)) * (6 : Int32)))], [], (gShG, σ, u)) rfl ?_
    obtain ⟨x9, ex9, hP⟩ := g_let hP
    rw [← ex9]
    refine gRunN_ok hG.1 4 _ (81, [some (.ref 1), some (.int l1), some (.int l2), some (.int v1), some (.int v3), some (.int v5), some (.int v7), some (.int x9)], [.int v3, .int v1, .int x9, .ref 1], (gShG, σ, u)) rfl ?_
    obtain ⟨s11, hq, hP⟩ := g_b1 hP
    refine hG.2.2.2.1 _ _ _ [.ref 1, .int x9, .int v1, .int v3] [] _ (gShG, s11, u) none _ _ _ _ _ _ rfl rfl rfl rfl rfl rfl (c_Grid_setJoint E (d + 0) u x9 v1 v3 _  hq) (Nat.le_refl _) (Nat.le_refl _) (Nat.le_refl _) (Nat.le_refl _) ?_
    show G (84, [some (.ref 1), some (.int l1), some (.int l2), some (.int v1), some (.int v3), some (.int v5), some (.int v7), some (.int x9)], [], (gShG, s11, u))
    refine gRunN_ok hG.1 6 _ (92, [some (.ref 1), some (.int l1), some (.int l2), some (.int v1), some (.int v3), some (.int v5), some (.int v7), some (.int x9)], [.int v5, .int v1, .int (x9 + (1 : Int32)), .ref 1], (gShG, s11, u)) rfl ?_
    obtain ⟨s13, hq, hP⟩ := g_b1 hP
    refine hG.2.2.2.1 _ _ _ [.ref 1, .int (x9 + (1 : Int32)), .int v1, .int v5] [] _ (gShG, s13, u) none _ _ _ _ _ _ rfl rfl rfl rfl rfl rfl (c_Grid_setJoint E (d + 0) u (x9 + (1 : Int32)) v1 v5 _  hq) (Nat.le_refl _) (Nat.le_refl _) (Nat.le_refl _) (Nat.le_refl _) ?_
    show G (95, [some (.ref 1), some (.int l1), some (.int l2), some (.int v1), some (.int v3), some (.int v5), some (.int v7), some (.int x9)], [], (gShG, s13, u))
    refine gRunN_ok hG.1 6 _ (103, [some (.ref 1), some (.int l1), some (.int l2), some (.int v1), some (.int v3), some (.int v5), some (.int v7), some (.int x9)], [.int v7, .int v1, .int (x9 + (2 : Int32)), .ref 1], (gShG, s13, u)) rfl ?_
    obtain ⟨s15, hq, hP⟩ := g_b1 hP
    refine hG.2.2.2.1 _ _ _ [.ref 1, .int (x9 + (2 : Int32)), .int v1, .int v7] [] _ (gShG, s15, u) none _ _ _ _ _ _ rfl rfl rfl rfl rfl rfl (c_Grid_setJoint E (d + 0) u (x9 + (2 : Int32)) v1 v7 _  hq) (Nat.le_refl _) (Nat.le_refl _) (Nat.le_refl _) (Nat.le_refl _) ?_
    show G (106, [some (.ref 1), some (.int l1), some (.int l2), some (.int v1), some (.int v3), some (.int v5), some (.int v7), some (.int x9)], [], (gShG, s15, u))
    refine gRunN_ok hG.1 6 _ (115, [some (.ref 1), some (.int l1), some (.int l2), some (.int v1), some (.int v3), some (.int v5), some (.int v7), some (.int x9)], [.int v5, .int v3, .int (x9 + (3 : Int32)), .ref 1], (gShG, s15, u)) rfl ?_
    obtain ⟨s17, hq, hP⟩ := g_b1 hP
    refine hG.2.2.2.1 _ _ _ [.ref 1, .int (x9 + (3 : Int32)), .int v3, .int v5] [] _ (gShG, s17, u) none _ _ _ _ _ _ rfl rfl rfl rfl rfl rfl (c_Grid_setJoint E (d + 0) u (x9 + (3 : Int32)) v3 v5 _  hq) (Nat.le_refl _) (Nat.le_refl _) (Nat.le_refl _) (Nat.le_refl _) ?_
    show G (118, [some (.ref 1), some (.int l1), some (.int l2), some (.int v1), some (.int v3), some (.int v5), some (.int v7), some (.int x9)], [], (gShG, s17, u))
    refine gRunN_ok hG.1 6 _ (127, [some (.ref 1), some (.int l1), some (.int l2), some (.int v1), some (.int v3), some (.int v5), some (.int v7), some (.int x9)], [.int v7, .int v3, .int (x9 + (4 : Int32)), .ref 1], (gShG, s17, u)) rfl ?_
    obtain ⟨s19, hq, hP⟩ := g_b1 hP
    refine hG.2.2.2.1 _ _ _ [.ref 1, .int (x9 + (4 : Int32)), .int v3, .int v7] [] _ (gShG, s19, u) none _ _ _ _ _ _ rfl rfl rfl rfl rfl rfl (c_Grid_setJoint E (d + 0) u (x9 + (4 : Int32)) v3 v7 _  hq) (Nat.le_refl _) (Nat.le_refl _) (Nat.le_refl _) (Nat.le_refl _) ?_
    show G (130, [some (.ref 1), some (.int l1), some (.int l2), some (.int v1), some (.int v3), some (.int v5), some (.int v7), some (.int x9)], [], (gShG, s19, u))
    refine gRunN_ok hG.1 6 _ (139, [some (.ref 1), some (.int l1), some (.int l2), some (.int v1), some (.int v3), some (.int v5), some (.int v7), some (.int x9)], [.int v7, .int v5, .int (x9 + (5 : Int32)), .ref 1], (gShG, s19, u)) rfl ?_
    obtain ⟨s21, hq, hP⟩ := g_b1 hP
    refine hG.2.2.2.1 _ _ _ [.ref 1, .int (x9 + (5 : Int32)), .int v5, .int v7] [] _ (gShG, s21, u) none _ _ _ _ _ _ rfl rfl rfl rfl rfl rfl (c_Grid_setJoint E (d + 0) u (x9 + (5 : Int32)) v5 v7 _  hq) (Nat.le_refl _) (Nat.le_refl _) (Nat.le_refl _) (Nat.le_refl _) ?_
    show G (142, [some (.ref 1), some (.int l1), some (.int l2), some (.int v1), some (.int v3), some (.int v5), some (.int v7), some (.int x9)], [], (gShG, s21, u))
    refine gRunN_ok hG.1 1 _ (145, [some (.ref 1), some (.int l1), some (.int (l2 + 1)), some (.int v1), some (.int v3), some (.int v5), some (.int v7), some (.int x9)], [], (gShG, s21, u)) rfl ?_
    obtain ⟨x22, ex22, hP⟩ := g_let hP
    rw [← ex22]
    refine gRunN_ok hG.1 1 _ (12, [some (.ref 1), some (.int l1), some (.int x22), some (.int v1), some (.int v3), some (.int v5), some (.int v7), some (.int x9)], [], (gShG, s21, u)) rfl ?_
    refine hG.2.2.2.2.1 _ _ [some (.ref 1), some (.int l1), some (.int x22), none, none, none, none, none] _ _ ⟨rfl, ⟨rfl, ⟨rfl, trivial⟩⟩⟩ ?_
    cases hP
    exact K1 _ _ rfl
theorem l_Grid_setJoints_12 (E : gEv) (d u : Nat) {G : gFr → Prop} {vo : Option Value} {sr : gS} (hG : gClo E gDf gP1 gY9 none (gC E gDf gMs (d + 1)) (vo, (gShG, sr, u)) G) (l1 : Int32) : ∀ (n : Nat) (l2 : Int32) (σ : gS) (e : (gS)), gIter (fun z => p_Grid_setJoints_12 E l1 z.1 z.2) n (l2, σ) = some e → (∀ (σ1 : gS), e = σ1 → G (148, [some (.ref 1), some (.int l1), none, none, none, none, none, none], [], (gShG, σ1, u))) → G (12, [some (.ref 1), some (.int l1), some (.int l2), none, none, none, none, none], [], (gShG, σ, u)) := by
  intro n
  induction n with
  | zero => intro l2 σ e h; cases h
  | succ n ih =>
    intro l2 σ e h K2
    rcases g_iter h with ⟨z, h1, h2⟩ | h1
    · exact b_Grid_setJoints_12 E d u hG l1 l2 σ h1 (fun n0 n1 hz => by cases hz; exact ih _ _ e h2 K2) (fun _ hz => by cases hz)
    · exact b_Grid_setJoints_12 E d u hG l1 l2 σ h1 (fun _ _ hz => by cases hz) (fun σ1 hz => K2 σ1 (by cases hz; rfl))
def p_Grid_setJoints_2 (E : gEv) (l1 : Int32) (σ : gS) : Option ((Int32 × gS) ⊕ (gS)) :=
  if (σ.1 1 1) < l1 then (some (.inr σ)) else (gB1 (gIter (fun z => p_Grid_setJoints_12 E l1 z.1 z.2) gN (0, σ)) fun e23 => (fun s24 => gLet (l1 + 1) fun x25 => some (.inl (x25, s24))) e23)
set_option maxRecDepth 20000 in
theorem b_Grid_setJoints_2 (E : gEv) (d u : Nat) {G : gFr → Prop} {vo : Option Value} {sr : gS} (hG : gClo E gDf gP1 gY9 none (gC E gDf gMs (d + 1)) (vo, (gShG, sr, u)) G) (l1 : Int32) (σ : gS) {r : (Int32 × gS) ⊕ (gS)} (hP : p_Grid_setJoints_2 E l1 σ = some r) (K1 : ∀ (m1 : Int32) (σ1 : gS), r = .inl (m1, σ1) → G (2, [some (.ref 1), some (.int m1), none, none, none, none, none, none], [], (gShG, σ1, u))) (K2 : ∀ (σ1 : gS), r = .inr σ1 → G (154, [none, none, none, none, none, none, none, none], [], (gShG, σ1, u))) : G (2, [some (.ref 1), some (.int l1), none, none, none, none, none, none], [], (gShG, σ, u)) := by
  unfold p_Grid_setJoints_2 at hP
  refine gRunN_ok hG.1 3 _ (7, [some (.ref 1), some (.int l1), none, none, none, none, none, none], [.int (σ.1 1 1), .int l1], (gShG, σ, u)) rfl ?_
  rcases g_ite hP with ⟨hc, hP⟩ | ⟨hc, hP⟩
  · refine hG.1 _ (154, [some (.ref 1), some (.int l1), none, none, none, none, none, none], [], (gShG, σ, u)) _ rfl (if_pos hc) ?_
    refine hG.2.2.2.2.1 _ _ [none, none, none, none, none, none, none, none] _ _ trivial ?_
    cases hP
    exact K2 _ rfl
  · refine hG.1 _ (10, [some (.ref 1), some (.int l1), none, none, none, none, none, none], [], (gShG, σ, u)) _ rfl (if_neg hc) ?_
    refine gRunN_ok hG.1 2 _ (12, [some (.ref 1), some (.int l1), some (.int 0), none, none, none, none, none], [], (gShG, σ, u)) rfl ?_
    obtain ⟨e23, hq, hP⟩ := g_b1 hP
    refine l_Grid_setJoints_12 E d u hG l1 gN 0 σ _ hq (fun s24 he => ?_)
    · replace he := he.symm
      subst he
      try dsimp only [gSum] at hP
      refine gRunN_ok hG.1 1 _ (151, [some (.ref 1), some (.int (l1 + 1)), none, none, none, none, none, none], [], (gShG, s24, u)) rfl ?_
      obtain ⟨x25, ex25, hP⟩ := g_let hP
      rw [← ex25]
      refine gRunN_ok hG.1 1 _ (2, [some (.ref 1), some (.int x25), none, none, none, none, none, none], [], (gShG, s24, u)) rfl ?_
      cases hP
      exact K1 _ _ rfl
theorem l_Grid_setJoints_2 (E : gEv) (d u : Nat) {G : gFr → Prop} {vo : Option Value} {sr : gS} (hG : gClo E gDf gP1 gY9 none (gC E gDf gMs (d + 1)) (vo, (gShG, sr, u)) G) : ∀ (n : Nat) (l1 : Int32) (σ : gS) (e : (gS)), gIter (fun z => p_Grid_setJoints_2 E z.1 z.2) n (l1, σ) = some e → (∀ (σ1 : gS), e = σ1 → G (154, [none, none, none, none, none, none, none, none], [], (gShG, σ1, u))) → G (2, [some (.ref 1), some (.int l1), none, none, none, none, none, none], [], (gShG, σ, u)) := by
  intro n
  induction n with
  | zero => intro l1 σ e h; cases h
  | succ n ih =>
    intro l1 σ e h K2
    rcases g_iter h with ⟨z, h1, h2⟩ | h1
    · exact b_Grid_setJoints_2 E d u hG l1 σ h1 (fun n0 n1 hz => by cases hz; exact ih _ _ e h2 K2) (fun _ hz => by cases hz)
    · exact b_Grid_setJoints_2 E d u hG l1 σ h1 (fun _ _ hz => by cases hz) (fun σ1 hz => K2 σ1 (by cases hz; rfl))
def p_Grid_setJoints (E : gEv) (σ : gS) : Option (gS) :=
  gB1 (gIter (fun z => p_Grid_setJoints_2 E z.1 z.2) gN (0, σ)) fun e26 => (fun s27 => some s27) e26
set_option maxRecDepth 20000 in
theorem c_Grid_setJoints (E : gEv) (d u : Nat) (σ : gS) {sr : gS}  (hq : p_Grid_setJoints E σ = some sr) : gC E gDf gMs (d + 2) 9 [.ref 1] (gShG, σ, u) (none, (gShG, sr, u)) := ⟨gM9, rfl, Nat.le_of_ble_eq_true rfl, fun G hG => by
  have hP := hq
  unfold p_Grid_setJoints at hP
  replace hG : gClo E gDf gP1 gY9 none (gC E gDf gMs (d + 1)) (none, (gShG, sr, u)) G := hG
  show G (0, [some (.ref 1), none, none, none, none, none, none, none], [], (gShG, σ, u))
  refine gRunN_ok hG.1 2 _ (2, [some (.ref 1), some (.int 0), none, none, none, none, none, none], [], (gShG, σ, u)) rfl ?_
  obtain ⟨e26, hq, hP⟩ := g_b1 hP
  refine l_Grid_setJoints_2 E d u hG gN 0 σ _ hq (fun s27 he => ?_)
  · replace he := he.symm
    subst he
    try dsimp only [gSum] at hP
    cases hP
    exact hG.2.1 _ _ rfl rfl⟩
def p_Grid_setNeighbours_2 (E : gEv) (l1 : Int32) (σ : gS) : Option ((Int32 × gS) ⊕ (gS)) :=
  if (Int32.ofNat (σ.2.1 5)) ≤ l1 then (some (.inr σ)) else (if gIn l1 (σ.2.1 5) then if (σ.1 5 l1.toNatClampNeg) = ((-1) : Int32) then (gLet (l1 + 1) fun x1 => some (.inl (x1, σ))) else (if gIn l1 (σ.2.1 5) then if gIn l1 (σ.2.1 6) then gB1 (p_Grid_addNeighbour E (σ.1 5 l1.toNatClampNeg) (σ.1 6 l1.toNatClampNeg) l1 σ) fun s3 => if gIn l1 (s3.2.1 6) then if gIn l1 (s3.2.1 5) then gB1 (p_Grid_addNeighbour E (s3.1 6 l1.toNatClampNeg) (s3.1 5 l1.toNatClampNeg) l1 s3) fun s5 => gLet (l1 + 1) fun x6 => some (.inl (x6, s5)) else none else none else none else none) else none)
set_option maxRecDepth 20000 in
theorem b_Grid_setNeighbours_2 (E : gEv) (d u : Nat) {G : gFr → Prop} {vo : Option Value} {sr : gS} (hG : gClo E gDf gP1 gY11 none (gC E gDf gMs (d + 1)) (vo, (gShG, sr, u)) G) (l1 : Int32) (σ : gS) {r : (Int32 × gS) ⊕ (gS)} (hP : p_Grid_setNeighbours_2 E l1 σ = some r) (K1 : ∀ (m1 : Int32) (σ1 : gS), r = .inl (m1, σ1) → G (2, [some (.ref 1), some (.int m1)], [], (gShG, σ1, u))) (K2 : ∀ (σ1 : gS), r = .inr σ1 → G (61, [none, none], [], (gShG, σ1, u))) : G (2, [some (.ref 1), some (.int l1)], [], (gShG, σ, u)) := by
  unfold p_Grid_setNeighbours_2 at hP
  refine gRunN_ok hG.1 4 _ (8, [some (.ref 1), some (.int l1)], [.int (Int32.ofNat (σ.2.1 5)), .int l1], (gShG, σ, u)) rfl ?_
  rcases g_ite hP with ⟨hc, hP⟩ | ⟨hc, hP⟩
  · refine hG.1 _ (61, [some (.ref 1), some (.int l1)], [], (gShG, σ, u)) _ rfl (if_pos hc) ?_
    refine hG.2.2.2.2.1 _ _ [none, none] _ _ trivial ?_
    cases hP
    exact K2 _ rfl
  · refine hG.1 _ (11, [some (.ref 1), some (.int l1)], [], (gShG, σ, u)) _ rfl (if_neg hc) ?_
    refine gRunN_ok hG.1 3 _ (16, [some (.ref 1), some (.int l1)], [.int l1, .ref 5], (gShG, σ, u)) rfl ?_
    obtain ⟨hc, hP⟩ := g_if hP
    refine hG.1 _ (17, [some (.ref 1), some (.int l1)], [.int (σ.1 5 l1.toNatClampNeg)], (gShG, σ, u)) _ rfl (if_pos hc) ?_
    refine gRunN_ok hG.1 1 _ (18, [some (.ref 1), some (.int l1)], [.int (-1), .int (σ.1 5 l1.toNatClampNeg)], (gShG, σ, u)) rfl ?_
    rcases g_ite hP with ⟨hc, hP⟩ | ⟨hc, hP⟩
    · refine hG.1 _ (55, [some (.ref 1), some (.int l1)], [], (gShG, σ, u)) _ rfl (if_pos hc) ?_
      refine gRunN_ok hG.1 1 _ (58, [some (.ref 1), some (.int (l1 + 1))], [], (gShG, σ, u)) rfl ?_
      obtain ⟨x1, ex1, hP⟩ := g_let hP
      rw [← ex1]
      refine gRunN_ok hG.1 1 _ (2, [some (.ref 1), some (.int x1)], [], (gShG, σ, u)) rfl ?_
      cases hP
      exact K1 _ _ rfl
    · refine hG.1 _ (21, [some (.ref 1), some (.int l1)], [], (gShG, σ, u)) _ rfl (if_neg hc) ?_
      refine gRunN_ok hG.1 4 _ (27, [some (.ref 1), some (.int l1)], [.int l1, .ref 5, .ref 1], (gShG, σ, u)) rfl ?_
      obtain ⟨hc, hP⟩ := g_if hP
      refine hG.1 _ (28, [some (.ref 1), some (.int l1)], [.int (σ.1 5 l1.toNatClampNeg), .ref 1], (gShG, σ, u)) _ rfl (if_pos hc) ?_
      refine gRunN_ok hG.1 3 _ (33, [some (.ref 1), some (.int l1)], [.int l1, .ref 6, .int (σ.1 5 l1.toNatClampNeg), .ref 1], (gShG, σ, u)) rfl ?_
      obtain ⟨hc, hP⟩ := g_if hP
      refine hG.1 _ (34, [some (.ref 1), some (.int l1)], [.int (σ.1 6 l1.toNatClampNeg), .int (σ.1 5 l1.toNatClampNeg), .ref 1], (gShG, σ, u)) _ rfl (if_pos hc) ?_
      refine gRunN_ok hG.1 1 _ (35, [some (.ref 1), some (.int l1)], [.int l1, .int (σ.1 6 l1.toNatClampNeg), .int (σ.1 5 l1.toNatClampNeg), .ref 1], (gShG, σ, u)) rfl ?_
      obtain ⟨s3, hq, hP⟩ := g_b1 hP
      refine hG.2.2.2.1 _ _ _ [.ref 1, .int (σ.1 5 l1.toNatClampNeg), .int (σ.1 6 l1.toNatClampNeg), .int l1] [] _ (gShG, s3, u) none _ _ _ _ _ _ rfl rfl rfl rfl rfl rfl (c_Grid_addNeighbour E (d + 0) u (σ.1 5 l1.toNatClampNeg) (σ.1 6 l1.toNatClampNeg) l1 _  hq) (Nat.le_refl _) (Nat.le_refl _) (Nat.le_refl _) (Nat.le_refl _) ?_
      show G (38, [some (.ref 1), some (.int l1)], [], (gShG, s3, u))
      refine gRunN_ok hG.1 4 _ (44, [some (.ref 1), some (.int l1)], [.int l1, .ref 6, .ref 1], (gShG, s3, u)) rfl ?_
      obtain ⟨hc, hP⟩ := g_if hP
      refine hG.1 _ (45, [some (.ref 1), some (.int l1)], [.int (s3.1 6 l1.toNatClampNeg), .ref 1], (gShG, s3, u)) _ rfl (if_pos hc) ?_
      refine gRunN_ok hG.1 3 _ (50, [some (.ref 1), some (.int l1)], [.int l1, .ref 5, .int (s3.1 6 l1.toNatClampNeg), .ref 1], (gShG, s3, u)) rfl ?_
      obtain ⟨hc, hP⟩ := g_if hP
      refine hG.1 _ (51, [some (.ref 1), some (.int l1)], [.int (s3.1 5 l1.toNatClampNeg), .int (s3.1 6 l1.toNatClampNeg), .ref 1], (gShG, s3, u)) _ rfl (if_pos hc) ?_
      refine gRunN_ok hG.1 1 _ (52, [some (.ref 1), some (.int l1)], [.int l1, .int (s3.1 5 l1.toNatClampNeg), .int (s3.1 6 l1.toNatClampNeg), .ref 1], (gShG, s3, u)) rfl ?_
      obtain ⟨s5, hq, hP⟩ := g_b1 hP
      refine hG.2.2.2.1 _ _ _ [.ref 1, .int (s3.1 6 l1.toNatClampNeg), .int (s3.1 5 l1.toNatClampNeg), .int l1] [] _ (gShG, s5, u) none _ _ _ _ _ _ rfl rfl rfl rfl rfl rfl (c_Grid_addNeighbour E (d + 0) u (s3.1 6 l1.toNatClampNeg) (s3.1 5 l1.toNatClampNeg) l1 _  hq) (Nat.le_refl _) (Nat.le_refl _) (Nat.le_refl _) (Nat.le_refl _) ?_
      show G (55, [some (.ref 1), some (.int l1)], [], (gShG, s5, u))
      refine gRunN_ok hG.1 1 _ (58, [some (.ref 1), some (.int (l1 + 1))], [], (gShG, s5, u)) rfl ?_
      obtain ⟨x6, ex6, hP⟩ := g_let hP
      rw [← ex6]
      refine gRunN_ok hG.1 1 _ (2, [some (.ref 1), some (.int x6)], [], (gShG, s5, u)) rfl ?_
      cases hP
      exact K1 _ _ rfl
theorem l_Grid_setNeighbours_2 (E : gEv) (d u : Nat) {G : gFr → Prop} {vo : Option Value} {sr : gS} (hG : gClo E gDf gP1 gY11 none (gC E gDf gMs (d + 1)) (vo, (gShG, sr, u)) G) : ∀ (n : Nat) (l1 : Int32) (σ : gS) (e : (gS)), gIter (fun z => p_Grid_setNeighbours_2 E z.1 z.2) n (l1, σ) = some e → (∀ (σ1 : gS), e = σ1 → G (61, [none, none], [], (gShG, σ1, u))) → G (2, [some (.ref 1), some (.int l1)], [], (gShG, σ, u)) := by
  intro n
  induction n with
  | zero => intro l1 σ e h; cases h
  | succ n ih =>
    intro l1 σ e h K2
    rcases g_iter h with ⟨z, h1, h2⟩ | h1
    · exact b_Grid_setNeighbours_2 E d u hG l1 σ h1 (fun n0 n1 hz => by cases hz; exact ih _ _ e h2 K2) (fun _ hz => by cases hz)
    · exact b_Grid_setNeighbours_2 E d u hG l1 σ h1 (fun _ _ hz => by cases hz) (fun σ1 hz => K2 σ1 (by cases hz; rfl))
def p_Grid_setNeighbours (E : gEv) (σ : gS) : Option (gS) :=
  gB1 (gIter (fun z => p_Grid_setNeighbours_2 E z.1 z.2) gN (0, σ)) fun e7 => (fun s8 => some s8) e7
set_option maxRecDepth 20000 in
theorem c_Grid_setNeighbours (E : gEv) (d u : Nat) (σ : gS) {sr : gS}  (hq : p_Grid_setNeighbours E σ = some sr) : gC E gDf gMs (d + 2) 11 [.ref 1] (gShG, σ, u) (none, (gShG, sr, u)) := ⟨gM11, rfl, Nat.le_of_ble_eq_true rfl, fun G hG => by
  have hP := hq
  unfold p_Grid_setNeighbours at hP
  replace hG : gClo E gDf gP1 gY11 none (gC E gDf gMs (d + 1)) (none, (gShG, sr, u)) G := hG
  show G (0, [some (.ref 1), none], [], (gShG, σ, u))
  refine gRunN_ok hG.1 2 _ (2, [some (.ref 1), some (.int 0)], [], (gShG, σ, u)) rfl ?_
  obtain ⟨e7, hq, hP⟩ := g_b1 hP
  refine l_Grid_setNeighbours_2 E d u hG gN 0 σ _ hq (fun s8 he => ?_)
  · replace he := he.symm
    subst he
    try dsimp only [gSum] at hP
    cases hP
    exact hG.2.1 _ _ rfl rfl⟩
def p_Face_feed (E : gEv) (a0 : Int32) (a1 : Int32) (a2 : Int32) (a3 : Int32) (a4 : Int32) (σ : gS) : Option (gS) :=
  gB1 (p_Text_putReady E 0 a0 σ) fun s2 => gB1 (p_Text_putReady E 4 a1 s2) fun s4 => gB1 (p_Text_putReady E 8 a2 s4) fun s6 => gB1 (p_Text_putReady E 12 a3 s6) fun s8 => gB1 (p_Text_putReady E 16 a4 s8) fun s10 => some s10
set_option maxRecDepth 20000 in
theorem c_Face_feed (E : gEv) (d u : Nat) (a0 : Int32) (a1 : Int32) (a2 : Int32) (a3 : Int32) (a4 : Int32) (σ : gS) {sr : gS}  (hq : p_Face_feed E a0 a1 a2 a3 a4 σ = some sr) : gC E gDf gMs (d + 2) 23 [.ref 0, .int a0, .int a1, .int a2, .int a3, .int a4] (gSh, σ, u) (none, (gSh, sr, u)) := ⟨gM23, rfl, Nat.le_of_ble_eq_true rfl, fun G hG => by
  have hP := hq
  unfold p_Face_feed at hP
  replace hG : gClo E gDf gP0 gY23 none (gC E gDf gMs (d + 1)) (none, (gSh, sr, u)) G := hG
  show G (0, [some (.ref 0), some (.int a0), some (.int a1), some (.int a2), some (.int a3), some (.int a4)], [], (gSh, σ, u))
  refine gRunN_ok hG.1 4 _ (6, [some (.ref 0), some (.int a0), some (.int a1), some (.int a2), some (.int a3), some (.int a4)], [.int a0, .int 0, .ref 10], (gSh, σ, u)) rfl ?_
  obtain ⟨s2, hq, hP⟩ := g_b1 hP
  refine hG.2.2.2.1 _ _ _ [.ref 10, .int 0, .int a0] [] _ (gSh, s2, u) none _ _ _ _ _ _ rfl rfl rfl rfl rfl rfl (c_Text_putReady E (d + 0) u 0 a0 _  hq) (Nat.le_refl _) (Nat.le_refl _) (Nat.le_refl _) (Nat.le_refl _) ?_
  show G (9, [some (.ref 0), some (.int a0), some (.int a1), some (.int a2), some (.int a3), some (.int a4)], [], (gSh, s2, u))
  refine gRunN_ok hG.1 4 _ (15, [some (.ref 0), some (.int a0), some (.int a1), some (.int a2), some (.int a3), some (.int a4)], [.int a1, .int 4, .ref 10], (gSh, s2, u)) rfl ?_
  obtain ⟨s4, hq, hP⟩ := g_b1 hP
  refine hG.2.2.2.1 _ _ _ [.ref 10, .int 4, .int a1] [] _ (gSh, s4, u) none _ _ _ _ _ _ rfl rfl rfl rfl rfl rfl (c_Text_putReady E (d + 0) u 4 a1 _  hq) (Nat.le_refl _) (Nat.le_refl _) (Nat.le_refl _) (Nat.le_refl _) ?_
  show G (18, [some (.ref 0), some (.int a0), some (.int a1), some (.int a2), some (.int a3), some (.int a4)], [], (gSh, s4, u))
  refine gRunN_ok hG.1 4 _ (25, [some (.ref 0), some (.int a0), some (.int a1), some (.int a2), some (.int a3), some (.int a4)], [.int a2, .int 8, .ref 10], (gSh, s4, u)) rfl ?_
  obtain ⟨s6, hq, hP⟩ := g_b1 hP
  refine hG.2.2.2.1 _ _ _ [.ref 10, .int 8, .int a2] [] _ (gSh, s6, u) none _ _ _ _ _ _ rfl rfl rfl rfl rfl rfl (c_Text_putReady E (d + 0) u 8 a2 _  hq) (Nat.le_refl _) (Nat.le_refl _) (Nat.le_refl _) (Nat.le_refl _) ?_
  show G (28, [some (.ref 0), some (.int a0), some (.int a1), some (.int a2), some (.int a3), some (.int a4)], [], (gSh, s6, u))
  refine gRunN_ok hG.1 4 _ (36, [some (.ref 0), some (.int a0), some (.int a1), some (.int a2), some (.int a3), some (.int a4)], [.int a3, .int 12, .ref 10], (gSh, s6, u)) rfl ?_
  obtain ⟨s8, hq, hP⟩ := g_b1 hP
  refine hG.2.2.2.1 _ _ _ [.ref 10, .int 12, .int a3] [] _ (gSh, s8, u) none _ _ _ _ _ _ rfl rfl rfl rfl rfl rfl (c_Text_putReady E (d + 0) u 12 a3 _  hq) (Nat.le_refl _) (Nat.le_refl _) (Nat.le_refl _) (Nat.le_refl _) ?_
  show G (39, [some (.ref 0), some (.int a0), some (.int a1), some (.int a2), some (.int a3), some (.int a4)], [], (gSh, s8, u))
  refine gRunN_ok hG.1 4 _ (47, [some (.ref 0), some (.int a0), some (.int a1), some (.int a2), some (.int a3), some (.int a4)], [.int a4, .int 16, .ref 10], (gSh, s8, u)) rfl ?_
  obtain ⟨s10, hq, hP⟩ := g_b1 hP
  refine hG.2.2.2.1 _ _ _ [.ref 10, .int 16, .int a4] [] _ (gSh, s10, u) none _ _ _ _ _ _ rfl rfl rfl rfl rfl rfl (c_Text_putReady E (d + 0) u 16 a4 _  hq) (Nat.le_refl _) (Nat.le_refl _) (Nat.le_refl _) (Nat.le_refl _) ?_
  show G (50, [some (.ref 0), some (.int a0), some (.int a1), some (.int a2), some (.int a3), some (.int a4)], [], (gSh, s10, u))
  cases hP
  exact hG.2.1 _ _ rfl rfl⟩
def p_Text_takeReady_26 (E : gEv) (l1 : Int32) (l2 : Int32) (σ : gS) : Option ((Int32) ⊕ ((Unit) ⊕ (Unit))) :=
  if l1 ≤ l2 then (some (.inr (.inr ()))) else (if gIn l2 (σ.2.1 12) then gLet (σ.1 12 l2.toNatClampNeg) fun x1 => if x1 = (9 : Int32) then (gLet (l2 + 1) fun x2 => some (.inl x2)) else (if x1 = (10 : Int32) then (gLet (l2 + 1) fun x3 => some (.inl x3)) else (if x1 < (32 : Int32) then (some (.inr (.inl ()))) else (if x1 ≤ (126 : Int32) then (gLet (l2 + 1) fun x4 => some (.inl x4)) else (some (.inr (.inl ())))))) else none)
set_option maxRecDepth 20000 in
theorem b_Text_takeReady_26 (E : gEv) (d u : Nat) {G : gFr → Prop} {vo : Option Value} {sr : gS} (hG : gClo E gDf gP3 gY26 (some .int) (gC E gDf gMs (d + 1)) (vo, (gSh, sr, u)) G) (l1 : Int32) (l2 : Int32) (σ : gS) {r : (Int32) ⊕ ((Unit) ⊕ (Unit))} (hP : p_Text_takeReady_26 E l1 l2 σ = some r) (K1 : ∀ (m2 : Int32), r = .inl m2 → G (26, [some (.ref 10), some (.int l1), some (.int m2), none], [], (gSh, σ, u))) (K2 : r = .inr (.inl ()) → G (62, [none, none, none, none], [], (gSh, σ, u))) (K3 : r = .inr (.inr ()) → G (70, [some (.ref 10), some (.int l1), none, none], [], (gSh, σ, u))) : G (26, [some (.ref 10), some (.int l1), some (.int l2), none], [], (gSh, σ, u)) := by
  unfold p_Text_takeReady_26 at hP
  refine gRunN_ok hG.1 2 _ (28, [some (.ref 10), some (.int l1), some (.int l2), none], [.int l1, .int l2], (gSh, σ, u)) rfl ?_
  rcases g_ite hP with ⟨hc, hP⟩ | ⟨hc, hP⟩
  · refine hG.1 _ (70, [some (.ref 10), some (.int l1), some (.int l2), none], [], (gSh, σ, u)) _ rfl (if_pos hc) ?_
    refine hG.2.2.2.2.1 _ _ [some (.ref 10), some (.int l1), none, none] _ _ ⟨rfl, ⟨rfl, trivial⟩⟩ ?_
    cases hP
    exact K3 rfl
  · refine hG.1 _ (31, [some (.ref 10), some (.int l1), some (.int l2), none], [], (gSh, σ, u)) _ rfl (if_neg hc) ?_
    refine gRunN_ok hG.1 3 _ (36, [some (.ref 10), some (.int l1), some (.int l2), none], [.int l2, .ref 12], (gSh, σ, u)) rfl ?_
    obtain ⟨hc, hP⟩ := g_if hP
    refine hG.1 _ (37, [some (.ref 10), some (.int l1), some (.int l2), none], [.int (σ.1 12 l2.toNatClampNeg)], (gSh, σ, u)) _ rfl (if_pos hc) ?_
    refine gRunN_ok hG.1 1 _ (38, [some (.ref 10), some (.int l1), some (.int l2), some (.int (σ.1 12 l2.toNatClampNeg))], [], (gSh, σ, u)) rfl ?_
    obtain ⟨x1, ex1, hP⟩ := g_let hP
    rw [← ex1]
    refine gRunN_ok hG.1 2 _ (41, [some (.ref 10), some (.int l1), some (.int l2), some (.int x1)], [.int 9, .int x1], (gSh, σ, u)) rfl ?_
    rcases g_ite hP with ⟨hc, hP⟩ | ⟨hc, hP⟩
    · refine hG.1 _ (64, [some (.ref 10), some (.int l1), some (.int l2), some (.int x1)], [], (gSh, σ, u)) _ rfl (if_pos hc) ?_
      refine gRunN_ok hG.1 1 _ (67, [some (.ref 10), some (.int l1), some (.int (l2 + 1)), some (.int x1)], [], (gSh, σ, u)) rfl ?_
      obtain ⟨x2, ex2, hP⟩ := g_let hP
      rw [← ex2]
      refine gRunN_ok hG.1 1 _ (26, [some (.ref 10), some (.int l1), some (.int x2), some (.int x1)], [], (gSh, σ, u)) rfl ?_
      refine hG.2.2.2.2.1 _ _ [some (.ref 10), some (.int l1), some (.int x2), none] _ _ ⟨rfl, ⟨rfl, ⟨rfl, trivial⟩⟩⟩ ?_
      cases hP
      exact K1 _ rfl
    · refine hG.1 _ (44, [some (.ref 10), some (.int l1), some (.int l2), some (.int x1)], [], (gSh, σ, u)) _ rfl (if_neg hc) ?_
      refine gRunN_ok hG.1 2 _ (47, [some (.ref 10), some (.int l1), some (.int l2), some (.int x1)], [.int 10, .int x1], (gSh, σ, u)) rfl ?_
      rcases g_ite hP with ⟨hc, hP⟩ | ⟨hc, hP⟩
      · refine hG.1 _ (64, [some (.ref 10), some (.int l1), some (.int l2), some (.int x1)], [], (gSh, σ, u)) _ rfl (if_pos hc) ?_
        refine gRunN_ok hG.1 1 _ (67, [some (.ref 10), some (.int l1), some (.int (l2 + 1)), some (.int x1)], [], (gSh, σ, u)) rfl ?_
        obtain ⟨x3, ex3, hP⟩ := g_let hP
        rw [← ex3]
        refine gRunN_ok hG.1 1 _ (26, [some (.ref 10), some (.int l1), some (.int x3), some (.int x1)], [], (gSh, σ, u)) rfl ?_
        refine hG.2.2.2.2.1 _ _ [some (.ref 10), some (.int l1), some (.int x3), none] _ _ ⟨rfl, ⟨rfl, ⟨rfl, trivial⟩⟩⟩ ?_
        cases hP
        exact K1 _ rfl
      · refine hG.1 _ (50, [some (.ref 10), some (.int l1), some (.int l2), some (.int x1)], [], (gSh, σ, u)) _ rfl (if_neg hc) ?_
        refine gRunN_ok hG.1 2 _ (53, [some (.ref 10), some (.int l1), some (.int l2), some (.int x1)], [.int 32, .int x1], (gSh, σ, u)) rfl ?_
        rcases g_ite hP with ⟨hc, hP⟩ | ⟨hc, hP⟩
        · refine hG.1 _ (62, [some (.ref 10), some (.int l1), some (.int l2), some (.int x1)], [], (gSh, σ, u)) _ rfl (if_pos hc) ?_
          refine hG.2.2.2.2.1 _ _ [none, none, none, none] _ _ trivial ?_
          cases hP
          exact K2 rfl
        · refine hG.1 _ (56, [some (.ref 10), some (.int l1), some (.int l2), some (.int x1)], [], (gSh, σ, u)) _ rfl (if_neg hc) ?_
          refine gRunN_ok hG.1 2 _ (59, [some (.ref 10), some (.int l1), some (.int l2), some (.int x1)], [.int 126, .int x1], (gSh, σ, u)) rfl ?_
          rcases g_ite hP with ⟨hc, hP⟩ | ⟨hc, hP⟩
          · refine hG.1 _ (64, [some (.ref 10), some (.int l1), some (.int l2), some (.int x1)], [], (gSh, σ, u)) _ rfl (if_pos hc) ?_
            refine gRunN_ok hG.1 1 _ (67, [some (.ref 10), some (.int l1), some (.int (l2 + 1)), some (.int x1)], [], (gSh, σ, u)) rfl ?_
            obtain ⟨x4, ex4, hP⟩ := g_let hP
            rw [← ex4]
            refine gRunN_ok hG.1 1 _ (26, [some (.ref 10), some (.int l1), some (.int x4), some (.int x1)], [], (gSh, σ, u)) rfl ?_
            refine hG.2.2.2.2.1 _ _ [some (.ref 10), some (.int l1), some (.int x4), none] _ _ ⟨rfl, ⟨rfl, ⟨rfl, trivial⟩⟩⟩ ?_
            cases hP
            exact K1 _ rfl
          · refine hG.1 _ (62, [some (.ref 10), some (.int l1), some (.int l2), some (.int x1)], [], (gSh, σ, u)) _ rfl (if_neg hc) ?_
            refine hG.2.2.2.2.1 _ _ [none, none, none, none] _ _ trivial ?_
            cases hP
            exact K2 rfl
theorem l_Text_takeReady_26 (E : gEv) (d u : Nat) {G : gFr → Prop} {vo : Option Value} {sr : gS} (hG : gClo E gDf gP3 gY26 (some .int) (gC E gDf gMs (d + 1)) (vo, (gSh, sr, u)) G) (l1 : Int32) (σ : gS) : ∀ (n : Nat) (l2 : Int32) (e : ((Unit) ⊕ (Unit))), gIter (fun z => p_Text_takeReady_26 E l1 z σ) n l2 = some e → ( e = (.inl ()) → G (62, [none, none, none, none], [], (gSh, σ, u))) → ( e = (.inr ()) → G (70, [some (.ref 10), some (.int l1), none, none], [], (gSh, σ, u))) → G (26, [some (.ref 10), some (.int l1), some (.int l2), none], [], (gSh, σ, u)) := by
  intro n
  induction n with
  | zero => intro l2 e h; cases h
  | succ n ih =>
    intro l2 e h K2 K3
    rcases g_iter h with ⟨z, h1, h2⟩ | h1
    · exact b_Text_takeReady_26 E d u hG l1 l2 σ h1 (fun n0 hz => by cases hz; exact ih _ e h2 K2 K3) (fun  hz => by cases hz) (fun  hz => by cases hz)
    · exact b_Text_takeReady_26 E d u hG l1 l2 σ h1 (fun _ hz => by cases hz) (fun  hz => K2  (by cases hz; rfl)) (fun  hz => K3  (by cases hz; rfl))
def p_Text_takeReady (E : gEv) (a0 : Int32) (σ : gS) : Option (Int32 × gS) :=
  if a0 < 0 then (some ((-1), σ)) else (if (20 : Int32) < a0 then (some ((-1), σ)) else (if ((σ.1 10 2) + a0) ≤ (4000 : Int32) then (gB1 (gIter (fun z => p_Text_takeReady_26 E a0 z σ) gN 0) fun e5 => gSum e5 (fun e10 => some ((-1), σ)) (fun e11 => if (¬ (0 : Int32) < 0 ∧ ¬ (σ.1 10 2) < 0 ∧ ¬ a0 < 0 ∧ (0 : Int32).toNatClampNeg + a0.toNatClampNeg ≤ σ.2.1 12 ∧ (σ.1 10 2).toNatClampNeg + a0.toNatClampNeg ≤ σ.2.1 11) ∧ ∀ i, i < a0.toNatClampNeg → fits .byte (.int (σ.1 12 ((0 : Int32).toNatClampNeg + i))) = true then gLet (gRow σ 11 (va_cpy (σ.1 12) (σ.1 11) (0 : Int32).toNatClampNeg (σ.1 10 2).toNatClampNeg a0.toNatClampNeg)) fun s6 => gLet (gPut s6 10 2 ((s6.1 10 2) + a0)) fun s7 => gB1 (p_Arrays_fillB E 12 0 s7) fun s9 => some (s9.1 10 2, s9) else none)) else (some ((-1), σ))))
set_option maxRecDepth 20000 in
theorem c_Text_takeReady (E : gEv) (d u : Nat) (a0 : Int32) (σ : gS) {v : Int32} {sr : gS}  (hq : p_Text_takeReady E a0 σ = some (v, sr)) : gC E gDf gMs (d + 2) 26 [.ref 10, .int a0] (gSh, σ, u) (some (.int v), (gSh, sr, u)) := ⟨gM26, rfl, Nat.le_of_ble_eq_true rfl, fun G hG => by
  have hP := hq
  unfold p_Text_takeReady at hP
  replace hG : gClo E gDf gP3 gY26 (some .int) (gC E gDf gMs (d + 1)) (some (.int v), (gSh, sr, u)) G := hG
  show G (0, [some (.ref 10), some (.int a0), none, none], [], (gSh, σ, u))
  refine gRunN_ok hG.1 1 _ (1, [some (.ref 10), some (.int a0), none, none], [.int a0], (gSh, σ, u)) rfl ?_
  rcases g_ite hP with ⟨hc, hP⟩ | ⟨hc, hP⟩
  · refine hG.1 _ (22, [some (.ref 10), some (.int a0), none, none], [], (gSh, σ, u)) _ rfl (if_pos hc) ?_
    refine gRunN_ok hG.1 1 _ (23, [some (.ref 10), some (.int a0), none, none], [.int (-1)], (gSh, σ, u)) rfl ?_
    cases hP
    exact hG.2.1 _ _ rfl rfl
  · refine hG.1 _ (4, [some (.ref 10), some (.int a0), none, none], [], (gSh, σ, u)) _ rfl (if_neg hc) ?_
    refine gRunN_ok hG.1 2 _ (7, [some (.ref 10), some (.int a0), none, none], [.int 20, .int a0], (gSh, σ, u)) rfl ?_
    rcases g_ite hP with ⟨hc, hP⟩ | ⟨hc, hP⟩
    · refine hG.1 _ (22, [some (.ref 10), some (.int a0), none, none], [], (gSh, σ, u)) _ rfl (if_pos hc) ?_
      refine gRunN_ok hG.1 1 _ (23, [some (.ref 10), some (.int a0), none, none], [.int (-1)], (gSh, σ, u)) rfl ?_
      cases hP
      exact hG.2.1 _ _ rfl rfl
    · refine hG.1 _ (10, [some (.ref 10), some (.int a0), none, none], [], (gSh, σ, u)) _ rfl (if_neg hc) ?_
      refine gRunN_ok hG.1 5 _ (19, [some (.ref 10), some (.int a0), none, none], [.int 4000, .int ((σ.1 10 2) + a0)], (gSh, σ, u)) rfl ?_
      rcases g_ite hP with ⟨hc, hP⟩ | ⟨hc, hP⟩
      · refine hG.1 _ (24, [some (.ref 10), some (.int a0), none, none], [], (gSh, σ, u)) _ rfl (if_pos hc) ?_
        refine gRunN_ok hG.1 2 _ (26, [some (.ref 10), some (.int a0), some (.int 0), none], [], (gSh, σ, u)) rfl ?_
        obtain ⟨e5, hq, hP⟩ := g_b1 hP
        refine l_Text_takeReady_26 E d u hG a0 σ gN 0 _ hq (fun  he => ?_) (fun  he => ?_)
        · subst he
          try dsimp only [gSum] at hP
          refine gRunN_ok hG.1 1 _ (63, [none, none, none, none], [.int (-1)], (gSh, σ, u)) rfl ?_
          cases hP
          exact hG.2.1 _ _ rfl rfl
        · subst he
          try dsimp only [gSum] at hP
          refine gRunN_ok hG.1 8 _ (84, [some (.ref 10), some (.int a0), none, none], [.int a0, .int (σ.1 10 2), .ref 11, .int 0, .ref 12], (gSh, σ, u)) rfl ?_
          obtain ⟨hc, hP⟩ := g_if hP
          refine hG.1 _ (87, [some (.ref 10), some (.int a0), none, none], [], (gSh, (gRow σ 11 (va_cpy (σ.1 12) (σ.1 11) (0 : Int32).toNatClampNeg (σ.1 10 2).toNatClampNeg a0.toNatClampNeg)), u)) _ rfl (if_pos hc) ?_
          obtain ⟨s6, es6, hP⟩ := g_let hP
          rw [← es6]
          refine gRunN_ok hG.1 6 _ (97, [some (.ref 10), some (.int a0), none, none], [], (gSh, (gPut s6 10 2 ((s6.1 10 2) + a0)), u)) rfl ?_
          obtain ⟨s7, es7, hP⟩ := g_let hP
          rw [← es7]
          refine gRunN_ok hG.1 3 _ (102, [some (.ref 10), some (.int a0), none, none], [.int 0, .ref 12], (gSh, s7, u)) rfl ?_
          obtain ⟨s9, hq, hP⟩ := g_b1 hP
          refine hG.2.2.2.1 _ _ _ [.ref 12, .int 0] [] _ (gSh, s9, u) none _ _ _ _ _ _ rfl rfl rfl rfl rfl rfl (c_Arrays_fillB E (d + 0) u 12 0 _ rfl hq) (Nat.le_refl _) (Nat.le_refl _) (Nat.le_refl _) (Nat.le_refl _) ?_
          show G (105, [some (.ref 10), some (.int a0), none, none], [], (gSh, s9, u))
          refine gRunN_ok hG.1 2 _ (109, [some (.ref 10), some (.int a0), none, none], [.int (s9.1 10 2)], (gSh, s9, u)) rfl ?_
          cases hP
          exact hG.2.1 _ _ rfl rfl
      · refine hG.1 _ (22, [some (.ref 10), some (.int a0), none, none], [], (gSh, σ, u)) _ rfl (if_neg hc) ?_
        refine gRunN_ok hG.1 1 _ (23, [some (.ref 10), some (.int a0), none, none], [.int (-1)], (gSh, σ, u)) rfl ?_
        cases hP
        exact hG.2.1 _ _ rfl rfl⟩
def p_Circuit_clear (E : gEv) (σ : gS) : Option (gS) :=
  gLet (gPut σ 30 10 0) fun s1 => gLet (gPut s1 30 11 0) fun s2 => gLet (gPut s2 30 12 0) fun s3 => gLet (gPut s3 30 13 0) fun s4 => gLet (gPut s4 30 14 0) fun s5 => gLet (gPut s5 30 15 0) fun s6 => gB1 (p_Arrays_fillI E 38 0 s6) fun s8 => some s8
set_option maxRecDepth 20000 in
theorem c_Circuit_clear (E : gEv) (d u : Nat) (σ : gS) {sr : gS}  (hq : p_Circuit_clear E σ = some sr) : gC E gDf gMs (d + 2) 31 [.ref 30] (gSh, σ, u) (none, (gSh, sr, u)) := ⟨gM31, rfl, Nat.le_of_ble_eq_true rfl, fun G hG => by
  have hP := hq
  unfold p_Circuit_clear at hP
  replace hG : gClo E gDf gP6 gY31 none (gC E gDf gMs (d + 1)) (none, (gSh, sr, u)) G := hG
  show G (0, [some (.ref 30)], [], (gSh, σ, u))
  refine gRunN_ok hG.1 3 _ (5, [some (.ref 30)], [], (gSh, (gPut σ 30 10 0), u)) rfl ?_
  obtain ⟨s1, es1, hP⟩ := g_let hP
  rw [← es1]
  refine gRunN_ok hG.1 3 _ (10, [some (.ref 30)], [], (gSh, (gPut s1 30 11 0), u)) rfl ?_
  obtain ⟨s2, es2, hP⟩ := g_let hP
  rw [← es2]
  refine gRunN_ok hG.1 3 _ (15, [some (.ref 30)], [], (gSh, (gPut s2 30 12 0), u)) rfl ?_
  obtain ⟨s3, es3, hP⟩ := g_let hP
  rw [← es3]
  refine gRunN_ok hG.1 3 _ (20, [some (.ref 30)], [], (gSh, (gPut s3 30 13 0), u)) rfl ?_
  obtain ⟨s4, es4, hP⟩ := g_let hP
  rw [← es4]
  refine gRunN_ok hG.1 3 _ (25, [some (.ref 30)], [], (gSh, (gPut s4 30 14 0), u)) rfl ?_
  obtain ⟨s5, es5, hP⟩ := g_let hP
  rw [← es5]
  refine gRunN_ok hG.1 3 _ (30, [some (.ref 30)], [], (gSh, (gPut s5 30 15 0), u)) rfl ?_
  obtain ⟨s6, es6, hP⟩ := g_let hP
  rw [← es6]
  refine gRunN_ok hG.1 3 _ (35, [some (.ref 30)], [.int 0, .ref 38], (gSh, s6, u)) rfl ?_
  obtain ⟨s8, hq, hP⟩ := g_b1 hP
  refine hG.2.2.2.1 _ _ _ [.ref 38, .int 0] [] _ (gSh, s8, u) none _ _ _ _ _ _ rfl rfl rfl rfl rfl rfl (c_Arrays_fillI E (d + 0) u 38 0 _ rfl hq) (Nat.le_refl _) (Nat.le_refl _) (Nat.le_refl _) (Nat.le_refl _) ?_
  show G (38, [some (.ref 30)], [], (gSh, s8, u))
  cases hP
  exact hG.2.1 _ _ rfl rfl⟩
def p_Placing_clear (E : gEv) (σ : gS) : Option (gS) :=
  gB1 (p_Arrays_fillI E 68 (-1) σ) fun s2 => gLet (gPut s2 67 4 0) fun s3 => some s3
set_option maxRecDepth 20000 in
theorem c_Placing_clear (E : gEv) (d u : Nat) (σ : gS) {sr : gS}  (hq : p_Placing_clear E σ = some sr) : gC E gDf gMs (d + 2) 33 [.ref 67] (gSh, σ, u) (none, (gSh, sr, u)) := ⟨gM33, rfl, Nat.le_of_ble_eq_true rfl, fun G hG => by
  have hP := hq
  unfold p_Placing_clear at hP
  replace hG : gClo E gDf gP9 gY33 none (gC E gDf gMs (d + 1)) (none, (gSh, sr, u)) G := hG
  show G (0, [some (.ref 67)], [], (gSh, σ, u))
  refine gRunN_ok hG.1 3 _ (5, [some (.ref 67)], [.int (-1), .ref 68], (gSh, σ, u)) rfl ?_
  obtain ⟨s2, hq, hP⟩ := g_b1 hP
  refine hG.2.2.2.1 _ _ _ [.ref 68, .int (-1)] [] _ (gSh, s2, u) none _ _ _ _ _ _ rfl rfl rfl rfl rfl rfl (c_Arrays_fillI E (d + 0) u 68 (-1) _ rfl hq) (Nat.le_refl _) (Nat.le_refl _) (Nat.le_refl _) (Nat.le_refl _) ?_
  show G (8, [some (.ref 67)], [], (gSh, s2, u))
  refine gRunN_ok hG.1 3 _ (13, [some (.ref 67)], [], (gSh, (gPut s2 67 4 0), u)) rfl ?_
  obtain ⟨s3, es3, hP⟩ := g_let hP
  rw [← es3]
  cases hP
  exact hG.2.1 _ _ rfl rfl⟩
def p_Gates_clear (E : gEv) (σ : gS) : Option (gS) :=
  gLet (gPut σ 13 8 0) fun s1 => gB1 (p_Arrays_fillI E 18 (-1) s1) fun s3 => gB1 (p_Arrays_fillI E 19 0 s3) fun s5 => gB1 (p_Arrays_fillI E 20 (-1) s5) fun s7 => some s7
set_option maxRecDepth 20000 in
theorem c_Gates_clear (E : gEv) (d u : Nat) (σ : gS) {sr : gS}  (hq : p_Gates_clear E σ = some sr) : gC E gDf gMs (d + 2) 37 [.ref 13] (gSh, σ, u) (none, (gSh, sr, u)) := ⟨gM37, rfl, Nat.le_of_ble_eq_true rfl, fun G hG => by
  have hP := hq
  unfold p_Gates_clear at hP
  replace hG : gClo E gDf gP4 gY37 none (gC E gDf gMs (d + 1)) (none, (gSh, sr, u)) G := hG
  show G (0, [some (.ref 13)], [], (gSh, σ, u))
  refine gRunN_ok hG.1 3 _ (5, [some (.ref 13)], [], (gSh, (gPut σ 13 8 0), u)) rfl ?_
  obtain ⟨s1, es1, hP⟩ := g_let hP
  rw [← es1]
  refine gRunN_ok hG.1 3 _ (10, [some (.ref 13)], [.int (-1), .ref 18], (gSh, s1, u)) rfl ?_
  obtain ⟨s3, hq, hP⟩ := g_b1 hP
  refine hG.2.2.2.1 _ _ _ [.ref 18, .int (-1)] [] _ (gSh, s3, u) none _ _ _ _ _ _ rfl rfl rfl rfl rfl rfl (c_Arrays_fillI E (d + 0) u 18 (-1) _ rfl hq) (Nat.le_refl _) (Nat.le_refl _) (Nat.le_refl _) (Nat.le_refl _) ?_
  show G (13, [some (.ref 13)], [], (gSh, s3, u))
  refine gRunN_ok hG.1 3 _ (18, [some (.ref 13)], [.int 0, .ref 19], (gSh, s3, u)) rfl ?_
  obtain ⟨s5, hq, hP⟩ := g_b1 hP
  refine hG.2.2.2.1 _ _ _ [.ref 19, .int 0] [] _ (gSh, s5, u) none _ _ _ _ _ _ rfl rfl rfl rfl rfl rfl (c_Arrays_fillI E (d + 0) u 19 0 _ rfl hq) (Nat.le_refl _) (Nat.le_refl _) (Nat.le_refl _) (Nat.le_refl _) ?_
  show G (21, [some (.ref 13)], [], (gSh, s5, u))
  refine gRunN_ok hG.1 3 _ (26, [some (.ref 13)], [.int (-1), .ref 20], (gSh, s5, u)) rfl ?_
  obtain ⟨s7, hq, hP⟩ := g_b1 hP
  refine hG.2.2.2.1 _ _ _ [.ref 20, .int (-1)] [] _ (gSh, s7, u) none _ _ _ _ _ _ rfl rfl rfl rfl rfl rfl (c_Arrays_fillI E (d + 0) u 20 (-1) _ rfl hq) (Nat.le_refl _) (Nat.le_refl _) (Nat.le_refl _) (Nat.le_refl _) ?_
  show G (29, [some (.ref 13)], [], (gSh, s7, u))
  cases hP
  exact hG.2.1 _ _ rfl rfl⟩
def p_Text_nextWord_0 (E : gEv) (σ : gS) : Option ((gS) ⊕ (gS)) :=
  if (σ.1 10 3) ≤ (σ.1 10 4) then (some (.inr σ)) else (if gIn (σ.1 10 4) (σ.2.1 11) then gB1 (p_Text_isBlank E (σ.1 11 (σ.1 10 4).toNatClampNeg) σ) fun v1 => if v1 = 0 then (some (.inr σ)) else (gLet (gPut σ 10 4 ((σ.1 10 4) + (1 : Int32))) fun s3 => some (.inl s3)) else none)
set_option maxRecDepth 20000 in
theorem b_Text_nextWord_0 (E : gEv) (d u : Nat) {G : gFr → Prop} {vo : Option Value} {sr : gS} (hG : gClo E gDf gP3 gY39 (some .boolean) (gC E gDf gMs (d + 1)) (vo, (gSh, sr, u)) G) (σ : gS) {r : (gS) ⊕ (gS)} (hP : p_Text_nextWord_0 E σ = some r) (K1 : ∀ (σ1 : gS), r = .inl σ1 → G (0, [some (.ref 10)], [], (gSh, σ1, u))) (K2 : ∀ (σ1 : gS), r = .inr σ1 → G (39, [some (.ref 10)], [], (gSh, σ1, u))) : G (0, [some (.ref 10)], [], (gSh, σ, u)) := by
  unfold p_Text_nextWord_0 at hP
  refine gRunN_ok hG.1 4 _ (8, [some (.ref 10)], [.int (σ.1 10 3), .int (σ.1 10 4)], (gSh, σ, u)) rfl ?_
  rcases g_ite hP with ⟨hc, hP⟩ | ⟨hc, hP⟩
  · refine hG.1 _ (39, [some (.ref 10)], [], (gSh, σ, u)) _ rfl (if_pos hc) ?_
    cases hP
    exact K2 _ rfl
  · refine hG.1 _ (11, [some (.ref 10)], [], (gSh, σ, u)) _ rfl (if_neg hc) ?_
    refine gRunN_ok hG.1 4 _ (19, [some (.ref 10)], [.int (σ.1 10 4), .ref 11], (gSh, σ, u)) rfl ?_
    obtain ⟨hc, hP⟩ := g_if hP
    refine hG.1 _ (20, [some (.ref 10)], [.int (σ.1 11 (σ.1 10 4).toNatClampNeg)], (gSh, σ, u)) _ rfl (if_pos hc) ?_
    obtain ⟨v1, hq, hP⟩ := g_b1 hP
    refine hG.2.2.2.1 _ _ _ [.int (σ.1 11 (σ.1 10 4).toNatClampNeg)] [] _ (gSh, σ, u) (some (.int v1)) _ _ _ _ _ _ rfl rfl rfl rfl rfl rfl (c_Text_isBlank E (d + 0) u (σ.1 11 (σ.1 10 4).toNatClampNeg) _  hq) (Nat.le_refl _) (Nat.le_refl _) (Nat.le_refl _) (Nat.le_refl _) ?_
    show G (23, [some (.ref 10)], [.int v1], (gSh, σ, u))
    rcases g_ite hP with ⟨hc, hP⟩ | ⟨hc, hP⟩
    · refine hG.1 _ (39, [some (.ref 10)], [], (gSh, σ, u)) _ rfl (if_pos hc) ?_
      cases hP
      exact K2 _ rfl
    · refine hG.1 _ (26, [some (.ref 10)], [], (gSh, σ, u)) _ rfl (if_neg hc) ?_
      refine gRunN_ok hG.1 6 _ (36, [some (.ref 10)], [], (gSh, (gPut σ 10 4 ((σ.1 10 4) + (1 : Int32))), u)) rfl ?_
      obtain ⟨s3, es3, hP⟩ := g_let hP
      rw [← es3]
      refine gRunN_ok hG.1 1 _ (0, [some (.ref 10)], [], (gSh, s3, u)) rfl ?_
      cases hP
      exact K1 _ rfl
theorem l_Text_nextWord_0 (E : gEv) (d u : Nat) {G : gFr → Prop} {vo : Option Value} {sr : gS} (hG : gClo E gDf gP3 gY39 (some .boolean) (gC E gDf gMs (d + 1)) (vo, (gSh, sr, u)) G) : ∀ (n : Nat) (σ : gS) (e : (gS)), gIter (fun z => p_Text_nextWord_0 E z) n σ = some e → (∀ (σ1 : gS), e = σ1 → G (39, [some (.ref 10)], [], (gSh, σ1, u))) → G (0, [some (.ref 10)], [], (gSh, σ, u)) := by
  intro n
  induction n with
  | zero => intro σ e h; cases h
  | succ n ih =>
    intro σ e h K2
    rcases g_iter h with ⟨z, h1, h2⟩ | h1
    · exact b_Text_nextWord_0 E d u hG σ h1 (fun n0 hz => by cases hz; exact ih _ e h2 K2) (fun _ hz => by cases hz)
    · exact b_Text_nextWord_0 E d u hG σ h1 (fun _ hz => by cases hz) (fun σ1 hz => K2 σ1 (by cases hz; rfl))
def p_Text_nextWord_76 (E : gEv) (σ : gS) : Option ((gS) ⊕ (gS)) :=
  if (σ.1 10 3) ≤ (σ.1 10 4) then (some (.inr σ)) else (if gIn (σ.1 10 4) (σ.2.1 11) then gB1 (p_Text_isBlank E (σ.1 11 (σ.1 10 4).toNatClampNeg) σ) fun v7 => if v7 = 0 then (if gIn (σ.1 10 4) (σ.2.1 11) then if (σ.1 11 (σ.1 10 4).toNatClampNeg) = (35 : Int32) then (some (.inr σ)) else (if gIn (σ.1 10 4) (σ.2.1 11) then if (σ.1 11 (σ.1 10 4).toNatClampNeg) = (10 : Int32) then (some (.inr σ)) else (gLet (gPut σ 10 4 ((σ.1 10 4) + (1 : Int32))) fun s9 => some (.inl s9)) else none) else none) else (some (.inr σ)) else none)
set_option maxRecDepth 20000 in
theorem b_Text_nextWord_76 (E : gEv) (d u : Nat) {G : gFr → Prop} {vo : Option Value} {sr : gS} (hG : gClo E gDf gP3 gY39 (some .boolean) (gC E gDf gMs (d + 1)) (vo, (gSh, sr, u)) G) (σ : gS) {r : (gS) ⊕ (gS)} (hP : p_Text_nextWord_76 E σ = some r) (K1 : ∀ (σ1 : gS), r = .inl σ1 → G (76, [some (.ref 10)], [], (gSh, σ1, u))) (K2 : ∀ (σ1 : gS), r = .inr σ1 → G (143, [some (.ref 10)], [], (gSh, σ1, u))) : G (76, [some (.ref 10)], [], (gSh, σ, u)) := by
  unfold p_Text_nextWord_76 at hP
  refine gRunN_ok hG.1 4 _ (84, [some (.ref 10)], [.int (σ.1 10 3), .int (σ.1 10 4)], (gSh, σ, u)) rfl ?_
  rcases g_ite hP with ⟨hc, hP⟩ | ⟨hc, hP⟩
  · refine hG.1 _ (143, [some (.ref 10)], [], (gSh, σ, u)) _ rfl (if_pos hc) ?_
    cases hP
    exact K2 _ rfl
  · refine hG.1 _ (87, [some (.ref 10)], [], (gSh, σ, u)) _ rfl (if_neg hc) ?_
    refine gRunN_ok hG.1 4 _ (95, [some (.ref 10)], [.int (σ.1 10 4), .ref 11], (gSh, σ, u)) rfl ?_
    obtain ⟨hc, hP⟩ := g_if hP
    refine hG.1 _ (96, [some (.ref 10)], [.int (σ.1 11 (σ.1 10 4).toNatClampNeg)], (gSh, σ, u)) _ rfl (if_pos hc) ?_
    obtain ⟨v7, hq, hP⟩ := g_b1 hP
    refine hG.2.2.2.1 _ _ _ [.int (σ.1 11 (σ.1 10 4).toNatClampNeg)] [] _ (gSh, σ, u) (some (.int v7)) _ _ _ _ _ _ rfl rfl rfl rfl rfl rfl (c_Text_isBlank E (d + 0) u (σ.1 11 (σ.1 10 4).toNatClampNeg) _  hq) (Nat.le_refl _) (Nat.le_refl _) (Nat.le_refl _) (Nat.le_refl _) ?_
    show G (99, [some (.ref 10)], [.int v7], (gSh, σ, u))
    rcases g_ite hP with ⟨hc, hP⟩ | ⟨hc, hP⟩
    · refine hG.1 _ (102, [some (.ref 10)], [], (gSh, σ, u)) _ rfl (if_pos hc) ?_
      refine gRunN_ok hG.1 4 _ (110, [some (.ref 10)], [.int (σ.1 10 4), .ref 11], (gSh, σ, u)) rfl ?_
      obtain ⟨hc, hP⟩ := g_if hP
      refine hG.1 _ (111, [some (.ref 10)], [.int (σ.1 11 (σ.1 10 4).toNatClampNeg)], (gSh, σ, u)) _ rfl (if_pos hc) ?_
      refine gRunN_ok hG.1 1 _ (113, [some (.ref 10)], [.int 35, .int (σ.1 11 (σ.1 10 4).toNatClampNeg)], (gSh, σ, u)) rfl ?_
      rcases g_ite hP with ⟨hc, hP⟩ | ⟨hc, hP⟩
      · refine hG.1 _ (143, [some (.ref 10)], [], (gSh, σ, u)) _ rfl (if_pos hc) ?_
        cases hP
        exact K2 _ rfl
      · refine hG.1 _ (116, [some (.ref 10)], [], (gSh, σ, u)) _ rfl (if_neg hc) ?_
        refine gRunN_ok hG.1 4 _ (124, [some (.ref 10)], [.int (σ.1 10 4), .ref 11], (gSh, σ, u)) rfl ?_
        obtain ⟨hc, hP⟩ := g_if hP
        refine hG.1 _ (125, [some (.ref 10)], [.int (σ.1 11 (σ.1 10 4).toNatClampNeg)], (gSh, σ, u)) _ rfl (if_pos hc) ?_
        refine gRunN_ok hG.1 1 _ (127, [some (.ref 10)], [.int 10, .int (σ.1 11 (σ.1 10 4).toNatClampNeg)], (gSh, σ, u)) rfl ?_
        rcases g_ite hP with ⟨hc, hP⟩ | ⟨hc, hP⟩
        · refine hG.1 _ (143, [some (.ref 10)], [], (gSh, σ, u)) _ rfl (if_pos hc) ?_
          cases hP
          exact K2 _ rfl
        · refine hG.1 _ (130, [some (.ref 10)], [], (gSh, σ, u)) _ rfl (if_neg hc) ?_
          refine gRunN_ok hG.1 6 _ (140, [some (.ref 10)], [], (gSh, (gPut σ 10 4 ((σ.1 10 4) + (1 : Int32))), u)) rfl ?_
          obtain ⟨s9, es9, hP⟩ := g_let hP
          rw [← es9]
          refine gRunN_ok hG.1 1 _ (76, [some (.ref 10)], [], (gSh, s9, u)) rfl ?_
          cases hP
          exact K1 _ rfl
    · refine hG.1 _ (143, [some (.ref 10)], [], (gSh, σ, u)) _ rfl (if_neg hc) ?_
      cases hP
      exact K2 _ rfl
theorem l_Text_nextWord_76 (E : gEv) (d u : Nat) {G : gFr → Prop} {vo : Option Value} {sr : gS} (hG : gClo E gDf gP3 gY39 (some .boolean) (gC E gDf gMs (d + 1)) (vo, (gSh, sr, u)) G) : ∀ (n : Nat) (σ : gS) (e : (gS)), gIter (fun z => p_Text_nextWord_76 E z) n σ = some e → (∀ (σ1 : gS), e = σ1 → G (143, [some (.ref 10)], [], (gSh, σ1, u))) → G (76, [some (.ref 10)], [], (gSh, σ, u)) := by
  intro n
  induction n with
  | zero => intro σ e h; cases h
  | succ n ih =>
    intro σ e h K2
    rcases g_iter h with ⟨z, h1, h2⟩ | h1
    · exact b_Text_nextWord_76 E d u hG σ h1 (fun n0 hz => by cases hz; exact ih _ e h2 K2) (fun _ hz => by cases hz)
    · exact b_Text_nextWord_76 E d u hG σ h1 (fun _ hz => by cases hz) (fun σ1 hz => K2 σ1 (by cases hz; rfl))
def p_Text_nextWord_j143 (E : gEv) (σ : gS) : Option (Int32 × gS) :=
  gLet (gPut σ 10 6 (σ.1 10 4)) fun s12 => if (s12.1 10 6) ≤ (s12.1 10 5) then (some (0, s12)) else (some (1, s12))
set_option maxRecDepth 20000 in
theorem j_Text_nextWord_j143 (E : gEv) (d u : Nat) {G : gFr → Prop} {v : Int32} {sr : gS} (hG : gClo E gDf gP3 gY39 (some .boolean) (gC E gDf gMs (d + 1)) (some (.int v), (gSh, sr, u)) G) (σ : gS) (hP : p_Text_nextWord_j143 E σ = some (v, sr)) : G (143, [some (.ref 10)], [], (gSh, σ, u)) := by
  unfold p_Text_nextWord_j143 at hP
  refine gRunN_ok hG.1 4 _ (151, [some (.ref 10)], [], (gSh, (gPut σ 10 6 (σ.1 10 4)), u)) rfl ?_
  obtain ⟨s12, es12, hP⟩ := g_let hP
  rw [← es12]
  refine gRunN_ok hG.1 4 _ (159, [some (.ref 10)], [.int (s12.1 10 5), .int (s12.1 10 6)], (gSh, s12, u)) rfl ?_
  rcases g_ite hP with ⟨hc, hP⟩ | ⟨hc, hP⟩
  · refine hG.1 _ (166, [some (.ref 10)], [], (gSh, s12, u)) _ rfl (if_pos hc) ?_
    refine gRunN_ok hG.1 1 _ (167, [some (.ref 10)], [.int 0], (gSh, s12, u)) rfl ?_
    cases hP
    exact hG.2.1 _ _ rfl rfl
  · refine hG.1 _ (162, [some (.ref 10)], [], (gSh, s12, u)) _ rfl (if_neg hc) ?_
    refine gRunN_ok hG.1 2 _ (167, [some (.ref 10)], [.int 1], (gSh, s12, u)) rfl ?_
    cases hP
    exact hG.2.1 _ _ rfl rfl
def p_Text_nextWord_j68 (E : gEv) (σ : gS) : Option (Int32 × gS) :=
  gLet (gPut σ 10 5 (σ.1 10 4)) fun s6 => gB1 (gIter (fun z => p_Text_nextWord_76 E z) gN s6) fun e10 => (fun s11 => p_Text_nextWord_j143 E s11) e10
set_option maxRecDepth 20000 in
theorem j_Text_nextWord_j68 (E : gEv) (d u : Nat) {G : gFr → Prop} {v : Int32} {sr : gS} (hG : gClo E gDf gP3 gY39 (some .boolean) (gC E gDf gMs (d + 1)) (some (.int v), (gSh, sr, u)) G) (σ : gS) (hP : p_Text_nextWord_j68 E σ = some (v, sr)) : G (68, [some (.ref 10)], [], (gSh, σ, u)) := by
  unfold p_Text_nextWord_j68 at hP
  refine gRunN_ok hG.1 4 _ (76, [some (.ref 10)], [], (gSh, (gPut σ 10 5 (σ.1 10 4)), u)) rfl ?_
  obtain ⟨s6, es6, hP⟩ := g_let hP
  rw [← es6]
  obtain ⟨e10, hq, hP⟩ := g_b1 hP
  refine l_Text_nextWord_76 E d u hG gN s6 _ hq (fun s11 he => ?_)
  · replace he := he.symm
    subst he
    try dsimp only [gSum] at hP
    exact j_Text_nextWord_j143 E d u hG s11 hP
def p_Text_nextWord_j39 (E : gEv) (σ : gS) : Option (Int32 × gS) :=
  if (σ.1 10 3) ≤ (σ.1 10 4) then (p_Text_nextWord_j68 E σ) else (if gIn (σ.1 10 4) (σ.2.1 11) then if (σ.1 11 (σ.1 10 4).toNatClampNeg) = (35 : Int32) then (gB1 (p_Text_skipLine E σ) fun s14 => p_Text_nextWord_j68 E s14) else (p_Text_nextWord_j68 E σ) else none)
set_option maxRecDepth 20000 in
theorem j_Text_nextWord_j39 (E : gEv) (d u : Nat) {G : gFr → Prop} {v : Int32} {sr : gS} (hG : gClo E gDf gP3 gY39 (some .boolean) (gC E gDf gMs (d + 1)) (some (.int v), (gSh, sr, u)) G) (σ : gS) (hP : p_Text_nextWord_j39 E σ = some (v, sr)) : G (39, [some (.ref 10)], [], (gSh, σ, u)) := by
  unfold p_Text_nextWord_j39 at hP
  refine gRunN_ok hG.1 4 _ (47, [some (.ref 10)], [.int (σ.1 10 3), .int (σ.1 10 4)], (gSh, σ, u)) rfl ?_
  rcases g_ite hP with ⟨hc, hP⟩ | ⟨hc, hP⟩
  · refine hG.1 _ (68, [some (.ref 10)], [], (gSh, σ, u)) _ rfl (if_pos hc) ?_
    exact j_Text_nextWord_j68 E d u hG σ hP
  · refine hG.1 _ (50, [some (.ref 10)], [], (gSh, σ, u)) _ rfl (if_neg hc) ?_
    refine gRunN_ok hG.1 4 _ (58, [some (.ref 10)], [.int (σ.1 10 4), .ref 11], (gSh, σ, u)) rfl ?_
    obtain ⟨hc, hP⟩ := g_if hP
    refine hG.1 _ (59, [some (.ref 10)], [.int (σ.1 11 (σ.1 10 4).toNatClampNeg)], (gSh, σ, u)) _ rfl (if_pos hc) ?_
    refine gRunN_ok hG.1 1 _ (61, [some (.ref 10)], [.int 35, .int (σ.1 11 (σ.1 10 4).toNatClampNeg)], (gSh, σ, u)) rfl ?_
    rcases g_ite hP with ⟨hc, hP⟩ | ⟨hc, hP⟩
    · refine hG.1 _ (64, [some (.ref 10)], [], (gSh, σ, u)) _ rfl (if_pos hc) ?_
      refine gRunN_ok hG.1 1 _ (65, [some (.ref 10)], [.ref 10], (gSh, σ, u)) rfl ?_
      obtain ⟨s14, hq, hP⟩ := g_b1 hP
      refine hG.2.2.2.1 _ _ _ [.ref 10] [] _ (gSh, s14, u) none _ _ _ _ _ _ rfl rfl rfl rfl rfl rfl (c_Text_skipLine E (d + 0) u _  hq) (Nat.le_refl _) (Nat.le_refl _) (Nat.le_refl _) (Nat.le_refl _) ?_
      show G (68, [some (.ref 10)], [], (gSh, s14, u))
      exact j_Text_nextWord_j68 E d u hG s14 hP
    · refine hG.1 _ (68, [some (.ref 10)], [], (gSh, σ, u)) _ rfl (if_neg hc) ?_
      exact j_Text_nextWord_j68 E d u hG σ hP
def p_Text_nextWord (E : gEv) (σ : gS) : Option (Int32 × gS) :=
  gB1 (gIter (fun z => p_Text_nextWord_0 E z) gN σ) fun e4 => (fun s5 => p_Text_nextWord_j39 E s5) e4
set_option maxRecDepth 20000 in
theorem c_Text_nextWord (E : gEv) (d u : Nat) (σ : gS) {v : Int32} {sr : gS}  (hq : p_Text_nextWord E σ = some (v, sr)) : gC E gDf gMs (d + 2) 39 [.ref 10] (gSh, σ, u) (some (.int v), (gSh, sr, u)) := ⟨gM39, rfl, Nat.le_of_ble_eq_true rfl, fun G hG => by
  have hP := hq
  unfold p_Text_nextWord at hP
  replace hG : gClo E gDf gP3 gY39 (some .boolean) (gC E gDf gMs (d + 1)) (some (.int v), (gSh, sr, u)) G := hG
  show G (0, [some (.ref 10)], [], (gSh, σ, u))
  obtain ⟨e4, hq, hP⟩ := g_b1 hP
  refine l_Text_nextWord_0 E d u hG gN σ _ hq (fun s5 he => ?_)
  · replace he := he.symm
    subst he
    try dsimp only [gSum] at hP
    exact j_Text_nextWord_j39 E d u hG s5 hP⟩
def p_String_length (E : gEv) (i0 : Nat) (σ : gS) : Option (Int32) :=
  gB1 (p_String_coder E i0 σ) fun v1 => some ((Int32.ofNat (E (100 + i0)).1) >>> (v1 &&& 31))
set_option maxRecDepth 20000 in
theorem c_String_length (E : gEv) (d u : Nat) (i0 : Nat) (σ : gS) {v : Int32}  (hi0 : i0 < 7) (hq : p_String_length E i0 σ = some v) : gC E gDf gMs (d + 2) 52 [.retAddr i0] (gSh, σ, u) (some (.int v), (gSh, σ, u)) := ⟨gM52, rfl, Nat.le_of_ble_eq_true rfl, fun G hG => by
  have hP := hq
  unfold p_String_length at hP
  replace hG : gClo E gDf gP13 gY52 (some .int) (gC E gDf gMs (d + 1)) (some (.int v), (gSh, σ, u)) G := hG
  show G (0, [some (.retAddr i0)], [], (gSh, σ, u))
  refine gRunN_ok hG.1 1 _ (1, [some (.retAddr i0)], [.retAddr i0], (gSh, σ, u)) rfl ?_
  refine hG.1 _ (4, [some (.retAddr i0)], [.retAddr (100 + i0)], (gSh, σ, u)) _ rfl (gS_gfv hi0 rfl) ?_
  refine hG.1 _ (5, [some (.retAddr i0)], [.int (Int32.ofNat (E (100 + i0)).1)], (gSh, σ, u)) _ rfl (gS_alc (by omega)) ?_
  refine gRunN_ok hG.1 1 _ (6, [some (.retAddr i0)], [.retAddr i0, .int (Int32.ofNat (E (100 + i0)).1)], (gSh, σ, u)) rfl ?_
  obtain ⟨v1, hq, hP⟩ := g_b1 hP
  refine hG.2.2.2.1 _ _ _ [.retAddr i0] [.int (Int32.ofNat (E (100 + i0)).1)] _ (gSh, σ, u) (some (.int v1)) _ _ _ _ _ _ rfl rfl rfl rfl rfl (by simp [gRcv, gCat, Value.category, hi0]) (c_String_coder E (d + 0) u i0 _ hi0 hq) (Nat.le_refl _) (Nat.le_refl _) (Nat.le_refl _) (Nat.le_refl _) ?_
  show G (9, [some (.retAddr i0)], [.int v1, .int (Int32.ofNat (E (100 + i0)).1)], (gSh, σ, u))
  refine gRunN_ok hG.1 1 _ (10, [some (.retAddr i0)], [.int ((Int32.ofNat (E (100 + i0)).1) >>> (v1 &&& 31))], (gSh, σ, u)) rfl ?_
  cases hP
  exact hG.2.1 _ _ rfl rfl⟩
def p_String_checkIndex (E : gEv) (a0 : Int32) (a1 : Int32) (σ : gS) : Option (Unit) :=
  gB1 (p_Preconditions_checkIndex E a0 a1 σ) fun v1 => some ()
set_option maxRecDepth 20000 in
theorem c_String_checkIndex (E : gEv) (d u : Nat) (a0 : Int32) (a1 : Int32) (σ : gS)  (hq : p_String_checkIndex E a0 a1 σ = some ()) : gC E gDf gMs (d + 2) 57 [.int a0, .int a1] (gSh, σ, u) (none, (gSh, σ, u)) := ⟨gM57, rfl, Nat.le_of_ble_eq_true rfl, fun G hG => by
  have hP := hq
  unfold p_String_checkIndex at hP
  replace hG : gClo E gDf gP13 gY57 none (gC E gDf gMs (d + 1)) (none, (gSh, σ, u)) G := hG
  show G (0, [some (.int a0), some (.int a1)], [], (gSh, σ, u))
  refine gRunN_ok hG.1 3 _ (5, [some (.int a0), some (.int a1)], [.float 0, .int a1, .int a0], (gSh, σ, u)) rfl ?_
  obtain ⟨v1, hq, hP⟩ := g_b1 hP
  refine hG.2.2.2.1 _ _ _ [.int a0, .int a1, .float 0] [] _ (gSh, σ, u) (some (.int v1)) _ _ _ _ _ _ rfl rfl rfl rfl rfl rfl (c_Preconditions_checkIndex E (d + 0) u a0 a1 _  hq) (Nat.le_refl _) (Nat.le_refl _) (Nat.le_refl _) (Nat.le_refl _) ?_
  show G (8, [some (.int a0), some (.int a1)], [.int v1], (gSh, σ, u))
  refine gRunN_ok hG.1 1 _ (9, [some (.int a0), some (.int a1)], [], (gSh, σ, u)) rfl ?_
  cases hP
  exact hG.2.1 _ _ rfl rfl⟩
def p_Reader_takeName_62 (E : gEv) (l1 : Int32) (l2 : Int32) (σ : gS) : Option ((Int32) ⊕ ((Int32) ⊕ (Unit))) :=
  if (σ.1 22 10) ≤ l2 then (some (.inr (.inr ()))) else (if gIn l2 (σ.2.1 23) then if gIn l2 (σ.2.1 24) then gB1 (p_Text_isSame E (σ.1 23 l2.toNatClampNeg) (σ.1 24 l2.toNatClampNeg) σ) fun v4 => if v4 = 0 then (gLet (l2 + 1) fun x6 => some (.inl x6)) else (some (.inr (.inl l2))) else none else none)
set_option maxRecDepth 20000 in
theorem b_Reader_takeName_62 (E : gEv) (d u : Nat) {G : gFr → Prop} {vo : Option Value} {sr : gS} (hG : gClo E gDf gP5 gY60 (some .int) (gC E gDf gMs (d + 1)) (vo, (gSh, sr, u)) G) (l1 : Int32) (l2 : Int32) (σ : gS) {r : (Int32) ⊕ ((Int32) ⊕ (Unit))} (hP : p_Reader_takeName_62 E l1 l2 σ = some r) (K1 : ∀ (m2 : Int32), r = .inl m2 → G (62, [some (.ref 22), some (.int l1), some (.int m2)], [], (gSh, σ, u))) (K2 : ∀ (m2 : Int32), r = .inr (.inl m2) → G (92, [none, none, some (.int m2)], [], (gSh, σ, u))) (K3 : r = .inr (.inr ()) → G (100, [some (.ref 22), some (.int l1), none], [], (gSh, σ, u))) : G (62, [some (.ref 22), some (.int l1), some (.int l2)], [], (gSh, σ, u)) := by
  unfold p_Reader_takeName_62 at hP
  refine gRunN_ok hG.1 3 _ (67, [some (.ref 22), some (.int l1), some (.int l2)], [.int (σ.1 22 10), .int l2], (gSh, σ, u)) rfl ?_
  rcases g_ite hP with ⟨hc, hP⟩ | ⟨hc, hP⟩
  · refine hG.1 _ (100, [some (.ref 22), some (.int l1), some (.int l2)], [], (gSh, σ, u)) _ rfl (if_pos hc) ?_
    refine hG.2.2.2.2.1 _ _ [some (.ref 22), some (.int l1), none] _ _ ⟨rfl, ⟨rfl, trivial⟩⟩ ?_
    cases hP
    exact K3 rfl
  · refine hG.1 _ (70, [some (.ref 22), some (.int l1), some (.int l2)], [], (gSh, σ, u)) _ rfl (if_neg hc) ?_
    refine gRunN_ok hG.1 5 _ (79, [some (.ref 22), some (.int l1), some (.int l2)], [.int l2, .ref 23, .ref 10], (gSh, σ, u)) rfl ?_
    obtain ⟨hc, hP⟩ := g_if hP
    refine hG.1 _ (80, [some (.ref 22), some (.int l1), some (.int l2)], [.int (σ.1 23 l2.toNatClampNeg), .ref 10], (gSh, σ, u)) _ rfl (if_pos hc) ?_
    refine gRunN_ok hG.1 3 _ (85, [some (.ref 22), some (.int l1), some (.int l2)], [.int l2, .ref 24, .int (σ.1 23 l2.toNatClampNeg), .ref 10], (gSh, σ, u)) rfl ?_
    obtain ⟨hc, hP⟩ := g_if hP
    refine hG.1 _ (86, [some (.ref 22), some (.int l1), some (.int l2)], [.int (σ.1 24 l2.toNatClampNeg), .int (σ.1 23 l2.toNatClampNeg), .ref 10], (gSh, σ, u)) _ rfl (if_pos hc) ?_
    obtain ⟨v4, hq, hP⟩ := g_b1 hP
    refine hG.2.2.2.1 _ _ _ [.ref 10, .int (σ.1 23 l2.toNatClampNeg), .int (σ.1 24 l2.toNatClampNeg)] [] _ (gSh, σ, u) (some (.int v4)) _ _ _ _ _ _ rfl rfl rfl rfl rfl rfl (c_Text_isSame E (d + 0) u (σ.1 23 l2.toNatClampNeg) (σ.1 24 l2.toNatClampNeg) _  hq) (Nat.le_refl _) (Nat.le_refl _) (Nat.le_refl _) (Nat.le_refl _) ?_
    show G (89, [some (.ref 22), some (.int l1), some (.int l2)], [.int v4], (gSh, σ, u))
    rcases g_ite hP with ⟨hc, hP⟩ | ⟨hc, hP⟩
    · refine hG.1 _ (94, [some (.ref 22), some (.int l1), some (.int l2)], [], (gSh, σ, u)) _ rfl (if_pos hc) ?_
      refine gRunN_ok hG.1 1 _ (97, [some (.ref 22), some (.int l1), some (.int (l2 + 1))], [], (gSh, σ, u)) rfl ?_
      obtain ⟨x6, ex6, hP⟩ := g_let hP
      rw [← ex6]
      refine gRunN_ok hG.1 1 _ (62, [some (.ref 22), some (.int l1), some (.int x6)], [], (gSh, σ, u)) rfl ?_
      cases hP
      exact K1 _ rfl
    · refine hG.1 _ (92, [some (.ref 22), some (.int l1), some (.int l2)], [], (gSh, σ, u)) _ rfl (if_neg hc) ?_
      refine hG.2.2.2.2.1 _ _ [none, none, some (.int l2)] _ _ ⟨rfl, trivial⟩ ?_
      cases hP
      exact K2 _ rfl
theorem l_Reader_takeName_62 (E : gEv) (d u : Nat) {G : gFr → Prop} {vo : Option Value} {sr : gS} (hG : gClo E gDf gP5 gY60 (some .int) (gC E gDf gMs (d + 1)) (vo, (gSh, sr, u)) G) (l1 : Int32) (σ : gS) : ∀ (n : Nat) (l2 : Int32) (e : ((Int32) ⊕ (Unit))), gIter (fun z => p_Reader_takeName_62 E l1 z σ) n l2 = some e → (∀ (m2 : Int32), e = (.inl m2) → G (92, [none, none, some (.int m2)], [], (gSh, σ, u))) → ( e = (.inr ()) → G (100, [some (.ref 22), some (.int l1), none], [], (gSh, σ, u))) → G (62, [some (.ref 22), some (.int l1), some (.int l2)], [], (gSh, σ, u)) := by
  intro n
  induction n with
  | zero => intro l2 e h; cases h
  | succ n ih =>
    intro l2 e h K2 K3
    rcases g_iter h with ⟨z, h1, h2⟩ | h1
    · exact b_Reader_takeName_62 E d u hG l1 l2 σ h1 (fun n0 hz => by cases hz; exact ih _ e h2 K2 K3) (fun _ hz => by cases hz) (fun  hz => by cases hz)
    · exact b_Reader_takeName_62 E d u hG l1 l2 σ h1 (fun _ hz => by cases hz) (fun m2 hz => K2 m2 (by cases hz; rfl)) (fun  hz => K3  (by cases hz; rfl))
def p_Reader_takeName (E : gEv) (σ : gS) : Option (Int32 × gS) :=
  gB1 (p_Text_hasDot E σ) fun v1 => if v1 = 0 then (gLet ((σ.1 10 6) - (σ.1 10 5)) fun x3 => if x3 ≤ (12 : Int32) then (gB1 (gIter (fun z => p_Reader_takeName_62 E x3 z σ) gN 0) fun e7 => gSum e7 (fun e14 => (fun w8 => some (w8, σ)) e14) (fun e15 => if (σ.1 22 10) < (150 : Int32) then (if gIn (σ.1 22 10) (σ.2.1 23) then gLet (gPut σ 23 (σ.1 22 10).toNatClampNeg (σ.1 10 5)) fun s9 => if gIn (s9.1 22 10) (s9.2.1 24) then gLet (gPut s9 24 (s9.1 22 10).toNatClampNeg x3) fun s10 => gLet (gPut s10 22 10 ((s10.1 22 10) + (1 : Int32))) fun s11 => some (s10.1 22 10, s11) else none else none) else (gB1 (p_Reader_refuse E 2 (σ.1 10 5) σ) fun s13 => some ((-1), s13)))) else (gB1 (p_Reader_refuse E 2 (σ.1 10 5) σ) fun s17 => some ((-1), s17))) else (gB1 (p_Reader_refuse E 1 (σ.1 10 5) σ) fun s19 => some ((-1), s19))
set_option maxRecDepth 20000 in
theorem c_Reader_takeName (E : gEv) (d u : Nat) (σ : gS) {v : Int32} {sr : gS}  (hq : p_Reader_takeName E σ = some (v, sr)) : gC E gDf gMs (d + 2) 60 [.ref 22] (gSh, σ, u) (some (.int v), (gSh, sr, u)) := ⟨gM60, rfl, Nat.le_of_ble_eq_true rfl, fun G hG => by
  have hP := hq
  unfold p_Reader_takeName at hP
  replace hG : gClo E gDf gP5 gY60 (some .int) (gC E gDf gMs (d + 1)) (some (.int v), (gSh, sr, u)) G := hG
  show G (0, [some (.ref 22), none, none], [], (gSh, σ, u))
  refine gRunN_ok hG.1 2 _ (4, [some (.ref 22), none, none], [.ref 10], (gSh, σ, u)) rfl ?_
  obtain ⟨v1, hq, hP⟩ := g_b1 hP
  refine hG.2.2.2.1 _ _ _ [.ref 10] [] _ (gSh, σ, u) (some (.int v1)) _ _ _ _ _ _ rfl rfl rfl rfl rfl rfl (c_Text_hasDot E (d + 0) u _  hq) (Nat.le_refl _) (Nat.le_refl _) (Nat.le_refl _) (Nat.le_refl _) ?_
  show G (7, [some (.ref 22), none, none], [.int v1], (gSh, σ, u))
  rcases g_ite hP with ⟨hc, hP⟩ | ⟨hc, hP⟩
  · refine hG.1 _ (24, [some (.ref 22), none, none], [], (gSh, σ, u)) _ rfl (if_pos hc) ?_
    refine gRunN_ok hG.1 8 _ (40, [some (.ref 22), some (.int ((σ.1 10 6) - (σ.1 10 5))), none], [], (gSh, σ, u)) rfl ?_
    obtain ⟨x3, ex3, hP⟩ := g_let hP
    rw [← ex3]
    refine gRunN_ok hG.1 2 _ (43, [some (.ref 22), some (.int x3), none], [.int 12, .int x3], (gSh, σ, u)) rfl ?_
    rcases g_ite hP with ⟨hc, hP⟩ | ⟨hc, hP⟩
    · refine hG.1 _ (60, [some (.ref 22), some (.int x3), none], [], (gSh, σ, u)) _ rfl (if_pos hc) ?_
      refine gRunN_ok hG.1 2 _ (62, [some (.ref 22), some (.int x3), some (.int 0)], [], (gSh, σ, u)) rfl ?_
      obtain ⟨e7, hq, hP⟩ := g_b1 hP
      refine l_Reader_takeName_62 E d u hG x3 σ gN 0 _ hq (fun w8 he => ?_) (fun  he => ?_)
      · subst he
        try dsimp only [gSum] at hP
        refine gRunN_ok hG.1 1 _ (93, [none, none, some (.int w8)], [.int w8], (gSh, σ, u)) rfl ?_
        cases hP
        exact hG.2.1 _ _ rfl rfl
      · subst he
        try dsimp only [gSum] at hP
        refine gRunN_ok hG.1 3 _ (107, [some (.ref 22), some (.int x3), none], [.int 150, .int (σ.1 22 10)], (gSh, σ, u)) rfl ?_
        rcases g_ite hP with ⟨hc, hP⟩ | ⟨hc, hP⟩
        · refine hG.1 _ (124, [some (.ref 22), some (.int x3), none], [], (gSh, σ, u)) _ rfl (if_pos hc) ?_
          refine gRunN_ok hG.1 7 _ (139, [some (.ref 22), some (.int x3), none], [.int (σ.1 10 5), .int (σ.1 22 10), .ref 23], (gSh, σ, u)) rfl ?_
          obtain ⟨hc, hP⟩ := g_if hP
          refine hG.1 _ (140, [some (.ref 22), some (.int x3), none], [], (gSh, (gPut σ 23 (σ.1 22 10).toNatClampNeg (σ.1 10 5)), u)) _ rfl (if_pos hc) ?_
          obtain ⟨s9, es9, hP⟩ := g_let hP
          rw [← es9]
          refine gRunN_ok hG.1 5 _ (149, [some (.ref 22), some (.int x3), none], [.int x3, .int (s9.1 22 10), .ref 24], (gSh, s9, u)) rfl ?_
          obtain ⟨hc, hP⟩ := g_if hP
          refine hG.1 _ (150, [some (.ref 22), some (.int x3), none], [], (gSh, (gPut s9 24 (s9.1 22 10).toNatClampNeg x3), u)) _ rfl (if_pos hc) ?_
          obtain ⟨s10, es10, hP⟩ := g_let hP
          rw [← es10]
          refine gRunN_ok hG.1 7 _ (161, [some (.ref 22), some (.int x3), none], [.int (s10.1 22 10)], (gSh, (gPut s10 22 10 ((s10.1 22 10) + (1 : Int32))), u)) rfl ?_
          obtain ⟨s11, es11, hP⟩ := g_let hP
          rw [← es11]
          cases hP
          exact hG.2.1 _ _ rfl rfl
        · refine hG.1 _ (110, [some (.ref 22), some (.int x3), none], [], (gSh, σ, u)) _ rfl (if_neg hc) ?_
          refine gRunN_ok hG.1 5 _ (119, [some (.ref 22), some (.int x3), none], [.int (σ.1 10 5), .int 2, .ref 22], (gSh, σ, u)) rfl ?_
          obtain ⟨s13, hq, hP⟩ := g_b1 hP
          refine hG.2.2.2.1 _ _ _ [.ref 22, .int 2, .int (σ.1 10 5)] [] _ (gSh, s13, u) none _ _ _ _ _ _ rfl rfl rfl rfl rfl rfl (c_Reader_refuse E (d + 0) u 2 (σ.1 10 5) _  hq) (Nat.le_refl _) (Nat.le_refl _) (Nat.le_refl _) (Nat.le_refl _) ?_
          show G (122, [some (.ref 22), some (.int x3), none], [], (gSh, s13, u))
          refine gRunN_ok hG.1 1 _ (123, [some (.ref 22), some (.int x3), none], [.int (-1)], (gSh, s13, u)) rfl ?_
          cases hP
          exact hG.2.1 _ _ rfl rfl
    · refine hG.1 _ (46, [some (.ref 22), some (.int x3), none], [], (gSh, σ, u)) _ rfl (if_neg hc) ?_
      refine gRunN_ok hG.1 5 _ (55, [some (.ref 22), some (.int x3), none], [.int (σ.1 10 5), .int 2, .ref 22], (gSh, σ, u)) rfl ?_
      obtain ⟨s17, hq, hP⟩ := g_b1 hP
      refine hG.2.2.2.1 _ _ _ [.ref 22, .int 2, .int (σ.1 10 5)] [] _ (gSh, s17, u) none _ _ _ _ _ _ rfl rfl rfl rfl rfl rfl (c_Reader_refuse E (d + 0) u 2 (σ.1 10 5) _  hq) (Nat.le_refl _) (Nat.le_refl _) (Nat.le_refl _) (Nat.le_refl _) ?_
      show G (58, [some (.ref 22), some (.int x3), none], [], (gSh, s17, u))
      refine gRunN_ok hG.1 1 _ (59, [some (.ref 22), some (.int x3), none], [.int (-1)], (gSh, s17, u)) rfl ?_
      cases hP
      exact hG.2.1 _ _ rfl rfl
  · refine hG.1 _ (10, [some (.ref 22), none, none], [], (gSh, σ, u)) _ rfl (if_neg hc) ?_
    refine gRunN_ok hG.1 5 _ (19, [some (.ref 22), none, none], [.int (σ.1 10 5), .int 1, .ref 22], (gSh, σ, u)) rfl ?_
    obtain ⟨s19, hq, hP⟩ := g_b1 hP
    refine hG.2.2.2.1 _ _ _ [.ref 22, .int 1, .int (σ.1 10 5)] [] _ (gSh, s19, u) none _ _ _ _ _ _ rfl rfl rfl rfl rfl rfl (c_Reader_refuse E (d + 0) u 1 (σ.1 10 5) _  hq) (Nat.le_refl _) (Nat.le_refl _) (Nat.le_refl _) (Nat.le_refl _) ?_
    show G (22, [some (.ref 22), none, none], [], (gSh, s19, u))
    refine gRunN_ok hG.1 1 _ (23, [some (.ref 22), none, none], [.int (-1)], (gSh, s19, u)) rfl ?_
    cases hP
    exact hG.2.1 _ _ rfl rfl⟩
def p_Reader_make (E : gEv) (a0 : Int32) (a1 : Int32) (a2 : Int32) (σ : gS) : Option (Int32 × gS) :=
  if gIn a0 (σ.2.1 25) then if (σ.1 25 a0.toNatClampNeg) = ((-1) : Int32) then (if gIn a0 (σ.2.1 25) then gLet (gPut σ 25 a0.toNatClampNeg a1) fun s1 => some (1, s1) else none) else (gB1 (p_Reader_refuse E 3 a2 σ) fun s3 => some (0, s3)) else none
set_option maxRecDepth 20000 in
theorem c_Reader_make (E : gEv) (d u : Nat) (a0 : Int32) (a1 : Int32) (a2 : Int32) (σ : gS) {v : Int32} {sr : gS}  (hq : p_Reader_make E a0 a1 a2 σ = some (v, sr)) : gC E gDf gMs (d + 2) 62 [.ref 22, .int a0, .int a1, .int a2] (gSh, σ, u) (some (.int v), (gSh, sr, u)) := ⟨gM62, rfl, Nat.le_of_ble_eq_true rfl, fun G hG => by
  have hP := hq
  unfold p_Reader_make at hP
  replace hG : gClo E gDf gP5 gY62 (some .boolean) (gC E gDf gMs (d + 1)) (some (.int v), (gSh, sr, u)) G := hG
  show G (0, [some (.ref 22), some (.int a0), some (.int a1), some (.int a2)], [], (gSh, σ, u))
  refine gRunN_ok hG.1 3 _ (5, [some (.ref 22), some (.int a0), some (.int a1), some (.int a2)], [.int a0, .ref 25], (gSh, σ, u)) rfl ?_
  obtain ⟨hc, hP⟩ := g_if hP
  refine hG.1 _ (6, [some (.ref 22), some (.int a0), some (.int a1), some (.int a2)], [.int (σ.1 25 a0.toNatClampNeg)], (gSh, σ, u)) _ rfl (if_pos hc) ?_
  refine gRunN_ok hG.1 1 _ (7, [some (.ref 22), some (.int a0), some (.int a1), some (.int a2)], [.int (-1), .int (σ.1 25 a0.toNatClampNeg)], (gSh, σ, u)) rfl ?_
  rcases g_ite hP with ⟨hc, hP⟩ | ⟨hc, hP⟩
  · refine hG.1 _ (18, [some (.ref 22), some (.int a0), some (.int a1), some (.int a2)], [], (gSh, σ, u)) _ rfl (if_pos hc) ?_
    refine gRunN_ok hG.1 4 _ (24, [some (.ref 22), some (.int a0), some (.int a1), some (.int a2)], [.int a1, .int a0, .ref 25], (gSh, σ, u)) rfl ?_
    obtain ⟨hc, hP⟩ := g_if hP
    refine hG.1 _ (25, [some (.ref 22), some (.int a0), some (.int a1), some (.int a2)], [], (gSh, (gPut σ 25 a0.toNatClampNeg a1), u)) _ rfl (if_pos hc) ?_
    obtain ⟨s1, es1, hP⟩ := g_let hP
    rw [← es1]
    refine gRunN_ok hG.1 1 _ (26, [some (.ref 22), some (.int a0), some (.int a1), some (.int a2)], [.int 1], (gSh, s1, u)) rfl ?_
    cases hP
    exact hG.2.1 _ _ rfl rfl
  · refine hG.1 _ (10, [some (.ref 22), some (.int a0), some (.int a1), some (.int a2)], [], (gSh, σ, u)) _ rfl (if_neg hc) ?_
    refine gRunN_ok hG.1 3 _ (13, [some (.ref 22), some (.int a0), some (.int a1), some (.int a2)], [.int a2, .int 3, .ref 22], (gSh, σ, u)) rfl ?_
    obtain ⟨s3, hq, hP⟩ := g_b1 hP
    refine hG.2.2.2.1 _ _ _ [.ref 22, .int 3, .int a2] [] _ (gSh, s3, u) none _ _ _ _ _ _ rfl rfl rfl rfl rfl rfl (c_Reader_refuse E (d + 0) u 3 a2 _  hq) (Nat.le_refl _) (Nat.le_refl _) (Nat.le_refl _) (Nat.le_refl _) ?_
    show G (16, [some (.ref 22), some (.int a0), some (.int a1), some (.int a2)], [], (gSh, s3, u))
    refine gRunN_ok hG.1 1 _ (17, [some (.ref 22), some (.int a0), some (.int a1), some (.int a2)], [.int 0], (gSh, s3, u)) rfl ?_
    cases hP
    exact hG.2.1 _ _ rfl rfl⟩
def p_Text_nextLine (E : gEv) (σ : gS) : Option (Int32 × gS) :=
  gB1 (p_Text_skipLine E σ) fun s2 => gLet (gPut s2 10 4 ((s2.1 10 4) + (1 : Int32))) fun s3 => if (s3.1 10 3) ≤ (s3.1 10 4) then (some (0, s3)) else (some (1, s3))
set_option maxRecDepth 20000 in
theorem c_Text_nextLine (E : gEv) (d u : Nat) (σ : gS) {v : Int32} {sr : gS}  (hq : p_Text_nextLine E σ = some (v, sr)) : gC E gDf gMs (d + 2) 67 [.ref 10] (gSh, σ, u) (some (.int v), (gSh, sr, u)) := ⟨gM67, rfl, Nat.le_of_ble_eq_true rfl, fun G hG => by
  have hP := hq
  unfold p_Text_nextLine at hP
  replace hG : gClo E gDf gP3 gY67 (some .boolean) (gC E gDf gMs (d + 1)) (some (.int v), (gSh, sr, u)) G := hG
  show G (0, [some (.ref 10)], [], (gSh, σ, u))
  refine gRunN_ok hG.1 1 _ (1, [some (.ref 10)], [.ref 10], (gSh, σ, u)) rfl ?_
  obtain ⟨s2, hq, hP⟩ := g_b1 hP
  refine hG.2.2.2.1 _ _ _ [.ref 10] [] _ (gSh, s2, u) none _ _ _ _ _ _ rfl rfl rfl rfl rfl rfl (c_Text_skipLine E (d + 0) u _  hq) (Nat.le_refl _) (Nat.le_refl _) (Nat.le_refl _) (Nat.le_refl _) ?_
  show G (4, [some (.ref 10)], [], (gSh, s2, u))
  refine gRunN_ok hG.1 6 _ (14, [some (.ref 10)], [], (gSh, (gPut s2 10 4 ((s2.1 10 4) + (1 : Int32))), u)) rfl ?_
  obtain ⟨s3, es3, hP⟩ := g_let hP
  rw [← es3]
  refine gRunN_ok hG.1 4 _ (22, [some (.ref 10)], [.int (s3.1 10 3), .int (s3.1 10 4)], (gSh, s3, u)) rfl ?_
  rcases g_ite hP with ⟨hc, hP⟩ | ⟨hc, hP⟩
  · refine hG.1 _ (29, [some (.ref 10)], [], (gSh, s3, u)) _ rfl (if_pos hc) ?_
    refine gRunN_ok hG.1 1 _ (30, [some (.ref 10)], [.int 0], (gSh, s3, u)) rfl ?_
    cases hP
    exact hG.2.1 _ _ rfl rfl
  · refine hG.1 _ (25, [some (.ref 10)], [], (gSh, s3, u)) _ rfl (if_neg hc) ?_
    refine gRunN_ok hG.1 2 _ (30, [some (.ref 10)], [.int 1], (gSh, s3, u)) rfl ?_
    cases hP
    exact hG.2.1 _ _ rfl rfl⟩
def p_Reader_checkMakers_2 (E : gEv) (l1 : Int32) (σ : gS) : Option ((Int32) ⊕ ((Int32) ⊕ (Unit))) :=
  if (σ.1 22 10) ≤ l1 then (some (.inr (.inr ()))) else (if gIn l1 (σ.2.1 25) then if (σ.1 25 l1.toNatClampNeg) = ((-1) : Int32) then (some (.inr (.inl l1))) else (gLet (l1 + 1) fun x1 => some (.inl x1)) else none)
set_option maxRecDepth 20000 in
theorem b_Reader_checkMakers_2 (E : gEv) (d u : Nat) {G : gFr → Prop} {vo : Option Value} {sr : gS} (hG : gClo E gDf gP5 gY68 none (gC E gDf gMs (d + 1)) (vo, (gSh, sr, u)) G) (l1 : Int32) (σ : gS) {r : (Int32) ⊕ ((Int32) ⊕ (Unit))} (hP : p_Reader_checkMakers_2 E l1 σ = some r) (K1 : ∀ (m1 : Int32), r = .inl m1 → G (2, [some (.ref 22), some (.int m1)], [], (gSh, σ, u))) (K2 : ∀ (m1 : Int32), r = .inr (.inl m1) → G (20, [some (.ref 22), some (.int m1)], [], (gSh, σ, u))) (K3 : r = .inr (.inr ()) → G (38, [none, none], [], (gSh, σ, u))) : G (2, [some (.ref 22), some (.int l1)], [], (gSh, σ, u)) := by
  unfold p_Reader_checkMakers_2 at hP
  refine gRunN_ok hG.1 3 _ (7, [some (.ref 22), some (.int l1)], [.int (σ.1 22 10), .int l1], (gSh, σ, u)) rfl ?_
  rcases g_ite hP with ⟨hc, hP⟩ | ⟨hc, hP⟩
  · refine hG.1 _ (38, [some (.ref 22), some (.int l1)], [], (gSh, σ, u)) _ rfl (if_pos hc) ?_
    refine hG.2.2.2.2.1 _ _ [none, none] _ _ trivial ?_
    cases hP
    exact K3 rfl
  · refine hG.1 _ (10, [some (.ref 22), some (.int l1)], [], (gSh, σ, u)) _ rfl (if_neg hc) ?_
    refine gRunN_ok hG.1 3 _ (15, [some (.ref 22), some (.int l1)], [.int l1, .ref 25], (gSh, σ, u)) rfl ?_
    obtain ⟨hc, hP⟩ := g_if hP
    refine hG.1 _ (16, [some (.ref 22), some (.int l1)], [.int (σ.1 25 l1.toNatClampNeg)], (gSh, σ, u)) _ rfl (if_pos hc) ?_
    refine gRunN_ok hG.1 1 _ (17, [some (.ref 22), some (.int l1)], [.int (-1), .int (σ.1 25 l1.toNatClampNeg)], (gSh, σ, u)) rfl ?_
    rcases g_ite hP with ⟨hc, hP⟩ | ⟨hc, hP⟩
    · refine hG.1 _ (20, [some (.ref 22), some (.int l1)], [], (gSh, σ, u)) _ rfl (if_pos hc) ?_
      cases hP
      exact K2 _ rfl
    · refine hG.1 _ (32, [some (.ref 22), some (.int l1)], [], (gSh, σ, u)) _ rfl (if_neg hc) ?_
      refine gRunN_ok hG.1 1 _ (35, [some (.ref 22), some (.int (l1 + 1))], [], (gSh, σ, u)) rfl ?_
      obtain ⟨x1, ex1, hP⟩ := g_let hP
      rw [← ex1]
      refine gRunN_ok hG.1 1 _ (2, [some (.ref 22), some (.int x1)], [], (gSh, σ, u)) rfl ?_
      cases hP
      exact K1 _ rfl
theorem l_Reader_checkMakers_2 (E : gEv) (d u : Nat) {G : gFr → Prop} {vo : Option Value} {sr : gS} (hG : gClo E gDf gP5 gY68 none (gC E gDf gMs (d + 1)) (vo, (gSh, sr, u)) G) (σ : gS) : ∀ (n : Nat) (l1 : Int32) (e : ((Int32) ⊕ (Unit))), gIter (fun z => p_Reader_checkMakers_2 E z σ) n l1 = some e → (∀ (m1 : Int32), e = (.inl m1) → G (20, [some (.ref 22), some (.int m1)], [], (gSh, σ, u))) → ( e = (.inr ()) → G (38, [none, none], [], (gSh, σ, u))) → G (2, [some (.ref 22), some (.int l1)], [], (gSh, σ, u)) := by
  intro n
  induction n with
  | zero => intro l1 e h; cases h
  | succ n ih =>
    intro l1 e h K2 K3
    rcases g_iter h with ⟨z, h1, h2⟩ | h1
    · exact b_Reader_checkMakers_2 E d u hG l1 σ h1 (fun n0 hz => by cases hz; exact ih _ e h2 K2 K3) (fun _ hz => by cases hz) (fun  hz => by cases hz)
    · exact b_Reader_checkMakers_2 E d u hG l1 σ h1 (fun _ hz => by cases hz) (fun m1 hz => K2 m1 (by cases hz; rfl)) (fun  hz => K3  (by cases hz; rfl))
def p_Reader_checkMakers (E : gEv) (σ : gS) : Option (gS) :=
  gB1 (gIter (fun z => p_Reader_checkMakers_2 E z σ) gN 0) fun e2 => gSum e2 (fun e6 => (fun w3 => if gIn w3 (σ.2.1 23) then gB1 (p_Reader_refuse E 4 (σ.1 23 w3.toNatClampNeg) σ) fun s5 => some s5 else none) e6) (fun e7 => some σ)
set_option maxRecDepth 20000 in
theorem c_Reader_checkMakers (E : gEv) (d u : Nat) (σ : gS) {sr : gS}  (hq : p_Reader_checkMakers E σ = some sr) : gC E gDf gMs (d + 2) 68 [.ref 22] (gSh, σ, u) (none, (gSh, sr, u)) := ⟨gM68, rfl, Nat.le_of_ble_eq_true rfl, fun G hG => by
  have hP := hq
  unfold p_Reader_checkMakers at hP
  replace hG : gClo E gDf gP5 gY68 none (gC E gDf gMs (d + 1)) (none, (gSh, sr, u)) G := hG
  show G (0, [some (.ref 22), none], [], (gSh, σ, u))
  refine gRunN_ok hG.1 2 _ (2, [some (.ref 22), some (.int 0)], [], (gSh, σ, u)) rfl ?_
  obtain ⟨e2, hq, hP⟩ := g_b1 hP
  refine l_Reader_checkMakers_2 E d u hG σ gN 0 _ hq (fun w3 he => ?_) (fun  he => ?_)
  · subst he
    try dsimp only [gSum] at hP
    refine gRunN_ok hG.1 5 _ (27, [some (.ref 22), some (.int w3)], [.int w3, .ref 23, .int 4, .ref 22], (gSh, σ, u)) rfl ?_
    obtain ⟨hc, hP⟩ := g_if hP
    refine hG.1 _ (28, [some (.ref 22), some (.int w3)], [.int (σ.1 23 w3.toNatClampNeg), .int 4, .ref 22], (gSh, σ, u)) _ rfl (if_pos hc) ?_
    obtain ⟨s5, hq, hP⟩ := g_b1 hP
    refine hG.2.2.2.1 _ _ _ [.ref 22, .int 4, .int (σ.1 23 w3.toNatClampNeg)] [] _ (gSh, s5, u) none _ _ _ _ _ _ rfl rfl rfl rfl rfl rfl (c_Reader_refuse E (d + 0) u 4 (σ.1 23 w3.toNatClampNeg) _  hq) (Nat.le_refl _) (Nat.le_refl _) (Nat.le_refl _) (Nat.le_refl _) ?_
    show G (31, [some (.ref 22), some (.int w3)], [], (gSh, s5, u))
    cases hP
    exact hG.2.1 _ _ rfl rfl
  · subst he
    try dsimp only [gSum] at hP
    cases hP
    exact hG.2.1 _ _ rfl rfl⟩
def p_Gates_firstReady_2 (E : gEv) (k0 : Nat) (l2 : Int32) (σ : gS) : Option ((Int32) ⊕ ((Int32) ⊕ (Unit))) :=
  if (σ.1 13 8) ≤ l2 then (some (.inr (.inr ()))) else (if gIn l2 (σ.2.1 20) then if (σ.1 20 l2.toNatClampNeg) = ((-1) : Int32) then (gB1 (p_Gates_isReady E l2 k0 σ) fun v1 => if v1 = 0 then (gLet (l2 + 1) fun x3 => some (.inl x3)) else (some (.inr (.inl l2)))) else (gLet (l2 + 1) fun x4 => some (.inl x4)) else none)
set_option maxRecDepth 20000 in
theorem b_Gates_firstReady_2 (E : gEv) (d u : Nat) {G : gFr → Prop} {vo : Option Value} {sr : gS} (hG : gClo E gDf gP4 gY71 (some .int) (gC E gDf gMs (d + 1)) (vo, (gSh, sr, u)) G) (k0 : Nat) (l2 : Int32) (σ : gS) (hk0 : gSh[k0]? = some (.inl (.int, none))) {r : (Int32) ⊕ ((Int32) ⊕ (Unit))} (hP : p_Gates_firstReady_2 E k0 l2 σ = some r) (K1 : ∀ (m2 : Int32), r = .inl m2 → G (2, [some (.ref 13), some (.ref k0), some (.int m2)], [], (gSh, σ, u))) (K2 : ∀ (m2 : Int32), r = .inr (.inl m2) → G (29, [none, none, some (.int m2)], [], (gSh, σ, u))) (K3 : r = .inr (.inr ()) → G (37, [none, none, none], [], (gSh, σ, u))) : G (2, [some (.ref 13), some (.ref k0), some (.int l2)], [], (gSh, σ, u)) := by
  unfold p_Gates_firstReady_2 at hP
  refine gRunN_ok hG.1 3 _ (7, [some (.ref 13), some (.ref k0), some (.int l2)], [.int (σ.1 13 8), .int l2], (gSh, σ, u)) rfl ?_
  rcases g_ite hP with ⟨hc, hP⟩ | ⟨hc, hP⟩
  · refine hG.1 _ (37, [some (.ref 13), some (.ref k0), some (.int l2)], [], (gSh, σ, u)) _ rfl (if_pos hc) ?_
    refine hG.2.2.2.2.1 _ _ [none, none, none] _ _ trivial ?_
    cases hP
    exact K3 rfl
  · refine hG.1 _ (10, [some (.ref 13), some (.ref k0), some (.int l2)], [], (gSh, σ, u)) _ rfl (if_neg hc) ?_
    refine gRunN_ok hG.1 3 _ (15, [some (.ref 13), some (.ref k0), some (.int l2)], [.int l2, .ref 20], (gSh, σ, u)) rfl ?_
    obtain ⟨hc, hP⟩ := g_if hP
    refine hG.1 _ (16, [some (.ref 13), some (.ref k0), some (.int l2)], [.int (σ.1 20 l2.toNatClampNeg)], (gSh, σ, u)) _ rfl (if_pos hc) ?_
    refine gRunN_ok hG.1 1 _ (17, [some (.ref 13), some (.ref k0), some (.int l2)], [.int (-1), .int (σ.1 20 l2.toNatClampNeg)], (gSh, σ, u)) rfl ?_
    rcases g_ite hP with ⟨hc, hP⟩ | ⟨hc, hP⟩
    · refine hG.1 _ (20, [some (.ref 13), some (.ref k0), some (.int l2)], [], (gSh, σ, u)) _ rfl (if_pos hc) ?_
      refine gRunN_ok hG.1 3 _ (23, [some (.ref 13), some (.ref k0), some (.int l2)], [.ref k0, .int l2, .ref 13], (gSh, σ, u)) rfl ?_
      obtain ⟨v1, hq, hP⟩ := g_b1 hP
      refine hG.2.2.2.1 _ _ _ [.ref 13, .int l2, .ref k0] [] _ (gSh, σ, u) (some (.int v1)) _ _ _ _ _ _ rfl rfl rfl rfl rfl rfl (c_Gates_isReady E (d + 0) u l2 k0 _ hk0 hq) (Nat.le_refl _) (Nat.le_refl _) (Nat.le_refl _) (Nat.le_refl _) ?_
      show G (26, [some (.ref 13), some (.ref k0), some (.int l2)], [.int v1], (gSh, σ, u))
      rcases g_ite hP with ⟨hc, hP⟩ | ⟨hc, hP⟩
      · refine hG.1 _ (31, [some (.ref 13), some (.ref k0), some (.int l2)], [], (gSh, σ, u)) _ rfl (if_pos hc) ?_
        refine gRunN_ok hG.1 1 _ (34, [some (.ref 13), some (.ref k0), some (.int (l2 + 1))], [], (gSh, σ, u)) rfl ?_
        obtain ⟨x3, ex3, hP⟩ := g_let hP
        rw [← ex3]
        refine gRunN_ok hG.1 1 _ (2, [some (.ref 13), some (.ref k0), some (.int x3)], [], (gSh, σ, u)) rfl ?_
        cases hP
        exact K1 _ rfl
      · refine hG.1 _ (29, [some (.ref 13), some (.ref k0), some (.int l2)], [], (gSh, σ, u)) _ rfl (if_neg hc) ?_
        refine hG.2.2.2.2.1 _ _ [none, none, some (.int l2)] _ _ ⟨rfl, trivial⟩ ?_
        cases hP
        exact K2 _ rfl
    · refine hG.1 _ (31, [some (.ref 13), some (.ref k0), some (.int l2)], [], (gSh, σ, u)) _ rfl (if_neg hc) ?_
      refine gRunN_ok hG.1 1 _ (34, [some (.ref 13), some (.ref k0), some (.int (l2 + 1))], [], (gSh, σ, u)) rfl ?_
      obtain ⟨x4, ex4, hP⟩ := g_let hP
      rw [← ex4]
      refine gRunN_ok hG.1 1 _ (2, [some (.ref 13), some (.ref k0), some (.int x4)], [], (gSh, σ, u)) rfl ?_
      cases hP
      exact K1 _ rfl
theorem l_Gates_firstReady_2 (E : gEv) (d u : Nat) {G : gFr → Prop} {vo : Option Value} {sr : gS} (hG : gClo E gDf gP4 gY71 (some .int) (gC E gDf gMs (d + 1)) (vo, (gSh, sr, u)) G) (k0 : Nat) (σ : gS) (hk0 : gSh[k0]? = some (.inl (.int, none))) : ∀ (n : Nat) (l2 : Int32) (e : ((Int32) ⊕ (Unit))), gIter (fun z => p_Gates_firstReady_2 E k0 z σ) n l2 = some e → (∀ (m2 : Int32), e = (.inl m2) → G (29, [none, none, some (.int m2)], [], (gSh, σ, u))) → ( e = (.inr ()) → G (37, [none, none, none], [], (gSh, σ, u))) → G (2, [some (.ref 13), some (.ref k0), some (.int l2)], [], (gSh, σ, u)) := by
  intro n
  induction n with
  | zero => intro l2 e h; cases h
  | succ n ih =>
    intro l2 e h K2 K3
    rcases g_iter h with ⟨z, h1, h2⟩ | h1
    · exact b_Gates_firstReady_2 E d u hG k0 l2 σ hk0 h1 (fun n0 hz => by cases hz; exact ih _ e h2 K2 K3) (fun _ hz => by cases hz) (fun  hz => by cases hz)
    · exact b_Gates_firstReady_2 E d u hG k0 l2 σ hk0 h1 (fun _ hz => by cases hz) (fun m2 hz => K2 m2 (by cases hz; rfl)) (fun  hz => K3  (by cases hz; rfl))
def p_Gates_firstReady (E : gEv) (k0 : Nat) (σ : gS) : Option (Int32) :=
  gB1 (gIter (fun z => p_Gates_firstReady_2 E k0 z σ) gN 0) fun e5 => gSum e5 (fun e7 => (fun w6 => some w6) e7) (fun e8 => some (-1))
set_option maxRecDepth 20000 in
theorem c_Gates_firstReady (E : gEv) (d u : Nat) (k0 : Nat) (σ : gS) {v : Int32}  (hk0 : gSh[k0]? = some (.inl (.int, none))) (hq : p_Gates_firstReady E k0 σ = some v) : gC E gDf gMs (d + 2) 71 [.ref 13, .ref k0] (gSh, σ, u) (some (.int v), (gSh, σ, u)) := ⟨gM71, rfl, Nat.le_of_ble_eq_true rfl, fun G hG => by
  have hP := hq
  unfold p_Gates_firstReady at hP
  replace hG : gClo E gDf gP4 gY71 (some .int) (gC E gDf gMs (d + 1)) (some (.int v), (gSh, σ, u)) G := hG
  show G (0, [some (.ref 13), some (.ref k0), none], [], (gSh, σ, u))
  refine gRunN_ok hG.1 2 _ (2, [some (.ref 13), some (.ref k0), some (.int 0)], [], (gSh, σ, u)) rfl ?_
  obtain ⟨e5, hq, hP⟩ := g_b1 hP
  refine l_Gates_firstReady_2 E d u hG k0 σ hk0 gN 0 _ hq (fun w6 he => ?_) (fun  he => ?_)
  · subst he
    try dsimp only [gSum] at hP
    refine gRunN_ok hG.1 1 _ (30, [none, none, some (.int w6)], [.int w6], (gSh, σ, u)) rfl ?_
    cases hP
    exact hG.2.1 _ _ rfl rfl
  · subst he
    try dsimp only [gSum] at hP
    refine gRunN_ok hG.1 1 _ (38, [none, none, none], [.int (-1)], (gSh, σ, u)) rfl ?_
    cases hP
    exact hG.2.1 _ _ rfl rfl⟩
def p_Mapper_leaveOut_7 (E : gEv) (l1 : Int32) (l3 : Int32) (l4 : Int32) (σ : gS) : Option ((Int32 × Int32 × gS) ⊕ (Int32 × gS)) :=
  if l4 < 0 then (some (.inr (l3, σ))) else (gB1 (p_Mapper_depends E l1 l3 l4 σ) fun v2 => if v2 = 0 then (gB1 (p_Mapper_remove E l1 l3 l4 σ) fun s5 => gLet (l3 + (-1)) fun x6 => gLet (l4 + (-1)) fun x7 => some (.inl (x6, x7, s5))) else (gLet (l4 + (-1)) fun x8 => some (.inl (l3, x8, σ))))
set_option maxRecDepth 20000 in
theorem b_Mapper_leaveOut_7 (E : gEv) (d u : Nat) {G : gFr → Prop} {vo : Option Value} {sr : gS} (hG : gClo E gDf gP7 gY78 (some .int) (gC E gDf gMs (d + 1)) (vo, (gSh, sr, u)) G) (l1 : Int32) (l3 : Int32) (l4 : Int32) (σ : gS) {r : (Int32 × Int32 × gS) ⊕ (Int32 × gS)} (hP : p_Mapper_leaveOut_7 E l1 l3 l4 σ = some r) (K1 : ∀ (m3 : Int32) (m4 : Int32) (σ1 : gS), r = .inl (m3, m4, σ1) → G (7, [some (.ref 40), some (.int l1), none, some (.int m3), some (.int m4)], [], (gSh, σ1, u))) (K2 : ∀ (m3 : Int32) (σ1 : gS), r = .inr (m3, σ1) → G (40, [none, none, none, some (.int m3), none], [], (gSh, σ1, u))) : G (7, [some (.ref 40), some (.int l1), none, some (.int l3), some (.int l4)], [], (gSh, σ, u)) := by
  unfold p_Mapper_leaveOut_7 at hP
  refine gRunN_ok hG.1 1 _ (9, [some (.ref 40), some (.int l1), none, some (.int l3), some (.int l4)], [.int l4], (gSh, σ, u)) rfl ?_
  rcases g_ite hP with ⟨hc, hP⟩ | ⟨hc, hP⟩
  · refine hG.1 _ (40, [some (.ref 40), some (.int l1), none, some (.int l3), some (.int l4)], [], (gSh, σ, u)) _ rfl (if_pos hc) ?_
    refine hG.2.2.2.2.1 _ _ [none, none, none, some (.int l3), none] _ _ ⟨rfl, trivial⟩ ?_
    cases hP
    exact K2 _ _ rfl
  · refine hG.1 _ (12, [some (.ref 40), some (.int l1), none, some (.int l3), some (.int l4)], [], (gSh, σ, u)) _ rfl (if_neg hc) ?_
    refine gRunN_ok hG.1 4 _ (17, [some (.ref 40), some (.int l1), none, some (.int l3), some (.int l4)], [.int l4, .int l3, .int l1, .ref 40], (gSh, σ, u)) rfl ?_
    obtain ⟨v2, hq, hP⟩ := g_b1 hP
    refine hG.2.2.2.1 _ _ _ [.ref 40, .int l1, .int l3, .int l4] [] _ (gSh, σ, u) (some (.int v2)) _ _ _ _ _ _ rfl rfl rfl rfl rfl rfl (c_Mapper_depends E (d + 0) u l1 l3 l4 _  hq) (Nat.le_refl _) (Nat.le_refl _) (Nat.le_refl _) (Nat.le_refl _) ?_
    show G (20, [some (.ref 40), some (.int l1), none, some (.int l3), some (.int l4)], [.int v2], (gSh, σ, u))
    rcases g_ite hP with ⟨hc, hP⟩ | ⟨hc, hP⟩
    · refine hG.1 _ (23, [some (.ref 40), some (.int l1), none, some (.int l3), some (.int l4)], [], (gSh, σ, u)) _ rfl (if_pos hc) ?_
      refine gRunN_ok hG.1 4 _ (28, [some (.ref 40), some (.int l1), none, some (.int l3), some (.int l4)], [.int l4, .int l3, .int l1, .ref 40], (gSh, σ, u)) rfl ?_
      obtain ⟨s5, hq, hP⟩ := g_b1 hP
      refine hG.2.2.2.1 _ _ _ [.ref 40, .int l1, .int l3, .int l4] [] _ (gSh, s5, u) none _ _ _ _ _ _ rfl rfl rfl rfl rfl rfl (c_Mapper_remove E (d + 0) u l1 l3 l4 _  hq) (Nat.le_refl _) (Nat.le_refl _) (Nat.le_refl _) (Nat.le_refl _) ?_
      show G (31, [some (.ref 40), some (.int l1), none, some (.int l3), some (.int l4)], [], (gSh, s5, u))
      refine gRunN_ok hG.1 1 _ (34, [some (.ref 40), some (.int l1), none, some (.int (l3 + (-1))), some (.int l4)], [], (gSh, s5, u)) rfl ?_
      obtain ⟨x6, ex6, hP⟩ := g_let hP
      rw [← ex6]
      refine gRunN_ok hG.1 1 _ (37, [some (.ref 40), some (.int l1), none, some (.int x6), some (.int (l4 + (-1)))], [], (gSh, s5, u)) rfl ?_
      obtain ⟨x7, ex7, hP⟩ := g_let hP
      rw [← ex7]
      refine gRunN_ok hG.1 1 _ (7, [some (.ref 40), some (.int l1), none, some (.int x6), some (.int x7)], [], (gSh, s5, u)) rfl ?_
      cases hP
      exact K1 _ _ _ rfl
    · refine hG.1 _ (34, [some (.ref 40), some (.int l1), none, some (.int l3), some (.int l4)], [], (gSh, σ, u)) _ rfl (if_neg hc) ?_
      refine gRunN_ok hG.1 1 _ (37, [some (.ref 40), some (.int l1), none, some (.int l3), some (.int (l4 + (-1)))], [], (gSh, σ, u)) rfl ?_
      obtain ⟨x8, ex8, hP⟩ := g_let hP
      rw [← ex8]
      refine gRunN_ok hG.1 1 _ (7, [some (.ref 40), some (.int l1), none, some (.int l3), some (.int x8)], [], (gSh, σ, u)) rfl ?_
      cases hP
      exact K1 _ _ _ rfl
theorem l_Mapper_leaveOut_7 (E : gEv) (d u : Nat) {G : gFr → Prop} {vo : Option Value} {sr : gS} (hG : gClo E gDf gP7 gY78 (some .int) (gC E gDf gMs (d + 1)) (vo, (gSh, sr, u)) G) (l1 : Int32) : ∀ (n : Nat) (l3 : Int32) (l4 : Int32) (σ : gS) (e : (Int32 × gS)), gIter (fun z => p_Mapper_leaveOut_7 E l1 z.1 z.2.1 z.2.2) n (l3, l4, σ) = some e → (∀ (m3 : Int32) (σ1 : gS), e = (m3, σ1) → G (40, [none, none, none, some (.int m3), none], [], (gSh, σ1, u))) → G (7, [some (.ref 40), some (.int l1), none, some (.int l3), some (.int l4)], [], (gSh, σ, u)) := by
  intro n
  induction n with
  | zero => intro l3 l4 σ e h; cases h
  | succ n ih =>
    intro l3 l4 σ e h K2
    rcases g_iter h with ⟨z, h1, h2⟩ | h1
    · exact b_Mapper_leaveOut_7 E d u hG l1 l3 l4 σ h1 (fun n0 n1 n2 hz => by cases hz; exact ih _ _ _ e h2 K2) (fun _ _ hz => by cases hz)
    · exact b_Mapper_leaveOut_7 E d u hG l1 l3 l4 σ h1 (fun _ _ _ hz => by cases hz) (fun m3 σ1 hz => K2 m3 σ1 (by cases hz; rfl))
def p_Mapper_leaveOut (E : gEv) (a0 : Int32) (a1 : Int32) (σ : gS) : Option (Int32 × gS) :=
  gLet (a1 - (1 : Int32)) fun x1 => gB1 (gIter (fun z => p_Mapper_leaveOut_7 E a0 z.1 z.2.1 z.2.2) gN (a1, x1, σ)) fun e9 => (fun w10 s11 => some (w10, s11)) e9.1 e9.2
set_option maxRecDepth 20000 in
theorem c_Mapper_leaveOut (E : gEv) (d u : Nat) (a0 : Int32) (a1 : Int32) (σ : gS) {v : Int32} {sr : gS}  (hq : p_Mapper_leaveOut E a0 a1 σ = some (v, sr)) : gC E gDf gMs (d + 2) 78 [.ref 40, .int a0, .int a1] (gSh, σ, u) (some (.int v), (gSh, sr, u)) := ⟨gM78, rfl, Nat.le_of_ble_eq_true rfl, fun G hG => by
  have hP := hq
  unfold p_Mapper_leaveOut at hP
  replace hG : gClo E gDf gP7 gY78 (some .int) (gC E gDf gMs (d + 1)) (some (.int v), (gSh, sr, u)) G := hG
  show G (0, [some (.ref 40), some (.int a0), some (.int a1), none, none], [], (gSh, σ, u))
  refine gRunN_ok hG.1 6 _ (7, [some (.ref 40), some (.int a0), some (.int a1), some (.int a1), some (.int (a1 - (1 : Int32)))], [], (gSh, σ, u)) rfl ?_
  obtain ⟨x1, ex1, hP⟩ := g_let hP
  rw [← ex1]
  refine hG.2.2.2.2.1 _ _ [some (.ref 40), some (.int a0), none, some (.int a1), some (.int x1)] _ _ ⟨rfl, ⟨rfl, ⟨rfl, ⟨rfl, trivial⟩⟩⟩⟩ ?_
  obtain ⟨e9, hq, hP⟩ := g_b1 hP
  refine l_Mapper_leaveOut_7 E d u hG a0 gN a1 x1 σ _ hq (fun w10 s11 he => ?_)
  · subst he
    try dsimp only [gSum] at hP
    refine gRunN_ok hG.1 1 _ (41, [none, none, none, some (.int w10), none], [.int w10], (gSh, s11, u)) rfl ?_
    cases hP
    exact hG.2.1 _ _ rfl rfl⟩
def p_Mapper_addSmall_5 (E : gEv) (l1 : Int32) (l2 : Int32) (l3 : Int32) (l4 : Int32) (σ : gS) : Option ((Int32 × Int32) ⊕ (Int32)) :=
  if (16 : Int32) ≤ l4 then (some (.inr l3)) else (if gIn l1 5 then gLet (42 + l1.toNatClampNeg) fun k1 => if gIn (l4 &&& (((1 : Int32) <<< (l2 &&& 31)) - (1 : Int32))) (σ.2.1 k1) then gLet (l3 ||| ((σ.1 k1 (l4 &&& (((1 : Int32) <<< (l2 &&& 31)) - (1 : Int32))).toNatClampNeg) <<< (l4 &&& 31))) fun x2 => gLet (l4 + 1) fun x3 => some (.inl (x2, x3)) else none else none)
set_option maxRecDepth 20000 in
theorem b_Mapper_addSmall_5 (E : gEv) (d u : Nat) {G : gFr → Prop} {vo : Option Value} {sr : gS} (hG : gClo E gDf gP7 gY81 (some .int) (gC E gDf gMs (d + 1)) (vo, (gSh, sr, u)) G) (l1 : Int32) (l2 : Int32) (l3 : Int32) (l4 : Int32) (σ : gS) {r : (Int32 × Int32) ⊕ (Int32)} (hP : p_Mapper_addSmall_5 E l1 l2 l3 l4 σ = some r) (K1 : ∀ (m3 : Int32) (m4 : Int32), r = .inl (m3, m4) → G (5, [some (.ref 40), some (.int l1), some (.int l2), some (.int m3), some (.int m4)], [], (gSh, σ, u))) (K2 : ∀ (m3 : Int32), r = .inr m3 → G (39, [some (.ref 40), some (.int l1), some (.int l2), some (.int m3), none], [], (gSh, σ, u))) : G (5, [some (.ref 40), some (.int l1), some (.int l2), some (.int l3), some (.int l4)], [], (gSh, σ, u)) := by
  unfold p_Mapper_addSmall_5 at hP
  refine gRunN_ok hG.1 2 _ (9, [some (.ref 40), some (.int l1), some (.int l2), some (.int l3), some (.int l4)], [.int 16, .int l4], (gSh, σ, u)) rfl ?_
  rcases g_ite hP with ⟨hc, hP⟩ | ⟨hc, hP⟩
  · refine hG.1 _ (39, [some (.ref 40), some (.int l1), some (.int l2), some (.int l3), some (.int l4)], [], (gSh, σ, u)) _ rfl (if_pos hc) ?_
    refine hG.2.2.2.2.1 _ _ [some (.ref 40), some (.int l1), some (.int l2), some (.int l3), none] _ _ ⟨rfl, ⟨rfl, ⟨rfl, ⟨rfl, trivial⟩⟩⟩⟩ ?_
    cases hP
    exact K2 _ rfl
  · refine hG.1 _ (12, [some (.ref 40), some (.int l1), some (.int l2), some (.int l3), some (.int l4)], [], (gSh, σ, u)) _ rfl (if_neg hc) ?_
    refine gRunN_ok hG.1 4 _ (18, [some (.ref 40), some (.int l1), some (.int l2), some (.int l3), some (.int l4)], [.int l1, .ref 41, .int l3], (gSh, σ, u)) rfl ?_
    obtain ⟨hc, hP⟩ := g_if hP
    refine hG.1 _ (19, [some (.ref 40), some (.int l1), some (.int l2), some (.int l3), some (.int l4)], [.ref (42 + l1.toNatClampNeg), .int l3], (gSh, σ, u)) _ rfl (gAa_41 hc) ?_
    obtain ⟨k1, ek1, hP⟩ := g_let hP
    rw [← ek1]
    have hk1 : gSh[k1]? = some (.inl (.byte, none)) := by rw [ek1]; exact gSh_41 hc
    refine gRunN_ok hG.1 7 _ (27, [some (.ref 40), some (.int l1), some (.int l2), some (.int l3), some (.int l4)], [.int (l4 &&& (((1 : Int32) <<< (l2 &&& 31)) - (1 : Int32))), .ref k1, .int l3], (gSh, σ, u)) rfl ?_
    obtain ⟨hc, hP⟩ := g_if hP
    refine hG.1 _ (28, [some (.ref 40), some (.int l1), some (.int l2), some (.int l3), some (.int l4)], [.int (σ.1 k1 (l4 &&& (((1 : Int32) <<< (l2 &&& 31)) - (1 : Int32))).toNatClampNeg), .int l3], (gSh, σ, u)) _ rfl (by simp only [gStep, gAldI, gAldB, gAldL, gAstI, gAstB, gAstL, gAln, hk1]; exact (if_pos hc)) ?_
    refine gRunN_ok hG.1 4 _ (33, [some (.ref 40), some (.int l1), some (.int l2), some (.int (l3 ||| ((σ.1 k1 (l4 &&& (((1 : Int32) <<< (l2 &&& 31)) - (1 : Int32))).toNatClampNeg) <<< (l4 &&& 31)))), some (.int l4)], [], (gSh, σ, u)) rfl ?_
    obtain ⟨x2, ex2, hP⟩ := g_let hP
    rw [← ex2]
    refine gRunN_ok hG.1 1 _ (36, [some (.ref 40), some (.int l1), some (.int l2), some (.int x2), some (.int (l4 + 1))], [], (gSh, σ, u)) rfl ?_
    obtain ⟨x3, ex3, hP⟩ := g_let hP
    rw [← ex3]
    refine gRunN_ok hG.1 1 _ (5, [some (.ref 40), some (.int l1), some (.int l2), some (.int x2), some (.int x3)], [], (gSh, σ, u)) rfl ?_
    cases hP
    exact K1 _ _ rfl
theorem l_Mapper_addSmall_5 (E : gEv) (d u : Nat) {G : gFr → Prop} {vo : Option Value} {sr : gS} (hG : gClo E gDf gP7 gY81 (some .int) (gC E gDf gMs (d + 1)) (vo, (gSh, sr, u)) G) (l1 : Int32) (l2 : Int32) (σ : gS) : ∀ (n : Nat) (l3 : Int32) (l4 : Int32) (e : (Int32)), gIter (fun z => p_Mapper_addSmall_5 E l1 l2 z.1 z.2 σ) n (l3, l4) = some e → (∀ (m3 : Int32), e = m3 → G (39, [some (.ref 40), some (.int l1), some (.int l2), some (.int m3), none], [], (gSh, σ, u))) → G (5, [some (.ref 40), some (.int l1), some (.int l2), some (.int l3), some (.int l4)], [], (gSh, σ, u)) := by
  intro n
  induction n with
  | zero => intro l3 l4 e h; cases h
  | succ n ih =>
    intro l3 l4 e h K2
    rcases g_iter h with ⟨z, h1, h2⟩ | h1
    · exact b_Mapper_addSmall_5 E d u hG l1 l2 l3 l4 σ h1 (fun n0 n1 hz => by cases hz; exact ih _ _ e h2 K2) (fun _ hz => by cases hz)
    · exact b_Mapper_addSmall_5 E d u hG l1 l2 l3 l4 σ h1 (fun _ _ hz => by cases hz) (fun m3 hz => K2 m3 (by cases hz; rfl))
def p_Mapper_addSmall (E : gEv) (a0 : Int32) (a1 : Int32) (σ : gS) : Option (Int32 × gS) :=
  gB1 (gIter (fun z => p_Mapper_addSmall_5 E a0 a1 z.1 z.2 σ) gN (0, 0)) fun e4 => (fun w5 => if gIn a0 5 then gLet (48 + a0.toNatClampNeg) fun k6 => gB2 (p_Circuit_addLut E k6 a1 w5 σ) fun v7 s8 => some (v7, s8) else none) e4
set_option maxRecDepth 20000 in
theorem c_Mapper_addSmall (E : gEv) (d u : Nat) (a0 : Int32) (a1 : Int32) (σ : gS) {v : Int32} {sr : gS}  (hq : p_Mapper_addSmall E a0 a1 σ = some (v, sr)) : gC E gDf gMs (d + 2) 81 [.ref 40, .int a0, .int a1] (gSh, σ, u) (some (.int v), (gSh, sr, u)) := ⟨gM81, rfl, Nat.le_of_ble_eq_true rfl, fun G hG => by
  have hP := hq
  unfold p_Mapper_addSmall at hP
  replace hG : gClo E gDf gP7 gY81 (some .int) (gC E gDf gMs (d + 1)) (some (.int v), (gSh, sr, u)) G := hG
  show G (0, [some (.ref 40), some (.int a0), some (.int a1), none, none], [], (gSh, σ, u))
  refine gRunN_ok hG.1 4 _ (5, [some (.ref 40), some (.int a0), some (.int a1), some (.int 0), some (.int 0)], [], (gSh, σ, u)) rfl ?_
  obtain ⟨e4, hq, hP⟩ := g_b1 hP
  refine l_Mapper_addSmall_5 E d u hG a0 a1 σ gN 0 0 _ hq (fun w5 he => ?_)
  · replace he := he.symm
    subst he
    try dsimp only [gSum] at hP
    refine gRunN_ok hG.1 5 _ (48, [some (.ref 40), some (.int a0), some (.int a1), some (.int w5), none], [.int a0, .ref 47, .ref 30], (gSh, σ, u)) rfl ?_
    obtain ⟨hc, hP⟩ := g_if hP
    refine hG.1 _ (49, [some (.ref 40), some (.int a0), some (.int a1), some (.int w5), none], [.ref (48 + a0.toNatClampNeg), .ref 30], (gSh, σ, u)) _ rfl (gAa_47 hc) ?_
    obtain ⟨k6, ek6, hP⟩ := g_let hP
    rw [← ek6]
    have hk6 : gSh[k6]? = some (.inl (.int, none)) := by rw [ek6]; exact gSh_47 hc
    refine gRunN_ok hG.1 2 _ (51, [some (.ref 40), some (.int a0), some (.int a1), some (.int w5), none], [.int w5, .int a1, .ref k6, .ref 30], (gSh, σ, u)) rfl ?_
    obtain ⟨v7, s8, hq, hP⟩ := g_b2 hP
    refine hG.2.2.2.1 _ _ _ [.ref 30, .ref k6, .int a1, .int w5] [] _ (gSh, s8, u) (some (.int v7)) _ _ _ _ _ _ rfl rfl rfl rfl rfl rfl (c_Circuit_addLut E (d + 0) u k6 a1 w5 _ hk6 hq) (Nat.le_refl _) (Nat.le_refl _) (Nat.le_refl _) (Nat.le_refl _) ?_
    show G (54, [some (.ref 40), some (.int a0), some (.int a1), some (.int w5), none], [.int v7], (gSh, s8, u))
    cases hP
    exact hG.2.1 _ _ rfl rfl⟩
def p_Packing_countSources_10 (E : gEv) (l1 : Int32) (σ : gS) : Option ((Int32 × gS) ⊕ (gS)) :=
  if ((σ.1 30 10) * (4 : Int32)) ≤ l1 then (some (.inr σ)) else (if gIn l1 (σ.2.1 35) then if (σ.1 35 l1.toNatClampNeg) = ((-1) : Int32) then (gLet (l1 + 1) fun x3 => some (.inl (x3, σ))) else (if gIn l1 (σ.2.1 35) then if gIn (σ.1 35 l1.toNatClampNeg) (σ.2.1 58) then if gIn (σ.1 35 l1.toNatClampNeg) (σ.2.1 58) then gLet (gPut σ 58 (σ.1 35 l1.toNatClampNeg).toNatClampNeg ((σ.1 58 (σ.1 35 l1.toNatClampNeg).toNatClampNeg) + (1 : Int32))) fun s4 => gLet (l1 + 1) fun x5 => some (.inl (x5, s4)) else none else none else none) else none)
set_option maxRecDepth 20000 in
theorem b_Packing_countSources_10 (E : gEv) (d u : Nat) {G : gFr → Prop} {vo : Option Value} {sr : gS} (hG : gClo E gDf gP8 gY86 none (gC E gDf gMs (d + 1)) (vo, (gSh, sr, u)) G) (l1 : Int32) (σ : gS) {r : (Int32 × gS) ⊕ (gS)} (hP : p_Packing_countSources_10 E l1 σ = some r) (K1 : ∀ (m1 : Int32) (σ1 : gS), r = .inl (m1, σ1) → G (10, [some (.ref 53), some (.int m1)], [], (gSh, σ1, u))) (K2 : ∀ (σ1 : gS), r = .inr σ1 → G (60, [some (.ref 53), none], [], (gSh, σ1, u))) : G (10, [some (.ref 53), some (.int l1)], [], (gSh, σ, u)) := by
  unfold p_Packing_countSources_10 at hP
  refine gRunN_ok hG.1 6 _ (20, [some (.ref 53), some (.int l1)], [.int ((σ.1 30 10) * (4 : Int32)), .int l1], (gSh, σ, u)) rfl ?_
  rcases g_ite hP with ⟨hc, hP⟩ | ⟨hc, hP⟩
  · refine hG.1 _ (60, [some (.ref 53), some (.int l1)], [], (gSh, σ, u)) _ rfl (if_pos hc) ?_
    refine hG.2.2.2.2.1 _ _ [some (.ref 53), none] _ _ ⟨rfl, trivial⟩ ?_
    cases hP
    exact K2 _ rfl
  · refine hG.1 _ (23, [some (.ref 53), some (.int l1)], [], (gSh, σ, u)) _ rfl (if_neg hc) ?_
    refine gRunN_ok hG.1 4 _ (31, [some (.ref 53), some (.int l1)], [.int l1, .ref 35], (gSh, σ, u)) rfl ?_
    obtain ⟨hc, hP⟩ := g_if hP
    refine hG.1 _ (32, [some (.ref 53), some (.int l1)], [.int (σ.1 35 l1.toNatClampNeg)], (gSh, σ, u)) _ rfl (if_pos hc) ?_
    refine gRunN_ok hG.1 1 _ (33, [some (.ref 53), some (.int l1)], [.int (-1), .int (σ.1 35 l1.toNatClampNeg)], (gSh, σ, u)) rfl ?_
    rcases g_ite hP with ⟨hc, hP⟩ | ⟨hc, hP⟩
    · refine hG.1 _ (54, [some (.ref 53), some (.int l1)], [], (gSh, σ, u)) _ rfl (if_pos hc) ?_
      refine gRunN_ok hG.1 1 _ (57, [some (.ref 53), some (.int (l1 + 1))], [], (gSh, σ, u)) rfl ?_
      obtain ⟨x3, ex3, hP⟩ := g_let hP
      rw [← ex3]
      refine gRunN_ok hG.1 1 _ (10, [some (.ref 53), some (.int x3)], [], (gSh, σ, u)) rfl ?_
      cases hP
      exact K1 _ _ rfl
    · refine hG.1 _ (36, [some (.ref 53), some (.int l1)], [], (gSh, σ, u)) _ rfl (if_neg hc) ?_
      refine gRunN_ok hG.1 6 _ (48, [some (.ref 53), some (.int l1)], [.int l1, .ref 35, .ref 58], (gSh, σ, u)) rfl ?_
      obtain ⟨hc, hP⟩ := g_if hP
      refine hG.1 _ (49, [some (.ref 53), some (.int l1)], [.int (σ.1 35 l1.toNatClampNeg), .ref 58], (gSh, σ, u)) _ rfl (if_pos hc) ?_
      refine gRunN_ok hG.1 1 _ (50, [some (.ref 53), some (.int l1)], [.int (σ.1 35 l1.toNatClampNeg), .ref 58, .int (σ.1 35 l1.toNatClampNeg), .ref 58], (gSh, σ, u)) rfl ?_
      obtain ⟨hc, hP⟩ := g_if hP
      refine hG.1 _ (51, [some (.ref 53), some (.int l1)], [.int (σ.1 58 (σ.1 35 l1.toNatClampNeg).toNatClampNeg), .int (σ.1 35 l1.toNatClampNeg), .ref 58], (gSh, σ, u)) _ rfl (if_pos hc) ?_
      refine gRunN_ok hG.1 2 _ (53, [some (.ref 53), some (.int l1)], [.int ((σ.1 58 (σ.1 35 l1.toNatClampNeg).toNatClampNeg) + (1 : Int32)), .int (σ.1 35 l1.toNatClampNeg), .ref 58], (gSh, σ, u)) rfl ?_
      obtain ⟨hc, hP⟩ := g_if hP
      refine hG.1 _ (54, [some (.ref 53), some (.int l1)], [], (gSh, (gPut σ 58 (σ.1 35 l1.toNatClampNeg).toNatClampNeg ((σ.1 58 (σ.1 35 l1.toNatClampNeg).toNatClampNeg) + (1 : Int32))), u)) _ rfl (if_pos hc) ?_
      obtain ⟨s4, es4, hP⟩ := g_let hP
      rw [← es4]
      refine gRunN_ok hG.1 1 _ (57, [some (.ref 53), some (.int (l1 + 1))], [], (gSh, s4, u)) rfl ?_
      obtain ⟨x5, ex5, hP⟩ := g_let hP
      rw [← ex5]
      refine gRunN_ok hG.1 1 _ (10, [some (.ref 53), some (.int x5)], [], (gSh, s4, u)) rfl ?_
      cases hP
      exact K1 _ _ rfl
theorem l_Packing_countSources_10 (E : gEv) (d u : Nat) {G : gFr → Prop} {vo : Option Value} {sr : gS} (hG : gClo E gDf gP8 gY86 none (gC E gDf gMs (d + 1)) (vo, (gSh, sr, u)) G) : ∀ (n : Nat) (l1 : Int32) (σ : gS) (e : (gS)), gIter (fun z => p_Packing_countSources_10 E z.1 z.2) n (l1, σ) = some e → (∀ (σ1 : gS), e = σ1 → G (60, [some (.ref 53), none], [], (gSh, σ1, u))) → G (10, [some (.ref 53), some (.int l1)], [], (gSh, σ, u)) := by
  intro n
  induction n with
  | zero => intro l1 σ e h; cases h
  | succ n ih =>
    intro l1 σ e h K2
    rcases g_iter h with ⟨z, h1, h2⟩ | h1
    · exact b_Packing_countSources_10 E d u hG l1 σ h1 (fun n0 n1 hz => by cases hz; exact ih _ _ e h2 K2) (fun _ hz => by cases hz)
    · exact b_Packing_countSources_10 E d u hG l1 σ h1 (fun _ _ hz => by cases hz) (fun σ1 hz => K2 σ1 (by cases hz; rfl))
def p_Packing_countSources_62 (E : gEv) (l1 : Int32) (σ : gS) : Option ((Int32 × gS) ⊕ (gS)) :=
  if (σ.1 30 11) ≤ l1 then (some (.inr σ)) else (if gIn l1 (σ.2.1 31) then if gIn (σ.1 31 l1.toNatClampNeg) (σ.2.1 58) then if gIn (σ.1 31 l1.toNatClampNeg) (σ.2.1 58) then gLet (gPut σ 58 (σ.1 31 l1.toNatClampNeg).toNatClampNeg ((σ.1 58 (σ.1 31 l1.toNatClampNeg).toNatClampNeg) + (1 : Int32))) fun s8 => gLet (l1 + 1) fun x9 => some (.inl (x9, s8)) else none else none else none)
set_option maxRecDepth 20000 in
theorem b_Packing_countSources_62 (E : gEv) (d u : Nat) {G : gFr → Prop} {vo : Option Value} {sr : gS} (hG : gClo E gDf gP8 gY86 none (gC E gDf gMs (d + 1)) (vo, (gSh, sr, u)) G) (l1 : Int32) (σ : gS) {r : (Int32 × gS) ⊕ (gS)} (hP : p_Packing_countSources_62 E l1 σ = some r) (K1 : ∀ (m1 : Int32) (σ1 : gS), r = .inl (m1, σ1) → G (62, [some (.ref 53), some (.int m1)], [], (gSh, σ1, u))) (K2 : ∀ (σ1 : gS), r = .inr σ1 → G (97, [some (.ref 53), none], [], (gSh, σ1, u))) : G (62, [some (.ref 53), some (.int l1)], [], (gSh, σ, u)) := by
  unfold p_Packing_countSources_62 at hP
  refine gRunN_ok hG.1 4 _ (70, [some (.ref 53), some (.int l1)], [.int (σ.1 30 11), .int l1], (gSh, σ, u)) rfl ?_
  rcases g_ite hP with ⟨hc, hP⟩ | ⟨hc, hP⟩
  · refine hG.1 _ (97, [some (.ref 53), some (.int l1)], [], (gSh, σ, u)) _ rfl (if_pos hc) ?_
    refine hG.2.2.2.2.1 _ _ [some (.ref 53), none] _ _ ⟨rfl, trivial⟩ ?_
    cases hP
    exact K2 _ rfl
  · refine hG.1 _ (73, [some (.ref 53), some (.int l1)], [], (gSh, σ, u)) _ rfl (if_neg hc) ?_
    refine gRunN_ok hG.1 6 _ (85, [some (.ref 53), some (.int l1)], [.int l1, .ref 31, .ref 58], (gSh, σ, u)) rfl ?_
    obtain ⟨hc, hP⟩ := g_if hP
    refine hG.1 _ (86, [some (.ref 53), some (.int l1)], [.int (σ.1 31 l1.toNatClampNeg), .ref 58], (gSh, σ, u)) _ rfl (if_pos hc) ?_
    refine gRunN_ok hG.1 1 _ (87, [some (.ref 53), some (.int l1)], [.int (σ.1 31 l1.toNatClampNeg), .ref 58, .int (σ.1 31 l1.toNatClampNeg), .ref 58], (gSh, σ, u)) rfl ?_
    obtain ⟨hc, hP⟩ := g_if hP
    refine hG.1 _ (88, [some (.ref 53), some (.int l1)], [.int (σ.1 58 (σ.1 31 l1.toNatClampNeg).toNatClampNeg), .int (σ.1 31 l1.toNatClampNeg), .ref 58], (gSh, σ, u)) _ rfl (if_pos hc) ?_
    refine gRunN_ok hG.1 2 _ (90, [some (.ref 53), some (.int l1)], [.int ((σ.1 58 (σ.1 31 l1.toNatClampNeg).toNatClampNeg) + (1 : Int32)), .int (σ.1 31 l1.toNatClampNeg), .ref 58], (gSh, σ, u)) rfl ?_
    obtain ⟨hc, hP⟩ := g_if hP
    refine hG.1 _ (91, [some (.ref 53), some (.int l1)], [], (gSh, (gPut σ 58 (σ.1 31 l1.toNatClampNeg).toNatClampNeg ((σ.1 58 (σ.1 31 l1.toNatClampNeg).toNatClampNeg) + (1 : Int32))), u)) _ rfl (if_pos hc) ?_
    obtain ⟨s8, es8, hP⟩ := g_let hP
    rw [← es8]
    refine gRunN_ok hG.1 1 _ (94, [some (.ref 53), some (.int (l1 + 1))], [], (gSh, s8, u)) rfl ?_
    obtain ⟨x9, ex9, hP⟩ := g_let hP
    rw [← ex9]
    refine gRunN_ok hG.1 1 _ (62, [some (.ref 53), some (.int x9)], [], (gSh, s8, u)) rfl ?_
    cases hP
    exact K1 _ _ rfl
theorem l_Packing_countSources_62 (E : gEv) (d u : Nat) {G : gFr → Prop} {vo : Option Value} {sr : gS} (hG : gClo E gDf gP8 gY86 none (gC E gDf gMs (d + 1)) (vo, (gSh, sr, u)) G) : ∀ (n : Nat) (l1 : Int32) (σ : gS) (e : (gS)), gIter (fun z => p_Packing_countSources_62 E z.1 z.2) n (l1, σ) = some e → (∀ (σ1 : gS), e = σ1 → G (97, [some (.ref 53), none], [], (gSh, σ1, u))) → G (62, [some (.ref 53), some (.int l1)], [], (gSh, σ, u)) := by
  intro n
  induction n with
  | zero => intro l1 σ e h; cases h
  | succ n ih =>
    intro l1 σ e h K2
    rcases g_iter h with ⟨z, h1, h2⟩ | h1
    · exact b_Packing_countSources_62 E d u hG l1 σ h1 (fun n0 n1 hz => by cases hz; exact ih _ _ e h2 K2) (fun _ hz => by cases hz)
    · exact b_Packing_countSources_62 E d u hG l1 σ h1 (fun _ _ hz => by cases hz) (fun σ1 hz => K2 σ1 (by cases hz; rfl))
def p_Packing_countSources_99 (E : gEv) (l1 : Int32) (σ : gS) : Option ((Int32 × gS) ⊕ (gS)) :=
  if (σ.1 30 13) ≤ l1 then (some (.inr σ)) else (if gIn l1 (σ.2.1 39) then if gIn (σ.1 39 l1.toNatClampNeg) (σ.2.1 58) then if gIn (σ.1 39 l1.toNatClampNeg) (σ.2.1 58) then gLet (gPut σ 58 (σ.1 39 l1.toNatClampNeg).toNatClampNeg ((σ.1 58 (σ.1 39 l1.toNatClampNeg).toNatClampNeg) + (1 : Int32))) fun s12 => gLet (l1 + 1) fun x13 => some (.inl (x13, s12)) else none else none else none)
set_option maxRecDepth 20000 in
theorem b_Packing_countSources_99 (E : gEv) (d u : Nat) {G : gFr → Prop} {vo : Option Value} {sr : gS} (hG : gClo E gDf gP8 gY86 none (gC E gDf gMs (d + 1)) (vo, (gSh, sr, u)) G) (l1 : Int32) (σ : gS) {r : (Int32 × gS) ⊕ (gS)} (hP : p_Packing_countSources_99 E l1 σ = some r) (K1 : ∀ (m1 : Int32) (σ1 : gS), r = .inl (m1, σ1) → G (99, [some (.ref 53), some (.int m1)], [], (gSh, σ1, u))) (K2 : ∀ (σ1 : gS), r = .inr σ1 → G (134, [none, none], [], (gSh, σ1, u))) : G (99, [some (.ref 53), some (.int l1)], [], (gSh, σ, u)) := by
  unfold p_Packing_countSources_99 at hP
  refine gRunN_ok hG.1 4 _ (107, [some (.ref 53), some (.int l1)], [.int (σ.1 30 13), .int l1], (gSh, σ, u)) rfl ?_
  rcases g_ite hP with ⟨hc, hP⟩ | ⟨hc, hP⟩
  · refine hG.1 _ (134, [some (.ref 53), some (.int l1)], [], (gSh, σ, u)) _ rfl (if_pos hc) ?_
    refine hG.2.2.2.2.1 _ _ [none, none] _ _ trivial ?_
    cases hP
    exact K2 _ rfl
  · refine hG.1 _ (110, [some (.ref 53), some (.int l1)], [], (gSh, σ, u)) _ rfl (if_neg hc) ?_
    refine gRunN_ok hG.1 6 _ (122, [some (.ref 53), some (.int l1)], [.int l1, .ref 39, .ref 58], (gSh, σ, u)) rfl ?_
    obtain ⟨hc, hP⟩ := g_if hP
    refine hG.1 _ (123, [some (.ref 53), some (.int l1)], [.int (σ.1 39 l1.toNatClampNeg), .ref 58], (gSh, σ, u)) _ rfl (if_pos hc) ?_
    refine gRunN_ok hG.1 1 _ (124, [some (.ref 53), some (.int l1)], [.int (σ.1 39 l1.toNatClampNeg), .ref 58, .int (σ.1 39 l1.toNatClampNeg), .ref 58], (gSh, σ, u)) rfl ?_
    obtain ⟨hc, hP⟩ := g_if hP
    refine hG.1 _ (125, [some (.ref 53), some (.int l1)], [.int (σ.1 58 (σ.1 39 l1.toNatClampNeg).toNatClampNeg), .int (σ.1 39 l1.toNatClampNeg), .ref 58], (gSh, σ, u)) _ rfl (if_pos hc) ?_
    refine gRunN_ok hG.1 2 _ (127, [some (.ref 53), some (.int l1)], [.int ((σ.1 58 (σ.1 39 l1.toNatClampNeg).toNatClampNeg) + (1 : Int32)), .int (σ.1 39 l1.toNatClampNeg), .ref 58], (gSh, σ, u)) rfl ?_
    obtain ⟨hc, hP⟩ := g_if hP
    refine hG.1 _ (128, [some (.ref 53), some (.int l1)], [], (gSh, (gPut σ 58 (σ.1 39 l1.toNatClampNeg).toNatClampNeg ((σ.1 58 (σ.1 39 l1.toNatClampNeg).toNatClampNeg) + (1 : Int32))), u)) _ rfl (if_pos hc) ?_
    obtain ⟨s12, es12, hP⟩ := g_let hP
    rw [← es12]
    refine gRunN_ok hG.1 1 _ (131, [some (.ref 53), some (.int (l1 + 1))], [], (gSh, s12, u)) rfl ?_
    obtain ⟨x13, ex13, hP⟩ := g_let hP
    rw [← ex13]
    refine gRunN_ok hG.1 1 _ (99, [some (.ref 53), some (.int x13)], [], (gSh, s12, u)) rfl ?_
    cases hP
    exact K1 _ _ rfl
theorem l_Packing_countSources_99 (E : gEv) (d u : Nat) {G : gFr → Prop} {vo : Option Value} {sr : gS} (hG : gClo E gDf gP8 gY86 none (gC E gDf gMs (d + 1)) (vo, (gSh, sr, u)) G) : ∀ (n : Nat) (l1 : Int32) (σ : gS) (e : (gS)), gIter (fun z => p_Packing_countSources_99 E z.1 z.2) n (l1, σ) = some e → (∀ (σ1 : gS), e = σ1 → G (134, [none, none], [], (gSh, σ1, u))) → G (99, [some (.ref 53), some (.int l1)], [], (gSh, σ, u)) := by
  intro n
  induction n with
  | zero => intro l1 σ e h; cases h
  | succ n ih =>
    intro l1 σ e h K2
    rcases g_iter h with ⟨z, h1, h2⟩ | h1
    · exact b_Packing_countSources_99 E d u hG l1 σ h1 (fun n0 n1 hz => by cases hz; exact ih _ _ e h2 K2) (fun _ hz => by cases hz)
    · exact b_Packing_countSources_99 E d u hG l1 σ h1 (fun _ _ hz => by cases hz) (fun σ1 hz => K2 σ1 (by cases hz; rfl))
def p_Packing_countSources (E : gEv) (σ : gS) : Option (gS) :=
  gB1 (p_Arrays_fillI E 58 0 σ) fun s2 => gB1 (gIter (fun z => p_Packing_countSources_10 E z.1 z.2) gN (0, s2)) fun e6 => (fun s7 => gB1 (gIter (fun z => p_Packing_countSources_62 E z.1 z.2) gN (0, s7)) fun e10 => (fun s11 => gB1 (gIter (fun z => p_Packing_countSources_99 E z.1 z.2) gN (0, s11)) fun e14 => (fun s15 => some s15) e14) e10) e6
set_option maxRecDepth 20000 in
theorem c_Packing_countSources (E : gEv) (d u : Nat) (σ : gS) {sr : gS}  (hq : p_Packing_countSources E σ = some sr) : gC E gDf gMs (d + 2) 86 [.ref 53] (gSh, σ, u) (none, (gSh, sr, u)) := ⟨gM86, rfl, Nat.le_of_ble_eq_true rfl, fun G hG => by
  have hP := hq
  unfold p_Packing_countSources at hP
  replace hG : gClo E gDf gP8 gY86 none (gC E gDf gMs (d + 1)) (none, (gSh, sr, u)) G := hG
  show G (0, [some (.ref 53), none], [], (gSh, σ, u))
  refine gRunN_ok hG.1 3 _ (5, [some (.ref 53), none], [.int 0, .ref 58], (gSh, σ, u)) rfl ?_
  obtain ⟨s2, hq, hP⟩ := g_b1 hP
  refine hG.2.2.2.1 _ _ _ [.ref 58, .int 0] [] _ (gSh, s2, u) none _ _ _ _ _ _ rfl rfl rfl rfl rfl rfl (c_Arrays_fillI E (d + 0) u 58 0 _ rfl hq) (Nat.le_refl _) (Nat.le_refl _) (Nat.le_refl _) (Nat.le_refl _) ?_
  show G (8, [some (.ref 53), none], [], (gSh, s2, u))
  refine gRunN_ok hG.1 2 _ (10, [some (.ref 53), some (.int 0)], [], (gSh, s2, u)) rfl ?_
  obtain ⟨e6, hq, hP⟩ := g_b1 hP
  refine l_Packing_countSources_10 E d u hG gN 0 s2 _ hq (fun s7 he => ?_)
  · replace he := he.symm
    subst he
    try dsimp only [gSum] at hP
    refine gRunN_ok hG.1 2 _ (62, [some (.ref 53), some (.int 0)], [], (gSh, s7, u)) rfl ?_
    obtain ⟨e10, hq, hP⟩ := g_b1 hP
    refine l_Packing_countSources_62 E d u hG gN 0 s7 _ hq (fun s11 he => ?_)
    · replace he := he.symm
      subst he
      try dsimp only [gSum] at hP
      refine gRunN_ok hG.1 2 _ (99, [some (.ref 53), some (.int 0)], [], (gSh, s11, u)) rfl ?_
      obtain ⟨e14, hq, hP⟩ := g_b1 hP
      refine l_Packing_countSources_99 E d u hG gN 0 s11 _ hq (fun s15 he => ?_)
      · replace he := he.symm
        subst he
        try dsimp only [gSum] at hP
        cases hP
        exact hG.2.1 _ _ rfl rfl⟩
def p_Packing_setSinks_10 (E : gEv) (l1 : Int32) (σ : gS) : Option ((Int32 × gS) ⊕ (gS)) :=
  if ((σ.1 53 15) * (4 : Int32)) ≤ l1 then (some (.inr σ)) else (gB1 (p_Packing_pinSource E (l1 / (4 : Int32)) (l1 - l1 / (4 : Int32) * (4 : Int32)) σ) fun v3 => if v3 = ((-1) : Int32) then (gLet (l1 + 1) fun x5 => some (.inl (x5, σ))) else (gB1 (p_Packing_addSink E v3 l1 σ) fun s7 => gLet (l1 + 1) fun x8 => some (.inl (x8, s7))))
set_option maxRecDepth 20000 in
theorem b_Packing_setSinks_10 (E : gEv) (d u : Nat) {G : gFr → Prop} {vo : Option Value} {sr : gS} (hG : gClo E gDf gP8 gY88 none (gC E gDf gMs (d + 1)) (vo, (gSh, sr, u)) G) (l1 : Int32) (σ : gS) {r : (Int32 × gS) ⊕ (gS)} (hP : p_Packing_setSinks_10 E l1 σ = some r) (K1 : ∀ (m1 : Int32) (σ1 : gS), r = .inl (m1, σ1) → G (10, [some (.ref 53), some (.int m1), none], [], (gSh, σ1, u))) (K2 : ∀ (σ1 : gS), r = .inr σ1 → G (48, [some (.ref 53), none, none], [], (gSh, σ1, u))) : G (10, [some (.ref 53), some (.int l1), none], [], (gSh, σ, u)) := by
  unfold p_Packing_setSinks_10 at hP
  refine gRunN_ok hG.1 5 _ (17, [some (.ref 53), some (.int l1), none], [.int ((σ.1 53 15) * (4 : Int32)), .int l1], (gSh, σ, u)) rfl ?_
  rcases g_ite hP with ⟨hc, hP⟩ | ⟨hc, hP⟩
  · refine hG.1 _ (48, [some (.ref 53), some (.int l1), none], [], (gSh, σ, u)) _ rfl (if_pos hc) ?_
    refine hG.2.2.2.2.1 _ _ [some (.ref 53), none, none] _ _ ⟨rfl, trivial⟩ ?_
    cases hP
    exact K2 _ rfl
  · refine hG.1 _ (20, [some (.ref 53), some (.int l1), none], [], (gSh, σ, u)) _ rfl (if_neg hc) ?_
    refine gRunN_ok hG.1 7 _ (27, [some (.ref 53), some (.int l1), none], [.int (l1 - l1 / (4 : Int32) * (4 : Int32)), .int (l1 / (4 : Int32)), .ref 53], (gSh, σ, u)) rfl ?_
    obtain ⟨v3, hq, hP⟩ := g_b1 hP
    refine hG.2.2.2.1 _ _ _ [.ref 53, .int (l1 / (4 : Int32)), .int (l1 - l1 / (4 : Int32) * (4 : Int32))] [] _ (gSh, σ, u) (some (.int v3)) _ _ _ _ _ _ rfl rfl rfl rfl rfl rfl (c_Packing_pinSource E (d + 0) u (l1 / (4 : Int32)) (l1 - l1 / (4 : Int32) * (4 : Int32)) _  hq) (Nat.le_refl _) (Nat.le_refl _) (Nat.le_refl _) (Nat.le_refl _) ?_
    show G (30, [some (.ref 53), some (.int l1), none], [.int v3], (gSh, σ, u))
    refine gRunN_ok hG.1 3 _ (33, [some (.ref 53), some (.int l1), some (.int v3)], [.int (-1), .int v3], (gSh, σ, u)) rfl ?_
    rcases g_ite hP with ⟨hc, hP⟩ | ⟨hc, hP⟩
    · refine hG.1 _ (42, [some (.ref 53), some (.int l1), some (.int v3)], [], (gSh, σ, u)) _ rfl (if_pos hc) ?_
      refine gRunN_ok hG.1 1 _ (45, [some (.ref 53), some (.int (l1 + 1)), some (.int v3)], [], (gSh, σ, u)) rfl ?_
      obtain ⟨x5, ex5, hP⟩ := g_let hP
      rw [← ex5]
      refine gRunN_ok hG.1 1 _ (10, [some (.ref 53), some (.int x5), some (.int v3)], [], (gSh, σ, u)) rfl ?_
      refine hG.2.2.2.2.1 _ _ [some (.ref 53), some (.int x5), none] _ _ ⟨rfl, ⟨rfl, trivial⟩⟩ ?_
      cases hP
      exact K1 _ _ rfl
    · refine hG.1 _ (36, [some (.ref 53), some (.int l1), some (.int v3)], [], (gSh, σ, u)) _ rfl (if_neg hc) ?_
      refine gRunN_ok hG.1 3 _ (39, [some (.ref 53), some (.int l1), some (.int v3)], [.int l1, .int v3, .ref 53], (gSh, σ, u)) rfl ?_
      obtain ⟨s7, hq, hP⟩ := g_b1 hP
      refine hG.2.2.2.1 _ _ _ [.ref 53, .int v3, .int l1] [] _ (gSh, s7, u) none _ _ _ _ _ _ rfl rfl rfl rfl rfl rfl (c_Packing_addSink E (d + 0) u v3 l1 _  hq) (Nat.le_refl _) (Nat.le_refl _) (Nat.le_refl _) (Nat.le_refl _) ?_
      show G (42, [some (.ref 53), some (.int l1), some (.int v3)], [], (gSh, s7, u))
      refine gRunN_ok hG.1 1 _ (45, [some (.ref 53), some (.int (l1 + 1)), some (.int v3)], [], (gSh, s7, u)) rfl ?_
      obtain ⟨x8, ex8, hP⟩ := g_let hP
      rw [← ex8]
      refine gRunN_ok hG.1 1 _ (10, [some (.ref 53), some (.int x8), some (.int v3)], [], (gSh, s7, u)) rfl ?_
      refine hG.2.2.2.2.1 _ _ [some (.ref 53), some (.int x8), none] _ _ ⟨rfl, ⟨rfl, trivial⟩⟩ ?_
      cases hP
      exact K1 _ _ rfl
theorem l_Packing_setSinks_10 (E : gEv) (d u : Nat) {G : gFr → Prop} {vo : Option Value} {sr : gS} (hG : gClo E gDf gP8 gY88 none (gC E gDf gMs (d + 1)) (vo, (gSh, sr, u)) G) : ∀ (n : Nat) (l1 : Int32) (σ : gS) (e : (gS)), gIter (fun z => p_Packing_setSinks_10 E z.1 z.2) n (l1, σ) = some e → (∀ (σ1 : gS), e = σ1 → G (48, [some (.ref 53), none, none], [], (gSh, σ1, u))) → G (10, [some (.ref 53), some (.int l1), none], [], (gSh, σ, u)) := by
  intro n
  induction n with
  | zero => intro l1 σ e h; cases h
  | succ n ih =>
    intro l1 σ e h K2
    rcases g_iter h with ⟨z, h1, h2⟩ | h1
    · exact b_Packing_setSinks_10 E d u hG l1 σ h1 (fun n0 n1 hz => by cases hz; exact ih _ _ e h2 K2) (fun _ hz => by cases hz)
    · exact b_Packing_setSinks_10 E d u hG l1 σ h1 (fun _ _ hz => by cases hz) (fun σ1 hz => K2 σ1 (by cases hz; rfl))
def p_Packing_setSinks_50 (E : gEv) (l1 : Int32) (σ : gS) : Option ((Int32 × gS) ⊕ (gS)) :=
  if (σ.1 30 13) ≤ l1 then (some (.inr σ)) else (if gIn l1 (σ.2.1 39) then gB1 (p_Packing_addSink E (σ.1 39 l1.toNatClampNeg) (((σ.1 1 6) * (4 : Int32)) + l1) σ) fun s12 => gLet (l1 + 1) fun x13 => some (.inl (x13, s12)) else none)
set_option maxRecDepth 20000 in
theorem b_Packing_setSinks_50 (E : gEv) (d u : Nat) {G : gFr → Prop} {vo : Option Value} {sr : gS} (hG : gClo E gDf gP8 gY88 none (gC E gDf gMs (d + 1)) (vo, (gSh, sr, u)) G) (l1 : Int32) (σ : gS) {r : (Int32 × gS) ⊕ (gS)} (hP : p_Packing_setSinks_50 E l1 σ = some r) (K1 : ∀ (m1 : Int32) (σ1 : gS), r = .inl (m1, σ1) → G (50, [some (.ref 53), some (.int m1), none], [], (gSh, σ1, u))) (K2 : ∀ (σ1 : gS), r = .inr σ1 → G (91, [none, none, none], [], (gSh, σ1, u))) : G (50, [some (.ref 53), some (.int l1), none], [], (gSh, σ, u)) := by
  unfold p_Packing_setSinks_50 at hP
  refine gRunN_ok hG.1 4 _ (58, [some (.ref 53), some (.int l1), none], [.int (σ.1 30 13), .int l1], (gSh, σ, u)) rfl ?_
  rcases g_ite hP with ⟨hc, hP⟩ | ⟨hc, hP⟩
  · refine hG.1 _ (91, [some (.ref 53), some (.int l1), none], [], (gSh, σ, u)) _ rfl (if_pos hc) ?_
    refine hG.2.2.2.2.1 _ _ [none, none, none] _ _ trivial ?_
    cases hP
    exact K2 _ rfl
  · refine hG.1 _ (61, [some (.ref 53), some (.int l1), none], [], (gSh, σ, u)) _ rfl (if_neg hc) ?_
    refine gRunN_ok hG.1 5 _ (70, [some (.ref 53), some (.int l1), none], [.int l1, .ref 39, .ref 53], (gSh, σ, u)) rfl ?_
    obtain ⟨hc, hP⟩ := g_if hP
    refine hG.1 _ (71, [some (.ref 53), some (.int l1), none], [.int (σ.1 39 l1.toNatClampNeg), .ref 53], (gSh, σ, u)) _ rfl (if_pos hc) ?_
    refine gRunN_ok hG.1 7 _ (82, [some (.ref 53), some (.int l1), none], [.int (((σ.1 1 6) * (4 : Int32)) + l1), .int (σ.1 39 l1.toNatClampNeg), .ref 53], (gSh, σ, u)) rfl ?_
    obtain ⟨s12, hq, hP⟩ := g_b1 hP
    refine hG.2.2.2.1 _ _ _ [.ref 53, .int (σ.1 39 l1.toNatClampNeg), .int (((σ.1 1 6) * (4 : Int32)) + l1)] [] _ (gSh, s12, u) none _ _ _ _ _ _ rfl rfl rfl rfl rfl rfl (c_Packing_addSink E (d + 0) u (σ.1 39 l1.toNatClampNeg) (((σ.1 1 6) * (4 : Int32)) + l1) _  hq) (Nat.le_refl _) (Nat.le_refl _) (Nat.le_refl _) (Nat.le_refl _) ?_
    show G (85, [some (.ref 53), some (.int l1), none], [], (gSh, s12, u))
    refine gRunN_ok hG.1 1 _ (88, [some (.ref 53), some (.int (l1 + 1)), none], [], (gSh, s12, u)) rfl ?_
    obtain ⟨x13, ex13, hP⟩ := g_let hP
    rw [← ex13]
    refine gRunN_ok hG.1 1 _ (50, [some (.ref 53), some (.int x13), none], [], (gSh, s12, u)) rfl ?_
    cases hP
    exact K1 _ _ rfl
theorem l_Packing_setSinks_50 (E : gEv) (d u : Nat) {G : gFr → Prop} {vo : Option Value} {sr : gS} (hG : gClo E gDf gP8 gY88 none (gC E gDf gMs (d + 1)) (vo, (gSh, sr, u)) G) : ∀ (n : Nat) (l1 : Int32) (σ : gS) (e : (gS)), gIter (fun z => p_Packing_setSinks_50 E z.1 z.2) n (l1, σ) = some e → (∀ (σ1 : gS), e = σ1 → G (91, [none, none, none], [], (gSh, σ1, u))) → G (50, [some (.ref 53), some (.int l1), none], [], (gSh, σ, u)) := by
  intro n
  induction n with
  | zero => intro l1 σ e h; cases h
  | succ n ih =>
    intro l1 σ e h K2
    rcases g_iter h with ⟨z, h1, h2⟩ | h1
    · exact b_Packing_setSinks_50 E d u hG l1 σ h1 (fun n0 n1 hz => by cases hz; exact ih _ _ e h2 K2) (fun _ hz => by cases hz)
    · exact b_Packing_setSinks_50 E d u hG l1 σ h1 (fun _ _ hz => by cases hz) (fun σ1 hz => K2 σ1 (by cases hz; rfl))
def p_Packing_setSinks (E : gEv) (σ : gS) : Option (gS) :=
  gB1 (p_Arrays_fillI E 58 0 σ) fun s2 => gB1 (gIter (fun z => p_Packing_setSinks_10 E z.1 z.2) gN (0, s2)) fun e9 => (fun s10 => gB1 (gIter (fun z => p_Packing_setSinks_50 E z.1 z.2) gN (0, s10)) fun e14 => (fun s15 => some s15) e14) e9
set_option maxRecDepth 20000 in
theorem c_Packing_setSinks (E : gEv) (d u : Nat) (σ : gS) {sr : gS}  (hq : p_Packing_setSinks E σ = some sr) : gC E gDf gMs (d + 2) 88 [.ref 53] (gSh, σ, u) (none, (gSh, sr, u)) := ⟨gM88, rfl, Nat.le_of_ble_eq_true rfl, fun G hG => by
  have hP := hq
  unfold p_Packing_setSinks at hP
  replace hG : gClo E gDf gP8 gY88 none (gC E gDf gMs (d + 1)) (none, (gSh, sr, u)) G := hG
  show G (0, [some (.ref 53), none, none], [], (gSh, σ, u))
  refine gRunN_ok hG.1 3 _ (5, [some (.ref 53), none, none], [.int 0, .ref 58], (gSh, σ, u)) rfl ?_
  obtain ⟨s2, hq, hP⟩ := g_b1 hP
  refine hG.2.2.2.1 _ _ _ [.ref 58, .int 0] [] _ (gSh, s2, u) none _ _ _ _ _ _ rfl rfl rfl rfl rfl rfl (c_Arrays_fillI E (d + 0) u 58 0 _ rfl hq) (Nat.le_refl _) (Nat.le_refl _) (Nat.le_refl _) (Nat.le_refl _) ?_
  show G (8, [some (.ref 53), none, none], [], (gSh, s2, u))
  refine gRunN_ok hG.1 2 _ (10, [some (.ref 53), some (.int 0), none], [], (gSh, s2, u)) rfl ?_
  obtain ⟨e9, hq, hP⟩ := g_b1 hP
  refine l_Packing_setSinks_10 E d u hG gN 0 s2 _ hq (fun s10 he => ?_)
  · replace he := he.symm
    subst he
    try dsimp only [gSum] at hP
    refine gRunN_ok hG.1 2 _ (50, [some (.ref 53), some (.int 0), none], [], (gSh, s10, u)) rfl ?_
    obtain ⟨e14, hq, hP⟩ := g_b1 hP
    refine l_Packing_setSinks_50 E d u hG gN 0 s10 _ hq (fun s15 he => ?_)
    · replace he := he.symm
      subst he
      try dsimp only [gSum] at hP
      cases hP
      exact hG.2.1 _ _ rfl rfl⟩
def p_Packing_setTouched_66 (E : gEv) (l1 : Int32) (l5 : Int32) (l6 : Int32) (σ : gS) : Option ((Int32 × Int32) ⊕ (Int32)) :=
  if l1 ≤ l6 then (some (.inr l5)) else (if gIn l6 (σ.2.1 65) then if (σ.1 65 l6.toNatClampNeg) = l5 then (gLet (l6 + 1) fun x6 => some (.inl ((-1), x6))) else (gLet (l6 + 1) fun x7 => some (.inl (l5, x7))) else none)
set_option maxRecDepth 20000 in
theorem b_Packing_setTouched_66 (E : gEv) (d u : Nat) {G : gFr → Prop} {vo : Option Value} {sr : gS} (hG : gClo E gDf gP8 gY91 none (gC E gDf gMs (d + 1)) (vo, (gSh, sr, u)) G) (l1 : Int32) (l5 : Int32) (l6 : Int32) (σ : gS) {r : (Int32 × Int32) ⊕ (Int32)} (hP : p_Packing_setTouched_66 E l1 l5 l6 σ = some r) (K1 : ∀ (m5 : Int32) (m6 : Int32), r = .inl (m5, m6) → G (66, [some (.ref 53), some (.int l1), none, none, none, some (.int m5), some (.int m6)], [], (gSh, σ, u))) (K2 : ∀ (m5 : Int32), r = .inr m5 → G (98, [some (.ref 53), some (.int l1), none, none, none, some (.int m5), none], [], (gSh, σ, u))) : G (66, [some (.ref 53), some (.int l1), none, none, none, some (.int l5), some (.int l6)], [], (gSh, σ, u)) := by
  unfold p_Packing_setTouched_66 at hP
  refine gRunN_ok hG.1 2 _ (69, [some (.ref 53), some (.int l1), none, none, none, some (.int l5), some (.int l6)], [.int l1, .int l6], (gSh, σ, u)) rfl ?_
  rcases g_ite hP with ⟨hc, hP⟩ | ⟨hc, hP⟩
  · refine hG.1 _ (98, [some (.ref 53), some (.int l1), none, none, none, some (.int l5), some (.int l6)], [], (gSh, σ, u)) _ rfl (if_pos hc) ?_
    refine hG.2.2.2.2.1 _ _ [some (.ref 53), some (.int l1), none, none, none, some (.int l5), none] _ _ ⟨rfl, ⟨rfl, ⟨rfl, trivial⟩⟩⟩ ?_
    cases hP
    exact K2 _ rfl
  · refine hG.1 _ (72, [some (.ref 53), some (.int l1), none, none, none, some (.int l5), some (.int l6)], [], (gSh, σ, u)) _ rfl (if_neg hc) ?_
    refine gRunN_ok hG.1 3 _ (78, [some (.ref 53), some (.int l1), none, none, none, some (.int l5), some (.int l6)], [.int l6, .ref 65], (gSh, σ, u)) rfl ?_
    obtain ⟨hc, hP⟩ := g_if hP
    refine hG.1 _ (79, [some (.ref 53), some (.int l1), none, none, none, some (.int l5), some (.int l6)], [.int (σ.1 65 l6.toNatClampNeg)], (gSh, σ, u)) _ rfl (if_pos hc) ?_
    refine gRunN_ok hG.1 1 _ (81, [some (.ref 53), some (.int l1), none, none, none, some (.int l5), some (.int l6)], [.int l5, .int (σ.1 65 l6.toNatClampNeg)], (gSh, σ, u)) rfl ?_
    rcases g_ite hP with ⟨hc, hP⟩ | ⟨hc, hP⟩
    · refine hG.1 _ (84, [some (.ref 53), some (.int l1), none, none, none, some (.int l5), some (.int l6)], [], (gSh, σ, u)) _ rfl (if_pos hc) ?_
      refine gRunN_ok hG.1 4 _ (95, [some (.ref 53), some (.int l1), none, none, none, some (.int (-1)), some (.int (l6 + 1))], [], (gSh, σ, u)) rfl ?_
      obtain ⟨x6, ex6, hP⟩ := g_let hP
      rw [← ex6]
      refine gRunN_ok hG.1 1 _ (66, [some (.ref 53), some (.int l1), none, none, none, some (.int (-1)), some (.int x6)], [], (gSh, σ, u)) rfl ?_
      cases hP
      exact K1 _ _ rfl
    · refine hG.1 _ (88, [some (.ref 53), some (.int l1), none, none, none, some (.int l5), some (.int l6)], [], (gSh, σ, u)) _ rfl (if_neg hc) ?_
      refine gRunN_ok hG.1 3 _ (95, [some (.ref 53), some (.int l1), none, none, none, some (.int l5), some (.int (l6 + 1))], [], (gSh, σ, u)) rfl ?_
      obtain ⟨x7, ex7, hP⟩ := g_let hP
      rw [← ex7]
      refine gRunN_ok hG.1 1 _ (66, [some (.ref 53), some (.int l1), none, none, none, some (.int l5), some (.int x7)], [], (gSh, σ, u)) rfl ?_
      cases hP
      exact K1 _ _ rfl
theorem l_Packing_setTouched_66 (E : gEv) (d u : Nat) {G : gFr → Prop} {vo : Option Value} {sr : gS} (hG : gClo E gDf gP8 gY91 none (gC E gDf gMs (d + 1)) (vo, (gSh, sr, u)) G) (l1 : Int32) (σ : gS) : ∀ (n : Nat) (l5 : Int32) (l6 : Int32) (e : (Int32)), gIter (fun z => p_Packing_setTouched_66 E l1 z.1 z.2 σ) n (l5, l6) = some e → (∀ (m5 : Int32), e = m5 → G (98, [some (.ref 53), some (.int l1), none, none, none, some (.int m5), none], [], (gSh, σ, u))) → G (66, [some (.ref 53), some (.int l1), none, none, none, some (.int l5), some (.int l6)], [], (gSh, σ, u)) := by
  intro n
  induction n with
  | zero => intro l5 l6 e h; cases h
  | succ n ih =>
    intro l5 l6 e h K2
    rcases g_iter h with ⟨z, h1, h2⟩ | h1
    · exact b_Packing_setTouched_66 E d u hG l1 l5 l6 σ h1 (fun n0 n1 hz => by cases hz; exact ih _ _ e h2 K2) (fun _ hz => by cases hz)
    · exact b_Packing_setTouched_66 E d u hG l1 l5 l6 σ h1 (fun _ _ hz => by cases hz) (fun m5 hz => K2 m5 (by cases hz; rfl))
def p_Packing_setTouched_j59_2 (E : gEv) (l1 : Int32) (l3 : Int32) (y0 : Int32) (σ : gS) : Option ((Int32 × gS) ⊕ (gS)) :=
  gLet (l1 - l3) fun x5 => gB1 (gIter (fun z => p_Packing_setTouched_66 E l1 z.1 z.2 σ) gN (y0, x5)) fun e8 => (fun w9 => if gIn l1 (σ.2.1 65) then gLet (gPut σ 65 l1.toNatClampNeg w9) fun s10 => gLet (l1 + 1) fun x11 => some (.inl (x11, s10)) else none) e8
set_option maxRecDepth 20000 in
theorem j_Packing_setTouched_j59_2 (E : gEv) (d u : Nat) {G : gFr → Prop} {vo : Option Value} {sr : gS} (hG : gClo E gDf gP8 gY91 none (gC E gDf gMs (d + 1)) (vo, (gSh, sr, u)) G) (l1 : Int32) (l3 : Int32) (y0 : Int32) (σ : gS) {r : (Int32 × gS) ⊕ (gS)} (hP : p_Packing_setTouched_j59_2 E l1 l3 y0 σ = some r) (K1 : ∀ (m1 : Int32) (σ1 : gS), r = .inl (m1, σ1) → G (2, [some (.ref 53), some (.int m1), none, none, none, none, none], [], (gSh, σ1, u))) (K2 : ∀ (σ1 : gS), r = .inr σ1 → G (112, [none, none, none, none, none, none, none], [], (gSh, σ1, u))) : G (59, [some (.ref 53), some (.int l1), none, some (.int l3), none, none, none], [.int y0], (gSh, σ, u)) := by
  unfold p_Packing_setTouched_j59_2 at hP
  refine gRunN_ok hG.1 5 _ (66, [some (.ref 53), some (.int l1), none, some (.int l3), none, some (.int y0), some (.int (l1 - l3))], [], (gSh, σ, u)) rfl ?_
  obtain ⟨x5, ex5, hP⟩ := g_let hP
  rw [← ex5]
  refine hG.2.2.2.2.1 _ _ [some (.ref 53), some (.int l1), none, none, none, some (.int y0), some (.int x5)] _ _ ⟨rfl, ⟨rfl, ⟨rfl, ⟨rfl, trivial⟩⟩⟩⟩ ?_
  obtain ⟨e8, hq, hP⟩ := g_b1 hP
  refine l_Packing_setTouched_66 E d u hG l1 σ gN y0 x5 _ hq (fun w9 he => ?_)
  · replace he := he.symm
    subst he
    try dsimp only [gSum] at hP
    refine gRunN_ok hG.1 4 _ (105, [some (.ref 53), some (.int l1), none, none, none, some (.int w9), none], [.int w9, .int l1, .ref 65], (gSh, σ, u)) rfl ?_
    obtain ⟨hc, hP⟩ := g_if hP
    refine hG.1 _ (106, [some (.ref 53), some (.int l1), none, none, none, some (.int w9), none], [], (gSh, (gPut σ 65 l1.toNatClampNeg w9), u)) _ rfl (if_pos hc) ?_
    obtain ⟨s10, es10, hP⟩ := g_let hP
    rw [← es10]
    refine gRunN_ok hG.1 1 _ (109, [some (.ref 53), some (.int (l1 + 1)), none, none, none, some (.int w9), none], [], (gSh, s10, u)) rfl ?_
    obtain ⟨x11, ex11, hP⟩ := g_let hP
    rw [← ex11]
    refine gRunN_ok hG.1 1 _ (2, [some (.ref 53), some (.int x11), none, none, none, some (.int w9), none], [], (gSh, s10, u)) rfl ?_
    refine hG.2.2.2.2.1 _ _ [some (.ref 53), some (.int x11), none, none, none, none, none] _ _ ⟨rfl, ⟨rfl, trivial⟩⟩ ?_
    cases hP
    exact K1 _ _ rfl
def p_Packing_setTouched_j40_2 (E : gEv) (l1 : Int32) (l3 : Int32) (y0 : Int32) (σ : gS) : Option ((Int32 × gS) ⊕ (gS)) :=
  if y0 = ((-1) : Int32) then (p_Packing_setTouched_j59_2 E l1 l3 (-1) σ) else (if gIn y0 (σ.2.1 59) then p_Packing_setTouched_j59_2 E l1 l3 (σ.1 59 y0.toNatClampNeg) σ else none)
set_option maxRecDepth 20000 in
theorem j_Packing_setTouched_j40_2 (E : gEv) (d u : Nat) {G : gFr → Prop} {vo : Option Value} {sr : gS} (hG : gClo E gDf gP8 gY91 none (gC E gDf gMs (d + 1)) (vo, (gSh, sr, u)) G) (l1 : Int32) (l3 : Int32) (y0 : Int32) (σ : gS) {r : (Int32 × gS) ⊕ (gS)} (hP : p_Packing_setTouched_j40_2 E l1 l3 y0 σ = some r) (K1 : ∀ (m1 : Int32) (σ1 : gS), r = .inl (m1, σ1) → G (2, [some (.ref 53), some (.int m1), none, none, none, none, none], [], (gSh, σ1, u))) (K2 : ∀ (σ1 : gS), r = .inr σ1 → G (112, [none, none, none, none, none, none, none], [], (gSh, σ1, u))) : G (40, [some (.ref 53), some (.int l1), none, some (.int l3), none, none, none], [.int y0], (gSh, σ, u)) := by
  unfold p_Packing_setTouched_j40_2 at hP
  refine gRunN_ok hG.1 3 _ (45, [some (.ref 53), some (.int l1), none, some (.int l3), some (.int y0), none, none], [.int (-1), .int y0], (gSh, σ, u)) rfl ?_
  rcases g_ite hP with ⟨hc, hP⟩ | ⟨hc, hP⟩
  · refine hG.1 _ (48, [some (.ref 53), some (.int l1), none, some (.int l3), some (.int y0), none, none], [], (gSh, σ, u)) _ rfl (if_pos hc) ?_
    refine gRunN_ok hG.1 2 _ (59, [some (.ref 53), some (.int l1), none, some (.int l3), some (.int y0), none, none], [.int (-1)], (gSh, σ, u)) rfl ?_
    refine hG.2.2.2.2.1 _ _ [some (.ref 53), some (.int l1), none, some (.int l3), none, none, none] _ _ ⟨rfl, ⟨rfl, ⟨rfl, trivial⟩⟩⟩ ?_
    exact j_Packing_setTouched_j59_2 E d u hG l1 l3 (-1) σ hP K1 K2
  · refine hG.1 _ (52, [some (.ref 53), some (.int l1), none, some (.int l3), some (.int y0), none, none], [], (gSh, σ, u)) _ rfl (if_neg hc) ?_
    refine gRunN_ok hG.1 3 _ (58, [some (.ref 53), some (.int l1), none, some (.int l3), some (.int y0), none, none], [.int y0, .ref 59], (gSh, σ, u)) rfl ?_
    obtain ⟨hc, hP⟩ := g_if hP
    refine hG.1 _ (59, [some (.ref 53), some (.int l1), none, some (.int l3), some (.int y0), none, none], [.int (σ.1 59 y0.toNatClampNeg)], (gSh, σ, u)) _ rfl (if_pos hc) ?_
    refine hG.2.2.2.2.1 _ _ [some (.ref 53), some (.int l1), none, some (.int l3), none, none, none] _ _ ⟨rfl, ⟨rfl, ⟨rfl, trivial⟩⟩⟩ ?_
    exact j_Packing_setTouched_j59_2 E d u hG l1 l3 (σ.1 59 y0.toNatClampNeg) σ hP K1 K2
def p_Packing_setTouched_2 (E : gEv) (l1 : Int32) (σ : gS) : Option ((Int32 × gS) ⊕ (gS)) :=
  if ((σ.1 53 15) * (5 : Int32)) ≤ l1 then (some (.inr σ)) else (gLet (l1 / (5 : Int32)) fun x1 => gLet (l1 - l1 / (5 : Int32) * (5 : Int32)) fun x2 => if x2 = 0 then (gB1 (p_Packing_madeSource E x1 σ) fun v3 => p_Packing_setTouched_j40_2 E l1 x2 v3 σ) else (gB1 (p_Packing_pinSource E x1 (x2 - (1 : Int32)) σ) fun v12 => p_Packing_setTouched_j40_2 E l1 x2 v12 σ))
set_option maxRecDepth 20000 in
theorem b_Packing_setTouched_2 (E : gEv) (d u : Nat) {G : gFr → Prop} {vo : Option Value} {sr : gS} (hG : gClo E gDf gP8 gY91 none (gC E gDf gMs (d + 1)) (vo, (gSh, sr, u)) G) (l1 : Int32) (σ : gS) {r : (Int32 × gS) ⊕ (gS)} (hP : p_Packing_setTouched_2 E l1 σ = some r) (K1 : ∀ (m1 : Int32) (σ1 : gS), r = .inl (m1, σ1) → G (2, [some (.ref 53), some (.int m1), none, none, none, none, none], [], (gSh, σ1, u))) (K2 : ∀ (σ1 : gS), r = .inr σ1 → G (112, [none, none, none, none, none, none, none], [], (gSh, σ1, u))) : G (2, [some (.ref 53), some (.int l1), none, none, none, none, none], [], (gSh, σ, u)) := by
  unfold p_Packing_setTouched_2 at hP
  refine gRunN_ok hG.1 5 _ (9, [some (.ref 53), some (.int l1), none, none, none, none, none], [.int ((σ.1 53 15) * (5 : Int32)), .int l1], (gSh, σ, u)) rfl ?_
  rcases g_ite hP with ⟨hc, hP⟩ | ⟨hc, hP⟩
  · refine hG.1 _ (112, [some (.ref 53), some (.int l1), none, none, none, none, none], [], (gSh, σ, u)) _ rfl (if_pos hc) ?_
    refine hG.2.2.2.2.1 _ _ [none, none, none, none, none, none, none] _ _ trivial ?_
    cases hP
    exact K2 _ rfl
  · refine hG.1 _ (12, [some (.ref 53), some (.int l1), none, none, none, none, none], [], (gSh, σ, u)) _ rfl (if_neg hc) ?_
    refine gRunN_ok hG.1 4 _ (16, [some (.ref 53), some (.int l1), some (.int (l1 / (5 : Int32))), none, none, none, none], [], (gSh, σ, u)) rfl ?_
    obtain ⟨x1, ex1, hP⟩ := g_let hP
    rw [← ex1]
    refine gRunN_ok hG.1 4 _ (20, [some (.ref 53), some (.int l1), some (.int x1), some (.int (l1 - l1 / (5 : Int32) * (5 : Int32))), none, none, none], [], (gSh, σ, u)) rfl ?_
    obtain ⟨x2, ex2, hP⟩ := g_let hP
    rw [← ex2]
    refine gRunN_ok hG.1 1 _ (21, [some (.ref 53), some (.int l1), some (.int x1), some (.int x2), none, none, none], [.int x2], (gSh, σ, u)) rfl ?_
    rcases g_ite hP with ⟨hc, hP⟩ | ⟨hc, hP⟩
    · refine hG.1 _ (24, [some (.ref 53), some (.int l1), some (.int x1), some (.int x2), none, none, none], [], (gSh, σ, u)) _ rfl (if_pos hc) ?_
      refine gRunN_ok hG.1 2 _ (26, [some (.ref 53), some (.int l1), some (.int x1), some (.int x2), none, none, none], [.int x1, .ref 53], (gSh, σ, u)) rfl ?_
      obtain ⟨v3, hq, hP⟩ := g_b1 hP
      refine hG.2.2.2.1 _ _ _ [.ref 53, .int x1] [] _ (gSh, σ, u) (some (.int v3)) _ _ _ _ _ _ rfl rfl rfl rfl rfl rfl (c_Packing_madeSource E (d + 0) u x1 _  hq) (Nat.le_refl _) (Nat.le_refl _) (Nat.le_refl _) (Nat.le_refl _) ?_
      show G (29, [some (.ref 53), some (.int l1), some (.int x1), some (.int x2), none, none, none], [.int v3], (gSh, σ, u))
      refine gRunN_ok hG.1 1 _ (40, [some (.ref 53), some (.int l1), some (.int x1), some (.int x2), none, none, none], [.int v3], (gSh, σ, u)) rfl ?_
      refine hG.2.2.2.2.1 _ _ [some (.ref 53), some (.int l1), none, some (.int x2), none, none, none] _ _ ⟨rfl, ⟨rfl, ⟨rfl, trivial⟩⟩⟩ ?_
      exact j_Packing_setTouched_j40_2 E d u hG l1 x2 v3 σ hP K1 K2
    · refine hG.1 _ (32, [some (.ref 53), some (.int l1), some (.int x1), some (.int x2), none, none, none], [], (gSh, σ, u)) _ rfl (if_neg hc) ?_
      refine gRunN_ok hG.1 5 _ (37, [some (.ref 53), some (.int l1), some (.int x1), some (.int x2), none, none, none], [.int (x2 - (1 : Int32)), .int x1, .ref 53], (gSh, σ, u)) rfl ?_
      obtain ⟨v12, hq, hP⟩ := g_b1 hP
      refine hG.2.2.2.1 _ _ _ [.ref 53, .int x1, .int (x2 - (1 : Int32))] [] _ (gSh, σ, u) (some (.int v12)) _ _ _ _ _ _ rfl rfl rfl rfl rfl rfl (c_Packing_pinSource E (d + 0) u x1 (x2 - (1 : Int32)) _  hq) (Nat.le_refl _) (Nat.le_refl _) (Nat.le_refl _) (Nat.le_refl _) ?_
      show G (40, [some (.ref 53), some (.int l1), some (.int x1), some (.int x2), none, none, none], [.int v12], (gSh, σ, u))
      refine hG.2.2.2.2.1 _ _ [some (.ref 53), some (.int l1), none, some (.int x2), none, none, none] _ _ ⟨rfl, ⟨rfl, ⟨rfl, trivial⟩⟩⟩ ?_
      exact j_Packing_setTouched_j40_2 E d u hG l1 x2 v12 σ hP K1 K2
theorem l_Packing_setTouched_2 (E : gEv) (d u : Nat) {G : gFr → Prop} {vo : Option Value} {sr : gS} (hG : gClo E gDf gP8 gY91 none (gC E gDf gMs (d + 1)) (vo, (gSh, sr, u)) G) : ∀ (n : Nat) (l1 : Int32) (σ : gS) (e : (gS)), gIter (fun z => p_Packing_setTouched_2 E z.1 z.2) n (l1, σ) = some e → (∀ (σ1 : gS), e = σ1 → G (112, [none, none, none, none, none, none, none], [], (gSh, σ1, u))) → G (2, [some (.ref 53), some (.int l1), none, none, none, none, none], [], (gSh, σ, u)) := by
  intro n
  induction n with
  | zero => intro l1 σ e h; cases h
  | succ n ih =>
    intro l1 σ e h K2
    rcases g_iter h with ⟨z, h1, h2⟩ | h1
    · exact b_Packing_setTouched_2 E d u hG l1 σ h1 (fun n0 n1 hz => by cases hz; exact ih _ _ e h2 K2) (fun _ hz => by cases hz)
    · exact b_Packing_setTouched_2 E d u hG l1 σ h1 (fun _ _ hz => by cases hz) (fun σ1 hz => K2 σ1 (by cases hz; rfl))
def p_Packing_setTouched (E : gEv) (σ : gS) : Option (gS) :=
  gB1 (gIter (fun z => p_Packing_setTouched_2 E z.1 z.2) gN (0, σ)) fun e14 => (fun s15 => some s15) e14
set_option maxRecDepth 20000 in
theorem c_Packing_setTouched (E : gEv) (d u : Nat) (σ : gS) {sr : gS}  (hq : p_Packing_setTouched E σ = some sr) : gC E gDf gMs (d + 2) 91 [.ref 53] (gSh, σ, u) (none, (gSh, sr, u)) := ⟨gM91, rfl, Nat.le_of_ble_eq_true rfl, fun G hG => by
  have hP := hq
  unfold p_Packing_setTouched at hP
  replace hG : gClo E gDf gP8 gY91 none (gC E gDf gMs (d + 1)) (none, (gSh, sr, u)) G := hG
  show G (0, [some (.ref 53), none, none, none, none, none, none], [], (gSh, σ, u))
  refine gRunN_ok hG.1 2 _ (2, [some (.ref 53), some (.int 0), none, none, none, none, none], [], (gSh, σ, u)) rfl ?_
  obtain ⟨e14, hq, hP⟩ := g_b1 hP
  refine l_Packing_setTouched_2 E d u hG gN 0 σ _ hq (fun s15 he => ?_)
  · replace he := he.symm
    subst he
    try dsimp only [gSum] at hP
    cases hP
    exact hG.2.1 _ _ rfl rfl⟩
def p_Packing_closest_7 (E : gEv) (l2 : Int32) (l3 : Int32) (l4 : Int32) (σ : gS) : Option ((Int32 × Int32 × Int32) ⊕ (Int32)) :=
  if (σ.1 53 15) ≤ l4 then (some (.inr l2)) else (if gIn l4 (σ.2.1 56) then if (σ.1 56 l4.toNatClampNeg) = ((-1) : Int32) then (gB1 (p_Packing_sharedNets E l4 σ) fun v1 => if v1 ≤ l3 then (gLet (l4 + 1) fun x3 => some (.inl (l2, l3, x3))) else (gLet (l4 + 1) fun x4 => some (.inl (l4, v1, x4)))) else (gLet (l4 + 1) fun x5 => some (.inl (l2, l3, x5))) else none)
set_option maxRecDepth 20000 in
theorem b_Packing_closest_7 (E : gEv) (d u : Nat) {G : gFr → Prop} {vo : Option Value} {sr : gS} (hG : gClo E gDf gP8 gY94 (some .int) (gC E gDf gMs (d + 1)) (vo, (gSh, sr, u)) G) (l2 : Int32) (l3 : Int32) (l4 : Int32) (σ : gS) {r : (Int32 × Int32 × Int32) ⊕ (Int32)} (hP : p_Packing_closest_7 E l2 l3 l4 σ = some r) (K1 : ∀ (m2 : Int32) (m3 : Int32) (m4 : Int32), r = .inl (m2, m3, m4) → G (7, [some (.ref 53), none, some (.int m2), some (.int m3), some (.int m4), none], [], (gSh, σ, u))) (K2 : ∀ (m2 : Int32), r = .inr m2 → G (53, [none, none, some (.int m2), none, none, none], [], (gSh, σ, u))) : G (7, [some (.ref 53), none, some (.int l2), some (.int l3), some (.int l4), none], [], (gSh, σ, u)) := by
  unfold p_Packing_closest_7 at hP
  refine gRunN_ok hG.1 3 _ (13, [some (.ref 53), none, some (.int l2), some (.int l3), some (.int l4), none], [.int (σ.1 53 15), .int l4], (gSh, σ, u)) rfl ?_
  rcases g_ite hP with ⟨hc, hP⟩ | ⟨hc, hP⟩
  · refine hG.1 _ (53, [some (.ref 53), none, some (.int l2), some (.int l3), some (.int l4), none], [], (gSh, σ, u)) _ rfl (if_pos hc) ?_
    refine hG.2.2.2.2.1 _ _ [none, none, some (.int l2), none, none, none] _ _ ⟨rfl, trivial⟩ ?_
    cases hP
    exact K2 _ rfl
  · refine hG.1 _ (16, [some (.ref 53), none, some (.int l2), some (.int l3), some (.int l4), none], [], (gSh, σ, u)) _ rfl (if_neg hc) ?_
    refine gRunN_ok hG.1 3 _ (22, [some (.ref 53), none, some (.int l2), some (.int l3), some (.int l4), none], [.int l4, .ref 56], (gSh, σ, u)) rfl ?_
    obtain ⟨hc, hP⟩ := g_if hP
    refine hG.1 _ (23, [some (.ref 53), none, some (.int l2), some (.int l3), some (.int l4), none], [.int (σ.1 56 l4.toNatClampNeg)], (gSh, σ, u)) _ rfl (if_pos hc) ?_
    refine gRunN_ok hG.1 1 _ (24, [some (.ref 53), none, some (.int l2), some (.int l3), some (.int l4), none], [.int (-1), .int (σ.1 56 l4.toNatClampNeg)], (gSh, σ, u)) rfl ?_
    rcases g_ite hP with ⟨hc, hP⟩ | ⟨hc, hP⟩
    · refine hG.1 _ (27, [some (.ref 53), none, some (.int l2), some (.int l3), some (.int l4), none], [], (gSh, σ, u)) _ rfl (if_pos hc) ?_
      refine gRunN_ok hG.1 2 _ (30, [some (.ref 53), none, some (.int l2), some (.int l3), some (.int l4), none], [.int l4, .ref 53], (gSh, σ, u)) rfl ?_
      obtain ⟨v1, hq, hP⟩ := g_b1 hP
      refine hG.2.2.2.1 _ _ _ [.ref 53, .int l4] [] _ (gSh, σ, u) (some (.int v1)) _ _ _ _ _ _ rfl rfl rfl rfl rfl rfl (c_Packing_sharedNets E (d + 0) u l4 _  hq) (Nat.le_refl _) (Nat.le_refl _) (Nat.le_refl _) (Nat.le_refl _) ?_
      show G (33, [some (.ref 53), none, some (.int l2), some (.int l3), some (.int l4), none], [.int v1], (gSh, σ, u))
      refine gRunN_ok hG.1 3 _ (38, [some (.ref 53), none, some (.int l2), some (.int l3), some (.int l4), some (.int v1)], [.int l3, .int v1], (gSh, σ, u)) rfl ?_
      rcases g_ite hP with ⟨hc, hP⟩ | ⟨hc, hP⟩
      · refine hG.1 _ (47, [some (.ref 53), none, some (.int l2), some (.int l3), some (.int l4), some (.int v1)], [], (gSh, σ, u)) _ rfl (if_pos hc) ?_
        refine gRunN_ok hG.1 1 _ (50, [some (.ref 53), none, some (.int l2), some (.int l3), some (.int (l4 + 1)), some (.int v1)], [], (gSh, σ, u)) rfl ?_
        obtain ⟨x3, ex3, hP⟩ := g_let hP
        rw [← ex3]
        refine gRunN_ok hG.1 1 _ (7, [some (.ref 53), none, some (.int l2), some (.int l3), some (.int x3), some (.int v1)], [], (gSh, σ, u)) rfl ?_
        refine hG.2.2.2.2.1 _ _ [some (.ref 53), none, some (.int l2), some (.int l3), some (.int x3), none] _ _ ⟨rfl, ⟨rfl, ⟨rfl, ⟨rfl, trivial⟩⟩⟩⟩ ?_
        cases hP
        exact K1 _ _ _ rfl
      · refine hG.1 _ (41, [some (.ref 53), none, some (.int l2), some (.int l3), some (.int l4), some (.int v1)], [], (gSh, σ, u)) _ rfl (if_neg hc) ?_
        refine gRunN_ok hG.1 5 _ (50, [some (.ref 53), none, some (.int l4), some (.int v1), some (.int (l4 + 1)), some (.int v1)], [], (gSh, σ, u)) rfl ?_
        obtain ⟨x4, ex4, hP⟩ := g_let hP
        rw [← ex4]
        refine gRunN_ok hG.1 1 _ (7, [some (.ref 53), none, some (.int l4), some (.int v1), some (.int x4), some (.int v1)], [], (gSh, σ, u)) rfl ?_
        refine hG.2.2.2.2.1 _ _ [some (.ref 53), none, some (.int l4), some (.int v1), some (.int x4), none] _ _ ⟨rfl, ⟨rfl, ⟨rfl, ⟨rfl, trivial⟩⟩⟩⟩ ?_
        cases hP
        exact K1 _ _ _ rfl
    · refine hG.1 _ (47, [some (.ref 53), none, some (.int l2), some (.int l3), some (.int l4), none], [], (gSh, σ, u)) _ rfl (if_neg hc) ?_
      refine gRunN_ok hG.1 1 _ (50, [some (.ref 53), none, some (.int l2), some (.int l3), some (.int (l4 + 1)), none], [], (gSh, σ, u)) rfl ?_
      obtain ⟨x5, ex5, hP⟩ := g_let hP
      rw [← ex5]
      refine gRunN_ok hG.1 1 _ (7, [some (.ref 53), none, some (.int l2), some (.int l3), some (.int x5), none], [], (gSh, σ, u)) rfl ?_
      cases hP
      exact K1 _ _ _ rfl
theorem l_Packing_closest_7 (E : gEv) (d u : Nat) {G : gFr → Prop} {vo : Option Value} {sr : gS} (hG : gClo E gDf gP8 gY94 (some .int) (gC E gDf gMs (d + 1)) (vo, (gSh, sr, u)) G) (σ : gS) : ∀ (n : Nat) (l2 : Int32) (l3 : Int32) (l4 : Int32) (e : (Int32)), gIter (fun z => p_Packing_closest_7 E z.1 z.2.1 z.2.2 σ) n (l2, l3, l4) = some e → (∀ (m2 : Int32), e = m2 → G (53, [none, none, some (.int m2), none, none, none], [], (gSh, σ, u))) → G (7, [some (.ref 53), none, some (.int l2), some (.int l3), some (.int l4), none], [], (gSh, σ, u)) := by
  intro n
  induction n with
  | zero => intro l2 l3 l4 e h; cases h
  | succ n ih =>
    intro l2 l3 l4 e h K2
    rcases g_iter h with ⟨z, h1, h2⟩ | h1
    · exact b_Packing_closest_7 E d u hG l2 l3 l4 σ h1 (fun n0 n1 n2 hz => by cases hz; exact ih _ _ _ e h2 K2) (fun _ hz => by cases hz)
    · exact b_Packing_closest_7 E d u hG l2 l3 l4 σ h1 (fun _ _ _ hz => by cases hz) (fun m2 hz => K2 m2 (by cases hz; rfl))
def p_Packing_closest (E : gEv) (a0 : Int32) (σ : gS) : Option (Int32) :=
  gB1 (gIter (fun z => p_Packing_closest_7 E z.1 z.2.1 z.2.2 σ) gN ((-1), (-1), a0)) fun e6 => (fun w7 => some w7) e6
set_option maxRecDepth 20000 in
theorem c_Packing_closest (E : gEv) (d u : Nat) (a0 : Int32) (σ : gS) {v : Int32}  (hq : p_Packing_closest E a0 σ = some v) : gC E gDf gMs (d + 2) 94 [.ref 53, .int a0] (gSh, σ, u) (some (.int v), (gSh, σ, u)) := ⟨gM94, rfl, Nat.le_of_ble_eq_true rfl, fun G hG => by
  have hP := hq
  unfold p_Packing_closest at hP
  replace hG : gClo E gDf gP8 gY94 (some .int) (gC E gDf gMs (d + 1)) (some (.int v), (gSh, σ, u)) G := hG
  show G (0, [some (.ref 53), some (.int a0), none, none, none, none], [], (gSh, σ, u))
  refine gRunN_ok hG.1 6 _ (7, [some (.ref 53), some (.int a0), some (.int (-1)), some (.int (-1)), some (.int a0), none], [], (gSh, σ, u)) rfl ?_
  refine hG.2.2.2.2.1 _ _ [some (.ref 53), none, some (.int (-1)), some (.int (-1)), some (.int a0), none] _ _ ⟨rfl, ⟨rfl, ⟨rfl, ⟨rfl, trivial⟩⟩⟩⟩ ?_
  obtain ⟨e6, hq, hP⟩ := g_b1 hP
  refine l_Packing_closest_7 E d u hG σ gN (-1) (-1) a0 _ hq (fun w7 he => ?_)
  · replace he := he.symm
    subst he
    try dsimp only [gSum] at hP
    refine gRunN_ok hG.1 1 _ (54, [none, none, some (.int w7), none, none, none], [.int w7], (gSh, σ, u)) rfl ?_
    cases hP
    exact hG.2.1 _ _ rfl rfl⟩
def p_Packing_setThings_j51_2 (E : gEv) (l1 : Int32) (y1 : Int32) (y2 : Int32) (σ : gS) : Option ((Int32 × gS) ⊕ (gS)) :=
  if gIn y1 (σ.2.1 61) then gLet (gPut σ 61 y1.toNatClampNeg y2) fun s4 => gLet (l1 + 1) fun x5 => some (.inl (x5, s4)) else none
set_option maxRecDepth 20000 in
theorem j_Packing_setThings_j51_2 (E : gEv) (d u : Nat) {G : gFr → Prop} {vo : Option Value} {sr : gS} (hG : gClo E gDf gP8 gY97 none (gC E gDf gMs (d + 1)) (vo, (gSh, sr, u)) G) (l1 : Int32) (y1 : Int32) (y2 : Int32) (σ : gS) {r : (Int32 × gS) ⊕ (gS)} (hP : p_Packing_setThings_j51_2 E l1 y1 y2 σ = some r) (K1 : ∀ (m1 : Int32) (σ1 : gS), r = .inl (m1, σ1) → G (2, [some (.ref 53), some (.int m1), none], [], (gSh, σ1, u))) (K2 : ∀ (σ1 : gS), r = .inr σ1 → G (58, [some (.ref 53), none, none], [], (gSh, σ1, u))) : G (51, [some (.ref 53), some (.int l1), none], [.int y2, .int y1, .ref 61], (gSh, σ, u)) := by
  unfold p_Packing_setThings_j51_2 at hP
  obtain ⟨hc, hP⟩ := g_if hP
  refine hG.1 _ (52, [some (.ref 53), some (.int l1), none], [], (gSh, (gPut σ 61 y1.toNatClampNeg y2), u)) _ rfl (if_pos hc) ?_
  obtain ⟨s4, es4, hP⟩ := g_let hP
  rw [← es4]
  refine gRunN_ok hG.1 1 _ (55, [some (.ref 53), some (.int (l1 + 1)), none], [], (gSh, s4, u)) rfl ?_
  obtain ⟨x5, ex5, hP⟩ := g_let hP
  rw [← ex5]
  refine gRunN_ok hG.1 1 _ (2, [some (.ref 53), some (.int x5), none], [], (gSh, s4, u)) rfl ?_
  cases hP
  exact K1 _ _ rfl
def p_Packing_setThings_2 (E : gEv) (l1 : Int32) (σ : gS) : Option ((Int32 × gS) ⊕ (gS)) :=
  if (σ.1 53 17) ≤ l1 then (some (.inr σ)) else (if gIn l1 (σ.2.1 60) then gLet (σ.1 60 l1.toNatClampNeg) fun x1 => if (200 : Int32) ≤ x1 then (gB1 (p_Packing_elementMaking E x1 σ) fun v2 => if gIn v2 (σ.2.1 56) then p_Packing_setThings_j51_2 E l1 l1 (σ.1 56 v2.toNatClampNeg) σ else none) else (p_Packing_setThings_j51_2 E l1 l1 ((σ.1 1 4) + x1) σ) else none)
set_option maxRecDepth 20000 in
theorem b_Packing_setThings_2 (E : gEv) (d u : Nat) {G : gFr → Prop} {vo : Option Value} {sr : gS} (hG : gClo E gDf gP8 gY97 none (gC E gDf gMs (d + 1)) (vo, (gSh, sr, u)) G) (l1 : Int32) (σ : gS) {r : (Int32 × gS) ⊕ (gS)} (hP : p_Packing_setThings_2 E l1 σ = some r) (K1 : ∀ (m1 : Int32) (σ1 : gS), r = .inl (m1, σ1) → G (2, [some (.ref 53), some (.int m1), none], [], (gSh, σ1, u))) (K2 : ∀ (σ1 : gS), r = .inr σ1 → G (58, [some (.ref 53), none, none], [], (gSh, σ1, u))) : G (2, [some (.ref 53), some (.int l1), none], [], (gSh, σ, u)) := by
  unfold p_Packing_setThings_2 at hP
  refine gRunN_ok hG.1 3 _ (7, [some (.ref 53), some (.int l1), none], [.int (σ.1 53 17), .int l1], (gSh, σ, u)) rfl ?_
  rcases g_ite hP with ⟨hc, hP⟩ | ⟨hc, hP⟩
  · refine hG.1 _ (58, [some (.ref 53), some (.int l1), none], [], (gSh, σ, u)) _ rfl (if_pos hc) ?_
    refine hG.2.2.2.2.1 _ _ [some (.ref 53), none, none] _ _ ⟨rfl, trivial⟩ ?_
    cases hP
    exact K2 _ rfl
  · refine hG.1 _ (10, [some (.ref 53), some (.int l1), none], [], (gSh, σ, u)) _ rfl (if_neg hc) ?_
    refine gRunN_ok hG.1 3 _ (15, [some (.ref 53), some (.int l1), none], [.int l1, .ref 60], (gSh, σ, u)) rfl ?_
    obtain ⟨hc, hP⟩ := g_if hP
    refine hG.1 _ (16, [some (.ref 53), some (.int l1), none], [.int (σ.1 60 l1.toNatClampNeg)], (gSh, σ, u)) _ rfl (if_pos hc) ?_
    refine gRunN_ok hG.1 1 _ (17, [some (.ref 53), some (.int l1), some (.int (σ.1 60 l1.toNatClampNeg))], [], (gSh, σ, u)) rfl ?_
    obtain ⟨x1, ex1, hP⟩ := g_let hP
    rw [← ex1]
    refine gRunN_ok hG.1 5 _ (26, [some (.ref 53), some (.int l1), some (.int x1)], [.int 200, .int x1, .int l1, .ref 61], (gSh, σ, u)) rfl ?_
    rcases g_ite hP with ⟨hc, hP⟩ | ⟨hc, hP⟩
    · refine hG.1 _ (41, [some (.ref 53), some (.int l1), some (.int x1)], [.int l1, .ref 61], (gSh, σ, u)) _ rfl (if_pos hc) ?_
      refine gRunN_ok hG.1 4 _ (47, [some (.ref 53), some (.int l1), some (.int x1)], [.int x1, .ref 53, .ref 56, .int l1, .ref 61], (gSh, σ, u)) rfl ?_
      obtain ⟨v2, hq, hP⟩ := g_b1 hP
      refine hG.2.2.2.1 _ _ _ [.ref 53, .int x1] [.ref 56, .int l1, .ref 61] _ (gSh, σ, u) (some (.int v2)) _ _ _ _ _ _ rfl rfl rfl rfl rfl rfl (c_Packing_elementMaking E (d + 0) u x1 _  hq) (Nat.le_refl _) (Nat.le_refl _) (Nat.le_refl _) (Nat.le_refl _) ?_
      show G (50, [some (.ref 53), some (.int l1), some (.int x1)], [.int v2, .ref 56, .int l1, .ref 61], (gSh, σ, u))
      obtain ⟨hc, hP⟩ := g_if hP
      refine hG.1 _ (51, [some (.ref 53), some (.int l1), some (.int x1)], [.int (σ.1 56 v2.toNatClampNeg), .int l1, .ref 61], (gSh, σ, u)) _ rfl (if_pos hc) ?_
      refine hG.2.2.2.2.1 _ _ [some (.ref 53), some (.int l1), none] _ _ ⟨rfl, ⟨rfl, trivial⟩⟩ ?_
      exact j_Packing_setThings_j51_2 E d u hG l1 l1 (σ.1 56 v2.toNatClampNeg) σ hP K1 K2
    · refine hG.1 _ (29, [some (.ref 53), some (.int l1), some (.int x1)], [.int l1, .ref 61], (gSh, σ, u)) _ rfl (if_neg hc) ?_
      refine gRunN_ok hG.1 6 _ (51, [some (.ref 53), some (.int l1), some (.int x1)], [.int ((σ.1 1 4) + x1), .int l1, .ref 61], (gSh, σ, u)) rfl ?_
      refine hG.2.2.2.2.1 _ _ [some (.ref 53), some (.int l1), none] _ _ ⟨rfl, ⟨rfl, trivial⟩⟩ ?_
      exact j_Packing_setThings_j51_2 E d u hG l1 l1 ((σ.1 1 4) + x1) σ hP K1 K2
theorem l_Packing_setThings_2 (E : gEv) (d u : Nat) {G : gFr → Prop} {vo : Option Value} {sr : gS} (hG : gClo E gDf gP8 gY97 none (gC E gDf gMs (d + 1)) (vo, (gSh, sr, u)) G) : ∀ (n : Nat) (l1 : Int32) (σ : gS) (e : (gS)), gIter (fun z => p_Packing_setThings_2 E z.1 z.2) n (l1, σ) = some e → (∀ (σ1 : gS), e = σ1 → G (58, [some (.ref 53), none, none], [], (gSh, σ1, u))) → G (2, [some (.ref 53), some (.int l1), none], [], (gSh, σ, u)) := by
  intro n
  induction n with
  | zero => intro l1 σ e h; cases h
  | succ n ih =>
    intro l1 σ e h K2
    rcases g_iter h with ⟨z, h1, h2⟩ | h1
    · exact b_Packing_setThings_2 E d u hG l1 σ h1 (fun n0 n1 hz => by cases hz; exact ih _ _ e h2 K2) (fun _ hz => by cases hz)
    · exact b_Packing_setThings_2 E d u hG l1 σ h1 (fun _ _ hz => by cases hz) (fun σ1 hz => K2 σ1 (by cases hz; rfl))
def p_Packing_setThings_j134_60 (E : gEv) (l1 : Int32) (y1 : Int32) (y2 : Int32) (σ : gS) : Option ((Int32 × gS) ⊕ (gS)) :=
  if gIn y1 (σ.2.1 64) then gLet (gPut σ 64 y1.toNatClampNeg y2) fun s10 => gLet (l1 + 1) fun x11 => some (.inl (x11, s10)) else none
set_option maxRecDepth 20000 in
theorem j_Packing_setThings_j134_60 (E : gEv) (d u : Nat) {G : gFr → Prop} {vo : Option Value} {sr : gS} (hG : gClo E gDf gP8 gY97 none (gC E gDf gMs (d + 1)) (vo, (gSh, sr, u)) G) (l1 : Int32) (y1 : Int32) (y2 : Int32) (σ : gS) {r : (Int32 × gS) ⊕ (gS)} (hP : p_Packing_setThings_j134_60 E l1 y1 y2 σ = some r) (K1 : ∀ (m1 : Int32) (σ1 : gS), r = .inl (m1, σ1) → G (60, [some (.ref 53), some (.int m1), none], [], (gSh, σ1, u))) (K2 : ∀ (σ1 : gS), r = .inr σ1 → G (141, [none, none, none], [], (gSh, σ1, u))) : G (134, [some (.ref 53), some (.int l1), none], [.int y2, .int y1, .ref 64], (gSh, σ, u)) := by
  unfold p_Packing_setThings_j134_60 at hP
  obtain ⟨hc, hP⟩ := g_if hP
  refine hG.1 _ (135, [some (.ref 53), some (.int l1), none], [], (gSh, (gPut σ 64 y1.toNatClampNeg y2), u)) _ rfl (if_pos hc) ?_
  obtain ⟨s10, es10, hP⟩ := g_let hP
  rw [← es10]
  refine gRunN_ok hG.1 1 _ (138, [some (.ref 53), some (.int (l1 + 1)), none], [], (gSh, s10, u)) rfl ?_
  obtain ⟨x11, ex11, hP⟩ := g_let hP
  rw [← ex11]
  refine gRunN_ok hG.1 1 _ (60, [some (.ref 53), some (.int x11), none], [], (gSh, s10, u)) rfl ?_
  cases hP
  exact K1 _ _ rfl
def p_Packing_setThings_60 (E : gEv) (l1 : Int32) (σ : gS) : Option ((Int32 × gS) ⊕ (gS)) :=
  if gIn (σ.1 53 17) (σ.2.1 62) then if (σ.1 62 (σ.1 53 17).toNatClampNeg) ≤ l1 then (some (.inr σ)) else (gB1 (p_Packing_isPin E l1 σ) fun v8 => if v8 = 0 then (if gIn l1 (σ.2.1 63) then p_Packing_setThings_j134_60 E l1 l1 ((((σ.1 1 4) + (σ.1 1 5)) + (σ.1 63 l1.toNatClampNeg)) - ((σ.1 1 6) * (4 : Int32))) σ else none) else (if gIn l1 (σ.2.1 63) then if gIn ((σ.1 63 l1.toNatClampNeg) / (4 : Int32)) (σ.2.1 56) then p_Packing_setThings_j134_60 E l1 l1 (σ.1 56 ((σ.1 63 l1.toNatClampNeg) / (4 : Int32)).toNatClampNeg) σ else none else none)) else none
set_option maxRecDepth 20000 in
theorem b_Packing_setThings_60 (E : gEv) (d u : Nat) {G : gFr → Prop} {vo : Option Value} {sr : gS} (hG : gClo E gDf gP8 gY97 none (gC E gDf gMs (d + 1)) (vo, (gSh, sr, u)) G) (l1 : Int32) (σ : gS) {r : (Int32 × gS) ⊕ (gS)} (hP : p_Packing_setThings_60 E l1 σ = some r) (K1 : ∀ (m1 : Int32) (σ1 : gS), r = .inl (m1, σ1) → G (60, [some (.ref 53), some (.int m1), none], [], (gSh, σ1, u))) (K2 : ∀ (σ1 : gS), r = .inr σ1 → G (141, [none, none, none], [], (gSh, σ1, u))) : G (60, [some (.ref 53), some (.int l1), none], [], (gSh, σ, u)) := by
  unfold p_Packing_setThings_60 at hP
  refine gRunN_ok hG.1 5 _ (69, [some (.ref 53), some (.int l1), none], [.int (σ.1 53 17), .ref 62, .int l1], (gSh, σ, u)) rfl ?_
  obtain ⟨hc, hP⟩ := g_if hP
  refine hG.1 _ (70, [some (.ref 53), some (.int l1), none], [.int (σ.1 62 (σ.1 53 17).toNatClampNeg), .int l1], (gSh, σ, u)) _ rfl (if_pos hc) ?_
  rcases g_ite hP with ⟨hc, hP⟩ | ⟨hc, hP⟩
  · refine hG.1 _ (141, [some (.ref 53), some (.int l1), none], [], (gSh, σ, u)) _ rfl (if_pos hc) ?_
    refine hG.2.2.2.2.1 _ _ [none, none, none] _ _ trivial ?_
    cases hP
    exact K2 _ rfl
  · refine hG.1 _ (73, [some (.ref 53), some (.int l1), none], [], (gSh, σ, u)) _ rfl (if_neg hc) ?_
    refine gRunN_ok hG.1 5 _ (80, [some (.ref 53), some (.int l1), none], [.int l1, .ref 53, .int l1, .ref 64], (gSh, σ, u)) rfl ?_
    obtain ⟨v8, hq, hP⟩ := g_b1 hP
    refine hG.2.2.2.1 _ _ _ [.ref 53, .int l1] [.int l1, .ref 64] _ (gSh, σ, u) (some (.int v8)) _ _ _ _ _ _ rfl rfl rfl rfl rfl rfl (c_Packing_isPin E (d + 0) u l1 _  hq) (Nat.le_refl _) (Nat.le_refl _) (Nat.le_refl _) (Nat.le_refl _) ?_
    show G (83, [some (.ref 53), some (.int l1), none], [.int v8, .int l1, .ref 64], (gSh, σ, u))
    rcases g_ite hP with ⟨hc, hP⟩ | ⟨hc, hP⟩
    · refine hG.1 _ (102, [some (.ref 53), some (.int l1), none], [.int l1, .ref 64], (gSh, σ, u)) _ rfl (if_pos hc) ?_
      refine gRunN_ok hG.1 10 _ (122, [some (.ref 53), some (.int l1), none], [.int l1, .ref 63, .int ((σ.1 1 4) + (σ.1 1 5)), .int l1, .ref 64], (gSh, σ, u)) rfl ?_
      obtain ⟨hc, hP⟩ := g_if hP
      refine hG.1 _ (123, [some (.ref 53), some (.int l1), none], [.int (σ.1 63 l1.toNatClampNeg), .int ((σ.1 1 4) + (σ.1 1 5)), .int l1, .ref 64], (gSh, σ, u)) _ rfl (if_pos hc) ?_
      refine gRunN_ok hG.1 7 _ (134, [some (.ref 53), some (.int l1), none], [.int ((((σ.1 1 4) + (σ.1 1 5)) + (σ.1 63 l1.toNatClampNeg)) - ((σ.1 1 6) * (4 : Int32))), .int l1, .ref 64], (gSh, σ, u)) rfl ?_
      exact j_Packing_setThings_j134_60 E d u hG l1 l1 ((((σ.1 1 4) + (σ.1 1 5)) + (σ.1 63 l1.toNatClampNeg)) - ((σ.1 1 6) * (4 : Int32))) σ hP K1 K2
    · refine hG.1 _ (86, [some (.ref 53), some (.int l1), none], [.int l1, .ref 64], (gSh, σ, u)) _ rfl (if_neg hc) ?_
      refine gRunN_ok hG.1 5 _ (95, [some (.ref 53), some (.int l1), none], [.int l1, .ref 63, .ref 56, .int l1, .ref 64], (gSh, σ, u)) rfl ?_
      obtain ⟨hc, hP⟩ := g_if hP
      refine hG.1 _ (96, [some (.ref 53), some (.int l1), none], [.int (σ.1 63 l1.toNatClampNeg), .ref 56, .int l1, .ref 64], (gSh, σ, u)) _ rfl (if_pos hc) ?_
      refine gRunN_ok hG.1 2 _ (98, [some (.ref 53), some (.int l1), none], [.int ((σ.1 63 l1.toNatClampNeg) / (4 : Int32)), .ref 56, .int l1, .ref 64], (gSh, σ, u)) rfl ?_
      obtain ⟨hc, hP⟩ := g_if hP
      refine hG.1 _ (99, [some (.ref 53), some (.int l1), none], [.int (σ.1 56 ((σ.1 63 l1.toNatClampNeg) / (4 : Int32)).toNatClampNeg), .int l1, .ref 64], (gSh, σ, u)) _ rfl (if_pos hc) ?_
      refine gRunN_ok hG.1 1 _ (134, [some (.ref 53), some (.int l1), none], [.int (σ.1 56 ((σ.1 63 l1.toNatClampNeg) / (4 : Int32)).toNatClampNeg), .int l1, .ref 64], (gSh, σ, u)) rfl ?_
      exact j_Packing_setThings_j134_60 E d u hG l1 l1 (σ.1 56 ((σ.1 63 l1.toNatClampNeg) / (4 : Int32)).toNatClampNeg) σ hP K1 K2
theorem l_Packing_setThings_60 (E : gEv) (d u : Nat) {G : gFr → Prop} {vo : Option Value} {sr : gS} (hG : gClo E gDf gP8 gY97 none (gC E gDf gMs (d + 1)) (vo, (gSh, sr, u)) G) : ∀ (n : Nat) (l1 : Int32) (σ : gS) (e : (gS)), gIter (fun z => p_Packing_setThings_60 E z.1 z.2) n (l1, σ) = some e → (∀ (σ1 : gS), e = σ1 → G (141, [none, none, none], [], (gSh, σ1, u))) → G (60, [some (.ref 53), some (.int l1), none], [], (gSh, σ, u)) := by
  intro n
  induction n with
  | zero => intro l1 σ e h; cases h
  | succ n ih =>
    intro l1 σ e h K2
    rcases g_iter h with ⟨z, h1, h2⟩ | h1
    · exact b_Packing_setThings_60 E d u hG l1 σ h1 (fun n0 n1 hz => by cases hz; exact ih _ _ e h2 K2) (fun _ hz => by cases hz)
    · exact b_Packing_setThings_60 E d u hG l1 σ h1 (fun _ _ hz => by cases hz) (fun σ1 hz => K2 σ1 (by cases hz; rfl))
def p_Packing_setThings (E : gEv) (σ : gS) : Option (gS) :=
  gB1 (gIter (fun z => p_Packing_setThings_2 E z.1 z.2) gN (0, σ)) fun e6 => (fun s7 => gB1 (gIter (fun z => p_Packing_setThings_60 E z.1 z.2) gN (0, s7)) fun e12 => (fun s13 => some s13) e12) e6
set_option maxRecDepth 20000 in
theorem c_Packing_setThings (E : gEv) (d u : Nat) (σ : gS) {sr : gS}  (hq : p_Packing_setThings E σ = some sr) : gC E gDf gMs (d + 2) 97 [.ref 53] (gSh, σ, u) (none, (gSh, sr, u)) := ⟨gM97, rfl, Nat.le_of_ble_eq_true rfl, fun G hG => by
  have hP := hq
  unfold p_Packing_setThings at hP
  replace hG : gClo E gDf gP8 gY97 none (gC E gDf gMs (d + 1)) (none, (gSh, sr, u)) G := hG
  show G (0, [some (.ref 53), none, none], [], (gSh, σ, u))
  refine gRunN_ok hG.1 2 _ (2, [some (.ref 53), some (.int 0), none], [], (gSh, σ, u)) rfl ?_
  obtain ⟨e6, hq, hP⟩ := g_b1 hP
  refine l_Packing_setThings_2 E d u hG gN 0 σ _ hq (fun s7 he => ?_)
  · replace he := he.symm
    subst he
    try dsimp only [gSum] at hP
    refine gRunN_ok hG.1 2 _ (60, [some (.ref 53), some (.int 0), none], [], (gSh, s7, u)) rfl ?_
    obtain ⟨e12, hq, hP⟩ := g_b1 hP
    refine l_Packing_setThings_60 E d u hG gN 0 s7 _ hq (fun s13 he => ?_)
    · replace he := he.symm
      subst he
      try dsimp only [gSum] at hP
      cases hP
      exact hG.2.1 _ _ rfl rfl⟩
def p_Placing_measure_4 (E : gEv) (l1 : Int32) (l2 : Int32) (σ : gS) : Option ((Int32 × Int32) ⊕ (Int32)) :=
  if (σ.1 53 17) ≤ l2 then (some (.inr l1)) else (gB1 (p_Placing_lengthOf E l2 σ) fun v1 => gLet (l1 + v1) fun x3 => gLet (l2 + 1) fun x4 => some (.inl (x3, x4)))
set_option maxRecDepth 20000 in
theorem b_Placing_measure_4 (E : gEv) (d u : Nat) {G : gFr → Prop} {vo : Option Value} {sr : gS} (hG : gClo E gDf gP9 gY102 (some .int) (gC E gDf gMs (d + 1)) (vo, (gSh, sr, u)) G) (l1 : Int32) (l2 : Int32) (σ : gS) {r : (Int32 × Int32) ⊕ (Int32)} (hP : p_Placing_measure_4 E l1 l2 σ = some r) (K1 : ∀ (m1 : Int32) (m2 : Int32), r = .inl (m1, m2) → G (4, [some (.ref 67), some (.int m1), some (.int m2)], [], (gSh, σ, u))) (K2 : ∀ (m1 : Int32), r = .inr m1 → G (29, [none, some (.int m1), none], [], (gSh, σ, u))) : G (4, [some (.ref 67), some (.int l1), some (.int l2)], [], (gSh, σ, u)) := by
  unfold p_Placing_measure_4 at hP
  refine gRunN_ok hG.1 4 _ (12, [some (.ref 67), some (.int l1), some (.int l2)], [.int (σ.1 53 17), .int l2], (gSh, σ, u)) rfl ?_
  rcases g_ite hP with ⟨hc, hP⟩ | ⟨hc, hP⟩
  · refine hG.1 _ (29, [some (.ref 67), some (.int l1), some (.int l2)], [], (gSh, σ, u)) _ rfl (if_pos hc) ?_
    refine hG.2.2.2.2.1 _ _ [none, some (.int l1), none] _ _ ⟨rfl, trivial⟩ ?_
    cases hP
    exact K2 _ rfl
  · refine hG.1 _ (15, [some (.ref 67), some (.int l1), some (.int l2)], [], (gSh, σ, u)) _ rfl (if_neg hc) ?_
    refine gRunN_ok hG.1 3 _ (18, [some (.ref 67), some (.int l1), some (.int l2)], [.int l2, .ref 67, .int l1], (gSh, σ, u)) rfl ?_
    obtain ⟨v1, hq, hP⟩ := g_b1 hP
    refine hG.2.2.2.1 _ _ _ [.ref 67, .int l2] [.int l1] _ (gSh, σ, u) (some (.int v1)) _ _ _ _ _ _ rfl rfl rfl rfl rfl rfl (c_Placing_lengthOf E (d + 0) u l2 _  hq) (Nat.le_refl _) (Nat.le_refl _) (Nat.le_refl _) (Nat.le_refl _) ?_
    show G (21, [some (.ref 67), some (.int l1), some (.int l2)], [.int v1, .int l1], (gSh, σ, u))
    refine gRunN_ok hG.1 2 _ (23, [some (.ref 67), some (.int (l1 + v1)), some (.int l2)], [], (gSh, σ, u)) rfl ?_
    obtain ⟨x3, ex3, hP⟩ := g_let hP
    rw [← ex3]
    refine gRunN_ok hG.1 1 _ (26, [some (.ref 67), some (.int x3), some (.int (l2 + 1))], [], (gSh, σ, u)) rfl ?_
    obtain ⟨x4, ex4, hP⟩ := g_let hP
    rw [← ex4]
    refine gRunN_ok hG.1 1 _ (4, [some (.ref 67), some (.int x3), some (.int x4)], [], (gSh, σ, u)) rfl ?_
    cases hP
    exact K1 _ _ rfl
theorem l_Placing_measure_4 (E : gEv) (d u : Nat) {G : gFr → Prop} {vo : Option Value} {sr : gS} (hG : gClo E gDf gP9 gY102 (some .int) (gC E gDf gMs (d + 1)) (vo, (gSh, sr, u)) G) (σ : gS) : ∀ (n : Nat) (l1 : Int32) (l2 : Int32) (e : (Int32)), gIter (fun z => p_Placing_measure_4 E z.1 z.2 σ) n (l1, l2) = some e → (∀ (m1 : Int32), e = m1 → G (29, [none, some (.int m1), none], [], (gSh, σ, u))) → G (4, [some (.ref 67), some (.int l1), some (.int l2)], [], (gSh, σ, u)) := by
  intro n
  induction n with
  | zero => intro l1 l2 e h; cases h
  | succ n ih =>
    intro l1 l2 e h K2
    rcases g_iter h with ⟨z, h1, h2⟩ | h1
    · exact b_Placing_measure_4 E d u hG l1 l2 σ h1 (fun n0 n1 hz => by cases hz; exact ih _ _ e h2 K2) (fun _ hz => by cases hz)
    · exact b_Placing_measure_4 E d u hG l1 l2 σ h1 (fun _ _ hz => by cases hz) (fun m1 hz => K2 m1 (by cases hz; rfl))
def p_Placing_measure (E : gEv) (σ : gS) : Option (Int32) :=
  gB1 (gIter (fun z => p_Placing_measure_4 E z.1 z.2 σ) gN (0, 0)) fun e5 => (fun w6 => some w6) e5
set_option maxRecDepth 20000 in
theorem c_Placing_measure (E : gEv) (d u : Nat) (σ : gS) {v : Int32}  (hq : p_Placing_measure E σ = some v) : gC E gDf gMs (d + 2) 102 [.ref 67] (gSh, σ, u) (some (.int v), (gSh, σ, u)) := ⟨gM102, rfl, Nat.le_of_ble_eq_true rfl, fun G hG => by
  have hP := hq
  unfold p_Placing_measure at hP
  replace hG : gClo E gDf gP9 gY102 (some .int) (gC E gDf gMs (d + 1)) (some (.int v), (gSh, σ, u)) G := hG
  show G (0, [some (.ref 67), none, none], [], (gSh, σ, u))
  refine gRunN_ok hG.1 4 _ (4, [some (.ref 67), some (.int 0), some (.int 0)], [], (gSh, σ, u)) rfl ?_
  obtain ⟨e5, hq, hP⟩ := g_b1 hP
  refine l_Placing_measure_4 E d u hG σ gN 0 0 _ hq (fun w6 he => ?_)
  · replace he := he.symm
    subst he
    try dsimp only [gSum] at hP
    refine gRunN_ok hG.1 1 _ (30, [none, some (.int w6), none], [.int w6], (gSh, σ, u)) rfl ?_
    cases hP
    exact hG.2.1 _ _ rfl rfl⟩
def p_Router_wiresOf_9 (E : gEv) (l1 : Int32) (l2 : Int32) (l3 : Int32) (σ : gS) : Option ((Int32 × Int32) ⊕ (Int32)) :=
  if (σ.1 70 15) ≤ 0 then (some (.inr l2)) else (if ((l1 + (1 : Int32)) * (σ.1 70 4)) ≤ l3 then (some (.inr l2)) else (if gIn l3 (σ.2.1 74) then gB1 (p_Integer_bitCount E (σ.1 74 l3.toNatClampNeg) σ) fun v2 => gLet (l2 + v2) fun x4 => gLet (l3 + 1) fun x5 => some (.inl (x4, x5)) else none))
set_option maxRecDepth 20000 in
theorem b_Router_wiresOf_9 (E : gEv) (d u : Nat) {G : gFr → Prop} {vo : Option Value} {sr : gS} (hG : gClo E gDf gP10 gY107 (some .int) (gC E gDf gMs (d + 1)) (vo, (gSh, sr, u)) G) (l1 : Int32) (l2 : Int32) (l3 : Int32) (σ : gS) {r : (Int32 × Int32) ⊕ (Int32)} (hP : p_Router_wiresOf_9 E l1 l2 l3 σ = some r) (K1 : ∀ (m2 : Int32) (m3 : Int32), r = .inl (m2, m3) → G (9, [some (.ref 70), some (.int l1), some (.int m2), some (.int m3)], [], (gSh, σ, u))) (K2 : ∀ (m2 : Int32), r = .inr m2 → G (46, [none, none, some (.int m2), none], [], (gSh, σ, u))) : G (9, [some (.ref 70), some (.int l1), some (.int l2), some (.int l3)], [], (gSh, σ, u)) := by
  unfold p_Router_wiresOf_9 at hP
  refine gRunN_ok hG.1 2 _ (13, [some (.ref 70), some (.int l1), some (.int l2), some (.int l3)], [.int (σ.1 70 15)], (gSh, σ, u)) rfl ?_
  rcases g_ite hP with ⟨hc, hP⟩ | ⟨hc, hP⟩
  · refine hG.1 _ (46, [some (.ref 70), some (.int l1), some (.int l2), some (.int l3)], [], (gSh, σ, u)) _ rfl (if_pos hc) ?_
    refine hG.2.2.2.2.1 _ _ [none, none, some (.int l2), none] _ _ ⟨rfl, trivial⟩ ?_
    cases hP
    exact K2 _ rfl
  · refine hG.1 _ (16, [some (.ref 70), some (.int l1), some (.int l2), some (.int l3)], [], (gSh, σ, u)) _ rfl (if_neg hc) ?_
    refine gRunN_ok hG.1 7 _ (25, [some (.ref 70), some (.int l1), some (.int l2), some (.int l3)], [.int ((l1 + (1 : Int32)) * (σ.1 70 4)), .int l3], (gSh, σ, u)) rfl ?_
    rcases g_ite hP with ⟨hc, hP⟩ | ⟨hc, hP⟩
    · refine hG.1 _ (46, [some (.ref 70), some (.int l1), some (.int l2), some (.int l3)], [], (gSh, σ, u)) _ rfl (if_pos hc) ?_
      refine hG.2.2.2.2.1 _ _ [none, none, some (.int l2), none] _ _ ⟨rfl, trivial⟩ ?_
      cases hP
      exact K2 _ rfl
    · refine hG.1 _ (28, [some (.ref 70), some (.int l1), some (.int l2), some (.int l3)], [], (gSh, σ, u)) _ rfl (if_neg hc) ?_
      refine gRunN_ok hG.1 4 _ (34, [some (.ref 70), some (.int l1), some (.int l2), some (.int l3)], [.int l3, .ref 74, .int l2], (gSh, σ, u)) rfl ?_
      obtain ⟨hc, hP⟩ := g_if hP
      refine hG.1 _ (35, [some (.ref 70), some (.int l1), some (.int l2), some (.int l3)], [.int (σ.1 74 l3.toNatClampNeg), .int l2], (gSh, σ, u)) _ rfl (if_pos hc) ?_
      obtain ⟨v2, hq, hP⟩ := g_b1 hP
      refine hG.2.2.2.1 _ _ _ [.int (σ.1 74 l3.toNatClampNeg)] [.int l2] _ (gSh, σ, u) (some (.int v2)) _ _ _ _ _ _ rfl rfl rfl rfl rfl rfl (c_Integer_bitCount E (d + 0) u (σ.1 74 l3.toNatClampNeg) _  hq) (Nat.le_refl _) (Nat.le_refl _) (Nat.le_refl _) (Nat.le_refl _) ?_
      show G (38, [some (.ref 70), some (.int l1), some (.int l2), some (.int l3)], [.int v2, .int l2], (gSh, σ, u))
      refine gRunN_ok hG.1 2 _ (40, [some (.ref 70), some (.int l1), some (.int (l2 + v2)), some (.int l3)], [], (gSh, σ, u)) rfl ?_
      obtain ⟨x4, ex4, hP⟩ := g_let hP
      rw [← ex4]
      refine gRunN_ok hG.1 1 _ (43, [some (.ref 70), some (.int l1), some (.int x4), some (.int (l3 + 1))], [], (gSh, σ, u)) rfl ?_
      obtain ⟨x5, ex5, hP⟩ := g_let hP
      rw [← ex5]
      refine gRunN_ok hG.1 1 _ (9, [some (.ref 70), some (.int l1), some (.int x4), some (.int x5)], [], (gSh, σ, u)) rfl ?_
      cases hP
      exact K1 _ _ rfl
theorem l_Router_wiresOf_9 (E : gEv) (d u : Nat) {G : gFr → Prop} {vo : Option Value} {sr : gS} (hG : gClo E gDf gP10 gY107 (some .int) (gC E gDf gMs (d + 1)) (vo, (gSh, sr, u)) G) (l1 : Int32) (σ : gS) : ∀ (n : Nat) (l2 : Int32) (l3 : Int32) (e : (Int32)), gIter (fun z => p_Router_wiresOf_9 E l1 z.1 z.2 σ) n (l2, l3) = some e → (∀ (m2 : Int32), e = m2 → G (46, [none, none, some (.int m2), none], [], (gSh, σ, u))) → G (9, [some (.ref 70), some (.int l1), some (.int l2), some (.int l3)], [], (gSh, σ, u)) := by
  intro n
  induction n with
  | zero => intro l2 l3 e h; cases h
  | succ n ih =>
    intro l2 l3 e h K2
    rcases g_iter h with ⟨z, h1, h2⟩ | h1
    · exact b_Router_wiresOf_9 E d u hG l1 l2 l3 σ h1 (fun n0 n1 hz => by cases hz; exact ih _ _ e h2 K2) (fun _ hz => by cases hz)
    · exact b_Router_wiresOf_9 E d u hG l1 l2 l3 σ h1 (fun _ _ hz => by cases hz) (fun m2 hz => K2 m2 (by cases hz; rfl))
def p_Router_wiresOf (E : gEv) (a0 : Int32) (σ : gS) : Option (Int32) :=
  gLet (a0 * (σ.1 70 4)) fun x1 => gB1 (gIter (fun z => p_Router_wiresOf_9 E a0 z.1 z.2 σ) gN (0, x1)) fun e6 => (fun w7 => some w7) e6
set_option maxRecDepth 20000 in
theorem c_Router_wiresOf (E : gEv) (d u : Nat) (a0 : Int32) (σ : gS) {v : Int32}  (hq : p_Router_wiresOf E a0 σ = some v) : gC E gDf gMs (d + 2) 107 [.ref 70, .int a0] (gSh, σ, u) (some (.int v), (gSh, σ, u)) := ⟨gM107, rfl, Nat.le_of_ble_eq_true rfl, fun G hG => by
  have hP := hq
  unfold p_Router_wiresOf at hP
  replace hG : gClo E gDf gP10 gY107 (some .int) (gC E gDf gMs (d + 1)) (some (.int v), (gSh, σ, u)) G := hG
  show G (0, [some (.ref 70), some (.int a0), none, none], [], (gSh, σ, u))
  refine gRunN_ok hG.1 7 _ (9, [some (.ref 70), some (.int a0), some (.int 0), some (.int (a0 * (σ.1 70 4)))], [], (gSh, σ, u)) rfl ?_
  obtain ⟨x1, ex1, hP⟩ := g_let hP
  rw [← ex1]
  obtain ⟨e6, hq, hP⟩ := g_b1 hP
  refine l_Router_wiresOf_9 E d u hG a0 σ gN 0 x1 _ hq (fun w7 he => ?_)
  · replace he := he.symm
    subst he
    try dsimp only [gSum] at hP
    refine gRunN_ok hG.1 1 _ (47, [none, none, some (.int w7), none], [.int w7], (gSh, σ, u)) rfl ?_
    cases hP
    exact hG.2.1 _ _ rfl rfl⟩
def p_Placing_turn (E : gEv) (a0 : Int32) (a1 : Int32) (σ : gS) : Option (gS) :=
  if gIn a0 (σ.2.1 68) then gLet (σ.1 68 a0.toNatClampNeg) fun x1 => if gIn a1 (σ.2.1 68) then gB1 (p_Placing_set E a0 (σ.1 68 a1.toNatClampNeg) σ) fun s3 => gB1 (p_Placing_set E a1 x1 s3) fun s5 => some s5 else none else none
set_option maxRecDepth 20000 in
theorem c_Placing_turn (E : gEv) (d u : Nat) (a0 : Int32) (a1 : Int32) (σ : gS) {sr : gS}  (hq : p_Placing_turn E a0 a1 σ = some sr) : gC E gDf gMs (d + 2) 117 [.ref 67, .int a0, .int a1] (gSh, σ, u) (none, (gSh, sr, u)) := ⟨gM117, rfl, Nat.le_of_ble_eq_true rfl, fun G hG => by
  have hP := hq
  unfold p_Placing_turn at hP
  replace hG : gClo E gDf gP9 gY117 none (gC E gDf gMs (d + 1)) (none, (gSh, sr, u)) G := hG
  show G (0, [some (.ref 67), some (.int a0), some (.int a1), none], [], (gSh, σ, u))
  refine gRunN_ok hG.1 3 _ (5, [some (.ref 67), some (.int a0), some (.int a1), none], [.int a0, .ref 68], (gSh, σ, u)) rfl ?_
  obtain ⟨hc, hP⟩ := g_if hP
  refine hG.1 _ (6, [some (.ref 67), some (.int a0), some (.int a1), none], [.int (σ.1 68 a0.toNatClampNeg)], (gSh, σ, u)) _ rfl (if_pos hc) ?_
  refine gRunN_ok hG.1 1 _ (7, [some (.ref 67), some (.int a0), some (.int a1), some (.int (σ.1 68 a0.toNatClampNeg))], [], (gSh, σ, u)) rfl ?_
  obtain ⟨x1, ex1, hP⟩ := g_let hP
  rw [← ex1]
  refine gRunN_ok hG.1 5 _ (14, [some (.ref 67), some (.int a0), some (.int a1), some (.int x1)], [.int a1, .ref 68, .int a0, .ref 67], (gSh, σ, u)) rfl ?_
  obtain ⟨hc, hP⟩ := g_if hP
  refine hG.1 _ (15, [some (.ref 67), some (.int a0), some (.int a1), some (.int x1)], [.int (σ.1 68 a1.toNatClampNeg), .int a0, .ref 67], (gSh, σ, u)) _ rfl (if_pos hc) ?_
  obtain ⟨s3, hq, hP⟩ := g_b1 hP
  refine hG.2.2.2.1 _ _ _ [.ref 67, .int a0, .int (σ.1 68 a1.toNatClampNeg)] [] _ (gSh, s3, u) none _ _ _ _ _ _ rfl rfl rfl rfl rfl rfl (c_Placing_set E (d + 0) u a0 (σ.1 68 a1.toNatClampNeg) _  hq) (Nat.le_refl _) (Nat.le_refl _) (Nat.le_refl _) (Nat.le_refl _) ?_
  show G (18, [some (.ref 67), some (.int a0), some (.int a1), some (.int x1)], [], (gSh, s3, u))
  refine gRunN_ok hG.1 3 _ (21, [some (.ref 67), some (.int a0), some (.int a1), some (.int x1)], [.int x1, .int a1, .ref 67], (gSh, s3, u)) rfl ?_
  obtain ⟨s5, hq, hP⟩ := g_b1 hP
  refine hG.2.2.2.1 _ _ _ [.ref 67, .int a1, .int x1] [] _ (gSh, s5, u) none _ _ _ _ _ _ rfl rfl rfl rfl rfl rfl (c_Placing_set E (d + 0) u a1 x1 _  hq) (Nat.le_refl _) (Nat.le_refl _) (Nat.le_refl _) (Nat.le_refl _) ?_
  show G (24, [some (.ref 67), some (.int a0), some (.int a1), some (.int x1)], [], (gSh, s5, u))
  cases hP
  exact hG.2.1 _ _ rfl rfl⟩
def p_Router_giveAllUp (E : gEv) (σ : gS) : Option (gS) :=
  gB1 (p_Arrays_fillI E 74 0 σ) fun s2 => gB1 (p_Arrays_fillI E 75 0 s2) fun s4 => some s4
set_option maxRecDepth 20000 in
theorem c_Router_giveAllUp (E : gEv) (d u : Nat) (σ : gS) {sr : gS}  (hq : p_Router_giveAllUp E σ = some sr) : gC E gDf gMs (d + 2) 122 [.ref 70] (gSh, σ, u) (none, (gSh, sr, u)) := ⟨gM122, rfl, Nat.le_of_ble_eq_true rfl, fun G hG => by
  have hP := hq
  unfold p_Router_giveAllUp at hP
  replace hG : gClo E gDf gP10 gY122 none (gC E gDf gMs (d + 1)) (none, (gSh, sr, u)) G := hG
  show G (0, [some (.ref 70)], [], (gSh, σ, u))
  refine gRunN_ok hG.1 3 _ (5, [some (.ref 70)], [.int 0, .ref 74], (gSh, σ, u)) rfl ?_
  obtain ⟨s2, hq, hP⟩ := g_b1 hP
  refine hG.2.2.2.1 _ _ _ [.ref 74, .int 0] [] _ (gSh, s2, u) none _ _ _ _ _ _ rfl rfl rfl rfl rfl rfl (c_Arrays_fillI E (d + 0) u 74 0 _ rfl hq) (Nat.le_refl _) (Nat.le_refl _) (Nat.le_refl _) (Nat.le_refl _) ?_
  show G (8, [some (.ref 70)], [], (gSh, s2, u))
  refine gRunN_ok hG.1 3 _ (13, [some (.ref 70)], [.int 0, .ref 75], (gSh, s2, u)) rfl ?_
  obtain ⟨s4, hq, hP⟩ := g_b1 hP
  refine hG.2.2.2.1 _ _ _ [.ref 75, .int 0] [] _ (gSh, s4, u) none _ _ _ _ _ _ rfl rfl rfl rfl rfl rfl (c_Arrays_fillI E (d + 0) u 75 0 _ rfl hq) (Nat.le_refl _) (Nat.le_refl _) (Nat.le_refl _) (Nat.le_refl _) ?_
  show G (16, [some (.ref 70)], [], (gSh, s4, u))
  cases hP
  exact hG.2.1 _ _ rfl rfl⟩
def p_Front_clear (E : gEv) (σ : gS) : Option (gS) :=
  gLet (gPut σ 71 2 0) fun s1 => gB1 (p_Arrays_fillI E 73 (-1) s1) fun s3 => some s3
set_option maxRecDepth 20000 in
theorem c_Front_clear (E : gEv) (d u : Nat) (σ : gS) {sr : gS}  (hq : p_Front_clear E σ = some sr) : gC E gDf gMs (d + 2) 126 [.ref 71] (gSh, σ, u) (none, (gSh, sr, u)) := ⟨gM126, rfl, Nat.le_of_ble_eq_true rfl, fun G hG => by
  have hP := hq
  unfold p_Front_clear at hP
  replace hG : gClo E gDf gP11 gY126 none (gC E gDf gMs (d + 1)) (none, (gSh, sr, u)) G := hG
  show G (0, [some (.ref 71)], [], (gSh, σ, u))
  refine gRunN_ok hG.1 3 _ (5, [some (.ref 71)], [], (gSh, (gPut σ 71 2 0), u)) rfl ?_
  obtain ⟨s1, es1, hP⟩ := g_let hP
  rw [← es1]
  refine gRunN_ok hG.1 3 _ (10, [some (.ref 71)], [.int (-1), .ref 73], (gSh, s1, u)) rfl ?_
  obtain ⟨s3, hq, hP⟩ := g_b1 hP
  refine hG.2.2.2.1 _ _ _ [.ref 73, .int (-1)] [] _ (gSh, s3, u) none _ _ _ _ _ _ rfl rfl rfl rfl rfl rfl (c_Arrays_fillI E (d + 0) u 73 (-1) _ rfl hq) (Nat.le_refl _) (Nat.le_refl _) (Nat.le_refl _) (Nat.le_refl _) ?_
  show G (13, [some (.ref 71)], [], (gSh, s3, u))
  cases hP
  exact hG.2.1 _ _ rfl rfl⟩
def p_Router_pushTouched_j58_24 (E : gEv) (l1 : Int32) (l2 : Int32) (l3 : Int32) (l4 : Int32) (σ : gS) : Option ((Int32 × gS) ⊕ (gS)) :=
  gB1 (p_Router_costOf E (l3 + l4) σ) fun v2 => gB1 (p_Front_push E (l3 + l4) v2 σ) fun s5 => gLet (l4 + 1) fun x6 => some (.inl (x6, s5))
set_option maxRecDepth 20000 in
theorem j_Router_pushTouched_j58_24 (E : gEv) (d u : Nat) {G : gFr → Prop} {vo : Option Value} {sr : gS} (hG : gClo E gDf gP10 gY128 none (gC E gDf gMs (d + 1)) (vo, (gSh, sr, u)) G) (l1 : Int32) (l2 : Int32) (l3 : Int32) (l4 : Int32) (σ : gS) {r : (Int32 × gS) ⊕ (gS)} (hP : p_Router_pushTouched_j58_24 E l1 l2 l3 l4 σ = some r) (K1 : ∀ (m4 : Int32) (σ1 : gS), r = .inl (m4, σ1) → G (24, [some (.ref 70), some (.int l1), some (.int l2), some (.int l3), some (.int m4)], [], (gSh, σ1, u))) (K2 : ∀ (σ1 : gS), r = .inr σ1 → G (83, [some (.ref 70), some (.int l1), some (.int l2), none, none], [], (gSh, σ1, u))) : G (58, [some (.ref 70), some (.int l1), some (.int l2), some (.int l3), some (.int l4)], [], (gSh, σ, u)) := by
  unfold p_Router_pushTouched_j58_24 at hP
  refine gRunN_ok hG.1 9 _ (71, [some (.ref 70), some (.int l1), some (.int l2), some (.int l3), some (.int l4)], [.int (l3 + l4), .ref 70, .int (l3 + l4), .ref 71], (gSh, σ, u)) rfl ?_
  obtain ⟨v2, hq, hP⟩ := g_b1 hP
  refine hG.2.2.2.1 _ _ _ [.ref 70, .int (l3 + l4)] [.int (l3 + l4), .ref 71] _ (gSh, σ, u) (some (.int v2)) _ _ _ _ _ _ rfl rfl rfl rfl rfl rfl (c_Router_costOf E (d + 0) u (l3 + l4) _  hq) (Nat.le_refl _) (Nat.le_refl _) (Nat.le_refl _) (Nat.le_refl _) ?_
  show G (74, [some (.ref 70), some (.int l1), some (.int l2), some (.int l3), some (.int l4)], [.int v2, .int (l3 + l4), .ref 71], (gSh, σ, u))
  obtain ⟨s5, hq, hP⟩ := g_b1 hP
  refine hG.2.2.2.1 _ _ _ [.ref 71, .int (l3 + l4), .int v2] [] _ (gSh, s5, u) none _ _ _ _ _ _ rfl rfl rfl rfl rfl rfl (c_Front_push E (d + 0) u (l3 + l4) v2 _  hq) (Nat.le_refl _) (Nat.le_refl _) (Nat.le_refl _) (Nat.le_refl _) ?_
  show G (77, [some (.ref 70), some (.int l1), some (.int l2), some (.int l3), some (.int l4)], [], (gSh, s5, u))
  refine gRunN_ok hG.1 1 _ (80, [some (.ref 70), some (.int l1), some (.int l2), some (.int l3), some (.int (l4 + 1))], [], (gSh, s5, u)) rfl ?_
  obtain ⟨x6, ex6, hP⟩ := g_let hP
  rw [← ex6]
  refine gRunN_ok hG.1 1 _ (24, [some (.ref 70), some (.int l1), some (.int l2), some (.int l3), some (.int x6)], [], (gSh, s5, u)) rfl ?_
  cases hP
  exact K1 _ _ rfl
def p_Router_pushTouched_24 (E : gEv) (l1 : Int32) (l2 : Int32) (l3 : Int32) (l4 : Int32) (σ : gS) : Option ((Int32 × gS) ⊕ (gS)) :=
  if (σ.1 1 3) ≤ l4 then (some (.inr σ)) else (if l3 = ((-1) : Int32) then (some (.inr σ)) else (if (σ.1 70 14) = ((-1) : Int32) then (p_Router_pushTouched_j58_24 E l1 l2 l3 l4 σ) else (if (σ.1 70 14) = l4 then (p_Router_pushTouched_j58_24 E l1 l2 l3 l4 σ) else (gLet (l4 + 1) fun x7 => some (.inl (x7, σ))))))
set_option maxRecDepth 20000 in
theorem b_Router_pushTouched_24 (E : gEv) (d u : Nat) {G : gFr → Prop} {vo : Option Value} {sr : gS} (hG : gClo E gDf gP10 gY128 none (gC E gDf gMs (d + 1)) (vo, (gSh, sr, u)) G) (l1 : Int32) (l2 : Int32) (l3 : Int32) (l4 : Int32) (σ : gS) {r : (Int32 × gS) ⊕ (gS)} (hP : p_Router_pushTouched_24 E l1 l2 l3 l4 σ = some r) (K1 : ∀ (m4 : Int32) (σ1 : gS), r = .inl (m4, σ1) → G (24, [some (.ref 70), some (.int l1), some (.int l2), some (.int l3), some (.int m4)], [], (gSh, σ1, u))) (K2 : ∀ (σ1 : gS), r = .inr σ1 → G (83, [some (.ref 70), some (.int l1), some (.int l2), none, none], [], (gSh, σ1, u))) : G (24, [some (.ref 70), some (.int l1), some (.int l2), some (.int l3), some (.int l4)], [], (gSh, σ, u)) := by
  unfold p_Router_pushTouched_24 at hP
  refine gRunN_ok hG.1 4 _ (33, [some (.ref 70), some (.int l1), some (.int l2), some (.int l3), some (.int l4)], [.int (σ.1 1 3), .int l4], (gSh, σ, u)) rfl ?_
  rcases g_ite hP with ⟨hc, hP⟩ | ⟨hc, hP⟩
  · refine hG.1 _ (83, [some (.ref 70), some (.int l1), some (.int l2), some (.int l3), some (.int l4)], [], (gSh, σ, u)) _ rfl (if_pos hc) ?_
    refine hG.2.2.2.2.1 _ _ [some (.ref 70), some (.int l1), some (.int l2), none, none] _ _ ⟨rfl, ⟨rfl, ⟨rfl, trivial⟩⟩⟩ ?_
    cases hP
    exact K2 _ rfl
  · refine hG.1 _ (36, [some (.ref 70), some (.int l1), some (.int l2), some (.int l3), some (.int l4)], [], (gSh, σ, u)) _ rfl (if_neg hc) ?_
    refine gRunN_ok hG.1 2 _ (38, [some (.ref 70), some (.int l1), some (.int l2), some (.int l3), some (.int l4)], [.int (-1), .int l3], (gSh, σ, u)) rfl ?_
    rcases g_ite hP with ⟨hc, hP⟩ | ⟨hc, hP⟩
    · refine hG.1 _ (83, [some (.ref 70), some (.int l1), some (.int l2), some (.int l3), some (.int l4)], [], (gSh, σ, u)) _ rfl (if_pos hc) ?_
      refine hG.2.2.2.2.1 _ _ [some (.ref 70), some (.int l1), some (.int l2), none, none] _ _ ⟨rfl, ⟨rfl, ⟨rfl, trivial⟩⟩⟩ ?_
      cases hP
      exact K2 _ rfl
    · refine hG.1 _ (41, [some (.ref 70), some (.int l1), some (.int l2), some (.int l3), some (.int l4)], [], (gSh, σ, u)) _ rfl (if_neg hc) ?_
      refine gRunN_ok hG.1 3 _ (46, [some (.ref 70), some (.int l1), some (.int l2), some (.int l3), some (.int l4)], [.int (-1), .int (σ.1 70 14)], (gSh, σ, u)) rfl ?_
      rcases g_ite hP with ⟨hc, hP⟩ | ⟨hc, hP⟩
      · refine hG.1 _ (58, [some (.ref 70), some (.int l1), some (.int l2), some (.int l3), some (.int l4)], [], (gSh, σ, u)) _ rfl (if_pos hc) ?_
        exact j_Router_pushTouched_j58_24 E d u hG l1 l2 l3 l4 σ hP K1 K2
      · refine hG.1 _ (49, [some (.ref 70), some (.int l1), some (.int l2), some (.int l3), some (.int l4)], [], (gSh, σ, u)) _ rfl (if_neg hc) ?_
        refine gRunN_ok hG.1 3 _ (55, [some (.ref 70), some (.int l1), some (.int l2), some (.int l3), some (.int l4)], [.int l4, .int (σ.1 70 14)], (gSh, σ, u)) rfl ?_
        rcases g_ite hP with ⟨hc, hP⟩ | ⟨hc, hP⟩
        · refine hG.1 _ (58, [some (.ref 70), some (.int l1), some (.int l2), some (.int l3), some (.int l4)], [], (gSh, σ, u)) _ rfl (if_pos hc) ?_
          exact j_Router_pushTouched_j58_24 E d u hG l1 l2 l3 l4 σ hP K1 K2
        · refine hG.1 _ (77, [some (.ref 70), some (.int l1), some (.int l2), some (.int l3), some (.int l4)], [], (gSh, σ, u)) _ rfl (if_neg hc) ?_
          refine gRunN_ok hG.1 1 _ (80, [some (.ref 70), some (.int l1), some (.int l2), some (.int l3), some (.int (l4 + 1))], [], (gSh, σ, u)) rfl ?_
          obtain ⟨x7, ex7, hP⟩ := g_let hP
          rw [← ex7]
          refine gRunN_ok hG.1 1 _ (24, [some (.ref 70), some (.int l1), some (.int l2), some (.int l3), some (.int x7)], [], (gSh, σ, u)) rfl ?_
          cases hP
          exact K1 _ _ rfl
theorem l_Router_pushTouched_24 (E : gEv) (d u : Nat) {G : gFr → Prop} {vo : Option Value} {sr : gS} (hG : gClo E gDf gP10 gY128 none (gC E gDf gMs (d + 1)) (vo, (gSh, sr, u)) G) (l1 : Int32) (l2 : Int32) (l3 : Int32) : ∀ (n : Nat) (l4 : Int32) (σ : gS) (e : (gS)), gIter (fun z => p_Router_pushTouched_24 E l1 l2 l3 z.1 z.2) n (l4, σ) = some e → (∀ (σ1 : gS), e = σ1 → G (83, [some (.ref 70), some (.int l1), some (.int l2), none, none], [], (gSh, σ1, u))) → G (24, [some (.ref 70), some (.int l1), some (.int l2), some (.int l3), some (.int l4)], [], (gSh, σ, u)) := by
  intro n
  induction n with
  | zero => intro l4 σ e h; cases h
  | succ n ih =>
    intro l4 σ e h K2
    rcases g_iter h with ⟨z, h1, h2⟩ | h1
    · exact b_Router_pushTouched_24 E d u hG l1 l2 l3 l4 σ h1 (fun n0 n1 hz => by cases hz; exact ih _ _ e h2 K2) (fun _ hz => by cases hz)
    · exact b_Router_pushTouched_24 E d u hG l1 l2 l3 l4 σ h1 (fun _ _ hz => by cases hz) (fun σ1 hz => K2 σ1 (by cases hz; rfl))
def p_Router_pushTouched_2 (E : gEv) (l1 : Int32) (l2 : Int32) (σ : gS) : Option ((Int32 × gS) ⊕ (gS)) :=
  if (4 : Int32) ≤ l2 then (some (.inr σ)) else (if gIn ((l1 * (4 : Int32)) + l2) (σ.2.1 4) then gLet (σ.1 4 ((l1 * (4 : Int32)) + l2).toNatClampNeg) fun x1 => gB1 (gIter (fun z => p_Router_pushTouched_24 E l1 l2 x1 z.1 z.2) gN (0, σ)) fun e8 => (fun s9 => gLet (l2 + 1) fun x10 => some (.inl (x10, s9))) e8 else none)
set_option maxRecDepth 20000 in
theorem b_Router_pushTouched_2 (E : gEv) (d u : Nat) {G : gFr → Prop} {vo : Option Value} {sr : gS} (hG : gClo E gDf gP10 gY128 none (gC E gDf gMs (d + 1)) (vo, (gSh, sr, u)) G) (l1 : Int32) (l2 : Int32) (σ : gS) {r : (Int32 × gS) ⊕ (gS)} (hP : p_Router_pushTouched_2 E l1 l2 σ = some r) (K1 : ∀ (m2 : Int32) (σ1 : gS), r = .inl (m2, σ1) → G (2, [some (.ref 70), some (.int l1), some (.int m2), none, none], [], (gSh, σ1, u))) (K2 : ∀ (σ1 : gS), r = .inr σ1 → G (89, [none, none, none, none, none], [], (gSh, σ1, u))) : G (2, [some (.ref 70), some (.int l1), some (.int l2), none, none], [], (gSh, σ, u)) := by
  unfold p_Router_pushTouched_2 at hP
  refine gRunN_ok hG.1 2 _ (4, [some (.ref 70), some (.int l1), some (.int l2), none, none], [.int 4, .int l2], (gSh, σ, u)) rfl ?_
  rcases g_ite hP with ⟨hc, hP⟩ | ⟨hc, hP⟩
  · refine hG.1 _ (89, [some (.ref 70), some (.int l1), some (.int l2), none, none], [], (gSh, σ, u)) _ rfl (if_pos hc) ?_
    refine hG.2.2.2.2.1 _ _ [none, none, none, none, none] _ _ trivial ?_
    cases hP
    exact K2 _ rfl
  · refine hG.1 _ (7, [some (.ref 70), some (.int l1), some (.int l2), none, none], [], (gSh, σ, u)) _ rfl (if_neg hc) ?_
    refine gRunN_ok hG.1 8 _ (19, [some (.ref 70), some (.int l1), some (.int l2), none, none], [.int ((l1 * (4 : Int32)) + l2), .ref 4], (gSh, σ, u)) rfl ?_
    obtain ⟨hc, hP⟩ := g_if hP
    refine hG.1 _ (20, [some (.ref 70), some (.int l1), some (.int l2), none, none], [.int (σ.1 4 ((l1 * (4 : Int32)) + l2).toNatClampNeg)], (gSh, σ, u)) _ rfl (if_pos hc) ?_
    refine gRunN_ok hG.1 1 _ (21, [some (.ref 70), some (.int l1), some (.int l2), some (.int (σ.1 4 ((l1 * (4 : Int32)) + l2).toNatClampNeg)), none], [], (gSh, σ, u)) rfl ?_
    obtain ⟨x1, ex1, hP⟩ := g_let hP
    rw [← ex1]
    refine gRunN_ok hG.1 2 _ (24, [some (.ref 70), some (.int l1), some (.int l2), some (.int x1), some (.int 0)], [], (gSh, σ, u)) rfl ?_
    obtain ⟨e8, hq, hP⟩ := g_b1 hP
    refine l_Router_pushTouched_24 E d u hG l1 l2 x1 gN 0 σ _ hq (fun s9 he => ?_)
    · replace he := he.symm
      subst he
      try dsimp only [gSum] at hP
      refine gRunN_ok hG.1 1 _ (86, [some (.ref 70), some (.int l1), some (.int (l2 + 1)), none, none], [], (gSh, s9, u)) rfl ?_
      obtain ⟨x10, ex10, hP⟩ := g_let hP
      rw [← ex10]
      refine gRunN_ok hG.1 1 _ (2, [some (.ref 70), some (.int l1), some (.int x10), none, none], [], (gSh, s9, u)) rfl ?_
      cases hP
      exact K1 _ _ rfl
theorem l_Router_pushTouched_2 (E : gEv) (d u : Nat) {G : gFr → Prop} {vo : Option Value} {sr : gS} (hG : gClo E gDf gP10 gY128 none (gC E gDf gMs (d + 1)) (vo, (gSh, sr, u)) G) (l1 : Int32) : ∀ (n : Nat) (l2 : Int32) (σ : gS) (e : (gS)), gIter (fun z => p_Router_pushTouched_2 E l1 z.1 z.2) n (l2, σ) = some e → (∀ (σ1 : gS), e = σ1 → G (89, [none, none, none, none, none], [], (gSh, σ1, u))) → G (2, [some (.ref 70), some (.int l1), some (.int l2), none, none], [], (gSh, σ, u)) := by
  intro n
  induction n with
  | zero => intro l2 σ e h; cases h
  | succ n ih =>
    intro l2 σ e h K2
    rcases g_iter h with ⟨z, h1, h2⟩ | h1
    · exact b_Router_pushTouched_2 E d u hG l1 l2 σ h1 (fun n0 n1 hz => by cases hz; exact ih _ _ e h2 K2) (fun _ hz => by cases hz)
    · exact b_Router_pushTouched_2 E d u hG l1 l2 σ h1 (fun _ _ hz => by cases hz) (fun σ1 hz => K2 σ1 (by cases hz; rfl))
def p_Router_pushTouched (E : gEv) (a0 : Int32) (σ : gS) : Option (gS) :=
  gB1 (gIter (fun z => p_Router_pushTouched_2 E a0 z.1 z.2) gN (0, σ)) fun e11 => (fun s12 => some s12) e11
set_option maxRecDepth 20000 in
theorem c_Router_pushTouched (E : gEv) (d u : Nat) (a0 : Int32) (σ : gS) {sr : gS}  (hq : p_Router_pushTouched E a0 σ = some sr) : gC E gDf gMs (d + 2) 128 [.ref 70, .int a0] (gSh, σ, u) (none, (gSh, sr, u)) := ⟨gM128, rfl, Nat.le_of_ble_eq_true rfl, fun G hG => by
  have hP := hq
  unfold p_Router_pushTouched at hP
  replace hG : gClo E gDf gP10 gY128 none (gC E gDf gMs (d + 1)) (none, (gSh, sr, u)) G := hG
  show G (0, [some (.ref 70), some (.int a0), none, none, none], [], (gSh, σ, u))
  refine gRunN_ok hG.1 2 _ (2, [some (.ref 70), some (.int a0), some (.int 0), none, none], [], (gSh, σ, u)) rfl ?_
  obtain ⟨e11, hq, hP⟩ := g_b1 hP
  refine l_Router_pushTouched_2 E d u hG a0 gN 0 σ _ hq (fun s12 he => ?_)
  · replace he := he.symm
    subst he
    try dsimp only [gSum] at hP
    cases hP
    exact hG.2.1 _ _ rfl rfl⟩
def p_Router_walkBack_j87_6 (E : gEv) (l1 : Int32) (l2 : Int32) (l4 : Int32) (l5 : Int32) (l6 : Int32) (l7 : Int32) (σ : gS) : Option ((Int32 × Int32 × gS) ⊕ ((gS) ⊕ ((Int32 × gS) ⊕ (gS)))) :=
  gB2 (p_Router_joinNext E l4 (l6 - l7) σ) fun v8 s9 => gLet (l5 + 1) fun x10 => some (.inl (v8, x10, s9))
set_option maxRecDepth 20000 in
theorem j_Router_walkBack_j87_6 (E : gEv) (d u : Nat) {G : gFr → Prop} {vo : Option Value} {sr : gS} (hG : gClo E gDf gP10 gY132 none (gC E gDf gMs (d + 1)) (vo, (gSh, sr, u)) G) (l1 : Int32) (l2 : Int32) (l4 : Int32) (l5 : Int32) (l6 : Int32) (l7 : Int32) (σ : gS) {r : (Int32 × Int32 × gS) ⊕ ((gS) ⊕ ((Int32 × gS) ⊕ (gS)))} (hP : p_Router_walkBack_j87_6 E l1 l2 l4 l5 l6 l7 σ = some r) (K1 : ∀ (m4 : Int32) (m5 : Int32) (σ1 : gS), r = .inl (m4, m5, σ1) → G (6, [some (.ref 70), some (.int l1), some (.int l2), none, some (.int m4), some (.int m5), none, none], [], (gSh, σ1, u))) (K2 : ∀ (σ1 : gS), r = .inr (.inl σ1) → G (41, [none, none, none, none, none, none, none, none], [], (gSh, σ1, u))) (K3 : ∀ (m4 : Int32) (σ1 : gS), r = .inr (.inr (.inl (m4, σ1))) → G (78, [some (.ref 70), none, none, none, some (.int m4), none, none, none], [], (gSh, σ1, u))) (K4 : ∀ (σ1 : gS), r = .inr (.inr (.inr σ1)) → G (106, [none, none, none, none, none, none, none, none], [], (gSh, σ1, u))) : G (87, [some (.ref 70), some (.int l1), some (.int l2), none, some (.int l4), some (.int l5), some (.int l6), some (.int l7)], [], (gSh, σ, u)) := by
  unfold p_Router_walkBack_j87_6 at hP
  refine gRunN_ok hG.1 5 _ (95, [some (.ref 70), some (.int l1), some (.int l2), none, some (.int l4), some (.int l5), some (.int l6), some (.int l7)], [.int (l6 - l7), .int l4, .ref 70], (gSh, σ, u)) rfl ?_
  obtain ⟨v8, s9, hq, hP⟩ := g_b2 hP
  refine hG.2.2.2.1 _ _ _ [.ref 70, .int l4, .int (l6 - l7)] [] _ (gSh, s9, u) (some (.int v8)) _ _ _ _ _ _ rfl rfl rfl rfl rfl rfl (c_Router_joinNext E (d + 0) u l4 (l6 - l7) _  hq) (Nat.le_refl _) (Nat.le_refl _) (Nat.le_refl _) (Nat.le_refl _) ?_
  show G (98, [some (.ref 70), some (.int l1), some (.int l2), none, some (.int l4), some (.int l5), some (.int l6), some (.int l7)], [.int v8], (gSh, s9, u))
  refine gRunN_ok hG.1 2 _ (103, [some (.ref 70), some (.int l1), some (.int l2), none, some (.int v8), some (.int (l5 + 1)), some (.int l6), some (.int l7)], [], (gSh, s9, u)) rfl ?_
  obtain ⟨x10, ex10, hP⟩ := g_let hP
  rw [← ex10]
  refine gRunN_ok hG.1 1 _ (6, [some (.ref 70), some (.int l1), some (.int l2), none, some (.int v8), some (.int x10), some (.int l6), some (.int l7)], [], (gSh, s9, u)) rfl ?_
  refine hG.2.2.2.2.1 _ _ [some (.ref 70), some (.int l1), some (.int l2), none, some (.int v8), some (.int x10), none, none] _ _ ⟨rfl, ⟨rfl, ⟨rfl, ⟨rfl, ⟨rfl, trivial⟩⟩⟩⟩⟩ ?_
  cases hP
  exact K1 _ _ _ rfl
def p_Router_walkBack_6 (E : gEv) (l1 : Int32) (l2 : Int32) (l4 : Int32) (l5 : Int32) (σ : gS) : Option ((Int32 × Int32 × gS) ⊕ ((gS) ⊕ ((Int32 × gS) ⊕ (gS)))) :=
  if (σ.1 1 7) ≤ l5 then (some (.inr (.inr (.inr σ)))) else (if l4 = ((-1) : Int32) then (some (.inr (.inr (.inr σ)))) else (if gIn l4 (σ.2.1 73) then gLet (σ.1 73 l4.toNatClampNeg) fun x1 => if x1 = 0 then (some (.inr (.inl σ))) else (gB1 (p_Router_costOf E l4 σ) fun v2 => gB1 (p_Router_gain E l1 l4 σ) fun s5 => if x1 = v2 then (gB1 (p_Grid_reach E l2 l4 s5) fun v6 => if v6 = ((-1) : Int32) then (p_Router_walkBack_j87_6 E l1 l2 l4 l5 x1 v2 s5) else (some (.inr (.inr (.inl (l4, s5)))))) else (p_Router_walkBack_j87_6 E l1 l2 l4 l5 x1 v2 s5)) else none))
set_option maxRecDepth 20000 in
theorem b_Router_walkBack_6 (E : gEv) (d u : Nat) {G : gFr → Prop} {vo : Option Value} {sr : gS} (hG : gClo E gDf gP10 gY132 none (gC E gDf gMs (d + 1)) (vo, (gSh, sr, u)) G) (l1 : Int32) (l2 : Int32) (l4 : Int32) (l5 : Int32) (σ : gS) {r : (Int32 × Int32 × gS) ⊕ ((gS) ⊕ ((Int32 × gS) ⊕ (gS)))} (hP : p_Router_walkBack_6 E l1 l2 l4 l5 σ = some r) (K1 : ∀ (m4 : Int32) (m5 : Int32) (σ1 : gS), r = .inl (m4, m5, σ1) → G (6, [some (.ref 70), some (.int l1), some (.int l2), none, some (.int m4), some (.int m5), none, none], [], (gSh, σ1, u))) (K2 : ∀ (σ1 : gS), r = .inr (.inl σ1) → G (41, [none, none, none, none, none, none, none, none], [], (gSh, σ1, u))) (K3 : ∀ (m4 : Int32) (σ1 : gS), r = .inr (.inr (.inl (m4, σ1))) → G (78, [some (.ref 70), none, none, none, some (.int m4), none, none, none], [], (gSh, σ1, u))) (K4 : ∀ (σ1 : gS), r = .inr (.inr (.inr σ1)) → G (106, [none, none, none, none, none, none, none, none], [], (gSh, σ1, u))) : G (6, [some (.ref 70), some (.int l1), some (.int l2), none, some (.int l4), some (.int l5), none, none], [], (gSh, σ, u)) := by
  unfold p_Router_walkBack_6 at hP
  refine gRunN_ok hG.1 4 _ (15, [some (.ref 70), some (.int l1), some (.int l2), none, some (.int l4), some (.int l5), none, none], [.int (σ.1 1 7), .int l5], (gSh, σ, u)) rfl ?_
  rcases g_ite hP with ⟨hc, hP⟩ | ⟨hc, hP⟩
  · refine hG.1 _ (106, [some (.ref 70), some (.int l1), some (.int l2), none, some (.int l4), some (.int l5), none, none], [], (gSh, σ, u)) _ rfl (if_pos hc) ?_
    refine hG.2.2.2.2.1 _ _ [none, none, none, none, none, none, none, none] _ _ trivial ?_
    cases hP
    exact K4 _ rfl
  · refine hG.1 _ (18, [some (.ref 70), some (.int l1), some (.int l2), none, some (.int l4), some (.int l5), none, none], [], (gSh, σ, u)) _ rfl (if_neg hc) ?_
    refine gRunN_ok hG.1 2 _ (21, [some (.ref 70), some (.int l1), some (.int l2), none, some (.int l4), some (.int l5), none, none], [.int (-1), .int l4], (gSh, σ, u)) rfl ?_
    rcases g_ite hP with ⟨hc, hP⟩ | ⟨hc, hP⟩
    · refine hG.1 _ (106, [some (.ref 70), some (.int l1), some (.int l2), none, some (.int l4), some (.int l5), none, none], [], (gSh, σ, u)) _ rfl (if_pos hc) ?_
      refine hG.2.2.2.2.1 _ _ [none, none, none, none, none, none, none, none] _ _ trivial ?_
      cases hP
      exact K4 _ rfl
    · refine hG.1 _ (24, [some (.ref 70), some (.int l1), some (.int l2), none, some (.int l4), some (.int l5), none, none], [], (gSh, σ, u)) _ rfl (if_neg hc) ?_
      refine gRunN_ok hG.1 4 _ (33, [some (.ref 70), some (.int l1), some (.int l2), none, some (.int l4), some (.int l5), none, none], [.int l4, .ref 73], (gSh, σ, u)) rfl ?_
      obtain ⟨hc, hP⟩ := g_if hP
      refine hG.1 _ (34, [some (.ref 70), some (.int l1), some (.int l2), none, some (.int l4), some (.int l5), none, none], [.int (σ.1 73 l4.toNatClampNeg)], (gSh, σ, u)) _ rfl (if_pos hc) ?_
      refine gRunN_ok hG.1 1 _ (36, [some (.ref 70), some (.int l1), some (.int l2), none, some (.int l4), some (.int l5), some (.int (σ.1 73 l4.toNatClampNeg)), none], [], (gSh, σ, u)) rfl ?_
      obtain ⟨x1, ex1, hP⟩ := g_let hP
      rw [← ex1]
      refine gRunN_ok hG.1 1 _ (38, [some (.ref 70), some (.int l1), some (.int l2), none, some (.int l4), some (.int l5), some (.int x1), none], [.int x1], (gSh, σ, u)) rfl ?_
      rcases g_ite hP with ⟨hc, hP⟩ | ⟨hc, hP⟩
      · refine hG.1 _ (41, [some (.ref 70), some (.int l1), some (.int l2), none, some (.int l4), some (.int l5), some (.int x1), none], [], (gSh, σ, u)) _ rfl (if_pos hc) ?_
        refine hG.2.2.2.2.1 _ _ [none, none, none, none, none, none, none, none] _ _ trivial ?_
        cases hP
        exact K2 _ rfl
      · refine hG.1 _ (42, [some (.ref 70), some (.int l1), some (.int l2), none, some (.int l4), some (.int l5), some (.int x1), none], [], (gSh, σ, u)) _ rfl (if_neg hc) ?_
        refine gRunN_ok hG.1 2 _ (45, [some (.ref 70), some (.int l1), some (.int l2), none, some (.int l4), some (.int l5), some (.int x1), none], [.int l4, .ref 70], (gSh, σ, u)) rfl ?_
        obtain ⟨v2, hq, hP⟩ := g_b1 hP
        refine hG.2.2.2.1 _ _ _ [.ref 70, .int l4] [] _ (gSh, σ, u) (some (.int v2)) _ _ _ _ _ _ rfl rfl rfl rfl rfl rfl (c_Router_costOf E (d + 0) u l4 _  hq) (Nat.le_refl _) (Nat.le_refl _) (Nat.le_refl _) (Nat.le_refl _) ?_
        show G (48, [some (.ref 70), some (.int l1), some (.int l2), none, some (.int l4), some (.int l5), some (.int x1), none], [.int v2], (gSh, σ, u))
        refine gRunN_ok hG.1 4 _ (54, [some (.ref 70), some (.int l1), some (.int l2), none, some (.int l4), some (.int l5), some (.int x1), some (.int v2)], [.int l4, .int l1, .ref 70], (gSh, σ, u)) rfl ?_
        obtain ⟨s5, hq, hP⟩ := g_b1 hP
        refine hG.2.2.2.1 _ _ _ [.ref 70, .int l1, .int l4] [] _ (gSh, s5, u) none _ _ _ _ _ _ rfl rfl rfl rfl rfl rfl (c_Router_gain E (d + 0) u l1 l4 _  hq) (Nat.le_refl _) (Nat.le_refl _) (Nat.le_refl _) (Nat.le_refl _) ?_
        show G (57, [some (.ref 70), some (.int l1), some (.int l2), none, some (.int l4), some (.int l5), some (.int x1), some (.int v2)], [], (gSh, s5, u))
        refine gRunN_ok hG.1 2 _ (61, [some (.ref 70), some (.int l1), some (.int l2), none, some (.int l4), some (.int l5), some (.int x1), some (.int v2)], [.int v2, .int x1], (gSh, s5, u)) rfl ?_
        rcases g_ite hP with ⟨hc, hP⟩ | ⟨hc, hP⟩
        · refine hG.1 _ (64, [some (.ref 70), some (.int l1), some (.int l2), none, some (.int l4), some (.int l5), some (.int x1), some (.int v2)], [], (gSh, s5, u)) _ rfl (if_pos hc) ?_
          refine gRunN_ok hG.1 4 _ (71, [some (.ref 70), some (.int l1), some (.int l2), none, some (.int l4), some (.int l5), some (.int x1), some (.int v2)], [.int l4, .int l2, .ref 1], (gSh, s5, u)) rfl ?_
          obtain ⟨v6, hq, hP⟩ := g_b1 hP
          refine hG.2.2.2.1 _ _ _ [.ref 1, .int l2, .int l4] [] _ (gSh, s5, u) (some (.int v6)) _ _ _ _ _ _ rfl rfl rfl rfl rfl rfl (c_Grid_reach E (d + 0) u l2 l4 _  hq) (Nat.le_refl _) (Nat.le_refl _) (Nat.le_refl _) (Nat.le_refl _) ?_
          show G (74, [some (.ref 70), some (.int l1), some (.int l2), none, some (.int l4), some (.int l5), some (.int x1), some (.int v2)], [.int v6], (gSh, s5, u))
          refine gRunN_ok hG.1 1 _ (75, [some (.ref 70), some (.int l1), some (.int l2), none, some (.int l4), some (.int l5), some (.int x1), some (.int v2)], [.int (-1), .int v6], (gSh, s5, u)) rfl ?_
          rcases g_ite hP with ⟨hc, hP⟩ | ⟨hc, hP⟩
          · refine hG.1 _ (87, [some (.ref 70), some (.int l1), some (.int l2), none, some (.int l4), some (.int l5), some (.int x1), some (.int v2)], [], (gSh, s5, u)) _ rfl (if_pos hc) ?_
            exact j_Router_walkBack_j87_6 E d u hG l1 l2 l4 l5 x1 v2 s5 hP K1 K2 K3 K4
          · refine hG.1 _ (78, [some (.ref 70), some (.int l1), some (.int l2), none, some (.int l4), some (.int l5), some (.int x1), some (.int v2)], [], (gSh, s5, u)) _ rfl (if_neg hc) ?_
            refine hG.2.2.2.2.1 _ _ [some (.ref 70), none, none, none, some (.int l4), none, none, none] _ _ ⟨rfl, ⟨rfl, trivial⟩⟩ ?_
            cases hP
            exact K3 _ _ rfl
        · refine hG.1 _ (87, [some (.ref 70), some (.int l1), some (.int l2), none, some (.int l4), some (.int l5), some (.int x1), some (.int v2)], [], (gSh, s5, u)) _ rfl (if_neg hc) ?_
          exact j_Router_walkBack_j87_6 E d u hG l1 l2 l4 l5 x1 v2 s5 hP K1 K2 K3 K4
theorem l_Router_walkBack_6 (E : gEv) (d u : Nat) {G : gFr → Prop} {vo : Option Value} {sr : gS} (hG : gClo E gDf gP10 gY132 none (gC E gDf gMs (d + 1)) (vo, (gSh, sr, u)) G) (l1 : Int32) (l2 : Int32) : ∀ (n : Nat) (l4 : Int32) (l5 : Int32) (σ : gS) (e : ((gS) ⊕ ((Int32 × gS) ⊕ (gS)))), gIter (fun z => p_Router_walkBack_6 E l1 l2 z.1 z.2.1 z.2.2) n (l4, l5, σ) = some e → (∀ (σ1 : gS), e = (.inl σ1) → G (41, [none, none, none, none, none, none, none, none], [], (gSh, σ1, u))) → (∀ (m4 : Int32) (σ1 : gS), e = (.inr (.inl (m4, σ1))) → G (78, [some (.ref 70), none, none, none, some (.int m4), none, none, none], [], (gSh, σ1, u))) → (∀ (σ1 : gS), e = (.inr (.inr σ1)) → G (106, [none, none, none, none, none, none, none, none], [], (gSh, σ1, u))) → G (6, [some (.ref 70), some (.int l1), some (.int l2), none, some (.int l4), some (.int l5), none, none], [], (gSh, σ, u)) := by
  intro n
  induction n with
  | zero => intro l4 l5 σ e h; cases h
  | succ n ih =>
    intro l4 l5 σ e h K2 K3 K4
    rcases g_iter h with ⟨z, h1, h2⟩ | h1
    · exact b_Router_walkBack_6 E d u hG l1 l2 l4 l5 σ h1 (fun n0 n1 n2 hz => by cases hz; exact ih _ _ _ e h2 K2 K3 K4) (fun _ hz => by cases hz) (fun _ _ hz => by cases hz) (fun _ hz => by cases hz)
    · exact b_Router_walkBack_6 E d u hG l1 l2 l4 l5 σ h1 (fun _ _ _ hz => by cases hz) (fun σ1 hz => K2 σ1 (by cases hz; rfl)) (fun m4 σ1 hz => K3 m4 σ1 (by cases hz; rfl)) (fun σ1 hz => K4 σ1 (by cases hz; rfl))
def p_Router_walkBack (E : gEv) (a0 : Int32) (a1 : Int32) (a2 : Int32) (σ : gS) : Option (gS) :=
  gB1 (gIter (fun z => p_Router_walkBack_6 E a0 a1 z.1 z.2.1 z.2.2) gN (a2, 0, σ)) fun e11 => gSum e11 (fun e17 => (fun s12 => some s12) e17) (fun e18 => gSum e18 (fun e19 => (fun w13 s14 => if gIn w13 (s14.2.1 77) then gLet (gPut s14 77 w13.toNatClampNeg (-1)) fun s15 => some s15 else none) e19.1 e19.2) (fun e20 => (fun s16 => some s16) e20))
set_option maxRecDepth 20000 in
theorem c_Router_walkBack (E : gEv) (d u : Nat) (a0 : Int32) (a1 : Int32) (a2 : Int32) (σ : gS) {sr : gS}  (hq : p_Router_walkBack E a0 a1 a2 σ = some sr) : gC E gDf gMs (d + 2) 132 [.ref 70, .int a0, .int a1, .int a2] (gSh, σ, u) (none, (gSh, sr, u)) := ⟨gM132, rfl, Nat.le_of_ble_eq_true rfl, fun G hG => by
  have hP := hq
  unfold p_Router_walkBack at hP
  replace hG : gClo E gDf gP10 gY132 none (gC E gDf gMs (d + 1)) (none, (gSh, sr, u)) G := hG
  show G (0, [some (.ref 70), some (.int a0), some (.int a1), some (.int a2), none, none, none, none], [], (gSh, σ, u))
  refine gRunN_ok hG.1 4 _ (6, [some (.ref 70), some (.int a0), some (.int a1), some (.int a2), some (.int a2), some (.int 0), none, none], [], (gSh, σ, u)) rfl ?_
  refine hG.2.2.2.2.1 _ _ [some (.ref 70), some (.int a0), some (.int a1), none, some (.int a2), some (.int 0), none, none] _ _ ⟨rfl, ⟨rfl, ⟨rfl, ⟨rfl, ⟨rfl, trivial⟩⟩⟩⟩⟩ ?_
  obtain ⟨e11, hq, hP⟩ := g_b1 hP
  refine l_Router_walkBack_6 E d u hG a0 a1 gN a2 0 σ _ hq (fun s12 he => ?_) (fun w13 s14 he => ?_) (fun s16 he => ?_)
  · subst he
    try dsimp only [gSum] at hP
    cases hP
    exact hG.2.1 _ _ rfl rfl
  · subst he
    try dsimp only [gSum] at hP
    refine gRunN_ok hG.1 4 _ (85, [some (.ref 70), none, none, none, some (.int w13), none, none, none], [.int (-1), .int w13, .ref 77], (gSh, s14, u)) rfl ?_
    obtain ⟨hc, hP⟩ := g_if hP
    refine hG.1 _ (86, [some (.ref 70), none, none, none, some (.int w13), none, none, none], [], (gSh, (gPut s14 77 w13.toNatClampNeg (-1)), u)) _ rfl (if_pos hc) ?_
    obtain ⟨s15, es15, hP⟩ := g_let hP
    rw [← es15]
    cases hP
    exact hG.2.1 _ _ rfl rfl
  · subst he
    try dsimp only [gSum] at hP
    cases hP
    exact hG.2.1 _ _ rfl rfl⟩
def p_Router_keep_23 (E : gEv) (l1 : Int32) (l2 : Int32) (l3 : Int32) (σ : gS) : Option ((Int32 × gS) ⊕ (gS)) :=
  if (σ.1 1 7) ≤ l3 then (some (.inr σ)) else (if gIn ((l2 * (σ.1 70 4)) + ((l3.toUInt32 >>> ((5 : Int32).toUInt32 &&& Int32.toUInt32 31)).toInt32)) (σ.2.1 74) then if ((((σ.1 74 ((l2 * (σ.1 70 4)) + ((l3.toUInt32 >>> ((5 : Int32).toUInt32 &&& Int32.toUInt32 31)).toInt32)).toNatClampNeg).toUInt32 >>> ((l3 &&& (31 : Int32)).toUInt32 &&& Int32.toUInt32 31)).toInt32) &&& (1 : Int32)) = (1 : Int32) then (if gIn l3 (σ.2.1 78) then gLet (gPut σ 78 l3.toNatClampNeg l2) fun s3 => gLet (l3 + 1) fun x4 => some (.inl (x4, s3)) else none) else (gLet (l3 + 1) fun x5 => some (.inl (x5, σ))) else none)
set_option maxRecDepth 20000 in
theorem b_Router_keep_23 (E : gEv) (d u : Nat) {G : gFr → Prop} {vo : Option Value} {sr : gS} (hG : gClo E gDf gP10 gY136 (some .int) (gC E gDf gMs (d + 1)) (vo, (gSh, sr, u)) G) (l1 : Int32) (l2 : Int32) (l3 : Int32) (σ : gS) {r : (Int32 × gS) ⊕ (gS)} (hP : p_Router_keep_23 E l1 l2 l3 σ = some r) (K1 : ∀ (m3 : Int32) (σ1 : gS), r = .inl (m3, σ1) → G (23, [some (.ref 70), some (.int l1), some (.int l2), some (.int m3)], [], (gSh, σ1, u))) (K2 : ∀ (σ1 : gS), r = .inr σ1 → G (73, [some (.ref 70), some (.int l1), some (.int l2), none], [], (gSh, σ1, u))) : G (23, [some (.ref 70), some (.int l1), some (.int l2), some (.int l3)], [], (gSh, σ, u)) := by
  unfold p_Router_keep_23 at hP
  refine gRunN_ok hG.1 4 _ (31, [some (.ref 70), some (.int l1), some (.int l2), some (.int l3)], [.int (σ.1 1 7), .int l3], (gSh, σ, u)) rfl ?_
  rcases g_ite hP with ⟨hc, hP⟩ | ⟨hc, hP⟩
  · refine hG.1 _ (73, [some (.ref 70), some (.int l1), some (.int l2), some (.int l3)], [], (gSh, σ, u)) _ rfl (if_pos hc) ?_
    refine hG.2.2.2.2.1 _ _ [some (.ref 70), some (.int l1), some (.int l2), none] _ _ ⟨rfl, ⟨rfl, ⟨rfl, trivial⟩⟩⟩ ?_
    cases hP
    exact K2 _ rfl
  · refine hG.1 _ (34, [some (.ref 70), some (.int l1), some (.int l2), some (.int l3)], [], (gSh, σ, u)) _ rfl (if_neg hc) ?_
    refine gRunN_ok hG.1 10 _ (48, [some (.ref 70), some (.int l1), some (.int l2), some (.int l3)], [.int ((l2 * (σ.1 70 4)) + ((l3.toUInt32 >>> ((5 : Int32).toUInt32 &&& Int32.toUInt32 31)).toInt32)), .ref 74], (gSh, σ, u)) rfl ?_
    obtain ⟨hc, hP⟩ := g_if hP
    refine hG.1 _ (49, [some (.ref 70), some (.int l1), some (.int l2), some (.int l3)], [.int (σ.1 74 ((l2 * (σ.1 70 4)) + ((l3.toUInt32 >>> ((5 : Int32).toUInt32 &&& Int32.toUInt32 31)).toInt32)).toNatClampNeg)], (gSh, σ, u)) _ rfl (if_pos hc) ?_
    refine gRunN_ok hG.1 7 _ (57, [some (.ref 70), some (.int l1), some (.int l2), some (.int l3)], [.int 1, .int ((((σ.1 74 ((l2 * (σ.1 70 4)) + ((l3.toUInt32 >>> ((5 : Int32).toUInt32 &&& Int32.toUInt32 31)).toInt32)).toNatClampNeg).toUInt32 >>> ((l3 &&& (31 : Int32)).toUInt32 &&& Int32.toUInt32 31)).toInt32) &&& (1 : Int32))], (gSh, σ, u)) rfl ?_
    rcases g_ite hP with ⟨hc, hP⟩ | ⟨hc, hP⟩
    · refine hG.1 _ (60, [some (.ref 70), some (.int l1), some (.int l2), some (.int l3)], [], (gSh, σ, u)) _ rfl (if_pos hc) ?_
      refine gRunN_ok hG.1 4 _ (66, [some (.ref 70), some (.int l1), some (.int l2), some (.int l3)], [.int l2, .int l3, .ref 78], (gSh, σ, u)) rfl ?_
      obtain ⟨hc, hP⟩ := g_if hP
      refine hG.1 _ (67, [some (.ref 70), some (.int l1), some (.int l2), some (.int l3)], [], (gSh, (gPut σ 78 l3.toNatClampNeg l2), u)) _ rfl (if_pos hc) ?_
      obtain ⟨s3, es3, hP⟩ := g_let hP
      rw [← es3]
      refine gRunN_ok hG.1 1 _ (70, [some (.ref 70), some (.int l1), some (.int l2), some (.int (l3 + 1))], [], (gSh, s3, u)) rfl ?_
      obtain ⟨x4, ex4, hP⟩ := g_let hP
      rw [← ex4]
      refine gRunN_ok hG.1 1 _ (23, [some (.ref 70), some (.int l1), some (.int l2), some (.int x4)], [], (gSh, s3, u)) rfl ?_
      cases hP
      exact K1 _ _ rfl
    · refine hG.1 _ (67, [some (.ref 70), some (.int l1), some (.int l2), some (.int l3)], [], (gSh, σ, u)) _ rfl (if_neg hc) ?_
      refine gRunN_ok hG.1 1 _ (70, [some (.ref 70), some (.int l1), some (.int l2), some (.int (l3 + 1))], [], (gSh, σ, u)) rfl ?_
      obtain ⟨x5, ex5, hP⟩ := g_let hP
      rw [← ex5]
      refine gRunN_ok hG.1 1 _ (23, [some (.ref 70), some (.int l1), some (.int l2), some (.int x5)], [], (gSh, σ, u)) rfl ?_
      cases hP
      exact K1 _ _ rfl
theorem l_Router_keep_23 (E : gEv) (d u : Nat) {G : gFr → Prop} {vo : Option Value} {sr : gS} (hG : gClo E gDf gP10 gY136 (some .int) (gC E gDf gMs (d + 1)) (vo, (gSh, sr, u)) G) (l1 : Int32) (l2 : Int32) : ∀ (n : Nat) (l3 : Int32) (σ : gS) (e : (gS)), gIter (fun z => p_Router_keep_23 E l1 l2 z.1 z.2) n (l3, σ) = some e → (∀ (σ1 : gS), e = σ1 → G (73, [some (.ref 70), some (.int l1), some (.int l2), none], [], (gSh, σ1, u))) → G (23, [some (.ref 70), some (.int l1), some (.int l2), some (.int l3)], [], (gSh, σ, u)) := by
  intro n
  induction n with
  | zero => intro l3 σ e h; cases h
  | succ n ih =>
    intro l3 σ e h K2
    rcases g_iter h with ⟨z, h1, h2⟩ | h1
    · exact b_Router_keep_23 E d u hG l1 l2 l3 σ h1 (fun n0 n1 hz => by cases hz; exact ih _ _ e h2 K2) (fun _ hz => by cases hz)
    · exact b_Router_keep_23 E d u hG l1 l2 l3 σ h1 (fun _ _ hz => by cases hz) (fun σ1 hz => K2 σ1 (by cases hz; rfl))
def p_Router_keep_10 (E : gEv) (l1 : Int32) (l2 : Int32) (σ : gS) : Option ((Int32 × gS) ⊕ (gS)) :=
  if (σ.1 53 17) ≤ l2 then (some (.inr σ)) else (gB1 (gIter (fun z => p_Router_keep_23 E l1 l2 z.1 z.2) gN (0, σ)) fun e6 => (fun s7 => gLet (l2 + 1) fun x8 => some (.inl (x8, s7))) e6)
set_option maxRecDepth 20000 in
theorem b_Router_keep_10 (E : gEv) (d u : Nat) {G : gFr → Prop} {vo : Option Value} {sr : gS} (hG : gClo E gDf gP10 gY136 (some .int) (gC E gDf gMs (d + 1)) (vo, (gSh, sr, u)) G) (l1 : Int32) (l2 : Int32) (σ : gS) {r : (Int32 × gS) ⊕ (gS)} (hP : p_Router_keep_10 E l1 l2 σ = some r) (K1 : ∀ (m2 : Int32) (σ1 : gS), r = .inl (m2, σ1) → G (10, [some (.ref 70), some (.int l1), some (.int m2), none], [], (gSh, σ1, u))) (K2 : ∀ (σ1 : gS), r = .inr σ1 → G (79, [some (.ref 70), some (.int l1), none, none], [], (gSh, σ1, u))) : G (10, [some (.ref 70), some (.int l1), some (.int l2), none], [], (gSh, σ, u)) := by
  unfold p_Router_keep_10 at hP
  refine gRunN_ok hG.1 4 _ (18, [some (.ref 70), some (.int l1), some (.int l2), none], [.int (σ.1 53 17), .int l2], (gSh, σ, u)) rfl ?_
  rcases g_ite hP with ⟨hc, hP⟩ | ⟨hc, hP⟩
  · refine hG.1 _ (79, [some (.ref 70), some (.int l1), some (.int l2), none], [], (gSh, σ, u)) _ rfl (if_pos hc) ?_
    refine hG.2.2.2.2.1 _ _ [some (.ref 70), some (.int l1), none, none] _ _ ⟨rfl, ⟨rfl, trivial⟩⟩ ?_
    cases hP
    exact K2 _ rfl
  · refine hG.1 _ (21, [some (.ref 70), some (.int l1), some (.int l2), none], [], (gSh, σ, u)) _ rfl (if_neg hc) ?_
    refine gRunN_ok hG.1 2 _ (23, [some (.ref 70), some (.int l1), some (.int l2), some (.int 0)], [], (gSh, σ, u)) rfl ?_
    obtain ⟨e6, hq, hP⟩ := g_b1 hP
    refine l_Router_keep_23 E d u hG l1 l2 gN 0 σ _ hq (fun s7 he => ?_)
    · replace he := he.symm
      subst he
      try dsimp only [gSum] at hP
      refine gRunN_ok hG.1 1 _ (76, [some (.ref 70), some (.int l1), some (.int (l2 + 1)), none], [], (gSh, s7, u)) rfl ?_
      obtain ⟨x8, ex8, hP⟩ := g_let hP
      rw [← ex8]
      refine gRunN_ok hG.1 1 _ (10, [some (.ref 70), some (.int l1), some (.int x8), none], [], (gSh, s7, u)) rfl ?_
      cases hP
      exact K1 _ _ rfl
theorem l_Router_keep_10 (E : gEv) (d u : Nat) {G : gFr → Prop} {vo : Option Value} {sr : gS} (hG : gClo E gDf gP10 gY136 (some .int) (gC E gDf gMs (d + 1)) (vo, (gSh, sr, u)) G) (l1 : Int32) : ∀ (n : Nat) (l2 : Int32) (σ : gS) (e : (gS)), gIter (fun z => p_Router_keep_10 E l1 z.1 z.2) n (l2, σ) = some e → (∀ (σ1 : gS), e = σ1 → G (79, [some (.ref 70), some (.int l1), none, none], [], (gSh, σ1, u))) → G (10, [some (.ref 70), some (.int l1), some (.int l2), none], [], (gSh, σ, u)) := by
  intro n
  induction n with
  | zero => intro l2 σ e h; cases h
  | succ n ih =>
    intro l2 σ e h K2
    rcases g_iter h with ⟨z, h1, h2⟩ | h1
    · exact b_Router_keep_10 E d u hG l1 l2 σ h1 (fun n0 n1 hz => by cases hz; exact ih _ _ e h2 K2) (fun _ hz => by cases hz)
    · exact b_Router_keep_10 E d u hG l1 l2 σ h1 (fun _ _ hz => by cases hz) (fun σ1 hz => K2 σ1 (by cases hz; rfl))
def p_Router_keep (E : gEv) (a0 : Int32) (σ : gS) : Option (Int32 × gS) :=
  gB1 (p_Arrays_fillI E 78 (-1) σ) fun s2 => gB1 (gIter (fun z => p_Router_keep_10 E a0 z.1 z.2) gN (0, s2)) fun e9 => (fun s10 => gLet (gPut s10 70 15 a0) fun s11 => some (a0, s11)) e9
set_option maxRecDepth 20000 in
theorem c_Router_keep (E : gEv) (d u : Nat) (a0 : Int32) (σ : gS) {v : Int32} {sr : gS}  (hq : p_Router_keep E a0 σ = some (v, sr)) : gC E gDf gMs (d + 2) 136 [.ref 70, .int a0] (gSh, σ, u) (some (.int v), (gSh, sr, u)) := ⟨gM136, rfl, Nat.le_of_ble_eq_true rfl, fun G hG => by
  have hP := hq
  unfold p_Router_keep at hP
  replace hG : gClo E gDf gP10 gY136 (some .int) (gC E gDf gMs (d + 1)) (some (.int v), (gSh, sr, u)) G := hG
  show G (0, [some (.ref 70), some (.int a0), none, none], [], (gSh, σ, u))
  refine gRunN_ok hG.1 3 _ (5, [some (.ref 70), some (.int a0), none, none], [.int (-1), .ref 78], (gSh, σ, u)) rfl ?_
  obtain ⟨s2, hq, hP⟩ := g_b1 hP
  refine hG.2.2.2.1 _ _ _ [.ref 78, .int (-1)] [] _ (gSh, s2, u) none _ _ _ _ _ _ rfl rfl rfl rfl rfl rfl (c_Arrays_fillI E (d + 0) u 78 (-1) _ rfl hq) (Nat.le_refl _) (Nat.le_refl _) (Nat.le_refl _) (Nat.le_refl _) ?_
  show G (8, [some (.ref 70), some (.int a0), none, none], [], (gSh, s2, u))
  refine gRunN_ok hG.1 2 _ (10, [some (.ref 70), some (.int a0), some (.int 0), none], [], (gSh, s2, u)) rfl ?_
  obtain ⟨e9, hq, hP⟩ := g_b1 hP
  refine l_Router_keep_10 E d u hG a0 gN 0 s2 _ hq (fun s10 he => ?_)
  · replace he := he.symm
    subst he
    try dsimp only [gSum] at hP
    refine gRunN_ok hG.1 3 _ (84, [some (.ref 70), some (.int a0), none, none], [], (gSh, (gPut s10 70 15 a0), u)) rfl ?_
    obtain ⟨s11, es11, hP⟩ := g_let hP
    rw [← es11]
    refine gRunN_ok hG.1 1 _ (85, [some (.ref 70), some (.int a0), none, none], [.int a0], (gSh, s11, u)) rfl ?_
    cases hP
    exact hG.2.1 _ _ rfl rfl⟩
def p_Face_owner (E : gEv) (a0 : Int32) (σ : gS) : Option (Int32) :=
  if a0 < 0 then (some (-1)) else (if a0 < (σ.1 1 7) then (gB1 (p_Router_keeperOf E a0 σ) fun v1 => some v1) else (some (-1)))
set_option maxRecDepth 20000 in
theorem c_Face_owner (E : gEv) (d u : Nat) (a0 : Int32) (σ : gS) {v : Int32}  (hq : p_Face_owner E a0 σ = some v) : gC E gDf gMs (d + 2) 137 [.ref 0, .int a0] (gSh, σ, u) (some (.int v), (gSh, σ, u)) := ⟨gM137, rfl, Nat.le_of_ble_eq_true rfl, fun G hG => by
  have hP := hq
  unfold p_Face_owner at hP
  replace hG : gClo E gDf gP0 gY137 (some .int) (gC E gDf gMs (d + 1)) (some (.int v), (gSh, σ, u)) G := hG
  show G (0, [some (.ref 0), some (.int a0)], [], (gSh, σ, u))
  refine gRunN_ok hG.1 1 _ (1, [some (.ref 0), some (.int a0)], [.int a0], (gSh, σ, u)) rfl ?_
  rcases g_ite hP with ⟨hc, hP⟩ | ⟨hc, hP⟩
  · refine hG.1 _ (15, [some (.ref 0), some (.int a0)], [], (gSh, σ, u)) _ rfl (if_pos hc) ?_
    refine gRunN_ok hG.1 2 _ (27, [some (.ref 0), some (.int a0)], [.int (-1)], (gSh, σ, u)) rfl ?_
    cases hP
    exact hG.2.1 _ _ rfl rfl
  · refine hG.1 _ (4, [some (.ref 0), some (.int a0)], [], (gSh, σ, u)) _ rfl (if_neg hc) ?_
    refine gRunN_ok hG.1 4 _ (12, [some (.ref 0), some (.int a0)], [.int (σ.1 1 7), .int a0], (gSh, σ, u)) rfl ?_
    rcases g_ite hP with ⟨hc, hP⟩ | ⟨hc, hP⟩
    · refine hG.1 _ (19, [some (.ref 0), some (.int a0)], [], (gSh, σ, u)) _ rfl (if_pos hc) ?_
      refine gRunN_ok hG.1 3 _ (24, [some (.ref 0), some (.int a0)], [.int a0, .ref 70], (gSh, σ, u)) rfl ?_
      obtain ⟨v1, hq, hP⟩ := g_b1 hP
      refine hG.2.2.2.1 _ _ _ [.ref 70, .int a0] [] _ (gSh, σ, u) (some (.int v1)) _ _ _ _ _ _ rfl rfl rfl rfl rfl rfl (c_Router_keeperOf E (d + 0) u a0 _  hq) (Nat.le_refl _) (Nat.le_refl _) (Nat.le_refl _) (Nat.le_refl _) ?_
      show G (27, [some (.ref 0), some (.int a0)], [.int v1], (gSh, σ, u))
      cases hP
      exact hG.2.1 _ _ rfl rfl
    · refine hG.1 _ (15, [some (.ref 0), some (.int a0)], [], (gSh, σ, u)) _ rfl (if_neg hc) ?_
      refine gRunN_ok hG.1 2 _ (27, [some (.ref 0), some (.int a0)], [.int (-1)], (gSh, σ, u)) rfl ?_
      cases hP
      exact hG.2.1 _ _ rfl rfl⟩
def p_Field_erase (E : gEv) (σ : gS) : Option (gS) :=
  gB1 (p_Arrays_fillB E 82 0 σ) fun s2 => gLet (gPut s2 81 14 0) fun s3 => some s3
set_option maxRecDepth 20000 in
theorem c_Field_erase (E : gEv) (d u : Nat) (σ : gS) {sr : gS}  (hq : p_Field_erase E σ = some sr) : gC E gDf gMs (d + 2) 140 [.ref 81] (gSh, σ, u) (none, (gSh, sr, u)) := ⟨gM140, rfl, Nat.le_of_ble_eq_true rfl, fun G hG => by
  have hP := hq
  unfold p_Field_erase at hP
  replace hG : gClo E gDf gP12 gY140 none (gC E gDf gMs (d + 1)) (none, (gSh, sr, u)) G := hG
  show G (0, [some (.ref 81)], [], (gSh, σ, u))
  refine gRunN_ok hG.1 3 _ (5, [some (.ref 81)], [.int 0, .ref 82], (gSh, σ, u)) rfl ?_
  obtain ⟨s2, hq, hP⟩ := g_b1 hP
  refine hG.2.2.2.1 _ _ _ [.ref 82, .int 0] [] _ (gSh, s2, u) none _ _ _ _ _ _ rfl rfl rfl rfl rfl rfl (c_Arrays_fillB E (d + 0) u 82 0 _ rfl hq) (Nat.le_refl _) (Nat.le_refl _) (Nat.le_refl _) (Nat.le_refl _) ?_
  show G (8, [some (.ref 81)], [], (gSh, s2, u))
  refine gRunN_ok hG.1 3 _ (13, [some (.ref 81)], [], (gSh, (gPut s2 81 14 0), u)) rfl ?_
  obtain ⟨s3, es3, hP⟩ := g_let hP
  rw [← es3]
  cases hP
  exact hG.2.1 _ _ rfl rfl⟩
def p_Packing_write_j58_2 (E : gEv) (l3 : Int32) (l4 : Int32) (y1 : Int32) (y2 : Int32) (y3 : Int32) (σ : gS) : Option ((Int32 × gS) ⊕ (gS)) :=
  gB1 (p_Field_put E y1 y2 y3 σ) fun s4 => if gIn l3 (s4.2.1 55) then if (s4.1 55 l3.toNatClampNeg) = ((-1) : Int32) then (gLet (l3 + 1) fun x5 => some (.inl (x5, s4))) else (gB1 (p_Field_put E (l4 + (16 : Int32)) 1 1 s4) fun s7 => if gIn l3 (s7.2.1 55) then if gIn (s7.1 55 l3.toNatClampNeg) (s7.2.1 32) then gB1 (p_Field_put E (l4 + (17 : Int32)) 1 (s7.1 32 (s7.1 55 l3.toNatClampNeg).toNatClampNeg) s7) fun s9 => gLet (l3 + 1) fun x10 => some (.inl (x10, s9)) else none else none) else none
set_option maxRecDepth 20000 in
theorem j_Packing_write_j58_2 (E : gEv) (d u : Nat) {G : gFr → Prop} {vo : Option Value} {sr : gS} (hG : gClo E gDf gP8 gY141 none (gC E gDf gMs (d + 1)) (vo, (gSh, sr, u)) G) (l3 : Int32) (l4 : Int32) (y1 : Int32) (y2 : Int32) (y3 : Int32) (σ : gS) {r : (Int32 × gS) ⊕ (gS)} (hP : p_Packing_write_j58_2 E l3 l4 y1 y2 y3 σ = some r) (K1 : ∀ (m3 : Int32) (σ1 : gS), r = .inl (m3, σ1) → G (2, [some (.ref 53), some (.ref 81), some (.ref 67), some (.int m3), none, none], [], (gSh, σ1, u))) (K2 : ∀ (σ1 : gS), r = .inr σ1 → G (112, [some (.ref 53), some (.ref 81), some (.ref 67), none, none, none], [], (gSh, σ1, u))) : G (58, [some (.ref 53), some (.ref 81), some (.ref 67), some (.int l3), some (.int l4), none], [.int y3, .int y2, .int y1, .ref 81], (gSh, σ, u)) := by
  unfold p_Packing_write_j58_2 at hP
  obtain ⟨s4, hq, hP⟩ := g_b1 hP
  refine hG.2.2.2.1 _ _ _ [.ref 81, .int y1, .int y2, .int y3] [] _ (gSh, s4, u) none _ _ _ _ _ _ rfl rfl rfl rfl rfl rfl (c_Field_put E (d + 0) u y1 y2 y3 _  hq) (Nat.le_refl _) (Nat.le_refl _) (Nat.le_refl _) (Nat.le_refl _) ?_
  show G (61, [some (.ref 53), some (.ref 81), some (.ref 67), some (.int l3), some (.int l4), none], [], (gSh, s4, u))
  refine gRunN_ok hG.1 3 _ (66, [some (.ref 53), some (.ref 81), some (.ref 67), some (.int l3), some (.int l4), none], [.int l3, .ref 55], (gSh, s4, u)) rfl ?_
  obtain ⟨hc, hP⟩ := g_if hP
  refine hG.1 _ (67, [some (.ref 53), some (.ref 81), some (.ref 67), some (.int l3), some (.int l4), none], [.int (s4.1 55 l3.toNatClampNeg)], (gSh, s4, u)) _ rfl (if_pos hc) ?_
  refine gRunN_ok hG.1 1 _ (68, [some (.ref 53), some (.ref 81), some (.ref 67), some (.int l3), some (.int l4), none], [.int (-1), .int (s4.1 55 l3.toNatClampNeg)], (gSh, s4, u)) rfl ?_
  rcases g_ite hP with ⟨hc, hP⟩ | ⟨hc, hP⟩
  · refine hG.1 _ (106, [some (.ref 53), some (.ref 81), some (.ref 67), some (.int l3), some (.int l4), none], [], (gSh, s4, u)) _ rfl (if_pos hc) ?_
    refine gRunN_ok hG.1 1 _ (109, [some (.ref 53), some (.ref 81), some (.ref 67), some (.int (l3 + 1)), some (.int l4), none], [], (gSh, s4, u)) rfl ?_
    obtain ⟨x5, ex5, hP⟩ := g_let hP
    rw [← ex5]
    refine gRunN_ok hG.1 1 _ (2, [some (.ref 53), some (.ref 81), some (.ref 67), some (.int x5), some (.int l4), none], [], (gSh, s4, u)) rfl ?_
    refine hG.2.2.2.2.1 _ _ [some (.ref 53), some (.ref 81), some (.ref 67), some (.int x5), none, none] _ _ ⟨rfl, ⟨rfl, ⟨rfl, ⟨rfl, trivial⟩⟩⟩⟩ ?_
    cases hP
    exact K1 _ _ rfl
  · refine hG.1 _ (71, [some (.ref 53), some (.ref 81), some (.ref 67), some (.int l3), some (.int l4), none], [], (gSh, s4, u)) _ rfl (if_neg hc) ?_
    refine gRunN_ok hG.1 6 _ (79, [some (.ref 53), some (.ref 81), some (.ref 67), some (.int l3), some (.int l4), none], [.int 1, .int 1, .int (l4 + (16 : Int32)), .ref 81], (gSh, s4, u)) rfl ?_
    obtain ⟨s7, hq, hP⟩ := g_b1 hP
    refine hG.2.2.2.1 _ _ _ [.ref 81, .int (l4 + (16 : Int32)), .int 1, .int 1] [] _ (gSh, s7, u) none _ _ _ _ _ _ rfl rfl rfl rfl rfl rfl (c_Field_put E (d + 0) u (l4 + (16 : Int32)) 1 1 _  hq) (Nat.le_refl _) (Nat.le_refl _) (Nat.le_refl _) (Nat.le_refl _) ?_
    show G (82, [some (.ref 53), some (.ref 81), some (.ref 67), some (.int l3), some (.int l4), none], [], (gSh, s7, u))
    refine gRunN_ok hG.1 11 _ (101, [some (.ref 53), some (.ref 81), some (.ref 67), some (.int l3), some (.int l4), none], [.int l3, .ref 55, .ref 32, .int 1, .int (l4 + (17 : Int32)), .ref 81], (gSh, s7, u)) rfl ?_
    obtain ⟨hc, hP⟩ := g_if hP
    refine hG.1 _ (102, [some (.ref 53), some (.ref 81), some (.ref 67), some (.int l3), some (.int l4), none], [.int (s7.1 55 l3.toNatClampNeg), .ref 32, .int 1, .int (l4 + (17 : Int32)), .ref 81], (gSh, s7, u)) _ rfl (if_pos hc) ?_
    obtain ⟨hc, hP⟩ := g_if hP
    refine hG.1 _ (103, [some (.ref 53), some (.ref 81), some (.ref 67), some (.int l3), some (.int l4), none], [.int (s7.1 32 (s7.1 55 l3.toNatClampNeg).toNatClampNeg), .int 1, .int (l4 + (17 : Int32)), .ref 81], (gSh, s7, u)) _ rfl (if_pos hc) ?_
    obtain ⟨s9, hq, hP⟩ := g_b1 hP
    refine hG.2.2.2.1 _ _ _ [.ref 81, .int (l4 + (17 : Int32)), .int 1, .int (s7.1 32 (s7.1 55 l3.toNatClampNeg).toNatClampNeg)] [] _ (gSh, s9, u) none _ _ _ _ _ _ rfl rfl rfl rfl rfl rfl (c_Field_put E (d + 0) u (l4 + (17 : Int32)) 1 (s7.1 32 (s7.1 55 l3.toNatClampNeg).toNatClampNeg) _  hq) (Nat.le_refl _) (Nat.le_refl _) (Nat.le_refl _) (Nat.le_refl _) ?_
    show G (106, [some (.ref 53), some (.ref 81), some (.ref 67), some (.int l3), some (.int l4), none], [], (gSh, s9, u))
    refine gRunN_ok hG.1 1 _ (109, [some (.ref 53), some (.ref 81), some (.ref 67), some (.int (l3 + 1)), some (.int l4), none], [], (gSh, s9, u)) rfl ?_
    obtain ⟨x10, ex10, hP⟩ := g_let hP
    rw [← ex10]
    refine gRunN_ok hG.1 1 _ (2, [some (.ref 53), some (.ref 81), some (.ref 67), some (.int x10), some (.int l4), none], [], (gSh, s9, u)) rfl ?_
    refine hG.2.2.2.2.1 _ _ [some (.ref 53), some (.ref 81), some (.ref 67), some (.int x10), none, none] _ _ ⟨rfl, ⟨rfl, ⟨rfl, ⟨rfl, trivial⟩⟩⟩⟩ ?_
    cases hP
    exact K1 _ _ rfl
def p_Packing_write_2 (E : gEv) (l3 : Int32) (σ : gS) : Option ((Int32 × gS) ⊕ (gS)) :=
  if (σ.1 53 15) ≤ l3 then (some (.inr σ)) else (if gIn l3 (σ.2.1 56) then if gIn (σ.1 56 l3.toNatClampNeg) (σ.2.1 69) then gB1 (p_Packing_firstBit E l3 (σ.1 69 (σ.1 56 l3.toNatClampNeg).toNatClampNeg) σ) fun v1 => if (σ.1 30 10) ≤ l3 then (p_Packing_write_j58_2 E l3 v1 v1 16 43690 σ) else (if gIn l3 (σ.2.1 36) then p_Packing_write_j58_2 E l3 v1 v1 16 (σ.1 36 l3.toNatClampNeg) σ else none) else none else none)
set_option maxRecDepth 20000 in
theorem b_Packing_write_2 (E : gEv) (d u : Nat) {G : gFr → Prop} {vo : Option Value} {sr : gS} (hG : gClo E gDf gP8 gY141 none (gC E gDf gMs (d + 1)) (vo, (gSh, sr, u)) G) (l3 : Int32) (σ : gS) {r : (Int32 × gS) ⊕ (gS)} (hP : p_Packing_write_2 E l3 σ = some r) (K1 : ∀ (m3 : Int32) (σ1 : gS), r = .inl (m3, σ1) → G (2, [some (.ref 53), some (.ref 81), some (.ref 67), some (.int m3), none, none], [], (gSh, σ1, u))) (K2 : ∀ (σ1 : gS), r = .inr σ1 → G (112, [some (.ref 53), some (.ref 81), some (.ref 67), none, none, none], [], (gSh, σ1, u))) : G (2, [some (.ref 53), some (.ref 81), some (.ref 67), some (.int l3), none, none], [], (gSh, σ, u)) := by
  unfold p_Packing_write_2 at hP
  refine gRunN_ok hG.1 3 _ (7, [some (.ref 53), some (.ref 81), some (.ref 67), some (.int l3), none, none], [.int (σ.1 53 15), .int l3], (gSh, σ, u)) rfl ?_
  rcases g_ite hP with ⟨hc, hP⟩ | ⟨hc, hP⟩
  · refine hG.1 _ (112, [some (.ref 53), some (.ref 81), some (.ref 67), some (.int l3), none, none], [], (gSh, σ, u)) _ rfl (if_pos hc) ?_
    refine hG.2.2.2.2.1 _ _ [some (.ref 53), some (.ref 81), some (.ref 67), none, none, none] _ _ ⟨rfl, ⟨rfl, ⟨rfl, trivial⟩⟩⟩ ?_
    cases hP
    exact K2 _ rfl
  · refine hG.1 _ (10, [some (.ref 53), some (.ref 81), some (.ref 67), some (.int l3), none, none], [], (gSh, σ, u)) _ rfl (if_neg hc) ?_
    refine gRunN_ok hG.1 7 _ (21, [some (.ref 53), some (.ref 81), some (.ref 67), some (.int l3), none, none], [.int l3, .ref 56, .ref 69, .int l3, .ref 53], (gSh, σ, u)) rfl ?_
    obtain ⟨hc, hP⟩ := g_if hP
    refine hG.1 _ (22, [some (.ref 53), some (.ref 81), some (.ref 67), some (.int l3), none, none], [.int (σ.1 56 l3.toNatClampNeg), .ref 69, .int l3, .ref 53], (gSh, σ, u)) _ rfl (if_pos hc) ?_
    obtain ⟨hc, hP⟩ := g_if hP
    refine hG.1 _ (23, [some (.ref 53), some (.ref 81), some (.ref 67), some (.int l3), none, none], [.int (σ.1 69 (σ.1 56 l3.toNatClampNeg).toNatClampNeg), .int l3, .ref 53], (gSh, σ, u)) _ rfl (if_pos hc) ?_
    obtain ⟨v1, hq, hP⟩ := g_b1 hP
    refine hG.2.2.2.1 _ _ _ [.ref 53, .int l3, .int (σ.1 69 (σ.1 56 l3.toNatClampNeg).toNatClampNeg)] [] _ (gSh, σ, u) (some (.int v1)) _ _ _ _ _ _ rfl rfl rfl rfl rfl rfl (c_Packing_firstBit E (d + 0) u l3 (σ.1 69 (σ.1 56 l3.toNatClampNeg).toNatClampNeg) _  hq) (Nat.le_refl _) (Nat.le_refl _) (Nat.le_refl _) (Nat.le_refl _) ?_
    show G (26, [some (.ref 53), some (.ref 81), some (.ref 67), some (.int l3), none, none], [.int v1], (gSh, σ, u))
    refine gRunN_ok hG.1 8 _ (41, [some (.ref 53), some (.ref 81), some (.ref 67), some (.int l3), some (.int v1), none], [.int (σ.1 30 10), .int l3, .int 16, .int v1, .ref 81], (gSh, σ, u)) rfl ?_
    rcases g_ite hP with ⟨hc, hP⟩ | ⟨hc, hP⟩
    · refine hG.1 _ (56, [some (.ref 53), some (.ref 81), some (.ref 67), some (.int l3), some (.int v1), none], [.int 16, .int v1, .ref 81], (gSh, σ, u)) _ rfl (if_pos hc) ?_
      refine gRunN_ok hG.1 1 _ (58, [some (.ref 53), some (.ref 81), some (.ref 67), some (.int l3), some (.int v1), none], [.int 43690, .int 16, .int v1, .ref 81], (gSh, σ, u)) rfl ?_
      exact j_Packing_write_j58_2 E d u hG l3 v1 v1 16 43690 σ hP K1 K2
    · refine hG.1 _ (44, [some (.ref 53), some (.ref 81), some (.ref 67), some (.int l3), some (.int v1), none], [.int 16, .int v1, .ref 81], (gSh, σ, u)) _ rfl (if_neg hc) ?_
      refine gRunN_ok hG.1 4 _ (52, [some (.ref 53), some (.ref 81), some (.ref 67), some (.int l3), some (.int v1), none], [.int l3, .ref 36, .int 16, .int v1, .ref 81], (gSh, σ, u)) rfl ?_
      obtain ⟨hc, hP⟩ := g_if hP
      refine hG.1 _ (53, [some (.ref 53), some (.ref 81), some (.ref 67), some (.int l3), some (.int v1), none], [.int (σ.1 36 l3.toNatClampNeg), .int 16, .int v1, .ref 81], (gSh, σ, u)) _ rfl (if_pos hc) ?_
      refine gRunN_ok hG.1 1 _ (58, [some (.ref 53), some (.ref 81), some (.ref 67), some (.int l3), some (.int v1), none], [.int (σ.1 36 l3.toNatClampNeg), .int 16, .int v1, .ref 81], (gSh, σ, u)) rfl ?_
      exact j_Packing_write_j58_2 E d u hG l3 v1 v1 16 (σ.1 36 l3.toNatClampNeg) σ hP K1 K2
theorem l_Packing_write_2 (E : gEv) (d u : Nat) {G : gFr → Prop} {vo : Option Value} {sr : gS} (hG : gClo E gDf gP8 gY141 none (gC E gDf gMs (d + 1)) (vo, (gSh, sr, u)) G) : ∀ (n : Nat) (l3 : Int32) (σ : gS) (e : (gS)), gIter (fun z => p_Packing_write_2 E z.1 z.2) n (l3, σ) = some e → (∀ (σ1 : gS), e = σ1 → G (112, [some (.ref 53), some (.ref 81), some (.ref 67), none, none, none], [], (gSh, σ1, u))) → G (2, [some (.ref 53), some (.ref 81), some (.ref 67), some (.int l3), none, none], [], (gSh, σ, u)) := by
  intro n
  induction n with
  | zero => intro l3 σ e h; cases h
  | succ n ih =>
    intro l3 σ e h K2
    rcases g_iter h with ⟨z, h1, h2⟩ | h1
    · exact b_Packing_write_2 E d u hG l3 σ h1 (fun n0 n1 hz => by cases hz; exact ih _ _ e h2 K2) (fun _ hz => by cases hz)
    · exact b_Packing_write_2 E d u hG l3 σ h1 (fun _ _ hz => by cases hz) (fun σ1 hz => K2 σ1 (by cases hz; rfl))
def p_Packing_write_j172_114 (E : gEv) (l3 : Int32) (y0 : Int32) (σ : gS) : Option ((Int32 × gS) ⊕ (gS)) :=
  gB1 (p_Grid_padBit E l3 σ) fun v15 => gB1 (p_Field_put E v15 2 y0 σ) fun s18 => gLet (l3 + 1) fun x19 => some (.inl (x19, s18))
set_option maxRecDepth 20000 in
theorem j_Packing_write_j172_114 (E : gEv) (d u : Nat) {G : gFr → Prop} {vo : Option Value} {sr : gS} (hG : gClo E gDf gP8 gY141 none (gC E gDf gMs (d + 1)) (vo, (gSh, sr, u)) G) (l3 : Int32) (y0 : Int32) (σ : gS) {r : (Int32 × gS) ⊕ (gS)} (hP : p_Packing_write_j172_114 E l3 y0 σ = some r) (K1 : ∀ (m3 : Int32) (σ1 : gS), r = .inl (m3, σ1) → G (114, [some (.ref 53), some (.ref 81), some (.ref 67), some (.int m3), none, none], [], (gSh, σ1, u))) (K2 : ∀ (σ1 : gS), r = .inr σ1 → G (195, [none, none, none, none, none, none], [], (gSh, σ1, u))) : G (172, [some (.ref 53), some (.ref 81), some (.ref 67), some (.int l3), none, none], [.int y0], (gSh, σ, u)) := by
  unfold p_Packing_write_j172_114 at hP
  refine gRunN_ok hG.1 5 _ (180, [some (.ref 53), some (.ref 81), some (.ref 67), some (.int l3), none, some (.int y0)], [.int l3, .ref 1, .ref 81], (gSh, σ, u)) rfl ?_
  obtain ⟨v15, hq, hP⟩ := g_b1 hP
  refine hG.2.2.2.1 _ _ _ [.ref 1, .int l3] [.ref 81] _ (gSh, σ, u) (some (.int v15)) _ _ _ _ _ _ rfl rfl rfl rfl rfl rfl (c_Grid_padBit E (d + 0) u l3 _  hq) (Nat.le_refl _) (Nat.le_refl _) (Nat.le_refl _) (Nat.le_refl _) ?_
  show G (183, [some (.ref 53), some (.ref 81), some (.ref 67), some (.int l3), none, some (.int y0)], [.int v15, .ref 81], (gSh, σ, u))
  refine gRunN_ok hG.1 2 _ (186, [some (.ref 53), some (.ref 81), some (.ref 67), some (.int l3), none, some (.int y0)], [.int y0, .int 2, .int v15, .ref 81], (gSh, σ, u)) rfl ?_
  obtain ⟨s18, hq, hP⟩ := g_b1 hP
  refine hG.2.2.2.1 _ _ _ [.ref 81, .int v15, .int 2, .int y0] [] _ (gSh, s18, u) none _ _ _ _ _ _ rfl rfl rfl rfl rfl rfl (c_Field_put E (d + 0) u v15 2 y0 _  hq) (Nat.le_refl _) (Nat.le_refl _) (Nat.le_refl _) (Nat.le_refl _) ?_
  show G (189, [some (.ref 53), some (.ref 81), some (.ref 67), some (.int l3), none, some (.int y0)], [], (gSh, s18, u))
  refine gRunN_ok hG.1 1 _ (192, [some (.ref 53), some (.ref 81), some (.ref 67), some (.int (l3 + 1)), none, some (.int y0)], [], (gSh, s18, u)) rfl ?_
  obtain ⟨x19, ex19, hP⟩ := g_let hP
  rw [← ex19]
  refine gRunN_ok hG.1 1 _ (114, [some (.ref 53), some (.ref 81), some (.ref 67), some (.int x19), none, some (.int y0)], [], (gSh, s18, u)) rfl ?_
  refine hG.2.2.2.2.1 _ _ [some (.ref 53), some (.ref 81), some (.ref 67), some (.int x19), none, none] _ _ ⟨rfl, ⟨rfl, ⟨rfl, ⟨rfl, trivial⟩⟩⟩⟩ ?_
  cases hP
  exact K1 _ _ rfl
def p_Packing_write_114 (E : gEv) (l3 : Int32) (σ : gS) : Option ((Int32 × gS) ⊕ (gS)) :=
  if (σ.1 1 5) ≤ l3 then (some (.inr σ)) else (if gIn ((σ.1 1 4) + l3) (σ.2.1 68) then gLet (σ.1 68 ((σ.1 1 4) + l3).toNatClampNeg) fun x13 => if x13 = ((-1) : Int32) then (gLet (l3 + 1) fun x14 => some (.inl (x14, σ))) else (if ((σ.1 1 4) + (σ.1 1 5)) ≤ x13 then (p_Packing_write_j172_114 E l3 2 σ) else (p_Packing_write_j172_114 E l3 1 σ)) else none)
set_option maxRecDepth 20000 in
theorem b_Packing_write_114 (E : gEv) (d u : Nat) {G : gFr → Prop} {vo : Option Value} {sr : gS} (hG : gClo E gDf gP8 gY141 none (gC E gDf gMs (d + 1)) (vo, (gSh, sr, u)) G) (l3 : Int32) (σ : gS) {r : (Int32 × gS) ⊕ (gS)} (hP : p_Packing_write_114 E l3 σ = some r) (K1 : ∀ (m3 : Int32) (σ1 : gS), r = .inl (m3, σ1) → G (114, [some (.ref 53), some (.ref 81), some (.ref 67), some (.int m3), none, none], [], (gSh, σ1, u))) (K2 : ∀ (σ1 : gS), r = .inr σ1 → G (195, [none, none, none, none, none, none], [], (gSh, σ1, u))) : G (114, [some (.ref 53), some (.ref 81), some (.ref 67), some (.int l3), none, none], [], (gSh, σ, u)) := by
  unfold p_Packing_write_114 at hP
  refine gRunN_ok hG.1 4 _ (122, [some (.ref 53), some (.ref 81), some (.ref 67), some (.int l3), none, none], [.int (σ.1 1 5), .int l3], (gSh, σ, u)) rfl ?_
  rcases g_ite hP with ⟨hc, hP⟩ | ⟨hc, hP⟩
  · refine hG.1 _ (195, [some (.ref 53), some (.ref 81), some (.ref 67), some (.int l3), none, none], [], (gSh, σ, u)) _ rfl (if_pos hc) ?_
    refine hG.2.2.2.2.1 _ _ [none, none, none, none, none, none] _ _ trivial ?_
    cases hP
    exact K2 _ rfl
  · refine hG.1 _ (125, [some (.ref 53), some (.ref 81), some (.ref 67), some (.int l3), none, none], [], (gSh, σ, u)) _ rfl (if_neg hc) ?_
    refine gRunN_ok hG.1 7 _ (138, [some (.ref 53), some (.ref 81), some (.ref 67), some (.int l3), none, none], [.int ((σ.1 1 4) + l3), .ref 68], (gSh, σ, u)) rfl ?_
    obtain ⟨hc, hP⟩ := g_if hP
    refine hG.1 _ (139, [some (.ref 53), some (.ref 81), some (.ref 67), some (.int l3), none, none], [.int (σ.1 68 ((σ.1 1 4) + l3).toNatClampNeg)], (gSh, σ, u)) _ rfl (if_pos hc) ?_
    refine gRunN_ok hG.1 1 _ (141, [some (.ref 53), some (.ref 81), some (.ref 67), some (.int l3), some (.int (σ.1 68 ((σ.1 1 4) + l3).toNatClampNeg)), none], [], (gSh, σ, u)) rfl ?_
    obtain ⟨x13, ex13, hP⟩ := g_let hP
    rw [← ex13]
    refine gRunN_ok hG.1 2 _ (144, [some (.ref 53), some (.ref 81), some (.ref 67), some (.int l3), some (.int x13), none], [.int (-1), .int x13], (gSh, σ, u)) rfl ?_
    rcases g_ite hP with ⟨hc, hP⟩ | ⟨hc, hP⟩
    · refine hG.1 _ (189, [some (.ref 53), some (.ref 81), some (.ref 67), some (.int l3), some (.int x13), none], [], (gSh, σ, u)) _ rfl (if_pos hc) ?_
      refine gRunN_ok hG.1 1 _ (192, [some (.ref 53), some (.ref 81), some (.ref 67), some (.int (l3 + 1)), some (.int x13), none], [], (gSh, σ, u)) rfl ?_
      obtain ⟨x14, ex14, hP⟩ := g_let hP
      rw [← ex14]
      refine gRunN_ok hG.1 1 _ (114, [some (.ref 53), some (.ref 81), some (.ref 67), some (.int x14), some (.int x13), none], [], (gSh, σ, u)) rfl ?_
      refine hG.2.2.2.2.1 _ _ [some (.ref 53), some (.ref 81), some (.ref 67), some (.int x14), none, none] _ _ ⟨rfl, ⟨rfl, ⟨rfl, ⟨rfl, trivial⟩⟩⟩⟩ ?_
      cases hP
      exact K1 _ _ rfl
    · refine hG.1 _ (147, [some (.ref 53), some (.ref 81), some (.ref 67), some (.int l3), some (.int x13), none], [], (gSh, σ, u)) _ rfl (if_neg hc) ?_
      refine gRunN_ok hG.1 8 _ (164, [some (.ref 53), some (.ref 81), some (.ref 67), some (.int l3), some (.int x13), none], [.int ((σ.1 1 4) + (σ.1 1 5)), .int x13], (gSh, σ, u)) rfl ?_
      rcases g_ite hP with ⟨hc, hP⟩ | ⟨hc, hP⟩
      · refine hG.1 _ (171, [some (.ref 53), some (.ref 81), some (.ref 67), some (.int l3), some (.int x13), none], [], (gSh, σ, u)) _ rfl (if_pos hc) ?_
        refine gRunN_ok hG.1 1 _ (172, [some (.ref 53), some (.ref 81), some (.ref 67), some (.int l3), some (.int x13), none], [.int 2], (gSh, σ, u)) rfl ?_
        refine hG.2.2.2.2.1 _ _ [some (.ref 53), some (.ref 81), some (.ref 67), some (.int l3), none, none] _ _ ⟨rfl, ⟨rfl, ⟨rfl, ⟨rfl, trivial⟩⟩⟩⟩ ?_
        exact j_Packing_write_j172_114 E d u hG l3 2 σ hP K1 K2
      · refine hG.1 _ (167, [some (.ref 53), some (.ref 81), some (.ref 67), some (.int l3), some (.int x13), none], [], (gSh, σ, u)) _ rfl (if_neg hc) ?_
        refine gRunN_ok hG.1 2 _ (172, [some (.ref 53), some (.ref 81), some (.ref 67), some (.int l3), some (.int x13), none], [.int 1], (gSh, σ, u)) rfl ?_
        refine hG.2.2.2.2.1 _ _ [some (.ref 53), some (.ref 81), some (.ref 67), some (.int l3), none, none] _ _ ⟨rfl, ⟨rfl, ⟨rfl, ⟨rfl, trivial⟩⟩⟩⟩ ?_
        exact j_Packing_write_j172_114 E d u hG l3 1 σ hP K1 K2
theorem l_Packing_write_114 (E : gEv) (d u : Nat) {G : gFr → Prop} {vo : Option Value} {sr : gS} (hG : gClo E gDf gP8 gY141 none (gC E gDf gMs (d + 1)) (vo, (gSh, sr, u)) G) : ∀ (n : Nat) (l3 : Int32) (σ : gS) (e : (gS)), gIter (fun z => p_Packing_write_114 E z.1 z.2) n (l3, σ) = some e → (∀ (σ1 : gS), e = σ1 → G (195, [none, none, none, none, none, none], [], (gSh, σ1, u))) → G (114, [some (.ref 53), some (.ref 81), some (.ref 67), some (.int l3), none, none], [], (gSh, σ, u)) := by
  intro n
  induction n with
  | zero => intro l3 σ e h; cases h
  | succ n ih =>
    intro l3 σ e h K2
    rcases g_iter h with ⟨z, h1, h2⟩ | h1
    · exact b_Packing_write_114 E d u hG l3 σ h1 (fun n0 n1 hz => by cases hz; exact ih _ _ e h2 K2) (fun _ hz => by cases hz)
    · exact b_Packing_write_114 E d u hG l3 σ h1 (fun _ _ hz => by cases hz) (fun σ1 hz => K2 σ1 (by cases hz; rfl))
def p_Packing_write (E : gEv) (σ : gS) : Option (gS) :=
  gB1 (gIter (fun z => p_Packing_write_2 E z.1 z.2) gN (0, σ)) fun e11 => (fun s12 => gB1 (gIter (fun z => p_Packing_write_114 E z.1 z.2) gN (0, s12)) fun e20 => (fun s21 => some s21) e20) e11
set_option maxRecDepth 20000 in
theorem c_Packing_write (E : gEv) (d u : Nat) (σ : gS) {sr : gS}  (hq : p_Packing_write E σ = some sr) : gC E gDf gMs (d + 2) 141 [.ref 53, .ref 81, .ref 67] (gSh, σ, u) (none, (gSh, sr, u)) := ⟨gM141, rfl, Nat.le_of_ble_eq_true rfl, fun G hG => by
  have hP := hq
  unfold p_Packing_write at hP
  replace hG : gClo E gDf gP8 gY141 none (gC E gDf gMs (d + 1)) (none, (gSh, sr, u)) G := hG
  show G (0, [some (.ref 53), some (.ref 81), some (.ref 67), none, none, none], [], (gSh, σ, u))
  refine gRunN_ok hG.1 2 _ (2, [some (.ref 53), some (.ref 81), some (.ref 67), some (.int 0), none, none], [], (gSh, σ, u)) rfl ?_
  obtain ⟨e11, hq, hP⟩ := g_b1 hP
  refine l_Packing_write_2 E d u hG gN 0 σ _ hq (fun s12 he => ?_)
  · replace he := he.symm
    subst he
    try dsimp only [gSum] at hP
    refine gRunN_ok hG.1 2 _ (114, [some (.ref 53), some (.ref 81), some (.ref 67), some (.int 0), none, none], [], (gSh, s12, u)) rfl ?_
    obtain ⟨e20, hq, hP⟩ := g_b1 hP
    refine l_Packing_write_114 E d u hG gN 0 s12 _ hq (fun s21 he => ?_)
    · replace he := he.symm
      subst he
      try dsimp only [gSum] at hP
      cases hP
      exact hG.2.1 _ _ rfl rfl⟩
