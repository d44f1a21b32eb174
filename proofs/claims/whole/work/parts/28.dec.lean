def p_Model_placeOfTile_10 (E : gEv) (l1 : Int32) (l2 : Int32) (l3 : Int32) (l4 : Int32) (σ : gS) : Option ((Int32) ⊕ ((Int32) ⊕ (Unit))) :=
  if (σ.1 94 3) ≤ l4 then (some (.inr (.inr ()))) else (gB1 (p_Model_tileWire E l1 l3 l4 σ) fun v1 => if v1 = l2 then (some (.inr (.inl l4))) else (gLet (l4 + 1) fun x3 => some (.inl x3)))
set_option maxRecDepth 20000 in
theorem b_Model_placeOfTile_10 (E : gEv) (d u : Nat) {G : gFr → Prop} {vo : Option Value} {sr : gS} (hG : gClo E gDf gP18 gY260 (some .int) (gC E gDf gMs (d + 2)) (vo, (gSh, sr, u)) G) (l1 : Int32) (l2 : Int32) (l3 : Int32) (l4 : Int32) (σ : gS) {r : (Int32) ⊕ ((Int32) ⊕ (Unit))} (hP : p_Model_placeOfTile_10 E l1 l2 l3 l4 σ = some r) (K1 : ∀ (m4 : Int32), r = .inl m4 → G (10, [some (.ref 94), some (.int l1), some (.int l2), some (.int l3), some (.int m4)], [], (gSh, σ, u))) (K2 : ∀ (m4 : Int32), r = .inr (.inl m4) → G (31, [some (.ref 94), none, none, some (.int l3), some (.int m4)], [], (gSh, σ, u))) (K3 : r = .inr (.inr ()) → G (49, [some (.ref 94), some (.int l1), some (.int l2), some (.int l3), none], [], (gSh, σ, u))) : G (10, [some (.ref 94), some (.int l1), some (.int l2), some (.int l3), some (.int l4)], [], (gSh, σ, u)) := by
  unfold p_Model_placeOfTile_10 at hP
  refine gRunN_ok hG.1 3 _ (16, [some (.ref 94), some (.int l1), some (.int l2), some (.int l3), some (.int l4)], [.int (σ.1 94 3), .int l4], (gSh, σ, u)) rfl ?_
  rcases g_ite hP with ⟨hc, hP⟩ | ⟨hc, hP⟩
  · refine hG.1 _ (49, [some (.ref 94), some (.int l1), some (.int l2), some (.int l3), some (.int l4)], [], (gSh, σ, u)) _ rfl (if_pos hc) ?_
    refine hG.2.2.2.2.1 _ _ [some (.ref 94), some (.int l1), some (.int l2), some (.int l3), none] _ _ ⟨rfl, ⟨rfl, ⟨rfl, ⟨rfl, trivial⟩⟩⟩⟩ ?_
    cases hP
    exact K3 rfl
  · refine hG.1 _ (19, [some (.ref 94), some (.int l1), some (.int l2), some (.int l3), some (.int l4)], [], (gSh, σ, u)) _ rfl (if_neg hc) ?_
    refine gRunN_ok hG.1 4 _ (24, [some (.ref 94), some (.int l1), some (.int l2), some (.int l3), some (.int l4)], [.int l4, .int l3, .int l1, .ref 94], (gSh, σ, u)) rfl ?_
    obtain ⟨v1, hq, hP⟩ := g_b1 hP
    refine hG.2.2.2.1 _ _ _ [.ref 94, .int l1, .int l3, .int l4] [] _ (gSh, σ, u) (some (.int v1)) _ _ _ _ _ _ rfl rfl rfl rfl rfl rfl (c_Model_tileWire E (d + 0) u l1 l3 l4 _  hq) (Nat.le_refl _) (Nat.le_refl _) (Nat.le_refl _) (Nat.le_refl _) ?_
    show G (27, [some (.ref 94), some (.int l1), some (.int l2), some (.int l3), some (.int l4)], [.int v1], (gSh, σ, u))
    refine gRunN_ok hG.1 1 _ (28, [some (.ref 94), some (.int l1), some (.int l2), some (.int l3), some (.int l4)], [.int l2, .int v1], (gSh, σ, u)) rfl ?_
    rcases g_ite hP with ⟨hc, hP⟩ | ⟨hc, hP⟩
    · refine hG.1 _ (31, [some (.ref 94), some (.int l1), some (.int l2), some (.int l3), some (.int l4)], [], (gSh, σ, u)) _ rfl (if_pos hc) ?_
      refine hG.2.2.2.2.1 _ _ [some (.ref 94), none, none, some (.int l3), some (.int l4)] _ _ ⟨rfl, ⟨rfl, ⟨rfl, trivial⟩⟩⟩ ?_
      cases hP
      exact K2 _ rfl
    · refine hG.1 _ (43, [some (.ref 94), some (.int l1), some (.int l2), some (.int l3), some (.int l4)], [], (gSh, σ, u)) _ rfl (if_neg hc) ?_
      refine gRunN_ok hG.1 1 _ (46, [some (.ref 94), some (.int l1), some (.int l2), some (.int l3), some (.int (l4 + 1))], [], (gSh, σ, u)) rfl ?_
      obtain ⟨x3, ex3, hP⟩ := g_let hP
      rw [← ex3]
      refine gRunN_ok hG.1 1 _ (10, [some (.ref 94), some (.int l1), some (.int l2), some (.int l3), some (.int x3)], [], (gSh, σ, u)) rfl ?_
      cases hP
      exact K1 _ rfl
theorem l_Model_placeOfTile_10 (E : gEv) (d u : Nat) {G : gFr → Prop} {vo : Option Value} {sr : gS} (hG : gClo E gDf gP18 gY260 (some .int) (gC E gDf gMs (d + 2)) (vo, (gSh, sr, u)) G) (l1 : Int32) (l2 : Int32) (l3 : Int32) (σ : gS) : ∀ (n : Nat) (l4 : Int32) (e : ((Int32) ⊕ (Unit))), gIter (fun z => p_Model_placeOfTile_10 E l1 l2 l3 z σ) n l4 = some e → (∀ (m4 : Int32), e = (.inl m4) → G (31, [some (.ref 94), none, none, some (.int l3), some (.int m4)], [], (gSh, σ, u))) → ( e = (.inr ()) → G (49, [some (.ref 94), some (.int l1), some (.int l2), some (.int l3), none], [], (gSh, σ, u))) → G (10, [some (.ref 94), some (.int l1), some (.int l2), some (.int l3), some (.int l4)], [], (gSh, σ, u)) := by
  intro n
  induction n with
  | zero => intro l4 e h; cases h
  | succ n ih =>
    intro l4 e h K2 K3
    rcases g_iter h with ⟨z, h1, h2⟩ | h1
    · exact b_Model_placeOfTile_10 E d u hG l1 l2 l3 l4 σ h1 (fun n0 hz => by cases hz; exact ih _ e h2 K2 K3) (fun _ hz => by cases hz) (fun  hz => by cases hz)
    · exact b_Model_placeOfTile_10 E d u hG l1 l2 l3 l4 σ h1 (fun _ hz => by cases hz) (fun m4 hz => K2 m4 (by cases hz; rfl)) (fun  hz => K3  (by cases hz; rfl))
def p_Model_placeOfTile_2 (E : gEv) (l1 : Int32) (l2 : Int32) (l3 : Int32) (σ : gS) : Option ((Int32) ⊕ ((Int32 × Int32) ⊕ (Unit))) :=
  if (4 : Int32) ≤ l3 then (some (.inr (.inr ()))) else (gB1 (gIter (fun z => p_Model_placeOfTile_10 E l1 l2 l3 z σ) gN 0) fun e4 => gSum e4 (fun e7 => (fun w5 => some (.inr (.inl (l3, w5)))) e7) (fun e8 => gLet (l3 + 1) fun x6 => some (.inl x6)))
set_option maxRecDepth 20000 in
theorem b_Model_placeOfTile_2 (E : gEv) (d u : Nat) {G : gFr → Prop} {vo : Option Value} {sr : gS} (hG : gClo E gDf gP18 gY260 (some .int) (gC E gDf gMs (d + 2)) (vo, (gSh, sr, u)) G) (l1 : Int32) (l2 : Int32) (l3 : Int32) (σ : gS) {r : (Int32) ⊕ ((Int32 × Int32) ⊕ (Unit))} (hP : p_Model_placeOfTile_2 E l1 l2 l3 σ = some r) (K1 : ∀ (m3 : Int32), r = .inl m3 → G (2, [some (.ref 94), some (.int l1), some (.int l2), some (.int m3), none], [], (gSh, σ, u))) (K2 : ∀ (m3 : Int32) (m4 : Int32), r = .inr (.inl (m3, m4)) → G (31, [some (.ref 94), none, none, some (.int m3), some (.int m4)], [], (gSh, σ, u))) (K3 : r = .inr (.inr ()) → G (55, [none, none, none, none, none], [], (gSh, σ, u))) : G (2, [some (.ref 94), some (.int l1), some (.int l2), some (.int l3), none], [], (gSh, σ, u)) := by
  unfold p_Model_placeOfTile_2 at hP
  refine gRunN_ok hG.1 2 _ (4, [some (.ref 94), some (.int l1), some (.int l2), some (.int l3), none], [.int 4, .int l3], (gSh, σ, u)) rfl ?_
  rcases g_ite hP with ⟨hc, hP⟩ | ⟨hc, hP⟩
  · refine hG.1 _ (55, [some (.ref 94), some (.int l1), some (.int l2), some (.int l3), none], [], (gSh, σ, u)) _ rfl (if_pos hc) ?_
    refine hG.2.2.2.2.1 _ _ [none, none, none, none, none] _ _ trivial ?_
    cases hP
    exact K3 rfl
  · refine hG.1 _ (7, [some (.ref 94), some (.int l1), some (.int l2), some (.int l3), none], [], (gSh, σ, u)) _ rfl (if_neg hc) ?_
    refine gRunN_ok hG.1 2 _ (10, [some (.ref 94), some (.int l1), some (.int l2), some (.int l3), some (.int 0)], [], (gSh, σ, u)) rfl ?_
    obtain ⟨e4, hq, hP⟩ := g_b1 hP
    refine l_Model_placeOfTile_10 E d u hG l1 l2 l3 σ gN 0 _ hq (fun w5 he => ?_) (fun  he => ?_)
    · subst he
      try dsimp only [gSum] at hP
      cases hP
      exact K2 _ _ rfl
    · subst he
      try dsimp only [gSum] at hP
      refine gRunN_ok hG.1 1 _ (52, [some (.ref 94), some (.int l1), some (.int l2), some (.int (l3 + 1)), none], [], (gSh, σ, u)) rfl ?_
      obtain ⟨x6, ex6, hP⟩ := g_let hP
      rw [← ex6]
      refine gRunN_ok hG.1 1 _ (2, [some (.ref 94), some (.int l1), some (.int l2), some (.int x6), none], [], (gSh, σ, u)) rfl ?_
      cases hP
      exact K1 _ rfl
theorem l_Model_placeOfTile_2 (E : gEv) (d u : Nat) {G : gFr → Prop} {vo : Option Value} {sr : gS} (hG : gClo E gDf gP18 gY260 (some .int) (gC E gDf gMs (d + 2)) (vo, (gSh, sr, u)) G) (l1 : Int32) (l2 : Int32) (σ : gS) : ∀ (n : Nat) (l3 : Int32) (e : ((Int32 × Int32) ⊕ (Unit))), gIter (fun z => p_Model_placeOfTile_2 E l1 l2 z σ) n l3 = some e → (∀ (m3 : Int32) (m4 : Int32), e = (.inl (m3, m4)) → G (31, [some (.ref 94), none, none, some (.int m3), some (.int m4)], [], (gSh, σ, u))) → ( e = (.inr ()) → G (55, [none, none, none, none, none], [], (gSh, σ, u))) → G (2, [some (.ref 94), some (.int l1), some (.int l2), some (.int l3), none], [], (gSh, σ, u)) := by
  intro n
  induction n with
  | zero => intro l3 e h; cases h
  | succ n ih =>
    intro l3 e h K2 K3
    rcases g_iter h with ⟨z, h1, h2⟩ | h1
    · exact b_Model_placeOfTile_2 E d u hG l1 l2 l3 σ h1 (fun n0 hz => by cases hz; exact ih _ e h2 K2 K3) (fun _ _ hz => by cases hz) (fun  hz => by cases hz)
    · exact b_Model_placeOfTile_2 E d u hG l1 l2 l3 σ h1 (fun _ hz => by cases hz) (fun m3 m4 hz => K2 m3 m4 (by cases hz; rfl)) (fun  hz => K3  (by cases hz; rfl))
def p_Model_placeOfTile (E : gEv) (a0 : Int32) (a1 : Int32) (σ : gS) : Option (Int32) :=
  gB1 (gIter (fun z => p_Model_placeOfTile_2 E a0 a1 z σ) gN 0) fun e9 => gSum e9 (fun e12 => (fun w10 w11 => some (((1 : Int32) + (w10 * (σ.1 94 3))) + w11)) e12.1 e12.2) (fun e13 => some 0)
set_option maxRecDepth 20000 in
theorem c_Model_placeOfTile (E : gEv) (d u : Nat) (a0 : Int32) (a1 : Int32) (σ : gS) {v : Int32}  (hq : p_Model_placeOfTile E a0 a1 σ = some v) : gC E gDf gMs (d + 3) 260 [.ref 94, .int a0, .int a1] (gSh, σ, u) (some (.int v), (gSh, σ, u)) := ⟨gM260, rfl, Nat.le_of_ble_eq_true rfl, fun G hG => by
  have hP := hq
  unfold p_Model_placeOfTile at hP
  replace hG : gClo E gDf gP18 gY260 (some .int) (gC E gDf gMs (d + 2)) (some (.int v), (gSh, σ, u)) G := hG
  show G (0, [some (.ref 94), some (.int a0), some (.int a1), none, none], [], (gSh, σ, u))
  refine gRunN_ok hG.1 2 _ (2, [some (.ref 94), some (.int a0), some (.int a1), some (.int 0), none], [], (gSh, σ, u)) rfl ?_
  obtain ⟨e9, hq, hP⟩ := g_b1 hP
  refine l_Model_placeOfTile_2 E d u hG a0 a1 σ gN 0 _ hq (fun w10 w11 he => ?_) (fun  he => ?_)
  · subst he
    try dsimp only [gSum] at hP
    refine gRunN_ok hG.1 8 _ (42, [some (.ref 94), none, none, some (.int w10), some (.int w11)], [.int (((1 : Int32) + (w10 * (σ.1 94 3))) + w11)], (gSh, σ, u)) rfl ?_
    cases hP
    exact hG.2.1 _ _ rfl rfl
  · subst he
    try dsimp only [gSum] at hP
    refine gRunN_ok hG.1 1 _ (56, [none, none, none, none, none], [.int 0], (gSh, σ, u)) rfl ?_
    cases hP
    exact hG.2.1 _ _ rfl rfl⟩
def p_Model_spread_6 (E : gEv) (l1 : Int32) (l2 : Int32) (l3 : Int32) (σ : gS) : Option ((Int32 × gS) ⊕ (gS)) :=
  if (σ.1 94 8) ≤ l3 then (some (.inr σ)) else (if gIn l3 (σ.2.1 159) then gLet (gPut σ 159 l3.toNatClampNeg (vp_nar .boolean 0)) fun s1 => gLet (l3 + 1) fun x2 => some (.inl (x2, s1)) else none)
set_option maxRecDepth 20000 in
theorem b_Model_spread_6 (E : gEv) (d u : Nat) {G : gFr → Prop} {vo : Option Value} {sr : gS} (hG : gClo E gDf gP18 gY267 none (gC E gDf gMs (d + 2)) (vo, (gSh, sr, u)) G) (l1 : Int32) (l2 : Int32) (l3 : Int32) (σ : gS) {r : (Int32 × gS) ⊕ (gS)} (hP : p_Model_spread_6 E l1 l2 l3 σ = some r) (K1 : ∀ (m3 : Int32) (σ1 : gS), r = .inl (m3, σ1) → G (6, [some (.ref 94), some (.int l1), some (.int l2), some (.int m3), none, none], [], (gSh, σ1, u))) (K2 : ∀ (σ1 : gS), r = .inr σ1 → G (27, [some (.ref 94), some (.int l1), some (.int l2), none, none, none], [], (gSh, σ1, u))) : G (6, [some (.ref 94), some (.int l1), some (.int l2), some (.int l3), none, none], [], (gSh, σ, u)) := by
  unfold p_Model_spread_6 at hP
  refine gRunN_ok hG.1 3 _ (11, [some (.ref 94), some (.int l1), some (.int l2), some (.int l3), none, none], [.int (σ.1 94 8), .int l3], (gSh, σ, u)) rfl ?_
  rcases g_ite hP with ⟨hc, hP⟩ | ⟨hc, hP⟩
  · refine hG.1 _ (27, [some (.ref 94), some (.int l1), some (.int l2), some (.int l3), none, none], [], (gSh, σ, u)) _ rfl (if_pos hc) ?_
    refine hG.2.2.2.2.1 _ _ [some (.ref 94), some (.int l1), some (.int l2), none, none, none] _ _ ⟨rfl, ⟨rfl, ⟨rfl, trivial⟩⟩⟩ ?_
    cases hP
    exact K2 _ rfl
  · refine hG.1 _ (14, [some (.ref 94), some (.int l1), some (.int l2), some (.int l3), none, none], [], (gSh, σ, u)) _ rfl (if_neg hc) ?_
    refine gRunN_ok hG.1 4 _ (20, [some (.ref 94), some (.int l1), some (.int l2), some (.int l3), none, none], [.int 0, .int l3, .ref 159], (gSh, σ, u)) rfl ?_
    obtain ⟨hc, hP⟩ := g_if hP
    refine hG.1 _ (21, [some (.ref 94), some (.int l1), some (.int l2), some (.int l3), none, none], [], (gSh, (gPut σ 159 l3.toNatClampNeg (vp_nar .boolean 0)), u)) _ rfl (if_pos hc) ?_
    obtain ⟨s1, es1, hP⟩ := g_let hP
    rw [← es1]
    refine gRunN_ok hG.1 1 _ (24, [some (.ref 94), some (.int l1), some (.int l2), some (.int (l3 + 1)), none, none], [], (gSh, s1, u)) rfl ?_
    obtain ⟨x2, ex2, hP⟩ := g_let hP
    rw [← ex2]
    refine gRunN_ok hG.1 1 _ (6, [some (.ref 94), some (.int l1), some (.int l2), some (.int x2), none, none], [], (gSh, s1, u)) rfl ?_
    cases hP
    exact K1 _ _ rfl
theorem l_Model_spread_6 (E : gEv) (d u : Nat) {G : gFr → Prop} {vo : Option Value} {sr : gS} (hG : gClo E gDf gP18 gY267 none (gC E gDf gMs (d + 2)) (vo, (gSh, sr, u)) G) (l1 : Int32) (l2 : Int32) : ∀ (n : Nat) (l3 : Int32) (σ : gS) (e : (gS)), gIter (fun z => p_Model_spread_6 E l1 l2 z.1 z.2) n (l3, σ) = some e → (∀ (σ1 : gS), e = σ1 → G (27, [some (.ref 94), some (.int l1), some (.int l2), none, none, none], [], (gSh, σ1, u))) → G (6, [some (.ref 94), some (.int l1), some (.int l2), some (.int l3), none, none], [], (gSh, σ, u)) := by
  intro n
  induction n with
  | zero => intro l3 σ e h; cases h
  | succ n ih =>
    intro l3 σ e h K2
    rcases g_iter h with ⟨z, h1, h2⟩ | h1
    · exact b_Model_spread_6 E d u hG l1 l2 l3 σ h1 (fun n0 n1 hz => by cases hz; exact ih _ _ e h2 K2) (fun _ hz => by cases hz)
    · exact b_Model_spread_6 E d u hG l1 l2 l3 σ h1 (fun _ _ hz => by cases hz) (fun σ1 hz => K2 σ1 (by cases hz; rfl))
def p_Model_spread_40 (E : gEv) (l1 : Int32) (l2 : Int32) (l3 : Int32) (l4 : Int32) (σ : gS) : Option ((Int32 × gS) ⊕ (gS)) :=
  if ((4 : Int32) * (σ.1 94 3)) ≤ l4 then (some (.inr σ)) else (gB1 (p_Model_outNow E l3 σ) fun v5 => if v5 = 0 then (some (.inr σ)) else (if gIn (((l3 * (σ.1 94 9)) + (42 : Int32)) + l4) (σ.2.1 154) then if (σ.1 154 (((l3 * (σ.1 94 9)) + (42 : Int32)) + l4).toNatClampNeg) = 0 then (gLet (l4 + 1) fun x7 => some (.inl (x7, σ))) else (if ¬ (σ.1 94 2) = 0 then if ¬ (σ.1 94 3) = 0 then if ¬ (σ.1 94 3) = 0 then gB1 (p_Model_tileWire E (l3 / (σ.1 94 2)) (l4 / (σ.1 94 3)) (l4 - l4 / (σ.1 94 3) * (σ.1 94 3)) σ) fun v8 => if gIn v8 (σ.2.1 159) then gLet (gPut σ 159 v8.toNatClampNeg (vp_nar .boolean 1)) fun s10 => gLet (l4 + 1) fun x11 => some (.inl (x11, s10)) else none else none else none else none) else none))
set_option maxRecDepth 20000 in
theorem b_Model_spread_40 (E : gEv) (d u : Nat) {G : gFr → Prop} {vo : Option Value} {sr : gS} (hG : gClo E gDf gP18 gY267 none (gC E gDf gMs (d + 2)) (vo, (gSh, sr, u)) G) (l1 : Int32) (l2 : Int32) (l3 : Int32) (l4 : Int32) (σ : gS) {r : (Int32 × gS) ⊕ (gS)} (hP : p_Model_spread_40 E l1 l2 l3 l4 σ = some r) (K1 : ∀ (m4 : Int32) (σ1 : gS), r = .inl (m4, σ1) → G (40, [some (.ref 94), some (.int l1), some (.int l2), some (.int l3), some (.int m4), none], [], (gSh, σ1, u))) (K2 : ∀ (σ1 : gS), r = .inr σ1 → G (115, [some (.ref 94), some (.int l1), some (.int l2), some (.int l3), none, none], [], (gSh, σ1, u))) : G (40, [some (.ref 94), some (.int l1), some (.int l2), some (.int l3), some (.int l4), none], [], (gSh, σ, u)) := by
  unfold p_Model_spread_40 at hP
  refine gRunN_ok hG.1 5 _ (48, [some (.ref 94), some (.int l1), some (.int l2), some (.int l3), some (.int l4), none], [.int ((4 : Int32) * (σ.1 94 3)), .int l4], (gSh, σ, u)) rfl ?_
  rcases g_ite hP with ⟨hc, hP⟩ | ⟨hc, hP⟩
  · refine hG.1 _ (115, [some (.ref 94), some (.int l1), some (.int l2), some (.int l3), some (.int l4), none], [], (gSh, σ, u)) _ rfl (if_pos hc) ?_
    refine hG.2.2.2.2.1 _ _ [some (.ref 94), some (.int l1), some (.int l2), some (.int l3), none, none] _ _ ⟨rfl, ⟨rfl, ⟨rfl, ⟨rfl, trivial⟩⟩⟩⟩ ?_
    cases hP
    exact K2 _ rfl
  · refine hG.1 _ (51, [some (.ref 94), some (.int l1), some (.int l2), some (.int l3), some (.int l4), none], [], (gSh, σ, u)) _ rfl (if_neg hc) ?_
    refine gRunN_ok hG.1 2 _ (53, [some (.ref 94), some (.int l1), some (.int l2), some (.int l3), some (.int l4), none], [.int l3, .ref 94], (gSh, σ, u)) rfl ?_
    obtain ⟨v5, hq, hP⟩ := g_b1 hP
    refine hG.2.2.2.1 _ _ _ [.ref 94, .int l3] [] _ (gSh, σ, u) (some (.int v5)) _ _ _ _ _ _ rfl rfl rfl rfl rfl rfl (c_Model_outNow E (d + 1) u l3 _  hq) (Nat.le_refl _) (Nat.le_refl _) (Nat.le_refl _) (Nat.le_refl _) ?_
    show G (56, [some (.ref 94), some (.int l1), some (.int l2), some (.int l3), some (.int l4), none], [.int v5], (gSh, σ, u))
    rcases g_ite hP with ⟨hc, hP⟩ | ⟨hc, hP⟩
    · refine hG.1 _ (115, [some (.ref 94), some (.int l1), some (.int l2), some (.int l3), some (.int l4), none], [], (gSh, σ, u)) _ rfl (if_pos hc) ?_
      refine hG.2.2.2.2.1 _ _ [some (.ref 94), some (.int l1), some (.int l2), some (.int l3), none, none] _ _ ⟨rfl, ⟨rfl, ⟨rfl, ⟨rfl, trivial⟩⟩⟩⟩ ?_
      cases hP
      exact K2 _ rfl
    · refine hG.1 _ (59, [some (.ref 94), some (.int l1), some (.int l2), some (.int l3), some (.int l4), none], [], (gSh, σ, u)) _ rfl (if_neg hc) ?_
      refine gRunN_ok hG.1 10 _ (75, [some (.ref 94), some (.int l1), some (.int l2), some (.int l3), some (.int l4), none], [.int (((l3 * (σ.1 94 9)) + (42 : Int32)) + l4), .ref 154], (gSh, σ, u)) rfl ?_
      obtain ⟨hc, hP⟩ := g_if hP
      refine hG.1 _ (76, [some (.ref 94), some (.int l1), some (.int l2), some (.int l3), some (.int l4), none], [.int (σ.1 154 (((l3 * (σ.1 94 9)) + (42 : Int32)) + l4).toNatClampNeg)], (gSh, σ, u)) _ rfl (if_pos hc) ?_
      rcases g_ite hP with ⟨hc, hP⟩ | ⟨hc, hP⟩
      · refine hG.1 _ (109, [some (.ref 94), some (.int l1), some (.int l2), some (.int l3), some (.int l4), none], [], (gSh, σ, u)) _ rfl (if_pos hc) ?_
        refine gRunN_ok hG.1 1 _ (112, [some (.ref 94), some (.int l1), some (.int l2), some (.int l3), some (.int (l4 + 1)), none], [], (gSh, σ, u)) rfl ?_
        obtain ⟨x7, ex7, hP⟩ := g_let hP
        rw [← ex7]
        refine gRunN_ok hG.1 1 _ (40, [some (.ref 94), some (.int l1), some (.int l2), some (.int l3), some (.int x7), none], [], (gSh, σ, u)) rfl ?_
        cases hP
        exact K1 _ _ rfl
      · refine hG.1 _ (79, [some (.ref 94), some (.int l1), some (.int l2), some (.int l3), some (.int l4), none], [], (gSh, σ, u)) _ rfl (if_neg hc) ?_
        refine gRunN_ok hG.1 6 _ (89, [some (.ref 94), some (.int l1), some (.int l2), some (.int l3), some (.int l4), none], [.int (σ.1 94 2), .int l3, .ref 94, .ref 159], (gSh, σ, u)) rfl ?_
        obtain ⟨hc, hP⟩ := g_if hP
        refine hG.1 _ (90, [some (.ref 94), some (.int l1), some (.int l2), some (.int l3), some (.int l4), none], [.int (l3 / (σ.1 94 2)), .ref 94, .ref 159], (gSh, σ, u)) _ rfl (if_pos hc) ?_
        refine gRunN_ok hG.1 3 _ (96, [some (.ref 94), some (.int l1), some (.int l2), some (.int l3), some (.int l4), none], [.int (σ.1 94 3), .int l4, .int (l3 / (σ.1 94 2)), .ref 94, .ref 159], (gSh, σ, u)) rfl ?_
        obtain ⟨hc, hP⟩ := g_if hP
        refine hG.1 _ (97, [some (.ref 94), some (.int l1), some (.int l2), some (.int l3), some (.int l4), none], [.int (l4 / (σ.1 94 3)), .int (l3 / (σ.1 94 2)), .ref 94, .ref 159], (gSh, σ, u)) _ rfl (if_pos hc) ?_
        refine gRunN_ok hG.1 3 _ (103, [some (.ref 94), some (.int l1), some (.int l2), some (.int l3), some (.int l4), none], [.int (σ.1 94 3), .int l4, .int (l4 / (σ.1 94 3)), .int (l3 / (σ.1 94 2)), .ref 94, .ref 159], (gSh, σ, u)) rfl ?_
        obtain ⟨hc, hP⟩ := g_if hP
        refine hG.1 _ (104, [some (.ref 94), some (.int l1), some (.int l2), some (.int l3), some (.int l4), none], [.int (l4 - l4 / (σ.1 94 3) * (σ.1 94 3)), .int (l4 / (σ.1 94 3)), .int (l3 / (σ.1 94 2)), .ref 94, .ref 159], (gSh, σ, u)) _ rfl (if_pos hc) ?_
        obtain ⟨v8, hq, hP⟩ := g_b1 hP
        refine hG.2.2.2.1 _ _ _ [.ref 94, .int (l3 / (σ.1 94 2)), .int (l4 / (σ.1 94 3)), .int (l4 - l4 / (σ.1 94 3) * (σ.1 94 3))] [.ref 159] _ (gSh, σ, u) (some (.int v8)) _ _ _ _ _ _ rfl rfl rfl rfl rfl rfl (c_Model_tileWire E (d + 0) u (l3 / (σ.1 94 2)) (l4 / (σ.1 94 3)) (l4 - l4 / (σ.1 94 3) * (σ.1 94 3)) _  hq) (Nat.le_refl _) (Nat.le_refl _) (Nat.le_refl _) (Nat.le_refl _) ?_
        show G (107, [some (.ref 94), some (.int l1), some (.int l2), some (.int l3), some (.int l4), none], [.int v8, .ref 159], (gSh, σ, u))
        refine gRunN_ok hG.1 1 _ (108, [some (.ref 94), some (.int l1), some (.int l2), some (.int l3), some (.int l4), none], [.int 1, .int v8, .ref 159], (gSh, σ, u)) rfl ?_
        obtain ⟨hc, hP⟩ := g_if hP
        refine hG.1 _ (109, [some (.ref 94), some (.int l1), some (.int l2), some (.int l3), some (.int l4), none], [], (gSh, (gPut σ 159 v8.toNatClampNeg (vp_nar .boolean 1)), u)) _ rfl (if_pos hc) ?_
        obtain ⟨s10, es10, hP⟩ := g_let hP
        rw [← es10]
        refine gRunN_ok hG.1 1 _ (112, [some (.ref 94), some (.int l1), some (.int l2), some (.int l3), some (.int (l4 + 1)), none], [], (gSh, s10, u)) rfl ?_
        obtain ⟨x11, ex11, hP⟩ := g_let hP
        rw [← ex11]
        refine gRunN_ok hG.1 1 _ (40, [some (.ref 94), some (.int l1), some (.int l2), some (.int l3), some (.int x11), none], [], (gSh, s10, u)) rfl ?_
        cases hP
        exact K1 _ _ rfl
theorem l_Model_spread_40 (E : gEv) (d u : Nat) {G : gFr → Prop} {vo : Option Value} {sr : gS} (hG : gClo E gDf gP18 gY267 none (gC E gDf gMs (d + 2)) (vo, (gSh, sr, u)) G) (l1 : Int32) (l2 : Int32) (l3 : Int32) : ∀ (n : Nat) (l4 : Int32) (σ : gS) (e : (gS)), gIter (fun z => p_Model_spread_40 E l1 l2 l3 z.1 z.2) n (l4, σ) = some e → (∀ (σ1 : gS), e = σ1 → G (115, [some (.ref 94), some (.int l1), some (.int l2), some (.int l3), none, none], [], (gSh, σ1, u))) → G (40, [some (.ref 94), some (.int l1), some (.int l2), some (.int l3), some (.int l4), none], [], (gSh, σ, u)) := by
  intro n
  induction n with
  | zero => intro l4 σ e h; cases h
  | succ n ih =>
    intro l4 σ e h K2
    rcases g_iter h with ⟨z, h1, h2⟩ | h1
    · exact b_Model_spread_40 E d u hG l1 l2 l3 l4 σ h1 (fun n0 n1 hz => by cases hz; exact ih _ _ e h2 K2) (fun _ hz => by cases hz)
    · exact b_Model_spread_40 E d u hG l1 l2 l3 l4 σ h1 (fun _ _ hz => by cases hz) (fun σ1 hz => K2 σ1 (by cases hz; rfl))
def p_Model_spread_29 (E : gEv) (l1 : Int32) (l2 : Int32) (l3 : Int32) (σ : gS) : Option ((Int32 × gS) ⊕ (gS)) :=
  if (σ.1 94 5) ≤ l3 then (some (.inr σ)) else (gB1 (gIter (fun z => p_Model_spread_40 E l1 l2 l3 z.1 z.2) gN (0, σ)) fun e12 => (fun s13 => gLet (l3 + 1) fun x14 => some (.inl (x14, s13))) e12)
set_option maxRecDepth 20000 in
theorem b_Model_spread_29 (E : gEv) (d u : Nat) {G : gFr → Prop} {vo : Option Value} {sr : gS} (hG : gClo E gDf gP18 gY267 none (gC E gDf gMs (d + 2)) (vo, (gSh, sr, u)) G) (l1 : Int32) (l2 : Int32) (l3 : Int32) (σ : gS) {r : (Int32 × gS) ⊕ (gS)} (hP : p_Model_spread_29 E l1 l2 l3 σ = some r) (K1 : ∀ (m3 : Int32) (σ1 : gS), r = .inl (m3, σ1) → G (29, [some (.ref 94), some (.int l1), some (.int l2), some (.int m3), none, none], [], (gSh, σ1, u))) (K2 : ∀ (σ1 : gS), r = .inr σ1 → G (121, [some (.ref 94), some (.int l1), some (.int l2), none, none, none], [], (gSh, σ1, u))) : G (29, [some (.ref 94), some (.int l1), some (.int l2), some (.int l3), none, none], [], (gSh, σ, u)) := by
  unfold p_Model_spread_29 at hP
  refine gRunN_ok hG.1 3 _ (34, [some (.ref 94), some (.int l1), some (.int l2), some (.int l3), none, none], [.int (σ.1 94 5), .int l3], (gSh, σ, u)) rfl ?_
  rcases g_ite hP with ⟨hc, hP⟩ | ⟨hc, hP⟩
  · refine hG.1 _ (121, [some (.ref 94), some (.int l1), some (.int l2), some (.int l3), none, none], [], (gSh, σ, u)) _ rfl (if_pos hc) ?_
    refine hG.2.2.2.2.1 _ _ [some (.ref 94), some (.int l1), some (.int l2), none, none, none] _ _ ⟨rfl, ⟨rfl, ⟨rfl, trivial⟩⟩⟩ ?_
    cases hP
    exact K2 _ rfl
  · refine hG.1 _ (37, [some (.ref 94), some (.int l1), some (.int l2), some (.int l3), none, none], [], (gSh, σ, u)) _ rfl (if_neg hc) ?_
    refine gRunN_ok hG.1 2 _ (40, [some (.ref 94), some (.int l1), some (.int l2), some (.int l3), some (.int 0), none], [], (gSh, σ, u)) rfl ?_
    obtain ⟨e12, hq, hP⟩ := g_b1 hP
    refine l_Model_spread_40 E d u hG l1 l2 l3 gN 0 σ _ hq (fun s13 he => ?_)
    · replace he := he.symm
      subst he
      try dsimp only [gSum] at hP
      refine gRunN_ok hG.1 1 _ (118, [some (.ref 94), some (.int l1), some (.int l2), some (.int (l3 + 1)), none, none], [], (gSh, s13, u)) rfl ?_
      obtain ⟨x14, ex14, hP⟩ := g_let hP
      rw [← ex14]
      refine gRunN_ok hG.1 1 _ (29, [some (.ref 94), some (.int l1), some (.int l2), some (.int x14), none, none], [], (gSh, s13, u)) rfl ?_
      cases hP
      exact K1 _ _ rfl
theorem l_Model_spread_29 (E : gEv) (d u : Nat) {G : gFr → Prop} {vo : Option Value} {sr : gS} (hG : gClo E gDf gP18 gY267 none (gC E gDf gMs (d + 2)) (vo, (gSh, sr, u)) G) (l1 : Int32) (l2 : Int32) : ∀ (n : Nat) (l3 : Int32) (σ : gS) (e : (gS)), gIter (fun z => p_Model_spread_29 E l1 l2 z.1 z.2) n (l3, σ) = some e → (∀ (σ1 : gS), e = σ1 → G (121, [some (.ref 94), some (.int l1), some (.int l2), none, none, none], [], (gSh, σ1, u))) → G (29, [some (.ref 94), some (.int l1), some (.int l2), some (.int l3), none, none], [], (gSh, σ, u)) := by
  intro n
  induction n with
  | zero => intro l3 σ e h; cases h
  | succ n ih =>
    intro l3 σ e h K2
    rcases g_iter h with ⟨z, h1, h2⟩ | h1
    · exact b_Model_spread_29 E d u hG l1 l2 l3 σ h1 (fun n0 n1 hz => by cases hz; exact ih _ _ e h2 K2) (fun _ hz => by cases hz)
    · exact b_Model_spread_29 E d u hG l1 l2 l3 σ h1 (fun _ _ hz => by cases hz) (fun σ1 hz => K2 σ1 (by cases hz; rfl))
def p_Model_spread_170 (E : gEv) (l1 : Int32) (l2 : Int32) (l3 : Int32) (l4 : Int32) (l5 : Int32) (σ : gS) : Option ((Int32 × gS) ⊕ (gS)) :=
  if (σ.1 94 3) ≤ l5 then (some (.inr σ)) else (if l4 = 0 then (some (.inr σ)) else (if gIn ((((σ.1 94 11) + (l3 * (σ.1 94 10))) + (6 : Int32)) + l5) (σ.2.1 154) then if (σ.1 154 ((((σ.1 94 11) + (l3 * (σ.1 94 10))) + (6 : Int32)) + l5).toNatClampNeg) = 0 then (gLet (l5 + 1) fun x19 => some (.inl (x19, σ))) else (gB1 (p_Model_padWire E l3 l5 σ) fun v20 => if gIn v20 (σ.2.1 159) then gLet (gPut σ 159 v20.toNatClampNeg (vp_nar .boolean 1)) fun s22 => gLet (l5 + 1) fun x23 => some (.inl (x23, s22)) else none) else none))
set_option maxRecDepth 20000 in
theorem b_Model_spread_170 (E : gEv) (d u : Nat) {G : gFr → Prop} {vo : Option Value} {sr : gS} (hG : gClo E gDf gP18 gY267 none (gC E gDf gMs (d + 2)) (vo, (gSh, sr, u)) G) (l1 : Int32) (l2 : Int32) (l3 : Int32) (l4 : Int32) (l5 : Int32) (σ : gS) {r : (Int32 × gS) ⊕ (gS)} (hP : p_Model_spread_170 E l1 l2 l3 l4 l5 σ = some r) (K1 : ∀ (m5 : Int32) (σ1 : gS), r = .inl (m5, σ1) → G (170, [some (.ref 94), some (.int l1), some (.int l2), some (.int l3), some (.int l4), some (.int m5)], [], (gSh, σ1, u))) (K2 : ∀ (σ1 : gS), r = .inr σ1 → G (228, [some (.ref 94), some (.int l1), some (.int l2), some (.int l3), none, none], [], (gSh, σ1, u))) : G (170, [some (.ref 94), some (.int l1), some (.int l2), some (.int l3), some (.int l4), some (.int l5)], [], (gSh, σ, u)) := by
  unfold p_Model_spread_170 at hP
  refine gRunN_ok hG.1 3 _ (176, [some (.ref 94), some (.int l1), some (.int l2), some (.int l3), some (.int l4), some (.int l5)], [.int (σ.1 94 3), .int l5], (gSh, σ, u)) rfl ?_
  rcases g_ite hP with ⟨hc, hP⟩ | ⟨hc, hP⟩
  · refine hG.1 _ (228, [some (.ref 94), some (.int l1), some (.int l2), some (.int l3), some (.int l4), some (.int l5)], [], (gSh, σ, u)) _ rfl (if_pos hc) ?_
    refine hG.2.2.2.2.1 _ _ [some (.ref 94), some (.int l1), some (.int l2), some (.int l3), none, none] _ _ ⟨rfl, ⟨rfl, ⟨rfl, ⟨rfl, trivial⟩⟩⟩⟩ ?_
    cases hP
    exact K2 _ rfl
  · refine hG.1 _ (179, [some (.ref 94), some (.int l1), some (.int l2), some (.int l3), some (.int l4), some (.int l5)], [], (gSh, σ, u)) _ rfl (if_neg hc) ?_
    refine gRunN_ok hG.1 1 _ (181, [some (.ref 94), some (.int l1), some (.int l2), some (.int l3), some (.int l4), some (.int l5)], [.int l4], (gSh, σ, u)) rfl ?_
    rcases g_ite hP with ⟨hc, hP⟩ | ⟨hc, hP⟩
    · refine hG.1 _ (228, [some (.ref 94), some (.int l1), some (.int l2), some (.int l3), some (.int l4), some (.int l5)], [], (gSh, σ, u)) _ rfl (if_pos hc) ?_
      refine hG.2.2.2.2.1 _ _ [some (.ref 94), some (.int l1), some (.int l2), some (.int l3), none, none] _ _ ⟨rfl, ⟨rfl, ⟨rfl, ⟨rfl, trivial⟩⟩⟩⟩ ?_
      cases hP
      exact K2 _ rfl
    · refine hG.1 _ (184, [some (.ref 94), some (.int l1), some (.int l2), some (.int l3), some (.int l4), some (.int l5)], [], (gSh, σ, u)) _ rfl (if_neg hc) ?_
      refine gRunN_ok hG.1 13 _ (205, [some (.ref 94), some (.int l1), some (.int l2), some (.int l3), some (.int l4), some (.int l5)], [.int ((((σ.1 94 11) + (l3 * (σ.1 94 10))) + (6 : Int32)) + l5), .ref 154], (gSh, σ, u)) rfl ?_
      obtain ⟨hc, hP⟩ := g_if hP
      refine hG.1 _ (206, [some (.ref 94), some (.int l1), some (.int l2), some (.int l3), some (.int l4), some (.int l5)], [.int (σ.1 154 ((((σ.1 94 11) + (l3 * (σ.1 94 10))) + (6 : Int32)) + l5).toNatClampNeg)], (gSh, σ, u)) _ rfl (if_pos hc) ?_
      rcases g_ite hP with ⟨hc, hP⟩ | ⟨hc, hP⟩
      · refine hG.1 _ (222, [some (.ref 94), some (.int l1), some (.int l2), some (.int l3), some (.int l4), some (.int l5)], [], (gSh, σ, u)) _ rfl (if_pos hc) ?_
        refine gRunN_ok hG.1 1 _ (225, [some (.ref 94), some (.int l1), some (.int l2), some (.int l3), some (.int l4), some (.int (l5 + 1))], [], (gSh, σ, u)) rfl ?_
        obtain ⟨x19, ex19, hP⟩ := g_let hP
        rw [← ex19]
        refine gRunN_ok hG.1 1 _ (170, [some (.ref 94), some (.int l1), some (.int l2), some (.int l3), some (.int l4), some (.int x19)], [], (gSh, σ, u)) rfl ?_
        cases hP
        exact K1 _ _ rfl
      · refine hG.1 _ (209, [some (.ref 94), some (.int l1), some (.int l2), some (.int l3), some (.int l4), some (.int l5)], [], (gSh, σ, u)) _ rfl (if_neg hc) ?_
        refine gRunN_ok hG.1 5 _ (217, [some (.ref 94), some (.int l1), some (.int l2), some (.int l3), some (.int l4), some (.int l5)], [.int l5, .int l3, .ref 94, .ref 159], (gSh, σ, u)) rfl ?_
        obtain ⟨v20, hq, hP⟩ := g_b1 hP
        refine hG.2.2.2.1 _ _ _ [.ref 94, .int l3, .int l5] [.ref 159] _ (gSh, σ, u) (some (.int v20)) _ _ _ _ _ _ rfl rfl rfl rfl rfl rfl (c_Model_padWire E (d + 0) u l3 l5 _  hq) (Nat.le_refl _) (Nat.le_refl _) (Nat.le_refl _) (Nat.le_refl _) ?_
        show G (220, [some (.ref 94), some (.int l1), some (.int l2), some (.int l3), some (.int l4), some (.int l5)], [.int v20, .ref 159], (gSh, σ, u))
        refine gRunN_ok hG.1 1 _ (221, [some (.ref 94), some (.int l1), some (.int l2), some (.int l3), some (.int l4), some (.int l5)], [.int 1, .int v20, .ref 159], (gSh, σ, u)) rfl ?_
        obtain ⟨hc, hP⟩ := g_if hP
        refine hG.1 _ (222, [some (.ref 94), some (.int l1), some (.int l2), some (.int l3), some (.int l4), some (.int l5)], [], (gSh, (gPut σ 159 v20.toNatClampNeg (vp_nar .boolean 1)), u)) _ rfl (if_pos hc) ?_
        obtain ⟨s22, es22, hP⟩ := g_let hP
        rw [← es22]
        refine gRunN_ok hG.1 1 _ (225, [some (.ref 94), some (.int l1), some (.int l2), some (.int l3), some (.int l4), some (.int (l5 + 1))], [], (gSh, s22, u)) rfl ?_
        obtain ⟨x23, ex23, hP⟩ := g_let hP
        rw [← ex23]
        refine gRunN_ok hG.1 1 _ (170, [some (.ref 94), some (.int l1), some (.int l2), some (.int l3), some (.int l4), some (.int x23)], [], (gSh, s22, u)) rfl ?_
        cases hP
        exact K1 _ _ rfl
theorem l_Model_spread_170 (E : gEv) (d u : Nat) {G : gFr → Prop} {vo : Option Value} {sr : gS} (hG : gClo E gDf gP18 gY267 none (gC E gDf gMs (d + 2)) (vo, (gSh, sr, u)) G) (l1 : Int32) (l2 : Int32) (l3 : Int32) (l4 : Int32) : ∀ (n : Nat) (l5 : Int32) (σ : gS) (e : (gS)), gIter (fun z => p_Model_spread_170 E l1 l2 l3 l4 z.1 z.2) n (l5, σ) = some e → (∀ (σ1 : gS), e = σ1 → G (228, [some (.ref 94), some (.int l1), some (.int l2), some (.int l3), none, none], [], (gSh, σ1, u))) → G (170, [some (.ref 94), some (.int l1), some (.int l2), some (.int l3), some (.int l4), some (.int l5)], [], (gSh, σ, u)) := by
  intro n
  induction n with
  | zero => intro l5 σ e h; cases h
  | succ n ih =>
    intro l5 σ e h K2
    rcases g_iter h with ⟨z, h1, h2⟩ | h1
    · exact b_Model_spread_170 E d u hG l1 l2 l3 l4 l5 σ h1 (fun n0 n1 hz => by cases hz; exact ih _ _ e h2 K2) (fun _ hz => by cases hz)
    · exact b_Model_spread_170 E d u hG l1 l2 l3 l4 l5 σ h1 (fun _ _ hz => by cases hz) (fun σ1 hz => K2 σ1 (by cases hz; rfl))
def p_Model_spread_j165_123 (E : gEv) (l1 : Int32) (l2 : Int32) (l3 : Int32) (y0 : Int32) (σ : gS) : Option ((Int32 × gS) ⊕ (gS)) :=
  gB1 (gIter (fun z => p_Model_spread_170 E l1 l2 l3 y0 z.1 z.2) gN (0, σ)) fun e24 => (fun s25 => gLet (l3 + 1) fun x26 => some (.inl (x26, s25))) e24
set_option maxRecDepth 20000 in
theorem j_Model_spread_j165_123 (E : gEv) (d u : Nat) {G : gFr → Prop} {vo : Option Value} {sr : gS} (hG : gClo E gDf gP18 gY267 none (gC E gDf gMs (d + 2)) (vo, (gSh, sr, u)) G) (l1 : Int32) (l2 : Int32) (l3 : Int32) (y0 : Int32) (σ : gS) {r : (Int32 × gS) ⊕ (gS)} (hP : p_Model_spread_j165_123 E l1 l2 l3 y0 σ = some r) (K1 : ∀ (m3 : Int32) (σ1 : gS), r = .inl (m3, σ1) → G (123, [some (.ref 94), some (.int l1), some (.int l2), some (.int m3), none, none], [], (gSh, σ1, u))) (K2 : ∀ (σ1 : gS), r = .inr σ1 → G (234, [some (.ref 94), some (.int l1), some (.int l2), none, none, none], [], (gSh, σ1, u))) : G (165, [some (.ref 94), some (.int l1), some (.int l2), some (.int l3), none, none], [.int y0], (gSh, σ, u)) := by
  unfold p_Model_spread_j165_123 at hP
  refine gRunN_ok hG.1 3 _ (170, [some (.ref 94), some (.int l1), some (.int l2), some (.int l3), some (.int y0), some (.int 0)], [], (gSh, σ, u)) rfl ?_
  obtain ⟨e24, hq, hP⟩ := g_b1 hP
  refine l_Model_spread_170 E d u hG l1 l2 l3 y0 gN 0 σ _ hq (fun s25 he => ?_)
  · replace he := he.symm
    subst he
    try dsimp only [gSum] at hP
    refine gRunN_ok hG.1 1 _ (231, [some (.ref 94), some (.int l1), some (.int l2), some (.int (l3 + 1)), none, none], [], (gSh, s25, u)) rfl ?_
    obtain ⟨x26, ex26, hP⟩ := g_let hP
    rw [← ex26]
    refine gRunN_ok hG.1 1 _ (123, [some (.ref 94), some (.int l1), some (.int l2), some (.int x26), none, none], [], (gSh, s25, u)) rfl ?_
    cases hP
    exact K1 _ _ rfl
def p_Model_spread_j164_123 (E : gEv) (l1 : Int32) (l2 : Int32) (l3 : Int32) (σ : gS) : Option ((Int32 × gS) ⊕ (gS)) :=
  p_Model_spread_j165_123 E l1 l2 l3 0 σ
set_option maxRecDepth 20000 in
theorem j_Model_spread_j164_123 (E : gEv) (d u : Nat) {G : gFr → Prop} {vo : Option Value} {sr : gS} (hG : gClo E gDf gP18 gY267 none (gC E gDf gMs (d + 2)) (vo, (gSh, sr, u)) G) (l1 : Int32) (l2 : Int32) (l3 : Int32) (σ : gS) {r : (Int32 × gS) ⊕ (gS)} (hP : p_Model_spread_j164_123 E l1 l2 l3 σ = some r) (K1 : ∀ (m3 : Int32) (σ1 : gS), r = .inl (m3, σ1) → G (123, [some (.ref 94), some (.int l1), some (.int l2), some (.int m3), none, none], [], (gSh, σ1, u))) (K2 : ∀ (σ1 : gS), r = .inr σ1 → G (234, [some (.ref 94), some (.int l1), some (.int l2), none, none, none], [], (gSh, σ1, u))) : G (164, [some (.ref 94), some (.int l1), some (.int l2), some (.int l3), none, none], [], (gSh, σ, u)) := by
  unfold p_Model_spread_j164_123 at hP
  refine gRunN_ok hG.1 1 _ (165, [some (.ref 94), some (.int l1), some (.int l2), some (.int l3), none, none], [.int 0], (gSh, σ, u)) rfl ?_
  exact j_Model_spread_j165_123 E d u hG l1 l2 l3 0 σ hP K1 K2
def p_Model_spread_123 (E : gEv) (l1 : Int32) (l2 : Int32) (l3 : Int32) (σ : gS) : Option ((Int32 × gS) ⊕ (gS)) :=
  if (σ.1 94 6) ≤ l3 then (some (.inr σ)) else (gB1 (p_Model_bitsAt E ((σ.1 94 11) + (l3 * (σ.1 94 10))) 2 σ) fun v17 => if v17 = (1 : Int32) then (if gIn l3 (σ.2.1 158) then if (σ.1 158 l3.toNatClampNeg) = 0 then (p_Model_spread_j164_123 E l1 l2 l3 σ) else (p_Model_spread_j165_123 E l1 l2 l3 1 σ) else none) else (p_Model_spread_j164_123 E l1 l2 l3 σ))
set_option maxRecDepth 20000 in
theorem b_Model_spread_123 (E : gEv) (d u : Nat) {G : gFr → Prop} {vo : Option Value} {sr : gS} (hG : gClo E gDf gP18 gY267 none (gC E gDf gMs (d + 2)) (vo, (gSh, sr, u)) G) (l1 : Int32) (l2 : Int32) (l3 : Int32) (σ : gS) {r : (Int32 × gS) ⊕ (gS)} (hP : p_Model_spread_123 E l1 l2 l3 σ = some r) (K1 : ∀ (m3 : Int32) (σ1 : gS), r = .inl (m3, σ1) → G (123, [some (.ref 94), some (.int l1), some (.int l2), some (.int m3), none, none], [], (gSh, σ1, u))) (K2 : ∀ (σ1 : gS), r = .inr σ1 → G (234, [some (.ref 94), some (.int l1), some (.int l2), none, none, none], [], (gSh, σ1, u))) : G (123, [some (.ref 94), some (.int l1), some (.int l2), some (.int l3), none, none], [], (gSh, σ, u)) := by
  unfold p_Model_spread_123 at hP
  refine gRunN_ok hG.1 3 _ (128, [some (.ref 94), some (.int l1), some (.int l2), some (.int l3), none, none], [.int (σ.1 94 6), .int l3], (gSh, σ, u)) rfl ?_
  rcases g_ite hP with ⟨hc, hP⟩ | ⟨hc, hP⟩
  · refine hG.1 _ (234, [some (.ref 94), some (.int l1), some (.int l2), some (.int l3), none, none], [], (gSh, σ, u)) _ rfl (if_pos hc) ?_
    refine hG.2.2.2.2.1 _ _ [some (.ref 94), some (.int l1), some (.int l2), none, none, none] _ _ ⟨rfl, ⟨rfl, ⟨rfl, trivial⟩⟩⟩ ?_
    cases hP
    exact K2 _ rfl
  · refine hG.1 _ (131, [some (.ref 94), some (.int l1), some (.int l2), some (.int l3), none, none], [], (gSh, σ, u)) _ rfl (if_neg hc) ?_
    refine gRunN_ok hG.1 9 _ (144, [some (.ref 94), some (.int l1), some (.int l2), some (.int l3), none, none], [.int 2, .int ((σ.1 94 11) + (l3 * (σ.1 94 10))), .ref 94], (gSh, σ, u)) rfl ?_
    obtain ⟨v17, hq, hP⟩ := g_b1 hP
    refine hG.2.2.2.1 _ _ _ [.ref 94, .int ((σ.1 94 11) + (l3 * (σ.1 94 10))), .int 2] [] _ (gSh, σ, u) (some (.int v17)) _ _ _ _ _ _ rfl rfl rfl rfl rfl rfl (c_Model_bitsAt E (d + 1) u ((σ.1 94 11) + (l3 * (σ.1 94 10))) 2 _  hq) (Nat.le_refl _) (Nat.le_refl _) (Nat.le_refl _) (Nat.le_refl _) ?_
    show G (147, [some (.ref 94), some (.int l1), some (.int l2), some (.int l3), none, none], [.int v17], (gSh, σ, u))
    refine gRunN_ok hG.1 1 _ (148, [some (.ref 94), some (.int l1), some (.int l2), some (.int l3), none, none], [.int 1, .int v17], (gSh, σ, u)) rfl ?_
    rcases g_ite hP with ⟨hc, hP⟩ | ⟨hc, hP⟩
    · refine hG.1 _ (151, [some (.ref 94), some (.int l1), some (.int l2), some (.int l3), none, none], [], (gSh, σ, u)) _ rfl (if_pos hc) ?_
      refine gRunN_ok hG.1 3 _ (156, [some (.ref 94), some (.int l1), some (.int l2), some (.int l3), none, none], [.int l3, .ref 158], (gSh, σ, u)) rfl ?_
      obtain ⟨hc, hP⟩ := g_if hP
      refine hG.1 _ (157, [some (.ref 94), some (.int l1), some (.int l2), some (.int l3), none, none], [.int (σ.1 158 l3.toNatClampNeg)], (gSh, σ, u)) _ rfl (if_pos hc) ?_
      rcases g_ite hP with ⟨hc, hP⟩ | ⟨hc, hP⟩
      · refine hG.1 _ (164, [some (.ref 94), some (.int l1), some (.int l2), some (.int l3), none, none], [], (gSh, σ, u)) _ rfl (if_pos hc) ?_
        exact j_Model_spread_j164_123 E d u hG l1 l2 l3 σ hP K1 K2
      · refine hG.1 _ (160, [some (.ref 94), some (.int l1), some (.int l2), some (.int l3), none, none], [], (gSh, σ, u)) _ rfl (if_neg hc) ?_
        refine gRunN_ok hG.1 2 _ (165, [some (.ref 94), some (.int l1), some (.int l2), some (.int l3), none, none], [.int 1], (gSh, σ, u)) rfl ?_
        exact j_Model_spread_j165_123 E d u hG l1 l2 l3 1 σ hP K1 K2
    · refine hG.1 _ (164, [some (.ref 94), some (.int l1), some (.int l2), some (.int l3), none, none], [], (gSh, σ, u)) _ rfl (if_neg hc) ?_
      exact j_Model_spread_j164_123 E d u hG l1 l2 l3 σ hP K1 K2
theorem l_Model_spread_123 (E : gEv) (d u : Nat) {G : gFr → Prop} {vo : Option Value} {sr : gS} (hG : gClo E gDf gP18 gY267 none (gC E gDf gMs (d + 2)) (vo, (gSh, sr, u)) G) (l1 : Int32) (l2 : Int32) : ∀ (n : Nat) (l3 : Int32) (σ : gS) (e : (gS)), gIter (fun z => p_Model_spread_123 E l1 l2 z.1 z.2) n (l3, σ) = some e → (∀ (σ1 : gS), e = σ1 → G (234, [some (.ref 94), some (.int l1), some (.int l2), none, none, none], [], (gSh, σ1, u))) → G (123, [some (.ref 94), some (.int l1), some (.int l2), some (.int l3), none, none], [], (gSh, σ, u)) := by
  intro n
  induction n with
  | zero => intro l3 σ e h; cases h
  | succ n ih =>
    intro l3 σ e h K2
    rcases g_iter h with ⟨z, h1, h2⟩ | h1
    · exact b_Model_spread_123 E d u hG l1 l2 l3 σ h1 (fun n0 n1 hz => by cases hz; exact ih _ _ e h2 K2) (fun _ hz => by cases hz)
    · exact b_Model_spread_123 E d u hG l1 l2 l3 σ h1 (fun _ _ hz => by cases hz) (fun σ1 hz => K2 σ1 (by cases hz; rfl))
def p_Model_spread_236 (E : gEv) (l1 : Int32) (l2 : Int32) (l3 : Int32) (σ : gS) : Option ((Int32 × Int32 × gS) ⊕ (Int32 × gS)) :=
  if (σ.1 94 8) ≤ l3 then (some (.inr (l2, σ))) else (if gIn l3 (σ.2.1 159) then if (σ.1 159 l3.toNatClampNeg) = 0 then (gLet (l3 + 1) fun x29 => some (.inl (l2, x29, σ))) else (if gIn l2 (σ.2.1 152) then gLet (gPut σ 152 l2.toNatClampNeg l3) fun s30 => gLet (l2 + 1) fun x31 => gLet (l3 + 1) fun x32 => some (.inl (x31, x32, s30)) else none) else none)
set_option maxRecDepth 20000 in
theorem b_Model_spread_236 (E : gEv) (d u : Nat) {G : gFr → Prop} {vo : Option Value} {sr : gS} (hG : gClo E gDf gP18 gY267 none (gC E gDf gMs (d + 2)) (vo, (gSh, sr, u)) G) (l1 : Int32) (l2 : Int32) (l3 : Int32) (σ : gS) {r : (Int32 × Int32 × gS) ⊕ (Int32 × gS)} (hP : p_Model_spread_236 E l1 l2 l3 σ = some r) (K1 : ∀ (m2 : Int32) (m3 : Int32) (σ1 : gS), r = .inl (m2, m3, σ1) → G (236, [some (.ref 94), some (.int l1), some (.int m2), some (.int m3), none, none], [], (gSh, σ1, u))) (K2 : ∀ (m2 : Int32) (σ1 : gS), r = .inr (m2, σ1) → G (269, [some (.ref 94), some (.int l1), some (.int m2), none, none, none], [], (gSh, σ1, u))) : G (236, [some (.ref 94), some (.int l1), some (.int l2), some (.int l3), none, none], [], (gSh, σ, u)) := by
  unfold p_Model_spread_236 at hP
  refine gRunN_ok hG.1 3 _ (241, [some (.ref 94), some (.int l1), some (.int l2), some (.int l3), none, none], [.int (σ.1 94 8), .int l3], (gSh, σ, u)) rfl ?_
  rcases g_ite hP with ⟨hc, hP⟩ | ⟨hc, hP⟩
  · refine hG.1 _ (269, [some (.ref 94), some (.int l1), some (.int l2), some (.int l3), none, none], [], (gSh, σ, u)) _ rfl (if_pos hc) ?_
    refine hG.2.2.2.2.1 _ _ [some (.ref 94), some (.int l1), some (.int l2), none, none, none] _ _ ⟨rfl, ⟨rfl, ⟨rfl, trivial⟩⟩⟩ ?_
    cases hP
    exact K2 _ _ rfl
  · refine hG.1 _ (244, [some (.ref 94), some (.int l1), some (.int l2), some (.int l3), none, none], [], (gSh, σ, u)) _ rfl (if_neg hc) ?_
    refine gRunN_ok hG.1 3 _ (249, [some (.ref 94), some (.int l1), some (.int l2), some (.int l3), none, none], [.int l3, .ref 159], (gSh, σ, u)) rfl ?_
    obtain ⟨hc, hP⟩ := g_if hP
    refine hG.1 _ (250, [some (.ref 94), some (.int l1), some (.int l2), some (.int l3), none, none], [.int (σ.1 159 l3.toNatClampNeg)], (gSh, σ, u)) _ rfl (if_pos hc) ?_
    rcases g_ite hP with ⟨hc, hP⟩ | ⟨hc, hP⟩
    · refine hG.1 _ (263, [some (.ref 94), some (.int l1), some (.int l2), some (.int l3), none, none], [], (gSh, σ, u)) _ rfl (if_pos hc) ?_
      refine gRunN_ok hG.1 1 _ (266, [some (.ref 94), some (.int l1), some (.int l2), some (.int (l3 + 1)), none, none], [], (gSh, σ, u)) rfl ?_
      obtain ⟨x29, ex29, hP⟩ := g_let hP
      rw [← ex29]
      refine gRunN_ok hG.1 1 _ (236, [some (.ref 94), some (.int l1), some (.int l2), some (.int x29), none, none], [], (gSh, σ, u)) rfl ?_
      cases hP
      exact K1 _ _ _ rfl
    · refine hG.1 _ (253, [some (.ref 94), some (.int l1), some (.int l2), some (.int l3), none, none], [], (gSh, σ, u)) _ rfl (if_neg hc) ?_
      refine gRunN_ok hG.1 4 _ (259, [some (.ref 94), some (.int l1), some (.int l2), some (.int l3), none, none], [.int l3, .int l2, .ref 152], (gSh, σ, u)) rfl ?_
      obtain ⟨hc, hP⟩ := g_if hP
      refine hG.1 _ (260, [some (.ref 94), some (.int l1), some (.int l2), some (.int l3), none, none], [], (gSh, (gPut σ 152 l2.toNatClampNeg l3), u)) _ rfl (if_pos hc) ?_
      obtain ⟨s30, es30, hP⟩ := g_let hP
      rw [← es30]
      refine gRunN_ok hG.1 1 _ (263, [some (.ref 94), some (.int l1), some (.int (l2 + 1)), some (.int l3), none, none], [], (gSh, s30, u)) rfl ?_
      obtain ⟨x31, ex31, hP⟩ := g_let hP
      rw [← ex31]
      refine gRunN_ok hG.1 1 _ (266, [some (.ref 94), some (.int l1), some (.int x31), some (.int (l3 + 1)), none, none], [], (gSh, s30, u)) rfl ?_
      obtain ⟨x32, ex32, hP⟩ := g_let hP
      rw [← ex32]
      refine gRunN_ok hG.1 1 _ (236, [some (.ref 94), some (.int l1), some (.int x31), some (.int x32), none, none], [], (gSh, s30, u)) rfl ?_
      cases hP
      exact K1 _ _ _ rfl
theorem l_Model_spread_236 (E : gEv) (d u : Nat) {G : gFr → Prop} {vo : Option Value} {sr : gS} (hG : gClo E gDf gP18 gY267 none (gC E gDf gMs (d + 2)) (vo, (gSh, sr, u)) G) (l1 : Int32) : ∀ (n : Nat) (l2 : Int32) (l3 : Int32) (σ : gS) (e : (Int32 × gS)), gIter (fun z => p_Model_spread_236 E l1 z.1 z.2.1 z.2.2) n (l2, l3, σ) = some e → (∀ (m2 : Int32) (σ1 : gS), e = (m2, σ1) → G (269, [some (.ref 94), some (.int l1), some (.int m2), none, none, none], [], (gSh, σ1, u))) → G (236, [some (.ref 94), some (.int l1), some (.int l2), some (.int l3), none, none], [], (gSh, σ, u)) := by
  intro n
  induction n with
  | zero => intro l2 l3 σ e h; cases h
  | succ n ih =>
    intro l2 l3 σ e h K2
    rcases g_iter h with ⟨z, h1, h2⟩ | h1
    · exact b_Model_spread_236 E d u hG l1 l2 l3 σ h1 (fun n0 n1 n2 hz => by cases hz; exact ih _ _ _ e h2 K2) (fun _ _ hz => by cases hz)
    · exact b_Model_spread_236 E d u hG l1 l2 l3 σ h1 (fun _ _ _ hz => by cases hz) (fun m2 σ1 hz => K2 m2 σ1 (by cases hz; rfl))
def p_Model_spread_290 (E : gEv) (l1 : Int32) (l3 : Int32) (l2 : Int32) (l4 : Int32) (σ : gS) : Option ((Int32 × Int32 × gS) ⊕ (Int32 × gS)) :=
  if gIn l3 (σ.2.1 140) then if (((6 : Int32) * l3) + (σ.1 140 l3.toNatClampNeg)) ≤ l4 then (some (.inr (l2, σ))) else (if gIn l4 (σ.2.1 139) then if gIn (σ.1 139 l4.toNatClampNeg) (σ.2.1 154) then if (σ.1 154 (σ.1 139 l4.toNatClampNeg).toNatClampNeg) = 0 then (gLet (l4 + 1) fun x39 => some (.inl (l2, x39, σ))) else (if gIn l4 (σ.2.1 138) then if gIn (σ.1 138 l4.toNatClampNeg) (σ.2.1 159) then if (σ.1 159 (σ.1 138 l4.toNatClampNeg).toNatClampNeg) = 0 then (if gIn l4 (σ.2.1 138) then if gIn (σ.1 138 l4.toNatClampNeg) (σ.2.1 159) then gLet (gPut σ 159 (σ.1 138 l4.toNatClampNeg).toNatClampNeg (vp_nar .boolean 1)) fun s40 => if gIn l4 (s40.2.1 138) then if gIn l2 (s40.2.1 152) then gLet (gPut s40 152 l2.toNatClampNeg (s40.1 138 l4.toNatClampNeg)) fun s41 => gLet (l2 + 1) fun x42 => gLet (l4 + 1) fun x43 => some (.inl (x42, x43, s41)) else none else none else none else none) else (gLet (l4 + 1) fun x44 => some (.inl (l2, x44, σ))) else none else none) else none else none) else none
set_option maxRecDepth 20000 in
theorem b_Model_spread_290 (E : gEv) (d u : Nat) {G : gFr → Prop} {vo : Option Value} {sr : gS} (hG : gClo E gDf gP18 gY267 none (gC E gDf gMs (d + 2)) (vo, (gSh, sr, u)) G) (l1 : Int32) (l3 : Int32) (l2 : Int32) (l4 : Int32) (σ : gS) {r : (Int32 × Int32 × gS) ⊕ (Int32 × gS)} (hP : p_Model_spread_290 E l1 l3 l2 l4 σ = some r) (K1 : ∀ (m2 : Int32) (m4 : Int32) (σ1 : gS), r = .inl (m2, m4, σ1) → G (290, [some (.ref 94), some (.int l1), some (.int m2), some (.int l3), some (.int m4), none], [], (gSh, σ1, u))) (K2 : ∀ (m2 : Int32) (σ1 : gS), r = .inr (m2, σ1) → G (371, [some (.ref 94), some (.int l1), some (.int m2), none, none, none], [], (gSh, σ1, u))) : G (290, [some (.ref 94), some (.int l1), some (.int l2), some (.int l3), some (.int l4), none], [], (gSh, σ, u)) := by
  unfold p_Model_spread_290 at hP
  refine gRunN_ok hG.1 7 _ (301, [some (.ref 94), some (.int l1), some (.int l2), some (.int l3), some (.int l4), none], [.int l3, .ref 140, .int ((6 : Int32) * l3), .int l4], (gSh, σ, u)) rfl ?_
  obtain ⟨hc, hP⟩ := g_if hP
  refine hG.1 _ (302, [some (.ref 94), some (.int l1), some (.int l2), some (.int l3), some (.int l4), none], [.int (σ.1 140 l3.toNatClampNeg), .int ((6 : Int32) * l3), .int l4], (gSh, σ, u)) _ rfl (if_pos hc) ?_
  refine gRunN_ok hG.1 1 _ (303, [some (.ref 94), some (.int l1), some (.int l2), some (.int l3), some (.int l4), none], [.int (((6 : Int32) * l3) + (σ.1 140 l3.toNatClampNeg)), .int l4], (gSh, σ, u)) rfl ?_
  rcases g_ite hP with ⟨hc, hP⟩ | ⟨hc, hP⟩
  · refine hG.1 _ (371, [some (.ref 94), some (.int l1), some (.int l2), some (.int l3), some (.int l4), none], [], (gSh, σ, u)) _ rfl (if_pos hc) ?_
    refine hG.2.2.2.2.1 _ _ [some (.ref 94), some (.int l1), some (.int l2), none, none, none] _ _ ⟨rfl, ⟨rfl, ⟨rfl, trivial⟩⟩⟩ ?_
    cases hP
    exact K2 _ _ rfl
  · refine hG.1 _ (306, [some (.ref 94), some (.int l1), some (.int l2), some (.int l3), some (.int l4), none], [], (gSh, σ, u)) _ rfl (if_neg hc) ?_
    refine gRunN_ok hG.1 5 _ (316, [some (.ref 94), some (.int l1), some (.int l2), some (.int l3), some (.int l4), none], [.int l4, .ref 139, .ref 154], (gSh, σ, u)) rfl ?_
    obtain ⟨hc, hP⟩ := g_if hP
    refine hG.1 _ (317, [some (.ref 94), some (.int l1), some (.int l2), some (.int l3), some (.int l4), none], [.int (σ.1 139 l4.toNatClampNeg), .ref 154], (gSh, σ, u)) _ rfl (if_pos hc) ?_
    obtain ⟨hc, hP⟩ := g_if hP
    refine hG.1 _ (318, [some (.ref 94), some (.int l1), some (.int l2), some (.int l3), some (.int l4), none], [.int (σ.1 154 (σ.1 139 l4.toNatClampNeg).toNatClampNeg)], (gSh, σ, u)) _ rfl (if_pos hc) ?_
    rcases g_ite hP with ⟨hc, hP⟩ | ⟨hc, hP⟩
    · refine hG.1 _ (365, [some (.ref 94), some (.int l1), some (.int l2), some (.int l3), some (.int l4), none], [], (gSh, σ, u)) _ rfl (if_pos hc) ?_
      refine gRunN_ok hG.1 1 _ (368, [some (.ref 94), some (.int l1), some (.int l2), some (.int l3), some (.int (l4 + 1)), none], [], (gSh, σ, u)) rfl ?_
      obtain ⟨x39, ex39, hP⟩ := g_let hP
      rw [← ex39]
      refine gRunN_ok hG.1 1 _ (290, [some (.ref 94), some (.int l1), some (.int l2), some (.int l3), some (.int x39), none], [], (gSh, σ, u)) rfl ?_
      cases hP
      exact K1 _ _ _ rfl
    · refine hG.1 _ (321, [some (.ref 94), some (.int l1), some (.int l2), some (.int l3), some (.int l4), none], [], (gSh, σ, u)) _ rfl (if_neg hc) ?_
      refine gRunN_ok hG.1 5 _ (331, [some (.ref 94), some (.int l1), some (.int l2), some (.int l3), some (.int l4), none], [.int l4, .ref 138, .ref 159], (gSh, σ, u)) rfl ?_
      obtain ⟨hc, hP⟩ := g_if hP
      refine hG.1 _ (332, [some (.ref 94), some (.int l1), some (.int l2), some (.int l3), some (.int l4), none], [.int (σ.1 138 l4.toNatClampNeg), .ref 159], (gSh, σ, u)) _ rfl (if_pos hc) ?_
      obtain ⟨hc, hP⟩ := g_if hP
      refine hG.1 _ (333, [some (.ref 94), some (.int l1), some (.int l2), some (.int l3), some (.int l4), none], [.int (σ.1 159 (σ.1 138 l4.toNatClampNeg).toNatClampNeg)], (gSh, σ, u)) _ rfl (if_pos hc) ?_
      rcases g_ite hP with ⟨hc, hP⟩ | ⟨hc, hP⟩
      · refine hG.1 _ (336, [some (.ref 94), some (.int l1), some (.int l2), some (.int l3), some (.int l4), none], [], (gSh, σ, u)) _ rfl (if_pos hc) ?_
        refine gRunN_ok hG.1 5 _ (346, [some (.ref 94), some (.int l1), some (.int l2), some (.int l3), some (.int l4), none], [.int l4, .ref 138, .ref 159], (gSh, σ, u)) rfl ?_
        obtain ⟨hc, hP⟩ := g_if hP
        refine hG.1 _ (347, [some (.ref 94), some (.int l1), some (.int l2), some (.int l3), some (.int l4), none], [.int (σ.1 138 l4.toNatClampNeg), .ref 159], (gSh, σ, u)) _ rfl (if_pos hc) ?_
        refine gRunN_ok hG.1 1 _ (348, [some (.ref 94), some (.int l1), some (.int l2), some (.int l3), some (.int l4), none], [.int 1, .int (σ.1 138 l4.toNatClampNeg), .ref 159], (gSh, σ, u)) rfl ?_
        obtain ⟨hc, hP⟩ := g_if hP
        refine hG.1 _ (349, [some (.ref 94), some (.int l1), some (.int l2), some (.int l3), some (.int l4), none], [], (gSh, (gPut σ 159 (σ.1 138 l4.toNatClampNeg).toNatClampNeg (vp_nar .boolean 1)), u)) _ rfl (if_pos hc) ?_
        obtain ⟨s40, es40, hP⟩ := g_let hP
        rw [← es40]
        refine gRunN_ok hG.1 6 _ (360, [some (.ref 94), some (.int l1), some (.int l2), some (.int l3), some (.int l4), none], [.int l4, .ref 138, .int l2, .ref 152], (gSh, s40, u)) rfl ?_
        obtain ⟨hc, hP⟩ := g_if hP
        refine hG.1 _ (361, [some (.ref 94), some (.int l1), some (.int l2), some (.int l3), some (.int l4), none], [.int (s40.1 138 l4.toNatClampNeg), .int l2, .ref 152], (gSh, s40, u)) _ rfl (if_pos hc) ?_
        obtain ⟨hc, hP⟩ := g_if hP
        refine hG.1 _ (362, [some (.ref 94), some (.int l1), some (.int l2), some (.int l3), some (.int l4), none], [], (gSh, (gPut s40 152 l2.toNatClampNeg (s40.1 138 l4.toNatClampNeg)), u)) _ rfl (if_pos hc) ?_
        obtain ⟨s41, es41, hP⟩ := g_let hP
        rw [← es41]
        refine gRunN_ok hG.1 1 _ (365, [some (.ref 94), some (.int l1), some (.int (l2 + 1)), some (.int l3), some (.int l4), none], [], (gSh, s41, u)) rfl ?_
        obtain ⟨x42, ex42, hP⟩ := g_let hP
        rw [← ex42]
        refine gRunN_ok hG.1 1 _ (368, [some (.ref 94), some (.int l1), some (.int x42), some (.int l3), some (.int (l4 + 1)), none], [], (gSh, s41, u)) rfl ?_
        obtain ⟨x43, ex43, hP⟩ := g_let hP
        rw [← ex43]
        refine gRunN_ok hG.1 1 _ (290, [some (.ref 94), some (.int l1), some (.int x42), some (.int l3), some (.int x43), none], [], (gSh, s41, u)) rfl ?_
        cases hP
        exact K1 _ _ _ rfl
      · refine hG.1 _ (365, [some (.ref 94), some (.int l1), some (.int l2), some (.int l3), some (.int l4), none], [], (gSh, σ, u)) _ rfl (if_neg hc) ?_
        refine gRunN_ok hG.1 1 _ (368, [some (.ref 94), some (.int l1), some (.int l2), some (.int l3), some (.int (l4 + 1)), none], [], (gSh, σ, u)) rfl ?_
        obtain ⟨x44, ex44, hP⟩ := g_let hP
        rw [← ex44]
        refine gRunN_ok hG.1 1 _ (290, [some (.ref 94), some (.int l1), some (.int l2), some (.int l3), some (.int x44), none], [], (gSh, σ, u)) rfl ?_
        cases hP
        exact K1 _ _ _ rfl
theorem l_Model_spread_290 (E : gEv) (d u : Nat) {G : gFr → Prop} {vo : Option Value} {sr : gS} (hG : gClo E gDf gP18 gY267 none (gC E gDf gMs (d + 2)) (vo, (gSh, sr, u)) G) (l1 : Int32) (l3 : Int32) : ∀ (n : Nat) (l2 : Int32) (l4 : Int32) (σ : gS) (e : (Int32 × gS)), gIter (fun z => p_Model_spread_290 E l1 l3 z.1 z.2.1 z.2.2) n (l2, l4, σ) = some e → (∀ (m2 : Int32) (σ1 : gS), e = (m2, σ1) → G (371, [some (.ref 94), some (.int l1), some (.int m2), none, none, none], [], (gSh, σ1, u))) → G (290, [some (.ref 94), some (.int l1), some (.int l2), some (.int l3), some (.int l4), none], [], (gSh, σ, u)) := by
  intro n
  induction n with
  | zero => intro l2 l4 σ e h; cases h
  | succ n ih =>
    intro l2 l4 σ e h K2
    rcases g_iter h with ⟨z, h1, h2⟩ | h1
    · exact b_Model_spread_290 E d u hG l1 l3 l2 l4 σ h1 (fun n0 n1 n2 hz => by cases hz; exact ih _ _ _ e h2 K2) (fun _ _ hz => by cases hz)
    · exact b_Model_spread_290 E d u hG l1 l3 l2 l4 σ h1 (fun _ _ _ hz => by cases hz) (fun m2 σ1 hz => K2 m2 σ1 (by cases hz; rfl))
def p_Model_spread_269 (E : gEv) (l1 : Int32) (l2 : Int32) (σ : gS) : Option ((Int32 × Int32 × gS) ⊕ (gS)) :=
  if l2 ≤ l1 then (some (.inr σ)) else (if gIn l1 (σ.2.1 152) then gLet (σ.1 152 l1.toNatClampNeg) fun x36 => gLet (l1 + 1) fun x37 => gLet ((6 : Int32) * x36) fun x38 => gB1 (gIter (fun z => p_Model_spread_290 E x37 x36 z.1 z.2.1 z.2.2) gN (l2, x38, σ)) fun e45 => (fun w46 s47 => some (.inl (x37, w46, s47))) e45.1 e45.2 else none)
set_option maxRecDepth 20000 in
theorem b_Model_spread_269 (E : gEv) (d u : Nat) {G : gFr → Prop} {vo : Option Value} {sr : gS} (hG : gClo E gDf gP18 gY267 none (gC E gDf gMs (d + 2)) (vo, (gSh, sr, u)) G) (l1 : Int32) (l2 : Int32) (σ : gS) {r : (Int32 × Int32 × gS) ⊕ (gS)} (hP : p_Model_spread_269 E l1 l2 σ = some r) (K1 : ∀ (m1 : Int32) (m2 : Int32) (σ1 : gS), r = .inl (m1, m2, σ1) → G (269, [some (.ref 94), some (.int m1), some (.int m2), none, none, none], [], (gSh, σ1, u))) (K2 : ∀ (σ1 : gS), r = .inr σ1 → G (374, [none, none, none, none, none, none], [], (gSh, σ1, u))) : G (269, [some (.ref 94), some (.int l1), some (.int l2), none, none, none], [], (gSh, σ, u)) := by
  unfold p_Model_spread_269 at hP
  refine gRunN_ok hG.1 2 _ (271, [some (.ref 94), some (.int l1), some (.int l2), none, none, none], [.int l2, .int l1], (gSh, σ, u)) rfl ?_
  rcases g_ite hP with ⟨hc, hP⟩ | ⟨hc, hP⟩
  · refine hG.1 _ (374, [some (.ref 94), some (.int l1), some (.int l2), none, none, none], [], (gSh, σ, u)) _ rfl (if_pos hc) ?_
    refine hG.2.2.2.2.1 _ _ [none, none, none, none, none, none] _ _ trivial ?_
    cases hP
    exact K2 _ rfl
  · refine hG.1 _ (274, [some (.ref 94), some (.int l1), some (.int l2), none, none, none], [], (gSh, σ, u)) _ rfl (if_neg hc) ?_
    refine gRunN_ok hG.1 3 _ (279, [some (.ref 94), some (.int l1), some (.int l2), none, none, none], [.int l1, .ref 152], (gSh, σ, u)) rfl ?_
    obtain ⟨hc, hP⟩ := g_if hP
    refine hG.1 _ (280, [some (.ref 94), some (.int l1), some (.int l2), none, none, none], [.int (σ.1 152 l1.toNatClampNeg)], (gSh, σ, u)) _ rfl (if_pos hc) ?_
    refine gRunN_ok hG.1 1 _ (281, [some (.ref 94), some (.int l1), some (.int l2), some (.int (σ.1 152 l1.toNatClampNeg)), none, none], [], (gSh, σ, u)) rfl ?_
    obtain ⟨x36, ex36, hP⟩ := g_let hP
    rw [← ex36]
    refine gRunN_ok hG.1 1 _ (284, [some (.ref 94), some (.int (l1 + 1)), some (.int l2), some (.int x36), none, none], [], (gSh, σ, u)) rfl ?_
    obtain ⟨x37, ex37, hP⟩ := g_let hP
    rw [← ex37]
    refine gRunN_ok hG.1 4 _ (290, [some (.ref 94), some (.int x37), some (.int l2), some (.int x36), some (.int ((6 : Int32) * x36)), none], [], (gSh, σ, u)) rfl ?_
    obtain ⟨x38, ex38, hP⟩ := g_let hP
    rw [← ex38]
    obtain ⟨e45, hq, hP⟩ := g_b1 hP
    refine l_Model_spread_290 E d u hG x37 x36 gN l2 x38 σ _ hq (fun w46 s47 he => ?_)
    · subst he
      try dsimp only [gSum] at hP
      refine gRunN_ok hG.1 1 _ (269, [some (.ref 94), some (.int x37), some (.int w46), none, none, none], [], (gSh, s47, u)) rfl ?_
      cases hP
      exact K1 _ _ _ rfl
theorem l_Model_spread_269 (E : gEv) (d u : Nat) {G : gFr → Prop} {vo : Option Value} {sr : gS} (hG : gClo E gDf gP18 gY267 none (gC E gDf gMs (d + 2)) (vo, (gSh, sr, u)) G) : ∀ (n : Nat) (l1 : Int32) (l2 : Int32) (σ : gS) (e : (gS)), gIter (fun z => p_Model_spread_269 E z.1 z.2.1 z.2.2) n (l1, l2, σ) = some e → (∀ (σ1 : gS), e = σ1 → G (374, [none, none, none, none, none, none], [], (gSh, σ1, u))) → G (269, [some (.ref 94), some (.int l1), some (.int l2), none, none, none], [], (gSh, σ, u)) := by
  intro n
  induction n with
  | zero => intro l1 l2 σ e h; cases h
  | succ n ih =>
    intro l1 l2 σ e h K2
    rcases g_iter h with ⟨z, h1, h2⟩ | h1
    · exact b_Model_spread_269 E d u hG l1 l2 σ h1 (fun n0 n1 n2 hz => by cases hz; exact ih _ _ _ e h2 K2) (fun _ hz => by cases hz)
    · exact b_Model_spread_269 E d u hG l1 l2 σ h1 (fun _ _ _ hz => by cases hz) (fun σ1 hz => K2 σ1 (by cases hz; rfl))
def p_Model_spread (E : gEv) (σ : gS) : Option (gS) :=
  gB1 (gIter (fun z => p_Model_spread_6 E 0 0 z.1 z.2) gN (0, σ)) fun e3 => (fun s4 => gB1 (gIter (fun z => p_Model_spread_29 E 0 0 z.1 z.2) gN (0, s4)) fun e15 => (fun s16 => gB1 (gIter (fun z => p_Model_spread_123 E 0 0 z.1 z.2) gN (0, s16)) fun e27 => (fun s28 => gB1 (gIter (fun z => p_Model_spread_236 E 0 z.1 z.2.1 z.2.2) gN (0, 0, s28)) fun e33 => (fun w34 s35 => gB1 (gIter (fun z => p_Model_spread_269 E z.1 z.2.1 z.2.2) gN (0, w34, s35)) fun e48 => (fun s49 => some s49) e48) e33.1 e33.2) e27) e15) e3
set_option maxRecDepth 20000 in
theorem c_Model_spread (E : gEv) (d u : Nat) (σ : gS) {sr : gS}  (hq : p_Model_spread E σ = some sr) : gC E gDf gMs (d + 3) 267 [.ref 94] (gSh, σ, u) (none, (gSh, sr, u)) := ⟨gM267, rfl, Nat.le_of_ble_eq_true rfl, fun G hG => by
  have hP := hq
  unfold p_Model_spread at hP
  replace hG : gClo E gDf gP18 gY267 none (gC E gDf gMs (d + 2)) (none, (gSh, sr, u)) G := hG
  show G (0, [some (.ref 94), none, none, none, none, none], [], (gSh, σ, u))
  refine gRunN_ok hG.1 6 _ (6, [some (.ref 94), some (.int 0), some (.int 0), some (.int 0), none, none], [], (gSh, σ, u)) rfl ?_
  obtain ⟨e3, hq, hP⟩ := g_b1 hP
  refine l_Model_spread_6 E d u hG 0 0 gN 0 σ _ hq (fun s4 he => ?_)
  · replace he := he.symm
    subst he
    try dsimp only [gSum] at hP
    refine gRunN_ok hG.1 2 _ (29, [some (.ref 94), some (.int 0), some (.int 0), some (.int 0), none, none], [], (gSh, s4, u)) rfl ?_
    obtain ⟨e15, hq, hP⟩ := g_b1 hP
    refine l_Model_spread_29 E d u hG 0 0 gN 0 s4 _ hq (fun s16 he => ?_)
    · replace he := he.symm
      subst he
      try dsimp only [gSum] at hP
      refine gRunN_ok hG.1 2 _ (123, [some (.ref 94), some (.int 0), some (.int 0), some (.int 0), none, none], [], (gSh, s16, u)) rfl ?_
      obtain ⟨e27, hq, hP⟩ := g_b1 hP
      refine l_Model_spread_123 E d u hG 0 0 gN 0 s16 _ hq (fun s28 he => ?_)
      · replace he := he.symm
        subst he
        try dsimp only [gSum] at hP
        refine gRunN_ok hG.1 2 _ (236, [some (.ref 94), some (.int 0), some (.int 0), some (.int 0), none, none], [], (gSh, s28, u)) rfl ?_
        obtain ⟨e33, hq, hP⟩ := g_b1 hP
        refine l_Model_spread_236 E d u hG 0 gN 0 0 s28 _ hq (fun w34 s35 he => ?_)
        · subst he
          try dsimp only [gSum] at hP
          obtain ⟨e48, hq, hP⟩ := g_b1 hP
          refine l_Model_spread_269 E d u hG gN 0 w34 s35 _ hq (fun s49 he => ?_)
          · replace he := he.symm
            subst he
            try dsimp only [gSum] at hP
            cases hP
            exact hG.2.1 _ _ rfl rfl⟩
def p_Model_lutOf_j120_12 (E : gEv) (l1 : Int32) (l2 : Int32) (l3 : Int32) (l4 : Int32) (y0 : Int32) (σ : gS) : Option ((Int32 × Int32) ⊕ (Int32)) :=
  if y0 = 0 then (gLet (l3 ||| (0 : Int32)) fun x5 => gLet (l4 + 1) fun x6 => some (.inl (x5, x6))) else (gLet (l3 ||| ((1 : Int32) <<< (l4 &&& 31))) fun x7 => gLet (l4 + 1) fun x8 => some (.inl (x7, x8)))
set_option maxRecDepth 20000 in
theorem j_Model_lutOf_j120_12 (E : gEv) (d u : Nat) {G : gFr → Prop} {vo : Option Value} {sr : gS} (hG : gClo E gDf gP18 gY270 (some .boolean) (gC E gDf gMs (d + 2)) (vo, (gSh, sr, u)) G) (l1 : Int32) (l2 : Int32) (l3 : Int32) (l4 : Int32) (y0 : Int32) (σ : gS) {r : (Int32 × Int32) ⊕ (Int32)} (hP : p_Model_lutOf_j120_12 E l1 l2 l3 l4 y0 σ = some r) (K1 : ∀ (m3 : Int32) (m4 : Int32), r = .inl (m3, m4) → G (12, [some (.ref 94), some (.int l1), some (.int l2), some (.int m3), some (.int m4), none, none], [], (gSh, σ, u))) (K2 : ∀ (m3 : Int32), r = .inr m3 → G (144, [some (.ref 94), none, some (.int l2), some (.int m3), none, none, none], [], (gSh, σ, u))) : G (120, [some (.ref 94), some (.int l1), some (.int l2), some (.int l3), some (.int l4), none, none], [.int y0], (gSh, σ, u)) := by
  unfold p_Model_lutOf_j120_12 at hP
  refine gRunN_ok hG.1 3 _ (125, [some (.ref 94), some (.int l1), some (.int l2), some (.int l3), some (.int l4), none, some (.int y0)], [.int y0, .int l3], (gSh, σ, u)) rfl ?_
  rcases g_ite hP with ⟨hc, hP⟩ | ⟨hc, hP⟩
  · refine hG.1 _ (135, [some (.ref 94), some (.int l1), some (.int l2), some (.int l3), some (.int l4), none, some (.int y0)], [.int l3], (gSh, σ, u)) _ rfl (if_pos hc) ?_
    refine gRunN_ok hG.1 3 _ (138, [some (.ref 94), some (.int l1), some (.int l2), some (.int (l3 ||| (0 : Int32))), some (.int l4), none, some (.int y0)], [], (gSh, σ, u)) rfl ?_
    obtain ⟨x5, ex5, hP⟩ := g_let hP
    rw [← ex5]
    refine gRunN_ok hG.1 1 _ (141, [some (.ref 94), some (.int l1), some (.int l2), some (.int x5), some (.int (l4 + 1)), none, some (.int y0)], [], (gSh, σ, u)) rfl ?_
    obtain ⟨x6, ex6, hP⟩ := g_let hP
    rw [← ex6]
    refine gRunN_ok hG.1 1 _ (12, [some (.ref 94), some (.int l1), some (.int l2), some (.int x5), some (.int x6), none, some (.int y0)], [], (gSh, σ, u)) rfl ?_
    refine hG.2.2.2.2.1 _ _ [some (.ref 94), some (.int l1), some (.int l2), some (.int x5), some (.int x6), none, none] _ _ ⟨rfl, ⟨rfl, ⟨rfl, ⟨rfl, ⟨rfl, trivial⟩⟩⟩⟩⟩ ?_
    cases hP
    exact K1 _ _ rfl
  · refine hG.1 _ (128, [some (.ref 94), some (.int l1), some (.int l2), some (.int l3), some (.int l4), none, some (.int y0)], [.int l3], (gSh, σ, u)) _ rfl (if_neg hc) ?_
    refine gRunN_ok hG.1 6 _ (138, [some (.ref 94), some (.int l1), some (.int l2), some (.int (l3 ||| ((1 : Int32) <<< (l4 &&& 31)))), some (.int l4), none, some (.int y0)], [], (gSh, σ, u)) rfl ?_
    obtain ⟨x7, ex7, hP⟩ := g_let hP
    rw [← ex7]
    refine gRunN_ok hG.1 1 _ (141, [some (.ref 94), some (.int l1), some (.int l2), some (.int x7), some (.int (l4 + 1)), none, some (.int y0)], [], (gSh, σ, u)) rfl ?_
    obtain ⟨x8, ex8, hP⟩ := g_let hP
    rw [← ex8]
    refine gRunN_ok hG.1 1 _ (12, [some (.ref 94), some (.int l1), some (.int l2), some (.int x7), some (.int x8), none, some (.int y0)], [], (gSh, σ, u)) rfl ?_
    refine hG.2.2.2.2.1 _ _ [some (.ref 94), some (.int l1), some (.int l2), some (.int x7), some (.int x8), none, none] _ _ ⟨rfl, ⟨rfl, ⟨rfl, ⟨rfl, ⟨rfl, trivial⟩⟩⟩⟩⟩ ?_
    cases hP
    exact K1 _ _ rfl
def p_Model_lutOf_j119_12 (E : gEv) (l1 : Int32) (l2 : Int32) (l3 : Int32) (l4 : Int32) (σ : gS) : Option ((Int32 × Int32) ⊕ (Int32)) :=
  p_Model_lutOf_j120_12 E l1 l2 l3 l4 0 σ
set_option maxRecDepth 20000 in
theorem j_Model_lutOf_j119_12 (E : gEv) (d u : Nat) {G : gFr → Prop} {vo : Option Value} {sr : gS} (hG : gClo E gDf gP18 gY270 (some .boolean) (gC E gDf gMs (d + 2)) (vo, (gSh, sr, u)) G) (l1 : Int32) (l2 : Int32) (l3 : Int32) (l4 : Int32) (σ : gS) {r : (Int32 × Int32) ⊕ (Int32)} (hP : p_Model_lutOf_j119_12 E l1 l2 l3 l4 σ = some r) (K1 : ∀ (m3 : Int32) (m4 : Int32), r = .inl (m3, m4) → G (12, [some (.ref 94), some (.int l1), some (.int l2), some (.int m3), some (.int m4), none, none], [], (gSh, σ, u))) (K2 : ∀ (m3 : Int32), r = .inr m3 → G (144, [some (.ref 94), none, some (.int l2), some (.int m3), none, none, none], [], (gSh, σ, u))) : G (119, [some (.ref 94), some (.int l1), some (.int l2), some (.int l3), some (.int l4), none, none], [], (gSh, σ, u)) := by
  unfold p_Model_lutOf_j119_12 at hP
  refine gRunN_ok hG.1 1 _ (120, [some (.ref 94), some (.int l1), some (.int l2), some (.int l3), some (.int l4), none, none], [.int 0], (gSh, σ, u)) rfl ?_
  exact j_Model_lutOf_j120_12 E d u hG l1 l2 l3 l4 0 σ hP K1 K2
def p_Model_lutOf_j108_12 (E : gEv) (l1 : Int32) (l2 : Int32) (l3 : Int32) (l4 : Int32) (y2 : Int32) (y3 : Int32) (y4 : Int32) (σ : gS) : Option ((Int32 × Int32) ⊕ (Int32)) :=
  gB1 (p_Model_tileWire E y2 y3 y4 σ) fun v9 => if gIn v9 (σ.2.1 159) then if (σ.1 159 v9.toNatClampNeg) = 0 then (p_Model_lutOf_j119_12 E l1 l2 l3 l4 σ) else (p_Model_lutOf_j120_12 E l1 l2 l3 l4 1 σ) else none
set_option maxRecDepth 20000 in
theorem j_Model_lutOf_j108_12 (E : gEv) (d u : Nat) {G : gFr → Prop} {vo : Option Value} {sr : gS} (hG : gClo E gDf gP18 gY270 (some .boolean) (gC E gDf gMs (d + 2)) (vo, (gSh, sr, u)) G) (l1 : Int32) (l2 : Int32) (l3 : Int32) (l4 : Int32) (y2 : Int32) (y3 : Int32) (y4 : Int32) (σ : gS) {r : (Int32 × Int32) ⊕ (Int32)} (hP : p_Model_lutOf_j108_12 E l1 l2 l3 l4 y2 y3 y4 σ = some r) (K1 : ∀ (m3 : Int32) (m4 : Int32), r = .inl (m3, m4) → G (12, [some (.ref 94), some (.int l1), some (.int l2), some (.int m3), some (.int m4), none, none], [], (gSh, σ, u))) (K2 : ∀ (m3 : Int32), r = .inr m3 → G (144, [some (.ref 94), none, some (.int l2), some (.int m3), none, none, none], [], (gSh, σ, u))) : G (108, [some (.ref 94), some (.int l1), some (.int l2), some (.int l3), some (.int l4), none, none], [.int y4, .int y3, .int y2, .ref 94, .ref 159], (gSh, σ, u)) := by
  unfold p_Model_lutOf_j108_12 at hP
  obtain ⟨v9, hq, hP⟩ := g_b1 hP
  refine hG.2.2.2.1 _ _ _ [.ref 94, .int y2, .int y3, .int y4] [.ref 159] _ (gSh, σ, u) (some (.int v9)) _ _ _ _ _ _ rfl rfl rfl rfl rfl rfl (c_Model_tileWire E (d + 0) u y2 y3 y4 _  hq) (Nat.le_refl _) (Nat.le_refl _) (Nat.le_refl _) (Nat.le_refl _) ?_
  show G (111, [some (.ref 94), some (.int l1), some (.int l2), some (.int l3), some (.int l4), none, none], [.int v9, .ref 159], (gSh, σ, u))
  obtain ⟨hc, hP⟩ := g_if hP
  refine hG.1 _ (112, [some (.ref 94), some (.int l1), some (.int l2), some (.int l3), some (.int l4), none, none], [.int (σ.1 159 v9.toNatClampNeg)], (gSh, σ, u)) _ rfl (if_pos hc) ?_
  rcases g_ite hP with ⟨hc, hP⟩ | ⟨hc, hP⟩
  · refine hG.1 _ (119, [some (.ref 94), some (.int l1), some (.int l2), some (.int l3), some (.int l4), none, none], [], (gSh, σ, u)) _ rfl (if_pos hc) ?_
    exact j_Model_lutOf_j119_12 E d u hG l1 l2 l3 l4 σ hP K1 K2
  · refine hG.1 _ (115, [some (.ref 94), some (.int l1), some (.int l2), some (.int l3), some (.int l4), none, none], [], (gSh, σ, u)) _ rfl (if_neg hc) ?_
    refine gRunN_ok hG.1 2 _ (120, [some (.ref 94), some (.int l1), some (.int l2), some (.int l3), some (.int l4), none, none], [.int 1], (gSh, σ, u)) rfl ?_
    exact j_Model_lutOf_j120_12 E d u hG l1 l2 l3 l4 1 σ hP K1 K2
def p_Model_lutOf_j92_12 (E : gEv) (l1 : Int32) (l2 : Int32) (l3 : Int32) (l4 : Int32) (l5 : Int32) (y2 : Int32) (y3 : Int32) (σ : gS) : Option ((Int32 × Int32) ⊕ (Int32)) :=
  if 0 ≤ l5 then (if ¬ (σ.1 94 3) = 0 then p_Model_lutOf_j108_12 E l1 l2 l3 l4 y2 y3 (l5 - l5 / (σ.1 94 3) * (σ.1 94 3)) σ else none) else (p_Model_lutOf_j108_12 E l1 l2 l3 l4 y2 y3 0 σ)
set_option maxRecDepth 20000 in
theorem j_Model_lutOf_j92_12 (E : gEv) (d u : Nat) {G : gFr → Prop} {vo : Option Value} {sr : gS} (hG : gClo E gDf gP18 gY270 (some .boolean) (gC E gDf gMs (d + 2)) (vo, (gSh, sr, u)) G) (l1 : Int32) (l2 : Int32) (l3 : Int32) (l4 : Int32) (l5 : Int32) (y2 : Int32) (y3 : Int32) (σ : gS) {r : (Int32 × Int32) ⊕ (Int32)} (hP : p_Model_lutOf_j92_12 E l1 l2 l3 l4 l5 y2 y3 σ = some r) (K1 : ∀ (m3 : Int32) (m4 : Int32), r = .inl (m3, m4) → G (12, [some (.ref 94), some (.int l1), some (.int l2), some (.int m3), some (.int m4), none, none], [], (gSh, σ, u))) (K2 : ∀ (m3 : Int32), r = .inr m3 → G (144, [some (.ref 94), none, some (.int l2), some (.int m3), none, none, none], [], (gSh, σ, u))) : G (92, [some (.ref 94), some (.int l1), some (.int l2), some (.int l3), some (.int l4), some (.int l5), none], [.int y3, .int y2, .ref 94, .ref 159], (gSh, σ, u)) := by
  unfold p_Model_lutOf_j92_12 at hP
  refine gRunN_ok hG.1 1 _ (94, [some (.ref 94), some (.int l1), some (.int l2), some (.int l3), some (.int l4), some (.int l5), none], [.int l5, .int y3, .int y2, .ref 94, .ref 159], (gSh, σ, u)) rfl ?_
  rcases g_ite hP with ⟨hc, hP⟩ | ⟨hc, hP⟩
  · refine hG.1 _ (101, [some (.ref 94), some (.int l1), some (.int l2), some (.int l3), some (.int l4), some (.int l5), none], [.int y3, .int y2, .ref 94, .ref 159], (gSh, σ, u)) _ rfl (if_pos hc) ?_
    refine gRunN_ok hG.1 3 _ (107, [some (.ref 94), some (.int l1), some (.int l2), some (.int l3), some (.int l4), some (.int l5), none], [.int (σ.1 94 3), .int l5, .int y3, .int y2, .ref 94, .ref 159], (gSh, σ, u)) rfl ?_
    obtain ⟨hc, hP⟩ := g_if hP
    refine hG.1 _ (108, [some (.ref 94), some (.int l1), some (.int l2), some (.int l3), some (.int l4), some (.int l5), none], [.int (l5 - l5 / (σ.1 94 3) * (σ.1 94 3)), .int y3, .int y2, .ref 94, .ref 159], (gSh, σ, u)) _ rfl (if_pos hc) ?_
    refine hG.2.2.2.2.1 _ _ [some (.ref 94), some (.int l1), some (.int l2), some (.int l3), some (.int l4), none, none] _ _ ⟨rfl, ⟨rfl, ⟨rfl, ⟨rfl, ⟨rfl, trivial⟩⟩⟩⟩⟩ ?_
    exact j_Model_lutOf_j108_12 E d u hG l1 l2 l3 l4 y2 y3 (l5 - l5 / (σ.1 94 3) * (σ.1 94 3)) σ hP K1 K2
  · refine hG.1 _ (97, [some (.ref 94), some (.int l1), some (.int l2), some (.int l3), some (.int l4), some (.int l5), none], [.int y3, .int y2, .ref 94, .ref 159], (gSh, σ, u)) _ rfl (if_neg hc) ?_
    refine gRunN_ok hG.1 2 _ (108, [some (.ref 94), some (.int l1), some (.int l2), some (.int l3), some (.int l4), some (.int l5), none], [.int 0, .int y3, .int y2, .ref 94, .ref 159], (gSh, σ, u)) rfl ?_
    refine hG.2.2.2.2.1 _ _ [some (.ref 94), some (.int l1), some (.int l2), some (.int l3), some (.int l4), none, none] _ _ ⟨rfl, ⟨rfl, ⟨rfl, ⟨rfl, ⟨rfl, trivial⟩⟩⟩⟩⟩ ?_
    exact j_Model_lutOf_j108_12 E d u hG l1 l2 l3 l4 y2 y3 0 σ hP K1 K2
def p_Model_lutOf_j81_12 (E : gEv) (l1 : Int32) (l2 : Int32) (l3 : Int32) (l4 : Int32) (l5 : Int32) (y2 : Int32) (σ : gS) : Option ((Int32 × Int32) ⊕ (Int32)) :=
  p_Model_lutOf_j92_12 E l1 l2 l3 l4 l5 y2 0 σ
set_option maxRecDepth 20000 in
theorem j_Model_lutOf_j81_12 (E : gEv) (d u : Nat) {G : gFr → Prop} {vo : Option Value} {sr : gS} (hG : gClo E gDf gP18 gY270 (some .boolean) (gC E gDf gMs (d + 2)) (vo, (gSh, sr, u)) G) (l1 : Int32) (l2 : Int32) (l3 : Int32) (l4 : Int32) (l5 : Int32) (y2 : Int32) (σ : gS) {r : (Int32 × Int32) ⊕ (Int32)} (hP : p_Model_lutOf_j81_12 E l1 l2 l3 l4 l5 y2 σ = some r) (K1 : ∀ (m3 : Int32) (m4 : Int32), r = .inl (m3, m4) → G (12, [some (.ref 94), some (.int l1), some (.int l2), some (.int m3), some (.int m4), none, none], [], (gSh, σ, u))) (K2 : ∀ (m3 : Int32), r = .inr m3 → G (144, [some (.ref 94), none, some (.int l2), some (.int m3), none, none, none], [], (gSh, σ, u))) : G (81, [some (.ref 94), some (.int l1), some (.int l2), some (.int l3), some (.int l4), some (.int l5), none], [.int y2, .ref 94, .ref 159], (gSh, σ, u)) := by
  unfold p_Model_lutOf_j81_12 at hP
  refine gRunN_ok hG.1 2 _ (92, [some (.ref 94), some (.int l1), some (.int l2), some (.int l3), some (.int l4), some (.int l5), none], [.int 0, .int y2, .ref 94, .ref 159], (gSh, σ, u)) rfl ?_
  exact j_Model_lutOf_j92_12 E d u hG l1 l2 l3 l4 l5 y2 0 σ hP K1 K2
def p_Model_lutOf_12 (E : gEv) (l1 : Int32) (l2 : Int32) (l3 : Int32) (l4 : Int32) (σ : gS) : Option ((Int32 × Int32) ⊕ (Int32)) :=
  if (4 : Int32) ≤ l4 then (some (.inr l3)) else (gB1 (p_Model_bitsAt E ((l2 + (18 : Int32)) + ((6 : Int32) * l4)) 6 σ) fun v2 => gLet (v2 - (1 : Int32)) fun x4 => if x4 < 0 then (p_Model_lutOf_j119_12 E l1 l2 l3 l4 σ) else (if ((4 : Int32) * (σ.1 94 3)) ≤ x4 then (p_Model_lutOf_j119_12 E l1 l2 l3 l4 σ) else (if ¬ (σ.1 94 2) = 0 then if x4 < 0 then (p_Model_lutOf_j81_12 E l1 l2 l3 l4 x4 (l1 / (σ.1 94 2)) σ) else (if x4 < ((4 : Int32) * (σ.1 94 3)) then (if ¬ (σ.1 94 3) = 0 then p_Model_lutOf_j92_12 E l1 l2 l3 l4 x4 (l1 / (σ.1 94 2)) (x4 / (σ.1 94 3)) σ else none) else (p_Model_lutOf_j81_12 E l1 l2 l3 l4 x4 (l1 / (σ.1 94 2)) σ)) else none)))
set_option maxRecDepth 20000 in
theorem b_Model_lutOf_12 (E : gEv) (d u : Nat) {G : gFr → Prop} {vo : Option Value} {sr : gS} (hG : gClo E gDf gP18 gY270 (some .boolean) (gC E gDf gMs (d + 2)) (vo, (gSh, sr, u)) G) (l1 : Int32) (l2 : Int32) (l3 : Int32) (l4 : Int32) (σ : gS) {r : (Int32 × Int32) ⊕ (Int32)} (hP : p_Model_lutOf_12 E l1 l2 l3 l4 σ = some r) (K1 : ∀ (m3 : Int32) (m4 : Int32), r = .inl (m3, m4) → G (12, [some (.ref 94), some (.int l1), some (.int l2), some (.int m3), some (.int m4), none, none], [], (gSh, σ, u))) (K2 : ∀ (m3 : Int32), r = .inr m3 → G (144, [some (.ref 94), none, some (.int l2), some (.int m3), none, none, none], [], (gSh, σ, u))) : G (12, [some (.ref 94), some (.int l1), some (.int l2), some (.int l3), some (.int l4), none, none], [], (gSh, σ, u)) := by
  unfold p_Model_lutOf_12 at hP
  refine gRunN_ok hG.1 2 _ (15, [some (.ref 94), some (.int l1), some (.int l2), some (.int l3), some (.int l4), none, none], [.int 4, .int l4], (gSh, σ, u)) rfl ?_
  rcases g_ite hP with ⟨hc, hP⟩ | ⟨hc, hP⟩
  · refine hG.1 _ (144, [some (.ref 94), some (.int l1), some (.int l2), some (.int l3), some (.int l4), none, none], [], (gSh, σ, u)) _ rfl (if_pos hc) ?_
    refine hG.2.2.2.2.1 _ _ [some (.ref 94), none, some (.int l2), some (.int l3), none, none, none] _ _ ⟨rfl, ⟨rfl, ⟨rfl, trivial⟩⟩⟩ ?_
    cases hP
    exact K2 _ rfl
  · refine hG.1 _ (18, [some (.ref 94), some (.int l1), some (.int l2), some (.int l3), some (.int l4), none, none], [], (gSh, σ, u)) _ rfl (if_neg hc) ?_
    refine gRunN_ok hG.1 9 _ (31, [some (.ref 94), some (.int l1), some (.int l2), some (.int l3), some (.int l4), none, none], [.int 6, .int ((l2 + (18 : Int32)) + ((6 : Int32) * l4)), .ref 94], (gSh, σ, u)) rfl ?_
    obtain ⟨v2, hq, hP⟩ := g_b1 hP
    refine hG.2.2.2.1 _ _ _ [.ref 94, .int ((l2 + (18 : Int32)) + ((6 : Int32) * l4)), .int 6] [] _ (gSh, σ, u) (some (.int v2)) _ _ _ _ _ _ rfl rfl rfl rfl rfl rfl (c_Model_bitsAt E (d + 1) u ((l2 + (18 : Int32)) + ((6 : Int32) * l4)) 6 _  hq) (Nat.le_refl _) (Nat.le_refl _) (Nat.le_refl _) (Nat.le_refl _) ?_
    show G (34, [some (.ref 94), some (.int l1), some (.int l2), some (.int l3), some (.int l4), none, none], [.int v2], (gSh, σ, u))
    refine gRunN_ok hG.1 3 _ (38, [some (.ref 94), some (.int l1), some (.int l2), some (.int l3), some (.int l4), some (.int (v2 - (1 : Int32))), none], [], (gSh, σ, u)) rfl ?_
    obtain ⟨x4, ex4, hP⟩ := g_let hP
    rw [← ex4]
    refine gRunN_ok hG.1 1 _ (40, [some (.ref 94), some (.int l1), some (.int l2), some (.int l3), some (.int l4), some (.int x4), none], [.int x4], (gSh, σ, u)) rfl ?_
    rcases g_ite hP with ⟨hc, hP⟩ | ⟨hc, hP⟩
    · refine hG.1 _ (119, [some (.ref 94), some (.int l1), some (.int l2), some (.int l3), some (.int l4), some (.int x4), none], [], (gSh, σ, u)) _ rfl (if_pos hc) ?_
      refine hG.2.2.2.2.1 _ _ [some (.ref 94), some (.int l1), some (.int l2), some (.int l3), some (.int l4), none, none] _ _ ⟨rfl, ⟨rfl, ⟨rfl, ⟨rfl, ⟨rfl, trivial⟩⟩⟩⟩⟩ ?_
      exact j_Model_lutOf_j119_12 E d u hG l1 l2 l3 l4 σ hP K1 K2
    · refine hG.1 _ (43, [some (.ref 94), some (.int l1), some (.int l2), some (.int l3), some (.int l4), some (.int x4), none], [], (gSh, σ, u)) _ rfl (if_neg hc) ?_
      refine gRunN_ok hG.1 5 _ (51, [some (.ref 94), some (.int l1), some (.int l2), some (.int l3), some (.int l4), some (.int x4), none], [.int ((4 : Int32) * (σ.1 94 3)), .int x4], (gSh, σ, u)) rfl ?_
      rcases g_ite hP with ⟨hc, hP⟩ | ⟨hc, hP⟩
      · refine hG.1 _ (119, [some (.ref 94), some (.int l1), some (.int l2), some (.int l3), some (.int l4), some (.int x4), none], [], (gSh, σ, u)) _ rfl (if_pos hc) ?_
        refine hG.2.2.2.2.1 _ _ [some (.ref 94), some (.int l1), some (.int l2), some (.int l3), some (.int l4), none, none] _ _ ⟨rfl, ⟨rfl, ⟨rfl, ⟨rfl, ⟨rfl, trivial⟩⟩⟩⟩⟩ ?_
        exact j_Model_lutOf_j119_12 E d u hG l1 l2 l3 l4 σ hP K1 K2
      · refine hG.1 _ (54, [some (.ref 94), some (.int l1), some (.int l2), some (.int l3), some (.int l4), some (.int x4), none], [], (gSh, σ, u)) _ rfl (if_neg hc) ?_
        refine gRunN_ok hG.1 6 _ (64, [some (.ref 94), some (.int l1), some (.int l2), some (.int l3), some (.int l4), some (.int x4), none], [.int (σ.1 94 2), .int l1, .ref 94, .ref 159], (gSh, σ, u)) rfl ?_
        obtain ⟨hc, hP⟩ := g_if hP
        refine hG.1 _ (65, [some (.ref 94), some (.int l1), some (.int l2), some (.int l3), some (.int l4), some (.int x4), none], [.int (l1 / (σ.1 94 2)), .ref 94, .ref 159], (gSh, σ, u)) _ rfl (if_pos hc) ?_
        refine gRunN_ok hG.1 1 _ (67, [some (.ref 94), some (.int l1), some (.int l2), some (.int l3), some (.int l4), some (.int x4), none], [.int x4, .int (l1 / (σ.1 94 2)), .ref 94, .ref 159], (gSh, σ, u)) rfl ?_
        rcases g_ite hP with ⟨hc, hP⟩ | ⟨hc, hP⟩
        · refine hG.1 _ (81, [some (.ref 94), some (.int l1), some (.int l2), some (.int l3), some (.int l4), some (.int x4), none], [.int (l1 / (σ.1 94 2)), .ref 94, .ref 159], (gSh, σ, u)) _ rfl (if_pos hc) ?_
          exact j_Model_lutOf_j81_12 E d u hG l1 l2 l3 l4 x4 (l1 / (σ.1 94 2)) σ hP K1 K2
        · refine hG.1 _ (70, [some (.ref 94), some (.int l1), some (.int l2), some (.int l3), some (.int l4), some (.int x4), none], [.int (l1 / (σ.1 94 2)), .ref 94, .ref 159], (gSh, σ, u)) _ rfl (if_neg hc) ?_
          refine gRunN_ok hG.1 5 _ (78, [some (.ref 94), some (.int l1), some (.int l2), some (.int l3), some (.int l4), some (.int x4), none], [.int ((4 : Int32) * (σ.1 94 3)), .int x4, .int (l1 / (σ.1 94 2)), .ref 94, .ref 159], (gSh, σ, u)) rfl ?_
          rcases g_ite hP with ⟨hc, hP⟩ | ⟨hc, hP⟩
          · refine hG.1 _ (85, [some (.ref 94), some (.int l1), some (.int l2), some (.int l3), some (.int l4), some (.int x4), none], [.int (l1 / (σ.1 94 2)), .ref 94, .ref 159], (gSh, σ, u)) _ rfl (if_pos hc) ?_
            refine gRunN_ok hG.1 3 _ (91, [some (.ref 94), some (.int l1), some (.int l2), some (.int l3), some (.int l4), some (.int x4), none], [.int (σ.1 94 3), .int x4, .int (l1 / (σ.1 94 2)), .ref 94, .ref 159], (gSh, σ, u)) rfl ?_
            obtain ⟨hc, hP⟩ := g_if hP
            refine hG.1 _ (92, [some (.ref 94), some (.int l1), some (.int l2), some (.int l3), some (.int l4), some (.int x4), none], [.int (x4 / (σ.1 94 3)), .int (l1 / (σ.1 94 2)), .ref 94, .ref 159], (gSh, σ, u)) _ rfl (if_pos hc) ?_
            exact j_Model_lutOf_j92_12 E d u hG l1 l2 l3 l4 x4 (l1 / (σ.1 94 2)) (x4 / (σ.1 94 3)) σ hP K1 K2
          · refine hG.1 _ (81, [some (.ref 94), some (.int l1), some (.int l2), some (.int l3), some (.int l4), some (.int x4), none], [.int (l1 / (σ.1 94 2)), .ref 94, .ref 159], (gSh, σ, u)) _ rfl (if_neg hc) ?_
            exact j_Model_lutOf_j81_12 E d u hG l1 l2 l3 l4 x4 (l1 / (σ.1 94 2)) σ hP K1 K2
theorem l_Model_lutOf_12 (E : gEv) (d u : Nat) {G : gFr → Prop} {vo : Option Value} {sr : gS} (hG : gClo E gDf gP18 gY270 (some .boolean) (gC E gDf gMs (d + 2)) (vo, (gSh, sr, u)) G) (l1 : Int32) (l2 : Int32) (σ : gS) : ∀ (n : Nat) (l3 : Int32) (l4 : Int32) (e : (Int32)), gIter (fun z => p_Model_lutOf_12 E l1 l2 z.1 z.2 σ) n (l3, l4) = some e → (∀ (m3 : Int32), e = m3 → G (144, [some (.ref 94), none, some (.int l2), some (.int m3), none, none, none], [], (gSh, σ, u))) → G (12, [some (.ref 94), some (.int l1), some (.int l2), some (.int l3), some (.int l4), none, none], [], (gSh, σ, u)) := by
  intro n
  induction n with
  | zero => intro l3 l4 e h; cases h
  | succ n ih =>
    intro l3 l4 e h K2
    rcases g_iter h with ⟨z, h1, h2⟩ | h1
    · exact b_Model_lutOf_12 E d u hG l1 l2 l3 l4 σ h1 (fun n0 n1 hz => by cases hz; exact ih _ _ e h2 K2) (fun _ hz => by cases hz)
    · exact b_Model_lutOf_12 E d u hG l1 l2 l3 l4 σ h1 (fun _ _ hz => by cases hz) (fun m3 hz => K2 m3 (by cases hz; rfl))
def p_Model_lutOf (E : gEv) (a0 : Int32) (σ : gS) : Option (Int32) :=
  gLet (a0 * (σ.1 94 9)) fun x1 => gB1 (gIter (fun z => p_Model_lutOf_12 E a0 x1 z.1 z.2 σ) gN (0, 0)) fun e11 => (fun w12 => if gIn (x1 + w12) (σ.2.1 154) then if (σ.1 154 (x1 + w12).toNatClampNeg) = 0 ∨ (σ.1 154 (x1 + w12).toNatClampNeg) = 1 then some (σ.1 154 (x1 + w12).toNatClampNeg) else none else none) e11
set_option maxRecDepth 20000 in
theorem c_Model_lutOf (E : gEv) (d u : Nat) (a0 : Int32) (σ : gS) {v : Int32}  (hq : p_Model_lutOf E a0 σ = some v) : gC E gDf gMs (d + 3) 270 [.ref 94, .int a0] (gSh, σ, u) (some (.int v), (gSh, σ, u)) := ⟨gM270, rfl, Nat.le_of_ble_eq_true rfl, fun G hG => by
  have hP := hq
  unfold p_Model_lutOf at hP
  replace hG : gClo E gDf gP18 gY270 (some .boolean) (gC E gDf gMs (d + 2)) (some (.int v), (gSh, σ, u)) G := hG
  show G (0, [some (.ref 94), some (.int a0), none, none, none, none, none], [], (gSh, σ, u))
  refine gRunN_ok hG.1 5 _ (7, [some (.ref 94), some (.int a0), some (.int (a0 * (σ.1 94 9))), none, none, none, none], [], (gSh, σ, u)) rfl ?_
  obtain ⟨x1, ex1, hP⟩ := g_let hP
  rw [← ex1]
  refine gRunN_ok hG.1 4 _ (12, [some (.ref 94), some (.int a0), some (.int x1), some (.int 0), some (.int 0), none, none], [], (gSh, σ, u)) rfl ?_
  obtain ⟨e11, hq, hP⟩ := g_b1 hP
  refine l_Model_lutOf_12 E d u hG a0 x1 σ gN 0 0 _ hq (fun w12 he => ?_)
  · replace he := he.symm
    subst he
    try dsimp only [gSum] at hP
    refine gRunN_ok hG.1 5 _ (151, [some (.ref 94), none, some (.int x1), some (.int w12), none, none, none], [.int (x1 + w12), .ref 154], (gSh, σ, u)) rfl ?_
    obtain ⟨hc, hP⟩ := g_if hP
    refine hG.1 _ (152, [some (.ref 94), none, some (.int x1), some (.int w12), none, none, none], [.int (σ.1 154 (x1 + w12).toNatClampNeg)], (gSh, σ, u)) _ rfl (if_pos hc) ?_
    obtain ⟨hc, hP⟩ := g_if hP
    cases hP
    exact hG.2.1 _ _ rfl (if_pos hc)⟩
def p_Model_clock_33 (E : gEv) (l1 : Int32) (l2 : Int32) (l3 : Int32) (σ : gS) : Option ((Int32 × gS) ⊕ (gS)) :=
  if (σ.1 94 31) ≤ l3 then (some (.inr σ)) else (if gIn l3 (σ.2.1 106) then gB1 (p_Model_levelOf E (σ.1 106 l3.toNatClampNeg) σ) fun v3 => if gIn l3 (σ.2.1 162) then gLet (gPut σ 162 l3.toNatClampNeg (vp_nar .boolean v3)) fun s5 => gLet (l3 + 1) fun x6 => some (.inl (x6, s5)) else none else none)
set_option maxRecDepth 20000 in
theorem b_Model_clock_33 (E : gEv) (d u : Nat) {G : gFr → Prop} {vo : Option Value} {sr : gS} (hG : gClo E gDf gP18 gY273 (some .boolean) (gC E gDf gMs (d + 2)) (vo, (gSh, sr, u)) G) (l1 : Int32) (l2 : Int32) (l3 : Int32) (σ : gS) {r : (Int32 × gS) ⊕ (gS)} (hP : p_Model_clock_33 E l1 l2 l3 σ = some r) (K1 : ∀ (m3 : Int32) (σ1 : gS), r = .inl (m3, σ1) → G (33, [some (.ref 94), some (.int l1), some (.int l2), some (.int m3)], [], (gSh, σ1, u))) (K2 : ∀ (σ1 : gS), r = .inr σ1 → G (63, [some (.ref 94), some (.int l1), some (.int l2), none], [], (gSh, σ1, u))) : G (33, [some (.ref 94), some (.int l1), some (.int l2), some (.int l3)], [], (gSh, σ, u)) := by
  unfold p_Model_clock_33 at hP
  refine gRunN_ok hG.1 3 _ (38, [some (.ref 94), some (.int l1), some (.int l2), some (.int l3)], [.int (σ.1 94 31), .int l3], (gSh, σ, u)) rfl ?_
  rcases g_ite hP with ⟨hc, hP⟩ | ⟨hc, hP⟩
  · refine hG.1 _ (63, [some (.ref 94), some (.int l1), some (.int l2), some (.int l3)], [], (gSh, σ, u)) _ rfl (if_pos hc) ?_
    refine hG.2.2.2.2.1 _ _ [some (.ref 94), some (.int l1), some (.int l2), none] _ _ ⟨rfl, ⟨rfl, ⟨rfl, trivial⟩⟩⟩ ?_
    cases hP
    exact K2 _ rfl
  · refine hG.1 _ (41, [some (.ref 94), some (.int l1), some (.int l2), some (.int l3)], [], (gSh, σ, u)) _ rfl (if_neg hc) ?_
    refine gRunN_ok hG.1 7 _ (52, [some (.ref 94), some (.int l1), some (.int l2), some (.int l3)], [.int l3, .ref 106, .ref 94, .int l3, .ref 162], (gSh, σ, u)) rfl ?_
    obtain ⟨hc, hP⟩ := g_if hP
    refine hG.1 _ (53, [some (.ref 94), some (.int l1), some (.int l2), some (.int l3)], [.int (σ.1 106 l3.toNatClampNeg), .ref 94, .int l3, .ref 162], (gSh, σ, u)) _ rfl (if_pos hc) ?_
    obtain ⟨v3, hq, hP⟩ := g_b1 hP
    refine hG.2.2.2.1 _ _ _ [.ref 94, .int (σ.1 106 l3.toNatClampNeg)] [.int l3, .ref 162] _ (gSh, σ, u) (some (.int v3)) _ _ _ _ _ _ rfl rfl rfl rfl rfl rfl (c_Model_levelOf E (d + 1) u (σ.1 106 l3.toNatClampNeg) _  hq) (Nat.le_refl _) (Nat.le_refl _) (Nat.le_refl _) (Nat.le_refl _) ?_
    show G (56, [some (.ref 94), some (.int l1), some (.int l2), some (.int l3)], [.int v3, .int l3, .ref 162], (gSh, σ, u))
    obtain ⟨hc, hP⟩ := g_if hP
    refine hG.1 _ (57, [some (.ref 94), some (.int l1), some (.int l2), some (.int l3)], [], (gSh, (gPut σ 162 l3.toNatClampNeg (vp_nar .boolean v3)), u)) _ rfl (if_pos hc) ?_
    obtain ⟨s5, es5, hP⟩ := g_let hP
    rw [← es5]
    refine gRunN_ok hG.1 1 _ (60, [some (.ref 94), some (.int l1), some (.int l2), some (.int (l3 + 1))], [], (gSh, s5, u)) rfl ?_
    obtain ⟨x6, ex6, hP⟩ := g_let hP
    rw [← ex6]
    refine gRunN_ok hG.1 1 _ (33, [some (.ref 94), some (.int l1), some (.int l2), some (.int x6)], [], (gSh, s5, u)) rfl ?_
    cases hP
    exact K1 _ _ rfl
theorem l_Model_clock_33 (E : gEv) (d u : Nat) {G : gFr → Prop} {vo : Option Value} {sr : gS} (hG : gClo E gDf gP18 gY273 (some .boolean) (gC E gDf gMs (d + 2)) (vo, (gSh, sr, u)) G) (l1 : Int32) (l2 : Int32) : ∀ (n : Nat) (l3 : Int32) (σ : gS) (e : (gS)), gIter (fun z => p_Model_clock_33 E l1 l2 z.1 z.2) n (l3, σ) = some e → (∀ (σ1 : gS), e = σ1 → G (63, [some (.ref 94), some (.int l1), some (.int l2), none], [], (gSh, σ1, u))) → G (33, [some (.ref 94), some (.int l1), some (.int l2), some (.int l3)], [], (gSh, σ, u)) := by
  intro n
  induction n with
  | zero => intro l3 σ e h; cases h
  | succ n ih =>
    intro l3 σ e h K2
    rcases g_iter h with ⟨z, h1, h2⟩ | h1
    · exact b_Model_clock_33 E d u hG l1 l2 l3 σ h1 (fun n0 n1 hz => by cases hz; exact ih _ _ e h2 K2) (fun _ hz => by cases hz)
    · exact b_Model_clock_33 E d u hG l1 l2 l3 σ h1 (fun _ _ hz => by cases hz) (fun σ1 hz => K2 σ1 (by cases hz; rfl))
def p_Model_clock_65 (E : gEv) (l1 : Int32) (l2 : Int32) (l3 : Int32) (σ : gS) : Option ((Int32 × gS) ⊕ (gS)) :=
  if (σ.1 94 31) ≤ l3 then (some (.inr σ)) else (if gIn l3 (σ.2.1 162) then if gIn l3 (σ.2.1 161) then gLet (gPut σ 161 l3.toNatClampNeg (vp_nar .boolean (σ.1 162 l3.toNatClampNeg))) fun s9 => gLet (l3 + 1) fun x10 => some (.inl (x10, s9)) else none else none)
set_option maxRecDepth 20000 in
theorem b_Model_clock_65 (E : gEv) (d u : Nat) {G : gFr → Prop} {vo : Option Value} {sr : gS} (hG : gClo E gDf gP18 gY273 (some .boolean) (gC E gDf gMs (d + 2)) (vo, (gSh, sr, u)) G) (l1 : Int32) (l2 : Int32) (l3 : Int32) (σ : gS) {r : (Int32 × gS) ⊕ (gS)} (hP : p_Model_clock_65 E l1 l2 l3 σ = some r) (K1 : ∀ (m3 : Int32) (σ1 : gS), r = .inl (m3, σ1) → G (65, [some (.ref 94), some (.int l1), some (.int l2), some (.int m3)], [], (gSh, σ1, u))) (K2 : ∀ (σ1 : gS), r = .inr σ1 → G (91, [some (.ref 94), some (.int l1), some (.int l2), none], [], (gSh, σ1, u))) : G (65, [some (.ref 94), some (.int l1), some (.int l2), some (.int l3)], [], (gSh, σ, u)) := by
  unfold p_Model_clock_65 at hP
  refine gRunN_ok hG.1 3 _ (70, [some (.ref 94), some (.int l1), some (.int l2), some (.int l3)], [.int (σ.1 94 31), .int l3], (gSh, σ, u)) rfl ?_
  rcases g_ite hP with ⟨hc, hP⟩ | ⟨hc, hP⟩
  · refine hG.1 _ (91, [some (.ref 94), some (.int l1), some (.int l2), some (.int l3)], [], (gSh, σ, u)) _ rfl (if_pos hc) ?_
    refine hG.2.2.2.2.1 _ _ [some (.ref 94), some (.int l1), some (.int l2), none] _ _ ⟨rfl, ⟨rfl, ⟨rfl, trivial⟩⟩⟩ ?_
    cases hP
    exact K2 _ rfl
  · refine hG.1 _ (73, [some (.ref 94), some (.int l1), some (.int l2), some (.int l3)], [], (gSh, σ, u)) _ rfl (if_neg hc) ?_
    refine gRunN_ok hG.1 6 _ (83, [some (.ref 94), some (.int l1), some (.int l2), some (.int l3)], [.int l3, .ref 162, .int l3, .ref 161], (gSh, σ, u)) rfl ?_
    obtain ⟨hc, hP⟩ := g_if hP
    refine hG.1 _ (84, [some (.ref 94), some (.int l1), some (.int l2), some (.int l3)], [.int (σ.1 162 l3.toNatClampNeg), .int l3, .ref 161], (gSh, σ, u)) _ rfl (if_pos hc) ?_
    obtain ⟨hc, hP⟩ := g_if hP
    refine hG.1 _ (85, [some (.ref 94), some (.int l1), some (.int l2), some (.int l3)], [], (gSh, (gPut σ 161 l3.toNatClampNeg (vp_nar .boolean (σ.1 162 l3.toNatClampNeg))), u)) _ rfl (if_pos hc) ?_
    obtain ⟨s9, es9, hP⟩ := g_let hP
    rw [← es9]
    refine gRunN_ok hG.1 1 _ (88, [some (.ref 94), some (.int l1), some (.int l2), some (.int (l3 + 1))], [], (gSh, s9, u)) rfl ?_
    obtain ⟨x10, ex10, hP⟩ := g_let hP
    rw [← ex10]
    refine gRunN_ok hG.1 1 _ (65, [some (.ref 94), some (.int l1), some (.int l2), some (.int x10)], [], (gSh, s9, u)) rfl ?_
    cases hP
    exact K1 _ _ rfl
theorem l_Model_clock_65 (E : gEv) (d u : Nat) {G : gFr → Prop} {vo : Option Value} {sr : gS} (hG : gClo E gDf gP18 gY273 (some .boolean) (gC E gDf gMs (d + 2)) (vo, (gSh, sr, u)) G) (l1 : Int32) (l2 : Int32) : ∀ (n : Nat) (l3 : Int32) (σ : gS) (e : (gS)), gIter (fun z => p_Model_clock_65 E l1 l2 z.1 z.2) n (l3, σ) = some e → (∀ (σ1 : gS), e = σ1 → G (91, [some (.ref 94), some (.int l1), some (.int l2), none], [], (gSh, σ1, u))) → G (65, [some (.ref 94), some (.int l1), some (.int l2), some (.int l3)], [], (gSh, σ, u)) := by
  intro n
  induction n with
  | zero => intro l3 σ e h; cases h
  | succ n ih =>
    intro l3 σ e h K2
    rcases g_iter h with ⟨z, h1, h2⟩ | h1
    · exact b_Model_clock_65 E d u hG l1 l2 l3 σ h1 (fun n0 n1 hz => by cases hz; exact ih _ _ e h2 K2) (fun _ hz => by cases hz)
    · exact b_Model_clock_65 E d u hG l1 l2 l3 σ h1 (fun _ _ hz => by cases hz) (fun σ1 hz => K2 σ1 (by cases hz; rfl))
def p_Model_clock_22 (E : gEv) (l1 : Int32) (l2 : Int32) (σ : gS) : Option ((Int32 × gS) ⊕ (gS)) :=
  if l1 ≤ l2 then (some (.inr σ)) else (gB1 (p_Model_mean E σ) fun s2 => gB1 (gIter (fun z => p_Model_clock_33 E l1 l2 z.1 z.2) gN (0, s2)) fun e7 => (fun s8 => gB1 (gIter (fun z => p_Model_clock_65 E l1 l2 z.1 z.2) gN (0, s8)) fun e11 => (fun s12 => gLet (gPut s12 94 105 ((s12.1 94 105) + (1 : Int32))) fun s13 => gLet (l2 + 1) fun x14 => some (.inl (x14, s13))) e11) e7)
set_option maxRecDepth 20000 in
theorem b_Model_clock_22 (E : gEv) (d u : Nat) {G : gFr → Prop} {vo : Option Value} {sr : gS} (hG : gClo E gDf gP18 gY273 (some .boolean) (gC E gDf gMs (d + 2)) (vo, (gSh, sr, u)) G) (l1 : Int32) (l2 : Int32) (σ : gS) {r : (Int32 × gS) ⊕ (gS)} (hP : p_Model_clock_22 E l1 l2 σ = some r) (K1 : ∀ (m2 : Int32) (σ1 : gS), r = .inl (m2, σ1) → G (22, [some (.ref 94), some (.int l1), some (.int m2), none], [], (gSh, σ1, u))) (K2 : ∀ (σ1 : gS), r = .inr σ1 → G (107, [none, none, none, none], [], (gSh, σ1, u))) : G (22, [some (.ref 94), some (.int l1), some (.int l2), none], [], (gSh, σ, u)) := by
  unfold p_Model_clock_22 at hP
  refine gRunN_ok hG.1 2 _ (24, [some (.ref 94), some (.int l1), some (.int l2), none], [.int l1, .int l2], (gSh, σ, u)) rfl ?_
  rcases g_ite hP with ⟨hc, hP⟩ | ⟨hc, hP⟩
  · refine hG.1 _ (107, [some (.ref 94), some (.int l1), some (.int l2), none], [], (gSh, σ, u)) _ rfl (if_pos hc) ?_
    refine hG.2.2.2.2.1 _ _ [none, none, none, none] _ _ trivial ?_
    cases hP
    exact K2 _ rfl
  · refine hG.1 _ (27, [some (.ref 94), some (.int l1), some (.int l2), none], [], (gSh, σ, u)) _ rfl (if_neg hc) ?_
    refine gRunN_ok hG.1 1 _ (28, [some (.ref 94), some (.int l1), some (.int l2), none], [.ref 94], (gSh, σ, u)) rfl ?_
    obtain ⟨s2, hq, hP⟩ := g_b1 hP
    refine hG.2.2.2.1 _ _ _ [.ref 94] [] _ (gSh, s2, u) none _ _ _ _ _ _ rfl rfl rfl rfl rfl rfl (c_Model_mean E (d + 0) u _  hq) (Nat.le_refl _) (Nat.le_refl _) (Nat.le_refl _) (Nat.le_refl _) ?_
    show G (31, [some (.ref 94), some (.int l1), some (.int l2), none], [], (gSh, s2, u))
    refine gRunN_ok hG.1 2 _ (33, [some (.ref 94), some (.int l1), some (.int l2), some (.int 0)], [], (gSh, s2, u)) rfl ?_
    obtain ⟨e7, hq, hP⟩ := g_b1 hP
    refine l_Model_clock_33 E d u hG l1 l2 gN 0 s2 _ hq (fun s8 he => ?_)
    · replace he := he.symm
      subst he
      try dsimp only [gSum] at hP
      refine gRunN_ok hG.1 2 _ (65, [some (.ref 94), some (.int l1), some (.int l2), some (.int 0)], [], (gSh, s8, u)) rfl ?_
      obtain ⟨e11, hq, hP⟩ := g_b1 hP
      refine l_Model_clock_65 E d u hG l1 l2 gN 0 s8 _ hq (fun s12 he => ?_)
      · replace he := he.symm
        subst he
        try dsimp only [gSum] at hP
        refine gRunN_ok hG.1 6 _ (101, [some (.ref 94), some (.int l1), some (.int l2), none], [], (gSh, (gPut s12 94 105 ((s12.1 94 105) + (1 : Int32))), u)) rfl ?_
        obtain ⟨s13, es13, hP⟩ := g_let hP
        rw [← es13]
        refine gRunN_ok hG.1 1 _ (104, [some (.ref 94), some (.int l1), some (.int (l2 + 1)), none], [], (gSh, s13, u)) rfl ?_
        obtain ⟨x14, ex14, hP⟩ := g_let hP
        rw [← ex14]
        refine gRunN_ok hG.1 1 _ (22, [some (.ref 94), some (.int l1), some (.int x14), none], [], (gSh, s13, u)) rfl ?_
        cases hP
        exact K1 _ _ rfl
theorem l_Model_clock_22 (E : gEv) (d u : Nat) {G : gFr → Prop} {vo : Option Value} {sr : gS} (hG : gClo E gDf gP18 gY273 (some .boolean) (gC E gDf gMs (d + 2)) (vo, (gSh, sr, u)) G) (l1 : Int32) : ∀ (n : Nat) (l2 : Int32) (σ : gS) (e : (gS)), gIter (fun z => p_Model_clock_22 E l1 z.1 z.2) n (l2, σ) = some e → (∀ (σ1 : gS), e = σ1 → G (107, [none, none, none, none], [], (gSh, σ1, u))) → G (22, [some (.ref 94), some (.int l1), some (.int l2), none], [], (gSh, σ, u)) := by
  intro n
  induction n with
  | zero => intro l2 σ e h; cases h
  | succ n ih =>
    intro l2 σ e h K2
    rcases g_iter h with ⟨z, h1, h2⟩ | h1
    · exact b_Model_clock_22 E d u hG l1 l2 σ h1 (fun n0 n1 hz => by cases hz; exact ih _ _ e h2 K2) (fun _ hz => by cases hz)
    · exact b_Model_clock_22 E d u hG l1 l2 σ h1 (fun _ _ hz => by cases hz) (fun σ1 hz => K2 σ1 (by cases hz; rfl))
def p_Model_clock (E : gEv) (a0 : Int32) (σ : gS) : Option (Int32 × gS) :=
  if (σ.1 94 106) = 0 then (some (0, σ)) else (if a0 < 0 then (some (0, σ)) else (if a0 ≤ (1000 : Int32) then (gB1 (gIter (fun z => p_Model_clock_22 E a0 z.1 z.2) gN (0, σ)) fun e15 => (fun s16 => some (1, s16)) e15) else (some (0, σ))))
set_option maxRecDepth 20000 in
theorem c_Model_clock (E : gEv) (d u : Nat) (a0 : Int32) (σ : gS) {v : Int32} {sr : gS}  (hq : p_Model_clock E a0 σ = some (v, sr)) : gC E gDf gMs (d + 3) 273 [.ref 94, .int a0] (gSh, σ, u) (some (.int v), (gSh, sr, u)) := ⟨gM273, rfl, Nat.le_of_ble_eq_true rfl, fun G hG => by
  have hP := hq
  unfold p_Model_clock at hP
  replace hG : gClo E gDf gP18 gY273 (some .boolean) (gC E gDf gMs (d + 2)) (some (.int v), (gSh, sr, u)) G := hG
  show G (0, [some (.ref 94), some (.int a0), none, none], [], (gSh, σ, u))
  refine gRunN_ok hG.1 2 _ (4, [some (.ref 94), some (.int a0), none, none], [.int (σ.1 94 106)], (gSh, σ, u)) rfl ?_
  rcases g_ite hP with ⟨hc, hP⟩ | ⟨hc, hP⟩
  · refine hG.1 _ (18, [some (.ref 94), some (.int a0), none, none], [], (gSh, σ, u)) _ rfl (if_pos hc) ?_
    refine gRunN_ok hG.1 1 _ (19, [some (.ref 94), some (.int a0), none, none], [.int 0], (gSh, σ, u)) rfl ?_
    cases hP
    exact hG.2.1 _ _ rfl rfl
  · refine hG.1 _ (7, [some (.ref 94), some (.int a0), none, none], [], (gSh, σ, u)) _ rfl (if_neg hc) ?_
    refine gRunN_ok hG.1 1 _ (8, [some (.ref 94), some (.int a0), none, none], [.int a0], (gSh, σ, u)) rfl ?_
    rcases g_ite hP with ⟨hc, hP⟩ | ⟨hc, hP⟩
    · refine hG.1 _ (18, [some (.ref 94), some (.int a0), none, none], [], (gSh, σ, u)) _ rfl (if_pos hc) ?_
      refine gRunN_ok hG.1 1 _ (19, [some (.ref 94), some (.int a0), none, none], [.int 0], (gSh, σ, u)) rfl ?_
      cases hP
      exact hG.2.1 _ _ rfl rfl
    · refine hG.1 _ (11, [some (.ref 94), some (.int a0), none, none], [], (gSh, σ, u)) _ rfl (if_neg hc) ?_
      refine gRunN_ok hG.1 2 _ (15, [some (.ref 94), some (.int a0), none, none], [.int 1000, .int a0], (gSh, σ, u)) rfl ?_
      rcases g_ite hP with ⟨hc, hP⟩ | ⟨hc, hP⟩
      · refine hG.1 _ (20, [some (.ref 94), some (.int a0), none, none], [], (gSh, σ, u)) _ rfl (if_pos hc) ?_
        refine gRunN_ok hG.1 2 _ (22, [some (.ref 94), some (.int a0), some (.int 0), none], [], (gSh, σ, u)) rfl ?_
        obtain ⟨e15, hq, hP⟩ := g_b1 hP
        refine l_Model_clock_22 E d u hG a0 gN 0 σ _ hq (fun s16 he => ?_)
        · replace he := he.symm
          subst he
          try dsimp only [gSum] at hP
          refine gRunN_ok hG.1 1 _ (108, [none, none, none, none], [.int 1], (gSh, s16, u)) rfl ?_
          cases hP
          exact hG.2.1 _ _ rfl rfl
      · refine hG.1 _ (18, [some (.ref 94), some (.int a0), none, none], [], (gSh, σ, u)) _ rfl (if_neg hc) ?_
        refine gRunN_ok hG.1 1 _ (19, [some (.ref 94), some (.int a0), none, none], [.int 0], (gSh, σ, u)) rfl ?_
        cases hP
        exact hG.2.1 _ _ rfl rfl⟩
def p_Model_out (E : gEv) (a0 : Int32) (σ : gS) : Option (Int32 × gS) :=
  if (σ.1 94 106) = 0 then (some ((-1), σ)) else (if a0 < 0 then (some ((-1), σ)) else (if a0 < (σ.1 94 30) then (gB1 (p_Model_mean E σ) fun s2 => if gIn a0 (s2.2.1 105) then gB1 (p_Model_levelOf E (s2.1 105 a0.toNatClampNeg) s2) fun v3 => if v3 = 0 then (some (0, s2)) else (some (1, s2)) else none) else (some ((-1), σ))))
set_option maxRecDepth 20000 in
theorem c_Model_out (E : gEv) (d u : Nat) (a0 : Int32) (σ : gS) {v : Int32} {sr : gS}  (hq : p_Model_out E a0 σ = some (v, sr)) : gC E gDf gMs (d + 3) 278 [.ref 94, .int a0] (gSh, σ, u) (some (.int v), (gSh, sr, u)) := ⟨gM278, rfl, Nat.le_of_ble_eq_true rfl, fun G hG => by
  have hP := hq
  unfold p_Model_out at hP
  replace hG : gClo E gDf gP18 gY278 (some .int) (gC E gDf gMs (d + 2)) (some (.int v), (gSh, sr, u)) G := hG
  show G (0, [some (.ref 94), some (.int a0)], [], (gSh, σ, u))
  refine gRunN_ok hG.1 2 _ (4, [some (.ref 94), some (.int a0)], [.int (σ.1 94 106)], (gSh, σ, u)) rfl ?_
  rcases g_ite hP with ⟨hc, hP⟩ | ⟨hc, hP⟩
  · refine hG.1 _ (19, [some (.ref 94), some (.int a0)], [], (gSh, σ, u)) _ rfl (if_pos hc) ?_
    refine gRunN_ok hG.1 1 _ (20, [some (.ref 94), some (.int a0)], [.int (-1)], (gSh, σ, u)) rfl ?_
    cases hP
    exact hG.2.1 _ _ rfl rfl
  · refine hG.1 _ (7, [some (.ref 94), some (.int a0)], [], (gSh, σ, u)) _ rfl (if_neg hc) ?_
    refine gRunN_ok hG.1 1 _ (8, [some (.ref 94), some (.int a0)], [.int a0], (gSh, σ, u)) rfl ?_
    rcases g_ite hP with ⟨hc, hP⟩ | ⟨hc, hP⟩
    · refine hG.1 _ (19, [some (.ref 94), some (.int a0)], [], (gSh, σ, u)) _ rfl (if_pos hc) ?_
      refine gRunN_ok hG.1 1 _ (20, [some (.ref 94), some (.int a0)], [.int (-1)], (gSh, σ, u)) rfl ?_
      cases hP
      exact hG.2.1 _ _ rfl rfl
    · refine hG.1 _ (11, [some (.ref 94), some (.int a0)], [], (gSh, σ, u)) _ rfl (if_neg hc) ?_
      refine gRunN_ok hG.1 3 _ (16, [some (.ref 94), some (.int a0)], [.int (σ.1 94 30), .int a0], (gSh, σ, u)) rfl ?_
      rcases g_ite hP with ⟨hc, hP⟩ | ⟨hc, hP⟩
      · refine hG.1 _ (21, [some (.ref 94), some (.int a0)], [], (gSh, σ, u)) _ rfl (if_pos hc) ?_
        refine gRunN_ok hG.1 1 _ (22, [some (.ref 94), some (.int a0)], [.ref 94], (gSh, σ, u)) rfl ?_
        obtain ⟨s2, hq, hP⟩ := g_b1 hP
        refine hG.2.2.2.1 _ _ _ [.ref 94] [] _ (gSh, s2, u) none _ _ _ _ _ _ rfl rfl rfl rfl rfl rfl (c_Model_mean E (d + 0) u _  hq) (Nat.le_refl _) (Nat.le_refl _) (Nat.le_refl _) (Nat.le_refl _) ?_
        show G (25, [some (.ref 94), some (.int a0)], [], (gSh, s2, u))
        refine gRunN_ok hG.1 4 _ (31, [some (.ref 94), some (.int a0)], [.int a0, .ref 105, .ref 94], (gSh, s2, u)) rfl ?_
        obtain ⟨hc, hP⟩ := g_if hP
        refine hG.1 _ (32, [some (.ref 94), some (.int a0)], [.int (s2.1 105 a0.toNatClampNeg), .ref 94], (gSh, s2, u)) _ rfl (if_pos hc) ?_
        obtain ⟨v3, hq, hP⟩ := g_b1 hP
        refine hG.2.2.2.1 _ _ _ [.ref 94, .int (s2.1 105 a0.toNatClampNeg)] [] _ (gSh, s2, u) (some (.int v3)) _ _ _ _ _ _ rfl rfl rfl rfl rfl rfl (c_Model_levelOf E (d + 1) u (s2.1 105 a0.toNatClampNeg) _  hq) (Nat.le_refl _) (Nat.le_refl _) (Nat.le_refl _) (Nat.le_refl _) ?_
        show G (35, [some (.ref 94), some (.int a0)], [.int v3], (gSh, s2, u))
        rcases g_ite hP with ⟨hc, hP⟩ | ⟨hc, hP⟩
        · refine hG.1 _ (42, [some (.ref 94), some (.int a0)], [], (gSh, s2, u)) _ rfl (if_pos hc) ?_
          refine gRunN_ok hG.1 1 _ (43, [some (.ref 94), some (.int a0)], [.int 0], (gSh, s2, u)) rfl ?_
          cases hP
          exact hG.2.1 _ _ rfl rfl
        · refine hG.1 _ (38, [some (.ref 94), some (.int a0)], [], (gSh, s2, u)) _ rfl (if_neg hc) ?_
          refine gRunN_ok hG.1 2 _ (43, [some (.ref 94), some (.int a0)], [.int 1], (gSh, s2, u)) rfl ?_
          cases hP
          exact hG.2.1 _ _ rfl rfl
      · refine hG.1 _ (19, [some (.ref 94), some (.int a0)], [], (gSh, σ, u)) _ rfl (if_neg hc) ?_
        refine gRunN_ok hG.1 1 _ (20, [some (.ref 94), some (.int a0)], [.int (-1)], (gSh, σ, u)) rfl ?_
        cases hP
        exact hG.2.1 _ _ rfl rfl⟩
def p_Reader_readCover_j45 (E : gEv) (σ : gS) : Option (gS) :=
  gB1 (p_Reader_refuse E 1 (σ.1 10 5) σ) fun s2 => some s2
set_option maxRecDepth 20000 in
theorem j_Reader_readCover_j45 (E : gEv) (d u : Nat) {G : gFr → Prop} {sr : gS} (hG : gClo E gDf gP5 gY43 none (gC E gDf gMs (d + 3)) (none, (gSh, sr, u)) G) (σ : gS) (hP : p_Reader_readCover_j45 E σ = some sr) : G (45, [some (.ref 22), none, none, none], [], (gSh, σ, u)) := by
  unfold p_Reader_readCover_j45 at hP
  refine gRunN_ok hG.1 5 _ (54, [some (.ref 22), none, none, none], [.int (σ.1 10 5), .int 1, .ref 22], (gSh, σ, u)) rfl ?_
  obtain ⟨s2, hq, hP⟩ := g_b1 hP
  refine hG.2.2.2.1 _ _ _ [.ref 22, .int 1, .int (σ.1 10 5)] [] _ (gSh, s2, u) none _ _ _ _ _ _ rfl rfl rfl rfl rfl rfl (c_Reader_refuse E (d + 2) u 1 (σ.1 10 5) _  hq) (Nat.le_refl _) (Nat.le_refl _) (Nat.le_refl _) (Nat.le_refl _) ?_
  show G (57, [some (.ref 22), none, none, none], [], (gSh, s2, u))
  cases hP
  exact hG.2.1 _ _ rfl rfl
def p_Reader_readCover_j107 (E : gEv) (l1 : Int32) (l2 : Int32) (σ : gS) : Option (gS) :=
  gB1 (p_Text_digit E σ) fun v3 => if v3 = ((-1) : Int32) then (gB1 (p_Reader_refuse E 1 (σ.1 10 5) σ) fun s6 => some s6) else (gB2 (p_Gates_agree E (σ.1 22 16) v3 σ) fun v7 s8 => if v7 = 0 then (gB1 (p_Reader_refuse E 3 (s8.1 10 5) s8) fun s10 => some s10) else (gB1 (p_Gates_addLine E (s8.1 22 16) l2 l1 s8) fun s12 => gB1 (p_Reader_refuseMore E s12) fun s14 => some s14))
set_option maxRecDepth 20000 in
theorem j_Reader_readCover_j107 (E : gEv) (d u : Nat) {G : gFr → Prop} {sr : gS} (hG : gClo E gDf gP5 gY43 none (gC E gDf gMs (d + 3)) (none, (gSh, sr, u)) G) (l1 : Int32) (l2 : Int32) (σ : gS) (hP : p_Reader_readCover_j107 E l1 l2 σ = some sr) : G (107, [some (.ref 22), some (.int l1), some (.int l2), none], [], (gSh, σ, u)) := by
  unfold p_Reader_readCover_j107 at hP
  refine gRunN_ok hG.1 2 _ (111, [some (.ref 22), some (.int l1), some (.int l2), none], [.ref 10], (gSh, σ, u)) rfl ?_
  obtain ⟨v3, hq, hP⟩ := g_b1 hP
  refine hG.2.2.2.1 _ _ _ [.ref 10] [] _ (gSh, σ, u) (some (.int v3)) _ _ _ _ _ _ rfl rfl rfl rfl rfl rfl (c_Text_digit E (d + 2) u _  hq) (Nat.le_refl _) (Nat.le_refl _) (Nat.le_refl _) (Nat.le_refl _) ?_
  show G (114, [some (.ref 22), some (.int l1), some (.int l2), none], [.int v3], (gSh, σ, u))
  refine gRunN_ok hG.1 3 _ (117, [some (.ref 22), some (.int l1), some (.int l2), some (.int v3)], [.int (-1), .int v3], (gSh, σ, u)) rfl ?_
  rcases g_ite hP with ⟨hc, hP⟩ | ⟨hc, hP⟩
  · refine hG.1 _ (120, [some (.ref 22), some (.int l1), some (.int l2), some (.int v3)], [], (gSh, σ, u)) _ rfl (if_pos hc) ?_
    refine gRunN_ok hG.1 5 _ (129, [some (.ref 22), some (.int l1), some (.int l2), some (.int v3)], [.int (σ.1 10 5), .int 1, .ref 22], (gSh, σ, u)) rfl ?_
    obtain ⟨s6, hq, hP⟩ := g_b1 hP
    refine hG.2.2.2.1 _ _ _ [.ref 22, .int 1, .int (σ.1 10 5)] [] _ (gSh, s6, u) none _ _ _ _ _ _ rfl rfl rfl rfl rfl rfl (c_Reader_refuse E (d + 2) u 1 (σ.1 10 5) _  hq) (Nat.le_refl _) (Nat.le_refl _) (Nat.le_refl _) (Nat.le_refl _) ?_
    show G (132, [some (.ref 22), some (.int l1), some (.int l2), some (.int v3)], [], (gSh, s6, u))
    refine gRunN_ok hG.1 1 _ (182, [some (.ref 22), some (.int l1), some (.int l2), some (.int v3)], [], (gSh, s6, u)) rfl ?_
    cases hP
    exact hG.2.1 _ _ rfl rfl
  · refine hG.1 _ (135, [some (.ref 22), some (.int l1), some (.int l2), some (.int v3)], [], (gSh, σ, u)) _ rfl (if_neg hc) ?_
    refine gRunN_ok hG.1 5 _ (144, [some (.ref 22), some (.int l1), some (.int l2), some (.int v3)], [.int v3, .int (σ.1 22 16), .ref 13], (gSh, σ, u)) rfl ?_
    obtain ⟨v7, s8, hq, hP⟩ := g_b2 hP
    refine hG.2.2.2.1 _ _ _ [.ref 13, .int (σ.1 22 16), .int v3] [] _ (gSh, s8, u) (some (.int v7)) _ _ _ _ _ _ rfl rfl rfl rfl rfl rfl (c_Gates_agree E (d + 2) u (σ.1 22 16) v3 _  hq) (Nat.le_refl _) (Nat.le_refl _) (Nat.le_refl _) (Nat.le_refl _) ?_
    show G (147, [some (.ref 22), some (.int l1), some (.int l2), some (.int v3)], [.int v7], (gSh, s8, u))
    rcases g_ite hP with ⟨hc, hP⟩ | ⟨hc, hP⟩
    · refine hG.1 _ (150, [some (.ref 22), some (.int l1), some (.int l2), some (.int v3)], [], (gSh, s8, u)) _ rfl (if_pos hc) ?_
      refine gRunN_ok hG.1 5 _ (159, [some (.ref 22), some (.int l1), some (.int l2), some (.int v3)], [.int (s8.1 10 5), .int 3, .ref 22], (gSh, s8, u)) rfl ?_
      obtain ⟨s10, hq, hP⟩ := g_b1 hP
      refine hG.2.2.2.1 _ _ _ [.ref 22, .int 3, .int (s8.1 10 5)] [] _ (gSh, s10, u) none _ _ _ _ _ _ rfl rfl rfl rfl rfl rfl (c_Reader_refuse E (d + 2) u 3 (s8.1 10 5) _  hq) (Nat.le_refl _) (Nat.le_refl _) (Nat.le_refl _) (Nat.le_refl _) ?_
      show G (162, [some (.ref 22), some (.int l1), some (.int l2), some (.int v3)], [], (gSh, s10, u))
      refine gRunN_ok hG.1 1 _ (182, [some (.ref 22), some (.int l1), some (.int l2), some (.int v3)], [], (gSh, s10, u)) rfl ?_
      cases hP
      exact hG.2.1 _ _ rfl rfl
    · refine hG.1 _ (165, [some (.ref 22), some (.int l1), some (.int l2), some (.int v3)], [], (gSh, s8, u)) _ rfl (if_neg hc) ?_
      refine gRunN_ok hG.1 6 _ (175, [some (.ref 22), some (.int l1), some (.int l2), some (.int v3)], [.int l1, .int l2, .int (s8.1 22 16), .ref 13], (gSh, s8, u)) rfl ?_
      obtain ⟨s12, hq, hP⟩ := g_b1 hP
      refine hG.2.2.2.1 _ _ _ [.ref 13, .int (s8.1 22 16), .int l2, .int l1] [] _ (gSh, s12, u) none _ _ _ _ _ _ rfl rfl rfl rfl rfl rfl (c_Gates_addLine E (d + 2) u (s8.1 22 16) l2 l1 _  hq) (Nat.le_refl _) (Nat.le_refl _) (Nat.le_refl _) (Nat.le_refl _) ?_
      show G (178, [some (.ref 22), some (.int l1), some (.int l2), some (.int v3)], [], (gSh, s12, u))
      refine gRunN_ok hG.1 1 _ (179, [some (.ref 22), some (.int l1), some (.int l2), some (.int v3)], [.ref 22], (gSh, s12, u)) rfl ?_
      obtain ⟨s14, hq, hP⟩ := g_b1 hP
      refine hG.2.2.2.1 _ _ _ [.ref 22] [] _ (gSh, s14, u) none _ _ _ _ _ _ rfl rfl rfl rfl rfl rfl (c_Reader_refuseMore E (d + 0) u _  hq) (Nat.le_refl _) (Nat.le_refl _) (Nat.le_refl _) (Nat.le_refl _) ?_
      show G (182, [some (.ref 22), some (.int l1), some (.int l2), some (.int v3)], [], (gSh, s14, u))
      cases hP
      exact hG.2.1 _ _ rfl rfl
def p_Reader_readCover_j58 (E : gEv) (σ : gS) : Option (gS) :=
  if gIn (σ.1 22 16) (σ.2.1 15) then if (σ.1 15 (σ.1 22 16).toNatClampNeg) ≤ 0 then (p_Reader_readCover_j107 E 0 0 σ) else (gB1 (p_Text_maskOf E 49 σ) fun v15 => gB1 (p_Text_maskOf E 48 σ) fun v17 => gLet (v15 ||| v17) fun x19 => gB2 (p_Text_nextWord E σ) fun v20 s21 => p_Reader_readCover_j107 E v15 x19 s21) else none
set_option maxRecDepth 20000 in
theorem j_Reader_readCover_j58 (E : gEv) (d u : Nat) {G : gFr → Prop} {sr : gS} (hG : gClo E gDf gP5 gY43 none (gC E gDf gMs (d + 3)) (none, (gSh, sr, u)) G) (σ : gS) (hP : p_Reader_readCover_j58 E σ = some sr) : G (58, [some (.ref 22), none, none, none], [], (gSh, σ, u)) := by
  unfold p_Reader_readCover_j58 at hP
  refine gRunN_ok hG.1 9 _ (73, [some (.ref 22), some (.int 0), some (.int 0), none], [.int (σ.1 22 16), .ref 15], (gSh, σ, u)) rfl ?_
  obtain ⟨hc, hP⟩ := g_if hP
  refine hG.1 _ (74, [some (.ref 22), some (.int 0), some (.int 0), none], [.int (σ.1 15 (σ.1 22 16).toNatClampNeg)], (gSh, σ, u)) _ rfl (if_pos hc) ?_
  rcases g_ite hP with ⟨hc, hP⟩ | ⟨hc, hP⟩
  · refine hG.1 _ (107, [some (.ref 22), some (.int 0), some (.int 0), none], [], (gSh, σ, u)) _ rfl (if_pos hc) ?_
    exact j_Reader_readCover_j107 E d u hG 0 0 σ hP
  · refine hG.1 _ (77, [some (.ref 22), some (.int 0), some (.int 0), none], [], (gSh, σ, u)) _ rfl (if_neg hc) ?_
    refine gRunN_ok hG.1 3 _ (83, [some (.ref 22), some (.int 0), some (.int 0), none], [.int 49, .ref 10], (gSh, σ, u)) rfl ?_
    obtain ⟨v15, hq, hP⟩ := g_b1 hP
    refine hG.2.2.2.1 _ _ _ [.ref 10, .int 49] [] _ (gSh, σ, u) (some (.int v15)) _ _ _ _ _ _ rfl rfl rfl rfl rfl rfl (c_Text_maskOf E (d + 2) u 49 _  hq) (Nat.le_refl _) (Nat.le_refl _) (Nat.le_refl _) (Nat.le_refl _) ?_
    show G (86, [some (.ref 22), some (.int 0), some (.int 0), none], [.int v15], (gSh, σ, u))
    refine gRunN_ok hG.1 5 _ (94, [some (.ref 22), some (.int v15), some (.int 0), none], [.int 48, .ref 10, .int v15], (gSh, σ, u)) rfl ?_
    obtain ⟨v17, hq, hP⟩ := g_b1 hP
    refine hG.2.2.2.1 _ _ _ [.ref 10, .int 48] [.int v15] _ (gSh, σ, u) (some (.int v17)) _ _ _ _ _ _ rfl rfl rfl rfl rfl rfl (c_Text_maskOf E (d + 2) u 48 _  hq) (Nat.le_refl _) (Nat.le_refl _) (Nat.le_refl _) (Nat.le_refl _) ?_
    show G (97, [some (.ref 22), some (.int v15), some (.int 0), none], [.int v17, .int v15], (gSh, σ, u))
    refine gRunN_ok hG.1 2 _ (99, [some (.ref 22), some (.int v15), some (.int (v15 ||| v17)), none], [], (gSh, σ, u)) rfl ?_
    obtain ⟨x19, ex19, hP⟩ := g_let hP
    rw [← ex19]
    refine gRunN_ok hG.1 2 _ (103, [some (.ref 22), some (.int v15), some (.int x19), none], [.ref 10], (gSh, σ, u)) rfl ?_
    obtain ⟨v20, s21, hq, hP⟩ := g_b2 hP
    refine hG.2.2.2.1 _ _ _ [.ref 10] [] _ (gSh, s21, u) (some (.int v20)) _ _ _ _ _ _ rfl rfl rfl rfl rfl rfl (c_Text_nextWord E (d + 1) u _  hq) (Nat.le_refl _) (Nat.le_refl _) (Nat.le_refl _) (Nat.le_refl _) ?_
    show G (106, [some (.ref 22), some (.int v15), some (.int x19), none], [.int v20], (gSh, s21, u))
    refine gRunN_ok hG.1 1 _ (107, [some (.ref 22), some (.int v15), some (.int x19), none], [], (gSh, s21, u)) rfl ?_
    exact j_Reader_readCover_j107 E d u hG v15 x19 s21 hP
def p_Reader_readCover (E : gEv) (σ : gS) : Option (gS) :=
  if (σ.1 22 16) = ((-1) : Int32) then (p_Reader_readCover_j45 E σ) else (if gIn (σ.1 22 16) (σ.2.1 15) then if (σ.1 15 (σ.1 22 16).toNatClampNeg) ≤ 0 then (p_Reader_readCover_j58 E σ) else (if gIn (σ.1 22 16) (σ.2.1 15) then gB1 (p_Text_isSigns E (σ.1 15 (σ.1 22 16).toNatClampNeg) σ) fun v22 => if v22 = 0 then (p_Reader_readCover_j45 E σ) else (p_Reader_readCover_j58 E σ) else none) else none)
set_option maxRecDepth 20000 in
theorem c_Reader_readCover (E : gEv) (d u : Nat) (σ : gS) {sr : gS}  (hq : p_Reader_readCover E σ = some sr) : gC E gDf gMs (d + 4) 43 [.ref 22] (gSh, σ, u) (none, (gSh, sr, u)) := ⟨gM43, rfl, Nat.le_of_ble_eq_true rfl, fun G hG => by
  have hP := hq
  unfold p_Reader_readCover at hP
  replace hG : gClo E gDf gP5 gY43 none (gC E gDf gMs (d + 3)) (none, (gSh, sr, u)) G := hG
  show G (0, [some (.ref 22), none, none, none], [], (gSh, σ, u))
  refine gRunN_ok hG.1 3 _ (5, [some (.ref 22), none, none, none], [.int (-1), .int (σ.1 22 16)], (gSh, σ, u)) rfl ?_
  rcases g_ite hP with ⟨hc, hP⟩ | ⟨hc, hP⟩
  · refine hG.1 _ (45, [some (.ref 22), none, none, none], [], (gSh, σ, u)) _ rfl (if_pos hc) ?_
    exact j_Reader_readCover_j45 E d u hG σ hP
  · refine hG.1 _ (8, [some (.ref 22), none, none, none], [], (gSh, σ, u)) _ rfl (if_neg hc) ?_
    refine gRunN_ok hG.1 5 _ (19, [some (.ref 22), none, none, none], [.int (σ.1 22 16), .ref 15], (gSh, σ, u)) rfl ?_
    obtain ⟨hc, hP⟩ := g_if hP
    refine hG.1 _ (20, [some (.ref 22), none, none, none], [.int (σ.1 15 (σ.1 22 16).toNatClampNeg)], (gSh, σ, u)) _ rfl (if_pos hc) ?_
    rcases g_ite hP with ⟨hc, hP⟩ | ⟨hc, hP⟩
    · refine hG.1 _ (58, [some (.ref 22), none, none, none], [], (gSh, σ, u)) _ rfl (if_pos hc) ?_
      exact j_Reader_readCover_j58 E d u hG σ hP
    · refine hG.1 _ (23, [some (.ref 22), none, none, none], [], (gSh, σ, u)) _ rfl (if_neg hc) ?_
      refine gRunN_ok hG.1 7 _ (38, [some (.ref 22), none, none, none], [.int (σ.1 22 16), .ref 15, .ref 10], (gSh, σ, u)) rfl ?_
      obtain ⟨hc, hP⟩ := g_if hP
      refine hG.1 _ (39, [some (.ref 22), none, none, none], [.int (σ.1 15 (σ.1 22 16).toNatClampNeg), .ref 10], (gSh, σ, u)) _ rfl (if_pos hc) ?_
      obtain ⟨v22, hq, hP⟩ := g_b1 hP
      refine hG.2.2.2.1 _ _ _ [.ref 10, .int (σ.1 15 (σ.1 22 16).toNatClampNeg)] [] _ (gSh, σ, u) (some (.int v22)) _ _ _ _ _ _ rfl rfl rfl rfl rfl rfl (c_Text_isSigns E (d + 2) u (σ.1 15 (σ.1 22 16).toNatClampNeg) _  hq) (Nat.le_refl _) (Nat.le_refl _) (Nat.le_refl _) (Nat.le_refl _) ?_
      show G (42, [some (.ref 22), none, none, none], [.int v22], (gSh, σ, u))
      rcases g_ite hP with ⟨hc, hP⟩ | ⟨hc, hP⟩
      · refine hG.1 _ (45, [some (.ref 22), none, none, none], [], (gSh, σ, u)) _ rfl (if_pos hc) ?_
        exact j_Reader_readCover_j45 E d u hG σ hP
      · refine hG.1 _ (58, [some (.ref 22), none, none, none], [], (gSh, σ, u)) _ rfl (if_neg hc) ?_
        exact j_Reader_readCover_j58 E d u hG σ hP⟩
def p_String_charAt (E : gEv) (i0 : Nat) (a0 : Int32) (σ : gS) : Option (Int32) :=
  gB1 (p_String_isLatin1 E i0 σ) fun v1 => if v1 = 0 then (none) else (gB1 (p_StringLatin1_charAt E (100 + i0) a0 σ) fun v3 => if narrow .char (.int v3) = .int v3 then some v3 else none)
set_option maxRecDepth 20000 in
theorem c_String_charAt (E : gEv) (d u : Nat) (i0 : Nat) (a0 : Int32) (σ : gS) {v : Int32}  (hi0 : i0 < 7) (hq : p_String_charAt E i0 a0 σ = some v) : gC E gDf gMs (d + 4) 54 [.retAddr i0, .int a0] (gSh, σ, u) (some (.int v), (gSh, σ, u)) := ⟨gM54, rfl, Nat.le_of_ble_eq_true rfl, fun G hG => by
  have hP := hq
  unfold p_String_charAt at hP
  replace hG : gClo E gDf gP13 gY54 (some .char) (gC E gDf gMs (d + 3)) (some (.int v), (gSh, σ, u)) G := hG
  show G (0, [some (.retAddr i0), some (.int a0)], [], (gSh, σ, u))
  refine gRunN_ok hG.1 1 _ (1, [some (.retAddr i0), some (.int a0)], [.retAddr i0], (gSh, σ, u)) rfl ?_
  obtain ⟨v1, hq, hP⟩ := g_b1 hP
  refine hG.2.2.2.1 _ _ _ [.retAddr i0] [] _ (gSh, σ, u) (some (.int v1)) _ _ _ _ _ _ rfl rfl rfl rfl rfl (by simp [gRcv, gCat, Value.category, hi0]) (c_String_isLatin1 E (d + 2) u i0 _ hi0 hq) (Nat.le_refl _) (Nat.le_refl _) (Nat.le_refl _) (Nat.le_refl _) ?_
  show G (4, [some (.retAddr i0), some (.int a0)], [.int v1], (gSh, σ, u))
  rcases g_ite hP with ⟨hc, hP⟩ | ⟨hc, hP⟩
  · refine hG.1 _ (16, [some (.retAddr i0), some (.int a0)], [], (gSh, σ, u)) _ rfl (if_pos hc) ?_
    refine gRunN_ok hG.1 1 _ (17, [some (.retAddr i0), some (.int a0)], [.retAddr i0], (gSh, σ, u)) rfl ?_
    refine hG.1 _ (20, [some (.retAddr i0), some (.int a0)], [.retAddr (100 + i0)], (gSh, σ, u)) _ rfl (gS_gfv hi0 rfl) ?_
    cases hP
  · refine hG.1 _ (7, [some (.retAddr i0), some (.int a0)], [], (gSh, σ, u)) _ rfl (if_neg hc) ?_
    refine gRunN_ok hG.1 1 _ (8, [some (.retAddr i0), some (.int a0)], [.retAddr i0], (gSh, σ, u)) rfl ?_
    refine hG.1 _ (11, [some (.retAddr i0), some (.int a0)], [.retAddr (100 + i0)], (gSh, σ, u)) _ rfl (gS_gfv hi0 rfl) ?_
    refine gRunN_ok hG.1 1 _ (12, [some (.retAddr i0), some (.int a0)], [.int a0, .retAddr (100 + i0)], (gSh, σ, u)) rfl ?_
    obtain ⟨v3, hq, hP⟩ := g_b1 hP
    refine hG.2.2.2.1 _ _ _ [.retAddr (100 + i0), .int a0] [] _ (gSh, σ, u) (some (.int v3)) _ _ _ _ _ _ rfl rfl rfl rfl rfl rfl (c_StringLatin1_charAt E (d + 0) u (100 + i0) a0 _ (by omega) hq) (Nat.le_refl _) (Nat.le_refl _) (Nat.le_refl _) (Nat.le_refl _) ?_
    show G (15, [some (.retAddr i0), some (.int a0)], [.int v3], (gSh, σ, u))
    obtain ⟨hc, hP⟩ := g_if hP
    cases hP
    exact hG.2.1 _ _ rfl (if_pos hc)⟩
def p_Reader_readLatch_j79 (E : gEv) (l1 : Int32) (y0 : Int32) (σ : gS) : Option (gS) :=
  if y0 = ((-1) : Int32) then (gB1 (p_Reader_refuse E 1 (σ.1 10 5) σ) fun s8 => some s8) else (if gIn (σ.1 22 13) (σ.2.1 26) then gLet (gPut σ 26 (σ.1 22 13).toNatClampNeg l1) fun s9 => if gIn (s9.1 22 13) (s9.2.1 27) then gLet (gPut s9 27 (s9.1 22 13).toNatClampNeg y0) fun s10 => gLet (gPut s10 22 13 ((s10.1 22 13) + (1 : Int32))) fun s11 => gB1 (p_Reader_refuseMore E s11) fun s13 => some s13 else none else none)
set_option maxRecDepth 20000 in
theorem j_Reader_readLatch_j79 (E : gEv) (d u : Nat) {G : gFr → Prop} {sr : gS} (hG : gClo E gDf gP5 gY63 none (gC E gDf gMs (d + 3)) (none, (gSh, sr, u)) G) (l1 : Int32) (y0 : Int32) (σ : gS) (hP : p_Reader_readLatch_j79 E l1 y0 σ = some sr) : G (79, [some (.ref 22), some (.int l1), none, none], [.int y0], (gSh, σ, u)) := by
  unfold p_Reader_readLatch_j79 at hP
  refine gRunN_ok hG.1 3 _ (82, [some (.ref 22), some (.int l1), none, some (.int y0)], [.int (-1), .int y0], (gSh, σ, u)) rfl ?_
  rcases g_ite hP with ⟨hc, hP⟩ | ⟨hc, hP⟩
  · refine hG.1 _ (85, [some (.ref 22), some (.int l1), none, some (.int y0)], [], (gSh, σ, u)) _ rfl (if_pos hc) ?_
    refine gRunN_ok hG.1 5 _ (94, [some (.ref 22), some (.int l1), none, some (.int y0)], [.int (σ.1 10 5), .int 1, .ref 22], (gSh, σ, u)) rfl ?_
    obtain ⟨s8, hq, hP⟩ := g_b1 hP
    refine hG.2.2.2.1 _ _ _ [.ref 22, .int 1, .int (σ.1 10 5)] [] _ (gSh, s8, u) none _ _ _ _ _ _ rfl rfl rfl rfl rfl rfl (c_Reader_refuse E (d + 2) u 1 (σ.1 10 5) _  hq) (Nat.le_refl _) (Nat.le_refl _) (Nat.le_refl _) (Nat.le_refl _) ?_
    show G (97, [some (.ref 22), some (.int l1), none, some (.int y0)], [], (gSh, s8, u))
    cases hP
    exact hG.2.1 _ _ rfl rfl
  · refine hG.1 _ (98, [some (.ref 22), some (.int l1), none, some (.int y0)], [], (gSh, σ, u)) _ rfl (if_neg hc) ?_
    refine gRunN_ok hG.1 5 _ (107, [some (.ref 22), some (.int l1), none, some (.int y0)], [.int l1, .int (σ.1 22 13), .ref 26], (gSh, σ, u)) rfl ?_
    obtain ⟨hc, hP⟩ := g_if hP
    refine hG.1 _ (108, [some (.ref 22), some (.int l1), none, some (.int y0)], [], (gSh, (gPut σ 26 (σ.1 22 13).toNatClampNeg l1), u)) _ rfl (if_pos hc) ?_
    obtain ⟨s9, es9, hP⟩ := g_let hP
    rw [← es9]
    refine gRunN_ok hG.1 5 _ (117, [some (.ref 22), some (.int l1), none, some (.int y0)], [.int y0, .int (s9.1 22 13), .ref 27], (gSh, s9, u)) rfl ?_
    obtain ⟨hc, hP⟩ := g_if hP
    refine hG.1 _ (118, [some (.ref 22), some (.int l1), none, some (.int y0)], [], (gSh, (gPut s9 27 (s9.1 22 13).toNatClampNeg y0), u)) _ rfl (if_pos hc) ?_
    obtain ⟨s10, es10, hP⟩ := g_let hP
    rw [← es10]
    refine gRunN_ok hG.1 6 _ (128, [some (.ref 22), some (.int l1), none, some (.int y0)], [], (gSh, (gPut s10 22 13 ((s10.1 22 13) + (1 : Int32))), u)) rfl ?_
    obtain ⟨s11, es11, hP⟩ := g_let hP
    rw [← es11]
    refine gRunN_ok hG.1 1 _ (129, [some (.ref 22), some (.int l1), none, some (.int y0)], [.ref 22], (gSh, s11, u)) rfl ?_
    obtain ⟨s13, hq, hP⟩ := g_b1 hP
    refine hG.2.2.2.1 _ _ _ [.ref 22] [] _ (gSh, s13, u) none _ _ _ _ _ _ rfl rfl rfl rfl rfl rfl (c_Reader_refuseMore E (d + 0) u _  hq) (Nat.le_refl _) (Nat.le_refl _) (Nat.le_refl _) (Nat.le_refl _) ?_
    show G (132, [some (.ref 22), some (.int l1), none, some (.int y0)], [], (gSh, s13, u))
    cases hP
    exact hG.2.1 _ _ rfl rfl
def p_Reader_readLatch_j18 (E : gEv) (l1 : Int32) (y0 : Int32) (σ : gS) : Option (gS) :=
  if y0 = ((-1) : Int32) then (some σ) else (gB2 (p_Reader_make E y0 ((200 : Int32) + (σ.1 22 13)) (σ.1 10 5) σ) fun v3 s4 => if v3 = 0 then (some s4) else (if (s4.1 22 13) < (150 : Int32) then (gB2 (p_Text_nextWord E s4) fun v5 s6 => if v5 = 0 then (p_Reader_readLatch_j79 E l1 0 s6) else (gB1 (p_Text_digit E s6) fun v14 => p_Reader_readLatch_j79 E l1 v14 s6)) else (some s4)))
set_option maxRecDepth 20000 in
theorem j_Reader_readLatch_j18 (E : gEv) (d u : Nat) {G : gFr → Prop} {sr : gS} (hG : gClo E gDf gP5 gY63 none (gC E gDf gMs (d + 3)) (none, (gSh, sr, u)) G) (l1 : Int32) (y0 : Int32) (σ : gS) (hP : p_Reader_readLatch_j18 E l1 y0 σ = some sr) : G (18, [some (.ref 22), some (.int l1), none, none], [.int y0], (gSh, σ, u)) := by
  unfold p_Reader_readLatch_j18 at hP
  refine gRunN_ok hG.1 3 _ (21, [some (.ref 22), some (.int l1), some (.int y0), none], [.int (-1), .int y0], (gSh, σ, u)) rfl ?_
  rcases g_ite hP with ⟨hc, hP⟩ | ⟨hc, hP⟩
  · refine hG.1 _ (57, [some (.ref 22), some (.int l1), some (.int y0), none], [], (gSh, σ, u)) _ rfl (if_pos hc) ?_
    cases hP
    exact hG.2.1 _ _ rfl rfl
  · refine hG.1 _ (24, [some (.ref 22), some (.int l1), some (.int y0), none], [], (gSh, σ, u)) _ rfl (if_neg hc) ?_
    refine gRunN_ok hG.1 9 _ (41, [some (.ref 22), some (.int l1), some (.int y0), none], [.int (σ.1 10 5), .int ((200 : Int32) + (σ.1 22 13)), .int y0, .ref 22], (gSh, σ, u)) rfl ?_
    obtain ⟨v3, s4, hq, hP⟩ := g_b2 hP
    refine hG.2.2.2.1 _ _ _ [.ref 22, .int y0, .int ((200 : Int32) + (σ.1 22 13)), .int (σ.1 10 5)] [] _ (gSh, s4, u) (some (.int v3)) _ _ _ _ _ _ rfl rfl rfl rfl rfl rfl (c_Reader_make E (d + 1) u y0 ((200 : Int32) + (σ.1 22 13)) (σ.1 10 5) _  hq) (Nat.le_refl _) (Nat.le_refl _) (Nat.le_refl _) (Nat.le_refl _) ?_
    show G (44, [some (.ref 22), some (.int l1), some (.int y0), none], [.int v3], (gSh, s4, u))
    rcases g_ite hP with ⟨hc, hP⟩ | ⟨hc, hP⟩
    · refine hG.1 _ (57, [some (.ref 22), some (.int l1), some (.int y0), none], [], (gSh, s4, u)) _ rfl (if_pos hc) ?_
      cases hP
      exact hG.2.1 _ _ rfl rfl
    · refine hG.1 _ (47, [some (.ref 22), some (.int l1), some (.int y0), none], [], (gSh, s4, u)) _ rfl (if_neg hc) ?_
      refine gRunN_ok hG.1 3 _ (54, [some (.ref 22), some (.int l1), some (.int y0), none], [.int 150, .int (s4.1 22 13)], (gSh, s4, u)) rfl ?_
      rcases g_ite hP with ⟨hc, hP⟩ | ⟨hc, hP⟩
      · refine hG.1 _ (58, [some (.ref 22), some (.int l1), some (.int y0), none], [], (gSh, s4, u)) _ rfl (if_pos hc) ?_
        refine gRunN_ok hG.1 2 _ (62, [some (.ref 22), some (.int l1), some (.int y0), none], [.ref 10], (gSh, s4, u)) rfl ?_
        obtain ⟨v5, s6, hq, hP⟩ := g_b2 hP
        refine hG.2.2.2.1 _ _ _ [.ref 10] [] _ (gSh, s6, u) (some (.int v5)) _ _ _ _ _ _ rfl rfl rfl rfl rfl rfl (c_Text_nextWord E (d + 1) u _  hq) (Nat.le_refl _) (Nat.le_refl _) (Nat.le_refl _) (Nat.le_refl _) ?_
        show G (65, [some (.ref 22), some (.int l1), some (.int y0), none], [.int v5], (gSh, s6, u))
        rcases g_ite hP with ⟨hc, hP⟩ | ⟨hc, hP⟩
        · refine hG.1 _ (78, [some (.ref 22), some (.int l1), some (.int y0), none], [], (gSh, s6, u)) _ rfl (if_pos hc) ?_
          refine gRunN_ok hG.1 1 _ (79, [some (.ref 22), some (.int l1), some (.int y0), none], [.int 0], (gSh, s6, u)) rfl ?_
          refine hG.2.2.2.2.1 _ _ [some (.ref 22), some (.int l1), none, none] _ _ ⟨rfl, ⟨rfl, trivial⟩⟩ ?_
          exact j_Reader_readLatch_j79 E d u hG l1 0 s6 hP
        · refine hG.1 _ (68, [some (.ref 22), some (.int l1), some (.int y0), none], [], (gSh, s6, u)) _ rfl (if_neg hc) ?_
          refine gRunN_ok hG.1 2 _ (72, [some (.ref 22), some (.int l1), some (.int y0), none], [.ref 10], (gSh, s6, u)) rfl ?_
          obtain ⟨v14, hq, hP⟩ := g_b1 hP
          refine hG.2.2.2.1 _ _ _ [.ref 10] [] _ (gSh, s6, u) (some (.int v14)) _ _ _ _ _ _ rfl rfl rfl rfl rfl rfl (c_Text_digit E (d + 2) u _  hq) (Nat.le_refl _) (Nat.le_refl _) (Nat.le_refl _) (Nat.le_refl _) ?_
          show G (75, [some (.ref 22), some (.int l1), some (.int y0), none], [.int v14], (gSh, s6, u))
          refine gRunN_ok hG.1 1 _ (79, [some (.ref 22), some (.int l1), some (.int y0), none], [.int v14], (gSh, s6, u)) rfl ?_
          refine hG.2.2.2.2.1 _ _ [some (.ref 22), some (.int l1), none, none] _ _ ⟨rfl, ⟨rfl, trivial⟩⟩ ?_
          exact j_Reader_readLatch_j79 E d u hG l1 v14 s6 hP
      · refine hG.1 _ (57, [some (.ref 22), some (.int l1), some (.int y0), none], [], (gSh, s4, u)) _ rfl (if_neg hc) ?_
        cases hP
        exact hG.2.1 _ _ rfl rfl
def p_Reader_readLatch (E : gEv) (σ : gS) : Option (gS) :=
  gB2 (p_Reader_nextName E σ) fun v1 s2 => if v1 = ((-1) : Int32) then (p_Reader_readLatch_j18 E v1 (-1) s2) else (gB2 (p_Reader_nextName E s2) fun v16 s17 => p_Reader_readLatch_j18 E v1 v16 s17)
set_option maxRecDepth 20000 in
theorem c_Reader_readLatch (E : gEv) (d u : Nat) (σ : gS) {sr : gS}  (hq : p_Reader_readLatch E σ = some sr) : gC E gDf gMs (d + 4) 63 [.ref 22] (gSh, σ, u) (none, (gSh, sr, u)) := ⟨gM63, rfl, Nat.le_of_ble_eq_true rfl, fun G hG => by
  have hP := hq
  unfold p_Reader_readLatch at hP
  replace hG : gClo E gDf gP5 gY63 none (gC E gDf gMs (d + 3)) (none, (gSh, sr, u)) G := hG
  show G (0, [some (.ref 22), none, none, none], [], (gSh, σ, u))
  refine gRunN_ok hG.1 1 _ (1, [some (.ref 22), none, none, none], [.ref 22], (gSh, σ, u)) rfl ?_
  obtain ⟨v1, s2, hq, hP⟩ := g_b2 hP
  refine hG.2.2.2.1 _ _ _ [.ref 22] [] _ (gSh, s2, u) (some (.int v1)) _ _ _ _ _ _ rfl rfl rfl rfl rfl rfl (c_Reader_nextName E (d + 0) u _  hq) (Nat.le_refl _) (Nat.le_refl _) (Nat.le_refl _) (Nat.le_refl _) ?_
  show G (4, [some (.ref 22), none, none, none], [.int v1], (gSh, s2, u))
  refine gRunN_ok hG.1 3 _ (7, [some (.ref 22), some (.int v1), none, none], [.int (-1), .int v1], (gSh, s2, u)) rfl ?_
  rcases g_ite hP with ⟨hc, hP⟩ | ⟨hc, hP⟩
  · refine hG.1 _ (10, [some (.ref 22), some (.int v1), none, none], [], (gSh, s2, u)) _ rfl (if_pos hc) ?_
    refine gRunN_ok hG.1 2 _ (18, [some (.ref 22), some (.int v1), none, none], [.int (-1)], (gSh, s2, u)) rfl ?_
    exact j_Reader_readLatch_j18 E d u hG v1 (-1) s2 hP
  · refine hG.1 _ (14, [some (.ref 22), some (.int v1), none, none], [], (gSh, s2, u)) _ rfl (if_neg hc) ?_
    refine gRunN_ok hG.1 1 _ (15, [some (.ref 22), some (.int v1), none, none], [.ref 22], (gSh, s2, u)) rfl ?_
    obtain ⟨v16, s17, hq, hP⟩ := g_b2 hP
    refine hG.2.2.2.1 _ _ _ [.ref 22] [] _ (gSh, s17, u) (some (.int v16)) _ _ _ _ _ _ rfl rfl rfl rfl rfl rfl (c_Reader_nextName E (d + 0) u _  hq) (Nat.le_refl _) (Nat.le_refl _) (Nat.le_refl _) (Nat.le_refl _) ?_
    show G (18, [some (.ref 22), some (.int v1), none, none], [.int v16], (gSh, s17, u))
    exact j_Reader_readLatch_j18 E d u hG v1 v16 s17 hP⟩
def p_Reader_checkLoops (E : gEv) (σ : gS) : Option (gS) :=
  gB1 (p_Gates_giveNumbers E 25 σ) fun s2 => gB1 (p_Gates_firstWithoutNumber E s2) fun v3 => if v3 = ((-1) : Int32) then (some s2) else (if gIn v3 (s2.2.1 14) then gB1 (p_Reader_refuse E 5 (s2.1 14 v3.toNatClampNeg) s2) fun s6 => some s6 else none)
set_option maxRecDepth 20000 in
theorem c_Reader_checkLoops (E : gEv) (d u : Nat) (σ : gS) {sr : gS}  (hq : p_Reader_checkLoops E σ = some sr) : gC E gDf gMs (d + 4) 69 [.ref 22] (gSh, σ, u) (none, (gSh, sr, u)) := ⟨gM69, rfl, Nat.le_of_ble_eq_true rfl, fun G hG => by
  have hP := hq
  unfold p_Reader_checkLoops at hP
  replace hG : gClo E gDf gP5 gY69 none (gC E gDf gMs (d + 3)) (none, (gSh, sr, u)) G := hG
  show G (0, [some (.ref 22), none], [], (gSh, σ, u))
  refine gRunN_ok hG.1 4 _ (8, [some (.ref 22), none], [.ref 25, .ref 13], (gSh, σ, u)) rfl ?_
  obtain ⟨s2, hq, hP⟩ := g_b1 hP
  refine hG.2.2.2.1 _ _ _ [.ref 13, .ref 25] [] _ (gSh, s2, u) none _ _ _ _ _ _ rfl rfl rfl rfl rfl rfl (c_Gates_giveNumbers E (d + 0) u 25 _ rfl hq) (Nat.le_refl _) (Nat.le_refl _) (Nat.le_refl _) (Nat.le_refl _) ?_
  show G (11, [some (.ref 22), none], [], (gSh, s2, u))
  refine gRunN_ok hG.1 2 _ (15, [some (.ref 22), none], [.ref 13], (gSh, s2, u)) rfl ?_
  obtain ⟨v3, hq, hP⟩ := g_b1 hP
  refine hG.2.2.2.1 _ _ _ [.ref 13] [] _ (gSh, s2, u) (some (.int v3)) _ _ _ _ _ _ rfl rfl rfl rfl rfl rfl (c_Gates_firstWithoutNumber E (d + 2) u _  hq) (Nat.le_refl _) (Nat.le_refl _) (Nat.le_refl _) (Nat.le_refl _) ?_
  show G (18, [some (.ref 22), none], [.int v3], (gSh, s2, u))
  refine gRunN_ok hG.1 3 _ (21, [some (.ref 22), some (.int v3)], [.int (-1), .int v3], (gSh, s2, u)) rfl ?_
  rcases g_ite hP with ⟨hc, hP⟩ | ⟨hc, hP⟩
  · refine hG.1 _ (38, [some (.ref 22), some (.int v3)], [], (gSh, s2, u)) _ rfl (if_pos hc) ?_
    cases hP
    exact hG.2.1 _ _ rfl rfl
  · refine hG.1 _ (24, [some (.ref 22), some (.int v3)], [], (gSh, s2, u)) _ rfl (if_neg hc) ?_
    refine gRunN_ok hG.1 6 _ (34, [some (.ref 22), some (.int v3)], [.int v3, .ref 14, .int 5, .ref 22], (gSh, s2, u)) rfl ?_
    obtain ⟨hc, hP⟩ := g_if hP
    refine hG.1 _ (35, [some (.ref 22), some (.int v3)], [.int (s2.1 14 v3.toNatClampNeg), .int 5, .ref 22], (gSh, s2, u)) _ rfl (if_pos hc) ?_
    obtain ⟨s6, hq, hP⟩ := g_b1 hP
    refine hG.2.2.2.1 _ _ _ [.ref 22, .int 5, .int (s2.1 14 v3.toNatClampNeg)] [] _ (gSh, s6, u) none _ _ _ _ _ _ rfl rfl rfl rfl rfl rfl (c_Reader_refuse E (d + 2) u 5 (s2.1 14 v3.toNatClampNeg) _  hq) (Nat.le_refl _) (Nat.le_refl _) (Nat.le_refl _) (Nat.le_refl _) ?_
    show G (38, [some (.ref 22), some (.int v3)], [], (gSh, s6, u))
    cases hP
    exact hG.2.1 _ _ rfl rfl⟩
def p_Packing_pack (E : gEv) (σ : gS) : Option (Int32 × gS) :=
  gB2 (p_Packing_setElements E σ) fun v1 s2 => if v1 = 0 then (some (0, s2)) else (gB1 (p_Packing_setNets E s2) fun s4 => gB1 (p_Packing_setSinks E s4) fun s6 => gB1 (p_Packing_setTouched E s6) fun s8 => gB1 (p_Packing_setClusters E s8) fun s10 => gB1 (p_Packing_setThings E s10) fun s12 => some (1, s12))
set_option maxRecDepth 20000 in
theorem c_Packing_pack (E : gEv) (d u : Nat) (σ : gS) {v : Int32} {sr : gS}  (hq : p_Packing_pack E σ = some (v, sr)) : gC E gDf gMs (d + 4) 84 [.ref 53] (gSh, σ, u) (some (.int v), (gSh, sr, u)) := ⟨gM84, rfl, Nat.le_of_ble_eq_true rfl, fun G hG => by
  have hP := hq
  unfold p_Packing_pack at hP
  replace hG : gClo E gDf gP8 gY84 (some .boolean) (gC E gDf gMs (d + 3)) (some (.int v), (gSh, sr, u)) G := hG
  show G (0, [some (.ref 53)], [], (gSh, σ, u))
  refine gRunN_ok hG.1 1 _ (1, [some (.ref 53)], [.ref 53], (gSh, σ, u)) rfl ?_
  obtain ⟨v1, s2, hq, hP⟩ := g_b2 hP
  refine hG.2.2.2.1 _ _ _ [.ref 53] [] _ (gSh, s2, u) (some (.int v1)) _ _ _ _ _ _ rfl rfl rfl rfl rfl rfl (c_Packing_setElements E (d + 0) u _  hq) (Nat.le_refl _) (Nat.le_refl _) (Nat.le_refl _) (Nat.le_refl _) ?_
  show G (4, [some (.ref 53)], [.int v1], (gSh, s2, u))
  rcases g_ite hP with ⟨hc, hP⟩ | ⟨hc, hP⟩
  · refine hG.1 _ (7, [some (.ref 53)], [], (gSh, s2, u)) _ rfl (if_pos hc) ?_
    refine gRunN_ok hG.1 1 _ (8, [some (.ref 53)], [.int 0], (gSh, s2, u)) rfl ?_
    cases hP
    exact hG.2.1 _ _ rfl rfl
  · refine hG.1 _ (9, [some (.ref 53)], [], (gSh, s2, u)) _ rfl (if_neg hc) ?_
    refine gRunN_ok hG.1 1 _ (10, [some (.ref 53)], [.ref 53], (gSh, s2, u)) rfl ?_
    obtain ⟨s4, hq, hP⟩ := g_b1 hP
    refine hG.2.2.2.1 _ _ _ [.ref 53] [] _ (gSh, s4, u) none _ _ _ _ _ _ rfl rfl rfl rfl rfl rfl (c_Packing_setNets E (d + 2) u _  hq) (Nat.le_refl _) (Nat.le_refl _) (Nat.le_refl _) (Nat.le_refl _) ?_
    show G (13, [some (.ref 53)], [], (gSh, s4, u))
    refine gRunN_ok hG.1 1 _ (14, [some (.ref 53)], [.ref 53], (gSh, s4, u)) rfl ?_
    obtain ⟨s6, hq, hP⟩ := g_b1 hP
    refine hG.2.2.2.1 _ _ _ [.ref 53] [] _ (gSh, s6, u) none _ _ _ _ _ _ rfl rfl rfl rfl rfl rfl (c_Packing_setSinks E (d + 1) u _  hq) (Nat.le_refl _) (Nat.le_refl _) (Nat.le_refl _) (Nat.le_refl _) ?_
    show G (17, [some (.ref 53)], [], (gSh, s6, u))
    refine gRunN_ok hG.1 1 _ (18, [some (.ref 53)], [.ref 53], (gSh, s6, u)) rfl ?_
    obtain ⟨s8, hq, hP⟩ := g_b1 hP
    refine hG.2.2.2.1 _ _ _ [.ref 53] [] _ (gSh, s8, u) none _ _ _ _ _ _ rfl rfl rfl rfl rfl rfl (c_Packing_setTouched E (d + 1) u _  hq) (Nat.le_refl _) (Nat.le_refl _) (Nat.le_refl _) (Nat.le_refl _) ?_
    show G (21, [some (.ref 53)], [], (gSh, s8, u))
    refine gRunN_ok hG.1 1 _ (22, [some (.ref 53)], [.ref 53], (gSh, s8, u)) rfl ?_
    obtain ⟨s10, hq, hP⟩ := g_b1 hP
    refine hG.2.2.2.1 _ _ _ [.ref 53] [] _ (gSh, s10, u) none _ _ _ _ _ _ rfl rfl rfl rfl rfl rfl (c_Packing_setClusters E (d + 0) u _  hq) (Nat.le_refl _) (Nat.le_refl _) (Nat.le_refl _) (Nat.le_refl _) ?_
    show G (25, [some (.ref 53)], [], (gSh, s10, u))
    refine gRunN_ok hG.1 1 _ (26, [some (.ref 53)], [.ref 53], (gSh, s10, u)) rfl ?_
    obtain ⟨s12, hq, hP⟩ := g_b1 hP
    refine hG.2.2.2.1 _ _ _ [.ref 53] [] _ (gSh, s12, u) none _ _ _ _ _ _ rfl rfl rfl rfl rfl rfl (c_Packing_setThings E (d + 1) u _  hq) (Nat.le_refl _) (Nat.le_refl _) (Nat.le_refl _) (Nat.le_refl _) ?_
    show G (29, [some (.ref 53)], [], (gSh, s12, u))
    refine gRunN_ok hG.1 1 _ (30, [some (.ref 53)], [.int 1], (gSh, s12, u)) rfl ?_
    cases hP
    exact hG.2.1 _ _ rfl rfl⟩
def p_Face_look_j28 (E : gEv) (l1 : Int32) (σ : gS) : Option (Int32) :=
  if l1 = 0 then (some (σ.1 0 11)) else if l1 = 1 then (some (-1)) else if l1 = 2 then (some (-1)) else if l1 = 3 then (some (-1)) else if l1 = 4 then (some (-1)) else if l1 = 5 then (some (-1)) else if l1 = 6 then (some (-1)) else if l1 = 7 then (some (-1)) else if l1 = 8 then (some (-1)) else if l1 = 9 then (some (σ.1 1 5)) else if l1 = 10 then (some (σ.1 1 7)) else if l1 = 11 then (some (σ.1 1 8)) else if l1 = 12 then (if (σ.1 0 10) = 0 then (some 0) else (if (σ.1 70 15) = 0 then (some 1) else (some 2))) else if l1 = 13 then (some (σ.1 70 15)) else if l1 = 14 then (gB1 (p_Router_wiresHad E σ) fun v1 => some v1) else if l1 = 15 then (some (σ.1 30 14)) else if l1 = 16 then (some (σ.1 81 13)) else (some (-1))
set_option maxRecDepth 20000 in
theorem j_Face_look_j28 (E : gEv) (d u : Nat) {G : gFr → Prop} (σ : gS) {v : Int32} (hG : gClo E gDf gP0 gY104 (some .int) (gC E gDf gMs (d + 3)) (some (.int v), (gSh, σ, u)) G) (l1 : Int32) (hP : p_Face_look_j28 E l1 σ = some v) : G (28, [some (.ref 0), some (.int l1)], [], (gSh, σ, u)) := by
  unfold p_Face_look_j28 at hP
  refine gRunN_ok hG.1 1 _ (29, [some (.ref 0), some (.int l1)], [.int l1], (gSh, σ, u)) rfl ?_
  rcases g_ite hP with ⟨hc0, hP⟩ | ⟨hc0, hP⟩
  · refine hG.1 _ (112, [some (.ref 0), some (.int l1)], [], (gSh, σ, u)) _ rfl (if_pos hc0) ?_
    refine gRunN_ok hG.1 2 _ (116, [some (.ref 0), some (.int l1)], [.int (σ.1 0 11)], (gSh, σ, u)) rfl ?_
    cases hP
    exact hG.2.1 _ _ rfl rfl
  rcases g_ite hP with ⟨hc1, hP⟩ | ⟨hc1, hP⟩
  · refine hG.1 _ (200, [some (.ref 0), some (.int l1)], [], (gSh, σ, u)) _ rfl ((if_neg hc0).trans (if_pos hc1)) ?_
    refine gRunN_ok hG.1 1 _ (201, [some (.ref 0), some (.int l1)], [.int (-1)], (gSh, σ, u)) rfl ?_
    cases hP
    exact hG.2.1 _ _ rfl rfl
  rcases g_ite hP with ⟨hc2, hP⟩ | ⟨hc2, hP⟩
  · refine hG.1 _ (200, [some (.ref 0), some (.int l1)], [], (gSh, σ, u)) _ rfl ((if_neg hc0).trans ((if_neg hc1).trans (if_pos hc2))) ?_
    refine gRunN_ok hG.1 1 _ (201, [some (.ref 0), some (.int l1)], [.int (-1)], (gSh, σ, u)) rfl ?_
    cases hP
    exact hG.2.1 _ _ rfl rfl
  rcases g_ite hP with ⟨hc3, hP⟩ | ⟨hc3, hP⟩
  · refine hG.1 _ (200, [some (.ref 0), some (.int l1)], [], (gSh, σ, u)) _ rfl ((if_neg hc0).trans ((if_neg hc1).trans ((if_neg hc2).trans (if_pos hc3)))) ?_
    refine gRunN_ok hG.1 1 _ (201, [some (.ref 0), some (.int l1)], [.int (-1)], (gSh, σ, u)) rfl ?_
    cases hP
    exact hG.2.1 _ _ rfl rfl
  rcases g_ite hP with ⟨hc4, hP⟩ | ⟨hc4, hP⟩
  · refine hG.1 _ (200, [some (.ref 0), some (.int l1)], [], (gSh, σ, u)) _ rfl ((if_neg hc0).trans ((if_neg hc1).trans ((if_neg hc2).trans ((if_neg hc3).trans (if_pos hc4))))) ?_
    refine gRunN_ok hG.1 1 _ (201, [some (.ref 0), some (.int l1)], [.int (-1)], (gSh, σ, u)) rfl ?_
    cases hP
    exact hG.2.1 _ _ rfl rfl
  rcases g_ite hP with ⟨hc5, hP⟩ | ⟨hc5, hP⟩
  · refine hG.1 _ (200, [some (.ref 0), some (.int l1)], [], (gSh, σ, u)) _ rfl ((if_neg hc0).trans ((if_neg hc1).trans ((if_neg hc2).trans ((if_neg hc3).trans ((if_neg hc4).trans (if_pos hc5)))))) ?_
    refine gRunN_ok hG.1 1 _ (201, [some (.ref 0), some (.int l1)], [.int (-1)], (gSh, σ, u)) rfl ?_
    cases hP
    exact hG.2.1 _ _ rfl rfl
  rcases g_ite hP with ⟨hc6, hP⟩ | ⟨hc6, hP⟩
  · refine hG.1 _ (200, [some (.ref 0), some (.int l1)], [], (gSh, σ, u)) _ rfl ((if_neg hc0).trans ((if_neg hc1).trans ((if_neg hc2).trans ((if_neg hc3).trans ((if_neg hc4).trans ((if_neg hc5).trans (if_pos hc6))))))) ?_
    refine gRunN_ok hG.1 1 _ (201, [some (.ref 0), some (.int l1)], [.int (-1)], (gSh, σ, u)) rfl ?_
    cases hP
    exact hG.2.1 _ _ rfl rfl
  rcases g_ite hP with ⟨hc7, hP⟩ | ⟨hc7, hP⟩
  · refine hG.1 _ (200, [some (.ref 0), some (.int l1)], [], (gSh, σ, u)) _ rfl ((if_neg hc0).trans ((if_neg hc1).trans ((if_neg hc2).trans ((if_neg hc3).trans ((if_neg hc4).trans ((if_neg hc5).trans ((if_neg hc6).trans (if_pos hc7)))))))) ?_
    refine gRunN_ok hG.1 1 _ (201, [some (.ref 0), some (.int l1)], [.int (-1)], (gSh, σ, u)) rfl ?_
    cases hP
    exact hG.2.1 _ _ rfl rfl
  rcases g_ite hP with ⟨hc8, hP⟩ | ⟨hc8, hP⟩
  · refine hG.1 _ (200, [some (.ref 0), some (.int l1)], [], (gSh, σ, u)) _ rfl ((if_neg hc0).trans ((if_neg hc1).trans ((if_neg hc2).trans ((if_neg hc3).trans ((if_neg hc4).trans ((if_neg hc5).trans ((if_neg hc6).trans ((if_neg hc7).trans (if_pos hc8))))))))) ?_
    refine gRunN_ok hG.1 1 _ (201, [some (.ref 0), some (.int l1)], [.int (-1)], (gSh, σ, u)) rfl ?_
    cases hP
    exact hG.2.1 _ _ rfl rfl
  rcases g_ite hP with ⟨hc9, hP⟩ | ⟨hc9, hP⟩
  · refine hG.1 _ (117, [some (.ref 0), some (.int l1)], [], (gSh, σ, u)) _ rfl ((if_neg hc0).trans ((if_neg hc1).trans ((if_neg hc2).trans ((if_neg hc3).trans ((if_neg hc4).trans ((if_neg hc5).trans ((if_neg hc6).trans ((if_neg hc7).trans ((if_neg hc8).trans (if_pos hc9)))))))))) ?_
    refine gRunN_ok hG.1 3 _ (124, [some (.ref 0), some (.int l1)], [.int (σ.1 1 5)], (gSh, σ, u)) rfl ?_
    cases hP
    exact hG.2.1 _ _ rfl rfl
  rcases g_ite hP with ⟨hc10, hP⟩ | ⟨hc10, hP⟩
  · refine hG.1 _ (125, [some (.ref 0), some (.int l1)], [], (gSh, σ, u)) _ rfl ((if_neg hc0).trans ((if_neg hc1).trans ((if_neg hc2).trans ((if_neg hc3).trans ((if_neg hc4).trans ((if_neg hc5).trans ((if_neg hc6).trans ((if_neg hc7).trans ((if_neg hc8).trans ((if_neg hc9).trans (if_pos hc10))))))))))) ?_
    refine gRunN_ok hG.1 3 _ (132, [some (.ref 0), some (.int l1)], [.int (σ.1 1 7)], (gSh, σ, u)) rfl ?_
    cases hP
    exact hG.2.1 _ _ rfl rfl
  rcases g_ite hP with ⟨hc11, hP⟩ | ⟨hc11, hP⟩
  · refine hG.1 _ (133, [some (.ref 0), some (.int l1)], [], (gSh, σ, u)) _ rfl ((if_neg hc0).trans ((if_neg hc1).trans ((if_neg hc2).trans ((if_neg hc3).trans ((if_neg hc4).trans ((if_neg hc5).trans ((if_neg hc6).trans ((if_neg hc7).trans ((if_neg hc8).trans ((if_neg hc9).trans ((if_neg hc10).trans (if_pos hc11)))))))))))) ?_
    refine gRunN_ok hG.1 3 _ (140, [some (.ref 0), some (.int l1)], [.int (σ.1 1 8)], (gSh, σ, u)) rfl ?_
    cases hP
    exact hG.2.1 _ _ rfl rfl
  rcases g_ite hP with ⟨hc12, hP⟩ | ⟨hc12, hP⟩
  · refine hG.1 _ (141, [some (.ref 0), some (.int l1)], [], (gSh, σ, u)) _ rfl ((if_neg hc0).trans ((if_neg hc1).trans ((if_neg hc2).trans ((if_neg hc3).trans ((if_neg hc4).trans ((if_neg hc5).trans ((if_neg hc6).trans ((if_neg hc7).trans ((if_neg hc8).trans ((if_neg hc9).trans ((if_neg hc10).trans ((if_neg hc11).trans (if_pos hc12))))))))))))) ?_
    refine gRunN_ok hG.1 2 _ (145, [some (.ref 0), some (.int l1)], [.int (σ.1 0 10)], (gSh, σ, u)) rfl ?_
    rcases g_ite hP with ⟨hc, hP⟩ | ⟨hc, hP⟩
    · refine hG.1 _ (148, [some (.ref 0), some (.int l1)], [], (gSh, σ, u)) _ rfl (if_pos hc) ?_
      refine gRunN_ok hG.1 2 _ (167, [some (.ref 0), some (.int l1)], [.int 0], (gSh, σ, u)) rfl ?_
      cases hP
      exact hG.2.1 _ _ rfl rfl
    · refine hG.1 _ (152, [some (.ref 0), some (.int l1)], [], (gSh, σ, u)) _ rfl (if_neg hc) ?_
      refine gRunN_ok hG.1 3 _ (159, [some (.ref 0), some (.int l1)], [.int (σ.1 70 15)], (gSh, σ, u)) rfl ?_
      rcases g_ite hP with ⟨hc, hP⟩ | ⟨hc, hP⟩
      · refine hG.1 _ (162, [some (.ref 0), some (.int l1)], [], (gSh, σ, u)) _ rfl (if_pos hc) ?_
        refine gRunN_ok hG.1 2 _ (167, [some (.ref 0), some (.int l1)], [.int 1], (gSh, σ, u)) rfl ?_
        cases hP
        exact hG.2.1 _ _ rfl rfl
      · refine hG.1 _ (166, [some (.ref 0), some (.int l1)], [], (gSh, σ, u)) _ rfl (if_neg hc) ?_
        refine gRunN_ok hG.1 1 _ (167, [some (.ref 0), some (.int l1)], [.int 2], (gSh, σ, u)) rfl ?_
        cases hP
        exact hG.2.1 _ _ rfl rfl
  rcases g_ite hP with ⟨hc13, hP⟩ | ⟨hc13, hP⟩
  · refine hG.1 _ (168, [some (.ref 0), some (.int l1)], [], (gSh, σ, u)) _ rfl ((if_neg hc0).trans ((if_neg hc1).trans ((if_neg hc2).trans ((if_neg hc3).trans ((if_neg hc4).trans ((if_neg hc5).trans ((if_neg hc6).trans ((if_neg hc7).trans ((if_neg hc8).trans ((if_neg hc9).trans ((if_neg hc10).trans ((if_neg hc11).trans ((if_neg hc12).trans (if_pos hc13)))))))))))))) ?_
    refine gRunN_ok hG.1 3 _ (175, [some (.ref 0), some (.int l1)], [.int (σ.1 70 15)], (gSh, σ, u)) rfl ?_
    cases hP
    exact hG.2.1 _ _ rfl rfl
  rcases g_ite hP with ⟨hc14, hP⟩ | ⟨hc14, hP⟩
  · refine hG.1 _ (176, [some (.ref 0), some (.int l1)], [], (gSh, σ, u)) _ rfl ((if_neg hc0).trans ((if_neg hc1).trans ((if_neg hc2).trans ((if_neg hc3).trans ((if_neg hc4).trans ((if_neg hc5).trans ((if_neg hc6).trans ((if_neg hc7).trans ((if_neg hc8).trans ((if_neg hc9).trans ((if_neg hc10).trans ((if_neg hc11).trans ((if_neg hc12).trans ((if_neg hc13).trans (if_pos hc14))))))))))))))) ?_
    refine gRunN_ok hG.1 2 _ (180, [some (.ref 0), some (.int l1)], [.ref 70], (gSh, σ, u)) rfl ?_
    obtain ⟨v1, hq, hP⟩ := g_b1 hP
    refine hG.2.2.2.1 _ _ _ [.ref 70] [] _ (gSh, σ, u) (some (.int v1)) _ _ _ _ _ _ rfl rfl rfl rfl rfl rfl (c_Router_wiresHad E (d + 0) u _  hq) (Nat.le_refl _) (Nat.le_refl _) (Nat.le_refl _) (Nat.le_refl _) ?_
    show G (183, [some (.ref 0), some (.int l1)], [.int v1], (gSh, σ, u))
    cases hP
    exact hG.2.1 _ _ rfl rfl
  rcases g_ite hP with ⟨hc15, hP⟩ | ⟨hc15, hP⟩
  · refine hG.1 _ (184, [some (.ref 0), some (.int l1)], [], (gSh, σ, u)) _ rfl ((if_neg hc0).trans ((if_neg hc1).trans ((if_neg hc2).trans ((if_neg hc3).trans ((if_neg hc4).trans ((if_neg hc5).trans ((if_neg hc6).trans ((if_neg hc7).trans ((if_neg hc8).trans ((if_neg hc9).trans ((if_neg hc10).trans ((if_neg hc11).trans ((if_neg hc12).trans ((if_neg hc13).trans ((if_neg hc14).trans (if_pos hc15)))))))))))))))) ?_
    refine gRunN_ok hG.1 3 _ (191, [some (.ref 0), some (.int l1)], [.int (σ.1 30 14)], (gSh, σ, u)) rfl ?_
    cases hP
    exact hG.2.1 _ _ rfl rfl
  rcases g_ite hP with ⟨hc16, hP⟩ | ⟨hc16, hP⟩
  · refine hG.1 _ (192, [some (.ref 0), some (.int l1)], [], (gSh, σ, u)) _ rfl ((if_neg hc0).trans ((if_neg hc1).trans ((if_neg hc2).trans ((if_neg hc3).trans ((if_neg hc4).trans ((if_neg hc5).trans ((if_neg hc6).trans ((if_neg hc7).trans ((if_neg hc8).trans ((if_neg hc9).trans ((if_neg hc10).trans ((if_neg hc11).trans ((if_neg hc12).trans ((if_neg hc13).trans ((if_neg hc14).trans ((if_neg hc15).trans (if_pos hc16))))))))))))))))) ?_
    refine gRunN_ok hG.1 3 _ (199, [some (.ref 0), some (.int l1)], [.int (σ.1 81 13)], (gSh, σ, u)) rfl ?_
    cases hP
    exact hG.2.1 _ _ rfl rfl
  · refine hG.1 _ (200, [some (.ref 0), some (.int l1)], [], (gSh, σ, u)) _ rfl ((if_neg hc0).trans ((if_neg hc1).trans ((if_neg hc2).trans ((if_neg hc3).trans ((if_neg hc4).trans ((if_neg hc5).trans ((if_neg hc6).trans ((if_neg hc7).trans ((if_neg hc8).trans ((if_neg hc9).trans ((if_neg hc10).trans ((if_neg hc11).trans ((if_neg hc12).trans ((if_neg hc13).trans ((if_neg hc14).trans ((if_neg hc15).trans ((if_neg hc16).trans rfl))))))))))))))))) ?_
    refine gRunN_ok hG.1 1 _ (201, [some (.ref 0), some (.int l1)], [.int (-1)], (gSh, σ, u)) rfl ?_
    cases hP
    exact hG.2.1 _ _ rfl rfl
def p_Face_look (E : gEv) (a0 : Int32) (σ : gS) : Option (Int32) :=
  if a0 < (1 : Int32) then (p_Face_look_j28 E a0 σ) else (if (8 : Int32) < a0 then (p_Face_look_j28 E a0 σ) else (if (σ.1 0 10) = 0 then (some (-1)) else (gB1 (p_Face_lookCompiled E a0 σ) fun v3 => some v3)))
set_option maxRecDepth 20000 in
theorem c_Face_look (E : gEv) (d u : Nat) (a0 : Int32) (σ : gS) {v : Int32}  (hq : p_Face_look E a0 σ = some v) : gC E gDf gMs (d + 4) 104 [.ref 0, .int a0] (gSh, σ, u) (some (.int v), (gSh, σ, u)) := ⟨gM104, rfl, Nat.le_of_ble_eq_true rfl, fun G hG => by
  have hP := hq
  unfold p_Face_look at hP
  replace hG : gClo E gDf gP0 gY104 (some .int) (gC E gDf gMs (d + 3)) (some (.int v), (gSh, σ, u)) G := hG
  show G (0, [some (.ref 0), some (.int a0)], [], (gSh, σ, u))
  refine gRunN_ok hG.1 2 _ (2, [some (.ref 0), some (.int a0)], [.int 1, .int a0], (gSh, σ, u)) rfl ?_
  rcases g_ite hP with ⟨hc, hP⟩ | ⟨hc, hP⟩
  · refine hG.1 _ (28, [some (.ref 0), some (.int a0)], [], (gSh, σ, u)) _ rfl (if_pos hc) ?_
    exact j_Face_look_j28 E d u σ hG a0 hP
  · refine hG.1 _ (5, [some (.ref 0), some (.int a0)], [], (gSh, σ, u)) _ rfl (if_neg hc) ?_
    refine gRunN_ok hG.1 2 _ (8, [some (.ref 0), some (.int a0)], [.int 8, .int a0], (gSh, σ, u)) rfl ?_
    rcases g_ite hP with ⟨hc, hP⟩ | ⟨hc, hP⟩
    · refine hG.1 _ (28, [some (.ref 0), some (.int a0)], [], (gSh, σ, u)) _ rfl (if_pos hc) ?_
      exact j_Face_look_j28 E d u σ hG a0 hP
    · refine hG.1 _ (11, [some (.ref 0), some (.int a0)], [], (gSh, σ, u)) _ rfl (if_neg hc) ?_
      refine gRunN_ok hG.1 2 _ (15, [some (.ref 0), some (.int a0)], [.int (σ.1 0 10)], (gSh, σ, u)) rfl ?_
      rcases g_ite hP with ⟨hc, hP⟩ | ⟨hc, hP⟩
      · refine hG.1 _ (26, [some (.ref 0), some (.int a0)], [], (gSh, σ, u)) _ rfl (if_pos hc) ?_
        refine gRunN_ok hG.1 1 _ (27, [some (.ref 0), some (.int a0)], [.int (-1)], (gSh, σ, u)) rfl ?_
        cases hP
        exact hG.2.1 _ _ rfl rfl
      · refine hG.1 _ (18, [some (.ref 0), some (.int a0)], [], (gSh, σ, u)) _ rfl (if_neg hc) ?_
        refine gRunN_ok hG.1 2 _ (20, [some (.ref 0), some (.int a0)], [.int a0, .ref 0], (gSh, σ, u)) rfl ?_
        obtain ⟨v3, hq, hP⟩ := g_b1 hP
        refine hG.2.2.2.1 _ _ _ [.ref 0, .int a0] [] _ (gSh, σ, u) (some (.int v3)) _ _ _ _ _ _ rfl rfl rfl rfl rfl rfl (c_Face_lookCompiled E (d + 2) u a0 _  hq) (Nat.le_refl _) (Nat.le_refl _) (Nat.le_refl _) (Nat.le_refl _) ?_
        show G (23, [some (.ref 0), some (.int a0)], [.int v3], (gSh, σ, u))
        refine gRunN_ok hG.1 1 _ (27, [some (.ref 0), some (.int a0)], [.int v3], (gSh, σ, u)) rfl ?_
        cases hP
        exact hG.2.1 _ _ rfl rfl⟩
def p_Face_swap_j38 (E : gEv) (l2 : Int32) (l3 : Int32) (l4 : Int32) (l5 : Int32) (y0 : Int32) (σ : gS) : Option (Int32 × gS) :=
  if (σ.1 0 10) = 0 then (some ((-1), σ)) else (if l2 < 0 then (some ((-1), σ)) else (if y0 ≤ l2 then (some ((-1), σ)) else (if l3 < 0 then (some ((-1), σ)) else (if l3 < y0 then (gB1 (p_Router_drop E σ) fun s2 => gB1 (p_Placing_exchange E (l5 + l2) (l5 + l3) l4 s2) fun s4 => some (s4.1 67 4, s4)) else (some ((-1), σ))))))
set_option maxRecDepth 20000 in
theorem j_Face_swap_j38 (E : gEv) (d u : Nat) {G : gFr → Prop} {v : Int32} {sr : gS} (hG : gClo E gDf gP0 gY115 (some .int) (gC E gDf gMs (d + 3)) (some (.int v), (gSh, sr, u)) G) (l2 : Int32) (l3 : Int32) (l4 : Int32) (l5 : Int32) (y0 : Int32) (σ : gS) (hP : p_Face_swap_j38 E l2 l3 l4 l5 y0 σ = some (v, sr)) : G (38, [some (.ref 0), none, some (.int l2), some (.int l3), some (.int l4), some (.int l5), none], [.int y0], (gSh, σ, u)) := by
  unfold p_Face_swap_j38 at hP
  refine gRunN_ok hG.1 3 _ (44, [some (.ref 0), none, some (.int l2), some (.int l3), some (.int l4), some (.int l5), some (.int y0)], [.int (σ.1 0 10)], (gSh, σ, u)) rfl ?_
  rcases g_ite hP with ⟨hc, hP⟩ | ⟨hc, hP⟩
  · refine hG.1 _ (67, [some (.ref 0), none, some (.int l2), some (.int l3), some (.int l4), some (.int l5), some (.int y0)], [], (gSh, σ, u)) _ rfl (if_pos hc) ?_
    refine gRunN_ok hG.1 1 _ (68, [some (.ref 0), none, some (.int l2), some (.int l3), some (.int l4), some (.int l5), some (.int y0)], [.int (-1)], (gSh, σ, u)) rfl ?_
    cases hP
    exact hG.2.1 _ _ rfl rfl
  · refine hG.1 _ (47, [some (.ref 0), none, some (.int l2), some (.int l3), some (.int l4), some (.int l5), some (.int y0)], [], (gSh, σ, u)) _ rfl (if_neg hc) ?_
    refine gRunN_ok hG.1 1 _ (48, [some (.ref 0), none, some (.int l2), some (.int l3), some (.int l4), some (.int l5), some (.int y0)], [.int l2], (gSh, σ, u)) rfl ?_
    rcases g_ite hP with ⟨hc, hP⟩ | ⟨hc, hP⟩
    · refine hG.1 _ (67, [some (.ref 0), none, some (.int l2), some (.int l3), some (.int l4), some (.int l5), some (.int y0)], [], (gSh, σ, u)) _ rfl (if_pos hc) ?_
      refine gRunN_ok hG.1 1 _ (68, [some (.ref 0), none, some (.int l2), some (.int l3), some (.int l4), some (.int l5), some (.int y0)], [.int (-1)], (gSh, σ, u)) rfl ?_
      cases hP
      exact hG.2.1 _ _ rfl rfl
    · refine hG.1 _ (51, [some (.ref 0), none, some (.int l2), some (.int l3), some (.int l4), some (.int l5), some (.int y0)], [], (gSh, σ, u)) _ rfl (if_neg hc) ?_
      refine gRunN_ok hG.1 2 _ (54, [some (.ref 0), none, some (.int l2), some (.int l3), some (.int l4), some (.int l5), some (.int y0)], [.int y0, .int l2], (gSh, σ, u)) rfl ?_
      rcases g_ite hP with ⟨hc, hP⟩ | ⟨hc, hP⟩
      · refine hG.1 _ (67, [some (.ref 0), none, some (.int l2), some (.int l3), some (.int l4), some (.int l5), some (.int y0)], [], (gSh, σ, u)) _ rfl (if_pos hc) ?_
        refine gRunN_ok hG.1 1 _ (68, [some (.ref 0), none, some (.int l2), some (.int l3), some (.int l4), some (.int l5), some (.int y0)], [.int (-1)], (gSh, σ, u)) rfl ?_
        cases hP
        exact hG.2.1 _ _ rfl rfl
      · refine hG.1 _ (57, [some (.ref 0), none, some (.int l2), some (.int l3), some (.int l4), some (.int l5), some (.int y0)], [], (gSh, σ, u)) _ rfl (if_neg hc) ?_
        refine gRunN_ok hG.1 1 _ (58, [some (.ref 0), none, some (.int l2), some (.int l3), some (.int l4), some (.int l5), some (.int y0)], [.int l3], (gSh, σ, u)) rfl ?_
        rcases g_ite hP with ⟨hc, hP⟩ | ⟨hc, hP⟩
        · refine hG.1 _ (67, [some (.ref 0), none, some (.int l2), some (.int l3), some (.int l4), some (.int l5), some (.int y0)], [], (gSh, σ, u)) _ rfl (if_pos hc) ?_
          refine gRunN_ok hG.1 1 _ (68, [some (.ref 0), none, some (.int l2), some (.int l3), some (.int l4), some (.int l5), some (.int y0)], [.int (-1)], (gSh, σ, u)) rfl ?_
          cases hP
          exact hG.2.1 _ _ rfl rfl
        · refine hG.1 _ (61, [some (.ref 0), none, some (.int l2), some (.int l3), some (.int l4), some (.int l5), some (.int y0)], [], (gSh, σ, u)) _ rfl (if_neg hc) ?_
          refine gRunN_ok hG.1 2 _ (64, [some (.ref 0), none, some (.int l2), some (.int l3), some (.int l4), some (.int l5), some (.int y0)], [.int y0, .int l3], (gSh, σ, u)) rfl ?_
          rcases g_ite hP with ⟨hc, hP⟩ | ⟨hc, hP⟩
          · refine hG.1 _ (69, [some (.ref 0), none, some (.int l2), some (.int l3), some (.int l4), some (.int l5), some (.int y0)], [], (gSh, σ, u)) _ rfl (if_pos hc) ?_
            refine gRunN_ok hG.1 2 _ (73, [some (.ref 0), none, some (.int l2), some (.int l3), some (.int l4), some (.int l5), some (.int y0)], [.ref 70], (gSh, σ, u)) rfl ?_
            obtain ⟨s2, hq, hP⟩ := g_b1 hP
            refine hG.2.2.2.1 _ _ _ [.ref 70] [] _ (gSh, s2, u) none _ _ _ _ _ _ rfl rfl rfl rfl rfl rfl (c_Router_drop E (d + 2) u _  hq) (Nat.le_refl _) (Nat.le_refl _) (Nat.le_refl _) (Nat.le_refl _) ?_
            show G (76, [some (.ref 0), none, some (.int l2), some (.int l3), some (.int l4), some (.int l5), some (.int y0)], [], (gSh, s2, u))
            refine gRunN_ok hG.1 9 _ (90, [some (.ref 0), none, some (.int l2), some (.int l3), some (.int l4), some (.int l5), some (.int y0)], [.int l4, .int (l5 + l3), .int (l5 + l2), .ref 67], (gSh, s2, u)) rfl ?_
            obtain ⟨s4, hq, hP⟩ := g_b1 hP
            refine hG.2.2.2.1 _ _ _ [.ref 67, .int (l5 + l2), .int (l5 + l3), .int l4] [] _ (gSh, s4, u) none _ _ _ _ _ _ rfl rfl rfl rfl rfl rfl (c_Placing_exchange E (d + 0) u (l5 + l2) (l5 + l3) l4 _  hq) (Nat.le_refl _) (Nat.le_refl _) (Nat.le_refl _) (Nat.le_refl _) ?_
            show G (93, [some (.ref 0), none, some (.int l2), some (.int l3), some (.int l4), some (.int l5), some (.int y0)], [], (gSh, s4, u))
            refine gRunN_ok hG.1 3 _ (100, [some (.ref 0), none, some (.int l2), some (.int l3), some (.int l4), some (.int l5), some (.int y0)], [.int (s4.1 67 4)], (gSh, s4, u)) rfl ?_
            cases hP
            exact hG.2.1 _ _ rfl rfl
          · refine hG.1 _ (67, [some (.ref 0), none, some (.int l2), some (.int l3), some (.int l4), some (.int l5), some (.int y0)], [], (gSh, σ, u)) _ rfl (if_neg hc) ?_
            refine gRunN_ok hG.1 1 _ (68, [some (.ref 0), none, some (.int l2), some (.int l3), some (.int l4), some (.int l5), some (.int y0)], [.int (-1)], (gSh, σ, u)) rfl ?_
            cases hP
            exact hG.2.1 _ _ rfl rfl
def p_Face_swap_j15 (E : gEv) (l1 : Int32) (l2 : Int32) (l3 : Int32) (l4 : Int32) (y0 : Int32) (σ : gS) : Option (Int32 × gS) :=
  if l1 = 0 then (p_Face_swap_j38 E l2 l3 l4 y0 (σ.1 1 4) σ) else (p_Face_swap_j38 E l2 l3 l4 y0 (σ.1 1 5) σ)
set_option maxRecDepth 20000 in
theorem j_Face_swap_j15 (E : gEv) (d u : Nat) {G : gFr → Prop} {v : Int32} {sr : gS} (hG : gClo E gDf gP0 gY115 (some .int) (gC E gDf gMs (d + 3)) (some (.int v), (gSh, sr, u)) G) (l1 : Int32) (l2 : Int32) (l3 : Int32) (l4 : Int32) (y0 : Int32) (σ : gS) (hP : p_Face_swap_j15 E l1 l2 l3 l4 y0 σ = some (v, sr)) : G (15, [some (.ref 0), some (.int l1), some (.int l2), some (.int l3), some (.int l4), none, none], [.int y0], (gSh, σ, u)) := by
  unfold p_Face_swap_j15 at hP
  refine gRunN_ok hG.1 2 _ (18, [some (.ref 0), some (.int l1), some (.int l2), some (.int l3), some (.int l4), some (.int y0), none], [.int l1], (gSh, σ, u)) rfl ?_
  rcases g_ite hP with ⟨hc, hP⟩ | ⟨hc, hP⟩
  · refine hG.1 _ (31, [some (.ref 0), some (.int l1), some (.int l2), some (.int l3), some (.int l4), some (.int y0), none], [], (gSh, σ, u)) _ rfl (if_pos hc) ?_
    refine gRunN_ok hG.1 3 _ (38, [some (.ref 0), some (.int l1), some (.int l2), some (.int l3), some (.int l4), some (.int y0), none], [.int (σ.1 1 4)], (gSh, σ, u)) rfl ?_
    refine hG.2.2.2.2.1 _ _ [some (.ref 0), none, some (.int l2), some (.int l3), some (.int l4), some (.int y0), none] _ _ ⟨rfl, ⟨rfl, ⟨rfl, ⟨rfl, ⟨rfl, trivial⟩⟩⟩⟩⟩ ?_
    exact j_Face_swap_j38 E d u hG l2 l3 l4 y0 (σ.1 1 4) σ hP
  · refine hG.1 _ (21, [some (.ref 0), some (.int l1), some (.int l2), some (.int l3), some (.int l4), some (.int y0), none], [], (gSh, σ, u)) _ rfl (if_neg hc) ?_
    refine gRunN_ok hG.1 4 _ (38, [some (.ref 0), some (.int l1), some (.int l2), some (.int l3), some (.int l4), some (.int y0), none], [.int (σ.1 1 5)], (gSh, σ, u)) rfl ?_
    refine hG.2.2.2.2.1 _ _ [some (.ref 0), none, some (.int l2), some (.int l3), some (.int l4), some (.int y0), none] _ _ ⟨rfl, ⟨rfl, ⟨rfl, ⟨rfl, ⟨rfl, trivial⟩⟩⟩⟩⟩ ?_
    exact j_Face_swap_j38 E d u hG l2 l3 l4 y0 (σ.1 1 5) σ hP
def p_Face_swap (E : gEv) (a0 : Int32) (a1 : Int32) (a2 : Int32) (a3 : Int32) (σ : gS) : Option (Int32 × gS) :=
  if a0 = 0 then (p_Face_swap_j15 E a0 a1 a2 a3 0 σ) else (p_Face_swap_j15 E a0 a1 a2 a3 (σ.1 1 4) σ)
set_option maxRecDepth 20000 in
theorem c_Face_swap (E : gEv) (d u : Nat) (a0 : Int32) (a1 : Int32) (a2 : Int32) (a3 : Int32) (σ : gS) {v : Int32} {sr : gS}  (hq : p_Face_swap E a0 a1 a2 a3 σ = some (v, sr)) : gC E gDf gMs (d + 4) 115 [.ref 0, .int a0, .int a1, .int a2, .int a3] (gSh, σ, u) (some (.int v), (gSh, sr, u)) := ⟨gM115, rfl, Nat.le_of_ble_eq_true rfl, fun G hG => by
  have hP := hq
  unfold p_Face_swap at hP
  replace hG : gClo E gDf gP0 gY115 (some .int) (gC E gDf gMs (d + 3)) (some (.int v), (gSh, sr, u)) G := hG
  show G (0, [some (.ref 0), some (.int a0), some (.int a1), some (.int a2), some (.int a3), none, none], [], (gSh, σ, u))
  refine gRunN_ok hG.1 1 _ (1, [some (.ref 0), some (.int a0), some (.int a1), some (.int a2), some (.int a3), none, none], [.int a0], (gSh, σ, u)) rfl ?_
  rcases g_ite hP with ⟨hc, hP⟩ | ⟨hc, hP⟩
  · refine hG.1 _ (14, [some (.ref 0), some (.int a0), some (.int a1), some (.int a2), some (.int a3), none, none], [], (gSh, σ, u)) _ rfl (if_pos hc) ?_
    refine gRunN_ok hG.1 1 _ (15, [some (.ref 0), some (.int a0), some (.int a1), some (.int a2), some (.int a3), none, none], [.int 0], (gSh, σ, u)) rfl ?_
    exact j_Face_swap_j15 E d u hG a0 a1 a2 a3 0 σ hP
  · refine hG.1 _ (4, [some (.ref 0), some (.int a0), some (.int a1), some (.int a2), some (.int a3), none, none], [], (gSh, σ, u)) _ rfl (if_neg hc) ?_
    refine gRunN_ok hG.1 4 _ (15, [some (.ref 0), some (.int a0), some (.int a1), some (.int a2), some (.int a3), none, none], [.int (σ.1 1 4)], (gSh, σ, u)) rfl ?_
    exact j_Face_swap_j15 E d u hG a0 a1 a2 a3 (σ.1 1 4) σ hP⟩
def p_Placing_throwCoin_j50 (E : gEv) (l1 : Int32) (l3 : Int32) (y0 : Int32) (σ : gS) : Option (gS) :=
  if ¬ y0 = 0 then gLet ((((l1.toUInt32 >>> ((1 : Int32).toUInt32 &&& Int32.toUInt32 31)).toInt32) &&& (255 : Int32)) - (((l1.toUInt32 >>> ((1 : Int32).toUInt32 &&& Int32.toUInt32 31)).toInt32) &&& (255 : Int32)) / y0 * y0) fun x1 => if ¬ y0 = 0 then gLet ((((l1.toUInt32 >>> ((9 : Int32).toUInt32 &&& Int32.toUInt32 31)).toInt32) &&& (255 : Int32)) - (((l1.toUInt32 >>> ((9 : Int32).toUInt32 &&& Int32.toUInt32 31)).toInt32) &&& (255 : Int32)) / y0 * y0) fun x2 => gB1 (p_Placing_exchange E (l3 + x1) (l3 + x2) (((l1.toUInt32 >>> ((17 : Int32).toUInt32 &&& Int32.toUInt32 31)).toInt32) &&& (7 : Int32)) σ) fun s4 => some s4 else none else none
set_option maxRecDepth 20000 in
theorem j_Placing_throwCoin_j50 (E : gEv) (d u : Nat) {G : gFr → Prop} {sr : gS} (hG : gClo E gDf gP9 gY119 none (gC E gDf gMs (d + 3)) (none, (gSh, sr, u)) G) (l1 : Int32) (l3 : Int32) (y0 : Int32) (σ : gS) (hP : p_Placing_throwCoin_j50 E l1 l3 y0 σ = some sr) : G (50, [some (.ref 67), some (.int l1), none, some (.int l3), none, none, none], [.int y0], (gSh, σ, u)) := by
  unfold p_Placing_throwCoin_j50 at hP
  refine gRunN_ok hG.1 7 _ (61, [some (.ref 67), some (.int l1), none, some (.int l3), some (.int y0), none, none], [.int y0, .int (((l1.toUInt32 >>> ((1 : Int32).toUInt32 &&& Int32.toUInt32 31)).toInt32) &&& (255 : Int32))], (gSh, σ, u)) rfl ?_
  obtain ⟨hc, hP⟩ := g_if hP
  refine hG.1 _ (62, [some (.ref 67), some (.int l1), none, some (.int l3), some (.int y0), none, none], [.int ((((l1.toUInt32 >>> ((1 : Int32).toUInt32 &&& Int32.toUInt32 31)).toInt32) &&& (255 : Int32)) - (((l1.toUInt32 >>> ((1 : Int32).toUInt32 &&& Int32.toUInt32 31)).toInt32) &&& (255 : Int32)) / y0 * y0)], (gSh, σ, u)) _ rfl (if_pos hc) ?_
  refine gRunN_ok hG.1 1 _ (64, [some (.ref 67), some (.int l1), none, some (.int l3), some (.int y0), some (.int ((((l1.toUInt32 >>> ((1 : Int32).toUInt32 &&& Int32.toUInt32 31)).toInt32) &&& (255 : Int32)) - (((l1.toUInt32 >>> ((1 : Int32).toUInt32 &&& Int32.toUInt32 31)).toInt32) &&& (255 : Int32)) / y0 * y0)), none], [], (gSh, σ, u)) rfl ?_
  obtain ⟨x1, ex1, hP⟩ := g_let hP
  rw [← ex1]
  refine gRunN_ok hG.1 6 _ (74, [some (.ref 67), some (.int l1), none, some (.int l3), some (.int y0), some (.int x1), none], [.int y0, .int (((l1.toUInt32 >>> ((9 : Int32).toUInt32 &&& Int32.toUInt32 31)).toInt32) &&& (255 : Int32))], (gSh, σ, u)) rfl ?_
  obtain ⟨hc, hP⟩ := g_if hP
  refine hG.1 _ (75, [some (.ref 67), some (.int l1), none, some (.int l3), some (.int y0), some (.int x1), none], [.int ((((l1.toUInt32 >>> ((9 : Int32).toUInt32 &&& Int32.toUInt32 31)).toInt32) &&& (255 : Int32)) - (((l1.toUInt32 >>> ((9 : Int32).toUInt32 &&& Int32.toUInt32 31)).toInt32) &&& (255 : Int32)) / y0 * y0)], (gSh, σ, u)) _ rfl (if_pos hc) ?_
  refine gRunN_ok hG.1 1 _ (77, [some (.ref 67), some (.int l1), none, some (.int l3), some (.int y0), some (.int x1), some (.int ((((l1.toUInt32 >>> ((9 : Int32).toUInt32 &&& Int32.toUInt32 31)).toInt32) &&& (255 : Int32)) - (((l1.toUInt32 >>> ((9 : Int32).toUInt32 &&& Int32.toUInt32 31)).toInt32) &&& (255 : Int32)) / y0 * y0))], [], (gSh, σ, u)) rfl ?_
  obtain ⟨x2, ex2, hP⟩ := g_let hP
  rw [← ex2]
  refine gRunN_ok hG.1 12 _ (93, [some (.ref 67), some (.int l1), none, some (.int l3), some (.int y0), some (.int x1), some (.int x2)], [.int (((l1.toUInt32 >>> ((17 : Int32).toUInt32 &&& Int32.toUInt32 31)).toInt32) &&& (7 : Int32)), .int (l3 + x2), .int (l3 + x1), .ref 67], (gSh, σ, u)) rfl ?_
  obtain ⟨s4, hq, hP⟩ := g_b1 hP
  refine hG.2.2.2.1 _ _ _ [.ref 67, .int (l3 + x1), .int (l3 + x2), .int (((l1.toUInt32 >>> ((17 : Int32).toUInt32 &&& Int32.toUInt32 31)).toInt32) &&& (7 : Int32))] [] _ (gSh, s4, u) none _ _ _ _ _ _ rfl rfl rfl rfl rfl rfl (c_Placing_exchange E (d + 0) u (l3 + x1) (l3 + x2) (((l1.toUInt32 >>> ((17 : Int32).toUInt32 &&& Int32.toUInt32 31)).toInt32) &&& (7 : Int32)) _  hq) (Nat.le_refl _) (Nat.le_refl _) (Nat.le_refl _) (Nat.le_refl _) ?_
  show G (96, [some (.ref 67), some (.int l1), none, some (.int l3), some (.int y0), some (.int x1), some (.int x2)], [], (gSh, s4, u))
  cases hP
  exact hG.2.1 _ _ rfl rfl
def p_Placing_throwCoin_j28 (E : gEv) (l1 : Int32) (l2 : Int32) (y0 : Int32) (σ : gS) : Option (gS) :=
  if l2 = 0 then (p_Placing_throwCoin_j50 E l1 y0 (σ.1 1 4) σ) else (p_Placing_throwCoin_j50 E l1 y0 (σ.1 1 5) σ)
set_option maxRecDepth 20000 in
theorem j_Placing_throwCoin_j28 (E : gEv) (d u : Nat) {G : gFr → Prop} {sr : gS} (hG : gClo E gDf gP9 gY119 none (gC E gDf gMs (d + 3)) (none, (gSh, sr, u)) G) (l1 : Int32) (l2 : Int32) (y0 : Int32) (σ : gS) (hP : p_Placing_throwCoin_j28 E l1 l2 y0 σ = some sr) : G (28, [some (.ref 67), some (.int l1), some (.int l2), none, none, none, none], [.int y0], (gSh, σ, u)) := by
  unfold p_Placing_throwCoin_j28 at hP
  refine gRunN_ok hG.1 2 _ (30, [some (.ref 67), some (.int l1), some (.int l2), some (.int y0), none, none, none], [.int l2], (gSh, σ, u)) rfl ?_
  rcases g_ite hP with ⟨hc, hP⟩ | ⟨hc, hP⟩
  · refine hG.1 _ (43, [some (.ref 67), some (.int l1), some (.int l2), some (.int y0), none, none, none], [], (gSh, σ, u)) _ rfl (if_pos hc) ?_
    refine gRunN_ok hG.1 3 _ (50, [some (.ref 67), some (.int l1), some (.int l2), some (.int y0), none, none, none], [.int (σ.1 1 4)], (gSh, σ, u)) rfl ?_
    refine hG.2.2.2.2.1 _ _ [some (.ref 67), some (.int l1), none, some (.int y0), none, none, none] _ _ ⟨rfl, ⟨rfl, ⟨rfl, trivial⟩⟩⟩ ?_
    exact j_Placing_throwCoin_j50 E d u hG l1 y0 (σ.1 1 4) σ hP
  · refine hG.1 _ (33, [some (.ref 67), some (.int l1), some (.int l2), some (.int y0), none, none, none], [], (gSh, σ, u)) _ rfl (if_neg hc) ?_
    refine gRunN_ok hG.1 4 _ (50, [some (.ref 67), some (.int l1), some (.int l2), some (.int y0), none, none, none], [.int (σ.1 1 5)], (gSh, σ, u)) rfl ?_
    refine hG.2.2.2.2.1 _ _ [some (.ref 67), some (.int l1), none, some (.int y0), none, none, none] _ _ ⟨rfl, ⟨rfl, ⟨rfl, trivial⟩⟩⟩ ?_
    exact j_Placing_throwCoin_j50 E d u hG l1 y0 (σ.1 1 5) σ hP
def p_Placing_throwCoin_j12 (E : gEv) (l1 : Int32) (y0 : Int32) (σ : gS) : Option (gS) :=
  if y0 = 0 then (p_Placing_throwCoin_j28 E l1 y0 0 σ) else (p_Placing_throwCoin_j28 E l1 y0 (σ.1 1 4) σ)
set_option maxRecDepth 20000 in
theorem j_Placing_throwCoin_j12 (E : gEv) (d u : Nat) {G : gFr → Prop} {sr : gS} (hG : gClo E gDf gP9 gY119 none (gC E gDf gMs (d + 3)) (none, (gSh, sr, u)) G) (l1 : Int32) (y0 : Int32) (σ : gS) (hP : p_Placing_throwCoin_j12 E l1 y0 σ = some sr) : G (12, [some (.ref 67), some (.int l1), none, none, none, none, none], [.int y0], (gSh, σ, u)) := by
  unfold p_Placing_throwCoin_j12 at hP
  refine gRunN_ok hG.1 2 _ (14, [some (.ref 67), some (.int l1), some (.int y0), none, none, none, none], [.int y0], (gSh, σ, u)) rfl ?_
  rcases g_ite hP with ⟨hc, hP⟩ | ⟨hc, hP⟩
  · refine hG.1 _ (27, [some (.ref 67), some (.int l1), some (.int y0), none, none, none, none], [], (gSh, σ, u)) _ rfl (if_pos hc) ?_
    refine gRunN_ok hG.1 1 _ (28, [some (.ref 67), some (.int l1), some (.int y0), none, none, none, none], [.int 0], (gSh, σ, u)) rfl ?_
    exact j_Placing_throwCoin_j28 E d u hG l1 y0 0 σ hP
  · refine hG.1 _ (17, [some (.ref 67), some (.int l1), some (.int y0), none, none, none, none], [], (gSh, σ, u)) _ rfl (if_neg hc) ?_
    refine gRunN_ok hG.1 4 _ (28, [some (.ref 67), some (.int l1), some (.int y0), none, none, none, none], [.int (σ.1 1 4)], (gSh, σ, u)) rfl ?_
    exact j_Placing_throwCoin_j28 E d u hG l1 y0 (σ.1 1 4) σ hP
def p_Placing_throwCoin (E : gEv) (a0 : Int32) (σ : gS) : Option (gS) :=
  if (a0 &&& (1 : Int32)) = (1 : Int32) then (p_Placing_throwCoin_j12 E a0 1 σ) else (p_Placing_throwCoin_j12 E a0 0 σ)
set_option maxRecDepth 20000 in
theorem c_Placing_throwCoin (E : gEv) (d u : Nat) (a0 : Int32) (σ : gS) {sr : gS}  (hq : p_Placing_throwCoin E a0 σ = some sr) : gC E gDf gMs (d + 4) 119 [.ref 67, .int a0] (gSh, σ, u) (none, (gSh, sr, u)) := ⟨gM119, rfl, Nat.le_of_ble_eq_true rfl, fun G hG => by
  have hP := hq
  unfold p_Placing_throwCoin at hP
  replace hG : gClo E gDf gP9 gY119 none (gC E gDf gMs (d + 3)) (none, (gSh, sr, u)) G := hG
  show G (0, [some (.ref 67), some (.int a0), none, none, none, none, none], [], (gSh, σ, u))
  refine gRunN_ok hG.1 4 _ (4, [some (.ref 67), some (.int a0), none, none, none, none, none], [.int 1, .int (a0 &&& (1 : Int32))], (gSh, σ, u)) rfl ?_
  rcases g_ite hP with ⟨hc, hP⟩ | ⟨hc, hP⟩
  · refine hG.1 _ (7, [some (.ref 67), some (.int a0), none, none, none, none, none], [], (gSh, σ, u)) _ rfl (if_pos hc) ?_
    refine gRunN_ok hG.1 2 _ (12, [some (.ref 67), some (.int a0), none, none, none, none, none], [.int 1], (gSh, σ, u)) rfl ?_
    exact j_Placing_throwCoin_j12 E d u hG a0 1 σ hP
  · refine hG.1 _ (11, [some (.ref 67), some (.int a0), none, none, none, none, none], [], (gSh, σ, u)) _ rfl (if_neg hc) ?_
    refine gRunN_ok hG.1 1 _ (12, [some (.ref 67), some (.int a0), none, none, none, none, none], [.int 0], (gSh, σ, u)) rfl ?_
    exact j_Placing_throwCoin_j12 E d u hG a0 0 σ hP⟩
def p_Router_routeNet_33 (E : gEv) (l1 : Int32) (l2 : Int32) (l3 : Int32) (σ : gS) : Option ((Int32 × gS) ⊕ (gS)) :=
  if gIn (l1 + (1 : Int32)) (σ.2.1 62) then if (σ.1 62 (l1 + (1 : Int32)).toNatClampNeg) ≤ l3 then (some (.inr σ)) else (if gIn l3 (σ.2.1 64) then if gIn (σ.1 64 l3.toNatClampNeg) (σ.2.1 69) then gB2 (p_Router_search E l2 (σ.1 69 (σ.1 64 l3.toNatClampNeg).toNatClampNeg) σ) fun v5 s6 => if gIn l3 (s6.2.1 79) then gLet (gPut s6 79 l3.toNatClampNeg v5) fun s7 => if gIn l3 (s7.2.1 79) then gB1 (p_Router_walkBack E l1 l2 (s7.1 79 l3.toNatClampNeg) s7) fun s9 => gLet (l3 + 1) fun x10 => some (.inl (x10, s9)) else none else none else none else none) else none
set_option maxRecDepth 20000 in
theorem b_Router_routeNet_33 (E : gEv) (d u : Nat) {G : gFr → Prop} {vo : Option Value} {sr : gS} (hG : gClo E gDf gP10 gY123 none (gC E gDf gMs (d + 3)) (vo, (gSh, sr, u)) G) (l1 : Int32) (l2 : Int32) (l3 : Int32) (σ : gS) {r : (Int32 × gS) ⊕ (gS)} (hP : p_Router_routeNet_33 E l1 l2 l3 σ = some r) (K1 : ∀ (m3 : Int32) (σ1 : gS), r = .inl (m3, σ1) → G (33, [some (.ref 70), some (.int l1), some (.int l2), some (.int m3)], [], (gSh, σ1, u))) (K2 : ∀ (σ1 : gS), r = .inr σ1 → G (94, [none, none, none, none], [], (gSh, σ1, u))) : G (33, [some (.ref 70), some (.int l1), some (.int l2), some (.int l3)], [], (gSh, σ, u)) := by
  unfold p_Router_routeNet_33 at hP
  refine gRunN_ok hG.1 7 _ (44, [some (.ref 70), some (.int l1), some (.int l2), some (.int l3)], [.int (l1 + (1 : Int32)), .ref 62, .int l3], (gSh, σ, u)) rfl ?_
  obtain ⟨hc, hP⟩ := g_if hP
  refine hG.1 _ (45, [some (.ref 70), some (.int l1), some (.int l2), some (.int l3)], [.int (σ.1 62 (l1 + (1 : Int32)).toNatClampNeg), .int l3], (gSh, σ, u)) _ rfl (if_pos hc) ?_
  rcases g_ite hP with ⟨hc, hP⟩ | ⟨hc, hP⟩
  · refine hG.1 _ (94, [some (.ref 70), some (.int l1), some (.int l2), some (.int l3)], [], (gSh, σ, u)) _ rfl (if_pos hc) ?_
    refine hG.2.2.2.2.1 _ _ [none, none, none, none] _ _ trivial ?_
    cases hP
    exact K2 _ rfl
  · refine hG.1 _ (48, [some (.ref 70), some (.int l1), some (.int l2), some (.int l3)], [], (gSh, σ, u)) _ rfl (if_neg hc) ?_
    refine gRunN_ok hG.1 12 _ (70, [some (.ref 70), some (.int l1), some (.int l2), some (.int l3)], [.int l3, .ref 64, .ref 69, .int l2, .ref 70, .int l3, .ref 79], (gSh, σ, u)) rfl ?_
    obtain ⟨hc, hP⟩ := g_if hP
    refine hG.1 _ (71, [some (.ref 70), some (.int l1), some (.int l2), some (.int l3)], [.int (σ.1 64 l3.toNatClampNeg), .ref 69, .int l2, .ref 70, .int l3, .ref 79], (gSh, σ, u)) _ rfl (if_pos hc) ?_
    obtain ⟨hc, hP⟩ := g_if hP
    refine hG.1 _ (72, [some (.ref 70), some (.int l1), some (.int l2), some (.int l3)], [.int (σ.1 69 (σ.1 64 l3.toNatClampNeg).toNatClampNeg), .int l2, .ref 70, .int l3, .ref 79], (gSh, σ, u)) _ rfl (if_pos hc) ?_
    obtain ⟨v5, s6, hq, hP⟩ := g_b2 hP
    refine hG.2.2.2.1 _ _ _ [.ref 70, .int l2, .int (σ.1 69 (σ.1 64 l3.toNatClampNeg).toNatClampNeg)] [.int l3, .ref 79] _ (gSh, s6, u) (some (.int v5)) _ _ _ _ _ _ rfl rfl rfl rfl rfl rfl (c_Router_search E (d + 0) u l2 (σ.1 69 (σ.1 64 l3.toNatClampNeg).toNatClampNeg) _  hq) (Nat.le_refl _) (Nat.le_refl _) (Nat.le_refl _) (Nat.le_refl _) ?_
    show G (75, [some (.ref 70), some (.int l1), some (.int l2), some (.int l3)], [.int v5, .int l3, .ref 79], (gSh, s6, u))
    obtain ⟨hc, hP⟩ := g_if hP
    refine hG.1 _ (76, [some (.ref 70), some (.int l1), some (.int l2), some (.int l3)], [], (gSh, (gPut s6 79 l3.toNatClampNeg v5), u)) _ rfl (if_pos hc) ?_
    obtain ⟨s7, es7, hP⟩ := g_let hP
    rw [← es7]
    refine gRunN_ok hG.1 6 _ (84, [some (.ref 70), some (.int l1), some (.int l2), some (.int l3)], [.int l3, .ref 79, .int l2, .int l1, .ref 70], (gSh, s7, u)) rfl ?_
    obtain ⟨hc, hP⟩ := g_if hP
    refine hG.1 _ (85, [some (.ref 70), some (.int l1), some (.int l2), some (.int l3)], [.int (s7.1 79 l3.toNatClampNeg), .int l2, .int l1, .ref 70], (gSh, s7, u)) _ rfl (if_pos hc) ?_
    obtain ⟨s9, hq, hP⟩ := g_b1 hP
    refine hG.2.2.2.1 _ _ _ [.ref 70, .int l1, .int l2, .int (s7.1 79 l3.toNatClampNeg)] [] _ (gSh, s9, u) none _ _ _ _ _ _ rfl rfl rfl rfl rfl rfl (c_Router_walkBack E (d + 1) u l1 l2 (s7.1 79 l3.toNatClampNeg) _  hq) (Nat.le_refl _) (Nat.le_refl _) (Nat.le_refl _) (Nat.le_refl _) ?_
    show G (88, [some (.ref 70), some (.int l1), some (.int l2), some (.int l3)], [], (gSh, s9, u))
    refine gRunN_ok hG.1 1 _ (91, [some (.ref 70), some (.int l1), some (.int l2), some (.int (l3 + 1))], [], (gSh, s9, u)) rfl ?_
    obtain ⟨x10, ex10, hP⟩ := g_let hP
    rw [← ex10]
    refine gRunN_ok hG.1 1 _ (33, [some (.ref 70), some (.int l1), some (.int l2), some (.int x10)], [], (gSh, s9, u)) rfl ?_
    cases hP
    exact K1 _ _ rfl
theorem l_Router_routeNet_33 (E : gEv) (d u : Nat) {G : gFr → Prop} {vo : Option Value} {sr : gS} (hG : gClo E gDf gP10 gY123 none (gC E gDf gMs (d + 3)) (vo, (gSh, sr, u)) G) (l1 : Int32) (l2 : Int32) : ∀ (n : Nat) (l3 : Int32) (σ : gS) (e : (gS)), gIter (fun z => p_Router_routeNet_33 E l1 l2 z.1 z.2) n (l3, σ) = some e → (∀ (σ1 : gS), e = σ1 → G (94, [none, none, none, none], [], (gSh, σ1, u))) → G (33, [some (.ref 70), some (.int l1), some (.int l2), some (.int l3)], [], (gSh, σ, u)) := by
  intro n
  induction n with
  | zero => intro l3 σ e h; cases h
  | succ n ih =>
    intro l3 σ e h K2
    rcases g_iter h with ⟨z, h1, h2⟩ | h1
    · exact b_Router_routeNet_33 E d u hG l1 l2 l3 σ h1 (fun n0 n1 hz => by cases hz; exact ih _ _ e h2 K2) (fun _ hz => by cases hz)
    · exact b_Router_routeNet_33 E d u hG l1 l2 l3 σ h1 (fun _ _ hz => by cases hz) (fun σ1 hz => K2 σ1 (by cases hz; rfl))
def p_Router_routeNet (E : gEv) (a0 : Int32) (σ : gS) : Option (gS) :=
  gB1 (p_Router_giveUp E a0 σ) fun s2 => if gIn a0 (s2.2.1 61) then if gIn (s2.1 61 a0.toNatClampNeg) (s2.2.1 69) then gLet (s2.1 69 (s2.1 61 a0.toNatClampNeg).toNatClampNeg) fun x3 => if gIn a0 (s2.2.1 62) then gLet (s2.1 62 a0.toNatClampNeg) fun x4 => gB1 (gIter (fun z => p_Router_routeNet_33 E a0 x3 z.1 z.2) gN (x4, s2)) fun e11 => (fun s12 => some s12) e11 else none else none else none
set_option maxRecDepth 20000 in
theorem c_Router_routeNet (E : gEv) (d u : Nat) (a0 : Int32) (σ : gS) {sr : gS}  (hq : p_Router_routeNet E a0 σ = some sr) : gC E gDf gMs (d + 4) 123 [.ref 70, .int a0] (gSh, σ, u) (none, (gSh, sr, u)) := ⟨gM123, rfl, Nat.le_of_ble_eq_true rfl, fun G hG => by
  have hP := hq
  unfold p_Router_routeNet at hP
  replace hG : gClo E gDf gP10 gY123 none (gC E gDf gMs (d + 3)) (none, (gSh, sr, u)) G := hG
  show G (0, [some (.ref 70), some (.int a0), none, none], [], (gSh, σ, u))
  refine gRunN_ok hG.1 2 _ (2, [some (.ref 70), some (.int a0), none, none], [.int a0, .ref 70], (gSh, σ, u)) rfl ?_
  obtain ⟨s2, hq, hP⟩ := g_b1 hP
  refine hG.2.2.2.1 _ _ _ [.ref 70, .int a0] [] _ (gSh, s2, u) none _ _ _ _ _ _ rfl rfl rfl rfl rfl rfl (c_Router_giveUp E (d + 2) u a0 _  hq) (Nat.le_refl _) (Nat.le_refl _) (Nat.le_refl _) (Nat.le_refl _) ?_
  show G (5, [some (.ref 70), some (.int a0), none, none], [], (gSh, s2, u))
  refine gRunN_ok hG.1 7 _ (20, [some (.ref 70), some (.int a0), none, none], [.int a0, .ref 61, .ref 69], (gSh, s2, u)) rfl ?_
  obtain ⟨hc, hP⟩ := g_if hP
  refine hG.1 _ (21, [some (.ref 70), some (.int a0), none, none], [.int (s2.1 61 a0.toNatClampNeg), .ref 69], (gSh, s2, u)) _ rfl (if_pos hc) ?_
  obtain ⟨hc, hP⟩ := g_if hP
  refine hG.1 _ (22, [some (.ref 70), some (.int a0), none, none], [.int (s2.1 69 (s2.1 61 a0.toNatClampNeg).toNatClampNeg)], (gSh, s2, u)) _ rfl (if_pos hc) ?_
  refine gRunN_ok hG.1 1 _ (23, [some (.ref 70), some (.int a0), some (.int (s2.1 69 (s2.1 61 a0.toNatClampNeg).toNatClampNeg)), none], [], (gSh, s2, u)) rfl ?_
  obtain ⟨x3, ex3, hP⟩ := g_let hP
  rw [← ex3]
  refine gRunN_ok hG.1 4 _ (31, [some (.ref 70), some (.int a0), some (.int x3), none], [.int a0, .ref 62], (gSh, s2, u)) rfl ?_
  obtain ⟨hc, hP⟩ := g_if hP
  refine hG.1 _ (32, [some (.ref 70), some (.int a0), some (.int x3), none], [.int (s2.1 62 a0.toNatClampNeg)], (gSh, s2, u)) _ rfl (if_pos hc) ?_
  refine gRunN_ok hG.1 1 _ (33, [some (.ref 70), some (.int a0), some (.int x3), some (.int (s2.1 62 a0.toNatClampNeg))], [], (gSh, s2, u)) rfl ?_
  obtain ⟨x4, ex4, hP⟩ := g_let hP
  rw [← ex4]
  obtain ⟨e11, hq, hP⟩ := g_b1 hP
  refine l_Router_routeNet_33 E d u hG a0 x3 gN x4 s2 _ hq (fun s12 he => ?_)
  · replace he := he.symm
    subst he
    try dsimp only [gSum] at hP
    cases hP
    exact hG.2.1 _ _ rfl rfl⟩
def p_Face_burn (E : gEv) (σ : gS) : Option (Int32 × gS) :=
  if (σ.1 70 15) = 0 then (some (0, σ)) else (gB1 (p_Field_erase E σ) fun s2 => gB1 (p_Packing_write E s2) fun s4 => gB1 (p_Router_write E s4) fun s6 => gB1 (p_Field_begin E s6) fun s8 => some (1, s8))
set_option maxRecDepth 20000 in
theorem c_Face_burn (E : gEv) (d u : Nat) (σ : gS) {v : Int32} {sr : gS}  (hq : p_Face_burn E σ = some (v, sr)) : gC E gDf gMs (d + 4) 139 [.ref 0] (gSh, σ, u) (some (.int v), (gSh, sr, u)) := ⟨gM139, rfl, Nat.le_of_ble_eq_true rfl, fun G hG => by
  have hP := hq
  unfold p_Face_burn at hP
  replace hG : gClo E gDf gP0 gY139 (some .boolean) (gC E gDf gMs (d + 3)) (some (.int v), (gSh, sr, u)) G := hG
  show G (0, [some (.ref 0)], [], (gSh, σ, u))
  refine gRunN_ok hG.1 3 _ (7, [some (.ref 0)], [.int (σ.1 70 15)], (gSh, σ, u)) rfl ?_
  rcases g_ite hP with ⟨hc, hP⟩ | ⟨hc, hP⟩
  · refine hG.1 _ (10, [some (.ref 0)], [], (gSh, σ, u)) _ rfl (if_pos hc) ?_
    refine gRunN_ok hG.1 1 _ (11, [some (.ref 0)], [.int 0], (gSh, σ, u)) rfl ?_
    cases hP
    exact hG.2.1 _ _ rfl rfl
  · refine hG.1 _ (12, [some (.ref 0)], [], (gSh, σ, u)) _ rfl (if_neg hc) ?_
    refine gRunN_ok hG.1 2 _ (16, [some (.ref 0)], [.ref 81], (gSh, σ, u)) rfl ?_
    obtain ⟨s2, hq, hP⟩ := g_b1 hP
    refine hG.2.2.2.1 _ _ _ [.ref 81] [] _ (gSh, s2, u) none _ _ _ _ _ _ rfl rfl rfl rfl rfl rfl (c_Field_erase E (d + 1) u _  hq) (Nat.le_refl _) (Nat.le_refl _) (Nat.le_refl _) (Nat.le_refl _) ?_
    show G (19, [some (.ref 0)], [], (gSh, s2, u))
    refine gRunN_ok hG.1 6 _ (31, [some (.ref 0)], [.ref 67, .ref 81, .ref 53], (gSh, s2, u)) rfl ?_
    obtain ⟨s4, hq, hP⟩ := g_b1 hP
    refine hG.2.2.2.1 _ _ _ [.ref 53, .ref 81, .ref 67] [] _ (gSh, s4, u) none _ _ _ _ _ _ rfl rfl rfl rfl rfl rfl (c_Packing_write E (d + 1) u _  hq) (Nat.le_refl _) (Nat.le_refl _) (Nat.le_refl _) (Nat.le_refl _) ?_
    show G (34, [some (.ref 0)], [], (gSh, s4, u))
    refine gRunN_ok hG.1 4 _ (42, [some (.ref 0)], [.ref 81, .ref 70], (gSh, s4, u)) rfl ?_
    obtain ⟨s6, hq, hP⟩ := g_b1 hP
    refine hG.2.2.2.1 _ _ _ [.ref 70, .ref 81] [] _ (gSh, s6, u) none _ _ _ _ _ _ rfl rfl rfl rfl rfl rfl (c_Router_write E (d + 0) u _  hq) (Nat.le_refl _) (Nat.le_refl _) (Nat.le_refl _) (Nat.le_refl _) ?_
    show G (45, [some (.ref 0)], [], (gSh, s6, u))
    refine gRunN_ok hG.1 2 _ (49, [some (.ref 0)], [.ref 81], (gSh, s6, u)) rfl ?_
    obtain ⟨s8, hq, hP⟩ := g_b1 hP
    refine hG.2.2.2.1 _ _ _ [.ref 81] [] _ (gSh, s8, u) none _ _ _ _ _ _ rfl rfl rfl rfl rfl rfl (c_Field_begin E (d + 2) u _  hq) (Nat.le_refl _) (Nat.le_refl _) (Nat.le_refl _) (Nat.le_refl _) ?_
    show G (52, [some (.ref 0)], [], (gSh, s8, u))
    refine gRunN_ok hG.1 1 _ (53, [some (.ref 0)], [.int 1], (gSh, s8, u)) rfl ?_
    cases hP
    exact hG.2.1 _ _ rfl rfl⟩
def p_Field_settle_j71_40 (E : gEv) (l1 : Int32) (y1 : Int32) (σ : gS) : Option ((Int32 × gS) ⊕ (gS)) :=
  if y1 = 0 ∨ y1 = 1 then gLet (gPut σ 81 16 y1) fun s11 => gLet (l1 + 1) fun x12 => some (.inl (x12, s11)) else none
set_option maxRecDepth 20000 in
theorem j_Field_settle_j71_40 (E : gEv) (d u : Nat) {G : gFr → Prop} {vo : Option Value} {sr : gS} (hG : gClo E gDf gP12 gY157 (some .boolean) (gC E gDf gMs (d + 3)) (vo, (gSh, sr, u)) G) (l1 : Int32) (y1 : Int32) (σ : gS) {r : (Int32 × gS) ⊕ (gS)} (hP : p_Field_settle_j71_40 E l1 y1 σ = some r) (K1 : ∀ (m1 : Int32) (σ1 : gS), r = .inl (m1, σ1) → G (40, [some (.ref 81), some (.int m1)], [], (gSh, σ1, u))) (K2 : ∀ (σ1 : gS), r = .inr σ1 → G (80, [some (.ref 81), none], [], (gSh, σ1, u))) : G (71, [some (.ref 81), some (.int l1)], [.int y1, .ref 81], (gSh, σ, u)) := by
  unfold p_Field_settle_j71_40 at hP
  obtain ⟨hc, hP⟩ := g_if hP
  refine hG.1 _ (74, [some (.ref 81), some (.int l1)], [], (gSh, (gPut σ 81 16 y1), u)) _ rfl (if_pos hc) ?_
  obtain ⟨s11, es11, hP⟩ := g_let hP
  rw [← es11]
  refine gRunN_ok hG.1 1 _ (77, [some (.ref 81), some (.int (l1 + 1))], [], (gSh, s11, u)) rfl ?_
  obtain ⟨x12, ex12, hP⟩ := g_let hP
  rw [← ex12]
  refine gRunN_ok hG.1 1 _ (40, [some (.ref 81), some (.int x12)], [], (gSh, s11, u)) rfl ?_
  cases hP
  exact K1 _ _ rfl
def p_Field_settle_40 (E : gEv) (l1 : Int32) (σ : gS) : Option ((Int32 × gS) ⊕ (gS)) :=
  if (σ.1 1 6) < l1 then (some (.inr σ)) else (if (σ.1 81 16) = 0 then (gB2 (p_Field_sweep E σ) fun v9 s10 => if v9 = 0 then (p_Field_settle_j71_40 E l1 1 s10) else (p_Field_settle_j71_40 E l1 0 s10)) else (some (.inr σ)))
set_option maxRecDepth 20000 in
theorem b_Field_settle_40 (E : gEv) (d u : Nat) {G : gFr → Prop} {vo : Option Value} {sr : gS} (hG : gClo E gDf gP12 gY157 (some .boolean) (gC E gDf gMs (d + 3)) (vo, (gSh, sr, u)) G) (l1 : Int32) (σ : gS) {r : (Int32 × gS) ⊕ (gS)} (hP : p_Field_settle_40 E l1 σ = some r) (K1 : ∀ (m1 : Int32) (σ1 : gS), r = .inl (m1, σ1) → G (40, [some (.ref 81), some (.int m1)], [], (gSh, σ1, u))) (K2 : ∀ (σ1 : gS), r = .inr σ1 → G (80, [some (.ref 81), none], [], (gSh, σ1, u))) : G (40, [some (.ref 81), some (.int l1)], [], (gSh, σ, u)) := by
  unfold p_Field_settle_40 at hP
  refine gRunN_ok hG.1 4 _ (48, [some (.ref 81), some (.int l1)], [.int (σ.1 1 6), .int l1], (gSh, σ, u)) rfl ?_
  rcases g_ite hP with ⟨hc, hP⟩ | ⟨hc, hP⟩
  · refine hG.1 _ (80, [some (.ref 81), some (.int l1)], [], (gSh, σ, u)) _ rfl (if_pos hc) ?_
    refine hG.2.2.2.2.1 _ _ [some (.ref 81), none] _ _ ⟨rfl, trivial⟩ ?_
    cases hP
    exact K2 _ rfl
  · refine hG.1 _ (51, [some (.ref 81), some (.int l1)], [], (gSh, σ, u)) _ rfl (if_neg hc) ?_
    refine gRunN_ok hG.1 2 _ (55, [some (.ref 81), some (.int l1)], [.int (σ.1 81 16)], (gSh, σ, u)) rfl ?_
    rcases g_ite hP with ⟨hc, hP⟩ | ⟨hc, hP⟩
    · refine hG.1 _ (58, [some (.ref 81), some (.int l1)], [], (gSh, σ, u)) _ rfl (if_pos hc) ?_
      refine gRunN_ok hG.1 2 _ (60, [some (.ref 81), some (.int l1)], [.ref 81, .ref 81], (gSh, σ, u)) rfl ?_
      obtain ⟨v9, s10, hq, hP⟩ := g_b2 hP
      refine hG.2.2.2.1 _ _ _ [.ref 81] [.ref 81] _ (gSh, s10, u) (some (.int v9)) _ _ _ _ _ _ rfl rfl rfl rfl rfl rfl (c_Field_sweep E (d + 1) u _  hq) (Nat.le_refl _) (Nat.le_refl _) (Nat.le_refl _) (Nat.le_refl _) ?_
      show G (63, [some (.ref 81), some (.int l1)], [.int v9, .ref 81], (gSh, s10, u))
      rcases g_ite hP with ⟨hc, hP⟩ | ⟨hc, hP⟩
      · refine hG.1 _ (66, [some (.ref 81), some (.int l1)], [.ref 81], (gSh, s10, u)) _ rfl (if_pos hc) ?_
        refine gRunN_ok hG.1 2 _ (71, [some (.ref 81), some (.int l1)], [.int 1, .ref 81], (gSh, s10, u)) rfl ?_
        exact j_Field_settle_j71_40 E d u hG l1 1 s10 hP K1 K2
      · refine hG.1 _ (70, [some (.ref 81), some (.int l1)], [.ref 81], (gSh, s10, u)) _ rfl (if_neg hc) ?_
        refine gRunN_ok hG.1 1 _ (71, [some (.ref 81), some (.int l1)], [.int 0, .ref 81], (gSh, s10, u)) rfl ?_
        exact j_Field_settle_j71_40 E d u hG l1 0 s10 hP K1 K2
    · refine hG.1 _ (80, [some (.ref 81), some (.int l1)], [], (gSh, σ, u)) _ rfl (if_neg hc) ?_
      refine hG.2.2.2.2.1 _ _ [some (.ref 81), none] _ _ ⟨rfl, trivial⟩ ?_
      cases hP
      exact K2 _ rfl
theorem l_Field_settle_40 (E : gEv) (d u : Nat) {G : gFr → Prop} {vo : Option Value} {sr : gS} (hG : gClo E gDf gP12 gY157 (some .boolean) (gC E gDf gMs (d + 3)) (vo, (gSh, sr, u)) G) : ∀ (n : Nat) (l1 : Int32) (σ : gS) (e : (gS)), gIter (fun z => p_Field_settle_40 E z.1 z.2) n (l1, σ) = some e → (∀ (σ1 : gS), e = σ1 → G (80, [some (.ref 81), none], [], (gSh, σ1, u))) → G (40, [some (.ref 81), some (.int l1)], [], (gSh, σ, u)) := by
  intro n
  induction n with
  | zero => intro l1 σ e h; cases h
  | succ n ih =>
    intro l1 σ e h K2
    rcases g_iter h with ⟨z, h1, h2⟩ | h1
    · exact b_Field_settle_40 E d u hG l1 σ h1 (fun n0 n1 hz => by cases hz; exact ih _ _ e h2 K2) (fun _ hz => by cases hz)
    · exact b_Field_settle_40 E d u hG l1 σ h1 (fun _ _ hz => by cases hz) (fun σ1 hz => K2 σ1 (by cases hz; rfl))
def p_Field_settle (E : gEv) (σ : gS) : Option (Int32 × gS) :=
  gB1 (p_Field_wire E σ) fun s2 => if (s2.1 81 15) = 0 then (gLet (gPut s2 81 15 1) fun s3 => gB1 (p_Arrays_fillB E 85 0 s3) fun s5 => gB1 (p_Field_setBase E s5) fun s7 => gLet (gPut s7 81 16 0) fun s8 => gB1 (gIter (fun z => p_Field_settle_40 E z.1 z.2) gN (0, s8)) fun e13 => (fun s14 => if (s14.1 81 16) = 0 ∨ (s14.1 81 16) = 1 then some (s14.1 81 16, s14) else none) e13) else (if (s2.1 81 16) = 0 ∨ (s2.1 81 16) = 1 then some (s2.1 81 16, s2) else none)
set_option maxRecDepth 20000 in
theorem c_Field_settle (E : gEv) (d u : Nat) (σ : gS) {v : Int32} {sr : gS}  (hq : p_Field_settle E σ = some (v, sr)) : gC E gDf gMs (d + 4) 157 [.ref 81] (gSh, σ, u) (some (.int v), (gSh, sr, u)) := ⟨gM157, rfl, Nat.le_of_ble_eq_true rfl, fun G hG => by
  have hP := hq
  unfold p_Field_settle at hP
  replace hG : gClo E gDf gP12 gY157 (some .boolean) (gC E gDf gMs (d + 3)) (some (.int v), (gSh, sr, u)) G := hG
  show G (0, [some (.ref 81), none], [], (gSh, σ, u))
  refine gRunN_ok hG.1 1 _ (1, [some (.ref 81), none], [.ref 81], (gSh, σ, u)) rfl ?_
  obtain ⟨s2, hq, hP⟩ := g_b1 hP
  refine hG.2.2.2.1 _ _ _ [.ref 81] [] _ (gSh, s2, u) none _ _ _ _ _ _ rfl rfl rfl rfl rfl rfl (c_Field_wire E (d + 0) u _  hq) (Nat.le_refl _) (Nat.le_refl _) (Nat.le_refl _) (Nat.le_refl _) ?_
  show G (4, [some (.ref 81), none], [], (gSh, s2, u))
  refine gRunN_ok hG.1 2 _ (8, [some (.ref 81), none], [.int (s2.1 81 15)], (gSh, s2, u)) rfl ?_
  rcases g_ite hP with ⟨hc, hP⟩ | ⟨hc, hP⟩
  · refine hG.1 _ (16, [some (.ref 81), none], [], (gSh, s2, u)) _ rfl (if_pos hc) ?_
    refine gRunN_ok hG.1 3 _ (21, [some (.ref 81), none], [], (gSh, (gPut s2 81 15 1), u)) rfl ?_
    obtain ⟨s3, es3, hP⟩ := g_let hP
    rw [← es3]
    refine gRunN_ok hG.1 3 _ (26, [some (.ref 81), none], [.int 0, .ref 85], (gSh, s3, u)) rfl ?_
    obtain ⟨s5, hq, hP⟩ := g_b1 hP
    refine hG.2.2.2.1 _ _ _ [.ref 85, .int 0] [] _ (gSh, s5, u) none _ _ _ _ _ _ rfl rfl rfl rfl rfl rfl (c_Arrays_fillB E (d + 2) u 85 0 _ rfl hq) (Nat.le_refl _) (Nat.le_refl _) (Nat.le_refl _) (Nat.le_refl _) ?_
    show G (29, [some (.ref 81), none], [], (gSh, s5, u))
    refine gRunN_ok hG.1 1 _ (30, [some (.ref 81), none], [.ref 81], (gSh, s5, u)) rfl ?_
    obtain ⟨s7, hq, hP⟩ := g_b1 hP
    refine hG.2.2.2.1 _ _ _ [.ref 81] [] _ (gSh, s7, u) none _ _ _ _ _ _ rfl rfl rfl rfl rfl rfl (c_Field_setBase E (d + 0) u _  hq) (Nat.le_refl _) (Nat.le_refl _) (Nat.le_refl _) (Nat.le_refl _) ?_
    show G (33, [some (.ref 81), none], [], (gSh, s7, u))
    refine gRunN_ok hG.1 3 _ (38, [some (.ref 81), none], [], (gSh, (gPut s7 81 16 0), u)) rfl ?_
    obtain ⟨s8, es8, hP⟩ := g_let hP
    rw [← es8]
    refine gRunN_ok hG.1 2 _ (40, [some (.ref 81), some (.int 0)], [], (gSh, s8, u)) rfl ?_
    obtain ⟨e13, hq, hP⟩ := g_b1 hP
    refine l_Field_settle_40 E d u hG gN 0 s8 _ hq (fun s14 he => ?_)
    · replace he := he.symm
      subst he
      try dsimp only [gSum] at hP
      refine gRunN_ok hG.1 2 _ (84, [some (.ref 81), none], [.int (s14.1 81 16)], (gSh, s14, u)) rfl ?_
      obtain ⟨hc, hP⟩ := g_if hP
      cases hP
      exact hG.2.1 _ _ rfl (if_pos hc)
  · refine hG.1 _ (11, [some (.ref 81), none], [], (gSh, s2, u)) _ rfl (if_neg hc) ?_
    refine gRunN_ok hG.1 2 _ (15, [some (.ref 81), none], [.int (s2.1 81 16)], (gSh, s2, u)) rfl ?_
    obtain ⟨hc, hP⟩ := g_if hP
    cases hP
    exact hG.2.1 _ _ rfl (if_pos hc)⟩
def p_Circuit_run_12 (E : gEv) (l1 : Int32) (l2 : Int32) (σ : gS) : Option ((Int32 × gS) ⊕ ((gS) ⊕ (gS))) :=
  if l1 ≤ l2 then (some (.inr (.inr σ))) else (gB2 (p_Circuit_runOnce E σ) fun v2 s3 => if v2 = 0 then (some (.inr (.inl s3))) else (gLet (l2 + 1) fun x4 => some (.inl (x4, s3))))
set_option maxRecDepth 20000 in
theorem b_Circuit_run_12 (E : gEv) (d u : Nat) {G : gFr → Prop} {vo : Option Value} {sr : gS} (hG : gClo E gDf gP6 gY179 none (gC E gDf gMs (d + 3)) (vo, (gSh, sr, u)) G) (l1 : Int32) (l2 : Int32) (σ : gS) {r : (Int32 × gS) ⊕ ((gS) ⊕ (gS))} (hP : p_Circuit_run_12 E l1 l2 σ = some r) (K1 : ∀ (m2 : Int32) (σ1 : gS), r = .inl (m2, σ1) → G (12, [some (.ref 30), some (.int l1), some (.int m2)], [], (gSh, σ1, u))) (K2 : ∀ (σ1 : gS), r = .inr (.inl σ1) → G (24, [none, none, none], [], (gSh, σ1, u))) (K3 : ∀ (σ1 : gS), r = .inr (.inr σ1) → G (31, [none, none, none], [], (gSh, σ1, u))) : G (12, [some (.ref 30), some (.int l1), some (.int l2)], [], (gSh, σ, u)) := by
  unfold p_Circuit_run_12 at hP
  refine gRunN_ok hG.1 2 _ (14, [some (.ref 30), some (.int l1), some (.int l2)], [.int l1, .int l2], (gSh, σ, u)) rfl ?_
  rcases g_ite hP with ⟨hc, hP⟩ | ⟨hc, hP⟩
  · refine hG.1 _ (31, [some (.ref 30), some (.int l1), some (.int l2)], [], (gSh, σ, u)) _ rfl (if_pos hc) ?_
    refine hG.2.2.2.2.1 _ _ [none, none, none] _ _ trivial ?_
    cases hP
    exact K3 _ rfl
  · refine hG.1 _ (17, [some (.ref 30), some (.int l1), some (.int l2)], [], (gSh, σ, u)) _ rfl (if_neg hc) ?_
    refine gRunN_ok hG.1 1 _ (18, [some (.ref 30), some (.int l1), some (.int l2)], [.ref 30], (gSh, σ, u)) rfl ?_
    obtain ⟨v2, s3, hq, hP⟩ := g_b2 hP
    refine hG.2.2.2.1 _ _ _ [.ref 30] [] _ (gSh, s3, u) (some (.int v2)) _ _ _ _ _ _ rfl rfl rfl rfl rfl rfl (c_Circuit_runOnce E (d + 0) u _  hq) (Nat.le_refl _) (Nat.le_refl _) (Nat.le_refl _) (Nat.le_refl _) ?_
    show G (21, [some (.ref 30), some (.int l1), some (.int l2)], [.int v2], (gSh, s3, u))
    rcases g_ite hP with ⟨hc, hP⟩ | ⟨hc, hP⟩
    · refine hG.1 _ (24, [some (.ref 30), some (.int l1), some (.int l2)], [], (gSh, s3, u)) _ rfl (if_pos hc) ?_
      refine hG.2.2.2.2.1 _ _ [none, none, none] _ _ trivial ?_
      cases hP
      exact K2 _ rfl
    · refine hG.1 _ (25, [some (.ref 30), some (.int l1), some (.int l2)], [], (gSh, s3, u)) _ rfl (if_neg hc) ?_
      refine gRunN_ok hG.1 1 _ (28, [some (.ref 30), some (.int l1), some (.int (l2 + 1))], [], (gSh, s3, u)) rfl ?_
      obtain ⟨x4, ex4, hP⟩ := g_let hP
      rw [← ex4]
      refine gRunN_ok hG.1 1 _ (12, [some (.ref 30), some (.int l1), some (.int x4)], [], (gSh, s3, u)) rfl ?_
      cases hP
      exact K1 _ _ rfl
theorem l_Circuit_run_12 (E : gEv) (d u : Nat) {G : gFr → Prop} {vo : Option Value} {sr : gS} (hG : gClo E gDf gP6 gY179 none (gC E gDf gMs (d + 3)) (vo, (gSh, sr, u)) G) (l1 : Int32) : ∀ (n : Nat) (l2 : Int32) (σ : gS) (e : ((gS) ⊕ (gS))), gIter (fun z => p_Circuit_run_12 E l1 z.1 z.2) n (l2, σ) = some e → (∀ (σ1 : gS), e = (.inl σ1) → G (24, [none, none, none], [], (gSh, σ1, u))) → (∀ (σ1 : gS), e = (.inr σ1) → G (31, [none, none, none], [], (gSh, σ1, u))) → G (12, [some (.ref 30), some (.int l1), some (.int l2)], [], (gSh, σ, u)) := by
  intro n
  induction n with
  | zero => intro l2 σ e h; cases h
  | succ n ih =>
    intro l2 σ e h K2 K3
    rcases g_iter h with ⟨z, h1, h2⟩ | h1
    · exact b_Circuit_run_12 E d u hG l1 l2 σ h1 (fun n0 n1 hz => by cases hz; exact ih _ _ e h2 K2 K3) (fun _ hz => by cases hz) (fun _ hz => by cases hz)
    · exact b_Circuit_run_12 E d u hG l1 l2 σ h1 (fun _ _ hz => by cases hz) (fun σ1 hz => K2 σ1 (by cases hz; rfl)) (fun σ1 hz => K3 σ1 (by cases hz; rfl))
def p_Circuit_run (E : gEv) (a0 : Int32) (σ : gS) : Option (gS) :=
  gLet (gPut σ 30 14 ((σ.1 30 14) + a0)) fun s1 => gB1 (gIter (fun z => p_Circuit_run_12 E a0 z.1 z.2) gN (0, s1)) fun e5 => gSum e5 (fun e8 => (fun s6 => some s6) e8) (fun e9 => (fun s7 => some s7) e9)
set_option maxRecDepth 20000 in
theorem c_Circuit_run (E : gEv) (d u : Nat) (a0 : Int32) (σ : gS) {sr : gS}  (hq : p_Circuit_run E a0 σ = some sr) : gC E gDf gMs (d + 4) 179 [.ref 30, .int a0] (gSh, σ, u) (none, (gSh, sr, u)) := ⟨gM179, rfl, Nat.le_of_ble_eq_true rfl, fun G hG => by
  have hP := hq
  unfold p_Circuit_run at hP
  replace hG : gClo E gDf gP6 gY179 none (gC E gDf gMs (d + 3)) (none, (gSh, sr, u)) G := hG
  show G (0, [some (.ref 30), some (.int a0), none], [], (gSh, σ, u))
  refine gRunN_ok hG.1 6 _ (10, [some (.ref 30), some (.int a0), none], [], (gSh, (gPut σ 30 14 ((σ.1 30 14) + a0)), u)) rfl ?_
  obtain ⟨s1, es1, hP⟩ := g_let hP
  rw [← es1]
  refine gRunN_ok hG.1 2 _ (12, [some (.ref 30), some (.int a0), some (.int 0)], [], (gSh, s1, u)) rfl ?_
  obtain ⟨e5, hq, hP⟩ := g_b1 hP
  refine l_Circuit_run_12 E d u hG a0 gN 0 s1 _ hq (fun s6 he => ?_) (fun s7 he => ?_)
  · subst he
    try dsimp only [gSum] at hP
    cases hP
    exact hG.2.1 _ _ rfl rfl
  · subst he
    try dsimp only [gSum] at hP
    cases hP
    exact hG.2.1 _ _ rfl rfl⟩
def p_Face_value (E : gEv) (a0 : Int32) (σ : gS) : Option (Int32 × gS) :=
  gB2 (p_Circuit_valueOf E a0 σ) fun v1 s2 => some (v1, s2)
set_option maxRecDepth 20000 in
theorem c_Face_value (E : gEv) (d u : Nat) (a0 : Int32) (σ : gS) {v : Int32} {sr : gS}  (hq : p_Face_value E a0 σ = some (v, sr)) : gC E gDf gMs (d + 4) 183 [.ref 0, .int a0] (gSh, σ, u) (some (.int v), (gSh, sr, u)) := ⟨gM183, rfl, Nat.le_of_ble_eq_true rfl, fun G hG => by
  have hP := hq
  unfold p_Face_value at hP
  replace hG : gClo E gDf gP0 gY183 (some .int) (gC E gDf gMs (d + 3)) (some (.int v), (gSh, sr, u)) G := hG
  show G (0, [some (.ref 0), some (.int a0)], [], (gSh, σ, u))
  refine gRunN_ok hG.1 3 _ (5, [some (.ref 0), some (.int a0)], [.int a0, .ref 30], (gSh, σ, u)) rfl ?_
  obtain ⟨v1, s2, hq, hP⟩ := g_b2 hP
  refine hG.2.2.2.1 _ _ _ [.ref 30, .int a0] [] _ (gSh, s2, u) (some (.int v1)) _ _ _ _ _ _ rfl rfl rfl rfl rfl rfl (c_Circuit_valueOf E (d + 0) u a0 _  hq) (Nat.le_refl _) (Nat.le_refl _) (Nat.le_refl _) (Nat.le_refl _) ?_
  show G (8, [some (.ref 0), some (.int a0)], [.int v1], (gSh, s2, u))
  cases hP
  exact hG.2.1 _ _ rfl rfl⟩
def p_Face_out (E : gEv) (a0 : Int32) (σ : gS) : Option (Int32 × gS) :=
  if a0 < 0 then (some ((-1), σ)) else (if a0 < (σ.1 30 13) then (if gIn a0 (σ.2.1 39) then gB2 (p_Circuit_valueOf E (σ.1 39 a0.toNatClampNeg) σ) fun v1 s2 => some (v1, s2) else none) else (some ((-1), σ)))
set_option maxRecDepth 20000 in
theorem c_Face_out (E : gEv) (d u : Nat) (a0 : Int32) (σ : gS) {v : Int32} {sr : gS}  (hq : p_Face_out E a0 σ = some (v, sr)) : gC E gDf gMs (d + 4) 185 [.ref 0, .int a0] (gSh, σ, u) (some (.int v), (gSh, sr, u)) := ⟨gM185, rfl, Nat.le_of_ble_eq_true rfl, fun G hG => by
  have hP := hq
  unfold p_Face_out at hP
  replace hG : gClo E gDf gP0 gY185 (some .int) (gC E gDf gMs (d + 3)) (some (.int v), (gSh, sr, u)) G := hG
  show G (0, [some (.ref 0), some (.int a0)], [], (gSh, σ, u))
  refine gRunN_ok hG.1 1 _ (1, [some (.ref 0), some (.int a0)], [.int a0], (gSh, σ, u)) rfl ?_
  rcases g_ite hP with ⟨hc, hP⟩ | ⟨hc, hP⟩
  · refine hG.1 _ (15, [some (.ref 0), some (.int a0)], [], (gSh, σ, u)) _ rfl (if_pos hc) ?_
    refine gRunN_ok hG.1 2 _ (35, [some (.ref 0), some (.int a0)], [.int (-1)], (gSh, σ, u)) rfl ?_
    cases hP
    exact hG.2.1 _ _ rfl rfl
  · refine hG.1 _ (4, [some (.ref 0), some (.int a0)], [], (gSh, σ, u)) _ rfl (if_neg hc) ?_
    refine gRunN_ok hG.1 4 _ (12, [some (.ref 0), some (.int a0)], [.int (σ.1 30 13), .int a0], (gSh, σ, u)) rfl ?_
    rcases g_ite hP with ⟨hc, hP⟩ | ⟨hc, hP⟩
    · refine hG.1 _ (19, [some (.ref 0), some (.int a0)], [], (gSh, σ, u)) _ rfl (if_pos hc) ?_
      refine gRunN_ok hG.1 6 _ (31, [some (.ref 0), some (.int a0)], [.int a0, .ref 39, .ref 30], (gSh, σ, u)) rfl ?_
      obtain ⟨hc, hP⟩ := g_if hP
      refine hG.1 _ (32, [some (.ref 0), some (.int a0)], [.int (σ.1 39 a0.toNatClampNeg), .ref 30], (gSh, σ, u)) _ rfl (if_pos hc) ?_
      obtain ⟨v1, s2, hq, hP⟩ := g_b2 hP
      refine hG.2.2.2.1 _ _ _ [.ref 30, .int (σ.1 39 a0.toNatClampNeg)] [] _ (gSh, s2, u) (some (.int v1)) _ _ _ _ _ _ rfl rfl rfl rfl rfl rfl (c_Circuit_valueOf E (d + 0) u (σ.1 39 a0.toNatClampNeg) _  hq) (Nat.le_refl _) (Nat.le_refl _) (Nat.le_refl _) (Nat.le_refl _) ?_
      show G (35, [some (.ref 0), some (.int a0)], [.int v1], (gSh, s2, u))
      cases hP
      exact hG.2.1 _ _ rfl rfl
    · refine hG.1 _ (15, [some (.ref 0), some (.int a0)], [], (gSh, σ, u)) _ rfl (if_neg hc) ?_
      refine gRunN_ok hG.1 2 _ (35, [some (.ref 0), some (.int a0)], [.int (-1)], (gSh, σ, u)) rfl ?_
      cases hP
      exact hG.2.1 _ _ rfl rfl⟩
def p_Model_pack_j36_10 (E : gEv) (l1 : Int32) (y1 : Int32) (y2 : Int32) (σ : gS) : Option ((Int32 × gS) ⊕ (gS)) :=
  gLet (gPut σ 94 55 (y1 + y2)) fun s4 => gLet (l1 + 1) fun x5 => some (.inl (x5, s4))
set_option maxRecDepth 20000 in
theorem j_Model_pack_j36_10 (E : gEv) (d u : Nat) {G : gFr → Prop} {vo : Option Value} {sr : gS} (hG : gClo E gDf gP18 gY216 none (gC E gDf gMs (d + 3)) (vo, (gSh, sr, u)) G) (l1 : Int32) (y1 : Int32) (y2 : Int32) (σ : gS) {r : (Int32 × gS) ⊕ (gS)} (hP : p_Model_pack_j36_10 E l1 y1 y2 σ = some r) (K1 : ∀ (m1 : Int32) (σ1 : gS), r = .inl (m1, σ1) → G (10, [some (.ref 94), some (.int m1), none, none], [], (gSh, σ1, u))) (K2 : ∀ (σ1 : gS), r = .inr σ1 → G (46, [some (.ref 94), none, none, none], [], (gSh, σ1, u))) : G (36, [some (.ref 94), some (.int l1), none, none], [.int y2, .int y1, .ref 94], (gSh, σ, u)) := by
  unfold p_Model_pack_j36_10 at hP
  refine gRunN_ok hG.1 2 _ (40, [some (.ref 94), some (.int l1), none, none], [], (gSh, (gPut σ 94 55 (y1 + y2)), u)) rfl ?_
  obtain ⟨s4, es4, hP⟩ := g_let hP
  rw [← es4]
  refine gRunN_ok hG.1 1 _ (43, [some (.ref 94), some (.int (l1 + 1)), none, none], [], (gSh, s4, u)) rfl ?_
  obtain ⟨x5, ex5, hP⟩ := g_let hP
  rw [← ex5]
  refine gRunN_ok hG.1 1 _ (10, [some (.ref 94), some (.int x5), none, none], [], (gSh, s4, u)) rfl ?_
  cases hP
  exact K1 _ _ rfl
def p_Model_pack_10 (E : gEv) (l1 : Int32) (σ : gS) : Option ((Int32 × gS) ⊕ (gS)) :=
  if (σ.1 94 31) ≤ l1 then (some (.inr σ)) else (gB1 (p_Model_inLut E l1 σ) fun v2 => if v2 = 0 then (p_Model_pack_j36_10 E l1 (σ.1 94 55) 1 σ) else (p_Model_pack_j36_10 E l1 (σ.1 94 55) 0 σ))
set_option maxRecDepth 20000 in
theorem b_Model_pack_10 (E : gEv) (d u : Nat) {G : gFr → Prop} {vo : Option Value} {sr : gS} (hG : gClo E gDf gP18 gY216 none (gC E gDf gMs (d + 3)) (vo, (gSh, sr, u)) G) (l1 : Int32) (σ : gS) {r : (Int32 × gS) ⊕ (gS)} (hP : p_Model_pack_10 E l1 σ = some r) (K1 : ∀ (m1 : Int32) (σ1 : gS), r = .inl (m1, σ1) → G (10, [some (.ref 94), some (.int m1), none, none], [], (gSh, σ1, u))) (K2 : ∀ (σ1 : gS), r = .inr σ1 → G (46, [some (.ref 94), none, none, none], [], (gSh, σ1, u))) : G (10, [some (.ref 94), some (.int l1), none, none], [], (gSh, σ, u)) := by
  unfold p_Model_pack_10 at hP
  refine gRunN_ok hG.1 3 _ (15, [some (.ref 94), some (.int l1), none, none], [.int (σ.1 94 31), .int l1], (gSh, σ, u)) rfl ?_
  rcases g_ite hP with ⟨hc, hP⟩ | ⟨hc, hP⟩
  · refine hG.1 _ (46, [some (.ref 94), some (.int l1), none, none], [], (gSh, σ, u)) _ rfl (if_pos hc) ?_
    refine hG.2.2.2.2.1 _ _ [some (.ref 94), none, none, none] _ _ ⟨rfl, trivial⟩ ?_
    cases hP
    exact K2 _ rfl
  · refine hG.1 _ (18, [some (.ref 94), some (.int l1), none, none], [], (gSh, σ, u)) _ rfl (if_neg hc) ?_
    refine gRunN_ok hG.1 5 _ (25, [some (.ref 94), some (.int l1), none, none], [.int l1, .ref 94, .int (σ.1 94 55), .ref 94], (gSh, σ, u)) rfl ?_
    obtain ⟨v2, hq, hP⟩ := g_b1 hP
    refine hG.2.2.2.1 _ _ _ [.ref 94, .int l1] [.int (σ.1 94 55), .ref 94] _ (gSh, σ, u) (some (.int v2)) _ _ _ _ _ _ rfl rfl rfl rfl rfl rfl (c_Model_inLut E (d + 0) u l1 _  hq) (Nat.le_refl _) (Nat.le_refl _) (Nat.le_refl _) (Nat.le_refl _) ?_
    show G (28, [some (.ref 94), some (.int l1), none, none], [.int v2, .int (σ.1 94 55), .ref 94], (gSh, σ, u))
    rcases g_ite hP with ⟨hc, hP⟩ | ⟨hc, hP⟩
    · refine hG.1 _ (35, [some (.ref 94), some (.int l1), none, none], [.int (σ.1 94 55), .ref 94], (gSh, σ, u)) _ rfl (if_pos hc) ?_
      refine gRunN_ok hG.1 1 _ (36, [some (.ref 94), some (.int l1), none, none], [.int 1, .int (σ.1 94 55), .ref 94], (gSh, σ, u)) rfl ?_
      exact j_Model_pack_j36_10 E d u hG l1 (σ.1 94 55) 1 σ hP K1 K2
    · refine hG.1 _ (31, [some (.ref 94), some (.int l1), none, none], [.int (σ.1 94 55), .ref 94], (gSh, σ, u)) _ rfl (if_neg hc) ?_
      refine gRunN_ok hG.1 2 _ (36, [some (.ref 94), some (.int l1), none, none], [.int 0, .int (σ.1 94 55), .ref 94], (gSh, σ, u)) rfl ?_
      exact j_Model_pack_j36_10 E d u hG l1 (σ.1 94 55) 0 σ hP K1 K2
theorem l_Model_pack_10 (E : gEv) (d u : Nat) {G : gFr → Prop} {vo : Option Value} {sr : gS} (hG : gClo E gDf gP18 gY216 none (gC E gDf gMs (d + 3)) (vo, (gSh, sr, u)) G) : ∀ (n : Nat) (l1 : Int32) (σ : gS) (e : (gS)), gIter (fun z => p_Model_pack_10 E z.1 z.2) n (l1, σ) = some e → (∀ (σ1 : gS), e = σ1 → G (46, [some (.ref 94), none, none, none], [], (gSh, σ1, u))) → G (10, [some (.ref 94), some (.int l1), none, none], [], (gSh, σ, u)) := by
  intro n
  induction n with
  | zero => intro l1 σ e h; cases h
  | succ n ih =>
    intro l1 σ e h K2
    rcases g_iter h with ⟨z, h1, h2⟩ | h1
    · exact b_Model_pack_10 E d u hG l1 σ h1 (fun n0 n1 hz => by cases hz; exact ih _ _ e h2 K2) (fun _ hz => by cases hz)
    · exact b_Model_pack_10 E d u hG l1 σ h1 (fun _ _ hz => by cases hz) (fun σ1 hz => K2 σ1 (by cases hz; rfl))
def p_Model_pack_96 (E : gEv) (l1 : Int32) (l2 : Int32) (σ : gS) : Option ((Int32 × gS) ⊕ (gS)) :=
  if (4 : Int32) ≤ l2 then (some (.inr σ)) else (if gIn (((4 : Int32) * l1) + l2) (σ.2.1 117) then if gIn (((4 : Int32) * l1) + l2) (σ.2.1 126) then gLet (gPut σ 126 (((4 : Int32) * l1) + l2).toNatClampNeg (σ.1 117 (((4 : Int32) * l1) + l2).toNatClampNeg)) fun s10 => gLet (l2 + 1) fun x11 => some (.inl (x11, s10)) else none else none)
set_option maxRecDepth 20000 in
theorem b_Model_pack_96 (E : gEv) (d u : Nat) {G : gFr → Prop} {vo : Option Value} {sr : gS} (hG : gClo E gDf gP18 gY216 none (gC E gDf gMs (d + 3)) (vo, (gSh, sr, u)) G) (l1 : Int32) (l2 : Int32) (σ : gS) {r : (Int32 × gS) ⊕ (gS)} (hP : p_Model_pack_96 E l1 l2 σ = some r) (K1 : ∀ (m2 : Int32) (σ1 : gS), r = .inl (m2, σ1) → G (96, [some (.ref 94), some (.int l1), some (.int m2), none], [], (gSh, σ1, u))) (K2 : ∀ (σ1 : gS), r = .inr σ1 → G (127, [some (.ref 94), some (.int l1), none, none], [], (gSh, σ1, u))) : G (96, [some (.ref 94), some (.int l1), some (.int l2), none], [], (gSh, σ, u)) := by
  unfold p_Model_pack_96 at hP
  refine gRunN_ok hG.1 2 _ (98, [some (.ref 94), some (.int l1), some (.int l2), none], [.int 4, .int l2], (gSh, σ, u)) rfl ?_
  rcases g_ite hP with ⟨hc, hP⟩ | ⟨hc, hP⟩
  · refine hG.1 _ (127, [some (.ref 94), some (.int l1), some (.int l2), none], [], (gSh, σ, u)) _ rfl (if_pos hc) ?_
    refine hG.2.2.2.2.1 _ _ [some (.ref 94), some (.int l1), none, none] _ _ ⟨rfl, ⟨rfl, trivial⟩⟩ ?_
    cases hP
    exact K2 _ rfl
  · refine hG.1 _ (101, [some (.ref 94), some (.int l1), some (.int l2), none], [], (gSh, σ, u)) _ rfl (if_neg hc) ?_
    refine gRunN_ok hG.1 14 _ (119, [some (.ref 94), some (.int l1), some (.int l2), none], [.int (((4 : Int32) * l1) + l2), .ref 117, .int (((4 : Int32) * l1) + l2), .ref 126], (gSh, σ, u)) rfl ?_
    obtain ⟨hc, hP⟩ := g_if hP
    refine hG.1 _ (120, [some (.ref 94), some (.int l1), some (.int l2), none], [.int (σ.1 117 (((4 : Int32) * l1) + l2).toNatClampNeg), .int (((4 : Int32) * l1) + l2), .ref 126], (gSh, σ, u)) _ rfl (if_pos hc) ?_
    obtain ⟨hc, hP⟩ := g_if hP
    refine hG.1 _ (121, [some (.ref 94), some (.int l1), some (.int l2), none], [], (gSh, (gPut σ 126 (((4 : Int32) * l1) + l2).toNatClampNeg (σ.1 117 (((4 : Int32) * l1) + l2).toNatClampNeg)), u)) _ rfl (if_pos hc) ?_
    obtain ⟨s10, es10, hP⟩ := g_let hP
    rw [← es10]
    refine gRunN_ok hG.1 1 _ (124, [some (.ref 94), some (.int l1), some (.int (l2 + 1)), none], [], (gSh, s10, u)) rfl ?_
    obtain ⟨x11, ex11, hP⟩ := g_let hP
    rw [← ex11]
    refine gRunN_ok hG.1 1 _ (96, [some (.ref 94), some (.int l1), some (.int x11), none], [], (gSh, s10, u)) rfl ?_
    cases hP
    exact K1 _ _ rfl
theorem l_Model_pack_96 (E : gEv) (d u : Nat) {G : gFr → Prop} {vo : Option Value} {sr : gS} (hG : gClo E gDf gP18 gY216 none (gC E gDf gMs (d + 3)) (vo, (gSh, sr, u)) G) (l1 : Int32) : ∀ (n : Nat) (l2 : Int32) (σ : gS) (e : (gS)), gIter (fun z => p_Model_pack_96 E l1 z.1 z.2) n (l2, σ) = some e → (∀ (σ1 : gS), e = σ1 → G (127, [some (.ref 94), some (.int l1), none, none], [], (gSh, σ1, u))) → G (96, [some (.ref 94), some (.int l1), some (.int l2), none], [], (gSh, σ, u)) := by
  intro n
  induction n with
  | zero => intro l2 σ e h; cases h
  | succ n ih =>
    intro l2 σ e h K2
    rcases g_iter h with ⟨z, h1, h2⟩ | h1
    · exact b_Model_pack_96 E d u hG l1 l2 σ h1 (fun n0 n1 hz => by cases hz; exact ih _ _ e h2 K2) (fun _ hz => by cases hz)
    · exact b_Model_pack_96 E d u hG l1 l2 σ h1 (fun _ _ hz => by cases hz) (fun σ1 hz => K2 σ1 (by cases hz; rfl))
def p_Model_pack_67 (E : gEv) (l1 : Int32) (σ : gS) : Option ((Int32 × gS) ⊕ (gS)) :=
  if (σ.1 94 46) ≤ l1 then (some (.inr σ)) else (if gIn l1 (σ.2.1 125) then gLet (gPut σ 125 l1.toNatClampNeg (-1)) fun s8 => if gIn l1 (s8.2.1 118) then if gIn l1 (s8.2.1 127) then gLet (gPut s8 127 l1.toNatClampNeg (s8.1 118 l1.toNatClampNeg)) fun s9 => gB1 (gIter (fun z => p_Model_pack_96 E l1 z.1 z.2) gN (0, s9)) fun e12 => (fun s13 => gLet (l1 + 1) fun x14 => some (.inl (x14, s13))) e12 else none else none else none)
set_option maxRecDepth 20000 in
theorem b_Model_pack_67 (E : gEv) (d u : Nat) {G : gFr → Prop} {vo : Option Value} {sr : gS} (hG : gClo E gDf gP18 gY216 none (gC E gDf gMs (d + 3)) (vo, (gSh, sr, u)) G) (l1 : Int32) (σ : gS) {r : (Int32 × gS) ⊕ (gS)} (hP : p_Model_pack_67 E l1 σ = some r) (K1 : ∀ (m1 : Int32) (σ1 : gS), r = .inl (m1, σ1) → G (67, [some (.ref 94), some (.int m1), none, none], [], (gSh, σ1, u))) (K2 : ∀ (σ1 : gS), r = .inr σ1 → G (133, [some (.ref 94), none, none, none], [], (gSh, σ1, u))) : G (67, [some (.ref 94), some (.int l1), none, none], [], (gSh, σ, u)) := by
  unfold p_Model_pack_67 at hP
  refine gRunN_ok hG.1 3 _ (72, [some (.ref 94), some (.int l1), none, none], [.int (σ.1 94 46), .int l1], (gSh, σ, u)) rfl ?_
  rcases g_ite hP with ⟨hc, hP⟩ | ⟨hc, hP⟩
  · refine hG.1 _ (133, [some (.ref 94), some (.int l1), none, none], [], (gSh, σ, u)) _ rfl (if_pos hc) ?_
    refine hG.2.2.2.2.1 _ _ [some (.ref 94), none, none, none] _ _ ⟨rfl, trivial⟩ ?_
    cases hP
    exact K2 _ rfl
  · refine hG.1 _ (75, [some (.ref 94), some (.int l1), none, none], [], (gSh, σ, u)) _ rfl (if_neg hc) ?_
    refine gRunN_ok hG.1 4 _ (81, [some (.ref 94), some (.int l1), none, none], [.int (-1), .int l1, .ref 125], (gSh, σ, u)) rfl ?_
    obtain ⟨hc, hP⟩ := g_if hP
    refine hG.1 _ (82, [some (.ref 94), some (.int l1), none, none], [], (gSh, (gPut σ 125 l1.toNatClampNeg (-1)), u)) _ rfl (if_pos hc) ?_
    obtain ⟨s8, es8, hP⟩ := g_let hP
    rw [← es8]
    refine gRunN_ok hG.1 6 _ (92, [some (.ref 94), some (.int l1), none, none], [.int l1, .ref 118, .int l1, .ref 127], (gSh, s8, u)) rfl ?_
    obtain ⟨hc, hP⟩ := g_if hP
    refine hG.1 _ (93, [some (.ref 94), some (.int l1), none, none], [.int (s8.1 118 l1.toNatClampNeg), .int l1, .ref 127], (gSh, s8, u)) _ rfl (if_pos hc) ?_
    obtain ⟨hc, hP⟩ := g_if hP
    refine hG.1 _ (94, [some (.ref 94), some (.int l1), none, none], [], (gSh, (gPut s8 127 l1.toNatClampNeg (s8.1 118 l1.toNatClampNeg)), u)) _ rfl (if_pos hc) ?_
    obtain ⟨s9, es9, hP⟩ := g_let hP
    rw [← es9]
    refine gRunN_ok hG.1 2 _ (96, [some (.ref 94), some (.int l1), some (.int 0), none], [], (gSh, s9, u)) rfl ?_
    obtain ⟨e12, hq, hP⟩ := g_b1 hP
    refine l_Model_pack_96 E d u hG l1 gN 0 s9 _ hq (fun s13 he => ?_)
    · replace he := he.symm
      subst he
      try dsimp only [gSum] at hP
      refine gRunN_ok hG.1 1 _ (130, [some (.ref 94), some (.int (l1 + 1)), none, none], [], (gSh, s13, u)) rfl ?_
      obtain ⟨x14, ex14, hP⟩ := g_let hP
      rw [← ex14]
      refine gRunN_ok hG.1 1 _ (67, [some (.ref 94), some (.int x14), none, none], [], (gSh, s13, u)) rfl ?_
      cases hP
      exact K1 _ _ rfl
theorem l_Model_pack_67 (E : gEv) (d u : Nat) {G : gFr → Prop} {vo : Option Value} {sr : gS} (hG : gClo E gDf gP18 gY216 none (gC E gDf gMs (d + 3)) (vo, (gSh, sr, u)) G) : ∀ (n : Nat) (l1 : Int32) (σ : gS) (e : (gS)), gIter (fun z => p_Model_pack_67 E z.1 z.2) n (l1, σ) = some e → (∀ (σ1 : gS), e = σ1 → G (133, [some (.ref 94), none, none, none], [], (gSh, σ1, u))) → G (67, [some (.ref 94), some (.int l1), none, none], [], (gSh, σ, u)) := by
  intro n
  induction n with
  | zero => intro l1 σ e h; cases h
  | succ n ih =>
    intro l1 σ e h K2
    rcases g_iter h with ⟨z, h1, h2⟩ | h1
    · exact b_Model_pack_67 E d u hG l1 σ h1 (fun n0 n1 hz => by cases hz; exact ih _ _ e h2 K2) (fun _ hz => by cases hz)
    · exact b_Model_pack_67 E d u hG l1 σ h1 (fun _ _ hz => by cases hz) (fun σ1 hz => K2 σ1 (by cases hz; rfl))
def p_Model_pack_208 (E : gEv) (l1 : Int32) (l2 : Int32) (l3 : Int32) (σ : gS) : Option ((Int32 × gS) ⊕ (gS)) :=
  if (4 : Int32) ≤ l3 then (some (.inr σ)) else (if gIn (((4 : Int32) * l1) + l3) (σ.2.1 126) then gLet (gPut σ 126 (((4 : Int32) * l1) + l3).toNatClampNeg (-1)) fun s24 => gLet (l3 + 1) fun x25 => some (.inl (x25, s24)) else none)
set_option maxRecDepth 20000 in
theorem b_Model_pack_208 (E : gEv) (d u : Nat) {G : gFr → Prop} {vo : Option Value} {sr : gS} (hG : gClo E gDf gP18 gY216 none (gC E gDf gMs (d + 3)) (vo, (gSh, sr, u)) G) (l1 : Int32) (l2 : Int32) (l3 : Int32) (σ : gS) {r : (Int32 × gS) ⊕ (gS)} (hP : p_Model_pack_208 E l1 l2 l3 σ = some r) (K1 : ∀ (m3 : Int32) (σ1 : gS), r = .inl (m3, σ1) → G (208, [some (.ref 94), some (.int l1), some (.int l2), some (.int m3)], [], (gSh, σ1, u))) (K2 : ∀ (σ1 : gS), r = .inr σ1 → G (230, [some (.ref 94), some (.int l1), some (.int l2), none], [], (gSh, σ1, u))) : G (208, [some (.ref 94), some (.int l1), some (.int l2), some (.int l3)], [], (gSh, σ, u)) := by
  unfold p_Model_pack_208 at hP
  refine gRunN_ok hG.1 2 _ (210, [some (.ref 94), some (.int l1), some (.int l2), some (.int l3)], [.int 4, .int l3], (gSh, σ, u)) rfl ?_
  rcases g_ite hP with ⟨hc, hP⟩ | ⟨hc, hP⟩
  · refine hG.1 _ (230, [some (.ref 94), some (.int l1), some (.int l2), some (.int l3)], [], (gSh, σ, u)) _ rfl (if_pos hc) ?_
    refine hG.2.2.2.2.1 _ _ [some (.ref 94), some (.int l1), some (.int l2), none] _ _ ⟨rfl, ⟨rfl, ⟨rfl, trivial⟩⟩⟩ ?_
    cases hP
    exact K2 _ rfl
  · refine hG.1 _ (213, [some (.ref 94), some (.int l1), some (.int l2), some (.int l3)], [], (gSh, σ, u)) _ rfl (if_neg hc) ?_
    refine gRunN_ok hG.1 8 _ (223, [some (.ref 94), some (.int l1), some (.int l2), some (.int l3)], [.int (-1), .int (((4 : Int32) * l1) + l3), .ref 126], (gSh, σ, u)) rfl ?_
    obtain ⟨hc, hP⟩ := g_if hP
    refine hG.1 _ (224, [some (.ref 94), some (.int l1), some (.int l2), some (.int l3)], [], (gSh, (gPut σ 126 (((4 : Int32) * l1) + l3).toNatClampNeg (-1)), u)) _ rfl (if_pos hc) ?_
    obtain ⟨s24, es24, hP⟩ := g_let hP
    rw [← es24]
    refine gRunN_ok hG.1 1 _ (227, [some (.ref 94), some (.int l1), some (.int l2), some (.int (l3 + 1))], [], (gSh, s24, u)) rfl ?_
    obtain ⟨x25, ex25, hP⟩ := g_let hP
    rw [← ex25]
    refine gRunN_ok hG.1 1 _ (208, [some (.ref 94), some (.int l1), some (.int l2), some (.int x25)], [], (gSh, s24, u)) rfl ?_
    cases hP
    exact K1 _ _ rfl
theorem l_Model_pack_208 (E : gEv) (d u : Nat) {G : gFr → Prop} {vo : Option Value} {sr : gS} (hG : gClo E gDf gP18 gY216 none (gC E gDf gMs (d + 3)) (vo, (gSh, sr, u)) G) (l1 : Int32) (l2 : Int32) : ∀ (n : Nat) (l3 : Int32) (σ : gS) (e : (gS)), gIter (fun z => p_Model_pack_208 E l1 l2 z.1 z.2) n (l3, σ) = some e → (∀ (σ1 : gS), e = σ1 → G (230, [some (.ref 94), some (.int l1), some (.int l2), none], [], (gSh, σ1, u))) → G (208, [some (.ref 94), some (.int l1), some (.int l2), some (.int l3)], [], (gSh, σ, u)) := by
  intro n
  induction n with
  | zero => intro l3 σ e h; cases h
  | succ n ih =>
    intro l3 σ e h K2
    rcases g_iter h with ⟨z, h1, h2⟩ | h1
    · exact b_Model_pack_208 E d u hG l1 l2 l3 σ h1 (fun n0 n1 hz => by cases hz; exact ih _ _ e h2 K2) (fun _ hz => by cases hz)
    · exact b_Model_pack_208 E d u hG l1 l2 l3 σ h1 (fun _ _ hz => by cases hz) (fun σ1 hz => K2 σ1 (by cases hz; rfl))
def p_Model_pack_j240_140 (E : gEv) (l1 : Int32) (l2 : Int32) (σ : gS) : Option ((Int32 × Int32 × gS) ⊕ (gS)) :=
  if gIn l2 (σ.2.1 128) then if gIn (σ.1 128 l2.toNatClampNeg) (σ.2.1 125) then gLet (gPut σ 125 (σ.1 128 l2.toNatClampNeg).toNatClampNeg l2) fun s30 => gLet (l2 + 1) fun x31 => some (.inl (l1, x31, s30)) else none else none
set_option maxRecDepth 20000 in
theorem j_Model_pack_j240_140 (E : gEv) (d u : Nat) {G : gFr → Prop} {vo : Option Value} {sr : gS} (hG : gClo E gDf gP18 gY216 none (gC E gDf gMs (d + 3)) (vo, (gSh, sr, u)) G) (l1 : Int32) (l2 : Int32) (σ : gS) {r : (Int32 × Int32 × gS) ⊕ (gS)} (hP : p_Model_pack_j240_140 E l1 l2 σ = some r) (K1 : ∀ (m1 : Int32) (m2 : Int32) (σ1 : gS), r = .inl (m1, m2, σ1) → G (140, [some (.ref 94), some (.int m1), some (.int m2), none], [], (gSh, σ1, u))) (K2 : ∀ (σ1 : gS), r = .inr σ1 → G (258, [some (.ref 94), none, none, none], [], (gSh, σ1, u))) : G (240, [some (.ref 94), some (.int l1), some (.int l2), none], [], (gSh, σ, u)) := by
  unfold p_Model_pack_j240_140 at hP
  refine gRunN_ok hG.1 5 _ (249, [some (.ref 94), some (.int l1), some (.int l2), none], [.int l2, .ref 128, .ref 125], (gSh, σ, u)) rfl ?_
  obtain ⟨hc, hP⟩ := g_if hP
  refine hG.1 _ (250, [some (.ref 94), some (.int l1), some (.int l2), none], [.int (σ.1 128 l2.toNatClampNeg), .ref 125], (gSh, σ, u)) _ rfl (if_pos hc) ?_
  refine gRunN_ok hG.1 1 _ (251, [some (.ref 94), some (.int l1), some (.int l2), none], [.int l2, .int (σ.1 128 l2.toNatClampNeg), .ref 125], (gSh, σ, u)) rfl ?_
  obtain ⟨hc, hP⟩ := g_if hP
  refine hG.1 _ (252, [some (.ref 94), some (.int l1), some (.int l2), none], [], (gSh, (gPut σ 125 (σ.1 128 l2.toNatClampNeg).toNatClampNeg l2), u)) _ rfl (if_pos hc) ?_
  obtain ⟨s30, es30, hP⟩ := g_let hP
  rw [← es30]
  refine gRunN_ok hG.1 1 _ (255, [some (.ref 94), some (.int l1), some (.int (l2 + 1)), none], [], (gSh, s30, u)) rfl ?_
  obtain ⟨x31, ex31, hP⟩ := g_let hP
  rw [← ex31]
  refine gRunN_ok hG.1 1 _ (140, [some (.ref 94), some (.int l1), some (.int x31), none], [], (gSh, s30, u)) rfl ?_
  cases hP
  exact K1 _ _ _ rfl
def p_Model_pack_140 (E : gEv) (l1 : Int32) (l2 : Int32) (σ : gS) : Option ((Int32 × Int32 × gS) ⊕ (gS)) :=
  if (σ.1 94 31) ≤ l2 then (some (.inr σ)) else (gB1 (p_Model_inLut E l2 σ) fun v18 => if v18 = 0 then (if gIn l1 (σ.2.1 127) then gLet (gPut σ 127 l1.toNatClampNeg 43690) fun s20 => if gIn l2 (s20.2.1 106) then gB1 (p_Model_source E (s20.1 106 l2.toNatClampNeg) s20) fun v21 => if gIn ((4 : Int32) * l1) (s20.2.1 126) then gLet (gPut s20 126 ((4 : Int32) * l1).toNatClampNeg v21) fun s23 => gB1 (gIter (fun z => p_Model_pack_208 E l1 l2 z.1 z.2) gN (1, s23)) fun e26 => (fun s27 => if gIn l2 (s27.2.1 128) then gLet (gPut s27 128 l2.toNatClampNeg l1) fun s28 => gLet (l1 + 1) fun x29 => p_Model_pack_j240_140 E x29 l2 s28 else none) e26 else none else none else none) else (if gIn l2 (σ.2.1 106) then gB1 (p_Model_source E (σ.1 106 l2.toNatClampNeg) σ) fun v32 => if gIn l2 (σ.2.1 128) then gLet (gPut σ 128 l2.toNatClampNeg (v32 - (400 : Int32))) fun s34 => p_Model_pack_j240_140 E l1 l2 s34 else none else none))
set_option maxRecDepth 20000 in
theorem b_Model_pack_140 (E : gEv) (d u : Nat) {G : gFr → Prop} {vo : Option Value} {sr : gS} (hG : gClo E gDf gP18 gY216 none (gC E gDf gMs (d + 3)) (vo, (gSh, sr, u)) G) (l1 : Int32) (l2 : Int32) (σ : gS) {r : (Int32 × Int32 × gS) ⊕ (gS)} (hP : p_Model_pack_140 E l1 l2 σ = some r) (K1 : ∀ (m1 : Int32) (m2 : Int32) (σ1 : gS), r = .inl (m1, m2, σ1) → G (140, [some (.ref 94), some (.int m1), some (.int m2), none], [], (gSh, σ1, u))) (K2 : ∀ (σ1 : gS), r = .inr σ1 → G (258, [some (.ref 94), none, none, none], [], (gSh, σ1, u))) : G (140, [some (.ref 94), some (.int l1), some (.int l2), none], [], (gSh, σ, u)) := by
  unfold p_Model_pack_140 at hP
  refine gRunN_ok hG.1 3 _ (145, [some (.ref 94), some (.int l1), some (.int l2), none], [.int (σ.1 94 31), .int l2], (gSh, σ, u)) rfl ?_
  rcases g_ite hP with ⟨hc, hP⟩ | ⟨hc, hP⟩
  · refine hG.1 _ (258, [some (.ref 94), some (.int l1), some (.int l2), none], [], (gSh, σ, u)) _ rfl (if_pos hc) ?_
    refine hG.2.2.2.2.1 _ _ [some (.ref 94), none, none, none] _ _ ⟨rfl, trivial⟩ ?_
    cases hP
    exact K2 _ rfl
  · refine hG.1 _ (148, [some (.ref 94), some (.int l1), some (.int l2), none], [], (gSh, σ, u)) _ rfl (if_neg hc) ?_
    refine gRunN_ok hG.1 2 _ (150, [some (.ref 94), some (.int l1), some (.int l2), none], [.int l2, .ref 94], (gSh, σ, u)) rfl ?_
    obtain ⟨v18, hq, hP⟩ := g_b1 hP
    refine hG.2.2.2.1 _ _ _ [.ref 94, .int l2] [] _ (gSh, σ, u) (some (.int v18)) _ _ _ _ _ _ rfl rfl rfl rfl rfl rfl (c_Model_inLut E (d + 0) u l2 _  hq) (Nat.le_refl _) (Nat.le_refl _) (Nat.le_refl _) (Nat.le_refl _) ?_
    show G (153, [some (.ref 94), some (.int l1), some (.int l2), none], [.int v18], (gSh, σ, u))
    rcases g_ite hP with ⟨hc, hP⟩ | ⟨hc, hP⟩
    · refine hG.1 _ (179, [some (.ref 94), some (.int l1), some (.int l2), none], [], (gSh, σ, u)) _ rfl (if_pos hc) ?_
      refine gRunN_ok hG.1 4 _ (187, [some (.ref 94), some (.int l1), some (.int l2), none], [.int 43690, .int l1, .ref 127], (gSh, σ, u)) rfl ?_
      obtain ⟨hc, hP⟩ := g_if hP
      refine hG.1 _ (188, [some (.ref 94), some (.int l1), some (.int l2), none], [], (gSh, (gPut σ 127 l1.toNatClampNeg 43690), u)) _ rfl (if_pos hc) ?_
      obtain ⟨s20, es20, hP⟩ := g_let hP
      rw [← es20]
      refine gRunN_ok hG.1 9 _ (201, [some (.ref 94), some (.int l1), some (.int l2), none], [.int l2, .ref 106, .ref 94, .int ((4 : Int32) * l1), .ref 126], (gSh, s20, u)) rfl ?_
      obtain ⟨hc, hP⟩ := g_if hP
      refine hG.1 _ (202, [some (.ref 94), some (.int l1), some (.int l2), none], [.int (s20.1 106 l2.toNatClampNeg), .ref 94, .int ((4 : Int32) * l1), .ref 126], (gSh, s20, u)) _ rfl (if_pos hc) ?_
      obtain ⟨v21, hq, hP⟩ := g_b1 hP
      refine hG.2.2.2.1 _ _ _ [.ref 94, .int (s20.1 106 l2.toNatClampNeg)] [.int ((4 : Int32) * l1), .ref 126] _ (gSh, s20, u) (some (.int v21)) _ _ _ _ _ _ rfl rfl rfl rfl rfl rfl (c_Model_source E (d + 2) u (s20.1 106 l2.toNatClampNeg) _  hq) (Nat.le_refl _) (Nat.le_refl _) (Nat.le_refl _) (Nat.le_refl _) ?_
      show G (205, [some (.ref 94), some (.int l1), some (.int l2), none], [.int v21, .int ((4 : Int32) * l1), .ref 126], (gSh, s20, u))
      obtain ⟨hc, hP⟩ := g_if hP
      refine hG.1 _ (206, [some (.ref 94), some (.int l1), some (.int l2), none], [], (gSh, (gPut s20 126 ((4 : Int32) * l1).toNatClampNeg v21), u)) _ rfl (if_pos hc) ?_
      obtain ⟨s23, es23, hP⟩ := g_let hP
      rw [← es23]
      refine gRunN_ok hG.1 2 _ (208, [some (.ref 94), some (.int l1), some (.int l2), some (.int 1)], [], (gSh, s23, u)) rfl ?_
      obtain ⟨e26, hq, hP⟩ := g_b1 hP
      refine l_Model_pack_208 E d u hG l1 l2 gN 1 s23 _ hq (fun s27 he => ?_)
      · replace he := he.symm
        subst he
        try dsimp only [gSum] at hP
        refine gRunN_ok hG.1 4 _ (236, [some (.ref 94), some (.int l1), some (.int l2), none], [.int l1, .int l2, .ref 128], (gSh, s27, u)) rfl ?_
        obtain ⟨hc, hP⟩ := g_if hP
        refine hG.1 _ (237, [some (.ref 94), some (.int l1), some (.int l2), none], [], (gSh, (gPut s27 128 l2.toNatClampNeg l1), u)) _ rfl (if_pos hc) ?_
        obtain ⟨s28, es28, hP⟩ := g_let hP
        rw [← es28]
        refine gRunN_ok hG.1 1 _ (240, [some (.ref 94), some (.int (l1 + 1)), some (.int l2), none], [], (gSh, s28, u)) rfl ?_
        obtain ⟨x29, ex29, hP⟩ := g_let hP
        rw [← ex29]
        exact j_Model_pack_j240_140 E d u hG x29 l2 s28 hP K1 K2
    · refine hG.1 _ (156, [some (.ref 94), some (.int l1), some (.int l2), none], [], (gSh, σ, u)) _ rfl (if_neg hc) ?_
      refine gRunN_ok hG.1 7 _ (167, [some (.ref 94), some (.int l1), some (.int l2), none], [.int l2, .ref 106, .ref 94, .int l2, .ref 128], (gSh, σ, u)) rfl ?_
      obtain ⟨hc, hP⟩ := g_if hP
      refine hG.1 _ (168, [some (.ref 94), some (.int l1), some (.int l2), none], [.int (σ.1 106 l2.toNatClampNeg), .ref 94, .int l2, .ref 128], (gSh, σ, u)) _ rfl (if_pos hc) ?_
      obtain ⟨v32, hq, hP⟩ := g_b1 hP
      refine hG.2.2.2.1 _ _ _ [.ref 94, .int (σ.1 106 l2.toNatClampNeg)] [.int l2, .ref 128] _ (gSh, σ, u) (some (.int v32)) _ _ _ _ _ _ rfl rfl rfl rfl rfl rfl (c_Model_source E (d + 2) u (σ.1 106 l2.toNatClampNeg) _  hq) (Nat.le_refl _) (Nat.le_refl _) (Nat.le_refl _) (Nat.le_refl _) ?_
      show G (171, [some (.ref 94), some (.int l1), some (.int l2), none], [.int v32, .int l2, .ref 128], (gSh, σ, u))
      refine gRunN_ok hG.1 2 _ (175, [some (.ref 94), some (.int l1), some (.int l2), none], [.int (v32 - (400 : Int32)), .int l2, .ref 128], (gSh, σ, u)) rfl ?_
      obtain ⟨hc, hP⟩ := g_if hP
      refine hG.1 _ (176, [some (.ref 94), some (.int l1), some (.int l2), none], [], (gSh, (gPut σ 128 l2.toNatClampNeg (v32 - (400 : Int32))), u)) _ rfl (if_pos hc) ?_
      obtain ⟨s34, es34, hP⟩ := g_let hP
      rw [← es34]
      refine gRunN_ok hG.1 1 _ (240, [some (.ref 94), some (.int l1), some (.int l2), none], [], (gSh, s34, u)) rfl ?_
      exact j_Model_pack_j240_140 E d u hG l1 l2 s34 hP K1 K2
theorem l_Model_pack_140 (E : gEv) (d u : Nat) {G : gFr → Prop} {vo : Option Value} {sr : gS} (hG : gClo E gDf gP18 gY216 none (gC E gDf gMs (d + 3)) (vo, (gSh, sr, u)) G) : ∀ (n : Nat) (l1 : Int32) (l2 : Int32) (σ : gS) (e : (gS)), gIter (fun z => p_Model_pack_140 E z.1 z.2.1 z.2.2) n (l1, l2, σ) = some e → (∀ (σ1 : gS), e = σ1 → G (258, [some (.ref 94), none, none, none], [], (gSh, σ1, u))) → G (140, [some (.ref 94), some (.int l1), some (.int l2), none], [], (gSh, σ, u)) := by
  intro n
  induction n with
  | zero => intro l1 l2 σ e h; cases h
  | succ n ih =>
    intro l1 l2 σ e h K2
    rcases g_iter h with ⟨z, h1, h2⟩ | h1
    · exact b_Model_pack_140 E d u hG l1 l2 σ h1 (fun n0 n1 n2 hz => by cases hz; exact ih _ _ _ e h2 K2) (fun _ hz => by cases hz)
    · exact b_Model_pack_140 E d u hG l1 l2 σ h1 (fun _ _ _ hz => by cases hz) (fun σ1 hz => K2 σ1 (by cases hz; rfl))
def p_Model_pack (E : gEv) (σ : gS) : Option (gS) :=
  gLet (gPut σ 94 55 (σ.1 94 46)) fun s1 => gB1 (gIter (fun z => p_Model_pack_10 E z.1 z.2) gN (0, s1)) fun e6 => (fun s7 => if (s7.1 94 55) ≤ (s7.1 94 5) then (gB1 (gIter (fun z => p_Model_pack_67 E z.1 z.2) gN (0, s7)) fun e15 => (fun s16 => gLet (s16.1 94 46) fun x17 => gB1 (gIter (fun z => p_Model_pack_140 E z.1 z.2.1 z.2.2) gN (x17, 0, s16)) fun e35 => (fun s36 => gB1 (p_Model_makeNets E s36) fun s38 => gB1 (p_Model_makeClusters E s38) fun s40 => some s40) e35) e15) else (gB1 (p_Model_fail E 6 (-1) s7) fun s42 => some s42)) e6
set_option maxRecDepth 20000 in
theorem c_Model_pack (E : gEv) (d u : Nat) (σ : gS) {sr : gS}  (hq : p_Model_pack E σ = some sr) : gC E gDf gMs (d + 4) 216 [.ref 94] (gSh, σ, u) (none, (gSh, sr, u)) := ⟨gM216, rfl, Nat.le_of_ble_eq_true rfl, fun G hG => by
  have hP := hq
  unfold p_Model_pack at hP
  replace hG : gClo E gDf gP18 gY216 none (gC E gDf gMs (d + 3)) (none, (gSh, sr, u)) G := hG
  show G (0, [some (.ref 94), none, none, none], [], (gSh, σ, u))
  refine gRunN_ok hG.1 4 _ (8, [some (.ref 94), none, none, none], [], (gSh, (gPut σ 94 55 (σ.1 94 46)), u)) rfl ?_
  obtain ⟨s1, es1, hP⟩ := g_let hP
  rw [← es1]
  refine gRunN_ok hG.1 2 _ (10, [some (.ref 94), some (.int 0), none, none], [], (gSh, s1, u)) rfl ?_
  obtain ⟨e6, hq, hP⟩ := g_b1 hP
  refine l_Model_pack_10 E d u hG gN 0 s1 _ hq (fun s7 he => ?_)
  · replace he := he.symm
    subst he
    try dsimp only [gSum] at hP
    refine gRunN_ok hG.1 4 _ (54, [some (.ref 94), none, none, none], [.int (s7.1 94 5), .int (s7.1 94 55)], (gSh, s7, u)) rfl ?_
    rcases g_ite hP with ⟨hc, hP⟩ | ⟨hc, hP⟩
    · refine hG.1 _ (65, [some (.ref 94), none, none, none], [], (gSh, s7, u)) _ rfl (if_pos hc) ?_
      refine gRunN_ok hG.1 2 _ (67, [some (.ref 94), some (.int 0), none, none], [], (gSh, s7, u)) rfl ?_
      obtain ⟨e15, hq, hP⟩ := g_b1 hP
      refine l_Model_pack_67 E d u hG gN 0 s7 _ hq (fun s16 he => ?_)
      · replace he := he.symm
        subst he
        try dsimp only [gSum] at hP
        refine gRunN_ok hG.1 3 _ (138, [some (.ref 94), some (.int (s16.1 94 46)), none, none], [], (gSh, s16, u)) rfl ?_
        obtain ⟨x17, ex17, hP⟩ := g_let hP
        rw [← ex17]
        refine gRunN_ok hG.1 2 _ (140, [some (.ref 94), some (.int x17), some (.int 0), none], [], (gSh, s16, u)) rfl ?_
        obtain ⟨e35, hq, hP⟩ := g_b1 hP
        refine l_Model_pack_140 E d u hG gN x17 0 s16 _ hq (fun s36 he => ?_)
        · replace he := he.symm
          subst he
          try dsimp only [gSum] at hP
          refine gRunN_ok hG.1 1 _ (259, [some (.ref 94), none, none, none], [.ref 94], (gSh, s36, u)) rfl ?_
          obtain ⟨s38, hq, hP⟩ := g_b1 hP
          refine hG.2.2.2.1 _ _ _ [.ref 94] [] _ (gSh, s38, u) none _ _ _ _ _ _ rfl rfl rfl rfl rfl rfl (c_Model_makeNets E (d + 1) u _  hq) (Nat.le_refl _) (Nat.le_refl _) (Nat.le_refl _) (Nat.le_refl _) ?_
          show G (262, [some (.ref 94), none, none, none], [], (gSh, s38, u))
          refine gRunN_ok hG.1 1 _ (263, [some (.ref 94), none, none, none], [.ref 94], (gSh, s38, u)) rfl ?_
          obtain ⟨s40, hq, hP⟩ := g_b1 hP
          refine hG.2.2.2.1 _ _ _ [.ref 94] [] _ (gSh, s40, u) none _ _ _ _ _ _ rfl rfl rfl rfl rfl rfl (c_Model_makeClusters E (d + 1) u _  hq) (Nat.le_refl _) (Nat.le_refl _) (Nat.le_refl _) (Nat.le_refl _) ?_
          show G (266, [some (.ref 94), none, none, none], [], (gSh, s40, u))
          cases hP
          exact hG.2.1 _ _ rfl rfl
    · refine hG.1 _ (57, [some (.ref 94), none, none, none], [], (gSh, s7, u)) _ rfl (if_neg hc) ?_
      refine gRunN_ok hG.1 3 _ (61, [some (.ref 94), none, none, none], [.int (-1), .int 6, .ref 94], (gSh, s7, u)) rfl ?_
      obtain ⟨s42, hq, hP⟩ := g_b1 hP
      refine hG.2.2.2.1 _ _ _ [.ref 94, .int 6, .int (-1)] [] _ (gSh, s42, u) none _ _ _ _ _ _ rfl rfl rfl rfl rfl rfl (c_Model_fail E (d + 2) u 6 (-1) _  hq) (Nat.le_refl _) (Nat.le_refl _) (Nat.le_refl _) (Nat.le_refl _) ?_
      show G (64, [some (.ref 94), none, none, none], [], (gSh, s42, u))
      cases hP
      exact hG.2.1 _ _ rfl rfl⟩
