def p_Model_part_2 (E : gEv) (l1 : Int32) (l2 : Int32) (l3 : Int32) (σ : gS) : Option ((Int32 × gS) ⊕ (gS)) :=
  if (256 : Int32) ≤ l3 then (some (.inr σ)) else (if gIn (((256 : Int32) * l1) + l3) (σ.2.1 120) then if gIn (((256 : Int32) * (l1 + (1 : Int32))) + l3) (σ.2.1 120) then gLet (gPut σ 120 (((256 : Int32) * (l1 + (1 : Int32))) + l3).toNatClampNeg (vp_nar .boolean (σ.1 120 (((256 : Int32) * l1) + l3).toNatClampNeg))) fun s1 => gLet (l3 + 1) fun x2 => some (.inl (x2, s1)) else none else none)
set_option maxRecDepth 20000 in
theorem b_Model_part_2 (E : gEv) (d u : Nat) {G : gFr → Prop} {vo : Option Value} {sr : gS} (hG : gClo E gDf gP18 gY215 none (gC E gDf gMs (d + 1)) (vo, (gSh, sr, u)) G) (l1 : Int32) (l2 : Int32) (l3 : Int32) (σ : gS) {r : (Int32 × gS) ⊕ (gS)} (hP : p_Model_part_2 E l1 l2 l3 σ = some r) (K1 : ∀ (m3 : Int32) (σ1 : gS), r = .inl (m3, σ1) → G (2, [some (.ref 94), some (.int l1), some (.int l2), some (.int m3)], [], (gSh, σ1, u))) (K2 : ∀ (σ1 : gS), r = .inr σ1 → G (41, [some (.ref 94), some (.int l1), some (.int l2), none], [], (gSh, σ1, u))) : G (2, [some (.ref 94), some (.int l1), some (.int l2), some (.int l3)], [], (gSh, σ, u)) := by
  unfold p_Model_part_2 at hP
  refine gRunN_ok hG.1 2 _ (6, [some (.ref 94), some (.int l1), some (.int l2), some (.int l3)], [.int 256, .int l3], (gSh, σ, u)) rfl ?_
  rcases g_ite hP with ⟨hc, hP⟩ | ⟨hc, hP⟩
  · refine hG.1 _ (41, [some (.ref 94), some (.int l1), some (.int l2), some (.int l3)], [], (gSh, σ, u)) _ rfl (if_pos hc) ?_
    refine hG.2.2.2.2.1 _ _ [some (.ref 94), some (.int l1), some (.int l2), none] _ _ ⟨rfl, ⟨rfl, ⟨rfl, trivial⟩⟩⟩ ?_
    cases hP
    exact K2 _ rfl
  · refine hG.1 _ (9, [some (.ref 94), some (.int l1), some (.int l2), some (.int l3)], [], (gSh, σ, u)) _ rfl (if_neg hc) ?_
    refine gRunN_ok hG.1 16 _ (33, [some (.ref 94), some (.int l1), some (.int l2), some (.int l3)], [.int (((256 : Int32) * l1) + l3), .ref 120, .int (((256 : Int32) * (l1 + (1 : Int32))) + l3), .ref 120], (gSh, σ, u)) rfl ?_
    obtain ⟨hc, hP⟩ := g_if hP
    refine hG.1 _ (34, [some (.ref 94), some (.int l1), some (.int l2), some (.int l3)], [.int (σ.1 120 (((256 : Int32) * l1) + l3).toNatClampNeg), .int (((256 : Int32) * (l1 + (1 : Int32))) + l3), .ref 120], (gSh, σ, u)) _ rfl (if_pos hc) ?_
    obtain ⟨hc, hP⟩ := g_if hP
    refine hG.1 _ (35, [some (.ref 94), some (.int l1), some (.int l2), some (.int l3)], [], (gSh, (gPut σ 120 (((256 : Int32) * (l1 + (1 : Int32))) + l3).toNatClampNeg (vp_nar .boolean (σ.1 120 (((256 : Int32) * l1) + l3).toNatClampNeg))), u)) _ rfl (if_pos hc) ?_
    obtain ⟨s1, es1, hP⟩ := g_let hP
    rw [← es1]
    refine gRunN_ok hG.1 1 _ (38, [some (.ref 94), some (.int l1), some (.int l2), some (.int (l3 + 1))], [], (gSh, s1, u)) rfl ?_
    obtain ⟨x2, ex2, hP⟩ := g_let hP
    rw [← ex2]
    refine gRunN_ok hG.1 1 _ (2, [some (.ref 94), some (.int l1), some (.int l2), some (.int x2)], [], (gSh, s1, u)) rfl ?_
    cases hP
    exact K1 _ _ rfl
theorem l_Model_part_2 (E : gEv) (d u : Nat) {G : gFr → Prop} {vo : Option Value} {sr : gS} (hG : gClo E gDf gP18 gY215 none (gC E gDf gMs (d + 1)) (vo, (gSh, sr, u)) G) (l1 : Int32) (l2 : Int32) : ∀ (n : Nat) (l3 : Int32) (σ : gS) (e : (gS)), gIter (fun z => p_Model_part_2 E l1 l2 z.1 z.2) n (l3, σ) = some e → (∀ (σ1 : gS), e = σ1 → G (41, [some (.ref 94), some (.int l1), some (.int l2), none], [], (gSh, σ1, u))) → G (2, [some (.ref 94), some (.int l1), some (.int l2), some (.int l3)], [], (gSh, σ, u)) := by
  intro n
  induction n with
  | zero => intro l3 σ e h; cases h
  | succ n ih =>
    intro l3 σ e h K2
    rcases g_iter h with ⟨z, h1, h2⟩ | h1
    · exact b_Model_part_2 E d u hG l1 l2 l3 σ h1 (fun n0 n1 hz => by cases hz; exact ih _ _ e h2 K2) (fun _ hz => by cases hz)
    · exact b_Model_part_2 E d u hG l1 l2 l3 σ h1 (fun _ _ hz => by cases hz) (fun σ1 hz => K2 σ1 (by cases hz; rfl))
def p_Model_part_43 (E : gEv) (l1 : Int32) (l2 : Int32) (l3 : Int32) (σ : gS) : Option ((Int32 × gS) ⊕ (gS)) :=
  if (8 : Int32) ≤ l3 then (some (.inr σ)) else (if gIn (((8 : Int32) * l1) + l3) (σ.2.1 121) then if gIn (((8 : Int32) * (l1 + (1 : Int32))) + l3) (σ.2.1 121) then gLet (gPut σ 121 (((8 : Int32) * (l1 + (1 : Int32))) + l3).toNatClampNeg (σ.1 121 (((8 : Int32) * l1) + l3).toNatClampNeg)) fun s5 => gLet (l3 + 1) fun x6 => some (.inl (x6, s5)) else none else none)
set_option maxRecDepth 20000 in
theorem b_Model_part_43 (E : gEv) (d u : Nat) {G : gFr → Prop} {vo : Option Value} {sr : gS} (hG : gClo E gDf gP18 gY215 none (gC E gDf gMs (d + 1)) (vo, (gSh, sr, u)) G) (l1 : Int32) (l2 : Int32) (l3 : Int32) (σ : gS) {r : (Int32 × gS) ⊕ (gS)} (hP : p_Model_part_43 E l1 l2 l3 σ = some r) (K1 : ∀ (m3 : Int32) (σ1 : gS), r = .inl (m3, σ1) → G (43, [some (.ref 94), some (.int l1), some (.int l2), some (.int m3)], [], (gSh, σ1, u))) (K2 : ∀ (σ1 : gS), r = .inr σ1 → G (79, [some (.ref 94), some (.int l1), some (.int l2), none], [], (gSh, σ1, u))) : G (43, [some (.ref 94), some (.int l1), some (.int l2), some (.int l3)], [], (gSh, σ, u)) := by
  unfold p_Model_part_43 at hP
  refine gRunN_ok hG.1 2 _ (46, [some (.ref 94), some (.int l1), some (.int l2), some (.int l3)], [.int 8, .int l3], (gSh, σ, u)) rfl ?_
  rcases g_ite hP with ⟨hc, hP⟩ | ⟨hc, hP⟩
  · refine hG.1 _ (79, [some (.ref 94), some (.int l1), some (.int l2), some (.int l3)], [], (gSh, σ, u)) _ rfl (if_pos hc) ?_
    refine hG.2.2.2.2.1 _ _ [some (.ref 94), some (.int l1), some (.int l2), none] _ _ ⟨rfl, ⟨rfl, ⟨rfl, trivial⟩⟩⟩ ?_
    cases hP
    exact K2 _ rfl
  · refine hG.1 _ (49, [some (.ref 94), some (.int l1), some (.int l2), some (.int l3)], [], (gSh, σ, u)) _ rfl (if_neg hc) ?_
    refine gRunN_ok hG.1 16 _ (71, [some (.ref 94), some (.int l1), some (.int l2), some (.int l3)], [.int (((8 : Int32) * l1) + l3), .ref 121, .int (((8 : Int32) * (l1 + (1 : Int32))) + l3), .ref 121], (gSh, σ, u)) rfl ?_
    obtain ⟨hc, hP⟩ := g_if hP
    refine hG.1 _ (72, [some (.ref 94), some (.int l1), some (.int l2), some (.int l3)], [.int (σ.1 121 (((8 : Int32) * l1) + l3).toNatClampNeg), .int (((8 : Int32) * (l1 + (1 : Int32))) + l3), .ref 121], (gSh, σ, u)) _ rfl (if_pos hc) ?_
    obtain ⟨hc, hP⟩ := g_if hP
    refine hG.1 _ (73, [some (.ref 94), some (.int l1), some (.int l2), some (.int l3)], [], (gSh, (gPut σ 121 (((8 : Int32) * (l1 + (1 : Int32))) + l3).toNatClampNeg (σ.1 121 (((8 : Int32) * l1) + l3).toNatClampNeg)), u)) _ rfl (if_pos hc) ?_
    obtain ⟨s5, es5, hP⟩ := g_let hP
    rw [← es5]
    refine gRunN_ok hG.1 1 _ (76, [some (.ref 94), some (.int l1), some (.int l2), some (.int (l3 + 1))], [], (gSh, s5, u)) rfl ?_
    obtain ⟨x6, ex6, hP⟩ := g_let hP
    rw [← ex6]
    refine gRunN_ok hG.1 1 _ (43, [some (.ref 94), some (.int l1), some (.int l2), some (.int x6)], [], (gSh, s5, u)) rfl ?_
    cases hP
    exact K1 _ _ rfl
theorem l_Model_part_43 (E : gEv) (d u : Nat) {G : gFr → Prop} {vo : Option Value} {sr : gS} (hG : gClo E gDf gP18 gY215 none (gC E gDf gMs (d + 1)) (vo, (gSh, sr, u)) G) (l1 : Int32) (l2 : Int32) : ∀ (n : Nat) (l3 : Int32) (σ : gS) (e : (gS)), gIter (fun z => p_Model_part_43 E l1 l2 z.1 z.2) n (l3, σ) = some e → (∀ (σ1 : gS), e = σ1 → G (79, [some (.ref 94), some (.int l1), some (.int l2), none], [], (gSh, σ1, u))) → G (43, [some (.ref 94), some (.int l1), some (.int l2), some (.int l3)], [], (gSh, σ, u)) := by
  intro n
  induction n with
  | zero => intro l3 σ e h; cases h
  | succ n ih =>
    intro l3 σ e h K2
    rcases g_iter h with ⟨z, h1, h2⟩ | h1
    · exact b_Model_part_43 E d u hG l1 l2 l3 σ h1 (fun n0 n1 hz => by cases hz; exact ih _ _ e h2 K2) (fun _ hz => by cases hz)
    · exact b_Model_part_43 E d u hG l1 l2 l3 σ h1 (fun _ _ hz => by cases hz) (fun σ1 hz => K2 σ1 (by cases hz; rfl))
def p_Model_part (E : gEv) (a0 : Int32) (a1 : Int32) (σ : gS) : Option (gS) :=
  gB1 (gIter (fun z => p_Model_part_2 E a0 a1 z.1 z.2) gN (0, σ)) fun e3 => (fun s4 => gB1 (gIter (fun z => p_Model_part_43 E a0 a1 z.1 z.2) gN (0, s4)) fun e7 => (fun s8 => if gIn a0 (s8.2.1 122) then if gIn (a0 + (1 : Int32)) (s8.2.1 122) then gLet (gPut s8 122 (a0 + (1 : Int32)).toNatClampNeg (s8.1 122 a0.toNatClampNeg)) fun s9 => if gIn (a0 + (1 : Int32)) (s9.2.1 123) then gLet (gPut s9 123 (a0 + (1 : Int32)).toNatClampNeg 0) fun s10 => if gIn a0 (s10.2.1 122) then gB1 (p_Model_hold E (a0 + (1 : Int32)) ((s10.1 122 a0.toNatClampNeg) - (1 : Int32)) a1 s10) fun s12 => some s12 else none else none else none else none) e7) e3
set_option maxRecDepth 20000 in
theorem c_Model_part (E : gEv) (d u : Nat) (a0 : Int32) (a1 : Int32) (σ : gS) {sr : gS}  (hq : p_Model_part E a0 a1 σ = some sr) : gC E gDf gMs (d + 2) 215 [.ref 94, .int a0, .int a1] (gSh, σ, u) (none, (gSh, sr, u)) := ⟨gM215, rfl, Nat.le_of_ble_eq_true rfl, fun G hG => by
  have hP := hq
  unfold p_Model_part at hP
  replace hG : gClo E gDf gP18 gY215 none (gC E gDf gMs (d + 1)) (none, (gSh, sr, u)) G := hG
  show G (0, [some (.ref 94), some (.int a0), some (.int a1), none], [], (gSh, σ, u))
  refine gRunN_ok hG.1 2 _ (2, [some (.ref 94), some (.int a0), some (.int a1), some (.int 0)], [], (gSh, σ, u)) rfl ?_
  obtain ⟨e3, hq, hP⟩ := g_b1 hP
  refine l_Model_part_2 E d u hG a0 a1 gN 0 σ _ hq (fun s4 he => ?_)
  · replace he := he.symm
    subst he
    try dsimp only [gSum] at hP
    refine gRunN_ok hG.1 2 _ (43, [some (.ref 94), some (.int a0), some (.int a1), some (.int 0)], [], (gSh, s4, u)) rfl ?_
    obtain ⟨e7, hq, hP⟩ := g_b1 hP
    refine l_Model_part_43 E d u hG a0 a1 gN 0 s4 _ hq (fun s8 he => ?_)
    · replace he := he.symm
      subst he
      try dsimp only [gSum] at hP
      refine gRunN_ok hG.1 8 _ (91, [some (.ref 94), some (.int a0), some (.int a1), none], [.int a0, .ref 122, .int (a0 + (1 : Int32)), .ref 122], (gSh, s8, u)) rfl ?_
      obtain ⟨hc, hP⟩ := g_if hP
      refine hG.1 _ (92, [some (.ref 94), some (.int a0), some (.int a1), none], [.int (s8.1 122 a0.toNatClampNeg), .int (a0 + (1 : Int32)), .ref 122], (gSh, s8, u)) _ rfl (if_pos hc) ?_
      obtain ⟨hc, hP⟩ := g_if hP
      refine hG.1 _ (93, [some (.ref 94), some (.int a0), some (.int a1), none], [], (gSh, (gPut s8 122 (a0 + (1 : Int32)).toNatClampNeg (s8.1 122 a0.toNatClampNeg)), u)) _ rfl (if_pos hc) ?_
      obtain ⟨s9, es9, hP⟩ := g_let hP
      rw [← es9]
      refine gRunN_ok hG.1 6 _ (101, [some (.ref 94), some (.int a0), some (.int a1), none], [.int 0, .int (a0 + (1 : Int32)), .ref 123], (gSh, s9, u)) rfl ?_
      obtain ⟨hc, hP⟩ := g_if hP
      refine hG.1 _ (102, [some (.ref 94), some (.int a0), some (.int a1), none], [], (gSh, (gPut s9 123 (a0 + (1 : Int32)).toNatClampNeg 0), u)) _ rfl (if_pos hc) ?_
      obtain ⟨s10, es10, hP⟩ := g_let hP
      rw [← es10]
      refine gRunN_ok hG.1 7 _ (111, [some (.ref 94), some (.int a0), some (.int a1), none], [.int a0, .ref 122, .int (a0 + (1 : Int32)), .ref 94], (gSh, s10, u)) rfl ?_
      obtain ⟨hc, hP⟩ := g_if hP
      refine hG.1 _ (112, [some (.ref 94), some (.int a0), some (.int a1), none], [.int (s10.1 122 a0.toNatClampNeg), .int (a0 + (1 : Int32)), .ref 94], (gSh, s10, u)) _ rfl (if_pos hc) ?_
      refine gRunN_ok hG.1 3 _ (115, [some (.ref 94), some (.int a0), some (.int a1), none], [.int a1, .int ((s10.1 122 a0.toNatClampNeg) - (1 : Int32)), .int (a0 + (1 : Int32)), .ref 94], (gSh, s10, u)) rfl ?_
      obtain ⟨s12, hq, hP⟩ := g_b1 hP
      refine hG.2.2.2.1 _ _ _ [.ref 94, .int (a0 + (1 : Int32)), .int ((s10.1 122 a0.toNatClampNeg) - (1 : Int32)), .int a1] [] _ (gSh, s12, u) none _ _ _ _ _ _ rfl rfl rfl rfl rfl rfl (c_Model_hold E (d + 0) u (a0 + (1 : Int32)) ((s10.1 122 a0.toNatClampNeg) - (1 : Int32)) a1 _  hq) (Nat.le_refl _) (Nat.le_refl _) (Nat.le_refl _) (Nat.le_refl _) ?_
      show G (118, [some (.ref 94), some (.int a0), some (.int a1), none], [], (gSh, s12, u))
      cases hP
      exact hG.2.1 _ _ rfl rfl⟩
def p_Model_uses_4 (E : gEv) (l1 : Int32) (l2 : Int32) (l3 : Int32) (σ : gS) : Option ((Int32 × Int32) ⊕ (Int32)) :=
  if ((4 : Int32) * (σ.1 94 46)) ≤ l3 then (some (.inr l2)) else (if gIn l3 (σ.2.1 117) then if (σ.1 117 l3.toNatClampNeg) = l1 then (gLet (l2 + (1 : Int32)) fun x1 => gLet (l3 + 1) fun x2 => some (.inl (x1, x2))) else (gLet (l2 + (0 : Int32)) fun x3 => gLet (l3 + 1) fun x4 => some (.inl (x3, x4))) else none)
set_option maxRecDepth 20000 in
theorem b_Model_uses_4 (E : gEv) (d u : Nat) {G : gFr → Prop} {vo : Option Value} {sr : gS} (hG : gClo E gDf gP18 gY218 (some .int) (gC E gDf gMs (d + 1)) (vo, (gSh, sr, u)) G) (l1 : Int32) (l2 : Int32) (l3 : Int32) (σ : gS) {r : (Int32 × Int32) ⊕ (Int32)} (hP : p_Model_uses_4 E l1 l2 l3 σ = some r) (K1 : ∀ (m2 : Int32) (m3 : Int32), r = .inl (m2, m3) → G (4, [some (.ref 94), some (.int l1), some (.int m2), some (.int m3)], [], (gSh, σ, u))) (K2 : ∀ (m2 : Int32), r = .inr m2 → G (38, [some (.ref 94), some (.int l1), some (.int m2), none], [], (gSh, σ, u))) : G (4, [some (.ref 94), some (.int l1), some (.int l2), some (.int l3)], [], (gSh, σ, u)) := by
  unfold p_Model_uses_4 at hP
  refine gRunN_ok hG.1 5 _ (11, [some (.ref 94), some (.int l1), some (.int l2), some (.int l3)], [.int ((4 : Int32) * (σ.1 94 46)), .int l3], (gSh, σ, u)) rfl ?_
  rcases g_ite hP with ⟨hc, hP⟩ | ⟨hc, hP⟩
  · refine hG.1 _ (38, [some (.ref 94), some (.int l1), some (.int l2), some (.int l3)], [], (gSh, σ, u)) _ rfl (if_pos hc) ?_
    refine hG.2.2.2.2.1 _ _ [some (.ref 94), some (.int l1), some (.int l2), none] _ _ ⟨rfl, ⟨rfl, ⟨rfl, trivial⟩⟩⟩ ?_
    cases hP
    exact K2 _ rfl
  · refine hG.1 _ (14, [some (.ref 94), some (.int l1), some (.int l2), some (.int l3)], [], (gSh, σ, u)) _ rfl (if_neg hc) ?_
    refine gRunN_ok hG.1 4 _ (20, [some (.ref 94), some (.int l1), some (.int l2), some (.int l3)], [.int l3, .ref 117, .int l2], (gSh, σ, u)) rfl ?_
    obtain ⟨hc, hP⟩ := g_if hP
    refine hG.1 _ (21, [some (.ref 94), some (.int l1), some (.int l2), some (.int l3)], [.int (σ.1 117 l3.toNatClampNeg), .int l2], (gSh, σ, u)) _ rfl (if_pos hc) ?_
    refine gRunN_ok hG.1 1 _ (22, [some (.ref 94), some (.int l1), some (.int l2), some (.int l3)], [.int l1, .int (σ.1 117 l3.toNatClampNeg), .int l2], (gSh, σ, u)) rfl ?_
    rcases g_ite hP with ⟨hc, hP⟩ | ⟨hc, hP⟩
    · refine hG.1 _ (25, [some (.ref 94), some (.int l1), some (.int l2), some (.int l3)], [.int l2], (gSh, σ, u)) _ rfl (if_pos hc) ?_
      refine gRunN_ok hG.1 4 _ (32, [some (.ref 94), some (.int l1), some (.int (l2 + (1 : Int32))), some (.int l3)], [], (gSh, σ, u)) rfl ?_
      obtain ⟨x1, ex1, hP⟩ := g_let hP
      rw [← ex1]
      refine gRunN_ok hG.1 1 _ (35, [some (.ref 94), some (.int l1), some (.int x1), some (.int (l3 + 1))], [], (gSh, σ, u)) rfl ?_
      obtain ⟨x2, ex2, hP⟩ := g_let hP
      rw [← ex2]
      refine gRunN_ok hG.1 1 _ (4, [some (.ref 94), some (.int l1), some (.int x1), some (.int x2)], [], (gSh, σ, u)) rfl ?_
      cases hP
      exact K1 _ _ rfl
    · refine hG.1 _ (29, [some (.ref 94), some (.int l1), some (.int l2), some (.int l3)], [.int l2], (gSh, σ, u)) _ rfl (if_neg hc) ?_
      refine gRunN_ok hG.1 3 _ (32, [some (.ref 94), some (.int l1), some (.int (l2 + (0 : Int32))), some (.int l3)], [], (gSh, σ, u)) rfl ?_
      obtain ⟨x3, ex3, hP⟩ := g_let hP
      rw [← ex3]
      refine gRunN_ok hG.1 1 _ (35, [some (.ref 94), some (.int l1), some (.int x3), some (.int (l3 + 1))], [], (gSh, σ, u)) rfl ?_
      obtain ⟨x4, ex4, hP⟩ := g_let hP
      rw [← ex4]
      refine gRunN_ok hG.1 1 _ (4, [some (.ref 94), some (.int l1), some (.int x3), some (.int x4)], [], (gSh, σ, u)) rfl ?_
      cases hP
      exact K1 _ _ rfl
theorem l_Model_uses_4 (E : gEv) (d u : Nat) {G : gFr → Prop} {vo : Option Value} {sr : gS} (hG : gClo E gDf gP18 gY218 (some .int) (gC E gDf gMs (d + 1)) (vo, (gSh, sr, u)) G) (l1 : Int32) (σ : gS) : ∀ (n : Nat) (l2 : Int32) (l3 : Int32) (e : (Int32)), gIter (fun z => p_Model_uses_4 E l1 z.1 z.2 σ) n (l2, l3) = some e → (∀ (m2 : Int32), e = m2 → G (38, [some (.ref 94), some (.int l1), some (.int m2), none], [], (gSh, σ, u))) → G (4, [some (.ref 94), some (.int l1), some (.int l2), some (.int l3)], [], (gSh, σ, u)) := by
  intro n
  induction n with
  | zero => intro l2 l3 e h; cases h
  | succ n ih =>
    intro l2 l3 e h K2
    rcases g_iter h with ⟨z, h1, h2⟩ | h1
    · exact b_Model_uses_4 E d u hG l1 l2 l3 σ h1 (fun n0 n1 hz => by cases hz; exact ih _ _ e h2 K2) (fun _ hz => by cases hz)
    · exact b_Model_uses_4 E d u hG l1 l2 l3 σ h1 (fun _ _ hz => by cases hz) (fun m2 hz => K2 m2 (by cases hz; rfl))
def p_Model_uses_40 (E : gEv) (l1 : Int32) (l2 : Int32) (l3 : Int32) (σ : gS) : Option ((Int32 × Int32) ⊕ (Int32)) :=
  if (σ.1 94 31) ≤ l3 then (some (.inr l2)) else (if gIn l3 (σ.2.1 106) then gB1 (p_Model_source E (σ.1 106 l3.toNatClampNeg) σ) fun v7 => if v7 = l1 then (gLet (l2 + (1 : Int32)) fun x9 => gLet (l3 + 1) fun x10 => some (.inl (x9, x10))) else (gLet (l2 + (0 : Int32)) fun x11 => gLet (l3 + 1) fun x12 => some (.inl (x11, x12))) else none)
set_option maxRecDepth 20000 in
theorem b_Model_uses_40 (E : gEv) (d u : Nat) {G : gFr → Prop} {vo : Option Value} {sr : gS} (hG : gClo E gDf gP18 gY218 (some .int) (gC E gDf gMs (d + 1)) (vo, (gSh, sr, u)) G) (l1 : Int32) (l2 : Int32) (l3 : Int32) (σ : gS) {r : (Int32 × Int32) ⊕ (Int32)} (hP : p_Model_uses_40 E l1 l2 l3 σ = some r) (K1 : ∀ (m2 : Int32) (m3 : Int32), r = .inl (m2, m3) → G (40, [some (.ref 94), some (.int l1), some (.int m2), some (.int m3)], [], (gSh, σ, u))) (K2 : ∀ (m2 : Int32), r = .inr m2 → G (76, [some (.ref 94), some (.int l1), some (.int m2), none], [], (gSh, σ, u))) : G (40, [some (.ref 94), some (.int l1), some (.int l2), some (.int l3)], [], (gSh, σ, u)) := by
  unfold p_Model_uses_40 at hP
  refine gRunN_ok hG.1 3 _ (45, [some (.ref 94), some (.int l1), some (.int l2), some (.int l3)], [.int (σ.1 94 31), .int l3], (gSh, σ, u)) rfl ?_
  rcases g_ite hP with ⟨hc, hP⟩ | ⟨hc, hP⟩
  · refine hG.1 _ (76, [some (.ref 94), some (.int l1), some (.int l2), some (.int l3)], [], (gSh, σ, u)) _ rfl (if_pos hc) ?_
    refine hG.2.2.2.2.1 _ _ [some (.ref 94), some (.int l1), some (.int l2), none] _ _ ⟨rfl, ⟨rfl, ⟨rfl, trivial⟩⟩⟩ ?_
    cases hP
    exact K2 _ rfl
  · refine hG.1 _ (48, [some (.ref 94), some (.int l1), some (.int l2), some (.int l3)], [], (gSh, σ, u)) _ rfl (if_neg hc) ?_
    refine gRunN_ok hG.1 5 _ (55, [some (.ref 94), some (.int l1), some (.int l2), some (.int l3)], [.int l3, .ref 106, .ref 94, .int l2], (gSh, σ, u)) rfl ?_
    obtain ⟨hc, hP⟩ := g_if hP
    refine hG.1 _ (56, [some (.ref 94), some (.int l1), some (.int l2), some (.int l3)], [.int (σ.1 106 l3.toNatClampNeg), .ref 94, .int l2], (gSh, σ, u)) _ rfl (if_pos hc) ?_
    obtain ⟨v7, hq, hP⟩ := g_b1 hP
    refine hG.2.2.2.1 _ _ _ [.ref 94, .int (σ.1 106 l3.toNatClampNeg)] [.int l2] _ (gSh, σ, u) (some (.int v7)) _ _ _ _ _ _ rfl rfl rfl rfl rfl rfl (c_Model_source E (d + 0) u (σ.1 106 l3.toNatClampNeg) _  hq) (Nat.le_refl _) (Nat.le_refl _) (Nat.le_refl _) (Nat.le_refl _) ?_
    show G (59, [some (.ref 94), some (.int l1), some (.int l2), some (.int l3)], [.int v7, .int l2], (gSh, σ, u))
    refine gRunN_ok hG.1 1 _ (60, [some (.ref 94), some (.int l1), some (.int l2), some (.int l3)], [.int l1, .int v7, .int l2], (gSh, σ, u)) rfl ?_
    rcases g_ite hP with ⟨hc, hP⟩ | ⟨hc, hP⟩
    · refine hG.1 _ (63, [some (.ref 94), some (.int l1), some (.int l2), some (.int l3)], [.int l2], (gSh, σ, u)) _ rfl (if_pos hc) ?_
      refine gRunN_ok hG.1 4 _ (70, [some (.ref 94), some (.int l1), some (.int (l2 + (1 : Int32))), some (.int l3)], [], (gSh, σ, u)) rfl ?_
      obtain ⟨x9, ex9, hP⟩ := g_let hP
      rw [← ex9]
      refine gRunN_ok hG.1 1 _ (73, [some (.ref 94), some (.int l1), some (.int x9), some (.int (l3 + 1))], [], (gSh, σ, u)) rfl ?_
      obtain ⟨x10, ex10, hP⟩ := g_let hP
      rw [← ex10]
      refine gRunN_ok hG.1 1 _ (40, [some (.ref 94), some (.int l1), some (.int x9), some (.int x10)], [], (gSh, σ, u)) rfl ?_
      cases hP
      exact K1 _ _ rfl
    · refine hG.1 _ (67, [some (.ref 94), some (.int l1), some (.int l2), some (.int l3)], [.int l2], (gSh, σ, u)) _ rfl (if_neg hc) ?_
      refine gRunN_ok hG.1 3 _ (70, [some (.ref 94), some (.int l1), some (.int (l2 + (0 : Int32))), some (.int l3)], [], (gSh, σ, u)) rfl ?_
      obtain ⟨x11, ex11, hP⟩ := g_let hP
      rw [← ex11]
      refine gRunN_ok hG.1 1 _ (73, [some (.ref 94), some (.int l1), some (.int x11), some (.int (l3 + 1))], [], (gSh, σ, u)) rfl ?_
      obtain ⟨x12, ex12, hP⟩ := g_let hP
      rw [← ex12]
      refine gRunN_ok hG.1 1 _ (40, [some (.ref 94), some (.int l1), some (.int x11), some (.int x12)], [], (gSh, σ, u)) rfl ?_
      cases hP
      exact K1 _ _ rfl
theorem l_Model_uses_40 (E : gEv) (d u : Nat) {G : gFr → Prop} {vo : Option Value} {sr : gS} (hG : gClo E gDf gP18 gY218 (some .int) (gC E gDf gMs (d + 1)) (vo, (gSh, sr, u)) G) (l1 : Int32) (σ : gS) : ∀ (n : Nat) (l2 : Int32) (l3 : Int32) (e : (Int32)), gIter (fun z => p_Model_uses_40 E l1 z.1 z.2 σ) n (l2, l3) = some e → (∀ (m2 : Int32), e = m2 → G (76, [some (.ref 94), some (.int l1), some (.int m2), none], [], (gSh, σ, u))) → G (40, [some (.ref 94), some (.int l1), some (.int l2), some (.int l3)], [], (gSh, σ, u)) := by
  intro n
  induction n with
  | zero => intro l2 l3 e h; cases h
  | succ n ih =>
    intro l2 l3 e h K2
    rcases g_iter h with ⟨z, h1, h2⟩ | h1
    · exact b_Model_uses_40 E d u hG l1 l2 l3 σ h1 (fun n0 n1 hz => by cases hz; exact ih _ _ e h2 K2) (fun _ hz => by cases hz)
    · exact b_Model_uses_40 E d u hG l1 l2 l3 σ h1 (fun _ _ hz => by cases hz) (fun m2 hz => K2 m2 (by cases hz; rfl))
def p_Model_uses_78 (E : gEv) (l1 : Int32) (l2 : Int32) (l3 : Int32) (σ : gS) : Option ((Int32 × Int32) ⊕ (Int32)) :=
  if (σ.1 94 30) ≤ l3 then (some (.inr l2)) else (if gIn l3 (σ.2.1 105) then gB1 (p_Model_source E (σ.1 105 l3.toNatClampNeg) σ) fun v15 => if v15 = l1 then (gLet (l2 + (1 : Int32)) fun x17 => gLet (l3 + 1) fun x18 => some (.inl (x17, x18))) else (gLet (l2 + (0 : Int32)) fun x19 => gLet (l3 + 1) fun x20 => some (.inl (x19, x20))) else none)
set_option maxRecDepth 20000 in
theorem b_Model_uses_78 (E : gEv) (d u : Nat) {G : gFr → Prop} {vo : Option Value} {sr : gS} (hG : gClo E gDf gP18 gY218 (some .int) (gC E gDf gMs (d + 1)) (vo, (gSh, sr, u)) G) (l1 : Int32) (l2 : Int32) (l3 : Int32) (σ : gS) {r : (Int32 × Int32) ⊕ (Int32)} (hP : p_Model_uses_78 E l1 l2 l3 σ = some r) (K1 : ∀ (m2 : Int32) (m3 : Int32), r = .inl (m2, m3) → G (78, [some (.ref 94), some (.int l1), some (.int m2), some (.int m3)], [], (gSh, σ, u))) (K2 : ∀ (m2 : Int32), r = .inr m2 → G (114, [none, none, some (.int m2), none], [], (gSh, σ, u))) : G (78, [some (.ref 94), some (.int l1), some (.int l2), some (.int l3)], [], (gSh, σ, u)) := by
  unfold p_Model_uses_78 at hP
  refine gRunN_ok hG.1 3 _ (83, [some (.ref 94), some (.int l1), some (.int l2), some (.int l3)], [.int (σ.1 94 30), .int l3], (gSh, σ, u)) rfl ?_
  rcases g_ite hP with ⟨hc, hP⟩ | ⟨hc, hP⟩
  · refine hG.1 _ (114, [some (.ref 94), some (.int l1), some (.int l2), some (.int l3)], [], (gSh, σ, u)) _ rfl (if_pos hc) ?_
    refine hG.2.2.2.2.1 _ _ [none, none, some (.int l2), none] _ _ ⟨rfl, trivial⟩ ?_
    cases hP
    exact K2 _ rfl
  · refine hG.1 _ (86, [some (.ref 94), some (.int l1), some (.int l2), some (.int l3)], [], (gSh, σ, u)) _ rfl (if_neg hc) ?_
    refine gRunN_ok hG.1 5 _ (93, [some (.ref 94), some (.int l1), some (.int l2), some (.int l3)], [.int l3, .ref 105, .ref 94, .int l2], (gSh, σ, u)) rfl ?_
    obtain ⟨hc, hP⟩ := g_if hP
    refine hG.1 _ (94, [some (.ref 94), some (.int l1), some (.int l2), some (.int l3)], [.int (σ.1 105 l3.toNatClampNeg), .ref 94, .int l2], (gSh, σ, u)) _ rfl (if_pos hc) ?_
    obtain ⟨v15, hq, hP⟩ := g_b1 hP
    refine hG.2.2.2.1 _ _ _ [.ref 94, .int (σ.1 105 l3.toNatClampNeg)] [.int l2] _ (gSh, σ, u) (some (.int v15)) _ _ _ _ _ _ rfl rfl rfl rfl rfl rfl (c_Model_source E (d + 0) u (σ.1 105 l3.toNatClampNeg) _  hq) (Nat.le_refl _) (Nat.le_refl _) (Nat.le_refl _) (Nat.le_refl _) ?_
    show G (97, [some (.ref 94), some (.int l1), some (.int l2), some (.int l3)], [.int v15, .int l2], (gSh, σ, u))
    refine gRunN_ok hG.1 1 _ (98, [some (.ref 94), some (.int l1), some (.int l2), some (.int l3)], [.int l1, .int v15, .int l2], (gSh, σ, u)) rfl ?_
    rcases g_ite hP with ⟨hc, hP⟩ | ⟨hc, hP⟩
    · refine hG.1 _ (101, [some (.ref 94), some (.int l1), some (.int l2), some (.int l3)], [.int l2], (gSh, σ, u)) _ rfl (if_pos hc) ?_
      refine gRunN_ok hG.1 4 _ (108, [some (.ref 94), some (.int l1), some (.int (l2 + (1 : Int32))), some (.int l3)], [], (gSh, σ, u)) rfl ?_
      obtain ⟨x17, ex17, hP⟩ := g_let hP
      rw [← ex17]
      refine gRunN_ok hG.1 1 _ (111, [some (.ref 94), some (.int l1), some (.int x17), some (.int (l3 + 1))], [], (gSh, σ, u)) rfl ?_
      obtain ⟨x18, ex18, hP⟩ := g_let hP
      rw [← ex18]
      refine gRunN_ok hG.1 1 _ (78, [some (.ref 94), some (.int l1), some (.int x17), some (.int x18)], [], (gSh, σ, u)) rfl ?_
      cases hP
      exact K1 _ _ rfl
    · refine hG.1 _ (105, [some (.ref 94), some (.int l1), some (.int l2), some (.int l3)], [.int l2], (gSh, σ, u)) _ rfl (if_neg hc) ?_
      refine gRunN_ok hG.1 3 _ (108, [some (.ref 94), some (.int l1), some (.int (l2 + (0 : Int32))), some (.int l3)], [], (gSh, σ, u)) rfl ?_
      obtain ⟨x19, ex19, hP⟩ := g_let hP
      rw [← ex19]
      refine gRunN_ok hG.1 1 _ (111, [some (.ref 94), some (.int l1), some (.int x19), some (.int (l3 + 1))], [], (gSh, σ, u)) rfl ?_
      obtain ⟨x20, ex20, hP⟩ := g_let hP
      rw [← ex20]
      refine gRunN_ok hG.1 1 _ (78, [some (.ref 94), some (.int l1), some (.int x19), some (.int x20)], [], (gSh, σ, u)) rfl ?_
      cases hP
      exact K1 _ _ rfl
theorem l_Model_uses_78 (E : gEv) (d u : Nat) {G : gFr → Prop} {vo : Option Value} {sr : gS} (hG : gClo E gDf gP18 gY218 (some .int) (gC E gDf gMs (d + 1)) (vo, (gSh, sr, u)) G) (l1 : Int32) (σ : gS) : ∀ (n : Nat) (l2 : Int32) (l3 : Int32) (e : (Int32)), gIter (fun z => p_Model_uses_78 E l1 z.1 z.2 σ) n (l2, l3) = some e → (∀ (m2 : Int32), e = m2 → G (114, [none, none, some (.int m2), none], [], (gSh, σ, u))) → G (78, [some (.ref 94), some (.int l1), some (.int l2), some (.int l3)], [], (gSh, σ, u)) := by
  intro n
  induction n with
  | zero => intro l2 l3 e h; cases h
  | succ n ih =>
    intro l2 l3 e h K2
    rcases g_iter h with ⟨z, h1, h2⟩ | h1
    · exact b_Model_uses_78 E d u hG l1 l2 l3 σ h1 (fun n0 n1 hz => by cases hz; exact ih _ _ e h2 K2) (fun _ hz => by cases hz)
    · exact b_Model_uses_78 E d u hG l1 l2 l3 σ h1 (fun _ _ hz => by cases hz) (fun m2 hz => K2 m2 (by cases hz; rfl))
def p_Model_uses (E : gEv) (a0 : Int32) (σ : gS) : Option (Int32) :=
  gB1 (gIter (fun z => p_Model_uses_4 E a0 z.1 z.2 σ) gN (0, 0)) fun e5 => (fun w6 => gB1 (gIter (fun z => p_Model_uses_40 E a0 z.1 z.2 σ) gN (w6, 0)) fun e13 => (fun w14 => gB1 (gIter (fun z => p_Model_uses_78 E a0 z.1 z.2 σ) gN (w14, 0)) fun e21 => (fun w22 => some w22) e21) e13) e5
set_option maxRecDepth 20000 in
theorem c_Model_uses (E : gEv) (d u : Nat) (a0 : Int32) (σ : gS) {v : Int32}  (hq : p_Model_uses E a0 σ = some v) : gC E gDf gMs (d + 2) 218 [.ref 94, .int a0] (gSh, σ, u) (some (.int v), (gSh, σ, u)) := ⟨gM218, rfl, Nat.le_of_ble_eq_true rfl, fun G hG => by
  have hP := hq
  unfold p_Model_uses at hP
  replace hG : gClo E gDf gP18 gY218 (some .int) (gC E gDf gMs (d + 1)) (some (.int v), (gSh, σ, u)) G := hG
  show G (0, [some (.ref 94), some (.int a0), none, none], [], (gSh, σ, u))
  refine gRunN_ok hG.1 4 _ (4, [some (.ref 94), some (.int a0), some (.int 0), some (.int 0)], [], (gSh, σ, u)) rfl ?_
  obtain ⟨e5, hq, hP⟩ := g_b1 hP
  refine l_Model_uses_4 E d u hG a0 σ gN 0 0 _ hq (fun w6 he => ?_)
  · replace he := he.symm
    subst he
    try dsimp only [gSum] at hP
    refine gRunN_ok hG.1 2 _ (40, [some (.ref 94), some (.int a0), some (.int w6), some (.int 0)], [], (gSh, σ, u)) rfl ?_
    obtain ⟨e13, hq, hP⟩ := g_b1 hP
    refine l_Model_uses_40 E d u hG a0 σ gN w6 0 _ hq (fun w14 he => ?_)
    · replace he := he.symm
      subst he
      try dsimp only [gSum] at hP
      refine gRunN_ok hG.1 2 _ (78, [some (.ref 94), some (.int a0), some (.int w14), some (.int 0)], [], (gSh, σ, u)) rfl ?_
      obtain ⟨e21, hq, hP⟩ := g_b1 hP
      refine l_Model_uses_78 E d u hG a0 σ gN w14 0 _ hq (fun w22 he => ?_)
      · replace he := he.symm
        subst he
        try dsimp only [gSum] at hP
        refine gRunN_ok hG.1 1 _ (115, [none, none, some (.int w22), none], [.int w22], (gSh, σ, u)) rfl ?_
        cases hP
        exact hG.2.1 _ _ rfl rfl⟩
def p_Model_makeNets_31 (E : gEv) (l1 : Int32) (l2 : Int32) (l3 : Int32) (σ : gS) : Option ((Int32 × gS) ⊕ (gS)) :=
  if ((4 : Int32) * (σ.1 94 55)) ≤ l3 then (some (.inr σ)) else (if gIn l3 (σ.2.1 126) then if (σ.1 126 l3.toNatClampNeg) = l1 then (if gIn (σ.1 94 61) (σ.2.1 131) then gLet (gPut σ 131 (σ.1 94 61).toNatClampNeg l3) fun s4 => gLet (gPut s4 94 61 ((s4.1 94 61) + (1 : Int32))) fun s5 => gLet (l3 + 1) fun x6 => some (.inl (x6, s5)) else none) else (gLet (l3 + 1) fun x7 => some (.inl (x7, σ))) else none)
set_option maxRecDepth 20000 in
theorem b_Model_makeNets_31 (E : gEv) (d u : Nat) {G : gFr → Prop} {vo : Option Value} {sr : gS} (hG : gClo E gDf gP18 gY219 none (gC E gDf gMs (d + 1)) (vo, (gSh, sr, u)) G) (l1 : Int32) (l2 : Int32) (l3 : Int32) (σ : gS) {r : (Int32 × gS) ⊕ (gS)} (hP : p_Model_makeNets_31 E l1 l2 l3 σ = some r) (K1 : ∀ (m3 : Int32) (σ1 : gS), r = .inl (m3, σ1) → G (31, [some (.ref 94), some (.int l1), some (.int l2), some (.int m3), none], [], (gSh, σ1, u))) (K2 : ∀ (σ1 : gS), r = .inr σ1 → G (77, [some (.ref 94), some (.int l1), some (.int l2), none, none], [], (gSh, σ1, u))) : G (31, [some (.ref 94), some (.int l1), some (.int l2), some (.int l3), none], [], (gSh, σ, u)) := by
  unfold p_Model_makeNets_31 at hP
  refine gRunN_ok hG.1 5 _ (38, [some (.ref 94), some (.int l1), some (.int l2), some (.int l3), none], [.int ((4 : Int32) * (σ.1 94 55)), .int l3], (gSh, σ, u)) rfl ?_
  rcases g_ite hP with ⟨hc, hP⟩ | ⟨hc, hP⟩
  · refine hG.1 _ (77, [some (.ref 94), some (.int l1), some (.int l2), some (.int l3), none], [], (gSh, σ, u)) _ rfl (if_pos hc) ?_
    refine hG.2.2.2.2.1 _ _ [some (.ref 94), some (.int l1), some (.int l2), none, none] _ _ ⟨rfl, ⟨rfl, ⟨rfl, trivial⟩⟩⟩ ?_
    cases hP
    exact K2 _ rfl
  · refine hG.1 _ (41, [some (.ref 94), some (.int l1), some (.int l2), some (.int l3), none], [], (gSh, σ, u)) _ rfl (if_neg hc) ?_
    refine gRunN_ok hG.1 3 _ (46, [some (.ref 94), some (.int l1), some (.int l2), some (.int l3), none], [.int l3, .ref 126], (gSh, σ, u)) rfl ?_
    obtain ⟨hc, hP⟩ := g_if hP
    refine hG.1 _ (47, [some (.ref 94), some (.int l1), some (.int l2), some (.int l3), none], [.int (σ.1 126 l3.toNatClampNeg)], (gSh, σ, u)) _ rfl (if_pos hc) ?_
    refine gRunN_ok hG.1 1 _ (48, [some (.ref 94), some (.int l1), some (.int l2), some (.int l3), none], [.int l1, .int (σ.1 126 l3.toNatClampNeg)], (gSh, σ, u)) rfl ?_
    rcases g_ite hP with ⟨hc, hP⟩ | ⟨hc, hP⟩
    · refine hG.1 _ (51, [some (.ref 94), some (.int l1), some (.int l2), some (.int l3), none], [], (gSh, σ, u)) _ rfl (if_pos hc) ?_
      refine gRunN_ok hG.1 5 _ (60, [some (.ref 94), some (.int l1), some (.int l2), some (.int l3), none], [.int l3, .int (σ.1 94 61), .ref 131], (gSh, σ, u)) rfl ?_
      obtain ⟨hc, hP⟩ := g_if hP
      refine hG.1 _ (61, [some (.ref 94), some (.int l1), some (.int l2), some (.int l3), none], [], (gSh, (gPut σ 131 (σ.1 94 61).toNatClampNeg l3), u)) _ rfl (if_pos hc) ?_
      obtain ⟨s4, es4, hP⟩ := g_let hP
      rw [← es4]
      refine gRunN_ok hG.1 6 _ (71, [some (.ref 94), some (.int l1), some (.int l2), some (.int l3), none], [], (gSh, (gPut s4 94 61 ((s4.1 94 61) + (1 : Int32))), u)) rfl ?_
      obtain ⟨s5, es5, hP⟩ := g_let hP
      rw [← es5]
      refine gRunN_ok hG.1 1 _ (74, [some (.ref 94), some (.int l1), some (.int l2), some (.int (l3 + 1)), none], [], (gSh, s5, u)) rfl ?_
      obtain ⟨x6, ex6, hP⟩ := g_let hP
      rw [← ex6]
      refine gRunN_ok hG.1 1 _ (31, [some (.ref 94), some (.int l1), some (.int l2), some (.int x6), none], [], (gSh, s5, u)) rfl ?_
      cases hP
      exact K1 _ _ rfl
    · refine hG.1 _ (71, [some (.ref 94), some (.int l1), some (.int l2), some (.int l3), none], [], (gSh, σ, u)) _ rfl (if_neg hc) ?_
      refine gRunN_ok hG.1 1 _ (74, [some (.ref 94), some (.int l1), some (.int l2), some (.int (l3 + 1)), none], [], (gSh, σ, u)) rfl ?_
      obtain ⟨x7, ex7, hP⟩ := g_let hP
      rw [← ex7]
      refine gRunN_ok hG.1 1 _ (31, [some (.ref 94), some (.int l1), some (.int l2), some (.int x7), none], [], (gSh, σ, u)) rfl ?_
      cases hP
      exact K1 _ _ rfl
theorem l_Model_makeNets_31 (E : gEv) (d u : Nat) {G : gFr → Prop} {vo : Option Value} {sr : gS} (hG : gClo E gDf gP18 gY219 none (gC E gDf gMs (d + 1)) (vo, (gSh, sr, u)) G) (l1 : Int32) (l2 : Int32) : ∀ (n : Nat) (l3 : Int32) (σ : gS) (e : (gS)), gIter (fun z => p_Model_makeNets_31 E l1 l2 z.1 z.2) n (l3, σ) = some e → (∀ (σ1 : gS), e = σ1 → G (77, [some (.ref 94), some (.int l1), some (.int l2), none, none], [], (gSh, σ1, u))) → G (31, [some (.ref 94), some (.int l1), some (.int l2), some (.int l3), none], [], (gSh, σ, u)) := by
  intro n
  induction n with
  | zero => intro l3 σ e h; cases h
  | succ n ih =>
    intro l3 σ e h K2
    rcases g_iter h with ⟨z, h1, h2⟩ | h1
    · exact b_Model_makeNets_31 E d u hG l1 l2 l3 σ h1 (fun n0 n1 hz => by cases hz; exact ih _ _ e h2 K2) (fun _ hz => by cases hz)
    · exact b_Model_makeNets_31 E d u hG l1 l2 l3 σ h1 (fun _ _ hz => by cases hz) (fun σ1 hz => K2 σ1 (by cases hz; rfl))
def p_Model_makeNets_79 (E : gEv) (l1 : Int32) (l2 : Int32) (l3 : Int32) (σ : gS) : Option ((Int32 × gS) ⊕ (gS)) :=
  if (σ.1 94 30) ≤ l3 then (some (.inr σ)) else (if gIn l3 (σ.2.1 105) then gB1 (p_Model_source E (σ.1 105 l3.toNatClampNeg) σ) fun v10 => if v10 = l1 then (if gIn (σ.1 94 61) (σ.2.1 131) then gLet (gPut σ 131 (σ.1 94 61).toNatClampNeg ((1000 : Int32) + l3)) fun s12 => gLet (gPut s12 94 61 ((s12.1 94 61) + (1 : Int32))) fun s13 => gLet (l3 + 1) fun x14 => some (.inl (x14, s13)) else none) else (gLet (l3 + 1) fun x15 => some (.inl (x15, σ))) else none)
set_option maxRecDepth 20000 in
theorem b_Model_makeNets_79 (E : gEv) (d u : Nat) {G : gFr → Prop} {vo : Option Value} {sr : gS} (hG : gClo E gDf gP18 gY219 none (gC E gDf gMs (d + 1)) (vo, (gSh, sr, u)) G) (l1 : Int32) (l2 : Int32) (l3 : Int32) (σ : gS) {r : (Int32 × gS) ⊕ (gS)} (hP : p_Model_makeNets_79 E l1 l2 l3 σ = some r) (K1 : ∀ (m3 : Int32) (σ1 : gS), r = .inl (m3, σ1) → G (79, [some (.ref 94), some (.int l1), some (.int l2), some (.int m3), none], [], (gSh, σ1, u))) (K2 : ∀ (σ1 : gS), r = .inr σ1 → G (131, [some (.ref 94), some (.int l1), some (.int l2), none, none], [], (gSh, σ1, u))) : G (79, [some (.ref 94), some (.int l1), some (.int l2), some (.int l3), none], [], (gSh, σ, u)) := by
  unfold p_Model_makeNets_79 at hP
  refine gRunN_ok hG.1 3 _ (84, [some (.ref 94), some (.int l1), some (.int l2), some (.int l3), none], [.int (σ.1 94 30), .int l3], (gSh, σ, u)) rfl ?_
  rcases g_ite hP with ⟨hc, hP⟩ | ⟨hc, hP⟩
  · refine hG.1 _ (131, [some (.ref 94), some (.int l1), some (.int l2), some (.int l3), none], [], (gSh, σ, u)) _ rfl (if_pos hc) ?_
    refine hG.2.2.2.2.1 _ _ [some (.ref 94), some (.int l1), some (.int l2), none, none] _ _ ⟨rfl, ⟨rfl, ⟨rfl, trivial⟩⟩⟩ ?_
    cases hP
    exact K2 _ rfl
  · refine hG.1 _ (87, [some (.ref 94), some (.int l1), some (.int l2), some (.int l3), none], [], (gSh, σ, u)) _ rfl (if_neg hc) ?_
    refine gRunN_ok hG.1 4 _ (93, [some (.ref 94), some (.int l1), some (.int l2), some (.int l3), none], [.int l3, .ref 105, .ref 94], (gSh, σ, u)) rfl ?_
    obtain ⟨hc, hP⟩ := g_if hP
    refine hG.1 _ (94, [some (.ref 94), some (.int l1), some (.int l2), some (.int l3), none], [.int (σ.1 105 l3.toNatClampNeg), .ref 94], (gSh, σ, u)) _ rfl (if_pos hc) ?_
    obtain ⟨v10, hq, hP⟩ := g_b1 hP
    refine hG.2.2.2.1 _ _ _ [.ref 94, .int (σ.1 105 l3.toNatClampNeg)] [] _ (gSh, σ, u) (some (.int v10)) _ _ _ _ _ _ rfl rfl rfl rfl rfl rfl (c_Model_source E (d + 0) u (σ.1 105 l3.toNatClampNeg) _  hq) (Nat.le_refl _) (Nat.le_refl _) (Nat.le_refl _) (Nat.le_refl _) ?_
    show G (97, [some (.ref 94), some (.int l1), some (.int l2), some (.int l3), none], [.int v10], (gSh, σ, u))
    refine gRunN_ok hG.1 1 _ (98, [some (.ref 94), some (.int l1), some (.int l2), some (.int l3), none], [.int l1, .int v10], (gSh, σ, u)) rfl ?_
    rcases g_ite hP with ⟨hc, hP⟩ | ⟨hc, hP⟩
    · refine hG.1 _ (101, [some (.ref 94), some (.int l1), some (.int l2), some (.int l3), none], [], (gSh, σ, u)) _ rfl (if_pos hc) ?_
      refine gRunN_ok hG.1 7 _ (114, [some (.ref 94), some (.int l1), some (.int l2), some (.int l3), none], [.int ((1000 : Int32) + l3), .int (σ.1 94 61), .ref 131], (gSh, σ, u)) rfl ?_
      obtain ⟨hc, hP⟩ := g_if hP
      refine hG.1 _ (115, [some (.ref 94), some (.int l1), some (.int l2), some (.int l3), none], [], (gSh, (gPut σ 131 (σ.1 94 61).toNatClampNeg ((1000 : Int32) + l3)), u)) _ rfl (if_pos hc) ?_
      obtain ⟨s12, es12, hP⟩ := g_let hP
      rw [← es12]
      refine gRunN_ok hG.1 6 _ (125, [some (.ref 94), some (.int l1), some (.int l2), some (.int l3), none], [], (gSh, (gPut s12 94 61 ((s12.1 94 61) + (1 : Int32))), u)) rfl ?_
      obtain ⟨s13, es13, hP⟩ := g_let hP
      rw [← es13]
      refine gRunN_ok hG.1 1 _ (128, [some (.ref 94), some (.int l1), some (.int l2), some (.int (l3 + 1)), none], [], (gSh, s13, u)) rfl ?_
      obtain ⟨x14, ex14, hP⟩ := g_let hP
      rw [← ex14]
      refine gRunN_ok hG.1 1 _ (79, [some (.ref 94), some (.int l1), some (.int l2), some (.int x14), none], [], (gSh, s13, u)) rfl ?_
      cases hP
      exact K1 _ _ rfl
    · refine hG.1 _ (125, [some (.ref 94), some (.int l1), some (.int l2), some (.int l3), none], [], (gSh, σ, u)) _ rfl (if_neg hc) ?_
      refine gRunN_ok hG.1 1 _ (128, [some (.ref 94), some (.int l1), some (.int l2), some (.int (l3 + 1)), none], [], (gSh, σ, u)) rfl ?_
      obtain ⟨x15, ex15, hP⟩ := g_let hP
      rw [← ex15]
      refine gRunN_ok hG.1 1 _ (79, [some (.ref 94), some (.int l1), some (.int l2), some (.int x15), none], [], (gSh, σ, u)) rfl ?_
      cases hP
      exact K1 _ _ rfl
theorem l_Model_makeNets_79 (E : gEv) (d u : Nat) {G : gFr → Prop} {vo : Option Value} {sr : gS} (hG : gClo E gDf gP18 gY219 none (gC E gDf gMs (d + 1)) (vo, (gSh, sr, u)) G) (l1 : Int32) (l2 : Int32) : ∀ (n : Nat) (l3 : Int32) (σ : gS) (e : (gS)), gIter (fun z => p_Model_makeNets_79 E l1 l2 z.1 z.2) n (l3, σ) = some e → (∀ (σ1 : gS), e = σ1 → G (131, [some (.ref 94), some (.int l1), some (.int l2), none, none], [], (gSh, σ1, u))) → G (79, [some (.ref 94), some (.int l1), some (.int l2), some (.int l3), none], [], (gSh, σ, u)) := by
  intro n
  induction n with
  | zero => intro l3 σ e h; cases h
  | succ n ih =>
    intro l3 σ e h K2
    rcases g_iter h with ⟨z, h1, h2⟩ | h1
    · exact b_Model_makeNets_79 E d u hG l1 l2 l3 σ h1 (fun n0 n1 hz => by cases hz; exact ih _ _ e h2 K2) (fun _ hz => by cases hz)
    · exact b_Model_makeNets_79 E d u hG l1 l2 l3 σ h1 (fun _ _ hz => by cases hz) (fun σ1 hz => K2 σ1 (by cases hz; rfl))
def p_Model_makeNets_12 (E : gEv) (l1 : Int32) (σ : gS) : Option ((Int32 × gS) ⊕ (gS)) :=
  if ((400 : Int32) + (σ.1 94 46)) ≤ l1 then (some (.inr σ)) else (gLet (σ.1 94 61) fun x3 => gB1 (gIter (fun z => p_Model_makeNets_31 E l1 x3 z.1 z.2) gN (0, σ)) fun e8 => (fun s9 => gB1 (gIter (fun z => p_Model_makeNets_79 E l1 x3 z.1 z.2) gN (0, s9)) fun e16 => (fun s17 => if (s17.1 94 61) ≤ x3 then (gLet (l1 + 1) fun x18 => some (.inl (x18, s17))) else (if gIn (s17.1 94 60) (s17.2.1 129) then gLet (gPut s17 129 (s17.1 94 60).toNatClampNeg l1) fun s19 => if gIn (s19.1 94 60) (s19.2.1 130) then gLet (gPut s19 130 (s19.1 94 60).toNatClampNeg x3) fun s20 => gLet (gPut s20 94 60 ((s20.1 94 60) + (1 : Int32))) fun s21 => gLet (l1 + 1) fun x22 => some (.inl (x22, s21)) else none else none)) e16) e8)
set_option maxRecDepth 20000 in
theorem b_Model_makeNets_12 (E : gEv) (d u : Nat) {G : gFr → Prop} {vo : Option Value} {sr : gS} (hG : gClo E gDf gP18 gY219 none (gC E gDf gMs (d + 1)) (vo, (gSh, sr, u)) G) (l1 : Int32) (σ : gS) {r : (Int32 × gS) ⊕ (gS)} (hP : p_Model_makeNets_12 E l1 σ = some r) (K1 : ∀ (m1 : Int32) (σ1 : gS), r = .inl (m1, σ1) → G (12, [some (.ref 94), some (.int m1), none, none, none], [], (gSh, σ1, u))) (K2 : ∀ (σ1 : gS), r = .inr σ1 → G (175, [some (.ref 94), none, none, none, none], [], (gSh, σ1, u))) : G (12, [some (.ref 94), some (.int l1), none, none, none], [], (gSh, σ, u)) := by
  unfold p_Model_makeNets_12 at hP
  refine gRunN_ok hG.1 5 _ (21, [some (.ref 94), some (.int l1), none, none, none], [.int ((400 : Int32) + (σ.1 94 46)), .int l1], (gSh, σ, u)) rfl ?_
  rcases g_ite hP with ⟨hc, hP⟩ | ⟨hc, hP⟩
  · refine hG.1 _ (175, [some (.ref 94), some (.int l1), none, none, none], [], (gSh, σ, u)) _ rfl (if_pos hc) ?_
    refine hG.2.2.2.2.1 _ _ [some (.ref 94), none, none, none, none] _ _ ⟨rfl, trivial⟩ ?_
    cases hP
    exact K2 _ rfl
  · refine hG.1 _ (24, [some (.ref 94), some (.int l1), none, none, none], [], (gSh, σ, u)) _ rfl (if_neg hc) ?_
    refine gRunN_ok hG.1 3 _ (29, [some (.ref 94), some (.int l1), some (.int (σ.1 94 61)), none, none], [], (gSh, σ, u)) rfl ?_
    obtain ⟨x3, ex3, hP⟩ := g_let hP
    rw [← ex3]
    refine gRunN_ok hG.1 2 _ (31, [some (.ref 94), some (.int l1), some (.int x3), some (.int 0), none], [], (gSh, σ, u)) rfl ?_
    obtain ⟨e8, hq, hP⟩ := g_b1 hP
    refine l_Model_makeNets_31 E d u hG l1 x3 gN 0 σ _ hq (fun s9 he => ?_)
    · replace he := he.symm
      subst he
      try dsimp only [gSum] at hP
      refine gRunN_ok hG.1 2 _ (79, [some (.ref 94), some (.int l1), some (.int x3), some (.int 0), none], [], (gSh, s9, u)) rfl ?_
      obtain ⟨e16, hq, hP⟩ := g_b1 hP
      refine l_Model_makeNets_79 E d u hG l1 x3 gN 0 s9 _ hq (fun s17 he => ?_)
      · replace he := he.symm
        subst he
        try dsimp only [gSum] at hP
        refine gRunN_ok hG.1 3 _ (136, [some (.ref 94), some (.int l1), some (.int x3), none, none], [.int x3, .int (s17.1 94 61)], (gSh, s17, u)) rfl ?_
        rcases g_ite hP with ⟨hc, hP⟩ | ⟨hc, hP⟩
        · refine hG.1 _ (169, [some (.ref 94), some (.int l1), some (.int x3), none, none], [], (gSh, s17, u)) _ rfl (if_pos hc) ?_
          refine gRunN_ok hG.1 1 _ (172, [some (.ref 94), some (.int (l1 + 1)), some (.int x3), none, none], [], (gSh, s17, u)) rfl ?_
          obtain ⟨x18, ex18, hP⟩ := g_let hP
          rw [← ex18]
          refine gRunN_ok hG.1 1 _ (12, [some (.ref 94), some (.int x18), some (.int x3), none, none], [], (gSh, s17, u)) rfl ?_
          refine hG.2.2.2.2.1 _ _ [some (.ref 94), some (.int x18), none, none, none] _ _ ⟨rfl, ⟨rfl, trivial⟩⟩ ?_
          cases hP
          exact K1 _ _ rfl
        · refine hG.1 _ (139, [some (.ref 94), some (.int l1), some (.int x3), none, none], [], (gSh, s17, u)) _ rfl (if_neg hc) ?_
          refine gRunN_ok hG.1 5 _ (148, [some (.ref 94), some (.int l1), some (.int x3), none, none], [.int l1, .int (s17.1 94 60), .ref 129], (gSh, s17, u)) rfl ?_
          obtain ⟨hc, hP⟩ := g_if hP
          refine hG.1 _ (149, [some (.ref 94), some (.int l1), some (.int x3), none, none], [], (gSh, (gPut s17 129 (s17.1 94 60).toNatClampNeg l1), u)) _ rfl (if_pos hc) ?_
          obtain ⟨s19, es19, hP⟩ := g_let hP
          rw [← es19]
          refine gRunN_ok hG.1 5 _ (158, [some (.ref 94), some (.int l1), some (.int x3), none, none], [.int x3, .int (s19.1 94 60), .ref 130], (gSh, s19, u)) rfl ?_
          obtain ⟨hc, hP⟩ := g_if hP
          refine hG.1 _ (159, [some (.ref 94), some (.int l1), some (.int x3), none, none], [], (gSh, (gPut s19 130 (s19.1 94 60).toNatClampNeg x3), u)) _ rfl (if_pos hc) ?_
          obtain ⟨s20, es20, hP⟩ := g_let hP
          rw [← es20]
          refine gRunN_ok hG.1 6 _ (169, [some (.ref 94), some (.int l1), some (.int x3), none, none], [], (gSh, (gPut s20 94 60 ((s20.1 94 60) + (1 : Int32))), u)) rfl ?_
          obtain ⟨s21, es21, hP⟩ := g_let hP
          rw [← es21]
          refine gRunN_ok hG.1 1 _ (172, [some (.ref 94), some (.int (l1 + 1)), some (.int x3), none, none], [], (gSh, s21, u)) rfl ?_
          obtain ⟨x22, ex22, hP⟩ := g_let hP
          rw [← ex22]
          refine gRunN_ok hG.1 1 _ (12, [some (.ref 94), some (.int x22), some (.int x3), none, none], [], (gSh, s21, u)) rfl ?_
          refine hG.2.2.2.2.1 _ _ [some (.ref 94), some (.int x22), none, none, none] _ _ ⟨rfl, ⟨rfl, trivial⟩⟩ ?_
          cases hP
          exact K1 _ _ rfl
theorem l_Model_makeNets_12 (E : gEv) (d u : Nat) {G : gFr → Prop} {vo : Option Value} {sr : gS} (hG : gClo E gDf gP18 gY219 none (gC E gDf gMs (d + 1)) (vo, (gSh, sr, u)) G) : ∀ (n : Nat) (l1 : Int32) (σ : gS) (e : (gS)), gIter (fun z => p_Model_makeNets_12 E z.1 z.2) n (l1, σ) = some e → (∀ (σ1 : gS), e = σ1 → G (175, [some (.ref 94), none, none, none, none], [], (gSh, σ1, u))) → G (12, [some (.ref 94), some (.int l1), none, none, none], [], (gSh, σ, u)) := by
  intro n
  induction n with
  | zero => intro l1 σ e h; cases h
  | succ n ih =>
    intro l1 σ e h K2
    rcases g_iter h with ⟨z, h1, h2⟩ | h1
    · exact b_Model_makeNets_12 E d u hG l1 σ h1 (fun n0 n1 hz => by cases hz; exact ih _ _ e h2 K2) (fun _ hz => by cases hz)
    · exact b_Model_makeNets_12 E d u hG l1 σ h1 (fun _ _ hz => by cases hz) (fun σ1 hz => K2 σ1 (by cases hz; rfl))
def p_Model_makeNets_231 (E : gEv) (l1 : Int32) (l2 : Int32) (l3 : Int32) (l4 : Int32) (σ : gS) : Option ((Int32 × Int32) ⊕ (Int32)) :=
  if (4 : Int32) ≤ l4 then (some (.inr l3)) else (if l3 = 0 then (if gIn (((4 : Int32) * l1) + l4) (σ.2.1 126) then if gIn l2 (σ.2.1 129) then if (σ.1 126 (((4 : Int32) * l1) + l4).toNatClampNeg) = (σ.1 129 l2.toNatClampNeg) then (gLet (l4 + 1) fun x28 => some (.inl (1, x28))) else (gLet (l4 + 1) fun x29 => some (.inl (0, x29))) else none else none) else (gLet (l4 + 1) fun x30 => some (.inl (1, x30))))
set_option maxRecDepth 20000 in
theorem b_Model_makeNets_231 (E : gEv) (d u : Nat) {G : gFr → Prop} {vo : Option Value} {sr : gS} (hG : gClo E gDf gP18 gY219 none (gC E gDf gMs (d + 1)) (vo, (gSh, sr, u)) G) (l1 : Int32) (l2 : Int32) (l3 : Int32) (l4 : Int32) (σ : gS) {r : (Int32 × Int32) ⊕ (Int32)} (hP : p_Model_makeNets_231 E l1 l2 l3 l4 σ = some r) (K1 : ∀ (m3 : Int32) (m4 : Int32), r = .inl (m3, m4) → G (231, [some (.ref 94), some (.int l1), some (.int l2), some (.int m3), some (.int m4)], [], (gSh, σ, u))) (K2 : ∀ (m3 : Int32), r = .inr m3 → G (273, [some (.ref 94), some (.int l1), some (.int l2), some (.int m3), none], [], (gSh, σ, u))) : G (231, [some (.ref 94), some (.int l1), some (.int l2), some (.int l3), some (.int l4)], [], (gSh, σ, u)) := by
  unfold p_Model_makeNets_231 at hP
  refine gRunN_ok hG.1 2 _ (234, [some (.ref 94), some (.int l1), some (.int l2), some (.int l3), some (.int l4)], [.int 4, .int l4], (gSh, σ, u)) rfl ?_
  rcases g_ite hP with ⟨hc, hP⟩ | ⟨hc, hP⟩
  · refine hG.1 _ (273, [some (.ref 94), some (.int l1), some (.int l2), some (.int l3), some (.int l4)], [], (gSh, σ, u)) _ rfl (if_pos hc) ?_
    refine hG.2.2.2.2.1 _ _ [some (.ref 94), some (.int l1), some (.int l2), some (.int l3), none] _ _ ⟨rfl, ⟨rfl, ⟨rfl, ⟨rfl, trivial⟩⟩⟩⟩ ?_
    cases hP
    exact K2 _ rfl
  · refine hG.1 _ (237, [some (.ref 94), some (.int l1), some (.int l2), some (.int l3), some (.int l4)], [], (gSh, σ, u)) _ rfl (if_neg hc) ?_
    refine gRunN_ok hG.1 1 _ (238, [some (.ref 94), some (.int l1), some (.int l2), some (.int l3), some (.int l4)], [.int l3], (gSh, σ, u)) rfl ?_
    rcases g_ite hP with ⟨hc, hP⟩ | ⟨hc, hP⟩
    · refine hG.1 _ (241, [some (.ref 94), some (.int l1), some (.int l2), some (.int l3), some (.int l4)], [], (gSh, σ, u)) _ rfl (if_pos hc) ?_
      refine gRunN_ok hG.1 7 _ (251, [some (.ref 94), some (.int l1), some (.int l2), some (.int l3), some (.int l4)], [.int (((4 : Int32) * l1) + l4), .ref 126], (gSh, σ, u)) rfl ?_
      obtain ⟨hc, hP⟩ := g_if hP
      refine hG.1 _ (252, [some (.ref 94), some (.int l1), some (.int l2), some (.int l3), some (.int l4)], [.int (σ.1 126 (((4 : Int32) * l1) + l4).toNatClampNeg)], (gSh, σ, u)) _ rfl (if_pos hc) ?_
      refine gRunN_ok hG.1 3 _ (257, [some (.ref 94), some (.int l1), some (.int l2), some (.int l3), some (.int l4)], [.int l2, .ref 129, .int (σ.1 126 (((4 : Int32) * l1) + l4).toNatClampNeg)], (gSh, σ, u)) rfl ?_
      obtain ⟨hc, hP⟩ := g_if hP
      refine hG.1 _ (258, [some (.ref 94), some (.int l1), some (.int l2), some (.int l3), some (.int l4)], [.int (σ.1 129 l2.toNatClampNeg), .int (σ.1 126 (((4 : Int32) * l1) + l4).toNatClampNeg)], (gSh, σ, u)) _ rfl (if_pos hc) ?_
      rcases g_ite hP with ⟨hc, hP⟩ | ⟨hc, hP⟩
      · refine hG.1 _ (261, [some (.ref 94), some (.int l1), some (.int l2), some (.int l3), some (.int l4)], [], (gSh, σ, u)) _ rfl (if_pos hc) ?_
        refine gRunN_ok hG.1 4 _ (270, [some (.ref 94), some (.int l1), some (.int l2), some (.int 1), some (.int (l4 + 1))], [], (gSh, σ, u)) rfl ?_
        obtain ⟨x28, ex28, hP⟩ := g_let hP
        rw [← ex28]
        refine gRunN_ok hG.1 1 _ (231, [some (.ref 94), some (.int l1), some (.int l2), some (.int 1), some (.int x28)], [], (gSh, σ, u)) rfl ?_
        cases hP
        exact K1 _ _ rfl
      · refine hG.1 _ (265, [some (.ref 94), some (.int l1), some (.int l2), some (.int l3), some (.int l4)], [], (gSh, σ, u)) _ rfl (if_neg hc) ?_
        refine gRunN_ok hG.1 3 _ (270, [some (.ref 94), some (.int l1), some (.int l2), some (.int 0), some (.int (l4 + 1))], [], (gSh, σ, u)) rfl ?_
        obtain ⟨x29, ex29, hP⟩ := g_let hP
        rw [← ex29]
        refine gRunN_ok hG.1 1 _ (231, [some (.ref 94), some (.int l1), some (.int l2), some (.int 0), some (.int x29)], [], (gSh, σ, u)) rfl ?_
        cases hP
        exact K1 _ _ rfl
    · refine hG.1 _ (261, [some (.ref 94), some (.int l1), some (.int l2), some (.int l3), some (.int l4)], [], (gSh, σ, u)) _ rfl (if_neg hc) ?_
      refine gRunN_ok hG.1 4 _ (270, [some (.ref 94), some (.int l1), some (.int l2), some (.int 1), some (.int (l4 + 1))], [], (gSh, σ, u)) rfl ?_
      obtain ⟨x30, ex30, hP⟩ := g_let hP
      rw [← ex30]
      refine gRunN_ok hG.1 1 _ (231, [some (.ref 94), some (.int l1), some (.int l2), some (.int 1), some (.int x30)], [], (gSh, σ, u)) rfl ?_
      cases hP
      exact K1 _ _ rfl
theorem l_Model_makeNets_231 (E : gEv) (d u : Nat) {G : gFr → Prop} {vo : Option Value} {sr : gS} (hG : gClo E gDf gP18 gY219 none (gC E gDf gMs (d + 1)) (vo, (gSh, sr, u)) G) (l1 : Int32) (l2 : Int32) (σ : gS) : ∀ (n : Nat) (l3 : Int32) (l4 : Int32) (e : (Int32)), gIter (fun z => p_Model_makeNets_231 E l1 l2 z.1 z.2 σ) n (l3, l4) = some e → (∀ (m3 : Int32), e = m3 → G (273, [some (.ref 94), some (.int l1), some (.int l2), some (.int m3), none], [], (gSh, σ, u))) → G (231, [some (.ref 94), some (.int l1), some (.int l2), some (.int l3), some (.int l4)], [], (gSh, σ, u)) := by
  intro n
  induction n with
  | zero => intro l3 l4 e h; cases h
  | succ n ih =>
    intro l3 l4 e h K2
    rcases g_iter h with ⟨z, h1, h2⟩ | h1
    · exact b_Model_makeNets_231 E d u hG l1 l2 l3 l4 σ h1 (fun n0 n1 hz => by cases hz; exact ih _ _ e h2 K2) (fun _ hz => by cases hz)
    · exact b_Model_makeNets_231 E d u hG l1 l2 l3 l4 σ h1 (fun _ _ hz => by cases hz) (fun m3 hz => K2 m3 (by cases hz; rfl))
def p_Model_makeNets_j227_200 (E : gEv) (l1 : Int32) (l2 : Int32) (y0 : Int32) (σ : gS) : Option ((Int32 × gS) ⊕ (gS)) :=
  gB1 (gIter (fun z => p_Model_makeNets_231 E l1 l2 z.1 z.2 σ) gN (y0, 0)) fun e31 => (fun w32 => if gIn (((400 : Int32) * l1) + l2) (σ.2.1 135) then gLet (gPut σ 135 (((400 : Int32) * l1) + l2).toNatClampNeg (vp_nar .boolean w32)) fun s33 => gLet (l2 + 1) fun x34 => some (.inl (x34, s33)) else none) e31
set_option maxRecDepth 20000 in
theorem j_Model_makeNets_j227_200 (E : gEv) (d u : Nat) {G : gFr → Prop} {vo : Option Value} {sr : gS} (hG : gClo E gDf gP18 gY219 none (gC E gDf gMs (d + 1)) (vo, (gSh, sr, u)) G) (l1 : Int32) (l2 : Int32) (y0 : Int32) (σ : gS) {r : (Int32 × gS) ⊕ (gS)} (hP : p_Model_makeNets_j227_200 E l1 l2 y0 σ = some r) (K1 : ∀ (m2 : Int32) (σ1 : gS), r = .inl (m2, σ1) → G (200, [some (.ref 94), some (.int l1), some (.int m2), none, none], [], (gSh, σ1, u))) (K2 : ∀ (σ1 : gS), r = .inr σ1 → G (292, [some (.ref 94), some (.int l1), none, none, none], [], (gSh, σ1, u))) : G (227, [some (.ref 94), some (.int l1), some (.int l2), none, none], [.int y0], (gSh, σ, u)) := by
  unfold p_Model_makeNets_j227_200 at hP
  refine gRunN_ok hG.1 3 _ (231, [some (.ref 94), some (.int l1), some (.int l2), some (.int y0), some (.int 0)], [], (gSh, σ, u)) rfl ?_
  obtain ⟨e31, hq, hP⟩ := g_b1 hP
  refine l_Model_makeNets_231 E d u hG l1 l2 σ gN y0 0 _ hq (fun w32 he => ?_)
  · replace he := he.symm
    subst he
    try dsimp only [gSum] at hP
    refine gRunN_ok hG.1 8 _ (285, [some (.ref 94), some (.int l1), some (.int l2), some (.int w32), none], [.int w32, .int (((400 : Int32) * l1) + l2), .ref 135], (gSh, σ, u)) rfl ?_
    obtain ⟨hc, hP⟩ := g_if hP
    refine hG.1 _ (286, [some (.ref 94), some (.int l1), some (.int l2), some (.int w32), none], [], (gSh, (gPut σ 135 (((400 : Int32) * l1) + l2).toNatClampNeg (vp_nar .boolean w32)), u)) _ rfl (if_pos hc) ?_
    obtain ⟨s33, es33, hP⟩ := g_let hP
    rw [← es33]
    refine gRunN_ok hG.1 1 _ (289, [some (.ref 94), some (.int l1), some (.int (l2 + 1)), some (.int w32), none], [], (gSh, s33, u)) rfl ?_
    obtain ⟨x34, ex34, hP⟩ := g_let hP
    rw [← ex34]
    refine gRunN_ok hG.1 1 _ (200, [some (.ref 94), some (.int l1), some (.int x34), some (.int w32), none], [], (gSh, s33, u)) rfl ?_
    refine hG.2.2.2.2.1 _ _ [some (.ref 94), some (.int l1), some (.int x34), none, none] _ _ ⟨rfl, ⟨rfl, ⟨rfl, trivial⟩⟩⟩ ?_
    cases hP
    exact K1 _ _ rfl
def p_Model_makeNets_200 (E : gEv) (l1 : Int32) (l2 : Int32) (σ : gS) : Option ((Int32 × gS) ⊕ (gS)) :=
  if (σ.1 94 60) ≤ l2 then (some (.inr σ)) else (if gIn l2 (σ.2.1 129) then gB1 (p_Model_elementOf E (σ.1 129 l2.toNatClampNeg) σ) fun v26 => if v26 = l1 then (p_Model_makeNets_j227_200 E l1 l2 1 σ) else (p_Model_makeNets_j227_200 E l1 l2 0 σ) else none)
set_option maxRecDepth 20000 in
theorem b_Model_makeNets_200 (E : gEv) (d u : Nat) {G : gFr → Prop} {vo : Option Value} {sr : gS} (hG : gClo E gDf gP18 gY219 none (gC E gDf gMs (d + 1)) (vo, (gSh, sr, u)) G) (l1 : Int32) (l2 : Int32) (σ : gS) {r : (Int32 × gS) ⊕ (gS)} (hP : p_Model_makeNets_200 E l1 l2 σ = some r) (K1 : ∀ (m2 : Int32) (σ1 : gS), r = .inl (m2, σ1) → G (200, [some (.ref 94), some (.int l1), some (.int m2), none, none], [], (gSh, σ1, u))) (K2 : ∀ (σ1 : gS), r = .inr σ1 → G (292, [some (.ref 94), some (.int l1), none, none, none], [], (gSh, σ1, u))) : G (200, [some (.ref 94), some (.int l1), some (.int l2), none, none], [], (gSh, σ, u)) := by
  unfold p_Model_makeNets_200 at hP
  refine gRunN_ok hG.1 3 _ (205, [some (.ref 94), some (.int l1), some (.int l2), none, none], [.int (σ.1 94 60), .int l2], (gSh, σ, u)) rfl ?_
  rcases g_ite hP with ⟨hc, hP⟩ | ⟨hc, hP⟩
  · refine hG.1 _ (292, [some (.ref 94), some (.int l1), some (.int l2), none, none], [], (gSh, σ, u)) _ rfl (if_pos hc) ?_
    refine hG.2.2.2.2.1 _ _ [some (.ref 94), some (.int l1), none, none, none] _ _ ⟨rfl, ⟨rfl, trivial⟩⟩ ?_
    cases hP
    exact K2 _ rfl
  · refine hG.1 _ (208, [some (.ref 94), some (.int l1), some (.int l2), none, none], [], (gSh, σ, u)) _ rfl (if_neg hc) ?_
    refine gRunN_ok hG.1 4 _ (214, [some (.ref 94), some (.int l1), some (.int l2), none, none], [.int l2, .ref 129, .ref 94], (gSh, σ, u)) rfl ?_
    obtain ⟨hc, hP⟩ := g_if hP
    refine hG.1 _ (215, [some (.ref 94), some (.int l1), some (.int l2), none, none], [.int (σ.1 129 l2.toNatClampNeg), .ref 94], (gSh, σ, u)) _ rfl (if_pos hc) ?_
    obtain ⟨v26, hq, hP⟩ := g_b1 hP
    refine hG.2.2.2.1 _ _ _ [.ref 94, .int (σ.1 129 l2.toNatClampNeg)] [] _ (gSh, σ, u) (some (.int v26)) _ _ _ _ _ _ rfl rfl rfl rfl rfl rfl (c_Model_elementOf E (d + 0) u (σ.1 129 l2.toNatClampNeg) _  hq) (Nat.le_refl _) (Nat.le_refl _) (Nat.le_refl _) (Nat.le_refl _) ?_
    show G (218, [some (.ref 94), some (.int l1), some (.int l2), none, none], [.int v26], (gSh, σ, u))
    refine gRunN_ok hG.1 1 _ (219, [some (.ref 94), some (.int l1), some (.int l2), none, none], [.int l1, .int v26], (gSh, σ, u)) rfl ?_
    rcases g_ite hP with ⟨hc, hP⟩ | ⟨hc, hP⟩
    · refine hG.1 _ (222, [some (.ref 94), some (.int l1), some (.int l2), none, none], [], (gSh, σ, u)) _ rfl (if_pos hc) ?_
      refine gRunN_ok hG.1 2 _ (227, [some (.ref 94), some (.int l1), some (.int l2), none, none], [.int 1], (gSh, σ, u)) rfl ?_
      exact j_Model_makeNets_j227_200 E d u hG l1 l2 1 σ hP K1 K2
    · refine hG.1 _ (226, [some (.ref 94), some (.int l1), some (.int l2), none, none], [], (gSh, σ, u)) _ rfl (if_neg hc) ?_
      refine gRunN_ok hG.1 1 _ (227, [some (.ref 94), some (.int l1), some (.int l2), none, none], [.int 0], (gSh, σ, u)) rfl ?_
      exact j_Model_makeNets_j227_200 E d u hG l1 l2 0 σ hP K1 K2
theorem l_Model_makeNets_200 (E : gEv) (d u : Nat) {G : gFr → Prop} {vo : Option Value} {sr : gS} (hG : gClo E gDf gP18 gY219 none (gC E gDf gMs (d + 1)) (vo, (gSh, sr, u)) G) (l1 : Int32) : ∀ (n : Nat) (l2 : Int32) (σ : gS) (e : (gS)), gIter (fun z => p_Model_makeNets_200 E l1 z.1 z.2) n (l2, σ) = some e → (∀ (σ1 : gS), e = σ1 → G (292, [some (.ref 94), some (.int l1), none, none, none], [], (gSh, σ1, u))) → G (200, [some (.ref 94), some (.int l1), some (.int l2), none, none], [], (gSh, σ, u)) := by
  intro n
  induction n with
  | zero => intro l2 σ e h; cases h
  | succ n ih =>
    intro l2 σ e h K2
    rcases g_iter h with ⟨z, h1, h2⟩ | h1
    · exact b_Model_makeNets_200 E d u hG l1 l2 σ h1 (fun n0 n1 hz => by cases hz; exact ih _ _ e h2 K2) (fun _ hz => by cases hz)
    · exact b_Model_makeNets_200 E d u hG l1 l2 σ h1 (fun _ _ hz => by cases hz) (fun σ1 hz => K2 σ1 (by cases hz; rfl))
def p_Model_makeNets_190 (E : gEv) (l1 : Int32) (σ : gS) : Option ((Int32 × gS) ⊕ (gS)) :=
  if (σ.1 94 55) ≤ l1 then (some (.inr σ)) else (gB1 (gIter (fun z => p_Model_makeNets_200 E l1 z.1 z.2) gN (0, σ)) fun e35 => (fun s36 => gLet (l1 + 1) fun x37 => some (.inl (x37, s36))) e35)
set_option maxRecDepth 20000 in
theorem b_Model_makeNets_190 (E : gEv) (d u : Nat) {G : gFr → Prop} {vo : Option Value} {sr : gS} (hG : gClo E gDf gP18 gY219 none (gC E gDf gMs (d + 1)) (vo, (gSh, sr, u)) G) (l1 : Int32) (σ : gS) {r : (Int32 × gS) ⊕ (gS)} (hP : p_Model_makeNets_190 E l1 σ = some r) (K1 : ∀ (m1 : Int32) (σ1 : gS), r = .inl (m1, σ1) → G (190, [some (.ref 94), some (.int m1), none, none, none], [], (gSh, σ1, u))) (K2 : ∀ (σ1 : gS), r = .inr σ1 → G (298, [none, none, none, none, none], [], (gSh, σ1, u))) : G (190, [some (.ref 94), some (.int l1), none, none, none], [], (gSh, σ, u)) := by
  unfold p_Model_makeNets_190 at hP
  refine gRunN_ok hG.1 3 _ (195, [some (.ref 94), some (.int l1), none, none, none], [.int (σ.1 94 55), .int l1], (gSh, σ, u)) rfl ?_
  rcases g_ite hP with ⟨hc, hP⟩ | ⟨hc, hP⟩
  · refine hG.1 _ (298, [some (.ref 94), some (.int l1), none, none, none], [], (gSh, σ, u)) _ rfl (if_pos hc) ?_
    refine hG.2.2.2.2.1 _ _ [none, none, none, none, none] _ _ trivial ?_
    cases hP
    exact K2 _ rfl
  · refine hG.1 _ (198, [some (.ref 94), some (.int l1), none, none, none], [], (gSh, σ, u)) _ rfl (if_neg hc) ?_
    refine gRunN_ok hG.1 2 _ (200, [some (.ref 94), some (.int l1), some (.int 0), none, none], [], (gSh, σ, u)) rfl ?_
    obtain ⟨e35, hq, hP⟩ := g_b1 hP
    refine l_Model_makeNets_200 E d u hG l1 gN 0 σ _ hq (fun s36 he => ?_)
    · replace he := he.symm
      subst he
      try dsimp only [gSum] at hP
      refine gRunN_ok hG.1 1 _ (295, [some (.ref 94), some (.int (l1 + 1)), none, none, none], [], (gSh, s36, u)) rfl ?_
      obtain ⟨x37, ex37, hP⟩ := g_let hP
      rw [← ex37]
      refine gRunN_ok hG.1 1 _ (190, [some (.ref 94), some (.int x37), none, none, none], [], (gSh, s36, u)) rfl ?_
      cases hP
      exact K1 _ _ rfl
theorem l_Model_makeNets_190 (E : gEv) (d u : Nat) {G : gFr → Prop} {vo : Option Value} {sr : gS} (hG : gClo E gDf gP18 gY219 none (gC E gDf gMs (d + 1)) (vo, (gSh, sr, u)) G) : ∀ (n : Nat) (l1 : Int32) (σ : gS) (e : (gS)), gIter (fun z => p_Model_makeNets_190 E z.1 z.2) n (l1, σ) = some e → (∀ (σ1 : gS), e = σ1 → G (298, [none, none, none, none, none], [], (gSh, σ1, u))) → G (190, [some (.ref 94), some (.int l1), none, none, none], [], (gSh, σ, u)) := by
  intro n
  induction n with
  | zero => intro l1 σ e h; cases h
  | succ n ih =>
    intro l1 σ e h K2
    rcases g_iter h with ⟨z, h1, h2⟩ | h1
    · exact b_Model_makeNets_190 E d u hG l1 σ h1 (fun n0 n1 hz => by cases hz; exact ih _ _ e h2 K2) (fun _ hz => by cases hz)
    · exact b_Model_makeNets_190 E d u hG l1 σ h1 (fun _ _ hz => by cases hz) (fun σ1 hz => K2 σ1 (by cases hz; rfl))
def p_Model_makeNets (E : gEv) (σ : gS) : Option (gS) :=
  gLet (gPut σ 94 60 0) fun s1 => gLet (gPut s1 94 61 0) fun s2 => gB1 (gIter (fun z => p_Model_makeNets_12 E z.1 z.2) gN (0, s2)) fun e23 => (fun s24 => if gIn (s24.1 94 60) (s24.2.1 130) then gLet (gPut s24 130 (s24.1 94 60).toNatClampNeg (s24.1 94 61)) fun s25 => gB1 (gIter (fun z => p_Model_makeNets_190 E z.1 z.2) gN (0, s25)) fun e38 => (fun s39 => some s39) e38 else none) e23
set_option maxRecDepth 20000 in
theorem c_Model_makeNets (E : gEv) (d u : Nat) (σ : gS) {sr : gS}  (hq : p_Model_makeNets E σ = some sr) : gC E gDf gMs (d + 2) 219 [.ref 94] (gSh, σ, u) (none, (gSh, sr, u)) := ⟨gM219, rfl, Nat.le_of_ble_eq_true rfl, fun G hG => by
  have hP := hq
  unfold p_Model_makeNets at hP
  replace hG : gClo E gDf gP18 gY219 none (gC E gDf gMs (d + 1)) (none, (gSh, sr, u)) G := hG
  show G (0, [some (.ref 94), none, none, none, none], [], (gSh, σ, u))
  refine gRunN_ok hG.1 3 _ (5, [some (.ref 94), none, none, none, none], [], (gSh, (gPut σ 94 60 0), u)) rfl ?_
  obtain ⟨s1, es1, hP⟩ := g_let hP
  rw [← es1]
  refine gRunN_ok hG.1 3 _ (10, [some (.ref 94), none, none, none, none], [], (gSh, (gPut s1 94 61 0), u)) rfl ?_
  obtain ⟨s2, es2, hP⟩ := g_let hP
  rw [← es2]
  refine gRunN_ok hG.1 2 _ (12, [some (.ref 94), some (.int 0), none, none, none], [], (gSh, s2, u)) rfl ?_
  obtain ⟨e23, hq, hP⟩ := g_b1 hP
  refine l_Model_makeNets_12 E d u hG gN 0 s2 _ hq (fun s24 he => ?_)
  · replace he := he.symm
    subst he
    try dsimp only [gSum] at hP
    refine gRunN_ok hG.1 6 _ (187, [some (.ref 94), none, none, none, none], [.int (s24.1 94 61), .int (s24.1 94 60), .ref 130], (gSh, s24, u)) rfl ?_
    obtain ⟨hc, hP⟩ := g_if hP
    refine hG.1 _ (188, [some (.ref 94), none, none, none, none], [], (gSh, (gPut s24 130 (s24.1 94 60).toNatClampNeg (s24.1 94 61)), u)) _ rfl (if_pos hc) ?_
    obtain ⟨s25, es25, hP⟩ := g_let hP
    rw [← es25]
    refine gRunN_ok hG.1 2 _ (190, [some (.ref 94), some (.int 0), none, none, none], [], (gSh, s25, u)) rfl ?_
    obtain ⟨e38, hq, hP⟩ := g_b1 hP
    refine l_Model_makeNets_190 E d u hG gN 0 s25 _ hq (fun s39 he => ?_)
    · replace he := he.symm
      subst he
      try dsimp only [gSum] at hP
      cases hP
      exact hG.2.1 _ _ rfl rfl⟩
def p_Model_makeClusters_7 (E : gEv) (l1 : Int32) (σ : gS) : Option ((Int32 × gS) ⊕ (gS)) :=
  if (σ.1 94 55) ≤ l1 then (some (.inr σ)) else (if gIn l1 (σ.2.1 133) then gLet (gPut σ 133 l1.toNatClampNeg (-1)) fun s2 => gLet (l1 + 1) fun x3 => some (.inl (x3, s2)) else none)
set_option maxRecDepth 20000 in
theorem b_Model_makeClusters_7 (E : gEv) (d u : Nat) {G : gFr → Prop} {vo : Option Value} {sr : gS} (hG : gClo E gDf gP18 gY221 none (gC E gDf gMs (d + 1)) (vo, (gSh, sr, u)) G) (l1 : Int32) (σ : gS) {r : (Int32 × gS) ⊕ (gS)} (hP : p_Model_makeClusters_7 E l1 σ = some r) (K1 : ∀ (m1 : Int32) (σ1 : gS), r = .inl (m1, σ1) → G (7, [some (.ref 94), some (.int m1), none, none, none, none, none], [], (gSh, σ1, u))) (K2 : ∀ (σ1 : gS), r = .inr σ1 → G (28, [some (.ref 94), none, none, none, none, none, none], [], (gSh, σ1, u))) : G (7, [some (.ref 94), some (.int l1), none, none, none, none, none], [], (gSh, σ, u)) := by
  unfold p_Model_makeClusters_7 at hP
  refine gRunN_ok hG.1 3 _ (12, [some (.ref 94), some (.int l1), none, none, none, none, none], [.int (σ.1 94 55), .int l1], (gSh, σ, u)) rfl ?_
  rcases g_ite hP with ⟨hc, hP⟩ | ⟨hc, hP⟩
  · refine hG.1 _ (28, [some (.ref 94), some (.int l1), none, none, none, none, none], [], (gSh, σ, u)) _ rfl (if_pos hc) ?_
    refine hG.2.2.2.2.1 _ _ [some (.ref 94), none, none, none, none, none, none] _ _ ⟨rfl, trivial⟩ ?_
    cases hP
    exact K2 _ rfl
  · refine hG.1 _ (15, [some (.ref 94), some (.int l1), none, none, none, none, none], [], (gSh, σ, u)) _ rfl (if_neg hc) ?_
    refine gRunN_ok hG.1 4 _ (21, [some (.ref 94), some (.int l1), none, none, none, none, none], [.int (-1), .int l1, .ref 133], (gSh, σ, u)) rfl ?_
    obtain ⟨hc, hP⟩ := g_if hP
    refine hG.1 _ (22, [some (.ref 94), some (.int l1), none, none, none, none, none], [], (gSh, (gPut σ 133 l1.toNatClampNeg (-1)), u)) _ rfl (if_pos hc) ?_
    obtain ⟨s2, es2, hP⟩ := g_let hP
    rw [← es2]
    refine gRunN_ok hG.1 1 _ (25, [some (.ref 94), some (.int (l1 + 1)), none, none, none, none, none], [], (gSh, s2, u)) rfl ?_
    obtain ⟨x3, ex3, hP⟩ := g_let hP
    rw [← ex3]
    refine gRunN_ok hG.1 1 _ (7, [some (.ref 94), some (.int x3), none, none, none, none, none], [], (gSh, s2, u)) rfl ?_
    cases hP
    exact K1 _ _ rfl
theorem l_Model_makeClusters_7 (E : gEv) (d u : Nat) {G : gFr → Prop} {vo : Option Value} {sr : gS} (hG : gClo E gDf gP18 gY221 none (gC E gDf gMs (d + 1)) (vo, (gSh, sr, u)) G) : ∀ (n : Nat) (l1 : Int32) (σ : gS) (e : (gS)), gIter (fun z => p_Model_makeClusters_7 E z.1 z.2) n (l1, σ) = some e → (∀ (σ1 : gS), e = σ1 → G (28, [some (.ref 94), none, none, none, none, none, none], [], (gSh, σ1, u))) → G (7, [some (.ref 94), some (.int l1), none, none, none, none, none], [], (gSh, σ, u)) := by
  intro n
  induction n with
  | zero => intro l1 σ e h; cases h
  | succ n ih =>
    intro l1 σ e h K2
    rcases g_iter h with ⟨z, h1, h2⟩ | h1
    · exact b_Model_makeClusters_7 E d u hG l1 σ h1 (fun n0 n1 hz => by cases hz; exact ih _ _ e h2 K2) (fun _ hz => by cases hz)
    · exact b_Model_makeClusters_7 E d u hG l1 σ h1 (fun _ _ hz => by cases hz) (fun σ1 hz => K2 σ1 (by cases hz; rfl))
def p_Model_makeClusters_j108_59 (E : gEv) (l1 : Int32) (l2 : Int32) (l4 : Int32) (l5 : Int32) (l6 : Int32) (y0 : Int32) (σ : gS) : Option ((Int32 × Int32 × Int32) ⊕ (Int32)) :=
  if l6 ≤ l4 then (gLet (l5 + 1) fun x7 => some (.inl (y0, l4, x7))) else (gLet (l5 + 1) fun x8 => some (.inl (y0, l6, x8)))
set_option maxRecDepth 20000 in
theorem j_Model_makeClusters_j108_59 (E : gEv) (d u : Nat) {G : gFr → Prop} {vo : Option Value} {sr : gS} (hG : gClo E gDf gP18 gY221 none (gC E gDf gMs (d + 1)) (vo, (gSh, sr, u)) G) (l1 : Int32) (l2 : Int32) (l4 : Int32) (l5 : Int32) (l6 : Int32) (y0 : Int32) (σ : gS) {r : (Int32 × Int32 × Int32) ⊕ (Int32)} (hP : p_Model_makeClusters_j108_59 E l1 l2 l4 l5 l6 y0 σ = some r) (K1 : ∀ (m3 : Int32) (m4 : Int32) (m5 : Int32), r = .inl (m3, m4, m5) → G (59, [some (.ref 94), some (.int l1), some (.int l2), some (.int m3), some (.int m4), some (.int m5), none], [], (gSh, σ, u))) (K2 : ∀ (m3 : Int32), r = .inr m3 → G (131, [some (.ref 94), some (.int l1), some (.int l2), some (.int m3), none, none, none], [], (gSh, σ, u))) : G (108, [some (.ref 94), some (.int l1), some (.int l2), none, some (.int l4), some (.int l5), some (.int l6)], [.int y0], (gSh, σ, u)) := by
  unfold p_Model_makeClusters_j108_59 at hP
  refine gRunN_ok hG.1 3 _ (113, [some (.ref 94), some (.int l1), some (.int l2), some (.int y0), some (.int l4), some (.int l5), some (.int l6)], [.int l4, .int l6], (gSh, σ, u)) rfl ?_
  rcases g_ite hP with ⟨hc, hP⟩ | ⟨hc, hP⟩
  · refine hG.1 _ (121, [some (.ref 94), some (.int l1), some (.int l2), some (.int y0), some (.int l4), some (.int l5), some (.int l6)], [], (gSh, σ, u)) _ rfl (if_pos hc) ?_
    refine gRunN_ok hG.1 3 _ (128, [some (.ref 94), some (.int l1), some (.int l2), some (.int y0), some (.int l4), some (.int (l5 + 1)), some (.int l6)], [], (gSh, σ, u)) rfl ?_
    obtain ⟨x7, ex7, hP⟩ := g_let hP
    rw [← ex7]
    refine gRunN_ok hG.1 1 _ (59, [some (.ref 94), some (.int l1), some (.int l2), some (.int y0), some (.int l4), some (.int x7), some (.int l6)], [], (gSh, σ, u)) rfl ?_
    refine hG.2.2.2.2.1 _ _ [some (.ref 94), some (.int l1), some (.int l2), some (.int y0), some (.int l4), some (.int x7), none] _ _ ⟨rfl, ⟨rfl, ⟨rfl, ⟨rfl, ⟨rfl, ⟨rfl, trivial⟩⟩⟩⟩⟩⟩ ?_
    cases hP
    exact K1 _ _ _ rfl
  · refine hG.1 _ (116, [some (.ref 94), some (.int l1), some (.int l2), some (.int y0), some (.int l4), some (.int l5), some (.int l6)], [], (gSh, σ, u)) _ rfl (if_neg hc) ?_
    refine gRunN_ok hG.1 4 _ (128, [some (.ref 94), some (.int l1), some (.int l2), some (.int y0), some (.int l6), some (.int (l5 + 1)), some (.int l6)], [], (gSh, σ, u)) rfl ?_
    obtain ⟨x8, ex8, hP⟩ := g_let hP
    rw [← ex8]
    refine gRunN_ok hG.1 1 _ (59, [some (.ref 94), some (.int l1), some (.int l2), some (.int y0), some (.int l6), some (.int x8), some (.int l6)], [], (gSh, σ, u)) rfl ?_
    refine hG.2.2.2.2.1 _ _ [some (.ref 94), some (.int l1), some (.int l2), some (.int y0), some (.int l6), some (.int x8), none] _ _ ⟨rfl, ⟨rfl, ⟨rfl, ⟨rfl, ⟨rfl, ⟨rfl, trivial⟩⟩⟩⟩⟩⟩ ?_
    cases hP
    exact K1 _ _ _ rfl
def p_Model_makeClusters_j93_59 (E : gEv) (l1 : Int32) (l2 : Int32) (l3 : Int32) (l4 : Int32) (l5 : Int32) (y0 : Int32) (σ : gS) : Option ((Int32 × Int32 × Int32) ⊕ (Int32)) :=
  if y0 ≤ l4 then (p_Model_makeClusters_j108_59 E l1 l2 l4 l5 y0 l3 σ) else (p_Model_makeClusters_j108_59 E l1 l2 l4 l5 y0 l5 σ)
set_option maxRecDepth 20000 in
theorem j_Model_makeClusters_j93_59 (E : gEv) (d u : Nat) {G : gFr → Prop} {vo : Option Value} {sr : gS} (hG : gClo E gDf gP18 gY221 none (gC E gDf gMs (d + 1)) (vo, (gSh, sr, u)) G) (l1 : Int32) (l2 : Int32) (l3 : Int32) (l4 : Int32) (l5 : Int32) (y0 : Int32) (σ : gS) {r : (Int32 × Int32 × Int32) ⊕ (Int32)} (hP : p_Model_makeClusters_j93_59 E l1 l2 l3 l4 l5 y0 σ = some r) (K1 : ∀ (m3 : Int32) (m4 : Int32) (m5 : Int32), r = .inl (m3, m4, m5) → G (59, [some (.ref 94), some (.int l1), some (.int l2), some (.int m3), some (.int m4), some (.int m5), none], [], (gSh, σ, u))) (K2 : ∀ (m3 : Int32), r = .inr m3 → G (131, [some (.ref 94), some (.int l1), some (.int l2), some (.int m3), none, none, none], [], (gSh, σ, u))) : G (93, [some (.ref 94), some (.int l1), some (.int l2), some (.int l3), some (.int l4), some (.int l5), none], [.int y0], (gSh, σ, u)) := by
  unfold p_Model_makeClusters_j93_59 at hP
  refine gRunN_ok hG.1 3 _ (99, [some (.ref 94), some (.int l1), some (.int l2), some (.int l3), some (.int l4), some (.int l5), some (.int y0)], [.int l4, .int y0], (gSh, σ, u)) rfl ?_
  rcases g_ite hP with ⟨hc, hP⟩ | ⟨hc, hP⟩
  · refine hG.1 _ (107, [some (.ref 94), some (.int l1), some (.int l2), some (.int l3), some (.int l4), some (.int l5), some (.int y0)], [], (gSh, σ, u)) _ rfl (if_pos hc) ?_
    refine gRunN_ok hG.1 1 _ (108, [some (.ref 94), some (.int l1), some (.int l2), some (.int l3), some (.int l4), some (.int l5), some (.int y0)], [.int l3], (gSh, σ, u)) rfl ?_
    refine hG.2.2.2.2.1 _ _ [some (.ref 94), some (.int l1), some (.int l2), none, some (.int l4), some (.int l5), some (.int y0)] _ _ ⟨rfl, ⟨rfl, ⟨rfl, ⟨rfl, ⟨rfl, ⟨rfl, trivial⟩⟩⟩⟩⟩⟩ ?_
    exact j_Model_makeClusters_j108_59 E d u hG l1 l2 l4 l5 y0 l3 σ hP K1 K2
  · refine hG.1 _ (102, [some (.ref 94), some (.int l1), some (.int l2), some (.int l3), some (.int l4), some (.int l5), some (.int y0)], [], (gSh, σ, u)) _ rfl (if_neg hc) ?_
    refine gRunN_ok hG.1 2 _ (108, [some (.ref 94), some (.int l1), some (.int l2), some (.int l3), some (.int l4), some (.int l5), some (.int y0)], [.int l5], (gSh, σ, u)) rfl ?_
    refine hG.2.2.2.2.1 _ _ [some (.ref 94), some (.int l1), some (.int l2), none, some (.int l4), some (.int l5), some (.int y0)] _ _ ⟨rfl, ⟨rfl, ⟨rfl, ⟨rfl, ⟨rfl, ⟨rfl, trivial⟩⟩⟩⟩⟩⟩ ?_
    exact j_Model_makeClusters_j108_59 E d u hG l1 l2 l4 l5 y0 l5 σ hP K1 K2
def p_Model_makeClusters_59 (E : gEv) (l1 : Int32) (l2 : Int32) (l3 : Int32) (l4 : Int32) (l5 : Int32) (σ : gS) : Option ((Int32 × Int32 × Int32) ⊕ (Int32)) :=
  if (σ.1 94 55) ≤ l5 then (some (.inr l3)) else (if gIn l5 (σ.2.1 133) then if (σ.1 133 l5.toNatClampNeg) = ((-1) : Int32) then (if l2 = 0 then (p_Model_makeClusters_j93_59 E l1 l2 l3 l4 l5 0 σ) else (gB1 (p_Model_common E l5 σ) fun v9 => p_Model_makeClusters_j93_59 E l1 l2 l3 l4 l5 v9 σ)) else (gLet (l5 + 1) fun x11 => some (.inl (l3, l4, x11))) else none)
set_option maxRecDepth 20000 in
theorem b_Model_makeClusters_59 (E : gEv) (d u : Nat) {G : gFr → Prop} {vo : Option Value} {sr : gS} (hG : gClo E gDf gP18 gY221 none (gC E gDf gMs (d + 1)) (vo, (gSh, sr, u)) G) (l1 : Int32) (l2 : Int32) (l3 : Int32) (l4 : Int32) (l5 : Int32) (σ : gS) {r : (Int32 × Int32 × Int32) ⊕ (Int32)} (hP : p_Model_makeClusters_59 E l1 l2 l3 l4 l5 σ = some r) (K1 : ∀ (m3 : Int32) (m4 : Int32) (m5 : Int32), r = .inl (m3, m4, m5) → G (59, [some (.ref 94), some (.int l1), some (.int l2), some (.int m3), some (.int m4), some (.int m5), none], [], (gSh, σ, u))) (K2 : ∀ (m3 : Int32), r = .inr m3 → G (131, [some (.ref 94), some (.int l1), some (.int l2), some (.int m3), none, none, none], [], (gSh, σ, u))) : G (59, [some (.ref 94), some (.int l1), some (.int l2), some (.int l3), some (.int l4), some (.int l5), none], [], (gSh, σ, u)) := by
  unfold p_Model_makeClusters_59 at hP
  refine gRunN_ok hG.1 3 _ (65, [some (.ref 94), some (.int l1), some (.int l2), some (.int l3), some (.int l4), some (.int l5), none], [.int (σ.1 94 55), .int l5], (gSh, σ, u)) rfl ?_
  rcases g_ite hP with ⟨hc, hP⟩ | ⟨hc, hP⟩
  · refine hG.1 _ (131, [some (.ref 94), some (.int l1), some (.int l2), some (.int l3), some (.int l4), some (.int l5), none], [], (gSh, σ, u)) _ rfl (if_pos hc) ?_
    refine hG.2.2.2.2.1 _ _ [some (.ref 94), some (.int l1), some (.int l2), some (.int l3), none, none, none] _ _ ⟨rfl, ⟨rfl, ⟨rfl, ⟨rfl, trivial⟩⟩⟩⟩ ?_
    cases hP
    exact K2 _ rfl
  · refine hG.1 _ (68, [some (.ref 94), some (.int l1), some (.int l2), some (.int l3), some (.int l4), some (.int l5), none], [], (gSh, σ, u)) _ rfl (if_neg hc) ?_
    refine gRunN_ok hG.1 3 _ (74, [some (.ref 94), some (.int l1), some (.int l2), some (.int l3), some (.int l4), some (.int l5), none], [.int l5, .ref 133], (gSh, σ, u)) rfl ?_
    obtain ⟨hc, hP⟩ := g_if hP
    refine hG.1 _ (75, [some (.ref 94), some (.int l1), some (.int l2), some (.int l3), some (.int l4), some (.int l5), none], [.int (σ.1 133 l5.toNatClampNeg)], (gSh, σ, u)) _ rfl (if_pos hc) ?_
    refine gRunN_ok hG.1 1 _ (76, [some (.ref 94), some (.int l1), some (.int l2), some (.int l3), some (.int l4), some (.int l5), none], [.int (-1), .int (σ.1 133 l5.toNatClampNeg)], (gSh, σ, u)) rfl ?_
    rcases g_ite hP with ⟨hc, hP⟩ | ⟨hc, hP⟩
    · refine hG.1 _ (79, [some (.ref 94), some (.int l1), some (.int l2), some (.int l3), some (.int l4), some (.int l5), none], [], (gSh, σ, u)) _ rfl (if_pos hc) ?_
      refine gRunN_ok hG.1 1 _ (80, [some (.ref 94), some (.int l1), some (.int l2), some (.int l3), some (.int l4), some (.int l5), none], [.int l2], (gSh, σ, u)) rfl ?_
      rcases g_ite hP with ⟨hc, hP⟩ | ⟨hc, hP⟩
      · refine hG.1 _ (83, [some (.ref 94), some (.int l1), some (.int l2), some (.int l3), some (.int l4), some (.int l5), none], [], (gSh, σ, u)) _ rfl (if_pos hc) ?_
        refine gRunN_ok hG.1 2 _ (93, [some (.ref 94), some (.int l1), some (.int l2), some (.int l3), some (.int l4), some (.int l5), none], [.int 0], (gSh, σ, u)) rfl ?_
        exact j_Model_makeClusters_j93_59 E d u hG l1 l2 l3 l4 l5 0 σ hP K1 K2
      · refine hG.1 _ (87, [some (.ref 94), some (.int l1), some (.int l2), some (.int l3), some (.int l4), some (.int l5), none], [], (gSh, σ, u)) _ rfl (if_neg hc) ?_
        refine gRunN_ok hG.1 2 _ (90, [some (.ref 94), some (.int l1), some (.int l2), some (.int l3), some (.int l4), some (.int l5), none], [.int l5, .ref 94], (gSh, σ, u)) rfl ?_
        obtain ⟨v9, hq, hP⟩ := g_b1 hP
        refine hG.2.2.2.1 _ _ _ [.ref 94, .int l5] [] _ (gSh, σ, u) (some (.int v9)) _ _ _ _ _ _ rfl rfl rfl rfl rfl rfl (c_Model_common E (d + 0) u l5 _  hq) (Nat.le_refl _) (Nat.le_refl _) (Nat.le_refl _) (Nat.le_refl _) ?_
        show G (93, [some (.ref 94), some (.int l1), some (.int l2), some (.int l3), some (.int l4), some (.int l5), none], [.int v9], (gSh, σ, u))
        exact j_Model_makeClusters_j93_59 E d u hG l1 l2 l3 l4 l5 v9 σ hP K1 K2
    · refine hG.1 _ (125, [some (.ref 94), some (.int l1), some (.int l2), some (.int l3), some (.int l4), some (.int l5), none], [], (gSh, σ, u)) _ rfl (if_neg hc) ?_
      refine gRunN_ok hG.1 1 _ (128, [some (.ref 94), some (.int l1), some (.int l2), some (.int l3), some (.int l4), some (.int (l5 + 1)), none], [], (gSh, σ, u)) rfl ?_
      obtain ⟨x11, ex11, hP⟩ := g_let hP
      rw [← ex11]
      refine gRunN_ok hG.1 1 _ (59, [some (.ref 94), some (.int l1), some (.int l2), some (.int l3), some (.int l4), some (.int x11), none], [], (gSh, σ, u)) rfl ?_
      cases hP
      exact K1 _ _ _ rfl
theorem l_Model_makeClusters_59 (E : gEv) (d u : Nat) {G : gFr → Prop} {vo : Option Value} {sr : gS} (hG : gClo E gDf gP18 gY221 none (gC E gDf gMs (d + 1)) (vo, (gSh, sr, u)) G) (l1 : Int32) (l2 : Int32) (σ : gS) : ∀ (n : Nat) (l3 : Int32) (l4 : Int32) (l5 : Int32) (e : (Int32)), gIter (fun z => p_Model_makeClusters_59 E l1 l2 z.1 z.2.1 z.2.2 σ) n (l3, l4, l5) = some e → (∀ (m3 : Int32), e = m3 → G (131, [some (.ref 94), some (.int l1), some (.int l2), some (.int m3), none, none, none], [], (gSh, σ, u))) → G (59, [some (.ref 94), some (.int l1), some (.int l2), some (.int l3), some (.int l4), some (.int l5), none], [], (gSh, σ, u)) := by
  intro n
  induction n with
  | zero => intro l3 l4 l5 e h; cases h
  | succ n ih =>
    intro l3 l4 l5 e h K2
    rcases g_iter h with ⟨z, h1, h2⟩ | h1
    · exact b_Model_makeClusters_59 E d u hG l1 l2 l3 l4 l5 σ h1 (fun n0 n1 n2 hz => by cases hz; exact ih _ _ _ e h2 K2) (fun _ hz => by cases hz)
    · exact b_Model_makeClusters_59 E d u hG l1 l2 l3 l4 l5 σ h1 (fun _ _ _ hz => by cases hz) (fun m3 hz => K2 m3 (by cases hz; rfl))
def p_Model_makeClusters_39 (E : gEv) (l1 : Int32) (l2 : Int32) (σ : gS) : Option ((Int32 × Int32 × gS) ⊕ (Int32 × gS)) :=
  if (σ.1 94 2) ≤ l2 then (some (.inr (l1, σ))) else (if l1 ≤ 0 then (some (.inr (l1, σ))) else (gB1 (gIter (fun z => p_Model_makeClusters_59 E l1 l2 z.1 z.2.1 z.2.2 σ) gN ((-1), (-1), 0)) fun e12 => (fun w13 => if gIn w13 (σ.2.1 133) then gLet (gPut σ 133 w13.toNatClampNeg (σ.1 94 66)) fun s14 => if gIn w13 (s14.2.1 134) then gLet (gPut s14 134 w13.toNatClampNeg l2) fun s15 => gLet (l2 + 1) fun x16 => gLet (l1 + (-1)) fun x17 => some (.inl (x17, x16, s15)) else none else none) e12))
set_option maxRecDepth 20000 in
theorem b_Model_makeClusters_39 (E : gEv) (d u : Nat) {G : gFr → Prop} {vo : Option Value} {sr : gS} (hG : gClo E gDf gP18 gY221 none (gC E gDf gMs (d + 1)) (vo, (gSh, sr, u)) G) (l1 : Int32) (l2 : Int32) (σ : gS) {r : (Int32 × Int32 × gS) ⊕ (Int32 × gS)} (hP : p_Model_makeClusters_39 E l1 l2 σ = some r) (K1 : ∀ (m1 : Int32) (m2 : Int32) (σ1 : gS), r = .inl (m1, m2, σ1) → G (39, [some (.ref 94), some (.int m1), some (.int m2), none, none, none, none], [], (gSh, σ1, u))) (K2 : ∀ (m1 : Int32) (σ1 : gS), r = .inr (m1, σ1) → G (157, [some (.ref 94), some (.int m1), none, none, none, none, none], [], (gSh, σ1, u))) : G (39, [some (.ref 94), some (.int l1), some (.int l2), none, none, none, none], [], (gSh, σ, u)) := by
  unfold p_Model_makeClusters_39 at hP
  refine gRunN_ok hG.1 3 _ (44, [some (.ref 94), some (.int l1), some (.int l2), none, none, none, none], [.int (σ.1 94 2), .int l2], (gSh, σ, u)) rfl ?_
  rcases g_ite hP with ⟨hc, hP⟩ | ⟨hc, hP⟩
  · refine hG.1 _ (157, [some (.ref 94), some (.int l1), some (.int l2), none, none, none, none], [], (gSh, σ, u)) _ rfl (if_pos hc) ?_
    refine hG.2.2.2.2.1 _ _ [some (.ref 94), some (.int l1), none, none, none, none, none] _ _ ⟨rfl, ⟨rfl, trivial⟩⟩ ?_
    cases hP
    exact K2 _ _ rfl
  · refine hG.1 _ (47, [some (.ref 94), some (.int l1), some (.int l2), none, none, none, none], [], (gSh, σ, u)) _ rfl (if_neg hc) ?_
    refine gRunN_ok hG.1 1 _ (48, [some (.ref 94), some (.int l1), some (.int l2), none, none, none, none], [.int l1], (gSh, σ, u)) rfl ?_
    rcases g_ite hP with ⟨hc, hP⟩ | ⟨hc, hP⟩
    · refine hG.1 _ (157, [some (.ref 94), some (.int l1), some (.int l2), none, none, none, none], [], (gSh, σ, u)) _ rfl (if_pos hc) ?_
      refine hG.2.2.2.2.1 _ _ [some (.ref 94), some (.int l1), none, none, none, none, none] _ _ ⟨rfl, ⟨rfl, trivial⟩⟩ ?_
      cases hP
      exact K2 _ _ rfl
    · refine hG.1 _ (51, [some (.ref 94), some (.int l1), some (.int l2), none, none, none, none], [], (gSh, σ, u)) _ rfl (if_neg hc) ?_
      refine gRunN_ok hG.1 6 _ (59, [some (.ref 94), some (.int l1), some (.int l2), some (.int (-1)), some (.int (-1)), some (.int 0), none], [], (gSh, σ, u)) rfl ?_
      obtain ⟨e12, hq, hP⟩ := g_b1 hP
      refine l_Model_makeClusters_59 E d u hG l1 l2 σ gN (-1) (-1) 0 _ hq (fun w13 he => ?_)
      · replace he := he.symm
        subst he
        try dsimp only [gSum] at hP
        refine gRunN_ok hG.1 5 _ (140, [some (.ref 94), some (.int l1), some (.int l2), some (.int w13), none, none, none], [.int (σ.1 94 66), .int w13, .ref 133], (gSh, σ, u)) rfl ?_
        obtain ⟨hc, hP⟩ := g_if hP
        refine hG.1 _ (141, [some (.ref 94), some (.int l1), some (.int l2), some (.int w13), none, none, none], [], (gSh, (gPut σ 133 w13.toNatClampNeg (σ.1 94 66)), u)) _ rfl (if_pos hc) ?_
        obtain ⟨s14, es14, hP⟩ := g_let hP
        rw [← es14]
        refine gRunN_ok hG.1 4 _ (147, [some (.ref 94), some (.int l1), some (.int l2), some (.int w13), none, none, none], [.int l2, .int w13, .ref 134], (gSh, s14, u)) rfl ?_
        obtain ⟨hc, hP⟩ := g_if hP
        refine hG.1 _ (148, [some (.ref 94), some (.int l1), some (.int l2), some (.int w13), none, none, none], [], (gSh, (gPut s14 134 w13.toNatClampNeg l2), u)) _ rfl (if_pos hc) ?_
        obtain ⟨s15, es15, hP⟩ := g_let hP
        rw [← es15]
        refine gRunN_ok hG.1 1 _ (151, [some (.ref 94), some (.int l1), some (.int (l2 + 1)), some (.int w13), none, none, none], [], (gSh, s15, u)) rfl ?_
        obtain ⟨x16, ex16, hP⟩ := g_let hP
        rw [← ex16]
        refine gRunN_ok hG.1 1 _ (154, [some (.ref 94), some (.int (l1 + (-1))), some (.int x16), some (.int w13), none, none, none], [], (gSh, s15, u)) rfl ?_
        obtain ⟨x17, ex17, hP⟩ := g_let hP
        rw [← ex17]
        refine gRunN_ok hG.1 1 _ (39, [some (.ref 94), some (.int x17), some (.int x16), some (.int w13), none, none, none], [], (gSh, s15, u)) rfl ?_
        refine hG.2.2.2.2.1 _ _ [some (.ref 94), some (.int x17), some (.int x16), none, none, none, none] _ _ ⟨rfl, ⟨rfl, ⟨rfl, trivial⟩⟩⟩ ?_
        cases hP
        exact K1 _ _ _ rfl
theorem l_Model_makeClusters_39 (E : gEv) (d u : Nat) {G : gFr → Prop} {vo : Option Value} {sr : gS} (hG : gClo E gDf gP18 gY221 none (gC E gDf gMs (d + 1)) (vo, (gSh, sr, u)) G) : ∀ (n : Nat) (l1 : Int32) (l2 : Int32) (σ : gS) (e : (Int32 × gS)), gIter (fun z => p_Model_makeClusters_39 E z.1 z.2.1 z.2.2) n (l1, l2, σ) = some e → (∀ (m1 : Int32) (σ1 : gS), e = (m1, σ1) → G (157, [some (.ref 94), some (.int m1), none, none, none, none, none], [], (gSh, σ1, u))) → G (39, [some (.ref 94), some (.int l1), some (.int l2), none, none, none, none], [], (gSh, σ, u)) := by
  intro n
  induction n with
  | zero => intro l1 l2 σ e h; cases h
  | succ n ih =>
    intro l1 l2 σ e h K2
    rcases g_iter h with ⟨z, h1, h2⟩ | h1
    · exact b_Model_makeClusters_39 E d u hG l1 l2 σ h1 (fun n0 n1 n2 hz => by cases hz; exact ih _ _ _ e h2 K2) (fun _ _ hz => by cases hz)
    · exact b_Model_makeClusters_39 E d u hG l1 l2 σ h1 (fun _ _ _ hz => by cases hz) (fun m1 σ1 hz => K2 m1 σ1 (by cases hz; rfl))
def p_Model_makeClusters_j157_33 (E : gEv) (l1 : Int32) (σ : gS) : Option ((Int32 × gS) ⊕ (gS)) :=
  gLet (gPut σ 94 66 ((σ.1 94 66) + (1 : Int32))) fun s21 => some (.inl (l1, s21))
set_option maxRecDepth 20000 in
theorem j_Model_makeClusters_j157_33 (E : gEv) (d u : Nat) {G : gFr → Prop} {vo : Option Value} {sr : gS} (hG : gClo E gDf gP18 gY221 none (gC E gDf gMs (d + 1)) (vo, (gSh, sr, u)) G) (l1 : Int32) (σ : gS) {r : (Int32 × gS) ⊕ (gS)} (hP : p_Model_makeClusters_j157_33 E l1 σ = some r) (K1 : ∀ (m1 : Int32) (σ1 : gS), r = .inl (m1, σ1) → G (33, [some (.ref 94), some (.int m1), none, none, none, none, none], [], (gSh, σ1, u))) (K2 : ∀ (σ1 : gS), r = .inr σ1 → G (170, [none, none, none, none, none, none, none], [], (gSh, σ1, u))) : G (157, [some (.ref 94), some (.int l1), none, none, none, none, none], [], (gSh, σ, u)) := by
  unfold p_Model_makeClusters_j157_33 at hP
  refine gRunN_ok hG.1 6 _ (167, [some (.ref 94), some (.int l1), none, none, none, none, none], [], (gSh, (gPut σ 94 66 ((σ.1 94 66) + (1 : Int32))), u)) rfl ?_
  obtain ⟨s21, es21, hP⟩ := g_let hP
  rw [← es21]
  refine gRunN_ok hG.1 1 _ (33, [some (.ref 94), some (.int l1), none, none, none, none, none], [], (gSh, s21, u)) rfl ?_
  cases hP
  exact K1 _ _ rfl
def p_Model_makeClusters_33 (E : gEv) (l1 : Int32) (σ : gS) : Option ((Int32 × gS) ⊕ (gS)) :=
  if l1 ≤ 0 then (some (.inr σ)) else (gB1 (gIter (fun z => p_Model_makeClusters_39 E z.1 z.2.1 z.2.2) gN (l1, 0, σ)) fun e18 => (fun w19 s20 => p_Model_makeClusters_j157_33 E w19 s20) e18.1 e18.2)
set_option maxRecDepth 20000 in
theorem b_Model_makeClusters_33 (E : gEv) (d u : Nat) {G : gFr → Prop} {vo : Option Value} {sr : gS} (hG : gClo E gDf gP18 gY221 none (gC E gDf gMs (d + 1)) (vo, (gSh, sr, u)) G) (l1 : Int32) (σ : gS) {r : (Int32 × gS) ⊕ (gS)} (hP : p_Model_makeClusters_33 E l1 σ = some r) (K1 : ∀ (m1 : Int32) (σ1 : gS), r = .inl (m1, σ1) → G (33, [some (.ref 94), some (.int m1), none, none, none, none, none], [], (gSh, σ1, u))) (K2 : ∀ (σ1 : gS), r = .inr σ1 → G (170, [none, none, none, none, none, none, none], [], (gSh, σ1, u))) : G (33, [some (.ref 94), some (.int l1), none, none, none, none, none], [], (gSh, σ, u)) := by
  unfold p_Model_makeClusters_33 at hP
  refine gRunN_ok hG.1 1 _ (34, [some (.ref 94), some (.int l1), none, none, none, none, none], [.int l1], (gSh, σ, u)) rfl ?_
  rcases g_ite hP with ⟨hc, hP⟩ | ⟨hc, hP⟩
  · refine hG.1 _ (170, [some (.ref 94), some (.int l1), none, none, none, none, none], [], (gSh, σ, u)) _ rfl (if_pos hc) ?_
    refine hG.2.2.2.2.1 _ _ [none, none, none, none, none, none, none] _ _ trivial ?_
    cases hP
    exact K2 _ rfl
  · refine hG.1 _ (37, [some (.ref 94), some (.int l1), none, none, none, none, none], [], (gSh, σ, u)) _ rfl (if_neg hc) ?_
    refine gRunN_ok hG.1 2 _ (39, [some (.ref 94), some (.int l1), some (.int 0), none, none, none, none], [], (gSh, σ, u)) rfl ?_
    obtain ⟨e18, hq, hP⟩ := g_b1 hP
    refine l_Model_makeClusters_39 E d u hG gN l1 0 σ _ hq (fun w19 s20 he => ?_)
    · subst he
      try dsimp only [gSum] at hP
      exact j_Model_makeClusters_j157_33 E d u hG w19 s20 hP K1 K2
theorem l_Model_makeClusters_33 (E : gEv) (d u : Nat) {G : gFr → Prop} {vo : Option Value} {sr : gS} (hG : gClo E gDf gP18 gY221 none (gC E gDf gMs (d + 1)) (vo, (gSh, sr, u)) G) : ∀ (n : Nat) (l1 : Int32) (σ : gS) (e : (gS)), gIter (fun z => p_Model_makeClusters_33 E z.1 z.2) n (l1, σ) = some e → (∀ (σ1 : gS), e = σ1 → G (170, [none, none, none, none, none, none, none], [], (gSh, σ1, u))) → G (33, [some (.ref 94), some (.int l1), none, none, none, none, none], [], (gSh, σ, u)) := by
  intro n
  induction n with
  | zero => intro l1 σ e h; cases h
  | succ n ih =>
    intro l1 σ e h K2
    rcases g_iter h with ⟨z, h1, h2⟩ | h1
    · exact b_Model_makeClusters_33 E d u hG l1 σ h1 (fun n0 n1 hz => by cases hz; exact ih _ _ e h2 K2) (fun _ hz => by cases hz)
    · exact b_Model_makeClusters_33 E d u hG l1 σ h1 (fun _ _ hz => by cases hz) (fun σ1 hz => K2 σ1 (by cases hz; rfl))
def p_Model_makeClusters (E : gEv) (σ : gS) : Option (gS) :=
  gLet (gPut σ 94 66 0) fun s1 => gB1 (gIter (fun z => p_Model_makeClusters_7 E z.1 z.2) gN (0, s1)) fun e4 => (fun s5 => gLet (s5.1 94 55) fun x6 => gB1 (gIter (fun z => p_Model_makeClusters_33 E z.1 z.2) gN (x6, s5)) fun e22 => (fun s23 => some s23) e22) e4
set_option maxRecDepth 20000 in
theorem c_Model_makeClusters (E : gEv) (d u : Nat) (σ : gS) {sr : gS}  (hq : p_Model_makeClusters E σ = some sr) : gC E gDf gMs (d + 2) 221 [.ref 94] (gSh, σ, u) (none, (gSh, sr, u)) := ⟨gM221, rfl, Nat.le_of_ble_eq_true rfl, fun G hG => by
  have hP := hq
  unfold p_Model_makeClusters at hP
  replace hG : gClo E gDf gP18 gY221 none (gC E gDf gMs (d + 1)) (none, (gSh, sr, u)) G := hG
  show G (0, [some (.ref 94), none, none, none, none, none, none], [], (gSh, σ, u))
  refine gRunN_ok hG.1 3 _ (5, [some (.ref 94), none, none, none, none, none, none], [], (gSh, (gPut σ 94 66 0), u)) rfl ?_
  obtain ⟨s1, es1, hP⟩ := g_let hP
  rw [← es1]
  refine gRunN_ok hG.1 2 _ (7, [some (.ref 94), some (.int 0), none, none, none, none, none], [], (gSh, s1, u)) rfl ?_
  obtain ⟨e4, hq, hP⟩ := g_b1 hP
  refine l_Model_makeClusters_7 E d u hG gN 0 s1 _ hq (fun s5 he => ?_)
  · replace he := he.symm
    subst he
    try dsimp only [gSum] at hP
    refine gRunN_ok hG.1 3 _ (33, [some (.ref 94), some (.int (s5.1 94 55)), none, none, none, none, none], [], (gSh, s5, u)) rfl ?_
    obtain ⟨x6, ex6, hP⟩ := g_let hP
    rw [← ex6]
    obtain ⟨e22, hq, hP⟩ := g_b1 hP
    refine l_Model_makeClusters_33 E d u hG gN x6 s5 _ hq (fun s23 he => ?_)
    · replace he := he.symm
      subst he
      try dsimp only [gSum] at hP
      cases hP
      exact hG.2.1 _ _ rfl rfl⟩
def p_Model_pointOfPad (E : gEv) (a0 : Int32) (σ : gS) : Option (gS) :=
  gB1 (p_Model_padX E a0 σ) fun v1 => gLet (gPut σ 94 72 v1) fun s3 => gB1 (p_Model_padY E a0 s3) fun v4 => gLet (gPut s3 94 73 v4) fun s6 => some s6
set_option maxRecDepth 20000 in
theorem c_Model_pointOfPad (E : gEv) (d u : Nat) (a0 : Int32) (σ : gS) {sr : gS}  (hq : p_Model_pointOfPad E a0 σ = some sr) : gC E gDf gMs (d + 2) 228 [.ref 94, .int a0] (gSh, σ, u) (none, (gSh, sr, u)) := ⟨gM228, rfl, Nat.le_of_ble_eq_true rfl, fun G hG => by
  have hP := hq
  unfold p_Model_pointOfPad at hP
  replace hG : gClo E gDf gP18 gY228 none (gC E gDf gMs (d + 1)) (none, (gSh, sr, u)) G := hG
  show G (0, [some (.ref 94), some (.int a0)], [], (gSh, σ, u))
  refine gRunN_ok hG.1 3 _ (3, [some (.ref 94), some (.int a0)], [.int a0, .ref 94, .ref 94], (gSh, σ, u)) rfl ?_
  obtain ⟨v1, hq, hP⟩ := g_b1 hP
  refine hG.2.2.2.1 _ _ _ [.ref 94, .int a0] [.ref 94] _ (gSh, σ, u) (some (.int v1)) _ _ _ _ _ _ rfl rfl rfl rfl rfl rfl (c_Model_padX E (d + 0) u a0 _  hq) (Nat.le_refl _) (Nat.le_refl _) (Nat.le_refl _) (Nat.le_refl _) ?_
  show G (6, [some (.ref 94), some (.int a0)], [.int v1, .ref 94], (gSh, σ, u))
  refine gRunN_ok hG.1 1 _ (9, [some (.ref 94), some (.int a0)], [], (gSh, (gPut σ 94 72 v1), u)) rfl ?_
  obtain ⟨s3, es3, hP⟩ := g_let hP
  rw [← es3]
  refine gRunN_ok hG.1 3 _ (12, [some (.ref 94), some (.int a0)], [.int a0, .ref 94, .ref 94], (gSh, s3, u)) rfl ?_
  obtain ⟨v4, hq, hP⟩ := g_b1 hP
  refine hG.2.2.2.1 _ _ _ [.ref 94, .int a0] [.ref 94] _ (gSh, s3, u) (some (.int v4)) _ _ _ _ _ _ rfl rfl rfl rfl rfl rfl (c_Model_padY E (d + 0) u a0 _  hq) (Nat.le_refl _) (Nat.le_refl _) (Nat.le_refl _) (Nat.le_refl _) ?_
  show G (15, [some (.ref 94), some (.int a0)], [.int v4, .ref 94], (gSh, s3, u))
  refine gRunN_ok hG.1 1 _ (18, [some (.ref 94), some (.int a0)], [], (gSh, (gPut s3 94 73 v4), u)) rfl ?_
  obtain ⟨s6, es6, hP⟩ := g_let hP
  rw [← es6]
  cases hP
  exact hG.2.1 _ _ rfl rfl⟩
def p_Model_pointOfElement (E : gEv) (a0 : Int32) (σ : gS) : Option (gS) :=
  gB1 (p_Model_tileOf E a0 σ) fun v1 => if ¬ (σ.1 94 0) = 0 then gLet (gPut σ 94 72 ((v1 - v1 / (σ.1 94 0) * (σ.1 94 0)) + (1 : Int32))) fun s3 => if ¬ (s3.1 94 0) = 0 then gLet (gPut s3 94 73 ((v1 / (s3.1 94 0)) + (1 : Int32))) fun s4 => some s4 else none else none
set_option maxRecDepth 20000 in
theorem c_Model_pointOfElement (E : gEv) (d u : Nat) (a0 : Int32) (σ : gS) {sr : gS}  (hq : p_Model_pointOfElement E a0 σ = some sr) : gC E gDf gMs (d + 2) 231 [.ref 94, .int a0] (gSh, σ, u) (none, (gSh, sr, u)) := ⟨gM231, rfl, Nat.le_of_ble_eq_true rfl, fun G hG => by
  have hP := hq
  unfold p_Model_pointOfElement at hP
  replace hG : gClo E gDf gP18 gY231 none (gC E gDf gMs (d + 1)) (none, (gSh, sr, u)) G := hG
  show G (0, [some (.ref 94), some (.int a0), none], [], (gSh, σ, u))
  refine gRunN_ok hG.1 2 _ (2, [some (.ref 94), some (.int a0), none], [.int a0, .ref 94], (gSh, σ, u)) rfl ?_
  obtain ⟨v1, hq, hP⟩ := g_b1 hP
  refine hG.2.2.2.1 _ _ _ [.ref 94, .int a0] [] _ (gSh, σ, u) (some (.int v1)) _ _ _ _ _ _ rfl rfl rfl rfl rfl rfl (c_Model_tileOf E (d + 0) u a0 _  hq) (Nat.le_refl _) (Nat.le_refl _) (Nat.le_refl _) (Nat.le_refl _) ?_
  show G (5, [some (.ref 94), some (.int a0), none], [.int v1], (gSh, σ, u))
  refine gRunN_ok hG.1 5 _ (12, [some (.ref 94), some (.int a0), some (.int v1)], [.int (σ.1 94 0), .int v1, .ref 94], (gSh, σ, u)) rfl ?_
  obtain ⟨hc, hP⟩ := g_if hP
  refine hG.1 _ (13, [some (.ref 94), some (.int a0), some (.int v1)], [.int (v1 - v1 / (σ.1 94 0) * (σ.1 94 0)), .ref 94], (gSh, σ, u)) _ rfl (if_pos hc) ?_
  refine gRunN_ok hG.1 3 _ (18, [some (.ref 94), some (.int a0), some (.int v1)], [], (gSh, (gPut σ 94 72 ((v1 - v1 / (σ.1 94 0) * (σ.1 94 0)) + (1 : Int32))), u)) rfl ?_
  obtain ⟨s3, es3, hP⟩ := g_let hP
  rw [← es3]
  refine gRunN_ok hG.1 4 _ (24, [some (.ref 94), some (.int a0), some (.int v1)], [.int (s3.1 94 0), .int v1, .ref 94], (gSh, s3, u)) rfl ?_
  obtain ⟨hc, hP⟩ := g_if hP
  refine hG.1 _ (25, [some (.ref 94), some (.int a0), some (.int v1)], [.int (v1 / (s3.1 94 0)), .ref 94], (gSh, s3, u)) _ rfl (if_pos hc) ?_
  refine gRunN_ok hG.1 3 _ (30, [some (.ref 94), some (.int a0), some (.int v1)], [], (gSh, (gPut s3 94 73 ((v1 / (s3.1 94 0)) + (1 : Int32))), u)) rfl ?_
  obtain ⟨s4, es4, hP⟩ := g_let hP
  rw [← es4]
  cases hP
  exact hG.2.1 _ _ rfl rfl⟩
def p_Model_padWire (E : gEv) (a0 : Int32) (a1 : Int32) (σ : gS) : Option (Int32) :=
  gLet (a0 / (2 : Int32)) fun x1 => if (σ.1 94 0) ≤ x1 then (if ((2 : Int32) * (σ.1 94 0)) ≤ x1 then (if (((2 : Int32) * (σ.1 94 0)) + (σ.1 94 1)) ≤ x1 then (gB1 (p_Model_uprightWire E (σ.1 94 0) ((x1 - ((2 : Int32) * (σ.1 94 0))) - (σ.1 94 1)) a1 σ) fun v2 => some v2) else (gB1 (p_Model_uprightWire E 0 (x1 - ((2 : Int32) * (σ.1 94 0))) a1 σ) fun v4 => some v4)) else (gB1 (p_Model_flatWire E (x1 - (σ.1 94 0)) (σ.1 94 1) a1 σ) fun v6 => some v6)) else (gB1 (p_Model_flatWire E x1 0 a1 σ) fun v8 => some v8)
set_option maxRecDepth 20000 in
theorem c_Model_padWire (E : gEv) (d u : Nat) (a0 : Int32) (a1 : Int32) (σ : gS) {v : Int32}  (hq : p_Model_padWire E a0 a1 σ = some v) : gC E gDf gMs (d + 2) 248 [.ref 94, .int a0, .int a1] (gSh, σ, u) (some (.int v), (gSh, σ, u)) := ⟨gM248, rfl, Nat.le_of_ble_eq_true rfl, fun G hG => by
  have hP := hq
  unfold p_Model_padWire at hP
  replace hG : gClo E gDf gP18 gY248 (some .int) (gC E gDf gMs (d + 1)) (some (.int v), (gSh, σ, u)) G := hG
  show G (0, [some (.ref 94), some (.int a0), some (.int a1), none], [], (gSh, σ, u))
  refine gRunN_ok hG.1 4 _ (4, [some (.ref 94), some (.int a0), some (.int a1), some (.int (a0 / (2 : Int32)))], [], (gSh, σ, u)) rfl ?_
  obtain ⟨x1, ex1, hP⟩ := g_let hP
  rw [← ex1]
  refine gRunN_ok hG.1 3 _ (9, [some (.ref 94), some (.int a0), some (.int a1), some (.int x1)], [.int (σ.1 94 0), .int x1], (gSh, σ, u)) rfl ?_
  rcases g_ite hP with ⟨hc, hP⟩ | ⟨hc, hP⟩
  · refine hG.1 _ (22, [some (.ref 94), some (.int a0), some (.int a1), some (.int x1)], [], (gSh, σ, u)) _ rfl (if_pos hc) ?_
    refine gRunN_ok hG.1 5 _ (29, [some (.ref 94), some (.int a0), some (.int a1), some (.int x1)], [.int ((2 : Int32) * (σ.1 94 0)), .int x1], (gSh, σ, u)) rfl ?_
    rcases g_ite hP with ⟨hc, hP⟩ | ⟨hc, hP⟩
    · refine hG.1 _ (50, [some (.ref 94), some (.int a0), some (.int a1), some (.int x1)], [], (gSh, σ, u)) _ rfl (if_pos hc) ?_
      refine gRunN_ok hG.1 8 _ (62, [some (.ref 94), some (.int a0), some (.int a1), some (.int x1)], [.int (((2 : Int32) * (σ.1 94 0)) + (σ.1 94 1)), .int x1], (gSh, σ, u)) rfl ?_
      rcases g_ite hP with ⟨hc, hP⟩ | ⟨hc, hP⟩
      · refine hG.1 _ (82, [some (.ref 94), some (.int a0), some (.int a1), some (.int x1)], [], (gSh, σ, u)) _ rfl (if_pos hc) ?_
        refine gRunN_ok hG.1 13 _ (101, [some (.ref 94), some (.int a0), some (.int a1), some (.int x1)], [.int a1, .int ((x1 - ((2 : Int32) * (σ.1 94 0))) - (σ.1 94 1)), .int (σ.1 94 0), .ref 94], (gSh, σ, u)) rfl ?_
        obtain ⟨v2, hq, hP⟩ := g_b1 hP
        refine hG.2.2.2.1 _ _ _ [.ref 94, .int (σ.1 94 0), .int ((x1 - ((2 : Int32) * (σ.1 94 0))) - (σ.1 94 1)), .int a1] [] _ (gSh, σ, u) (some (.int v2)) _ _ _ _ _ _ rfl rfl rfl rfl rfl rfl (c_Model_uprightWire E (d + 0) u (σ.1 94 0) ((x1 - ((2 : Int32) * (σ.1 94 0))) - (σ.1 94 1)) a1 _  hq) (Nat.le_refl _) (Nat.le_refl _) (Nat.le_refl _) (Nat.le_refl _) ?_
        show G (104, [some (.ref 94), some (.int a0), some (.int a1), some (.int x1)], [.int v2], (gSh, σ, u))
        cases hP
        exact hG.2.1 _ _ rfl rfl
      · refine hG.1 _ (65, [some (.ref 94), some (.int a0), some (.int a1), some (.int x1)], [], (gSh, σ, u)) _ rfl (if_neg hc) ?_
        refine gRunN_ok hG.1 9 _ (76, [some (.ref 94), some (.int a0), some (.int a1), some (.int x1)], [.int a1, .int (x1 - ((2 : Int32) * (σ.1 94 0))), .int 0, .ref 94], (gSh, σ, u)) rfl ?_
        obtain ⟨v4, hq, hP⟩ := g_b1 hP
        refine hG.2.2.2.1 _ _ _ [.ref 94, .int 0, .int (x1 - ((2 : Int32) * (σ.1 94 0))), .int a1] [] _ (gSh, σ, u) (some (.int v4)) _ _ _ _ _ _ rfl rfl rfl rfl rfl rfl (c_Model_uprightWire E (d + 0) u 0 (x1 - ((2 : Int32) * (σ.1 94 0))) a1 _  hq) (Nat.le_refl _) (Nat.le_refl _) (Nat.le_refl _) (Nat.le_refl _) ?_
        show G (79, [some (.ref 94), some (.int a0), some (.int a1), some (.int x1)], [.int v4], (gSh, σ, u))
        refine gRunN_ok hG.1 1 _ (104, [some (.ref 94), some (.int a0), some (.int a1), some (.int x1)], [.int v4], (gSh, σ, u)) rfl ?_
        cases hP
        exact hG.2.1 _ _ rfl rfl
    · refine hG.1 _ (32, [some (.ref 94), some (.int a0), some (.int a1), some (.int x1)], [], (gSh, σ, u)) _ rfl (if_neg hc) ?_
      refine gRunN_ok hG.1 8 _ (44, [some (.ref 94), some (.int a0), some (.int a1), some (.int x1)], [.int a1, .int (σ.1 94 1), .int (x1 - (σ.1 94 0)), .ref 94], (gSh, σ, u)) rfl ?_
      obtain ⟨v6, hq, hP⟩ := g_b1 hP
      refine hG.2.2.2.1 _ _ _ [.ref 94, .int (x1 - (σ.1 94 0)), .int (σ.1 94 1), .int a1] [] _ (gSh, σ, u) (some (.int v6)) _ _ _ _ _ _ rfl rfl rfl rfl rfl rfl (c_Model_flatWire E (d + 0) u (x1 - (σ.1 94 0)) (σ.1 94 1) a1 _  hq) (Nat.le_refl _) (Nat.le_refl _) (Nat.le_refl _) (Nat.le_refl _) ?_
      show G (47, [some (.ref 94), some (.int a0), some (.int a1), some (.int x1)], [.int v6], (gSh, σ, u))
      refine gRunN_ok hG.1 1 _ (104, [some (.ref 94), some (.int a0), some (.int a1), some (.int x1)], [.int v6], (gSh, σ, u)) rfl ?_
      cases hP
      exact hG.2.1 _ _ rfl rfl
  · refine hG.1 _ (12, [some (.ref 94), some (.int a0), some (.int a1), some (.int x1)], [], (gSh, σ, u)) _ rfl (if_neg hc) ?_
    refine gRunN_ok hG.1 4 _ (16, [some (.ref 94), some (.int a0), some (.int a1), some (.int x1)], [.int a1, .int 0, .int x1, .ref 94], (gSh, σ, u)) rfl ?_
    obtain ⟨v8, hq, hP⟩ := g_b1 hP
    refine hG.2.2.2.1 _ _ _ [.ref 94, .int x1, .int 0, .int a1] [] _ (gSh, σ, u) (some (.int v8)) _ _ _ _ _ _ rfl rfl rfl rfl rfl rfl (c_Model_flatWire E (d + 0) u x1 0 a1 _  hq) (Nat.le_refl _) (Nat.le_refl _) (Nat.le_refl _) (Nat.le_refl _) ?_
    show G (19, [some (.ref 94), some (.int a0), some (.int a1), some (.int x1)], [.int v8], (gSh, σ, u))
    refine gRunN_ok hG.1 1 _ (104, [some (.ref 94), some (.int a0), some (.int a1), some (.int x1)], [.int v8], (gSh, σ, u)) rfl ?_
    cases hP
    exact hG.2.1 _ _ rfl rfl⟩
def p_Model_tileWire (E : gEv) (a0 : Int32) (a1 : Int32) (a2 : Int32) (σ : gS) : Option (Int32) :=
  if ¬ (σ.1 94 0) = 0 then gLet (a0 - a0 / (σ.1 94 0) * (σ.1 94 0)) fun x1 => if ¬ (σ.1 94 0) = 0 then gLet (a0 / (σ.1 94 0)) fun x2 => if a1 = 0 then (gB1 (p_Model_flatWire E x1 x2 a2 σ) fun v3 => some v3) else (if a1 = (1 : Int32) then (gB1 (p_Model_flatWire E x1 (x2 + (1 : Int32)) a2 σ) fun v5 => some v5) else (if a1 = (2 : Int32) then (gB1 (p_Model_uprightWire E x1 x2 a2 σ) fun v7 => some v7) else (gB1 (p_Model_uprightWire E (x1 + (1 : Int32)) x2 a2 σ) fun v9 => some v9))) else none else none
set_option maxRecDepth 20000 in
theorem c_Model_tileWire (E : gEv) (d u : Nat) (a0 : Int32) (a1 : Int32) (a2 : Int32) (σ : gS) {v : Int32}  (hq : p_Model_tileWire E a0 a1 a2 σ = some v) : gC E gDf gMs (d + 2) 250 [.ref 94, .int a0, .int a1, .int a2] (gSh, σ, u) (some (.int v), (gSh, σ, u)) := ⟨gM250, rfl, Nat.le_of_ble_eq_true rfl, fun G hG => by
  have hP := hq
  unfold p_Model_tileWire at hP
  replace hG : gClo E gDf gP18 gY250 (some .int) (gC E gDf gMs (d + 1)) (some (.int v), (gSh, σ, u)) G := hG
  show G (0, [some (.ref 94), some (.int a0), some (.int a1), some (.int a2), none, none], [], (gSh, σ, u))
  refine gRunN_ok hG.1 3 _ (5, [some (.ref 94), some (.int a0), some (.int a1), some (.int a2), none, none], [.int (σ.1 94 0), .int a0], (gSh, σ, u)) rfl ?_
  obtain ⟨hc, hP⟩ := g_if hP
  refine hG.1 _ (6, [some (.ref 94), some (.int a0), some (.int a1), some (.int a2), none, none], [.int (a0 - a0 / (σ.1 94 0) * (σ.1 94 0))], (gSh, σ, u)) _ rfl (if_pos hc) ?_
  refine gRunN_ok hG.1 1 _ (8, [some (.ref 94), some (.int a0), some (.int a1), some (.int a2), some (.int (a0 - a0 / (σ.1 94 0) * (σ.1 94 0))), none], [], (gSh, σ, u)) rfl ?_
  obtain ⟨x1, ex1, hP⟩ := g_let hP
  rw [← ex1]
  refine gRunN_ok hG.1 3 _ (13, [some (.ref 94), some (.int a0), some (.int a1), some (.int a2), some (.int x1), none], [.int (σ.1 94 0), .int a0], (gSh, σ, u)) rfl ?_
  obtain ⟨hc, hP⟩ := g_if hP
  refine hG.1 _ (14, [some (.ref 94), some (.int a0), some (.int a1), some (.int a2), some (.int x1), none], [.int (a0 / (σ.1 94 0))], (gSh, σ, u)) _ rfl (if_pos hc) ?_
  refine gRunN_ok hG.1 1 _ (16, [some (.ref 94), some (.int a0), some (.int a1), some (.int a2), some (.int x1), some (.int (a0 / (σ.1 94 0)))], [], (gSh, σ, u)) rfl ?_
  obtain ⟨x2, ex2, hP⟩ := g_let hP
  rw [← ex2]
  refine gRunN_ok hG.1 1 _ (17, [some (.ref 94), some (.int a0), some (.int a1), some (.int a2), some (.int x1), some (.int x2)], [.int a1], (gSh, σ, u)) rfl ?_
  rcases g_ite hP with ⟨hc, hP⟩ | ⟨hc, hP⟩
  · refine hG.1 _ (20, [some (.ref 94), some (.int a0), some (.int a1), some (.int a2), some (.int x1), some (.int x2)], [], (gSh, σ, u)) _ rfl (if_pos hc) ?_
    refine gRunN_ok hG.1 4 _ (26, [some (.ref 94), some (.int a0), some (.int a1), some (.int a2), some (.int x1), some (.int x2)], [.int a2, .int x2, .int x1, .ref 94], (gSh, σ, u)) rfl ?_
    obtain ⟨v3, hq, hP⟩ := g_b1 hP
    refine hG.2.2.2.1 _ _ _ [.ref 94, .int x1, .int x2, .int a2] [] _ (gSh, σ, u) (some (.int v3)) _ _ _ _ _ _ rfl rfl rfl rfl rfl rfl (c_Model_flatWire E (d + 0) u x1 x2 a2 _  hq) (Nat.le_refl _) (Nat.le_refl _) (Nat.le_refl _) (Nat.le_refl _) ?_
    show G (29, [some (.ref 94), some (.int a0), some (.int a1), some (.int a2), some (.int x1), some (.int x2)], [.int v3], (gSh, σ, u))
    refine gRunN_ok hG.1 1 _ (79, [some (.ref 94), some (.int a0), some (.int a1), some (.int a2), some (.int x1), some (.int x2)], [.int v3], (gSh, σ, u)) rfl ?_
    cases hP
    exact hG.2.1 _ _ rfl rfl
  · refine hG.1 _ (32, [some (.ref 94), some (.int a0), some (.int a1), some (.int a2), some (.int x1), some (.int x2)], [], (gSh, σ, u)) _ rfl (if_neg hc) ?_
    refine gRunN_ok hG.1 2 _ (34, [some (.ref 94), some (.int a0), some (.int a1), some (.int a2), some (.int x1), some (.int x2)], [.int 1, .int a1], (gSh, σ, u)) rfl ?_
    rcases g_ite hP with ⟨hc, hP⟩ | ⟨hc, hP⟩
    · refine hG.1 _ (37, [some (.ref 94), some (.int a0), some (.int a1), some (.int a2), some (.int x1), some (.int x2)], [], (gSh, σ, u)) _ rfl (if_pos hc) ?_
      refine gRunN_ok hG.1 6 _ (45, [some (.ref 94), some (.int a0), some (.int a1), some (.int a2), some (.int x1), some (.int x2)], [.int a2, .int (x2 + (1 : Int32)), .int x1, .ref 94], (gSh, σ, u)) rfl ?_
      obtain ⟨v5, hq, hP⟩ := g_b1 hP
      refine hG.2.2.2.1 _ _ _ [.ref 94, .int x1, .int (x2 + (1 : Int32)), .int a2] [] _ (gSh, σ, u) (some (.int v5)) _ _ _ _ _ _ rfl rfl rfl rfl rfl rfl (c_Model_flatWire E (d + 0) u x1 (x2 + (1 : Int32)) a2 _  hq) (Nat.le_refl _) (Nat.le_refl _) (Nat.le_refl _) (Nat.le_refl _) ?_
      show G (48, [some (.ref 94), some (.int a0), some (.int a1), some (.int a2), some (.int x1), some (.int x2)], [.int v5], (gSh, σ, u))
      refine gRunN_ok hG.1 1 _ (79, [some (.ref 94), some (.int a0), some (.int a1), some (.int a2), some (.int x1), some (.int x2)], [.int v5], (gSh, σ, u)) rfl ?_
      cases hP
      exact hG.2.1 _ _ rfl rfl
    · refine hG.1 _ (51, [some (.ref 94), some (.int a0), some (.int a1), some (.int a2), some (.int x1), some (.int x2)], [], (gSh, σ, u)) _ rfl (if_neg hc) ?_
      refine gRunN_ok hG.1 2 _ (53, [some (.ref 94), some (.int a0), some (.int a1), some (.int a2), some (.int x1), some (.int x2)], [.int 2, .int a1], (gSh, σ, u)) rfl ?_
      rcases g_ite hP with ⟨hc, hP⟩ | ⟨hc, hP⟩
      · refine hG.1 _ (56, [some (.ref 94), some (.int a0), some (.int a1), some (.int a2), some (.int x1), some (.int x2)], [], (gSh, σ, u)) _ rfl (if_pos hc) ?_
        refine gRunN_ok hG.1 4 _ (62, [some (.ref 94), some (.int a0), some (.int a1), some (.int a2), some (.int x1), some (.int x2)], [.int a2, .int x2, .int x1, .ref 94], (gSh, σ, u)) rfl ?_
        obtain ⟨v7, hq, hP⟩ := g_b1 hP
        refine hG.2.2.2.1 _ _ _ [.ref 94, .int x1, .int x2, .int a2] [] _ (gSh, σ, u) (some (.int v7)) _ _ _ _ _ _ rfl rfl rfl rfl rfl rfl (c_Model_uprightWire E (d + 0) u x1 x2 a2 _  hq) (Nat.le_refl _) (Nat.le_refl _) (Nat.le_refl _) (Nat.le_refl _) ?_
        show G (65, [some (.ref 94), some (.int a0), some (.int a1), some (.int a2), some (.int x1), some (.int x2)], [.int v7], (gSh, σ, u))
        refine gRunN_ok hG.1 1 _ (79, [some (.ref 94), some (.int a0), some (.int a1), some (.int a2), some (.int x1), some (.int x2)], [.int v7], (gSh, σ, u)) rfl ?_
        cases hP
        exact hG.2.1 _ _ rfl rfl
      · refine hG.1 _ (68, [some (.ref 94), some (.int a0), some (.int a1), some (.int a2), some (.int x1), some (.int x2)], [], (gSh, σ, u)) _ rfl (if_neg hc) ?_
        refine gRunN_ok hG.1 6 _ (76, [some (.ref 94), some (.int a0), some (.int a1), some (.int a2), some (.int x1), some (.int x2)], [.int a2, .int x2, .int (x1 + (1 : Int32)), .ref 94], (gSh, σ, u)) rfl ?_
        obtain ⟨v9, hq, hP⟩ := g_b1 hP
        refine hG.2.2.2.1 _ _ _ [.ref 94, .int (x1 + (1 : Int32)), .int x2, .int a2] [] _ (gSh, σ, u) (some (.int v9)) _ _ _ _ _ _ rfl rfl rfl rfl rfl rfl (c_Model_uprightWire E (d + 0) u (x1 + (1 : Int32)) x2 a2 _  hq) (Nat.le_refl _) (Nat.le_refl _) (Nat.le_refl _) (Nat.le_refl _) ?_
        show G (79, [some (.ref 94), some (.int a0), some (.int a1), some (.int a2), some (.int x1), some (.int x2)], [.int v9], (gSh, σ, u))
        cases hP
        exact hG.2.1 _ _ rfl rfl⟩
def p_Model_baseOf (E : gEv) (a0 : Int32) (σ : gS) : Option (Int32) :=
  gB1 (p_Model_tileOf E a0 σ) fun v1 => if gIn a0 (σ.2.1 134) then some (((v1 * (σ.1 94 2)) + (σ.1 134 a0.toNatClampNeg)) * (σ.1 94 9)) else none
set_option maxRecDepth 20000 in
theorem c_Model_baseOf (E : gEv) (d u : Nat) (a0 : Int32) (σ : gS) {v : Int32}  (hq : p_Model_baseOf E a0 σ = some v) : gC E gDf gMs (d + 2) 257 [.ref 94, .int a0] (gSh, σ, u) (some (.int v), (gSh, σ, u)) := ⟨gM257, rfl, Nat.le_of_ble_eq_true rfl, fun G hG => by
  have hP := hq
  unfold p_Model_baseOf at hP
  replace hG : gClo E gDf gP18 gY257 (some .int) (gC E gDf gMs (d + 1)) (some (.int v), (gSh, σ, u)) G := hG
  show G (0, [some (.ref 94), some (.int a0)], [], (gSh, σ, u))
  refine gRunN_ok hG.1 2 _ (2, [some (.ref 94), some (.int a0)], [.int a0, .ref 94], (gSh, σ, u)) rfl ?_
  obtain ⟨v1, hq, hP⟩ := g_b1 hP
  refine hG.2.2.2.1 _ _ _ [.ref 94, .int a0] [] _ (gSh, σ, u) (some (.int v1)) _ _ _ _ _ _ rfl rfl rfl rfl rfl rfl (c_Model_tileOf E (d + 0) u a0 _  hq) (Nat.le_refl _) (Nat.le_refl _) (Nat.le_refl _) (Nat.le_refl _) ?_
  show G (5, [some (.ref 94), some (.int a0)], [.int v1], (gSh, σ, u))
  refine gRunN_ok hG.1 6 _ (15, [some (.ref 94), some (.int a0)], [.int a0, .ref 134, .int (v1 * (σ.1 94 2))], (gSh, σ, u)) rfl ?_
  obtain ⟨hc, hP⟩ := g_if hP
  refine hG.1 _ (16, [some (.ref 94), some (.int a0)], [.int (σ.1 134 a0.toNatClampNeg), .int (v1 * (σ.1 94 2))], (gSh, σ, u)) _ rfl (if_pos hc) ?_
  refine gRunN_ok hG.1 4 _ (22, [some (.ref 94), some (.int a0)], [.int (((v1 * (σ.1 94 2)) + (σ.1 134 a0.toNatClampNeg)) * (σ.1 94 9))], (gSh, σ, u)) rfl ?_
  cases hP
  exact hG.2.1 _ _ rfl rfl⟩
def p_Model_mean_22 (E : gEv) (l1 : Int32) (l2 : Int32) (l3 : Int32) (l4 : Int32) (σ : gS) : Option ((Int32 × Int32) ⊕ (Int32)) :=
  if gIn l2 (σ.2.1 110) then if (σ.1 110 l2.toNatClampNeg) ≤ l4 then (some (.inr l3)) else (if gIn (((8 : Int32) * l2) + l4) (σ.2.1 111) then gB1 (p_Model_levelOf E (σ.1 111 (((8 : Int32) * l2) + l4).toNatClampNeg) σ) fun v2 => if v2 = 0 then (gLet (l3 ||| (0 : Int32)) fun x4 => gLet (l4 + 1) fun x5 => some (.inl (x4, x5))) else (gLet (l3 ||| ((1 : Int32) <<< (l4 &&& 31))) fun x6 => gLet (l4 + 1) fun x7 => some (.inl (x6, x7))) else none) else none
set_option maxRecDepth 20000 in
theorem b_Model_mean_22 (E : gEv) (d u : Nat) {G : gFr → Prop} {vo : Option Value} {sr : gS} (hG : gClo E gDf gP18 gY274 none (gC E gDf gMs (d + 1)) (vo, (gSh, sr, u)) G) (l1 : Int32) (l2 : Int32) (l3 : Int32) (l4 : Int32) (σ : gS) {r : (Int32 × Int32) ⊕ (Int32)} (hP : p_Model_mean_22 E l1 l2 l3 l4 σ = some r) (K1 : ∀ (m3 : Int32) (m4 : Int32), r = .inl (m3, m4) → G (22, [some (.ref 94), some (.int l1), some (.int l2), some (.int m3), some (.int m4)], [], (gSh, σ, u))) (K2 : ∀ (m3 : Int32), r = .inr m3 → G (69, [some (.ref 94), some (.int l1), some (.int l2), some (.int m3), none], [], (gSh, σ, u))) : G (22, [some (.ref 94), some (.int l1), some (.int l2), some (.int l3), some (.int l4)], [], (gSh, σ, u)) := by
  unfold p_Model_mean_22 at hP
  refine gRunN_ok hG.1 4 _ (29, [some (.ref 94), some (.int l1), some (.int l2), some (.int l3), some (.int l4)], [.int l2, .ref 110, .int l4], (gSh, σ, u)) rfl ?_
  obtain ⟨hc, hP⟩ := g_if hP
  refine hG.1 _ (30, [some (.ref 94), some (.int l1), some (.int l2), some (.int l3), some (.int l4)], [.int (σ.1 110 l2.toNatClampNeg), .int l4], (gSh, σ, u)) _ rfl (if_pos hc) ?_
  rcases g_ite hP with ⟨hc, hP⟩ | ⟨hc, hP⟩
  · refine hG.1 _ (69, [some (.ref 94), some (.int l1), some (.int l2), some (.int l3), some (.int l4)], [], (gSh, σ, u)) _ rfl (if_pos hc) ?_
    refine hG.2.2.2.2.1 _ _ [some (.ref 94), some (.int l1), some (.int l2), some (.int l3), none] _ _ ⟨rfl, ⟨rfl, ⟨rfl, ⟨rfl, trivial⟩⟩⟩⟩ ?_
    cases hP
    exact K2 _ rfl
  · refine hG.1 _ (33, [some (.ref 94), some (.int l1), some (.int l2), some (.int l3), some (.int l4)], [], (gSh, σ, u)) _ rfl (if_neg hc) ?_
    refine gRunN_ok hG.1 9 _ (46, [some (.ref 94), some (.int l1), some (.int l2), some (.int l3), some (.int l4)], [.int (((8 : Int32) * l2) + l4), .ref 111, .ref 94, .int l3], (gSh, σ, u)) rfl ?_
    obtain ⟨hc, hP⟩ := g_if hP
    refine hG.1 _ (47, [some (.ref 94), some (.int l1), some (.int l2), some (.int l3), some (.int l4)], [.int (σ.1 111 (((8 : Int32) * l2) + l4).toNatClampNeg), .ref 94, .int l3], (gSh, σ, u)) _ rfl (if_pos hc) ?_
    obtain ⟨v2, hq, hP⟩ := g_b1 hP
    refine hG.2.2.2.1 _ _ _ [.ref 94, .int (σ.1 111 (((8 : Int32) * l2) + l4).toNatClampNeg)] [.int l3] _ (gSh, σ, u) (some (.int v2)) _ _ _ _ _ _ rfl rfl rfl rfl rfl rfl (c_Model_levelOf E (d + 0) u (σ.1 111 (((8 : Int32) * l2) + l4).toNatClampNeg) _  hq) (Nat.le_refl _) (Nat.le_refl _) (Nat.le_refl _) (Nat.le_refl _) ?_
    show G (50, [some (.ref 94), some (.int l1), some (.int l2), some (.int l3), some (.int l4)], [.int v2, .int l3], (gSh, σ, u))
    rcases g_ite hP with ⟨hc, hP⟩ | ⟨hc, hP⟩
    · refine hG.1 _ (60, [some (.ref 94), some (.int l1), some (.int l2), some (.int l3), some (.int l4)], [.int l3], (gSh, σ, u)) _ rfl (if_pos hc) ?_
      refine gRunN_ok hG.1 3 _ (63, [some (.ref 94), some (.int l1), some (.int l2), some (.int (l3 ||| (0 : Int32))), some (.int l4)], [], (gSh, σ, u)) rfl ?_
      obtain ⟨x4, ex4, hP⟩ := g_let hP
      rw [← ex4]
      refine gRunN_ok hG.1 1 _ (66, [some (.ref 94), some (.int l1), some (.int l2), some (.int x4), some (.int (l4 + 1))], [], (gSh, σ, u)) rfl ?_
      obtain ⟨x5, ex5, hP⟩ := g_let hP
      rw [← ex5]
      refine gRunN_ok hG.1 1 _ (22, [some (.ref 94), some (.int l1), some (.int l2), some (.int x4), some (.int x5)], [], (gSh, σ, u)) rfl ?_
      cases hP
      exact K1 _ _ rfl
    · refine hG.1 _ (53, [some (.ref 94), some (.int l1), some (.int l2), some (.int l3), some (.int l4)], [.int l3], (gSh, σ, u)) _ rfl (if_neg hc) ?_
      refine gRunN_ok hG.1 6 _ (63, [some (.ref 94), some (.int l1), some (.int l2), some (.int (l3 ||| ((1 : Int32) <<< (l4 &&& 31)))), some (.int l4)], [], (gSh, σ, u)) rfl ?_
      obtain ⟨x6, ex6, hP⟩ := g_let hP
      rw [← ex6]
      refine gRunN_ok hG.1 1 _ (66, [some (.ref 94), some (.int l1), some (.int l2), some (.int x6), some (.int (l4 + 1))], [], (gSh, σ, u)) rfl ?_
      obtain ⟨x7, ex7, hP⟩ := g_let hP
      rw [← ex7]
      refine gRunN_ok hG.1 1 _ (22, [some (.ref 94), some (.int l1), some (.int l2), some (.int x6), some (.int x7)], [], (gSh, σ, u)) rfl ?_
      cases hP
      exact K1 _ _ rfl
theorem l_Model_mean_22 (E : gEv) (d u : Nat) {G : gFr → Prop} {vo : Option Value} {sr : gS} (hG : gClo E gDf gP18 gY274 none (gC E gDf gMs (d + 1)) (vo, (gSh, sr, u)) G) (l1 : Int32) (l2 : Int32) (σ : gS) : ∀ (n : Nat) (l3 : Int32) (l4 : Int32) (e : (Int32)), gIter (fun z => p_Model_mean_22 E l1 l2 z.1 z.2 σ) n (l3, l4) = some e → (∀ (m3 : Int32), e = m3 → G (69, [some (.ref 94), some (.int l1), some (.int l2), some (.int m3), none], [], (gSh, σ, u))) → G (22, [some (.ref 94), some (.int l1), some (.int l2), some (.int l3), some (.int l4)], [], (gSh, σ, u)) := by
  intro n
  induction n with
  | zero => intro l3 l4 e h; cases h
  | succ n ih =>
    intro l3 l4 e h K2
    rcases g_iter h with ⟨z, h1, h2⟩ | h1
    · exact b_Model_mean_22 E d u hG l1 l2 l3 l4 σ h1 (fun n0 n1 hz => by cases hz; exact ih _ _ e h2 K2) (fun _ hz => by cases hz)
    · exact b_Model_mean_22 E d u hG l1 l2 l3 l4 σ h1 (fun _ _ hz => by cases hz) (fun m3 hz => K2 m3 (by cases hz; rfl))
def p_Model_mean_2 (E : gEv) (l1 : Int32) (σ : gS) : Option ((Int32 × gS) ⊕ (gS)) :=
  if (σ.1 94 32) ≤ l1 then (some (.inr σ)) else (if gIn l1 (σ.2.1 115) then gLet (σ.1 115 l1.toNatClampNeg) fun x1 => gB1 (gIter (fun z => p_Model_mean_22 E l1 x1 z.1 z.2 σ) gN (0, 0)) fun e8 => (fun w9 => if gIn (((256 : Int32) * x1) + w9) (σ.2.1 114) then if gIn x1 (σ.2.1 163) then gLet (gPut σ 163 x1.toNatClampNeg (vp_nar .boolean (σ.1 114 (((256 : Int32) * x1) + w9).toNatClampNeg))) fun s10 => gLet (l1 + 1) fun x11 => some (.inl (x11, s10)) else none else none) e8 else none)
set_option maxRecDepth 20000 in
theorem b_Model_mean_2 (E : gEv) (d u : Nat) {G : gFr → Prop} {vo : Option Value} {sr : gS} (hG : gClo E gDf gP18 gY274 none (gC E gDf gMs (d + 1)) (vo, (gSh, sr, u)) G) (l1 : Int32) (σ : gS) {r : (Int32 × gS) ⊕ (gS)} (hP : p_Model_mean_2 E l1 σ = some r) (K1 : ∀ (m1 : Int32) (σ1 : gS), r = .inl (m1, σ1) → G (2, [some (.ref 94), some (.int m1), none, none, none], [], (gSh, σ1, u))) (K2 : ∀ (σ1 : gS), r = .inr σ1 → G (93, [none, none, none, none, none], [], (gSh, σ1, u))) : G (2, [some (.ref 94), some (.int l1), none, none, none], [], (gSh, σ, u)) := by
  unfold p_Model_mean_2 at hP
  refine gRunN_ok hG.1 3 _ (7, [some (.ref 94), some (.int l1), none, none, none], [.int (σ.1 94 32), .int l1], (gSh, σ, u)) rfl ?_
  rcases g_ite hP with ⟨hc, hP⟩ | ⟨hc, hP⟩
  · refine hG.1 _ (93, [some (.ref 94), some (.int l1), none, none, none], [], (gSh, σ, u)) _ rfl (if_pos hc) ?_
    refine hG.2.2.2.2.1 _ _ [none, none, none, none, none] _ _ trivial ?_
    cases hP
    exact K2 _ rfl
  · refine hG.1 _ (10, [some (.ref 94), some (.int l1), none, none, none], [], (gSh, σ, u)) _ rfl (if_neg hc) ?_
    refine gRunN_ok hG.1 3 _ (15, [some (.ref 94), some (.int l1), none, none, none], [.int l1, .ref 115], (gSh, σ, u)) rfl ?_
    obtain ⟨hc, hP⟩ := g_if hP
    refine hG.1 _ (16, [some (.ref 94), some (.int l1), none, none, none], [.int (σ.1 115 l1.toNatClampNeg)], (gSh, σ, u)) _ rfl (if_pos hc) ?_
    refine gRunN_ok hG.1 1 _ (17, [some (.ref 94), some (.int l1), some (.int (σ.1 115 l1.toNatClampNeg)), none, none], [], (gSh, σ, u)) rfl ?_
    obtain ⟨x1, ex1, hP⟩ := g_let hP
    rw [← ex1]
    refine gRunN_ok hG.1 4 _ (22, [some (.ref 94), some (.int l1), some (.int x1), some (.int 0), some (.int 0)], [], (gSh, σ, u)) rfl ?_
    obtain ⟨e8, hq, hP⟩ := g_b1 hP
    refine l_Model_mean_22 E d u hG l1 x1 σ gN 0 0 _ hq (fun w9 he => ?_)
    · replace he := he.symm
      subst he
      try dsimp only [gSum] at hP
      refine gRunN_ok hG.1 10 _ (85, [some (.ref 94), some (.int l1), some (.int x1), some (.int w9), none], [.int (((256 : Int32) * x1) + w9), .ref 114, .int x1, .ref 163], (gSh, σ, u)) rfl ?_
      obtain ⟨hc, hP⟩ := g_if hP
      refine hG.1 _ (86, [some (.ref 94), some (.int l1), some (.int x1), some (.int w9), none], [.int (σ.1 114 (((256 : Int32) * x1) + w9).toNatClampNeg), .int x1, .ref 163], (gSh, σ, u)) _ rfl (if_pos hc) ?_
      obtain ⟨hc, hP⟩ := g_if hP
      refine hG.1 _ (87, [some (.ref 94), some (.int l1), some (.int x1), some (.int w9), none], [], (gSh, (gPut σ 163 x1.toNatClampNeg (vp_nar .boolean (σ.1 114 (((256 : Int32) * x1) + w9).toNatClampNeg))), u)) _ rfl (if_pos hc) ?_
      obtain ⟨s10, es10, hP⟩ := g_let hP
      rw [← es10]
      refine gRunN_ok hG.1 1 _ (90, [some (.ref 94), some (.int (l1 + 1)), some (.int x1), some (.int w9), none], [], (gSh, s10, u)) rfl ?_
      obtain ⟨x11, ex11, hP⟩ := g_let hP
      rw [← ex11]
      refine gRunN_ok hG.1 1 _ (2, [some (.ref 94), some (.int x11), some (.int x1), some (.int w9), none], [], (gSh, s10, u)) rfl ?_
      refine hG.2.2.2.2.1 _ _ [some (.ref 94), some (.int x11), none, none, none] _ _ ⟨rfl, ⟨rfl, trivial⟩⟩ ?_
      cases hP
      exact K1 _ _ rfl
theorem l_Model_mean_2 (E : gEv) (d u : Nat) {G : gFr → Prop} {vo : Option Value} {sr : gS} (hG : gClo E gDf gP18 gY274 none (gC E gDf gMs (d + 1)) (vo, (gSh, sr, u)) G) : ∀ (n : Nat) (l1 : Int32) (σ : gS) (e : (gS)), gIter (fun z => p_Model_mean_2 E z.1 z.2) n (l1, σ) = some e → (∀ (σ1 : gS), e = σ1 → G (93, [none, none, none, none, none], [], (gSh, σ1, u))) → G (2, [some (.ref 94), some (.int l1), none, none, none], [], (gSh, σ, u)) := by
  intro n
  induction n with
  | zero => intro l1 σ e h; cases h
  | succ n ih =>
    intro l1 σ e h K2
    rcases g_iter h with ⟨z, h1, h2⟩ | h1
    · exact b_Model_mean_2 E d u hG l1 σ h1 (fun n0 n1 hz => by cases hz; exact ih _ _ e h2 K2) (fun _ hz => by cases hz)
    · exact b_Model_mean_2 E d u hG l1 σ h1 (fun _ _ hz => by cases hz) (fun σ1 hz => K2 σ1 (by cases hz; rfl))
def p_Model_mean (E : gEv) (σ : gS) : Option (gS) :=
  gB1 (gIter (fun z => p_Model_mean_2 E z.1 z.2) gN (0, σ)) fun e12 => (fun s13 => some s13) e12
set_option maxRecDepth 20000 in
theorem c_Model_mean (E : gEv) (d u : Nat) (σ : gS) {sr : gS}  (hq : p_Model_mean E σ = some sr) : gC E gDf gMs (d + 2) 274 [.ref 94] (gSh, σ, u) (none, (gSh, sr, u)) := ⟨gM274, rfl, Nat.le_of_ble_eq_true rfl, fun G hG => by
  have hP := hq
  unfold p_Model_mean at hP
  replace hG : gClo E gDf gP18 gY274 none (gC E gDf gMs (d + 1)) (none, (gSh, sr, u)) G := hG
  show G (0, [some (.ref 94), none, none, none, none], [], (gSh, σ, u))
  refine gRunN_ok hG.1 2 _ (2, [some (.ref 94), some (.int 0), none, none, none], [], (gSh, σ, u)) rfl ?_
  obtain ⟨e12, hq, hP⟩ := g_b1 hP
  refine l_Model_mean_2 E d u hG gN 0 σ _ hq (fun s13 he => ?_)
  · replace he := he.symm
    subst he
    try dsimp only [gSum] at hP
    cases hP
    exact hG.2.1 _ _ rfl rfl⟩
def p_Model_value_85 (E : gEv) (l1 : Int32) (l3 : Int32) (l4 : Int32) (l5 : Int32) (σ : gS) : Option ((Int32 × Int32) ⊕ (Int32)) :=
  if (4 : Int32) ≤ l5 then (some (.inr l4)) else (if gIn (((4 : Int32) * l3) + l5) (σ.2.1 117) then gB1 (p_Model_sourceLevel E (σ.1 117 (((4 : Int32) * l3) + l5).toNatClampNeg) σ) fun v1 => if v1 = 0 then (gLet (l4 ||| (0 : Int32)) fun x3 => gLet (l5 + 1) fun x4 => some (.inl (x3, x4))) else (gLet (l4 ||| ((1 : Int32) <<< (l5 &&& 31))) fun x5 => gLet (l5 + 1) fun x6 => some (.inl (x5, x6))) else none)
set_option maxRecDepth 20000 in
theorem b_Model_value_85 (E : gEv) (d u : Nat) {G : gFr → Prop} {vo : Option Value} {sr : gS} (hG : gClo E gDf gP18 gY276 (some .int) (gC E gDf gMs (d + 1)) (vo, (gSh, sr, u)) G) (l1 : Int32) (l3 : Int32) (l4 : Int32) (l5 : Int32) (σ : gS) {r : (Int32 × Int32) ⊕ (Int32)} (hP : p_Model_value_85 E l1 l3 l4 l5 σ = some r) (K1 : ∀ (m4 : Int32) (m5 : Int32), r = .inl (m4, m5) → G (85, [some (.ref 94), some (.int l1), none, some (.int l3), some (.int m4), some (.int m5)], [], (gSh, σ, u))) (K2 : ∀ (m4 : Int32), r = .inr m4 → G (128, [some (.ref 94), some (.int l1), none, some (.int l3), some (.int m4), none], [], (gSh, σ, u))) : G (85, [some (.ref 94), some (.int l1), none, some (.int l3), some (.int l4), some (.int l5)], [], (gSh, σ, u)) := by
  unfold p_Model_value_85 at hP
  refine gRunN_ok hG.1 2 _ (88, [some (.ref 94), some (.int l1), none, some (.int l3), some (.int l4), some (.int l5)], [.int 4, .int l5], (gSh, σ, u)) rfl ?_
  rcases g_ite hP with ⟨hc, hP⟩ | ⟨hc, hP⟩
  · refine hG.1 _ (128, [some (.ref 94), some (.int l1), none, some (.int l3), some (.int l4), some (.int l5)], [], (gSh, σ, u)) _ rfl (if_pos hc) ?_
    refine hG.2.2.2.2.1 _ _ [some (.ref 94), some (.int l1), none, some (.int l3), some (.int l4), none] _ _ ⟨rfl, ⟨rfl, ⟨rfl, ⟨rfl, trivial⟩⟩⟩⟩ ?_
    cases hP
    exact K2 _ rfl
  · refine hG.1 _ (91, [some (.ref 94), some (.int l1), none, some (.int l3), some (.int l4), some (.int l5)], [], (gSh, σ, u)) _ rfl (if_neg hc) ?_
    refine gRunN_ok hG.1 9 _ (104, [some (.ref 94), some (.int l1), none, some (.int l3), some (.int l4), some (.int l5)], [.int (((4 : Int32) * l3) + l5), .ref 117, .ref 94, .int l4], (gSh, σ, u)) rfl ?_
    obtain ⟨hc, hP⟩ := g_if hP
    refine hG.1 _ (105, [some (.ref 94), some (.int l1), none, some (.int l3), some (.int l4), some (.int l5)], [.int (σ.1 117 (((4 : Int32) * l3) + l5).toNatClampNeg), .ref 94, .int l4], (gSh, σ, u)) _ rfl (if_pos hc) ?_
    obtain ⟨v1, hq, hP⟩ := g_b1 hP
    refine hG.2.2.2.1 _ _ _ [.ref 94, .int (σ.1 117 (((4 : Int32) * l3) + l5).toNatClampNeg)] [.int l4] _ (gSh, σ, u) (some (.int v1)) _ _ _ _ _ _ rfl rfl rfl rfl rfl rfl (c_Model_sourceLevel E (d + 0) u (σ.1 117 (((4 : Int32) * l3) + l5).toNatClampNeg) _  hq) (Nat.le_refl _) (Nat.le_refl _) (Nat.le_refl _) (Nat.le_refl _) ?_
    show G (108, [some (.ref 94), some (.int l1), none, some (.int l3), some (.int l4), some (.int l5)], [.int v1, .int l4], (gSh, σ, u))
    rcases g_ite hP with ⟨hc, hP⟩ | ⟨hc, hP⟩
    · refine hG.1 _ (118, [some (.ref 94), some (.int l1), none, some (.int l3), some (.int l4), some (.int l5)], [.int l4], (gSh, σ, u)) _ rfl (if_pos hc) ?_
      refine gRunN_ok hG.1 3 _ (122, [some (.ref 94), some (.int l1), none, some (.int l3), some (.int (l4 ||| (0 : Int32))), some (.int l5)], [], (gSh, σ, u)) rfl ?_
      obtain ⟨x3, ex3, hP⟩ := g_let hP
      rw [← ex3]
      refine gRunN_ok hG.1 1 _ (125, [some (.ref 94), some (.int l1), none, some (.int l3), some (.int x3), some (.int (l5 + 1))], [], (gSh, σ, u)) rfl ?_
      obtain ⟨x4, ex4, hP⟩ := g_let hP
      rw [← ex4]
      refine gRunN_ok hG.1 1 _ (85, [some (.ref 94), some (.int l1), none, some (.int l3), some (.int x3), some (.int x4)], [], (gSh, σ, u)) rfl ?_
      cases hP
      exact K1 _ _ rfl
    · refine hG.1 _ (111, [some (.ref 94), some (.int l1), none, some (.int l3), some (.int l4), some (.int l5)], [.int l4], (gSh, σ, u)) _ rfl (if_neg hc) ?_
      refine gRunN_ok hG.1 6 _ (122, [some (.ref 94), some (.int l1), none, some (.int l3), some (.int (l4 ||| ((1 : Int32) <<< (l5 &&& 31)))), some (.int l5)], [], (gSh, σ, u)) rfl ?_
      obtain ⟨x5, ex5, hP⟩ := g_let hP
      rw [← ex5]
      refine gRunN_ok hG.1 1 _ (125, [some (.ref 94), some (.int l1), none, some (.int l3), some (.int x5), some (.int (l5 + 1))], [], (gSh, σ, u)) rfl ?_
      obtain ⟨x6, ex6, hP⟩ := g_let hP
      rw [← ex6]
      refine gRunN_ok hG.1 1 _ (85, [some (.ref 94), some (.int l1), none, some (.int l3), some (.int x5), some (.int x6)], [], (gSh, σ, u)) rfl ?_
      cases hP
      exact K1 _ _ rfl
theorem l_Model_value_85 (E : gEv) (d u : Nat) {G : gFr → Prop} {vo : Option Value} {sr : gS} (hG : gClo E gDf gP18 gY276 (some .int) (gC E gDf gMs (d + 1)) (vo, (gSh, sr, u)) G) (l1 : Int32) (l3 : Int32) (σ : gS) : ∀ (n : Nat) (l4 : Int32) (l5 : Int32) (e : (Int32)), gIter (fun z => p_Model_value_85 E l1 l3 z.1 z.2 σ) n (l4, l5) = some e → (∀ (m4 : Int32), e = m4 → G (128, [some (.ref 94), some (.int l1), none, some (.int l3), some (.int m4), none], [], (gSh, σ, u))) → G (85, [some (.ref 94), some (.int l1), none, some (.int l3), some (.int l4), some (.int l5)], [], (gSh, σ, u)) := by
  intro n
  induction n with
  | zero => intro l4 l5 e h; cases h
  | succ n ih =>
    intro l4 l5 e h K2
    rcases g_iter h with ⟨z, h1, h2⟩ | h1
    · exact b_Model_value_85 E d u hG l1 l3 l4 l5 σ h1 (fun n0 n1 hz => by cases hz; exact ih _ _ e h2 K2) (fun _ hz => by cases hz)
    · exact b_Model_value_85 E d u hG l1 l3 l4 l5 σ h1 (fun _ _ hz => by cases hz) (fun m4 hz => K2 m4 (by cases hz; rfl))
def p_Model_value_j153_71 (E : gEv) (l1 : Int32) (l3 : Int32) (y1 : Int32) (y2 : Int32) (σ : gS) : Option ((Int32 × gS) ⊕ (gS)) :=
  if gIn y1 (σ.2.1 164) then gLet (gPut σ 164 y1.toNatClampNeg (vp_nar .boolean y2)) fun s9 => gLet (l3 + 1) fun x10 => some (.inl (x10, s9)) else none
set_option maxRecDepth 20000 in
theorem j_Model_value_j153_71 (E : gEv) (d u : Nat) {G : gFr → Prop} {vo : Option Value} {sr : gS} (hG : gClo E gDf gP18 gY276 (some .int) (gC E gDf gMs (d + 1)) (vo, (gSh, sr, u)) G) (l1 : Int32) (l3 : Int32) (y1 : Int32) (y2 : Int32) (σ : gS) {r : (Int32 × gS) ⊕ (gS)} (hP : p_Model_value_j153_71 E l1 l3 y1 y2 σ = some r) (K1 : ∀ (m3 : Int32) (σ1 : gS), r = .inl (m3, σ1) → G (71, [some (.ref 94), some (.int l1), none, some (.int m3), none, none], [], (gSh, σ1, u))) (K2 : ∀ (σ1 : gS), r = .inr σ1 → G (160, [some (.ref 94), some (.int l1), none, none, none, none], [], (gSh, σ1, u))) : G (153, [some (.ref 94), some (.int l1), none, some (.int l3), none, none], [.int y2, .int y1, .ref 164], (gSh, σ, u)) := by
  unfold p_Model_value_j153_71 at hP
  obtain ⟨hc, hP⟩ := g_if hP
  refine hG.1 _ (154, [some (.ref 94), some (.int l1), none, some (.int l3), none, none], [], (gSh, (gPut σ 164 y1.toNatClampNeg (vp_nar .boolean y2)), u)) _ rfl (if_pos hc) ?_
  obtain ⟨s9, es9, hP⟩ := g_let hP
  rw [← es9]
  refine gRunN_ok hG.1 1 _ (157, [some (.ref 94), some (.int l1), none, some (.int (l3 + 1)), none, none], [], (gSh, s9, u)) rfl ?_
  obtain ⟨x10, ex10, hP⟩ := g_let hP
  rw [← ex10]
  refine gRunN_ok hG.1 1 _ (71, [some (.ref 94), some (.int l1), none, some (.int x10), none, none], [], (gSh, s9, u)) rfl ?_
  cases hP
  exact K1 _ _ rfl
def p_Model_value_71 (E : gEv) (l1 : Int32) (l3 : Int32) (σ : gS) : Option ((Int32 × gS) ⊕ (gS)) :=
  if (σ.1 94 46) ≤ l3 then (some (.inr σ)) else (gB1 (gIter (fun z => p_Model_value_85 E l1 l3 z.1 z.2 σ) gN (0, 0)) fun e7 => (fun w8 => if gIn l3 (σ.2.1 118) then if (((σ.1 118 l3.toNatClampNeg) >>> (w8 &&& 31)) &&& (1 : Int32)) = (1 : Int32) then (p_Model_value_j153_71 E l1 l3 l3 1 σ) else (p_Model_value_j153_71 E l1 l3 l3 0 σ) else none) e7)
set_option maxRecDepth 20000 in
theorem b_Model_value_71 (E : gEv) (d u : Nat) {G : gFr → Prop} {vo : Option Value} {sr : gS} (hG : gClo E gDf gP18 gY276 (some .int) (gC E gDf gMs (d + 1)) (vo, (gSh, sr, u)) G) (l1 : Int32) (l3 : Int32) (σ : gS) {r : (Int32 × gS) ⊕ (gS)} (hP : p_Model_value_71 E l1 l3 σ = some r) (K1 : ∀ (m3 : Int32) (σ1 : gS), r = .inl (m3, σ1) → G (71, [some (.ref 94), some (.int l1), none, some (.int m3), none, none], [], (gSh, σ1, u))) (K2 : ∀ (σ1 : gS), r = .inr σ1 → G (160, [some (.ref 94), some (.int l1), none, none, none, none], [], (gSh, σ1, u))) : G (71, [some (.ref 94), some (.int l1), none, some (.int l3), none, none], [], (gSh, σ, u)) := by
  unfold p_Model_value_71 at hP
  refine gRunN_ok hG.1 3 _ (76, [some (.ref 94), some (.int l1), none, some (.int l3), none, none], [.int (σ.1 94 46), .int l3], (gSh, σ, u)) rfl ?_
  rcases g_ite hP with ⟨hc, hP⟩ | ⟨hc, hP⟩
  · refine hG.1 _ (160, [some (.ref 94), some (.int l1), none, some (.int l3), none, none], [], (gSh, σ, u)) _ rfl (if_pos hc) ?_
    refine hG.2.2.2.2.1 _ _ [some (.ref 94), some (.int l1), none, none, none, none] _ _ ⟨rfl, ⟨rfl, trivial⟩⟩ ?_
    cases hP
    exact K2 _ rfl
  · refine hG.1 _ (79, [some (.ref 94), some (.int l1), none, some (.int l3), none, none], [], (gSh, σ, u)) _ rfl (if_neg hc) ?_
    refine gRunN_ok hG.1 4 _ (85, [some (.ref 94), some (.int l1), none, some (.int l3), some (.int 0), some (.int 0)], [], (gSh, σ, u)) rfl ?_
    obtain ⟨e7, hq, hP⟩ := g_b1 hP
    refine l_Model_value_85 E d u hG l1 l3 σ gN 0 0 _ hq (fun w8 he => ?_)
    · replace he := he.symm
      subst he
      try dsimp only [gSum] at hP
      refine gRunN_ok hG.1 6 _ (138, [some (.ref 94), some (.int l1), none, some (.int l3), some (.int w8), none], [.int l3, .ref 118, .int l3, .ref 164], (gSh, σ, u)) rfl ?_
      obtain ⟨hc, hP⟩ := g_if hP
      refine hG.1 _ (139, [some (.ref 94), some (.int l1), none, some (.int l3), some (.int w8), none], [.int (σ.1 118 l3.toNatClampNeg), .int l3, .ref 164], (gSh, σ, u)) _ rfl (if_pos hc) ?_
      refine gRunN_ok hG.1 5 _ (145, [some (.ref 94), some (.int l1), none, some (.int l3), some (.int w8), none], [.int 1, .int (((σ.1 118 l3.toNatClampNeg) >>> (w8 &&& 31)) &&& (1 : Int32)), .int l3, .ref 164], (gSh, σ, u)) rfl ?_
      rcases g_ite hP with ⟨hc, hP⟩ | ⟨hc, hP⟩
      · refine hG.1 _ (148, [some (.ref 94), some (.int l1), none, some (.int l3), some (.int w8), none], [.int l3, .ref 164], (gSh, σ, u)) _ rfl (if_pos hc) ?_
        refine gRunN_ok hG.1 2 _ (153, [some (.ref 94), some (.int l1), none, some (.int l3), some (.int w8), none], [.int 1, .int l3, .ref 164], (gSh, σ, u)) rfl ?_
        refine hG.2.2.2.2.1 _ _ [some (.ref 94), some (.int l1), none, some (.int l3), none, none] _ _ ⟨rfl, ⟨rfl, ⟨rfl, trivial⟩⟩⟩ ?_
        exact j_Model_value_j153_71 E d u hG l1 l3 l3 1 σ hP K1 K2
      · refine hG.1 _ (152, [some (.ref 94), some (.int l1), none, some (.int l3), some (.int w8), none], [.int l3, .ref 164], (gSh, σ, u)) _ rfl (if_neg hc) ?_
        refine gRunN_ok hG.1 1 _ (153, [some (.ref 94), some (.int l1), none, some (.int l3), some (.int w8), none], [.int 0, .int l3, .ref 164], (gSh, σ, u)) rfl ?_
        refine hG.2.2.2.2.1 _ _ [some (.ref 94), some (.int l1), none, some (.int l3), none, none] _ _ ⟨rfl, ⟨rfl, ⟨rfl, trivial⟩⟩⟩ ?_
        exact j_Model_value_j153_71 E d u hG l1 l3 l3 0 σ hP K1 K2
theorem l_Model_value_71 (E : gEv) (d u : Nat) {G : gFr → Prop} {vo : Option Value} {sr : gS} (hG : gClo E gDf gP18 gY276 (some .int) (gC E gDf gMs (d + 1)) (vo, (gSh, sr, u)) G) (l1 : Int32) : ∀ (n : Nat) (l3 : Int32) (σ : gS) (e : (gS)), gIter (fun z => p_Model_value_71 E l1 z.1 z.2) n (l3, σ) = some e → (∀ (σ1 : gS), e = σ1 → G (160, [some (.ref 94), some (.int l1), none, none, none, none], [], (gSh, σ1, u))) → G (71, [some (.ref 94), some (.int l1), none, some (.int l3), none, none], [], (gSh, σ, u)) := by
  intro n
  induction n with
  | zero => intro l3 σ e h; cases h
  | succ n ih =>
    intro l3 σ e h K2
    rcases g_iter h with ⟨z, h1, h2⟩ | h1
    · exact b_Model_value_71 E d u hG l1 l3 σ h1 (fun n0 n1 hz => by cases hz; exact ih _ _ e h2 K2) (fun _ hz => by cases hz)
    · exact b_Model_value_71 E d u hG l1 l3 σ h1 (fun _ _ hz => by cases hz) (fun σ1 hz => K2 σ1 (by cases hz; rfl))
def p_Model_value_j62 (E : gEv) (l1 : Int32) (y0 : Int32) (σ : gS) : Option (Int32 × gS) :=
  if y0 = 0 then (some ((-1), σ)) else (gB1 (gIter (fun z => p_Model_value_71 E l1 z.1 z.2) gN (0, σ)) fun e11 => (fun s12 => gB1 (p_Model_sourceLevel E l1 s12) fun v13 => if v13 = 0 then (some (0, s12)) else (some (1, s12))) e11)
set_option maxRecDepth 20000 in
theorem j_Model_value_j62 (E : gEv) (d u : Nat) {G : gFr → Prop} {v : Int32} {sr : gS} (hG : gClo E gDf gP18 gY276 (some .int) (gC E gDf gMs (d + 1)) (some (.int v), (gSh, sr, u)) G) (l1 : Int32) (y0 : Int32) (σ : gS) (hP : p_Model_value_j62 E l1 y0 σ = some (v, sr)) : G (62, [some (.ref 94), some (.int l1), none, none, none, none], [.int y0], (gSh, σ, u)) := by
  unfold p_Model_value_j62 at hP
  refine gRunN_ok hG.1 2 _ (64, [some (.ref 94), some (.int l1), some (.int y0), none, none, none], [.int y0], (gSh, σ, u)) rfl ?_
  rcases g_ite hP with ⟨hc, hP⟩ | ⟨hc, hP⟩
  · refine hG.1 _ (67, [some (.ref 94), some (.int l1), some (.int y0), none, none, none], [], (gSh, σ, u)) _ rfl (if_pos hc) ?_
    refine gRunN_ok hG.1 1 _ (68, [some (.ref 94), some (.int l1), some (.int y0), none, none, none], [.int (-1)], (gSh, σ, u)) rfl ?_
    cases hP
    exact hG.2.1 _ _ rfl rfl
  · refine hG.1 _ (69, [some (.ref 94), some (.int l1), some (.int y0), none, none, none], [], (gSh, σ, u)) _ rfl (if_neg hc) ?_
    refine gRunN_ok hG.1 2 _ (71, [some (.ref 94), some (.int l1), some (.int y0), some (.int 0), none, none], [], (gSh, σ, u)) rfl ?_
    refine hG.2.2.2.2.1 _ _ [some (.ref 94), some (.int l1), none, some (.int 0), none, none] _ _ ⟨rfl, ⟨rfl, ⟨rfl, trivial⟩⟩⟩ ?_
    obtain ⟨e11, hq, hP⟩ := g_b1 hP
    refine l_Model_value_71 E d u hG l1 gN 0 σ _ hq (fun s12 he => ?_)
    · replace he := he.symm
      subst he
      try dsimp only [gSum] at hP
      refine gRunN_ok hG.1 2 _ (162, [some (.ref 94), some (.int l1), none, none, none, none], [.int l1, .ref 94], (gSh, s12, u)) rfl ?_
      obtain ⟨v13, hq, hP⟩ := g_b1 hP
      refine hG.2.2.2.1 _ _ _ [.ref 94, .int l1] [] _ (gSh, s12, u) (some (.int v13)) _ _ _ _ _ _ rfl rfl rfl rfl rfl rfl (c_Model_sourceLevel E (d + 0) u l1 _  hq) (Nat.le_refl _) (Nat.le_refl _) (Nat.le_refl _) (Nat.le_refl _) ?_
      show G (165, [some (.ref 94), some (.int l1), none, none, none, none], [.int v13], (gSh, s12, u))
      rcases g_ite hP with ⟨hc, hP⟩ | ⟨hc, hP⟩
      · refine hG.1 _ (172, [some (.ref 94), some (.int l1), none, none, none, none], [], (gSh, s12, u)) _ rfl (if_pos hc) ?_
        refine gRunN_ok hG.1 1 _ (173, [some (.ref 94), some (.int l1), none, none, none, none], [.int 0], (gSh, s12, u)) rfl ?_
        cases hP
        exact hG.2.1 _ _ rfl rfl
      · refine hG.1 _ (168, [some (.ref 94), some (.int l1), none, none, none, none], [], (gSh, s12, u)) _ rfl (if_neg hc) ?_
        refine gRunN_ok hG.1 2 _ (173, [some (.ref 94), some (.int l1), none, none, none, none], [.int 1], (gSh, s12, u)) rfl ?_
        cases hP
        exact hG.2.1 _ _ rfl rfl
def p_Model_value_j61 (E : gEv) (l1 : Int32) (σ : gS) : Option (Int32 × gS) :=
  p_Model_value_j62 E l1 0 σ
set_option maxRecDepth 20000 in
theorem j_Model_value_j61 (E : gEv) (d u : Nat) {G : gFr → Prop} {v : Int32} {sr : gS} (hG : gClo E gDf gP18 gY276 (some .int) (gC E gDf gMs (d + 1)) (some (.int v), (gSh, sr, u)) G) (l1 : Int32) (σ : gS) (hP : p_Model_value_j61 E l1 σ = some (v, sr)) : G (61, [some (.ref 94), some (.int l1), none, none, none, none], [], (gSh, σ, u)) := by
  unfold p_Model_value_j61 at hP
  refine gRunN_ok hG.1 1 _ (62, [some (.ref 94), some (.int l1), none, none, none, none], [.int 0], (gSh, σ, u)) rfl ?_
  exact j_Model_value_j62 E d u hG l1 0 σ hP
def p_Model_value_j57 (E : gEv) (l1 : Int32) (σ : gS) : Option (Int32 × gS) :=
  p_Model_value_j62 E l1 1 σ
set_option maxRecDepth 20000 in
theorem j_Model_value_j57 (E : gEv) (d u : Nat) {G : gFr → Prop} {v : Int32} {sr : gS} (hG : gClo E gDf gP18 gY276 (some .int) (gC E gDf gMs (d + 1)) (some (.int v), (gSh, sr, u)) G) (l1 : Int32) (σ : gS) (hP : p_Model_value_j57 E l1 σ = some (v, sr)) : G (57, [some (.ref 94), some (.int l1), none, none, none, none], [], (gSh, σ, u)) := by
  unfold p_Model_value_j57 at hP
  refine gRunN_ok hG.1 2 _ (62, [some (.ref 94), some (.int l1), none, none, none, none], [.int 1], (gSh, σ, u)) rfl ?_
  exact j_Model_value_j62 E d u hG l1 1 σ hP
def p_Model_value_j38 (E : gEv) (l1 : Int32) (σ : gS) : Option (Int32 × gS) :=
  if l1 < (400 : Int32) then (p_Model_value_j61 E l1 σ) else (if ((400 : Int32) + (σ.1 94 46)) ≤ l1 then (p_Model_value_j61 E l1 σ) else (p_Model_value_j57 E l1 σ))
set_option maxRecDepth 20000 in
theorem j_Model_value_j38 (E : gEv) (d u : Nat) {G : gFr → Prop} {v : Int32} {sr : gS} (hG : gClo E gDf gP18 gY276 (some .int) (gC E gDf gMs (d + 1)) (some (.int v), (gSh, sr, u)) G) (l1 : Int32) (σ : gS) (hP : p_Model_value_j38 E l1 σ = some (v, sr)) : G (38, [some (.ref 94), some (.int l1), none, none, none, none], [], (gSh, σ, u)) := by
  unfold p_Model_value_j38 at hP
  refine gRunN_ok hG.1 2 _ (42, [some (.ref 94), some (.int l1), none, none, none, none], [.int 400, .int l1], (gSh, σ, u)) rfl ?_
  rcases g_ite hP with ⟨hc, hP⟩ | ⟨hc, hP⟩
  · refine hG.1 _ (61, [some (.ref 94), some (.int l1), none, none, none, none], [], (gSh, σ, u)) _ rfl (if_pos hc) ?_
    exact j_Model_value_j61 E d u hG l1 σ hP
  · refine hG.1 _ (45, [some (.ref 94), some (.int l1), none, none, none, none], [], (gSh, σ, u)) _ rfl (if_neg hc) ?_
    refine gRunN_ok hG.1 5 _ (54, [some (.ref 94), some (.int l1), none, none, none, none], [.int ((400 : Int32) + (σ.1 94 46)), .int l1], (gSh, σ, u)) rfl ?_
    rcases g_ite hP with ⟨hc, hP⟩ | ⟨hc, hP⟩
    · refine hG.1 _ (61, [some (.ref 94), some (.int l1), none, none, none, none], [], (gSh, σ, u)) _ rfl (if_pos hc) ?_
      exact j_Model_value_j61 E d u hG l1 σ hP
    · refine hG.1 _ (57, [some (.ref 94), some (.int l1), none, none, none, none], [], (gSh, σ, u)) _ rfl (if_neg hc) ?_
      exact j_Model_value_j57 E d u hG l1 σ hP
def p_Model_value_j19 (E : gEv) (l1 : Int32) (σ : gS) : Option (Int32 × gS) :=
  if l1 < (200 : Int32) then (p_Model_value_j38 E l1 σ) else (if l1 < ((200 : Int32) + (σ.1 94 31)) then (p_Model_value_j57 E l1 σ) else (p_Model_value_j38 E l1 σ))
set_option maxRecDepth 20000 in
theorem j_Model_value_j19 (E : gEv) (d u : Nat) {G : gFr → Prop} {v : Int32} {sr : gS} (hG : gClo E gDf gP18 gY276 (some .int) (gC E gDf gMs (d + 1)) (some (.int v), (gSh, sr, u)) G) (l1 : Int32) (σ : gS) (hP : p_Model_value_j19 E l1 σ = some (v, sr)) : G (19, [some (.ref 94), some (.int l1), none, none, none, none], [], (gSh, σ, u)) := by
  unfold p_Model_value_j19 at hP
  refine gRunN_ok hG.1 2 _ (23, [some (.ref 94), some (.int l1), none, none, none, none], [.int 200, .int l1], (gSh, σ, u)) rfl ?_
  rcases g_ite hP with ⟨hc, hP⟩ | ⟨hc, hP⟩
  · refine hG.1 _ (38, [some (.ref 94), some (.int l1), none, none, none, none], [], (gSh, σ, u)) _ rfl (if_pos hc) ?_
    exact j_Model_value_j38 E d u hG l1 σ hP
  · refine hG.1 _ (26, [some (.ref 94), some (.int l1), none, none, none, none], [], (gSh, σ, u)) _ rfl (if_neg hc) ?_
    refine gRunN_ok hG.1 5 _ (35, [some (.ref 94), some (.int l1), none, none, none, none], [.int ((200 : Int32) + (σ.1 94 31)), .int l1], (gSh, σ, u)) rfl ?_
    rcases g_ite hP with ⟨hc, hP⟩ | ⟨hc, hP⟩
    · refine hG.1 _ (57, [some (.ref 94), some (.int l1), none, none, none, none], [], (gSh, σ, u)) _ rfl (if_pos hc) ?_
      exact j_Model_value_j57 E d u hG l1 σ hP
    · refine hG.1 _ (38, [some (.ref 94), some (.int l1), none, none, none, none], [], (gSh, σ, u)) _ rfl (if_neg hc) ?_
      exact j_Model_value_j38 E d u hG l1 σ hP
def p_Model_value (E : gEv) (a0 : Int32) (σ : gS) : Option (Int32 × gS) :=
  if (σ.1 94 106) = 0 then (p_Model_value_j61 E a0 σ) else (if a0 < 0 then (p_Model_value_j19 E a0 σ) else (if a0 < (σ.1 94 29) then (p_Model_value_j57 E a0 σ) else (p_Model_value_j19 E a0 σ)))
set_option maxRecDepth 20000 in
theorem c_Model_value (E : gEv) (d u : Nat) (a0 : Int32) (σ : gS) {v : Int32} {sr : gS}  (hq : p_Model_value E a0 σ = some (v, sr)) : gC E gDf gMs (d + 2) 276 [.ref 94, .int a0] (gSh, σ, u) (some (.int v), (gSh, sr, u)) := ⟨gM276, rfl, Nat.le_of_ble_eq_true rfl, fun G hG => by
  have hP := hq
  unfold p_Model_value at hP
  replace hG : gClo E gDf gP18 gY276 (some .int) (gC E gDf gMs (d + 1)) (some (.int v), (gSh, sr, u)) G := hG
  show G (0, [some (.ref 94), some (.int a0), none, none, none, none], [], (gSh, σ, u))
  refine gRunN_ok hG.1 2 _ (4, [some (.ref 94), some (.int a0), none, none, none, none], [.int (σ.1 94 106)], (gSh, σ, u)) rfl ?_
  rcases g_ite hP with ⟨hc, hP⟩ | ⟨hc, hP⟩
  · refine hG.1 _ (61, [some (.ref 94), some (.int a0), none, none, none, none], [], (gSh, σ, u)) _ rfl (if_pos hc) ?_
    exact j_Model_value_j61 E d u hG a0 σ hP
  · refine hG.1 _ (7, [some (.ref 94), some (.int a0), none, none, none, none], [], (gSh, σ, u)) _ rfl (if_neg hc) ?_
    refine gRunN_ok hG.1 1 _ (8, [some (.ref 94), some (.int a0), none, none, none, none], [.int a0], (gSh, σ, u)) rfl ?_
    rcases g_ite hP with ⟨hc, hP⟩ | ⟨hc, hP⟩
    · refine hG.1 _ (19, [some (.ref 94), some (.int a0), none, none, none, none], [], (gSh, σ, u)) _ rfl (if_pos hc) ?_
      exact j_Model_value_j19 E d u hG a0 σ hP
    · refine hG.1 _ (11, [some (.ref 94), some (.int a0), none, none, none, none], [], (gSh, σ, u)) _ rfl (if_neg hc) ?_
      refine gRunN_ok hG.1 3 _ (16, [some (.ref 94), some (.int a0), none, none, none, none], [.int (σ.1 94 29), .int a0], (gSh, σ, u)) rfl ?_
      rcases g_ite hP with ⟨hc, hP⟩ | ⟨hc, hP⟩
      · refine hG.1 _ (57, [some (.ref 94), some (.int a0), none, none, none, none], [], (gSh, σ, u)) _ rfl (if_pos hc) ?_
        exact j_Model_value_j57 E d u hG a0 σ hP
      · refine hG.1 _ (19, [some (.ref 94), some (.int a0), none, none, none, none], [], (gSh, σ, u)) _ rfl (if_neg hc) ?_
        exact j_Model_value_j19 E d u hG a0 σ hP⟩
def p_Face_end (E : gEv) (a0 : Int32) (σ : gS) : Option (Int32 × gS) :=
  gB2 (p_Text_takeReady E a0 σ) fun v1 s2 => some (v1, s2)
set_option maxRecDepth 20000 in
theorem c_Face_end (E : gEv) (d u : Nat) (a0 : Int32) (σ : gS) {v : Int32} {sr : gS}  (hq : p_Face_end E a0 σ = some (v, sr)) : gC E gDf gMs (d + 3) 25 [.ref 0, .int a0] (gSh, σ, u) (some (.int v), (gSh, sr, u)) := ⟨gM25, rfl, Nat.le_of_ble_eq_true rfl, fun G hG => by
  have hP := hq
  unfold p_Face_end at hP
  replace hG : gClo E gDf gP0 gY25 (some .int) (gC E gDf gMs (d + 2)) (some (.int v), (gSh, sr, u)) G := hG
  show G (0, [some (.ref 0), some (.int a0)], [], (gSh, σ, u))
  refine gRunN_ok hG.1 3 _ (5, [some (.ref 0), some (.int a0)], [.int a0, .ref 10], (gSh, σ, u)) rfl ?_
  obtain ⟨v1, s2, hq, hP⟩ := g_b2 hP
  refine hG.2.2.2.1 _ _ _ [.ref 10, .int a0] [] _ (gSh, s2, u) (some (.int v1)) _ _ _ _ _ _ rfl rfl rfl rfl rfl rfl (c_Text_takeReady E (d + 0) u a0 _  hq) (Nat.le_refl _) (Nat.le_refl _) (Nat.le_refl _) (Nat.le_refl _) ?_
  show G (8, [some (.ref 0), some (.int a0)], [.int v1], (gSh, s2, u))
  cases hP
  exact hG.2.1 _ _ rfl rfl⟩
def p_Face_forget (E : gEv) (σ : gS) : Option (gS) :=
  gB1 (p_Circuit_clear E σ) fun s2 => gB1 (p_Packing_clear E s2) fun s4 => gB1 (p_Placing_clear E s4) fun s6 => gB1 (p_Router_drop E s6) fun s8 => some s8
set_option maxRecDepth 20000 in
theorem c_Face_forget (E : gEv) (d u : Nat) (σ : gS) {sr : gS}  (hq : p_Face_forget E σ = some sr) : gC E gDf gMs (d + 3) 30 [.ref 0] (gSh, σ, u) (none, (gSh, sr, u)) := ⟨gM30, rfl, Nat.le_of_ble_eq_true rfl, fun G hG => by
  have hP := hq
  unfold p_Face_forget at hP
  replace hG : gClo E gDf gP0 gY30 none (gC E gDf gMs (d + 2)) (none, (gSh, sr, u)) G := hG
  show G (0, [some (.ref 0)], [], (gSh, σ, u))
  refine gRunN_ok hG.1 2 _ (4, [some (.ref 0)], [.ref 30], (gSh, σ, u)) rfl ?_
  obtain ⟨s2, hq, hP⟩ := g_b1 hP
  refine hG.2.2.2.1 _ _ _ [.ref 30] [] _ (gSh, s2, u) none _ _ _ _ _ _ rfl rfl rfl rfl rfl rfl (c_Circuit_clear E (d + 0) u _  hq) (Nat.le_refl _) (Nat.le_refl _) (Nat.le_refl _) (Nat.le_refl _) ?_
  show G (7, [some (.ref 0)], [], (gSh, s2, u))
  refine gRunN_ok hG.1 2 _ (11, [some (.ref 0)], [.ref 53], (gSh, s2, u)) rfl ?_
  obtain ⟨s4, hq, hP⟩ := g_b1 hP
  refine hG.2.2.2.1 _ _ _ [.ref 53] [] _ (gSh, s4, u) none _ _ _ _ _ _ rfl rfl rfl rfl rfl rfl (c_Packing_clear E (d + 1) u _  hq) (Nat.le_refl _) (Nat.le_refl _) (Nat.le_refl _) (Nat.le_refl _) ?_
  show G (14, [some (.ref 0)], [], (gSh, s4, u))
  refine gRunN_ok hG.1 2 _ (18, [some (.ref 0)], [.ref 67], (gSh, s4, u)) rfl ?_
  obtain ⟨s6, hq, hP⟩ := g_b1 hP
  refine hG.2.2.2.1 _ _ _ [.ref 67] [] _ (gSh, s6, u) none _ _ _ _ _ _ rfl rfl rfl rfl rfl rfl (c_Placing_clear E (d + 0) u _  hq) (Nat.le_refl _) (Nat.le_refl _) (Nat.le_refl _) (Nat.le_refl _) ?_
  show G (21, [some (.ref 0)], [], (gSh, s6, u))
  refine gRunN_ok hG.1 2 _ (25, [some (.ref 0)], [.ref 70], (gSh, s6, u)) rfl ?_
  obtain ⟨s8, hq, hP⟩ := g_b1 hP
  refine hG.2.2.2.1 _ _ _ [.ref 70] [] _ (gSh, s8, u) none _ _ _ _ _ _ rfl rfl rfl rfl rfl rfl (c_Router_drop E (d + 1) u _  hq) (Nat.le_refl _) (Nat.le_refl _) (Nat.le_refl _) (Nat.le_refl _) ?_
  show G (28, [some (.ref 0)], [], (gSh, s8, u))
  cases hP
  exact hG.2.1 _ _ rfl rfl⟩
def p_Reader_clear (E : gEv) (σ : gS) : Option (gS) :=
  gB1 (p_Gates_clear E σ) fun s2 => gLet (gPut s2 22 10 0) fun s3 => gLet (gPut s3 22 11 0) fun s4 => gLet (gPut s4 22 12 0) fun s5 => gLet (gPut s5 22 13 0) fun s6 => gLet (gPut s6 22 14 0) fun s7 => gLet (gPut s7 22 15 (-1)) fun s8 => gLet (gPut s8 22 16 (-1)) fun s9 => gLet (gPut s9 22 17 0) fun s10 => gB1 (p_Arrays_fillI E 25 (-1) s10) fun s12 => some s12
set_option maxRecDepth 20000 in
theorem c_Reader_clear (E : gEv) (d u : Nat) (σ : gS) {sr : gS}  (hq : p_Reader_clear E σ = some sr) : gC E gDf gMs (d + 3) 36 [.ref 22] (gSh, σ, u) (none, (gSh, sr, u)) := ⟨gM36, rfl, Nat.le_of_ble_eq_true rfl, fun G hG => by
  have hP := hq
  unfold p_Reader_clear at hP
  replace hG : gClo E gDf gP5 gY36 none (gC E gDf gMs (d + 2)) (none, (gSh, sr, u)) G := hG
  show G (0, [some (.ref 22)], [], (gSh, σ, u))
  refine gRunN_ok hG.1 2 _ (4, [some (.ref 22)], [.ref 13], (gSh, σ, u)) rfl ?_
  obtain ⟨s2, hq, hP⟩ := g_b1 hP
  refine hG.2.2.2.1 _ _ _ [.ref 13] [] _ (gSh, s2, u) none _ _ _ _ _ _ rfl rfl rfl rfl rfl rfl (c_Gates_clear E (d + 0) u _  hq) (Nat.le_refl _) (Nat.le_refl _) (Nat.le_refl _) (Nat.le_refl _) ?_
  show G (7, [some (.ref 22)], [], (gSh, s2, u))
  refine gRunN_ok hG.1 3 _ (12, [some (.ref 22)], [], (gSh, (gPut s2 22 10 0), u)) rfl ?_
  obtain ⟨s3, es3, hP⟩ := g_let hP
  rw [← es3]
  refine gRunN_ok hG.1 3 _ (17, [some (.ref 22)], [], (gSh, (gPut s3 22 11 0), u)) rfl ?_
  obtain ⟨s4, es4, hP⟩ := g_let hP
  rw [← es4]
  refine gRunN_ok hG.1 3 _ (22, [some (.ref 22)], [], (gSh, (gPut s4 22 12 0), u)) rfl ?_
  obtain ⟨s5, es5, hP⟩ := g_let hP
  rw [← es5]
  refine gRunN_ok hG.1 3 _ (27, [some (.ref 22)], [], (gSh, (gPut s5 22 13 0), u)) rfl ?_
  obtain ⟨s6, es6, hP⟩ := g_let hP
  rw [← es6]
  refine gRunN_ok hG.1 3 _ (32, [some (.ref 22)], [], (gSh, (gPut s6 22 14 0), u)) rfl ?_
  obtain ⟨s7, es7, hP⟩ := g_let hP
  rw [← es7]
  refine gRunN_ok hG.1 3 _ (37, [some (.ref 22)], [], (gSh, (gPut s7 22 15 (-1)), u)) rfl ?_
  obtain ⟨s8, es8, hP⟩ := g_let hP
  rw [← es8]
  refine gRunN_ok hG.1 3 _ (42, [some (.ref 22)], [], (gSh, (gPut s8 22 16 (-1)), u)) rfl ?_
  obtain ⟨s9, es9, hP⟩ := g_let hP
  rw [← es9]
  refine gRunN_ok hG.1 3 _ (47, [some (.ref 22)], [], (gSh, (gPut s9 22 17 0), u)) rfl ?_
  obtain ⟨s10, es10, hP⟩ := g_let hP
  rw [← es10]
  refine gRunN_ok hG.1 3 _ (52, [some (.ref 22)], [.int (-1), .ref 25], (gSh, s10, u)) rfl ?_
  obtain ⟨s12, hq, hP⟩ := g_b1 hP
  refine hG.2.2.2.1 _ _ _ [.ref 25, .int (-1)] [] _ (gSh, s12, u) none _ _ _ _ _ _ rfl rfl rfl rfl rfl rfl (c_Arrays_fillI E (d + 1) u 25 (-1) _ rfl hq) (Nat.le_refl _) (Nat.le_refl _) (Nat.le_refl _) (Nat.le_refl _) ?_
  show G (55, [some (.ref 22)], [], (gSh, s12, u))
  cases hP
  exact hG.2.1 _ _ rfl rfl⟩
def p_Reader_refuseMore (E : gEv) (σ : gS) : Option (gS) :=
  gB2 (p_Text_nextWord E σ) fun v1 s2 => if v1 = 0 then (some s2) else (gB1 (p_Reader_refuse E 1 (s2.1 10 5) s2) fun s4 => some s4)
set_option maxRecDepth 20000 in
theorem c_Reader_refuseMore (E : gEv) (d u : Nat) (σ : gS) {sr : gS}  (hq : p_Reader_refuseMore E σ = some sr) : gC E gDf gMs (d + 3) 50 [.ref 22] (gSh, σ, u) (none, (gSh, sr, u)) := ⟨gM50, rfl, Nat.le_of_ble_eq_true rfl, fun G hG => by
  have hP := hq
  unfold p_Reader_refuseMore at hP
  replace hG : gClo E gDf gP5 gY50 none (gC E gDf gMs (d + 2)) (none, (gSh, sr, u)) G := hG
  show G (0, [some (.ref 22)], [], (gSh, σ, u))
  refine gRunN_ok hG.1 2 _ (4, [some (.ref 22)], [.ref 10], (gSh, σ, u)) rfl ?_
  obtain ⟨v1, s2, hq, hP⟩ := g_b2 hP
  refine hG.2.2.2.1 _ _ _ [.ref 10] [] _ (gSh, s2, u) (some (.int v1)) _ _ _ _ _ _ rfl rfl rfl rfl rfl rfl (c_Text_nextWord E (d + 0) u _  hq) (Nat.le_refl _) (Nat.le_refl _) (Nat.le_refl _) (Nat.le_refl _) ?_
  show G (7, [some (.ref 22)], [.int v1], (gSh, s2, u))
  rcases g_ite hP with ⟨hc, hP⟩ | ⟨hc, hP⟩
  · refine hG.1 _ (22, [some (.ref 22)], [], (gSh, s2, u)) _ rfl (if_pos hc) ?_
    cases hP
    exact hG.2.1 _ _ rfl rfl
  · refine hG.1 _ (10, [some (.ref 22)], [], (gSh, s2, u)) _ rfl (if_neg hc) ?_
    refine gRunN_ok hG.1 5 _ (19, [some (.ref 22)], [.int (s2.1 10 5), .int 1, .ref 22], (gSh, s2, u)) rfl ?_
    obtain ⟨s4, hq, hP⟩ := g_b1 hP
    refine hG.2.2.2.1 _ _ _ [.ref 22, .int 1, .int (s2.1 10 5)] [] _ (gSh, s4, u) none _ _ _ _ _ _ rfl rfl rfl rfl rfl rfl (c_Reader_refuse E (d + 1) u 1 (s2.1 10 5) _  hq) (Nat.le_refl _) (Nat.le_refl _) (Nat.le_refl _) (Nat.le_refl _) ?_
    show G (22, [some (.ref 22)], [], (gSh, s4, u))
    cases hP
    exact hG.2.1 _ _ rfl rfl⟩
def p_StringLatin1_charAt (E : gEv) (i0 : Nat) (a1 : Int32) (σ : gS) : Option (Int32) :=
  gB1 (p_String_checkIndex E a1 (Int32.ofNat (E i0).1) σ) fun _ => if gIn a1 ((E i0).1) then if narrow .char (.int (((((E i0).2 a1.toNatClampNeg) &&& (255 : Int32)).toUInt32 % 65536).toInt32)) = .int (((((E i0).2 a1.toNatClampNeg) &&& (255 : Int32)).toUInt32 % 65536).toInt32) then some (((((E i0).2 a1.toNatClampNeg) &&& (255 : Int32)).toUInt32 % 65536).toInt32) else none else none
set_option maxRecDepth 20000 in
theorem c_StringLatin1_charAt (E : gEv) (d u : Nat) (i0 : Nat) (a1 : Int32) (σ : gS) {v : Int32}  (hi0 : 100 ≤ i0 ∧ i0 < 107) (hq : p_StringLatin1_charAt E i0 a1 σ = some v) : gC E gDf gMs (d + 3) 56 [.retAddr i0, .int a1] (gSh, σ, u) (some (.int v), (gSh, σ, u)) := ⟨gM56, rfl, Nat.le_of_ble_eq_true rfl, fun G hG => by
  have hP := hq
  unfold p_StringLatin1_charAt at hP
  replace hG : gClo E gDf gP14 gY56 (some .char) (gC E gDf gMs (d + 2)) (some (.int v), (gSh, σ, u)) G := hG
  show G (0, [some (.retAddr i0), some (.int a1)], [], (gSh, σ, u))
  refine gRunN_ok hG.1 2 _ (2, [some (.retAddr i0), some (.int a1)], [.retAddr i0, .int a1], (gSh, σ, u)) rfl ?_
  refine hG.1 _ (3, [some (.retAddr i0), some (.int a1)], [.int (Int32.ofNat (E i0).1), .int a1], (gSh, σ, u)) _ rfl (gS_alc (by omega)) ?_
  obtain ⟨_, hq, hP⟩ := g_b1 hP
  refine hG.2.2.2.1 _ _ _ [.int a1, .int (Int32.ofNat (E i0).1)] [] _ (gSh, σ, u) none _ _ _ _ _ _ rfl rfl rfl rfl rfl rfl (c_String_checkIndex E (d + 0) u a1 (Int32.ofNat (E i0).1) _  hq) (Nat.le_refl _) (Nat.le_refl _) (Nat.le_refl _) (Nat.le_refl _) ?_
  show G (6, [some (.retAddr i0), some (.int a1)], [], (gSh, σ, u))
  refine gRunN_ok hG.1 2 _ (8, [some (.retAddr i0), some (.int a1)], [.int a1, .retAddr i0], (gSh, σ, u)) rfl ?_
  obtain ⟨hc, hP⟩ := g_if hP
  refine hG.1 _ (9, [some (.retAddr i0), some (.int a1)], [.int ((E i0).2 a1.toNatClampNeg)], (gSh, σ, u)) _ rfl (gS_blc (by omega) hc) ?_
  refine gRunN_ok hG.1 3 _ (14, [some (.retAddr i0), some (.int a1)], [.int (((((E i0).2 a1.toNatClampNeg) &&& (255 : Int32)).toUInt32 % 65536).toInt32)], (gSh, σ, u)) rfl ?_
  obtain ⟨hc, hP⟩ := g_if hP
  cases hP
  exact hG.2.1 _ _ rfl (if_pos hc)⟩
def p_Reader_readPadNames_2 (E : gEv) (l1 : Int32) (l2 : Int32) (σ : gS) : Option ((Int32 × gS) ⊕ ((Int32 × gS) ⊕ ((gS) ⊕ ((gS) ⊕ ((gS) ⊕ (gS)))))) :=
  if (4000 : Int32) ≤ l2 then (some (.inr (.inr (.inr (.inr (.inr σ)))))) else (gB2 (p_Text_nextWord E σ) fun v1 s2 => if v1 = 0 then (some (.inr (.inl (l2, s2)))) else (gB2 (p_Reader_takeName E s2) fun v3 s4 => if v3 = ((-1) : Int32) then (some (.inr (.inr (.inl s4)))) else (if ((s4.1 22 11) + (s4.1 22 12)) < (s4.1 22 2) then (if l1 = 0 then (gLet (gPut s4 22 12 ((s4.1 22 12) + (1 : Int32))) fun s5 => if gIn (s4.1 22 12) (s5.2.1 29) then gLet (gPut s5 29 (s4.1 22 12).toNatClampNeg v3) fun s6 => gLet (l2 + 1) fun x7 => some (.inl (x7, s6)) else none) else (gB2 (p_Reader_make E v3 (s4.1 22 11) (s4.1 10 5) s4) fun v8 s9 => if v8 = 0 then (some (.inr (.inr (.inr (.inr (.inl s9)))))) else (gLet (gPut s9 22 11 ((s9.1 22 11) + (1 : Int32))) fun s10 => gLet (l2 + 1) fun x11 => some (.inl (x11, s10))))) else (some (.inr (.inr (.inr (.inl s4))))))))
set_option maxRecDepth 20000 in
theorem b_Reader_readPadNames_2 (E : gEv) (d u : Nat) {G : gFr → Prop} {vo : Option Value} {sr : gS} (hG : gClo E gDf gP5 gY59 none (gC E gDf gMs (d + 2)) (vo, (gSh, sr, u)) G) (l1 : Int32) (l2 : Int32) (σ : gS) {r : (Int32 × gS) ⊕ ((Int32 × gS) ⊕ ((gS) ⊕ ((gS) ⊕ ((gS) ⊕ (gS)))))} (hP : p_Reader_readPadNames_2 E l1 l2 σ = some r) (K1 : ∀ (m2 : Int32) (σ1 : gS), r = .inl (m2, σ1) → G (2, [some (.ref 22), some (.int l1), some (.int m2), none], [], (gSh, σ1, u))) (K2 : ∀ (m2 : Int32) (σ1 : gS), r = .inr (.inl (m2, σ1)) → G (19, [some (.ref 22), none, some (.int m2), none], [], (gSh, σ1, u))) (K3 : ∀ (σ1 : gS), r = .inr (.inr (.inl σ1)) → G (46, [none, none, none, none], [], (gSh, σ1, u))) (K4 : ∀ (σ1 : gS), r = .inr (.inr (.inr (.inl σ1))) → G (63, [some (.ref 22), none, none, none], [], (gSh, σ1, u))) (K5 : ∀ (σ1 : gS), r = .inr (.inr (.inr (.inr (.inl σ1)))) → G (132, [none, none, none, none], [], (gSh, σ1, u))) (K6 : ∀ (σ1 : gS), r = .inr (.inr (.inr (.inr (.inr σ1)))) → G (139, [none, none, none, none], [], (gSh, σ1, u))) : G (2, [some (.ref 22), some (.int l1), some (.int l2), none], [], (gSh, σ, u)) := by
  unfold p_Reader_readPadNames_2 at hP
  refine gRunN_ok hG.1 2 _ (6, [some (.ref 22), some (.int l1), some (.int l2), none], [.int 4000, .int l2], (gSh, σ, u)) rfl ?_
  rcases g_ite hP with ⟨hc, hP⟩ | ⟨hc, hP⟩
  · refine hG.1 _ (139, [some (.ref 22), some (.int l1), some (.int l2), none], [], (gSh, σ, u)) _ rfl (if_pos hc) ?_
    refine hG.2.2.2.2.1 _ _ [none, none, none, none] _ _ trivial ?_
    cases hP
    exact K6 _ rfl
  · refine hG.1 _ (9, [some (.ref 22), some (.int l1), some (.int l2), none], [], (gSh, σ, u)) _ rfl (if_neg hc) ?_
    refine gRunN_ok hG.1 2 _ (13, [some (.ref 22), some (.int l1), some (.int l2), none], [.ref 10], (gSh, σ, u)) rfl ?_
    obtain ⟨v1, s2, hq, hP⟩ := g_b2 hP
    refine hG.2.2.2.1 _ _ _ [.ref 10] [] _ (gSh, s2, u) (some (.int v1)) _ _ _ _ _ _ rfl rfl rfl rfl rfl rfl (c_Text_nextWord E (d + 0) u _  hq) (Nat.le_refl _) (Nat.le_refl _) (Nat.le_refl _) (Nat.le_refl _) ?_
    show G (16, [some (.ref 22), some (.int l1), some (.int l2), none], [.int v1], (gSh, s2, u))
    rcases g_ite hP with ⟨hc, hP⟩ | ⟨hc, hP⟩
    · refine hG.1 _ (19, [some (.ref 22), some (.int l1), some (.int l2), none], [], (gSh, s2, u)) _ rfl (if_pos hc) ?_
      refine hG.2.2.2.2.1 _ _ [some (.ref 22), none, some (.int l2), none] _ _ ⟨rfl, ⟨rfl, trivial⟩⟩ ?_
      cases hP
      exact K2 _ _ rfl
    · refine hG.1 _ (36, [some (.ref 22), some (.int l1), some (.int l2), none], [], (gSh, s2, u)) _ rfl (if_neg hc) ?_
      refine gRunN_ok hG.1 1 _ (37, [some (.ref 22), some (.int l1), some (.int l2), none], [.ref 22], (gSh, s2, u)) rfl ?_
      obtain ⟨v3, s4, hq, hP⟩ := g_b2 hP
      refine hG.2.2.2.1 _ _ _ [.ref 22] [] _ (gSh, s4, u) (some (.int v3)) _ _ _ _ _ _ rfl rfl rfl rfl rfl rfl (c_Reader_takeName E (d + 0) u _  hq) (Nat.le_refl _) (Nat.le_refl _) (Nat.le_refl _) (Nat.le_refl _) ?_
      show G (40, [some (.ref 22), some (.int l1), some (.int l2), none], [.int v3], (gSh, s4, u))
      refine gRunN_ok hG.1 3 _ (43, [some (.ref 22), some (.int l1), some (.int l2), some (.int v3)], [.int (-1), .int v3], (gSh, s4, u)) rfl ?_
      rcases g_ite hP with ⟨hc, hP⟩ | ⟨hc, hP⟩
      · refine hG.1 _ (46, [some (.ref 22), some (.int l1), some (.int l2), some (.int v3)], [], (gSh, s4, u)) _ rfl (if_pos hc) ?_
        refine hG.2.2.2.2.1 _ _ [none, none, none, none] _ _ trivial ?_
        cases hP
        exact K3 _ rfl
      · refine hG.1 _ (47, [some (.ref 22), some (.int l1), some (.int l2), some (.int v3)], [], (gSh, s4, u)) _ rfl (if_neg hc) ?_
        refine gRunN_ok hG.1 7 _ (60, [some (.ref 22), some (.int l1), some (.int l2), some (.int v3)], [.int (s4.1 22 2), .int ((s4.1 22 11) + (s4.1 22 12))], (gSh, s4, u)) rfl ?_
        rcases g_ite hP with ⟨hc, hP⟩ | ⟨hc, hP⟩
        · refine hG.1 _ (76, [some (.ref 22), some (.int l1), some (.int l2), some (.int v3)], [], (gSh, s4, u)) _ rfl (if_pos hc) ?_
          refine gRunN_ok hG.1 1 _ (77, [some (.ref 22), some (.int l1), some (.int l2), some (.int v3)], [.int l1], (gSh, s4, u)) rfl ?_
          rcases g_ite hP with ⟨hc, hP⟩ | ⟨hc, hP⟩
          · refine hG.1 _ (80, [some (.ref 22), some (.int l1), some (.int l2), some (.int v3)], [], (gSh, s4, u)) _ rfl (if_pos hc) ?_
            refine gRunN_ok hG.1 9 _ (95, [some (.ref 22), some (.int l1), some (.int l2), some (.int v3)], [.int (s4.1 22 12), .ref 29], (gSh, (gPut s4 22 12 ((s4.1 22 12) + (1 : Int32))), u)) rfl ?_
            obtain ⟨s5, es5, hP⟩ := g_let hP
            rw [← es5]
            refine gRunN_ok hG.1 1 _ (96, [some (.ref 22), some (.int l1), some (.int l2), some (.int v3)], [.int v3, .int (s4.1 22 12), .ref 29], (gSh, s5, u)) rfl ?_
            obtain ⟨hc, hP⟩ := g_if hP
            refine hG.1 _ (97, [some (.ref 22), some (.int l1), some (.int l2), some (.int v3)], [], (gSh, (gPut s5 29 (s4.1 22 12).toNatClampNeg v3), u)) _ rfl (if_pos hc) ?_
            obtain ⟨s6, es6, hP⟩ := g_let hP
            rw [← es6]
            refine gRunN_ok hG.1 2 _ (136, [some (.ref 22), some (.int l1), some (.int (l2 + 1)), some (.int v3)], [], (gSh, s6, u)) rfl ?_
            obtain ⟨x7, ex7, hP⟩ := g_let hP
            rw [← ex7]
            refine gRunN_ok hG.1 1 _ (2, [some (.ref 22), some (.int l1), some (.int x7), some (.int v3)], [], (gSh, s6, u)) rfl ?_
            refine hG.2.2.2.2.1 _ _ [some (.ref 22), some (.int l1), some (.int x7), none] _ _ ⟨rfl, ⟨rfl, ⟨rfl, trivial⟩⟩⟩ ?_
            cases hP
            exact K1 _ _ rfl
          · refine hG.1 _ (100, [some (.ref 22), some (.int l1), some (.int l2), some (.int v3)], [], (gSh, s4, u)) _ rfl (if_neg hc) ?_
            refine gRunN_ok hG.1 7 _ (113, [some (.ref 22), some (.int l1), some (.int l2), some (.int v3)], [.int (s4.1 10 5), .int (s4.1 22 11), .int v3, .ref 22], (gSh, s4, u)) rfl ?_
            obtain ⟨v8, s9, hq, hP⟩ := g_b2 hP
            refine hG.2.2.2.1 _ _ _ [.ref 22, .int v3, .int (s4.1 22 11), .int (s4.1 10 5)] [] _ (gSh, s9, u) (some (.int v8)) _ _ _ _ _ _ rfl rfl rfl rfl rfl rfl (c_Reader_make E (d + 0) u v3 (s4.1 22 11) (s4.1 10 5) _  hq) (Nat.le_refl _) (Nat.le_refl _) (Nat.le_refl _) (Nat.le_refl _) ?_
            show G (116, [some (.ref 22), some (.int l1), some (.int l2), some (.int v3)], [.int v8], (gSh, s9, u))
            rcases g_ite hP with ⟨hc, hP⟩ | ⟨hc, hP⟩
            · refine hG.1 _ (132, [some (.ref 22), some (.int l1), some (.int l2), some (.int v3)], [], (gSh, s9, u)) _ rfl (if_pos hc) ?_
              refine hG.2.2.2.2.1 _ _ [none, none, none, none] _ _ trivial ?_
              cases hP
              exact K5 _ rfl
            · refine hG.1 _ (119, [some (.ref 22), some (.int l1), some (.int l2), some (.int v3)], [], (gSh, s9, u)) _ rfl (if_neg hc) ?_
              refine gRunN_ok hG.1 6 _ (129, [some (.ref 22), some (.int l1), some (.int l2), some (.int v3)], [], (gSh, (gPut s9 22 11 ((s9.1 22 11) + (1 : Int32))), u)) rfl ?_
              obtain ⟨s10, es10, hP⟩ := g_let hP
              rw [← es10]
              refine gRunN_ok hG.1 2 _ (136, [some (.ref 22), some (.int l1), some (.int (l2 + 1)), some (.int v3)], [], (gSh, s10, u)) rfl ?_
              obtain ⟨x11, ex11, hP⟩ := g_let hP
              rw [← ex11]
              refine gRunN_ok hG.1 1 _ (2, [some (.ref 22), some (.int l1), some (.int x11), some (.int v3)], [], (gSh, s10, u)) rfl ?_
              refine hG.2.2.2.2.1 _ _ [some (.ref 22), some (.int l1), some (.int x11), none] _ _ ⟨rfl, ⟨rfl, ⟨rfl, trivial⟩⟩⟩ ?_
              cases hP
              exact K1 _ _ rfl
        · refine hG.1 _ (63, [some (.ref 22), some (.int l1), some (.int l2), some (.int v3)], [], (gSh, s4, u)) _ rfl (if_neg hc) ?_
          refine hG.2.2.2.2.1 _ _ [some (.ref 22), none, none, none] _ _ ⟨rfl, trivial⟩ ?_
          cases hP
          exact K4 _ rfl
theorem l_Reader_readPadNames_2 (E : gEv) (d u : Nat) {G : gFr → Prop} {vo : Option Value} {sr : gS} (hG : gClo E gDf gP5 gY59 none (gC E gDf gMs (d + 2)) (vo, (gSh, sr, u)) G) (l1 : Int32) : ∀ (n : Nat) (l2 : Int32) (σ : gS) (e : ((Int32 × gS) ⊕ ((gS) ⊕ ((gS) ⊕ ((gS) ⊕ (gS)))))), gIter (fun z => p_Reader_readPadNames_2 E l1 z.1 z.2) n (l2, σ) = some e → (∀ (m2 : Int32) (σ1 : gS), e = (.inl (m2, σ1)) → G (19, [some (.ref 22), none, some (.int m2), none], [], (gSh, σ1, u))) → (∀ (σ1 : gS), e = (.inr (.inl σ1)) → G (46, [none, none, none, none], [], (gSh, σ1, u))) → (∀ (σ1 : gS), e = (.inr (.inr (.inl σ1))) → G (63, [some (.ref 22), none, none, none], [], (gSh, σ1, u))) → (∀ (σ1 : gS), e = (.inr (.inr (.inr (.inl σ1)))) → G (132, [none, none, none, none], [], (gSh, σ1, u))) → (∀ (σ1 : gS), e = (.inr (.inr (.inr (.inr σ1)))) → G (139, [none, none, none, none], [], (gSh, σ1, u))) → G (2, [some (.ref 22), some (.int l1), some (.int l2), none], [], (gSh, σ, u)) := by
  intro n
  induction n with
  | zero => intro l2 σ e h; cases h
  | succ n ih =>
    intro l2 σ e h K2 K3 K4 K5 K6
    rcases g_iter h with ⟨z, h1, h2⟩ | h1
    · exact b_Reader_readPadNames_2 E d u hG l1 l2 σ h1 (fun n0 n1 hz => by cases hz; exact ih _ _ e h2 K2 K3 K4 K5 K6) (fun _ _ hz => by cases hz) (fun _ hz => by cases hz) (fun _ hz => by cases hz) (fun _ hz => by cases hz) (fun _ hz => by cases hz)
    · exact b_Reader_readPadNames_2 E d u hG l1 l2 σ h1 (fun _ _ hz => by cases hz) (fun m2 σ1 hz => K2 m2 σ1 (by cases hz; rfl)) (fun σ1 hz => K3 σ1 (by cases hz; rfl)) (fun σ1 hz => K4 σ1 (by cases hz; rfl)) (fun σ1 hz => K5 σ1 (by cases hz; rfl)) (fun σ1 hz => K6 σ1 (by cases hz; rfl))
def p_Reader_readPadNames (E : gEv) (a0 : Int32) (σ : gS) : Option (gS) :=
  gB1 (gIter (fun z => p_Reader_readPadNames_2 E a0 z.1 z.2) gN (0, σ)) fun e12 => gSum e12 (fun e23 => (fun w13 s14 => if w13 = 0 then (gB1 (p_Reader_refuse E 1 (s14.1 10 5) s14) fun s16 => some s16) else (some s14)) e23.1 e23.2) (fun e24 => gSum e24 (fun e25 => (fun s17 => some s17) e25) (fun e26 => gSum e26 (fun e27 => (fun s18 => gB1 (p_Reader_refuse E 2 (s18.1 10 5) s18) fun s20 => some s20) e27) (fun e28 => gSum e28 (fun e29 => (fun s21 => some s21) e29) (fun e30 => (fun s22 => some s22) e30))))
set_option maxRecDepth 20000 in
theorem c_Reader_readPadNames (E : gEv) (d u : Nat) (a0 : Int32) (σ : gS) {sr : gS}  (hq : p_Reader_readPadNames E a0 σ = some sr) : gC E gDf gMs (d + 3) 59 [.ref 22, .int a0] (gSh, σ, u) (none, (gSh, sr, u)) := ⟨gM59, rfl, Nat.le_of_ble_eq_true rfl, fun G hG => by
  have hP := hq
  unfold p_Reader_readPadNames at hP
  replace hG : gClo E gDf gP5 gY59 none (gC E gDf gMs (d + 2)) (none, (gSh, sr, u)) G := hG
  show G (0, [some (.ref 22), some (.int a0), none, none], [], (gSh, σ, u))
  refine gRunN_ok hG.1 2 _ (2, [some (.ref 22), some (.int a0), some (.int 0), none], [], (gSh, σ, u)) rfl ?_
  obtain ⟨e12, hq, hP⟩ := g_b1 hP
  refine l_Reader_readPadNames_2 E d u hG a0 gN 0 σ _ hq (fun w13 s14 he => ?_) (fun s17 he => ?_) (fun s18 he => ?_) (fun s21 he => ?_) (fun s22 he => ?_)
  · subst he
    try dsimp only [gSum] at hP
    refine gRunN_ok hG.1 1 _ (20, [some (.ref 22), none, some (.int w13), none], [.int w13], (gSh, s14, u)) rfl ?_
    rcases g_ite hP with ⟨hc, hP⟩ | ⟨hc, hP⟩
    · refine hG.1 _ (23, [some (.ref 22), none, some (.int w13), none], [], (gSh, s14, u)) _ rfl (if_pos hc) ?_
      refine gRunN_ok hG.1 5 _ (32, [some (.ref 22), none, some (.int w13), none], [.int (s14.1 10 5), .int 1, .ref 22], (gSh, s14, u)) rfl ?_
      obtain ⟨s16, hq, hP⟩ := g_b1 hP
      refine hG.2.2.2.1 _ _ _ [.ref 22, .int 1, .int (s14.1 10 5)] [] _ (gSh, s16, u) none _ _ _ _ _ _ rfl rfl rfl rfl rfl rfl (c_Reader_refuse E (d + 1) u 1 (s14.1 10 5) _  hq) (Nat.le_refl _) (Nat.le_refl _) (Nat.le_refl _) (Nat.le_refl _) ?_
      show G (35, [some (.ref 22), none, some (.int w13), none], [], (gSh, s16, u))
      cases hP
      exact hG.2.1 _ _ rfl rfl
    · refine hG.1 _ (35, [some (.ref 22), none, some (.int w13), none], [], (gSh, s14, u)) _ rfl (if_neg hc) ?_
      cases hP
      exact hG.2.1 _ _ rfl rfl
  · subst he
    try dsimp only [gSum] at hP
    cases hP
    exact hG.2.1 _ _ rfl rfl
  · subst he
    try dsimp only [gSum] at hP
    refine gRunN_ok hG.1 5 _ (72, [some (.ref 22), none, none, none], [.int (s18.1 10 5), .int 2, .ref 22], (gSh, s18, u)) rfl ?_
    obtain ⟨s20, hq, hP⟩ := g_b1 hP
    refine hG.2.2.2.1 _ _ _ [.ref 22, .int 2, .int (s18.1 10 5)] [] _ (gSh, s20, u) none _ _ _ _ _ _ rfl rfl rfl rfl rfl rfl (c_Reader_refuse E (d + 1) u 2 (s18.1 10 5) _  hq) (Nat.le_refl _) (Nat.le_refl _) (Nat.le_refl _) (Nat.le_refl _) ?_
    show G (75, [some (.ref 22), none, none, none], [], (gSh, s20, u))
    cases hP
    exact hG.2.1 _ _ rfl rfl
  · subst he
    try dsimp only [gSum] at hP
    cases hP
    exact hG.2.1 _ _ rfl rfl
  · subst he
    try dsimp only [gSum] at hP
    cases hP
    exact hG.2.1 _ _ rfl rfl⟩
def p_Reader_nextName (E : gEv) (σ : gS) : Option (Int32 × gS) :=
  gB2 (p_Text_nextWord E σ) fun v1 s2 => if v1 = 0 then (gB1 (p_Reader_refuse E 1 (s2.1 10 5) s2) fun s4 => some ((-1), s4)) else (gB2 (p_Reader_takeName E s2) fun v5 s6 => some (v5, s6))
set_option maxRecDepth 20000 in
theorem c_Reader_nextName (E : gEv) (d u : Nat) (σ : gS) {v : Int32} {sr : gS}  (hq : p_Reader_nextName E σ = some (v, sr)) : gC E gDf gMs (d + 3) 64 [.ref 22] (gSh, σ, u) (some (.int v), (gSh, sr, u)) := ⟨gM64, rfl, Nat.le_of_ble_eq_true rfl, fun G hG => by
  have hP := hq
  unfold p_Reader_nextName at hP
  replace hG : gClo E gDf gP5 gY64 (some .int) (gC E gDf gMs (d + 2)) (some (.int v), (gSh, sr, u)) G := hG
  show G (0, [some (.ref 22)], [], (gSh, σ, u))
  refine gRunN_ok hG.1 2 _ (4, [some (.ref 22)], [.ref 10], (gSh, σ, u)) rfl ?_
  obtain ⟨v1, s2, hq, hP⟩ := g_b2 hP
  refine hG.2.2.2.1 _ _ _ [.ref 10] [] _ (gSh, s2, u) (some (.int v1)) _ _ _ _ _ _ rfl rfl rfl rfl rfl rfl (c_Text_nextWord E (d + 0) u _  hq) (Nat.le_refl _) (Nat.le_refl _) (Nat.le_refl _) (Nat.le_refl _) ?_
  show G (7, [some (.ref 22)], [.int v1], (gSh, s2, u))
  rcases g_ite hP with ⟨hc, hP⟩ | ⟨hc, hP⟩
  · refine hG.1 _ (15, [some (.ref 22)], [], (gSh, s2, u)) _ rfl (if_pos hc) ?_
    refine gRunN_ok hG.1 5 _ (24, [some (.ref 22)], [.int (s2.1 10 5), .int 1, .ref 22], (gSh, s2, u)) rfl ?_
    obtain ⟨s4, hq, hP⟩ := g_b1 hP
    refine hG.2.2.2.1 _ _ _ [.ref 22, .int 1, .int (s2.1 10 5)] [] _ (gSh, s4, u) none _ _ _ _ _ _ rfl rfl rfl rfl rfl rfl (c_Reader_refuse E (d + 1) u 1 (s2.1 10 5) _  hq) (Nat.le_refl _) (Nat.le_refl _) (Nat.le_refl _) (Nat.le_refl _) ?_
    show G (27, [some (.ref 22)], [], (gSh, s4, u))
    refine gRunN_ok hG.1 1 _ (28, [some (.ref 22)], [.int (-1)], (gSh, s4, u)) rfl ?_
    cases hP
    exact hG.2.1 _ _ rfl rfl
  · refine hG.1 _ (10, [some (.ref 22)], [], (gSh, s2, u)) _ rfl (if_neg hc) ?_
    refine gRunN_ok hG.1 1 _ (11, [some (.ref 22)], [.ref 22], (gSh, s2, u)) rfl ?_
    obtain ⟨v5, s6, hq, hP⟩ := g_b2 hP
    refine hG.2.2.2.1 _ _ _ [.ref 22] [] _ (gSh, s6, u) (some (.int v5)) _ _ _ _ _ _ rfl rfl rfl rfl rfl rfl (c_Reader_takeName E (d + 0) u _  hq) (Nat.le_refl _) (Nat.le_refl _) (Nat.le_refl _) (Nat.le_refl _) ?_
    show G (14, [some (.ref 22)], [.int v5], (gSh, s6, u))
    cases hP
    exact hG.2.1 _ _ rfl rfl⟩
def p_Reader_readNames_12 (E : gEv) (l1 : Int32) (l2 : Int32) (l3 : Int32) (σ : gS) : Option ((Int32 × Int32 × gS) ⊕ ((Int32 × gS) ⊕ ((gS) ⊕ (Int32 × Int32 × gS)))) :=
  if (9 : Int32) < l3 then (some (.inr (.inr (.inr (l2, l3, σ))))) else (gB2 (p_Text_nextWord E σ) fun v2 s3 => if v2 = 0 then (some (.inr (.inr (.inr (l2, l3, s3))))) else (if l3 ≤ (8 : Int32) then (gLet (s3.1 10 5) fun x4 => gB2 (p_Reader_takeName E s3) fun v5 s6 => if gIn l3 (s6.2.1 28) then gLet (gPut s6 28 l3.toNatClampNeg v5) fun s7 => if gIn l3 (s7.2.1 28) then if (s7.1 28 l3.toNatClampNeg) = ((-1) : Int32) then (some (.inr (.inr (.inl s7)))) else (gLet (l3 + 1) fun x8 => some (.inl (x4, x8, s7))) else none else none) else (some (.inr (.inl (l2, s3))))))
set_option maxRecDepth 20000 in
theorem b_Reader_readNames_12 (E : gEv) (d u : Nat) {G : gFr → Prop} {vo : Option Value} {sr : gS} (hG : gClo E gDf gP5 gY65 none (gC E gDf gMs (d + 2)) (vo, (gSh, sr, u)) G) (l1 : Int32) (l2 : Int32) (l3 : Int32) (σ : gS) {r : (Int32 × Int32 × gS) ⊕ ((Int32 × gS) ⊕ ((gS) ⊕ (Int32 × Int32 × gS)))} (hP : p_Reader_readNames_12 E l1 l2 l3 σ = some r) (K1 : ∀ (m2 : Int32) (m3 : Int32) (σ1 : gS), r = .inl (m2, m3, σ1) → G (12, [some (.ref 22), some (.int l1), some (.int m2), some (.int m3)], [], (gSh, σ1, u))) (K2 : ∀ (m2 : Int32) (σ1 : gS), r = .inr (.inl (m2, σ1)) → G (34, [some (.ref 22), none, some (.int m2), none], [], (gSh, σ1, u))) (K3 : ∀ (σ1 : gS), r = .inr (.inr (.inl σ1)) → G (69, [none, none, none, none], [], (gSh, σ1, u))) (K4 : ∀ (m2 : Int32) (m3 : Int32) (σ1 : gS), r = .inr (.inr (.inr (m2, m3, σ1))) → G (76, [some (.ref 22), some (.int l1), some (.int m2), some (.int m3)], [], (gSh, σ1, u))) : G (12, [some (.ref 22), some (.int l1), some (.int l2), some (.int l3)], [], (gSh, σ, u)) := by
  unfold p_Reader_readNames_12 at hP
  refine gRunN_ok hG.1 2 _ (15, [some (.ref 22), some (.int l1), some (.int l2), some (.int l3)], [.int 9, .int l3], (gSh, σ, u)) rfl ?_
  rcases g_ite hP with ⟨hc, hP⟩ | ⟨hc, hP⟩
  · refine hG.1 _ (76, [some (.ref 22), some (.int l1), some (.int l2), some (.int l3)], [], (gSh, σ, u)) _ rfl (if_pos hc) ?_
    cases hP
    exact K4 _ _ _ rfl
  · refine hG.1 _ (18, [some (.ref 22), some (.int l1), some (.int l2), some (.int l3)], [], (gSh, σ, u)) _ rfl (if_neg hc) ?_
    refine gRunN_ok hG.1 2 _ (22, [some (.ref 22), some (.int l1), some (.int l2), some (.int l3)], [.ref 10], (gSh, σ, u)) rfl ?_
    obtain ⟨v2, s3, hq, hP⟩ := g_b2 hP
    refine hG.2.2.2.1 _ _ _ [.ref 10] [] _ (gSh, s3, u) (some (.int v2)) _ _ _ _ _ _ rfl rfl rfl rfl rfl rfl (c_Text_nextWord E (d + 0) u _  hq) (Nat.le_refl _) (Nat.le_refl _) (Nat.le_refl _) (Nat.le_refl _) ?_
    show G (25, [some (.ref 22), some (.int l1), some (.int l2), some (.int l3)], [.int v2], (gSh, s3, u))
    rcases g_ite hP with ⟨hc, hP⟩ | ⟨hc, hP⟩
    · refine hG.1 _ (76, [some (.ref 22), some (.int l1), some (.int l2), some (.int l3)], [], (gSh, s3, u)) _ rfl (if_pos hc) ?_
      cases hP
      exact K4 _ _ _ rfl
    · refine hG.1 _ (28, [some (.ref 22), some (.int l1), some (.int l2), some (.int l3)], [], (gSh, s3, u)) _ rfl (if_neg hc) ?_
      refine gRunN_ok hG.1 2 _ (31, [some (.ref 22), some (.int l1), some (.int l2), some (.int l3)], [.int 8, .int l3], (gSh, s3, u)) rfl ?_
      rcases g_ite hP with ⟨hc, hP⟩ | ⟨hc, hP⟩
      · refine hG.1 _ (41, [some (.ref 22), some (.int l1), some (.int l2), some (.int l3)], [], (gSh, s3, u)) _ rfl (if_pos hc) ?_
        refine gRunN_ok hG.1 4 _ (49, [some (.ref 22), some (.int l1), some (.int (s3.1 10 5)), some (.int l3)], [], (gSh, s3, u)) rfl ?_
        obtain ⟨x4, ex4, hP⟩ := g_let hP
        rw [← ex4]
        refine gRunN_ok hG.1 4 _ (55, [some (.ref 22), some (.int l1), some (.int x4), some (.int l3)], [.ref 22, .int l3, .ref 28], (gSh, s3, u)) rfl ?_
        obtain ⟨v5, s6, hq, hP⟩ := g_b2 hP
        refine hG.2.2.2.1 _ _ _ [.ref 22] [.int l3, .ref 28] _ (gSh, s6, u) (some (.int v5)) _ _ _ _ _ _ rfl rfl rfl rfl rfl rfl (c_Reader_takeName E (d + 0) u _  hq) (Nat.le_refl _) (Nat.le_refl _) (Nat.le_refl _) (Nat.le_refl _) ?_
        show G (58, [some (.ref 22), some (.int l1), some (.int x4), some (.int l3)], [.int v5, .int l3, .ref 28], (gSh, s6, u))
        obtain ⟨hc, hP⟩ := g_if hP
        refine hG.1 _ (59, [some (.ref 22), some (.int l1), some (.int x4), some (.int l3)], [], (gSh, (gPut s6 28 l3.toNatClampNeg v5), u)) _ rfl (if_pos hc) ?_
        obtain ⟨s7, es7, hP⟩ := g_let hP
        rw [← es7]
        refine gRunN_ok hG.1 3 _ (64, [some (.ref 22), some (.int l1), some (.int x4), some (.int l3)], [.int l3, .ref 28], (gSh, s7, u)) rfl ?_
        obtain ⟨hc, hP⟩ := g_if hP
        refine hG.1 _ (65, [some (.ref 22), some (.int l1), some (.int x4), some (.int l3)], [.int (s7.1 28 l3.toNatClampNeg)], (gSh, s7, u)) _ rfl (if_pos hc) ?_
        refine gRunN_ok hG.1 1 _ (66, [some (.ref 22), some (.int l1), some (.int x4), some (.int l3)], [.int (-1), .int (s7.1 28 l3.toNatClampNeg)], (gSh, s7, u)) rfl ?_
        rcases g_ite hP with ⟨hc, hP⟩ | ⟨hc, hP⟩
        · refine hG.1 _ (69, [some (.ref 22), some (.int l1), some (.int x4), some (.int l3)], [], (gSh, s7, u)) _ rfl (if_pos hc) ?_
          refine hG.2.2.2.2.1 _ _ [none, none, none, none] _ _ trivial ?_
          cases hP
          exact K3 _ rfl
        · refine hG.1 _ (70, [some (.ref 22), some (.int l1), some (.int x4), some (.int l3)], [], (gSh, s7, u)) _ rfl (if_neg hc) ?_
          refine gRunN_ok hG.1 1 _ (73, [some (.ref 22), some (.int l1), some (.int x4), some (.int (l3 + 1))], [], (gSh, s7, u)) rfl ?_
          obtain ⟨x8, ex8, hP⟩ := g_let hP
          rw [← ex8]
          refine gRunN_ok hG.1 1 _ (12, [some (.ref 22), some (.int l1), some (.int x4), some (.int x8)], [], (gSh, s7, u)) rfl ?_
          cases hP
          exact K1 _ _ _ rfl
      · refine hG.1 _ (34, [some (.ref 22), some (.int l1), some (.int l2), some (.int l3)], [], (gSh, s3, u)) _ rfl (if_neg hc) ?_
        refine hG.2.2.2.2.1 _ _ [some (.ref 22), none, some (.int l2), none] _ _ ⟨rfl, ⟨rfl, trivial⟩⟩ ?_
        cases hP
        exact K2 _ _ rfl
theorem l_Reader_readNames_12 (E : gEv) (d u : Nat) {G : gFr → Prop} {vo : Option Value} {sr : gS} (hG : gClo E gDf gP5 gY65 none (gC E gDf gMs (d + 2)) (vo, (gSh, sr, u)) G) (l1 : Int32) : ∀ (n : Nat) (l2 : Int32) (l3 : Int32) (σ : gS) (e : ((Int32 × gS) ⊕ ((gS) ⊕ (Int32 × Int32 × gS)))), gIter (fun z => p_Reader_readNames_12 E l1 z.1 z.2.1 z.2.2) n (l2, l3, σ) = some e → (∀ (m2 : Int32) (σ1 : gS), e = (.inl (m2, σ1)) → G (34, [some (.ref 22), none, some (.int m2), none], [], (gSh, σ1, u))) → (∀ (σ1 : gS), e = (.inr (.inl σ1)) → G (69, [none, none, none, none], [], (gSh, σ1, u))) → (∀ (m2 : Int32) (m3 : Int32) (σ1 : gS), e = (.inr (.inr (m2, m3, σ1))) → G (76, [some (.ref 22), some (.int l1), some (.int m2), some (.int m3)], [], (gSh, σ1, u))) → G (12, [some (.ref 22), some (.int l1), some (.int l2), some (.int l3)], [], (gSh, σ, u)) := by
  intro n
  induction n with
  | zero => intro l2 l3 σ e h; cases h
  | succ n ih =>
    intro l2 l3 σ e h K2 K3 K4
    rcases g_iter h with ⟨z, h1, h2⟩ | h1
    · exact b_Reader_readNames_12 E d u hG l1 l2 l3 σ h1 (fun n0 n1 n2 hz => by cases hz; exact ih _ _ _ e h2 K2 K3 K4) (fun _ _ hz => by cases hz) (fun _ hz => by cases hz) (fun _ _ _ hz => by cases hz)
    · exact b_Reader_readNames_12 E d u hG l1 l2 l3 σ h1 (fun _ _ _ hz => by cases hz) (fun m2 σ1 hz => K2 m2 σ1 (by cases hz; rfl)) (fun σ1 hz => K3 σ1 (by cases hz; rfl)) (fun m2 m3 σ1 hz => K4 m2 m3 σ1 (by cases hz; rfl))
def p_Reader_readNames_j76 (E : gEv) (l1 : Int32) (l2 : Int32) (l3 : Int32) (σ : gS) : Option (gS) :=
  if l3 = 0 then (gB1 (p_Reader_refuse E 1 (σ.1 10 5) σ) fun s19 => some s19) else (if gIn (l3 - (1 : Int32)) (σ.2.1 28) then gB2 (p_Reader_make E (σ.1 28 (l3 - (1 : Int32)).toNatClampNeg) ((1000 : Int32) + (σ.1 13 8)) l2 σ) fun v20 s21 => if v20 = 0 then (some s21) else (if (150 : Int32) ≤ (s21.1 13 8) then (some s21) else (gB2 (p_Gates_add E l1 28 (l3 - (1 : Int32)) s21) fun v22 s23 => gLet (gPut s23 22 16 v22) fun s24 => some s24)) else none)
set_option maxRecDepth 20000 in
theorem j_Reader_readNames_j76 (E : gEv) (d u : Nat) {G : gFr → Prop} {sr : gS} (hG : gClo E gDf gP5 gY65 none (gC E gDf gMs (d + 2)) (none, (gSh, sr, u)) G) (l1 : Int32) (l2 : Int32) (l3 : Int32) (σ : gS) (hP : p_Reader_readNames_j76 E l1 l2 l3 σ = some sr) : G (76, [some (.ref 22), some (.int l1), some (.int l2), some (.int l3)], [], (gSh, σ, u)) := by
  unfold p_Reader_readNames_j76 at hP
  refine gRunN_ok hG.1 1 _ (77, [some (.ref 22), some (.int l1), some (.int l2), some (.int l3)], [.int l3], (gSh, σ, u)) rfl ?_
  rcases g_ite hP with ⟨hc, hP⟩ | ⟨hc, hP⟩
  · refine hG.1 _ (80, [some (.ref 22), some (.int l1), some (.int l2), some (.int l3)], [], (gSh, σ, u)) _ rfl (if_pos hc) ?_
    refine gRunN_ok hG.1 5 _ (89, [some (.ref 22), some (.int l1), some (.int l2), some (.int l3)], [.int (σ.1 10 5), .int 1, .ref 22], (gSh, σ, u)) rfl ?_
    obtain ⟨s19, hq, hP⟩ := g_b1 hP
    refine hG.2.2.2.1 _ _ _ [.ref 22, .int 1, .int (σ.1 10 5)] [] _ (gSh, s19, u) none _ _ _ _ _ _ rfl rfl rfl rfl rfl rfl (c_Reader_refuse E (d + 1) u 1 (σ.1 10 5) _  hq) (Nat.le_refl _) (Nat.le_refl _) (Nat.le_refl _) (Nat.le_refl _) ?_
    show G (92, [some (.ref 22), some (.int l1), some (.int l2), some (.int l3)], [], (gSh, s19, u))
    refine gRunN_ok hG.1 1 _ (154, [some (.ref 22), some (.int l1), some (.int l2), some (.int l3)], [], (gSh, s19, u)) rfl ?_
    cases hP
    exact hG.2.1 _ _ rfl rfl
  · refine hG.1 _ (95, [some (.ref 22), some (.int l1), some (.int l2), some (.int l3)], [], (gSh, σ, u)) _ rfl (if_neg hc) ?_
    refine gRunN_ok hG.1 6 _ (103, [some (.ref 22), some (.int l1), some (.int l2), some (.int l3)], [.int (l3 - (1 : Int32)), .ref 28, .ref 22], (gSh, σ, u)) rfl ?_
    obtain ⟨hc, hP⟩ := g_if hP
    refine hG.1 _ (104, [some (.ref 22), some (.int l1), some (.int l2), some (.int l3)], [.int (σ.1 28 (l3 - (1 : Int32)).toNatClampNeg), .ref 22], (gSh, σ, u)) _ rfl (if_pos hc) ?_
    refine gRunN_ok hG.1 6 _ (116, [some (.ref 22), some (.int l1), some (.int l2), some (.int l3)], [.int l2, .int ((1000 : Int32) + (σ.1 13 8)), .int (σ.1 28 (l3 - (1 : Int32)).toNatClampNeg), .ref 22], (gSh, σ, u)) rfl ?_
    obtain ⟨v20, s21, hq, hP⟩ := g_b2 hP
    refine hG.2.2.2.1 _ _ _ [.ref 22, .int (σ.1 28 (l3 - (1 : Int32)).toNatClampNeg), .int ((1000 : Int32) + (σ.1 13 8)), .int l2] [] _ (gSh, s21, u) (some (.int v20)) _ _ _ _ _ _ rfl rfl rfl rfl rfl rfl (c_Reader_make E (d + 0) u (σ.1 28 (l3 - (1 : Int32)).toNatClampNeg) ((1000 : Int32) + (σ.1 13 8)) l2 _  hq) (Nat.le_refl _) (Nat.le_refl _) (Nat.le_refl _) (Nat.le_refl _) ?_
    show G (119, [some (.ref 22), some (.int l1), some (.int l2), some (.int l3)], [.int v20], (gSh, s21, u))
    rcases g_ite hP with ⟨hc, hP⟩ | ⟨hc, hP⟩
    · refine hG.1 _ (154, [some (.ref 22), some (.int l1), some (.int l2), some (.int l3)], [], (gSh, s21, u)) _ rfl (if_pos hc) ?_
      cases hP
      exact hG.2.1 _ _ rfl rfl
    · refine hG.1 _ (122, [some (.ref 22), some (.int l1), some (.int l2), some (.int l3)], [], (gSh, s21, u)) _ rfl (if_neg hc) ?_
      refine gRunN_ok hG.1 4 _ (132, [some (.ref 22), some (.int l1), some (.int l2), some (.int l3)], [.int 150, .int (s21.1 13 8)], (gSh, s21, u)) rfl ?_
      rcases g_ite hP with ⟨hc, hP⟩ | ⟨hc, hP⟩
      · refine hG.1 _ (154, [some (.ref 22), some (.int l1), some (.int l2), some (.int l3)], [], (gSh, s21, u)) _ rfl (if_pos hc) ?_
        cases hP
        exact hG.2.1 _ _ rfl rfl
      · refine hG.1 _ (135, [some (.ref 22), some (.int l1), some (.int l2), some (.int l3)], [], (gSh, s21, u)) _ rfl (if_neg hc) ?_
        refine gRunN_ok hG.1 9 _ (148, [some (.ref 22), some (.int l1), some (.int l2), some (.int l3)], [.int (l3 - (1 : Int32)), .ref 28, .int l1, .ref 13, .ref 22], (gSh, s21, u)) rfl ?_
        obtain ⟨v22, s23, hq, hP⟩ := g_b2 hP
        refine hG.2.2.2.1 _ _ _ [.ref 13, .int l1, .ref 28, .int (l3 - (1 : Int32))] [.ref 22] _ (gSh, s23, u) (some (.int v22)) _ _ _ _ _ _ rfl rfl rfl rfl rfl rfl (c_Gates_add E (d + 1) u l1 28 (l3 - (1 : Int32)) _ rfl hq) (Nat.le_refl _) (Nat.le_refl _) (Nat.le_refl _) (Nat.le_refl _) ?_
        show G (151, [some (.ref 22), some (.int l1), some (.int l2), some (.int l3)], [.int v22, .ref 22], (gSh, s23, u))
        refine gRunN_ok hG.1 1 _ (154, [some (.ref 22), some (.int l1), some (.int l2), some (.int l3)], [], (gSh, (gPut s23 22 16 v22), u)) rfl ?_
        obtain ⟨s24, es24, hP⟩ := g_let hP
        rw [← es24]
        cases hP
        exact hG.2.1 _ _ rfl rfl
def p_Reader_readNames (E : gEv) (σ : gS) : Option (gS) :=
  gLet (σ.1 10 5) fun x1 => gB1 (gIter (fun z => p_Reader_readNames_12 E x1 z.1 z.2.1 z.2.2) gN (x1, 0, σ)) fun e9 => gSum e9 (fun e25 => (fun w10 s11 => gB1 (p_Reader_refuse E 2 w10 s11) fun s13 => some s13) e25.1 e25.2) (fun e26 => gSum e26 (fun e27 => (fun s14 => some s14) e27) (fun e28 => (fun w15 w16 s17 => p_Reader_readNames_j76 E x1 w15 w16 s17) e28.1 e28.2.1 e28.2.2))
set_option maxRecDepth 20000 in
theorem c_Reader_readNames (E : gEv) (d u : Nat) (σ : gS) {sr : gS}  (hq : p_Reader_readNames E σ = some sr) : gC E gDf gMs (d + 3) 65 [.ref 22] (gSh, σ, u) (none, (gSh, sr, u)) := ⟨gM65, rfl, Nat.le_of_ble_eq_true rfl, fun G hG => by
  have hP := hq
  unfold p_Reader_readNames at hP
  replace hG : gClo E gDf gP5 gY65 none (gC E gDf gMs (d + 2)) (none, (gSh, sr, u)) G := hG
  show G (0, [some (.ref 22), none, none, none], [], (gSh, σ, u))
  refine gRunN_ok hG.1 4 _ (8, [some (.ref 22), some (.int (σ.1 10 5)), none, none], [], (gSh, σ, u)) rfl ?_
  obtain ⟨x1, ex1, hP⟩ := g_let hP
  rw [← ex1]
  refine gRunN_ok hG.1 4 _ (12, [some (.ref 22), some (.int x1), some (.int x1), some (.int 0)], [], (gSh, σ, u)) rfl ?_
  obtain ⟨e9, hq, hP⟩ := g_b1 hP
  refine l_Reader_readNames_12 E d u hG x1 gN x1 0 σ _ hq (fun w10 s11 he => ?_) (fun s14 he => ?_) (fun w15 w16 s17 he => ?_)
  · subst he
    try dsimp only [gSum] at hP
    refine gRunN_ok hG.1 3 _ (37, [some (.ref 22), none, some (.int w10), none], [.int w10, .int 2, .ref 22], (gSh, s11, u)) rfl ?_
    obtain ⟨s13, hq, hP⟩ := g_b1 hP
    refine hG.2.2.2.1 _ _ _ [.ref 22, .int 2, .int w10] [] _ (gSh, s13, u) none _ _ _ _ _ _ rfl rfl rfl rfl rfl rfl (c_Reader_refuse E (d + 1) u 2 w10 _  hq) (Nat.le_refl _) (Nat.le_refl _) (Nat.le_refl _) (Nat.le_refl _) ?_
    show G (40, [some (.ref 22), none, some (.int w10), none], [], (gSh, s13, u))
    cases hP
    exact hG.2.1 _ _ rfl rfl
  · subst he
    try dsimp only [gSum] at hP
    cases hP
    exact hG.2.1 _ _ rfl rfl
  · subst he
    try dsimp only [gSum] at hP
    exact j_Reader_readNames_j76 E d u hG x1 w15 w16 s17 hP⟩
def p_Gates_giveNumbers_2 (E : gEv) (k0 : Nat) (l2 : Int32) (σ : gS) : Option ((Int32 × gS) ⊕ ((gS) ⊕ (gS))) :=
  if (σ.1 13 8) ≤ l2 then (some (.inr (.inr σ))) else (gB1 (p_Gates_firstReady E k0 σ) fun v1 => if v1 = ((-1) : Int32) then (some (.inr (.inl σ))) else (if gIn v1 (σ.2.1 20) then gLet (gPut σ 20 v1.toNatClampNeg l2) fun s3 => if gIn l2 (s3.2.1 21) then gLet (gPut s3 21 l2.toNatClampNeg v1) fun s4 => gLet (l2 + 1) fun x5 => some (.inl (x5, s4)) else none else none))
set_option maxRecDepth 20000 in
theorem b_Gates_giveNumbers_2 (E : gEv) (d u : Nat) {G : gFr → Prop} {vo : Option Value} {sr : gS} (hG : gClo E gDf gP4 gY70 none (gC E gDf gMs (d + 2)) (vo, (gSh, sr, u)) G) (k0 : Nat) (l2 : Int32) (σ : gS) (hk0 : gSh[k0]? = some (.inl (.int, none))) {r : (Int32 × gS) ⊕ ((gS) ⊕ (gS))} (hP : p_Gates_giveNumbers_2 E k0 l2 σ = some r) (K1 : ∀ (m2 : Int32) (σ1 : gS), r = .inl (m2, σ1) → G (2, [some (.ref 13), some (.ref k0), some (.int m2), none], [], (gSh, σ1, u))) (K2 : ∀ (σ1 : gS), r = .inr (.inl σ1) → G (21, [none, none, none, none], [], (gSh, σ1, u))) (K3 : ∀ (σ1 : gS), r = .inr (.inr σ1) → G (42, [none, none, none, none], [], (gSh, σ1, u))) : G (2, [some (.ref 13), some (.ref k0), some (.int l2), none], [], (gSh, σ, u)) := by
  unfold p_Gates_giveNumbers_2 at hP
  refine gRunN_ok hG.1 3 _ (7, [some (.ref 13), some (.ref k0), some (.int l2), none], [.int (σ.1 13 8), .int l2], (gSh, σ, u)) rfl ?_
  rcases g_ite hP with ⟨hc, hP⟩ | ⟨hc, hP⟩
  · refine hG.1 _ (42, [some (.ref 13), some (.ref k0), some (.int l2), none], [], (gSh, σ, u)) _ rfl (if_pos hc) ?_
    refine hG.2.2.2.2.1 _ _ [none, none, none, none] _ _ trivial ?_
    cases hP
    exact K3 _ rfl
  · refine hG.1 _ (10, [some (.ref 13), some (.ref k0), some (.int l2), none], [], (gSh, σ, u)) _ rfl (if_neg hc) ?_
    refine gRunN_ok hG.1 2 _ (12, [some (.ref 13), some (.ref k0), some (.int l2), none], [.ref k0, .ref 13], (gSh, σ, u)) rfl ?_
    obtain ⟨v1, hq, hP⟩ := g_b1 hP
    refine hG.2.2.2.1 _ _ _ [.ref 13, .ref k0] [] _ (gSh, σ, u) (some (.int v1)) _ _ _ _ _ _ rfl rfl rfl rfl rfl rfl (c_Gates_firstReady E (d + 0) u k0 _ hk0 hq) (Nat.le_refl _) (Nat.le_refl _) (Nat.le_refl _) (Nat.le_refl _) ?_
    show G (15, [some (.ref 13), some (.ref k0), some (.int l2), none], [.int v1], (gSh, σ, u))
    refine gRunN_ok hG.1 3 _ (18, [some (.ref 13), some (.ref k0), some (.int l2), some (.int v1)], [.int (-1), .int v1], (gSh, σ, u)) rfl ?_
    rcases g_ite hP with ⟨hc, hP⟩ | ⟨hc, hP⟩
    · refine hG.1 _ (21, [some (.ref 13), some (.ref k0), some (.int l2), some (.int v1)], [], (gSh, σ, u)) _ rfl (if_pos hc) ?_
      refine hG.2.2.2.2.1 _ _ [none, none, none, none] _ _ trivial ?_
      cases hP
      exact K2 _ rfl
    · refine hG.1 _ (22, [some (.ref 13), some (.ref k0), some (.int l2), some (.int v1)], [], (gSh, σ, u)) _ rfl (if_neg hc) ?_
      refine gRunN_ok hG.1 4 _ (28, [some (.ref 13), some (.ref k0), some (.int l2), some (.int v1)], [.int l2, .int v1, .ref 20], (gSh, σ, u)) rfl ?_
      obtain ⟨hc, hP⟩ := g_if hP
      refine hG.1 _ (29, [some (.ref 13), some (.ref k0), some (.int l2), some (.int v1)], [], (gSh, (gPut σ 20 v1.toNatClampNeg l2), u)) _ rfl (if_pos hc) ?_
      obtain ⟨s3, es3, hP⟩ := g_let hP
      rw [← es3]
      refine gRunN_ok hG.1 4 _ (35, [some (.ref 13), some (.ref k0), some (.int l2), some (.int v1)], [.int v1, .int l2, .ref 21], (gSh, s3, u)) rfl ?_
      obtain ⟨hc, hP⟩ := g_if hP
      refine hG.1 _ (36, [some (.ref 13), some (.ref k0), some (.int l2), some (.int v1)], [], (gSh, (gPut s3 21 l2.toNatClampNeg v1), u)) _ rfl (if_pos hc) ?_
      obtain ⟨s4, es4, hP⟩ := g_let hP
      rw [← es4]
      refine gRunN_ok hG.1 1 _ (39, [some (.ref 13), some (.ref k0), some (.int (l2 + 1)), some (.int v1)], [], (gSh, s4, u)) rfl ?_
      obtain ⟨x5, ex5, hP⟩ := g_let hP
      rw [← ex5]
      refine gRunN_ok hG.1 1 _ (2, [some (.ref 13), some (.ref k0), some (.int x5), some (.int v1)], [], (gSh, s4, u)) rfl ?_
      refine hG.2.2.2.2.1 _ _ [some (.ref 13), some (.ref k0), some (.int x5), none] _ _ ⟨rfl, ⟨rfl, ⟨rfl, trivial⟩⟩⟩ ?_
      cases hP
      exact K1 _ _ rfl
theorem l_Gates_giveNumbers_2 (E : gEv) (d u : Nat) {G : gFr → Prop} {vo : Option Value} {sr : gS} (hG : gClo E gDf gP4 gY70 none (gC E gDf gMs (d + 2)) (vo, (gSh, sr, u)) G) (k0 : Nat) (hk0 : gSh[k0]? = some (.inl (.int, none))) : ∀ (n : Nat) (l2 : Int32) (σ : gS) (e : ((gS) ⊕ (gS))), gIter (fun z => p_Gates_giveNumbers_2 E k0 z.1 z.2) n (l2, σ) = some e → (∀ (σ1 : gS), e = (.inl σ1) → G (21, [none, none, none, none], [], (gSh, σ1, u))) → (∀ (σ1 : gS), e = (.inr σ1) → G (42, [none, none, none, none], [], (gSh, σ1, u))) → G (2, [some (.ref 13), some (.ref k0), some (.int l2), none], [], (gSh, σ, u)) := by
  intro n
  induction n with
  | zero => intro l2 σ e h; cases h
  | succ n ih =>
    intro l2 σ e h K2 K3
    rcases g_iter h with ⟨z, h1, h2⟩ | h1
    · exact b_Gates_giveNumbers_2 E d u hG k0 l2 σ hk0 h1 (fun n0 n1 hz => by cases hz; exact ih _ _ e h2 K2 K3) (fun _ hz => by cases hz) (fun _ hz => by cases hz)
    · exact b_Gates_giveNumbers_2 E d u hG k0 l2 σ hk0 h1 (fun _ _ hz => by cases hz) (fun σ1 hz => K2 σ1 (by cases hz; rfl)) (fun σ1 hz => K3 σ1 (by cases hz; rfl))
def p_Gates_giveNumbers (E : gEv) (k0 : Nat) (σ : gS) : Option (gS) :=
  gB1 (gIter (fun z => p_Gates_giveNumbers_2 E k0 z.1 z.2) gN (0, σ)) fun e6 => gSum e6 (fun e9 => (fun s7 => some s7) e9) (fun e10 => (fun s8 => some s8) e10)
set_option maxRecDepth 20000 in
theorem c_Gates_giveNumbers (E : gEv) (d u : Nat) (k0 : Nat) (σ : gS) {sr : gS}  (hk0 : gSh[k0]? = some (.inl (.int, none))) (hq : p_Gates_giveNumbers E k0 σ = some sr) : gC E gDf gMs (d + 3) 70 [.ref 13, .ref k0] (gSh, σ, u) (none, (gSh, sr, u)) := ⟨gM70, rfl, Nat.le_of_ble_eq_true rfl, fun G hG => by
  have hP := hq
  unfold p_Gates_giveNumbers at hP
  replace hG : gClo E gDf gP4 gY70 none (gC E gDf gMs (d + 2)) (none, (gSh, sr, u)) G := hG
  show G (0, [some (.ref 13), some (.ref k0), none, none], [], (gSh, σ, u))
  refine gRunN_ok hG.1 2 _ (2, [some (.ref 13), some (.ref k0), some (.int 0), none], [], (gSh, σ, u)) rfl ?_
  obtain ⟨e6, hq, hP⟩ := g_b1 hP
  refine l_Gates_giveNumbers_2 E d u hG k0 hk0 gN 0 σ _ hq (fun s7 he => ?_) (fun s8 he => ?_)
  · subst he
    try dsimp only [gSum] at hP
    cases hP
    exact hG.2.1 _ _ rfl rfl
  · subst he
    try dsimp only [gSum] at hP
    cases hP
    exact hG.2.1 _ _ rfl rfl⟩
def p_Packing_setElements_j75_25 (E : gEv) (l1 : Int32) (y0 : Int32) (σ : gS) : Option ((Int32 × gS) ⊕ ((gS) ⊕ (gS))) :=
  if y0 < (σ.1 1 6) then (if gIn y0 (σ.2.1 55) then gLet (gPut σ 55 y0.toNatClampNeg l1) fun s7 => if gIn l1 (s7.2.1 54) then gLet (gPut s7 54 l1.toNatClampNeg y0) fun s8 => gLet (gPut s8 53 15 (if (s8.1 53 15) < (y0 + (1 : Int32)) then (y0 + (1 : Int32)) else (s8.1 53 15))) fun s9 => gLet (l1 + 1) fun x10 => some (.inl (x10, s9)) else none else none) else (some (.inr (.inl σ)))
set_option maxRecDepth 20000 in
theorem j_Packing_setElements_j75_25 (E : gEv) (d u : Nat) {G : gFr → Prop} {vo : Option Value} {sr : gS} (hG : gClo E gDf gP8 gY85 (some .boolean) (gC E gDf gMs (d + 2)) (vo, (gSh, sr, u)) G) (l1 : Int32) (y0 : Int32) (σ : gS) {r : (Int32 × gS) ⊕ ((gS) ⊕ (gS))} (hP : p_Packing_setElements_j75_25 E l1 y0 σ = some r) (K1 : ∀ (m1 : Int32) (σ1 : gS), r = .inl (m1, σ1) → G (25, [some (.ref 53), some (.int m1), none, none], [], (gSh, σ1, u))) (K2 : ∀ (σ1 : gS), r = .inr (.inl σ1) → G (87, [none, none, none, none], [], (gSh, σ1, u))) (K3 : ∀ (σ1 : gS), r = .inr (.inr σ1) → G (123, [none, none, none, none], [], (gSh, σ1, u))) : G (75, [some (.ref 53), some (.int l1), none, none], [.int y0], (gSh, σ, u)) := by
  unfold p_Packing_setElements_j75_25 at hP
  refine gRunN_ok hG.1 5 _ (84, [some (.ref 53), some (.int l1), none, some (.int y0)], [.int (σ.1 1 6), .int y0], (gSh, σ, u)) rfl ?_
  rcases g_ite hP with ⟨hc, hP⟩ | ⟨hc, hP⟩
  · refine hG.1 _ (89, [some (.ref 53), some (.int l1), none, some (.int y0)], [], (gSh, σ, u)) _ rfl (if_pos hc) ?_
    refine gRunN_ok hG.1 4 _ (95, [some (.ref 53), some (.int l1), none, some (.int y0)], [.int l1, .int y0, .ref 55], (gSh, σ, u)) rfl ?_
    obtain ⟨hc, hP⟩ := g_if hP
    refine hG.1 _ (96, [some (.ref 53), some (.int l1), none, some (.int y0)], [], (gSh, (gPut σ 55 y0.toNatClampNeg l1), u)) _ rfl (if_pos hc) ?_
    obtain ⟨s7, es7, hP⟩ := g_let hP
    rw [← es7]
    refine gRunN_ok hG.1 4 _ (102, [some (.ref 53), some (.int l1), none, some (.int y0)], [.int y0, .int l1, .ref 54], (gSh, s7, u)) rfl ?_
    obtain ⟨hc, hP⟩ := g_if hP
    refine hG.1 _ (103, [some (.ref 53), some (.int l1), none, some (.int y0)], [], (gSh, (gPut s7 54 l1.toNatClampNeg y0), u)) _ rfl (if_pos hc) ?_
    obtain ⟨s8, es8, hP⟩ := g_let hP
    rw [← es8]
    refine gRunN_ok hG.1 6 _ (111, [some (.ref 53), some (.int l1), none, some (.int y0)], [.int (y0 + (1 : Int32)), .int (s8.1 53 15), .ref 53], (gSh, s8, u)) rfl ?_
    refine hG.2.2.2.2.2.2.1 _ _ _ _ _ _ _ _ _ rfl rfl rfl (Nat.le_refl _) (Nat.le_refl _) ?_
    show G (114, [some (.ref 53), some (.int l1), none, some (.int y0)], [.int (if (s8.1 53 15) < (y0 + (1 : Int32)) then (y0 + (1 : Int32)) else (s8.1 53 15)), .ref 53], (gSh, s8, u))
    refine gRunN_ok hG.1 1 _ (117, [some (.ref 53), some (.int l1), none, some (.int y0)], [], (gSh, (gPut s8 53 15 (if (s8.1 53 15) < (y0 + (1 : Int32)) then (y0 + (1 : Int32)) else (s8.1 53 15))), u)) rfl ?_
    obtain ⟨s9, es9, hP⟩ := g_let hP
    rw [← es9]
    refine gRunN_ok hG.1 1 _ (120, [some (.ref 53), some (.int (l1 + 1)), none, some (.int y0)], [], (gSh, s9, u)) rfl ?_
    obtain ⟨x10, ex10, hP⟩ := g_let hP
    rw [← ex10]
    refine gRunN_ok hG.1 1 _ (25, [some (.ref 53), some (.int x10), none, some (.int y0)], [], (gSh, s9, u)) rfl ?_
    refine hG.2.2.2.2.1 _ _ [some (.ref 53), some (.int x10), none, none] _ _ ⟨rfl, ⟨rfl, trivial⟩⟩ ?_
    cases hP
    exact K1 _ _ rfl
  · refine hG.1 _ (87, [some (.ref 53), some (.int l1), none, some (.int y0)], [], (gSh, σ, u)) _ rfl (if_neg hc) ?_
    refine hG.2.2.2.2.1 _ _ [none, none, none, none] _ _ trivial ?_
    cases hP
    exact K2 _ rfl
def p_Packing_setElements_j71_25 (E : gEv) (l1 : Int32) (σ : gS) : Option ((Int32 × gS) ⊕ ((gS) ⊕ (gS))) :=
  p_Packing_setElements_j75_25 E l1 (σ.1 53 15) σ
set_option maxRecDepth 20000 in
theorem j_Packing_setElements_j71_25 (E : gEv) (d u : Nat) {G : gFr → Prop} {vo : Option Value} {sr : gS} (hG : gClo E gDf gP8 gY85 (some .boolean) (gC E gDf gMs (d + 2)) (vo, (gSh, sr, u)) G) (l1 : Int32) (σ : gS) {r : (Int32 × gS) ⊕ ((gS) ⊕ (gS))} (hP : p_Packing_setElements_j71_25 E l1 σ = some r) (K1 : ∀ (m1 : Int32) (σ1 : gS), r = .inl (m1, σ1) → G (25, [some (.ref 53), some (.int m1), none, none], [], (gSh, σ1, u))) (K2 : ∀ (σ1 : gS), r = .inr (.inl σ1) → G (87, [none, none, none, none], [], (gSh, σ1, u))) (K3 : ∀ (σ1 : gS), r = .inr (.inr σ1) → G (123, [none, none, none, none], [], (gSh, σ1, u))) : G (71, [some (.ref 53), some (.int l1), none, none], [], (gSh, σ, u)) := by
  unfold p_Packing_setElements_j71_25 at hP
  refine gRunN_ok hG.1 2 _ (75, [some (.ref 53), some (.int l1), none, none], [.int (σ.1 53 15)], (gSh, σ, u)) rfl ?_
  exact j_Packing_setElements_j75_25 E d u hG l1 (σ.1 53 15) σ hP K1 K2 K3
def p_Packing_setElements_25 (E : gEv) (l1 : Int32) (σ : gS) : Option ((Int32 × gS) ⊕ ((gS) ⊕ (gS))) :=
  if (σ.1 30 11) ≤ l1 then (some (.inr (.inr σ))) else (if gIn l1 (σ.2.1 31) then gLet (σ.1 31 l1.toNatClampNeg) fun x6 => if x6 < (400 : Int32) then (p_Packing_setElements_j71_25 E l1 σ) else (if gIn x6 (σ.2.1 58) then if (σ.1 58 x6.toNatClampNeg) = (1 : Int32) then (p_Packing_setElements_j75_25 E l1 (x6 - (400 : Int32)) σ) else (p_Packing_setElements_j71_25 E l1 σ) else none) else none)
set_option maxRecDepth 20000 in
theorem b_Packing_setElements_25 (E : gEv) (d u : Nat) {G : gFr → Prop} {vo : Option Value} {sr : gS} (hG : gClo E gDf gP8 gY85 (some .boolean) (gC E gDf gMs (d + 2)) (vo, (gSh, sr, u)) G) (l1 : Int32) (σ : gS) {r : (Int32 × gS) ⊕ ((gS) ⊕ (gS))} (hP : p_Packing_setElements_25 E l1 σ = some r) (K1 : ∀ (m1 : Int32) (σ1 : gS), r = .inl (m1, σ1) → G (25, [some (.ref 53), some (.int m1), none, none], [], (gSh, σ1, u))) (K2 : ∀ (σ1 : gS), r = .inr (.inl σ1) → G (87, [none, none, none, none], [], (gSh, σ1, u))) (K3 : ∀ (σ1 : gS), r = .inr (.inr σ1) → G (123, [none, none, none, none], [], (gSh, σ1, u))) : G (25, [some (.ref 53), some (.int l1), none, none], [], (gSh, σ, u)) := by
  unfold p_Packing_setElements_25 at hP
  refine gRunN_ok hG.1 4 _ (33, [some (.ref 53), some (.int l1), none, none], [.int (σ.1 30 11), .int l1], (gSh, σ, u)) rfl ?_
  rcases g_ite hP with ⟨hc, hP⟩ | ⟨hc, hP⟩
  · refine hG.1 _ (123, [some (.ref 53), some (.int l1), none, none], [], (gSh, σ, u)) _ rfl (if_pos hc) ?_
    refine hG.2.2.2.2.1 _ _ [none, none, none, none] _ _ trivial ?_
    cases hP
    exact K3 _ rfl
  · refine hG.1 _ (36, [some (.ref 53), some (.int l1), none, none], [], (gSh, σ, u)) _ rfl (if_neg hc) ?_
    refine gRunN_ok hG.1 4 _ (44, [some (.ref 53), some (.int l1), none, none], [.int l1, .ref 31], (gSh, σ, u)) rfl ?_
    obtain ⟨hc, hP⟩ := g_if hP
    refine hG.1 _ (45, [some (.ref 53), some (.int l1), none, none], [.int (σ.1 31 l1.toNatClampNeg)], (gSh, σ, u)) _ rfl (if_pos hc) ?_
    refine gRunN_ok hG.1 1 _ (46, [some (.ref 53), some (.int l1), some (.int (σ.1 31 l1.toNatClampNeg)), none], [], (gSh, σ, u)) rfl ?_
    obtain ⟨x6, ex6, hP⟩ := g_let hP
    rw [← ex6]
    refine gRunN_ok hG.1 2 _ (50, [some (.ref 53), some (.int l1), some (.int x6), none], [.int 400, .int x6], (gSh, σ, u)) rfl ?_
    rcases g_ite hP with ⟨hc, hP⟩ | ⟨hc, hP⟩
    · refine hG.1 _ (71, [some (.ref 53), some (.int l1), some (.int x6), none], [], (gSh, σ, u)) _ rfl (if_pos hc) ?_
      refine hG.2.2.2.2.1 _ _ [some (.ref 53), some (.int l1), none, none] _ _ ⟨rfl, ⟨rfl, trivial⟩⟩ ?_
      exact j_Packing_setElements_j71_25 E d u hG l1 σ hP K1 K2 K3
    · refine hG.1 _ (53, [some (.ref 53), some (.int l1), some (.int x6), none], [], (gSh, σ, u)) _ rfl (if_neg hc) ?_
      refine gRunN_ok hG.1 3 _ (58, [some (.ref 53), some (.int l1), some (.int x6), none], [.int x6, .ref 58], (gSh, σ, u)) rfl ?_
      obtain ⟨hc, hP⟩ := g_if hP
      refine hG.1 _ (59, [some (.ref 53), some (.int l1), some (.int x6), none], [.int (σ.1 58 x6.toNatClampNeg)], (gSh, σ, u)) _ rfl (if_pos hc) ?_
      refine gRunN_ok hG.1 1 _ (60, [some (.ref 53), some (.int l1), some (.int x6), none], [.int 1, .int (σ.1 58 x6.toNatClampNeg)], (gSh, σ, u)) rfl ?_
      rcases g_ite hP with ⟨hc, hP⟩ | ⟨hc, hP⟩
      · refine hG.1 _ (63, [some (.ref 53), some (.int l1), some (.int x6), none], [], (gSh, σ, u)) _ rfl (if_pos hc) ?_
        refine gRunN_ok hG.1 4 _ (75, [some (.ref 53), some (.int l1), some (.int x6), none], [.int (x6 - (400 : Int32))], (gSh, σ, u)) rfl ?_
        refine hG.2.2.2.2.1 _ _ [some (.ref 53), some (.int l1), none, none] _ _ ⟨rfl, ⟨rfl, trivial⟩⟩ ?_
        exact j_Packing_setElements_j75_25 E d u hG l1 (x6 - (400 : Int32)) σ hP K1 K2 K3
      · refine hG.1 _ (71, [some (.ref 53), some (.int l1), some (.int x6), none], [], (gSh, σ, u)) _ rfl (if_neg hc) ?_
        refine hG.2.2.2.2.1 _ _ [some (.ref 53), some (.int l1), none, none] _ _ ⟨rfl, ⟨rfl, trivial⟩⟩ ?_
        exact j_Packing_setElements_j71_25 E d u hG l1 σ hP K1 K2 K3
theorem l_Packing_setElements_25 (E : gEv) (d u : Nat) {G : gFr → Prop} {vo : Option Value} {sr : gS} (hG : gClo E gDf gP8 gY85 (some .boolean) (gC E gDf gMs (d + 2)) (vo, (gSh, sr, u)) G) : ∀ (n : Nat) (l1 : Int32) (σ : gS) (e : ((gS) ⊕ (gS))), gIter (fun z => p_Packing_setElements_25 E z.1 z.2) n (l1, σ) = some e → (∀ (σ1 : gS), e = (.inl σ1) → G (87, [none, none, none, none], [], (gSh, σ1, u))) → (∀ (σ1 : gS), e = (.inr σ1) → G (123, [none, none, none, none], [], (gSh, σ1, u))) → G (25, [some (.ref 53), some (.int l1), none, none], [], (gSh, σ, u)) := by
  intro n
  induction n with
  | zero => intro l1 σ e h; cases h
  | succ n ih =>
    intro l1 σ e h K2 K3
    rcases g_iter h with ⟨z, h1, h2⟩ | h1
    · exact b_Packing_setElements_25 E d u hG l1 σ h1 (fun n0 n1 hz => by cases hz; exact ih _ _ e h2 K2 K3) (fun _ hz => by cases hz) (fun _ hz => by cases hz)
    · exact b_Packing_setElements_25 E d u hG l1 σ h1 (fun _ _ hz => by cases hz) (fun σ1 hz => K2 σ1 (by cases hz; rfl)) (fun σ1 hz => K3 σ1 (by cases hz; rfl))
def p_Packing_setElements (E : gEv) (σ : gS) : Option (Int32 × gS) :=
  gB1 (p_Packing_countSources E σ) fun s2 => gLet (gPut s2 53 15 (s2.1 30 10)) fun s3 => gB1 (p_Arrays_fillI E 55 (-1) s3) fun s5 => gB1 (gIter (fun z => p_Packing_setElements_25 E z.1 z.2) gN (0, s5)) fun e11 => gSum e11 (fun e14 => (fun s12 => some (0, s12)) e14) (fun e15 => (fun s13 => some (1, s13)) e15)
set_option maxRecDepth 20000 in
theorem c_Packing_setElements (E : gEv) (d u : Nat) (σ : gS) {v : Int32} {sr : gS}  (hq : p_Packing_setElements E σ = some (v, sr)) : gC E gDf gMs (d + 3) 85 [.ref 53] (gSh, σ, u) (some (.int v), (gSh, sr, u)) := ⟨gM85, rfl, Nat.le_of_ble_eq_true rfl, fun G hG => by
  have hP := hq
  unfold p_Packing_setElements at hP
  replace hG : gClo E gDf gP8 gY85 (some .boolean) (gC E gDf gMs (d + 2)) (some (.int v), (gSh, sr, u)) G := hG
  show G (0, [some (.ref 53), none, none, none], [], (gSh, σ, u))
  refine gRunN_ok hG.1 1 _ (1, [some (.ref 53), none, none, none], [.ref 53], (gSh, σ, u)) rfl ?_
  obtain ⟨s2, hq, hP⟩ := g_b1 hP
  refine hG.2.2.2.1 _ _ _ [.ref 53] [] _ (gSh, s2, u) none _ _ _ _ _ _ rfl rfl rfl rfl rfl rfl (c_Packing_countSources E (d + 0) u _  hq) (Nat.le_refl _) (Nat.le_refl _) (Nat.le_refl _) (Nat.le_refl _) ?_
  show G (4, [some (.ref 53), none, none, none], [], (gSh, s2, u))
  refine gRunN_ok hG.1 5 _ (15, [some (.ref 53), none, none, none], [], (gSh, (gPut s2 53 15 (s2.1 30 10)), u)) rfl ?_
  obtain ⟨s3, es3, hP⟩ := g_let hP
  rw [← es3]
  refine gRunN_ok hG.1 3 _ (20, [some (.ref 53), none, none, none], [.int (-1), .ref 55], (gSh, s3, u)) rfl ?_
  obtain ⟨s5, hq, hP⟩ := g_b1 hP
  refine hG.2.2.2.1 _ _ _ [.ref 55, .int (-1)] [] _ (gSh, s5, u) none _ _ _ _ _ _ rfl rfl rfl rfl rfl rfl (c_Arrays_fillI E (d + 1) u 55 (-1) _ rfl hq) (Nat.le_refl _) (Nat.le_refl _) (Nat.le_refl _) (Nat.le_refl _) ?_
  show G (23, [some (.ref 53), none, none, none], [], (gSh, s5, u))
  refine gRunN_ok hG.1 2 _ (25, [some (.ref 53), some (.int 0), none, none], [], (gSh, s5, u)) rfl ?_
  obtain ⟨e11, hq, hP⟩ := g_b1 hP
  refine l_Packing_setElements_25 E d u hG gN 0 s5 _ hq (fun s12 he => ?_) (fun s13 he => ?_)
  · subst he
    try dsimp only [gSum] at hP
    refine gRunN_ok hG.1 1 _ (88, [none, none, none, none], [.int 0], (gSh, s12, u)) rfl ?_
    cases hP
    exact hG.2.1 _ _ rfl rfl
  · subst he
    try dsimp only [gSum] at hP
    refine gRunN_ok hG.1 1 _ (124, [none, none, none, none], [.int 1], (gSh, s13, u)) rfl ?_
    cases hP
    exact hG.2.1 _ _ rfl rfl⟩
def p_Packing_setClusters_33 (E : gEv) (l2 : Int32) (l1 : Int32) (σ : gS) : Option ((Int32) ⊕ (Int32)) :=
  if (σ.1 53 15) ≤ l1 then (some (.inr l1)) else (if gIn l1 (σ.2.1 56) then if (σ.1 56 l1.toNatClampNeg) = ((-1) : Int32) then (some (.inr l1)) else (gLet (l1 + 1) fun x6 => some (.inl x6)) else none)
set_option maxRecDepth 20000 in
theorem b_Packing_setClusters_33 (E : gEv) (d u : Nat) {G : gFr → Prop} {vo : Option Value} {sr : gS} (hG : gClo E gDf gP8 gY93 none (gC E gDf gMs (d + 2)) (vo, (gSh, sr, u)) G) (l2 : Int32) (l1 : Int32) (σ : gS) {r : (Int32) ⊕ (Int32)} (hP : p_Packing_setClusters_33 E l2 l1 σ = some r) (K1 : ∀ (m1 : Int32), r = .inl m1 → G (33, [some (.ref 53), some (.int m1), some (.int l2), none], [], (gSh, σ, u))) (K2 : ∀ (m1 : Int32), r = .inr m1 → G (57, [some (.ref 53), some (.int m1), some (.int l2), none], [], (gSh, σ, u))) : G (33, [some (.ref 53), some (.int l1), some (.int l2), none], [], (gSh, σ, u)) := by
  unfold p_Packing_setClusters_33 at hP
  refine gRunN_ok hG.1 3 _ (38, [some (.ref 53), some (.int l1), some (.int l2), none], [.int (σ.1 53 15), .int l1], (gSh, σ, u)) rfl ?_
  rcases g_ite hP with ⟨hc, hP⟩ | ⟨hc, hP⟩
  · refine hG.1 _ (57, [some (.ref 53), some (.int l1), some (.int l2), none], [], (gSh, σ, u)) _ rfl (if_pos hc) ?_
    cases hP
    exact K2 _ rfl
  · refine hG.1 _ (41, [some (.ref 53), some (.int l1), some (.int l2), none], [], (gSh, σ, u)) _ rfl (if_neg hc) ?_
    refine gRunN_ok hG.1 3 _ (46, [some (.ref 53), some (.int l1), some (.int l2), none], [.int l1, .ref 56], (gSh, σ, u)) rfl ?_
    obtain ⟨hc, hP⟩ := g_if hP
    refine hG.1 _ (47, [some (.ref 53), some (.int l1), some (.int l2), none], [.int (σ.1 56 l1.toNatClampNeg)], (gSh, σ, u)) _ rfl (if_pos hc) ?_
    refine gRunN_ok hG.1 1 _ (48, [some (.ref 53), some (.int l1), some (.int l2), none], [.int (-1), .int (σ.1 56 l1.toNatClampNeg)], (gSh, σ, u)) rfl ?_
    rcases g_ite hP with ⟨hc, hP⟩ | ⟨hc, hP⟩
    · refine hG.1 _ (57, [some (.ref 53), some (.int l1), some (.int l2), none], [], (gSh, σ, u)) _ rfl (if_pos hc) ?_
      cases hP
      exact K2 _ rfl
    · refine hG.1 _ (51, [some (.ref 53), some (.int l1), some (.int l2), none], [], (gSh, σ, u)) _ rfl (if_neg hc) ?_
      refine gRunN_ok hG.1 1 _ (54, [some (.ref 53), some (.int (l1 + 1)), some (.int l2), none], [], (gSh, σ, u)) rfl ?_
      obtain ⟨x6, ex6, hP⟩ := g_let hP
      rw [← ex6]
      refine gRunN_ok hG.1 1 _ (33, [some (.ref 53), some (.int x6), some (.int l2), none], [], (gSh, σ, u)) rfl ?_
      cases hP
      exact K1 _ rfl
theorem l_Packing_setClusters_33 (E : gEv) (d u : Nat) {G : gFr → Prop} {vo : Option Value} {sr : gS} (hG : gClo E gDf gP8 gY93 none (gC E gDf gMs (d + 2)) (vo, (gSh, sr, u)) G) (l2 : Int32) (σ : gS) : ∀ (n : Nat) (l1 : Int32) (e : (Int32)), gIter (fun z => p_Packing_setClusters_33 E l2 z σ) n l1 = some e → (∀ (m1 : Int32), e = m1 → G (57, [some (.ref 53), some (.int m1), some (.int l2), none], [], (gSh, σ, u))) → G (33, [some (.ref 53), some (.int l1), some (.int l2), none], [], (gSh, σ, u)) := by
  intro n
  induction n with
  | zero => intro l1 e h; cases h
  | succ n ih =>
    intro l1 e h K2
    rcases g_iter h with ⟨z, h1, h2⟩ | h1
    · exact b_Packing_setClusters_33 E d u hG l2 l1 σ h1 (fun n0 hz => by cases hz; exact ih _ e h2 K2) (fun _ hz => by cases hz)
    · exact b_Packing_setClusters_33 E d u hG l2 l1 σ h1 (fun _ hz => by cases hz) (fun m1 hz => K2 m1 (by cases hz; rfl))
def p_Packing_setClusters_j95_25 (E : gEv) (l1 : Int32) (l2 : Int32) (l3 : Int32) (y1 : Int32) (σ : gS) : Option ((Int32 × Int32 × gS) ⊕ (gS)) :=
  gB1 (p_Packing_join E y1 l3 σ) fun s12 => gLet (l2 + 1) fun x13 => some (.inl (l1, x13, s12))
set_option maxRecDepth 20000 in
theorem j_Packing_setClusters_j95_25 (E : gEv) (d u : Nat) {G : gFr → Prop} {vo : Option Value} {sr : gS} (hG : gClo E gDf gP8 gY93 none (gC E gDf gMs (d + 2)) (vo, (gSh, sr, u)) G) (l1 : Int32) (l2 : Int32) (l3 : Int32) (y1 : Int32) (σ : gS) {r : (Int32 × Int32 × gS) ⊕ (gS)} (hP : p_Packing_setClusters_j95_25 E l1 l2 l3 y1 σ = some r) (K1 : ∀ (m1 : Int32) (m2 : Int32) (σ1 : gS), r = .inl (m1, m2, σ1) → G (25, [some (.ref 53), some (.int m1), some (.int m2), none], [], (gSh, σ1, u))) (K2 : ∀ (σ1 : gS), r = .inr σ1 → G (105, [none, none, none, none], [], (gSh, σ1, u))) : G (95, [some (.ref 53), some (.int l1), some (.int l2), some (.int l3)], [.int y1, .ref 53], (gSh, σ, u)) := by
  unfold p_Packing_setClusters_j95_25 at hP
  refine gRunN_ok hG.1 1 _ (96, [some (.ref 53), some (.int l1), some (.int l2), some (.int l3)], [.int l3, .int y1, .ref 53], (gSh, σ, u)) rfl ?_
  obtain ⟨s12, hq, hP⟩ := g_b1 hP
  refine hG.2.2.2.1 _ _ _ [.ref 53, .int y1, .int l3] [] _ (gSh, s12, u) none _ _ _ _ _ _ rfl rfl rfl rfl rfl rfl (c_Packing_join E (d + 1) u y1 l3 _  hq) (Nat.le_refl _) (Nat.le_refl _) (Nat.le_refl _) (Nat.le_refl _) ?_
  show G (99, [some (.ref 53), some (.int l1), some (.int l2), some (.int l3)], [], (gSh, s12, u))
  refine gRunN_ok hG.1 1 _ (102, [some (.ref 53), some (.int l1), some (.int (l2 + 1)), some (.int l3)], [], (gSh, s12, u)) rfl ?_
  obtain ⟨x13, ex13, hP⟩ := g_let hP
  rw [← ex13]
  refine gRunN_ok hG.1 1 _ (25, [some (.ref 53), some (.int l1), some (.int x13), some (.int l3)], [], (gSh, s12, u)) rfl ?_
  refine hG.2.2.2.2.1 _ _ [some (.ref 53), some (.int l1), some (.int x13), none] _ _ ⟨rfl, ⟨rfl, ⟨rfl, trivial⟩⟩⟩ ?_
  cases hP
  exact K1 _ _ _ rfl
def p_Packing_setClusters_j81_25 (E : gEv) (l1 : Int32) (l2 : Int32) (l3 : Int32) (σ : gS) : Option ((Int32 × Int32 × gS) ⊕ (gS)) :=
  if l3 = 0 then (p_Packing_setClusters_j95_25 E l1 l2 l3 l1 σ) else (gB1 (p_Packing_closest E l1 σ) fun v14 => p_Packing_setClusters_j95_25 E l1 l2 l3 v14 σ)
set_option maxRecDepth 20000 in
theorem j_Packing_setClusters_j81_25 (E : gEv) (d u : Nat) {G : gFr → Prop} {vo : Option Value} {sr : gS} (hG : gClo E gDf gP8 gY93 none (gC E gDf gMs (d + 2)) (vo, (gSh, sr, u)) G) (l1 : Int32) (l2 : Int32) (l3 : Int32) (σ : gS) {r : (Int32 × Int32 × gS) ⊕ (gS)} (hP : p_Packing_setClusters_j81_25 E l1 l2 l3 σ = some r) (K1 : ∀ (m1 : Int32) (m2 : Int32) (σ1 : gS), r = .inl (m1, m2, σ1) → G (25, [some (.ref 53), some (.int m1), some (.int m2), none], [], (gSh, σ1, u))) (K2 : ∀ (σ1 : gS), r = .inr σ1 → G (105, [none, none, none, none], [], (gSh, σ1, u))) : G (81, [some (.ref 53), some (.int l1), some (.int l2), some (.int l3)], [], (gSh, σ, u)) := by
  unfold p_Packing_setClusters_j81_25 at hP
  refine gRunN_ok hG.1 2 _ (83, [some (.ref 53), some (.int l1), some (.int l2), some (.int l3)], [.int l3, .ref 53], (gSh, σ, u)) rfl ?_
  rcases g_ite hP with ⟨hc, hP⟩ | ⟨hc, hP⟩
  · refine hG.1 _ (86, [some (.ref 53), some (.int l1), some (.int l2), some (.int l3)], [.ref 53], (gSh, σ, u)) _ rfl (if_pos hc) ?_
    refine gRunN_ok hG.1 2 _ (95, [some (.ref 53), some (.int l1), some (.int l2), some (.int l3)], [.int l1, .ref 53], (gSh, σ, u)) rfl ?_
    exact j_Packing_setClusters_j95_25 E d u hG l1 l2 l3 l1 σ hP K1 K2
  · refine hG.1 _ (90, [some (.ref 53), some (.int l1), some (.int l2), some (.int l3)], [.ref 53], (gSh, σ, u)) _ rfl (if_neg hc) ?_
    refine gRunN_ok hG.1 2 _ (92, [some (.ref 53), some (.int l1), some (.int l2), some (.int l3)], [.int l1, .ref 53, .ref 53], (gSh, σ, u)) rfl ?_
    obtain ⟨v14, hq, hP⟩ := g_b1 hP
    refine hG.2.2.2.1 _ _ _ [.ref 53, .int l1] [.ref 53] _ (gSh, σ, u) (some (.int v14)) _ _ _ _ _ _ rfl rfl rfl rfl rfl rfl (c_Packing_closest E (d + 0) u l1 _  hq) (Nat.le_refl _) (Nat.le_refl _) (Nat.le_refl _) (Nat.le_refl _) ?_
    show G (95, [some (.ref 53), some (.int l1), some (.int l2), some (.int l3)], [.int v14, .ref 53], (gSh, σ, u))
    exact j_Packing_setClusters_j95_25 E d u hG l1 l2 l3 v14 σ hP K1 K2
def p_Packing_setClusters_j57_25 (E : gEv) (l1 : Int32) (l2 : Int32) (σ : gS) : Option ((Int32 × Int32 × gS) ⊕ (gS)) :=
  if ¬ (σ.1 1 2) = 0 then gLet (l2 - l2 / (σ.1 1 2) * (σ.1 1 2)) fun x9 => if x9 = 0 then (gLet (gPut σ 53 16 ((σ.1 53 16) + (1 : Int32))) fun s10 => p_Packing_setClusters_j81_25 E l1 l2 x9 s10) else (p_Packing_setClusters_j81_25 E l1 l2 x9 σ) else none
set_option maxRecDepth 20000 in
theorem j_Packing_setClusters_j57_25 (E : gEv) (d u : Nat) {G : gFr → Prop} {vo : Option Value} {sr : gS} (hG : gClo E gDf gP8 gY93 none (gC E gDf gMs (d + 2)) (vo, (gSh, sr, u)) G) (l1 : Int32) (l2 : Int32) (σ : gS) {r : (Int32 × Int32 × gS) ⊕ (gS)} (hP : p_Packing_setClusters_j57_25 E l1 l2 σ = some r) (K1 : ∀ (m1 : Int32) (m2 : Int32) (σ1 : gS), r = .inl (m1, m2, σ1) → G (25, [some (.ref 53), some (.int m1), some (.int m2), none], [], (gSh, σ1, u))) (K2 : ∀ (σ1 : gS), r = .inr σ1 → G (105, [none, none, none, none], [], (gSh, σ1, u))) : G (57, [some (.ref 53), some (.int l1), some (.int l2), none], [], (gSh, σ, u)) := by
  unfold p_Packing_setClusters_j57_25 at hP
  refine gRunN_ok hG.1 4 _ (65, [some (.ref 53), some (.int l1), some (.int l2), none], [.int (σ.1 1 2), .int l2], (gSh, σ, u)) rfl ?_
  obtain ⟨hc, hP⟩ := g_if hP
  refine hG.1 _ (66, [some (.ref 53), some (.int l1), some (.int l2), none], [.int (l2 - l2 / (σ.1 1 2) * (σ.1 1 2))], (gSh, σ, u)) _ rfl (if_pos hc) ?_
  refine gRunN_ok hG.1 1 _ (67, [some (.ref 53), some (.int l1), some (.int l2), some (.int (l2 - l2 / (σ.1 1 2) * (σ.1 1 2)))], [], (gSh, σ, u)) rfl ?_
  obtain ⟨x9, ex9, hP⟩ := g_let hP
  rw [← ex9]
  refine gRunN_ok hG.1 1 _ (68, [some (.ref 53), some (.int l1), some (.int l2), some (.int x9)], [.int x9], (gSh, σ, u)) rfl ?_
  rcases g_ite hP with ⟨hc, hP⟩ | ⟨hc, hP⟩
  · refine hG.1 _ (71, [some (.ref 53), some (.int l1), some (.int l2), some (.int x9)], [], (gSh, σ, u)) _ rfl (if_pos hc) ?_
    refine gRunN_ok hG.1 6 _ (81, [some (.ref 53), some (.int l1), some (.int l2), some (.int x9)], [], (gSh, (gPut σ 53 16 ((σ.1 53 16) + (1 : Int32))), u)) rfl ?_
    obtain ⟨s10, es10, hP⟩ := g_let hP
    rw [← es10]
    exact j_Packing_setClusters_j81_25 E d u hG l1 l2 x9 s10 hP K1 K2
  · refine hG.1 _ (81, [some (.ref 53), some (.int l1), some (.int l2), some (.int x9)], [], (gSh, σ, u)) _ rfl (if_neg hc) ?_
    exact j_Packing_setClusters_j81_25 E d u hG l1 l2 x9 σ hP K1 K2
def p_Packing_setClusters_25 (E : gEv) (l1 : Int32) (l2 : Int32) (σ : gS) : Option ((Int32 × Int32 × gS) ⊕ (gS)) :=
  if (σ.1 53 15) ≤ l2 then (some (.inr σ)) else (gB1 (gIter (fun z => p_Packing_setClusters_33 E l2 z σ) gN l1) fun e7 => (fun w8 => p_Packing_setClusters_j57_25 E w8 l2 σ) e7)
set_option maxRecDepth 20000 in
theorem b_Packing_setClusters_25 (E : gEv) (d u : Nat) {G : gFr → Prop} {vo : Option Value} {sr : gS} (hG : gClo E gDf gP8 gY93 none (gC E gDf gMs (d + 2)) (vo, (gSh, sr, u)) G) (l1 : Int32) (l2 : Int32) (σ : gS) {r : (Int32 × Int32 × gS) ⊕ (gS)} (hP : p_Packing_setClusters_25 E l1 l2 σ = some r) (K1 : ∀ (m1 : Int32) (m2 : Int32) (σ1 : gS), r = .inl (m1, m2, σ1) → G (25, [some (.ref 53), some (.int m1), some (.int m2), none], [], (gSh, σ1, u))) (K2 : ∀ (σ1 : gS), r = .inr σ1 → G (105, [none, none, none, none], [], (gSh, σ1, u))) : G (25, [some (.ref 53), some (.int l1), some (.int l2), none], [], (gSh, σ, u)) := by
  unfold p_Packing_setClusters_25 at hP
  refine gRunN_ok hG.1 3 _ (30, [some (.ref 53), some (.int l1), some (.int l2), none], [.int (σ.1 53 15), .int l2], (gSh, σ, u)) rfl ?_
  rcases g_ite hP with ⟨hc, hP⟩ | ⟨hc, hP⟩
  · refine hG.1 _ (105, [some (.ref 53), some (.int l1), some (.int l2), none], [], (gSh, σ, u)) _ rfl (if_pos hc) ?_
    refine hG.2.2.2.2.1 _ _ [none, none, none, none] _ _ trivial ?_
    cases hP
    exact K2 _ rfl
  · refine hG.1 _ (33, [some (.ref 53), some (.int l1), some (.int l2), none], [], (gSh, σ, u)) _ rfl (if_neg hc) ?_
    obtain ⟨e7, hq, hP⟩ := g_b1 hP
    refine l_Packing_setClusters_33 E d u hG l2 σ gN l1 _ hq (fun w8 he => ?_)
    · replace he := he.symm
      subst he
      try dsimp only [gSum] at hP
      exact j_Packing_setClusters_j57_25 E d u hG w8 l2 σ hP K1 K2
theorem l_Packing_setClusters_25 (E : gEv) (d u : Nat) {G : gFr → Prop} {vo : Option Value} {sr : gS} (hG : gClo E gDf gP8 gY93 none (gC E gDf gMs (d + 2)) (vo, (gSh, sr, u)) G) : ∀ (n : Nat) (l1 : Int32) (l2 : Int32) (σ : gS) (e : (gS)), gIter (fun z => p_Packing_setClusters_25 E z.1 z.2.1 z.2.2) n (l1, l2, σ) = some e → (∀ (σ1 : gS), e = σ1 → G (105, [none, none, none, none], [], (gSh, σ1, u))) → G (25, [some (.ref 53), some (.int l1), some (.int l2), none], [], (gSh, σ, u)) := by
  intro n
  induction n with
  | zero => intro l1 l2 σ e h; cases h
  | succ n ih =>
    intro l1 l2 σ e h K2
    rcases g_iter h with ⟨z, h1, h2⟩ | h1
    · exact b_Packing_setClusters_25 E d u hG l1 l2 σ h1 (fun n0 n1 n2 hz => by cases hz; exact ih _ _ _ e h2 K2) (fun _ hz => by cases hz)
    · exact b_Packing_setClusters_25 E d u hG l1 l2 σ h1 (fun _ _ _ hz => by cases hz) (fun σ1 hz => K2 σ1 (by cases hz; rfl))
def p_Packing_setClusters (E : gEv) (σ : gS) : Option (gS) :=
  gB1 (p_Arrays_fillI E 56 (-1) σ) fun s2 => gB1 (p_Arrays_fillI E 66 (-1) s2) fun s4 => gLet (gPut s4 53 16 0) fun s5 => gB1 (gIter (fun z => p_Packing_setClusters_25 E z.1 z.2.1 z.2.2) gN (0, 0, s5)) fun e16 => (fun s17 => some s17) e16
set_option maxRecDepth 20000 in
theorem c_Packing_setClusters (E : gEv) (d u : Nat) (σ : gS) {sr : gS}  (hq : p_Packing_setClusters E σ = some sr) : gC E gDf gMs (d + 3) 93 [.ref 53] (gSh, σ, u) (none, (gSh, sr, u)) := ⟨gM93, rfl, Nat.le_of_ble_eq_true rfl, fun G hG => by
  have hP := hq
  unfold p_Packing_setClusters at hP
  replace hG : gClo E gDf gP8 gY93 none (gC E gDf gMs (d + 2)) (none, (gSh, sr, u)) G := hG
  show G (0, [some (.ref 53), none, none, none], [], (gSh, σ, u))
  refine gRunN_ok hG.1 3 _ (5, [some (.ref 53), none, none, none], [.int (-1), .ref 56], (gSh, σ, u)) rfl ?_
  obtain ⟨s2, hq, hP⟩ := g_b1 hP
  refine hG.2.2.2.1 _ _ _ [.ref 56, .int (-1)] [] _ (gSh, s2, u) none _ _ _ _ _ _ rfl rfl rfl rfl rfl rfl (c_Arrays_fillI E (d + 1) u 56 (-1) _ rfl hq) (Nat.le_refl _) (Nat.le_refl _) (Nat.le_refl _) (Nat.le_refl _) ?_
  show G (8, [some (.ref 53), none, none, none], [], (gSh, s2, u))
  refine gRunN_ok hG.1 3 _ (13, [some (.ref 53), none, none, none], [.int (-1), .ref 66], (gSh, s2, u)) rfl ?_
  obtain ⟨s4, hq, hP⟩ := g_b1 hP
  refine hG.2.2.2.1 _ _ _ [.ref 66, .int (-1)] [] _ (gSh, s4, u) none _ _ _ _ _ _ rfl rfl rfl rfl rfl rfl (c_Arrays_fillI E (d + 1) u 66 (-1) _ rfl hq) (Nat.le_refl _) (Nat.le_refl _) (Nat.le_refl _) (Nat.le_refl _) ?_
  show G (16, [some (.ref 53), none, none, none], [], (gSh, s4, u))
  refine gRunN_ok hG.1 3 _ (21, [some (.ref 53), none, none, none], [], (gSh, (gPut s4 53 16 0), u)) rfl ?_
  obtain ⟨s5, es5, hP⟩ := g_let hP
  rw [← es5]
  refine gRunN_ok hG.1 4 _ (25, [some (.ref 53), some (.int 0), some (.int 0), none], [], (gSh, s5, u)) rfl ?_
  obtain ⟨e16, hq, hP⟩ := g_b1 hP
  refine l_Packing_setClusters_25 E d u hG gN 0 0 s5 _ hq (fun s17 he => ?_)
  · replace he := he.symm
    subst he
    try dsimp only [gSum] at hP
    cases hP
    exact hG.2.1 _ _ rfl rfl⟩
def p_Placing_begin_2 (E : gEv) (l1 : Int32) (σ : gS) : Option ((Int32 × gS) ⊕ (gS)) :=
  if (σ.1 53 16) ≤ l1 then (some (.inr σ)) else (gB1 (p_Placing_set E l1 l1 σ) fun s2 => gLet (l1 + 1) fun x3 => some (.inl (x3, s2)))
set_option maxRecDepth 20000 in
theorem b_Placing_begin_2 (E : gEv) (d u : Nat) {G : gFr → Prop} {vo : Option Value} {sr : gS} (hG : gClo E gDf gP9 gY100 none (gC E gDf gMs (d + 2)) (vo, (gSh, sr, u)) G) (l1 : Int32) (σ : gS) {r : (Int32 × gS) ⊕ (gS)} (hP : p_Placing_begin_2 E l1 σ = some r) (K1 : ∀ (m1 : Int32) (σ1 : gS), r = .inl (m1, σ1) → G (2, [some (.ref 67), some (.int m1), none], [], (gSh, σ1, u))) (K2 : ∀ (σ1 : gS), r = .inr σ1 → G (25, [some (.ref 67), none, none], [], (gSh, σ1, u))) : G (2, [some (.ref 67), some (.int l1), none], [], (gSh, σ, u)) := by
  unfold p_Placing_begin_2 at hP
  refine gRunN_ok hG.1 4 _ (10, [some (.ref 67), some (.int l1), none], [.int (σ.1 53 16), .int l1], (gSh, σ, u)) rfl ?_
  rcases g_ite hP with ⟨hc, hP⟩ | ⟨hc, hP⟩
  · refine hG.1 _ (25, [some (.ref 67), some (.int l1), none], [], (gSh, σ, u)) _ rfl (if_pos hc) ?_
    refine hG.2.2.2.2.1 _ _ [some (.ref 67), none, none] _ _ ⟨rfl, trivial⟩ ?_
    cases hP
    exact K2 _ rfl
  · refine hG.1 _ (13, [some (.ref 67), some (.int l1), none], [], (gSh, σ, u)) _ rfl (if_neg hc) ?_
    refine gRunN_ok hG.1 3 _ (16, [some (.ref 67), some (.int l1), none], [.int l1, .int l1, .ref 67], (gSh, σ, u)) rfl ?_
    obtain ⟨s2, hq, hP⟩ := g_b1 hP
    refine hG.2.2.2.1 _ _ _ [.ref 67, .int l1, .int l1] [] _ (gSh, s2, u) none _ _ _ _ _ _ rfl rfl rfl rfl rfl rfl (c_Placing_set E (d + 1) u l1 l1 _  hq) (Nat.le_refl _) (Nat.le_refl _) (Nat.le_refl _) (Nat.le_refl _) ?_
    show G (19, [some (.ref 67), some (.int l1), none], [], (gSh, s2, u))
    refine gRunN_ok hG.1 1 _ (22, [some (.ref 67), some (.int (l1 + 1)), none], [], (gSh, s2, u)) rfl ?_
    obtain ⟨x3, ex3, hP⟩ := g_let hP
    rw [← ex3]
    refine gRunN_ok hG.1 1 _ (2, [some (.ref 67), some (.int x3), none], [], (gSh, s2, u)) rfl ?_
    cases hP
    exact K1 _ _ rfl
theorem l_Placing_begin_2 (E : gEv) (d u : Nat) {G : gFr → Prop} {vo : Option Value} {sr : gS} (hG : gClo E gDf gP9 gY100 none (gC E gDf gMs (d + 2)) (vo, (gSh, sr, u)) G) : ∀ (n : Nat) (l1 : Int32) (σ : gS) (e : (gS)), gIter (fun z => p_Placing_begin_2 E z.1 z.2) n (l1, σ) = some e → (∀ (σ1 : gS), e = σ1 → G (25, [some (.ref 67), none, none], [], (gSh, σ1, u))) → G (2, [some (.ref 67), some (.int l1), none], [], (gSh, σ, u)) := by
  intro n
  induction n with
  | zero => intro l1 σ e h; cases h
  | succ n ih =>
    intro l1 σ e h K2
    rcases g_iter h with ⟨z, h1, h2⟩ | h1
    · exact b_Placing_begin_2 E d u hG l1 σ h1 (fun n0 n1 hz => by cases hz; exact ih _ _ e h2 K2) (fun _ hz => by cases hz)
    · exact b_Placing_begin_2 E d u hG l1 σ h1 (fun _ _ hz => by cases hz) (fun σ1 hz => K2 σ1 (by cases hz; rfl))
def p_Placing_begin_38 (E : gEv) (l1 : Int32) (l2 : Int32) (σ : gS) : Option ((Int32 × gS) ⊕ (gS)) :=
  if l1 ≤ l2 then (some (.inr σ)) else (gB1 (p_Placing_set E ((σ.1 1 4) + l2) ((σ.1 1 4) + l2) σ) fun s8 => gLet (l2 + 1) fun x9 => some (.inl (x9, s8)))
set_option maxRecDepth 20000 in
theorem b_Placing_begin_38 (E : gEv) (d u : Nat) {G : gFr → Prop} {vo : Option Value} {sr : gS} (hG : gClo E gDf gP9 gY100 none (gC E gDf gMs (d + 2)) (vo, (gSh, sr, u)) G) (l1 : Int32) (l2 : Int32) (σ : gS) {r : (Int32 × gS) ⊕ (gS)} (hP : p_Placing_begin_38 E l1 l2 σ = some r) (K1 : ∀ (m2 : Int32) (σ1 : gS), r = .inl (m2, σ1) → G (38, [some (.ref 67), some (.int l1), some (.int m2)], [], (gSh, σ1, u))) (K2 : ∀ (σ1 : gS), r = .inr σ1 → G (71, [some (.ref 67), some (.int l1), none], [], (gSh, σ1, u))) : G (38, [some (.ref 67), some (.int l1), some (.int l2)], [], (gSh, σ, u)) := by
  unfold p_Placing_begin_38 at hP
  refine gRunN_ok hG.1 2 _ (40, [some (.ref 67), some (.int l1), some (.int l2)], [.int l1, .int l2], (gSh, σ, u)) rfl ?_
  rcases g_ite hP with ⟨hc, hP⟩ | ⟨hc, hP⟩
  · refine hG.1 _ (71, [some (.ref 67), some (.int l1), some (.int l2)], [], (gSh, σ, u)) _ rfl (if_pos hc) ?_
    refine hG.2.2.2.2.1 _ _ [some (.ref 67), some (.int l1), none] _ _ ⟨rfl, ⟨rfl, trivial⟩⟩ ?_
    cases hP
    exact K2 _ rfl
  · refine hG.1 _ (43, [some (.ref 67), some (.int l1), some (.int l2)], [], (gSh, σ, u)) _ rfl (if_neg hc) ?_
    refine gRunN_ok hG.1 11 _ (62, [some (.ref 67), some (.int l1), some (.int l2)], [.int ((σ.1 1 4) + l2), .int ((σ.1 1 4) + l2), .ref 67], (gSh, σ, u)) rfl ?_
    obtain ⟨s8, hq, hP⟩ := g_b1 hP
    refine hG.2.2.2.1 _ _ _ [.ref 67, .int ((σ.1 1 4) + l2), .int ((σ.1 1 4) + l2)] [] _ (gSh, s8, u) none _ _ _ _ _ _ rfl rfl rfl rfl rfl rfl (c_Placing_set E (d + 1) u ((σ.1 1 4) + l2) ((σ.1 1 4) + l2) _  hq) (Nat.le_refl _) (Nat.le_refl _) (Nat.le_refl _) (Nat.le_refl _) ?_
    show G (65, [some (.ref 67), some (.int l1), some (.int l2)], [], (gSh, s8, u))
    refine gRunN_ok hG.1 1 _ (68, [some (.ref 67), some (.int l1), some (.int (l2 + 1))], [], (gSh, s8, u)) rfl ?_
    obtain ⟨x9, ex9, hP⟩ := g_let hP
    rw [← ex9]
    refine gRunN_ok hG.1 1 _ (38, [some (.ref 67), some (.int l1), some (.int x9)], [], (gSh, s8, u)) rfl ?_
    cases hP
    exact K1 _ _ rfl
theorem l_Placing_begin_38 (E : gEv) (d u : Nat) {G : gFr → Prop} {vo : Option Value} {sr : gS} (hG : gClo E gDf gP9 gY100 none (gC E gDf gMs (d + 2)) (vo, (gSh, sr, u)) G) (l1 : Int32) : ∀ (n : Nat) (l2 : Int32) (σ : gS) (e : (gS)), gIter (fun z => p_Placing_begin_38 E l1 z.1 z.2) n (l2, σ) = some e → (∀ (σ1 : gS), e = σ1 → G (71, [some (.ref 67), some (.int l1), none], [], (gSh, σ1, u))) → G (38, [some (.ref 67), some (.int l1), some (.int l2)], [], (gSh, σ, u)) := by
  intro n
  induction n with
  | zero => intro l2 σ e h; cases h
  | succ n ih =>
    intro l2 σ e h K2
    rcases g_iter h with ⟨z, h1, h2⟩ | h1
    · exact b_Placing_begin_38 E d u hG l1 l2 σ h1 (fun n0 n1 hz => by cases hz; exact ih _ _ e h2 K2) (fun _ hz => by cases hz)
    · exact b_Placing_begin_38 E d u hG l1 l2 σ h1 (fun _ _ hz => by cases hz) (fun σ1 hz => K2 σ1 (by cases hz; rfl))
def p_Placing_begin_73 (E : gEv) (l1 : Int32) (l2 : Int32) (σ : gS) : Option ((Int32 × gS) ⊕ (gS)) :=
  if (σ.1 30 13) ≤ l2 then (some (.inr σ)) else (gB1 (p_Placing_set E (((σ.1 1 4) + l1) + l2) (((σ.1 1 4) + (σ.1 1 5)) + l2) σ) fun s13 => gLet (l2 + 1) fun x14 => some (.inl (x14, s13)))
set_option maxRecDepth 20000 in
theorem b_Placing_begin_73 (E : gEv) (d u : Nat) {G : gFr → Prop} {vo : Option Value} {sr : gS} (hG : gClo E gDf gP9 gY100 none (gC E gDf gMs (d + 2)) (vo, (gSh, sr, u)) G) (l1 : Int32) (l2 : Int32) (σ : gS) {r : (Int32 × gS) ⊕ (gS)} (hP : p_Placing_begin_73 E l1 l2 σ = some r) (K1 : ∀ (m2 : Int32) (σ1 : gS), r = .inl (m2, σ1) → G (73, [some (.ref 67), some (.int l1), some (.int m2)], [], (gSh, σ1, u))) (K2 : ∀ (σ1 : gS), r = .inr σ1 → G (125, [some (.ref 67), none, none], [], (gSh, σ1, u))) : G (73, [some (.ref 67), some (.int l1), some (.int l2)], [], (gSh, σ, u)) := by
  unfold p_Placing_begin_73 at hP
  refine gRunN_ok hG.1 5 _ (84, [some (.ref 67), some (.int l1), some (.int l2)], [.int (σ.1 30 13), .int l2], (gSh, σ, u)) rfl ?_
  rcases g_ite hP with ⟨hc, hP⟩ | ⟨hc, hP⟩
  · refine hG.1 _ (125, [some (.ref 67), some (.int l1), some (.int l2)], [], (gSh, σ, u)) _ rfl (if_pos hc) ?_
    refine hG.2.2.2.2.1 _ _ [some (.ref 67), none, none] _ _ ⟨rfl, trivial⟩ ?_
    cases hP
    exact K2 _ rfl
  · refine hG.1 _ (87, [some (.ref 67), some (.int l1), some (.int l2)], [], (gSh, σ, u)) _ rfl (if_neg hc) ?_
    refine gRunN_ok hG.1 17 _ (116, [some (.ref 67), some (.int l1), some (.int l2)], [.int (((σ.1 1 4) + (σ.1 1 5)) + l2), .int (((σ.1 1 4) + l1) + l2), .ref 67], (gSh, σ, u)) rfl ?_
    obtain ⟨s13, hq, hP⟩ := g_b1 hP
    refine hG.2.2.2.1 _ _ _ [.ref 67, .int (((σ.1 1 4) + l1) + l2), .int (((σ.1 1 4) + (σ.1 1 5)) + l2)] [] _ (gSh, s13, u) none _ _ _ _ _ _ rfl rfl rfl rfl rfl rfl (c_Placing_set E (d + 1) u (((σ.1 1 4) + l1) + l2) (((σ.1 1 4) + (σ.1 1 5)) + l2) _  hq) (Nat.le_refl _) (Nat.le_refl _) (Nat.le_refl _) (Nat.le_refl _) ?_
    show G (119, [some (.ref 67), some (.int l1), some (.int l2)], [], (gSh, s13, u))
    refine gRunN_ok hG.1 1 _ (122, [some (.ref 67), some (.int l1), some (.int (l2 + 1))], [], (gSh, s13, u)) rfl ?_
    obtain ⟨x14, ex14, hP⟩ := g_let hP
    rw [← ex14]
    refine gRunN_ok hG.1 1 _ (73, [some (.ref 67), some (.int l1), some (.int x14)], [], (gSh, s13, u)) rfl ?_
    cases hP
    exact K1 _ _ rfl
theorem l_Placing_begin_73 (E : gEv) (d u : Nat) {G : gFr → Prop} {vo : Option Value} {sr : gS} (hG : gClo E gDf gP9 gY100 none (gC E gDf gMs (d + 2)) (vo, (gSh, sr, u)) G) (l1 : Int32) : ∀ (n : Nat) (l2 : Int32) (σ : gS) (e : (gS)), gIter (fun z => p_Placing_begin_73 E l1 z.1 z.2) n (l2, σ) = some e → (∀ (σ1 : gS), e = σ1 → G (125, [some (.ref 67), none, none], [], (gSh, σ1, u))) → G (73, [some (.ref 67), some (.int l1), some (.int l2)], [], (gSh, σ, u)) := by
  intro n
  induction n with
  | zero => intro l2 σ e h; cases h
  | succ n ih =>
    intro l2 σ e h K2
    rcases g_iter h with ⟨z, h1, h2⟩ | h1
    · exact b_Placing_begin_73 E d u hG l1 l2 σ h1 (fun n0 n1 hz => by cases hz; exact ih _ _ e h2 K2) (fun _ hz => by cases hz)
    · exact b_Placing_begin_73 E d u hG l1 l2 σ h1 (fun _ _ hz => by cases hz) (fun σ1 hz => K2 σ1 (by cases hz; rfl))
def p_Placing_begin (E : gEv) (σ : gS) : Option (gS) :=
  gB1 (gIter (fun z => p_Placing_begin_2 E z.1 z.2) gN (0, σ)) fun e4 => (fun s5 => gLet (s5.1 30 12) fun x6 => gB1 (gIter (fun z => p_Placing_begin_38 E x6 z.1 z.2) gN (0, s5)) fun e10 => (fun s11 => gB1 (gIter (fun z => p_Placing_begin_73 E x6 z.1 z.2) gN (0, s11)) fun e15 => (fun s16 => gB1 (p_Placing_measure E s16) fun v17 => gLet (gPut s16 67 4 v17) fun s19 => some s19) e15) e10) e4
set_option maxRecDepth 20000 in
theorem c_Placing_begin (E : gEv) (d u : Nat) (σ : gS) {sr : gS}  (hq : p_Placing_begin E σ = some sr) : gC E gDf gMs (d + 3) 100 [.ref 67] (gSh, σ, u) (none, (gSh, sr, u)) := ⟨gM100, rfl, Nat.le_of_ble_eq_true rfl, fun G hG => by
  have hP := hq
  unfold p_Placing_begin at hP
  replace hG : gClo E gDf gP9 gY100 none (gC E gDf gMs (d + 2)) (none, (gSh, sr, u)) G := hG
  show G (0, [some (.ref 67), none, none], [], (gSh, σ, u))
  refine gRunN_ok hG.1 2 _ (2, [some (.ref 67), some (.int 0), none], [], (gSh, σ, u)) rfl ?_
  obtain ⟨e4, hq, hP⟩ := g_b1 hP
  refine l_Placing_begin_2 E d u hG gN 0 σ _ hq (fun s5 he => ?_)
  · replace he := he.symm
    subst he
    try dsimp only [gSum] at hP
    refine gRunN_ok hG.1 5 _ (36, [some (.ref 67), some (.int (s5.1 30 12)), none], [], (gSh, s5, u)) rfl ?_
    obtain ⟨x6, ex6, hP⟩ := g_let hP
    rw [← ex6]
    refine gRunN_ok hG.1 2 _ (38, [some (.ref 67), some (.int x6), some (.int 0)], [], (gSh, s5, u)) rfl ?_
    obtain ⟨e10, hq, hP⟩ := g_b1 hP
    refine l_Placing_begin_38 E d u hG x6 gN 0 s5 _ hq (fun s11 he => ?_)
    · replace he := he.symm
      subst he
      try dsimp only [gSum] at hP
      refine gRunN_ok hG.1 2 _ (73, [some (.ref 67), some (.int x6), some (.int 0)], [], (gSh, s11, u)) rfl ?_
      obtain ⟨e15, hq, hP⟩ := g_b1 hP
      refine l_Placing_begin_73 E d u hG x6 gN 0 s11 _ hq (fun s16 he => ?_)
      · replace he := he.symm
        subst he
        try dsimp only [gSum] at hP
        refine gRunN_ok hG.1 2 _ (127, [some (.ref 67), none, none], [.ref 67, .ref 67], (gSh, s16, u)) rfl ?_
        obtain ⟨v17, hq, hP⟩ := g_b1 hP
        refine hG.2.2.2.1 _ _ _ [.ref 67] [.ref 67] _ (gSh, s16, u) (some (.int v17)) _ _ _ _ _ _ rfl rfl rfl rfl rfl rfl (c_Placing_measure E (d + 0) u _  hq) (Nat.le_refl _) (Nat.le_refl _) (Nat.le_refl _) (Nat.le_refl _) ?_
        show G (130, [some (.ref 67), none, none], [.int v17, .ref 67], (gSh, s16, u))
        refine gRunN_ok hG.1 1 _ (133, [some (.ref 67), none, none], [], (gSh, (gPut s16 67 4 v17), u)) rfl ?_
        obtain ⟨s19, es19, hP⟩ := g_let hP
        rw [← es19]
        cases hP
        exact hG.2.1 _ _ rfl rfl⟩
