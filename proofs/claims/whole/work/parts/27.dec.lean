def p_Router_wiresHad_4 (E : gEv) (l1 : Int32) (l2 : Int32) (σ : gS) : Option ((Int32 × Int32) ⊕ (Int32)) :=
  if (σ.1 53 17) ≤ l2 then (some (.inr l1)) else (gB1 (p_Router_wiresOf E l2 σ) fun v1 => gLet (l1 + v1) fun x3 => gLet (l2 + 1) fun x4 => some (.inl (x3, x4)))
set_option maxRecDepth 20000 in
theorem b_Router_wiresHad_4 (E : gEv) (d u : Nat) {G : gFr → Prop} {vo : Option Value} {sr : gS} (hG : gClo E gDf gP10 gY106 (some .int) (gC E gDf gMs (d + 2)) (vo, (gSh, sr, u)) G) (l1 : Int32) (l2 : Int32) (σ : gS) {r : (Int32 × Int32) ⊕ (Int32)} (hP : p_Router_wiresHad_4 E l1 l2 σ = some r) (K1 : ∀ (m1 : Int32) (m2 : Int32), r = .inl (m1, m2) → G (4, [some (.ref 70), some (.int m1), some (.int m2)], [], (gSh, σ, u))) (K2 : ∀ (m1 : Int32), r = .inr m1 → G (29, [none, some (.int m1), none], [], (gSh, σ, u))) : G (4, [some (.ref 70), some (.int l1), some (.int l2)], [], (gSh, σ, u)) := by
  unfold p_Router_wiresHad_4 at hP
  refine gRunN_ok hG.1 4 _ (12, [some (.ref 70), some (.int l1), some (.int l2)], [.int (σ.1 53 17), .int l2], (gSh, σ, u)) rfl ?_
  rcases g_ite hP with ⟨hc, hP⟩ | ⟨hc, hP⟩
  · refine hG.1 _ (29, [some (.ref 70), some (.int l1), some (.int l2)], [], (gSh, σ, u)) _ rfl (if_pos hc) ?_
    refine hG.2.2.2.2.1 _ _ [none, some (.int l1), none] _ _ ⟨rfl, trivial⟩ ?_
    cases hP
    exact K2 _ rfl
  · refine hG.1 _ (15, [some (.ref 70), some (.int l1), some (.int l2)], [], (gSh, σ, u)) _ rfl (if_neg hc) ?_
    refine gRunN_ok hG.1 3 _ (18, [some (.ref 70), some (.int l1), some (.int l2)], [.int l2, .ref 70, .int l1], (gSh, σ, u)) rfl ?_
    obtain ⟨v1, hq, hP⟩ := g_b1 hP
    refine hG.2.2.2.1 _ _ _ [.ref 70, .int l2] [.int l1] _ (gSh, σ, u) (some (.int v1)) _ _ _ _ _ _ rfl rfl rfl rfl rfl rfl (c_Router_wiresOf E (d + 0) u l2 _  hq) (Nat.le_refl _) (Nat.le_refl _) (Nat.le_refl _) (Nat.le_refl _) ?_
    show G (21, [some (.ref 70), some (.int l1), some (.int l2)], [.int v1, .int l1], (gSh, σ, u))
    refine gRunN_ok hG.1 2 _ (23, [some (.ref 70), some (.int (l1 + v1)), some (.int l2)], [], (gSh, σ, u)) rfl ?_
    obtain ⟨x3, ex3, hP⟩ := g_let hP
    rw [← ex3]
    refine gRunN_ok hG.1 1 _ (26, [some (.ref 70), some (.int x3), some (.int (l2 + 1))], [], (gSh, σ, u)) rfl ?_
    obtain ⟨x4, ex4, hP⟩ := g_let hP
    rw [← ex4]
    refine gRunN_ok hG.1 1 _ (4, [some (.ref 70), some (.int x3), some (.int x4)], [], (gSh, σ, u)) rfl ?_
    cases hP
    exact K1 _ _ rfl
theorem l_Router_wiresHad_4 (E : gEv) (d u : Nat) {G : gFr → Prop} {vo : Option Value} {sr : gS} (hG : gClo E gDf gP10 gY106 (some .int) (gC E gDf gMs (d + 2)) (vo, (gSh, sr, u)) G) (σ : gS) : ∀ (n : Nat) (l1 : Int32) (l2 : Int32) (e : (Int32)), gIter (fun z => p_Router_wiresHad_4 E z.1 z.2 σ) n (l1, l2) = some e → (∀ (m1 : Int32), e = m1 → G (29, [none, some (.int m1), none], [], (gSh, σ, u))) → G (4, [some (.ref 70), some (.int l1), some (.int l2)], [], (gSh, σ, u)) := by
  intro n
  induction n with
  | zero => intro l1 l2 e h; cases h
  | succ n ih =>
    intro l1 l2 e h K2
    rcases g_iter h with ⟨z, h1, h2⟩ | h1
    · exact b_Router_wiresHad_4 E d u hG l1 l2 σ h1 (fun n0 n1 hz => by cases hz; exact ih _ _ e h2 K2) (fun _ hz => by cases hz)
    · exact b_Router_wiresHad_4 E d u hG l1 l2 σ h1 (fun _ _ hz => by cases hz) (fun m1 hz => K2 m1 (by cases hz; rfl))
def p_Router_wiresHad (E : gEv) (σ : gS) : Option (Int32) :=
  gB1 (gIter (fun z => p_Router_wiresHad_4 E z.1 z.2 σ) gN (0, 0)) fun e5 => (fun w6 => some w6) e5
set_option maxRecDepth 20000 in
theorem c_Router_wiresHad (E : gEv) (d u : Nat) (σ : gS) {v : Int32}  (hq : p_Router_wiresHad E σ = some v) : gC E gDf gMs (d + 3) 106 [.ref 70] (gSh, σ, u) (some (.int v), (gSh, σ, u)) := ⟨gM106, rfl, Nat.le_of_ble_eq_true rfl, fun G hG => by
  have hP := hq
  unfold p_Router_wiresHad at hP
  replace hG : gClo E gDf gP10 gY106 (some .int) (gC E gDf gMs (d + 2)) (some (.int v), (gSh, σ, u)) G := hG
  show G (0, [some (.ref 70), none, none], [], (gSh, σ, u))
  refine gRunN_ok hG.1 4 _ (4, [some (.ref 70), some (.int 0), some (.int 0)], [], (gSh, σ, u)) rfl ?_
  obtain ⟨e5, hq, hP⟩ := g_b1 hP
  refine l_Router_wiresHad_4 E d u hG σ gN 0 0 _ hq (fun w6 he => ?_)
  · replace he := he.symm
    subst he
    try dsimp only [gSum] at hP
    refine gRunN_ok hG.1 1 _ (30, [none, some (.int w6), none], [.int w6], (gSh, σ, u)) rfl ?_
    cases hP
    exact hG.2.1 _ _ rfl rfl⟩
def p_Face_net (E : gEv) (a0 : Int32) (a1 : Int32) (σ : gS) : Option (Int32) :=
  if a0 < 0 then (some (-1)) else (if (σ.1 53 17) ≤ a0 then (some (-1)) else (if 0 ≤ a1 then (if gIn a0 (σ.2.1 62) then gLet (σ.1 62 a0.toNatClampNeg) fun x1 => if gIn (a0 + (1 : Int32)) (σ.2.1 62) then gLet ((σ.1 62 (a0 + (1 : Int32)).toNatClampNeg) - x1) fun x2 => if a1 = 0 then (if gIn a0 (σ.2.1 60) then some (σ.1 60 a0.toNatClampNeg) else none) else if a1 = 1 then (some x2) else if a1 = 2 then (gB1 (p_Router_wiresOf E a0 σ) fun v3 => some v3) else (if x2 ≤ (a1 - (3 : Int32)) then (some (-1)) else (gB1 (p_Router_endOf E ((x1 + a1) - (3 : Int32)) σ) fun v5 => some v5)) else none else none) else (some (-1))))
set_option maxRecDepth 20000 in
theorem c_Face_net (E : gEv) (d u : Nat) (a0 : Int32) (a1 : Int32) (σ : gS) {v : Int32}  (hq : p_Face_net E a0 a1 σ = some v) : gC E gDf gMs (d + 3) 111 [.ref 0, .int a0, .int a1] (gSh, σ, u) (some (.int v), (gSh, σ, u)) := ⟨gM111, rfl, Nat.le_of_ble_eq_true rfl, fun G hG => by
  have hP := hq
  unfold p_Face_net at hP
  replace hG : gClo E gDf gP0 gY111 (some .int) (gC E gDf gMs (d + 2)) (some (.int v), (gSh, σ, u)) G := hG
  show G (0, [some (.ref 0), some (.int a0), some (.int a1), none, none], [], (gSh, σ, u))
  refine gRunN_ok hG.1 1 _ (1, [some (.ref 0), some (.int a0), some (.int a1), none, none], [.int a0], (gSh, σ, u)) rfl ?_
  rcases g_ite hP with ⟨hc, hP⟩ | ⟨hc, hP⟩
  · refine hG.1 _ (19, [some (.ref 0), some (.int a0), some (.int a1), none, none], [], (gSh, σ, u)) _ rfl (if_pos hc) ?_
    refine gRunN_ok hG.1 1 _ (20, [some (.ref 0), some (.int a0), some (.int a1), none, none], [.int (-1)], (gSh, σ, u)) rfl ?_
    cases hP
    exact hG.2.1 _ _ rfl rfl
  · refine hG.1 _ (4, [some (.ref 0), some (.int a0), some (.int a1), none, none], [], (gSh, σ, u)) _ rfl (if_neg hc) ?_
    refine gRunN_ok hG.1 4 _ (12, [some (.ref 0), some (.int a0), some (.int a1), none, none], [.int (σ.1 53 17), .int a0], (gSh, σ, u)) rfl ?_
    rcases g_ite hP with ⟨hc, hP⟩ | ⟨hc, hP⟩
    · refine hG.1 _ (19, [some (.ref 0), some (.int a0), some (.int a1), none, none], [], (gSh, σ, u)) _ rfl (if_pos hc) ?_
      refine gRunN_ok hG.1 1 _ (20, [some (.ref 0), some (.int a0), some (.int a1), none, none], [.int (-1)], (gSh, σ, u)) rfl ?_
      cases hP
      exact hG.2.1 _ _ rfl rfl
    · refine hG.1 _ (15, [some (.ref 0), some (.int a0), some (.int a1), none, none], [], (gSh, σ, u)) _ rfl (if_neg hc) ?_
      refine gRunN_ok hG.1 1 _ (16, [some (.ref 0), some (.int a0), some (.int a1), none, none], [.int a1], (gSh, σ, u)) rfl ?_
      rcases g_ite hP with ⟨hc, hP⟩ | ⟨hc, hP⟩
      · refine hG.1 _ (21, [some (.ref 0), some (.int a0), some (.int a1), none, none], [], (gSh, σ, u)) _ rfl (if_pos hc) ?_
        refine gRunN_ok hG.1 4 _ (29, [some (.ref 0), some (.int a0), some (.int a1), none, none], [.int a0, .ref 62], (gSh, σ, u)) rfl ?_
        obtain ⟨hc, hP⟩ := g_if hP
        refine hG.1 _ (30, [some (.ref 0), some (.int a0), some (.int a1), none, none], [.int (σ.1 62 a0.toNatClampNeg)], (gSh, σ, u)) _ rfl (if_pos hc) ?_
        refine gRunN_ok hG.1 1 _ (31, [some (.ref 0), some (.int a0), some (.int a1), some (.int (σ.1 62 a0.toNatClampNeg)), none], [], (gSh, σ, u)) rfl ?_
        obtain ⟨x1, ex1, hP⟩ := g_let hP
        rw [← ex1]
        refine gRunN_ok hG.1 6 _ (41, [some (.ref 0), some (.int a0), some (.int a1), some (.int x1), none], [.int (a0 + (1 : Int32)), .ref 62], (gSh, σ, u)) rfl ?_
        obtain ⟨hc, hP⟩ := g_if hP
        refine hG.1 _ (42, [some (.ref 0), some (.int a0), some (.int a1), some (.int x1), none], [.int (σ.1 62 (a0 + (1 : Int32)).toNatClampNeg)], (gSh, σ, u)) _ rfl (if_pos hc) ?_
        refine gRunN_ok hG.1 3 _ (46, [some (.ref 0), some (.int a0), some (.int a1), some (.int x1), some (.int ((σ.1 62 (a0 + (1 : Int32)).toNatClampNeg) - x1))], [], (gSh, σ, u)) rfl ?_
        obtain ⟨x2, ex2, hP⟩ := g_let hP
        rw [← ex2]
        refine gRunN_ok hG.1 1 _ (47, [some (.ref 0), some (.int a0), some (.int a1), some (.int x1), some (.int x2)], [.int a1], (gSh, σ, u)) rfl ?_
        rcases g_ite hP with ⟨hc0, hP⟩ | ⟨hc0, hP⟩
        · refine hG.1 _ (72, [some (.ref 0), some (.int a0), some (.int a1), some (.int x1), some (.int x2)], [], (gSh, σ, u)) _ rfl (if_pos hc0) ?_
          refine gRunN_ok hG.1 4 _ (80, [some (.ref 0), some (.int a0), some (.int a1), some (.int x1), some (.int x2)], [.int a0, .ref 60], (gSh, σ, u)) rfl ?_
          obtain ⟨hc, hP⟩ := g_if hP
          refine hG.1 _ (81, [some (.ref 0), some (.int a0), some (.int a1), some (.int x1), some (.int x2)], [.int (σ.1 60 a0.toNatClampNeg)], (gSh, σ, u)) _ rfl (if_pos hc) ?_
          cases hP
          exact hG.2.1 _ _ rfl rfl
        rcases g_ite hP with ⟨hc1, hP⟩ | ⟨hc1, hP⟩
        · refine hG.1 _ (82, [some (.ref 0), some (.int a0), some (.int a1), some (.int x1), some (.int x2)], [], (gSh, σ, u)) _ rfl ((if_neg hc0).trans (if_pos hc1)) ?_
          refine gRunN_ok hG.1 1 _ (84, [some (.ref 0), some (.int a0), some (.int a1), some (.int x1), some (.int x2)], [.int x2], (gSh, σ, u)) rfl ?_
          cases hP
          exact hG.2.1 _ _ rfl rfl
        rcases g_ite hP with ⟨hc2, hP⟩ | ⟨hc2, hP⟩
        · refine hG.1 _ (85, [some (.ref 0), some (.int a0), some (.int a1), some (.int x1), some (.int x2)], [], (gSh, σ, u)) _ rfl ((if_neg hc0).trans ((if_neg hc1).trans (if_pos hc2))) ?_
          refine gRunN_ok hG.1 3 _ (90, [some (.ref 0), some (.int a0), some (.int a1), some (.int x1), some (.int x2)], [.int a0, .ref 70], (gSh, σ, u)) rfl ?_
          obtain ⟨v3, hq, hP⟩ := g_b1 hP
          refine hG.2.2.2.1 _ _ _ [.ref 70, .int a0] [] _ (gSh, σ, u) (some (.int v3)) _ _ _ _ _ _ rfl rfl rfl rfl rfl rfl (c_Router_wiresOf E (d + 0) u a0 _  hq) (Nat.le_refl _) (Nat.le_refl _) (Nat.le_refl _) (Nat.le_refl _) ?_
          show G (93, [some (.ref 0), some (.int a0), some (.int a1), some (.int x1), some (.int x2)], [.int v3], (gSh, σ, u))
          cases hP
          exact hG.2.1 _ _ rfl rfl
        · refine hG.1 _ (94, [some (.ref 0), some (.int a0), some (.int a1), some (.int x1), some (.int x2)], [], (gSh, σ, u)) _ rfl ((if_neg hc0).trans ((if_neg hc1).trans ((if_neg hc2).trans rfl))) ?_
          refine gRunN_ok hG.1 4 _ (99, [some (.ref 0), some (.int a0), some (.int a1), some (.int x1), some (.int x2)], [.int x2, .int (a1 - (3 : Int32))], (gSh, σ, u)) rfl ?_
          rcases g_ite hP with ⟨hc, hP⟩ | ⟨hc, hP⟩
          · refine hG.1 _ (117, [some (.ref 0), some (.int a0), some (.int a1), some (.int x1), some (.int x2)], [], (gSh, σ, u)) _ rfl (if_pos hc) ?_
            refine gRunN_ok hG.1 1 _ (118, [some (.ref 0), some (.int a0), some (.int a1), some (.int x1), some (.int x2)], [.int (-1)], (gSh, σ, u)) rfl ?_
            cases hP
            exact hG.2.1 _ _ rfl rfl
          · refine hG.1 _ (102, [some (.ref 0), some (.int a0), some (.int a1), some (.int x1), some (.int x2)], [], (gSh, σ, u)) _ rfl (if_neg hc) ?_
            refine gRunN_ok hG.1 7 _ (111, [some (.ref 0), some (.int a0), some (.int a1), some (.int x1), some (.int x2)], [.int ((x1 + a1) - (3 : Int32)), .ref 70], (gSh, σ, u)) rfl ?_
            obtain ⟨v5, hq, hP⟩ := g_b1 hP
            refine hG.2.2.2.1 _ _ _ [.ref 70, .int ((x1 + a1) - (3 : Int32))] [] _ (gSh, σ, u) (some (.int v5)) _ _ _ _ _ _ rfl rfl rfl rfl rfl rfl (c_Router_endOf E (d + 1) u ((x1 + a1) - (3 : Int32)) _  hq) (Nat.le_refl _) (Nat.le_refl _) (Nat.le_refl _) (Nat.le_refl _) ?_
            show G (114, [some (.ref 0), some (.int a0), some (.int a1), some (.int x1), some (.int x2)], [.int v5], (gSh, σ, u))
            refine gRunN_ok hG.1 1 _ (118, [some (.ref 0), some (.int a0), some (.int a1), some (.int x1), some (.int x2)], [.int v5], (gSh, σ, u)) rfl ?_
            cases hP
            exact hG.2.1 _ _ rfl rfl
      · refine hG.1 _ (19, [some (.ref 0), some (.int a0), some (.int a1), none, none], [], (gSh, σ, u)) _ rfl (if_neg hc) ?_
        refine gRunN_ok hG.1 1 _ (20, [some (.ref 0), some (.int a0), some (.int a1), none, none], [.int (-1)], (gSh, σ, u)) rfl ?_
        cases hP
        exact hG.2.1 _ _ rfl rfl⟩
def p_Placing_exchange (E : gEv) (a0 : Int32) (a1 : Int32) (a2 : Int32) (σ : gS) : Option (gS) :=
  if gIn a0 (σ.2.1 68) then if gIn a1 (σ.2.1 68) then if (σ.1 68 a0.toNatClampNeg) = (σ.1 68 a1.toNatClampNeg) then (some σ) else (gB1 (p_Placing_turn E a0 a1 σ) fun s2 => gB1 (p_Placing_measure E s2) fun v3 => if (v3 - (s2.1 67 4)) ≤ a2 then (gLet (gPut s2 67 4 v3) fun s5 => some s5) else (gB1 (p_Placing_turn E a0 a1 s2) fun s7 => some s7)) else none else none
set_option maxRecDepth 20000 in
theorem c_Placing_exchange (E : gEv) (d u : Nat) (a0 : Int32) (a1 : Int32) (a2 : Int32) (σ : gS) {sr : gS}  (hq : p_Placing_exchange E a0 a1 a2 σ = some sr) : gC E gDf gMs (d + 3) 116 [.ref 67, .int a0, .int a1, .int a2] (gSh, σ, u) (none, (gSh, sr, u)) := ⟨gM116, rfl, Nat.le_of_ble_eq_true rfl, fun G hG => by
  have hP := hq
  unfold p_Placing_exchange at hP
  replace hG : gClo E gDf gP9 gY116 none (gC E gDf gMs (d + 2)) (none, (gSh, sr, u)) G := hG
  show G (0, [some (.ref 67), some (.int a0), some (.int a1), some (.int a2), none], [], (gSh, σ, u))
  refine gRunN_ok hG.1 3 _ (5, [some (.ref 67), some (.int a0), some (.int a1), some (.int a2), none], [.int a0, .ref 68], (gSh, σ, u)) rfl ?_
  obtain ⟨hc, hP⟩ := g_if hP
  refine hG.1 _ (6, [some (.ref 67), some (.int a0), some (.int a1), some (.int a2), none], [.int (σ.1 68 a0.toNatClampNeg)], (gSh, σ, u)) _ rfl (if_pos hc) ?_
  refine gRunN_ok hG.1 3 _ (11, [some (.ref 67), some (.int a0), some (.int a1), some (.int a2), none], [.int a1, .ref 68, .int (σ.1 68 a0.toNatClampNeg)], (gSh, σ, u)) rfl ?_
  obtain ⟨hc, hP⟩ := g_if hP
  refine hG.1 _ (12, [some (.ref 67), some (.int a0), some (.int a1), some (.int a2), none], [.int (σ.1 68 a1.toNatClampNeg), .int (σ.1 68 a0.toNatClampNeg)], (gSh, σ, u)) _ rfl (if_pos hc) ?_
  rcases g_ite hP with ⟨hc, hP⟩ | ⟨hc, hP⟩
  · refine hG.1 _ (15, [some (.ref 67), some (.int a0), some (.int a1), some (.int a2), none], [], (gSh, σ, u)) _ rfl (if_pos hc) ?_
    cases hP
    exact hG.2.1 _ _ rfl rfl
  · refine hG.1 _ (16, [some (.ref 67), some (.int a0), some (.int a1), some (.int a2), none], [], (gSh, σ, u)) _ rfl (if_neg hc) ?_
    refine gRunN_ok hG.1 3 _ (19, [some (.ref 67), some (.int a0), some (.int a1), some (.int a2), none], [.int a1, .int a0, .ref 67], (gSh, σ, u)) rfl ?_
    obtain ⟨s2, hq, hP⟩ := g_b1 hP
    refine hG.2.2.2.1 _ _ _ [.ref 67, .int a0, .int a1] [] _ (gSh, s2, u) none _ _ _ _ _ _ rfl rfl rfl rfl rfl rfl (c_Placing_turn E (d + 0) u a0 a1 _  hq) (Nat.le_refl _) (Nat.le_refl _) (Nat.le_refl _) (Nat.le_refl _) ?_
    show G (22, [some (.ref 67), some (.int a0), some (.int a1), some (.int a2), none], [], (gSh, s2, u))
    refine gRunN_ok hG.1 1 _ (23, [some (.ref 67), some (.int a0), some (.int a1), some (.int a2), none], [.ref 67], (gSh, s2, u)) rfl ?_
    obtain ⟨v3, hq, hP⟩ := g_b1 hP
    refine hG.2.2.2.1 _ _ _ [.ref 67] [] _ (gSh, s2, u) (some (.int v3)) _ _ _ _ _ _ rfl rfl rfl rfl rfl rfl (c_Placing_measure E (d + 0) u _  hq) (Nat.le_refl _) (Nat.le_refl _) (Nat.le_refl _) (Nat.le_refl _) ?_
    show G (26, [some (.ref 67), some (.int a0), some (.int a1), some (.int a2), none], [.int v3], (gSh, s2, u))
    refine gRunN_ok hG.1 6 _ (36, [some (.ref 67), some (.int a0), some (.int a1), some (.int a2), some (.int v3)], [.int a2, .int (v3 - (s2.1 67 4))], (gSh, s2, u)) rfl ?_
    rcases g_ite hP with ⟨hc, hP⟩ | ⟨hc, hP⟩
    · refine hG.1 _ (48, [some (.ref 67), some (.int a0), some (.int a1), some (.int a2), some (.int v3)], [], (gSh, s2, u)) _ rfl (if_pos hc) ?_
      refine gRunN_ok hG.1 3 _ (54, [some (.ref 67), some (.int a0), some (.int a1), some (.int a2), some (.int v3)], [], (gSh, (gPut s2 67 4 v3), u)) rfl ?_
      obtain ⟨s5, es5, hP⟩ := g_let hP
      rw [← es5]
      cases hP
      exact hG.2.1 _ _ rfl rfl
    · refine hG.1 _ (39, [some (.ref 67), some (.int a0), some (.int a1), some (.int a2), some (.int v3)], [], (gSh, s2, u)) _ rfl (if_neg hc) ?_
      refine gRunN_ok hG.1 3 _ (42, [some (.ref 67), some (.int a0), some (.int a1), some (.int a2), some (.int v3)], [.int a1, .int a0, .ref 67], (gSh, s2, u)) rfl ?_
      obtain ⟨s7, hq, hP⟩ := g_b1 hP
      refine hG.2.2.2.1 _ _ _ [.ref 67, .int a0, .int a1] [] _ (gSh, s7, u) none _ _ _ _ _ _ rfl rfl rfl rfl rfl rfl (c_Placing_turn E (d + 0) u a0 a1 _  hq) (Nat.le_refl _) (Nat.le_refl _) (Nat.le_refl _) (Nat.le_refl _) ?_
      show G (45, [some (.ref 67), some (.int a0), some (.int a1), some (.int a2), some (.int v3)], [], (gSh, s7, u))
      refine gRunN_ok hG.1 1 _ (54, [some (.ref 67), some (.int a0), some (.int a1), some (.int a2), some (.int v3)], [], (gSh, s7, u)) rfl ?_
      cases hP
      exact hG.2.1 _ _ rfl rfl⟩
def p_Router_search_9 (E : gEv) (l1 : Int32) (l2 : Int32) (l3 : Int32) (σ : gS) : Option ((Int32 × gS) ⊕ (gS)) :=
  if (σ.1 70 12) ≤ l3 then (some (.inr σ)) else (if gIn l3 (σ.2.1 80) then gB1 (p_Front_push E (σ.1 80 l3.toNatClampNeg) 0 σ) fun s4 => gLet (l3 + 1) fun x5 => some (.inl (x5, s4)) else none)
set_option maxRecDepth 20000 in
theorem b_Router_search_9 (E : gEv) (d u : Nat) {G : gFr → Prop} {vo : Option Value} {sr : gS} (hG : gClo E gDf gP10 gY125 (some .int) (gC E gDf gMs (d + 2)) (vo, (gSh, sr, u)) G) (l1 : Int32) (l2 : Int32) (l3 : Int32) (σ : gS) {r : (Int32 × gS) ⊕ (gS)} (hP : p_Router_search_9 E l1 l2 l3 σ = some r) (K1 : ∀ (m3 : Int32) (σ1 : gS), r = .inl (m3, σ1) → G (9, [some (.ref 70), some (.int l1), some (.int l2), some (.int m3), none, none, none, none, none], [], (gSh, σ1, u))) (K2 : ∀ (σ1 : gS), r = .inr σ1 → G (37, [some (.ref 70), some (.int l1), some (.int l2), none, none, none, none, none, none], [], (gSh, σ1, u))) : G (9, [some (.ref 70), some (.int l1), some (.int l2), some (.int l3), none, none, none, none, none], [], (gSh, σ, u)) := by
  unfold p_Router_search_9 at hP
  refine gRunN_ok hG.1 3 _ (14, [some (.ref 70), some (.int l1), some (.int l2), some (.int l3), none, none, none, none, none], [.int (σ.1 70 12), .int l3], (gSh, σ, u)) rfl ?_
  rcases g_ite hP with ⟨hc, hP⟩ | ⟨hc, hP⟩
  · refine hG.1 _ (37, [some (.ref 70), some (.int l1), some (.int l2), some (.int l3), none, none, none, none, none], [], (gSh, σ, u)) _ rfl (if_pos hc) ?_
    refine hG.2.2.2.2.1 _ _ [some (.ref 70), some (.int l1), some (.int l2), none, none, none, none, none, none] _ _ ⟨rfl, ⟨rfl, ⟨rfl, trivial⟩⟩⟩ ?_
    cases hP
    exact K2 _ rfl
  · refine hG.1 _ (17, [some (.ref 70), some (.int l1), some (.int l2), some (.int l3), none, none, none, none, none], [], (gSh, σ, u)) _ rfl (if_neg hc) ?_
    refine gRunN_ok hG.1 5 _ (26, [some (.ref 70), some (.int l1), some (.int l2), some (.int l3), none, none, none, none, none], [.int l3, .ref 80, .ref 71], (gSh, σ, u)) rfl ?_
    obtain ⟨hc, hP⟩ := g_if hP
    refine hG.1 _ (27, [some (.ref 70), some (.int l1), some (.int l2), some (.int l3), none, none, none, none, none], [.int (σ.1 80 l3.toNatClampNeg), .ref 71], (gSh, σ, u)) _ rfl (if_pos hc) ?_
    refine gRunN_ok hG.1 1 _ (28, [some (.ref 70), some (.int l1), some (.int l2), some (.int l3), none, none, none, none, none], [.int 0, .int (σ.1 80 l3.toNatClampNeg), .ref 71], (gSh, σ, u)) rfl ?_
    obtain ⟨s4, hq, hP⟩ := g_b1 hP
    refine hG.2.2.2.1 _ _ _ [.ref 71, .int (σ.1 80 l3.toNatClampNeg), .int 0] [] _ (gSh, s4, u) none _ _ _ _ _ _ rfl rfl rfl rfl rfl rfl (c_Front_push E (d + 1) u (σ.1 80 l3.toNatClampNeg) 0 _  hq) (Nat.le_refl _) (Nat.le_refl _) (Nat.le_refl _) (Nat.le_refl _) ?_
    show G (31, [some (.ref 70), some (.int l1), some (.int l2), some (.int l3), none, none, none, none, none], [], (gSh, s4, u))
    refine gRunN_ok hG.1 1 _ (34, [some (.ref 70), some (.int l1), some (.int l2), some (.int (l3 + 1)), none, none, none, none, none], [], (gSh, s4, u)) rfl ?_
    obtain ⟨x5, ex5, hP⟩ := g_let hP
    rw [← ex5]
    refine gRunN_ok hG.1 1 _ (9, [some (.ref 70), some (.int l1), some (.int l2), some (.int x5), none, none, none, none, none], [], (gSh, s4, u)) rfl ?_
    cases hP
    exact K1 _ _ rfl
theorem l_Router_search_9 (E : gEv) (d u : Nat) {G : gFr → Prop} {vo : Option Value} {sr : gS} (hG : gClo E gDf gP10 gY125 (some .int) (gC E gDf gMs (d + 2)) (vo, (gSh, sr, u)) G) (l1 : Int32) (l2 : Int32) : ∀ (n : Nat) (l3 : Int32) (σ : gS) (e : (gS)), gIter (fun z => p_Router_search_9 E l1 l2 z.1 z.2) n (l3, σ) = some e → (∀ (σ1 : gS), e = σ1 → G (37, [some (.ref 70), some (.int l1), some (.int l2), none, none, none, none, none, none], [], (gSh, σ1, u))) → G (9, [some (.ref 70), some (.int l1), some (.int l2), some (.int l3), none, none, none, none, none], [], (gSh, σ, u)) := by
  intro n
  induction n with
  | zero => intro l3 σ e h; cases h
  | succ n ih =>
    intro l3 σ e h K2
    rcases g_iter h with ⟨z, h1, h2⟩ | h1
    · exact b_Router_search_9 E d u hG l1 l2 l3 σ h1 (fun n0 n1 hz => by cases hz; exact ih _ _ e h2 K2) (fun _ hz => by cases hz)
    · exact b_Router_search_9 E d u hG l1 l2 l3 σ h1 (fun _ _ hz => by cases hz) (fun σ1 hz => K2 σ1 (by cases hz; rfl))
def p_Router_search_124 (E : gEv) (l2 : Int32) (l3 : Int32) (l5 : Int32) (l6 : Int32) (l7 : Int32) (σ : gS) : Option ((Int32 × gS) ⊕ (gS)) :=
  if l6 ≤ l7 then (some (.inr σ)) else (if gIn l7 (σ.2.1 8) then gLet (σ.1 8 l7.toNatClampNeg) fun x17 => if gIn x17 (σ.2.1 73) then if (σ.1 73 x17.toNatClampNeg) = ((-1) : Int32) then (gB1 (p_Router_costOf E x17 σ) fun v18 => gB1 (p_Front_push E x17 (l5 + v18) σ) fun s21 => gLet (l7 + 1) fun x22 => some (.inl (x22, s21))) else (gLet (l7 + 1) fun x23 => some (.inl (x23, σ))) else none else none)
set_option maxRecDepth 20000 in
theorem b_Router_search_124 (E : gEv) (d u : Nat) {G : gFr → Prop} {vo : Option Value} {sr : gS} (hG : gClo E gDf gP10 gY125 (some .int) (gC E gDf gMs (d + 2)) (vo, (gSh, sr, u)) G) (l2 : Int32) (l3 : Int32) (l5 : Int32) (l6 : Int32) (l7 : Int32) (σ : gS) {r : (Int32 × gS) ⊕ (gS)} (hP : p_Router_search_124 E l2 l3 l5 l6 l7 σ = some r) (K1 : ∀ (m7 : Int32) (σ1 : gS), r = .inl (m7, σ1) → G (124, [some (.ref 70), none, some (.int l2), some (.int l3), none, some (.int l5), some (.int l6), some (.int m7), none], [], (gSh, σ1, u))) (K2 : ∀ (σ1 : gS), r = .inr σ1 → G (181, [some (.ref 70), none, some (.int l2), some (.int l3), none, none, none, none, none], [], (gSh, σ1, u))) : G (124, [some (.ref 70), none, some (.int l2), some (.int l3), none, some (.int l5), some (.int l6), some (.int l7), none], [], (gSh, σ, u)) := by
  unfold p_Router_search_124 at hP
  refine gRunN_ok hG.1 2 _ (128, [some (.ref 70), none, some (.int l2), some (.int l3), none, some (.int l5), some (.int l6), some (.int l7), none], [.int l6, .int l7], (gSh, σ, u)) rfl ?_
  rcases g_ite hP with ⟨hc, hP⟩ | ⟨hc, hP⟩
  · refine hG.1 _ (181, [some (.ref 70), none, some (.int l2), some (.int l3), none, some (.int l5), some (.int l6), some (.int l7), none], [], (gSh, σ, u)) _ rfl (if_pos hc) ?_
    refine hG.2.2.2.2.1 _ _ [some (.ref 70), none, some (.int l2), some (.int l3), none, none, none, none, none] _ _ ⟨rfl, ⟨rfl, ⟨rfl, trivial⟩⟩⟩ ?_
    cases hP
    exact K2 _ rfl
  · refine hG.1 _ (131, [some (.ref 70), none, some (.int l2), some (.int l3), none, some (.int l5), some (.int l6), some (.int l7), none], [], (gSh, σ, u)) _ rfl (if_neg hc) ?_
    refine gRunN_ok hG.1 4 _ (140, [some (.ref 70), none, some (.int l2), some (.int l3), none, some (.int l5), some (.int l6), some (.int l7), none], [.int l7, .ref 8], (gSh, σ, u)) rfl ?_
    obtain ⟨hc, hP⟩ := g_if hP
    refine hG.1 _ (141, [some (.ref 70), none, some (.int l2), some (.int l3), none, some (.int l5), some (.int l6), some (.int l7), none], [.int (σ.1 8 l7.toNatClampNeg)], (gSh, σ, u)) _ rfl (if_pos hc) ?_
    refine gRunN_ok hG.1 1 _ (143, [some (.ref 70), none, some (.int l2), some (.int l3), none, some (.int l5), some (.int l6), some (.int l7), some (.int (σ.1 8 l7.toNatClampNeg))], [], (gSh, σ, u)) rfl ?_
    obtain ⟨x17, ex17, hP⟩ := g_let hP
    rw [← ex17]
    refine gRunN_ok hG.1 4 _ (152, [some (.ref 70), none, some (.int l2), some (.int l3), none, some (.int l5), some (.int l6), some (.int l7), some (.int x17)], [.int x17, .ref 73], (gSh, σ, u)) rfl ?_
    obtain ⟨hc, hP⟩ := g_if hP
    refine hG.1 _ (153, [some (.ref 70), none, some (.int l2), some (.int l3), none, some (.int l5), some (.int l6), some (.int l7), some (.int x17)], [.int (σ.1 73 x17.toNatClampNeg)], (gSh, σ, u)) _ rfl (if_pos hc) ?_
    refine gRunN_ok hG.1 1 _ (154, [some (.ref 70), none, some (.int l2), some (.int l3), none, some (.int l5), some (.int l6), some (.int l7), some (.int x17)], [.int (-1), .int (σ.1 73 x17.toNatClampNeg)], (gSh, σ, u)) rfl ?_
    rcases g_ite hP with ⟨hc, hP⟩ | ⟨hc, hP⟩
    · refine hG.1 _ (157, [some (.ref 70), none, some (.int l2), some (.int l3), none, some (.int l5), some (.int l6), some (.int l7), some (.int x17)], [], (gSh, σ, u)) _ rfl (if_pos hc) ?_
      refine gRunN_ok hG.1 6 _ (168, [some (.ref 70), none, some (.int l2), some (.int l3), none, some (.int l5), some (.int l6), some (.int l7), some (.int x17)], [.int x17, .ref 70, .int l5, .int x17, .ref 71], (gSh, σ, u)) rfl ?_
      obtain ⟨v18, hq, hP⟩ := g_b1 hP
      refine hG.2.2.2.1 _ _ _ [.ref 70, .int x17] [.int l5, .int x17, .ref 71] _ (gSh, σ, u) (some (.int v18)) _ _ _ _ _ _ rfl rfl rfl rfl rfl rfl (c_Router_costOf E (d + 1) u x17 _  hq) (Nat.le_refl _) (Nat.le_refl _) (Nat.le_refl _) (Nat.le_refl _) ?_
      show G (171, [some (.ref 70), none, some (.int l2), some (.int l3), none, some (.int l5), some (.int l6), some (.int l7), some (.int x17)], [.int v18, .int l5, .int x17, .ref 71], (gSh, σ, u))
      refine gRunN_ok hG.1 1 _ (172, [some (.ref 70), none, some (.int l2), some (.int l3), none, some (.int l5), some (.int l6), some (.int l7), some (.int x17)], [.int (l5 + v18), .int x17, .ref 71], (gSh, σ, u)) rfl ?_
      obtain ⟨s21, hq, hP⟩ := g_b1 hP
      refine hG.2.2.2.1 _ _ _ [.ref 71, .int x17, .int (l5 + v18)] [] _ (gSh, s21, u) none _ _ _ _ _ _ rfl rfl rfl rfl rfl rfl (c_Front_push E (d + 1) u x17 (l5 + v18) _  hq) (Nat.le_refl _) (Nat.le_refl _) (Nat.le_refl _) (Nat.le_refl _) ?_
      show G (175, [some (.ref 70), none, some (.int l2), some (.int l3), none, some (.int l5), some (.int l6), some (.int l7), some (.int x17)], [], (gSh, s21, u))
      refine gRunN_ok hG.1 1 _ (178, [some (.ref 70), none, some (.int l2), some (.int l3), none, some (.int l5), some (.int l6), some (.int (l7 + 1)), some (.int x17)], [], (gSh, s21, u)) rfl ?_
      obtain ⟨x22, ex22, hP⟩ := g_let hP
      rw [← ex22]
      refine gRunN_ok hG.1 1 _ (124, [some (.ref 70), none, some (.int l2), some (.int l3), none, some (.int l5), some (.int l6), some (.int x22), some (.int x17)], [], (gSh, s21, u)) rfl ?_
      refine hG.2.2.2.2.1 _ _ [some (.ref 70), none, some (.int l2), some (.int l3), none, some (.int l5), some (.int l6), some (.int x22), none] _ _ ⟨rfl, ⟨rfl, ⟨rfl, ⟨rfl, ⟨rfl, ⟨rfl, trivial⟩⟩⟩⟩⟩⟩ ?_
      cases hP
      exact K1 _ _ rfl
    · refine hG.1 _ (175, [some (.ref 70), none, some (.int l2), some (.int l3), none, some (.int l5), some (.int l6), some (.int l7), some (.int x17)], [], (gSh, σ, u)) _ rfl (if_neg hc) ?_
      refine gRunN_ok hG.1 1 _ (178, [some (.ref 70), none, some (.int l2), some (.int l3), none, some (.int l5), some (.int l6), some (.int (l7 + 1)), some (.int x17)], [], (gSh, σ, u)) rfl ?_
      obtain ⟨x23, ex23, hP⟩ := g_let hP
      rw [← ex23]
      refine gRunN_ok hG.1 1 _ (124, [some (.ref 70), none, some (.int l2), some (.int l3), none, some (.int l5), some (.int l6), some (.int x23), some (.int x17)], [], (gSh, σ, u)) rfl ?_
      refine hG.2.2.2.2.1 _ _ [some (.ref 70), none, some (.int l2), some (.int l3), none, some (.int l5), some (.int l6), some (.int x23), none] _ _ ⟨rfl, ⟨rfl, ⟨rfl, ⟨rfl, ⟨rfl, ⟨rfl, trivial⟩⟩⟩⟩⟩⟩ ?_
      cases hP
      exact K1 _ _ rfl
theorem l_Router_search_124 (E : gEv) (d u : Nat) {G : gFr → Prop} {vo : Option Value} {sr : gS} (hG : gClo E gDf gP10 gY125 (some .int) (gC E gDf gMs (d + 2)) (vo, (gSh, sr, u)) G) (l2 : Int32) (l3 : Int32) (l5 : Int32) (l6 : Int32) : ∀ (n : Nat) (l7 : Int32) (σ : gS) (e : (gS)), gIter (fun z => p_Router_search_124 E l2 l3 l5 l6 z.1 z.2) n (l7, σ) = some e → (∀ (σ1 : gS), e = σ1 → G (181, [some (.ref 70), none, some (.int l2), some (.int l3), none, none, none, none, none], [], (gSh, σ1, u))) → G (124, [some (.ref 70), none, some (.int l2), some (.int l3), none, some (.int l5), some (.int l6), some (.int l7), none], [], (gSh, σ, u)) := by
  intro n
  induction n with
  | zero => intro l7 σ e h; cases h
  | succ n ih =>
    intro l7 σ e h K2
    rcases g_iter h with ⟨z, h1, h2⟩ | h1
    · exact b_Router_search_124 E d u hG l2 l3 l5 l6 l7 σ h1 (fun n0 n1 hz => by cases hz; exact ih _ _ e h2 K2) (fun _ hz => by cases hz)
    · exact b_Router_search_124 E d u hG l2 l3 l5 l6 l7 σ h1 (fun _ _ hz => by cases hz) (fun σ1 hz => K2 σ1 (by cases hz; rfl))
def p_Router_search_44 (E : gEv) (l2 : Int32) (l3 : Int32) (σ : gS) : Option ((Int32 × gS) ⊕ ((Int32 × gS) ⊕ (gS))) :=
  if (σ.1 1 7) ≤ l3 then (some (.inr (.inr σ))) else (gB2 (p_Front_pop E σ) fun v10 s11 => if v10 = ((-1) : Int32) then (some (.inr (.inl (v10, s11)))) else (gB1 (p_Grid_reach E l2 v10 s11) fun v12 => if v12 = ((-1) : Int32) then (if gIn v10 (s11.2.1 73) then gLet (s11.1 73 v10.toNatClampNeg) fun x14 => if gIn v10 (s11.2.1 7) then gLet ((v10 * (6 : Int32)) + (s11.1 7 v10.toNatClampNeg)) fun x15 => gLet (v10 * (6 : Int32)) fun x16 => gB1 (gIter (fun z => p_Router_search_124 E l2 l3 x14 x15 z.1 z.2) gN (x16, s11)) fun e24 => (fun s25 => gLet (l3 + 1) fun x26 => some (.inl (x26, s25))) e24 else none else none) else (some (.inr (.inl (v10, s11))))))
set_option maxRecDepth 20000 in
theorem b_Router_search_44 (E : gEv) (d u : Nat) {G : gFr → Prop} {vo : Option Value} {sr : gS} (hG : gClo E gDf gP10 gY125 (some .int) (gC E gDf gMs (d + 2)) (vo, (gSh, sr, u)) G) (l2 : Int32) (l3 : Int32) (σ : gS) {r : (Int32 × gS) ⊕ ((Int32 × gS) ⊕ (gS))} (hP : p_Router_search_44 E l2 l3 σ = some r) (K1 : ∀ (m3 : Int32) (σ1 : gS), r = .inl (m3, σ1) → G (44, [some (.ref 70), none, some (.int l2), some (.int m3), none, none, none, none, none], [], (gSh, σ1, u))) (K2 : ∀ (m4 : Int32) (σ1 : gS), r = .inr (.inl (m4, σ1)) → G (84, [none, none, none, none, some (.int m4), none, none, none, none], [], (gSh, σ1, u))) (K3 : ∀ (σ1 : gS), r = .inr (.inr σ1) → G (187, [none, none, none, none, none, none, none, none, none], [], (gSh, σ1, u))) : G (44, [some (.ref 70), none, some (.int l2), some (.int l3), none, none, none, none, none], [], (gSh, σ, u)) := by
  unfold p_Router_search_44 at hP
  refine gRunN_ok hG.1 4 _ (52, [some (.ref 70), none, some (.int l2), some (.int l3), none, none, none, none, none], [.int (σ.1 1 7), .int l3], (gSh, σ, u)) rfl ?_
  rcases g_ite hP with ⟨hc, hP⟩ | ⟨hc, hP⟩
  · refine hG.1 _ (187, [some (.ref 70), none, some (.int l2), some (.int l3), none, none, none, none, none], [], (gSh, σ, u)) _ rfl (if_pos hc) ?_
    refine hG.2.2.2.2.1 _ _ [none, none, none, none, none, none, none, none, none] _ _ trivial ?_
    cases hP
    exact K3 _ rfl
  · refine hG.1 _ (55, [some (.ref 70), none, some (.int l2), some (.int l3), none, none, none, none, none], [], (gSh, σ, u)) _ rfl (if_neg hc) ?_
    refine gRunN_ok hG.1 2 _ (59, [some (.ref 70), none, some (.int l2), some (.int l3), none, none, none, none, none], [.ref 71], (gSh, σ, u)) rfl ?_
    obtain ⟨v10, s11, hq, hP⟩ := g_b2 hP
    refine hG.2.2.2.1 _ _ _ [.ref 71] [] _ (gSh, s11, u) (some (.int v10)) _ _ _ _ _ _ rfl rfl rfl rfl rfl rfl (c_Front_pop E (d + 1) u _  hq) (Nat.le_refl _) (Nat.le_refl _) (Nat.le_refl _) (Nat.le_refl _) ?_
    show G (62, [some (.ref 70), none, some (.int l2), some (.int l3), none, none, none, none, none], [.int v10], (gSh, s11, u))
    refine gRunN_ok hG.1 3 _ (67, [some (.ref 70), none, some (.int l2), some (.int l3), some (.int v10), none, none, none, none], [.int (-1), .int v10], (gSh, s11, u)) rfl ?_
    rcases g_ite hP with ⟨hc, hP⟩ | ⟨hc, hP⟩
    · refine hG.1 _ (84, [some (.ref 70), none, some (.int l2), some (.int l3), some (.int v10), none, none, none, none], [], (gSh, s11, u)) _ rfl (if_pos hc) ?_
      refine hG.2.2.2.2.1 _ _ [none, none, none, none, some (.int v10), none, none, none, none] _ _ ⟨rfl, trivial⟩ ?_
      cases hP
      exact K2 _ _ rfl
    · refine hG.1 _ (70, [some (.ref 70), none, some (.int l2), some (.int l3), some (.int v10), none, none, none, none], [], (gSh, s11, u)) _ rfl (if_neg hc) ?_
      refine gRunN_ok hG.1 4 _ (77, [some (.ref 70), none, some (.int l2), some (.int l3), some (.int v10), none, none, none, none], [.int v10, .int l2, .ref 1], (gSh, s11, u)) rfl ?_
      obtain ⟨v12, hq, hP⟩ := g_b1 hP
      refine hG.2.2.2.1 _ _ _ [.ref 1, .int l2, .int v10] [] _ (gSh, s11, u) (some (.int v12)) _ _ _ _ _ _ rfl rfl rfl rfl rfl rfl (c_Grid_reach E (d + 1) u l2 v10 _  hq) (Nat.le_refl _) (Nat.le_refl _) (Nat.le_refl _) (Nat.le_refl _) ?_
      show G (80, [some (.ref 70), none, some (.int l2), some (.int l3), some (.int v10), none, none, none, none], [.int v12], (gSh, s11, u))
      refine gRunN_ok hG.1 1 _ (81, [some (.ref 70), none, some (.int l2), some (.int l3), some (.int v10), none, none, none, none], [.int (-1), .int v12], (gSh, s11, u)) rfl ?_
      rcases g_ite hP with ⟨hc, hP⟩ | ⟨hc, hP⟩
      · refine hG.1 _ (87, [some (.ref 70), none, some (.int l2), some (.int l3), some (.int v10), none, none, none, none], [], (gSh, s11, u)) _ rfl (if_pos hc) ?_
        refine gRunN_ok hG.1 4 _ (96, [some (.ref 70), none, some (.int l2), some (.int l3), some (.int v10), none, none, none, none], [.int v10, .ref 73], (gSh, s11, u)) rfl ?_
        obtain ⟨hc, hP⟩ := g_if hP
        refine hG.1 _ (97, [some (.ref 70), none, some (.int l2), some (.int l3), some (.int v10), none, none, none, none], [.int (s11.1 73 v10.toNatClampNeg)], (gSh, s11, u)) _ rfl (if_pos hc) ?_
        refine gRunN_ok hG.1 1 _ (99, [some (.ref 70), none, some (.int l2), some (.int l3), some (.int v10), some (.int (s11.1 73 v10.toNatClampNeg)), none, none, none], [], (gSh, s11, u)) rfl ?_
        obtain ⟨x14, ex14, hP⟩ := g_let hP
        rw [← ex14]
        refine gRunN_ok hG.1 7 _ (113, [some (.ref 70), none, some (.int l2), some (.int l3), some (.int v10), some (.int x14), none, none, none], [.int v10, .ref 7, .int (v10 * (6 : Int32))], (gSh, s11, u)) rfl ?_
        obtain ⟨hc, hP⟩ := g_if hP
        refine hG.1 _ (114, [some (.ref 70), none, some (.int l2), some (.int l3), some (.int v10), some (.int x14), none, none, none], [.int (s11.1 7 v10.toNatClampNeg), .int (v10 * (6 : Int32))], (gSh, s11, u)) _ rfl (if_pos hc) ?_
        refine gRunN_ok hG.1 2 _ (117, [some (.ref 70), none, some (.int l2), some (.int l3), some (.int v10), some (.int x14), some (.int ((v10 * (6 : Int32)) + (s11.1 7 v10.toNatClampNeg))), none, none], [], (gSh, s11, u)) rfl ?_
        obtain ⟨x15, ex15, hP⟩ := g_let hP
        rw [← ex15]
        refine gRunN_ok hG.1 4 _ (124, [some (.ref 70), none, some (.int l2), some (.int l3), some (.int v10), some (.int x14), some (.int x15), some (.int (v10 * (6 : Int32))), none], [], (gSh, s11, u)) rfl ?_
        obtain ⟨x16, ex16, hP⟩ := g_let hP
        rw [← ex16]
        refine hG.2.2.2.2.1 _ _ [some (.ref 70), none, some (.int l2), some (.int l3), none, some (.int x14), some (.int x15), some (.int x16), none] _ _ ⟨rfl, ⟨rfl, ⟨rfl, ⟨rfl, ⟨rfl, ⟨rfl, trivial⟩⟩⟩⟩⟩⟩ ?_
        obtain ⟨e24, hq, hP⟩ := g_b1 hP
        refine l_Router_search_124 E d u hG l2 l3 x14 x15 gN x16 s11 _ hq (fun s25 he => ?_)
        · replace he := he.symm
          subst he
          try dsimp only [gSum] at hP
          refine gRunN_ok hG.1 1 _ (184, [some (.ref 70), none, some (.int l2), some (.int (l3 + 1)), none, none, none, none, none], [], (gSh, s25, u)) rfl ?_
          obtain ⟨x26, ex26, hP⟩ := g_let hP
          rw [← ex26]
          refine gRunN_ok hG.1 1 _ (44, [some (.ref 70), none, some (.int l2), some (.int x26), none, none, none, none, none], [], (gSh, s25, u)) rfl ?_
          cases hP
          exact K1 _ _ rfl
      · refine hG.1 _ (84, [some (.ref 70), none, some (.int l2), some (.int l3), some (.int v10), none, none, none, none], [], (gSh, s11, u)) _ rfl (if_neg hc) ?_
        refine hG.2.2.2.2.1 _ _ [none, none, none, none, some (.int v10), none, none, none, none] _ _ ⟨rfl, trivial⟩ ?_
        cases hP
        exact K2 _ _ rfl
theorem l_Router_search_44 (E : gEv) (d u : Nat) {G : gFr → Prop} {vo : Option Value} {sr : gS} (hG : gClo E gDf gP10 gY125 (some .int) (gC E gDf gMs (d + 2)) (vo, (gSh, sr, u)) G) (l2 : Int32) : ∀ (n : Nat) (l3 : Int32) (σ : gS) (e : ((Int32 × gS) ⊕ (gS))), gIter (fun z => p_Router_search_44 E l2 z.1 z.2) n (l3, σ) = some e → (∀ (m4 : Int32) (σ1 : gS), e = (.inl (m4, σ1)) → G (84, [none, none, none, none, some (.int m4), none, none, none, none], [], (gSh, σ1, u))) → (∀ (σ1 : gS), e = (.inr σ1) → G (187, [none, none, none, none, none, none, none, none, none], [], (gSh, σ1, u))) → G (44, [some (.ref 70), none, some (.int l2), some (.int l3), none, none, none, none, none], [], (gSh, σ, u)) := by
  intro n
  induction n with
  | zero => intro l3 σ e h; cases h
  | succ n ih =>
    intro l3 σ e h K2 K3
    rcases g_iter h with ⟨z, h1, h2⟩ | h1
    · exact b_Router_search_44 E d u hG l2 l3 σ h1 (fun n0 n1 hz => by cases hz; exact ih _ _ e h2 K2 K3) (fun _ _ hz => by cases hz) (fun _ hz => by cases hz)
    · exact b_Router_search_44 E d u hG l2 l3 σ h1 (fun _ _ hz => by cases hz) (fun m4 σ1 hz => K2 m4 σ1 (by cases hz; rfl)) (fun σ1 hz => K3 σ1 (by cases hz; rfl))
def p_Router_search (E : gEv) (a0 : Int32) (a1 : Int32) (σ : gS) : Option (Int32 × gS) :=
  gB1 (p_Front_clear E σ) fun s2 => gB1 (gIter (fun z => p_Router_search_9 E a0 a1 z.1 z.2) gN (0, s2)) fun e6 => (fun s7 => gB1 (p_Router_pushTouched E a0 s7) fun s9 => gB1 (gIter (fun z => p_Router_search_44 E a1 z.1 z.2) gN (0, s9)) fun e27 => gSum e27 (fun e31 => (fun w28 s29 => some (w28, s29)) e31.1 e31.2) (fun e32 => (fun s30 => some ((-1), s30)) e32)) e6
set_option maxRecDepth 20000 in
theorem c_Router_search (E : gEv) (d u : Nat) (a0 : Int32) (a1 : Int32) (σ : gS) {v : Int32} {sr : gS}  (hq : p_Router_search E a0 a1 σ = some (v, sr)) : gC E gDf gMs (d + 3) 125 [.ref 70, .int a0, .int a1] (gSh, σ, u) (some (.int v), (gSh, sr, u)) := ⟨gM125, rfl, Nat.le_of_ble_eq_true rfl, fun G hG => by
  have hP := hq
  unfold p_Router_search at hP
  replace hG : gClo E gDf gP10 gY125 (some .int) (gC E gDf gMs (d + 2)) (some (.int v), (gSh, sr, u)) G := hG
  show G (0, [some (.ref 70), some (.int a0), some (.int a1), none, none, none, none, none, none], [], (gSh, σ, u))
  refine gRunN_ok hG.1 2 _ (4, [some (.ref 70), some (.int a0), some (.int a1), none, none, none, none, none, none], [.ref 71], (gSh, σ, u)) rfl ?_
  obtain ⟨s2, hq, hP⟩ := g_b1 hP
  refine hG.2.2.2.1 _ _ _ [.ref 71] [] _ (gSh, s2, u) none _ _ _ _ _ _ rfl rfl rfl rfl rfl rfl (c_Front_clear E (d + 0) u _  hq) (Nat.le_refl _) (Nat.le_refl _) (Nat.le_refl _) (Nat.le_refl _) ?_
  show G (7, [some (.ref 70), some (.int a0), some (.int a1), none, none, none, none, none, none], [], (gSh, s2, u))
  refine gRunN_ok hG.1 2 _ (9, [some (.ref 70), some (.int a0), some (.int a1), some (.int 0), none, none, none, none, none], [], (gSh, s2, u)) rfl ?_
  obtain ⟨e6, hq, hP⟩ := g_b1 hP
  refine l_Router_search_9 E d u hG a0 a1 gN 0 s2 _ hq (fun s7 he => ?_)
  · replace he := he.symm
    subst he
    try dsimp only [gSum] at hP
    refine gRunN_ok hG.1 2 _ (39, [some (.ref 70), some (.int a0), some (.int a1), none, none, none, none, none, none], [.int a0, .ref 70], (gSh, s7, u)) rfl ?_
    obtain ⟨s9, hq, hP⟩ := g_b1 hP
    refine hG.2.2.2.1 _ _ _ [.ref 70, .int a0] [] _ (gSh, s9, u) none _ _ _ _ _ _ rfl rfl rfl rfl rfl rfl (c_Router_pushTouched E (d + 0) u a0 _  hq) (Nat.le_refl _) (Nat.le_refl _) (Nat.le_refl _) (Nat.le_refl _) ?_
    show G (42, [some (.ref 70), some (.int a0), some (.int a1), none, none, none, none, none, none], [], (gSh, s9, u))
    refine gRunN_ok hG.1 2 _ (44, [some (.ref 70), some (.int a0), some (.int a1), some (.int 0), none, none, none, none, none], [], (gSh, s9, u)) rfl ?_
    refine hG.2.2.2.2.1 _ _ [some (.ref 70), none, some (.int a1), some (.int 0), none, none, none, none, none] _ _ ⟨rfl, ⟨rfl, ⟨rfl, trivial⟩⟩⟩ ?_
    obtain ⟨e27, hq, hP⟩ := g_b1 hP
    refine l_Router_search_44 E d u hG a1 gN 0 s9 _ hq (fun w28 s29 he => ?_) (fun s30 he => ?_)
    · subst he
      try dsimp only [gSum] at hP
      refine gRunN_ok hG.1 1 _ (86, [none, none, none, none, some (.int w28), none, none, none, none], [.int w28], (gSh, s29, u)) rfl ?_
      cases hP
      exact hG.2.1 _ _ rfl rfl
    · subst he
      try dsimp only [gSum] at hP
      refine gRunN_ok hG.1 1 _ (188, [none, none, none, none, none, none, none, none, none], [.int (-1)], (gSh, s30, u)) rfl ?_
      cases hP
      exact hG.2.1 _ _ rfl rfl⟩
def p_Router_write_2 (E : gEv) (l2 : Int32) (σ : gS) : Option ((Int32 × gS) ⊕ (gS)) :=
  if gIn (σ.1 53 17) (σ.2.1 62) then if (σ.1 62 (σ.1 53 17).toNatClampNeg) ≤ l2 then (some (.inr σ)) else (gB1 (p_Router_writeEnd E l2 σ) fun s2 => gLet (l2 + 1) fun x3 => some (.inl (x3, s2))) else none
set_option maxRecDepth 20000 in
theorem b_Router_write_2 (E : gEv) (d u : Nat) {G : gFr → Prop} {vo : Option Value} {sr : gS} (hG : gClo E gDf gP10 gY145 none (gC E gDf gMs (d + 2)) (vo, (gSh, sr, u)) G) (l2 : Int32) (σ : gS) {r : (Int32 × gS) ⊕ (gS)} (hP : p_Router_write_2 E l2 σ = some r) (K1 : ∀ (m2 : Int32) (σ1 : gS), r = .inl (m2, σ1) → G (2, [some (.ref 70), some (.ref 81), some (.int m2), none], [], (gSh, σ1, u))) (K2 : ∀ (σ1 : gS), r = .inr σ1 → G (33, [some (.ref 70), some (.ref 81), none, none], [], (gSh, σ1, u))) : G (2, [some (.ref 70), some (.ref 81), some (.int l2), none], [], (gSh, σ, u)) := by
  unfold p_Router_write_2 at hP
  refine gRunN_ok hG.1 7 _ (17, [some (.ref 70), some (.ref 81), some (.int l2), none], [.int (σ.1 53 17), .ref 62, .int l2], (gSh, σ, u)) rfl ?_
  obtain ⟨hc, hP⟩ := g_if hP
  refine hG.1 _ (18, [some (.ref 70), some (.ref 81), some (.int l2), none], [.int (σ.1 62 (σ.1 53 17).toNatClampNeg), .int l2], (gSh, σ, u)) _ rfl (if_pos hc) ?_
  rcases g_ite hP with ⟨hc, hP⟩ | ⟨hc, hP⟩
  · refine hG.1 _ (33, [some (.ref 70), some (.ref 81), some (.int l2), none], [], (gSh, σ, u)) _ rfl (if_pos hc) ?_
    refine hG.2.2.2.2.1 _ _ [some (.ref 70), some (.ref 81), none, none] _ _ ⟨rfl, ⟨rfl, trivial⟩⟩ ?_
    cases hP
    exact K2 _ rfl
  · refine hG.1 _ (21, [some (.ref 70), some (.ref 81), some (.int l2), none], [], (gSh, σ, u)) _ rfl (if_neg hc) ?_
    refine gRunN_ok hG.1 3 _ (24, [some (.ref 70), some (.ref 81), some (.int l2), none], [.int l2, .ref 81, .ref 70], (gSh, σ, u)) rfl ?_
    obtain ⟨s2, hq, hP⟩ := g_b1 hP
    refine hG.2.2.2.1 _ _ _ [.ref 70, .ref 81, .int l2] [] _ (gSh, s2, u) none _ _ _ _ _ _ rfl rfl rfl rfl rfl rfl (c_Router_writeEnd E (d + 0) u l2 _  hq) (Nat.le_refl _) (Nat.le_refl _) (Nat.le_refl _) (Nat.le_refl _) ?_
    show G (27, [some (.ref 70), some (.ref 81), some (.int l2), none], [], (gSh, s2, u))
    refine gRunN_ok hG.1 1 _ (30, [some (.ref 70), some (.ref 81), some (.int (l2 + 1)), none], [], (gSh, s2, u)) rfl ?_
    obtain ⟨x3, ex3, hP⟩ := g_let hP
    rw [← ex3]
    refine gRunN_ok hG.1 1 _ (2, [some (.ref 70), some (.ref 81), some (.int x3), none], [], (gSh, s2, u)) rfl ?_
    cases hP
    exact K1 _ _ rfl
theorem l_Router_write_2 (E : gEv) (d u : Nat) {G : gFr → Prop} {vo : Option Value} {sr : gS} (hG : gClo E gDf gP10 gY145 none (gC E gDf gMs (d + 2)) (vo, (gSh, sr, u)) G) : ∀ (n : Nat) (l2 : Int32) (σ : gS) (e : (gS)), gIter (fun z => p_Router_write_2 E z.1 z.2) n (l2, σ) = some e → (∀ (σ1 : gS), e = σ1 → G (33, [some (.ref 70), some (.ref 81), none, none], [], (gSh, σ1, u))) → G (2, [some (.ref 70), some (.ref 81), some (.int l2), none], [], (gSh, σ, u)) := by
  intro n
  induction n with
  | zero => intro l2 σ e h; cases h
  | succ n ih =>
    intro l2 σ e h K2
    rcases g_iter h with ⟨z, h1, h2⟩ | h1
    · exact b_Router_write_2 E d u hG l2 σ h1 (fun n0 n1 hz => by cases hz; exact ih _ _ e h2 K2) (fun _ hz => by cases hz)
    · exact b_Router_write_2 E d u hG l2 σ h1 (fun _ _ hz => by cases hz) (fun σ1 hz => K2 σ1 (by cases hz; rfl))
def p_Router_write_j88_35 (E : gEv) (l2 : Int32) (y0 : Int32) (σ : gS) : Option ((Int32 × gS) ⊕ (gS)) :=
  gB1 (p_Field_put E y0 1 1 σ) fun s10 => gLet (l2 + 1) fun x11 => some (.inl (x11, s10))
set_option maxRecDepth 20000 in
theorem j_Router_write_j88_35 (E : gEv) (d u : Nat) {G : gFr → Prop} {vo : Option Value} {sr : gS} (hG : gClo E gDf gP10 gY145 none (gC E gDf gMs (d + 2)) (vo, (gSh, sr, u)) G) (l2 : Int32) (y0 : Int32) (σ : gS) {r : (Int32 × gS) ⊕ (gS)} (hP : p_Router_write_j88_35 E l2 y0 σ = some r) (K1 : ∀ (m2 : Int32) (σ1 : gS), r = .inl (m2, σ1) → G (35, [some (.ref 70), some (.ref 81), some (.int m2), none], [], (gSh, σ1, u))) (K2 : ∀ (σ1 : gS), r = .inr σ1 → G (102, [none, none, none, none], [], (gSh, σ1, u))) : G (88, [some (.ref 70), some (.ref 81), some (.int l2), none], [.int y0], (gSh, σ, u)) := by
  unfold p_Router_write_j88_35 at hP
  refine gRunN_ok hG.1 5 _ (93, [some (.ref 70), some (.ref 81), some (.int l2), some (.int y0)], [.int 1, .int 1, .int y0, .ref 81], (gSh, σ, u)) rfl ?_
  obtain ⟨s10, hq, hP⟩ := g_b1 hP
  refine hG.2.2.2.1 _ _ _ [.ref 81, .int y0, .int 1, .int 1] [] _ (gSh, s10, u) none _ _ _ _ _ _ rfl rfl rfl rfl rfl rfl (c_Field_put E (d + 1) u y0 1 1 _  hq) (Nat.le_refl _) (Nat.le_refl _) (Nat.le_refl _) (Nat.le_refl _) ?_
  show G (96, [some (.ref 70), some (.ref 81), some (.int l2), some (.int y0)], [], (gSh, s10, u))
  refine gRunN_ok hG.1 1 _ (99, [some (.ref 70), some (.ref 81), some (.int (l2 + 1)), some (.int y0)], [], (gSh, s10, u)) rfl ?_
  obtain ⟨x11, ex11, hP⟩ := g_let hP
  rw [← ex11]
  refine gRunN_ok hG.1 1 _ (35, [some (.ref 70), some (.ref 81), some (.int x11), some (.int y0)], [], (gSh, s10, u)) rfl ?_
  refine hG.2.2.2.2.1 _ _ [some (.ref 70), some (.ref 81), some (.int x11), none] _ _ ⟨rfl, ⟨rfl, ⟨rfl, trivial⟩⟩⟩ ?_
  cases hP
  exact K1 _ _ rfl
def p_Router_write_35 (E : gEv) (l2 : Int32) (σ : gS) : Option ((Int32 × gS) ⊕ (gS)) :=
  if (σ.1 1 7) ≤ l2 then (some (.inr σ)) else (if gIn l2 (σ.2.1 78) then if (σ.1 78 l2.toNatClampNeg) = ((-1) : Int32) then (gLet (l2 + 1) fun x6 => some (.inl (x6, σ))) else (if gIn l2 (σ.2.1 77) then if (σ.1 77 l2.toNatClampNeg) = ((-1) : Int32) then (gB1 (p_Router_drivenBit E l2 σ) fun v7 => p_Router_write_j88_35 E l2 v7 σ) else (if gIn l2 (σ.2.1 77) then p_Router_write_j88_35 E l2 ((σ.1 1 11) + (σ.1 77 l2.toNatClampNeg)) σ else none) else none) else none)
set_option maxRecDepth 20000 in
theorem b_Router_write_35 (E : gEv) (d u : Nat) {G : gFr → Prop} {vo : Option Value} {sr : gS} (hG : gClo E gDf gP10 gY145 none (gC E gDf gMs (d + 2)) (vo, (gSh, sr, u)) G) (l2 : Int32) (σ : gS) {r : (Int32 × gS) ⊕ (gS)} (hP : p_Router_write_35 E l2 σ = some r) (K1 : ∀ (m2 : Int32) (σ1 : gS), r = .inl (m2, σ1) → G (35, [some (.ref 70), some (.ref 81), some (.int m2), none], [], (gSh, σ1, u))) (K2 : ∀ (σ1 : gS), r = .inr σ1 → G (102, [none, none, none, none], [], (gSh, σ1, u))) : G (35, [some (.ref 70), some (.ref 81), some (.int l2), none], [], (gSh, σ, u)) := by
  unfold p_Router_write_35 at hP
  refine gRunN_ok hG.1 4 _ (43, [some (.ref 70), some (.ref 81), some (.int l2), none], [.int (σ.1 1 7), .int l2], (gSh, σ, u)) rfl ?_
  rcases g_ite hP with ⟨hc, hP⟩ | ⟨hc, hP⟩
  · refine hG.1 _ (102, [some (.ref 70), some (.ref 81), some (.int l2), none], [], (gSh, σ, u)) _ rfl (if_pos hc) ?_
    refine hG.2.2.2.2.1 _ _ [none, none, none, none] _ _ trivial ?_
    cases hP
    exact K2 _ rfl
  · refine hG.1 _ (46, [some (.ref 70), some (.ref 81), some (.int l2), none], [], (gSh, σ, u)) _ rfl (if_neg hc) ?_
    refine gRunN_ok hG.1 3 _ (51, [some (.ref 70), some (.ref 81), some (.int l2), none], [.int l2, .ref 78], (gSh, σ, u)) rfl ?_
    obtain ⟨hc, hP⟩ := g_if hP
    refine hG.1 _ (52, [some (.ref 70), some (.ref 81), some (.int l2), none], [.int (σ.1 78 l2.toNatClampNeg)], (gSh, σ, u)) _ rfl (if_pos hc) ?_
    refine gRunN_ok hG.1 1 _ (53, [some (.ref 70), some (.ref 81), some (.int l2), none], [.int (-1), .int (σ.1 78 l2.toNatClampNeg)], (gSh, σ, u)) rfl ?_
    rcases g_ite hP with ⟨hc, hP⟩ | ⟨hc, hP⟩
    · refine hG.1 _ (96, [some (.ref 70), some (.ref 81), some (.int l2), none], [], (gSh, σ, u)) _ rfl (if_pos hc) ?_
      refine gRunN_ok hG.1 1 _ (99, [some (.ref 70), some (.ref 81), some (.int (l2 + 1)), none], [], (gSh, σ, u)) rfl ?_
      obtain ⟨x6, ex6, hP⟩ := g_let hP
      rw [← ex6]
      refine gRunN_ok hG.1 1 _ (35, [some (.ref 70), some (.ref 81), some (.int x6), none], [], (gSh, σ, u)) rfl ?_
      cases hP
      exact K1 _ _ rfl
    · refine hG.1 _ (56, [some (.ref 70), some (.ref 81), some (.int l2), none], [], (gSh, σ, u)) _ rfl (if_neg hc) ?_
      refine gRunN_ok hG.1 3 _ (61, [some (.ref 70), some (.ref 81), some (.int l2), none], [.int l2, .ref 77], (gSh, σ, u)) rfl ?_
      obtain ⟨hc, hP⟩ := g_if hP
      refine hG.1 _ (62, [some (.ref 70), some (.ref 81), some (.int l2), none], [.int (σ.1 77 l2.toNatClampNeg)], (gSh, σ, u)) _ rfl (if_pos hc) ?_
      refine gRunN_ok hG.1 1 _ (63, [some (.ref 70), some (.ref 81), some (.int l2), none], [.int (-1), .int (σ.1 77 l2.toNatClampNeg)], (gSh, σ, u)) rfl ?_
      rcases g_ite hP with ⟨hc, hP⟩ | ⟨hc, hP⟩
      · refine hG.1 _ (83, [some (.ref 70), some (.ref 81), some (.int l2), none], [], (gSh, σ, u)) _ rfl (if_pos hc) ?_
        refine gRunN_ok hG.1 2 _ (85, [some (.ref 70), some (.ref 81), some (.int l2), none], [.int l2, .ref 70], (gSh, σ, u)) rfl ?_
        obtain ⟨v7, hq, hP⟩ := g_b1 hP
        refine hG.2.2.2.1 _ _ _ [.ref 70, .int l2] [] _ (gSh, σ, u) (some (.int v7)) _ _ _ _ _ _ rfl rfl rfl rfl rfl rfl (c_Router_drivenBit E (d + 0) u l2 _  hq) (Nat.le_refl _) (Nat.le_refl _) (Nat.le_refl _) (Nat.le_refl _) ?_
        show G (88, [some (.ref 70), some (.ref 81), some (.int l2), none], [.int v7], (gSh, σ, u))
        exact j_Router_write_j88_35 E d u hG l2 v7 σ hP K1 K2
      · refine hG.1 _ (66, [some (.ref 70), some (.ref 81), some (.int l2), none], [], (gSh, σ, u)) _ rfl (if_neg hc) ?_
        refine gRunN_ok hG.1 6 _ (78, [some (.ref 70), some (.ref 81), some (.int l2), none], [.int l2, .ref 77, .int (σ.1 1 11)], (gSh, σ, u)) rfl ?_
        obtain ⟨hc, hP⟩ := g_if hP
        refine hG.1 _ (79, [some (.ref 70), some (.ref 81), some (.int l2), none], [.int (σ.1 77 l2.toNatClampNeg), .int (σ.1 1 11)], (gSh, σ, u)) _ rfl (if_pos hc) ?_
        refine gRunN_ok hG.1 2 _ (88, [some (.ref 70), some (.ref 81), some (.int l2), none], [.int ((σ.1 1 11) + (σ.1 77 l2.toNatClampNeg))], (gSh, σ, u)) rfl ?_
        exact j_Router_write_j88_35 E d u hG l2 ((σ.1 1 11) + (σ.1 77 l2.toNatClampNeg)) σ hP K1 K2
theorem l_Router_write_35 (E : gEv) (d u : Nat) {G : gFr → Prop} {vo : Option Value} {sr : gS} (hG : gClo E gDf gP10 gY145 none (gC E gDf gMs (d + 2)) (vo, (gSh, sr, u)) G) : ∀ (n : Nat) (l2 : Int32) (σ : gS) (e : (gS)), gIter (fun z => p_Router_write_35 E z.1 z.2) n (l2, σ) = some e → (∀ (σ1 : gS), e = σ1 → G (102, [none, none, none, none], [], (gSh, σ1, u))) → G (35, [some (.ref 70), some (.ref 81), some (.int l2), none], [], (gSh, σ, u)) := by
  intro n
  induction n with
  | zero => intro l2 σ e h; cases h
  | succ n ih =>
    intro l2 σ e h K2
    rcases g_iter h with ⟨z, h1, h2⟩ | h1
    · exact b_Router_write_35 E d u hG l2 σ h1 (fun n0 n1 hz => by cases hz; exact ih _ _ e h2 K2) (fun _ hz => by cases hz)
    · exact b_Router_write_35 E d u hG l2 σ h1 (fun _ _ hz => by cases hz) (fun σ1 hz => K2 σ1 (by cases hz; rfl))
def p_Router_write (E : gEv) (σ : gS) : Option (gS) :=
  gB1 (gIter (fun z => p_Router_write_2 E z.1 z.2) gN (0, σ)) fun e4 => (fun s5 => gB1 (gIter (fun z => p_Router_write_35 E z.1 z.2) gN (0, s5)) fun e12 => (fun s13 => some s13) e12) e4
set_option maxRecDepth 20000 in
theorem c_Router_write (E : gEv) (d u : Nat) (σ : gS) {sr : gS}  (hq : p_Router_write E σ = some sr) : gC E gDf gMs (d + 3) 145 [.ref 70, .ref 81] (gSh, σ, u) (none, (gSh, sr, u)) := ⟨gM145, rfl, Nat.le_of_ble_eq_true rfl, fun G hG => by
  have hP := hq
  unfold p_Router_write at hP
  replace hG : gClo E gDf gP10 gY145 none (gC E gDf gMs (d + 2)) (none, (gSh, sr, u)) G := hG
  show G (0, [some (.ref 70), some (.ref 81), none, none], [], (gSh, σ, u))
  refine gRunN_ok hG.1 2 _ (2, [some (.ref 70), some (.ref 81), some (.int 0), none], [], (gSh, σ, u)) rfl ?_
  obtain ⟨e4, hq, hP⟩ := g_b1 hP
  refine l_Router_write_2 E d u hG gN 0 σ _ hq (fun s5 he => ?_)
  · replace he := he.symm
    subst he
    try dsimp only [gSum] at hP
    refine gRunN_ok hG.1 2 _ (35, [some (.ref 70), some (.ref 81), some (.int 0), none], [], (gSh, s5, u)) rfl ?_
    obtain ⟨e12, hq, hP⟩ := g_b1 hP
    refine l_Router_write_35 E d u hG gN 0 s5 _ hq (fun s13 he => ?_)
    · replace he := he.symm
      subst he
      try dsimp only [gSum] at hP
      cases hP
      exact hG.2.1 _ _ rfl rfl⟩
def p_Field_wire_26 (E : gEv) (l1 : Int32) (l2 : Int32) (σ : gS) : Option ((Int32 × Int32 × gS) ⊕ (Int32 × gS)) :=
  if (σ.1 1 6) ≤ l2 then (some (.inr (l1, σ))) else (gLet (l2 * (σ.1 1 9)) fun x5 => gB1 (p_Field_numberAt E x5 16 σ) fun v6 => if gIn l2 (σ.2.1 90) then gLet (gPut σ 90 l2.toNatClampNeg v6) fun s8 => gB1 (p_Field_setPins E l2 (x5 + (18 : Int32)) s8) fun s10 => if gIn l2 (s10.2.1 92) then gLet (gPut s10 92 l2.toNatClampNeg l1) fun s11 => gB2 (p_Field_addDriven E l2 (x5 + (42 : Int32)) l1 s11) fun v12 s13 => gLet (l2 + 1) fun x14 => some (.inl (v12, x14, s13)) else none else none)
set_option maxRecDepth 20000 in
theorem b_Field_wire_26 (E : gEv) (d u : Nat) {G : gFr → Prop} {vo : Option Value} {sr : gS} (hG : gClo E gDf gP12 gY158 none (gC E gDf gMs (d + 2)) (vo, (gSh, sr, u)) G) (l1 : Int32) (l2 : Int32) (σ : gS) {r : (Int32 × Int32 × gS) ⊕ (Int32 × gS)} (hP : p_Field_wire_26 E l1 l2 σ = some r) (K1 : ∀ (m1 : Int32) (m2 : Int32) (σ1 : gS), r = .inl (m1, m2, σ1) → G (26, [some (.ref 81), some (.int m1), some (.int m2), none], [], (gSh, σ1, u))) (K2 : ∀ (m1 : Int32) (σ1 : gS), r = .inr (m1, σ1) → G (93, [some (.ref 81), some (.int m1), none, none], [], (gSh, σ1, u))) : G (26, [some (.ref 81), some (.int l1), some (.int l2), none], [], (gSh, σ, u)) := by
  unfold p_Field_wire_26 at hP
  refine gRunN_ok hG.1 4 _ (34, [some (.ref 81), some (.int l1), some (.int l2), none], [.int (σ.1 1 6), .int l2], (gSh, σ, u)) rfl ?_
  rcases g_ite hP with ⟨hc, hP⟩ | ⟨hc, hP⟩
  · refine hG.1 _ (93, [some (.ref 81), some (.int l1), some (.int l2), none], [], (gSh, σ, u)) _ rfl (if_pos hc) ?_
    refine hG.2.2.2.2.1 _ _ [some (.ref 81), some (.int l1), none, none] _ _ ⟨rfl, ⟨rfl, trivial⟩⟩ ?_
    cases hP
    exact K2 _ _ rfl
  · refine hG.1 _ (37, [some (.ref 81), some (.int l1), some (.int l2), none], [], (gSh, σ, u)) _ rfl (if_neg hc) ?_
    refine gRunN_ok hG.1 6 _ (47, [some (.ref 81), some (.int l1), some (.int l2), some (.int (l2 * (σ.1 1 9)))], [], (gSh, σ, u)) rfl ?_
    obtain ⟨x5, ex5, hP⟩ := g_let hP
    rw [← ex5]
    refine gRunN_ok hG.1 6 _ (56, [some (.ref 81), some (.int l1), some (.int l2), some (.int x5)], [.int 16, .int x5, .ref 81, .int l2, .ref 90], (gSh, σ, u)) rfl ?_
    obtain ⟨v6, hq, hP⟩ := g_b1 hP
    refine hG.2.2.2.1 _ _ _ [.ref 81, .int x5, .int 16] [.int l2, .ref 90] _ (gSh, σ, u) (some (.int v6)) _ _ _ _ _ _ rfl rfl rfl rfl rfl rfl (c_Field_numberAt E (d + 1) u x5 16 _  hq) (Nat.le_refl _) (Nat.le_refl _) (Nat.le_refl _) (Nat.le_refl _) ?_
    show G (59, [some (.ref 81), some (.int l1), some (.int l2), some (.int x5)], [.int v6, .int l2, .ref 90], (gSh, σ, u))
    obtain ⟨hc, hP⟩ := g_if hP
    refine hG.1 _ (60, [some (.ref 81), some (.int l1), some (.int l2), some (.int x5)], [], (gSh, (gPut σ 90 l2.toNatClampNeg v6), u)) _ rfl (if_pos hc) ?_
    obtain ⟨s8, es8, hP⟩ := g_let hP
    rw [← es8]
    refine gRunN_ok hG.1 5 _ (66, [some (.ref 81), some (.int l1), some (.int l2), some (.int x5)], [.int (x5 + (18 : Int32)), .int l2, .ref 81], (gSh, s8, u)) rfl ?_
    obtain ⟨s10, hq, hP⟩ := g_b1 hP
    refine hG.2.2.2.1 _ _ _ [.ref 81, .int l2, .int (x5 + (18 : Int32))] [] _ (gSh, s10, u) none _ _ _ _ _ _ rfl rfl rfl rfl rfl rfl (c_Field_setPins E (d + 0) u l2 (x5 + (18 : Int32)) _  hq) (Nat.le_refl _) (Nat.le_refl _) (Nat.le_refl _) (Nat.le_refl _) ?_
    show G (69, [some (.ref 81), some (.int l1), some (.int l2), some (.int x5)], [], (gSh, s10, u))
    refine gRunN_ok hG.1 4 _ (75, [some (.ref 81), some (.int l1), some (.int l2), some (.int x5)], [.int l1, .int l2, .ref 92], (gSh, s10, u)) rfl ?_
    obtain ⟨hc, hP⟩ := g_if hP
    refine hG.1 _ (76, [some (.ref 81), some (.int l1), some (.int l2), some (.int x5)], [], (gSh, (gPut s10 92 l2.toNatClampNeg l1), u)) _ rfl (if_pos hc) ?_
    obtain ⟨s11, es11, hP⟩ := g_let hP
    rw [← es11]
    refine gRunN_ok hG.1 6 _ (83, [some (.ref 81), some (.int l1), some (.int l2), some (.int x5)], [.int l1, .int (x5 + (42 : Int32)), .int l2, .ref 81], (gSh, s11, u)) rfl ?_
    obtain ⟨v12, s13, hq, hP⟩ := g_b2 hP
    refine hG.2.2.2.1 _ _ _ [.ref 81, .int l2, .int (x5 + (42 : Int32)), .int l1] [] _ (gSh, s13, u) (some (.int v12)) _ _ _ _ _ _ rfl rfl rfl rfl rfl rfl (c_Field_addDriven E (d + 0) u l2 (x5 + (42 : Int32)) l1 _  hq) (Nat.le_refl _) (Nat.le_refl _) (Nat.le_refl _) (Nat.le_refl _) ?_
    show G (86, [some (.ref 81), some (.int l1), some (.int l2), some (.int x5)], [.int v12], (gSh, s13, u))
    refine gRunN_ok hG.1 2 _ (90, [some (.ref 81), some (.int v12), some (.int (l2 + 1)), some (.int x5)], [], (gSh, s13, u)) rfl ?_
    obtain ⟨x14, ex14, hP⟩ := g_let hP
    rw [← ex14]
    refine gRunN_ok hG.1 1 _ (26, [some (.ref 81), some (.int v12), some (.int x14), some (.int x5)], [], (gSh, s13, u)) rfl ?_
    refine hG.2.2.2.2.1 _ _ [some (.ref 81), some (.int v12), some (.int x14), none] _ _ ⟨rfl, ⟨rfl, ⟨rfl, trivial⟩⟩⟩ ?_
    cases hP
    exact K1 _ _ _ rfl
theorem l_Field_wire_26 (E : gEv) (d u : Nat) {G : gFr → Prop} {vo : Option Value} {sr : gS} (hG : gClo E gDf gP12 gY158 none (gC E gDf gMs (d + 2)) (vo, (gSh, sr, u)) G) : ∀ (n : Nat) (l1 : Int32) (l2 : Int32) (σ : gS) (e : (Int32 × gS)), gIter (fun z => p_Field_wire_26 E z.1 z.2.1 z.2.2) n (l1, l2, σ) = some e → (∀ (m1 : Int32) (σ1 : gS), e = (m1, σ1) → G (93, [some (.ref 81), some (.int m1), none, none], [], (gSh, σ1, u))) → G (26, [some (.ref 81), some (.int l1), some (.int l2), none], [], (gSh, σ, u)) := by
  intro n
  induction n with
  | zero => intro l1 l2 σ e h; cases h
  | succ n ih =>
    intro l1 l2 σ e h K2
    rcases g_iter h with ⟨z, h1, h2⟩ | h1
    · exact b_Field_wire_26 E d u hG l1 l2 σ h1 (fun n0 n1 n2 hz => by cases hz; exact ih _ _ _ e h2 K2) (fun _ _ hz => by cases hz)
    · exact b_Field_wire_26 E d u hG l1 l2 σ h1 (fun _ _ _ hz => by cases hz) (fun m1 σ1 hz => K2 m1 σ1 (by cases hz; rfl))
def p_Field_wire (E : gEv) (σ : gS) : Option (gS) :=
  if (σ.1 81 14) = 0 then (gLet (gPut σ 81 14 1) fun s1 => gLet (gPut s1 81 15 0) fun s2 => gB1 (p_Field_setGroups E s2) fun s4 => gB1 (gIter (fun z => p_Field_wire_26 E z.1 z.2.1 z.2.2) gN (0, 0, s4)) fun e15 => (fun w16 s17 => if gIn (s17.1 1 6) (s17.2.1 92) then gLet (gPut s17 92 (s17.1 1 6).toNatClampNeg w16) fun s18 => some s18 else none) e15.1 e15.2) else (some σ)
set_option maxRecDepth 20000 in
theorem c_Field_wire (E : gEv) (d u : Nat) (σ : gS) {sr : gS}  (hq : p_Field_wire E σ = some sr) : gC E gDf gMs (d + 3) 158 [.ref 81] (gSh, σ, u) (none, (gSh, sr, u)) := ⟨gM158, rfl, Nat.le_of_ble_eq_true rfl, fun G hG => by
  have hP := hq
  unfold p_Field_wire at hP
  replace hG : gClo E gDf gP12 gY158 none (gC E gDf gMs (d + 2)) (none, (gSh, sr, u)) G := hG
  show G (0, [some (.ref 81), none, none, none], [], (gSh, σ, u))
  refine gRunN_ok hG.1 2 _ (4, [some (.ref 81), none, none, none], [.int (σ.1 81 14)], (gSh, σ, u)) rfl ?_
  rcases g_ite hP with ⟨hc, hP⟩ | ⟨hc, hP⟩
  · refine hG.1 _ (8, [some (.ref 81), none, none, none], [], (gSh, σ, u)) _ rfl (if_pos hc) ?_
    refine gRunN_ok hG.1 3 _ (13, [some (.ref 81), none, none, none], [], (gSh, (gPut σ 81 14 1), u)) rfl ?_
    obtain ⟨s1, es1, hP⟩ := g_let hP
    rw [← es1]
    refine gRunN_ok hG.1 3 _ (18, [some (.ref 81), none, none, none], [], (gSh, (gPut s1 81 15 0), u)) rfl ?_
    obtain ⟨s2, es2, hP⟩ := g_let hP
    rw [← es2]
    refine gRunN_ok hG.1 1 _ (19, [some (.ref 81), none, none, none], [.ref 81], (gSh, s2, u)) rfl ?_
    obtain ⟨s4, hq, hP⟩ := g_b1 hP
    refine hG.2.2.2.1 _ _ _ [.ref 81] [] _ (gSh, s4, u) none _ _ _ _ _ _ rfl rfl rfl rfl rfl rfl (c_Field_setGroups E (d + 0) u _  hq) (Nat.le_refl _) (Nat.le_refl _) (Nat.le_refl _) (Nat.le_refl _) ?_
    show G (22, [some (.ref 81), none, none, none], [], (gSh, s4, u))
    refine gRunN_ok hG.1 4 _ (26, [some (.ref 81), some (.int 0), some (.int 0), none], [], (gSh, s4, u)) rfl ?_
    obtain ⟨e15, hq, hP⟩ := g_b1 hP
    refine l_Field_wire_26 E d u hG gN 0 0 s4 _ hq (fun w16 s17 he => ?_)
    · subst he
      try dsimp only [gSum] at hP
      refine gRunN_ok hG.1 6 _ (105, [some (.ref 81), some (.int w16), none, none], [.int w16, .int (s17.1 1 6), .ref 92], (gSh, s17, u)) rfl ?_
      obtain ⟨hc, hP⟩ := g_if hP
      refine hG.1 _ (106, [some (.ref 81), some (.int w16), none, none], [], (gSh, (gPut s17 92 (s17.1 1 6).toNatClampNeg w16), u)) _ rfl (if_pos hc) ?_
      obtain ⟨s18, es18, hP⟩ := g_let hP
      rw [← es18]
      cases hP
      exact hG.2.1 _ _ rfl rfl
  · refine hG.1 _ (7, [some (.ref 81), none, none, none], [], (gSh, σ, u)) _ rfl (if_neg hc) ?_
    cases hP
    exact hG.2.1 _ _ rfl rfl⟩
def p_Field_setBase_10 (E : gEv) (l1 : Int32) (σ : gS) : Option ((Int32 × gS) ⊕ (gS)) :=
  if (σ.1 1 5) ≤ l1 then (some (.inr σ)) else (gB1 (p_Grid_padBit E l1 σ) fun v3 => if gIn l1 (σ.2.1 83) then if (σ.1 83 l1.toNatClampNeg) = (1 : Int32) then (gB1 (p_Field_numberAt E v3 2 σ) fun v5 => if v5 = (1 : Int32) then (gB1 (p_Field_drivePad E l1 (v3 + (6 : Int32)) σ) fun s8 => gLet (l1 + 1) fun x9 => some (.inl (x9, s8))) else (gLet (l1 + 1) fun x10 => some (.inl (x10, σ)))) else (gLet (l1 + 1) fun x11 => some (.inl (x11, σ))) else none)
set_option maxRecDepth 20000 in
theorem b_Field_setBase_10 (E : gEv) (d u : Nat) {G : gFr → Prop} {vo : Option Value} {sr : gS} (hG : gClo E gDf gP12 gY165 none (gC E gDf gMs (d + 2)) (vo, (gSh, sr, u)) G) (l1 : Int32) (σ : gS) {r : (Int32 × gS) ⊕ (gS)} (hP : p_Field_setBase_10 E l1 σ = some r) (K1 : ∀ (m1 : Int32) (σ1 : gS), r = .inl (m1, σ1) → G (10, [some (.ref 81), some (.int m1), none], [], (gSh, σ1, u))) (K2 : ∀ (σ1 : gS), r = .inr σ1 → G (65, [some (.ref 81), none, none], [], (gSh, σ1, u))) : G (10, [some (.ref 81), some (.int l1), none], [], (gSh, σ, u)) := by
  unfold p_Field_setBase_10 at hP
  refine gRunN_ok hG.1 4 _ (18, [some (.ref 81), some (.int l1), none], [.int (σ.1 1 5), .int l1], (gSh, σ, u)) rfl ?_
  rcases g_ite hP with ⟨hc, hP⟩ | ⟨hc, hP⟩
  · refine hG.1 _ (65, [some (.ref 81), some (.int l1), none], [], (gSh, σ, u)) _ rfl (if_pos hc) ?_
    refine hG.2.2.2.2.1 _ _ [some (.ref 81), none, none] _ _ ⟨rfl, trivial⟩ ?_
    cases hP
    exact K2 _ rfl
  · refine hG.1 _ (21, [some (.ref 81), some (.int l1), none], [], (gSh, σ, u)) _ rfl (if_neg hc) ?_
    refine gRunN_ok hG.1 3 _ (26, [some (.ref 81), some (.int l1), none], [.int l1, .ref 1], (gSh, σ, u)) rfl ?_
    obtain ⟨v3, hq, hP⟩ := g_b1 hP
    refine hG.2.2.2.1 _ _ _ [.ref 1, .int l1] [] _ (gSh, σ, u) (some (.int v3)) _ _ _ _ _ _ rfl rfl rfl rfl rfl rfl (c_Grid_padBit E (d + 1) u l1 _  hq) (Nat.le_refl _) (Nat.le_refl _) (Nat.le_refl _) (Nat.le_refl _) ?_
    show G (29, [some (.ref 81), some (.int l1), none], [.int v3], (gSh, σ, u))
    refine gRunN_ok hG.1 4 _ (35, [some (.ref 81), some (.int l1), some (.int v3)], [.int l1, .ref 83], (gSh, σ, u)) rfl ?_
    obtain ⟨hc, hP⟩ := g_if hP
    refine hG.1 _ (36, [some (.ref 81), some (.int l1), some (.int v3)], [.int (σ.1 83 l1.toNatClampNeg)], (gSh, σ, u)) _ rfl (if_pos hc) ?_
    refine gRunN_ok hG.1 1 _ (37, [some (.ref 81), some (.int l1), some (.int v3)], [.int 1, .int (σ.1 83 l1.toNatClampNeg)], (gSh, σ, u)) rfl ?_
    rcases g_ite hP with ⟨hc, hP⟩ | ⟨hc, hP⟩
    · refine hG.1 _ (40, [some (.ref 81), some (.int l1), some (.int v3)], [], (gSh, σ, u)) _ rfl (if_pos hc) ?_
      refine gRunN_ok hG.1 3 _ (43, [some (.ref 81), some (.int l1), some (.int v3)], [.int 2, .int v3, .ref 81], (gSh, σ, u)) rfl ?_
      obtain ⟨v5, hq, hP⟩ := g_b1 hP
      refine hG.2.2.2.1 _ _ _ [.ref 81, .int v3, .int 2] [] _ (gSh, σ, u) (some (.int v5)) _ _ _ _ _ _ rfl rfl rfl rfl rfl rfl (c_Field_numberAt E (d + 1) u v3 2 _  hq) (Nat.le_refl _) (Nat.le_refl _) (Nat.le_refl _) (Nat.le_refl _) ?_
      show G (46, [some (.ref 81), some (.int l1), some (.int v3)], [.int v5], (gSh, σ, u))
      refine gRunN_ok hG.1 1 _ (47, [some (.ref 81), some (.int l1), some (.int v3)], [.int 1, .int v5], (gSh, σ, u)) rfl ?_
      rcases g_ite hP with ⟨hc, hP⟩ | ⟨hc, hP⟩
      · refine hG.1 _ (50, [some (.ref 81), some (.int l1), some (.int v3)], [], (gSh, σ, u)) _ rfl (if_pos hc) ?_
        refine gRunN_ok hG.1 5 _ (56, [some (.ref 81), some (.int l1), some (.int v3)], [.int (v3 + (6 : Int32)), .int l1, .ref 81], (gSh, σ, u)) rfl ?_
        obtain ⟨s8, hq, hP⟩ := g_b1 hP
        refine hG.2.2.2.1 _ _ _ [.ref 81, .int l1, .int (v3 + (6 : Int32))] [] _ (gSh, s8, u) none _ _ _ _ _ _ rfl rfl rfl rfl rfl rfl (c_Field_drivePad E (d + 0) u l1 (v3 + (6 : Int32)) _  hq) (Nat.le_refl _) (Nat.le_refl _) (Nat.le_refl _) (Nat.le_refl _) ?_
        show G (59, [some (.ref 81), some (.int l1), some (.int v3)], [], (gSh, s8, u))
        refine gRunN_ok hG.1 1 _ (62, [some (.ref 81), some (.int (l1 + 1)), some (.int v3)], [], (gSh, s8, u)) rfl ?_
        obtain ⟨x9, ex9, hP⟩ := g_let hP
        rw [← ex9]
        refine gRunN_ok hG.1 1 _ (10, [some (.ref 81), some (.int x9), some (.int v3)], [], (gSh, s8, u)) rfl ?_
        refine hG.2.2.2.2.1 _ _ [some (.ref 81), some (.int x9), none] _ _ ⟨rfl, ⟨rfl, trivial⟩⟩ ?_
        cases hP
        exact K1 _ _ rfl
      · refine hG.1 _ (59, [some (.ref 81), some (.int l1), some (.int v3)], [], (gSh, σ, u)) _ rfl (if_neg hc) ?_
        refine gRunN_ok hG.1 1 _ (62, [some (.ref 81), some (.int (l1 + 1)), some (.int v3)], [], (gSh, σ, u)) rfl ?_
        obtain ⟨x10, ex10, hP⟩ := g_let hP
        rw [← ex10]
        refine gRunN_ok hG.1 1 _ (10, [some (.ref 81), some (.int x10), some (.int v3)], [], (gSh, σ, u)) rfl ?_
        refine hG.2.2.2.2.1 _ _ [some (.ref 81), some (.int x10), none] _ _ ⟨rfl, ⟨rfl, trivial⟩⟩ ?_
        cases hP
        exact K1 _ _ rfl
    · refine hG.1 _ (59, [some (.ref 81), some (.int l1), some (.int v3)], [], (gSh, σ, u)) _ rfl (if_neg hc) ?_
      refine gRunN_ok hG.1 1 _ (62, [some (.ref 81), some (.int (l1 + 1)), some (.int v3)], [], (gSh, σ, u)) rfl ?_
      obtain ⟨x11, ex11, hP⟩ := g_let hP
      rw [← ex11]
      refine gRunN_ok hG.1 1 _ (10, [some (.ref 81), some (.int x11), some (.int v3)], [], (gSh, σ, u)) rfl ?_
      refine hG.2.2.2.2.1 _ _ [some (.ref 81), some (.int x11), none] _ _ ⟨rfl, ⟨rfl, trivial⟩⟩ ?_
      cases hP
      exact K1 _ _ rfl
theorem l_Field_setBase_10 (E : gEv) (d u : Nat) {G : gFr → Prop} {vo : Option Value} {sr : gS} (hG : gClo E gDf gP12 gY165 none (gC E gDf gMs (d + 2)) (vo, (gSh, sr, u)) G) : ∀ (n : Nat) (l1 : Int32) (σ : gS) (e : (gS)), gIter (fun z => p_Field_setBase_10 E z.1 z.2) n (l1, σ) = some e → (∀ (σ1 : gS), e = σ1 → G (65, [some (.ref 81), none, none], [], (gSh, σ1, u))) → G (10, [some (.ref 81), some (.int l1), none], [], (gSh, σ, u)) := by
  intro n
  induction n with
  | zero => intro l1 σ e h; cases h
  | succ n ih =>
    intro l1 σ e h K2
    rcases g_iter h with ⟨z, h1, h2⟩ | h1
    · exact b_Field_setBase_10 E d u hG l1 σ h1 (fun n0 n1 hz => by cases hz; exact ih _ _ e h2 K2) (fun _ hz => by cases hz)
    · exact b_Field_setBase_10 E d u hG l1 σ h1 (fun _ _ hz => by cases hz) (fun σ1 hz => K2 σ1 (by cases hz; rfl))
def p_Field_setBase_67 (E : gEv) (l1 : Int32) (σ : gS) : Option ((Int32 × gS) ⊕ (gS)) :=
  if (σ.1 1 6) ≤ l1 then (some (.inr σ)) else (gB1 (p_Field_isUsed E l1 σ) fun v14 => if v14 = 0 then (gLet (l1 + 1) fun x16 => some (.inl (x16, σ))) else (if gIn l1 (σ.2.1 84) then if (σ.1 84 l1.toNatClampNeg) = (1 : Int32) then (gB1 (p_Field_raise E 87 l1 σ) fun s18 => gLet (l1 + 1) fun x19 => some (.inl (x19, s18))) else (gLet (l1 + 1) fun x20 => some (.inl (x20, σ))) else none))
set_option maxRecDepth 20000 in
theorem b_Field_setBase_67 (E : gEv) (d u : Nat) {G : gFr → Prop} {vo : Option Value} {sr : gS} (hG : gClo E gDf gP12 gY165 none (gC E gDf gMs (d + 2)) (vo, (gSh, sr, u)) G) (l1 : Int32) (σ : gS) {r : (Int32 × gS) ⊕ (gS)} (hP : p_Field_setBase_67 E l1 σ = some r) (K1 : ∀ (m1 : Int32) (σ1 : gS), r = .inl (m1, σ1) → G (67, [some (.ref 81), some (.int m1), none], [], (gSh, σ1, u))) (K2 : ∀ (σ1 : gS), r = .inr σ1 → G (111, [none, none, none], [], (gSh, σ1, u))) : G (67, [some (.ref 81), some (.int l1), none], [], (gSh, σ, u)) := by
  unfold p_Field_setBase_67 at hP
  refine gRunN_ok hG.1 4 _ (75, [some (.ref 81), some (.int l1), none], [.int (σ.1 1 6), .int l1], (gSh, σ, u)) rfl ?_
  rcases g_ite hP with ⟨hc, hP⟩ | ⟨hc, hP⟩
  · refine hG.1 _ (111, [some (.ref 81), some (.int l1), none], [], (gSh, σ, u)) _ rfl (if_pos hc) ?_
    refine hG.2.2.2.2.1 _ _ [none, none, none] _ _ trivial ?_
    cases hP
    exact K2 _ rfl
  · refine hG.1 _ (78, [some (.ref 81), some (.int l1), none], [], (gSh, σ, u)) _ rfl (if_neg hc) ?_
    refine gRunN_ok hG.1 2 _ (80, [some (.ref 81), some (.int l1), none], [.int l1, .ref 81], (gSh, σ, u)) rfl ?_
    obtain ⟨v14, hq, hP⟩ := g_b1 hP
    refine hG.2.2.2.1 _ _ _ [.ref 81, .int l1] [] _ (gSh, σ, u) (some (.int v14)) _ _ _ _ _ _ rfl rfl rfl rfl rfl rfl (c_Field_isUsed E (d + 1) u l1 _  hq) (Nat.le_refl _) (Nat.le_refl _) (Nat.le_refl _) (Nat.le_refl _) ?_
    show G (83, [some (.ref 81), some (.int l1), none], [.int v14], (gSh, σ, u))
    rcases g_ite hP with ⟨hc, hP⟩ | ⟨hc, hP⟩
    · refine hG.1 _ (105, [some (.ref 81), some (.int l1), none], [], (gSh, σ, u)) _ rfl (if_pos hc) ?_
      refine gRunN_ok hG.1 1 _ (108, [some (.ref 81), some (.int (l1 + 1)), none], [], (gSh, σ, u)) rfl ?_
      obtain ⟨x16, ex16, hP⟩ := g_let hP
      rw [← ex16]
      refine gRunN_ok hG.1 1 _ (67, [some (.ref 81), some (.int x16), none], [], (gSh, σ, u)) rfl ?_
      cases hP
      exact K1 _ _ rfl
    · refine hG.1 _ (86, [some (.ref 81), some (.int l1), none], [], (gSh, σ, u)) _ rfl (if_neg hc) ?_
      refine gRunN_ok hG.1 3 _ (91, [some (.ref 81), some (.int l1), none], [.int l1, .ref 84], (gSh, σ, u)) rfl ?_
      obtain ⟨hc, hP⟩ := g_if hP
      refine hG.1 _ (92, [some (.ref 81), some (.int l1), none], [.int (σ.1 84 l1.toNatClampNeg)], (gSh, σ, u)) _ rfl (if_pos hc) ?_
      refine gRunN_ok hG.1 1 _ (93, [some (.ref 81), some (.int l1), none], [.int 1, .int (σ.1 84 l1.toNatClampNeg)], (gSh, σ, u)) rfl ?_
      rcases g_ite hP with ⟨hc, hP⟩ | ⟨hc, hP⟩
      · refine hG.1 _ (96, [some (.ref 81), some (.int l1), none], [], (gSh, σ, u)) _ rfl (if_pos hc) ?_
        refine gRunN_ok hG.1 4 _ (102, [some (.ref 81), some (.int l1), none], [.int l1, .ref 87, .ref 81], (gSh, σ, u)) rfl ?_
        obtain ⟨s18, hq, hP⟩ := g_b1 hP
        refine hG.2.2.2.1 _ _ _ [.ref 81, .ref 87, .int l1] [] _ (gSh, s18, u) none _ _ _ _ _ _ rfl rfl rfl rfl rfl rfl (c_Field_raise E (d + 1) u 87 l1 _ rfl hq) (Nat.le_refl _) (Nat.le_refl _) (Nat.le_refl _) (Nat.le_refl _) ?_
        show G (105, [some (.ref 81), some (.int l1), none], [], (gSh, s18, u))
        refine gRunN_ok hG.1 1 _ (108, [some (.ref 81), some (.int (l1 + 1)), none], [], (gSh, s18, u)) rfl ?_
        obtain ⟨x19, ex19, hP⟩ := g_let hP
        rw [← ex19]
        refine gRunN_ok hG.1 1 _ (67, [some (.ref 81), some (.int x19), none], [], (gSh, s18, u)) rfl ?_
        cases hP
        exact K1 _ _ rfl
      · refine hG.1 _ (105, [some (.ref 81), some (.int l1), none], [], (gSh, σ, u)) _ rfl (if_neg hc) ?_
        refine gRunN_ok hG.1 1 _ (108, [some (.ref 81), some (.int (l1 + 1)), none], [], (gSh, σ, u)) rfl ?_
        obtain ⟨x20, ex20, hP⟩ := g_let hP
        rw [← ex20]
        refine gRunN_ok hG.1 1 _ (67, [some (.ref 81), some (.int x20), none], [], (gSh, σ, u)) rfl ?_
        cases hP
        exact K1 _ _ rfl
theorem l_Field_setBase_67 (E : gEv) (d u : Nat) {G : gFr → Prop} {vo : Option Value} {sr : gS} (hG : gClo E gDf gP12 gY165 none (gC E gDf gMs (d + 2)) (vo, (gSh, sr, u)) G) : ∀ (n : Nat) (l1 : Int32) (σ : gS) (e : (gS)), gIter (fun z => p_Field_setBase_67 E z.1 z.2) n (l1, σ) = some e → (∀ (σ1 : gS), e = σ1 → G (111, [none, none, none], [], (gSh, σ1, u))) → G (67, [some (.ref 81), some (.int l1), none], [], (gSh, σ, u)) := by
  intro n
  induction n with
  | zero => intro l1 σ e h; cases h
  | succ n ih =>
    intro l1 σ e h K2
    rcases g_iter h with ⟨z, h1, h2⟩ | h1
    · exact b_Field_setBase_67 E d u hG l1 σ h1 (fun n0 n1 hz => by cases hz; exact ih _ _ e h2 K2) (fun _ hz => by cases hz)
    · exact b_Field_setBase_67 E d u hG l1 σ h1 (fun _ _ hz => by cases hz) (fun σ1 hz => K2 σ1 (by cases hz; rfl))
def p_Field_setBase (E : gEv) (σ : gS) : Option (gS) :=
  gB1 (p_Arrays_fillB E 87 0 σ) fun s2 => gB1 (gIter (fun z => p_Field_setBase_10 E z.1 z.2) gN (0, s2)) fun e12 => (fun s13 => gB1 (gIter (fun z => p_Field_setBase_67 E z.1 z.2) gN (0, s13)) fun e21 => (fun s22 => some s22) e21) e12
set_option maxRecDepth 20000 in
theorem c_Field_setBase (E : gEv) (d u : Nat) (σ : gS) {sr : gS}  (hq : p_Field_setBase E σ = some sr) : gC E gDf gMs (d + 3) 165 [.ref 81] (gSh, σ, u) (none, (gSh, sr, u)) := ⟨gM165, rfl, Nat.le_of_ble_eq_true rfl, fun G hG => by
  have hP := hq
  unfold p_Field_setBase at hP
  replace hG : gClo E gDf gP12 gY165 none (gC E gDf gMs (d + 2)) (none, (gSh, sr, u)) G := hG
  show G (0, [some (.ref 81), none, none], [], (gSh, σ, u))
  refine gRunN_ok hG.1 3 _ (5, [some (.ref 81), none, none], [.int 0, .ref 87], (gSh, σ, u)) rfl ?_
  obtain ⟨s2, hq, hP⟩ := g_b1 hP
  refine hG.2.2.2.1 _ _ _ [.ref 87, .int 0] [] _ (gSh, s2, u) none _ _ _ _ _ _ rfl rfl rfl rfl rfl rfl (c_Arrays_fillB E (d + 1) u 87 0 _ rfl hq) (Nat.le_refl _) (Nat.le_refl _) (Nat.le_refl _) (Nat.le_refl _) ?_
  show G (8, [some (.ref 81), none, none], [], (gSh, s2, u))
  refine gRunN_ok hG.1 2 _ (10, [some (.ref 81), some (.int 0), none], [], (gSh, s2, u)) rfl ?_
  obtain ⟨e12, hq, hP⟩ := g_b1 hP
  refine l_Field_setBase_10 E d u hG gN 0 s2 _ hq (fun s13 he => ?_)
  · replace he := he.symm
    subst he
    try dsimp only [gSum] at hP
    refine gRunN_ok hG.1 2 _ (67, [some (.ref 81), some (.int 0), none], [], (gSh, s13, u)) rfl ?_
    obtain ⟨e21, hq, hP⟩ := g_b1 hP
    refine l_Field_setBase_67 E d u hG gN 0 s13 _ hq (fun s22 he => ?_)
    · replace he := he.symm
      subst he
      try dsimp only [gSum] at hP
      cases hP
      exact hG.2.1 _ _ rfl rfl⟩
def p_Field_ask_j64 (E : gEv) (l2 : Int32) (l3 : Int32) (y0 : Int32) (σ : gS) : Option (Int32) :=
  if y0 = 0 then (some 0) else (gB1 (p_Field_groupAt E ((σ.1 1 4) + l2) (l3 - (1 : Int32)) σ) fun v7 => if gIn v7 (σ.2.1 88) then some (σ.1 88 v7.toNatClampNeg) else none)
set_option maxRecDepth 20000 in
theorem j_Field_ask_j64 (E : gEv) (d u : Nat) {G : gFr → Prop} (σ : gS) {v : Int32} (hG : gClo E gDf gP12 gY174 (some .int) (gC E gDf gMs (d + 2)) (some (.int v), (gSh, σ, u)) G) (l2 : Int32) (l3 : Int32) (y0 : Int32) (hP : p_Field_ask_j64 E l2 l3 y0 σ = some v) : G (64, [some (.ref 81), none, some (.int l2), some (.int l3), none], [.int y0], (gSh, σ, u)) := by
  unfold p_Field_ask_j64 at hP
  refine gRunN_ok hG.1 2 _ (68, [some (.ref 81), none, some (.int l2), some (.int l3), some (.int y0)], [.int y0], (gSh, σ, u)) rfl ?_
  rcases g_ite hP with ⟨hc, hP⟩ | ⟨hc, hP⟩
  · refine hG.1 _ (95, [some (.ref 81), none, some (.int l2), some (.int l3), some (.int y0)], [], (gSh, σ, u)) _ rfl (if_pos hc) ?_
    refine gRunN_ok hG.1 1 _ (96, [some (.ref 81), none, some (.int l2), some (.int l3), some (.int y0)], [.int 0], (gSh, σ, u)) rfl ?_
    cases hP
    exact hG.2.1 _ _ rfl rfl
  · refine hG.1 _ (71, [some (.ref 81), none, some (.int l2), some (.int l3), some (.int y0)], [], (gSh, σ, u)) _ rfl (if_neg hc) ?_
    refine gRunN_ok hG.1 11 _ (88, [some (.ref 81), none, some (.int l2), some (.int l3), some (.int y0)], [.int (l3 - (1 : Int32)), .int ((σ.1 1 4) + l2), .ref 81, .ref 88], (gSh, σ, u)) rfl ?_
    obtain ⟨v7, hq, hP⟩ := g_b1 hP
    refine hG.2.2.2.1 _ _ _ [.ref 81, .int ((σ.1 1 4) + l2), .int (l3 - (1 : Int32))] [.ref 88] _ (gSh, σ, u) (some (.int v7)) _ _ _ _ _ _ rfl rfl rfl rfl rfl rfl (c_Field_groupAt E (d + 1) u ((σ.1 1 4) + l2) (l3 - (1 : Int32)) _  hq) (Nat.le_refl _) (Nat.le_refl _) (Nat.le_refl _) (Nat.le_refl _) ?_
    show G (91, [some (.ref 81), none, some (.int l2), some (.int l3), some (.int y0)], [.int v7, .ref 88], (gSh, σ, u))
    obtain ⟨hc, hP⟩ := g_if hP
    refine hG.1 _ (92, [some (.ref 81), none, some (.int l2), some (.int l3), some (.int y0)], [.int (σ.1 88 v7.toNatClampNeg)], (gSh, σ, u)) _ rfl (if_pos hc) ?_
    refine gRunN_ok hG.1 1 _ (96, [some (.ref 81), none, some (.int l2), some (.int l3), some (.int y0)], [.int (σ.1 88 v7.toNatClampNeg)], (gSh, σ, u)) rfl ?_
    cases hP
    exact hG.2.1 _ _ rfl rfl
def p_Field_ask_j63 (E : gEv) (l2 : Int32) (l3 : Int32) (σ : gS) : Option (Int32) :=
  p_Field_ask_j64 E l2 l3 0 σ
set_option maxRecDepth 20000 in
theorem j_Field_ask_j63 (E : gEv) (d u : Nat) {G : gFr → Prop} (σ : gS) {v : Int32} (hG : gClo E gDf gP12 gY174 (some .int) (gC E gDf gMs (d + 2)) (some (.int v), (gSh, σ, u)) G) (l2 : Int32) (l3 : Int32) (hP : p_Field_ask_j63 E l2 l3 σ = some v) : G (63, [some (.ref 81), none, some (.int l2), some (.int l3), none], [], (gSh, σ, u)) := by
  unfold p_Field_ask_j63 at hP
  refine gRunN_ok hG.1 1 _ (64, [some (.ref 81), none, some (.int l2), some (.int l3), none], [.int 0], (gSh, σ, u)) rfl ?_
  exact j_Field_ask_j64 E d u σ hG l2 l3 0 hP
def p_Field_ask (E : gEv) (a0 : Int32) (a1 : Int32) (σ : gS) : Option (Int32) :=
  if a0 = 0 then (if gIn a1 (σ.2.1 89) then if gIn (σ.1 89 a1.toNatClampNeg) (σ.2.1 88) then some (σ.1 88 (σ.1 89 a1.toNatClampNeg).toNatClampNeg) else none else none) else (if a0 = (2 : Int32) then (gB1 (p_Field_outOf E a1 σ) fun v1 => some v1) else (gB1 (p_Grid_padBit E a1 σ) fun v3 => gB1 (p_Field_numberAt E (v3 + (2 : Int32)) 4 σ) fun v5 => if v5 < (1 : Int32) then (p_Field_ask_j63 E a1 v5 σ) else (if (σ.1 1 3) < v5 then (p_Field_ask_j63 E a1 v5 σ) else (p_Field_ask_j64 E a1 v5 1 σ))))
set_option maxRecDepth 20000 in
theorem c_Field_ask (E : gEv) (d u : Nat) (a0 : Int32) (a1 : Int32) (σ : gS) {v : Int32}  (hq : p_Field_ask E a0 a1 σ = some v) : gC E gDf gMs (d + 3) 174 [.ref 81, .int a0, .int a1] (gSh, σ, u) (some (.int v), (gSh, σ, u)) := ⟨gM174, rfl, Nat.le_of_ble_eq_true rfl, fun G hG => by
  have hP := hq
  unfold p_Field_ask at hP
  replace hG : gClo E gDf gP12 gY174 (some .int) (gC E gDf gMs (d + 2)) (some (.int v), (gSh, σ, u)) G := hG
  show G (0, [some (.ref 81), some (.int a0), some (.int a1), none, none], [], (gSh, σ, u))
  refine gRunN_ok hG.1 1 _ (1, [some (.ref 81), some (.int a0), some (.int a1), none, none], [.int a0], (gSh, σ, u)) rfl ?_
  rcases g_ite hP with ⟨hc, hP⟩ | ⟨hc, hP⟩
  · refine hG.1 _ (4, [some (.ref 81), some (.int a0), some (.int a1), none, none], [], (gSh, σ, u)) _ rfl (if_pos hc) ?_
    refine gRunN_ok hG.1 5 _ (13, [some (.ref 81), some (.int a0), some (.int a1), none, none], [.int a1, .ref 89, .ref 88], (gSh, σ, u)) rfl ?_
    obtain ⟨hc, hP⟩ := g_if hP
    refine hG.1 _ (14, [some (.ref 81), some (.int a0), some (.int a1), none, none], [.int (σ.1 89 a1.toNatClampNeg), .ref 88], (gSh, σ, u)) _ rfl (if_pos hc) ?_
    obtain ⟨hc, hP⟩ := g_if hP
    refine hG.1 _ (15, [some (.ref 81), some (.int a0), some (.int a1), none, none], [.int (σ.1 88 (σ.1 89 a1.toNatClampNeg).toNatClampNeg)], (gSh, σ, u)) _ rfl (if_pos hc) ?_
    cases hP
    exact hG.2.1 _ _ rfl rfl
  · refine hG.1 _ (16, [some (.ref 81), some (.int a0), some (.int a1), none, none], [], (gSh, σ, u)) _ rfl (if_neg hc) ?_
    refine gRunN_ok hG.1 2 _ (18, [some (.ref 81), some (.int a0), some (.int a1), none, none], [.int 2, .int a0], (gSh, σ, u)) rfl ?_
    rcases g_ite hP with ⟨hc, hP⟩ | ⟨hc, hP⟩
    · refine hG.1 _ (21, [some (.ref 81), some (.int a0), some (.int a1), none, none], [], (gSh, σ, u)) _ rfl (if_pos hc) ?_
      refine gRunN_ok hG.1 2 _ (23, [some (.ref 81), some (.int a0), some (.int a1), none, none], [.int a1, .ref 81], (gSh, σ, u)) rfl ?_
      obtain ⟨v1, hq, hP⟩ := g_b1 hP
      refine hG.2.2.2.1 _ _ _ [.ref 81, .int a1] [] _ (gSh, σ, u) (some (.int v1)) _ _ _ _ _ _ rfl rfl rfl rfl rfl rfl (c_Field_outOf E (d + 0) u a1 _  hq) (Nat.le_refl _) (Nat.le_refl _) (Nat.le_refl _) (Nat.le_refl _) ?_
      show G (26, [some (.ref 81), some (.int a0), some (.int a1), none, none], [.int v1], (gSh, σ, u))
      cases hP
      exact hG.2.1 _ _ rfl rfl
    · refine hG.1 _ (27, [some (.ref 81), some (.int a0), some (.int a1), none, none], [], (gSh, σ, u)) _ rfl (if_neg hc) ?_
      refine gRunN_ok hG.1 4 _ (33, [some (.ref 81), some (.int a0), some (.int a1), none, none], [.int a1, .ref 1, .ref 81], (gSh, σ, u)) rfl ?_
      obtain ⟨v3, hq, hP⟩ := g_b1 hP
      refine hG.2.2.2.1 _ _ _ [.ref 1, .int a1] [.ref 81] _ (gSh, σ, u) (some (.int v3)) _ _ _ _ _ _ rfl rfl rfl rfl rfl rfl (c_Grid_padBit E (d + 1) u a1 _  hq) (Nat.le_refl _) (Nat.le_refl _) (Nat.le_refl _) (Nat.le_refl _) ?_
      show G (36, [some (.ref 81), some (.int a0), some (.int a1), none, none], [.int v3, .ref 81], (gSh, σ, u))
      refine gRunN_ok hG.1 3 _ (39, [some (.ref 81), some (.int a0), some (.int a1), none, none], [.int 4, .int (v3 + (2 : Int32)), .ref 81], (gSh, σ, u)) rfl ?_
      obtain ⟨v5, hq, hP⟩ := g_b1 hP
      refine hG.2.2.2.1 _ _ _ [.ref 81, .int (v3 + (2 : Int32)), .int 4] [] _ (gSh, σ, u) (some (.int v5)) _ _ _ _ _ _ rfl rfl rfl rfl rfl rfl (c_Field_numberAt E (d + 1) u (v3 + (2 : Int32)) 4 _  hq) (Nat.le_refl _) (Nat.le_refl _) (Nat.le_refl _) (Nat.le_refl _) ?_
      show G (42, [some (.ref 81), some (.int a0), some (.int a1), none, none], [.int v5], (gSh, σ, u))
      refine gRunN_ok hG.1 3 _ (45, [some (.ref 81), some (.int a0), some (.int a1), some (.int v5), none], [.int 1, .int v5], (gSh, σ, u)) rfl ?_
      rcases g_ite hP with ⟨hc, hP⟩ | ⟨hc, hP⟩
      · refine hG.1 _ (63, [some (.ref 81), some (.int a0), some (.int a1), some (.int v5), none], [], (gSh, σ, u)) _ rfl (if_pos hc) ?_
        refine hG.2.2.2.2.1 _ _ [some (.ref 81), none, some (.int a1), some (.int v5), none] _ _ ⟨rfl, ⟨rfl, ⟨rfl, trivial⟩⟩⟩ ?_
        exact j_Field_ask_j63 E d u σ hG a1 v5 hP
      · refine hG.1 _ (48, [some (.ref 81), some (.int a0), some (.int a1), some (.int v5), none], [], (gSh, σ, u)) _ rfl (if_neg hc) ?_
        refine gRunN_ok hG.1 4 _ (56, [some (.ref 81), some (.int a0), some (.int a1), some (.int v5), none], [.int (σ.1 1 3), .int v5], (gSh, σ, u)) rfl ?_
        rcases g_ite hP with ⟨hc, hP⟩ | ⟨hc, hP⟩
        · refine hG.1 _ (63, [some (.ref 81), some (.int a0), some (.int a1), some (.int v5), none], [], (gSh, σ, u)) _ rfl (if_pos hc) ?_
          refine hG.2.2.2.2.1 _ _ [some (.ref 81), none, some (.int a1), some (.int v5), none] _ _ ⟨rfl, ⟨rfl, ⟨rfl, trivial⟩⟩⟩ ?_
          exact j_Field_ask_j63 E d u σ hG a1 v5 hP
        · refine hG.1 _ (59, [some (.ref 81), some (.int a0), some (.int a1), some (.int v5), none], [], (gSh, σ, u)) _ rfl (if_neg hc) ?_
          refine gRunN_ok hG.1 2 _ (64, [some (.ref 81), some (.int a0), some (.int a1), some (.int v5), none], [.int 1], (gSh, σ, u)) rfl ?_
          refine hG.2.2.2.2.1 _ _ [some (.ref 81), none, some (.int a1), some (.int v5), none] _ _ ⟨rfl, ⟨rfl, ⟨rfl, trivial⟩⟩⟩ ?_
          exact j_Field_ask_j64 E d u σ hG a1 v5 1 hP⟩
def p_Circuit_runOnce_8 (E : gEv) (l1 : Int32) (l2 : Int32) (σ : gS) : Option ((Int32 × Int32 × gS) ⊕ (Int32 × gS)) :=
  if (σ.1 30 11) ≤ l2 then (some (.inr (l1, σ))) else (if gIn l2 (σ.2.1 31) then gB1 (p_Circuit_levelOf E (σ.1 31 l2.toNatClampNeg) σ) fun v3 => if gIn l2 (σ.2.1 34) then gLet (gPut σ 34 l2.toNatClampNeg v3) fun s5 => if gIn l2 (s5.2.1 34) then if gIn l2 (s5.2.1 33) then if (s5.1 34 l2.toNatClampNeg) = (s5.1 33 l2.toNatClampNeg) then (gLet (l1 ||| (0 : Int32)) fun x6 => gLet (l2 + 1) fun x7 => some (.inl (x6, x7, s5))) else (gLet (l1 ||| (1 : Int32)) fun x8 => gLet (l2 + 1) fun x9 => some (.inl (x8, x9, s5))) else none else none else none else none)
set_option maxRecDepth 20000 in
theorem b_Circuit_runOnce_8 (E : gEv) (d u : Nat) {G : gFr → Prop} {vo : Option Value} {sr : gS} (hG : gClo E gDf gP6 gY180 (some .boolean) (gC E gDf gMs (d + 2)) (vo, (gSh, sr, u)) G) (l1 : Int32) (l2 : Int32) (σ : gS) {r : (Int32 × Int32 × gS) ⊕ (Int32 × gS)} (hP : p_Circuit_runOnce_8 E l1 l2 σ = some r) (K1 : ∀ (m1 : Int32) (m2 : Int32) (σ1 : gS), r = .inl (m1, m2, σ1) → G (8, [some (.ref 30), some (.int m1), some (.int m2)], [], (gSh, σ1, u))) (K2 : ∀ (m1 : Int32) (σ1 : gS), r = .inr (m1, σ1) → G (61, [some (.ref 30), some (.int m1), none], [], (gSh, σ1, u))) : G (8, [some (.ref 30), some (.int l1), some (.int l2)], [], (gSh, σ, u)) := by
  unfold p_Circuit_runOnce_8 at hP
  refine gRunN_ok hG.1 3 _ (13, [some (.ref 30), some (.int l1), some (.int l2)], [.int (σ.1 30 11), .int l2], (gSh, σ, u)) rfl ?_
  rcases g_ite hP with ⟨hc, hP⟩ | ⟨hc, hP⟩
  · refine hG.1 _ (61, [some (.ref 30), some (.int l1), some (.int l2)], [], (gSh, σ, u)) _ rfl (if_pos hc) ?_
    refine hG.2.2.2.2.1 _ _ [some (.ref 30), some (.int l1), none] _ _ ⟨rfl, ⟨rfl, trivial⟩⟩ ?_
    cases hP
    exact K2 _ _ rfl
  · refine hG.1 _ (16, [some (.ref 30), some (.int l1), some (.int l2)], [], (gSh, σ, u)) _ rfl (if_neg hc) ?_
    refine gRunN_ok hG.1 7 _ (27, [some (.ref 30), some (.int l1), some (.int l2)], [.int l2, .ref 31, .ref 30, .int l2, .ref 34], (gSh, σ, u)) rfl ?_
    obtain ⟨hc, hP⟩ := g_if hP
    refine hG.1 _ (28, [some (.ref 30), some (.int l1), some (.int l2)], [.int (σ.1 31 l2.toNatClampNeg), .ref 30, .int l2, .ref 34], (gSh, σ, u)) _ rfl (if_pos hc) ?_
    obtain ⟨v3, hq, hP⟩ := g_b1 hP
    refine hG.2.2.2.1 _ _ _ [.ref 30, .int (σ.1 31 l2.toNatClampNeg)] [.int l2, .ref 34] _ (gSh, σ, u) (some (.int v3)) _ _ _ _ _ _ rfl rfl rfl rfl rfl rfl (c_Circuit_levelOf E (d + 1) u (σ.1 31 l2.toNatClampNeg) _  hq) (Nat.le_refl _) (Nat.le_refl _) (Nat.le_refl _) (Nat.le_refl _) ?_
    show G (31, [some (.ref 30), some (.int l1), some (.int l2)], [.int v3, .int l2, .ref 34], (gSh, σ, u))
    obtain ⟨hc, hP⟩ := g_if hP
    refine hG.1 _ (32, [some (.ref 30), some (.int l1), some (.int l2)], [], (gSh, (gPut σ 34 l2.toNatClampNeg v3), u)) _ rfl (if_pos hc) ?_
    obtain ⟨s5, es5, hP⟩ := g_let hP
    rw [← es5]
    refine gRunN_ok hG.1 4 _ (38, [some (.ref 30), some (.int l1), some (.int l2)], [.int l2, .ref 34, .int l1], (gSh, s5, u)) rfl ?_
    obtain ⟨hc, hP⟩ := g_if hP
    refine hG.1 _ (39, [some (.ref 30), some (.int l1), some (.int l2)], [.int (s5.1 34 l2.toNatClampNeg), .int l1], (gSh, s5, u)) _ rfl (if_pos hc) ?_
    refine gRunN_ok hG.1 3 _ (44, [some (.ref 30), some (.int l1), some (.int l2)], [.int l2, .ref 33, .int (s5.1 34 l2.toNatClampNeg), .int l1], (gSh, s5, u)) rfl ?_
    obtain ⟨hc, hP⟩ := g_if hP
    refine hG.1 _ (45, [some (.ref 30), some (.int l1), some (.int l2)], [.int (s5.1 33 l2.toNatClampNeg), .int (s5.1 34 l2.toNatClampNeg), .int l1], (gSh, s5, u)) _ rfl (if_pos hc) ?_
    rcases g_ite hP with ⟨hc, hP⟩ | ⟨hc, hP⟩
    · refine hG.1 _ (52, [some (.ref 30), some (.int l1), some (.int l2)], [.int l1], (gSh, s5, u)) _ rfl (if_pos hc) ?_
      refine gRunN_ok hG.1 3 _ (55, [some (.ref 30), some (.int (l1 ||| (0 : Int32))), some (.int l2)], [], (gSh, s5, u)) rfl ?_
      obtain ⟨x6, ex6, hP⟩ := g_let hP
      rw [← ex6]
      refine gRunN_ok hG.1 1 _ (58, [some (.ref 30), some (.int x6), some (.int (l2 + 1))], [], (gSh, s5, u)) rfl ?_
      obtain ⟨x7, ex7, hP⟩ := g_let hP
      rw [← ex7]
      refine gRunN_ok hG.1 1 _ (8, [some (.ref 30), some (.int x6), some (.int x7)], [], (gSh, s5, u)) rfl ?_
      cases hP
      exact K1 _ _ _ rfl
    · refine hG.1 _ (48, [some (.ref 30), some (.int l1), some (.int l2)], [.int l1], (gSh, s5, u)) _ rfl (if_neg hc) ?_
      refine gRunN_ok hG.1 4 _ (55, [some (.ref 30), some (.int (l1 ||| (1 : Int32))), some (.int l2)], [], (gSh, s5, u)) rfl ?_
      obtain ⟨x8, ex8, hP⟩ := g_let hP
      rw [← ex8]
      refine gRunN_ok hG.1 1 _ (58, [some (.ref 30), some (.int x8), some (.int (l2 + 1))], [], (gSh, s5, u)) rfl ?_
      obtain ⟨x9, ex9, hP⟩ := g_let hP
      rw [← ex9]
      refine gRunN_ok hG.1 1 _ (8, [some (.ref 30), some (.int x8), some (.int x9)], [], (gSh, s5, u)) rfl ?_
      cases hP
      exact K1 _ _ _ rfl
theorem l_Circuit_runOnce_8 (E : gEv) (d u : Nat) {G : gFr → Prop} {vo : Option Value} {sr : gS} (hG : gClo E gDf gP6 gY180 (some .boolean) (gC E gDf gMs (d + 2)) (vo, (gSh, sr, u)) G) : ∀ (n : Nat) (l1 : Int32) (l2 : Int32) (σ : gS) (e : (Int32 × gS)), gIter (fun z => p_Circuit_runOnce_8 E z.1 z.2.1 z.2.2) n (l1, l2, σ) = some e → (∀ (m1 : Int32) (σ1 : gS), e = (m1, σ1) → G (61, [some (.ref 30), some (.int m1), none], [], (gSh, σ1, u))) → G (8, [some (.ref 30), some (.int l1), some (.int l2)], [], (gSh, σ, u)) := by
  intro n
  induction n with
  | zero => intro l1 l2 σ e h; cases h
  | succ n ih =>
    intro l1 l2 σ e h K2
    rcases g_iter h with ⟨z, h1, h2⟩ | h1
    · exact b_Circuit_runOnce_8 E d u hG l1 l2 σ h1 (fun n0 n1 n2 hz => by cases hz; exact ih _ _ _ e h2 K2) (fun _ _ hz => by cases hz)
    · exact b_Circuit_runOnce_8 E d u hG l1 l2 σ h1 (fun _ _ _ hz => by cases hz) (fun m1 σ1 hz => K2 m1 σ1 (by cases hz; rfl))
def p_Circuit_runOnce (E : gEv) (σ : gS) : Option (Int32 × gS) :=
  gB1 (p_Circuit_refresh E σ) fun s2 => gB1 (gIter (fun z => p_Circuit_runOnce_8 E z.1 z.2.1 z.2.2) gN (0, 0, s2)) fun e10 => (fun w11 s12 => if w11 = 0 then (if w11 = 0 ∨ w11 = 1 then some (w11, s12) else none) else (if ¬ (0 : Int32) < 0 ∧ ¬ (0 : Int32) < 0 ∧ ¬ (s12.1 30 11) < 0 ∧ (0 : Int32).toNatClampNeg + (s12.1 30 11).toNatClampNeg ≤ s12.2.1 34 ∧ (0 : Int32).toNatClampNeg + (s12.1 30 11).toNatClampNeg ≤ s12.2.1 33 then gLet (gRow s12 33 (va_cpy (s12.1 34) (s12.1 33) (0 : Int32).toNatClampNeg (0 : Int32).toNatClampNeg (s12.1 30 11).toNatClampNeg)) fun s13 => gLet (gPut s13 30 15 0) fun s14 => if w11 = 0 ∨ w11 = 1 then some (w11, s14) else none else none)) e10.1 e10.2
set_option maxRecDepth 20000 in
theorem c_Circuit_runOnce (E : gEv) (d u : Nat) (σ : gS) {v : Int32} {sr : gS}  (hq : p_Circuit_runOnce E σ = some (v, sr)) : gC E gDf gMs (d + 3) 180 [.ref 30] (gSh, σ, u) (some (.int v), (gSh, sr, u)) := ⟨gM180, rfl, Nat.le_of_ble_eq_true rfl, fun G hG => by
  have hP := hq
  unfold p_Circuit_runOnce at hP
  replace hG : gClo E gDf gP6 gY180 (some .boolean) (gC E gDf gMs (d + 2)) (some (.int v), (gSh, sr, u)) G := hG
  show G (0, [some (.ref 30), none, none], [], (gSh, σ, u))
  refine gRunN_ok hG.1 1 _ (1, [some (.ref 30), none, none], [.ref 30], (gSh, σ, u)) rfl ?_
  obtain ⟨s2, hq, hP⟩ := g_b1 hP
  refine hG.2.2.2.1 _ _ _ [.ref 30] [] _ (gSh, s2, u) none _ _ _ _ _ _ rfl rfl rfl rfl rfl rfl (c_Circuit_refresh E (d + 0) u _  hq) (Nat.le_refl _) (Nat.le_refl _) (Nat.le_refl _) (Nat.le_refl _) ?_
  show G (4, [some (.ref 30), none, none], [], (gSh, s2, u))
  refine gRunN_ok hG.1 4 _ (8, [some (.ref 30), some (.int 0), some (.int 0)], [], (gSh, s2, u)) rfl ?_
  obtain ⟨e10, hq, hP⟩ := g_b1 hP
  refine l_Circuit_runOnce_8 E d u hG gN 0 0 s2 _ hq (fun w11 s12 he => ?_)
  · subst he
    try dsimp only [gSum] at hP
    refine gRunN_ok hG.1 1 _ (62, [some (.ref 30), some (.int w11), none], [.int w11], (gSh, s12, u)) rfl ?_
    rcases g_ite hP with ⟨hc, hP⟩ | ⟨hc, hP⟩
    · refine hG.1 _ (87, [some (.ref 30), some (.int w11), none], [], (gSh, s12, u)) _ rfl (if_pos hc) ?_
      refine gRunN_ok hG.1 1 _ (88, [some (.ref 30), some (.int w11), none], [.int w11], (gSh, s12, u)) rfl ?_
      obtain ⟨hc, hP⟩ := g_if hP
      cases hP
      exact hG.2.1 _ _ rfl (if_pos hc)
    · refine hG.1 _ (65, [some (.ref 30), some (.int w11), none], [], (gSh, s12, u)) _ rfl (if_neg hc) ?_
      refine gRunN_ok hG.1 8 _ (79, [some (.ref 30), some (.int w11), none], [.int (s12.1 30 11), .int 0, .ref 33, .int 0, .ref 34], (gSh, s12, u)) rfl ?_
      obtain ⟨hc, hP⟩ := g_if hP
      refine hG.1 _ (82, [some (.ref 30), some (.int w11), none], [], (gSh, (gRow s12 33 (va_cpy (s12.1 34) (s12.1 33) (0 : Int32).toNatClampNeg (0 : Int32).toNatClampNeg (s12.1 30 11).toNatClampNeg)), u)) _ rfl (if_pos hc) ?_
      obtain ⟨s13, es13, hP⟩ := g_let hP
      rw [← es13]
      refine gRunN_ok hG.1 3 _ (87, [some (.ref 30), some (.int w11), none], [], (gSh, (gPut s13 30 15 0), u)) rfl ?_
      obtain ⟨s14, es14, hP⟩ := g_let hP
      rw [← es14]
      refine gRunN_ok hG.1 1 _ (88, [some (.ref 30), some (.int w11), none], [.int w11], (gSh, s14, u)) rfl ?_
      obtain ⟨hc, hP⟩ := g_if hP
      cases hP
      exact hG.2.1 _ _ rfl (if_pos hc)⟩
def p_Circuit_valueOf_j49 (E : gEv) (l1 : Int32) (σ : gS) : Option (Int32 × gS) :=
  if l1 < (400 : Int32) then (some ((-1), σ)) else (if ((400 : Int32) + (σ.1 30 10)) ≤ l1 then (some ((-1), σ)) else (gB1 (p_Circuit_refresh E σ) fun s2 => if gIn (l1 - (400 : Int32)) (s2.2.1 37) then some (s2.1 37 (l1 - (400 : Int32)).toNatClampNeg, s2) else none))
set_option maxRecDepth 20000 in
theorem j_Circuit_valueOf_j49 (E : gEv) (d u : Nat) {G : gFr → Prop} {v : Int32} {sr : gS} (hG : gClo E gDf gP6 gY184 (some .int) (gC E gDf gMs (d + 2)) (some (.int v), (gSh, sr, u)) G) (l1 : Int32) (σ : gS) (hP : p_Circuit_valueOf_j49 E l1 σ = some (v, sr)) : G (49, [some (.ref 30), some (.int l1)], [], (gSh, σ, u)) := by
  unfold p_Circuit_valueOf_j49 at hP
  refine gRunN_ok hG.1 2 _ (53, [some (.ref 30), some (.int l1)], [.int 400, .int l1], (gSh, σ, u)) rfl ?_
  rcases g_ite hP with ⟨hc, hP⟩ | ⟨hc, hP⟩
  · refine hG.1 _ (83, [some (.ref 30), some (.int l1)], [], (gSh, σ, u)) _ rfl (if_pos hc) ?_
    refine gRunN_ok hG.1 1 _ (84, [some (.ref 30), some (.int l1)], [.int (-1)], (gSh, σ, u)) rfl ?_
    cases hP
    exact hG.2.1 _ _ rfl rfl
  · refine hG.1 _ (56, [some (.ref 30), some (.int l1)], [], (gSh, σ, u)) _ rfl (if_neg hc) ?_
    refine gRunN_ok hG.1 5 _ (65, [some (.ref 30), some (.int l1)], [.int ((400 : Int32) + (σ.1 30 10)), .int l1], (gSh, σ, u)) rfl ?_
    rcases g_ite hP with ⟨hc, hP⟩ | ⟨hc, hP⟩
    · refine hG.1 _ (83, [some (.ref 30), some (.int l1)], [], (gSh, σ, u)) _ rfl (if_pos hc) ?_
      refine gRunN_ok hG.1 1 _ (84, [some (.ref 30), some (.int l1)], [.int (-1)], (gSh, σ, u)) rfl ?_
      cases hP
      exact hG.2.1 _ _ rfl rfl
    · refine hG.1 _ (68, [some (.ref 30), some (.int l1)], [], (gSh, σ, u)) _ rfl (if_neg hc) ?_
      refine gRunN_ok hG.1 1 _ (69, [some (.ref 30), some (.int l1)], [.ref 30], (gSh, σ, u)) rfl ?_
      obtain ⟨s2, hq, hP⟩ := g_b1 hP
      refine hG.2.2.2.1 _ _ _ [.ref 30] [] _ (gSh, s2, u) none _ _ _ _ _ _ rfl rfl rfl rfl rfl rfl (c_Circuit_refresh E (d + 0) u _  hq) (Nat.le_refl _) (Nat.le_refl _) (Nat.le_refl _) (Nat.le_refl _) ?_
      show G (72, [some (.ref 30), some (.int l1)], [], (gSh, s2, u))
      refine gRunN_ok hG.1 5 _ (81, [some (.ref 30), some (.int l1)], [.int (l1 - (400 : Int32)), .ref 37], (gSh, s2, u)) rfl ?_
      obtain ⟨hc, hP⟩ := g_if hP
      refine hG.1 _ (82, [some (.ref 30), some (.int l1)], [.int (s2.1 37 (l1 - (400 : Int32)).toNatClampNeg)], (gSh, s2, u)) _ rfl (if_pos hc) ?_
      cases hP
      exact hG.2.1 _ _ rfl rfl
def p_Circuit_valueOf_j19 (E : gEv) (l1 : Int32) (σ : gS) : Option (Int32 × gS) :=
  if l1 < (200 : Int32) then (p_Circuit_valueOf_j49 E l1 σ) else (if ((200 : Int32) + (σ.1 30 11)) ≤ l1 then (p_Circuit_valueOf_j49 E l1 σ) else (if gIn (l1 - (200 : Int32)) (σ.2.1 33) then some (σ.1 33 (l1 - (200 : Int32)).toNatClampNeg, σ) else none))
set_option maxRecDepth 20000 in
theorem j_Circuit_valueOf_j19 (E : gEv) (d u : Nat) {G : gFr → Prop} {v : Int32} {sr : gS} (hG : gClo E gDf gP6 gY184 (some .int) (gC E gDf gMs (d + 2)) (some (.int v), (gSh, sr, u)) G) (l1 : Int32) (σ : gS) (hP : p_Circuit_valueOf_j19 E l1 σ = some (v, sr)) : G (19, [some (.ref 30), some (.int l1)], [], (gSh, σ, u)) := by
  unfold p_Circuit_valueOf_j19 at hP
  refine gRunN_ok hG.1 2 _ (23, [some (.ref 30), some (.int l1)], [.int 200, .int l1], (gSh, σ, u)) rfl ?_
  rcases g_ite hP with ⟨hc, hP⟩ | ⟨hc, hP⟩
  · refine hG.1 _ (49, [some (.ref 30), some (.int l1)], [], (gSh, σ, u)) _ rfl (if_pos hc) ?_
    exact j_Circuit_valueOf_j49 E d u hG l1 σ hP
  · refine hG.1 _ (26, [some (.ref 30), some (.int l1)], [], (gSh, σ, u)) _ rfl (if_neg hc) ?_
    refine gRunN_ok hG.1 5 _ (35, [some (.ref 30), some (.int l1)], [.int ((200 : Int32) + (σ.1 30 11)), .int l1], (gSh, σ, u)) rfl ?_
    rcases g_ite hP with ⟨hc, hP⟩ | ⟨hc, hP⟩
    · refine hG.1 _ (49, [some (.ref 30), some (.int l1)], [], (gSh, σ, u)) _ rfl (if_pos hc) ?_
      exact j_Circuit_valueOf_j49 E d u hG l1 σ hP
    · refine hG.1 _ (38, [some (.ref 30), some (.int l1)], [], (gSh, σ, u)) _ rfl (if_neg hc) ?_
      refine gRunN_ok hG.1 5 _ (47, [some (.ref 30), some (.int l1)], [.int (l1 - (200 : Int32)), .ref 33], (gSh, σ, u)) rfl ?_
      obtain ⟨hc, hP⟩ := g_if hP
      refine hG.1 _ (48, [some (.ref 30), some (.int l1)], [.int (σ.1 33 (l1 - (200 : Int32)).toNatClampNeg)], (gSh, σ, u)) _ rfl (if_pos hc) ?_
      cases hP
      exact hG.2.1 _ _ rfl rfl
def p_Circuit_valueOf (E : gEv) (a0 : Int32) (σ : gS) : Option (Int32 × gS) :=
  if a0 < 0 then (p_Circuit_valueOf_j19 E a0 σ) else (if (σ.1 30 12) ≤ a0 then (p_Circuit_valueOf_j19 E a0 σ) else (if gIn a0 (σ.2.1 38) then some (σ.1 38 a0.toNatClampNeg, σ) else none))
set_option maxRecDepth 20000 in
theorem c_Circuit_valueOf (E : gEv) (d u : Nat) (a0 : Int32) (σ : gS) {v : Int32} {sr : gS}  (hq : p_Circuit_valueOf E a0 σ = some (v, sr)) : gC E gDf gMs (d + 3) 184 [.ref 30, .int a0] (gSh, σ, u) (some (.int v), (gSh, sr, u)) := ⟨gM184, rfl, Nat.le_of_ble_eq_true rfl, fun G hG => by
  have hP := hq
  unfold p_Circuit_valueOf at hP
  replace hG : gClo E gDf gP6 gY184 (some .int) (gC E gDf gMs (d + 2)) (some (.int v), (gSh, sr, u)) G := hG
  show G (0, [some (.ref 30), some (.int a0)], [], (gSh, σ, u))
  refine gRunN_ok hG.1 1 _ (1, [some (.ref 30), some (.int a0)], [.int a0], (gSh, σ, u)) rfl ?_
  rcases g_ite hP with ⟨hc, hP⟩ | ⟨hc, hP⟩
  · refine hG.1 _ (19, [some (.ref 30), some (.int a0)], [], (gSh, σ, u)) _ rfl (if_pos hc) ?_
    exact j_Circuit_valueOf_j19 E d u hG a0 σ hP
  · refine hG.1 _ (4, [some (.ref 30), some (.int a0)], [], (gSh, σ, u)) _ rfl (if_neg hc) ?_
    refine gRunN_ok hG.1 3 _ (9, [some (.ref 30), some (.int a0)], [.int (σ.1 30 12), .int a0], (gSh, σ, u)) rfl ?_
    rcases g_ite hP with ⟨hc, hP⟩ | ⟨hc, hP⟩
    · refine hG.1 _ (19, [some (.ref 30), some (.int a0)], [], (gSh, σ, u)) _ rfl (if_pos hc) ?_
      exact j_Circuit_valueOf_j19 E d u hG a0 σ hP
    · refine hG.1 _ (12, [some (.ref 30), some (.int a0)], [], (gSh, σ, u)) _ rfl (if_neg hc) ?_
      refine gRunN_ok hG.1 3 _ (17, [some (.ref 30), some (.int a0)], [.int a0, .ref 38], (gSh, σ, u)) rfl ?_
      obtain ⟨hc, hP⟩ := g_if hP
      refine hG.1 _ (18, [some (.ref 30), some (.int a0)], [.int (σ.1 38 a0.toNatClampNeg)], (gSh, σ, u)) _ rfl (if_pos hc) ?_
      cases hP
      exact hG.2.1 _ _ rfl rfl⟩
def p_Model_neighbours_72 (E : gEv) (l1 : Int32) (l2 : Int32) (l3 : Int32) (l5 : Int32) (l4 : Int32) (l6 : Int32) (σ : gS) : Option ((Int32 × Int32 × gS) ⊕ (Int32 × gS)) :=
  if (4 : Int32) ≤ l6 then (some (.inr (l4, σ))) else (gB1 (p_Model_cornerWire E l2 l1 l5 l3 σ) fun v3 => gB1 (p_Model_cornerWire E l2 l1 l6 l3 σ) fun v5 => if v3 = ((-1) : Int32) then (gLet (l4 + 1) fun x7 => gLet (l6 + 1) fun x8 => some (.inl (x7, x8, σ))) else (if v5 = ((-1) : Int32) then (gLet (l4 + 1) fun x9 => gLet (l6 + 1) fun x10 => some (.inl (x9, x10, σ))) else (gB1 (p_Model_meet E v3 v5 l4 σ) fun s12 => gB1 (p_Model_meet E v5 v3 l4 s12) fun s14 => gLet (l4 + 1) fun x15 => gLet (l6 + 1) fun x16 => some (.inl (x15, x16, s14)))))
set_option maxRecDepth 20000 in
theorem b_Model_neighbours_72 (E : gEv) (d u : Nat) {G : gFr → Prop} {vo : Option Value} {sr : gS} (hG : gClo E gDf gP18 gY188 none (gC E gDf gMs (d + 2)) (vo, (gSh, sr, u)) G) (l1 : Int32) (l2 : Int32) (l3 : Int32) (l5 : Int32) (l4 : Int32) (l6 : Int32) (σ : gS) {r : (Int32 × Int32 × gS) ⊕ (Int32 × gS)} (hP : p_Model_neighbours_72 E l1 l2 l3 l5 l4 l6 σ = some r) (K1 : ∀ (m4 : Int32) (m6 : Int32) (σ1 : gS), r = .inl (m4, m6, σ1) → G (72, [some (.ref 94), some (.int l1), some (.int l2), some (.int l3), some (.int m4), some (.int l5), some (.int m6), none, none], [], (gSh, σ1, u))) (K2 : ∀ (m4 : Int32) (σ1 : gS), r = .inr (m4, σ1) → G (141, [some (.ref 94), some (.int l1), some (.int l2), some (.int l3), some (.int m4), some (.int l5), none, none, none], [], (gSh, σ1, u))) : G (72, [some (.ref 94), some (.int l1), some (.int l2), some (.int l3), some (.int l4), some (.int l5), some (.int l6), none, none], [], (gSh, σ, u)) := by
  unfold p_Model_neighbours_72 at hP
  refine gRunN_ok hG.1 2 _ (75, [some (.ref 94), some (.int l1), some (.int l2), some (.int l3), some (.int l4), some (.int l5), some (.int l6), none, none], [.int 4, .int l6], (gSh, σ, u)) rfl ?_
  rcases g_ite hP with ⟨hc, hP⟩ | ⟨hc, hP⟩
  · refine hG.1 _ (141, [some (.ref 94), some (.int l1), some (.int l2), some (.int l3), some (.int l4), some (.int l5), some (.int l6), none, none], [], (gSh, σ, u)) _ rfl (if_pos hc) ?_
    refine hG.2.2.2.2.1 _ _ [some (.ref 94), some (.int l1), some (.int l2), some (.int l3), some (.int l4), some (.int l5), none, none, none] _ _ ⟨rfl, ⟨rfl, ⟨rfl, ⟨rfl, ⟨rfl, ⟨rfl, trivial⟩⟩⟩⟩⟩⟩ ?_
    cases hP
    exact K2 _ _ rfl
  · refine hG.1 _ (78, [some (.ref 94), some (.int l1), some (.int l2), some (.int l3), some (.int l4), some (.int l5), some (.int l6), none, none], [], (gSh, σ, u)) _ rfl (if_neg hc) ?_
    refine gRunN_ok hG.1 5 _ (84, [some (.ref 94), some (.int l1), some (.int l2), some (.int l3), some (.int l4), some (.int l5), some (.int l6), none, none], [.int l3, .int l5, .int l1, .int l2, .ref 94], (gSh, σ, u)) rfl ?_
    obtain ⟨v3, hq, hP⟩ := g_b1 hP
    refine hG.2.2.2.1 _ _ _ [.ref 94, .int l2, .int l1, .int l5, .int l3] [] _ (gSh, σ, u) (some (.int v3)) _ _ _ _ _ _ rfl rfl rfl rfl rfl rfl (c_Model_cornerWire E (d + 0) u l2 l1 l5 l3 _  hq) (Nat.le_refl _) (Nat.le_refl _) (Nat.le_refl _) (Nat.le_refl _) ?_
    show G (87, [some (.ref 94), some (.int l1), some (.int l2), some (.int l3), some (.int l4), some (.int l5), some (.int l6), none, none], [.int v3], (gSh, σ, u))
    refine gRunN_ok hG.1 6 _ (95, [some (.ref 94), some (.int l1), some (.int l2), some (.int l3), some (.int l4), some (.int l5), some (.int l6), some (.int v3), none], [.int l3, .int l6, .int l1, .int l2, .ref 94], (gSh, σ, u)) rfl ?_
    obtain ⟨v5, hq, hP⟩ := g_b1 hP
    refine hG.2.2.2.1 _ _ _ [.ref 94, .int l2, .int l1, .int l6, .int l3] [] _ (gSh, σ, u) (some (.int v5)) _ _ _ _ _ _ rfl rfl rfl rfl rfl rfl (c_Model_cornerWire E (d + 0) u l2 l1 l6 l3 _  hq) (Nat.le_refl _) (Nat.le_refl _) (Nat.le_refl _) (Nat.le_refl _) ?_
    show G (98, [some (.ref 94), some (.int l1), some (.int l2), some (.int l3), some (.int l4), some (.int l5), some (.int l6), some (.int v3), none], [.int v5], (gSh, σ, u))
    refine gRunN_ok hG.1 3 _ (103, [some (.ref 94), some (.int l1), some (.int l2), some (.int l3), some (.int l4), some (.int l5), some (.int l6), some (.int v3), some (.int v5)], [.int (-1), .int v3], (gSh, σ, u)) rfl ?_
    rcases g_ite hP with ⟨hc, hP⟩ | ⟨hc, hP⟩
    · refine hG.1 _ (132, [some (.ref 94), some (.int l1), some (.int l2), some (.int l3), some (.int l4), some (.int l5), some (.int l6), some (.int v3), some (.int v5)], [], (gSh, σ, u)) _ rfl (if_pos hc) ?_
      refine gRunN_ok hG.1 1 _ (135, [some (.ref 94), some (.int l1), some (.int l2), some (.int l3), some (.int (l4 + 1)), some (.int l5), some (.int l6), some (.int v3), some (.int v5)], [], (gSh, σ, u)) rfl ?_
      obtain ⟨x7, ex7, hP⟩ := g_let hP
      rw [← ex7]
      refine gRunN_ok hG.1 1 _ (138, [some (.ref 94), some (.int l1), some (.int l2), some (.int l3), some (.int x7), some (.int l5), some (.int (l6 + 1)), some (.int v3), some (.int v5)], [], (gSh, σ, u)) rfl ?_
      obtain ⟨x8, ex8, hP⟩ := g_let hP
      rw [← ex8]
      refine gRunN_ok hG.1 1 _ (72, [some (.ref 94), some (.int l1), some (.int l2), some (.int l3), some (.int x7), some (.int l5), some (.int x8), some (.int v3), some (.int v5)], [], (gSh, σ, u)) rfl ?_
      refine hG.2.2.2.2.1 _ _ [some (.ref 94), some (.int l1), some (.int l2), some (.int l3), some (.int x7), some (.int l5), some (.int x8), none, none] _ _ ⟨rfl, ⟨rfl, ⟨rfl, ⟨rfl, ⟨rfl, ⟨rfl, ⟨rfl, trivial⟩⟩⟩⟩⟩⟩⟩ ?_
      cases hP
      exact K1 _ _ _ rfl
    · refine hG.1 _ (106, [some (.ref 94), some (.int l1), some (.int l2), some (.int l3), some (.int l4), some (.int l5), some (.int l6), some (.int v3), some (.int v5)], [], (gSh, σ, u)) _ rfl (if_neg hc) ?_
      refine gRunN_ok hG.1 2 _ (109, [some (.ref 94), some (.int l1), some (.int l2), some (.int l3), some (.int l4), some (.int l5), some (.int l6), some (.int v3), some (.int v5)], [.int (-1), .int v5], (gSh, σ, u)) rfl ?_
      rcases g_ite hP with ⟨hc, hP⟩ | ⟨hc, hP⟩
      · refine hG.1 _ (132, [some (.ref 94), some (.int l1), some (.int l2), some (.int l3), some (.int l4), some (.int l5), some (.int l6), some (.int v3), some (.int v5)], [], (gSh, σ, u)) _ rfl (if_pos hc) ?_
        refine gRunN_ok hG.1 1 _ (135, [some (.ref 94), some (.int l1), some (.int l2), some (.int l3), some (.int (l4 + 1)), some (.int l5), some (.int l6), some (.int v3), some (.int v5)], [], (gSh, σ, u)) rfl ?_
        obtain ⟨x9, ex9, hP⟩ := g_let hP
        rw [← ex9]
        refine gRunN_ok hG.1 1 _ (138, [some (.ref 94), some (.int l1), some (.int l2), some (.int l3), some (.int x9), some (.int l5), some (.int (l6 + 1)), some (.int v3), some (.int v5)], [], (gSh, σ, u)) rfl ?_
        obtain ⟨x10, ex10, hP⟩ := g_let hP
        rw [← ex10]
        refine gRunN_ok hG.1 1 _ (72, [some (.ref 94), some (.int l1), some (.int l2), some (.int l3), some (.int x9), some (.int l5), some (.int x10), some (.int v3), some (.int v5)], [], (gSh, σ, u)) rfl ?_
        refine hG.2.2.2.2.1 _ _ [some (.ref 94), some (.int l1), some (.int l2), some (.int l3), some (.int x9), some (.int l5), some (.int x10), none, none] _ _ ⟨rfl, ⟨rfl, ⟨rfl, ⟨rfl, ⟨rfl, ⟨rfl, ⟨rfl, trivial⟩⟩⟩⟩⟩⟩⟩ ?_
        cases hP
        exact K1 _ _ _ rfl
      · refine hG.1 _ (112, [some (.ref 94), some (.int l1), some (.int l2), some (.int l3), some (.int l4), some (.int l5), some (.int l6), some (.int v3), some (.int v5)], [], (gSh, σ, u)) _ rfl (if_neg hc) ?_
        refine gRunN_ok hG.1 4 _ (119, [some (.ref 94), some (.int l1), some (.int l2), some (.int l3), some (.int l4), some (.int l5), some (.int l6), some (.int v3), some (.int v5)], [.int l4, .int v5, .int v3, .ref 94], (gSh, σ, u)) rfl ?_
        obtain ⟨s12, hq, hP⟩ := g_b1 hP
        refine hG.2.2.2.1 _ _ _ [.ref 94, .int v3, .int v5, .int l4] [] _ (gSh, s12, u) none _ _ _ _ _ _ rfl rfl rfl rfl rfl rfl (c_Model_meet E (d + 1) u v3 v5 l4 _  hq) (Nat.le_refl _) (Nat.le_refl _) (Nat.le_refl _) (Nat.le_refl _) ?_
        show G (122, [some (.ref 94), some (.int l1), some (.int l2), some (.int l3), some (.int l4), some (.int l5), some (.int l6), some (.int v3), some (.int v5)], [], (gSh, s12, u))
        refine gRunN_ok hG.1 4 _ (129, [some (.ref 94), some (.int l1), some (.int l2), some (.int l3), some (.int l4), some (.int l5), some (.int l6), some (.int v3), some (.int v5)], [.int l4, .int v3, .int v5, .ref 94], (gSh, s12, u)) rfl ?_
        obtain ⟨s14, hq, hP⟩ := g_b1 hP
        refine hG.2.2.2.1 _ _ _ [.ref 94, .int v5, .int v3, .int l4] [] _ (gSh, s14, u) none _ _ _ _ _ _ rfl rfl rfl rfl rfl rfl (c_Model_meet E (d + 1) u v5 v3 l4 _  hq) (Nat.le_refl _) (Nat.le_refl _) (Nat.le_refl _) (Nat.le_refl _) ?_
        show G (132, [some (.ref 94), some (.int l1), some (.int l2), some (.int l3), some (.int l4), some (.int l5), some (.int l6), some (.int v3), some (.int v5)], [], (gSh, s14, u))
        refine gRunN_ok hG.1 1 _ (135, [some (.ref 94), some (.int l1), some (.int l2), some (.int l3), some (.int (l4 + 1)), some (.int l5), some (.int l6), some (.int v3), some (.int v5)], [], (gSh, s14, u)) rfl ?_
        obtain ⟨x15, ex15, hP⟩ := g_let hP
        rw [← ex15]
        refine gRunN_ok hG.1 1 _ (138, [some (.ref 94), some (.int l1), some (.int l2), some (.int l3), some (.int x15), some (.int l5), some (.int (l6 + 1)), some (.int v3), some (.int v5)], [], (gSh, s14, u)) rfl ?_
        obtain ⟨x16, ex16, hP⟩ := g_let hP
        rw [← ex16]
        refine gRunN_ok hG.1 1 _ (72, [some (.ref 94), some (.int l1), some (.int l2), some (.int l3), some (.int x15), some (.int l5), some (.int x16), some (.int v3), some (.int v5)], [], (gSh, s14, u)) rfl ?_
        refine hG.2.2.2.2.1 _ _ [some (.ref 94), some (.int l1), some (.int l2), some (.int l3), some (.int x15), some (.int l5), some (.int x16), none, none] _ _ ⟨rfl, ⟨rfl, ⟨rfl, ⟨rfl, ⟨rfl, ⟨rfl, ⟨rfl, trivial⟩⟩⟩⟩⟩⟩⟩ ?_
        cases hP
        exact K1 _ _ _ rfl
theorem l_Model_neighbours_72 (E : gEv) (d u : Nat) {G : gFr → Prop} {vo : Option Value} {sr : gS} (hG : gClo E gDf gP18 gY188 none (gC E gDf gMs (d + 2)) (vo, (gSh, sr, u)) G) (l1 : Int32) (l2 : Int32) (l3 : Int32) (l5 : Int32) : ∀ (n : Nat) (l4 : Int32) (l6 : Int32) (σ : gS) (e : (Int32 × gS)), gIter (fun z => p_Model_neighbours_72 E l1 l2 l3 l5 z.1 z.2.1 z.2.2) n (l4, l6, σ) = some e → (∀ (m4 : Int32) (σ1 : gS), e = (m4, σ1) → G (141, [some (.ref 94), some (.int l1), some (.int l2), some (.int l3), some (.int m4), some (.int l5), none, none, none], [], (gSh, σ1, u))) → G (72, [some (.ref 94), some (.int l1), some (.int l2), some (.int l3), some (.int l4), some (.int l5), some (.int l6), none, none], [], (gSh, σ, u)) := by
  intro n
  induction n with
  | zero => intro l4 l6 σ e h; cases h
  | succ n ih =>
    intro l4 l6 σ e h K2
    rcases g_iter h with ⟨z, h1, h2⟩ | h1
    · exact b_Model_neighbours_72 E d u hG l1 l2 l3 l5 l4 l6 σ h1 (fun n0 n1 n2 hz => by cases hz; exact ih _ _ _ e h2 K2) (fun _ _ hz => by cases hz)
    · exact b_Model_neighbours_72 E d u hG l1 l2 l3 l5 l4 l6 σ h1 (fun _ _ _ hz => by cases hz) (fun m4 σ1 hz => K2 m4 σ1 (by cases hz; rfl))
def p_Model_neighbours_60 (E : gEv) (l1 : Int32) (l2 : Int32) (l3 : Int32) (l4 : Int32) (l5 : Int32) (σ : gS) : Option ((Int32 × Int32 × gS) ⊕ (gS)) :=
  if (3 : Int32) ≤ l5 then (some (.inr σ)) else (gLet (l5 + (1 : Int32)) fun x2 => gB1 (gIter (fun z => p_Model_neighbours_72 E l1 l2 l3 l5 z.1 z.2.1 z.2.2) gN (l4, x2, σ)) fun e17 => (fun w18 s19 => gLet (l5 + 1) fun x20 => some (.inl (w18, x20, s19))) e17.1 e17.2)
set_option maxRecDepth 20000 in
theorem b_Model_neighbours_60 (E : gEv) (d u : Nat) {G : gFr → Prop} {vo : Option Value} {sr : gS} (hG : gClo E gDf gP18 gY188 none (gC E gDf gMs (d + 2)) (vo, (gSh, sr, u)) G) (l1 : Int32) (l2 : Int32) (l3 : Int32) (l4 : Int32) (l5 : Int32) (σ : gS) {r : (Int32 × Int32 × gS) ⊕ (gS)} (hP : p_Model_neighbours_60 E l1 l2 l3 l4 l5 σ = some r) (K1 : ∀ (m4 : Int32) (m5 : Int32) (σ1 : gS), r = .inl (m4, m5, σ1) → G (60, [some (.ref 94), some (.int l1), some (.int l2), some (.int l3), some (.int m4), some (.int m5), none, none, none], [], (gSh, σ1, u))) (K2 : ∀ (σ1 : gS), r = .inr σ1 → G (147, [some (.ref 94), some (.int l1), some (.int l2), some (.int l3), none, none, none, none, none], [], (gSh, σ1, u))) : G (60, [some (.ref 94), some (.int l1), some (.int l2), some (.int l3), some (.int l4), some (.int l5), none, none, none], [], (gSh, σ, u)) := by
  unfold p_Model_neighbours_60 at hP
  refine gRunN_ok hG.1 2 _ (63, [some (.ref 94), some (.int l1), some (.int l2), some (.int l3), some (.int l4), some (.int l5), none, none, none], [.int 3, .int l5], (gSh, σ, u)) rfl ?_
  rcases g_ite hP with ⟨hc, hP⟩ | ⟨hc, hP⟩
  · refine hG.1 _ (147, [some (.ref 94), some (.int l1), some (.int l2), some (.int l3), some (.int l4), some (.int l5), none, none, none], [], (gSh, σ, u)) _ rfl (if_pos hc) ?_
    refine hG.2.2.2.2.1 _ _ [some (.ref 94), some (.int l1), some (.int l2), some (.int l3), none, none, none, none, none] _ _ ⟨rfl, ⟨rfl, ⟨rfl, ⟨rfl, trivial⟩⟩⟩⟩ ?_
    cases hP
    exact K2 _ rfl
  · refine hG.1 _ (66, [some (.ref 94), some (.int l1), some (.int l2), some (.int l3), some (.int l4), some (.int l5), none, none, none], [], (gSh, σ, u)) _ rfl (if_neg hc) ?_
    refine gRunN_ok hG.1 4 _ (72, [some (.ref 94), some (.int l1), some (.int l2), some (.int l3), some (.int l4), some (.int l5), some (.int (l5 + (1 : Int32))), none, none], [], (gSh, σ, u)) rfl ?_
    obtain ⟨x2, ex2, hP⟩ := g_let hP
    rw [← ex2]
    obtain ⟨e17, hq, hP⟩ := g_b1 hP
    refine l_Model_neighbours_72 E d u hG l1 l2 l3 l5 gN l4 x2 σ _ hq (fun w18 s19 he => ?_)
    · subst he
      try dsimp only [gSum] at hP
      refine gRunN_ok hG.1 1 _ (144, [some (.ref 94), some (.int l1), some (.int l2), some (.int l3), some (.int w18), some (.int (l5 + 1)), none, none, none], [], (gSh, s19, u)) rfl ?_
      obtain ⟨x20, ex20, hP⟩ := g_let hP
      rw [← ex20]
      refine gRunN_ok hG.1 1 _ (60, [some (.ref 94), some (.int l1), some (.int l2), some (.int l3), some (.int w18), some (.int x20), none, none, none], [], (gSh, s19, u)) rfl ?_
      cases hP
      exact K1 _ _ _ rfl
theorem l_Model_neighbours_60 (E : gEv) (d u : Nat) {G : gFr → Prop} {vo : Option Value} {sr : gS} (hG : gClo E gDf gP18 gY188 none (gC E gDf gMs (d + 2)) (vo, (gSh, sr, u)) G) (l1 : Int32) (l2 : Int32) (l3 : Int32) : ∀ (n : Nat) (l4 : Int32) (l5 : Int32) (σ : gS) (e : (gS)), gIter (fun z => p_Model_neighbours_60 E l1 l2 l3 z.1 z.2.1 z.2.2) n (l4, l5, σ) = some e → (∀ (σ1 : gS), e = σ1 → G (147, [some (.ref 94), some (.int l1), some (.int l2), some (.int l3), none, none, none, none, none], [], (gSh, σ1, u))) → G (60, [some (.ref 94), some (.int l1), some (.int l2), some (.int l3), some (.int l4), some (.int l5), none, none, none], [], (gSh, σ, u)) := by
  intro n
  induction n with
  | zero => intro l4 l5 σ e h; cases h
  | succ n ih =>
    intro l4 l5 σ e h K2
    rcases g_iter h with ⟨z, h1, h2⟩ | h1
    · exact b_Model_neighbours_60 E d u hG l1 l2 l3 l4 l5 σ h1 (fun n0 n1 n2 hz => by cases hz; exact ih _ _ _ e h2 K2) (fun _ hz => by cases hz)
    · exact b_Model_neighbours_60 E d u hG l1 l2 l3 l4 l5 σ h1 (fun _ _ _ hz => by cases hz) (fun σ1 hz => K2 σ1 (by cases hz; rfl))
def p_Model_neighbours_22 (E : gEv) (l1 : Int32) (l2 : Int32) (l3 : Int32) (σ : gS) : Option ((Int32 × gS) ⊕ (gS)) :=
  if (σ.1 94 3) ≤ l3 then (some (.inr σ)) else (gLet ((σ.1 94 12) + (((((l1 * ((σ.1 94 0) + (1 : Int32))) + l2) * (σ.1 94 3)) + l3) * (6 : Int32))) fun x1 => gB1 (gIter (fun z => p_Model_neighbours_60 E l1 l2 l3 z.1 z.2.1 z.2.2) gN (x1, 0, σ)) fun e21 => (fun s22 => gLet (l3 + 1) fun x23 => some (.inl (x23, s22))) e21)
set_option maxRecDepth 20000 in
theorem b_Model_neighbours_22 (E : gEv) (d u : Nat) {G : gFr → Prop} {vo : Option Value} {sr : gS} (hG : gClo E gDf gP18 gY188 none (gC E gDf gMs (d + 2)) (vo, (gSh, sr, u)) G) (l1 : Int32) (l2 : Int32) (l3 : Int32) (σ : gS) {r : (Int32 × gS) ⊕ (gS)} (hP : p_Model_neighbours_22 E l1 l2 l3 σ = some r) (K1 : ∀ (m3 : Int32) (σ1 : gS), r = .inl (m3, σ1) → G (22, [some (.ref 94), some (.int l1), some (.int l2), some (.int m3), none, none, none, none, none], [], (gSh, σ1, u))) (K2 : ∀ (σ1 : gS), r = .inr σ1 → G (153, [some (.ref 94), some (.int l1), some (.int l2), none, none, none, none, none, none], [], (gSh, σ1, u))) : G (22, [some (.ref 94), some (.int l1), some (.int l2), some (.int l3), none, none, none, none, none], [], (gSh, σ, u)) := by
  unfold p_Model_neighbours_22 at hP
  refine gRunN_ok hG.1 3 _ (27, [some (.ref 94), some (.int l1), some (.int l2), some (.int l3), none, none, none, none, none], [.int (σ.1 94 3), .int l3], (gSh, σ, u)) rfl ?_
  rcases g_ite hP with ⟨hc, hP⟩ | ⟨hc, hP⟩
  · refine hG.1 _ (153, [some (.ref 94), some (.int l1), some (.int l2), some (.int l3), none, none, none, none, none], [], (gSh, σ, u)) _ rfl (if_pos hc) ?_
    refine hG.2.2.2.2.1 _ _ [some (.ref 94), some (.int l1), some (.int l2), none, none, none, none, none, none] _ _ ⟨rfl, ⟨rfl, ⟨rfl, trivial⟩⟩⟩ ?_
    cases hP
    exact K2 _ rfl
  · refine hG.1 _ (30, [some (.ref 94), some (.int l1), some (.int l2), some (.int l3), none, none, none, none, none], [], (gSh, σ, u)) _ rfl (if_neg hc) ?_
    refine gRunN_ok hG.1 19 _ (57, [some (.ref 94), some (.int l1), some (.int l2), some (.int l3), some (.int ((σ.1 94 12) + (((((l1 * ((σ.1 94 0) + (1 : Int32))) + l2) * (σ.1 94 3)) + l3) * (6 : Int32)))), none, none, none, none], [], (gSh, σ, u)) rfl ?_
    obtain ⟨x1, ex1, hP⟩ := g_let hP
    rw [← ex1]
    refine gRunN_ok hG.1 2 _ (60, [some (.ref 94), some (.int l1), some (.int l2), some (.int l3), some (.int x1), some (.int 0), none, none, none], [], (gSh, σ, u)) rfl ?_
    obtain ⟨e21, hq, hP⟩ := g_b1 hP
    refine l_Model_neighbours_60 E d u hG l1 l2 l3 gN x1 0 σ _ hq (fun s22 he => ?_)
    · replace he := he.symm
      subst he
      try dsimp only [gSum] at hP
      refine gRunN_ok hG.1 1 _ (150, [some (.ref 94), some (.int l1), some (.int l2), some (.int (l3 + 1)), none, none, none, none, none], [], (gSh, s22, u)) rfl ?_
      obtain ⟨x23, ex23, hP⟩ := g_let hP
      rw [← ex23]
      refine gRunN_ok hG.1 1 _ (22, [some (.ref 94), some (.int l1), some (.int l2), some (.int x23), none, none, none, none, none], [], (gSh, s22, u)) rfl ?_
      cases hP
      exact K1 _ _ rfl
theorem l_Model_neighbours_22 (E : gEv) (d u : Nat) {G : gFr → Prop} {vo : Option Value} {sr : gS} (hG : gClo E gDf gP18 gY188 none (gC E gDf gMs (d + 2)) (vo, (gSh, sr, u)) G) (l1 : Int32) (l2 : Int32) : ∀ (n : Nat) (l3 : Int32) (σ : gS) (e : (gS)), gIter (fun z => p_Model_neighbours_22 E l1 l2 z.1 z.2) n (l3, σ) = some e → (∀ (σ1 : gS), e = σ1 → G (153, [some (.ref 94), some (.int l1), some (.int l2), none, none, none, none, none, none], [], (gSh, σ1, u))) → G (22, [some (.ref 94), some (.int l1), some (.int l2), some (.int l3), none, none, none, none, none], [], (gSh, σ, u)) := by
  intro n
  induction n with
  | zero => intro l3 σ e h; cases h
  | succ n ih =>
    intro l3 σ e h K2
    rcases g_iter h with ⟨z, h1, h2⟩ | h1
    · exact b_Model_neighbours_22 E d u hG l1 l2 l3 σ h1 (fun n0 n1 hz => by cases hz; exact ih _ _ e h2 K2) (fun _ hz => by cases hz)
    · exact b_Model_neighbours_22 E d u hG l1 l2 l3 σ h1 (fun _ _ hz => by cases hz) (fun σ1 hz => K2 σ1 (by cases hz; rfl))
def p_Model_neighbours_12 (E : gEv) (l1 : Int32) (l2 : Int32) (σ : gS) : Option ((Int32 × gS) ⊕ (gS)) :=
  if (σ.1 94 0) < l2 then (some (.inr σ)) else (gB1 (gIter (fun z => p_Model_neighbours_22 E l1 l2 z.1 z.2) gN (0, σ)) fun e24 => (fun s25 => gLet (l2 + 1) fun x26 => some (.inl (x26, s25))) e24)
set_option maxRecDepth 20000 in
theorem b_Model_neighbours_12 (E : gEv) (d u : Nat) {G : gFr → Prop} {vo : Option Value} {sr : gS} (hG : gClo E gDf gP18 gY188 none (gC E gDf gMs (d + 2)) (vo, (gSh, sr, u)) G) (l1 : Int32) (l2 : Int32) (σ : gS) {r : (Int32 × gS) ⊕ (gS)} (hP : p_Model_neighbours_12 E l1 l2 σ = some r) (K1 : ∀ (m2 : Int32) (σ1 : gS), r = .inl (m2, σ1) → G (12, [some (.ref 94), some (.int l1), some (.int m2), none, none, none, none, none, none], [], (gSh, σ1, u))) (K2 : ∀ (σ1 : gS), r = .inr σ1 → G (159, [some (.ref 94), some (.int l1), none, none, none, none, none, none, none], [], (gSh, σ1, u))) : G (12, [some (.ref 94), some (.int l1), some (.int l2), none, none, none, none, none, none], [], (gSh, σ, u)) := by
  unfold p_Model_neighbours_12 at hP
  refine gRunN_ok hG.1 3 _ (17, [some (.ref 94), some (.int l1), some (.int l2), none, none, none, none, none, none], [.int (σ.1 94 0), .int l2], (gSh, σ, u)) rfl ?_
  rcases g_ite hP with ⟨hc, hP⟩ | ⟨hc, hP⟩
  · refine hG.1 _ (159, [some (.ref 94), some (.int l1), some (.int l2), none, none, none, none, none, none], [], (gSh, σ, u)) _ rfl (if_pos hc) ?_
    refine hG.2.2.2.2.1 _ _ [some (.ref 94), some (.int l1), none, none, none, none, none, none, none] _ _ ⟨rfl, ⟨rfl, trivial⟩⟩ ?_
    cases hP
    exact K2 _ rfl
  · refine hG.1 _ (20, [some (.ref 94), some (.int l1), some (.int l2), none, none, none, none, none, none], [], (gSh, σ, u)) _ rfl (if_neg hc) ?_
    refine gRunN_ok hG.1 2 _ (22, [some (.ref 94), some (.int l1), some (.int l2), some (.int 0), none, none, none, none, none], [], (gSh, σ, u)) rfl ?_
    obtain ⟨e24, hq, hP⟩ := g_b1 hP
    refine l_Model_neighbours_22 E d u hG l1 l2 gN 0 σ _ hq (fun s25 he => ?_)
    · replace he := he.symm
      subst he
      try dsimp only [gSum] at hP
      refine gRunN_ok hG.1 1 _ (156, [some (.ref 94), some (.int l1), some (.int (l2 + 1)), none, none, none, none, none, none], [], (gSh, s25, u)) rfl ?_
      obtain ⟨x26, ex26, hP⟩ := g_let hP
      rw [← ex26]
      refine gRunN_ok hG.1 1 _ (12, [some (.ref 94), some (.int l1), some (.int x26), none, none, none, none, none, none], [], (gSh, s25, u)) rfl ?_
      cases hP
      exact K1 _ _ rfl
theorem l_Model_neighbours_12 (E : gEv) (d u : Nat) {G : gFr → Prop} {vo : Option Value} {sr : gS} (hG : gClo E gDf gP18 gY188 none (gC E gDf gMs (d + 2)) (vo, (gSh, sr, u)) G) (l1 : Int32) : ∀ (n : Nat) (l2 : Int32) (σ : gS) (e : (gS)), gIter (fun z => p_Model_neighbours_12 E l1 z.1 z.2) n (l2, σ) = some e → (∀ (σ1 : gS), e = σ1 → G (159, [some (.ref 94), some (.int l1), none, none, none, none, none, none, none], [], (gSh, σ1, u))) → G (12, [some (.ref 94), some (.int l1), some (.int l2), none, none, none, none, none, none], [], (gSh, σ, u)) := by
  intro n
  induction n with
  | zero => intro l2 σ e h; cases h
  | succ n ih =>
    intro l2 σ e h K2
    rcases g_iter h with ⟨z, h1, h2⟩ | h1
    · exact b_Model_neighbours_12 E d u hG l1 l2 σ h1 (fun n0 n1 hz => by cases hz; exact ih _ _ e h2 K2) (fun _ hz => by cases hz)
    · exact b_Model_neighbours_12 E d u hG l1 l2 σ h1 (fun _ _ hz => by cases hz) (fun σ1 hz => K2 σ1 (by cases hz; rfl))
def p_Model_neighbours_2 (E : gEv) (l1 : Int32) (σ : gS) : Option ((Int32 × gS) ⊕ (gS)) :=
  if (σ.1 94 1) < l1 then (some (.inr σ)) else (gB1 (gIter (fun z => p_Model_neighbours_12 E l1 z.1 z.2) gN (0, σ)) fun e27 => (fun s28 => gLet (l1 + 1) fun x29 => some (.inl (x29, s28))) e27)
set_option maxRecDepth 20000 in
theorem b_Model_neighbours_2 (E : gEv) (d u : Nat) {G : gFr → Prop} {vo : Option Value} {sr : gS} (hG : gClo E gDf gP18 gY188 none (gC E gDf gMs (d + 2)) (vo, (gSh, sr, u)) G) (l1 : Int32) (σ : gS) {r : (Int32 × gS) ⊕ (gS)} (hP : p_Model_neighbours_2 E l1 σ = some r) (K1 : ∀ (m1 : Int32) (σ1 : gS), r = .inl (m1, σ1) → G (2, [some (.ref 94), some (.int m1), none, none, none, none, none, none, none], [], (gSh, σ1, u))) (K2 : ∀ (σ1 : gS), r = .inr σ1 → G (165, [none, none, none, none, none, none, none, none, none], [], (gSh, σ1, u))) : G (2, [some (.ref 94), some (.int l1), none, none, none, none, none, none, none], [], (gSh, σ, u)) := by
  unfold p_Model_neighbours_2 at hP
  refine gRunN_ok hG.1 3 _ (7, [some (.ref 94), some (.int l1), none, none, none, none, none, none, none], [.int (σ.1 94 1), .int l1], (gSh, σ, u)) rfl ?_
  rcases g_ite hP with ⟨hc, hP⟩ | ⟨hc, hP⟩
  · refine hG.1 _ (165, [some (.ref 94), some (.int l1), none, none, none, none, none, none, none], [], (gSh, σ, u)) _ rfl (if_pos hc) ?_
    refine hG.2.2.2.2.1 _ _ [none, none, none, none, none, none, none, none, none] _ _ trivial ?_
    cases hP
    exact K2 _ rfl
  · refine hG.1 _ (10, [some (.ref 94), some (.int l1), none, none, none, none, none, none, none], [], (gSh, σ, u)) _ rfl (if_neg hc) ?_
    refine gRunN_ok hG.1 2 _ (12, [some (.ref 94), some (.int l1), some (.int 0), none, none, none, none, none, none], [], (gSh, σ, u)) rfl ?_
    obtain ⟨e27, hq, hP⟩ := g_b1 hP
    refine l_Model_neighbours_12 E d u hG l1 gN 0 σ _ hq (fun s28 he => ?_)
    · replace he := he.symm
      subst he
      try dsimp only [gSum] at hP
      refine gRunN_ok hG.1 1 _ (162, [some (.ref 94), some (.int (l1 + 1)), none, none, none, none, none, none, none], [], (gSh, s28, u)) rfl ?_
      obtain ⟨x29, ex29, hP⟩ := g_let hP
      rw [← ex29]
      refine gRunN_ok hG.1 1 _ (2, [some (.ref 94), some (.int x29), none, none, none, none, none, none, none], [], (gSh, s28, u)) rfl ?_
      cases hP
      exact K1 _ _ rfl
theorem l_Model_neighbours_2 (E : gEv) (d u : Nat) {G : gFr → Prop} {vo : Option Value} {sr : gS} (hG : gClo E gDf gP18 gY188 none (gC E gDf gMs (d + 2)) (vo, (gSh, sr, u)) G) : ∀ (n : Nat) (l1 : Int32) (σ : gS) (e : (gS)), gIter (fun z => p_Model_neighbours_2 E z.1 z.2) n (l1, σ) = some e → (∀ (σ1 : gS), e = σ1 → G (165, [none, none, none, none, none, none, none, none, none], [], (gSh, σ1, u))) → G (2, [some (.ref 94), some (.int l1), none, none, none, none, none, none, none], [], (gSh, σ, u)) := by
  intro n
  induction n with
  | zero => intro l1 σ e h; cases h
  | succ n ih =>
    intro l1 σ e h K2
    rcases g_iter h with ⟨z, h1, h2⟩ | h1
    · exact b_Model_neighbours_2 E d u hG l1 σ h1 (fun n0 n1 hz => by cases hz; exact ih _ _ e h2 K2) (fun _ hz => by cases hz)
    · exact b_Model_neighbours_2 E d u hG l1 σ h1 (fun _ _ hz => by cases hz) (fun σ1 hz => K2 σ1 (by cases hz; rfl))
def p_Model_neighbours (E : gEv) (σ : gS) : Option (gS) :=
  gB1 (gIter (fun z => p_Model_neighbours_2 E z.1 z.2) gN (0, σ)) fun e30 => (fun s31 => some s31) e30
set_option maxRecDepth 20000 in
theorem c_Model_neighbours (E : gEv) (d u : Nat) (σ : gS) {sr : gS}  (hq : p_Model_neighbours E σ = some sr) : gC E gDf gMs (d + 3) 188 [.ref 94] (gSh, σ, u) (none, (gSh, sr, u)) := ⟨gM188, rfl, Nat.le_of_ble_eq_true rfl, fun G hG => by
  have hP := hq
  unfold p_Model_neighbours at hP
  replace hG : gClo E gDf gP18 gY188 none (gC E gDf gMs (d + 2)) (none, (gSh, sr, u)) G := hG
  show G (0, [some (.ref 94), none, none, none, none, none, none, none, none], [], (gSh, σ, u))
  refine gRunN_ok hG.1 2 _ (2, [some (.ref 94), some (.int 0), none, none, none, none, none, none, none], [], (gSh, σ, u)) rfl ?_
  obtain ⟨e30, hq, hP⟩ := g_b1 hP
  refine l_Model_neighbours_2 E d u hG gN 0 σ _ hq (fun s31 he => ?_)
  · replace he := he.symm
    subst he
    try dsimp only [gSum] at hP
    cases hP
    exact hG.2.1 _ _ rfl rfl⟩
def p_Model_padLine_j137_19 (E : gEv) (l1 : Int32) (l2 : Int32) (l3 : Int32) (σ : gS) : Option ((Int32 × gS) ⊕ (gS)) :=
  if (σ.1 94 17) = 0 then (if gIn l2 (σ.2.1 97) then gB1 (p_Model_isUsed E l3 (σ.1 97 l2.toNatClampNeg) σ) fun s8 => if gIn (s8.1 94 30) (s8.2.1 105) then gLet (gPut s8 105 (s8.1 94 30).toNatClampNeg l3) fun s9 => gLet (gPut s9 94 30 ((s9.1 94 30) + (1 : Int32))) fun s10 => gLet (l2 + 1) fun x11 => some (.inl (x11, s10)) else none else none) else (gLet (l2 + 1) fun x12 => some (.inl (x12, σ)))
set_option maxRecDepth 20000 in
theorem j_Model_padLine_j137_19 (E : gEv) (d u : Nat) {G : gFr → Prop} {vo : Option Value} {sr : gS} (hG : gClo E gDf gP18 gY202 none (gC E gDf gMs (d + 2)) (vo, (gSh, sr, u)) G) (l1 : Int32) (l2 : Int32) (l3 : Int32) (σ : gS) {r : (Int32 × gS) ⊕ (gS)} (hP : p_Model_padLine_j137_19 E l1 l2 l3 σ = some r) (K1 : ∀ (m2 : Int32) (σ1 : gS), r = .inl (m2, σ1) → G (19, [some (.ref 94), some (.int l1), some (.int m2), none], [], (gSh, σ1, u))) (K2 : ∀ (σ1 : gS), r = .inr σ1 → G (181, [none, none, none, none], [], (gSh, σ1, u))) : G (137, [some (.ref 94), some (.int l1), some (.int l2), some (.int l3)], [], (gSh, σ, u)) := by
  unfold p_Model_padLine_j137_19 at hP
  refine gRunN_ok hG.1 2 _ (141, [some (.ref 94), some (.int l1), some (.int l2), some (.int l3)], [.int (σ.1 94 17)], (gSh, σ, u)) rfl ?_
  rcases g_ite hP with ⟨hc, hP⟩ | ⟨hc, hP⟩
  · refine hG.1 _ (144, [some (.ref 94), some (.int l1), some (.int l2), some (.int l3)], [], (gSh, σ, u)) _ rfl (if_pos hc) ?_
    refine gRunN_ok hG.1 5 _ (151, [some (.ref 94), some (.int l1), some (.int l2), some (.int l3)], [.int l2, .ref 97, .int l3, .ref 94], (gSh, σ, u)) rfl ?_
    obtain ⟨hc, hP⟩ := g_if hP
    refine hG.1 _ (152, [some (.ref 94), some (.int l1), some (.int l2), some (.int l3)], [.int (σ.1 97 l2.toNatClampNeg), .int l3, .ref 94], (gSh, σ, u)) _ rfl (if_pos hc) ?_
    obtain ⟨s8, hq, hP⟩ := g_b1 hP
    refine hG.2.2.2.1 _ _ _ [.ref 94, .int l3, .int (σ.1 97 l2.toNatClampNeg)] [] _ (gSh, s8, u) none _ _ _ _ _ _ rfl rfl rfl rfl rfl rfl (c_Model_isUsed E (d + 1) u l3 (σ.1 97 l2.toNatClampNeg) _  hq) (Nat.le_refl _) (Nat.le_refl _) (Nat.le_refl _) (Nat.le_refl _) ?_
    show G (155, [some (.ref 94), some (.int l1), some (.int l2), some (.int l3)], [], (gSh, s8, u))
    refine gRunN_ok hG.1 5 _ (164, [some (.ref 94), some (.int l1), some (.int l2), some (.int l3)], [.int l3, .int (s8.1 94 30), .ref 105], (gSh, s8, u)) rfl ?_
    obtain ⟨hc, hP⟩ := g_if hP
    refine hG.1 _ (165, [some (.ref 94), some (.int l1), some (.int l2), some (.int l3)], [], (gSh, (gPut s8 105 (s8.1 94 30).toNatClampNeg l3), u)) _ rfl (if_pos hc) ?_
    obtain ⟨s9, es9, hP⟩ := g_let hP
    rw [← es9]
    refine gRunN_ok hG.1 6 _ (175, [some (.ref 94), some (.int l1), some (.int l2), some (.int l3)], [], (gSh, (gPut s9 94 30 ((s9.1 94 30) + (1 : Int32))), u)) rfl ?_
    obtain ⟨s10, es10, hP⟩ := g_let hP
    rw [← es10]
    refine gRunN_ok hG.1 1 _ (178, [some (.ref 94), some (.int l1), some (.int (l2 + 1)), some (.int l3)], [], (gSh, s10, u)) rfl ?_
    obtain ⟨x11, ex11, hP⟩ := g_let hP
    rw [← ex11]
    refine gRunN_ok hG.1 1 _ (19, [some (.ref 94), some (.int l1), some (.int x11), some (.int l3)], [], (gSh, s10, u)) rfl ?_
    refine hG.2.2.2.2.1 _ _ [some (.ref 94), some (.int l1), some (.int x11), none] _ _ ⟨rfl, ⟨rfl, ⟨rfl, trivial⟩⟩⟩ ?_
    cases hP
    exact K1 _ _ rfl
  · refine hG.1 _ (175, [some (.ref 94), some (.int l1), some (.int l2), some (.int l3)], [], (gSh, σ, u)) _ rfl (if_neg hc) ?_
    refine gRunN_ok hG.1 1 _ (178, [some (.ref 94), some (.int l1), some (.int (l2 + 1)), some (.int l3)], [], (gSh, σ, u)) rfl ?_
    obtain ⟨x12, ex12, hP⟩ := g_let hP
    rw [← ex12]
    refine gRunN_ok hG.1 1 _ (19, [some (.ref 94), some (.int l1), some (.int x12), some (.int l3)], [], (gSh, σ, u)) rfl ?_
    refine hG.2.2.2.2.1 _ _ [some (.ref 94), some (.int l1), some (.int x12), none] _ _ ⟨rfl, ⟨rfl, ⟨rfl, trivial⟩⟩⟩ ?_
    cases hP
    exact K1 _ _ rfl
def p_Model_padLine_j122_19 (E : gEv) (l1 : Int32) (l2 : Int32) (l3 : Int32) (y1 : Int32) (σ : gS) : Option ((Int32 × gS) ⊕ (gS)) :=
  if gIn y1 (σ.2.1 104) then gLet (gPut σ 104 y1.toNatClampNeg l3) fun s15 => gLet (gPut s15 94 29 ((s15.1 94 29) + (1 : Int32))) fun s16 => gLet (l2 + 1) fun x17 => some (.inl (x17, s16)) else none
set_option maxRecDepth 20000 in
theorem j_Model_padLine_j122_19 (E : gEv) (d u : Nat) {G : gFr → Prop} {vo : Option Value} {sr : gS} (hG : gClo E gDf gP18 gY202 none (gC E gDf gMs (d + 2)) (vo, (gSh, sr, u)) G) (l1 : Int32) (l2 : Int32) (l3 : Int32) (y1 : Int32) (σ : gS) {r : (Int32 × gS) ⊕ (gS)} (hP : p_Model_padLine_j122_19 E l1 l2 l3 y1 σ = some r) (K1 : ∀ (m2 : Int32) (σ1 : gS), r = .inl (m2, σ1) → G (19, [some (.ref 94), some (.int l1), some (.int m2), none], [], (gSh, σ1, u))) (K2 : ∀ (σ1 : gS), r = .inr σ1 → G (181, [none, none, none, none], [], (gSh, σ1, u))) : G (122, [some (.ref 94), some (.int l1), some (.int l2), some (.int l3)], [.int y1, .ref 104], (gSh, σ, u)) := by
  unfold p_Model_padLine_j122_19 at hP
  refine gRunN_ok hG.1 1 _ (123, [some (.ref 94), some (.int l1), some (.int l2), some (.int l3)], [.int l3, .int y1, .ref 104], (gSh, σ, u)) rfl ?_
  obtain ⟨hc, hP⟩ := g_if hP
  refine hG.1 _ (124, [some (.ref 94), some (.int l1), some (.int l2), some (.int l3)], [], (gSh, (gPut σ 104 y1.toNatClampNeg l3), u)) _ rfl (if_pos hc) ?_
  obtain ⟨s15, es15, hP⟩ := g_let hP
  rw [← es15]
  refine gRunN_ok hG.1 6 _ (134, [some (.ref 94), some (.int l1), some (.int l2), some (.int l3)], [], (gSh, (gPut s15 94 29 ((s15.1 94 29) + (1 : Int32))), u)) rfl ?_
  obtain ⟨s16, es16, hP⟩ := g_let hP
  rw [← es16]
  refine gRunN_ok hG.1 2 _ (178, [some (.ref 94), some (.int l1), some (.int (l2 + 1)), some (.int l3)], [], (gSh, s16, u)) rfl ?_
  obtain ⟨x17, ex17, hP⟩ := g_let hP
  rw [← ex17]
  refine gRunN_ok hG.1 1 _ (19, [some (.ref 94), some (.int l1), some (.int x17), some (.int l3)], [], (gSh, s16, u)) rfl ?_
  refine hG.2.2.2.2.1 _ _ [some (.ref 94), some (.int l1), some (.int x17), none] _ _ ⟨rfl, ⟨rfl, ⟨rfl, trivial⟩⟩⟩ ?_
  cases hP
  exact K1 _ _ rfl
def p_Model_padLine_j74_19 (E : gEv) (l1 : Int32) (l2 : Int32) (l3 : Int32) (σ : gS) : Option ((Int32 × gS) ⊕ (gS)) :=
  if (σ.1 94 17) = 0 then (if l1 = 0 then (p_Model_padLine_j137_19 E l1 l2 l3 σ) else (if gIn l2 (σ.2.1 97) then gB1 (p_Model_makes E l3 1 (σ.1 94 29) (σ.1 97 l2.toNatClampNeg) σ) fun s14 => if (48 : Int32) ≤ (s14.1 94 29) then (p_Model_padLine_j122_19 E l1 l2 l3 0 s14) else (p_Model_padLine_j122_19 E l1 l2 l3 (s14.1 94 29) s14) else none)) else (p_Model_padLine_j137_19 E l1 l2 l3 σ)
set_option maxRecDepth 20000 in
theorem j_Model_padLine_j74_19 (E : gEv) (d u : Nat) {G : gFr → Prop} {vo : Option Value} {sr : gS} (hG : gClo E gDf gP18 gY202 none (gC E gDf gMs (d + 2)) (vo, (gSh, sr, u)) G) (l1 : Int32) (l2 : Int32) (l3 : Int32) (σ : gS) {r : (Int32 × gS) ⊕ (gS)} (hP : p_Model_padLine_j74_19 E l1 l2 l3 σ = some r) (K1 : ∀ (m2 : Int32) (σ1 : gS), r = .inl (m2, σ1) → G (19, [some (.ref 94), some (.int l1), some (.int m2), none], [], (gSh, σ1, u))) (K2 : ∀ (σ1 : gS), r = .inr σ1 → G (181, [none, none, none, none], [], (gSh, σ1, u))) : G (74, [some (.ref 94), some (.int l1), some (.int l2), some (.int l3)], [], (gSh, σ, u)) := by
  unfold p_Model_padLine_j74_19 at hP
  refine gRunN_ok hG.1 2 _ (78, [some (.ref 94), some (.int l1), some (.int l2), some (.int l3)], [.int (σ.1 94 17)], (gSh, σ, u)) rfl ?_
  rcases g_ite hP with ⟨hc, hP⟩ | ⟨hc, hP⟩
  · refine hG.1 _ (81, [some (.ref 94), some (.int l1), some (.int l2), some (.int l3)], [], (gSh, σ, u)) _ rfl (if_pos hc) ?_
    refine gRunN_ok hG.1 1 _ (82, [some (.ref 94), some (.int l1), some (.int l2), some (.int l3)], [.int l1], (gSh, σ, u)) rfl ?_
    rcases g_ite hP with ⟨hc, hP⟩ | ⟨hc, hP⟩
    · refine hG.1 _ (137, [some (.ref 94), some (.int l1), some (.int l2), some (.int l3)], [], (gSh, σ, u)) _ rfl (if_pos hc) ?_
      exact j_Model_padLine_j137_19 E d u hG l1 l2 l3 σ hP K1 K2
    · refine hG.1 _ (85, [some (.ref 94), some (.int l1), some (.int l2), some (.int l3)], [], (gSh, σ, u)) _ rfl (if_neg hc) ?_
      refine gRunN_ok hG.1 8 _ (97, [some (.ref 94), some (.int l1), some (.int l2), some (.int l3)], [.int l2, .ref 97, .int (σ.1 94 29), .int 1, .int l3, .ref 94], (gSh, σ, u)) rfl ?_
      obtain ⟨hc, hP⟩ := g_if hP
      refine hG.1 _ (98, [some (.ref 94), some (.int l1), some (.int l2), some (.int l3)], [.int (σ.1 97 l2.toNatClampNeg), .int (σ.1 94 29), .int 1, .int l3, .ref 94], (gSh, σ, u)) _ rfl (if_pos hc) ?_
      obtain ⟨s14, hq, hP⟩ := g_b1 hP
      refine hG.2.2.2.1 _ _ _ [.ref 94, .int l3, .int 1, .int (σ.1 94 29), .int (σ.1 97 l2.toNatClampNeg)] [] _ (gSh, s14, u) none _ _ _ _ _ _ rfl rfl rfl rfl rfl rfl (c_Model_makes E (d + 0) u l3 1 (σ.1 94 29) (σ.1 97 l2.toNatClampNeg) _  hq) (Nat.le_refl _) (Nat.le_refl _) (Nat.le_refl _) (Nat.le_refl _) ?_
      show G (101, [some (.ref 94), some (.int l1), some (.int l2), some (.int l3)], [], (gSh, s14, u))
      refine gRunN_ok hG.1 5 _ (111, [some (.ref 94), some (.int l1), some (.int l2), some (.int l3)], [.int 48, .int (s14.1 94 29), .ref 104], (gSh, s14, u)) rfl ?_
      rcases g_ite hP with ⟨hc, hP⟩ | ⟨hc, hP⟩
      · refine hG.1 _ (121, [some (.ref 94), some (.int l1), some (.int l2), some (.int l3)], [.ref 104], (gSh, s14, u)) _ rfl (if_pos hc) ?_
        refine gRunN_ok hG.1 1 _ (122, [some (.ref 94), some (.int l1), some (.int l2), some (.int l3)], [.int 0, .ref 104], (gSh, s14, u)) rfl ?_
        exact j_Model_padLine_j122_19 E d u hG l1 l2 l3 0 s14 hP K1 K2
      · refine hG.1 _ (114, [some (.ref 94), some (.int l1), some (.int l2), some (.int l3)], [.ref 104], (gSh, s14, u)) _ rfl (if_neg hc) ?_
        refine gRunN_ok hG.1 3 _ (122, [some (.ref 94), some (.int l1), some (.int l2), some (.int l3)], [.int (s14.1 94 29), .ref 104], (gSh, s14, u)) rfl ?_
        exact j_Model_padLine_j122_19 E d u hG l1 l2 l3 (s14.1 94 29) s14 hP K1 K2
  · refine hG.1 _ (137, [some (.ref 94), some (.int l1), some (.int l2), some (.int l3)], [], (gSh, σ, u)) _ rfl (if_neg hc) ?_
    exact j_Model_padLine_j137_19 E d u hG l1 l2 l3 σ hP K1 K2
def p_Model_padLine_19 (E : gEv) (l1 : Int32) (l2 : Int32) (σ : gS) : Option ((Int32 × gS) ⊕ (gS)) :=
  if (σ.1 94 19) ≤ l2 then (some (.inr σ)) else (if (σ.1 94 17) = 0 then (gB2 (p_Model_name E l2 σ) fun v3 s4 => if (s4.1 94 17) = 0 then (if ((s4.1 94 29) + (s4.1 94 30)) = (s4.1 94 6) then (if gIn l2 (s4.2.1 97) then gB1 (p_Model_fail E 2 (s4.1 97 l2.toNatClampNeg) s4) fun s6 => p_Model_padLine_j74_19 E l1 l2 v3 s6 else none) else (p_Model_padLine_j74_19 E l1 l2 v3 s4)) else (p_Model_padLine_j74_19 E l1 l2 v3 s4)) else (some (.inr σ)))
set_option maxRecDepth 20000 in
theorem b_Model_padLine_19 (E : gEv) (d u : Nat) {G : gFr → Prop} {vo : Option Value} {sr : gS} (hG : gClo E gDf gP18 gY202 none (gC E gDf gMs (d + 2)) (vo, (gSh, sr, u)) G) (l1 : Int32) (l2 : Int32) (σ : gS) {r : (Int32 × gS) ⊕ (gS)} (hP : p_Model_padLine_19 E l1 l2 σ = some r) (K1 : ∀ (m2 : Int32) (σ1 : gS), r = .inl (m2, σ1) → G (19, [some (.ref 94), some (.int l1), some (.int m2), none], [], (gSh, σ1, u))) (K2 : ∀ (σ1 : gS), r = .inr σ1 → G (181, [none, none, none, none], [], (gSh, σ1, u))) : G (19, [some (.ref 94), some (.int l1), some (.int l2), none], [], (gSh, σ, u)) := by
  unfold p_Model_padLine_19 at hP
  refine gRunN_ok hG.1 3 _ (24, [some (.ref 94), some (.int l1), some (.int l2), none], [.int (σ.1 94 19), .int l2], (gSh, σ, u)) rfl ?_
  rcases g_ite hP with ⟨hc, hP⟩ | ⟨hc, hP⟩
  · refine hG.1 _ (181, [some (.ref 94), some (.int l1), some (.int l2), none], [], (gSh, σ, u)) _ rfl (if_pos hc) ?_
    refine hG.2.2.2.2.1 _ _ [none, none, none, none] _ _ trivial ?_
    cases hP
    exact K2 _ rfl
  · refine hG.1 _ (27, [some (.ref 94), some (.int l1), some (.int l2), none], [], (gSh, σ, u)) _ rfl (if_neg hc) ?_
    refine gRunN_ok hG.1 2 _ (31, [some (.ref 94), some (.int l1), some (.int l2), none], [.int (σ.1 94 17)], (gSh, σ, u)) rfl ?_
    rcases g_ite hP with ⟨hc, hP⟩ | ⟨hc, hP⟩
    · refine hG.1 _ (34, [some (.ref 94), some (.int l1), some (.int l2), none], [], (gSh, σ, u)) _ rfl (if_pos hc) ?_
      refine gRunN_ok hG.1 2 _ (36, [some (.ref 94), some (.int l1), some (.int l2), none], [.int l2, .ref 94], (gSh, σ, u)) rfl ?_
      obtain ⟨v3, s4, hq, hP⟩ := g_b2 hP
      refine hG.2.2.2.1 _ _ _ [.ref 94, .int l2] [] _ (gSh, s4, u) (some (.int v3)) _ _ _ _ _ _ rfl rfl rfl rfl rfl rfl (c_Model_name E (d + 0) u l2 _  hq) (Nat.le_refl _) (Nat.le_refl _) (Nat.le_refl _) (Nat.le_refl _) ?_
      show G (39, [some (.ref 94), some (.int l1), some (.int l2), none], [.int v3], (gSh, s4, u))
      refine gRunN_ok hG.1 3 _ (44, [some (.ref 94), some (.int l1), some (.int l2), some (.int v3)], [.int (s4.1 94 17)], (gSh, s4, u)) rfl ?_
      rcases g_ite hP with ⟨hc, hP⟩ | ⟨hc, hP⟩
      · refine hG.1 _ (47, [some (.ref 94), some (.int l1), some (.int l2), some (.int v3)], [], (gSh, s4, u)) _ rfl (if_pos hc) ?_
        refine gRunN_ok hG.1 7 _ (60, [some (.ref 94), some (.int l1), some (.int l2), some (.int v3)], [.int (s4.1 94 6), .int ((s4.1 94 29) + (s4.1 94 30))], (gSh, s4, u)) rfl ?_
        rcases g_ite hP with ⟨hc, hP⟩ | ⟨hc, hP⟩
        · refine hG.1 _ (63, [some (.ref 94), some (.int l1), some (.int l2), some (.int v3)], [], (gSh, s4, u)) _ rfl (if_pos hc) ?_
          refine gRunN_ok hG.1 5 _ (70, [some (.ref 94), some (.int l1), some (.int l2), some (.int v3)], [.int l2, .ref 97, .int 2, .ref 94], (gSh, s4, u)) rfl ?_
          obtain ⟨hc, hP⟩ := g_if hP
          refine hG.1 _ (71, [some (.ref 94), some (.int l1), some (.int l2), some (.int v3)], [.int (s4.1 97 l2.toNatClampNeg), .int 2, .ref 94], (gSh, s4, u)) _ rfl (if_pos hc) ?_
          obtain ⟨s6, hq, hP⟩ := g_b1 hP
          refine hG.2.2.2.1 _ _ _ [.ref 94, .int 2, .int (s4.1 97 l2.toNatClampNeg)] [] _ (gSh, s6, u) none _ _ _ _ _ _ rfl rfl rfl rfl rfl rfl (c_Model_fail E (d + 1) u 2 (s4.1 97 l2.toNatClampNeg) _  hq) (Nat.le_refl _) (Nat.le_refl _) (Nat.le_refl _) (Nat.le_refl _) ?_
          show G (74, [some (.ref 94), some (.int l1), some (.int l2), some (.int v3)], [], (gSh, s6, u))
          exact j_Model_padLine_j74_19 E d u hG l1 l2 v3 s6 hP K1 K2
        · refine hG.1 _ (74, [some (.ref 94), some (.int l1), some (.int l2), some (.int v3)], [], (gSh, s4, u)) _ rfl (if_neg hc) ?_
          exact j_Model_padLine_j74_19 E d u hG l1 l2 v3 s4 hP K1 K2
      · refine hG.1 _ (74, [some (.ref 94), some (.int l1), some (.int l2), some (.int v3)], [], (gSh, s4, u)) _ rfl (if_neg hc) ?_
        exact j_Model_padLine_j74_19 E d u hG l1 l2 v3 s4 hP K1 K2
    · refine hG.1 _ (181, [some (.ref 94), some (.int l1), some (.int l2), none], [], (gSh, σ, u)) _ rfl (if_neg hc) ?_
      refine hG.2.2.2.2.1 _ _ [none, none, none, none] _ _ trivial ?_
      cases hP
      exact K2 _ rfl
theorem l_Model_padLine_19 (E : gEv) (d u : Nat) {G : gFr → Prop} {vo : Option Value} {sr : gS} (hG : gClo E gDf gP18 gY202 none (gC E gDf gMs (d + 2)) (vo, (gSh, sr, u)) G) (l1 : Int32) : ∀ (n : Nat) (l2 : Int32) (σ : gS) (e : (gS)), gIter (fun z => p_Model_padLine_19 E l1 z.1 z.2) n (l2, σ) = some e → (∀ (σ1 : gS), e = σ1 → G (181, [none, none, none, none], [], (gSh, σ1, u))) → G (19, [some (.ref 94), some (.int l1), some (.int l2), none], [], (gSh, σ, u)) := by
  intro n
  induction n with
  | zero => intro l2 σ e h; cases h
  | succ n ih =>
    intro l2 σ e h K2
    rcases g_iter h with ⟨z, h1, h2⟩ | h1
    · exact b_Model_padLine_19 E d u hG l1 l2 σ h1 (fun n0 n1 hz => by cases hz; exact ih _ _ e h2 K2) (fun _ hz => by cases hz)
    · exact b_Model_padLine_19 E d u hG l1 l2 σ h1 (fun _ _ hz => by cases hz) (fun σ1 hz => K2 σ1 (by cases hz; rfl))
def p_Model_padLine_j17 (E : gEv) (l1 : Int32) (σ : gS) : Option (gS) :=
  gB1 (gIter (fun z => p_Model_padLine_19 E l1 z.1 z.2) gN (1, σ)) fun e18 => (fun s19 => some s19) e18
set_option maxRecDepth 20000 in
theorem j_Model_padLine_j17 (E : gEv) (d u : Nat) {G : gFr → Prop} {sr : gS} (hG : gClo E gDf gP18 gY202 none (gC E gDf gMs (d + 2)) (none, (gSh, sr, u)) G) (l1 : Int32) (σ : gS) (hP : p_Model_padLine_j17 E l1 σ = some sr) : G (17, [some (.ref 94), some (.int l1), none, none], [], (gSh, σ, u)) := by
  unfold p_Model_padLine_j17 at hP
  refine gRunN_ok hG.1 2 _ (19, [some (.ref 94), some (.int l1), some (.int 1), none], [], (gSh, σ, u)) rfl ?_
  obtain ⟨e18, hq, hP⟩ := g_b1 hP
  refine l_Model_padLine_19 E d u hG l1 gN 1 σ _ hq (fun s19 he => ?_)
  · replace he := he.symm
    subst he
    try dsimp only [gSum] at hP
    cases hP
    exact hG.2.1 _ _ rfl rfl
def p_Model_padLine (E : gEv) (a0 : Int32) (σ : gS) : Option (gS) :=
  if (σ.1 94 19) = (1 : Int32) then (gB1 (p_Model_fail E 1 (σ.1 94 20) σ) fun s2 => p_Model_padLine_j17 E a0 s2) else (p_Model_padLine_j17 E a0 σ)
set_option maxRecDepth 20000 in
theorem c_Model_padLine (E : gEv) (d u : Nat) (a0 : Int32) (σ : gS) {sr : gS}  (hq : p_Model_padLine E a0 σ = some sr) : gC E gDf gMs (d + 3) 202 [.ref 94, .int a0] (gSh, σ, u) (none, (gSh, sr, u)) := ⟨gM202, rfl, Nat.le_of_ble_eq_true rfl, fun G hG => by
  have hP := hq
  unfold p_Model_padLine at hP
  replace hG : gClo E gDf gP18 gY202 none (gC E gDf gMs (d + 2)) (none, (gSh, sr, u)) G := hG
  show G (0, [some (.ref 94), some (.int a0), none, none], [], (gSh, σ, u))
  refine gRunN_ok hG.1 3 _ (5, [some (.ref 94), some (.int a0), none, none], [.int 1, .int (σ.1 94 19)], (gSh, σ, u)) rfl ?_
  rcases g_ite hP with ⟨hc, hP⟩ | ⟨hc, hP⟩
  · refine hG.1 _ (8, [some (.ref 94), some (.int a0), none, none], [], (gSh, σ, u)) _ rfl (if_pos hc) ?_
    refine gRunN_ok hG.1 4 _ (14, [some (.ref 94), some (.int a0), none, none], [.int (σ.1 94 20), .int 1, .ref 94], (gSh, σ, u)) rfl ?_
    obtain ⟨s2, hq, hP⟩ := g_b1 hP
    refine hG.2.2.2.1 _ _ _ [.ref 94, .int 1, .int (σ.1 94 20)] [] _ (gSh, s2, u) none _ _ _ _ _ _ rfl rfl rfl rfl rfl rfl (c_Model_fail E (d + 1) u 1 (σ.1 94 20) _  hq) (Nat.le_refl _) (Nat.le_refl _) (Nat.le_refl _) (Nat.le_refl _) ?_
    show G (17, [some (.ref 94), some (.int a0), none, none], [], (gSh, s2, u))
    exact j_Model_padLine_j17 E d u hG a0 s2 hP
  · refine hG.1 _ (17, [some (.ref 94), some (.int a0), none, none], [], (gSh, σ, u)) _ rfl (if_neg hc) ?_
    exact j_Model_padLine_j17 E d u hG a0 σ hP⟩
def p_Model_functionLine_j94_32 (E : gEv) (l1 : Int32) (l2 : Int32) (l3 : Int32) (l4 : Int32) (y1 : Int32) (y2 : Int32) (σ : gS) : Option ((Int32 × gS) ⊕ (gS)) :=
  if gIn (((y1 * y2) + l3) - (1 : Int32)) (σ.2.1 111) then gLet (gPut σ 111 (((y1 * y2) + l3) - (1 : Int32)).toNatClampNeg l4) fun s9 => gLet (l3 + 1) fun x10 => some (.inl (x10, s9)) else none
set_option maxRecDepth 20000 in
theorem j_Model_functionLine_j94_32 (E : gEv) (d u : Nat) {G : gFr → Prop} {vo : Option Value} {sr : gS} (hG : gClo E gDf gP18 gY207 none (gC E gDf gMs (d + 2)) (vo, (gSh, sr, u)) G) (l1 : Int32) (l2 : Int32) (l3 : Int32) (l4 : Int32) (y1 : Int32) (y2 : Int32) (σ : gS) {r : (Int32 × gS) ⊕ (gS)} (hP : p_Model_functionLine_j94_32 E l1 l2 l3 l4 y1 y2 σ = some r) (K1 : ∀ (m3 : Int32) (σ1 : gS), r = .inl (m3, σ1) → G (32, [some (.ref 94), some (.int l1), some (.int l2), some (.int m3), none], [], (gSh, σ1, u))) (K2 : ∀ (σ1 : gS), r = .inr σ1 → G (108, [some (.ref 94), some (.int l1), some (.int l2), none, none], [], (gSh, σ1, u))) : G (94, [some (.ref 94), some (.int l1), some (.int l2), some (.int l3), some (.int l4)], [.int y2, .int y1, .ref 111], (gSh, σ, u)) := by
  unfold p_Model_functionLine_j94_32 at hP
  refine gRunN_ok hG.1 6 _ (101, [some (.ref 94), some (.int l1), some (.int l2), some (.int l3), some (.int l4)], [.int l4, .int (((y1 * y2) + l3) - (1 : Int32)), .ref 111], (gSh, σ, u)) rfl ?_
  obtain ⟨hc, hP⟩ := g_if hP
  refine hG.1 _ (102, [some (.ref 94), some (.int l1), some (.int l2), some (.int l3), some (.int l4)], [], (gSh, (gPut σ 111 (((y1 * y2) + l3) - (1 : Int32)).toNatClampNeg l4), u)) _ rfl (if_pos hc) ?_
  obtain ⟨s9, es9, hP⟩ := g_let hP
  rw [← es9]
  refine gRunN_ok hG.1 1 _ (105, [some (.ref 94), some (.int l1), some (.int l2), some (.int (l3 + 1)), some (.int l4)], [], (gSh, s9, u)) rfl ?_
  obtain ⟨x10, ex10, hP⟩ := g_let hP
  rw [← ex10]
  refine gRunN_ok hG.1 1 _ (32, [some (.ref 94), some (.int l1), some (.int l2), some (.int x10), some (.int l4)], [], (gSh, s9, u)) rfl ?_
  refine hG.2.2.2.2.1 _ _ [some (.ref 94), some (.int l1), some (.int l2), some (.int x10), none] _ _ ⟨rfl, ⟨rfl, ⟨rfl, ⟨rfl, trivial⟩⟩⟩⟩ ?_
  cases hP
  exact K1 _ _ rfl
def p_Model_functionLine_32 (E : gEv) (l1 : Int32) (l2 : Int32) (l3 : Int32) (σ : gS) : Option ((Int32 × gS) ⊕ (gS)) :=
  if l1 < l3 then (some (.inr σ)) else (if (8 : Int32) < l3 then (some (.inr σ)) else (if (σ.1 94 17) = 0 then (gB2 (p_Model_name E l3 σ) fun v5 s6 => if (s6.1 94 17) = 0 then (if gIn l3 (s6.2.1 97) then gB1 (p_Model_isUsed E v5 (s6.1 97 l3.toNatClampNeg) s6) fun s8 => if (150 : Int32) ≤ l2 then (p_Model_functionLine_j94_32 E l1 l2 l3 v5 8 0 s8) else (p_Model_functionLine_j94_32 E l1 l2 l3 v5 8 l2 s8) else none) else (gLet (l3 + 1) fun x11 => some (.inl (x11, s6)))) else (some (.inr σ))))
set_option maxRecDepth 20000 in
theorem b_Model_functionLine_32 (E : gEv) (d u : Nat) {G : gFr → Prop} {vo : Option Value} {sr : gS} (hG : gClo E gDf gP18 gY207 none (gC E gDf gMs (d + 2)) (vo, (gSh, sr, u)) G) (l1 : Int32) (l2 : Int32) (l3 : Int32) (σ : gS) {r : (Int32 × gS) ⊕ (gS)} (hP : p_Model_functionLine_32 E l1 l2 l3 σ = some r) (K1 : ∀ (m3 : Int32) (σ1 : gS), r = .inl (m3, σ1) → G (32, [some (.ref 94), some (.int l1), some (.int l2), some (.int m3), none], [], (gSh, σ1, u))) (K2 : ∀ (σ1 : gS), r = .inr σ1 → G (108, [some (.ref 94), some (.int l1), some (.int l2), none, none], [], (gSh, σ1, u))) : G (32, [some (.ref 94), some (.int l1), some (.int l2), some (.int l3), none], [], (gSh, σ, u)) := by
  unfold p_Model_functionLine_32 at hP
  refine gRunN_ok hG.1 2 _ (34, [some (.ref 94), some (.int l1), some (.int l2), some (.int l3), none], [.int l1, .int l3], (gSh, σ, u)) rfl ?_
  rcases g_ite hP with ⟨hc, hP⟩ | ⟨hc, hP⟩
  · refine hG.1 _ (108, [some (.ref 94), some (.int l1), some (.int l2), some (.int l3), none], [], (gSh, σ, u)) _ rfl (if_pos hc) ?_
    refine hG.2.2.2.2.1 _ _ [some (.ref 94), some (.int l1), some (.int l2), none, none] _ _ ⟨rfl, ⟨rfl, ⟨rfl, trivial⟩⟩⟩ ?_
    cases hP
    exact K2 _ rfl
  · refine hG.1 _ (37, [some (.ref 94), some (.int l1), some (.int l2), some (.int l3), none], [], (gSh, σ, u)) _ rfl (if_neg hc) ?_
    refine gRunN_ok hG.1 2 _ (40, [some (.ref 94), some (.int l1), some (.int l2), some (.int l3), none], [.int 8, .int l3], (gSh, σ, u)) rfl ?_
    rcases g_ite hP with ⟨hc, hP⟩ | ⟨hc, hP⟩
    · refine hG.1 _ (108, [some (.ref 94), some (.int l1), some (.int l2), some (.int l3), none], [], (gSh, σ, u)) _ rfl (if_pos hc) ?_
      refine hG.2.2.2.2.1 _ _ [some (.ref 94), some (.int l1), some (.int l2), none, none] _ _ ⟨rfl, ⟨rfl, ⟨rfl, trivial⟩⟩⟩ ?_
      cases hP
      exact K2 _ rfl
    · refine hG.1 _ (43, [some (.ref 94), some (.int l1), some (.int l2), some (.int l3), none], [], (gSh, σ, u)) _ rfl (if_neg hc) ?_
      refine gRunN_ok hG.1 2 _ (47, [some (.ref 94), some (.int l1), some (.int l2), some (.int l3), none], [.int (σ.1 94 17)], (gSh, σ, u)) rfl ?_
      rcases g_ite hP with ⟨hc, hP⟩ | ⟨hc, hP⟩
      · refine hG.1 _ (50, [some (.ref 94), some (.int l1), some (.int l2), some (.int l3), none], [], (gSh, σ, u)) _ rfl (if_pos hc) ?_
        refine gRunN_ok hG.1 2 _ (52, [some (.ref 94), some (.int l1), some (.int l2), some (.int l3), none], [.int l3, .ref 94], (gSh, σ, u)) rfl ?_
        obtain ⟨v5, s6, hq, hP⟩ := g_b2 hP
        refine hG.2.2.2.1 _ _ _ [.ref 94, .int l3] [] _ (gSh, s6, u) (some (.int v5)) _ _ _ _ _ _ rfl rfl rfl rfl rfl rfl (c_Model_name E (d + 0) u l3 _  hq) (Nat.le_refl _) (Nat.le_refl _) (Nat.le_refl _) (Nat.le_refl _) ?_
        show G (55, [some (.ref 94), some (.int l1), some (.int l2), some (.int l3), none], [.int v5], (gSh, s6, u))
        refine gRunN_ok hG.1 3 _ (61, [some (.ref 94), some (.int l1), some (.int l2), some (.int l3), some (.int v5)], [.int (s6.1 94 17)], (gSh, s6, u)) rfl ?_
        rcases g_ite hP with ⟨hc, hP⟩ | ⟨hc, hP⟩
        · refine hG.1 _ (64, [some (.ref 94), some (.int l1), some (.int l2), some (.int l3), some (.int v5)], [], (gSh, s6, u)) _ rfl (if_pos hc) ?_
          refine gRunN_ok hG.1 5 _ (72, [some (.ref 94), some (.int l1), some (.int l2), some (.int l3), some (.int v5)], [.int l3, .ref 97, .int v5, .ref 94], (gSh, s6, u)) rfl ?_
          obtain ⟨hc, hP⟩ := g_if hP
          refine hG.1 _ (73, [some (.ref 94), some (.int l1), some (.int l2), some (.int l3), some (.int v5)], [.int (s6.1 97 l3.toNatClampNeg), .int v5, .ref 94], (gSh, s6, u)) _ rfl (if_pos hc) ?_
          obtain ⟨s8, hq, hP⟩ := g_b1 hP
          refine hG.2.2.2.1 _ _ _ [.ref 94, .int v5, .int (s6.1 97 l3.toNatClampNeg)] [] _ (gSh, s8, u) none _ _ _ _ _ _ rfl rfl rfl rfl rfl rfl (c_Model_isUsed E (d + 1) u v5 (s6.1 97 l3.toNatClampNeg) _  hq) (Nat.le_refl _) (Nat.le_refl _) (Nat.le_refl _) (Nat.le_refl _) ?_
          show G (76, [some (.ref 94), some (.int l1), some (.int l2), some (.int l3), some (.int v5)], [], (gSh, s8, u))
          refine gRunN_ok hG.1 5 _ (86, [some (.ref 94), some (.int l1), some (.int l2), some (.int l3), some (.int v5)], [.int 150, .int l2, .int 8, .ref 111], (gSh, s8, u)) rfl ?_
          rcases g_ite hP with ⟨hc, hP⟩ | ⟨hc, hP⟩
          · refine hG.1 _ (93, [some (.ref 94), some (.int l1), some (.int l2), some (.int l3), some (.int v5)], [.int 8, .ref 111], (gSh, s8, u)) _ rfl (if_pos hc) ?_
            refine gRunN_ok hG.1 1 _ (94, [some (.ref 94), some (.int l1), some (.int l2), some (.int l3), some (.int v5)], [.int 0, .int 8, .ref 111], (gSh, s8, u)) rfl ?_
            exact j_Model_functionLine_j94_32 E d u hG l1 l2 l3 v5 8 0 s8 hP K1 K2
          · refine hG.1 _ (89, [some (.ref 94), some (.int l1), some (.int l2), some (.int l3), some (.int v5)], [.int 8, .ref 111], (gSh, s8, u)) _ rfl (if_neg hc) ?_
            refine gRunN_ok hG.1 2 _ (94, [some (.ref 94), some (.int l1), some (.int l2), some (.int l3), some (.int v5)], [.int l2, .int 8, .ref 111], (gSh, s8, u)) rfl ?_
            exact j_Model_functionLine_j94_32 E d u hG l1 l2 l3 v5 8 l2 s8 hP K1 K2
        · refine hG.1 _ (102, [some (.ref 94), some (.int l1), some (.int l2), some (.int l3), some (.int v5)], [], (gSh, s6, u)) _ rfl (if_neg hc) ?_
          refine gRunN_ok hG.1 1 _ (105, [some (.ref 94), some (.int l1), some (.int l2), some (.int (l3 + 1)), some (.int v5)], [], (gSh, s6, u)) rfl ?_
          obtain ⟨x11, ex11, hP⟩ := g_let hP
          rw [← ex11]
          refine gRunN_ok hG.1 1 _ (32, [some (.ref 94), some (.int l1), some (.int l2), some (.int x11), some (.int v5)], [], (gSh, s6, u)) rfl ?_
          refine hG.2.2.2.2.1 _ _ [some (.ref 94), some (.int l1), some (.int l2), some (.int x11), none] _ _ ⟨rfl, ⟨rfl, ⟨rfl, ⟨rfl, trivial⟩⟩⟩⟩ ?_
          cases hP
          exact K1 _ _ rfl
      · refine hG.1 _ (108, [some (.ref 94), some (.int l1), some (.int l2), some (.int l3), none], [], (gSh, σ, u)) _ rfl (if_neg hc) ?_
        refine hG.2.2.2.2.1 _ _ [some (.ref 94), some (.int l1), some (.int l2), none, none] _ _ ⟨rfl, ⟨rfl, ⟨rfl, trivial⟩⟩⟩ ?_
        cases hP
        exact K2 _ rfl
theorem l_Model_functionLine_32 (E : gEv) (d u : Nat) {G : gFr → Prop} {vo : Option Value} {sr : gS} (hG : gClo E gDf gP18 gY207 none (gC E gDf gMs (d + 2)) (vo, (gSh, sr, u)) G) (l1 : Int32) (l2 : Int32) : ∀ (n : Nat) (l3 : Int32) (σ : gS) (e : (gS)), gIter (fun z => p_Model_functionLine_32 E l1 l2 z.1 z.2) n (l3, σ) = some e → (∀ (σ1 : gS), e = σ1 → G (108, [some (.ref 94), some (.int l1), some (.int l2), none, none], [], (gSh, σ1, u))) → G (32, [some (.ref 94), some (.int l1), some (.int l2), some (.int l3), none], [], (gSh, σ, u)) := by
  intro n
  induction n with
  | zero => intro l3 σ e h; cases h
  | succ n ih =>
    intro l3 σ e h K2
    rcases g_iter h with ⟨z, h1, h2⟩ | h1
    · exact b_Model_functionLine_32 E d u hG l1 l2 l3 σ h1 (fun n0 n1 hz => by cases hz; exact ih _ _ e h2 K2) (fun _ hz => by cases hz)
    · exact b_Model_functionLine_32 E d u hG l1 l2 l3 σ h1 (fun _ _ hz => by cases hz) (fun σ1 hz => K2 σ1 (by cases hz; rfl))
def p_Model_functionLine_249 (E : gEv) (l2 : Int32) (l4 : Int32) (σ : gS) : Option ((Int32 × gS) ⊕ (gS)) :=
  if (256 : Int32) ≤ l4 then (some (.inr σ)) else (if gIn (((256 : Int32) * l2) + l4) (σ.2.1 114) then gLet (gPut σ 114 (((256 : Int32) * l2) + l4).toNatClampNeg (vp_nar .boolean 0)) fun s22 => gLet (l4 + 1) fun x23 => some (.inl (x23, s22)) else none)
set_option maxRecDepth 20000 in
theorem b_Model_functionLine_249 (E : gEv) (d u : Nat) {G : gFr → Prop} {vo : Option Value} {sr : gS} (hG : gClo E gDf gP18 gY207 none (gC E gDf gMs (d + 2)) (vo, (gSh, sr, u)) G) (l2 : Int32) (l4 : Int32) (σ : gS) {r : (Int32 × gS) ⊕ (gS)} (hP : p_Model_functionLine_249 E l2 l4 σ = some r) (K1 : ∀ (m4 : Int32) (σ1 : gS), r = .inl (m4, σ1) → G (249, [some (.ref 94), none, some (.int l2), none, some (.int m4)], [], (gSh, σ1, u))) (K2 : ∀ (σ1 : gS), r = .inr σ1 → G (277, [some (.ref 94), none, none, none, none], [], (gSh, σ1, u))) : G (249, [some (.ref 94), none, some (.int l2), none, some (.int l4)], [], (gSh, σ, u)) := by
  unfold p_Model_functionLine_249 at hP
  refine gRunN_ok hG.1 2 _ (254, [some (.ref 94), none, some (.int l2), none, some (.int l4)], [.int 256, .int l4], (gSh, σ, u)) rfl ?_
  rcases g_ite hP with ⟨hc, hP⟩ | ⟨hc, hP⟩
  · refine hG.1 _ (277, [some (.ref 94), none, some (.int l2), none, some (.int l4)], [], (gSh, σ, u)) _ rfl (if_pos hc) ?_
    refine hG.2.2.2.2.1 _ _ [some (.ref 94), none, none, none, none] _ _ ⟨rfl, trivial⟩ ?_
    cases hP
    exact K2 _ rfl
  · refine hG.1 _ (257, [some (.ref 94), none, some (.int l2), none, some (.int l4)], [], (gSh, σ, u)) _ rfl (if_neg hc) ?_
    refine gRunN_ok hG.1 8 _ (270, [some (.ref 94), none, some (.int l2), none, some (.int l4)], [.int 0, .int (((256 : Int32) * l2) + l4), .ref 114], (gSh, σ, u)) rfl ?_
    obtain ⟨hc, hP⟩ := g_if hP
    refine hG.1 _ (271, [some (.ref 94), none, some (.int l2), none, some (.int l4)], [], (gSh, (gPut σ 114 (((256 : Int32) * l2) + l4).toNatClampNeg (vp_nar .boolean 0)), u)) _ rfl (if_pos hc) ?_
    obtain ⟨s22, es22, hP⟩ := g_let hP
    rw [← es22]
    refine gRunN_ok hG.1 1 _ (274, [some (.ref 94), none, some (.int l2), none, some (.int (l4 + 1))], [], (gSh, s22, u)) rfl ?_
    obtain ⟨x23, ex23, hP⟩ := g_let hP
    rw [← ex23]
    refine gRunN_ok hG.1 1 _ (249, [some (.ref 94), none, some (.int l2), none, some (.int x23)], [], (gSh, s22, u)) rfl ?_
    cases hP
    exact K1 _ _ rfl
theorem l_Model_functionLine_249 (E : gEv) (d u : Nat) {G : gFr → Prop} {vo : Option Value} {sr : gS} (hG : gClo E gDf gP18 gY207 none (gC E gDf gMs (d + 2)) (vo, (gSh, sr, u)) G) (l2 : Int32) : ∀ (n : Nat) (l4 : Int32) (σ : gS) (e : (gS)), gIter (fun z => p_Model_functionLine_249 E l2 z.1 z.2) n (l4, σ) = some e → (∀ (σ1 : gS), e = σ1 → G (277, [some (.ref 94), none, none, none, none], [], (gSh, σ1, u))) → G (249, [some (.ref 94), none, some (.int l2), none, some (.int l4)], [], (gSh, σ, u)) := by
  intro n
  induction n with
  | zero => intro l4 σ e h; cases h
  | succ n ih =>
    intro l4 σ e h K2
    rcases g_iter h with ⟨z, h1, h2⟩ | h1
    · exact b_Model_functionLine_249 E d u hG l2 l4 σ h1 (fun n0 n1 hz => by cases hz; exact ih _ _ e h2 K2) (fun _ hz => by cases hz)
    · exact b_Model_functionLine_249 E d u hG l2 l4 σ h1 (fun _ _ hz => by cases hz) (fun σ1 hz => K2 σ1 (by cases hz; rfl))
def p_Model_functionLine_j206 (E : gEv) (l1 : Int32) (l2 : Int32) (l3 : Int32) (σ : gS) : Option (gS) :=
  if (σ.1 94 17) = 0 then (if gIn (0 : Int32) (σ.2.1 97) then if gIn l2 (σ.2.1 109) then gLet (gPut σ 109 l2.toNatClampNeg (σ.1 97 (0 : Int32).toNatClampNeg)) fun s18 => if gIn l2 (s18.2.1 110) then gLet (gPut s18 110 l2.toNatClampNeg l1) fun s19 => if gIn l2 (s19.2.1 112) then gLet (gPut s19 112 l2.toNatClampNeg l3) fun s20 => if gIn l2 (s20.2.1 113) then gLet (gPut s20 113 l2.toNatClampNeg (-1)) fun s21 => gB1 (gIter (fun z => p_Model_functionLine_249 E l2 z.1 z.2) gN (0, s21)) fun e24 => (fun s25 => gLet (gPut s25 94 32 ((s25.1 94 32) + (1 : Int32))) fun s26 => some s26) e24 else none else none else none else none else none) else (some σ)
set_option maxRecDepth 20000 in
theorem j_Model_functionLine_j206 (E : gEv) (d u : Nat) {G : gFr → Prop} {sr : gS} (hG : gClo E gDf gP18 gY207 none (gC E gDf gMs (d + 2)) (none, (gSh, sr, u)) G) (l1 : Int32) (l2 : Int32) (l3 : Int32) (σ : gS) (hP : p_Model_functionLine_j206 E l1 l2 l3 σ = some sr) : G (206, [some (.ref 94), some (.int l1), some (.int l2), some (.int l3), none], [], (gSh, σ, u)) := by
  unfold p_Model_functionLine_j206 at hP
  refine gRunN_ok hG.1 2 _ (210, [some (.ref 94), some (.int l1), some (.int l2), some (.int l3), none], [.int (σ.1 94 17)], (gSh, σ, u)) rfl ?_
  rcases g_ite hP with ⟨hc, hP⟩ | ⟨hc, hP⟩
  · refine hG.1 _ (213, [some (.ref 94), some (.int l1), some (.int l2), some (.int l3), none], [], (gSh, σ, u)) _ rfl (if_pos hc) ?_
    refine gRunN_ok hG.1 6 _ (223, [some (.ref 94), some (.int l1), some (.int l2), some (.int l3), none], [.int 0, .ref 97, .int l2, .ref 109], (gSh, σ, u)) rfl ?_
    obtain ⟨hc, hP⟩ := g_if hP
    refine hG.1 _ (224, [some (.ref 94), some (.int l1), some (.int l2), some (.int l3), none], [.int (σ.1 97 (0 : Int32).toNatClampNeg), .int l2, .ref 109], (gSh, σ, u)) _ rfl (if_pos hc) ?_
    obtain ⟨hc, hP⟩ := g_if hP
    refine hG.1 _ (225, [some (.ref 94), some (.int l1), some (.int l2), some (.int l3), none], [], (gSh, (gPut σ 109 l2.toNatClampNeg (σ.1 97 (0 : Int32).toNatClampNeg)), u)) _ rfl (if_pos hc) ?_
    obtain ⟨s18, es18, hP⟩ := g_let hP
    rw [← es18]
    refine gRunN_ok hG.1 4 _ (231, [some (.ref 94), some (.int l1), some (.int l2), some (.int l3), none], [.int l1, .int l2, .ref 110], (gSh, s18, u)) rfl ?_
    obtain ⟨hc, hP⟩ := g_if hP
    refine hG.1 _ (232, [some (.ref 94), some (.int l1), some (.int l2), some (.int l3), none], [], (gSh, (gPut s18 110 l2.toNatClampNeg l1), u)) _ rfl (if_pos hc) ?_
    obtain ⟨s19, es19, hP⟩ := g_let hP
    rw [← es19]
    refine gRunN_ok hG.1 4 _ (238, [some (.ref 94), some (.int l1), some (.int l2), some (.int l3), none], [.int l3, .int l2, .ref 112], (gSh, s19, u)) rfl ?_
    obtain ⟨hc, hP⟩ := g_if hP
    refine hG.1 _ (239, [some (.ref 94), some (.int l1), some (.int l2), some (.int l3), none], [], (gSh, (gPut s19 112 l2.toNatClampNeg l3), u)) _ rfl (if_pos hc) ?_
    obtain ⟨s20, es20, hP⟩ := g_let hP
    rw [← es20]
    refine gRunN_ok hG.1 4 _ (245, [some (.ref 94), some (.int l1), some (.int l2), some (.int l3), none], [.int (-1), .int l2, .ref 113], (gSh, s20, u)) rfl ?_
    obtain ⟨hc, hP⟩ := g_if hP
    refine hG.1 _ (246, [some (.ref 94), some (.int l1), some (.int l2), some (.int l3), none], [], (gSh, (gPut s20 113 l2.toNatClampNeg (-1)), u)) _ rfl (if_pos hc) ?_
    obtain ⟨s21, es21, hP⟩ := g_let hP
    rw [← es21]
    refine gRunN_ok hG.1 2 _ (249, [some (.ref 94), some (.int l1), some (.int l2), some (.int l3), some (.int 0)], [], (gSh, s21, u)) rfl ?_
    refine hG.2.2.2.2.1 _ _ [some (.ref 94), none, some (.int l2), none, some (.int 0)] _ _ ⟨rfl, ⟨rfl, ⟨rfl, trivial⟩⟩⟩ ?_
    obtain ⟨e24, hq, hP⟩ := g_b1 hP
    refine l_Model_functionLine_249 E d u hG l2 gN 0 s21 _ hq (fun s25 he => ?_)
    · replace he := he.symm
      subst he
      try dsimp only [gSum] at hP
      refine gRunN_ok hG.1 6 _ (287, [some (.ref 94), none, none, none, none], [], (gSh, (gPut s25 94 32 ((s25.1 94 32) + (1 : Int32))), u)) rfl ?_
      obtain ⟨s26, es26, hP⟩ := g_let hP
      rw [← es26]
      cases hP
      exact hG.2.1 _ _ rfl rfl
  · refine hG.1 _ (287, [some (.ref 94), some (.int l1), some (.int l2), some (.int l3), none], [], (gSh, σ, u)) _ rfl (if_neg hc) ?_
    cases hP
    exact hG.2.1 _ _ rfl rfl
def p_Model_functionLine_j162 (E : gEv) (l1 : Int32) (l2 : Int32) (σ : gS) : Option (gS) :=
  if (σ.1 94 17) ≤ 0 then (gB2 (p_Model_name E ((σ.1 94 19) - (1 : Int32)) σ) fun v14 s15 => if (s15.1 94 17) = 0 then (if gIn ((s15.1 94 19) - (1 : Int32)) (s15.2.1 97) then gB1 (p_Model_makes E v14 3 l2 (s15.1 97 ((s15.1 94 19) - (1 : Int32)).toNatClampNeg) s15) fun s17 => p_Model_functionLine_j206 E l1 l2 v14 s17 else none) else (p_Model_functionLine_j206 E l1 l2 v14 s15)) else (some σ)
set_option maxRecDepth 20000 in
theorem j_Model_functionLine_j162 (E : gEv) (d u : Nat) {G : gFr → Prop} {sr : gS} (hG : gClo E gDf gP18 gY207 none (gC E gDf gMs (d + 2)) (none, (gSh, sr, u)) G) (l1 : Int32) (l2 : Int32) (σ : gS) (hP : p_Model_functionLine_j162 E l1 l2 σ = some sr) : G (162, [some (.ref 94), some (.int l1), some (.int l2), none, none], [], (gSh, σ, u)) := by
  unfold p_Model_functionLine_j162 at hP
  refine gRunN_ok hG.1 2 _ (166, [some (.ref 94), some (.int l1), some (.int l2), none, none], [.int (σ.1 94 17)], (gSh, σ, u)) rfl ?_
  rcases g_ite hP with ⟨hc, hP⟩ | ⟨hc, hP⟩
  · refine hG.1 _ (170, [some (.ref 94), some (.int l1), some (.int l2), none, none], [], (gSh, σ, u)) _ rfl (if_pos hc) ?_
    refine gRunN_ok hG.1 5 _ (177, [some (.ref 94), some (.int l1), some (.int l2), none, none], [.int ((σ.1 94 19) - (1 : Int32)), .ref 94], (gSh, σ, u)) rfl ?_
    obtain ⟨v14, s15, hq, hP⟩ := g_b2 hP
    refine hG.2.2.2.1 _ _ _ [.ref 94, .int ((σ.1 94 19) - (1 : Int32))] [] _ (gSh, s15, u) (some (.int v14)) _ _ _ _ _ _ rfl rfl rfl rfl rfl rfl (c_Model_name E (d + 0) u ((σ.1 94 19) - (1 : Int32)) _  hq) (Nat.le_refl _) (Nat.le_refl _) (Nat.le_refl _) (Nat.le_refl _) ?_
    show G (180, [some (.ref 94), some (.int l1), some (.int l2), none, none], [.int v14], (gSh, s15, u))
    refine gRunN_ok hG.1 3 _ (185, [some (.ref 94), some (.int l1), some (.int l2), some (.int v14), none], [.int (s15.1 94 17)], (gSh, s15, u)) rfl ?_
    rcases g_ite hP with ⟨hc, hP⟩ | ⟨hc, hP⟩
    · refine hG.1 _ (188, [some (.ref 94), some (.int l1), some (.int l2), some (.int v14), none], [], (gSh, s15, u)) _ rfl (if_pos hc) ?_
      refine gRunN_ok hG.1 10 _ (202, [some (.ref 94), some (.int l1), some (.int l2), some (.int v14), none], [.int ((s15.1 94 19) - (1 : Int32)), .ref 97, .int l2, .int 3, .int v14, .ref 94], (gSh, s15, u)) rfl ?_
      obtain ⟨hc, hP⟩ := g_if hP
      refine hG.1 _ (203, [some (.ref 94), some (.int l1), some (.int l2), some (.int v14), none], [.int (s15.1 97 ((s15.1 94 19) - (1 : Int32)).toNatClampNeg), .int l2, .int 3, .int v14, .ref 94], (gSh, s15, u)) _ rfl (if_pos hc) ?_
      obtain ⟨s17, hq, hP⟩ := g_b1 hP
      refine hG.2.2.2.1 _ _ _ [.ref 94, .int v14, .int 3, .int l2, .int (s15.1 97 ((s15.1 94 19) - (1 : Int32)).toNatClampNeg)] [] _ (gSh, s17, u) none _ _ _ _ _ _ rfl rfl rfl rfl rfl rfl (c_Model_makes E (d + 0) u v14 3 l2 (s15.1 97 ((s15.1 94 19) - (1 : Int32)).toNatClampNeg) _  hq) (Nat.le_refl _) (Nat.le_refl _) (Nat.le_refl _) (Nat.le_refl _) ?_
      show G (206, [some (.ref 94), some (.int l1), some (.int l2), some (.int v14), none], [], (gSh, s17, u))
      exact j_Model_functionLine_j206 E d u hG l1 l2 v14 s17 hP
    · refine hG.1 _ (206, [some (.ref 94), some (.int l1), some (.int l2), some (.int v14), none], [], (gSh, s15, u)) _ rfl (if_neg hc) ?_
      exact j_Model_functionLine_j206 E d u hG l1 l2 v14 s15 hP
  · refine hG.1 _ (169, [some (.ref 94), some (.int l1), some (.int l2), none, none], [], (gSh, σ, u)) _ rfl (if_neg hc) ?_
    cases hP
    exact hG.2.1 _ _ rfl rfl
def p_Model_functionLine_j150 (E : gEv) (l1 : Int32) (l2 : Int32) (σ : gS) : Option (gS) :=
  if gIn (9 : Int32) (σ.2.1 97) then gB1 (p_Model_fail E 2 (σ.1 97 (9 : Int32).toNatClampNeg) σ) fun s30 => p_Model_functionLine_j162 E l1 l2 s30 else none
set_option maxRecDepth 20000 in
theorem j_Model_functionLine_j150 (E : gEv) (d u : Nat) {G : gFr → Prop} {sr : gS} (hG : gClo E gDf gP18 gY207 none (gC E gDf gMs (d + 2)) (none, (gSh, sr, u)) G) (l1 : Int32) (l2 : Int32) (σ : gS) (hP : p_Model_functionLine_j150 E l1 l2 σ = some sr) : G (150, [some (.ref 94), some (.int l1), some (.int l2), none, none], [], (gSh, σ, u)) := by
  unfold p_Model_functionLine_j150 at hP
  refine gRunN_ok hG.1 5 _ (158, [some (.ref 94), some (.int l1), some (.int l2), none, none], [.int 9, .ref 97, .int 2, .ref 94], (gSh, σ, u)) rfl ?_
  obtain ⟨hc, hP⟩ := g_if hP
  refine hG.1 _ (159, [some (.ref 94), some (.int l1), some (.int l2), none, none], [.int (σ.1 97 (9 : Int32).toNatClampNeg), .int 2, .ref 94], (gSh, σ, u)) _ rfl (if_pos hc) ?_
  obtain ⟨s30, hq, hP⟩ := g_b1 hP
  refine hG.2.2.2.1 _ _ _ [.ref 94, .int 2, .int (σ.1 97 (9 : Int32).toNatClampNeg)] [] _ (gSh, s30, u) none _ _ _ _ _ _ rfl rfl rfl rfl rfl rfl (c_Model_fail E (d + 1) u 2 (σ.1 97 (9 : Int32).toNatClampNeg) _  hq) (Nat.le_refl _) (Nat.le_refl _) (Nat.le_refl _) (Nat.le_refl _) ?_
  show G (162, [some (.ref 94), some (.int l1), some (.int l2), none, none], [], (gSh, s30, u))
  exact j_Model_functionLine_j162 E d u hG l1 l2 s30 hP
def p_Model_functionLine_j108 (E : gEv) (l1 : Int32) (l2 : Int32) (σ : gS) : Option (gS) :=
  if l1 ≤ (8 : Int32) then (p_Model_functionLine_j162 E l1 l2 σ) else (if (σ.1 94 17) = 0 then (if gIn (9 : Int32) (σ.2.1 97) then if gIn (σ.1 97 (9 : Int32).toNatClampNeg) (σ.2.1 96) then if (σ.1 96 (σ.1 97 (9 : Int32).toNatClampNeg).toNatClampNeg) = (46 : Int32) then (if gIn (9 : Int32) (σ.2.1 97) then gB1 (p_Model_fail E 1 (σ.1 97 (9 : Int32).toNatClampNeg) σ) fun s28 => p_Model_functionLine_j150 E l1 l2 s28 else none) else (p_Model_functionLine_j150 E l1 l2 σ) else none else none) else (p_Model_functionLine_j162 E l1 l2 σ))
set_option maxRecDepth 20000 in
theorem j_Model_functionLine_j108 (E : gEv) (d u : Nat) {G : gFr → Prop} {sr : gS} (hG : gClo E gDf gP18 gY207 none (gC E gDf gMs (d + 2)) (none, (gSh, sr, u)) G) (l1 : Int32) (l2 : Int32) (σ : gS) (hP : p_Model_functionLine_j108 E l1 l2 σ = some sr) : G (108, [some (.ref 94), some (.int l1), some (.int l2), none, none], [], (gSh, σ, u)) := by
  unfold p_Model_functionLine_j108 at hP
  refine gRunN_ok hG.1 2 _ (111, [some (.ref 94), some (.int l1), some (.int l2), none, none], [.int 8, .int l1], (gSh, σ, u)) rfl ?_
  rcases g_ite hP with ⟨hc, hP⟩ | ⟨hc, hP⟩
  · refine hG.1 _ (162, [some (.ref 94), some (.int l1), some (.int l2), none, none], [], (gSh, σ, u)) _ rfl (if_pos hc) ?_
    exact j_Model_functionLine_j162 E d u hG l1 l2 σ hP
  · refine hG.1 _ (114, [some (.ref 94), some (.int l1), some (.int l2), none, none], [], (gSh, σ, u)) _ rfl (if_neg hc) ?_
    refine gRunN_ok hG.1 2 _ (118, [some (.ref 94), some (.int l1), some (.int l2), none, none], [.int (σ.1 94 17)], (gSh, σ, u)) rfl ?_
    rcases g_ite hP with ⟨hc, hP⟩ | ⟨hc, hP⟩
    · refine hG.1 _ (121, [some (.ref 94), some (.int l1), some (.int l2), none, none], [], (gSh, σ, u)) _ rfl (if_pos hc) ?_
      refine gRunN_ok hG.1 5 _ (131, [some (.ref 94), some (.int l1), some (.int l2), none, none], [.int 9, .ref 97, .ref 96], (gSh, σ, u)) rfl ?_
      obtain ⟨hc, hP⟩ := g_if hP
      refine hG.1 _ (132, [some (.ref 94), some (.int l1), some (.int l2), none, none], [.int (σ.1 97 (9 : Int32).toNatClampNeg), .ref 96], (gSh, σ, u)) _ rfl (if_pos hc) ?_
      obtain ⟨hc, hP⟩ := g_if hP
      refine hG.1 _ (133, [some (.ref 94), some (.int l1), some (.int l2), none, none], [.int (σ.1 96 (σ.1 97 (9 : Int32).toNatClampNeg).toNatClampNeg)], (gSh, σ, u)) _ rfl (if_pos hc) ?_
      refine gRunN_ok hG.1 1 _ (135, [some (.ref 94), some (.int l1), some (.int l2), none, none], [.int 46, .int (σ.1 96 (σ.1 97 (9 : Int32).toNatClampNeg).toNatClampNeg)], (gSh, σ, u)) rfl ?_
      rcases g_ite hP with ⟨hc, hP⟩ | ⟨hc, hP⟩
      · refine hG.1 _ (138, [some (.ref 94), some (.int l1), some (.int l2), none, none], [], (gSh, σ, u)) _ rfl (if_pos hc) ?_
        refine gRunN_ok hG.1 5 _ (146, [some (.ref 94), some (.int l1), some (.int l2), none, none], [.int 9, .ref 97, .int 1, .ref 94], (gSh, σ, u)) rfl ?_
        obtain ⟨hc, hP⟩ := g_if hP
        refine hG.1 _ (147, [some (.ref 94), some (.int l1), some (.int l2), none, none], [.int (σ.1 97 (9 : Int32).toNatClampNeg), .int 1, .ref 94], (gSh, σ, u)) _ rfl (if_pos hc) ?_
        obtain ⟨s28, hq, hP⟩ := g_b1 hP
        refine hG.2.2.2.1 _ _ _ [.ref 94, .int 1, .int (σ.1 97 (9 : Int32).toNatClampNeg)] [] _ (gSh, s28, u) none _ _ _ _ _ _ rfl rfl rfl rfl rfl rfl (c_Model_fail E (d + 1) u 1 (σ.1 97 (9 : Int32).toNatClampNeg) _  hq) (Nat.le_refl _) (Nat.le_refl _) (Nat.le_refl _) (Nat.le_refl _) ?_
        show G (150, [some (.ref 94), some (.int l1), some (.int l2), none, none], [], (gSh, s28, u))
        exact j_Model_functionLine_j150 E d u hG l1 l2 s28 hP
      · refine hG.1 _ (150, [some (.ref 94), some (.int l1), some (.int l2), none, none], [], (gSh, σ, u)) _ rfl (if_neg hc) ?_
        exact j_Model_functionLine_j150 E d u hG l1 l2 σ hP
    · refine hG.1 _ (162, [some (.ref 94), some (.int l1), some (.int l2), none, none], [], (gSh, σ, u)) _ rfl (if_neg hc) ?_
      exact j_Model_functionLine_j162 E d u hG l1 l2 σ hP
def p_Model_functionLine (E : gEv) (σ : gS) : Option (gS) :=
  gLet ((σ.1 94 19) - (2 : Int32)) fun x1 => if (σ.1 94 19) = (1 : Int32) then (gB1 (p_Model_fail E 1 (σ.1 94 20) σ) fun s3 => some s3) else (gLet (σ.1 94 32) fun x4 => gB1 (gIter (fun z => p_Model_functionLine_32 E x1 x4 z.1 z.2) gN (1, σ)) fun e12 => (fun s13 => p_Model_functionLine_j108 E x1 x4 s13) e12)
set_option maxRecDepth 20000 in
theorem c_Model_functionLine (E : gEv) (d u : Nat) (σ : gS) {sr : gS}  (hq : p_Model_functionLine E σ = some sr) : gC E gDf gMs (d + 3) 207 [.ref 94] (gSh, σ, u) (none, (gSh, sr, u)) := ⟨gM207, rfl, Nat.le_of_ble_eq_true rfl, fun G hG => by
  have hP := hq
  unfold p_Model_functionLine at hP
  replace hG : gClo E gDf gP18 gY207 none (gC E gDf gMs (d + 2)) (none, (gSh, sr, u)) G := hG
  show G (0, [some (.ref 94), none, none, none, none], [], (gSh, σ, u))
  refine gRunN_ok hG.1 5 _ (7, [some (.ref 94), some (.int ((σ.1 94 19) - (2 : Int32))), none, none, none], [], (gSh, σ, u)) rfl ?_
  obtain ⟨x1, ex1, hP⟩ := g_let hP
  rw [← ex1]
  refine gRunN_ok hG.1 3 _ (12, [some (.ref 94), some (.int x1), none, none, none], [.int 1, .int (σ.1 94 19)], (gSh, σ, u)) rfl ?_
  rcases g_ite hP with ⟨hc, hP⟩ | ⟨hc, hP⟩
  · refine hG.1 _ (15, [some (.ref 94), some (.int x1), none, none, none], [], (gSh, σ, u)) _ rfl (if_pos hc) ?_
    refine gRunN_ok hG.1 4 _ (21, [some (.ref 94), some (.int x1), none, none, none], [.int (σ.1 94 20), .int 1, .ref 94], (gSh, σ, u)) rfl ?_
    obtain ⟨s3, hq, hP⟩ := g_b1 hP
    refine hG.2.2.2.1 _ _ _ [.ref 94, .int 1, .int (σ.1 94 20)] [] _ (gSh, s3, u) none _ _ _ _ _ _ rfl rfl rfl rfl rfl rfl (c_Model_fail E (d + 1) u 1 (σ.1 94 20) _  hq) (Nat.le_refl _) (Nat.le_refl _) (Nat.le_refl _) (Nat.le_refl _) ?_
    show G (24, [some (.ref 94), some (.int x1), none, none, none], [], (gSh, s3, u))
    cases hP
    exact hG.2.1 _ _ rfl rfl
  · refine hG.1 _ (25, [some (.ref 94), some (.int x1), none, none, none], [], (gSh, σ, u)) _ rfl (if_neg hc) ?_
    refine gRunN_ok hG.1 3 _ (30, [some (.ref 94), some (.int x1), some (.int (σ.1 94 32)), none, none], [], (gSh, σ, u)) rfl ?_
    obtain ⟨x4, ex4, hP⟩ := g_let hP
    rw [← ex4]
    refine gRunN_ok hG.1 2 _ (32, [some (.ref 94), some (.int x1), some (.int x4), some (.int 1), none], [], (gSh, σ, u)) rfl ?_
    obtain ⟨e12, hq, hP⟩ := g_b1 hP
    refine l_Model_functionLine_32 E d u hG x1 x4 gN 1 σ _ hq (fun s13 he => ?_)
    · replace he := he.symm
      subst he
      try dsimp only [gSum] at hP
      exact j_Model_functionLine_j108 E d u hG x1 x4 s13 hP⟩
def p_Model_map_2 (E : gEv) (l1 : Int32) (l2 : Int32) (σ : gS) : Option ((Int32 × gS) ⊕ (gS)) :=
  if (256 : Int32) ≤ l2 then (some (.inr σ)) else (if gIn (((256 : Int32) * l1) + l2) (σ.2.1 114) then if gIn l2 (σ.2.1 120) then gLet (gPut σ 120 l2.toNatClampNeg (vp_nar .boolean (σ.1 114 (((256 : Int32) * l1) + l2).toNatClampNeg))) fun s1 => gLet (l2 + 1) fun x2 => some (.inl (x2, s1)) else none else none)
set_option maxRecDepth 20000 in
theorem b_Model_map_2 (E : gEv) (d u : Nat) {G : gFr → Prop} {vo : Option Value} {sr : gS} (hG : gClo E gDf gP18 gY209 (some .int) (gC E gDf gMs (d + 2)) (vo, (gSh, sr, u)) G) (l1 : Int32) (l2 : Int32) (σ : gS) {r : (Int32 × gS) ⊕ (gS)} (hP : p_Model_map_2 E l1 l2 σ = some r) (K1 : ∀ (m2 : Int32) (σ1 : gS), r = .inl (m2, σ1) → G (2, [some (.ref 94), some (.int l1), some (.int m2), none, none], [], (gSh, σ1, u))) (K2 : ∀ (σ1 : gS), r = .inr σ1 → G (33, [some (.ref 94), some (.int l1), none, none, none], [], (gSh, σ1, u))) : G (2, [some (.ref 94), some (.int l1), some (.int l2), none, none], [], (gSh, σ, u)) := by
  unfold p_Model_map_2 at hP
  refine gRunN_ok hG.1 2 _ (6, [some (.ref 94), some (.int l1), some (.int l2), none, none], [.int 256, .int l2], (gSh, σ, u)) rfl ?_
  rcases g_ite hP with ⟨hc, hP⟩ | ⟨hc, hP⟩
  · refine hG.1 _ (33, [some (.ref 94), some (.int l1), some (.int l2), none, none], [], (gSh, σ, u)) _ rfl (if_pos hc) ?_
    refine hG.2.2.2.2.1 _ _ [some (.ref 94), some (.int l1), none, none, none] _ _ ⟨rfl, ⟨rfl, trivial⟩⟩ ?_
    cases hP
    exact K2 _ rfl
  · refine hG.1 _ (9, [some (.ref 94), some (.int l1), some (.int l2), none, none], [], (gSh, σ, u)) _ rfl (if_neg hc) ?_
    refine gRunN_ok hG.1 10 _ (25, [some (.ref 94), some (.int l1), some (.int l2), none, none], [.int (((256 : Int32) * l1) + l2), .ref 114, .int l2, .ref 120], (gSh, σ, u)) rfl ?_
    obtain ⟨hc, hP⟩ := g_if hP
    refine hG.1 _ (26, [some (.ref 94), some (.int l1), some (.int l2), none, none], [.int (σ.1 114 (((256 : Int32) * l1) + l2).toNatClampNeg), .int l2, .ref 120], (gSh, σ, u)) _ rfl (if_pos hc) ?_
    obtain ⟨hc, hP⟩ := g_if hP
    refine hG.1 _ (27, [some (.ref 94), some (.int l1), some (.int l2), none, none], [], (gSh, (gPut σ 120 l2.toNatClampNeg (vp_nar .boolean (σ.1 114 (((256 : Int32) * l1) + l2).toNatClampNeg))), u)) _ rfl (if_pos hc) ?_
    obtain ⟨s1, es1, hP⟩ := g_let hP
    rw [← es1]
    refine gRunN_ok hG.1 1 _ (30, [some (.ref 94), some (.int l1), some (.int (l2 + 1)), none, none], [], (gSh, s1, u)) rfl ?_
    obtain ⟨x2, ex2, hP⟩ := g_let hP
    rw [← ex2]
    refine gRunN_ok hG.1 1 _ (2, [some (.ref 94), some (.int l1), some (.int x2), none, none], [], (gSh, s1, u)) rfl ?_
    cases hP
    exact K1 _ _ rfl
theorem l_Model_map_2 (E : gEv) (d u : Nat) {G : gFr → Prop} {vo : Option Value} {sr : gS} (hG : gClo E gDf gP18 gY209 (some .int) (gC E gDf gMs (d + 2)) (vo, (gSh, sr, u)) G) (l1 : Int32) : ∀ (n : Nat) (l2 : Int32) (σ : gS) (e : (gS)), gIter (fun z => p_Model_map_2 E l1 z.1 z.2) n (l2, σ) = some e → (∀ (σ1 : gS), e = σ1 → G (33, [some (.ref 94), some (.int l1), none, none, none], [], (gSh, σ1, u))) → G (2, [some (.ref 94), some (.int l1), some (.int l2), none, none], [], (gSh, σ, u)) := by
  intro n
  induction n with
  | zero => intro l2 σ e h; cases h
  | succ n ih =>
    intro l2 σ e h K2
    rcases g_iter h with ⟨z, h1, h2⟩ | h1
    · exact b_Model_map_2 E d u hG l1 l2 σ h1 (fun n0 n1 hz => by cases hz; exact ih _ _ e h2 K2) (fun _ hz => by cases hz)
    · exact b_Model_map_2 E d u hG l1 l2 σ h1 (fun _ _ hz => by cases hz) (fun σ1 hz => K2 σ1 (by cases hz; rfl))
def p_Model_map_35 (E : gEv) (l1 : Int32) (l2 : Int32) (σ : gS) : Option ((Int32 × gS) ⊕ (gS)) :=
  if gIn l1 (σ.2.1 110) then if (σ.1 110 l1.toNatClampNeg) ≤ l2 then (some (.inr σ)) else (if gIn (((8 : Int32) * l1) + l2) (σ.2.1 111) then gB1 (p_Model_source E (σ.1 111 (((8 : Int32) * l1) + l2).toNatClampNeg) σ) fun v5 => if gIn l2 (σ.2.1 121) then gLet (gPut σ 121 l2.toNatClampNeg v5) fun s7 => gLet (l2 + 1) fun x8 => some (.inl (x8, s7)) else none else none) else none
set_option maxRecDepth 20000 in
theorem b_Model_map_35 (E : gEv) (d u : Nat) {G : gFr → Prop} {vo : Option Value} {sr : gS} (hG : gClo E gDf gP18 gY209 (some .int) (gC E gDf gMs (d + 2)) (vo, (gSh, sr, u)) G) (l1 : Int32) (l2 : Int32) (σ : gS) {r : (Int32 × gS) ⊕ (gS)} (hP : p_Model_map_35 E l1 l2 σ = some r) (K1 : ∀ (m2 : Int32) (σ1 : gS), r = .inl (m2, σ1) → G (35, [some (.ref 94), some (.int l1), some (.int m2), none, none], [], (gSh, σ1, u))) (K2 : ∀ (σ1 : gS), r = .inr σ1 → G (72, [some (.ref 94), some (.int l1), none, none, none], [], (gSh, σ1, u))) : G (35, [some (.ref 94), some (.int l1), some (.int l2), none, none], [], (gSh, σ, u)) := by
  unfold p_Model_map_35 at hP
  refine gRunN_ok hG.1 4 _ (41, [some (.ref 94), some (.int l1), some (.int l2), none, none], [.int l1, .ref 110, .int l2], (gSh, σ, u)) rfl ?_
  obtain ⟨hc, hP⟩ := g_if hP
  refine hG.1 _ (42, [some (.ref 94), some (.int l1), some (.int l2), none, none], [.int (σ.1 110 l1.toNatClampNeg), .int l2], (gSh, σ, u)) _ rfl (if_pos hc) ?_
  rcases g_ite hP with ⟨hc, hP⟩ | ⟨hc, hP⟩
  · refine hG.1 _ (72, [some (.ref 94), some (.int l1), some (.int l2), none, none], [], (gSh, σ, u)) _ rfl (if_pos hc) ?_
    refine hG.2.2.2.2.1 _ _ [some (.ref 94), some (.int l1), none, none, none] _ _ ⟨rfl, ⟨rfl, trivial⟩⟩ ?_
    cases hP
    exact K2 _ rfl
  · refine hG.1 _ (45, [some (.ref 94), some (.int l1), some (.int l2), none, none], [], (gSh, σ, u)) _ rfl (if_neg hc) ?_
    refine gRunN_ok hG.1 11 _ (61, [some (.ref 94), some (.int l1), some (.int l2), none, none], [.int (((8 : Int32) * l1) + l2), .ref 111, .ref 94, .int l2, .ref 121], (gSh, σ, u)) rfl ?_
    obtain ⟨hc, hP⟩ := g_if hP
    refine hG.1 _ (62, [some (.ref 94), some (.int l1), some (.int l2), none, none], [.int (σ.1 111 (((8 : Int32) * l1) + l2).toNatClampNeg), .ref 94, .int l2, .ref 121], (gSh, σ, u)) _ rfl (if_pos hc) ?_
    obtain ⟨v5, hq, hP⟩ := g_b1 hP
    refine hG.2.2.2.1 _ _ _ [.ref 94, .int (σ.1 111 (((8 : Int32) * l1) + l2).toNatClampNeg)] [.int l2, .ref 121] _ (gSh, σ, u) (some (.int v5)) _ _ _ _ _ _ rfl rfl rfl rfl rfl rfl (c_Model_source E (d + 1) u (σ.1 111 (((8 : Int32) * l1) + l2).toNatClampNeg) _  hq) (Nat.le_refl _) (Nat.le_refl _) (Nat.le_refl _) (Nat.le_refl _) ?_
    show G (65, [some (.ref 94), some (.int l1), some (.int l2), none, none], [.int v5, .int l2, .ref 121], (gSh, σ, u))
    obtain ⟨hc, hP⟩ := g_if hP
    refine hG.1 _ (66, [some (.ref 94), some (.int l1), some (.int l2), none, none], [], (gSh, (gPut σ 121 l2.toNatClampNeg v5), u)) _ rfl (if_pos hc) ?_
    obtain ⟨s7, es7, hP⟩ := g_let hP
    rw [← es7]
    refine gRunN_ok hG.1 1 _ (69, [some (.ref 94), some (.int l1), some (.int (l2 + 1)), none, none], [], (gSh, s7, u)) rfl ?_
    obtain ⟨x8, ex8, hP⟩ := g_let hP
    rw [← ex8]
    refine gRunN_ok hG.1 1 _ (35, [some (.ref 94), some (.int l1), some (.int x8), none, none], [], (gSh, s7, u)) rfl ?_
    cases hP
    exact K1 _ _ rfl
theorem l_Model_map_35 (E : gEv) (d u : Nat) {G : gFr → Prop} {vo : Option Value} {sr : gS} (hG : gClo E gDf gP18 gY209 (some .int) (gC E gDf gMs (d + 2)) (vo, (gSh, sr, u)) G) (l1 : Int32) : ∀ (n : Nat) (l2 : Int32) (σ : gS) (e : (gS)), gIter (fun z => p_Model_map_35 E l1 z.1 z.2) n (l2, σ) = some e → (∀ (σ1 : gS), e = σ1 → G (72, [some (.ref 94), some (.int l1), none, none, none], [], (gSh, σ1, u))) → G (35, [some (.ref 94), some (.int l1), some (.int l2), none, none], [], (gSh, σ, u)) := by
  intro n
  induction n with
  | zero => intro l2 σ e h; cases h
  | succ n ih =>
    intro l2 σ e h K2
    rcases g_iter h with ⟨z, h1, h2⟩ | h1
    · exact b_Model_map_35 E d u hG l1 l2 σ h1 (fun n0 n1 hz => by cases hz; exact ih _ _ e h2 K2) (fun _ hz => by cases hz)
    · exact b_Model_map_35 E d u hG l1 l2 σ h1 (fun _ _ hz => by cases hz) (fun σ1 hz => K2 σ1 (by cases hz; rfl))
def p_Model_map_118 (E : gEv) (l2 : Int32) (l3 : Int32) (l4 : Int32) (σ : gS) : Option ((Int32 × gS) ⊕ (gS)) :=
  if l4 < 0 then (some (.inr σ)) else (gB1 (p_Model_depends E l2 l4 σ) fun v14 => if v14 = 0 then (gB1 (p_Model_hold E l2 l4 0 σ) fun s17 => gLet (l4 + (-1)) fun x18 => some (.inl (x18, s17))) else (gLet (l4 + (-1)) fun x19 => some (.inl (x19, σ))))
set_option maxRecDepth 20000 in
theorem b_Model_map_118 (E : gEv) (d u : Nat) {G : gFr → Prop} {vo : Option Value} {sr : gS} (hG : gClo E gDf gP18 gY209 (some .int) (gC E gDf gMs (d + 2)) (vo, (gSh, sr, u)) G) (l2 : Int32) (l3 : Int32) (l4 : Int32) (σ : gS) {r : (Int32 × gS) ⊕ (gS)} (hP : p_Model_map_118 E l2 l3 l4 σ = some r) (K1 : ∀ (m4 : Int32) (σ1 : gS), r = .inl (m4, σ1) → G (118, [some (.ref 94), none, some (.int l2), some (.int l3), some (.int m4)], [], (gSh, σ1, u))) (K2 : ∀ (σ1 : gS), r = .inr σ1 → G (147, [some (.ref 94), none, some (.int l2), some (.int l3), none], [], (gSh, σ1, u))) : G (118, [some (.ref 94), none, some (.int l2), some (.int l3), some (.int l4)], [], (gSh, σ, u)) := by
  unfold p_Model_map_118 at hP
  refine gRunN_ok hG.1 1 _ (120, [some (.ref 94), none, some (.int l2), some (.int l3), some (.int l4)], [.int l4], (gSh, σ, u)) rfl ?_
  rcases g_ite hP with ⟨hc, hP⟩ | ⟨hc, hP⟩
  · refine hG.1 _ (147, [some (.ref 94), none, some (.int l2), some (.int l3), some (.int l4)], [], (gSh, σ, u)) _ rfl (if_pos hc) ?_
    refine hG.2.2.2.2.1 _ _ [some (.ref 94), none, some (.int l2), some (.int l3), none] _ _ ⟨rfl, ⟨rfl, ⟨rfl, trivial⟩⟩⟩ ?_
    cases hP
    exact K2 _ rfl
  · refine hG.1 _ (123, [some (.ref 94), none, some (.int l2), some (.int l3), some (.int l4)], [], (gSh, σ, u)) _ rfl (if_neg hc) ?_
    refine gRunN_ok hG.1 3 _ (127, [some (.ref 94), none, some (.int l2), some (.int l3), some (.int l4)], [.int l4, .int l2, .ref 94], (gSh, σ, u)) rfl ?_
    obtain ⟨v14, hq, hP⟩ := g_b1 hP
    refine hG.2.2.2.1 _ _ _ [.ref 94, .int l2, .int l4] [] _ (gSh, σ, u) (some (.int v14)) _ _ _ _ _ _ rfl rfl rfl rfl rfl rfl (c_Model_depends E (d + 1) u l2 l4 _  hq) (Nat.le_refl _) (Nat.le_refl _) (Nat.le_refl _) (Nat.le_refl _) ?_
    show G (130, [some (.ref 94), none, some (.int l2), some (.int l3), some (.int l4)], [.int v14], (gSh, σ, u))
    rcases g_ite hP with ⟨hc, hP⟩ | ⟨hc, hP⟩
    · refine hG.1 _ (133, [some (.ref 94), none, some (.int l2), some (.int l3), some (.int l4)], [], (gSh, σ, u)) _ rfl (if_pos hc) ?_
      refine gRunN_ok hG.1 4 _ (138, [some (.ref 94), none, some (.int l2), some (.int l3), some (.int l4)], [.int 0, .int l4, .int l2, .ref 94], (gSh, σ, u)) rfl ?_
      obtain ⟨s17, hq, hP⟩ := g_b1 hP
      refine hG.2.2.2.1 _ _ _ [.ref 94, .int l2, .int l4, .int 0] [] _ (gSh, s17, u) none _ _ _ _ _ _ rfl rfl rfl rfl rfl rfl (c_Model_hold E (d + 1) u l2 l4 0 _  hq) (Nat.le_refl _) (Nat.le_refl _) (Nat.le_refl _) (Nat.le_refl _) ?_
      show G (141, [some (.ref 94), none, some (.int l2), some (.int l3), some (.int l4)], [], (gSh, s17, u))
      refine gRunN_ok hG.1 1 _ (144, [some (.ref 94), none, some (.int l2), some (.int l3), some (.int (l4 + (-1)))], [], (gSh, s17, u)) rfl ?_
      obtain ⟨x18, ex18, hP⟩ := g_let hP
      rw [← ex18]
      refine gRunN_ok hG.1 1 _ (118, [some (.ref 94), none, some (.int l2), some (.int l3), some (.int x18)], [], (gSh, s17, u)) rfl ?_
      cases hP
      exact K1 _ _ rfl
    · refine hG.1 _ (141, [some (.ref 94), none, some (.int l2), some (.int l3), some (.int l4)], [], (gSh, σ, u)) _ rfl (if_neg hc) ?_
      refine gRunN_ok hG.1 1 _ (144, [some (.ref 94), none, some (.int l2), some (.int l3), some (.int (l4 + (-1)))], [], (gSh, σ, u)) rfl ?_
      obtain ⟨x19, ex19, hP⟩ := g_let hP
      rw [← ex19]
      refine gRunN_ok hG.1 1 _ (118, [some (.ref 94), none, some (.int l2), some (.int l3), some (.int x19)], [], (gSh, σ, u)) rfl ?_
      cases hP
      exact K1 _ _ rfl
theorem l_Model_map_118 (E : gEv) (d u : Nat) {G : gFr → Prop} {vo : Option Value} {sr : gS} (hG : gClo E gDf gP18 gY209 (some .int) (gC E gDf gMs (d + 2)) (vo, (gSh, sr, u)) G) (l2 : Int32) (l3 : Int32) : ∀ (n : Nat) (l4 : Int32) (σ : gS) (e : (gS)), gIter (fun z => p_Model_map_118 E l2 l3 z.1 z.2) n (l4, σ) = some e → (∀ (σ1 : gS), e = σ1 → G (147, [some (.ref 94), none, some (.int l2), some (.int l3), none], [], (gSh, σ1, u))) → G (118, [some (.ref 94), none, some (.int l2), some (.int l3), some (.int l4)], [], (gSh, σ, u)) := by
  intro n
  induction n with
  | zero => intro l4 σ e h; cases h
  | succ n ih =>
    intro l4 σ e h K2
    rcases g_iter h with ⟨z, h1, h2⟩ | h1
    · exact b_Model_map_118 E d u hG l2 l3 l4 σ h1 (fun n0 n1 hz => by cases hz; exact ih _ _ e h2 K2) (fun _ hz => by cases hz)
    · exact b_Model_map_118 E d u hG l2 l3 l4 σ h1 (fun _ _ hz => by cases hz) (fun σ1 hz => K2 σ1 (by cases hz; rfl))
def p_Model_map_95 (E : gEv) (l2 : Int32) (l3 : Int32) (σ : gS) : Option ((Int32 × Int32 × gS) ⊕ (Int32 × gS)) :=
  if l2 < 0 then (some (.inr (l3, σ))) else (if gIn l2 (σ.2.1 123) then if (σ.1 123 l2.toNatClampNeg) = 0 then (if gIn l2 (σ.2.1 122) then gLet ((σ.1 122 l2.toNatClampNeg) - (1 : Int32)) fun x13 => gB1 (gIter (fun z => p_Model_map_118 E l2 l3 z.1 z.2) gN (x13, σ)) fun e20 => (fun s21 => if gIn l2 (s21.2.1 122) then if (5 : Int32) ≤ (s21.1 122 l2.toNatClampNeg) then (if gIn l2 (s21.2.1 123) then gLet (gPut s21 123 l2.toNatClampNeg 1) fun s22 => gB1 (p_Model_part E l2 0 s22) fun s24 => gLet (l2 + 1) fun x25 => some (.inl (x25, l3, s24)) else none) else (gB2 (p_Model_small E l2 s21) fun v26 s27 => gLet (l2 + (-1)) fun x28 => some (.inl (x28, v26, s27))) else none) e20 else none) else (if gIn l2 (σ.2.1 123) then if (σ.1 123 l2.toNatClampNeg) = (1 : Int32) then (if gIn l2 (σ.2.1 124) then gLet (gPut σ 124 l2.toNatClampNeg l3) fun s29 => if gIn l2 (s29.2.1 123) then gLet (gPut s29 123 l2.toNatClampNeg 2) fun s30 => gB1 (p_Model_part E l2 1 s30) fun s32 => gLet (l2 + 1) fun x33 => some (.inl (x33, l3, s32)) else none else none) else (if gIn l2 (σ.2.1 124) then if gIn l2 (σ.2.1 122) then if gIn ((((8 : Int32) * l2) + (σ.1 122 l2.toNatClampNeg)) - (1 : Int32)) (σ.2.1 121) then gB2 (p_Model_newLut E (σ.1 124 l2.toNatClampNeg) l3 (σ.1 121 ((((8 : Int32) * l2) + (σ.1 122 l2.toNatClampNeg)) - (1 : Int32)).toNatClampNeg) (-1) 51914 σ) fun v34 s35 => gLet (l2 + (-1)) fun x36 => some (.inl (x36, v34, s35)) else none else none else none) else none) else none)
set_option maxRecDepth 20000 in
theorem b_Model_map_95 (E : gEv) (d u : Nat) {G : gFr → Prop} {vo : Option Value} {sr : gS} (hG : gClo E gDf gP18 gY209 (some .int) (gC E gDf gMs (d + 2)) (vo, (gSh, sr, u)) G) (l2 : Int32) (l3 : Int32) (σ : gS) {r : (Int32 × Int32 × gS) ⊕ (Int32 × gS)} (hP : p_Model_map_95 E l2 l3 σ = some r) (K1 : ∀ (m2 : Int32) (m3 : Int32) (σ1 : gS), r = .inl (m2, m3, σ1) → G (95, [some (.ref 94), none, some (.int m2), some (.int m3), none], [], (gSh, σ1, u))) (K2 : ∀ (m3 : Int32) (σ1 : gS), r = .inr (m3, σ1) → G (264, [none, none, none, some (.int m3), none], [], (gSh, σ1, u))) : G (95, [some (.ref 94), none, some (.int l2), some (.int l3), none], [], (gSh, σ, u)) := by
  unfold p_Model_map_95 at hP
  refine gRunN_ok hG.1 1 _ (96, [some (.ref 94), none, some (.int l2), some (.int l3), none], [.int l2], (gSh, σ, u)) rfl ?_
  rcases g_ite hP with ⟨hc, hP⟩ | ⟨hc, hP⟩
  · refine hG.1 _ (264, [some (.ref 94), none, some (.int l2), some (.int l3), none], [], (gSh, σ, u)) _ rfl (if_pos hc) ?_
    refine hG.2.2.2.2.1 _ _ [none, none, none, some (.int l3), none] _ _ ⟨rfl, trivial⟩ ?_
    cases hP
    exact K2 _ _ rfl
  · refine hG.1 _ (99, [some (.ref 94), none, some (.int l2), some (.int l3), none], [], (gSh, σ, u)) _ rfl (if_neg hc) ?_
    refine gRunN_ok hG.1 3 _ (104, [some (.ref 94), none, some (.int l2), some (.int l3), none], [.int l2, .ref 123], (gSh, σ, u)) rfl ?_
    obtain ⟨hc, hP⟩ := g_if hP
    refine hG.1 _ (105, [some (.ref 94), none, some (.int l2), some (.int l3), none], [.int (σ.1 123 l2.toNatClampNeg)], (gSh, σ, u)) _ rfl (if_pos hc) ?_
    rcases g_ite hP with ⟨hc, hP⟩ | ⟨hc, hP⟩
    · refine hG.1 _ (108, [some (.ref 94), none, some (.int l2), some (.int l3), none], [], (gSh, σ, u)) _ rfl (if_pos hc) ?_
      refine gRunN_ok hG.1 3 _ (113, [some (.ref 94), none, some (.int l2), some (.int l3), none], [.int l2, .ref 122], (gSh, σ, u)) rfl ?_
      obtain ⟨hc, hP⟩ := g_if hP
      refine hG.1 _ (114, [some (.ref 94), none, some (.int l2), some (.int l3), none], [.int (σ.1 122 l2.toNatClampNeg)], (gSh, σ, u)) _ rfl (if_pos hc) ?_
      refine gRunN_ok hG.1 3 _ (118, [some (.ref 94), none, some (.int l2), some (.int l3), some (.int ((σ.1 122 l2.toNatClampNeg) - (1 : Int32)))], [], (gSh, σ, u)) rfl ?_
      obtain ⟨x13, ex13, hP⟩ := g_let hP
      rw [← ex13]
      obtain ⟨e20, hq, hP⟩ := g_b1 hP
      refine l_Model_map_118 E d u hG l2 l3 gN x13 σ _ hq (fun s21 he => ?_)
      · replace he := he.symm
        subst he
        try dsimp only [gSum] at hP
        refine gRunN_ok hG.1 3 _ (152, [some (.ref 94), none, some (.int l2), some (.int l3), none], [.int l2, .ref 122], (gSh, s21, u)) rfl ?_
        obtain ⟨hc, hP⟩ := g_if hP
        refine hG.1 _ (153, [some (.ref 94), none, some (.int l2), some (.int l3), none], [.int (s21.1 122 l2.toNatClampNeg)], (gSh, s21, u)) _ rfl (if_pos hc) ?_
        refine gRunN_ok hG.1 1 _ (154, [some (.ref 94), none, some (.int l2), some (.int l3), none], [.int 5, .int (s21.1 122 l2.toNatClampNeg)], (gSh, s21, u)) rfl ?_
        rcases g_ite hP with ⟨hc, hP⟩ | ⟨hc, hP⟩
        · refine hG.1 _ (169, [some (.ref 94), none, some (.int l2), some (.int l3), none], [], (gSh, s21, u)) _ rfl (if_pos hc) ?_
          refine gRunN_ok hG.1 4 _ (175, [some (.ref 94), none, some (.int l2), some (.int l3), none], [.int 1, .int l2, .ref 123], (gSh, s21, u)) rfl ?_
          obtain ⟨hc, hP⟩ := g_if hP
          refine hG.1 _ (176, [some (.ref 94), none, some (.int l2), some (.int l3), none], [], (gSh, (gPut s21 123 l2.toNatClampNeg 1), u)) _ rfl (if_pos hc) ?_
          obtain ⟨s22, es22, hP⟩ := g_let hP
          rw [← es22]
          refine gRunN_ok hG.1 3 _ (179, [some (.ref 94), none, some (.int l2), some (.int l3), none], [.int 0, .int l2, .ref 94], (gSh, s22, u)) rfl ?_
          obtain ⟨s24, hq, hP⟩ := g_b1 hP
          refine hG.2.2.2.1 _ _ _ [.ref 94, .int l2, .int 0] [] _ (gSh, s24, u) none _ _ _ _ _ _ rfl rfl rfl rfl rfl rfl (c_Model_part E (d + 0) u l2 0 _  hq) (Nat.le_refl _) (Nat.le_refl _) (Nat.le_refl _) (Nat.le_refl _) ?_
          show G (182, [some (.ref 94), none, some (.int l2), some (.int l3), none], [], (gSh, s24, u))
          refine gRunN_ok hG.1 1 _ (185, [some (.ref 94), none, some (.int (l2 + 1)), some (.int l3), none], [], (gSh, s24, u)) rfl ?_
          obtain ⟨x25, ex25, hP⟩ := g_let hP
          rw [← ex25]
          refine gRunN_ok hG.1 1 _ (95, [some (.ref 94), none, some (.int x25), some (.int l3), none], [], (gSh, s24, u)) rfl ?_
          cases hP
          exact K1 _ _ _ rfl
        · refine hG.1 _ (157, [some (.ref 94), none, some (.int l2), some (.int l3), none], [], (gSh, s21, u)) _ rfl (if_neg hc) ?_
          refine gRunN_ok hG.1 2 _ (159, [some (.ref 94), none, some (.int l2), some (.int l3), none], [.int l2, .ref 94], (gSh, s21, u)) rfl ?_
          obtain ⟨v26, s27, hq, hP⟩ := g_b2 hP
          refine hG.2.2.2.1 _ _ _ [.ref 94, .int l2] [] _ (gSh, s27, u) (some (.int v26)) _ _ _ _ _ _ rfl rfl rfl rfl rfl rfl (c_Model_small E (d + 0) u l2 _  hq) (Nat.le_refl _) (Nat.le_refl _) (Nat.le_refl _) (Nat.le_refl _) ?_
          show G (162, [some (.ref 94), none, some (.int l2), some (.int l3), none], [.int v26], (gSh, s27, u))
          refine gRunN_ok hG.1 2 _ (166, [some (.ref 94), none, some (.int (l2 + (-1))), some (.int v26), none], [], (gSh, s27, u)) rfl ?_
          obtain ⟨x28, ex28, hP⟩ := g_let hP
          rw [← ex28]
          refine gRunN_ok hG.1 1 _ (95, [some (.ref 94), none, some (.int x28), some (.int v26), none], [], (gSh, s27, u)) rfl ?_
          cases hP
          exact K1 _ _ _ rfl
    · refine hG.1 _ (188, [some (.ref 94), none, some (.int l2), some (.int l3), none], [], (gSh, σ, u)) _ rfl (if_neg hc) ?_
      refine gRunN_ok hG.1 3 _ (193, [some (.ref 94), none, some (.int l2), some (.int l3), none], [.int l2, .ref 123], (gSh, σ, u)) rfl ?_
      obtain ⟨hc, hP⟩ := g_if hP
      refine hG.1 _ (194, [some (.ref 94), none, some (.int l2), some (.int l3), none], [.int (σ.1 123 l2.toNatClampNeg)], (gSh, σ, u)) _ rfl (if_pos hc) ?_
      refine gRunN_ok hG.1 1 _ (195, [some (.ref 94), none, some (.int l2), some (.int l3), none], [.int 1, .int (σ.1 123 l2.toNatClampNeg)], (gSh, σ, u)) rfl ?_
      rcases g_ite hP with ⟨hc, hP⟩ | ⟨hc, hP⟩
      · refine hG.1 _ (198, [some (.ref 94), none, some (.int l2), some (.int l3), none], [], (gSh, σ, u)) _ rfl (if_pos hc) ?_
        refine gRunN_ok hG.1 4 _ (204, [some (.ref 94), none, some (.int l2), some (.int l3), none], [.int l3, .int l2, .ref 124], (gSh, σ, u)) rfl ?_
        obtain ⟨hc, hP⟩ := g_if hP
        refine hG.1 _ (205, [some (.ref 94), none, some (.int l2), some (.int l3), none], [], (gSh, (gPut σ 124 l2.toNatClampNeg l3), u)) _ rfl (if_pos hc) ?_
        obtain ⟨s29, es29, hP⟩ := g_let hP
        rw [← es29]
        refine gRunN_ok hG.1 4 _ (211, [some (.ref 94), none, some (.int l2), some (.int l3), none], [.int 2, .int l2, .ref 123], (gSh, s29, u)) rfl ?_
        obtain ⟨hc, hP⟩ := g_if hP
        refine hG.1 _ (212, [some (.ref 94), none, some (.int l2), some (.int l3), none], [], (gSh, (gPut s29 123 l2.toNatClampNeg 2), u)) _ rfl (if_pos hc) ?_
        obtain ⟨s30, es30, hP⟩ := g_let hP
        rw [← es30]
        refine gRunN_ok hG.1 3 _ (215, [some (.ref 94), none, some (.int l2), some (.int l3), none], [.int 1, .int l2, .ref 94], (gSh, s30, u)) rfl ?_
        obtain ⟨s32, hq, hP⟩ := g_b1 hP
        refine hG.2.2.2.1 _ _ _ [.ref 94, .int l2, .int 1] [] _ (gSh, s32, u) none _ _ _ _ _ _ rfl rfl rfl rfl rfl rfl (c_Model_part E (d + 0) u l2 1 _  hq) (Nat.le_refl _) (Nat.le_refl _) (Nat.le_refl _) (Nat.le_refl _) ?_
        show G (218, [some (.ref 94), none, some (.int l2), some (.int l3), none], [], (gSh, s32, u))
        refine gRunN_ok hG.1 1 _ (221, [some (.ref 94), none, some (.int (l2 + 1)), some (.int l3), none], [], (gSh, s32, u)) rfl ?_
        obtain ⟨x33, ex33, hP⟩ := g_let hP
        rw [← ex33]
        refine gRunN_ok hG.1 1 _ (95, [some (.ref 94), none, some (.int x33), some (.int l3), none], [], (gSh, s32, u)) rfl ?_
        cases hP
        exact K1 _ _ _ rfl
      · refine hG.1 _ (224, [some (.ref 94), none, some (.int l2), some (.int l3), none], [], (gSh, σ, u)) _ rfl (if_neg hc) ?_
        refine gRunN_ok hG.1 4 _ (230, [some (.ref 94), none, some (.int l2), some (.int l3), none], [.int l2, .ref 124, .ref 94], (gSh, σ, u)) rfl ?_
        obtain ⟨hc, hP⟩ := g_if hP
        refine hG.1 _ (231, [some (.ref 94), none, some (.int l2), some (.int l3), none], [.int (σ.1 124 l2.toNatClampNeg), .ref 94], (gSh, σ, u)) _ rfl (if_pos hc) ?_
        refine gRunN_ok hG.1 9 _ (245, [some (.ref 94), none, some (.int l2), some (.int l3), none], [.int l2, .ref 122, .int ((8 : Int32) * l2), .ref 121, .int l3, .int (σ.1 124 l2.toNatClampNeg), .ref 94], (gSh, σ, u)) rfl ?_
        obtain ⟨hc, hP⟩ := g_if hP
        refine hG.1 _ (246, [some (.ref 94), none, some (.int l2), some (.int l3), none], [.int (σ.1 122 l2.toNatClampNeg), .int ((8 : Int32) * l2), .ref 121, .int l3, .int (σ.1 124 l2.toNatClampNeg), .ref 94], (gSh, σ, u)) _ rfl (if_pos hc) ?_
        refine gRunN_ok hG.1 3 _ (249, [some (.ref 94), none, some (.int l2), some (.int l3), none], [.int ((((8 : Int32) * l2) + (σ.1 122 l2.toNatClampNeg)) - (1 : Int32)), .ref 121, .int l3, .int (σ.1 124 l2.toNatClampNeg), .ref 94], (gSh, σ, u)) rfl ?_
        obtain ⟨hc, hP⟩ := g_if hP
        refine hG.1 _ (250, [some (.ref 94), none, some (.int l2), some (.int l3), none], [.int (σ.1 121 ((((8 : Int32) * l2) + (σ.1 122 l2.toNatClampNeg)) - (1 : Int32)).toNatClampNeg), .int l3, .int (σ.1 124 l2.toNatClampNeg), .ref 94], (gSh, σ, u)) _ rfl (if_pos hc) ?_
        refine gRunN_ok hG.1 2 _ (254, [some (.ref 94), none, some (.int l2), some (.int l3), none], [.int 51914, .int (-1), .int (σ.1 121 ((((8 : Int32) * l2) + (σ.1 122 l2.toNatClampNeg)) - (1 : Int32)).toNatClampNeg), .int l3, .int (σ.1 124 l2.toNatClampNeg), .ref 94], (gSh, σ, u)) rfl ?_
        obtain ⟨v34, s35, hq, hP⟩ := g_b2 hP
        refine hG.2.2.2.1 _ _ _ [.ref 94, .int (σ.1 124 l2.toNatClampNeg), .int l3, .int (σ.1 121 ((((8 : Int32) * l2) + (σ.1 122 l2.toNatClampNeg)) - (1 : Int32)).toNatClampNeg), .int (-1), .int 51914] [] _ (gSh, s35, u) (some (.int v34)) _ _ _ _ _ _ rfl rfl rfl rfl rfl rfl (c_Model_newLut E (d + 1) u (σ.1 124 l2.toNatClampNeg) l3 (σ.1 121 ((((8 : Int32) * l2) + (σ.1 122 l2.toNatClampNeg)) - (1 : Int32)).toNatClampNeg) (-1) 51914 _  hq) (Nat.le_refl _) (Nat.le_refl _) (Nat.le_refl _) (Nat.le_refl _) ?_
        show G (257, [some (.ref 94), none, some (.int l2), some (.int l3), none], [.int v34], (gSh, s35, u))
        refine gRunN_ok hG.1 2 _ (261, [some (.ref 94), none, some (.int (l2 + (-1))), some (.int v34), none], [], (gSh, s35, u)) rfl ?_
        obtain ⟨x36, ex36, hP⟩ := g_let hP
        rw [← ex36]
        refine gRunN_ok hG.1 1 _ (95, [some (.ref 94), none, some (.int x36), some (.int v34), none], [], (gSh, s35, u)) rfl ?_
        cases hP
        exact K1 _ _ _ rfl
theorem l_Model_map_95 (E : gEv) (d u : Nat) {G : gFr → Prop} {vo : Option Value} {sr : gS} (hG : gClo E gDf gP18 gY209 (some .int) (gC E gDf gMs (d + 2)) (vo, (gSh, sr, u)) G) : ∀ (n : Nat) (l2 : Int32) (l3 : Int32) (σ : gS) (e : (Int32 × gS)), gIter (fun z => p_Model_map_95 E z.1 z.2.1 z.2.2) n (l2, l3, σ) = some e → (∀ (m3 : Int32) (σ1 : gS), e = (m3, σ1) → G (264, [none, none, none, some (.int m3), none], [], (gSh, σ1, u))) → G (95, [some (.ref 94), none, some (.int l2), some (.int l3), none], [], (gSh, σ, u)) := by
  intro n
  induction n with
  | zero => intro l2 l3 σ e h; cases h
  | succ n ih =>
    intro l2 l3 σ e h K2
    rcases g_iter h with ⟨z, h1, h2⟩ | h1
    · exact b_Model_map_95 E d u hG l2 l3 σ h1 (fun n0 n1 n2 hz => by cases hz; exact ih _ _ _ e h2 K2) (fun _ _ hz => by cases hz)
    · exact b_Model_map_95 E d u hG l2 l3 σ h1 (fun _ _ _ hz => by cases hz) (fun m3 σ1 hz => K2 m3 σ1 (by cases hz; rfl))
def p_Model_map (E : gEv) (a0 : Int32) (σ : gS) : Option (Int32 × gS) :=
  gB1 (gIter (fun z => p_Model_map_2 E a0 z.1 z.2) gN (0, σ)) fun e3 => (fun s4 => gB1 (gIter (fun z => p_Model_map_35 E a0 z.1 z.2) gN (0, s4)) fun e9 => (fun s10 => if gIn a0 (s10.2.1 110) then if gIn (0 : Int32) (s10.2.1 122) then gLet (gPut s10 122 (0 : Int32).toNatClampNeg (s10.1 110 a0.toNatClampNeg)) fun s11 => if gIn (0 : Int32) (s11.2.1 123) then gLet (gPut s11 123 (0 : Int32).toNatClampNeg 0) fun s12 => gB1 (gIter (fun z => p_Model_map_95 E z.1 z.2.1 z.2.2) gN (0, (-1), s12)) fun e37 => (fun w38 s39 => some (w38, s39)) e37.1 e37.2 else none else none else none) e9) e3
set_option maxRecDepth 20000 in
theorem c_Model_map (E : gEv) (d u : Nat) (a0 : Int32) (σ : gS) {v : Int32} {sr : gS}  (hq : p_Model_map E a0 σ = some (v, sr)) : gC E gDf gMs (d + 3) 209 [.ref 94, .int a0] (gSh, σ, u) (some (.int v), (gSh, sr, u)) := ⟨gM209, rfl, Nat.le_of_ble_eq_true rfl, fun G hG => by
  have hP := hq
  unfold p_Model_map at hP
  replace hG : gClo E gDf gP18 gY209 (some .int) (gC E gDf gMs (d + 2)) (some (.int v), (gSh, sr, u)) G := hG
  show G (0, [some (.ref 94), some (.int a0), none, none, none], [], (gSh, σ, u))
  refine gRunN_ok hG.1 2 _ (2, [some (.ref 94), some (.int a0), some (.int 0), none, none], [], (gSh, σ, u)) rfl ?_
  obtain ⟨e3, hq, hP⟩ := g_b1 hP
  refine l_Model_map_2 E d u hG a0 gN 0 σ _ hq (fun s4 he => ?_)
  · replace he := he.symm
    subst he
    try dsimp only [gSum] at hP
    refine gRunN_ok hG.1 2 _ (35, [some (.ref 94), some (.int a0), some (.int 0), none, none], [], (gSh, s4, u)) rfl ?_
    obtain ⟨e9, hq, hP⟩ := g_b1 hP
    refine l_Model_map_35 E d u hG a0 gN 0 s4 _ hq (fun s10 he => ?_)
    · replace he := he.symm
      subst he
      try dsimp only [gSum] at hP
      refine gRunN_ok hG.1 6 _ (82, [some (.ref 94), some (.int a0), none, none, none], [.int a0, .ref 110, .int 0, .ref 122], (gSh, s10, u)) rfl ?_
      obtain ⟨hc, hP⟩ := g_if hP
      refine hG.1 _ (83, [some (.ref 94), some (.int a0), none, none, none], [.int (s10.1 110 a0.toNatClampNeg), .int 0, .ref 122], (gSh, s10, u)) _ rfl (if_pos hc) ?_
      obtain ⟨hc, hP⟩ := g_if hP
      refine hG.1 _ (84, [some (.ref 94), some (.int a0), none, none, none], [], (gSh, (gPut s10 122 (0 : Int32).toNatClampNeg (s10.1 110 a0.toNatClampNeg)), u)) _ rfl (if_pos hc) ?_
      obtain ⟨s11, es11, hP⟩ := g_let hP
      rw [← es11]
      refine gRunN_ok hG.1 4 _ (90, [some (.ref 94), some (.int a0), none, none, none], [.int 0, .int 0, .ref 123], (gSh, s11, u)) rfl ?_
      obtain ⟨hc, hP⟩ := g_if hP
      refine hG.1 _ (91, [some (.ref 94), some (.int a0), none, none, none], [], (gSh, (gPut s11 123 (0 : Int32).toNatClampNeg 0), u)) _ rfl (if_pos hc) ?_
      obtain ⟨s12, es12, hP⟩ := g_let hP
      rw [← es12]
      refine gRunN_ok hG.1 4 _ (95, [some (.ref 94), some (.int a0), some (.int 0), some (.int (-1)), none], [], (gSh, s12, u)) rfl ?_
      refine hG.2.2.2.2.1 _ _ [some (.ref 94), none, some (.int 0), some (.int (-1)), none] _ _ ⟨rfl, ⟨rfl, ⟨rfl, trivial⟩⟩⟩ ?_
      obtain ⟨e37, hq, hP⟩ := g_b1 hP
      refine l_Model_map_95 E d u hG gN 0 (-1) s12 _ hq (fun w38 s39 he => ?_)
      · subst he
        try dsimp only [gSum] at hP
        refine gRunN_ok hG.1 1 _ (265, [none, none, none, some (.int w38), none], [.int w38], (gSh, s39, u)) rfl ?_
        cases hP
        exact hG.2.1 _ _ rfl rfl⟩
def p_Model_inLut (E : gEv) (a0 : Int32) (σ : gS) : Option (Int32) :=
  if gIn a0 (σ.2.1 106) then gB1 (p_Model_source E (σ.1 106 a0.toNatClampNeg) σ) fun v1 => if v1 < (400 : Int32) then (some 0) else (gB1 (p_Model_uses E v1 σ) fun v3 => if v3 = (1 : Int32) then (some 1) else (some 0)) else none
set_option maxRecDepth 20000 in
theorem c_Model_inLut (E : gEv) (d u : Nat) (a0 : Int32) (σ : gS) {v : Int32}  (hq : p_Model_inLut E a0 σ = some v) : gC E gDf gMs (d + 3) 217 [.ref 94, .int a0] (gSh, σ, u) (some (.int v), (gSh, σ, u)) := ⟨gM217, rfl, Nat.le_of_ble_eq_true rfl, fun G hG => by
  have hP := hq
  unfold p_Model_inLut at hP
  replace hG : gClo E gDf gP18 gY217 (some .boolean) (gC E gDf gMs (d + 2)) (some (.int v), (gSh, σ, u)) G := hG
  show G (0, [some (.ref 94), some (.int a0), none], [], (gSh, σ, u))
  refine gRunN_ok hG.1 4 _ (6, [some (.ref 94), some (.int a0), none], [.int a0, .ref 106, .ref 94], (gSh, σ, u)) rfl ?_
  obtain ⟨hc, hP⟩ := g_if hP
  refine hG.1 _ (7, [some (.ref 94), some (.int a0), none], [.int (σ.1 106 a0.toNatClampNeg), .ref 94], (gSh, σ, u)) _ rfl (if_pos hc) ?_
  obtain ⟨v1, hq, hP⟩ := g_b1 hP
  refine hG.2.2.2.1 _ _ _ [.ref 94, .int (σ.1 106 a0.toNatClampNeg)] [] _ (gSh, σ, u) (some (.int v1)) _ _ _ _ _ _ rfl rfl rfl rfl rfl rfl (c_Model_source E (d + 1) u (σ.1 106 a0.toNatClampNeg) _  hq) (Nat.le_refl _) (Nat.le_refl _) (Nat.le_refl _) (Nat.le_refl _) ?_
  show G (10, [some (.ref 94), some (.int a0), none], [.int v1], (gSh, σ, u))
  refine gRunN_ok hG.1 3 _ (15, [some (.ref 94), some (.int a0), some (.int v1)], [.int 400, .int v1], (gSh, σ, u)) rfl ?_
  rcases g_ite hP with ⟨hc, hP⟩ | ⟨hc, hP⟩
  · refine hG.1 _ (31, [some (.ref 94), some (.int a0), some (.int v1)], [], (gSh, σ, u)) _ rfl (if_pos hc) ?_
    refine gRunN_ok hG.1 1 _ (32, [some (.ref 94), some (.int a0), some (.int v1)], [.int 0], (gSh, σ, u)) rfl ?_
    cases hP
    exact hG.2.1 _ _ rfl rfl
  · refine hG.1 _ (18, [some (.ref 94), some (.int a0), some (.int v1)], [], (gSh, σ, u)) _ rfl (if_neg hc) ?_
    refine gRunN_ok hG.1 2 _ (20, [some (.ref 94), some (.int a0), some (.int v1)], [.int v1, .ref 94], (gSh, σ, u)) rfl ?_
    obtain ⟨v3, hq, hP⟩ := g_b1 hP
    refine hG.2.2.2.1 _ _ _ [.ref 94, .int v1] [] _ (gSh, σ, u) (some (.int v3)) _ _ _ _ _ _ rfl rfl rfl rfl rfl rfl (c_Model_uses E (d + 0) u v1 _  hq) (Nat.le_refl _) (Nat.le_refl _) (Nat.le_refl _) (Nat.le_refl _) ?_
    show G (23, [some (.ref 94), some (.int a0), some (.int v1)], [.int v3], (gSh, σ, u))
    refine gRunN_ok hG.1 1 _ (24, [some (.ref 94), some (.int a0), some (.int v1)], [.int 1, .int v3], (gSh, σ, u)) rfl ?_
    rcases g_ite hP with ⟨hc, hP⟩ | ⟨hc, hP⟩
    · refine hG.1 _ (27, [some (.ref 94), some (.int a0), some (.int v1)], [], (gSh, σ, u)) _ rfl (if_pos hc) ?_
      refine gRunN_ok hG.1 2 _ (32, [some (.ref 94), some (.int a0), some (.int v1)], [.int 1], (gSh, σ, u)) rfl ?_
      cases hP
      exact hG.2.1 _ _ rfl rfl
    · refine hG.1 _ (31, [some (.ref 94), some (.int a0), some (.int v1)], [], (gSh, σ, u)) _ rfl (if_neg hc) ?_
      refine gRunN_ok hG.1 1 _ (32, [some (.ref 94), some (.int a0), some (.int v1)], [.int 0], (gSh, σ, u)) rfl ?_
      cases hP
      exact hG.2.1 _ _ rfl rfl⟩
def p_Model_pointOfSource (E : gEv) (a0 : Int32) (σ : gS) : Option (gS) :=
  if (200 : Int32) ≤ a0 then (gB1 (p_Model_elementOf E a0 σ) fun v1 => gB1 (p_Model_pointOfElement E v1 σ) fun s4 => some s4) else (gB1 (p_Model_padOf E a0 σ) fun v5 => gB1 (p_Model_pointOfPad E v5 σ) fun s8 => some s8)
set_option maxRecDepth 20000 in
theorem c_Model_pointOfSource (E : gEv) (d u : Nat) (a0 : Int32) (σ : gS) {sr : gS}  (hq : p_Model_pointOfSource E a0 σ = some sr) : gC E gDf gMs (d + 3) 226 [.ref 94, .int a0] (gSh, σ, u) (none, (gSh, sr, u)) := ⟨gM226, rfl, Nat.le_of_ble_eq_true rfl, fun G hG => by
  have hP := hq
  unfold p_Model_pointOfSource at hP
  replace hG : gClo E gDf gP18 gY226 none (gC E gDf gMs (d + 2)) (none, (gSh, sr, u)) G := hG
  show G (0, [some (.ref 94), some (.int a0)], [], (gSh, σ, u))
  refine gRunN_ok hG.1 2 _ (4, [some (.ref 94), some (.int a0)], [.int 200, .int a0], (gSh, σ, u)) rfl ?_
  rcases g_ite hP with ⟨hc, hP⟩ | ⟨hc, hP⟩
  · refine hG.1 _ (19, [some (.ref 94), some (.int a0)], [], (gSh, σ, u)) _ rfl (if_pos hc) ?_
    refine gRunN_ok hG.1 3 _ (22, [some (.ref 94), some (.int a0)], [.int a0, .ref 94, .ref 94], (gSh, σ, u)) rfl ?_
    obtain ⟨v1, hq, hP⟩ := g_b1 hP
    refine hG.2.2.2.1 _ _ _ [.ref 94, .int a0] [.ref 94] _ (gSh, σ, u) (some (.int v1)) _ _ _ _ _ _ rfl rfl rfl rfl rfl rfl (c_Model_elementOf E (d + 1) u a0 _  hq) (Nat.le_refl _) (Nat.le_refl _) (Nat.le_refl _) (Nat.le_refl _) ?_
    show G (25, [some (.ref 94), some (.int a0)], [.int v1, .ref 94], (gSh, σ, u))
    obtain ⟨s4, hq, hP⟩ := g_b1 hP
    refine hG.2.2.2.1 _ _ _ [.ref 94, .int v1] [] _ (gSh, s4, u) none _ _ _ _ _ _ rfl rfl rfl rfl rfl rfl (c_Model_pointOfElement E (d + 0) u v1 _  hq) (Nat.le_refl _) (Nat.le_refl _) (Nat.le_refl _) (Nat.le_refl _) ?_
    show G (28, [some (.ref 94), some (.int a0)], [], (gSh, s4, u))
    cases hP
    exact hG.2.1 _ _ rfl rfl
  · refine hG.1 _ (7, [some (.ref 94), some (.int a0)], [], (gSh, σ, u)) _ rfl (if_neg hc) ?_
    refine gRunN_ok hG.1 3 _ (10, [some (.ref 94), some (.int a0)], [.int a0, .ref 94, .ref 94], (gSh, σ, u)) rfl ?_
    obtain ⟨v5, hq, hP⟩ := g_b1 hP
    refine hG.2.2.2.1 _ _ _ [.ref 94, .int a0] [.ref 94] _ (gSh, σ, u) (some (.int v5)) _ _ _ _ _ _ rfl rfl rfl rfl rfl rfl (c_Model_padOf E (d + 1) u a0 _  hq) (Nat.le_refl _) (Nat.le_refl _) (Nat.le_refl _) (Nat.le_refl _) ?_
    show G (13, [some (.ref 94), some (.int a0)], [.int v5, .ref 94], (gSh, σ, u))
    obtain ⟨s8, hq, hP⟩ := g_b1 hP
    refine hG.2.2.2.1 _ _ _ [.ref 94, .int v5] [] _ (gSh, s8, u) none _ _ _ _ _ _ rfl rfl rfl rfl rfl rfl (c_Model_pointOfPad E (d + 0) u v5 _  hq) (Nat.le_refl _) (Nat.le_refl _) (Nat.le_refl _) (Nat.le_refl _) ?_
    show G (16, [some (.ref 94), some (.int a0)], [], (gSh, s8, u))
    refine gRunN_ok hG.1 1 _ (28, [some (.ref 94), some (.int a0)], [], (gSh, s8, u)) rfl ?_
    cases hP
    exact hG.2.1 _ _ rfl rfl⟩
def p_Model_pointOfSink (E : gEv) (a0 : Int32) (σ : gS) : Option (gS) :=
  if gIn a0 (σ.2.1 131) then if (σ.1 131 a0.toNatClampNeg) < (1000 : Int32) then (if gIn a0 (σ.2.1 131) then gB1 (p_Model_pointOfElement E ((σ.1 131 a0.toNatClampNeg) / (4 : Int32)) σ) fun s2 => some s2 else none) else (if gIn a0 (σ.2.1 131) then gB1 (p_Model_padOf E (((200 : Int32) + (σ.1 131 a0.toNatClampNeg)) - (1000 : Int32)) σ) fun v3 => gB1 (p_Model_pointOfPad E v3 σ) fun s6 => some s6 else none) else none
set_option maxRecDepth 20000 in
theorem c_Model_pointOfSink (E : gEv) (d u : Nat) (a0 : Int32) (σ : gS) {sr : gS}  (hq : p_Model_pointOfSink E a0 σ = some sr) : gC E gDf gMs (d + 3) 233 [.ref 94, .int a0] (gSh, σ, u) (none, (gSh, sr, u)) := ⟨gM233, rfl, Nat.le_of_ble_eq_true rfl, fun G hG => by
  have hP := hq
  unfold p_Model_pointOfSink at hP
  replace hG : gClo E gDf gP18 gY233 none (gC E gDf gMs (d + 2)) (none, (gSh, sr, u)) G := hG
  show G (0, [some (.ref 94), some (.int a0)], [], (gSh, σ, u))
  refine gRunN_ok hG.1 3 _ (5, [some (.ref 94), some (.int a0)], [.int a0, .ref 131], (gSh, σ, u)) rfl ?_
  obtain ⟨hc, hP⟩ := g_if hP
  refine hG.1 _ (6, [some (.ref 94), some (.int a0)], [.int (σ.1 131 a0.toNatClampNeg)], (gSh, σ, u)) _ rfl (if_pos hc) ?_
  refine gRunN_ok hG.1 1 _ (9, [some (.ref 94), some (.int a0)], [.int 1000, .int (σ.1 131 a0.toNatClampNeg)], (gSh, σ, u)) rfl ?_
  rcases g_ite hP with ⟨hc, hP⟩ | ⟨hc, hP⟩
  · refine hG.1 _ (37, [some (.ref 94), some (.int a0)], [], (gSh, σ, u)) _ rfl (if_pos hc) ?_
    refine gRunN_ok hG.1 4 _ (43, [some (.ref 94), some (.int a0)], [.int a0, .ref 131, .ref 94], (gSh, σ, u)) rfl ?_
    obtain ⟨hc, hP⟩ := g_if hP
    refine hG.1 _ (44, [some (.ref 94), some (.int a0)], [.int (σ.1 131 a0.toNatClampNeg), .ref 94], (gSh, σ, u)) _ rfl (if_pos hc) ?_
    refine gRunN_ok hG.1 2 _ (46, [some (.ref 94), some (.int a0)], [.int ((σ.1 131 a0.toNatClampNeg) / (4 : Int32)), .ref 94], (gSh, σ, u)) rfl ?_
    obtain ⟨s2, hq, hP⟩ := g_b1 hP
    refine hG.2.2.2.1 _ _ _ [.ref 94, .int ((σ.1 131 a0.toNatClampNeg) / (4 : Int32))] [] _ (gSh, s2, u) none _ _ _ _ _ _ rfl rfl rfl rfl rfl rfl (c_Model_pointOfElement E (d + 0) u ((σ.1 131 a0.toNatClampNeg) / (4 : Int32)) _  hq) (Nat.le_refl _) (Nat.le_refl _) (Nat.le_refl _) (Nat.le_refl _) ?_
    show G (49, [some (.ref 94), some (.int a0)], [], (gSh, s2, u))
    cases hP
    exact hG.2.1 _ _ rfl rfl
  · refine hG.1 _ (12, [some (.ref 94), some (.int a0)], [], (gSh, σ, u)) _ rfl (if_neg hc) ?_
    refine gRunN_ok hG.1 6 _ (22, [some (.ref 94), some (.int a0)], [.int a0, .ref 131, .int 200, .ref 94, .ref 94], (gSh, σ, u)) rfl ?_
    obtain ⟨hc, hP⟩ := g_if hP
    refine hG.1 _ (23, [some (.ref 94), some (.int a0)], [.int (σ.1 131 a0.toNatClampNeg), .int 200, .ref 94, .ref 94], (gSh, σ, u)) _ rfl (if_pos hc) ?_
    refine gRunN_ok hG.1 3 _ (28, [some (.ref 94), some (.int a0)], [.int (((200 : Int32) + (σ.1 131 a0.toNatClampNeg)) - (1000 : Int32)), .ref 94, .ref 94], (gSh, σ, u)) rfl ?_
    obtain ⟨v3, hq, hP⟩ := g_b1 hP
    refine hG.2.2.2.1 _ _ _ [.ref 94, .int (((200 : Int32) + (σ.1 131 a0.toNatClampNeg)) - (1000 : Int32))] [.ref 94] _ (gSh, σ, u) (some (.int v3)) _ _ _ _ _ _ rfl rfl rfl rfl rfl rfl (c_Model_padOf E (d + 1) u (((200 : Int32) + (σ.1 131 a0.toNatClampNeg)) - (1000 : Int32)) _  hq) (Nat.le_refl _) (Nat.le_refl _) (Nat.le_refl _) (Nat.le_refl _) ?_
    show G (31, [some (.ref 94), some (.int a0)], [.int v3, .ref 94], (gSh, σ, u))
    obtain ⟨s6, hq, hP⟩ := g_b1 hP
    refine hG.2.2.2.1 _ _ _ [.ref 94, .int v3] [] _ (gSh, s6, u) none _ _ _ _ _ _ rfl rfl rfl rfl rfl rfl (c_Model_pointOfPad E (d + 0) u v3 _  hq) (Nat.le_refl _) (Nat.le_refl _) (Nat.le_refl _) (Nat.le_refl _) ?_
    show G (34, [some (.ref 94), some (.int a0)], [], (gSh, s6, u))
    refine gRunN_ok hG.1 1 _ (49, [some (.ref 94), some (.int a0)], [], (gSh, s6, u)) rfl ?_
    cases hP
    exact hG.2.1 _ _ rfl rfl⟩
def p_Model_touchPad_2 (E : gEv) (k0 : Nat) (l2 : Int32) (l3 : Int32) (σ : gS) : Option ((Int32 × gS) ⊕ (gS)) :=
  if (σ.1 94 3) ≤ l3 then (some (.inr σ)) else (gB1 (p_Model_padWire E l2 l3 σ) fun v1 => if gIn v1 (σ.2.1 k0) then gLet (gPut σ k0 v1.toNatClampNeg (vp_nar .boolean 1)) fun s3 => gLet (l3 + 1) fun x4 => some (.inl (x4, s3)) else none)
set_option maxRecDepth 20000 in
theorem b_Model_touchPad_2 (E : gEv) (d u : Nat) {G : gFr → Prop} {vo : Option Value} {sr : gS} (hG : gClo E gDf gP18 gY247 none (gC E gDf gMs (d + 2)) (vo, (gSh, sr, u)) G) (k0 : Nat) (l2 : Int32) (l3 : Int32) (σ : gS) (hk0 : gSh[k0]? = some (.inl (.boolean, none))) {r : (Int32 × gS) ⊕ (gS)} (hP : p_Model_touchPad_2 E k0 l2 l3 σ = some r) (K1 : ∀ (m3 : Int32) (σ1 : gS), r = .inl (m3, σ1) → G (2, [some (.ref 94), some (.ref k0), some (.int l2), some (.int m3)], [], (gSh, σ1, u))) (K2 : ∀ (σ1 : gS), r = .inr σ1 → G (25, [none, none, none, none], [], (gSh, σ1, u))) : G (2, [some (.ref 94), some (.ref k0), some (.int l2), some (.int l3)], [], (gSh, σ, u)) := by
  unfold p_Model_touchPad_2 at hP
  refine gRunN_ok hG.1 3 _ (7, [some (.ref 94), some (.ref k0), some (.int l2), some (.int l3)], [.int (σ.1 94 3), .int l3], (gSh, σ, u)) rfl ?_
  rcases g_ite hP with ⟨hc, hP⟩ | ⟨hc, hP⟩
  · refine hG.1 _ (25, [some (.ref 94), some (.ref k0), some (.int l2), some (.int l3)], [], (gSh, σ, u)) _ rfl (if_pos hc) ?_
    refine hG.2.2.2.2.1 _ _ [none, none, none, none] _ _ trivial ?_
    cases hP
    exact K2 _ rfl
  · refine hG.1 _ (10, [some (.ref 94), some (.ref k0), some (.int l2), some (.int l3)], [], (gSh, σ, u)) _ rfl (if_neg hc) ?_
    refine gRunN_ok hG.1 4 _ (14, [some (.ref 94), some (.ref k0), some (.int l2), some (.int l3)], [.int l3, .int l2, .ref 94, .ref k0], (gSh, σ, u)) rfl ?_
    obtain ⟨v1, hq, hP⟩ := g_b1 hP
    refine hG.2.2.2.1 _ _ _ [.ref 94, .int l2, .int l3] [.ref k0] _ (gSh, σ, u) (some (.int v1)) _ _ _ _ _ _ rfl rfl rfl rfl rfl rfl (c_Model_padWire E (d + 0) u l2 l3 _  hq) (Nat.le_refl _) (Nat.le_refl _) (Nat.le_refl _) (Nat.le_refl _) ?_
    show G (17, [some (.ref 94), some (.ref k0), some (.int l2), some (.int l3)], [.int v1, .ref k0], (gSh, σ, u))
    refine gRunN_ok hG.1 1 _ (18, [some (.ref 94), some (.ref k0), some (.int l2), some (.int l3)], [.int 1, .int v1, .ref k0], (gSh, σ, u)) rfl ?_
    obtain ⟨hc, hP⟩ := g_if hP
    refine hG.1 _ (19, [some (.ref 94), some (.ref k0), some (.int l2), some (.int l3)], [], (gSh, (gPut σ k0 v1.toNatClampNeg (vp_nar .boolean 1)), u)) _ rfl (by simp only [gStep, gAldI, gAldB, gAldL, gAstI, gAstB, gAstL, gAln, hk0]; exact (if_pos hc)) ?_
    obtain ⟨s3, es3, hP⟩ := g_let hP
    rw [← es3]
    refine gRunN_ok hG.1 1 _ (22, [some (.ref 94), some (.ref k0), some (.int l2), some (.int (l3 + 1))], [], (gSh, s3, u)) rfl ?_
    obtain ⟨x4, ex4, hP⟩ := g_let hP
    rw [← ex4]
    refine gRunN_ok hG.1 1 _ (2, [some (.ref 94), some (.ref k0), some (.int l2), some (.int x4)], [], (gSh, s3, u)) rfl ?_
    cases hP
    exact K1 _ _ rfl
theorem l_Model_touchPad_2 (E : gEv) (d u : Nat) {G : gFr → Prop} {vo : Option Value} {sr : gS} (hG : gClo E gDf gP18 gY247 none (gC E gDf gMs (d + 2)) (vo, (gSh, sr, u)) G) (k0 : Nat) (l2 : Int32) (hk0 : gSh[k0]? = some (.inl (.boolean, none))) : ∀ (n : Nat) (l3 : Int32) (σ : gS) (e : (gS)), gIter (fun z => p_Model_touchPad_2 E k0 l2 z.1 z.2) n (l3, σ) = some e → (∀ (σ1 : gS), e = σ1 → G (25, [none, none, none, none], [], (gSh, σ1, u))) → G (2, [some (.ref 94), some (.ref k0), some (.int l2), some (.int l3)], [], (gSh, σ, u)) := by
  intro n
  induction n with
  | zero => intro l3 σ e h; cases h
  | succ n ih =>
    intro l3 σ e h K2
    rcases g_iter h with ⟨z, h1, h2⟩ | h1
    · exact b_Model_touchPad_2 E d u hG k0 l2 l3 σ hk0 h1 (fun n0 n1 hz => by cases hz; exact ih _ _ e h2 K2) (fun _ hz => by cases hz)
    · exact b_Model_touchPad_2 E d u hG k0 l2 l3 σ hk0 h1 (fun _ _ hz => by cases hz) (fun σ1 hz => K2 σ1 (by cases hz; rfl))
def p_Model_touchPad (E : gEv) (k0 : Nat) (a1 : Int32) (σ : gS) : Option (gS) :=
  gB1 (gIter (fun z => p_Model_touchPad_2 E k0 a1 z.1 z.2) gN (0, σ)) fun e5 => (fun s6 => some s6) e5
set_option maxRecDepth 20000 in
theorem c_Model_touchPad (E : gEv) (d u : Nat) (k0 : Nat) (a1 : Int32) (σ : gS) {sr : gS}  (hk0 : gSh[k0]? = some (.inl (.boolean, none))) (hq : p_Model_touchPad E k0 a1 σ = some sr) : gC E gDf gMs (d + 3) 247 [.ref 94, .ref k0, .int a1] (gSh, σ, u) (none, (gSh, sr, u)) := ⟨gM247, rfl, Nat.le_of_ble_eq_true rfl, fun G hG => by
  have hP := hq
  unfold p_Model_touchPad at hP
  replace hG : gClo E gDf gP18 gY247 none (gC E gDf gMs (d + 2)) (none, (gSh, sr, u)) G := hG
  show G (0, [some (.ref 94), some (.ref k0), some (.int a1), none], [], (gSh, σ, u))
  refine gRunN_ok hG.1 2 _ (2, [some (.ref 94), some (.ref k0), some (.int a1), some (.int 0)], [], (gSh, σ, u)) rfl ?_
  obtain ⟨e5, hq, hP⟩ := g_b1 hP
  refine l_Model_touchPad_2 E d u hG k0 a1 hk0 gN 0 σ _ hq (fun s6 he => ?_)
  · replace he := he.symm
    subst he
    try dsimp only [gSum] at hP
    cases hP
    exact hG.2.1 _ _ rfl rfl⟩
def p_Model_touchTile_10 (E : gEv) (k0 : Nat) (l2 : Int32) (l3 : Int32) (l4 : Int32) (σ : gS) : Option ((Int32 × gS) ⊕ (gS)) :=
  if (σ.1 94 3) ≤ l4 then (some (.inr σ)) else (gB1 (p_Model_tileWire E l2 l3 l4 σ) fun v1 => if gIn v1 (σ.2.1 k0) then gLet (gPut σ k0 v1.toNatClampNeg (vp_nar .boolean 1)) fun s3 => gLet (l4 + 1) fun x4 => some (.inl (x4, s3)) else none)
set_option maxRecDepth 20000 in
theorem b_Model_touchTile_10 (E : gEv) (d u : Nat) {G : gFr → Prop} {vo : Option Value} {sr : gS} (hG : gClo E gDf gP18 gY249 none (gC E gDf gMs (d + 2)) (vo, (gSh, sr, u)) G) (k0 : Nat) (l2 : Int32) (l3 : Int32) (l4 : Int32) (σ : gS) (hk0 : gSh[k0]? = some (.inl (.boolean, none))) {r : (Int32 × gS) ⊕ (gS)} (hP : p_Model_touchTile_10 E k0 l2 l3 l4 σ = some r) (K1 : ∀ (m4 : Int32) (σ1 : gS), r = .inl (m4, σ1) → G (10, [some (.ref 94), some (.ref k0), some (.int l2), some (.int l3), some (.int m4)], [], (gSh, σ1, u))) (K2 : ∀ (σ1 : gS), r = .inr σ1 → G (36, [some (.ref 94), some (.ref k0), some (.int l2), some (.int l3), none], [], (gSh, σ1, u))) : G (10, [some (.ref 94), some (.ref k0), some (.int l2), some (.int l3), some (.int l4)], [], (gSh, σ, u)) := by
  unfold p_Model_touchTile_10 at hP
  refine gRunN_ok hG.1 3 _ (16, [some (.ref 94), some (.ref k0), some (.int l2), some (.int l3), some (.int l4)], [.int (σ.1 94 3), .int l4], (gSh, σ, u)) rfl ?_
  rcases g_ite hP with ⟨hc, hP⟩ | ⟨hc, hP⟩
  · refine hG.1 _ (36, [some (.ref 94), some (.ref k0), some (.int l2), some (.int l3), some (.int l4)], [], (gSh, σ, u)) _ rfl (if_pos hc) ?_
    refine hG.2.2.2.2.1 _ _ [some (.ref 94), some (.ref k0), some (.int l2), some (.int l3), none] _ _ ⟨rfl, ⟨rfl, ⟨rfl, ⟨rfl, trivial⟩⟩⟩⟩ ?_
    cases hP
    exact K2 _ rfl
  · refine hG.1 _ (19, [some (.ref 94), some (.ref k0), some (.int l2), some (.int l3), some (.int l4)], [], (gSh, σ, u)) _ rfl (if_neg hc) ?_
    refine gRunN_ok hG.1 5 _ (25, [some (.ref 94), some (.ref k0), some (.int l2), some (.int l3), some (.int l4)], [.int l4, .int l3, .int l2, .ref 94, .ref k0], (gSh, σ, u)) rfl ?_
    obtain ⟨v1, hq, hP⟩ := g_b1 hP
    refine hG.2.2.2.1 _ _ _ [.ref 94, .int l2, .int l3, .int l4] [.ref k0] _ (gSh, σ, u) (some (.int v1)) _ _ _ _ _ _ rfl rfl rfl rfl rfl rfl (c_Model_tileWire E (d + 0) u l2 l3 l4 _  hq) (Nat.le_refl _) (Nat.le_refl _) (Nat.le_refl _) (Nat.le_refl _) ?_
    show G (28, [some (.ref 94), some (.ref k0), some (.int l2), some (.int l3), some (.int l4)], [.int v1, .ref k0], (gSh, σ, u))
    refine gRunN_ok hG.1 1 _ (29, [some (.ref 94), some (.ref k0), some (.int l2), some (.int l3), some (.int l4)], [.int 1, .int v1, .ref k0], (gSh, σ, u)) rfl ?_
    obtain ⟨hc, hP⟩ := g_if hP
    refine hG.1 _ (30, [some (.ref 94), some (.ref k0), some (.int l2), some (.int l3), some (.int l4)], [], (gSh, (gPut σ k0 v1.toNatClampNeg (vp_nar .boolean 1)), u)) _ rfl (by simp only [gStep, gAldI, gAldB, gAldL, gAstI, gAstB, gAstL, gAln, hk0]; exact (if_pos hc)) ?_
    obtain ⟨s3, es3, hP⟩ := g_let hP
    rw [← es3]
    refine gRunN_ok hG.1 1 _ (33, [some (.ref 94), some (.ref k0), some (.int l2), some (.int l3), some (.int (l4 + 1))], [], (gSh, s3, u)) rfl ?_
    obtain ⟨x4, ex4, hP⟩ := g_let hP
    rw [← ex4]
    refine gRunN_ok hG.1 1 _ (10, [some (.ref 94), some (.ref k0), some (.int l2), some (.int l3), some (.int x4)], [], (gSh, s3, u)) rfl ?_
    cases hP
    exact K1 _ _ rfl
theorem l_Model_touchTile_10 (E : gEv) (d u : Nat) {G : gFr → Prop} {vo : Option Value} {sr : gS} (hG : gClo E gDf gP18 gY249 none (gC E gDf gMs (d + 2)) (vo, (gSh, sr, u)) G) (k0 : Nat) (l2 : Int32) (l3 : Int32) (hk0 : gSh[k0]? = some (.inl (.boolean, none))) : ∀ (n : Nat) (l4 : Int32) (σ : gS) (e : (gS)), gIter (fun z => p_Model_touchTile_10 E k0 l2 l3 z.1 z.2) n (l4, σ) = some e → (∀ (σ1 : gS), e = σ1 → G (36, [some (.ref 94), some (.ref k0), some (.int l2), some (.int l3), none], [], (gSh, σ1, u))) → G (10, [some (.ref 94), some (.ref k0), some (.int l2), some (.int l3), some (.int l4)], [], (gSh, σ, u)) := by
  intro n
  induction n with
  | zero => intro l4 σ e h; cases h
  | succ n ih =>
    intro l4 σ e h K2
    rcases g_iter h with ⟨z, h1, h2⟩ | h1
    · exact b_Model_touchTile_10 E d u hG k0 l2 l3 l4 σ hk0 h1 (fun n0 n1 hz => by cases hz; exact ih _ _ e h2 K2) (fun _ hz => by cases hz)
    · exact b_Model_touchTile_10 E d u hG k0 l2 l3 l4 σ hk0 h1 (fun _ _ hz => by cases hz) (fun σ1 hz => K2 σ1 (by cases hz; rfl))
def p_Model_touchTile_2 (E : gEv) (k0 : Nat) (l2 : Int32) (l3 : Int32) (σ : gS) : Option ((Int32 × gS) ⊕ (gS)) :=
  if (4 : Int32) ≤ l3 then (some (.inr σ)) else (gB1 (gIter (fun z => p_Model_touchTile_10 E k0 l2 l3 z.1 z.2) gN (0, σ)) fun e5 => (fun s6 => gLet (l3 + 1) fun x7 => some (.inl (x7, s6))) e5)
set_option maxRecDepth 20000 in
theorem b_Model_touchTile_2 (E : gEv) (d u : Nat) {G : gFr → Prop} {vo : Option Value} {sr : gS} (hG : gClo E gDf gP18 gY249 none (gC E gDf gMs (d + 2)) (vo, (gSh, sr, u)) G) (k0 : Nat) (l2 : Int32) (l3 : Int32) (σ : gS) (hk0 : gSh[k0]? = some (.inl (.boolean, none))) {r : (Int32 × gS) ⊕ (gS)} (hP : p_Model_touchTile_2 E k0 l2 l3 σ = some r) (K1 : ∀ (m3 : Int32) (σ1 : gS), r = .inl (m3, σ1) → G (2, [some (.ref 94), some (.ref k0), some (.int l2), some (.int m3), none], [], (gSh, σ1, u))) (K2 : ∀ (σ1 : gS), r = .inr σ1 → G (42, [none, none, none, none, none], [], (gSh, σ1, u))) : G (2, [some (.ref 94), some (.ref k0), some (.int l2), some (.int l3), none], [], (gSh, σ, u)) := by
  unfold p_Model_touchTile_2 at hP
  refine gRunN_ok hG.1 2 _ (4, [some (.ref 94), some (.ref k0), some (.int l2), some (.int l3), none], [.int 4, .int l3], (gSh, σ, u)) rfl ?_
  rcases g_ite hP with ⟨hc, hP⟩ | ⟨hc, hP⟩
  · refine hG.1 _ (42, [some (.ref 94), some (.ref k0), some (.int l2), some (.int l3), none], [], (gSh, σ, u)) _ rfl (if_pos hc) ?_
    refine hG.2.2.2.2.1 _ _ [none, none, none, none, none] _ _ trivial ?_
    cases hP
    exact K2 _ rfl
  · refine hG.1 _ (7, [some (.ref 94), some (.ref k0), some (.int l2), some (.int l3), none], [], (gSh, σ, u)) _ rfl (if_neg hc) ?_
    refine gRunN_ok hG.1 2 _ (10, [some (.ref 94), some (.ref k0), some (.int l2), some (.int l3), some (.int 0)], [], (gSh, σ, u)) rfl ?_
    obtain ⟨e5, hq, hP⟩ := g_b1 hP
    refine l_Model_touchTile_10 E d u hG k0 l2 l3 hk0 gN 0 σ _ hq (fun s6 he => ?_)
    · replace he := he.symm
      subst he
      try dsimp only [gSum] at hP
      refine gRunN_ok hG.1 1 _ (39, [some (.ref 94), some (.ref k0), some (.int l2), some (.int (l3 + 1)), none], [], (gSh, s6, u)) rfl ?_
      obtain ⟨x7, ex7, hP⟩ := g_let hP
      rw [← ex7]
      refine gRunN_ok hG.1 1 _ (2, [some (.ref 94), some (.ref k0), some (.int l2), some (.int x7), none], [], (gSh, s6, u)) rfl ?_
      cases hP
      exact K1 _ _ rfl
theorem l_Model_touchTile_2 (E : gEv) (d u : Nat) {G : gFr → Prop} {vo : Option Value} {sr : gS} (hG : gClo E gDf gP18 gY249 none (gC E gDf gMs (d + 2)) (vo, (gSh, sr, u)) G) (k0 : Nat) (l2 : Int32) (hk0 : gSh[k0]? = some (.inl (.boolean, none))) : ∀ (n : Nat) (l3 : Int32) (σ : gS) (e : (gS)), gIter (fun z => p_Model_touchTile_2 E k0 l2 z.1 z.2) n (l3, σ) = some e → (∀ (σ1 : gS), e = σ1 → G (42, [none, none, none, none, none], [], (gSh, σ1, u))) → G (2, [some (.ref 94), some (.ref k0), some (.int l2), some (.int l3), none], [], (gSh, σ, u)) := by
  intro n
  induction n with
  | zero => intro l3 σ e h; cases h
  | succ n ih =>
    intro l3 σ e h K2
    rcases g_iter h with ⟨z, h1, h2⟩ | h1
    · exact b_Model_touchTile_2 E d u hG k0 l2 l3 σ hk0 h1 (fun n0 n1 hz => by cases hz; exact ih _ _ e h2 K2) (fun _ hz => by cases hz)
    · exact b_Model_touchTile_2 E d u hG k0 l2 l3 σ hk0 h1 (fun _ _ hz => by cases hz) (fun σ1 hz => K2 σ1 (by cases hz; rfl))
def p_Model_touchTile (E : gEv) (k0 : Nat) (a1 : Int32) (σ : gS) : Option (gS) :=
  gB1 (gIter (fun z => p_Model_touchTile_2 E k0 a1 z.1 z.2) gN (0, σ)) fun e8 => (fun s9 => some s9) e8
set_option maxRecDepth 20000 in
theorem c_Model_touchTile (E : gEv) (d u : Nat) (k0 : Nat) (a1 : Int32) (σ : gS) {sr : gS}  (hk0 : gSh[k0]? = some (.inl (.boolean, none))) (hq : p_Model_touchTile E k0 a1 σ = some sr) : gC E gDf gMs (d + 3) 249 [.ref 94, .ref k0, .int a1] (gSh, σ, u) (none, (gSh, sr, u)) := ⟨gM249, rfl, Nat.le_of_ble_eq_true rfl, fun G hG => by
  have hP := hq
  unfold p_Model_touchTile at hP
  replace hG : gClo E gDf gP18 gY249 none (gC E gDf gMs (d + 2)) (none, (gSh, sr, u)) G := hG
  show G (0, [some (.ref 94), some (.ref k0), some (.int a1), none, none], [], (gSh, σ, u))
  refine gRunN_ok hG.1 2 _ (2, [some (.ref 94), some (.ref k0), some (.int a1), some (.int 0), none], [], (gSh, σ, u)) rfl ?_
  obtain ⟨e8, hq, hP⟩ := g_b1 hP
  refine l_Model_touchTile_2 E d u hG k0 a1 hk0 gN 0 σ _ hq (fun s9 he => ?_)
  · replace he := he.symm
    subst he
    try dsimp only [gSum] at hP
    cases hP
    exact hG.2.1 _ _ rfl rfl⟩
