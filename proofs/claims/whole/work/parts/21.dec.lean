def p_Face_nearest (E : gEv) (a0 : Int32) (a1 : Int32) (σ : gS) : Option (Int32) :=
  some (if (1 : Int32) < (if a0 < a1 then a0 else a1) then (if a0 < a1 then a0 else a1) else (1 : Int32))
set_option maxRecDepth 20000 in
theorem c_Face_nearest (E : gEv) (d u : Nat) (a0 : Int32) (a1 : Int32) (σ : gS) {sh : List gD} {v : Int32}  (hq : p_Face_nearest E a0 a1 σ = some v) : gC E gDf gMs (d + 1) 1 [.int a0, .int a1] (sh, σ, u) (some (.int v), (sh, σ, u)) := ⟨gM1, rfl, Nat.le_of_ble_eq_true rfl, fun G hG => by
  have hP := hq
  unfold p_Face_nearest at hP
  replace hG : gClo E gDf gP0 gY1 (some .int) (gC E gDf gMs (d + 0)) (some (.int v), (sh, σ, u)) G := hG
  show G (0, [some (.int a0), some (.int a1)], [], (sh, σ, u))
  refine gRunN_ok hG.1 3 _ (3, [some (.int a0), some (.int a1)], [.int a0, .int a1, .int 1], (sh, σ, u)) rfl ?_
  refine hG.2.2.2.2.2.2.2 _ _ _ _ _ _ _ _ _ rfl rfl rfl (Nat.le_refl _) (Nat.le_refl _) ?_
  show G (6, [some (.int a0), some (.int a1)], [.int (if a0 < a1 then a0 else a1), .int 1], (sh, σ, u))
  refine hG.2.2.2.2.2.2.1 _ _ _ _ _ _ _ _ _ rfl rfl rfl (Nat.le_refl _) (Nat.le_refl _) ?_
  show G (9, [some (.int a0), some (.int a1)], [.int (if (1 : Int32) < (if a0 < a1 then a0 else a1) then (if a0 < a1 then a0 else a1) else (1 : Int32))], (sh, σ, u))
  cases hP
  exact hG.2.1 _ _ rfl rfl⟩
def p_Arrays_fillI_5 (E : gEv) (k0 : Nat) (l1 : Int32) (l3 : Int32) (l2 : Int32) (σ : gS) : Option ((Int32 × gS) ⊕ (gS)) :=
  if l3 ≤ l2 then (some (.inr σ)) else (if gIn l2 (σ.2.1 k0) then gLet (gPut σ k0 l2.toNatClampNeg l1) fun s2 => gLet (l2 + 1) fun x3 => some (.inl (x3, s2)) else none)
set_option maxRecDepth 20000 in
theorem b_Arrays_fillI_5 (E : gEv) (d u : Nat) {sh : List gD} {G : gFr → Prop} {vo : Option Value} {sr : gS} (hG : gClo E gDf gP2 gY3 none (gC E gDf gMs (d + 0)) (vo, (sh, sr, u)) G) (k0 : Nat) (l1 : Int32) (l3 : Int32) (l2 : Int32) (σ : gS) (hk0 : sh[k0]? = some (.inl (.int, none))) {r : (Int32 × gS) ⊕ (gS)} (hP : p_Arrays_fillI_5 E k0 l1 l3 l2 σ = some r) (K1 : ∀ (m2 : Int32) (σ1 : gS), r = .inl (m2, σ1) → G (5, [some (.ref k0), some (.int l1), some (.int m2), some (.int l3)], [], (sh, σ1, u))) (K2 : ∀ (σ1 : gS), r = .inr σ1 → G (20, [none, none, none, none], [], (sh, σ1, u))) : G (5, [some (.ref k0), some (.int l1), some (.int l2), some (.int l3)], [], (sh, σ, u)) := by
  unfold p_Arrays_fillI_5 at hP
  refine gRunN_ok hG.1 2 _ (7, [some (.ref k0), some (.int l1), some (.int l2), some (.int l3)], [.int l3, .int l2], (sh, σ, u)) rfl ?_
  rcases g_ite hP with ⟨hc, hP⟩ | ⟨hc, hP⟩
  · refine hG.1 _ (20, [some (.ref k0), some (.int l1), some (.int l2), some (.int l3)], [], (sh, σ, u)) _ rfl (if_pos hc) ?_
    refine hG.2.2.2.2.1 _ _ [none, none, none, none] _ _ trivial ?_
    cases hP
    exact K2 _ rfl
  · refine hG.1 _ (10, [some (.ref k0), some (.int l1), some (.int l2), some (.int l3)], [], (sh, σ, u)) _ rfl (if_neg hc) ?_
    refine gRunN_ok hG.1 3 _ (13, [some (.ref k0), some (.int l1), some (.int l2), some (.int l3)], [.int l1, .int l2, .ref k0], (sh, σ, u)) rfl ?_
    obtain ⟨hc, hP⟩ := g_if hP
    refine hG.1 _ (14, [some (.ref k0), some (.int l1), some (.int l2), some (.int l3)], [], (sh, (gPut σ k0 l2.toNatClampNeg l1), u)) _ rfl (by simp only [gStep, gAldI, gAldB, gAldL, gAstI, gAstB, gAstL, gAln, hk0]; exact (if_pos hc)) ?_
    obtain ⟨s2, es2, hP⟩ := g_let hP
    rw [← es2]
    refine gRunN_ok hG.1 1 _ (17, [some (.ref k0), some (.int l1), some (.int (l2 + 1)), some (.int l3)], [], (sh, s2, u)) rfl ?_
    obtain ⟨x3, ex3, hP⟩ := g_let hP
    rw [← ex3]
    refine gRunN_ok hG.1 1 _ (5, [some (.ref k0), some (.int l1), some (.int x3), some (.int l3)], [], (sh, s2, u)) rfl ?_
    cases hP
    exact K1 _ _ rfl
theorem l_Arrays_fillI_5 (E : gEv) (d u : Nat) {sh : List gD} {G : gFr → Prop} {vo : Option Value} {sr : gS} (hG : gClo E gDf gP2 gY3 none (gC E gDf gMs (d + 0)) (vo, (sh, sr, u)) G) (k0 : Nat) (l1 : Int32) (l3 : Int32) (hk0 : sh[k0]? = some (.inl (.int, none))) : ∀ (n : Nat) (l2 : Int32) (σ : gS) (e : (gS)), gIter (fun z => p_Arrays_fillI_5 E k0 l1 l3 z.1 z.2) n (l2, σ) = some e → (∀ (σ1 : gS), e = σ1 → G (20, [none, none, none, none], [], (sh, σ1, u))) → G (5, [some (.ref k0), some (.int l1), some (.int l2), some (.int l3)], [], (sh, σ, u)) := by
  intro n
  induction n with
  | zero => intro l2 σ e h; cases h
  | succ n ih =>
    intro l2 σ e h K2
    rcases g_iter h with ⟨z, h1, h2⟩ | h1
    · exact b_Arrays_fillI_5 E d u hG k0 l1 l3 l2 σ hk0 h1 (fun n0 n1 hz => by cases hz; exact ih _ _ e h2 K2) (fun _ hz => by cases hz)
    · exact b_Arrays_fillI_5 E d u hG k0 l1 l3 l2 σ hk0 h1 (fun _ _ hz => by cases hz) (fun σ1 hz => K2 σ1 (by cases hz; rfl))
def p_Arrays_fillI (E : gEv) (k0 : Nat) (a1 : Int32) (σ : gS) : Option (gS) :=
  gLet (Int32.ofNat (σ.2.1 k0)) fun x1 => gB1 (gIter (fun z => p_Arrays_fillI_5 E k0 a1 x1 z.1 z.2) gN (0, σ)) fun e4 => (fun s5 => some s5) e4
set_option maxRecDepth 20000 in
theorem c_Arrays_fillI (E : gEv) (d u : Nat) (k0 : Nat) (a1 : Int32) (σ : gS) {sh : List gD} {sr : gS}  (hk0 : sh[k0]? = some (.inl (.int, none))) (hq : p_Arrays_fillI E k0 a1 σ = some sr) : gC E gDf gMs (d + 1) 3 [.ref k0, .int a1] (sh, σ, u) (none, (sh, sr, u)) := ⟨gM3, rfl, Nat.le_of_ble_eq_true rfl, fun G hG => by
  have hP := hq
  unfold p_Arrays_fillI at hP
  replace hG : gClo E gDf gP2 gY3 none (gC E gDf gMs (d + 0)) (none, (sh, sr, u)) G := hG
  show G (0, [some (.ref k0), some (.int a1), none, none], [], (sh, σ, u))
  refine gRunN_ok hG.1 3 _ (3, [some (.ref k0), some (.int a1), some (.int 0), none], [.ref k0], (sh, σ, u)) rfl ?_
  refine hG.1 _ (4, [some (.ref k0), some (.int a1), some (.int 0), none], [.int (Int32.ofNat (σ.2.1 k0))], (sh, σ, u)) _ rfl (by simp only [gStep, gAln, hk0]) ?_
  refine gRunN_ok hG.1 1 _ (5, [some (.ref k0), some (.int a1), some (.int 0), some (.int (Int32.ofNat (σ.2.1 k0)))], [], (sh, σ, u)) rfl ?_
  obtain ⟨x1, ex1, hP⟩ := g_let hP
  rw [← ex1]
  obtain ⟨e4, hq, hP⟩ := g_b1 hP
  refine l_Arrays_fillI_5 E d u hG k0 a1 x1 hk0 gN 0 σ _ hq (fun s5 he => ?_)
  · replace he := he.symm
    subst he
    try dsimp only [gSum] at hP
    cases hP
    exact hG.2.1 _ _ rfl rfl⟩
def p_Grid_across_j29 (E : gEv) (l1 : Int32) (l2 : Int32) (y0 : Int32) (σ : gS) : Option (Int32) :=
  if y0 = 0 then (some (-1)) else (some (((l2 * (σ.1 1 0)) + l1) * (σ.1 1 3)))
set_option maxRecDepth 20000 in
theorem j_Grid_across_j29 (E : gEv) (d u : Nat) {G : gFr → Prop} (σ : gS) {v : Int32} (hG : gClo E gDf gP1 gY5 (some .int) (gC E gDf gMs (d + 0)) (some (.int v), (gShG, σ, u)) G) (l1 : Int32) (l2 : Int32) (y0 : Int32) (hP : p_Grid_across_j29 E l1 l2 y0 σ = some v) : G (29, [some (.ref 1), some (.int l1), some (.int l2), none], [.int y0], (gShG, σ, u)) := by
  unfold p_Grid_across_j29 at hP
  refine gRunN_ok hG.1 2 _ (31, [some (.ref 1), some (.int l1), some (.int l2), some (.int y0)], [.int y0], (gShG, σ, u)) rfl ?_
  rcases g_ite hP with ⟨hc, hP⟩ | ⟨hc, hP⟩
  · refine hG.1 _ (50, [some (.ref 1), some (.int l1), some (.int l2), some (.int y0)], [], (gShG, σ, u)) _ rfl (if_pos hc) ?_
    refine gRunN_ok hG.1 1 _ (51, [some (.ref 1), some (.int l1), some (.int l2), some (.int y0)], [.int (-1)], (gShG, σ, u)) rfl ?_
    cases hP
    exact hG.2.1 _ _ rfl rfl
  · refine hG.1 _ (34, [some (.ref 1), some (.int l1), some (.int l2), some (.int y0)], [], (gShG, σ, u)) _ rfl (if_neg hc) ?_
    refine gRunN_ok hG.1 10 _ (51, [some (.ref 1), some (.int l1), some (.int l2), some (.int y0)], [.int (((l2 * (σ.1 1 0)) + l1) * (σ.1 1 3))], (gShG, σ, u)) rfl ?_
    cases hP
    exact hG.2.1 _ _ rfl rfl
def p_Grid_across_j28 (E : gEv) (l1 : Int32) (l2 : Int32) (σ : gS) : Option (Int32) :=
  p_Grid_across_j29 E l1 l2 0 σ
set_option maxRecDepth 20000 in
theorem j_Grid_across_j28 (E : gEv) (d u : Nat) {G : gFr → Prop} (σ : gS) {v : Int32} (hG : gClo E gDf gP1 gY5 (some .int) (gC E gDf gMs (d + 0)) (some (.int v), (gShG, σ, u)) G) (l1 : Int32) (l2 : Int32) (hP : p_Grid_across_j28 E l1 l2 σ = some v) : G (28, [some (.ref 1), some (.int l1), some (.int l2), none], [], (gShG, σ, u)) := by
  unfold p_Grid_across_j28 at hP
  refine gRunN_ok hG.1 1 _ (29, [some (.ref 1), some (.int l1), some (.int l2), none], [.int 0], (gShG, σ, u)) rfl ?_
  exact j_Grid_across_j29 E d u σ hG l1 l2 0 hP
def p_Grid_across (E : gEv) (a0 : Int32) (a1 : Int32) (σ : gS) : Option (Int32) :=
  if a0 < 0 then (p_Grid_across_j28 E a0 a1 σ) else (if (σ.1 1 0) ≤ a0 then (p_Grid_across_j28 E a0 a1 σ) else (if a1 < 0 then (p_Grid_across_j28 E a0 a1 σ) else (if (σ.1 1 1) < a1 then (p_Grid_across_j28 E a0 a1 σ) else (p_Grid_across_j29 E a0 a1 1 σ))))
set_option maxRecDepth 20000 in
theorem c_Grid_across (E : gEv) (d u : Nat) (a0 : Int32) (a1 : Int32) (σ : gS) {v : Int32}  (hq : p_Grid_across E a0 a1 σ = some v) : gC E gDf gMs (d + 1) 5 [.ref 1, .int a0, .int a1] (gShG, σ, u) (some (.int v), (gShG, σ, u)) := ⟨gM5, rfl, Nat.le_of_ble_eq_true rfl, fun G hG => by
  have hP := hq
  unfold p_Grid_across at hP
  replace hG : gClo E gDf gP1 gY5 (some .int) (gC E gDf gMs (d + 0)) (some (.int v), (gShG, σ, u)) G := hG
  show G (0, [some (.ref 1), some (.int a0), some (.int a1), none], [], (gShG, σ, u))
  refine gRunN_ok hG.1 1 _ (1, [some (.ref 1), some (.int a0), some (.int a1), none], [.int a0], (gShG, σ, u)) rfl ?_
  rcases g_ite hP with ⟨hc, hP⟩ | ⟨hc, hP⟩
  · refine hG.1 _ (28, [some (.ref 1), some (.int a0), some (.int a1), none], [], (gShG, σ, u)) _ rfl (if_pos hc) ?_
    exact j_Grid_across_j28 E d u σ hG a0 a1 hP
  · refine hG.1 _ (4, [some (.ref 1), some (.int a0), some (.int a1), none], [], (gShG, σ, u)) _ rfl (if_neg hc) ?_
    refine gRunN_ok hG.1 3 _ (9, [some (.ref 1), some (.int a0), some (.int a1), none], [.int (σ.1 1 0), .int a0], (gShG, σ, u)) rfl ?_
    rcases g_ite hP with ⟨hc, hP⟩ | ⟨hc, hP⟩
    · refine hG.1 _ (28, [some (.ref 1), some (.int a0), some (.int a1), none], [], (gShG, σ, u)) _ rfl (if_pos hc) ?_
      exact j_Grid_across_j28 E d u σ hG a0 a1 hP
    · refine hG.1 _ (12, [some (.ref 1), some (.int a0), some (.int a1), none], [], (gShG, σ, u)) _ rfl (if_neg hc) ?_
      refine gRunN_ok hG.1 1 _ (13, [some (.ref 1), some (.int a0), some (.int a1), none], [.int a1], (gShG, σ, u)) rfl ?_
      rcases g_ite hP with ⟨hc, hP⟩ | ⟨hc, hP⟩
      · refine hG.1 _ (28, [some (.ref 1), some (.int a0), some (.int a1), none], [], (gShG, σ, u)) _ rfl (if_pos hc) ?_
        exact j_Grid_across_j28 E d u σ hG a0 a1 hP
      · refine hG.1 _ (16, [some (.ref 1), some (.int a0), some (.int a1), none], [], (gShG, σ, u)) _ rfl (if_neg hc) ?_
        refine gRunN_ok hG.1 3 _ (21, [some (.ref 1), some (.int a0), some (.int a1), none], [.int (σ.1 1 1), .int a1], (gShG, σ, u)) rfl ?_
        rcases g_ite hP with ⟨hc, hP⟩ | ⟨hc, hP⟩
        · refine hG.1 _ (28, [some (.ref 1), some (.int a0), some (.int a1), none], [], (gShG, σ, u)) _ rfl (if_pos hc) ?_
          exact j_Grid_across_j28 E d u σ hG a0 a1 hP
        · refine hG.1 _ (24, [some (.ref 1), some (.int a0), some (.int a1), none], [], (gShG, σ, u)) _ rfl (if_neg hc) ?_
          refine gRunN_ok hG.1 2 _ (29, [some (.ref 1), some (.int a0), some (.int a1), none], [.int 1], (gShG, σ, u)) rfl ?_
          exact j_Grid_across_j29 E d u σ hG a0 a1 1 hP⟩
def p_Grid_upright_j29 (E : gEv) (l1 : Int32) (l2 : Int32) (y0 : Int32) (σ : gS) : Option (Int32) :=
  gLet (((σ.1 1 0) * ((σ.1 1 1) + (1 : Int32))) * (σ.1 1 3)) fun x1 => if y0 = 0 then (some (-1)) else (some (x1 + (((l2 * ((σ.1 1 0) + (1 : Int32))) + l1) * (σ.1 1 3))))
set_option maxRecDepth 20000 in
theorem j_Grid_upright_j29 (E : gEv) (d u : Nat) {G : gFr → Prop} (σ : gS) {v : Int32} (hG : gClo E gDf gP1 gY6 (some .int) (gC E gDf gMs (d + 0)) (some (.int v), (gShG, σ, u)) G) (l1 : Int32) (l2 : Int32) (y0 : Int32) (hP : p_Grid_upright_j29 E l1 l2 y0 σ = some v) : G (29, [some (.ref 1), some (.int l1), some (.int l2), none, none], [.int y0], (gShG, σ, u)) := by
  unfold p_Grid_upright_j29 at hP
  refine gRunN_ok hG.1 12 _ (48, [some (.ref 1), some (.int l1), some (.int l2), some (.int y0), some (.int (((σ.1 1 0) * ((σ.1 1 1) + (1 : Int32))) * (σ.1 1 3)))], [], (gShG, σ, u)) rfl ?_
  obtain ⟨x1, ex1, hP⟩ := g_let hP
  rw [← ex1]
  refine gRunN_ok hG.1 1 _ (49, [some (.ref 1), some (.int l1), some (.int l2), some (.int y0), some (.int x1)], [.int y0], (gShG, σ, u)) rfl ?_
  rcases g_ite hP with ⟨hc, hP⟩ | ⟨hc, hP⟩
  · refine hG.1 _ (73, [some (.ref 1), some (.int l1), some (.int l2), some (.int y0), some (.int x1)], [], (gShG, σ, u)) _ rfl (if_pos hc) ?_
    refine gRunN_ok hG.1 1 _ (74, [some (.ref 1), some (.int l1), some (.int l2), some (.int y0), some (.int x1)], [.int (-1)], (gShG, σ, u)) rfl ?_
    cases hP
    exact hG.2.1 _ _ rfl rfl
  · refine hG.1 _ (52, [some (.ref 1), some (.int l1), some (.int l2), some (.int y0), some (.int x1)], [], (gShG, σ, u)) _ rfl (if_neg hc) ?_
    refine gRunN_ok hG.1 14 _ (74, [some (.ref 1), some (.int l1), some (.int l2), some (.int y0), some (.int x1)], [.int (x1 + (((l2 * ((σ.1 1 0) + (1 : Int32))) + l1) * (σ.1 1 3)))], (gShG, σ, u)) rfl ?_
    cases hP
    exact hG.2.1 _ _ rfl rfl
def p_Grid_upright_j28 (E : gEv) (l1 : Int32) (l2 : Int32) (σ : gS) : Option (Int32) :=
  p_Grid_upright_j29 E l1 l2 0 σ
set_option maxRecDepth 20000 in
theorem j_Grid_upright_j28 (E : gEv) (d u : Nat) {G : gFr → Prop} (σ : gS) {v : Int32} (hG : gClo E gDf gP1 gY6 (some .int) (gC E gDf gMs (d + 0)) (some (.int v), (gShG, σ, u)) G) (l1 : Int32) (l2 : Int32) (hP : p_Grid_upright_j28 E l1 l2 σ = some v) : G (28, [some (.ref 1), some (.int l1), some (.int l2), none, none], [], (gShG, σ, u)) := by
  unfold p_Grid_upright_j28 at hP
  refine gRunN_ok hG.1 1 _ (29, [some (.ref 1), some (.int l1), some (.int l2), none, none], [.int 0], (gShG, σ, u)) rfl ?_
  exact j_Grid_upright_j29 E d u σ hG l1 l2 0 hP
def p_Grid_upright (E : gEv) (a0 : Int32) (a1 : Int32) (σ : gS) : Option (Int32) :=
  if a0 < 0 then (p_Grid_upright_j28 E a0 a1 σ) else (if (σ.1 1 0) < a0 then (p_Grid_upright_j28 E a0 a1 σ) else (if a1 < 0 then (p_Grid_upright_j28 E a0 a1 σ) else (if (σ.1 1 1) ≤ a1 then (p_Grid_upright_j28 E a0 a1 σ) else (p_Grid_upright_j29 E a0 a1 1 σ))))
set_option maxRecDepth 20000 in
theorem c_Grid_upright (E : gEv) (d u : Nat) (a0 : Int32) (a1 : Int32) (σ : gS) {v : Int32}  (hq : p_Grid_upright E a0 a1 σ = some v) : gC E gDf gMs (d + 1) 6 [.ref 1, .int a0, .int a1] (gShG, σ, u) (some (.int v), (gShG, σ, u)) := ⟨gM6, rfl, Nat.le_of_ble_eq_true rfl, fun G hG => by
  have hP := hq
  unfold p_Grid_upright at hP
  replace hG : gClo E gDf gP1 gY6 (some .int) (gC E gDf gMs (d + 0)) (some (.int v), (gShG, σ, u)) G := hG
  show G (0, [some (.ref 1), some (.int a0), some (.int a1), none, none], [], (gShG, σ, u))
  refine gRunN_ok hG.1 1 _ (1, [some (.ref 1), some (.int a0), some (.int a1), none, none], [.int a0], (gShG, σ, u)) rfl ?_
  rcases g_ite hP with ⟨hc, hP⟩ | ⟨hc, hP⟩
  · refine hG.1 _ (28, [some (.ref 1), some (.int a0), some (.int a1), none, none], [], (gShG, σ, u)) _ rfl (if_pos hc) ?_
    exact j_Grid_upright_j28 E d u σ hG a0 a1 hP
  · refine hG.1 _ (4, [some (.ref 1), some (.int a0), some (.int a1), none, none], [], (gShG, σ, u)) _ rfl (if_neg hc) ?_
    refine gRunN_ok hG.1 3 _ (9, [some (.ref 1), some (.int a0), some (.int a1), none, none], [.int (σ.1 1 0), .int a0], (gShG, σ, u)) rfl ?_
    rcases g_ite hP with ⟨hc, hP⟩ | ⟨hc, hP⟩
    · refine hG.1 _ (28, [some (.ref 1), some (.int a0), some (.int a1), none, none], [], (gShG, σ, u)) _ rfl (if_pos hc) ?_
      exact j_Grid_upright_j28 E d u σ hG a0 a1 hP
    · refine hG.1 _ (12, [some (.ref 1), some (.int a0), some (.int a1), none, none], [], (gShG, σ, u)) _ rfl (if_neg hc) ?_
      refine gRunN_ok hG.1 1 _ (13, [some (.ref 1), some (.int a0), some (.int a1), none, none], [.int a1], (gShG, σ, u)) rfl ?_
      rcases g_ite hP with ⟨hc, hP⟩ | ⟨hc, hP⟩
      · refine hG.1 _ (28, [some (.ref 1), some (.int a0), some (.int a1), none, none], [], (gShG, σ, u)) _ rfl (if_pos hc) ?_
        exact j_Grid_upright_j28 E d u σ hG a0 a1 hP
      · refine hG.1 _ (16, [some (.ref 1), some (.int a0), some (.int a1), none, none], [], (gShG, σ, u)) _ rfl (if_neg hc) ?_
        refine gRunN_ok hG.1 3 _ (21, [some (.ref 1), some (.int a0), some (.int a1), none, none], [.int (σ.1 1 1), .int a1], (gShG, σ, u)) rfl ?_
        rcases g_ite hP with ⟨hc, hP⟩ | ⟨hc, hP⟩
        · refine hG.1 _ (28, [some (.ref 1), some (.int a0), some (.int a1), none, none], [], (gShG, σ, u)) _ rfl (if_pos hc) ?_
          exact j_Grid_upright_j28 E d u σ hG a0 a1 hP
        · refine hG.1 _ (24, [some (.ref 1), some (.int a0), some (.int a1), none, none], [], (gShG, σ, u)) _ rfl (if_neg hc) ?_
          refine gRunN_ok hG.1 2 _ (29, [some (.ref 1), some (.int a0), some (.int a1), none, none], [.int 1], (gShG, σ, u)) rfl ?_
          exact j_Grid_upright_j29 E d u σ hG a0 a1 1 hP⟩
def p_Grid_setPadPair_5 (E : gEv) (l1 : Int32) (l2 : Int32) (l3 : Int32) (l4 : Int32) (l5 : Int32) (σ : gS) : Option ((Int32 × gS) ⊕ (gS)) :=
  if (((2 : Int32) * l1) + (2 : Int32)) ≤ l5 then (some (.inr σ)) else (if gIn ((σ.1 1 4) + l5) (σ.2.1 2) then gLet (gPut σ 2 ((σ.1 1 4) + l5).toNatClampNeg l2) fun s2 => if gIn ((s2.1 1 4) + l5) (s2.2.1 3) then gLet (gPut s2 3 ((s2.1 1 4) + l5).toNatClampNeg l3) fun s3 => if gIn (((s3.1 1 4) + l5) * (4 : Int32)) (s3.2.1 4) then gLet (gPut s3 4 (((s3.1 1 4) + l5) * (4 : Int32)).toNatClampNeg l4) fun s4 => gLet (l5 + 1) fun x5 => some (.inl (x5, s4)) else none else none else none)
set_option maxRecDepth 20000 in
theorem b_Grid_setPadPair_5 (E : gEv) (d u : Nat) {G : gFr → Prop} {vo : Option Value} {sr : gS} (hG : gClo E gDf gP1 gY8 none (gC E gDf gMs (d + 0)) (vo, (gShG, sr, u)) G) (l1 : Int32) (l2 : Int32) (l3 : Int32) (l4 : Int32) (l5 : Int32) (σ : gS) {r : (Int32 × gS) ⊕ (gS)} (hP : p_Grid_setPadPair_5 E l1 l2 l3 l4 l5 σ = some r) (K1 : ∀ (m5 : Int32) (σ1 : gS), r = .inl (m5, σ1) → G (5, [some (.ref 1), some (.int l1), some (.int l2), some (.int l3), some (.int l4), some (.int m5)], [], (gShG, σ1, u))) (K2 : ∀ (σ1 : gS), r = .inr σ1 → G (63, [none, none, none, none, none, none], [], (gShG, σ1, u))) : G (5, [some (.ref 1), some (.int l1), some (.int l2), some (.int l3), some (.int l4), some (.int l5)], [], (gShG, σ, u)) := by
  unfold p_Grid_setPadPair_5 at hP
  refine gRunN_ok hG.1 6 _ (12, [some (.ref 1), some (.int l1), some (.int l2), some (.int l3), some (.int l4), some (.int l5)], [.int (((2 : Int32) * l1) + (2 : Int32)), .int l5], (gShG, σ, u)) rfl ?_
  rcases g_ite hP with ⟨hc, hP⟩ | ⟨hc, hP⟩
  · refine hG.1 _ (63, [some (.ref 1), some (.int l1), some (.int l2), some (.int l3), some (.int l4), some (.int l5)], [], (gShG, σ, u)) _ rfl (if_pos hc) ?_
    refine hG.2.2.2.2.1 _ _ [none, none, none, none, none, none] _ _ trivial ?_
    cases hP
    exact K2 _ rfl
  · refine hG.1 _ (15, [some (.ref 1), some (.int l1), some (.int l2), some (.int l3), some (.int l4), some (.int l5)], [], (gShG, σ, u)) _ rfl (if_neg hc) ?_
    refine gRunN_ok hG.1 7 _ (27, [some (.ref 1), some (.int l1), some (.int l2), some (.int l3), some (.int l4), some (.int l5)], [.int l2, .int ((σ.1 1 4) + l5), .ref 2], (gShG, σ, u)) rfl ?_
    obtain ⟨hc, hP⟩ := g_if hP
    refine hG.1 _ (28, [some (.ref 1), some (.int l1), some (.int l2), some (.int l3), some (.int l4), some (.int l5)], [], (gShG, (gPut σ 2 ((σ.1 1 4) + l5).toNatClampNeg l2), u)) _ rfl (if_pos hc) ?_
    obtain ⟨s2, es2, hP⟩ := g_let hP
    rw [← es2]
    refine gRunN_ok hG.1 7 _ (40, [some (.ref 1), some (.int l1), some (.int l2), some (.int l3), some (.int l4), some (.int l5)], [.int l3, .int ((s2.1 1 4) + l5), .ref 3], (gShG, s2, u)) rfl ?_
    obtain ⟨hc, hP⟩ := g_if hP
    refine hG.1 _ (41, [some (.ref 1), some (.int l1), some (.int l2), some (.int l3), some (.int l4), some (.int l5)], [], (gShG, (gPut s2 3 ((s2.1 1 4) + l5).toNatClampNeg l3), u)) _ rfl (if_pos hc) ?_
    obtain ⟨s3, es3, hP⟩ := g_let hP
    rw [← es3]
    refine gRunN_ok hG.1 9 _ (56, [some (.ref 1), some (.int l1), some (.int l2), some (.int l3), some (.int l4), some (.int l5)], [.int l4, .int (((s3.1 1 4) + l5) * (4 : Int32)), .ref 4], (gShG, s3, u)) rfl ?_
    obtain ⟨hc, hP⟩ := g_if hP
    refine hG.1 _ (57, [some (.ref 1), some (.int l1), some (.int l2), some (.int l3), some (.int l4), some (.int l5)], [], (gShG, (gPut s3 4 (((s3.1 1 4) + l5) * (4 : Int32)).toNatClampNeg l4), u)) _ rfl (if_pos hc) ?_
    obtain ⟨s4, es4, hP⟩ := g_let hP
    rw [← es4]
    refine gRunN_ok hG.1 1 _ (60, [some (.ref 1), some (.int l1), some (.int l2), some (.int l3), some (.int l4), some (.int (l5 + 1))], [], (gShG, s4, u)) rfl ?_
    obtain ⟨x5, ex5, hP⟩ := g_let hP
    rw [← ex5]
    refine gRunN_ok hG.1 1 _ (5, [some (.ref 1), some (.int l1), some (.int l2), some (.int l3), some (.int l4), some (.int x5)], [], (gShG, s4, u)) rfl ?_
    cases hP
    exact K1 _ _ rfl
theorem l_Grid_setPadPair_5 (E : gEv) (d u : Nat) {G : gFr → Prop} {vo : Option Value} {sr : gS} (hG : gClo E gDf gP1 gY8 none (gC E gDf gMs (d + 0)) (vo, (gShG, sr, u)) G) (l1 : Int32) (l2 : Int32) (l3 : Int32) (l4 : Int32) : ∀ (n : Nat) (l5 : Int32) (σ : gS) (e : (gS)), gIter (fun z => p_Grid_setPadPair_5 E l1 l2 l3 l4 z.1 z.2) n (l5, σ) = some e → (∀ (σ1 : gS), e = σ1 → G (63, [none, none, none, none, none, none], [], (gShG, σ1, u))) → G (5, [some (.ref 1), some (.int l1), some (.int l2), some (.int l3), some (.int l4), some (.int l5)], [], (gShG, σ, u)) := by
  intro n
  induction n with
  | zero => intro l5 σ e h; cases h
  | succ n ih =>
    intro l5 σ e h K2
    rcases g_iter h with ⟨z, h1, h2⟩ | h1
    · exact b_Grid_setPadPair_5 E d u hG l1 l2 l3 l4 l5 σ h1 (fun n0 n1 hz => by cases hz; exact ih _ _ e h2 K2) (fun _ hz => by cases hz)
    · exact b_Grid_setPadPair_5 E d u hG l1 l2 l3 l4 l5 σ h1 (fun _ _ hz => by cases hz) (fun σ1 hz => K2 σ1 (by cases hz; rfl))
def p_Grid_setPadPair (E : gEv) (a0 : Int32) (a1 : Int32) (a2 : Int32) (a3 : Int32) (σ : gS) : Option (gS) :=
  gLet ((2 : Int32) * a0) fun x1 => gB1 (gIter (fun z => p_Grid_setPadPair_5 E a0 a1 a2 a3 z.1 z.2) gN (x1, σ)) fun e6 => (fun s7 => some s7) e6
set_option maxRecDepth 20000 in
theorem c_Grid_setPadPair (E : gEv) (d u : Nat) (a0 : Int32) (a1 : Int32) (a2 : Int32) (a3 : Int32) (σ : gS) {sr : gS}  (hq : p_Grid_setPadPair E a0 a1 a2 a3 σ = some sr) : gC E gDf gMs (d + 1) 8 [.ref 1, .int a0, .int a1, .int a2, .int a3] (gShG, σ, u) (none, (gShG, sr, u)) := ⟨gM8, rfl, Nat.le_of_ble_eq_true rfl, fun G hG => by
  have hP := hq
  unfold p_Grid_setPadPair at hP
  replace hG : gClo E gDf gP1 gY8 none (gC E gDf gMs (d + 0)) (none, (gShG, sr, u)) G := hG
  show G (0, [some (.ref 1), some (.int a0), some (.int a1), some (.int a2), some (.int a3), none], [], (gShG, σ, u))
  refine gRunN_ok hG.1 4 _ (5, [some (.ref 1), some (.int a0), some (.int a1), some (.int a2), some (.int a3), some (.int ((2 : Int32) * a0))], [], (gShG, σ, u)) rfl ?_
  obtain ⟨x1, ex1, hP⟩ := g_let hP
  rw [← ex1]
  obtain ⟨e6, hq, hP⟩ := g_b1 hP
  refine l_Grid_setPadPair_5 E d u hG a0 a1 a2 a3 gN x1 σ _ hq (fun s7 he => ?_)
  · replace he := he.symm
    subst he
    try dsimp only [gSum] at hP
    cases hP
    exact hG.2.1 _ _ rfl rfl⟩
def p_Grid_setJoint_j78_20 (E : gEv) (l1 : Int32) (l2 : Int32) (l3 : Int32) (l4 : Int32) (l5 : Int32) (y1 : Int32) (y2 : Int32) (σ : gS) : Option ((Int32 × gS) ⊕ (gS)) :=
  if gIn y1 (σ.2.1 6) then gLet (gPut σ 6 y1.toNatClampNeg y2) fun s2 => gLet (l5 + 1) fun x3 => some (.inl (x3, s2)) else none
set_option maxRecDepth 20000 in
theorem j_Grid_setJoint_j78_20 (E : gEv) (d u : Nat) {G : gFr → Prop} {vo : Option Value} {sr : gS} (hG : gClo E gDf gP1 gY10 none (gC E gDf gMs (d + 0)) (vo, (gShG, sr, u)) G) (l1 : Int32) (l2 : Int32) (l3 : Int32) (l4 : Int32) (l5 : Int32) (y1 : Int32) (y2 : Int32) (σ : gS) {r : (Int32 × gS) ⊕ (gS)} (hP : p_Grid_setJoint_j78_20 E l1 l2 l3 l4 l5 y1 y2 σ = some r) (K1 : ∀ (m5 : Int32) (σ1 : gS), r = .inl (m5, σ1) → G (20, [some (.ref 1), some (.int l1), some (.int l2), some (.int l3), some (.int l4), some (.int m5)], [], (gShG, σ1, u))) (K2 : ∀ (σ1 : gS), r = .inr σ1 → G (85, [none, none, none, none, none, none], [], (gShG, σ1, u))) : G (78, [some (.ref 1), some (.int l1), some (.int l2), some (.int l3), some (.int l4), some (.int l5)], [.int y2, .int y1, .ref 6], (gShG, σ, u)) := by
  unfold p_Grid_setJoint_j78_20 at hP
  obtain ⟨hc, hP⟩ := g_if hP
  refine hG.1 _ (79, [some (.ref 1), some (.int l1), some (.int l2), some (.int l3), some (.int l4), some (.int l5)], [], (gShG, (gPut σ 6 y1.toNatClampNeg y2), u)) _ rfl (if_pos hc) ?_
  obtain ⟨s2, es2, hP⟩ := g_let hP
  rw [← es2]
  refine gRunN_ok hG.1 1 _ (82, [some (.ref 1), some (.int l1), some (.int l2), some (.int l3), some (.int l4), some (.int (l5 + 1))], [], (gShG, s2, u)) rfl ?_
  obtain ⟨x3, ex3, hP⟩ := g_let hP
  rw [← ex3]
  refine gRunN_ok hG.1 1 _ (20, [some (.ref 1), some (.int l1), some (.int l2), some (.int l3), some (.int l4), some (.int x3)], [], (gShG, s2, u)) rfl ?_
  cases hP
  exact K1 _ _ rfl
def p_Grid_setJoint_j53_20 (E : gEv) (l1 : Int32) (l2 : Int32) (l3 : Int32) (l4 : Int32) (l5 : Int32) (y1 : Int32) (y2 : Int32) (σ : gS) : Option ((Int32 × gS) ⊕ (gS)) :=
  if gIn y1 (σ.2.1 5) then gLet (gPut σ 5 y1.toNatClampNeg y2) fun s1 => if l4 = 0 then (p_Grid_setJoint_j78_20 E l1 l2 l3 l4 l5 (l1 + (l5 * (6 : Int32))) (-1) s1) else (p_Grid_setJoint_j78_20 E l1 l2 l3 l4 l5 (l1 + (l5 * (6 : Int32))) (l3 + l5) s1) else none
set_option maxRecDepth 20000 in
theorem j_Grid_setJoint_j53_20 (E : gEv) (d u : Nat) {G : gFr → Prop} {vo : Option Value} {sr : gS} (hG : gClo E gDf gP1 gY10 none (gC E gDf gMs (d + 0)) (vo, (gShG, sr, u)) G) (l1 : Int32) (l2 : Int32) (l3 : Int32) (l4 : Int32) (l5 : Int32) (y1 : Int32) (y2 : Int32) (σ : gS) {r : (Int32 × gS) ⊕ (gS)} (hP : p_Grid_setJoint_j53_20 E l1 l2 l3 l4 l5 y1 y2 σ = some r) (K1 : ∀ (m5 : Int32) (σ1 : gS), r = .inl (m5, σ1) → G (20, [some (.ref 1), some (.int l1), some (.int l2), some (.int l3), some (.int l4), some (.int m5)], [], (gShG, σ1, u))) (K2 : ∀ (σ1 : gS), r = .inr σ1 → G (85, [none, none, none, none, none, none], [], (gShG, σ1, u))) : G (53, [some (.ref 1), some (.int l1), some (.int l2), some (.int l3), some (.int l4), some (.int l5)], [.int y2, .int y1, .ref 5], (gShG, σ, u)) := by
  unfold p_Grid_setJoint_j53_20 at hP
  obtain ⟨hc, hP⟩ := g_if hP
  refine hG.1 _ (54, [some (.ref 1), some (.int l1), some (.int l2), some (.int l3), some (.int l4), some (.int l5)], [], (gShG, (gPut σ 5 y1.toNatClampNeg y2), u)) _ rfl (if_pos hc) ?_
  obtain ⟨s1, es1, hP⟩ := g_let hP
  rw [← es1]
  refine gRunN_ok hG.1 8 _ (67, [some (.ref 1), some (.int l1), some (.int l2), some (.int l3), some (.int l4), some (.int l5)], [.int l4, .int (l1 + (l5 * (6 : Int32))), .ref 6], (gShG, s1, u)) rfl ?_
  rcases g_ite hP with ⟨hc, hP⟩ | ⟨hc, hP⟩
  · refine hG.1 _ (77, [some (.ref 1), some (.int l1), some (.int l2), some (.int l3), some (.int l4), some (.int l5)], [.int (l1 + (l5 * (6 : Int32))), .ref 6], (gShG, s1, u)) _ rfl (if_pos hc) ?_
    refine gRunN_ok hG.1 1 _ (78, [some (.ref 1), some (.int l1), some (.int l2), some (.int l3), some (.int l4), some (.int l5)], [.int (-1), .int (l1 + (l5 * (6 : Int32))), .ref 6], (gShG, s1, u)) rfl ?_
    exact j_Grid_setJoint_j78_20 E d u hG l1 l2 l3 l4 l5 (l1 + (l5 * (6 : Int32))) (-1) s1 hP K1 K2
  · refine hG.1 _ (70, [some (.ref 1), some (.int l1), some (.int l2), some (.int l3), some (.int l4), some (.int l5)], [.int (l1 + (l5 * (6 : Int32))), .ref 6], (gShG, s1, u)) _ rfl (if_neg hc) ?_
    refine gRunN_ok hG.1 4 _ (78, [some (.ref 1), some (.int l1), some (.int l2), some (.int l3), some (.int l4), some (.int l5)], [.int (l3 + l5), .int (l1 + (l5 * (6 : Int32))), .ref 6], (gShG, s1, u)) rfl ?_
    exact j_Grid_setJoint_j78_20 E d u hG l1 l2 l3 l4 l5 (l1 + (l5 * (6 : Int32))) (l3 + l5) s1 hP K1 K2
def p_Grid_setJoint_20 (E : gEv) (l1 : Int32) (l2 : Int32) (l3 : Int32) (l4 : Int32) (l5 : Int32) (σ : gS) : Option ((Int32 × gS) ⊕ (gS)) :=
  if (σ.1 1 3) ≤ l5 then (some (.inr σ)) else (if l4 = 0 then (p_Grid_setJoint_j53_20 E l1 l2 l3 l4 l5 (l1 + (l5 * (6 : Int32))) (-1) σ) else (p_Grid_setJoint_j53_20 E l1 l2 l3 l4 l5 (l1 + (l5 * (6 : Int32))) (l2 + l5) σ))
set_option maxRecDepth 20000 in
theorem b_Grid_setJoint_20 (E : gEv) (d u : Nat) {G : gFr → Prop} {vo : Option Value} {sr : gS} (hG : gClo E gDf gP1 gY10 none (gC E gDf gMs (d + 0)) (vo, (gShG, sr, u)) G) (l1 : Int32) (l2 : Int32) (l3 : Int32) (l4 : Int32) (l5 : Int32) (σ : gS) {r : (Int32 × gS) ⊕ (gS)} (hP : p_Grid_setJoint_20 E l1 l2 l3 l4 l5 σ = some r) (K1 : ∀ (m5 : Int32) (σ1 : gS), r = .inl (m5, σ1) → G (20, [some (.ref 1), some (.int l1), some (.int l2), some (.int l3), some (.int l4), some (.int m5)], [], (gShG, σ1, u))) (K2 : ∀ (σ1 : gS), r = .inr σ1 → G (85, [none, none, none, none, none, none], [], (gShG, σ1, u))) : G (20, [some (.ref 1), some (.int l1), some (.int l2), some (.int l3), some (.int l4), some (.int l5)], [], (gShG, σ, u)) := by
  unfold p_Grid_setJoint_20 at hP
  refine gRunN_ok hG.1 3 _ (26, [some (.ref 1), some (.int l1), some (.int l2), some (.int l3), some (.int l4), some (.int l5)], [.int (σ.1 1 3), .int l5], (gShG, σ, u)) rfl ?_
  rcases g_ite hP with ⟨hc, hP⟩ | ⟨hc, hP⟩
  · refine hG.1 _ (85, [some (.ref 1), some (.int l1), some (.int l2), some (.int l3), some (.int l4), some (.int l5)], [], (gShG, σ, u)) _ rfl (if_pos hc) ?_
    refine hG.2.2.2.2.1 _ _ [none, none, none, none, none, none] _ _ trivial ?_
    cases hP
    exact K2 _ rfl
  · refine hG.1 _ (29, [some (.ref 1), some (.int l1), some (.int l2), some (.int l3), some (.int l4), some (.int l5)], [], (gShG, σ, u)) _ rfl (if_neg hc) ?_
    refine gRunN_ok hG.1 8 _ (42, [some (.ref 1), some (.int l1), some (.int l2), some (.int l3), some (.int l4), some (.int l5)], [.int l4, .int (l1 + (l5 * (6 : Int32))), .ref 5], (gShG, σ, u)) rfl ?_
    rcases g_ite hP with ⟨hc, hP⟩ | ⟨hc, hP⟩
    · refine hG.1 _ (52, [some (.ref 1), some (.int l1), some (.int l2), some (.int l3), some (.int l4), some (.int l5)], [.int (l1 + (l5 * (6 : Int32))), .ref 5], (gShG, σ, u)) _ rfl (if_pos hc) ?_
      refine gRunN_ok hG.1 1 _ (53, [some (.ref 1), some (.int l1), some (.int l2), some (.int l3), some (.int l4), some (.int l5)], [.int (-1), .int (l1 + (l5 * (6 : Int32))), .ref 5], (gShG, σ, u)) rfl ?_
      exact j_Grid_setJoint_j53_20 E d u hG l1 l2 l3 l4 l5 (l1 + (l5 * (6 : Int32))) (-1) σ hP K1 K2
    · refine hG.1 _ (45, [some (.ref 1), some (.int l1), some (.int l2), some (.int l3), some (.int l4), some (.int l5)], [.int (l1 + (l5 * (6 : Int32))), .ref 5], (gShG, σ, u)) _ rfl (if_neg hc) ?_
      refine gRunN_ok hG.1 4 _ (53, [some (.ref 1), some (.int l1), some (.int l2), some (.int l3), some (.int l4), some (.int l5)], [.int (l2 + l5), .int (l1 + (l5 * (6 : Int32))), .ref 5], (gShG, σ, u)) rfl ?_
      exact j_Grid_setJoint_j53_20 E d u hG l1 l2 l3 l4 l5 (l1 + (l5 * (6 : Int32))) (l2 + l5) σ hP K1 K2
theorem l_Grid_setJoint_20 (E : gEv) (d u : Nat) {G : gFr → Prop} {vo : Option Value} {sr : gS} (hG : gClo E gDf gP1 gY10 none (gC E gDf gMs (d + 0)) (vo, (gShG, sr, u)) G) (l1 : Int32) (l2 : Int32) (l3 : Int32) (l4 : Int32) : ∀ (n : Nat) (l5 : Int32) (σ : gS) (e : (gS)), gIter (fun z => p_Grid_setJoint_20 E l1 l2 l3 l4 z.1 z.2) n (l5, σ) = some e → (∀ (σ1 : gS), e = σ1 → G (85, [none, none, none, none, none, none], [], (gShG, σ1, u))) → G (20, [some (.ref 1), some (.int l1), some (.int l2), some (.int l3), some (.int l4), some (.int l5)], [], (gShG, σ, u)) := by
  intro n
  induction n with
  | zero => intro l5 σ e h; cases h
  | succ n ih =>
    intro l5 σ e h K2
    rcases g_iter h with ⟨z, h1, h2⟩ | h1
    · exact b_Grid_setJoint_20 E d u hG l1 l2 l3 l4 l5 σ h1 (fun n0 n1 hz => by cases hz; exact ih _ _ e h2 K2) (fun _ hz => by cases hz)
    · exact b_Grid_setJoint_20 E d u hG l1 l2 l3 l4 l5 σ h1 (fun _ _ hz => by cases hz) (fun σ1 hz => K2 σ1 (by cases hz; rfl))
def p_Grid_setJoint_j15 (E : gEv) (l1 : Int32) (l2 : Int32) (l3 : Int32) (y0 : Int32) (σ : gS) : Option (gS) :=
  gB1 (gIter (fun z => p_Grid_setJoint_20 E l1 l2 l3 y0 z.1 z.2) gN (0, σ)) fun e4 => (fun s5 => some s5) e4
set_option maxRecDepth 20000 in
theorem j_Grid_setJoint_j15 (E : gEv) (d u : Nat) {G : gFr → Prop} {sr : gS} (hG : gClo E gDf gP1 gY10 none (gC E gDf gMs (d + 0)) (none, (gShG, sr, u)) G) (l1 : Int32) (l2 : Int32) (l3 : Int32) (y0 : Int32) (σ : gS) (hP : p_Grid_setJoint_j15 E l1 l2 l3 y0 σ = some sr) : G (15, [some (.ref 1), some (.int l1), some (.int l2), some (.int l3), none, none], [.int y0], (gShG, σ, u)) := by
  unfold p_Grid_setJoint_j15 at hP
  refine gRunN_ok hG.1 3 _ (20, [some (.ref 1), some (.int l1), some (.int l2), some (.int l3), some (.int y0), some (.int 0)], [], (gShG, σ, u)) rfl ?_
  obtain ⟨e4, hq, hP⟩ := g_b1 hP
  refine l_Grid_setJoint_20 E d u hG l1 l2 l3 y0 gN 0 σ _ hq (fun s5 he => ?_)
  · replace he := he.symm
    subst he
    try dsimp only [gSum] at hP
    cases hP
    exact hG.2.1 _ _ rfl rfl
def p_Grid_setJoint_j14 (E : gEv) (l1 : Int32) (l2 : Int32) (l3 : Int32) (σ : gS) : Option (gS) :=
  p_Grid_setJoint_j15 E l1 l2 l3 0 σ
set_option maxRecDepth 20000 in
theorem j_Grid_setJoint_j14 (E : gEv) (d u : Nat) {G : gFr → Prop} {sr : gS} (hG : gClo E gDf gP1 gY10 none (gC E gDf gMs (d + 0)) (none, (gShG, sr, u)) G) (l1 : Int32) (l2 : Int32) (l3 : Int32) (σ : gS) (hP : p_Grid_setJoint_j14 E l1 l2 l3 σ = some sr) : G (14, [some (.ref 1), some (.int l1), some (.int l2), some (.int l3), none, none], [], (gShG, σ, u)) := by
  unfold p_Grid_setJoint_j14 at hP
  refine gRunN_ok hG.1 1 _ (15, [some (.ref 1), some (.int l1), some (.int l2), some (.int l3), none, none], [.int 0], (gShG, σ, u)) rfl ?_
  exact j_Grid_setJoint_j15 E d u hG l1 l2 l3 0 σ hP
def p_Grid_setJoint (E : gEv) (a0 : Int32) (a1 : Int32) (a2 : Int32) (σ : gS) : Option (gS) :=
  if a1 = ((-1) : Int32) then (p_Grid_setJoint_j14 E a0 a1 a2 σ) else (if a2 = ((-1) : Int32) then (p_Grid_setJoint_j14 E a0 a1 a2 σ) else (p_Grid_setJoint_j15 E a0 a1 a2 1 σ))
set_option maxRecDepth 20000 in
theorem c_Grid_setJoint (E : gEv) (d u : Nat) (a0 : Int32) (a1 : Int32) (a2 : Int32) (σ : gS) {sr : gS}  (hq : p_Grid_setJoint E a0 a1 a2 σ = some sr) : gC E gDf gMs (d + 1) 10 [.ref 1, .int a0, .int a1, .int a2] (gShG, σ, u) (none, (gShG, sr, u)) := ⟨gM10, rfl, Nat.le_of_ble_eq_true rfl, fun G hG => by
  have hP := hq
  unfold p_Grid_setJoint at hP
  replace hG : gClo E gDf gP1 gY10 none (gC E gDf gMs (d + 0)) (none, (gShG, sr, u)) G := hG
  show G (0, [some (.ref 1), some (.int a0), some (.int a1), some (.int a2), none, none], [], (gShG, σ, u))
  refine gRunN_ok hG.1 2 _ (2, [some (.ref 1), some (.int a0), some (.int a1), some (.int a2), none, none], [.int (-1), .int a1], (gShG, σ, u)) rfl ?_
  rcases g_ite hP with ⟨hc, hP⟩ | ⟨hc, hP⟩
  · refine hG.1 _ (14, [some (.ref 1), some (.int a0), some (.int a1), some (.int a2), none, none], [], (gShG, σ, u)) _ rfl (if_pos hc) ?_
    exact j_Grid_setJoint_j14 E d u hG a0 a1 a2 σ hP
  · refine hG.1 _ (5, [some (.ref 1), some (.int a0), some (.int a1), some (.int a2), none, none], [], (gShG, σ, u)) _ rfl (if_neg hc) ?_
    refine gRunN_ok hG.1 2 _ (7, [some (.ref 1), some (.int a0), some (.int a1), some (.int a2), none, none], [.int (-1), .int a2], (gShG, σ, u)) rfl ?_
    rcases g_ite hP with ⟨hc, hP⟩ | ⟨hc, hP⟩
    · refine hG.1 _ (14, [some (.ref 1), some (.int a0), some (.int a1), some (.int a2), none, none], [], (gShG, σ, u)) _ rfl (if_pos hc) ?_
      exact j_Grid_setJoint_j14 E d u hG a0 a1 a2 σ hP
    · refine hG.1 _ (10, [some (.ref 1), some (.int a0), some (.int a1), some (.int a2), none, none], [], (gShG, σ, u)) _ rfl (if_neg hc) ?_
      refine gRunN_ok hG.1 2 _ (15, [some (.ref 1), some (.int a0), some (.int a1), some (.int a2), none, none], [.int 1], (gShG, σ, u)) rfl ?_
      exact j_Grid_setJoint_j15 E d u hG a0 a1 a2 1 σ hP⟩
def p_Grid_addNeighbour (E : gEv) (a0 : Int32) (a1 : Int32) (a2 : Int32) (σ : gS) : Option (gS) :=
  if gIn a0 (σ.2.1 7) then gLet ((a0 * (6 : Int32)) + (σ.1 7 a0.toNatClampNeg)) fun x1 => if gIn x1 (σ.2.1 8) then gLet (gPut σ 8 x1.toNatClampNeg a1) fun s2 => if gIn x1 (s2.2.1 9) then gLet (gPut s2 9 x1.toNatClampNeg a2) fun s3 => if gIn a0 (s3.2.1 7) then if gIn a0 (s3.2.1 7) then gLet (gPut s3 7 a0.toNatClampNeg ((s3.1 7 a0.toNatClampNeg) + (1 : Int32))) fun s4 => some s4 else none else none else none else none else none
set_option maxRecDepth 20000 in
theorem c_Grid_addNeighbour (E : gEv) (d u : Nat) (a0 : Int32) (a1 : Int32) (a2 : Int32) (σ : gS) {sr : gS}  (hq : p_Grid_addNeighbour E a0 a1 a2 σ = some sr) : gC E gDf gMs (d + 1) 12 [.ref 1, .int a0, .int a1, .int a2] (gShG, σ, u) (none, (gShG, sr, u)) := ⟨gM12, rfl, Nat.le_of_ble_eq_true rfl, fun G hG => by
  have hP := hq
  unfold p_Grid_addNeighbour at hP
  replace hG : gClo E gDf gP1 gY12 none (gC E gDf gMs (d + 0)) (none, (gShG, sr, u)) G := hG
  show G (0, [some (.ref 1), some (.int a0), some (.int a1), some (.int a2), none], [], (gShG, σ, u))
  refine gRunN_ok hG.1 6 _ (9, [some (.ref 1), some (.int a0), some (.int a1), some (.int a2), none], [.int a0, .ref 7, .int (a0 * (6 : Int32))], (gShG, σ, u)) rfl ?_
  obtain ⟨hc, hP⟩ := g_if hP
  refine hG.1 _ (10, [some (.ref 1), some (.int a0), some (.int a1), some (.int a2), none], [.int (σ.1 7 a0.toNatClampNeg), .int (a0 * (6 : Int32))], (gShG, σ, u)) _ rfl (if_pos hc) ?_
  refine gRunN_ok hG.1 2 _ (13, [some (.ref 1), some (.int a0), some (.int a1), some (.int a2), some (.int ((a0 * (6 : Int32)) + (σ.1 7 a0.toNatClampNeg)))], [], (gShG, σ, u)) rfl ?_
  obtain ⟨x1, ex1, hP⟩ := g_let hP
  rw [← ex1]
  refine gRunN_ok hG.1 4 _ (20, [some (.ref 1), some (.int a0), some (.int a1), some (.int a2), some (.int x1)], [.int a1, .int x1, .ref 8], (gShG, σ, u)) rfl ?_
  obtain ⟨hc, hP⟩ := g_if hP
  refine hG.1 _ (21, [some (.ref 1), some (.int a0), some (.int a1), some (.int a2), some (.int x1)], [], (gShG, (gPut σ 8 x1.toNatClampNeg a1), u)) _ rfl (if_pos hc) ?_
  obtain ⟨s2, es2, hP⟩ := g_let hP
  rw [← es2]
  refine gRunN_ok hG.1 4 _ (28, [some (.ref 1), some (.int a0), some (.int a1), some (.int a2), some (.int x1)], [.int a2, .int x1, .ref 9], (gShG, s2, u)) rfl ?_
  obtain ⟨hc, hP⟩ := g_if hP
  refine hG.1 _ (29, [some (.ref 1), some (.int a0), some (.int a1), some (.int a2), some (.int x1)], [], (gShG, (gPut s2 9 x1.toNatClampNeg a2), u)) _ rfl (if_pos hc) ?_
  obtain ⟨s3, es3, hP⟩ := g_let hP
  rw [← es3]
  refine gRunN_ok hG.1 4 _ (35, [some (.ref 1), some (.int a0), some (.int a1), some (.int a2), some (.int x1)], [.int a0, .ref 7, .int a0, .ref 7], (gShG, s3, u)) rfl ?_
  obtain ⟨hc, hP⟩ := g_if hP
  refine hG.1 _ (36, [some (.ref 1), some (.int a0), some (.int a1), some (.int a2), some (.int x1)], [.int (s3.1 7 a0.toNatClampNeg), .int a0, .ref 7], (gShG, s3, u)) _ rfl (if_pos hc) ?_
  refine gRunN_ok hG.1 2 _ (38, [some (.ref 1), some (.int a0), some (.int a1), some (.int a2), some (.int x1)], [.int ((s3.1 7 a0.toNatClampNeg) + (1 : Int32)), .int a0, .ref 7], (gShG, s3, u)) rfl ?_
  obtain ⟨hc, hP⟩ := g_if hP
  refine hG.1 _ (39, [some (.ref 1), some (.int a0), some (.int a1), some (.int a2), some (.int x1)], [], (gShG, (gPut s3 7 a0.toNatClampNeg ((s3.1 7 a0.toNatClampNeg) + (1 : Int32))), u)) _ rfl (if_pos hc) ?_
  obtain ⟨s4, es4, hP⟩ := g_let hP
  rw [← es4]
  cases hP
  exact hG.2.1 _ _ rfl rfl⟩
def p_Text_putReady_2 (E : gEv) (l1 : Int32) (l2 : Int32) (l3 : Int32) (σ : gS) : Option ((Int32 × gS) ⊕ (gS)) :=
  if (4 : Int32) ≤ l3 then (some (.inr σ)) else (if gIn (l1 + l3) (σ.2.1 12) then gLet (gPut σ 12 (l1 + l3).toNatClampNeg (vp_nar .byte (((l2.toUInt32 >>> (((24 : Int32) - ((8 : Int32) * l3)).toUInt32 &&& Int32.toUInt32 31)).toInt32).toInt8.toInt32))) fun s1 => gLet (l3 + 1) fun x2 => some (.inl (x2, s1)) else none)
set_option maxRecDepth 20000 in
theorem b_Text_putReady_2 (E : gEv) (d u : Nat) {G : gFr → Prop} {vo : Option Value} {sr : gS} (hG : gClo E gDf gP3 gY24 none (gC E gDf gMs (d + 0)) (vo, (gSh, sr, u)) G) (l1 : Int32) (l2 : Int32) (l3 : Int32) (σ : gS) {r : (Int32 × gS) ⊕ (gS)} (hP : p_Text_putReady_2 E l1 l2 l3 σ = some r) (K1 : ∀ (m3 : Int32) (σ1 : gS), r = .inl (m3, σ1) → G (2, [some (.ref 10), some (.int l1), some (.int l2), some (.int m3)], [], (gSh, σ1, u))) (K2 : ∀ (σ1 : gS), r = .inr σ1 → G (31, [none, none, none, none], [], (gSh, σ1, u))) : G (2, [some (.ref 10), some (.int l1), some (.int l2), some (.int l3)], [], (gSh, σ, u)) := by
  unfold p_Text_putReady_2 at hP
  refine gRunN_ok hG.1 2 _ (4, [some (.ref 10), some (.int l1), some (.int l2), some (.int l3)], [.int 4, .int l3], (gSh, σ, u)) rfl ?_
  rcases g_ite hP with ⟨hc, hP⟩ | ⟨hc, hP⟩
  · refine hG.1 _ (31, [some (.ref 10), some (.int l1), some (.int l2), some (.int l3)], [], (gSh, σ, u)) _ rfl (if_pos hc) ?_
    refine hG.2.2.2.2.1 _ _ [none, none, none, none] _ _ trivial ?_
    cases hP
    exact K2 _ rfl
  · refine hG.1 _ (7, [some (.ref 10), some (.int l1), some (.int l2), some (.int l3)], [], (gSh, σ, u)) _ rfl (if_neg hc) ?_
    refine gRunN_ok hG.1 13 _ (24, [some (.ref 10), some (.int l1), some (.int l2), some (.int l3)], [.int (((l2.toUInt32 >>> (((24 : Int32) - ((8 : Int32) * l3)).toUInt32 &&& Int32.toUInt32 31)).toInt32).toInt8.toInt32), .int (l1 + l3), .ref 12], (gSh, σ, u)) rfl ?_
    obtain ⟨hc, hP⟩ := g_if hP
    refine hG.1 _ (25, [some (.ref 10), some (.int l1), some (.int l2), some (.int l3)], [], (gSh, (gPut σ 12 (l1 + l3).toNatClampNeg (vp_nar .byte (((l2.toUInt32 >>> (((24 : Int32) - ((8 : Int32) * l3)).toUInt32 &&& Int32.toUInt32 31)).toInt32).toInt8.toInt32))), u)) _ rfl (if_pos hc) ?_
    obtain ⟨s1, es1, hP⟩ := g_let hP
    rw [← es1]
    refine gRunN_ok hG.1 1 _ (28, [some (.ref 10), some (.int l1), some (.int l2), some (.int (l3 + 1))], [], (gSh, s1, u)) rfl ?_
    obtain ⟨x2, ex2, hP⟩ := g_let hP
    rw [← ex2]
    refine gRunN_ok hG.1 1 _ (2, [some (.ref 10), some (.int l1), some (.int l2), some (.int x2)], [], (gSh, s1, u)) rfl ?_
    cases hP
    exact K1 _ _ rfl
theorem l_Text_putReady_2 (E : gEv) (d u : Nat) {G : gFr → Prop} {vo : Option Value} {sr : gS} (hG : gClo E gDf gP3 gY24 none (gC E gDf gMs (d + 0)) (vo, (gSh, sr, u)) G) (l1 : Int32) (l2 : Int32) : ∀ (n : Nat) (l3 : Int32) (σ : gS) (e : (gS)), gIter (fun z => p_Text_putReady_2 E l1 l2 z.1 z.2) n (l3, σ) = some e → (∀ (σ1 : gS), e = σ1 → G (31, [none, none, none, none], [], (gSh, σ1, u))) → G (2, [some (.ref 10), some (.int l1), some (.int l2), some (.int l3)], [], (gSh, σ, u)) := by
  intro n
  induction n with
  | zero => intro l3 σ e h; cases h
  | succ n ih =>
    intro l3 σ e h K2
    rcases g_iter h with ⟨z, h1, h2⟩ | h1
    · exact b_Text_putReady_2 E d u hG l1 l2 l3 σ h1 (fun n0 n1 hz => by cases hz; exact ih _ _ e h2 K2) (fun _ hz => by cases hz)
    · exact b_Text_putReady_2 E d u hG l1 l2 l3 σ h1 (fun _ _ hz => by cases hz) (fun σ1 hz => K2 σ1 (by cases hz; rfl))
def p_Text_putReady (E : gEv) (a0 : Int32) (a1 : Int32) (σ : gS) : Option (gS) :=
  gB1 (gIter (fun z => p_Text_putReady_2 E a0 a1 z.1 z.2) gN (0, σ)) fun e3 => (fun s4 => some s4) e3
set_option maxRecDepth 20000 in
theorem c_Text_putReady (E : gEv) (d u : Nat) (a0 : Int32) (a1 : Int32) (σ : gS) {sr : gS}  (hq : p_Text_putReady E a0 a1 σ = some sr) : gC E gDf gMs (d + 1) 24 [.ref 10, .int a0, .int a1] (gSh, σ, u) (none, (gSh, sr, u)) := ⟨gM24, rfl, Nat.le_of_ble_eq_true rfl, fun G hG => by
  have hP := hq
  unfold p_Text_putReady at hP
  replace hG : gClo E gDf gP3 gY24 none (gC E gDf gMs (d + 0)) (none, (gSh, sr, u)) G := hG
  show G (0, [some (.ref 10), some (.int a0), some (.int a1), none], [], (gSh, σ, u))
  refine gRunN_ok hG.1 2 _ (2, [some (.ref 10), some (.int a0), some (.int a1), some (.int 0)], [], (gSh, σ, u)) rfl ?_
  obtain ⟨e3, hq, hP⟩ := g_b1 hP
  refine l_Text_putReady_2 E d u hG a0 a1 gN 0 σ _ hq (fun s4 he => ?_)
  · replace he := he.symm
    subst he
    try dsimp only [gSum] at hP
    cases hP
    exact hG.2.1 _ _ rfl rfl⟩
def p_Arrays_fillB_5 (E : gEv) (k0 : Nat) (l1 : Int32) (l3 : Int32) (l2 : Int32) (σ : gS) : Option ((Int32 × gS) ⊕ (gS)) :=
  if l3 ≤ l2 then (some (.inr σ)) else (if gIn l2 (σ.2.1 k0) then gLet (gPut σ k0 l2.toNatClampNeg (vp_nar .byte l1)) fun s2 => gLet (l2 + 1) fun x3 => some (.inl (x3, s2)) else none)
set_option maxRecDepth 20000 in
theorem b_Arrays_fillB_5 (E : gEv) (d u : Nat) {sh : List gD} {G : gFr → Prop} {vo : Option Value} {sr : gS} (hG : gClo E gDf gP2 gY27 none (gC E gDf gMs (d + 0)) (vo, (sh, sr, u)) G) (k0 : Nat) (l1 : Int32) (l3 : Int32) (l2 : Int32) (σ : gS) (hk0 : sh[k0]? = some (.inl (.byte, none))) {r : (Int32 × gS) ⊕ (gS)} (hP : p_Arrays_fillB_5 E k0 l1 l3 l2 σ = some r) (K1 : ∀ (m2 : Int32) (σ1 : gS), r = .inl (m2, σ1) → G (5, [some (.ref k0), some (.int l1), some (.int m2), some (.int l3)], [], (sh, σ1, u))) (K2 : ∀ (σ1 : gS), r = .inr σ1 → G (20, [none, none, none, none], [], (sh, σ1, u))) : G (5, [some (.ref k0), some (.int l1), some (.int l2), some (.int l3)], [], (sh, σ, u)) := by
  unfold p_Arrays_fillB_5 at hP
  refine gRunN_ok hG.1 2 _ (7, [some (.ref k0), some (.int l1), some (.int l2), some (.int l3)], [.int l3, .int l2], (sh, σ, u)) rfl ?_
  rcases g_ite hP with ⟨hc, hP⟩ | ⟨hc, hP⟩
  · refine hG.1 _ (20, [some (.ref k0), some (.int l1), some (.int l2), some (.int l3)], [], (sh, σ, u)) _ rfl (if_pos hc) ?_
    refine hG.2.2.2.2.1 _ _ [none, none, none, none] _ _ trivial ?_
    cases hP
    exact K2 _ rfl
  · refine hG.1 _ (10, [some (.ref k0), some (.int l1), some (.int l2), some (.int l3)], [], (sh, σ, u)) _ rfl (if_neg hc) ?_
    refine gRunN_ok hG.1 3 _ (13, [some (.ref k0), some (.int l1), some (.int l2), some (.int l3)], [.int l1, .int l2, .ref k0], (sh, σ, u)) rfl ?_
    obtain ⟨hc, hP⟩ := g_if hP
    refine hG.1 _ (14, [some (.ref k0), some (.int l1), some (.int l2), some (.int l3)], [], (sh, (gPut σ k0 l2.toNatClampNeg (vp_nar .byte l1)), u)) _ rfl (by simp only [gStep, gAldI, gAldB, gAldL, gAstI, gAstB, gAstL, gAln, hk0]; exact (if_pos hc)) ?_
    obtain ⟨s2, es2, hP⟩ := g_let hP
    rw [← es2]
    refine gRunN_ok hG.1 1 _ (17, [some (.ref k0), some (.int l1), some (.int (l2 + 1)), some (.int l3)], [], (sh, s2, u)) rfl ?_
    obtain ⟨x3, ex3, hP⟩ := g_let hP
    rw [← ex3]
    refine gRunN_ok hG.1 1 _ (5, [some (.ref k0), some (.int l1), some (.int x3), some (.int l3)], [], (sh, s2, u)) rfl ?_
    cases hP
    exact K1 _ _ rfl
theorem l_Arrays_fillB_5 (E : gEv) (d u : Nat) {sh : List gD} {G : gFr → Prop} {vo : Option Value} {sr : gS} (hG : gClo E gDf gP2 gY27 none (gC E gDf gMs (d + 0)) (vo, (sh, sr, u)) G) (k0 : Nat) (l1 : Int32) (l3 : Int32) (hk0 : sh[k0]? = some (.inl (.byte, none))) : ∀ (n : Nat) (l2 : Int32) (σ : gS) (e : (gS)), gIter (fun z => p_Arrays_fillB_5 E k0 l1 l3 z.1 z.2) n (l2, σ) = some e → (∀ (σ1 : gS), e = σ1 → G (20, [none, none, none, none], [], (sh, σ1, u))) → G (5, [some (.ref k0), some (.int l1), some (.int l2), some (.int l3)], [], (sh, σ, u)) := by
  intro n
  induction n with
  | zero => intro l2 σ e h; cases h
  | succ n ih =>
    intro l2 σ e h K2
    rcases g_iter h with ⟨z, h1, h2⟩ | h1
    · exact b_Arrays_fillB_5 E d u hG k0 l1 l3 l2 σ hk0 h1 (fun n0 n1 hz => by cases hz; exact ih _ _ e h2 K2) (fun _ hz => by cases hz)
    · exact b_Arrays_fillB_5 E d u hG k0 l1 l3 l2 σ hk0 h1 (fun _ _ hz => by cases hz) (fun σ1 hz => K2 σ1 (by cases hz; rfl))
def p_Arrays_fillB (E : gEv) (k0 : Nat) (a1 : Int32) (σ : gS) : Option (gS) :=
  gLet (Int32.ofNat (σ.2.1 k0)) fun x1 => gB1 (gIter (fun z => p_Arrays_fillB_5 E k0 a1 x1 z.1 z.2) gN (0, σ)) fun e4 => (fun s5 => some s5) e4
set_option maxRecDepth 20000 in
theorem c_Arrays_fillB (E : gEv) (d u : Nat) (k0 : Nat) (a1 : Int32) (σ : gS) {sh : List gD} {sr : gS}  (hk0 : sh[k0]? = some (.inl (.byte, none))) (hq : p_Arrays_fillB E k0 a1 σ = some sr) : gC E gDf gMs (d + 1) 27 [.ref k0, .int a1] (sh, σ, u) (none, (sh, sr, u)) := ⟨gM27, rfl, Nat.le_of_ble_eq_true rfl, fun G hG => by
  have hP := hq
  unfold p_Arrays_fillB at hP
  replace hG : gClo E gDf gP2 gY27 none (gC E gDf gMs (d + 0)) (none, (sh, sr, u)) G := hG
  show G (0, [some (.ref k0), some (.int a1), none, none], [], (sh, σ, u))
  refine gRunN_ok hG.1 3 _ (3, [some (.ref k0), some (.int a1), some (.int 0), none], [.ref k0], (sh, σ, u)) rfl ?_
  refine hG.1 _ (4, [some (.ref k0), some (.int a1), some (.int 0), none], [.int (Int32.ofNat (σ.2.1 k0))], (sh, σ, u)) _ rfl (by simp only [gStep, gAln, hk0]) ?_
  refine gRunN_ok hG.1 1 _ (5, [some (.ref k0), some (.int a1), some (.int 0), some (.int (Int32.ofNat (σ.2.1 k0)))], [], (sh, σ, u)) rfl ?_
  obtain ⟨x1, ex1, hP⟩ := g_let hP
  rw [← ex1]
  obtain ⟨e4, hq, hP⟩ := g_b1 hP
  refine l_Arrays_fillB_5 E d u hG k0 a1 x1 hk0 gN 0 σ _ hq (fun s5 he => ?_)
  · replace he := he.symm
    subst he
    try dsimp only [gSum] at hP
    cases hP
    exact hG.2.1 _ _ rfl rfl⟩
def p_Text_open (E : gEv) (σ : gS) : Option (gS) :=
  gLet (gPut σ 10 3 (σ.1 10 2)) fun s1 => gLet (gPut s1 10 2 0) fun s2 => gLet (gPut s2 10 4 0) fun s3 => some s3
set_option maxRecDepth 20000 in
theorem c_Text_open (E : gEv) (d u : Nat) (σ : gS) {sr : gS}  (hq : p_Text_open E σ = some sr) : gC E gDf gMs (d + 1) 29 [.ref 10] (gSh, σ, u) (none, (gSh, sr, u)) := ⟨gM29, rfl, Nat.le_of_ble_eq_true rfl, fun G hG => by
  have hP := hq
  unfold p_Text_open at hP
  replace hG : gClo E gDf gP3 gY29 none (gC E gDf gMs (d + 0)) (none, (gSh, sr, u)) G := hG
  show G (0, [some (.ref 10)], [], (gSh, σ, u))
  refine gRunN_ok hG.1 4 _ (8, [some (.ref 10)], [], (gSh, (gPut σ 10 3 (σ.1 10 2)), u)) rfl ?_
  obtain ⟨s1, es1, hP⟩ := g_let hP
  rw [← es1]
  refine gRunN_ok hG.1 3 _ (13, [some (.ref 10)], [], (gSh, (gPut s1 10 2 0), u)) rfl ?_
  obtain ⟨s2, es2, hP⟩ := g_let hP
  rw [← es2]
  refine gRunN_ok hG.1 3 _ (18, [some (.ref 10)], [], (gSh, (gPut s2 10 4 0), u)) rfl ?_
  obtain ⟨s3, es3, hP⟩ := g_let hP
  rw [← es3]
  cases hP
  exact hG.2.1 _ _ rfl rfl⟩
def p_Packing_clear (E : gEv) (σ : gS) : Option (gS) :=
  gLet (gPut σ 53 15 0) fun s1 => gLet (gPut s1 53 16 0) fun s2 => gLet (gPut s2 53 17 0) fun s3 => some s3
set_option maxRecDepth 20000 in
theorem c_Packing_clear (E : gEv) (d u : Nat) (σ : gS) {sr : gS}  (hq : p_Packing_clear E σ = some sr) : gC E gDf gMs (d + 1) 32 [.ref 53] (gSh, σ, u) (none, (gSh, sr, u)) := ⟨gM32, rfl, Nat.le_of_ble_eq_true rfl, fun G hG => by
  have hP := hq
  unfold p_Packing_clear at hP
  replace hG : gClo E gDf gP8 gY32 none (gC E gDf gMs (d + 0)) (none, (gSh, sr, u)) G := hG
  show G (0, [some (.ref 53)], [], (gSh, σ, u))
  refine gRunN_ok hG.1 3 _ (5, [some (.ref 53)], [], (gSh, (gPut σ 53 15 0), u)) rfl ?_
  obtain ⟨s1, es1, hP⟩ := g_let hP
  rw [← es1]
  refine gRunN_ok hG.1 3 _ (10, [some (.ref 53)], [], (gSh, (gPut s1 53 16 0), u)) rfl ?_
  obtain ⟨s2, es2, hP⟩ := g_let hP
  rw [← es2]
  refine gRunN_ok hG.1 3 _ (15, [some (.ref 53)], [], (gSh, (gPut s2 53 17 0), u)) rfl ?_
  obtain ⟨s3, es3, hP⟩ := g_let hP
  rw [← es3]
  cases hP
  exact hG.2.1 _ _ rfl rfl⟩
def p_Router_drop (E : gEv) (σ : gS) : Option (gS) :=
  gLet (gPut σ 70 15 0) fun s1 => some s1
set_option maxRecDepth 20000 in
theorem c_Router_drop (E : gEv) (d u : Nat) (σ : gS) {sr : gS}  (hq : p_Router_drop E σ = some sr) : gC E gDf gMs (d + 1) 34 [.ref 70] (gSh, σ, u) (none, (gSh, sr, u)) := ⟨gM34, rfl, Nat.le_of_ble_eq_true rfl, fun G hG => by
  have hP := hq
  unfold p_Router_drop at hP
  replace hG : gClo E gDf gP10 gY34 none (gC E gDf gMs (d + 0)) (none, (gSh, sr, u)) G := hG
  show G (0, [some (.ref 70)], [], (gSh, σ, u))
  refine gRunN_ok hG.1 3 _ (5, [some (.ref 70)], [], (gSh, (gPut σ 70 15 0), u)) rfl ?_
  obtain ⟨s1, es1, hP⟩ := g_let hP
  rw [← es1]
  cases hP
  exact hG.2.1 _ _ rfl rfl⟩
def p_Text_isBlank (E : gEv) (a0 : Int32) (σ : gS) : Option (Int32) :=
  if a0 = (32 : Int32) then (some 1) else (if a0 = (9 : Int32) then (some 1) else (some 0))
set_option maxRecDepth 20000 in
theorem c_Text_isBlank (E : gEv) (d u : Nat) (a0 : Int32) (σ : gS) {sh : List gD} {v : Int32}  (hq : p_Text_isBlank E a0 σ = some v) : gC E gDf gMs (d + 1) 40 [.int a0] (sh, σ, u) (some (.int v), (sh, σ, u)) := ⟨gM40, rfl, Nat.le_of_ble_eq_true rfl, fun G hG => by
  have hP := hq
  unfold p_Text_isBlank at hP
  replace hG : gClo E gDf gP3 gY40 (some .boolean) (gC E gDf gMs (d + 0)) (some (.int v), (sh, σ, u)) G := hG
  show G (0, [some (.int a0)], [], (sh, σ, u))
  refine gRunN_ok hG.1 2 _ (3, [some (.int a0)], [.int 32, .int a0], (sh, σ, u)) rfl ?_
  rcases g_ite hP with ⟨hc, hP⟩ | ⟨hc, hP⟩
  · refine hG.1 _ (12, [some (.int a0)], [], (sh, σ, u)) _ rfl (if_pos hc) ?_
    refine gRunN_ok hG.1 2 _ (17, [some (.int a0)], [.int 1], (sh, σ, u)) rfl ?_
    cases hP
    exact hG.2.1 _ _ rfl rfl
  · refine hG.1 _ (6, [some (.int a0)], [], (sh, σ, u)) _ rfl (if_neg hc) ?_
    refine gRunN_ok hG.1 2 _ (9, [some (.int a0)], [.int 9, .int a0], (sh, σ, u)) rfl ?_
    rcases g_ite hP with ⟨hc, hP⟩ | ⟨hc, hP⟩
    · refine hG.1 _ (12, [some (.int a0)], [], (sh, σ, u)) _ rfl (if_pos hc) ?_
      refine gRunN_ok hG.1 2 _ (17, [some (.int a0)], [.int 1], (sh, σ, u)) rfl ?_
      cases hP
      exact hG.2.1 _ _ rfl rfl
    · refine hG.1 _ (16, [some (.int a0)], [], (sh, σ, u)) _ rfl (if_neg hc) ?_
      refine gRunN_ok hG.1 1 _ (17, [some (.int a0)], [.int 0], (sh, σ, u)) rfl ?_
      cases hP
      exact hG.2.1 _ _ rfl rfl⟩
def p_Text_skipLine_0 (E : gEv) (σ : gS) : Option ((gS) ⊕ (gS)) :=
  if (σ.1 10 3) ≤ (σ.1 10 4) then (some (.inr σ)) else (if gIn (σ.1 10 4) (σ.2.1 11) then if (σ.1 11 (σ.1 10 4).toNatClampNeg) = (10 : Int32) then (some (.inr σ)) else (gLet (gPut σ 10 4 ((σ.1 10 4) + (1 : Int32))) fun s1 => some (.inl s1)) else none)
set_option maxRecDepth 20000 in
theorem b_Text_skipLine_0 (E : gEv) (d u : Nat) {G : gFr → Prop} {vo : Option Value} {sr : gS} (hG : gClo E gDf gP3 gY41 none (gC E gDf gMs (d + 0)) (vo, (gSh, sr, u)) G) (σ : gS) {r : (gS) ⊕ (gS)} (hP : p_Text_skipLine_0 E σ = some r) (K1 : ∀ (σ1 : gS), r = .inl σ1 → G (0, [some (.ref 10)], [], (gSh, σ1, u))) (K2 : ∀ (σ1 : gS), r = .inr σ1 → G (38, [none], [], (gSh, σ1, u))) : G (0, [some (.ref 10)], [], (gSh, σ, u)) := by
  unfold p_Text_skipLine_0 at hP
  refine gRunN_ok hG.1 4 _ (8, [some (.ref 10)], [.int (σ.1 10 3), .int (σ.1 10 4)], (gSh, σ, u)) rfl ?_
  rcases g_ite hP with ⟨hc, hP⟩ | ⟨hc, hP⟩
  · refine hG.1 _ (38, [some (.ref 10)], [], (gSh, σ, u)) _ rfl (if_pos hc) ?_
    refine hG.2.2.2.2.1 _ _ [none] _ _ trivial ?_
    cases hP
    exact K2 _ rfl
  · refine hG.1 _ (11, [some (.ref 10)], [], (gSh, σ, u)) _ rfl (if_neg hc) ?_
    refine gRunN_ok hG.1 4 _ (19, [some (.ref 10)], [.int (σ.1 10 4), .ref 11], (gSh, σ, u)) rfl ?_
    obtain ⟨hc, hP⟩ := g_if hP
    refine hG.1 _ (20, [some (.ref 10)], [.int (σ.1 11 (σ.1 10 4).toNatClampNeg)], (gSh, σ, u)) _ rfl (if_pos hc) ?_
    refine gRunN_ok hG.1 1 _ (22, [some (.ref 10)], [.int 10, .int (σ.1 11 (σ.1 10 4).toNatClampNeg)], (gSh, σ, u)) rfl ?_
    rcases g_ite hP with ⟨hc, hP⟩ | ⟨hc, hP⟩
    · refine hG.1 _ (38, [some (.ref 10)], [], (gSh, σ, u)) _ rfl (if_pos hc) ?_
      refine hG.2.2.2.2.1 _ _ [none] _ _ trivial ?_
      cases hP
      exact K2 _ rfl
    · refine hG.1 _ (25, [some (.ref 10)], [], (gSh, σ, u)) _ rfl (if_neg hc) ?_
      refine gRunN_ok hG.1 6 _ (35, [some (.ref 10)], [], (gSh, (gPut σ 10 4 ((σ.1 10 4) + (1 : Int32))), u)) rfl ?_
      obtain ⟨s1, es1, hP⟩ := g_let hP
      rw [← es1]
      refine gRunN_ok hG.1 1 _ (0, [some (.ref 10)], [], (gSh, s1, u)) rfl ?_
      cases hP
      exact K1 _ rfl
theorem l_Text_skipLine_0 (E : gEv) (d u : Nat) {G : gFr → Prop} {vo : Option Value} {sr : gS} (hG : gClo E gDf gP3 gY41 none (gC E gDf gMs (d + 0)) (vo, (gSh, sr, u)) G) : ∀ (n : Nat) (σ : gS) (e : (gS)), gIter (fun z => p_Text_skipLine_0 E z) n σ = some e → (∀ (σ1 : gS), e = σ1 → G (38, [none], [], (gSh, σ1, u))) → G (0, [some (.ref 10)], [], (gSh, σ, u)) := by
  intro n
  induction n with
  | zero => intro σ e h; cases h
  | succ n ih =>
    intro σ e h K2
    rcases g_iter h with ⟨z, h1, h2⟩ | h1
    · exact b_Text_skipLine_0 E d u hG σ h1 (fun n0 hz => by cases hz; exact ih _ e h2 K2) (fun _ hz => by cases hz)
    · exact b_Text_skipLine_0 E d u hG σ h1 (fun _ hz => by cases hz) (fun σ1 hz => K2 σ1 (by cases hz; rfl))
def p_Text_skipLine (E : gEv) (σ : gS) : Option (gS) :=
  gB1 (gIter (fun z => p_Text_skipLine_0 E z) gN σ) fun e2 => (fun s3 => some s3) e2
set_option maxRecDepth 20000 in
theorem c_Text_skipLine (E : gEv) (d u : Nat) (σ : gS) {sr : gS}  (hq : p_Text_skipLine E σ = some sr) : gC E gDf gMs (d + 1) 41 [.ref 10] (gSh, σ, u) (none, (gSh, sr, u)) := ⟨gM41, rfl, Nat.le_of_ble_eq_true rfl, fun G hG => by
  have hP := hq
  unfold p_Text_skipLine at hP
  replace hG : gClo E gDf gP3 gY41 none (gC E gDf gMs (d + 0)) (none, (gSh, sr, u)) G := hG
  show G (0, [some (.ref 10)], [], (gSh, σ, u))
  obtain ⟨e2, hq, hP⟩ := g_b1 hP
  refine l_Text_skipLine_0 E d u hG gN σ _ hq (fun s3 he => ?_)
  · replace he := he.symm
    subst he
    try dsimp only [gSum] at hP
    cases hP
    exact hG.2.1 _ _ rfl rfl⟩
def p_Text_hasDot (E : gEv) (σ : gS) : Option (Int32) :=
  if (σ.1 10 6) ≤ (σ.1 10 5) then (some 0) else (if gIn (σ.1 10 5) (σ.2.1 11) then if (σ.1 11 (σ.1 10 5).toNatClampNeg) = (46 : Int32) then (some 1) else (some 0) else none)
set_option maxRecDepth 20000 in
theorem c_Text_hasDot (E : gEv) (d u : Nat) (σ : gS) {v : Int32}  (hq : p_Text_hasDot E σ = some v) : gC E gDf gMs (d + 1) 42 [.ref 10] (gSh, σ, u) (some (.int v), (gSh, σ, u)) := ⟨gM42, rfl, Nat.le_of_ble_eq_true rfl, fun G hG => by
  have hP := hq
  unfold p_Text_hasDot at hP
  replace hG : gClo E gDf gP3 gY42 (some .boolean) (gC E gDf gMs (d + 0)) (some (.int v), (gSh, σ, u)) G := hG
  show G (0, [some (.ref 10)], [], (gSh, σ, u))
  refine gRunN_ok hG.1 4 _ (8, [some (.ref 10)], [.int (σ.1 10 6), .int (σ.1 10 5)], (gSh, σ, u)) rfl ?_
  rcases g_ite hP with ⟨hc, hP⟩ | ⟨hc, hP⟩
  · refine hG.1 _ (29, [some (.ref 10)], [], (gSh, σ, u)) _ rfl (if_pos hc) ?_
    refine gRunN_ok hG.1 1 _ (30, [some (.ref 10)], [.int 0], (gSh, σ, u)) rfl ?_
    cases hP
    exact hG.2.1 _ _ rfl rfl
  · refine hG.1 _ (11, [some (.ref 10)], [], (gSh, σ, u)) _ rfl (if_neg hc) ?_
    refine gRunN_ok hG.1 4 _ (19, [some (.ref 10)], [.int (σ.1 10 5), .ref 11], (gSh, σ, u)) rfl ?_
    obtain ⟨hc, hP⟩ := g_if hP
    refine hG.1 _ (20, [some (.ref 10)], [.int (σ.1 11 (σ.1 10 5).toNatClampNeg)], (gSh, σ, u)) _ rfl (if_pos hc) ?_
    refine gRunN_ok hG.1 1 _ (22, [some (.ref 10)], [.int 46, .int (σ.1 11 (σ.1 10 5).toNatClampNeg)], (gSh, σ, u)) rfl ?_
    rcases g_ite hP with ⟨hc, hP⟩ | ⟨hc, hP⟩
    · refine hG.1 _ (25, [some (.ref 10)], [], (gSh, σ, u)) _ rfl (if_pos hc) ?_
      refine gRunN_ok hG.1 2 _ (30, [some (.ref 10)], [.int 1], (gSh, σ, u)) rfl ?_
      cases hP
      exact hG.2.1 _ _ rfl rfl
    · refine hG.1 _ (29, [some (.ref 10)], [], (gSh, σ, u)) _ rfl (if_neg hc) ?_
      refine gRunN_ok hG.1 1 _ (30, [some (.ref 10)], [.int 0], (gSh, σ, u)) rfl ?_
      cases hP
      exact hG.2.1 _ _ rfl rfl⟩
def p_Text_isSigns_20 (E : gEv) (l2 : Int32) (σ : gS) : Option ((Int32) ⊕ ((Unit) ⊕ (Unit))) :=
  if (σ.1 10 6) ≤ l2 then (some (.inr (.inr ()))) else (if gIn l2 (σ.2.1 11) then if (σ.1 11 l2.toNatClampNeg) = (48 : Int32) then (gLet (l2 + 1) fun x2 => some (.inl x2)) else (if gIn l2 (σ.2.1 11) then if (σ.1 11 l2.toNatClampNeg) = (49 : Int32) then (gLet (l2 + 1) fun x3 => some (.inl x3)) else (if gIn l2 (σ.2.1 11) then if (σ.1 11 l2.toNatClampNeg) = (45 : Int32) then (gLet (l2 + 1) fun x4 => some (.inl x4)) else (some (.inr (.inl ()))) else none) else none) else none)
set_option maxRecDepth 20000 in
theorem b_Text_isSigns_20 (E : gEv) (d u : Nat) {G : gFr → Prop} {vo : Option Value} {sr : gS} (hG : gClo E gDf gP3 gY44 (some .boolean) (gC E gDf gMs (d + 0)) (vo, (gSh, sr, u)) G) (l2 : Int32) (σ : gS) {r : (Int32) ⊕ ((Unit) ⊕ (Unit))} (hP : p_Text_isSigns_20 E l2 σ = some r) (K1 : ∀ (m2 : Int32), r = .inl m2 → G (20, [some (.ref 10), none, some (.int m2)], [], (gSh, σ, u))) (K2 : r = .inr (.inl ()) → G (61, [none, none, none], [], (gSh, σ, u))) (K3 : r = .inr (.inr ()) → G (69, [none, none, none], [], (gSh, σ, u))) : G (20, [some (.ref 10), none, some (.int l2)], [], (gSh, σ, u)) := by
  unfold p_Text_isSigns_20 at hP
  refine gRunN_ok hG.1 3 _ (25, [some (.ref 10), none, some (.int l2)], [.int (σ.1 10 6), .int l2], (gSh, σ, u)) rfl ?_
  rcases g_ite hP with ⟨hc, hP⟩ | ⟨hc, hP⟩
  · refine hG.1 _ (69, [some (.ref 10), none, some (.int l2)], [], (gSh, σ, u)) _ rfl (if_pos hc) ?_
    refine hG.2.2.2.2.1 _ _ [none, none, none] _ _ trivial ?_
    cases hP
    exact K3 rfl
  · refine hG.1 _ (28, [some (.ref 10), none, some (.int l2)], [], (gSh, σ, u)) _ rfl (if_neg hc) ?_
    refine gRunN_ok hG.1 3 _ (33, [some (.ref 10), none, some (.int l2)], [.int l2, .ref 11], (gSh, σ, u)) rfl ?_
    obtain ⟨hc, hP⟩ := g_if hP
    refine hG.1 _ (34, [some (.ref 10), none, some (.int l2)], [.int (σ.1 11 l2.toNatClampNeg)], (gSh, σ, u)) _ rfl (if_pos hc) ?_
    refine gRunN_ok hG.1 1 _ (36, [some (.ref 10), none, some (.int l2)], [.int 48, .int (σ.1 11 l2.toNatClampNeg)], (gSh, σ, u)) rfl ?_
    rcases g_ite hP with ⟨hc, hP⟩ | ⟨hc, hP⟩
    · refine hG.1 _ (63, [some (.ref 10), none, some (.int l2)], [], (gSh, σ, u)) _ rfl (if_pos hc) ?_
      refine gRunN_ok hG.1 1 _ (66, [some (.ref 10), none, some (.int (l2 + 1))], [], (gSh, σ, u)) rfl ?_
      obtain ⟨x2, ex2, hP⟩ := g_let hP
      rw [← ex2]
      refine gRunN_ok hG.1 1 _ (20, [some (.ref 10), none, some (.int x2)], [], (gSh, σ, u)) rfl ?_
      cases hP
      exact K1 _ rfl
    · refine hG.1 _ (39, [some (.ref 10), none, some (.int l2)], [], (gSh, σ, u)) _ rfl (if_neg hc) ?_
      refine gRunN_ok hG.1 3 _ (44, [some (.ref 10), none, some (.int l2)], [.int l2, .ref 11], (gSh, σ, u)) rfl ?_
      obtain ⟨hc, hP⟩ := g_if hP
      refine hG.1 _ (45, [some (.ref 10), none, some (.int l2)], [.int (σ.1 11 l2.toNatClampNeg)], (gSh, σ, u)) _ rfl (if_pos hc) ?_
      refine gRunN_ok hG.1 1 _ (47, [some (.ref 10), none, some (.int l2)], [.int 49, .int (σ.1 11 l2.toNatClampNeg)], (gSh, σ, u)) rfl ?_
      rcases g_ite hP with ⟨hc, hP⟩ | ⟨hc, hP⟩
      · refine hG.1 _ (63, [some (.ref 10), none, some (.int l2)], [], (gSh, σ, u)) _ rfl (if_pos hc) ?_
        refine gRunN_ok hG.1 1 _ (66, [some (.ref 10), none, some (.int (l2 + 1))], [], (gSh, σ, u)) rfl ?_
        obtain ⟨x3, ex3, hP⟩ := g_let hP
        rw [← ex3]
        refine gRunN_ok hG.1 1 _ (20, [some (.ref 10), none, some (.int x3)], [], (gSh, σ, u)) rfl ?_
        cases hP
        exact K1 _ rfl
      · refine hG.1 _ (50, [some (.ref 10), none, some (.int l2)], [], (gSh, σ, u)) _ rfl (if_neg hc) ?_
        refine gRunN_ok hG.1 3 _ (55, [some (.ref 10), none, some (.int l2)], [.int l2, .ref 11], (gSh, σ, u)) rfl ?_
        obtain ⟨hc, hP⟩ := g_if hP
        refine hG.1 _ (56, [some (.ref 10), none, some (.int l2)], [.int (σ.1 11 l2.toNatClampNeg)], (gSh, σ, u)) _ rfl (if_pos hc) ?_
        refine gRunN_ok hG.1 1 _ (58, [some (.ref 10), none, some (.int l2)], [.int 45, .int (σ.1 11 l2.toNatClampNeg)], (gSh, σ, u)) rfl ?_
        rcases g_ite hP with ⟨hc, hP⟩ | ⟨hc, hP⟩
        · refine hG.1 _ (63, [some (.ref 10), none, some (.int l2)], [], (gSh, σ, u)) _ rfl (if_pos hc) ?_
          refine gRunN_ok hG.1 1 _ (66, [some (.ref 10), none, some (.int (l2 + 1))], [], (gSh, σ, u)) rfl ?_
          obtain ⟨x4, ex4, hP⟩ := g_let hP
          rw [← ex4]
          refine gRunN_ok hG.1 1 _ (20, [some (.ref 10), none, some (.int x4)], [], (gSh, σ, u)) rfl ?_
          cases hP
          exact K1 _ rfl
        · refine hG.1 _ (61, [some (.ref 10), none, some (.int l2)], [], (gSh, σ, u)) _ rfl (if_neg hc) ?_
          refine hG.2.2.2.2.1 _ _ [none, none, none] _ _ trivial ?_
          cases hP
          exact K2 rfl
theorem l_Text_isSigns_20 (E : gEv) (d u : Nat) {G : gFr → Prop} {vo : Option Value} {sr : gS} (hG : gClo E gDf gP3 gY44 (some .boolean) (gC E gDf gMs (d + 0)) (vo, (gSh, sr, u)) G) (σ : gS) : ∀ (n : Nat) (l2 : Int32) (e : ((Unit) ⊕ (Unit))), gIter (fun z => p_Text_isSigns_20 E z σ) n l2 = some e → ( e = (.inl ()) → G (61, [none, none, none], [], (gSh, σ, u))) → ( e = (.inr ()) → G (69, [none, none, none], [], (gSh, σ, u))) → G (20, [some (.ref 10), none, some (.int l2)], [], (gSh, σ, u)) := by
  intro n
  induction n with
  | zero => intro l2 e h; cases h
  | succ n ih =>
    intro l2 e h K2 K3
    rcases g_iter h with ⟨z, h1, h2⟩ | h1
    · exact b_Text_isSigns_20 E d u hG l2 σ h1 (fun n0 hz => by cases hz; exact ih _ e h2 K2 K3) (fun  hz => by cases hz) (fun  hz => by cases hz)
    · exact b_Text_isSigns_20 E d u hG l2 σ h1 (fun _ hz => by cases hz) (fun  hz => K2  (by cases hz; rfl)) (fun  hz => K3  (by cases hz; rfl))
def p_Text_isSigns (E : gEv) (a0 : Int32) (σ : gS) : Option (Int32) :=
  if ((σ.1 10 6) - (σ.1 10 5)) = a0 then (gLet (σ.1 10 5) fun x1 => gB1 (gIter (fun z => p_Text_isSigns_20 E z σ) gN x1) fun e5 => gSum e5 (fun e6 => some 0) (fun e7 => some 1)) else (some 0)
set_option maxRecDepth 20000 in
theorem c_Text_isSigns (E : gEv) (d u : Nat) (a0 : Int32) (σ : gS) {v : Int32}  (hq : p_Text_isSigns E a0 σ = some v) : gC E gDf gMs (d + 1) 44 [.ref 10, .int a0] (gSh, σ, u) (some (.int v), (gSh, σ, u)) := ⟨gM44, rfl, Nat.le_of_ble_eq_true rfl, fun G hG => by
  have hP := hq
  unfold p_Text_isSigns at hP
  replace hG : gClo E gDf gP3 gY44 (some .boolean) (gC E gDf gMs (d + 0)) (some (.int v), (gSh, σ, u)) G := hG
  show G (0, [some (.ref 10), some (.int a0), none], [], (gSh, σ, u))
  refine gRunN_ok hG.1 6 _ (10, [some (.ref 10), some (.int a0), none], [.int a0, .int ((σ.1 10 6) - (σ.1 10 5))], (gSh, σ, u)) rfl ?_
  rcases g_ite hP with ⟨hc, hP⟩ | ⟨hc, hP⟩
  · refine hG.1 _ (15, [some (.ref 10), some (.int a0), none], [], (gSh, σ, u)) _ rfl (if_pos hc) ?_
    refine gRunN_ok hG.1 3 _ (20, [some (.ref 10), some (.int a0), some (.int (σ.1 10 5))], [], (gSh, σ, u)) rfl ?_
    obtain ⟨x1, ex1, hP⟩ := g_let hP
    rw [← ex1]
    refine hG.2.2.2.2.1 _ _ [some (.ref 10), none, some (.int x1)] _ _ ⟨rfl, ⟨rfl, trivial⟩⟩ ?_
    obtain ⟨e5, hq, hP⟩ := g_b1 hP
    refine l_Text_isSigns_20 E d u hG σ gN x1 _ hq (fun  he => ?_) (fun  he => ?_)
    · subst he
      try dsimp only [gSum] at hP
      refine gRunN_ok hG.1 1 _ (62, [none, none, none], [.int 0], (gSh, σ, u)) rfl ?_
      cases hP
      exact hG.2.1 _ _ rfl rfl
    · subst he
      try dsimp only [gSum] at hP
      refine gRunN_ok hG.1 1 _ (70, [none, none, none], [.int 1], (gSh, σ, u)) rfl ?_
      cases hP
      exact hG.2.1 _ _ rfl rfl
  · refine hG.1 _ (13, [some (.ref 10), some (.int a0), none], [], (gSh, σ, u)) _ rfl (if_neg hc) ?_
    refine gRunN_ok hG.1 1 _ (14, [some (.ref 10), some (.int a0), none], [.int 0], (gSh, σ, u)) rfl ?_
    cases hP
    exact hG.2.1 _ _ rfl rfl⟩
def p_Reader_refuse (E : gEv) (a0 : Int32) (a1 : Int32) (σ : gS) : Option (gS) :=
  gLet (gPut σ 22 14 a0) fun s1 => gLet (gPut s1 22 15 a1) fun s2 => some s2
set_option maxRecDepth 20000 in
theorem c_Reader_refuse (E : gEv) (d u : Nat) (a0 : Int32) (a1 : Int32) (σ : gS) {sr : gS}  (hq : p_Reader_refuse E a0 a1 σ = some sr) : gC E gDf gMs (d + 1) 45 [.ref 22, .int a0, .int a1] (gSh, σ, u) (none, (gSh, sr, u)) := ⟨gM45, rfl, Nat.le_of_ble_eq_true rfl, fun G hG => by
  have hP := hq
  unfold p_Reader_refuse at hP
  replace hG : gClo E gDf gP5 gY45 none (gC E gDf gMs (d + 0)) (none, (gSh, sr, u)) G := hG
  show G (0, [some (.ref 22), some (.int a0), some (.int a1)], [], (gSh, σ, u))
  refine gRunN_ok hG.1 3 _ (5, [some (.ref 22), some (.int a0), some (.int a1)], [], (gSh, (gPut σ 22 14 a0), u)) rfl ?_
  obtain ⟨s1, es1, hP⟩ := g_let hP
  rw [← es1]
  refine gRunN_ok hG.1 3 _ (10, [some (.ref 22), some (.int a0), some (.int a1)], [], (gSh, (gPut s1 22 15 a1), u)) rfl ?_
  obtain ⟨s2, es2, hP⟩ := g_let hP
  rw [← es2]
  cases hP
  exact hG.2.1 _ _ rfl rfl⟩
def p_Text_maskOf_4 (E : gEv) (l1 : Int32) (l2 : Int32) (l3 : Int32) (σ : gS) : Option ((Int32 × Int32) ⊕ (Int32)) :=
  if (8 : Int32) ≤ l3 then (some (.inr l2)) else (if (σ.1 10 6) ≤ ((σ.1 10 5) + l3) then (some (.inr l2)) else (if gIn ((σ.1 10 5) + l3) (σ.2.1 11) then if (σ.1 11 ((σ.1 10 5) + l3).toNatClampNeg) = l1 then (gLet (l2 ||| ((1 : Int32) <<< (l3 &&& 31))) fun x1 => gLet (l3 + 1) fun x2 => some (.inl (x1, x2))) else (gLet (l3 + 1) fun x3 => some (.inl (l2, x3))) else none))
set_option maxRecDepth 20000 in
theorem b_Text_maskOf_4 (E : gEv) (d u : Nat) {G : gFr → Prop} {vo : Option Value} {sr : gS} (hG : gClo E gDf gP3 gY46 (some .int) (gC E gDf gMs (d + 0)) (vo, (gSh, sr, u)) G) (l1 : Int32) (l2 : Int32) (l3 : Int32) (σ : gS) {r : (Int32 × Int32) ⊕ (Int32)} (hP : p_Text_maskOf_4 E l1 l2 l3 σ = some r) (K1 : ∀ (m2 : Int32) (m3 : Int32), r = .inl (m2, m3) → G (4, [some (.ref 10), some (.int l1), some (.int m2), some (.int m3)], [], (gSh, σ, u))) (K2 : ∀ (m2 : Int32), r = .inr m2 → G (50, [none, none, some (.int m2), none], [], (gSh, σ, u))) : G (4, [some (.ref 10), some (.int l1), some (.int l2), some (.int l3)], [], (gSh, σ, u)) := by
  unfold p_Text_maskOf_4 at hP
  refine gRunN_ok hG.1 2 _ (7, [some (.ref 10), some (.int l1), some (.int l2), some (.int l3)], [.int 8, .int l3], (gSh, σ, u)) rfl ?_
  rcases g_ite hP with ⟨hc, hP⟩ | ⟨hc, hP⟩
  · refine hG.1 _ (50, [some (.ref 10), some (.int l1), some (.int l2), some (.int l3)], [], (gSh, σ, u)) _ rfl (if_pos hc) ?_
    refine hG.2.2.2.2.1 _ _ [none, none, some (.int l2), none] _ _ ⟨rfl, trivial⟩ ?_
    cases hP
    exact K2 _ rfl
  · refine hG.1 _ (10, [some (.ref 10), some (.int l1), some (.int l2), some (.int l3)], [], (gSh, σ, u)) _ rfl (if_neg hc) ?_
    refine gRunN_ok hG.1 6 _ (20, [some (.ref 10), some (.int l1), some (.int l2), some (.int l3)], [.int (σ.1 10 6), .int ((σ.1 10 5) + l3)], (gSh, σ, u)) rfl ?_
    rcases g_ite hP with ⟨hc, hP⟩ | ⟨hc, hP⟩
    · refine hG.1 _ (50, [some (.ref 10), some (.int l1), some (.int l2), some (.int l3)], [], (gSh, σ, u)) _ rfl (if_pos hc) ?_
      refine hG.2.2.2.2.1 _ _ [none, none, some (.int l2), none] _ _ ⟨rfl, trivial⟩ ?_
      cases hP
      exact K2 _ rfl
    · refine hG.1 _ (23, [some (.ref 10), some (.int l1), some (.int l2), some (.int l3)], [], (gSh, σ, u)) _ rfl (if_neg hc) ?_
      refine gRunN_ok hG.1 6 _ (33, [some (.ref 10), some (.int l1), some (.int l2), some (.int l3)], [.int ((σ.1 10 5) + l3), .ref 11], (gSh, σ, u)) rfl ?_
      obtain ⟨hc, hP⟩ := g_if hP
      refine hG.1 _ (34, [some (.ref 10), some (.int l1), some (.int l2), some (.int l3)], [.int (σ.1 11 ((σ.1 10 5) + l3).toNatClampNeg)], (gSh, σ, u)) _ rfl (if_pos hc) ?_
      refine gRunN_ok hG.1 1 _ (35, [some (.ref 10), some (.int l1), some (.int l2), some (.int l3)], [.int l1, .int (σ.1 11 ((σ.1 10 5) + l3).toNatClampNeg)], (gSh, σ, u)) rfl ?_
      rcases g_ite hP with ⟨hc, hP⟩ | ⟨hc, hP⟩
      · refine hG.1 _ (38, [some (.ref 10), some (.int l1), some (.int l2), some (.int l3)], [], (gSh, σ, u)) _ rfl (if_pos hc) ?_
        refine gRunN_ok hG.1 6 _ (44, [some (.ref 10), some (.int l1), some (.int (l2 ||| ((1 : Int32) <<< (l3 &&& 31)))), some (.int l3)], [], (gSh, σ, u)) rfl ?_
        obtain ⟨x1, ex1, hP⟩ := g_let hP
        rw [← ex1]
        refine gRunN_ok hG.1 1 _ (47, [some (.ref 10), some (.int l1), some (.int x1), some (.int (l3 + 1))], [], (gSh, σ, u)) rfl ?_
        obtain ⟨x2, ex2, hP⟩ := g_let hP
        rw [← ex2]
        refine gRunN_ok hG.1 1 _ (4, [some (.ref 10), some (.int l1), some (.int x1), some (.int x2)], [], (gSh, σ, u)) rfl ?_
        cases hP
        exact K1 _ _ rfl
      · refine hG.1 _ (44, [some (.ref 10), some (.int l1), some (.int l2), some (.int l3)], [], (gSh, σ, u)) _ rfl (if_neg hc) ?_
        refine gRunN_ok hG.1 1 _ (47, [some (.ref 10), some (.int l1), some (.int l2), some (.int (l3 + 1))], [], (gSh, σ, u)) rfl ?_
        obtain ⟨x3, ex3, hP⟩ := g_let hP
        rw [← ex3]
        refine gRunN_ok hG.1 1 _ (4, [some (.ref 10), some (.int l1), some (.int l2), some (.int x3)], [], (gSh, σ, u)) rfl ?_
        cases hP
        exact K1 _ _ rfl
theorem l_Text_maskOf_4 (E : gEv) (d u : Nat) {G : gFr → Prop} {vo : Option Value} {sr : gS} (hG : gClo E gDf gP3 gY46 (some .int) (gC E gDf gMs (d + 0)) (vo, (gSh, sr, u)) G) (l1 : Int32) (σ : gS) : ∀ (n : Nat) (l2 : Int32) (l3 : Int32) (e : (Int32)), gIter (fun z => p_Text_maskOf_4 E l1 z.1 z.2 σ) n (l2, l3) = some e → (∀ (m2 : Int32), e = m2 → G (50, [none, none, some (.int m2), none], [], (gSh, σ, u))) → G (4, [some (.ref 10), some (.int l1), some (.int l2), some (.int l3)], [], (gSh, σ, u)) := by
  intro n
  induction n with
  | zero => intro l2 l3 e h; cases h
  | succ n ih =>
    intro l2 l3 e h K2
    rcases g_iter h with ⟨z, h1, h2⟩ | h1
    · exact b_Text_maskOf_4 E d u hG l1 l2 l3 σ h1 (fun n0 n1 hz => by cases hz; exact ih _ _ e h2 K2) (fun _ hz => by cases hz)
    · exact b_Text_maskOf_4 E d u hG l1 l2 l3 σ h1 (fun _ _ hz => by cases hz) (fun m2 hz => K2 m2 (by cases hz; rfl))
def p_Text_maskOf (E : gEv) (a0 : Int32) (σ : gS) : Option (Int32) :=
  gB1 (gIter (fun z => p_Text_maskOf_4 E a0 z.1 z.2 σ) gN (0, 0)) fun e4 => (fun w5 => some w5) e4
set_option maxRecDepth 20000 in
theorem c_Text_maskOf (E : gEv) (d u : Nat) (a0 : Int32) (σ : gS) {v : Int32}  (hq : p_Text_maskOf E a0 σ = some v) : gC E gDf gMs (d + 1) 46 [.ref 10, .int a0] (gSh, σ, u) (some (.int v), (gSh, σ, u)) := ⟨gM46, rfl, Nat.le_of_ble_eq_true rfl, fun G hG => by
  have hP := hq
  unfold p_Text_maskOf at hP
  replace hG : gClo E gDf gP3 gY46 (some .int) (gC E gDf gMs (d + 0)) (some (.int v), (gSh, σ, u)) G := hG
  show G (0, [some (.ref 10), some (.int a0), none, none], [], (gSh, σ, u))
  refine gRunN_ok hG.1 4 _ (4, [some (.ref 10), some (.int a0), some (.int 0), some (.int 0)], [], (gSh, σ, u)) rfl ?_
  obtain ⟨e4, hq, hP⟩ := g_b1 hP
  refine l_Text_maskOf_4 E d u hG a0 σ gN 0 0 _ hq (fun w5 he => ?_)
  · replace he := he.symm
    subst he
    try dsimp only [gSum] at hP
    refine gRunN_ok hG.1 1 _ (51, [none, none, some (.int w5), none], [.int w5], (gSh, σ, u)) rfl ?_
    cases hP
    exact hG.2.1 _ _ rfl rfl⟩
def p_Text_digit (E : gEv) (σ : gS) : Option (Int32) :=
  if ((σ.1 10 6) - (σ.1 10 5)) = (1 : Int32) then (if gIn (σ.1 10 5) (σ.2.1 11) then if (σ.1 11 (σ.1 10 5).toNatClampNeg) = (48 : Int32) then (some 0) else (if gIn (σ.1 10 5) (σ.2.1 11) then if (σ.1 11 (σ.1 10 5).toNatClampNeg) = (49 : Int32) then (some 1) else (some (-1)) else none) else none) else (some (-1))
set_option maxRecDepth 20000 in
theorem c_Text_digit (E : gEv) (d u : Nat) (σ : gS) {v : Int32}  (hq : p_Text_digit E σ = some v) : gC E gDf gMs (d + 1) 47 [.ref 10] (gSh, σ, u) (some (.int v), (gSh, σ, u)) := ⟨gM47, rfl, Nat.le_of_ble_eq_true rfl, fun G hG => by
  have hP := hq
  unfold p_Text_digit at hP
  replace hG : gClo E gDf gP3 gY47 (some .int) (gC E gDf gMs (d + 0)) (some (.int v), (gSh, σ, u)) G := hG
  show G (0, [some (.ref 10)], [], (gSh, σ, u))
  refine gRunN_ok hG.1 6 _ (10, [some (.ref 10)], [.int 1, .int ((σ.1 10 6) - (σ.1 10 5))], (gSh, σ, u)) rfl ?_
  rcases g_ite hP with ⟨hc, hP⟩ | ⟨hc, hP⟩
  · refine hG.1 _ (15, [some (.ref 10)], [], (gSh, σ, u)) _ rfl (if_pos hc) ?_
    refine gRunN_ok hG.1 4 _ (23, [some (.ref 10)], [.int (σ.1 10 5), .ref 11], (gSh, σ, u)) rfl ?_
    obtain ⟨hc, hP⟩ := g_if hP
    refine hG.1 _ (24, [some (.ref 10)], [.int (σ.1 11 (σ.1 10 5).toNatClampNeg)], (gSh, σ, u)) _ rfl (if_pos hc) ?_
    refine gRunN_ok hG.1 1 _ (26, [some (.ref 10)], [.int 48, .int (σ.1 11 (σ.1 10 5).toNatClampNeg)], (gSh, σ, u)) rfl ?_
    rcases g_ite hP with ⟨hc, hP⟩ | ⟨hc, hP⟩
    · refine hG.1 _ (29, [some (.ref 10)], [], (gSh, σ, u)) _ rfl (if_pos hc) ?_
      refine gRunN_ok hG.1 2 _ (52, [some (.ref 10)], [.int 0], (gSh, σ, u)) rfl ?_
      cases hP
      exact hG.2.1 _ _ rfl rfl
    · refine hG.1 _ (33, [some (.ref 10)], [], (gSh, σ, u)) _ rfl (if_neg hc) ?_
      refine gRunN_ok hG.1 4 _ (41, [some (.ref 10)], [.int (σ.1 10 5), .ref 11], (gSh, σ, u)) rfl ?_
      obtain ⟨hc, hP⟩ := g_if hP
      refine hG.1 _ (42, [some (.ref 10)], [.int (σ.1 11 (σ.1 10 5).toNatClampNeg)], (gSh, σ, u)) _ rfl (if_pos hc) ?_
      refine gRunN_ok hG.1 1 _ (44, [some (.ref 10)], [.int 49, .int (σ.1 11 (σ.1 10 5).toNatClampNeg)], (gSh, σ, u)) rfl ?_
      rcases g_ite hP with ⟨hc, hP⟩ | ⟨hc, hP⟩
      · refine hG.1 _ (47, [some (.ref 10)], [], (gSh, σ, u)) _ rfl (if_pos hc) ?_
        refine gRunN_ok hG.1 2 _ (52, [some (.ref 10)], [.int 1], (gSh, σ, u)) rfl ?_
        cases hP
        exact hG.2.1 _ _ rfl rfl
      · refine hG.1 _ (51, [some (.ref 10)], [], (gSh, σ, u)) _ rfl (if_neg hc) ?_
        refine gRunN_ok hG.1 1 _ (52, [some (.ref 10)], [.int (-1)], (gSh, σ, u)) rfl ?_
        cases hP
        exact hG.2.1 _ _ rfl rfl
  · refine hG.1 _ (13, [some (.ref 10)], [], (gSh, σ, u)) _ rfl (if_neg hc) ?_
    refine gRunN_ok hG.1 1 _ (14, [some (.ref 10)], [.int (-1)], (gSh, σ, u)) rfl ?_
    cases hP
    exact hG.2.1 _ _ rfl rfl⟩
def p_Gates_agree_j17 (E : gEv) (l1 : Int32) (l2 : Int32) (σ : gS) : Option (Int32 × gS) :=
  if gIn l1 (σ.2.1 18) then if (σ.1 18 l1.toNatClampNeg) = l2 then (some (1, σ)) else (some (0, σ)) else none
set_option maxRecDepth 20000 in
theorem j_Gates_agree_j17 (E : gEv) (d u : Nat) {G : gFr → Prop} {v : Int32} {sr : gS} (hG : gClo E gDf gP4 gY48 (some .boolean) (gC E gDf gMs (d + 0)) (some (.int v), (gSh, sr, u)) G) (l1 : Int32) (l2 : Int32) (σ : gS) (hP : p_Gates_agree_j17 E l1 l2 σ = some (v, sr)) : G (17, [some (.ref 13), some (.int l1), some (.int l2)], [], (gSh, σ, u)) := by
  unfold p_Gates_agree_j17 at hP
  refine gRunN_ok hG.1 3 _ (22, [some (.ref 13), some (.int l1), some (.int l2)], [.int l1, .ref 18], (gSh, σ, u)) rfl ?_
  obtain ⟨hc, hP⟩ := g_if hP
  refine hG.1 _ (23, [some (.ref 13), some (.int l1), some (.int l2)], [.int (σ.1 18 l1.toNatClampNeg)], (gSh, σ, u)) _ rfl (if_pos hc) ?_
  refine gRunN_ok hG.1 1 _ (24, [some (.ref 13), some (.int l1), some (.int l2)], [.int l2, .int (σ.1 18 l1.toNatClampNeg)], (gSh, σ, u)) rfl ?_
  rcases g_ite hP with ⟨hc, hP⟩ | ⟨hc, hP⟩
  · refine hG.1 _ (27, [some (.ref 13), some (.int l1), some (.int l2)], [], (gSh, σ, u)) _ rfl (if_pos hc) ?_
    refine gRunN_ok hG.1 2 _ (32, [some (.ref 13), some (.int l1), some (.int l2)], [.int 1], (gSh, σ, u)) rfl ?_
    cases hP
    exact hG.2.1 _ _ rfl rfl
  · refine hG.1 _ (31, [some (.ref 13), some (.int l1), some (.int l2)], [], (gSh, σ, u)) _ rfl (if_neg hc) ?_
    refine gRunN_ok hG.1 1 _ (32, [some (.ref 13), some (.int l1), some (.int l2)], [.int 0], (gSh, σ, u)) rfl ?_
    cases hP
    exact hG.2.1 _ _ rfl rfl
def p_Gates_agree (E : gEv) (a0 : Int32) (a1 : Int32) (σ : gS) : Option (Int32 × gS) :=
  if gIn a0 (σ.2.1 18) then if (σ.1 18 a0.toNatClampNeg) = ((-1) : Int32) then (if gIn a0 (σ.2.1 18) then gLet (gPut σ 18 a0.toNatClampNeg a1) fun s1 => p_Gates_agree_j17 E a0 a1 s1 else none) else (p_Gates_agree_j17 E a0 a1 σ) else none
set_option maxRecDepth 20000 in
theorem c_Gates_agree (E : gEv) (d u : Nat) (a0 : Int32) (a1 : Int32) (σ : gS) {v : Int32} {sr : gS}  (hq : p_Gates_agree E a0 a1 σ = some (v, sr)) : gC E gDf gMs (d + 1) 48 [.ref 13, .int a0, .int a1] (gSh, σ, u) (some (.int v), (gSh, sr, u)) := ⟨gM48, rfl, Nat.le_of_ble_eq_true rfl, fun G hG => by
  have hP := hq
  unfold p_Gates_agree at hP
  replace hG : gClo E gDf gP4 gY48 (some .boolean) (gC E gDf gMs (d + 0)) (some (.int v), (gSh, sr, u)) G := hG
  show G (0, [some (.ref 13), some (.int a0), some (.int a1)], [], (gSh, σ, u))
  refine gRunN_ok hG.1 3 _ (5, [some (.ref 13), some (.int a0), some (.int a1)], [.int a0, .ref 18], (gSh, σ, u)) rfl ?_
  obtain ⟨hc, hP⟩ := g_if hP
  refine hG.1 _ (6, [some (.ref 13), some (.int a0), some (.int a1)], [.int (σ.1 18 a0.toNatClampNeg)], (gSh, σ, u)) _ rfl (if_pos hc) ?_
  refine gRunN_ok hG.1 1 _ (7, [some (.ref 13), some (.int a0), some (.int a1)], [.int (-1), .int (σ.1 18 a0.toNatClampNeg)], (gSh, σ, u)) rfl ?_
  rcases g_ite hP with ⟨hc, hP⟩ | ⟨hc, hP⟩
  · refine hG.1 _ (10, [some (.ref 13), some (.int a0), some (.int a1)], [], (gSh, σ, u)) _ rfl (if_pos hc) ?_
    refine gRunN_ok hG.1 4 _ (16, [some (.ref 13), some (.int a0), some (.int a1)], [.int a1, .int a0, .ref 18], (gSh, σ, u)) rfl ?_
    obtain ⟨hc, hP⟩ := g_if hP
    refine hG.1 _ (17, [some (.ref 13), some (.int a0), some (.int a1)], [], (gSh, (gPut σ 18 a0.toNatClampNeg a1), u)) _ rfl (if_pos hc) ?_
    obtain ⟨s1, es1, hP⟩ := g_let hP
    rw [← es1]
    exact j_Gates_agree_j17 E d u hG a0 a1 s1 hP
  · refine hG.1 _ (17, [some (.ref 13), some (.int a0), some (.int a1)], [], (gSh, σ, u)) _ rfl (if_neg hc) ?_
    exact j_Gates_agree_j17 E d u hG a0 a1 σ hP⟩
def p_Gates_addLine_13 (E : gEv) (l1 : Int32) (l2 : Int32) (l3 : Int32) (l4 : Int32) (l5 : Int32) (σ : gS) : Option ((Int32 × gS) ⊕ (gS)) :=
  if l4 ≤ l5 then (some (.inr σ)) else (if (l5 &&& l2) = l3 then (if gIn ((l1 * (8 : Int32)) + ((l5.toUInt32 >>> ((5 : Int32).toUInt32 &&& Int32.toUInt32 31)).toInt32)) (σ.2.1 19) then if gIn ((l1 * (8 : Int32)) + ((l5.toUInt32 >>> ((5 : Int32).toUInt32 &&& Int32.toUInt32 31)).toInt32)) (σ.2.1 19) then gLet (gPut σ 19 ((l1 * (8 : Int32)) + ((l5.toUInt32 >>> ((5 : Int32).toUInt32 &&& Int32.toUInt32 31)).toInt32)).toNatClampNeg ((σ.1 19 ((l1 * (8 : Int32)) + ((l5.toUInt32 >>> ((5 : Int32).toUInt32 &&& Int32.toUInt32 31)).toInt32)).toNatClampNeg) ||| ((1 : Int32) <<< ((l5 &&& (31 : Int32)) &&& 31)))) fun s2 => gLet (l5 + 1) fun x3 => some (.inl (x3, s2)) else none else none) else (gLet (l5 + 1) fun x4 => some (.inl (x4, σ))))
set_option maxRecDepth 20000 in
theorem b_Gates_addLine_13 (E : gEv) (d u : Nat) {G : gFr → Prop} {vo : Option Value} {sr : gS} (hG : gClo E gDf gP4 gY49 none (gC E gDf gMs (d + 0)) (vo, (gSh, sr, u)) G) (l1 : Int32) (l2 : Int32) (l3 : Int32) (l4 : Int32) (l5 : Int32) (σ : gS) {r : (Int32 × gS) ⊕ (gS)} (hP : p_Gates_addLine_13 E l1 l2 l3 l4 l5 σ = some r) (K1 : ∀ (m5 : Int32) (σ1 : gS), r = .inl (m5, σ1) → G (13, [some (.ref 13), some (.int l1), some (.int l2), some (.int l3), some (.int l4), some (.int m5)], [], (gSh, σ1, u))) (K2 : ∀ (σ1 : gS), r = .inr σ1 → G (58, [none, none, none, none, none, none], [], (gSh, σ1, u))) : G (13, [some (.ref 13), some (.int l1), some (.int l2), some (.int l3), some (.int l4), some (.int l5)], [], (gSh, σ, u)) := by
  unfold p_Gates_addLine_13 at hP
  refine gRunN_ok hG.1 2 _ (17, [some (.ref 13), some (.int l1), some (.int l2), some (.int l3), some (.int l4), some (.int l5)], [.int l4, .int l5], (gSh, σ, u)) rfl ?_
  rcases g_ite hP with ⟨hc, hP⟩ | ⟨hc, hP⟩
  · refine hG.1 _ (58, [some (.ref 13), some (.int l1), some (.int l2), some (.int l3), some (.int l4), some (.int l5)], [], (gSh, σ, u)) _ rfl (if_pos hc) ?_
    refine hG.2.2.2.2.1 _ _ [none, none, none, none, none, none] _ _ trivial ?_
    cases hP
    exact K2 _ rfl
  · refine hG.1 _ (20, [some (.ref 13), some (.int l1), some (.int l2), some (.int l3), some (.int l4), some (.int l5)], [], (gSh, σ, u)) _ rfl (if_neg hc) ?_
    refine gRunN_ok hG.1 4 _ (25, [some (.ref 13), some (.int l1), some (.int l2), some (.int l3), some (.int l4), some (.int l5)], [.int l3, .int (l5 &&& l2)], (gSh, σ, u)) rfl ?_
    rcases g_ite hP with ⟨hc, hP⟩ | ⟨hc, hP⟩
    · refine hG.1 _ (28, [some (.ref 13), some (.int l1), some (.int l2), some (.int l3), some (.int l4), some (.int l5)], [], (gSh, σ, u)) _ rfl (if_pos hc) ?_
      refine gRunN_ok hG.1 10 _ (42, [some (.ref 13), some (.int l1), some (.int l2), some (.int l3), some (.int l4), some (.int l5)], [.int ((l1 * (8 : Int32)) + ((l5.toUInt32 >>> ((5 : Int32).toUInt32 &&& Int32.toUInt32 31)).toInt32)), .ref 19, .int ((l1 * (8 : Int32)) + ((l5.toUInt32 >>> ((5 : Int32).toUInt32 &&& Int32.toUInt32 31)).toInt32)), .ref 19], (gSh, σ, u)) rfl ?_
      obtain ⟨hc, hP⟩ := g_if hP
      refine hG.1 _ (43, [some (.ref 13), some (.int l1), some (.int l2), some (.int l3), some (.int l4), some (.int l5)], [.int (σ.1 19 ((l1 * (8 : Int32)) + ((l5.toUInt32 >>> ((5 : Int32).toUInt32 &&& Int32.toUInt32 31)).toInt32)).toNatClampNeg), .int ((l1 * (8 : Int32)) + ((l5.toUInt32 >>> ((5 : Int32).toUInt32 &&& Int32.toUInt32 31)).toInt32)), .ref 19], (gSh, σ, u)) _ rfl (if_pos hc) ?_
      refine gRunN_ok hG.1 6 _ (51, [some (.ref 13), some (.int l1), some (.int l2), some (.int l3), some (.int l4), some (.int l5)], [.int ((σ.1 19 ((l1 * (8 : Int32)) + ((l5.toUInt32 >>> ((5 : Int32).toUInt32 &&& Int32.toUInt32 31)).toInt32)).toNatClampNeg) ||| ((1 : Int32) <<< ((l5 &&& (31 : Int32)) &&& 31))), .int ((l1 * (8 : Int32)) + ((l5.toUInt32 >>> ((5 : Int32).toUInt32 &&& Int32.toUInt32 31)).toInt32)), .ref 19], (gSh, σ, u)) rfl ?_
      obtain ⟨hc, hP⟩ := g_if hP
      refine hG.1 _ (52, [some (.ref 13), some (.int l1), some (.int l2), some (.int l3), some (.int l4), some (.int l5)], [], (gSh, (gPut σ 19 ((l1 * (8 : Int32)) + ((l5.toUInt32 >>> ((5 : Int32).toUInt32 &&& Int32.toUInt32 31)).toInt32)).toNatClampNeg ((σ.1 19 ((l1 * (8 : Int32)) + ((l5.toUInt32 >>> ((5 : Int32).toUInt32 &&& Int32.toUInt32 31)).toInt32)).toNatClampNeg) ||| ((1 : Int32) <<< ((l5 &&& (31 : Int32)) &&& 31)))), u)) _ rfl (if_pos hc) ?_
      obtain ⟨s2, es2, hP⟩ := g_let hP
      rw [← es2]
      refine gRunN_ok hG.1 1 _ (55, [some (.ref 13), some (.int l1), some (.int l2), some (.int l3), some (.int l4), some (.int (l5 + 1))], [], (gSh, s2, u)) rfl ?_
      obtain ⟨x3, ex3, hP⟩ := g_let hP
      rw [← ex3]
      refine gRunN_ok hG.1 1 _ (13, [some (.ref 13), some (.int l1), some (.int l2), some (.int l3), some (.int l4), some (.int x3)], [], (gSh, s2, u)) rfl ?_
      cases hP
      exact K1 _ _ rfl
    · refine hG.1 _ (52, [some (.ref 13), some (.int l1), some (.int l2), some (.int l3), some (.int l4), some (.int l5)], [], (gSh, σ, u)) _ rfl (if_neg hc) ?_
      refine gRunN_ok hG.1 1 _ (55, [some (.ref 13), some (.int l1), some (.int l2), some (.int l3), some (.int l4), some (.int (l5 + 1))], [], (gSh, σ, u)) rfl ?_
      obtain ⟨x4, ex4, hP⟩ := g_let hP
      rw [← ex4]
      refine gRunN_ok hG.1 1 _ (13, [some (.ref 13), some (.int l1), some (.int l2), some (.int l3), some (.int l4), some (.int x4)], [], (gSh, σ, u)) rfl ?_
      cases hP
      exact K1 _ _ rfl
theorem l_Gates_addLine_13 (E : gEv) (d u : Nat) {G : gFr → Prop} {vo : Option Value} {sr : gS} (hG : gClo E gDf gP4 gY49 none (gC E gDf gMs (d + 0)) (vo, (gSh, sr, u)) G) (l1 : Int32) (l2 : Int32) (l3 : Int32) (l4 : Int32) : ∀ (n : Nat) (l5 : Int32) (σ : gS) (e : (gS)), gIter (fun z => p_Gates_addLine_13 E l1 l2 l3 l4 z.1 z.2) n (l5, σ) = some e → (∀ (σ1 : gS), e = σ1 → G (58, [none, none, none, none, none, none], [], (gSh, σ1, u))) → G (13, [some (.ref 13), some (.int l1), some (.int l2), some (.int l3), some (.int l4), some (.int l5)], [], (gSh, σ, u)) := by
  intro n
  induction n with
  | zero => intro l5 σ e h; cases h
  | succ n ih =>
    intro l5 σ e h K2
    rcases g_iter h with ⟨z, h1, h2⟩ | h1
    · exact b_Gates_addLine_13 E d u hG l1 l2 l3 l4 l5 σ h1 (fun n0 n1 hz => by cases hz; exact ih _ _ e h2 K2) (fun _ hz => by cases hz)
    · exact b_Gates_addLine_13 E d u hG l1 l2 l3 l4 l5 σ h1 (fun _ _ hz => by cases hz) (fun σ1 hz => K2 σ1 (by cases hz; rfl))
def p_Gates_addLine (E : gEv) (a0 : Int32) (a1 : Int32) (a2 : Int32) (σ : gS) : Option (gS) :=
  if gIn a0 (σ.2.1 15) then gLet ((1 : Int32) <<< ((σ.1 15 a0.toNatClampNeg) &&& 31)) fun x1 => gB1 (gIter (fun z => p_Gates_addLine_13 E a0 a1 a2 x1 z.1 z.2) gN (0, σ)) fun e5 => (fun s6 => some s6) e5 else none
set_option maxRecDepth 20000 in
theorem c_Gates_addLine (E : gEv) (d u : Nat) (a0 : Int32) (a1 : Int32) (a2 : Int32) (σ : gS) {sr : gS}  (hq : p_Gates_addLine E a0 a1 a2 σ = some sr) : gC E gDf gMs (d + 1) 49 [.ref 13, .int a0, .int a1, .int a2] (gSh, σ, u) (none, (gSh, sr, u)) := ⟨gM49, rfl, Nat.le_of_ble_eq_true rfl, fun G hG => by
  have hP := hq
  unfold p_Gates_addLine at hP
  replace hG : gClo E gDf gP4 gY49 none (gC E gDf gMs (d + 0)) (none, (gSh, sr, u)) G := hG
  show G (0, [some (.ref 13), some (.int a0), some (.int a1), some (.int a2), none, none], [], (gSh, σ, u))
  refine gRunN_ok hG.1 4 _ (6, [some (.ref 13), some (.int a0), some (.int a1), some (.int a2), none, none], [.int a0, .ref 15, .int 1], (gSh, σ, u)) rfl ?_
  obtain ⟨hc, hP⟩ := g_if hP
  refine hG.1 _ (7, [some (.ref 13), some (.int a0), some (.int a1), some (.int a2), none, none], [.int (σ.1 15 a0.toNatClampNeg), .int 1], (gSh, σ, u)) _ rfl (if_pos hc) ?_
  refine gRunN_ok hG.1 2 _ (10, [some (.ref 13), some (.int a0), some (.int a1), some (.int a2), some (.int ((1 : Int32) <<< ((σ.1 15 a0.toNatClampNeg) &&& 31))), none], [], (gSh, σ, u)) rfl ?_
  obtain ⟨x1, ex1, hP⟩ := g_let hP
  rw [← ex1]
  refine gRunN_ok hG.1 2 _ (13, [some (.ref 13), some (.int a0), some (.int a1), some (.int a2), some (.int x1), some (.int 0)], [], (gSh, σ, u)) rfl ?_
  obtain ⟨e5, hq, hP⟩ := g_b1 hP
  refine l_Gates_addLine_13 E d u hG a0 a1 a2 x1 gN 0 σ _ hq (fun s6 he => ?_)
  · replace he := he.symm
    subst he
    try dsimp only [gSum] at hP
    cases hP
    exact hG.2.1 _ _ rfl rfl⟩
def p_String_coder (E : gEv) (i0 : Nat) (σ : gS) : Option (Int32) :=
  some 0
set_option maxRecDepth 20000 in
theorem c_String_coder (E : gEv) (d u : Nat) (i0 : Nat) (σ : gS) {v : Int32}  (hi0 : i0 < 7) (hq : p_String_coder E i0 σ = some v) : gC E gDf gMs (d + 1) 53 [.retAddr i0] (gSh, σ, u) (some (.int v), (gSh, σ, u)) := ⟨gM53, rfl, Nat.le_of_ble_eq_true rfl, fun G hG => by
  have hP := hq
  unfold p_String_coder at hP
  replace hG : gClo E gDf gP13 gY53 (some .byte) (gC E gDf gMs (d + 0)) (some (.int v), (gSh, σ, u)) G := hG
  show G (0, [some (.retAddr i0)], [], (gSh, σ, u))
  refine gRunN_ok hG.1 1 _ (3, [some (.retAddr i0)], [.int 1], (gSh, σ, u)) rfl ?_
  refine hG.1 _ (6, [some (.retAddr i0)], [], (gSh, σ, u)) _ rfl rfl ?_
  refine gRunN_ok hG.1 1 _ (7, [some (.retAddr i0)], [.retAddr i0], (gSh, σ, u)) rfl ?_
  refine hG.1 _ (10, [some (.retAddr i0)], [.int 0], (gSh, σ, u)) _ rfl (gS_gfc hi0 rfl) ?_
  refine gRunN_ok hG.1 1 _ (14, [some (.retAddr i0)], [.int 0], (gSh, σ, u)) rfl ?_
  cases hP
  exact hG.2.1 _ _ rfl rfl⟩
def p_String_isLatin1 (E : gEv) (i0 : Nat) (σ : gS) : Option (Int32) :=
  some 1
set_option maxRecDepth 20000 in
theorem c_String_isLatin1 (E : gEv) (d u : Nat) (i0 : Nat) (σ : gS) {v : Int32}  (hi0 : i0 < 7) (hq : p_String_isLatin1 E i0 σ = some v) : gC E gDf gMs (d + 1) 55 [.retAddr i0] (gSh, σ, u) (some (.int v), (gSh, σ, u)) := ⟨gM55, rfl, Nat.le_of_ble_eq_true rfl, fun G hG => by
  have hP := hq
  unfold p_String_isLatin1 at hP
  replace hG : gClo E gDf gP13 gY55 (some .boolean) (gC E gDf gMs (d + 0)) (some (.int v), (gSh, σ, u)) G := hG
  show G (0, [some (.retAddr i0)], [], (gSh, σ, u))
  refine gRunN_ok hG.1 1 _ (3, [some (.retAddr i0)], [.int 1], (gSh, σ, u)) rfl ?_
  refine hG.1 _ (6, [some (.retAddr i0)], [], (gSh, σ, u)) _ rfl rfl ?_
  refine gRunN_ok hG.1 1 _ (7, [some (.retAddr i0)], [.retAddr i0], (gSh, σ, u)) rfl ?_
  refine hG.1 _ (10, [some (.retAddr i0)], [.int 0], (gSh, σ, u)) _ rfl (gS_gfc hi0 rfl) ?_
  refine hG.1 _ (13, [some (.retAddr i0)], [], (gSh, σ, u)) _ rfl rfl ?_
  refine gRunN_ok hG.1 2 _ (18, [some (.retAddr i0)], [.int 1], (gSh, σ, u)) rfl ?_
  cases hP
  exact hG.2.1 _ _ rfl rfl⟩
def p_Preconditions_checkIndex_j9 (E : gEv) (l0 : Int32) (l1 : Int32) (σ : gS) : Option (Int32) :=
  none
set_option maxRecDepth 20000 in
theorem j_Preconditions_checkIndex_j9 (E : gEv) (d u : Nat) {sh : List gD} {G : gFr → Prop} (σ : gS) {v : Int32} (hG : gClo E gDf gP15 gY58 (some .int) (gC E gDf gMs (d + 0)) (some (.int v), (sh, σ, u)) G) (l0 : Int32) (l1 : Int32) (hP : p_Preconditions_checkIndex_j9 E l0 l1 σ = some v) : G (9, [some (.int l0), some (.int l1), some (.float 0)], [], (sh, σ, u)) := by
  unfold p_Preconditions_checkIndex_j9 at hP
  cases hP
def p_Preconditions_checkIndex (E : gEv) (a0 : Int32) (a1 : Int32) (σ : gS) : Option (Int32) :=
  if a0 < 0 then (p_Preconditions_checkIndex_j9 E a0 a1 σ) else (if a0 < a1 then (some a0) else (p_Preconditions_checkIndex_j9 E a0 a1 σ))
set_option maxRecDepth 20000 in
theorem c_Preconditions_checkIndex (E : gEv) (d u : Nat) (a0 : Int32) (a1 : Int32) (σ : gS) {sh : List gD} {v : Int32}  (hq : p_Preconditions_checkIndex E a0 a1 σ = some v) : gC E gDf gMs (d + 1) 58 [.int a0, .int a1, .float 0] (sh, σ, u) (some (.int v), (sh, σ, u)) := ⟨gM58, rfl, Nat.le_of_ble_eq_true rfl, fun G hG => by
  have hP := hq
  unfold p_Preconditions_checkIndex at hP
  replace hG : gClo E gDf gP15 gY58 (some .int) (gC E gDf gMs (d + 0)) (some (.int v), (sh, σ, u)) G := hG
  show G (0, [some (.int a0), some (.int a1), some (.float 0)], [], (sh, σ, u))
  refine gRunN_ok hG.1 1 _ (1, [some (.int a0), some (.int a1), some (.float 0)], [.int a0], (sh, σ, u)) rfl ?_
  rcases g_ite hP with ⟨hc, hP⟩ | ⟨hc, hP⟩
  · refine hG.1 _ (9, [some (.int a0), some (.int a1), some (.float 0)], [], (sh, σ, u)) _ rfl (if_pos hc) ?_
    exact j_Preconditions_checkIndex_j9 E d u σ hG a0 a1 hP
  · refine hG.1 _ (4, [some (.int a0), some (.int a1), some (.float 0)], [], (sh, σ, u)) _ rfl (if_neg hc) ?_
    refine gRunN_ok hG.1 2 _ (6, [some (.int a0), some (.int a1), some (.float 0)], [.int a1, .int a0], (sh, σ, u)) rfl ?_
    rcases g_ite hP with ⟨hc, hP⟩ | ⟨hc, hP⟩
    · refine hG.1 _ (16, [some (.int a0), some (.int a1), some (.float 0)], [], (sh, σ, u)) _ rfl (if_pos hc) ?_
      refine gRunN_ok hG.1 1 _ (17, [some (.int a0), some (.int a1), some (.float 0)], [.int a0], (sh, σ, u)) rfl ?_
      cases hP
      exact hG.2.1 _ _ rfl rfl
    · refine hG.1 _ (9, [some (.int a0), some (.int a1), some (.float 0)], [], (sh, σ, u)) _ rfl (if_neg hc) ?_
      exact j_Preconditions_checkIndex_j9 E d u σ hG a0 a1 hP⟩
def p_Text_isSame_17 (E : gEv) (l1 : Int32) (l2 : Int32) (l3 : Int32) (σ : gS) : Option ((Int32) ⊕ ((Unit) ⊕ (Unit))) :=
  if l2 ≤ l3 then (some (.inr (.inr ()))) else (if gIn (l1 + l3) (σ.2.1 11) then if gIn ((σ.1 10 5) + l3) (σ.2.1 11) then if (σ.1 11 (l1 + l3).toNatClampNeg) = (σ.1 11 ((σ.1 10 5) + l3).toNatClampNeg) then (gLet (l3 + 1) fun x1 => some (.inl x1)) else (some (.inr (.inl ()))) else none else none)
set_option maxRecDepth 20000 in
theorem b_Text_isSame_17 (E : gEv) (d u : Nat) {G : gFr → Prop} {vo : Option Value} {sr : gS} (hG : gClo E gDf gP3 gY61 (some .boolean) (gC E gDf gMs (d + 0)) (vo, (gSh, sr, u)) G) (l1 : Int32) (l2 : Int32) (l3 : Int32) (σ : gS) {r : (Int32) ⊕ ((Unit) ⊕ (Unit))} (hP : p_Text_isSame_17 E l1 l2 l3 σ = some r) (K1 : ∀ (m3 : Int32), r = .inl m3 → G (17, [some (.ref 10), some (.int l1), some (.int l2), some (.int m3)], [], (gSh, σ, u))) (K2 : r = .inr (.inl ()) → G (44, [none, none, none, none], [], (gSh, σ, u))) (K3 : r = .inr (.inr ()) → G (52, [none, none, none, none], [], (gSh, σ, u))) : G (17, [some (.ref 10), some (.int l1), some (.int l2), some (.int l3)], [], (gSh, σ, u)) := by
  unfold p_Text_isSame_17 at hP
  refine gRunN_ok hG.1 2 _ (19, [some (.ref 10), some (.int l1), some (.int l2), some (.int l3)], [.int l2, .int l3], (gSh, σ, u)) rfl ?_
  rcases g_ite hP with ⟨hc, hP⟩ | ⟨hc, hP⟩
  · refine hG.1 _ (52, [some (.ref 10), some (.int l1), some (.int l2), some (.int l3)], [], (gSh, σ, u)) _ rfl (if_pos hc) ?_
    refine hG.2.2.2.2.1 _ _ [none, none, none, none] _ _ trivial ?_
    cases hP
    exact K3 rfl
  · refine hG.1 _ (22, [some (.ref 10), some (.int l1), some (.int l2), some (.int l3)], [], (gSh, σ, u)) _ rfl (if_neg hc) ?_
    refine gRunN_ok hG.1 5 _ (29, [some (.ref 10), some (.int l1), some (.int l2), some (.int l3)], [.int (l1 + l3), .ref 11], (gSh, σ, u)) rfl ?_
    obtain ⟨hc, hP⟩ := g_if hP
    refine hG.1 _ (30, [some (.ref 10), some (.int l1), some (.int l2), some (.int l3)], [.int (σ.1 11 (l1 + l3).toNatClampNeg)], (gSh, σ, u)) _ rfl (if_pos hc) ?_
    refine gRunN_ok hG.1 6 _ (40, [some (.ref 10), some (.int l1), some (.int l2), some (.int l3)], [.int ((σ.1 10 5) + l3), .ref 11, .int (σ.1 11 (l1 + l3).toNatClampNeg)], (gSh, σ, u)) rfl ?_
    obtain ⟨hc, hP⟩ := g_if hP
    refine hG.1 _ (41, [some (.ref 10), some (.int l1), some (.int l2), some (.int l3)], [.int (σ.1 11 ((σ.1 10 5) + l3).toNatClampNeg), .int (σ.1 11 (l1 + l3).toNatClampNeg)], (gSh, σ, u)) _ rfl (if_pos hc) ?_
    rcases g_ite hP with ⟨hc, hP⟩ | ⟨hc, hP⟩
    · refine hG.1 _ (46, [some (.ref 10), some (.int l1), some (.int l2), some (.int l3)], [], (gSh, σ, u)) _ rfl (if_pos hc) ?_
      refine gRunN_ok hG.1 1 _ (49, [some (.ref 10), some (.int l1), some (.int l2), some (.int (l3 + 1))], [], (gSh, σ, u)) rfl ?_
      obtain ⟨x1, ex1, hP⟩ := g_let hP
      rw [← ex1]
      refine gRunN_ok hG.1 1 _ (17, [some (.ref 10), some (.int l1), some (.int l2), some (.int x1)], [], (gSh, σ, u)) rfl ?_
      cases hP
      exact K1 _ rfl
    · refine hG.1 _ (44, [some (.ref 10), some (.int l1), some (.int l2), some (.int l3)], [], (gSh, σ, u)) _ rfl (if_neg hc) ?_
      refine hG.2.2.2.2.1 _ _ [none, none, none, none] _ _ trivial ?_
      cases hP
      exact K2 rfl
theorem l_Text_isSame_17 (E : gEv) (d u : Nat) {G : gFr → Prop} {vo : Option Value} {sr : gS} (hG : gClo E gDf gP3 gY61 (some .boolean) (gC E gDf gMs (d + 0)) (vo, (gSh, sr, u)) G) (l1 : Int32) (l2 : Int32) (σ : gS) : ∀ (n : Nat) (l3 : Int32) (e : ((Unit) ⊕ (Unit))), gIter (fun z => p_Text_isSame_17 E l1 l2 z σ) n l3 = some e → ( e = (.inl ()) → G (44, [none, none, none, none], [], (gSh, σ, u))) → ( e = (.inr ()) → G (52, [none, none, none, none], [], (gSh, σ, u))) → G (17, [some (.ref 10), some (.int l1), some (.int l2), some (.int l3)], [], (gSh, σ, u)) := by
  intro n
  induction n with
  | zero => intro l3 e h; cases h
  | succ n ih =>
    intro l3 e h K2 K3
    rcases g_iter h with ⟨z, h1, h2⟩ | h1
    · exact b_Text_isSame_17 E d u hG l1 l2 l3 σ h1 (fun n0 hz => by cases hz; exact ih _ e h2 K2 K3) (fun  hz => by cases hz) (fun  hz => by cases hz)
    · exact b_Text_isSame_17 E d u hG l1 l2 l3 σ h1 (fun _ hz => by cases hz) (fun  hz => K2  (by cases hz; rfl)) (fun  hz => K3  (by cases hz; rfl))
def p_Text_isSame (E : gEv) (a0 : Int32) (a1 : Int32) (σ : gS) : Option (Int32) :=
  if a1 = ((σ.1 10 6) - (σ.1 10 5)) then (gB1 (gIter (fun z => p_Text_isSame_17 E a0 a1 z σ) gN 0) fun e2 => gSum e2 (fun e3 => some 0) (fun e4 => some 1)) else (some 0)
set_option maxRecDepth 20000 in
theorem c_Text_isSame (E : gEv) (d u : Nat) (a0 : Int32) (a1 : Int32) (σ : gS) {v : Int32}  (hq : p_Text_isSame E a0 a1 σ = some v) : gC E gDf gMs (d + 1) 61 [.ref 10, .int a0, .int a1] (gSh, σ, u) (some (.int v), (gSh, σ, u)) := ⟨gM61, rfl, Nat.le_of_ble_eq_true rfl, fun G hG => by
  have hP := hq
  unfold p_Text_isSame at hP
  replace hG : gClo E gDf gP3 gY61 (some .boolean) (gC E gDf gMs (d + 0)) (some (.int v), (gSh, σ, u)) G := hG
  show G (0, [some (.ref 10), some (.int a0), some (.int a1), none], [], (gSh, σ, u))
  refine gRunN_ok hG.1 6 _ (10, [some (.ref 10), some (.int a0), some (.int a1), none], [.int ((σ.1 10 6) - (σ.1 10 5)), .int a1], (gSh, σ, u)) rfl ?_
  rcases g_ite hP with ⟨hc, hP⟩ | ⟨hc, hP⟩
  · refine hG.1 _ (15, [some (.ref 10), some (.int a0), some (.int a1), none], [], (gSh, σ, u)) _ rfl (if_pos hc) ?_
    refine gRunN_ok hG.1 2 _ (17, [some (.ref 10), some (.int a0), some (.int a1), some (.int 0)], [], (gSh, σ, u)) rfl ?_
    obtain ⟨e2, hq, hP⟩ := g_b1 hP
    refine l_Text_isSame_17 E d u hG a0 a1 σ gN 0 _ hq (fun  he => ?_) (fun  he => ?_)
    · subst he
      try dsimp only [gSum] at hP
      refine gRunN_ok hG.1 1 _ (45, [none, none, none, none], [.int 0], (gSh, σ, u)) rfl ?_
      cases hP
      exact hG.2.1 _ _ rfl rfl
    · subst he
      try dsimp only [gSum] at hP
      refine gRunN_ok hG.1 1 _ (53, [none, none, none, none], [.int 1], (gSh, σ, u)) rfl ?_
      cases hP
      exact hG.2.1 _ _ rfl rfl
  · refine hG.1 _ (13, [some (.ref 10), some (.int a0), some (.int a1), none], [], (gSh, σ, u)) _ rfl (if_neg hc) ?_
    refine gRunN_ok hG.1 1 _ (14, [some (.ref 10), some (.int a0), some (.int a1), none], [.int 0], (gSh, σ, u)) rfl ?_
    cases hP
    exact hG.2.1 _ _ rfl rfl⟩
def p_Gates_add (E : gEv) (a0 : Int32) (k1 : Nat) (a2 : Int32) (σ : gS) : Option (Int32 × gS) :=
  gLet (σ.1 13 8) fun x1 => if gIn x1 (σ.2.1 14) then gLet (gPut σ 14 x1.toNatClampNeg a0) fun s2 => if gIn x1 (s2.2.1 15) then gLet (gPut s2 15 x1.toNatClampNeg a2) fun s3 => if ¬ (0 : Int32) < 0 ∧ ¬ (x1 * (8 : Int32)) < 0 ∧ ¬ a2 < 0 ∧ (0 : Int32).toNatClampNeg + a2.toNatClampNeg ≤ s3.2.1 k1 ∧ (x1 * (8 : Int32)).toNatClampNeg + a2.toNatClampNeg ≤ s3.2.1 16 then gLet (gRow s3 16 (va_cpy (s3.1 k1) (s3.1 16) (0 : Int32).toNatClampNeg (x1 * (8 : Int32)).toNatClampNeg a2.toNatClampNeg)) fun s4 => if gIn a2 (s4.2.1 k1) then if gIn x1 (s4.2.1 17) then gLet (gPut s4 17 x1.toNatClampNeg (s4.1 k1 a2.toNatClampNeg)) fun s5 => gLet (gPut s5 13 8 ((s5.1 13 8) + (1 : Int32))) fun s6 => some (x1, s6) else none else none else none else none else none
set_option maxRecDepth 20000 in
theorem c_Gates_add (E : gEv) (d u : Nat) (a0 : Int32) (k1 : Nat) (a2 : Int32) (σ : gS) {v : Int32} {sr : gS}  (hk1 : gSh[k1]? = some (.inl (.int, none))) (hq : p_Gates_add E a0 k1 a2 σ = some (v, sr)) : gC E gDf gMs (d + 1) 66 [.ref 13, .int a0, .ref k1, .int a2] (gSh, σ, u) (some (.int v), (gSh, sr, u)) := ⟨gM66, rfl, Nat.le_of_ble_eq_true rfl, fun G hG => by
  have hP := hq
  unfold p_Gates_add at hP
  replace hG : gClo E gDf gP4 gY66 (some .int) (gC E gDf gMs (d + 0)) (some (.int v), (gSh, sr, u)) G := hG
  show G (0, [some (.ref 13), some (.int a0), some (.ref k1), some (.int a2), none], [], (gSh, σ, u))
  refine gRunN_ok hG.1 3 _ (6, [some (.ref 13), some (.int a0), some (.ref k1), some (.int a2), some (.int (σ.1 13 8))], [], (gSh, σ, u)) rfl ?_
  obtain ⟨x1, ex1, hP⟩ := g_let hP
  rw [← ex1]
  refine gRunN_ok hG.1 4 _ (13, [some (.ref 13), some (.int a0), some (.ref k1), some (.int a2), some (.int x1)], [.int a0, .int x1, .ref 14], (gSh, σ, u)) rfl ?_
  obtain ⟨hc, hP⟩ := g_if hP
  refine hG.1 _ (14, [some (.ref 13), some (.int a0), some (.ref k1), some (.int a2), some (.int x1)], [], (gSh, (gPut σ 14 x1.toNatClampNeg a0), u)) _ rfl (if_pos hc) ?_
  obtain ⟨s2, es2, hP⟩ := g_let hP
  rw [← es2]
  refine gRunN_ok hG.1 4 _ (21, [some (.ref 13), some (.int a0), some (.ref k1), some (.int a2), some (.int x1)], [.int a2, .int x1, .ref 15], (gSh, s2, u)) rfl ?_
  obtain ⟨hc, hP⟩ := g_if hP
  refine hG.1 _ (22, [some (.ref 13), some (.int a0), some (.ref k1), some (.int a2), some (.int x1)], [], (gSh, (gPut s2 15 x1.toNatClampNeg a2), u)) _ rfl (if_pos hc) ?_
  obtain ⟨s3, es3, hP⟩ := g_let hP
  rw [← es3]
  refine gRunN_ok hG.1 8 _ (34, [some (.ref 13), some (.int a0), some (.ref k1), some (.int a2), some (.int x1)], [.int a2, .int (x1 * (8 : Int32)), .ref 16, .int 0, .ref k1], (gSh, s3, u)) rfl ?_
  obtain ⟨hc, hP⟩ := g_if hP
  refine hG.1 _ (37, [some (.ref 13), some (.int a0), some (.ref k1), some (.int a2), some (.int x1)], [], (gSh, (gRow s3 16 (va_cpy (s3.1 k1) (s3.1 16) (0 : Int32).toNatClampNeg (x1 * (8 : Int32)).toNatClampNeg a2.toNatClampNeg)), u)) _ rfl (gCopy_I rfl hk1 rfl rfl hc) ?_
  obtain ⟨s4, es4, hP⟩ := g_let hP
  rw [← es4]
  refine gRunN_ok hG.1 5 _ (45, [some (.ref 13), some (.int a0), some (.ref k1), some (.int a2), some (.int x1)], [.int a2, .ref k1, .int x1, .ref 17], (gSh, s4, u)) rfl ?_
  obtain ⟨hc, hP⟩ := g_if hP
  refine hG.1 _ (46, [some (.ref 13), some (.int a0), some (.ref k1), some (.int a2), some (.int x1)], [.int (s4.1 k1 a2.toNatClampNeg), .int x1, .ref 17], (gSh, s4, u)) _ rfl (by simp only [gStep, gAldI, gAldB, gAldL, gAstI, gAstB, gAstL, gAln, hk1]; exact (if_pos hc)) ?_
  obtain ⟨hc, hP⟩ := g_if hP
  refine hG.1 _ (47, [some (.ref 13), some (.int a0), some (.ref k1), some (.int a2), some (.int x1)], [], (gSh, (gPut s4 17 x1.toNatClampNeg (s4.1 k1 a2.toNatClampNeg)), u)) _ rfl (if_pos hc) ?_
  obtain ⟨s5, es5, hP⟩ := g_let hP
  rw [← es5]
  refine gRunN_ok hG.1 6 _ (57, [some (.ref 13), some (.int a0), some (.ref k1), some (.int a2), some (.int x1)], [], (gSh, (gPut s5 13 8 ((s5.1 13 8) + (1 : Int32))), u)) rfl ?_
  obtain ⟨s6, es6, hP⟩ := g_let hP
  rw [← es6]
  refine gRunN_ok hG.1 1 _ (59, [some (.ref 13), some (.int a0), some (.ref k1), some (.int a2), some (.int x1)], [.int x1], (gSh, s6, u)) rfl ?_
  cases hP
  exact hG.2.1 _ _ rfl rfl⟩
def p_Gates_isReady_2 (E : gEv) (k1 : Nat) (l1 : Int32) (l3 : Int32) (σ : gS) : Option ((Int32) ⊕ ((Unit) ⊕ (Unit))) :=
  if gIn l1 (σ.2.1 15) then if (σ.1 15 l1.toNatClampNeg) ≤ l3 then (some (.inr (.inr ()))) else (if gIn ((l1 * (8 : Int32)) + l3) (σ.2.1 16) then if gIn (σ.1 16 ((l1 * (8 : Int32)) + l3).toNatClampNeg) (σ.2.1 k1) then gLet (σ.1 k1 (σ.1 16 ((l1 * (8 : Int32)) + l3).toNatClampNeg).toNatClampNeg) fun x1 => if x1 < (1000 : Int32) then (gLet (l3 + 1) fun x2 => some (.inl x2)) else (if gIn (x1 - (1000 : Int32)) (σ.2.1 20) then if (σ.1 20 (x1 - (1000 : Int32)).toNatClampNeg) = ((-1) : Int32) then (some (.inr (.inl ()))) else (gLet (l3 + 1) fun x3 => some (.inl x3)) else none) else none else none) else none
set_option maxRecDepth 20000 in
theorem b_Gates_isReady_2 (E : gEv) (d u : Nat) {G : gFr → Prop} {vo : Option Value} {sr : gS} (hG : gClo E gDf gP4 gY72 (some .boolean) (gC E gDf gMs (d + 0)) (vo, (gSh, sr, u)) G) (k1 : Nat) (l1 : Int32) (l3 : Int32) (σ : gS) (hk1 : gSh[k1]? = some (.inl (.int, none))) {r : (Int32) ⊕ ((Unit) ⊕ (Unit))} (hP : p_Gates_isReady_2 E k1 l1 l3 σ = some r) (K1 : ∀ (m3 : Int32), r = .inl m3 → G (2, [some (.ref 13), some (.int l1), some (.ref k1), some (.int m3), none], [], (gSh, σ, u))) (K2 : r = .inr (.inl ()) → G (50, [none, none, none, none, none], [], (gSh, σ, u))) (K3 : r = .inr (.inr ()) → G (58, [none, none, none, none, none], [], (gSh, σ, u))) : G (2, [some (.ref 13), some (.int l1), some (.ref k1), some (.int l3), none], [], (gSh, σ, u)) := by
  unfold p_Gates_isReady_2 at hP
  refine gRunN_ok hG.1 4 _ (8, [some (.ref 13), some (.int l1), some (.ref k1), some (.int l3), none], [.int l1, .ref 15, .int l3], (gSh, σ, u)) rfl ?_
  obtain ⟨hc, hP⟩ := g_if hP
  refine hG.1 _ (9, [some (.ref 13), some (.int l1), some (.ref k1), some (.int l3), none], [.int (σ.1 15 l1.toNatClampNeg), .int l3], (gSh, σ, u)) _ rfl (if_pos hc) ?_
  rcases g_ite hP with ⟨hc, hP⟩ | ⟨hc, hP⟩
  · refine hG.1 _ (58, [some (.ref 13), some (.int l1), some (.ref k1), some (.int l3), none], [], (gSh, σ, u)) _ rfl (if_pos hc) ?_
    refine hG.2.2.2.2.1 _ _ [none, none, none, none, none] _ _ trivial ?_
    cases hP
    exact K3 rfl
  · refine hG.1 _ (12, [some (.ref 13), some (.int l1), some (.ref k1), some (.int l3), none], [], (gSh, σ, u)) _ rfl (if_neg hc) ?_
    refine gRunN_ok hG.1 8 _ (23, [some (.ref 13), some (.int l1), some (.ref k1), some (.int l3), none], [.int ((l1 * (8 : Int32)) + l3), .ref 16, .ref k1], (gSh, σ, u)) rfl ?_
    obtain ⟨hc, hP⟩ := g_if hP
    refine hG.1 _ (24, [some (.ref 13), some (.int l1), some (.ref k1), some (.int l3), none], [.int (σ.1 16 ((l1 * (8 : Int32)) + l3).toNatClampNeg), .ref k1], (gSh, σ, u)) _ rfl (if_pos hc) ?_
    obtain ⟨hc, hP⟩ := g_if hP
    refine hG.1 _ (25, [some (.ref 13), some (.int l1), some (.ref k1), some (.int l3), none], [.int (σ.1 k1 (σ.1 16 ((l1 * (8 : Int32)) + l3).toNatClampNeg).toNatClampNeg)], (gSh, σ, u)) _ rfl (by simp only [gStep, gAldI, gAldB, gAldL, gAstI, gAstB, gAstL, gAln, hk1]; exact (if_pos hc)) ?_
    refine gRunN_ok hG.1 1 _ (27, [some (.ref 13), some (.int l1), some (.ref k1), some (.int l3), some (.int (σ.1 k1 (σ.1 16 ((l1 * (8 : Int32)) + l3).toNatClampNeg).toNatClampNeg))], [], (gSh, σ, u)) rfl ?_
    obtain ⟨x1, ex1, hP⟩ := g_let hP
    rw [← ex1]
    refine gRunN_ok hG.1 2 _ (32, [some (.ref 13), some (.int l1), some (.ref k1), some (.int l3), some (.int x1)], [.int 1000, .int x1], (gSh, σ, u)) rfl ?_
    rcases g_ite hP with ⟨hc, hP⟩ | ⟨hc, hP⟩
    · refine hG.1 _ (52, [some (.ref 13), some (.int l1), some (.ref k1), some (.int l3), some (.int x1)], [], (gSh, σ, u)) _ rfl (if_pos hc) ?_
      refine gRunN_ok hG.1 1 _ (55, [some (.ref 13), some (.int l1), some (.ref k1), some (.int (l3 + 1)), some (.int x1)], [], (gSh, σ, u)) rfl ?_
      obtain ⟨x2, ex2, hP⟩ := g_let hP
      rw [← ex2]
      refine gRunN_ok hG.1 1 _ (2, [some (.ref 13), some (.int l1), some (.ref k1), some (.int x2), some (.int x1)], [], (gSh, σ, u)) rfl ?_
      refine hG.2.2.2.2.1 _ _ [some (.ref 13), some (.int l1), some (.ref k1), some (.int x2), none] _ _ ⟨rfl, ⟨rfl, ⟨rfl, ⟨rfl, trivial⟩⟩⟩⟩ ?_
      cases hP
      exact K1 _ rfl
    · refine hG.1 _ (35, [some (.ref 13), some (.int l1), some (.ref k1), some (.int l3), some (.int x1)], [], (gSh, σ, u)) _ rfl (if_neg hc) ?_
      refine gRunN_ok hG.1 5 _ (45, [some (.ref 13), some (.int l1), some (.ref k1), some (.int l3), some (.int x1)], [.int (x1 - (1000 : Int32)), .ref 20], (gSh, σ, u)) rfl ?_
      obtain ⟨hc, hP⟩ := g_if hP
      refine hG.1 _ (46, [some (.ref 13), some (.int l1), some (.ref k1), some (.int l3), some (.int x1)], [.int (σ.1 20 (x1 - (1000 : Int32)).toNatClampNeg)], (gSh, σ, u)) _ rfl (if_pos hc) ?_
      refine gRunN_ok hG.1 1 _ (47, [some (.ref 13), some (.int l1), some (.ref k1), some (.int l3), some (.int x1)], [.int (-1), .int (σ.1 20 (x1 - (1000 : Int32)).toNatClampNeg)], (gSh, σ, u)) rfl ?_
      rcases g_ite hP with ⟨hc, hP⟩ | ⟨hc, hP⟩
      · refine hG.1 _ (50, [some (.ref 13), some (.int l1), some (.ref k1), some (.int l3), some (.int x1)], [], (gSh, σ, u)) _ rfl (if_pos hc) ?_
        refine hG.2.2.2.2.1 _ _ [none, none, none, none, none] _ _ trivial ?_
        cases hP
        exact K2 rfl
      · refine hG.1 _ (52, [some (.ref 13), some (.int l1), some (.ref k1), some (.int l3), some (.int x1)], [], (gSh, σ, u)) _ rfl (if_neg hc) ?_
        refine gRunN_ok hG.1 1 _ (55, [some (.ref 13), some (.int l1), some (.ref k1), some (.int (l3 + 1)), some (.int x1)], [], (gSh, σ, u)) rfl ?_
        obtain ⟨x3, ex3, hP⟩ := g_let hP
        rw [← ex3]
        refine gRunN_ok hG.1 1 _ (2, [some (.ref 13), some (.int l1), some (.ref k1), some (.int x3), some (.int x1)], [], (gSh, σ, u)) rfl ?_
        refine hG.2.2.2.2.1 _ _ [some (.ref 13), some (.int l1), some (.ref k1), some (.int x3), none] _ _ ⟨rfl, ⟨rfl, ⟨rfl, ⟨rfl, trivial⟩⟩⟩⟩ ?_
        cases hP
        exact K1 _ rfl
theorem l_Gates_isReady_2 (E : gEv) (d u : Nat) {G : gFr → Prop} {vo : Option Value} {sr : gS} (hG : gClo E gDf gP4 gY72 (some .boolean) (gC E gDf gMs (d + 0)) (vo, (gSh, sr, u)) G) (k1 : Nat) (l1 : Int32) (σ : gS) (hk1 : gSh[k1]? = some (.inl (.int, none))) : ∀ (n : Nat) (l3 : Int32) (e : ((Unit) ⊕ (Unit))), gIter (fun z => p_Gates_isReady_2 E k1 l1 z σ) n l3 = some e → ( e = (.inl ()) → G (50, [none, none, none, none, none], [], (gSh, σ, u))) → ( e = (.inr ()) → G (58, [none, none, none, none, none], [], (gSh, σ, u))) → G (2, [some (.ref 13), some (.int l1), some (.ref k1), some (.int l3), none], [], (gSh, σ, u)) := by
  intro n
  induction n with
  | zero => intro l3 e h; cases h
  | succ n ih =>
    intro l3 e h K2 K3
    rcases g_iter h with ⟨z, h1, h2⟩ | h1
    · exact b_Gates_isReady_2 E d u hG k1 l1 l3 σ hk1 h1 (fun n0 hz => by cases hz; exact ih _ e h2 K2 K3) (fun  hz => by cases hz) (fun  hz => by cases hz)
    · exact b_Gates_isReady_2 E d u hG k1 l1 l3 σ hk1 h1 (fun _ hz => by cases hz) (fun  hz => K2  (by cases hz; rfl)) (fun  hz => K3  (by cases hz; rfl))
def p_Gates_isReady (E : gEv) (a0 : Int32) (k1 : Nat) (σ : gS) : Option (Int32) :=
  gB1 (gIter (fun z => p_Gates_isReady_2 E k1 a0 z σ) gN 0) fun e4 => gSum e4 (fun e5 => some 0) (fun e6 => some 1)
set_option maxRecDepth 20000 in
theorem c_Gates_isReady (E : gEv) (d u : Nat) (a0 : Int32) (k1 : Nat) (σ : gS) {v : Int32}  (hk1 : gSh[k1]? = some (.inl (.int, none))) (hq : p_Gates_isReady E a0 k1 σ = some v) : gC E gDf gMs (d + 1) 72 [.ref 13, .int a0, .ref k1] (gSh, σ, u) (some (.int v), (gSh, σ, u)) := ⟨gM72, rfl, Nat.le_of_ble_eq_true rfl, fun G hG => by
  have hP := hq
  unfold p_Gates_isReady at hP
  replace hG : gClo E gDf gP4 gY72 (some .boolean) (gC E gDf gMs (d + 0)) (some (.int v), (gSh, σ, u)) G := hG
  show G (0, [some (.ref 13), some (.int a0), some (.ref k1), none, none], [], (gSh, σ, u))
  refine gRunN_ok hG.1 2 _ (2, [some (.ref 13), some (.int a0), some (.ref k1), some (.int 0), none], [], (gSh, σ, u)) rfl ?_
  obtain ⟨e4, hq, hP⟩ := g_b1 hP
  refine l_Gates_isReady_2 E d u hG k1 a0 σ hk1 gN 0 _ hq (fun  he => ?_) (fun  he => ?_)
  · subst he
    try dsimp only [gSum] at hP
    refine gRunN_ok hG.1 1 _ (51, [none, none, none, none, none], [.int 0], (gSh, σ, u)) rfl ?_
    cases hP
    exact hG.2.1 _ _ rfl rfl
  · subst he
    try dsimp only [gSum] at hP
    refine gRunN_ok hG.1 1 _ (59, [none, none, none, none, none], [.int 1], (gSh, σ, u)) rfl ?_
    cases hP
    exact hG.2.1 _ _ rfl rfl⟩
def p_Gates_firstWithoutNumber_2 (E : gEv) (l1 : Int32) (σ : gS) : Option ((Int32) ⊕ ((Int32) ⊕ (Unit))) :=
  if (σ.1 13 8) ≤ l1 then (some (.inr (.inr ()))) else (if gIn l1 (σ.2.1 20) then if (σ.1 20 l1.toNatClampNeg) = ((-1) : Int32) then (some (.inr (.inl l1))) else (gLet (l1 + 1) fun x1 => some (.inl x1)) else none)
set_option maxRecDepth 20000 in
theorem b_Gates_firstWithoutNumber_2 (E : gEv) (d u : Nat) {G : gFr → Prop} {vo : Option Value} {sr : gS} (hG : gClo E gDf gP4 gY73 (some .int) (gC E gDf gMs (d + 0)) (vo, (gSh, sr, u)) G) (l1 : Int32) (σ : gS) {r : (Int32) ⊕ ((Int32) ⊕ (Unit))} (hP : p_Gates_firstWithoutNumber_2 E l1 σ = some r) (K1 : ∀ (m1 : Int32), r = .inl m1 → G (2, [some (.ref 13), some (.int m1)], [], (gSh, σ, u))) (K2 : ∀ (m1 : Int32), r = .inr (.inl m1) → G (20, [none, some (.int m1)], [], (gSh, σ, u))) (K3 : r = .inr (.inr ()) → G (28, [none, none], [], (gSh, σ, u))) : G (2, [some (.ref 13), some (.int l1)], [], (gSh, σ, u)) := by
  unfold p_Gates_firstWithoutNumber_2 at hP
  refine gRunN_ok hG.1 3 _ (7, [some (.ref 13), some (.int l1)], [.int (σ.1 13 8), .int l1], (gSh, σ, u)) rfl ?_
  rcases g_ite hP with ⟨hc, hP⟩ | ⟨hc, hP⟩
  · refine hG.1 _ (28, [some (.ref 13), some (.int l1)], [], (gSh, σ, u)) _ rfl (if_pos hc) ?_
    refine hG.2.2.2.2.1 _ _ [none, none] _ _ trivial ?_
    cases hP
    exact K3 rfl
  · refine hG.1 _ (10, [some (.ref 13), some (.int l1)], [], (gSh, σ, u)) _ rfl (if_neg hc) ?_
    refine gRunN_ok hG.1 3 _ (15, [some (.ref 13), some (.int l1)], [.int l1, .ref 20], (gSh, σ, u)) rfl ?_
    obtain ⟨hc, hP⟩ := g_if hP
    refine hG.1 _ (16, [some (.ref 13), some (.int l1)], [.int (σ.1 20 l1.toNatClampNeg)], (gSh, σ, u)) _ rfl (if_pos hc) ?_
    refine gRunN_ok hG.1 1 _ (17, [some (.ref 13), some (.int l1)], [.int (-1), .int (σ.1 20 l1.toNatClampNeg)], (gSh, σ, u)) rfl ?_
    rcases g_ite hP with ⟨hc, hP⟩ | ⟨hc, hP⟩
    · refine hG.1 _ (20, [some (.ref 13), some (.int l1)], [], (gSh, σ, u)) _ rfl (if_pos hc) ?_
      refine hG.2.2.2.2.1 _ _ [none, some (.int l1)] _ _ ⟨rfl, trivial⟩ ?_
      cases hP
      exact K2 _ rfl
    · refine hG.1 _ (22, [some (.ref 13), some (.int l1)], [], (gSh, σ, u)) _ rfl (if_neg hc) ?_
      refine gRunN_ok hG.1 1 _ (25, [some (.ref 13), some (.int (l1 + 1))], [], (gSh, σ, u)) rfl ?_
      obtain ⟨x1, ex1, hP⟩ := g_let hP
      rw [← ex1]
      refine gRunN_ok hG.1 1 _ (2, [some (.ref 13), some (.int x1)], [], (gSh, σ, u)) rfl ?_
      cases hP
      exact K1 _ rfl
theorem l_Gates_firstWithoutNumber_2 (E : gEv) (d u : Nat) {G : gFr → Prop} {vo : Option Value} {sr : gS} (hG : gClo E gDf gP4 gY73 (some .int) (gC E gDf gMs (d + 0)) (vo, (gSh, sr, u)) G) (σ : gS) : ∀ (n : Nat) (l1 : Int32) (e : ((Int32) ⊕ (Unit))), gIter (fun z => p_Gates_firstWithoutNumber_2 E z σ) n l1 = some e → (∀ (m1 : Int32), e = (.inl m1) → G (20, [none, some (.int m1)], [], (gSh, σ, u))) → ( e = (.inr ()) → G (28, [none, none], [], (gSh, σ, u))) → G (2, [some (.ref 13), some (.int l1)], [], (gSh, σ, u)) := by
  intro n
  induction n with
  | zero => intro l1 e h; cases h
  | succ n ih =>
    intro l1 e h K2 K3
    rcases g_iter h with ⟨z, h1, h2⟩ | h1
    · exact b_Gates_firstWithoutNumber_2 E d u hG l1 σ h1 (fun n0 hz => by cases hz; exact ih _ e h2 K2 K3) (fun _ hz => by cases hz) (fun  hz => by cases hz)
    · exact b_Gates_firstWithoutNumber_2 E d u hG l1 σ h1 (fun _ hz => by cases hz) (fun m1 hz => K2 m1 (by cases hz; rfl)) (fun  hz => K3  (by cases hz; rfl))
def p_Gates_firstWithoutNumber (E : gEv) (σ : gS) : Option (Int32) :=
  gB1 (gIter (fun z => p_Gates_firstWithoutNumber_2 E z σ) gN 0) fun e2 => gSum e2 (fun e4 => (fun w3 => some w3) e4) (fun e5 => some (-1))
set_option maxRecDepth 20000 in
theorem c_Gates_firstWithoutNumber (E : gEv) (d u : Nat) (σ : gS) {v : Int32}  (hq : p_Gates_firstWithoutNumber E σ = some v) : gC E gDf gMs (d + 1) 73 [.ref 13] (gSh, σ, u) (some (.int v), (gSh, σ, u)) := ⟨gM73, rfl, Nat.le_of_ble_eq_true rfl, fun G hG => by
  have hP := hq
  unfold p_Gates_firstWithoutNumber at hP
  replace hG : gClo E gDf gP4 gY73 (some .int) (gC E gDf gMs (d + 0)) (some (.int v), (gSh, σ, u)) G := hG
  show G (0, [some (.ref 13), none], [], (gSh, σ, u))
  refine gRunN_ok hG.1 2 _ (2, [some (.ref 13), some (.int 0)], [], (gSh, σ, u)) rfl ?_
  obtain ⟨e2, hq, hP⟩ := g_b1 hP
  refine l_Gates_firstWithoutNumber_2 E d u hG σ gN 0 _ hq (fun w3 he => ?_) (fun  he => ?_)
  · subst he
    try dsimp only [gSum] at hP
    refine gRunN_ok hG.1 1 _ (21, [none, some (.int w3)], [.int w3], (gSh, σ, u)) rfl ?_
    cases hP
    exact hG.2.1 _ _ rfl rfl
  · subst he
    try dsimp only [gSum] at hP
    refine gRunN_ok hG.1 1 _ (29, [none, none], [.int (-1)], (gSh, σ, u)) rfl ?_
    cases hP
    exact hG.2.1 _ _ rfl rfl⟩
def p_Gates_valueAt (E : gEv) (a0 : Int32) (a1 : Int32) (σ : gS) : Option (Int32) :=
  if gIn ((a0 * (8 : Int32)) + ((a1.toUInt32 >>> ((5 : Int32).toUInt32 &&& Int32.toUInt32 31)).toInt32)) (σ.2.1 19) then gLet ((((σ.1 19 ((a0 * (8 : Int32)) + ((a1.toUInt32 >>> ((5 : Int32).toUInt32 &&& Int32.toUInt32 31)).toInt32)).toNatClampNeg).toUInt32 >>> ((a1 &&& (31 : Int32)).toUInt32 &&& Int32.toUInt32 31)).toInt32) &&& (1 : Int32)) fun x1 => if gIn a0 (σ.2.1 18) then if (σ.1 18 a0.toNatClampNeg) = 0 then (some ((1 : Int32) - x1)) else (some x1) else none else none
set_option maxRecDepth 20000 in
theorem c_Gates_valueAt (E : gEv) (d u : Nat) (a0 : Int32) (a1 : Int32) (σ : gS) {v : Int32}  (hq : p_Gates_valueAt E a0 a1 σ = some v) : gC E gDf gMs (d + 1) 76 [.ref 13, .int a0, .int a1] (gSh, σ, u) (some (.int v), (gSh, σ, u)) := ⟨gM76, rfl, Nat.le_of_ble_eq_true rfl, fun G hG => by
  have hP := hq
  unfold p_Gates_valueAt at hP
  replace hG : gClo E gDf gP4 gY76 (some .int) (gC E gDf gMs (d + 0)) (some (.int v), (gSh, σ, u)) G := hG
  show G (0, [some (.ref 13), some (.int a0), some (.int a1), none], [], (gSh, σ, u))
  refine gRunN_ok hG.1 9 _ (12, [some (.ref 13), some (.int a0), some (.int a1), none], [.int ((a0 * (8 : Int32)) + ((a1.toUInt32 >>> ((5 : Int32).toUInt32 &&& Int32.toUInt32 31)).toInt32)), .ref 19], (gSh, σ, u)) rfl ?_
  obtain ⟨hc, hP⟩ := g_if hP
  refine hG.1 _ (13, [some (.ref 13), some (.int a0), some (.int a1), none], [.int (σ.1 19 ((a0 * (8 : Int32)) + ((a1.toUInt32 >>> ((5 : Int32).toUInt32 &&& Int32.toUInt32 31)).toInt32)).toNatClampNeg)], (gSh, σ, u)) _ rfl (if_pos hc) ?_
  refine gRunN_ok hG.1 7 _ (21, [some (.ref 13), some (.int a0), some (.int a1), some (.int ((((σ.1 19 ((a0 * (8 : Int32)) + ((a1.toUInt32 >>> ((5 : Int32).toUInt32 &&& Int32.toUInt32 31)).toInt32)).toNatClampNeg).toUInt32 >>> ((a1 &&& (31 : Int32)).toUInt32 &&& Int32.toUInt32 31)).toInt32) &&& (1 : Int32)))], [], (gSh, σ, u)) rfl ?_
  obtain ⟨x1, ex1, hP⟩ := g_let hP
  rw [← ex1]
  refine gRunN_ok hG.1 3 _ (26, [some (.ref 13), some (.int a0), some (.int a1), some (.int x1)], [.int a0, .ref 18], (gSh, σ, u)) rfl ?_
  obtain ⟨hc, hP⟩ := g_if hP
  refine hG.1 _ (27, [some (.ref 13), some (.int a0), some (.int a1), some (.int x1)], [.int (σ.1 18 a0.toNatClampNeg)], (gSh, σ, u)) _ rfl (if_pos hc) ?_
  rcases g_ite hP with ⟨hc, hP⟩ | ⟨hc, hP⟩
  · refine hG.1 _ (30, [some (.ref 13), some (.int a0), some (.int a1), some (.int x1)], [], (gSh, σ, u)) _ rfl (if_pos hc) ?_
    refine gRunN_ok hG.1 4 _ (37, [some (.ref 13), some (.int a0), some (.int a1), some (.int x1)], [.int ((1 : Int32) - x1)], (gSh, σ, u)) rfl ?_
    cases hP
    exact hG.2.1 _ _ rfl rfl
  · refine hG.1 _ (36, [some (.ref 13), some (.int a0), some (.int a1), some (.int x1)], [], (gSh, σ, u)) _ rfl (if_neg hc) ?_
    refine gRunN_ok hG.1 1 _ (37, [some (.ref 13), some (.int a0), some (.int a1), some (.int x1)], [.int x1], (gSh, σ, u)) rfl ?_
    cases hP
    exact hG.2.1 _ _ rfl rfl⟩
def p_Mapper_depends_11 (E : gEv) (k1 : Nat) (l2 : Int32) (l3 : Int32) (l5 : Int32) (σ : gS) : Option ((Int32) ⊕ ((Unit) ⊕ (Unit))) :=
  if ((1 : Int32) <<< (l2 &&& 31)) ≤ l5 then (some (.inr (.inr ()))) else (if gIn l5 (σ.2.1 k1) then if gIn (l5 ||| ((1 : Int32) <<< (l3 &&& 31))) (σ.2.1 k1) then if (σ.1 k1 l5.toNatClampNeg) = (σ.1 k1 (l5 ||| ((1 : Int32) <<< (l3 &&& 31))).toNatClampNeg) then (gLet (l5 + 1) fun x2 => some (.inl x2)) else (some (.inr (.inl ()))) else none else none)
set_option maxRecDepth 20000 in
theorem b_Mapper_depends_11 (E : gEv) (d u : Nat) {G : gFr → Prop} {vo : Option Value} {sr : gS} (hG : gClo E gDf gP7 gY79 (some .boolean) (gC E gDf gMs (d + 0)) (vo, (gSh, sr, u)) G) (k1 : Nat) (l2 : Int32) (l3 : Int32) (l5 : Int32) (σ : gS) (hk1 : gSh[k1]? = some (.inl (.byte, none))) {r : (Int32) ⊕ ((Unit) ⊕ (Unit))} (hP : p_Mapper_depends_11 E k1 l2 l3 l5 σ = some r) (K1 : ∀ (m5 : Int32), r = .inl m5 → G (11, [none, none, some (.int l2), some (.int l3), some (.ref k1), some (.int m5)], [], (gSh, σ, u))) (K2 : r = .inr (.inl ()) → G (36, [none, none, none, none, none, none], [], (gSh, σ, u))) (K3 : r = .inr (.inr ()) → G (44, [none, none, none, none, none, none], [], (gSh, σ, u))) : G (11, [none, none, some (.int l2), some (.int l3), some (.ref k1), some (.int l5)], [], (gSh, σ, u)) := by
  unfold p_Mapper_depends_11 at hP
  refine gRunN_ok hG.1 4 _ (16, [none, none, some (.int l2), some (.int l3), some (.ref k1), some (.int l5)], [.int ((1 : Int32) <<< (l2 &&& 31)), .int l5], (gSh, σ, u)) rfl ?_
  rcases g_ite hP with ⟨hc, hP⟩ | ⟨hc, hP⟩
  · refine hG.1 _ (44, [none, none, some (.int l2), some (.int l3), some (.ref k1), some (.int l5)], [], (gSh, σ, u)) _ rfl (if_pos hc) ?_
    refine hG.2.2.2.2.1 _ _ [none, none, none, none, none, none] _ _ trivial ?_
    cases hP
    exact K3 rfl
  · refine hG.1 _ (19, [none, none, some (.int l2), some (.int l3), some (.ref k1), some (.int l5)], [], (gSh, σ, u)) _ rfl (if_neg hc) ?_
    refine gRunN_ok hG.1 2 _ (23, [none, none, some (.int l2), some (.int l3), some (.ref k1), some (.int l5)], [.int l5, .ref k1], (gSh, σ, u)) rfl ?_
    obtain ⟨hc, hP⟩ := g_if hP
    refine hG.1 _ (24, [none, none, some (.int l2), some (.int l3), some (.ref k1), some (.int l5)], [.int (σ.1 k1 l5.toNatClampNeg)], (gSh, σ, u)) _ rfl (by simp only [gStep, gAldI, gAldB, gAldL, gAstI, gAstB, gAstL, gAln, hk1]; exact (if_pos hc)) ?_
    refine gRunN_ok hG.1 6 _ (32, [none, none, some (.int l2), some (.int l3), some (.ref k1), some (.int l5)], [.int (l5 ||| ((1 : Int32) <<< (l3 &&& 31))), .ref k1, .int (σ.1 k1 l5.toNatClampNeg)], (gSh, σ, u)) rfl ?_
    obtain ⟨hc, hP⟩ := g_if hP
    refine hG.1 _ (33, [none, none, some (.int l2), some (.int l3), some (.ref k1), some (.int l5)], [.int (σ.1 k1 (l5 ||| ((1 : Int32) <<< (l3 &&& 31))).toNatClampNeg), .int (σ.1 k1 l5.toNatClampNeg)], (gSh, σ, u)) _ rfl (by simp only [gStep, gAldI, gAldB, gAldL, gAstI, gAstB, gAstL, gAln, hk1]; exact (if_pos hc)) ?_
    rcases g_ite hP with ⟨hc, hP⟩ | ⟨hc, hP⟩
    · refine hG.1 _ (38, [none, none, some (.int l2), some (.int l3), some (.ref k1), some (.int l5)], [], (gSh, σ, u)) _ rfl (if_pos hc) ?_
      refine gRunN_ok hG.1 1 _ (41, [none, none, some (.int l2), some (.int l3), some (.ref k1), some (.int (l5 + 1))], [], (gSh, σ, u)) rfl ?_
      obtain ⟨x2, ex2, hP⟩ := g_let hP
      rw [← ex2]
      refine gRunN_ok hG.1 1 _ (11, [none, none, some (.int l2), some (.int l3), some (.ref k1), some (.int x2)], [], (gSh, σ, u)) rfl ?_
      cases hP
      exact K1 _ rfl
    · refine hG.1 _ (36, [none, none, some (.int l2), some (.int l3), some (.ref k1), some (.int l5)], [], (gSh, σ, u)) _ rfl (if_neg hc) ?_
      refine hG.2.2.2.2.1 _ _ [none, none, none, none, none, none] _ _ trivial ?_
      cases hP
      exact K2 rfl
theorem l_Mapper_depends_11 (E : gEv) (d u : Nat) {G : gFr → Prop} {vo : Option Value} {sr : gS} (hG : gClo E gDf gP7 gY79 (some .boolean) (gC E gDf gMs (d + 0)) (vo, (gSh, sr, u)) G) (k1 : Nat) (l2 : Int32) (l3 : Int32) (σ : gS) (hk1 : gSh[k1]? = some (.inl (.byte, none))) : ∀ (n : Nat) (l5 : Int32) (e : ((Unit) ⊕ (Unit))), gIter (fun z => p_Mapper_depends_11 E k1 l2 l3 z σ) n l5 = some e → ( e = (.inl ()) → G (36, [none, none, none, none, none, none], [], (gSh, σ, u))) → ( e = (.inr ()) → G (44, [none, none, none, none, none, none], [], (gSh, σ, u))) → G (11, [none, none, some (.int l2), some (.int l3), some (.ref k1), some (.int l5)], [], (gSh, σ, u)) := by
  intro n
  induction n with
  | zero => intro l5 e h; cases h
  | succ n ih =>
    intro l5 e h K2 K3
    rcases g_iter h with ⟨z, h1, h2⟩ | h1
    · exact b_Mapper_depends_11 E d u hG k1 l2 l3 l5 σ hk1 h1 (fun n0 hz => by cases hz; exact ih _ e h2 K2 K3) (fun  hz => by cases hz) (fun  hz => by cases hz)
    · exact b_Mapper_depends_11 E d u hG k1 l2 l3 l5 σ hk1 h1 (fun _ hz => by cases hz) (fun  hz => K2  (by cases hz; rfl)) (fun  hz => K3  (by cases hz; rfl))
def p_Mapper_depends (E : gEv) (a0 : Int32) (a1 : Int32) (a2 : Int32) (σ : gS) : Option (Int32) :=
  if gIn a0 5 then gLet (42 + a0.toNatClampNeg) fun k1 => gB1 (gIter (fun z => p_Mapper_depends_11 E k1 a1 a2 z σ) gN 0) fun e3 => gSum e3 (fun e4 => some 1) (fun e5 => some 0) else none
set_option maxRecDepth 20000 in
theorem c_Mapper_depends (E : gEv) (d u : Nat) (a0 : Int32) (a1 : Int32) (a2 : Int32) (σ : gS) {v : Int32}  (hq : p_Mapper_depends E a0 a1 a2 σ = some v) : gC E gDf gMs (d + 1) 79 [.ref 40, .int a0, .int a1, .int a2] (gSh, σ, u) (some (.int v), (gSh, σ, u)) := ⟨gM79, rfl, Nat.le_of_ble_eq_true rfl, fun G hG => by
  have hP := hq
  unfold p_Mapper_depends at hP
  replace hG : gClo E gDf gP7 gY79 (some .boolean) (gC E gDf gMs (d + 0)) (some (.int v), (gSh, σ, u)) G := hG
  show G (0, [some (.ref 40), some (.int a0), some (.int a1), some (.int a2), none, none], [], (gSh, σ, u))
  refine gRunN_ok hG.1 3 _ (5, [some (.ref 40), some (.int a0), some (.int a1), some (.int a2), none, none], [.int a0, .ref 41], (gSh, σ, u)) rfl ?_
  obtain ⟨hc, hP⟩ := g_if hP
  refine hG.1 _ (6, [some (.ref 40), some (.int a0), some (.int a1), some (.int a2), none, none], [.ref (42 + a0.toNatClampNeg)], (gSh, σ, u)) _ rfl (gAa_41 hc) ?_
  obtain ⟨k1, ek1, hP⟩ := g_let hP
  rw [← ek1]
  have hk1 : gSh[k1]? = some (.inl (.byte, none)) := by rw [ek1]; exact gSh_41 hc
  refine gRunN_ok hG.1 3 _ (11, [some (.ref 40), some (.int a0), some (.int a1), some (.int a2), some (.ref k1), some (.int 0)], [], (gSh, σ, u)) rfl ?_
  refine hG.2.2.2.2.1 _ _ [none, none, some (.int a1), some (.int a2), some (.ref k1), some (.int 0)] _ _ ⟨rfl, ⟨rfl, ⟨rfl, ⟨rfl, trivial⟩⟩⟩⟩ ?_
  obtain ⟨e3, hq, hP⟩ := g_b1 hP
  refine l_Mapper_depends_11 E d u hG k1 a1 a2 σ hk1 gN 0 _ hq (fun  he => ?_) (fun  he => ?_)
  · subst he
    try dsimp only [gSum] at hP
    refine gRunN_ok hG.1 1 _ (37, [none, none, none, none, none, none], [.int 1], (gSh, σ, u)) rfl ?_
    cases hP
    exact hG.2.1 _ _ rfl rfl
  · subst he
    try dsimp only [gSum] at hP
    refine gRunN_ok hG.1 1 _ (45, [none, none, none, none, none, none], [.int 0], (gSh, σ, u)) rfl ?_
    cases hP
    exact hG.2.1 _ _ rfl rfl⟩
def p_Mapper_remove_18 (E : gEv) (k1 : Nat) (l1 : Int32) (l2 : Int32) (l3 : Int32) (l5 : Int32) (l6 : Int32) (σ : gS) : Option ((Int32 × gS) ⊕ (gS)) :=
  if ((1 : Int32) <<< ((l2 - (1 : Int32)) &&& 31)) ≤ l6 then (some (.inr σ)) else (if gIn (((l6 &&& (l5 ^^^ ((-1) : Int32))) <<< ((1 : Int32) &&& 31)) ||| (l6 &&& l5)) (σ.2.1 k1) then if gIn l6 (σ.2.1 k1) then gLet (gPut σ k1 l6.toNatClampNeg (vp_nar .byte (σ.1 k1 (((l6 &&& (l5 ^^^ ((-1) : Int32))) <<< ((1 : Int32) &&& 31)) ||| (l6 &&& l5)).toNatClampNeg))) fun s3 => gLet (l6 + 1) fun x4 => some (.inl (x4, s3)) else none else none)
set_option maxRecDepth 20000 in
theorem b_Mapper_remove_18 (E : gEv) (d u : Nat) {G : gFr → Prop} {vo : Option Value} {sr : gS} (hG : gClo E gDf gP7 gY80 none (gC E gDf gMs (d + 0)) (vo, (gSh, sr, u)) G) (k1 : Nat) (l1 : Int32) (l2 : Int32) (l3 : Int32) (l5 : Int32) (l6 : Int32) (σ : gS) (hk1 : gSh[k1]? = some (.inl (.byte, none))) {r : (Int32 × gS) ⊕ (gS)} (hP : p_Mapper_remove_18 E k1 l1 l2 l3 l5 l6 σ = some r) (K1 : ∀ (m6 : Int32) (σ1 : gS), r = .inl (m6, σ1) → G (18, [some (.ref 40), some (.int l1), some (.int l2), some (.int l3), some (.ref k1), some (.int l5), some (.int m6)], [], (gSh, σ1, u))) (K2 : ∀ (σ1 : gS), r = .inr σ1 → G (57, [some (.ref 40), some (.int l1), some (.int l2), some (.int l3), none, none, none], [], (gSh, σ1, u))) : G (18, [some (.ref 40), some (.int l1), some (.int l2), some (.int l3), some (.ref k1), some (.int l5), some (.int l6)], [], (gSh, σ, u)) := by
  unfold p_Mapper_remove_18 at hP
  refine gRunN_ok hG.1 6 _ (25, [some (.ref 40), some (.int l1), some (.int l2), some (.int l3), some (.ref k1), some (.int l5), some (.int l6)], [.int ((1 : Int32) <<< ((l2 - (1 : Int32)) &&& 31)), .int l6], (gSh, σ, u)) rfl ?_
  rcases g_ite hP with ⟨hc, hP⟩ | ⟨hc, hP⟩
  · refine hG.1 _ (57, [some (.ref 40), some (.int l1), some (.int l2), some (.int l3), some (.ref k1), some (.int l5), some (.int l6)], [], (gSh, σ, u)) _ rfl (if_pos hc) ?_
    refine hG.2.2.2.2.1 _ _ [some (.ref 40), some (.int l1), some (.int l2), some (.int l3), none, none, none] _ _ ⟨rfl, ⟨rfl, ⟨rfl, ⟨rfl, trivial⟩⟩⟩⟩ ?_
    cases hP
    exact K2 _ rfl
  · refine hG.1 _ (28, [some (.ref 40), some (.int l1), some (.int l2), some (.int l3), some (.ref k1), some (.int l5), some (.int l6)], [], (gSh, σ, u)) _ rfl (if_neg hc) ?_
    refine gRunN_ok hG.1 14 _ (49, [some (.ref 40), some (.int l1), some (.int l2), some (.int l3), some (.ref k1), some (.int l5), some (.int l6)], [.int (((l6 &&& (l5 ^^^ ((-1) : Int32))) <<< ((1 : Int32) &&& 31)) ||| (l6 &&& l5)), .ref k1, .int l6, .ref k1], (gSh, σ, u)) rfl ?_
    obtain ⟨hc, hP⟩ := g_if hP
    refine hG.1 _ (50, [some (.ref 40), some (.int l1), some (.int l2), some (.int l3), some (.ref k1), some (.int l5), some (.int l6)], [.int (σ.1 k1 (((l6 &&& (l5 ^^^ ((-1) : Int32))) <<< ((1 : Int32) &&& 31)) ||| (l6 &&& l5)).toNatClampNeg), .int l6, .ref k1], (gSh, σ, u)) _ rfl (by simp only [gStep, gAldI, gAldB, gAldL, gAstI, gAstB, gAstL, gAln, hk1]; exact (if_pos hc)) ?_
    obtain ⟨hc, hP⟩ := g_if hP
    refine hG.1 _ (51, [some (.ref 40), some (.int l1), some (.int l2), some (.int l3), some (.ref k1), some (.int l5), some (.int l6)], [], (gSh, (gPut σ k1 l6.toNatClampNeg (vp_nar .byte (σ.1 k1 (((l6 &&& (l5 ^^^ ((-1) : Int32))) <<< ((1 : Int32) &&& 31)) ||| (l6 &&& l5)).toNatClampNeg))), u)) _ rfl (by simp only [gStep, gAldI, gAldB, gAldL, gAstI, gAstB, gAstL, gAln, hk1]; exact (if_pos hc)) ?_
    obtain ⟨s3, es3, hP⟩ := g_let hP
    rw [← es3]
    refine gRunN_ok hG.1 1 _ (54, [some (.ref 40), some (.int l1), some (.int l2), some (.int l3), some (.ref k1), some (.int l5), some (.int (l6 + 1))], [], (gSh, s3, u)) rfl ?_
    obtain ⟨x4, ex4, hP⟩ := g_let hP
    rw [← ex4]
    refine gRunN_ok hG.1 1 _ (18, [some (.ref 40), some (.int l1), some (.int l2), some (.int l3), some (.ref k1), some (.int l5), some (.int x4)], [], (gSh, s3, u)) rfl ?_
    cases hP
    exact K1 _ _ rfl
theorem l_Mapper_remove_18 (E : gEv) (d u : Nat) {G : gFr → Prop} {vo : Option Value} {sr : gS} (hG : gClo E gDf gP7 gY80 none (gC E gDf gMs (d + 0)) (vo, (gSh, sr, u)) G) (k1 : Nat) (l1 : Int32) (l2 : Int32) (l3 : Int32) (l5 : Int32) (hk1 : gSh[k1]? = some (.inl (.byte, none))) : ∀ (n : Nat) (l6 : Int32) (σ : gS) (e : (gS)), gIter (fun z => p_Mapper_remove_18 E k1 l1 l2 l3 l5 z.1 z.2) n (l6, σ) = some e → (∀ (σ1 : gS), e = σ1 → G (57, [some (.ref 40), some (.int l1), some (.int l2), some (.int l3), none, none, none], [], (gSh, σ1, u))) → G (18, [some (.ref 40), some (.int l1), some (.int l2), some (.int l3), some (.ref k1), some (.int l5), some (.int l6)], [], (gSh, σ, u)) := by
  intro n
  induction n with
  | zero => intro l6 σ e h; cases h
  | succ n ih =>
    intro l6 σ e h K2
    rcases g_iter h with ⟨z, h1, h2⟩ | h1
    · exact b_Mapper_remove_18 E d u hG k1 l1 l2 l3 l5 l6 σ hk1 h1 (fun n0 n1 hz => by cases hz; exact ih _ _ e h2 K2) (fun _ hz => by cases hz)
    · exact b_Mapper_remove_18 E d u hG k1 l1 l2 l3 l5 l6 σ hk1 h1 (fun _ _ hz => by cases hz) (fun σ1 hz => K2 σ1 (by cases hz; rfl))
def p_Mapper_remove (E : gEv) (a0 : Int32) (a1 : Int32) (a2 : Int32) (σ : gS) : Option (gS) :=
  if gIn a0 5 then gLet (42 + a0.toNatClampNeg) fun k1 => gLet (((1 : Int32) <<< (a2 &&& 31)) - (1 : Int32)) fun x2 => gB1 (gIter (fun z => p_Mapper_remove_18 E k1 a0 a1 a2 x2 z.1 z.2) gN (0, σ)) fun e5 => (fun s6 => if gIn a0 5 then gLet (48 + a0.toNatClampNeg) fun k7 => if gIn a0 5 then gLet (48 + a0.toNatClampNeg) fun k8 => if ¬ (a2 + (1 : Int32)) < 0 ∧ ¬ a2 < 0 ∧ ¬ ((a1 - (1 : Int32)) - a2) < 0 ∧ (a2 + (1 : Int32)).toNatClampNeg + ((a1 - (1 : Int32)) - a2).toNatClampNeg ≤ s6.2.1 k7 ∧ a2.toNatClampNeg + ((a1 - (1 : Int32)) - a2).toNatClampNeg ≤ s6.2.1 k8 then gLet (gRow s6 k8 (va_cpy (s6.1 k7) (s6.1 k8) (a2 + (1 : Int32)).toNatClampNeg a2.toNatClampNeg ((a1 - (1 : Int32)) - a2).toNatClampNeg)) fun s9 => some s9 else none else none else none) e5 else none
set_option maxRecDepth 20000 in
theorem c_Mapper_remove (E : gEv) (d u : Nat) (a0 : Int32) (a1 : Int32) (a2 : Int32) (σ : gS) {sr : gS}  (hq : p_Mapper_remove E a0 a1 a2 σ = some sr) : gC E gDf gMs (d + 1) 80 [.ref 40, .int a0, .int a1, .int a2] (gSh, σ, u) (none, (gSh, sr, u)) := ⟨gM80, rfl, Nat.le_of_ble_eq_true rfl, fun G hG => by
  have hP := hq
  unfold p_Mapper_remove at hP
  replace hG : gClo E gDf gP7 gY80 none (gC E gDf gMs (d + 0)) (none, (gSh, sr, u)) G := hG
  show G (0, [some (.ref 40), some (.int a0), some (.int a1), some (.int a2), none, none, none], [], (gSh, σ, u))
  refine gRunN_ok hG.1 3 _ (5, [some (.ref 40), some (.int a0), some (.int a1), some (.int a2), none, none, none], [.int a0, .ref 41], (gSh, σ, u)) rfl ?_
  obtain ⟨hc, hP⟩ := g_if hP
  refine hG.1 _ (6, [some (.ref 40), some (.int a0), some (.int a1), some (.int a2), none, none, none], [.ref (42 + a0.toNatClampNeg)], (gSh, σ, u)) _ rfl (gAa_41 hc) ?_
  obtain ⟨k1, ek1, hP⟩ := g_let hP
  rw [← ek1]
  have hk1 : gSh[k1]? = some (.inl (.byte, none)) := by rw [ek1]; exact gSh_41 hc
  refine gRunN_ok hG.1 7 _ (15, [some (.ref 40), some (.int a0), some (.int a1), some (.int a2), some (.ref k1), some (.int (((1 : Int32) <<< (a2 &&& 31)) - (1 : Int32))), none], [], (gSh, σ, u)) rfl ?_
  obtain ⟨x2, ex2, hP⟩ := g_let hP
  rw [← ex2]
  refine gRunN_ok hG.1 2 _ (18, [some (.ref 40), some (.int a0), some (.int a1), some (.int a2), some (.ref k1), some (.int x2), some (.int 0)], [], (gSh, σ, u)) rfl ?_
  obtain ⟨e5, hq, hP⟩ := g_b1 hP
  refine l_Mapper_remove_18 E d u hG k1 a0 a1 a2 x2 hk1 gN 0 σ _ hq (fun s6 he => ?_)
  · replace he := he.symm
    subst he
    try dsimp only [gSum] at hP
    refine gRunN_ok hG.1 3 _ (62, [some (.ref 40), some (.int a0), some (.int a1), some (.int a2), none, none, none], [.int a0, .ref 47], (gSh, s6, u)) rfl ?_
    obtain ⟨hc, hP⟩ := g_if hP
    refine hG.1 _ (63, [some (.ref 40), some (.int a0), some (.int a1), some (.int a2), none, none, none], [.ref (48 + a0.toNatClampNeg)], (gSh, s6, u)) _ rfl (gAa_47 hc) ?_
    obtain ⟨k7, ek7, hP⟩ := g_let hP
    rw [← ek7]
    have hk7 : gSh[k7]? = some (.inl (.int, none)) := by rw [ek7]; exact gSh_47 hc
    refine gRunN_ok hG.1 6 _ (71, [some (.ref 40), some (.int a0), some (.int a1), some (.int a2), none, none, none], [.int a0, .ref 47, .int (a2 + (1 : Int32)), .ref k7], (gSh, s6, u)) rfl ?_
    obtain ⟨hc, hP⟩ := g_if hP
    refine hG.1 _ (72, [some (.ref 40), some (.int a0), some (.int a1), some (.int a2), none, none, none], [.ref (48 + a0.toNatClampNeg), .int (a2 + (1 : Int32)), .ref k7], (gSh, s6, u)) _ rfl (gAa_47 hc) ?_
    obtain ⟨k8, ek8, hP⟩ := g_let hP
    rw [← ek8]
    have hk8 : gSh[k8]? = some (.inl (.int, none)) := by rw [ek8]; exact gSh_47 hc
    refine gRunN_ok hG.1 6 _ (78, [some (.ref 40), some (.int a0), some (.int a1), some (.int a2), none, none, none], [.int ((a1 - (1 : Int32)) - a2), .int a2, .ref k8, .int (a2 + (1 : Int32)), .ref k7], (gSh, s6, u)) rfl ?_
    obtain ⟨hc, hP⟩ := g_if hP
    refine hG.1 _ (81, [some (.ref 40), some (.int a0), some (.int a1), some (.int a2), none, none, none], [], (gSh, (gRow s6 k8 (va_cpy (s6.1 k7) (s6.1 k8) (a2 + (1 : Int32)).toNatClampNeg a2.toNatClampNeg ((a1 - (1 : Int32)) - a2).toNatClampNeg)), u)) _ rfl (gCopy_I rfl hk7 hk8 rfl hc) ?_
    obtain ⟨s9, es9, hP⟩ := g_let hP
    rw [← es9]
    cases hP
    exact hG.2.1 _ _ rfl rfl⟩
def p_Circuit_addLut_j64 (E : gEv) (k0 : Nat) (σ : gS) : Option (Int32 × gS) :=
  gLet (gPut σ 30 10 ((σ.1 30 10) + (1 : Int32))) fun s1 => some (((400 : Int32) + (s1.1 30 10)) - (1 : Int32), s1)
set_option maxRecDepth 20000 in
theorem j_Circuit_addLut_j64 (E : gEv) (d u : Nat) {G : gFr → Prop} {v : Int32} {sr : gS} (hG : gClo E gDf gP6 gY82 (some .int) (gC E gDf gMs (d + 0)) (some (.int v), (gSh, sr, u)) G) (k0 : Nat) (σ : gS) (hk0 : gSh[k0]? = some (.inl (.int, none))) (hP : p_Circuit_addLut_j64 E k0 σ = some (v, sr)) : G (64, [some (.ref 30), none, none, none, none], [], (gSh, σ, u)) := by
  unfold p_Circuit_addLut_j64 at hP
  refine gRunN_ok hG.1 6 _ (74, [some (.ref 30), none, none, none, none], [], (gSh, (gPut σ 30 10 ((σ.1 30 10) + (1 : Int32))), u)) rfl ?_
  obtain ⟨s1, es1, hP⟩ := g_let hP
  rw [← es1]
  refine gRunN_ok hG.1 6 _ (84, [some (.ref 30), none, none, none, none], [.int (((400 : Int32) + (s1.1 30 10)) - (1 : Int32))], (gSh, s1, u)) rfl ?_
  cases hP
  exact hG.2.1 _ _ rfl rfl
def p_Circuit_addLut_j47_14 (E : gEv) (k0 : Nat) (l2 : Int32) (l3 : Int32) (l4 : Int32) (y1 : Int32) (y2 : Int32) (σ : gS) : Option ((Int32 × gS) ⊕ (gS)) :=
  if gIn y1 (σ.2.1 35) then gLet (gPut σ 35 y1.toNatClampNeg y2) fun s2 => gLet (l4 + 1) fun x3 => some (.inl (x3, s2)) else none
set_option maxRecDepth 20000 in
theorem j_Circuit_addLut_j47_14 (E : gEv) (d u : Nat) {G : gFr → Prop} {vo : Option Value} {sr : gS} (hG : gClo E gDf gP6 gY82 (some .int) (gC E gDf gMs (d + 0)) (vo, (gSh, sr, u)) G) (k0 : Nat) (l2 : Int32) (l3 : Int32) (l4 : Int32) (y1 : Int32) (y2 : Int32) (σ : gS) (hk0 : gSh[k0]? = some (.inl (.int, none))) {r : (Int32 × gS) ⊕ (gS)} (hP : p_Circuit_addLut_j47_14 E k0 l2 l3 l4 y1 y2 σ = some r) (K1 : ∀ (m4 : Int32) (σ1 : gS), r = .inl (m4, σ1) → G (14, [some (.ref 30), some (.ref k0), some (.int l2), some (.int l3), some (.int m4)], [], (gSh, σ1, u))) (K2 : ∀ (σ1 : gS), r = .inr σ1 → G (54, [some (.ref 30), none, none, some (.int l3), none], [], (gSh, σ1, u))) : G (47, [some (.ref 30), some (.ref k0), some (.int l2), some (.int l3), some (.int l4)], [.int y2, .int y1, .ref 35], (gSh, σ, u)) := by
  unfold p_Circuit_addLut_j47_14 at hP
  obtain ⟨hc, hP⟩ := g_if hP
  refine hG.1 _ (48, [some (.ref 30), some (.ref k0), some (.int l2), some (.int l3), some (.int l4)], [], (gSh, (gPut σ 35 y1.toNatClampNeg y2), u)) _ rfl (if_pos hc) ?_
  obtain ⟨s2, es2, hP⟩ := g_let hP
  rw [← es2]
  refine gRunN_ok hG.1 1 _ (51, [some (.ref 30), some (.ref k0), some (.int l2), some (.int l3), some (.int (l4 + 1))], [], (gSh, s2, u)) rfl ?_
  obtain ⟨x3, ex3, hP⟩ := g_let hP
  rw [← ex3]
  refine gRunN_ok hG.1 1 _ (14, [some (.ref 30), some (.ref k0), some (.int l2), some (.int l3), some (.int x3)], [], (gSh, s2, u)) rfl ?_
  cases hP
  exact K1 _ _ rfl
def p_Circuit_addLut_14 (E : gEv) (k0 : Nat) (l2 : Int32) (l3 : Int32) (l4 : Int32) (σ : gS) : Option ((Int32 × gS) ⊕ (gS)) :=
  if (4 : Int32) ≤ l4 then (some (.inr σ)) else (if l2 ≤ l4 then (p_Circuit_addLut_j47_14 E k0 l2 l3 l4 (((σ.1 30 10) * (4 : Int32)) + l4) (-1) σ) else (if gIn l4 (σ.2.1 k0) then p_Circuit_addLut_j47_14 E k0 l2 l3 l4 (((σ.1 30 10) * (4 : Int32)) + l4) (σ.1 k0 l4.toNatClampNeg) σ else none))
set_option maxRecDepth 20000 in
theorem b_Circuit_addLut_14 (E : gEv) (d u : Nat) {G : gFr → Prop} {vo : Option Value} {sr : gS} (hG : gClo E gDf gP6 gY82 (some .int) (gC E gDf gMs (d + 0)) (vo, (gSh, sr, u)) G) (k0 : Nat) (l2 : Int32) (l3 : Int32) (l4 : Int32) (σ : gS) (hk0 : gSh[k0]? = some (.inl (.int, none))) {r : (Int32 × gS) ⊕ (gS)} (hP : p_Circuit_addLut_14 E k0 l2 l3 l4 σ = some r) (K1 : ∀ (m4 : Int32) (σ1 : gS), r = .inl (m4, σ1) → G (14, [some (.ref 30), some (.ref k0), some (.int l2), some (.int l3), some (.int m4)], [], (gSh, σ1, u))) (K2 : ∀ (σ1 : gS), r = .inr σ1 → G (54, [some (.ref 30), none, none, some (.int l3), none], [], (gSh, σ1, u))) : G (14, [some (.ref 30), some (.ref k0), some (.int l2), some (.int l3), some (.int l4)], [], (gSh, σ, u)) := by
  unfold p_Circuit_addLut_14 at hP
  refine gRunN_ok hG.1 2 _ (17, [some (.ref 30), some (.ref k0), some (.int l2), some (.int l3), some (.int l4)], [.int 4, .int l4], (gSh, σ, u)) rfl ?_
  rcases g_ite hP with ⟨hc, hP⟩ | ⟨hc, hP⟩
  · refine hG.1 _ (54, [some (.ref 30), some (.ref k0), some (.int l2), some (.int l3), some (.int l4)], [], (gSh, σ, u)) _ rfl (if_pos hc) ?_
    refine hG.2.2.2.2.1 _ _ [some (.ref 30), none, none, some (.int l3), none] _ _ ⟨rfl, ⟨rfl, trivial⟩⟩ ?_
    cases hP
    exact K2 _ rfl
  · refine hG.1 _ (20, [some (.ref 30), some (.ref k0), some (.int l2), some (.int l3), some (.int l4)], [], (gSh, σ, u)) _ rfl (if_neg hc) ?_
    refine gRunN_ok hG.1 10 _ (36, [some (.ref 30), some (.ref k0), some (.int l2), some (.int l3), some (.int l4)], [.int l2, .int l4, .int (((σ.1 30 10) * (4 : Int32)) + l4), .ref 35], (gSh, σ, u)) rfl ?_
    rcases g_ite hP with ⟨hc, hP⟩ | ⟨hc, hP⟩
    · refine hG.1 _ (46, [some (.ref 30), some (.ref k0), some (.int l2), some (.int l3), some (.int l4)], [.int (((σ.1 30 10) * (4 : Int32)) + l4), .ref 35], (gSh, σ, u)) _ rfl (if_pos hc) ?_
      refine gRunN_ok hG.1 1 _ (47, [some (.ref 30), some (.ref k0), some (.int l2), some (.int l3), some (.int l4)], [.int (-1), .int (((σ.1 30 10) * (4 : Int32)) + l4), .ref 35], (gSh, σ, u)) rfl ?_
      exact j_Circuit_addLut_j47_14 E d u hG k0 l2 l3 l4 (((σ.1 30 10) * (4 : Int32)) + l4) (-1) σ hk0 hP K1 K2
    · refine hG.1 _ (39, [some (.ref 30), some (.ref k0), some (.int l2), some (.int l3), some (.int l4)], [.int (((σ.1 30 10) * (4 : Int32)) + l4), .ref 35], (gSh, σ, u)) _ rfl (if_neg hc) ?_
      refine gRunN_ok hG.1 2 _ (42, [some (.ref 30), some (.ref k0), some (.int l2), some (.int l3), some (.int l4)], [.int l4, .ref k0, .int (((σ.1 30 10) * (4 : Int32)) + l4), .ref 35], (gSh, σ, u)) rfl ?_
      obtain ⟨hc, hP⟩ := g_if hP
      refine hG.1 _ (43, [some (.ref 30), some (.ref k0), some (.int l2), some (.int l3), some (.int l4)], [.int (σ.1 k0 l4.toNatClampNeg), .int (((σ.1 30 10) * (4 : Int32)) + l4), .ref 35], (gSh, σ, u)) _ rfl (by simp only [gStep, gAldI, gAldB, gAldL, gAstI, gAstB, gAstL, gAln, hk0]; exact (if_pos hc)) ?_
      refine gRunN_ok hG.1 1 _ (47, [some (.ref 30), some (.ref k0), some (.int l2), some (.int l3), some (.int l4)], [.int (σ.1 k0 l4.toNatClampNeg), .int (((σ.1 30 10) * (4 : Int32)) + l4), .ref 35], (gSh, σ, u)) rfl ?_
      exact j_Circuit_addLut_j47_14 E d u hG k0 l2 l3 l4 (((σ.1 30 10) * (4 : Int32)) + l4) (σ.1 k0 l4.toNatClampNeg) σ hk0 hP K1 K2
theorem l_Circuit_addLut_14 (E : gEv) (d u : Nat) {G : gFr → Prop} {vo : Option Value} {sr : gS} (hG : gClo E gDf gP6 gY82 (some .int) (gC E gDf gMs (d + 0)) (vo, (gSh, sr, u)) G) (k0 : Nat) (l2 : Int32) (l3 : Int32) (hk0 : gSh[k0]? = some (.inl (.int, none))) : ∀ (n : Nat) (l4 : Int32) (σ : gS) (e : (gS)), gIter (fun z => p_Circuit_addLut_14 E k0 l2 l3 z.1 z.2) n (l4, σ) = some e → (∀ (σ1 : gS), e = σ1 → G (54, [some (.ref 30), none, none, some (.int l3), none], [], (gSh, σ1, u))) → G (14, [some (.ref 30), some (.ref k0), some (.int l2), some (.int l3), some (.int l4)], [], (gSh, σ, u)) := by
  intro n
  induction n with
  | zero => intro l4 σ e h; cases h
  | succ n ih =>
    intro l4 σ e h K2
    rcases g_iter h with ⟨z, h1, h2⟩ | h1
    · exact b_Circuit_addLut_14 E d u hG k0 l2 l3 l4 σ hk0 h1 (fun n0 n1 hz => by cases hz; exact ih _ _ e h2 K2) (fun _ hz => by cases hz)
    · exact b_Circuit_addLut_14 E d u hG k0 l2 l3 l4 σ hk0 h1 (fun _ _ hz => by cases hz) (fun σ1 hz => K2 σ1 (by cases hz; rfl))
def p_Circuit_addLut (E : gEv) (k0 : Nat) (a1 : Int32) (a2 : Int32) (σ : gS) : Option (Int32 × gS) :=
  if (σ.1 30 0) ≤ (σ.1 30 10) then (p_Circuit_addLut_j64 E k0 σ) else (gB1 (gIter (fun z => p_Circuit_addLut_14 E k0 a1 a2 z.1 z.2) gN (0, σ)) fun e4 => (fun s5 => if gIn (s5.1 30 10) (s5.2.1 36) then gLet (gPut s5 36 (s5.1 30 10).toNatClampNeg a2) fun s6 => p_Circuit_addLut_j64 E k0 s6 else none) e4)
set_option maxRecDepth 20000 in
theorem c_Circuit_addLut (E : gEv) (d u : Nat) (k0 : Nat) (a1 : Int32) (a2 : Int32) (σ : gS) {v : Int32} {sr : gS}  (hk0 : gSh[k0]? = some (.inl (.int, none))) (hq : p_Circuit_addLut E k0 a1 a2 σ = some (v, sr)) : gC E gDf gMs (d + 1) 82 [.ref 30, .ref k0, .int a1, .int a2] (gSh, σ, u) (some (.int v), (gSh, sr, u)) := ⟨gM82, rfl, Nat.le_of_ble_eq_true rfl, fun G hG => by
  have hP := hq
  unfold p_Circuit_addLut at hP
  replace hG : gClo E gDf gP6 gY82 (some .int) (gC E gDf gMs (d + 0)) (some (.int v), (gSh, sr, u)) G := hG
  show G (0, [some (.ref 30), some (.ref k0), some (.int a1), some (.int a2), none], [], (gSh, σ, u))
  refine gRunN_ok hG.1 4 _ (8, [some (.ref 30), some (.ref k0), some (.int a1), some (.int a2), none], [.int (σ.1 30 0), .int (σ.1 30 10)], (gSh, σ, u)) rfl ?_
  rcases g_ite hP with ⟨hc, hP⟩ | ⟨hc, hP⟩
  · refine hG.1 _ (64, [some (.ref 30), some (.ref k0), some (.int a1), some (.int a2), none], [], (gSh, σ, u)) _ rfl (if_pos hc) ?_
    refine hG.2.2.2.2.1 _ _ [some (.ref 30), none, none, none, none] _ _ ⟨rfl, trivial⟩ ?_
    exact j_Circuit_addLut_j64 E d u hG k0 σ hk0 hP
  · refine hG.1 _ (11, [some (.ref 30), some (.ref k0), some (.int a1), some (.int a2), none], [], (gSh, σ, u)) _ rfl (if_neg hc) ?_
    refine gRunN_ok hG.1 2 _ (14, [some (.ref 30), some (.ref k0), some (.int a1), some (.int a2), some (.int 0)], [], (gSh, σ, u)) rfl ?_
    obtain ⟨e4, hq, hP⟩ := g_b1 hP
    refine l_Circuit_addLut_14 E d u hG k0 a1 a2 hk0 gN 0 σ _ hq (fun s5 he => ?_)
    · replace he := he.symm
      subst he
      try dsimp only [gSum] at hP
      refine gRunN_ok hG.1 5 _ (63, [some (.ref 30), none, none, some (.int a2), none], [.int a2, .int (s5.1 30 10), .ref 36], (gSh, s5, u)) rfl ?_
      obtain ⟨hc, hP⟩ := g_if hP
      refine hG.1 _ (64, [some (.ref 30), none, none, some (.int a2), none], [], (gSh, (gPut s5 36 (s5.1 30 10).toNatClampNeg a2), u)) _ rfl (if_pos hc) ?_
      obtain ⟨s6, es6, hP⟩ := g_let hP
      rw [← es6]
      refine hG.2.2.2.2.1 _ _ [some (.ref 30), none, none, none, none] _ _ ⟨rfl, trivial⟩ ?_
      exact j_Circuit_addLut_j64 E d u hG k0 s6 hk0 hP⟩
def p_Circuit_take_26 (E : gEv) (l2 : Int32) (σ : gS) : Option ((Int32 × gS) ⊕ (gS)) :=
  if (σ.1 30 13) ≤ l2 then (some (.inr σ)) else (if gIn l2 (σ.2.1 29) then if gIn (σ.1 29 l2.toNatClampNeg) (σ.2.1 25) then if gIn l2 (σ.2.1 39) then gLet (gPut σ 39 l2.toNatClampNeg (σ.1 25 (σ.1 29 l2.toNatClampNeg).toNatClampNeg)) fun s4 => gLet (l2 + 1) fun x5 => some (.inl (x5, s4)) else none else none else none)
set_option maxRecDepth 20000 in
theorem b_Circuit_take_26 (E : gEv) (d u : Nat) {G : gFr → Prop} {vo : Option Value} {sr : gS} (hG : gClo E gDf gP6 gY83 none (gC E gDf gMs (d + 0)) (vo, (gSh, sr, u)) G) (l2 : Int32) (σ : gS) {r : (Int32 × gS) ⊕ (gS)} (hP : p_Circuit_take_26 E l2 σ = some r) (K1 : ∀ (m2 : Int32) (σ1 : gS), r = .inl (m2, σ1) → G (26, [some (.ref 30), some (.ref 22), some (.int m2)], [], (gSh, σ1, u))) (K2 : ∀ (σ1 : gS), r = .inr σ1 → G (57, [some (.ref 30), some (.ref 22), none], [], (gSh, σ1, u))) : G (26, [some (.ref 30), some (.ref 22), some (.int l2)], [], (gSh, σ, u)) := by
  unfold p_Circuit_take_26 at hP
  refine gRunN_ok hG.1 3 _ (31, [some (.ref 30), some (.ref 22), some (.int l2)], [.int (σ.1 30 13), .int l2], (gSh, σ, u)) rfl ?_
  rcases g_ite hP with ⟨hc, hP⟩ | ⟨hc, hP⟩
  · refine hG.1 _ (57, [some (.ref 30), some (.ref 22), some (.int l2)], [], (gSh, σ, u)) _ rfl (if_pos hc) ?_
    refine hG.2.2.2.2.1 _ _ [some (.ref 30), some (.ref 22), none] _ _ ⟨rfl, ⟨rfl, trivial⟩⟩ ?_
    cases hP
    exact K2 _ rfl
  · refine hG.1 _ (34, [some (.ref 30), some (.ref 22), some (.int l2)], [], (gSh, σ, u)) _ rfl (if_neg hc) ?_
    refine gRunN_ok hG.1 8 _ (48, [some (.ref 30), some (.ref 22), some (.int l2)], [.int l2, .ref 29, .ref 25, .int l2, .ref 39], (gSh, σ, u)) rfl ?_
    obtain ⟨hc, hP⟩ := g_if hP
    refine hG.1 _ (49, [some (.ref 30), some (.ref 22), some (.int l2)], [.int (σ.1 29 l2.toNatClampNeg), .ref 25, .int l2, .ref 39], (gSh, σ, u)) _ rfl (if_pos hc) ?_
    obtain ⟨hc, hP⟩ := g_if hP
    refine hG.1 _ (50, [some (.ref 30), some (.ref 22), some (.int l2)], [.int (σ.1 25 (σ.1 29 l2.toNatClampNeg).toNatClampNeg), .int l2, .ref 39], (gSh, σ, u)) _ rfl (if_pos hc) ?_
    obtain ⟨hc, hP⟩ := g_if hP
    refine hG.1 _ (51, [some (.ref 30), some (.ref 22), some (.int l2)], [], (gSh, (gPut σ 39 l2.toNatClampNeg (σ.1 25 (σ.1 29 l2.toNatClampNeg).toNatClampNeg)), u)) _ rfl (if_pos hc) ?_
    obtain ⟨s4, es4, hP⟩ := g_let hP
    rw [← es4]
    refine gRunN_ok hG.1 1 _ (54, [some (.ref 30), some (.ref 22), some (.int (l2 + 1))], [], (gSh, s4, u)) rfl ?_
    obtain ⟨x5, ex5, hP⟩ := g_let hP
    rw [← ex5]
    refine gRunN_ok hG.1 1 _ (26, [some (.ref 30), some (.ref 22), some (.int x5)], [], (gSh, s4, u)) rfl ?_
    cases hP
    exact K1 _ _ rfl
theorem l_Circuit_take_26 (E : gEv) (d u : Nat) {G : gFr → Prop} {vo : Option Value} {sr : gS} (hG : gClo E gDf gP6 gY83 none (gC E gDf gMs (d + 0)) (vo, (gSh, sr, u)) G) : ∀ (n : Nat) (l2 : Int32) (σ : gS) (e : (gS)), gIter (fun z => p_Circuit_take_26 E z.1 z.2) n (l2, σ) = some e → (∀ (σ1 : gS), e = σ1 → G (57, [some (.ref 30), some (.ref 22), none], [], (gSh, σ1, u))) → G (26, [some (.ref 30), some (.ref 22), some (.int l2)], [], (gSh, σ, u)) := by
  intro n
  induction n with
  | zero => intro l2 σ e h; cases h
  | succ n ih =>
    intro l2 σ e h K2
    rcases g_iter h with ⟨z, h1, h2⟩ | h1
    · exact b_Circuit_take_26 E d u hG l2 σ h1 (fun n0 n1 hz => by cases hz; exact ih _ _ e h2 K2) (fun _ hz => by cases hz)
    · exact b_Circuit_take_26 E d u hG l2 σ h1 (fun _ _ hz => by cases hz) (fun σ1 hz => K2 σ1 (by cases hz; rfl))
def p_Circuit_take_59 (E : gEv) (l2 : Int32) (σ : gS) : Option ((Int32 × gS) ⊕ (gS)) :=
  if (σ.1 30 11) ≤ l2 then (some (.inr σ)) else (if gIn l2 (σ.2.1 26) then if gIn (σ.1 26 l2.toNatClampNeg) (σ.2.1 25) then if gIn l2 (σ.2.1 31) then gLet (gPut σ 31 l2.toNatClampNeg (σ.1 25 (σ.1 26 l2.toNatClampNeg).toNatClampNeg)) fun s8 => if gIn l2 (s8.2.1 27) then if gIn l2 (s8.2.1 32) then gLet (gPut s8 32 l2.toNatClampNeg (s8.1 27 l2.toNatClampNeg)) fun s9 => if gIn l2 (s9.2.1 32) then if gIn l2 (s9.2.1 33) then gLet (gPut s9 33 l2.toNatClampNeg (s9.1 32 l2.toNatClampNeg)) fun s10 => gLet (l2 + 1) fun x11 => some (.inl (x11, s10)) else none else none else none else none else none else none else none)
set_option maxRecDepth 20000 in
theorem b_Circuit_take_59 (E : gEv) (d u : Nat) {G : gFr → Prop} {vo : Option Value} {sr : gS} (hG : gClo E gDf gP6 gY83 none (gC E gDf gMs (d + 0)) (vo, (gSh, sr, u)) G) (l2 : Int32) (σ : gS) {r : (Int32 × gS) ⊕ (gS)} (hP : p_Circuit_take_59 E l2 σ = some r) (K1 : ∀ (m2 : Int32) (σ1 : gS), r = .inl (m2, σ1) → G (59, [some (.ref 30), some (.ref 22), some (.int m2)], [], (gSh, σ1, u))) (K2 : ∀ (σ1 : gS), r = .inr σ1 → G (114, [none, none, none], [], (gSh, σ1, u))) : G (59, [some (.ref 30), some (.ref 22), some (.int l2)], [], (gSh, σ, u)) := by
  unfold p_Circuit_take_59 at hP
  refine gRunN_ok hG.1 3 _ (64, [some (.ref 30), some (.ref 22), some (.int l2)], [.int (σ.1 30 11), .int l2], (gSh, σ, u)) rfl ?_
  rcases g_ite hP with ⟨hc, hP⟩ | ⟨hc, hP⟩
  · refine hG.1 _ (114, [some (.ref 30), some (.ref 22), some (.int l2)], [], (gSh, σ, u)) _ rfl (if_pos hc) ?_
    refine hG.2.2.2.2.1 _ _ [none, none, none] _ _ trivial ?_
    cases hP
    exact K2 _ rfl
  · refine hG.1 _ (67, [some (.ref 30), some (.ref 22), some (.int l2)], [], (gSh, σ, u)) _ rfl (if_neg hc) ?_
    refine gRunN_ok hG.1 8 _ (81, [some (.ref 30), some (.ref 22), some (.int l2)], [.int l2, .ref 26, .ref 25, .int l2, .ref 31], (gSh, σ, u)) rfl ?_
    obtain ⟨hc, hP⟩ := g_if hP
    refine hG.1 _ (82, [some (.ref 30), some (.ref 22), some (.int l2)], [.int (σ.1 26 l2.toNatClampNeg), .ref 25, .int l2, .ref 31], (gSh, σ, u)) _ rfl (if_pos hc) ?_
    obtain ⟨hc, hP⟩ := g_if hP
    refine hG.1 _ (83, [some (.ref 30), some (.ref 22), some (.int l2)], [.int (σ.1 25 (σ.1 26 l2.toNatClampNeg).toNatClampNeg), .int l2, .ref 31], (gSh, σ, u)) _ rfl (if_pos hc) ?_
    obtain ⟨hc, hP⟩ := g_if hP
    refine hG.1 _ (84, [some (.ref 30), some (.ref 22), some (.int l2)], [], (gSh, (gPut σ 31 l2.toNatClampNeg (σ.1 25 (σ.1 26 l2.toNatClampNeg).toNatClampNeg)), u)) _ rfl (if_pos hc) ?_
    obtain ⟨s8, es8, hP⟩ := g_let hP
    rw [← es8]
    refine gRunN_ok hG.1 6 _ (94, [some (.ref 30), some (.ref 22), some (.int l2)], [.int l2, .ref 27, .int l2, .ref 32], (gSh, s8, u)) rfl ?_
    obtain ⟨hc, hP⟩ := g_if hP
    refine hG.1 _ (95, [some (.ref 30), some (.ref 22), some (.int l2)], [.int (s8.1 27 l2.toNatClampNeg), .int l2, .ref 32], (gSh, s8, u)) _ rfl (if_pos hc) ?_
    obtain ⟨hc, hP⟩ := g_if hP
    refine hG.1 _ (96, [some (.ref 30), some (.ref 22), some (.int l2)], [], (gSh, (gPut s8 32 l2.toNatClampNeg (s8.1 27 l2.toNatClampNeg)), u)) _ rfl (if_pos hc) ?_
    obtain ⟨s9, es9, hP⟩ := g_let hP
    rw [← es9]
    refine gRunN_ok hG.1 6 _ (106, [some (.ref 30), some (.ref 22), some (.int l2)], [.int l2, .ref 32, .int l2, .ref 33], (gSh, s9, u)) rfl ?_
    obtain ⟨hc, hP⟩ := g_if hP
    refine hG.1 _ (107, [some (.ref 30), some (.ref 22), some (.int l2)], [.int (s9.1 32 l2.toNatClampNeg), .int l2, .ref 33], (gSh, s9, u)) _ rfl (if_pos hc) ?_
    obtain ⟨hc, hP⟩ := g_if hP
    refine hG.1 _ (108, [some (.ref 30), some (.ref 22), some (.int l2)], [], (gSh, (gPut s9 33 l2.toNatClampNeg (s9.1 32 l2.toNatClampNeg)), u)) _ rfl (if_pos hc) ?_
    obtain ⟨s10, es10, hP⟩ := g_let hP
    rw [← es10]
    refine gRunN_ok hG.1 1 _ (111, [some (.ref 30), some (.ref 22), some (.int (l2 + 1))], [], (gSh, s10, u)) rfl ?_
    obtain ⟨x11, ex11, hP⟩ := g_let hP
    rw [← ex11]
    refine gRunN_ok hG.1 1 _ (59, [some (.ref 30), some (.ref 22), some (.int x11)], [], (gSh, s10, u)) rfl ?_
    cases hP
    exact K1 _ _ rfl
theorem l_Circuit_take_59 (E : gEv) (d u : Nat) {G : gFr → Prop} {vo : Option Value} {sr : gS} (hG : gClo E gDf gP6 gY83 none (gC E gDf gMs (d + 0)) (vo, (gSh, sr, u)) G) : ∀ (n : Nat) (l2 : Int32) (σ : gS) (e : (gS)), gIter (fun z => p_Circuit_take_59 E z.1 z.2) n (l2, σ) = some e → (∀ (σ1 : gS), e = σ1 → G (114, [none, none, none], [], (gSh, σ1, u))) → G (59, [some (.ref 30), some (.ref 22), some (.int l2)], [], (gSh, σ, u)) := by
  intro n
  induction n with
  | zero => intro l2 σ e h; cases h
  | succ n ih =>
    intro l2 σ e h K2
    rcases g_iter h with ⟨z, h1, h2⟩ | h1
    · exact b_Circuit_take_59 E d u hG l2 σ h1 (fun n0 n1 hz => by cases hz; exact ih _ _ e h2 K2) (fun _ hz => by cases hz)
    · exact b_Circuit_take_59 E d u hG l2 σ h1 (fun _ _ hz => by cases hz) (fun σ1 hz => K2 σ1 (by cases hz; rfl))
def p_Circuit_take (E : gEv) (σ : gS) : Option (gS) :=
  gLet (gPut σ 30 12 (σ.1 22 11)) fun s1 => gLet (gPut s1 30 13 (s1.1 22 12)) fun s2 => gLet (gPut s2 30 11 (s2.1 22 13)) fun s3 => gB1 (gIter (fun z => p_Circuit_take_26 E z.1 z.2) gN (0, s3)) fun e6 => (fun s7 => gB1 (gIter (fun z => p_Circuit_take_59 E z.1 z.2) gN (0, s7)) fun e12 => (fun s13 => some s13) e12) e6
set_option maxRecDepth 20000 in
theorem c_Circuit_take (E : gEv) (d u : Nat) (σ : gS) {sr : gS}  (hq : p_Circuit_take E σ = some sr) : gC E gDf gMs (d + 1) 83 [.ref 30, .ref 22] (gSh, σ, u) (none, (gSh, sr, u)) := ⟨gM83, rfl, Nat.le_of_ble_eq_true rfl, fun G hG => by
  have hP := hq
  unfold p_Circuit_take at hP
  replace hG : gClo E gDf gP6 gY83 none (gC E gDf gMs (d + 0)) (none, (gSh, sr, u)) G := hG
  show G (0, [some (.ref 30), some (.ref 22), none], [], (gSh, σ, u))
  refine gRunN_ok hG.1 4 _ (8, [some (.ref 30), some (.ref 22), none], [], (gSh, (gPut σ 30 12 (σ.1 22 11)), u)) rfl ?_
  obtain ⟨s1, es1, hP⟩ := g_let hP
  rw [← es1]
  refine gRunN_ok hG.1 4 _ (16, [some (.ref 30), some (.ref 22), none], [], (gSh, (gPut s1 30 13 (s1.1 22 12)), u)) rfl ?_
  obtain ⟨s2, es2, hP⟩ := g_let hP
  rw [← es2]
  refine gRunN_ok hG.1 4 _ (24, [some (.ref 30), some (.ref 22), none], [], (gSh, (gPut s2 30 11 (s2.1 22 13)), u)) rfl ?_
  obtain ⟨s3, es3, hP⟩ := g_let hP
  rw [← es3]
  refine gRunN_ok hG.1 2 _ (26, [some (.ref 30), some (.ref 22), some (.int 0)], [], (gSh, s3, u)) rfl ?_
  obtain ⟨e6, hq, hP⟩ := g_b1 hP
  refine l_Circuit_take_26 E d u hG gN 0 s3 _ hq (fun s7 he => ?_)
  · replace he := he.symm
    subst he
    try dsimp only [gSum] at hP
    refine gRunN_ok hG.1 2 _ (59, [some (.ref 30), some (.ref 22), some (.int 0)], [], (gSh, s7, u)) rfl ?_
    obtain ⟨e12, hq, hP⟩ := g_b1 hP
    refine l_Circuit_take_59 E d u hG gN 0 s7 _ hq (fun s13 he => ?_)
    · replace he := he.symm
      subst he
      try dsimp only [gSum] at hP
      cases hP
      exact hG.2.1 _ _ rfl rfl⟩
def p_Packing_setNets_2 (E : gEv) (l1 : Int32) (σ : gS) : Option ((Int32 × gS) ⊕ (gS)) :=
  if (σ.1 30 11) ≤ l1 then (some (.inr σ)) else (if gIn l1 (σ.2.1 54) then if (σ.1 30 10) ≤ (σ.1 54 l1.toNatClampNeg) then (gLet (l1 + 1) fun x1 => some (.inl (x1, σ))) else (if gIn l1 (σ.2.1 31) then if gIn (σ.1 31 l1.toNatClampNeg) (σ.2.1 58) then gLet (gPut σ 58 (σ.1 31 l1.toNatClampNeg).toNatClampNeg 0) fun s2 => gLet (l1 + 1) fun x3 => some (.inl (x3, s2)) else none else none) else none)
set_option maxRecDepth 20000 in
theorem b_Packing_setNets_2 (E : gEv) (d u : Nat) {G : gFr → Prop} {vo : Option Value} {sr : gS} (hG : gClo E gDf gP8 gY87 none (gC E gDf gMs (d + 0)) (vo, (gSh, sr, u)) G) (l1 : Int32) (σ : gS) {r : (Int32 × gS) ⊕ (gS)} (hP : p_Packing_setNets_2 E l1 σ = some r) (K1 : ∀ (m1 : Int32) (σ1 : gS), r = .inl (m1, σ1) → G (2, [some (.ref 53), some (.int m1), none], [], (gSh, σ1, u))) (K2 : ∀ (σ1 : gS), r = .inr σ1 → G (50, [some (.ref 53), none, none], [], (gSh, σ1, u))) : G (2, [some (.ref 53), some (.int l1), none], [], (gSh, σ, u)) := by
  unfold p_Packing_setNets_2 at hP
  refine gRunN_ok hG.1 4 _ (10, [some (.ref 53), some (.int l1), none], [.int (σ.1 30 11), .int l1], (gSh, σ, u)) rfl ?_
  rcases g_ite hP with ⟨hc, hP⟩ | ⟨hc, hP⟩
  · refine hG.1 _ (50, [some (.ref 53), some (.int l1), none], [], (gSh, σ, u)) _ rfl (if_pos hc) ?_
    refine hG.2.2.2.2.1 _ _ [some (.ref 53), none, none] _ _ ⟨rfl, trivial⟩ ?_
    cases hP
    exact K2 _ rfl
  · refine hG.1 _ (13, [some (.ref 53), some (.int l1), none], [], (gSh, σ, u)) _ rfl (if_neg hc) ?_
    refine gRunN_ok hG.1 3 _ (18, [some (.ref 53), some (.int l1), none], [.int l1, .ref 54], (gSh, σ, u)) rfl ?_
    obtain ⟨hc, hP⟩ := g_if hP
    refine hG.1 _ (19, [some (.ref 53), some (.int l1), none], [.int (σ.1 54 l1.toNatClampNeg)], (gSh, σ, u)) _ rfl (if_pos hc) ?_
    refine gRunN_ok hG.1 3 _ (26, [some (.ref 53), some (.int l1), none], [.int (σ.1 30 10), .int (σ.1 54 l1.toNatClampNeg)], (gSh, σ, u)) rfl ?_
    rcases g_ite hP with ⟨hc, hP⟩ | ⟨hc, hP⟩
    · refine hG.1 _ (44, [some (.ref 53), some (.int l1), none], [], (gSh, σ, u)) _ rfl (if_pos hc) ?_
      refine gRunN_ok hG.1 1 _ (47, [some (.ref 53), some (.int (l1 + 1)), none], [], (gSh, σ, u)) rfl ?_
      obtain ⟨x1, ex1, hP⟩ := g_let hP
      rw [← ex1]
      refine gRunN_ok hG.1 1 _ (2, [some (.ref 53), some (.int x1), none], [], (gSh, σ, u)) rfl ?_
      cases hP
      exact K1 _ _ rfl
    · refine hG.1 _ (29, [some (.ref 53), some (.int l1), none], [], (gSh, σ, u)) _ rfl (if_neg hc) ?_
      refine gRunN_ok hG.1 6 _ (41, [some (.ref 53), some (.int l1), none], [.int l1, .ref 31, .ref 58], (gSh, σ, u)) rfl ?_
      obtain ⟨hc, hP⟩ := g_if hP
      refine hG.1 _ (42, [some (.ref 53), some (.int l1), none], [.int (σ.1 31 l1.toNatClampNeg), .ref 58], (gSh, σ, u)) _ rfl (if_pos hc) ?_
      refine gRunN_ok hG.1 1 _ (43, [some (.ref 53), some (.int l1), none], [.int 0, .int (σ.1 31 l1.toNatClampNeg), .ref 58], (gSh, σ, u)) rfl ?_
      obtain ⟨hc, hP⟩ := g_if hP
      refine hG.1 _ (44, [some (.ref 53), some (.int l1), none], [], (gSh, (gPut σ 58 (σ.1 31 l1.toNatClampNeg).toNatClampNeg 0), u)) _ rfl (if_pos hc) ?_
      obtain ⟨s2, es2, hP⟩ := g_let hP
      rw [← es2]
      refine gRunN_ok hG.1 1 _ (47, [some (.ref 53), some (.int (l1 + 1)), none], [], (gSh, s2, u)) rfl ?_
      obtain ⟨x3, ex3, hP⟩ := g_let hP
      rw [← ex3]
      refine gRunN_ok hG.1 1 _ (2, [some (.ref 53), some (.int x3), none], [], (gSh, s2, u)) rfl ?_
      cases hP
      exact K1 _ _ rfl
theorem l_Packing_setNets_2 (E : gEv) (d u : Nat) {G : gFr → Prop} {vo : Option Value} {sr : gS} (hG : gClo E gDf gP8 gY87 none (gC E gDf gMs (d + 0)) (vo, (gSh, sr, u)) G) : ∀ (n : Nat) (l1 : Int32) (σ : gS) (e : (gS)), gIter (fun z => p_Packing_setNets_2 E z.1 z.2) n (l1, σ) = some e → (∀ (σ1 : gS), e = σ1 → G (50, [some (.ref 53), none, none], [], (gSh, σ1, u))) → G (2, [some (.ref 53), some (.int l1), none], [], (gSh, σ, u)) := by
  intro n
  induction n with
  | zero => intro l1 σ e h; cases h
  | succ n ih =>
    intro l1 σ e h K2
    rcases g_iter h with ⟨z, h1, h2⟩ | h1
    · exact b_Packing_setNets_2 E d u hG l1 σ h1 (fun n0 n1 hz => by cases hz; exact ih _ _ e h2 K2) (fun _ hz => by cases hz)
    · exact b_Packing_setNets_2 E d u hG l1 σ h1 (fun _ _ hz => by cases hz) (fun σ1 hz => K2 σ1 (by cases hz; rfl))
def p_Packing_setNets_59 (E : gEv) (l1 : Int32) (l2 : Int32) (σ : gS) : Option ((Int32 × Int32 × gS) ⊕ (Int32 × gS)) :=
  if (Int32.ofNat (σ.2.1 58)) ≤ l2 then (some (.inr (l1, σ))) else (if gIn l2 (σ.2.1 59) then gLet (gPut σ 59 l2.toNatClampNeg (-1)) fun s7 => if gIn l2 (s7.2.1 58) then if (s7.1 58 l2.toNatClampNeg) ≤ 0 then (gLet (l2 + 1) fun x8 => some (.inl (l1, x8, s7))) else (if gIn l2 (s7.2.1 59) then gLet (gPut s7 59 l2.toNatClampNeg (s7.1 53 17)) fun s9 => if gIn (s9.1 53 17) (s9.2.1 60) then gLet (gPut s9 60 (s9.1 53 17).toNatClampNeg l2) fun s10 => if gIn (s10.1 53 17) (s10.2.1 62) then gLet (gPut s10 62 (s10.1 53 17).toNatClampNeg l1) fun s11 => gLet (gPut s11 53 17 ((s11.1 53 17) + (1 : Int32))) fun s12 => if gIn l2 (s12.2.1 58) then gLet (l1 + (s12.1 58 l2.toNatClampNeg)) fun x13 => gLet (l2 + 1) fun x14 => some (.inl (x13, x14, s12)) else none else none else none else none) else none else none)
set_option maxRecDepth 20000 in
theorem b_Packing_setNets_59 (E : gEv) (d u : Nat) {G : gFr → Prop} {vo : Option Value} {sr : gS} (hG : gClo E gDf gP8 gY87 none (gC E gDf gMs (d + 0)) (vo, (gSh, sr, u)) G) (l1 : Int32) (l2 : Int32) (σ : gS) {r : (Int32 × Int32 × gS) ⊕ (Int32 × gS)} (hP : p_Packing_setNets_59 E l1 l2 σ = some r) (K1 : ∀ (m1 : Int32) (m2 : Int32) (σ1 : gS), r = .inl (m1, m2, σ1) → G (59, [some (.ref 53), some (.int m1), some (.int m2)], [], (gSh, σ1, u))) (K2 : ∀ (m1 : Int32) (σ1 : gS), r = .inr (m1, σ1) → G (139, [some (.ref 53), some (.int m1), none], [], (gSh, σ1, u))) : G (59, [some (.ref 53), some (.int l1), some (.int l2)], [], (gSh, σ, u)) := by
  unfold p_Packing_setNets_59 at hP
  refine gRunN_ok hG.1 4 _ (65, [some (.ref 53), some (.int l1), some (.int l2)], [.int (Int32.ofNat (σ.2.1 58)), .int l2], (gSh, σ, u)) rfl ?_
  rcases g_ite hP with ⟨hc, hP⟩ | ⟨hc, hP⟩
  · refine hG.1 _ (139, [some (.ref 53), some (.int l1), some (.int l2)], [], (gSh, σ, u)) _ rfl (if_pos hc) ?_
    refine hG.2.2.2.2.1 _ _ [some (.ref 53), some (.int l1), none] _ _ ⟨rfl, ⟨rfl, trivial⟩⟩ ?_
    cases hP
    exact K2 _ _ rfl
  · refine hG.1 _ (68, [some (.ref 53), some (.int l1), some (.int l2)], [], (gSh, σ, u)) _ rfl (if_neg hc) ?_
    refine gRunN_ok hG.1 4 _ (74, [some (.ref 53), some (.int l1), some (.int l2)], [.int (-1), .int l2, .ref 59], (gSh, σ, u)) rfl ?_
    obtain ⟨hc, hP⟩ := g_if hP
    refine hG.1 _ (75, [some (.ref 53), some (.int l1), some (.int l2)], [], (gSh, (gPut σ 59 l2.toNatClampNeg (-1)), u)) _ rfl (if_pos hc) ?_
    obtain ⟨s7, es7, hP⟩ := g_let hP
    rw [← es7]
    refine gRunN_ok hG.1 3 _ (80, [some (.ref 53), some (.int l1), some (.int l2)], [.int l2, .ref 58], (gSh, s7, u)) rfl ?_
    obtain ⟨hc, hP⟩ := g_if hP
    refine hG.1 _ (81, [some (.ref 53), some (.int l1), some (.int l2)], [.int (s7.1 58 l2.toNatClampNeg)], (gSh, s7, u)) _ rfl (if_pos hc) ?_
    rcases g_ite hP with ⟨hc, hP⟩ | ⟨hc, hP⟩
    · refine hG.1 _ (133, [some (.ref 53), some (.int l1), some (.int l2)], [], (gSh, s7, u)) _ rfl (if_pos hc) ?_
      refine gRunN_ok hG.1 1 _ (136, [some (.ref 53), some (.int l1), some (.int (l2 + 1))], [], (gSh, s7, u)) rfl ?_
      obtain ⟨x8, ex8, hP⟩ := g_let hP
      rw [← ex8]
      refine gRunN_ok hG.1 1 _ (59, [some (.ref 53), some (.int l1), some (.int x8)], [], (gSh, s7, u)) rfl ?_
      cases hP
      exact K1 _ _ _ rfl
    · refine hG.1 _ (84, [some (.ref 53), some (.int l1), some (.int l2)], [], (gSh, s7, u)) _ rfl (if_neg hc) ?_
      refine gRunN_ok hG.1 5 _ (93, [some (.ref 53), some (.int l1), some (.int l2)], [.int (s7.1 53 17), .int l2, .ref 59], (gSh, s7, u)) rfl ?_
      obtain ⟨hc, hP⟩ := g_if hP
      refine hG.1 _ (94, [some (.ref 53), some (.int l1), some (.int l2)], [], (gSh, (gPut s7 59 l2.toNatClampNeg (s7.1 53 17)), u)) _ rfl (if_pos hc) ?_
      obtain ⟨s9, es9, hP⟩ := g_let hP
      rw [← es9]
      refine gRunN_ok hG.1 5 _ (103, [some (.ref 53), some (.int l1), some (.int l2)], [.int l2, .int (s9.1 53 17), .ref 60], (gSh, s9, u)) rfl ?_
      obtain ⟨hc, hP⟩ := g_if hP
      refine hG.1 _ (104, [some (.ref 53), some (.int l1), some (.int l2)], [], (gSh, (gPut s9 60 (s9.1 53 17).toNatClampNeg l2), u)) _ rfl (if_pos hc) ?_
      obtain ⟨s10, es10, hP⟩ := g_let hP
      rw [← es10]
      refine gRunN_ok hG.1 5 _ (113, [some (.ref 53), some (.int l1), some (.int l2)], [.int l1, .int (s10.1 53 17), .ref 62], (gSh, s10, u)) rfl ?_
      obtain ⟨hc, hP⟩ := g_if hP
      refine hG.1 _ (114, [some (.ref 53), some (.int l1), some (.int l2)], [], (gSh, (gPut s10 62 (s10.1 53 17).toNatClampNeg l1), u)) _ rfl (if_pos hc) ?_
      obtain ⟨s11, es11, hP⟩ := g_let hP
      rw [← es11]
      refine gRunN_ok hG.1 6 _ (124, [some (.ref 53), some (.int l1), some (.int l2)], [], (gSh, (gPut s11 53 17 ((s11.1 53 17) + (1 : Int32))), u)) rfl ?_
      obtain ⟨s12, es12, hP⟩ := g_let hP
      rw [← es12]
      refine gRunN_ok hG.1 4 _ (130, [some (.ref 53), some (.int l1), some (.int l2)], [.int l2, .ref 58, .int l1], (gSh, s12, u)) rfl ?_
      obtain ⟨hc, hP⟩ := g_if hP
      refine hG.1 _ (131, [some (.ref 53), some (.int l1), some (.int l2)], [.int (s12.1 58 l2.toNatClampNeg), .int l1], (gSh, s12, u)) _ rfl (if_pos hc) ?_
      refine gRunN_ok hG.1 2 _ (133, [some (.ref 53), some (.int (l1 + (s12.1 58 l2.toNatClampNeg))), some (.int l2)], [], (gSh, s12, u)) rfl ?_
      obtain ⟨x13, ex13, hP⟩ := g_let hP
      rw [← ex13]
      refine gRunN_ok hG.1 1 _ (136, [some (.ref 53), some (.int x13), some (.int (l2 + 1))], [], (gSh, s12, u)) rfl ?_
      obtain ⟨x14, ex14, hP⟩ := g_let hP
      rw [← ex14]
      refine gRunN_ok hG.1 1 _ (59, [some (.ref 53), some (.int x13), some (.int x14)], [], (gSh, s12, u)) rfl ?_
      cases hP
      exact K1 _ _ _ rfl
theorem l_Packing_setNets_59 (E : gEv) (d u : Nat) {G : gFr → Prop} {vo : Option Value} {sr : gS} (hG : gClo E gDf gP8 gY87 none (gC E gDf gMs (d + 0)) (vo, (gSh, sr, u)) G) : ∀ (n : Nat) (l1 : Int32) (l2 : Int32) (σ : gS) (e : (Int32 × gS)), gIter (fun z => p_Packing_setNets_59 E z.1 z.2.1 z.2.2) n (l1, l2, σ) = some e → (∀ (m1 : Int32) (σ1 : gS), e = (m1, σ1) → G (139, [some (.ref 53), some (.int m1), none], [], (gSh, σ1, u))) → G (59, [some (.ref 53), some (.int l1), some (.int l2)], [], (gSh, σ, u)) := by
  intro n
  induction n with
  | zero => intro l1 l2 σ e h; cases h
  | succ n ih =>
    intro l1 l2 σ e h K2
    rcases g_iter h with ⟨z, h1, h2⟩ | h1
    · exact b_Packing_setNets_59 E d u hG l1 l2 σ h1 (fun n0 n1 n2 hz => by cases hz; exact ih _ _ _ e h2 K2) (fun _ _ hz => by cases hz)
    · exact b_Packing_setNets_59 E d u hG l1 l2 σ h1 (fun _ _ _ hz => by cases hz) (fun m1 σ1 hz => K2 m1 σ1 (by cases hz; rfl))
def p_Packing_setNets (E : gEv) (σ : gS) : Option (gS) :=
  gB1 (gIter (fun z => p_Packing_setNets_2 E z.1 z.2) gN (0, σ)) fun e4 => (fun s5 => gLet (gPut s5 53 17 0) fun s6 => gB1 (gIter (fun z => p_Packing_setNets_59 E z.1 z.2.1 z.2.2) gN (0, 0, s6)) fun e15 => (fun w16 s17 => if gIn (s17.1 53 17) (s17.2.1 62) then gLet (gPut s17 62 (s17.1 53 17).toNatClampNeg w16) fun s18 => some s18 else none) e15.1 e15.2) e4
set_option maxRecDepth 20000 in
theorem c_Packing_setNets (E : gEv) (d u : Nat) (σ : gS) {sr : gS}  (hq : p_Packing_setNets E σ = some sr) : gC E gDf gMs (d + 1) 87 [.ref 53] (gSh, σ, u) (none, (gSh, sr, u)) := ⟨gM87, rfl, Nat.le_of_ble_eq_true rfl, fun G hG => by
  have hP := hq
  unfold p_Packing_setNets at hP
  replace hG : gClo E gDf gP8 gY87 none (gC E gDf gMs (d + 0)) (none, (gSh, sr, u)) G := hG
  show G (0, [some (.ref 53), none, none], [], (gSh, σ, u))
  refine gRunN_ok hG.1 2 _ (2, [some (.ref 53), some (.int 0), none], [], (gSh, σ, u)) rfl ?_
  obtain ⟨e4, hq, hP⟩ := g_b1 hP
  refine l_Packing_setNets_2 E d u hG gN 0 σ _ hq (fun s5 he => ?_)
  · replace he := he.symm
    subst he
    try dsimp only [gSum] at hP
    refine gRunN_ok hG.1 3 _ (55, [some (.ref 53), none, none], [], (gSh, (gPut s5 53 17 0), u)) rfl ?_
    obtain ⟨s6, es6, hP⟩ := g_let hP
    rw [← es6]
    refine gRunN_ok hG.1 4 _ (59, [some (.ref 53), some (.int 0), some (.int 0)], [], (gSh, s6, u)) rfl ?_
    obtain ⟨e15, hq, hP⟩ := g_b1 hP
    refine l_Packing_setNets_59 E d u hG gN 0 0 s6 _ hq (fun w16 s17 he => ?_)
    · subst he
      try dsimp only [gSum] at hP
      refine gRunN_ok hG.1 5 _ (148, [some (.ref 53), some (.int w16), none], [.int w16, .int (s17.1 53 17), .ref 62], (gSh, s17, u)) rfl ?_
      obtain ⟨hc, hP⟩ := g_if hP
      refine hG.1 _ (149, [some (.ref 53), some (.int w16), none], [], (gSh, (gPut s17 62 (s17.1 53 17).toNatClampNeg w16), u)) _ rfl (if_pos hc) ?_
      obtain ⟨s18, es18, hP⟩ := g_let hP
      rw [← es18]
      cases hP
      exact hG.2.1 _ _ rfl rfl⟩
def p_Packing_pinSource (E : gEv) (a0 : Int32) (a1 : Int32) (σ : gS) : Option (Int32) :=
  if (σ.1 30 10) ≤ a0 then (if a1 = 0 then (if gIn a0 (σ.2.1 55) then if (σ.1 55 a0.toNatClampNeg) = ((-1) : Int32) then (some (-1)) else (if gIn a0 (σ.2.1 55) then if gIn (σ.1 55 a0.toNatClampNeg) (σ.2.1 31) then some (σ.1 31 (σ.1 55 a0.toNatClampNeg).toNatClampNeg) else none else none) else none) else (some (-1))) else (if gIn ((a0 * (4 : Int32)) + a1) (σ.2.1 35) then some (σ.1 35 ((a0 * (4 : Int32)) + a1).toNatClampNeg) else none)
set_option maxRecDepth 20000 in
theorem c_Packing_pinSource (E : gEv) (d u : Nat) (a0 : Int32) (a1 : Int32) (σ : gS) {v : Int32}  (hq : p_Packing_pinSource E a0 a1 σ = some v) : gC E gDf gMs (d + 1) 89 [.ref 53, .int a0, .int a1] (gSh, σ, u) (some (.int v), (gSh, σ, u)) := ⟨gM89, rfl, Nat.le_of_ble_eq_true rfl, fun G hG => by
  have hP := hq
  unfold p_Packing_pinSource at hP
  replace hG : gClo E gDf gP8 gY89 (some .int) (gC E gDf gMs (d + 0)) (some (.int v), (gSh, σ, u)) G := hG
  show G (0, [some (.ref 53), some (.int a0), some (.int a1)], [], (gSh, σ, u))
  refine gRunN_ok hG.1 4 _ (8, [some (.ref 53), some (.int a0), some (.int a1)], [.int (σ.1 30 10), .int a0], (gSh, σ, u)) rfl ?_
  rcases g_ite hP with ⟨hc, hP⟩ | ⟨hc, hP⟩
  · refine hG.1 _ (25, [some (.ref 53), some (.int a0), some (.int a1)], [], (gSh, σ, u)) _ rfl (if_pos hc) ?_
    refine gRunN_ok hG.1 1 _ (26, [some (.ref 53), some (.int a0), some (.int a1)], [.int a1], (gSh, σ, u)) rfl ?_
    rcases g_ite hP with ⟨hc, hP⟩ | ⟨hc, hP⟩
    · refine hG.1 _ (29, [some (.ref 53), some (.int a0), some (.int a1)], [], (gSh, σ, u)) _ rfl (if_pos hc) ?_
      refine gRunN_ok hG.1 3 _ (34, [some (.ref 53), some (.int a0), some (.int a1)], [.int a0, .ref 55], (gSh, σ, u)) rfl ?_
      obtain ⟨hc, hP⟩ := g_if hP
      refine hG.1 _ (35, [some (.ref 53), some (.int a0), some (.int a1)], [.int (σ.1 55 a0.toNatClampNeg)], (gSh, σ, u)) _ rfl (if_pos hc) ?_
      refine gRunN_ok hG.1 1 _ (36, [some (.ref 53), some (.int a0), some (.int a1)], [.int (-1), .int (σ.1 55 a0.toNatClampNeg)], (gSh, σ, u)) rfl ?_
      rcases g_ite hP with ⟨hc, hP⟩ | ⟨hc, hP⟩
      · refine hG.1 _ (56, [some (.ref 53), some (.int a0), some (.int a1)], [], (gSh, σ, u)) _ rfl (if_pos hc) ?_
        refine gRunN_ok hG.1 1 _ (57, [some (.ref 53), some (.int a0), some (.int a1)], [.int (-1)], (gSh, σ, u)) rfl ?_
        cases hP
        exact hG.2.1 _ _ rfl rfl
      · refine hG.1 _ (39, [some (.ref 53), some (.int a0), some (.int a1)], [], (gSh, σ, u)) _ rfl (if_neg hc) ?_
        refine gRunN_ok hG.1 6 _ (51, [some (.ref 53), some (.int a0), some (.int a1)], [.int a0, .ref 55, .ref 31], (gSh, σ, u)) rfl ?_
        obtain ⟨hc, hP⟩ := g_if hP
        refine hG.1 _ (52, [some (.ref 53), some (.int a0), some (.int a1)], [.int (σ.1 55 a0.toNatClampNeg), .ref 31], (gSh, σ, u)) _ rfl (if_pos hc) ?_
        obtain ⟨hc, hP⟩ := g_if hP
        refine hG.1 _ (53, [some (.ref 53), some (.int a0), some (.int a1)], [.int (σ.1 31 (σ.1 55 a0.toNatClampNeg).toNatClampNeg)], (gSh, σ, u)) _ rfl (if_pos hc) ?_
        refine gRunN_ok hG.1 1 _ (57, [some (.ref 53), some (.int a0), some (.int a1)], [.int (σ.1 31 (σ.1 55 a0.toNatClampNeg).toNatClampNeg)], (gSh, σ, u)) rfl ?_
        cases hP
        exact hG.2.1 _ _ rfl rfl
    · refine hG.1 _ (56, [some (.ref 53), some (.int a0), some (.int a1)], [], (gSh, σ, u)) _ rfl (if_neg hc) ?_
      refine gRunN_ok hG.1 1 _ (57, [some (.ref 53), some (.int a0), some (.int a1)], [.int (-1)], (gSh, σ, u)) rfl ?_
      cases hP
      exact hG.2.1 _ _ rfl rfl
  · refine hG.1 _ (11, [some (.ref 53), some (.int a0), some (.int a1)], [], (gSh, σ, u)) _ rfl (if_neg hc) ?_
    refine gRunN_ok hG.1 8 _ (23, [some (.ref 53), some (.int a0), some (.int a1)], [.int ((a0 * (4 : Int32)) + a1), .ref 35], (gSh, σ, u)) rfl ?_
    obtain ⟨hc, hP⟩ := g_if hP
    refine hG.1 _ (24, [some (.ref 53), some (.int a0), some (.int a1)], [.int (σ.1 35 ((a0 * (4 : Int32)) + a1).toNatClampNeg)], (gSh, σ, u)) _ rfl (if_pos hc) ?_
    cases hP
    exact hG.2.1 _ _ rfl rfl⟩
def p_Packing_addSink (E : gEv) (a0 : Int32) (a1 : Int32) (σ : gS) : Option (gS) :=
  if gIn a0 (σ.2.1 59) then if gIn (σ.1 59 a0.toNatClampNeg) (σ.2.1 62) then if gIn a0 (σ.2.1 58) then if gIn ((σ.1 62 (σ.1 59 a0.toNatClampNeg).toNatClampNeg) + (σ.1 58 a0.toNatClampNeg)) (σ.2.1 63) then gLet (gPut σ 63 ((σ.1 62 (σ.1 59 a0.toNatClampNeg).toNatClampNeg) + (σ.1 58 a0.toNatClampNeg)).toNatClampNeg a1) fun s1 => if gIn a0 (s1.2.1 58) then if gIn a0 (s1.2.1 58) then gLet (gPut s1 58 a0.toNatClampNeg ((s1.1 58 a0.toNatClampNeg) + (1 : Int32))) fun s2 => some s2 else none else none else none else none else none else none
set_option maxRecDepth 20000 in
theorem c_Packing_addSink (E : gEv) (d u : Nat) (a0 : Int32) (a1 : Int32) (σ : gS) {sr : gS}  (hq : p_Packing_addSink E a0 a1 σ = some sr) : gC E gDf gMs (d + 1) 90 [.ref 53, .int a0, .int a1] (gSh, σ, u) (none, (gSh, sr, u)) := ⟨gM90, rfl, Nat.le_of_ble_eq_true rfl, fun G hG => by
  have hP := hq
  unfold p_Packing_addSink at hP
  replace hG : gClo E gDf gP8 gY90 none (gC E gDf gMs (d + 0)) (none, (gSh, sr, u)) G := hG
  show G (0, [some (.ref 53), some (.int a0), some (.int a1)], [], (gSh, σ, u))
  refine gRunN_ok hG.1 7 _ (13, [some (.ref 53), some (.int a0), some (.int a1)], [.int a0, .ref 59, .ref 62, .ref 63], (gSh, σ, u)) rfl ?_
  obtain ⟨hc, hP⟩ := g_if hP
  refine hG.1 _ (14, [some (.ref 53), some (.int a0), some (.int a1)], [.int (σ.1 59 a0.toNatClampNeg), .ref 62, .ref 63], (gSh, σ, u)) _ rfl (if_pos hc) ?_
  obtain ⟨hc, hP⟩ := g_if hP
  refine hG.1 _ (15, [some (.ref 53), some (.int a0), some (.int a1)], [.int (σ.1 62 (σ.1 59 a0.toNatClampNeg).toNatClampNeg), .ref 63], (gSh, σ, u)) _ rfl (if_pos hc) ?_
  refine gRunN_ok hG.1 3 _ (20, [some (.ref 53), some (.int a0), some (.int a1)], [.int a0, .ref 58, .int (σ.1 62 (σ.1 59 a0.toNatClampNeg).toNatClampNeg), .ref 63], (gSh, σ, u)) rfl ?_
  obtain ⟨hc, hP⟩ := g_if hP
  refine hG.1 _ (21, [some (.ref 53), some (.int a0), some (.int a1)], [.int (σ.1 58 a0.toNatClampNeg), .int (σ.1 62 (σ.1 59 a0.toNatClampNeg).toNatClampNeg), .ref 63], (gSh, σ, u)) _ rfl (if_pos hc) ?_
  refine gRunN_ok hG.1 2 _ (23, [some (.ref 53), some (.int a0), some (.int a1)], [.int a1, .int ((σ.1 62 (σ.1 59 a0.toNatClampNeg).toNatClampNeg) + (σ.1 58 a0.toNatClampNeg)), .ref 63], (gSh, σ, u)) rfl ?_
  obtain ⟨hc, hP⟩ := g_if hP
  refine hG.1 _ (24, [some (.ref 53), some (.int a0), some (.int a1)], [], (gSh, (gPut σ 63 ((σ.1 62 (σ.1 59 a0.toNatClampNeg).toNatClampNeg) + (σ.1 58 a0.toNatClampNeg)).toNatClampNeg a1), u)) _ rfl (if_pos hc) ?_
  obtain ⟨s1, es1, hP⟩ := g_let hP
  rw [← es1]
  refine gRunN_ok hG.1 4 _ (30, [some (.ref 53), some (.int a0), some (.int a1)], [.int a0, .ref 58, .int a0, .ref 58], (gSh, s1, u)) rfl ?_
  obtain ⟨hc, hP⟩ := g_if hP
  refine hG.1 _ (31, [some (.ref 53), some (.int a0), some (.int a1)], [.int (s1.1 58 a0.toNatClampNeg), .int a0, .ref 58], (gSh, s1, u)) _ rfl (if_pos hc) ?_
  refine gRunN_ok hG.1 2 _ (33, [some (.ref 53), some (.int a0), some (.int a1)], [.int ((s1.1 58 a0.toNatClampNeg) + (1 : Int32)), .int a0, .ref 58], (gSh, s1, u)) rfl ?_
  obtain ⟨hc, hP⟩ := g_if hP
  refine hG.1 _ (34, [some (.ref 53), some (.int a0), some (.int a1)], [], (gSh, (gPut s1 58 a0.toNatClampNeg ((s1.1 58 a0.toNatClampNeg) + (1 : Int32))), u)) _ rfl (if_pos hc) ?_
  obtain ⟨s2, es2, hP⟩ := g_let hP
  rw [← es2]
  cases hP
  exact hG.2.1 _ _ rfl rfl⟩
def p_Packing_madeSource (E : gEv) (a0 : Int32) (σ : gS) : Option (Int32) :=
  if gIn a0 (σ.2.1 55) then if (σ.1 55 a0.toNatClampNeg) = ((-1) : Int32) then (some ((400 : Int32) + a0)) else (if gIn a0 (σ.2.1 55) then some ((200 : Int32) + (σ.1 55 a0.toNatClampNeg)) else none) else none
set_option maxRecDepth 20000 in
theorem c_Packing_madeSource (E : gEv) (d u : Nat) (a0 : Int32) (σ : gS) {v : Int32}  (hq : p_Packing_madeSource E a0 σ = some v) : gC E gDf gMs (d + 1) 92 [.ref 53, .int a0] (gSh, σ, u) (some (.int v), (gSh, σ, u)) := ⟨gM92, rfl, Nat.le_of_ble_eq_true rfl, fun G hG => by
  have hP := hq
  unfold p_Packing_madeSource at hP
  replace hG : gClo E gDf gP8 gY92 (some .int) (gC E gDf gMs (d + 0)) (some (.int v), (gSh, σ, u)) G := hG
  show G (0, [some (.ref 53), some (.int a0)], [], (gSh, σ, u))
  refine gRunN_ok hG.1 3 _ (5, [some (.ref 53), some (.int a0)], [.int a0, .ref 55], (gSh, σ, u)) rfl ?_
  obtain ⟨hc, hP⟩ := g_if hP
  refine hG.1 _ (6, [some (.ref 53), some (.int a0)], [.int (σ.1 55 a0.toNatClampNeg)], (gSh, σ, u)) _ rfl (if_pos hc) ?_
  refine gRunN_ok hG.1 1 _ (7, [some (.ref 53), some (.int a0)], [.int (-1), .int (σ.1 55 a0.toNatClampNeg)], (gSh, σ, u)) rfl ?_
  rcases g_ite hP with ⟨hc, hP⟩ | ⟨hc, hP⟩
  · refine hG.1 _ (23, [some (.ref 53), some (.int a0)], [], (gSh, σ, u)) _ rfl (if_pos hc) ?_
    refine gRunN_ok hG.1 3 _ (28, [some (.ref 53), some (.int a0)], [.int ((400 : Int32) + a0)], (gSh, σ, u)) rfl ?_
    cases hP
    exact hG.2.1 _ _ rfl rfl
  · refine hG.1 _ (10, [some (.ref 53), some (.int a0)], [], (gSh, σ, u)) _ rfl (if_neg hc) ?_
    refine gRunN_ok hG.1 4 _ (18, [some (.ref 53), some (.int a0)], [.int a0, .ref 55, .int 200], (gSh, σ, u)) rfl ?_
    obtain ⟨hc, hP⟩ := g_if hP
    refine hG.1 _ (19, [some (.ref 53), some (.int a0)], [.int (σ.1 55 a0.toNatClampNeg), .int 200], (gSh, σ, u)) _ rfl (if_pos hc) ?_
    refine gRunN_ok hG.1 2 _ (28, [some (.ref 53), some (.int a0)], [.int ((200 : Int32) + (σ.1 55 a0.toNatClampNeg))], (gSh, σ, u)) rfl ?_
    cases hP
    exact hG.2.1 _ _ rfl rfl⟩
def p_Packing_sharedNets_6 (E : gEv) (l1 : Int32) (l2 : Int32) (l3 : Int32) (σ : gS) : Option ((Int32 × Int32) ⊕ (Int32)) :=
  if ((l1 + (1 : Int32)) * (5 : Int32)) ≤ l3 then (some (.inr l2)) else (if gIn l3 (σ.2.1 65) then if (σ.1 65 l3.toNatClampNeg) = ((-1) : Int32) then (gLet (l3 + 1) fun x2 => some (.inl (l2, x2))) else (if gIn l3 (σ.2.1 65) then if gIn (σ.1 65 l3.toNatClampNeg) (σ.2.1 66) then if (σ.1 66 (σ.1 65 l3.toNatClampNeg).toNatClampNeg) = (σ.1 53 16) then (gLet (l2 + 1) fun x3 => gLet (l3 + 1) fun x4 => some (.inl (x3, x4))) else (gLet (l3 + 1) fun x5 => some (.inl (l2, x5))) else none else none) else none)
set_option maxRecDepth 20000 in
theorem b_Packing_sharedNets_6 (E : gEv) (d u : Nat) {G : gFr → Prop} {vo : Option Value} {sr : gS} (hG : gClo E gDf gP8 gY95 (some .int) (gC E gDf gMs (d + 0)) (vo, (gSh, sr, u)) G) (l1 : Int32) (l2 : Int32) (l3 : Int32) (σ : gS) {r : (Int32 × Int32) ⊕ (Int32)} (hP : p_Packing_sharedNets_6 E l1 l2 l3 σ = some r) (K1 : ∀ (m2 : Int32) (m3 : Int32), r = .inl (m2, m3) → G (6, [some (.ref 53), some (.int l1), some (.int m2), some (.int m3)], [], (gSh, σ, u))) (K2 : ∀ (m2 : Int32), r = .inr m2 → G (52, [none, none, some (.int m2), none], [], (gSh, σ, u))) : G (6, [some (.ref 53), some (.int l1), some (.int l2), some (.int l3)], [], (gSh, σ, u)) := by
  unfold p_Packing_sharedNets_6 at hP
  refine gRunN_ok hG.1 6 _ (12, [some (.ref 53), some (.int l1), some (.int l2), some (.int l3)], [.int ((l1 + (1 : Int32)) * (5 : Int32)), .int l3], (gSh, σ, u)) rfl ?_
  rcases g_ite hP with ⟨hc, hP⟩ | ⟨hc, hP⟩
  · refine hG.1 _ (52, [some (.ref 53), some (.int l1), some (.int l2), some (.int l3)], [], (gSh, σ, u)) _ rfl (if_pos hc) ?_
    refine hG.2.2.2.2.1 _ _ [none, none, some (.int l2), none] _ _ ⟨rfl, trivial⟩ ?_
    cases hP
    exact K2 _ rfl
  · refine hG.1 _ (15, [some (.ref 53), some (.int l1), some (.int l2), some (.int l3)], [], (gSh, σ, u)) _ rfl (if_neg hc) ?_
    refine gRunN_ok hG.1 3 _ (20, [some (.ref 53), some (.int l1), some (.int l2), some (.int l3)], [.int l3, .ref 65], (gSh, σ, u)) rfl ?_
    obtain ⟨hc, hP⟩ := g_if hP
    refine hG.1 _ (21, [some (.ref 53), some (.int l1), some (.int l2), some (.int l3)], [.int (σ.1 65 l3.toNatClampNeg)], (gSh, σ, u)) _ rfl (if_pos hc) ?_
    refine gRunN_ok hG.1 1 _ (22, [some (.ref 53), some (.int l1), some (.int l2), some (.int l3)], [.int (-1), .int (σ.1 65 l3.toNatClampNeg)], (gSh, σ, u)) rfl ?_
    rcases g_ite hP with ⟨hc, hP⟩ | ⟨hc, hP⟩
    · refine hG.1 _ (46, [some (.ref 53), some (.int l1), some (.int l2), some (.int l3)], [], (gSh, σ, u)) _ rfl (if_pos hc) ?_
      refine gRunN_ok hG.1 1 _ (49, [some (.ref 53), some (.int l1), some (.int l2), some (.int (l3 + 1))], [], (gSh, σ, u)) rfl ?_
      obtain ⟨x2, ex2, hP⟩ := g_let hP
      rw [← ex2]
      refine gRunN_ok hG.1 1 _ (6, [some (.ref 53), some (.int l1), some (.int l2), some (.int x2)], [], (gSh, σ, u)) rfl ?_
      cases hP
      exact K1 _ _ rfl
    · refine hG.1 _ (25, [some (.ref 53), some (.int l1), some (.int l2), some (.int l3)], [], (gSh, σ, u)) _ rfl (if_neg hc) ?_
      refine gRunN_ok hG.1 5 _ (34, [some (.ref 53), some (.int l1), some (.int l2), some (.int l3)], [.int l3, .ref 65, .ref 66], (gSh, σ, u)) rfl ?_
      obtain ⟨hc, hP⟩ := g_if hP
      refine hG.1 _ (35, [some (.ref 53), some (.int l1), some (.int l2), some (.int l3)], [.int (σ.1 65 l3.toNatClampNeg), .ref 66], (gSh, σ, u)) _ rfl (if_pos hc) ?_
      obtain ⟨hc, hP⟩ := g_if hP
      refine hG.1 _ (36, [some (.ref 53), some (.int l1), some (.int l2), some (.int l3)], [.int (σ.1 66 (σ.1 65 l3.toNatClampNeg).toNatClampNeg)], (gSh, σ, u)) _ rfl (if_pos hc) ?_
      refine gRunN_ok hG.1 2 _ (40, [some (.ref 53), some (.int l1), some (.int l2), some (.int l3)], [.int (σ.1 53 16), .int (σ.1 66 (σ.1 65 l3.toNatClampNeg).toNatClampNeg)], (gSh, σ, u)) rfl ?_
      rcases g_ite hP with ⟨hc, hP⟩ | ⟨hc, hP⟩
      · refine hG.1 _ (43, [some (.ref 53), some (.int l1), some (.int l2), some (.int l3)], [], (gSh, σ, u)) _ rfl (if_pos hc) ?_
        refine gRunN_ok hG.1 1 _ (46, [some (.ref 53), some (.int l1), some (.int (l2 + 1)), some (.int l3)], [], (gSh, σ, u)) rfl ?_
        obtain ⟨x3, ex3, hP⟩ := g_let hP
        rw [← ex3]
        refine gRunN_ok hG.1 1 _ (49, [some (.ref 53), some (.int l1), some (.int x3), some (.int (l3 + 1))], [], (gSh, σ, u)) rfl ?_
        obtain ⟨x4, ex4, hP⟩ := g_let hP
        rw [← ex4]
        refine gRunN_ok hG.1 1 _ (6, [some (.ref 53), some (.int l1), some (.int x3), some (.int x4)], [], (gSh, σ, u)) rfl ?_
        cases hP
        exact K1 _ _ rfl
      · refine hG.1 _ (46, [some (.ref 53), some (.int l1), some (.int l2), some (.int l3)], [], (gSh, σ, u)) _ rfl (if_neg hc) ?_
        refine gRunN_ok hG.1 1 _ (49, [some (.ref 53), some (.int l1), some (.int l2), some (.int (l3 + 1))], [], (gSh, σ, u)) rfl ?_
        obtain ⟨x5, ex5, hP⟩ := g_let hP
        rw [← ex5]
        refine gRunN_ok hG.1 1 _ (6, [some (.ref 53), some (.int l1), some (.int l2), some (.int x5)], [], (gSh, σ, u)) rfl ?_
        cases hP
        exact K1 _ _ rfl
theorem l_Packing_sharedNets_6 (E : gEv) (d u : Nat) {G : gFr → Prop} {vo : Option Value} {sr : gS} (hG : gClo E gDf gP8 gY95 (some .int) (gC E gDf gMs (d + 0)) (vo, (gSh, sr, u)) G) (l1 : Int32) (σ : gS) : ∀ (n : Nat) (l2 : Int32) (l3 : Int32) (e : (Int32)), gIter (fun z => p_Packing_sharedNets_6 E l1 z.1 z.2 σ) n (l2, l3) = some e → (∀ (m2 : Int32), e = m2 → G (52, [none, none, some (.int m2), none], [], (gSh, σ, u))) → G (6, [some (.ref 53), some (.int l1), some (.int l2), some (.int l3)], [], (gSh, σ, u)) := by
  intro n
  induction n with
  | zero => intro l2 l3 e h; cases h
  | succ n ih =>
    intro l2 l3 e h K2
    rcases g_iter h with ⟨z, h1, h2⟩ | h1
    · exact b_Packing_sharedNets_6 E d u hG l1 l2 l3 σ h1 (fun n0 n1 hz => by cases hz; exact ih _ _ e h2 K2) (fun _ hz => by cases hz)
    · exact b_Packing_sharedNets_6 E d u hG l1 l2 l3 σ h1 (fun _ _ hz => by cases hz) (fun m2 hz => K2 m2 (by cases hz; rfl))
def p_Packing_sharedNets (E : gEv) (a0 : Int32) (σ : gS) : Option (Int32) :=
  gLet (a0 * (5 : Int32)) fun x1 => gB1 (gIter (fun z => p_Packing_sharedNets_6 E a0 z.1 z.2 σ) gN (0, x1)) fun e6 => (fun w7 => some w7) e6
set_option maxRecDepth 20000 in
theorem c_Packing_sharedNets (E : gEv) (d u : Nat) (a0 : Int32) (σ : gS) {v : Int32}  (hq : p_Packing_sharedNets E a0 σ = some v) : gC E gDf gMs (d + 1) 95 [.ref 53, .int a0] (gSh, σ, u) (some (.int v), (gSh, σ, u)) := ⟨gM95, rfl, Nat.le_of_ble_eq_true rfl, fun G hG => by
  have hP := hq
  unfold p_Packing_sharedNets at hP
  replace hG : gClo E gDf gP8 gY95 (some .int) (gC E gDf gMs (d + 0)) (some (.int v), (gSh, σ, u)) G := hG
  show G (0, [some (.ref 53), some (.int a0), none, none], [], (gSh, σ, u))
  refine gRunN_ok hG.1 6 _ (6, [some (.ref 53), some (.int a0), some (.int 0), some (.int (a0 * (5 : Int32)))], [], (gSh, σ, u)) rfl ?_
  obtain ⟨x1, ex1, hP⟩ := g_let hP
  rw [← ex1]
  obtain ⟨e6, hq, hP⟩ := g_b1 hP
  refine l_Packing_sharedNets_6 E d u hG a0 σ gN 0 x1 _ hq (fun w7 he => ?_)
  · replace he := he.symm
    subst he
    try dsimp only [gSum] at hP
    refine gRunN_ok hG.1 1 _ (53, [none, none, some (.int w7), none], [.int w7], (gSh, σ, u)) rfl ?_
    cases hP
    exact hG.2.1 _ _ rfl rfl⟩
def p_Packing_join_36 (E : gEv) (l1 : Int32) (l3 : Int32) (σ : gS) : Option ((Int32 × gS) ⊕ (gS)) :=
  if ((l1 + (1 : Int32)) * (5 : Int32)) ≤ l3 then (some (.inr σ)) else (if gIn l3 (σ.2.1 65) then if (σ.1 65 l3.toNatClampNeg) = ((-1) : Int32) then (gLet (l3 + 1) fun x4 => some (.inl (x4, σ))) else (if gIn l3 (σ.2.1 65) then if gIn (σ.1 65 l3.toNatClampNeg) (σ.2.1 66) then gLet (gPut σ 66 (σ.1 65 l3.toNatClampNeg).toNatClampNeg (σ.1 53 16)) fun s5 => gLet (l3 + 1) fun x6 => some (.inl (x6, s5)) else none else none) else none)
set_option maxRecDepth 20000 in
theorem b_Packing_join_36 (E : gEv) (d u : Nat) {G : gFr → Prop} {vo : Option Value} {sr : gS} (hG : gClo E gDf gP8 gY96 none (gC E gDf gMs (d + 0)) (vo, (gSh, sr, u)) G) (l1 : Int32) (l3 : Int32) (σ : gS) {r : (Int32 × gS) ⊕ (gS)} (hP : p_Packing_join_36 E l1 l3 σ = some r) (K1 : ∀ (m3 : Int32) (σ1 : gS), r = .inl (m3, σ1) → G (36, [some (.ref 53), some (.int l1), none, some (.int m3)], [], (gSh, σ1, u))) (K2 : ∀ (σ1 : gS), r = .inr σ1 → G (76, [none, none, none, none], [], (gSh, σ1, u))) : G (36, [some (.ref 53), some (.int l1), none, some (.int l3)], [], (gSh, σ, u)) := by
  unfold p_Packing_join_36 at hP
  refine gRunN_ok hG.1 6 _ (42, [some (.ref 53), some (.int l1), none, some (.int l3)], [.int ((l1 + (1 : Int32)) * (5 : Int32)), .int l3], (gSh, σ, u)) rfl ?_
  rcases g_ite hP with ⟨hc, hP⟩ | ⟨hc, hP⟩
  · refine hG.1 _ (76, [some (.ref 53), some (.int l1), none, some (.int l3)], [], (gSh, σ, u)) _ rfl (if_pos hc) ?_
    refine hG.2.2.2.2.1 _ _ [none, none, none, none] _ _ trivial ?_
    cases hP
    exact K2 _ rfl
  · refine hG.1 _ (45, [some (.ref 53), some (.int l1), none, some (.int l3)], [], (gSh, σ, u)) _ rfl (if_neg hc) ?_
    refine gRunN_ok hG.1 3 _ (50, [some (.ref 53), some (.int l1), none, some (.int l3)], [.int l3, .ref 65], (gSh, σ, u)) rfl ?_
    obtain ⟨hc, hP⟩ := g_if hP
    refine hG.1 _ (51, [some (.ref 53), some (.int l1), none, some (.int l3)], [.int (σ.1 65 l3.toNatClampNeg)], (gSh, σ, u)) _ rfl (if_pos hc) ?_
    refine gRunN_ok hG.1 1 _ (52, [some (.ref 53), some (.int l1), none, some (.int l3)], [.int (-1), .int (σ.1 65 l3.toNatClampNeg)], (gSh, σ, u)) rfl ?_
    rcases g_ite hP with ⟨hc, hP⟩ | ⟨hc, hP⟩
    · refine hG.1 _ (70, [some (.ref 53), some (.int l1), none, some (.int l3)], [], (gSh, σ, u)) _ rfl (if_pos hc) ?_
      refine gRunN_ok hG.1 1 _ (73, [some (.ref 53), some (.int l1), none, some (.int (l3 + 1))], [], (gSh, σ, u)) rfl ?_
      obtain ⟨x4, ex4, hP⟩ := g_let hP
      rw [← ex4]
      refine gRunN_ok hG.1 1 _ (36, [some (.ref 53), some (.int l1), none, some (.int x4)], [], (gSh, σ, u)) rfl ?_
      cases hP
      exact K1 _ _ rfl
    · refine hG.1 _ (55, [some (.ref 53), some (.int l1), none, some (.int l3)], [], (gSh, σ, u)) _ rfl (if_neg hc) ?_
      refine gRunN_ok hG.1 5 _ (64, [some (.ref 53), some (.int l1), none, some (.int l3)], [.int l3, .ref 65, .ref 66], (gSh, σ, u)) rfl ?_
      obtain ⟨hc, hP⟩ := g_if hP
      refine hG.1 _ (65, [some (.ref 53), some (.int l1), none, some (.int l3)], [.int (σ.1 65 l3.toNatClampNeg), .ref 66], (gSh, σ, u)) _ rfl (if_pos hc) ?_
      refine gRunN_ok hG.1 2 _ (69, [some (.ref 53), some (.int l1), none, some (.int l3)], [.int (σ.1 53 16), .int (σ.1 65 l3.toNatClampNeg), .ref 66], (gSh, σ, u)) rfl ?_
      obtain ⟨hc, hP⟩ := g_if hP
      refine hG.1 _ (70, [some (.ref 53), some (.int l1), none, some (.int l3)], [], (gSh, (gPut σ 66 (σ.1 65 l3.toNatClampNeg).toNatClampNeg (σ.1 53 16)), u)) _ rfl (if_pos hc) ?_
      obtain ⟨s5, es5, hP⟩ := g_let hP
      rw [← es5]
      refine gRunN_ok hG.1 1 _ (73, [some (.ref 53), some (.int l1), none, some (.int (l3 + 1))], [], (gSh, s5, u)) rfl ?_
      obtain ⟨x6, ex6, hP⟩ := g_let hP
      rw [← ex6]
      refine gRunN_ok hG.1 1 _ (36, [some (.ref 53), some (.int l1), none, some (.int x6)], [], (gSh, s5, u)) rfl ?_
      cases hP
      exact K1 _ _ rfl
theorem l_Packing_join_36 (E : gEv) (d u : Nat) {G : gFr → Prop} {vo : Option Value} {sr : gS} (hG : gClo E gDf gP8 gY96 none (gC E gDf gMs (d + 0)) (vo, (gSh, sr, u)) G) (l1 : Int32) : ∀ (n : Nat) (l3 : Int32) (σ : gS) (e : (gS)), gIter (fun z => p_Packing_join_36 E l1 z.1 z.2) n (l3, σ) = some e → (∀ (σ1 : gS), e = σ1 → G (76, [none, none, none, none], [], (gSh, σ1, u))) → G (36, [some (.ref 53), some (.int l1), none, some (.int l3)], [], (gSh, σ, u)) := by
  intro n
  induction n with
  | zero => intro l3 σ e h; cases h
  | succ n ih =>
    intro l3 σ e h K2
    rcases g_iter h with ⟨z, h1, h2⟩ | h1
    · exact b_Packing_join_36 E d u hG l1 l3 σ h1 (fun n0 n1 hz => by cases hz; exact ih _ _ e h2 K2) (fun _ hz => by cases hz)
    · exact b_Packing_join_36 E d u hG l1 l3 σ h1 (fun _ _ hz => by cases hz) (fun σ1 hz => K2 σ1 (by cases hz; rfl))
def p_Packing_join (E : gEv) (a0 : Int32) (a1 : Int32) (σ : gS) : Option (gS) :=
  if a0 < 0 then (some σ) else (if a0 < (σ.1 53 15) then (if gIn a0 (σ.2.1 56) then gLet (gPut σ 56 a0.toNatClampNeg ((σ.1 53 16) - (1 : Int32))) fun s1 => if gIn a0 (s1.2.1 57) then gLet (gPut s1 57 a0.toNatClampNeg a1) fun s2 => gLet (a0 * (5 : Int32)) fun x3 => gB1 (gIter (fun z => p_Packing_join_36 E a0 z.1 z.2) gN (x3, s2)) fun e7 => (fun s8 => some s8) e7 else none else none) else (some σ))
set_option maxRecDepth 20000 in
theorem c_Packing_join (E : gEv) (d u : Nat) (a0 : Int32) (a1 : Int32) (σ : gS) {sr : gS}  (hq : p_Packing_join E a0 a1 σ = some sr) : gC E gDf gMs (d + 1) 96 [.ref 53, .int a0, .int a1] (gSh, σ, u) (none, (gSh, sr, u)) := ⟨gM96, rfl, Nat.le_of_ble_eq_true rfl, fun G hG => by
  have hP := hq
  unfold p_Packing_join at hP
  replace hG : gClo E gDf gP8 gY96 none (gC E gDf gMs (d + 0)) (none, (gSh, sr, u)) G := hG
  show G (0, [some (.ref 53), some (.int a0), some (.int a1), none], [], (gSh, σ, u))
  refine gRunN_ok hG.1 1 _ (1, [some (.ref 53), some (.int a0), some (.int a1), none], [.int a0], (gSh, σ, u)) rfl ?_
  rcases g_ite hP with ⟨hc, hP⟩ | ⟨hc, hP⟩
  · refine hG.1 _ (12, [some (.ref 53), some (.int a0), some (.int a1), none], [], (gSh, σ, u)) _ rfl (if_pos hc) ?_
    cases hP
    exact hG.2.1 _ _ rfl rfl
  · refine hG.1 _ (4, [some (.ref 53), some (.int a0), some (.int a1), none], [], (gSh, σ, u)) _ rfl (if_neg hc) ?_
    refine gRunN_ok hG.1 3 _ (9, [some (.ref 53), some (.int a0), some (.int a1), none], [.int (σ.1 53 15), .int a0], (gSh, σ, u)) rfl ?_
    rcases g_ite hP with ⟨hc, hP⟩ | ⟨hc, hP⟩
    · refine hG.1 _ (13, [some (.ref 53), some (.int a0), some (.int a1), none], [], (gSh, σ, u)) _ rfl (if_pos hc) ?_
      refine gRunN_ok hG.1 7 _ (24, [some (.ref 53), some (.int a0), some (.int a1), none], [.int ((σ.1 53 16) - (1 : Int32)), .int a0, .ref 56], (gSh, σ, u)) rfl ?_
      obtain ⟨hc, hP⟩ := g_if hP
      refine hG.1 _ (25, [some (.ref 53), some (.int a0), some (.int a1), none], [], (gSh, (gPut σ 56 a0.toNatClampNeg ((σ.1 53 16) - (1 : Int32))), u)) _ rfl (if_pos hc) ?_
      obtain ⟨s1, es1, hP⟩ := g_let hP
      rw [← es1]
      refine gRunN_ok hG.1 4 _ (31, [some (.ref 53), some (.int a0), some (.int a1), none], [.int a1, .int a0, .ref 57], (gSh, s1, u)) rfl ?_
      obtain ⟨hc, hP⟩ := g_if hP
      refine hG.1 _ (32, [some (.ref 53), some (.int a0), some (.int a1), none], [], (gSh, (gPut s1 57 a0.toNatClampNeg a1), u)) _ rfl (if_pos hc) ?_
      obtain ⟨s2, es2, hP⟩ := g_let hP
      rw [← es2]
      refine gRunN_ok hG.1 4 _ (36, [some (.ref 53), some (.int a0), some (.int a1), some (.int (a0 * (5 : Int32)))], [], (gSh, s2, u)) rfl ?_
      obtain ⟨x3, ex3, hP⟩ := g_let hP
      rw [← ex3]
      refine hG.2.2.2.2.1 _ _ [some (.ref 53), some (.int a0), none, some (.int x3)] _ _ ⟨rfl, ⟨rfl, ⟨rfl, trivial⟩⟩⟩ ?_
      obtain ⟨e7, hq, hP⟩ := g_b1 hP
      refine l_Packing_join_36 E d u hG a0 gN x3 s2 _ hq (fun s8 he => ?_)
      · replace he := he.symm
        subst he
        try dsimp only [gSum] at hP
        cases hP
        exact hG.2.1 _ _ rfl rfl
    · refine hG.1 _ (12, [some (.ref 53), some (.int a0), some (.int a1), none], [], (gSh, σ, u)) _ rfl (if_neg hc) ?_
      cases hP
      exact hG.2.1 _ _ rfl rfl⟩
def p_Packing_elementMaking (E : gEv) (a0 : Int32) (σ : gS) : Option (Int32) :=
  if (400 : Int32) ≤ a0 then (some (a0 - (400 : Int32))) else (if gIn (a0 - (200 : Int32)) (σ.2.1 54) then some (σ.1 54 (a0 - (200 : Int32)).toNatClampNeg) else none)
set_option maxRecDepth 20000 in
theorem c_Packing_elementMaking (E : gEv) (d u : Nat) (a0 : Int32) (σ : gS) {v : Int32}  (hq : p_Packing_elementMaking E a0 σ = some v) : gC E gDf gMs (d + 1) 98 [.ref 53, .int a0] (gSh, σ, u) (some (.int v), (gSh, σ, u)) := ⟨gM98, rfl, Nat.le_of_ble_eq_true rfl, fun G hG => by
  have hP := hq
  unfold p_Packing_elementMaking at hP
  replace hG : gClo E gDf gP8 gY98 (some .int) (gC E gDf gMs (d + 0)) (some (.int v), (gSh, σ, u)) G := hG
  show G (0, [some (.ref 53), some (.int a0)], [], (gSh, σ, u))
  refine gRunN_ok hG.1 2 _ (4, [some (.ref 53), some (.int a0)], [.int 400, .int a0], (gSh, σ, u)) rfl ?_
  rcases g_ite hP with ⟨hc, hP⟩ | ⟨hc, hP⟩
  · refine hG.1 _ (20, [some (.ref 53), some (.int a0)], [], (gSh, σ, u)) _ rfl (if_pos hc) ?_
    refine gRunN_ok hG.1 3 _ (25, [some (.ref 53), some (.int a0)], [.int (a0 - (400 : Int32))], (gSh, σ, u)) rfl ?_
    cases hP
    exact hG.2.1 _ _ rfl rfl
  · refine hG.1 _ (7, [some (.ref 53), some (.int a0)], [], (gSh, σ, u)) _ rfl (if_neg hc) ?_
    refine gRunN_ok hG.1 5 _ (16, [some (.ref 53), some (.int a0)], [.int (a0 - (200 : Int32)), .ref 54], (gSh, σ, u)) rfl ?_
    obtain ⟨hc, hP⟩ := g_if hP
    refine hG.1 _ (17, [some (.ref 53), some (.int a0)], [.int (σ.1 54 (a0 - (200 : Int32)).toNatClampNeg)], (gSh, σ, u)) _ rfl (if_pos hc) ?_
    refine gRunN_ok hG.1 1 _ (25, [some (.ref 53), some (.int a0)], [.int (σ.1 54 (a0 - (200 : Int32)).toNatClampNeg)], (gSh, σ, u)) rfl ?_
    cases hP
    exact hG.2.1 _ _ rfl rfl⟩
def p_Packing_isPin (E : gEv) (a0 : Int32) (σ : gS) : Option (Int32) :=
  if gIn a0 (σ.2.1 63) then if ((σ.1 1 6) * (4 : Int32)) ≤ (σ.1 63 a0.toNatClampNeg) then (some 0) else (some 1) else none
set_option maxRecDepth 20000 in
theorem c_Packing_isPin (E : gEv) (d u : Nat) (a0 : Int32) (σ : gS) {v : Int32}  (hq : p_Packing_isPin E a0 σ = some v) : gC E gDf gMs (d + 1) 99 [.ref 53, .int a0] (gSh, σ, u) (some (.int v), (gSh, σ, u)) := ⟨gM99, rfl, Nat.le_of_ble_eq_true rfl, fun G hG => by
  have hP := hq
  unfold p_Packing_isPin at hP
  replace hG : gClo E gDf gP8 gY99 (some .boolean) (gC E gDf gMs (d + 0)) (some (.int v), (gSh, σ, u)) G := hG
  show G (0, [some (.ref 53), some (.int a0)], [], (gSh, σ, u))
  refine gRunN_ok hG.1 3 _ (5, [some (.ref 53), some (.int a0)], [.int a0, .ref 63], (gSh, σ, u)) rfl ?_
  obtain ⟨hc, hP⟩ := g_if hP
  refine hG.1 _ (6, [some (.ref 53), some (.int a0)], [.int (σ.1 63 a0.toNatClampNeg)], (gSh, σ, u)) _ rfl (if_pos hc) ?_
  refine gRunN_ok hG.1 5 _ (15, [some (.ref 53), some (.int a0)], [.int ((σ.1 1 6) * (4 : Int32)), .int (σ.1 63 a0.toNatClampNeg)], (gSh, σ, u)) rfl ?_
  rcases g_ite hP with ⟨hc, hP⟩ | ⟨hc, hP⟩
  · refine hG.1 _ (22, [some (.ref 53), some (.int a0)], [], (gSh, σ, u)) _ rfl (if_pos hc) ?_
    refine gRunN_ok hG.1 1 _ (23, [some (.ref 53), some (.int a0)], [.int 0], (gSh, σ, u)) rfl ?_
    cases hP
    exact hG.2.1 _ _ rfl rfl
  · refine hG.1 _ (18, [some (.ref 53), some (.int a0)], [], (gSh, σ, u)) _ rfl (if_neg hc) ?_
    refine gRunN_ok hG.1 2 _ (23, [some (.ref 53), some (.int a0)], [.int 1], (gSh, σ, u)) rfl ?_
    cases hP
    exact hG.2.1 _ _ rfl rfl⟩
def p_Placing_set (E : gEv) (a0 : Int32) (a1 : Int32) (σ : gS) : Option (gS) :=
  if gIn a0 (σ.2.1 68) then gLet (gPut σ 68 a0.toNatClampNeg a1) fun s1 => if a1 = ((-1) : Int32) then (some s1) else (if gIn a1 (s1.2.1 69) then gLet (gPut s1 69 a1.toNatClampNeg a0) fun s2 => some s2 else none) else none
set_option maxRecDepth 20000 in
theorem c_Placing_set (E : gEv) (d u : Nat) (a0 : Int32) (a1 : Int32) (σ : gS) {sr : gS}  (hq : p_Placing_set E a0 a1 σ = some sr) : gC E gDf gMs (d + 1) 101 [.ref 67, .int a0, .int a1] (gSh, σ, u) (none, (gSh, sr, u)) := ⟨gM101, rfl, Nat.le_of_ble_eq_true rfl, fun G hG => by
  have hP := hq
  unfold p_Placing_set at hP
  replace hG : gClo E gDf gP9 gY101 none (gC E gDf gMs (d + 0)) (none, (gSh, sr, u)) G := hG
  show G (0, [some (.ref 67), some (.int a0), some (.int a1)], [], (gSh, σ, u))
  refine gRunN_ok hG.1 4 _ (6, [some (.ref 67), some (.int a0), some (.int a1)], [.int a1, .int a0, .ref 68], (gSh, σ, u)) rfl ?_
  obtain ⟨hc, hP⟩ := g_if hP
  refine hG.1 _ (7, [some (.ref 67), some (.int a0), some (.int a1)], [], (gSh, (gPut σ 68 a0.toNatClampNeg a1), u)) _ rfl (if_pos hc) ?_
  obtain ⟨s1, es1, hP⟩ := g_let hP
  rw [← es1]
  refine gRunN_ok hG.1 2 _ (9, [some (.ref 67), some (.int a0), some (.int a1)], [.int (-1), .int a1], (gSh, s1, u)) rfl ?_
  rcases g_ite hP with ⟨hc, hP⟩ | ⟨hc, hP⟩
  · refine hG.1 _ (19, [some (.ref 67), some (.int a0), some (.int a1)], [], (gSh, s1, u)) _ rfl (if_pos hc) ?_
    cases hP
    exact hG.2.1 _ _ rfl rfl
  · refine hG.1 _ (12, [some (.ref 67), some (.int a0), some (.int a1)], [], (gSh, s1, u)) _ rfl (if_neg hc) ?_
    refine gRunN_ok hG.1 4 _ (18, [some (.ref 67), some (.int a0), some (.int a1)], [.int a0, .int a1, .ref 69], (gSh, s1, u)) rfl ?_
    obtain ⟨hc, hP⟩ := g_if hP
    refine hG.1 _ (19, [some (.ref 67), some (.int a0), some (.int a1)], [], (gSh, (gPut s1 69 a1.toNatClampNeg a0), u)) _ rfl (if_pos hc) ?_
    obtain ⟨s2, es2, hP⟩ := g_let hP
    rw [← es2]
    cases hP
    exact hG.2.1 _ _ rfl rfl⟩
def p_Placing_lengthOf_54 (E : gEv) (l1 : Int32) (l3 : Int32) (l4 : Int32) (l5 : Int32) (l6 : Int32) (l7 : Int32) (σ : gS) : Option ((Int32 × Int32 × Int32 × Int32 × Int32) ⊕ (Int32 × Int32 × Int32 × Int32)) :=
  if gIn (l1 + (1 : Int32)) (σ.2.1 62) then if (σ.1 62 (l1 + (1 : Int32)).toNatClampNeg) ≤ l7 then (some (.inr (l3, l4, l5, l6))) else (if gIn l7 (σ.2.1 64) then if gIn (σ.1 64 l7.toNatClampNeg) (σ.2.1 69) then gLet (σ.1 69 (σ.1 64 l7.toNatClampNeg).toNatClampNeg) fun x5 => if gIn x5 (σ.2.1 2) then gLet (if (σ.1 2 x5.toNatClampNeg) < l3 then (σ.1 2 x5.toNatClampNeg) else l3) fun x6 => if gIn x5 (σ.2.1 2) then gLet (if l4 < (σ.1 2 x5.toNatClampNeg) then (σ.1 2 x5.toNatClampNeg) else l4) fun x7 => if gIn x5 (σ.2.1 3) then gLet (if (σ.1 3 x5.toNatClampNeg) < l5 then (σ.1 3 x5.toNatClampNeg) else l5) fun x8 => if gIn x5 (σ.2.1 3) then gLet (if l6 < (σ.1 3 x5.toNatClampNeg) then (σ.1 3 x5.toNatClampNeg) else l6) fun x9 => gLet (l7 + 1) fun x10 => some (.inl (x6, x7, x8, x9, x10)) else none else none else none else none else none else none) else none
set_option maxRecDepth 20000 in
theorem b_Placing_lengthOf_54 (E : gEv) (d u : Nat) {G : gFr → Prop} {vo : Option Value} {sr : gS} (hG : gClo E gDf gP9 gY103 (some .int) (gC E gDf gMs (d + 0)) (vo, (gSh, sr, u)) G) (l1 : Int32) (l3 : Int32) (l4 : Int32) (l5 : Int32) (l6 : Int32) (l7 : Int32) (σ : gS) {r : (Int32 × Int32 × Int32 × Int32 × Int32) ⊕ (Int32 × Int32 × Int32 × Int32)} (hP : p_Placing_lengthOf_54 E l1 l3 l4 l5 l6 l7 σ = some r) (K1 : ∀ (m3 : Int32) (m4 : Int32) (m5 : Int32) (m6 : Int32) (m7 : Int32), r = .inl (m3, m4, m5, m6, m7) → G (54, [some (.ref 67), some (.int l1), none, some (.int m3), some (.int m4), some (.int m5), some (.int m6), some (.int m7), none], [], (gSh, σ, u))) (K2 : ∀ (m3 : Int32) (m4 : Int32) (m5 : Int32) (m6 : Int32), r = .inr (m3, m4, m5, m6) → G (159, [none, none, none, some (.int m3), some (.int m4), some (.int m5), some (.int m6), none, none], [], (gSh, σ, u))) : G (54, [some (.ref 67), some (.int l1), none, some (.int l3), some (.int l4), some (.int l5), some (.int l6), some (.int l7), none], [], (gSh, σ, u)) := by
  unfold p_Placing_lengthOf_54 at hP
  refine gRunN_ok hG.1 7 _ (66, [some (.ref 67), some (.int l1), none, some (.int l3), some (.int l4), some (.int l5), some (.int l6), some (.int l7), none], [.int (l1 + (1 : Int32)), .ref 62, .int l7], (gSh, σ, u)) rfl ?_
  obtain ⟨hc, hP⟩ := g_if hP
  refine hG.1 _ (67, [some (.ref 67), some (.int l1), none, some (.int l3), some (.int l4), some (.int l5), some (.int l6), some (.int l7), none], [.int (σ.1 62 (l1 + (1 : Int32)).toNatClampNeg), .int l7], (gSh, σ, u)) _ rfl (if_pos hc) ?_
  rcases g_ite hP with ⟨hc, hP⟩ | ⟨hc, hP⟩
  · refine hG.1 _ (159, [some (.ref 67), some (.int l1), none, some (.int l3), some (.int l4), some (.int l5), some (.int l6), some (.int l7), none], [], (gSh, σ, u)) _ rfl (if_pos hc) ?_
    refine hG.2.2.2.2.1 _ _ [none, none, none, some (.int l3), some (.int l4), some (.int l5), some (.int l6), none, none] _ _ ⟨rfl, ⟨rfl, ⟨rfl, ⟨rfl, trivial⟩⟩⟩⟩ ?_
    cases hP
    exact K2 _ _ _ _ rfl
  · refine hG.1 _ (70, [some (.ref 67), some (.int l1), none, some (.int l3), some (.int l4), some (.int l5), some (.int l6), some (.int l7), none], [], (gSh, σ, u)) _ rfl (if_neg hc) ?_
    refine gRunN_ok hG.1 6 _ (83, [some (.ref 67), some (.int l1), none, some (.int l3), some (.int l4), some (.int l5), some (.int l6), some (.int l7), none], [.int l7, .ref 64, .ref 69], (gSh, σ, u)) rfl ?_
    obtain ⟨hc, hP⟩ := g_if hP
    refine hG.1 _ (84, [some (.ref 67), some (.int l1), none, some (.int l3), some (.int l4), some (.int l5), some (.int l6), some (.int l7), none], [.int (σ.1 64 l7.toNatClampNeg), .ref 69], (gSh, σ, u)) _ rfl (if_pos hc) ?_
    obtain ⟨hc, hP⟩ := g_if hP
    refine hG.1 _ (85, [some (.ref 67), some (.int l1), none, some (.int l3), some (.int l4), some (.int l5), some (.int l6), some (.int l7), none], [.int (σ.1 69 (σ.1 64 l7.toNatClampNeg).toNatClampNeg)], (gSh, σ, u)) _ rfl (if_pos hc) ?_
    refine gRunN_ok hG.1 1 _ (87, [some (.ref 67), some (.int l1), none, some (.int l3), some (.int l4), some (.int l5), some (.int l6), some (.int l7), some (.int (σ.1 69 (σ.1 64 l7.toNatClampNeg).toNatClampNeg))], [], (gSh, σ, u)) rfl ?_
    obtain ⟨x5, ex5, hP⟩ := g_let hP
    rw [← ex5]
    refine gRunN_ok hG.1 5 _ (97, [some (.ref 67), some (.int l1), none, some (.int l3), some (.int l4), some (.int l5), some (.int l6), some (.int l7), some (.int x5)], [.int x5, .ref 2, .int l3], (gSh, σ, u)) rfl ?_
    obtain ⟨hc, hP⟩ := g_if hP
    refine hG.1 _ (98, [some (.ref 67), some (.int l1), none, some (.int l3), some (.int l4), some (.int l5), some (.int l6), some (.int l7), some (.int x5)], [.int (σ.1 2 x5.toNatClampNeg), .int l3], (gSh, σ, u)) _ rfl (if_pos hc) ?_
    refine hG.2.2.2.2.2.2.2 _ _ _ _ _ _ _ _ _ rfl rfl rfl (Nat.le_refl _) (Nat.le_refl _) ?_
    show G (101, [some (.ref 67), some (.int l1), none, some (.int l3), some (.int l4), some (.int l5), some (.int l6), some (.int l7), some (.int x5)], [.int (if (σ.1 2 x5.toNatClampNeg) < l3 then (σ.1 2 x5.toNatClampNeg) else l3)], (gSh, σ, u))
    refine gRunN_ok hG.1 1 _ (102, [some (.ref 67), some (.int l1), none, some (.int (if (σ.1 2 x5.toNatClampNeg) < l3 then (σ.1 2 x5.toNatClampNeg) else l3)), some (.int l4), some (.int l5), some (.int l6), some (.int l7), some (.int x5)], [], (gSh, σ, u)) rfl ?_
    obtain ⟨x6, ex6, hP⟩ := g_let hP
    rw [← ex6]
    refine gRunN_ok hG.1 5 _ (113, [some (.ref 67), some (.int l1), none, some (.int x6), some (.int l4), some (.int l5), some (.int l6), some (.int l7), some (.int x5)], [.int x5, .ref 2, .int l4], (gSh, σ, u)) rfl ?_
    obtain ⟨hc, hP⟩ := g_if hP
    refine hG.1 _ (114, [some (.ref 67), some (.int l1), none, some (.int x6), some (.int l4), some (.int l5), some (.int l6), some (.int l7), some (.int x5)], [.int (σ.1 2 x5.toNatClampNeg), .int l4], (gSh, σ, u)) _ rfl (if_pos hc) ?_
    refine hG.2.2.2.2.2.2.1 _ _ _ _ _ _ _ _ _ rfl rfl rfl (Nat.le_refl _) (Nat.le_refl _) ?_
    show G (117, [some (.ref 67), some (.int l1), none, some (.int x6), some (.int l4), some (.int l5), some (.int l6), some (.int l7), some (.int x5)], [.int (if l4 < (σ.1 2 x5.toNatClampNeg) then (σ.1 2 x5.toNatClampNeg) else l4)], (gSh, σ, u))
    refine gRunN_ok hG.1 1 _ (119, [some (.ref 67), some (.int l1), none, some (.int x6), some (.int (if l4 < (σ.1 2 x5.toNatClampNeg) then (σ.1 2 x5.toNatClampNeg) else l4)), some (.int l5), some (.int l6), some (.int l7), some (.int x5)], [], (gSh, σ, u)) rfl ?_
    obtain ⟨x7, ex7, hP⟩ := g_let hP
    rw [← ex7]
    refine gRunN_ok hG.1 5 _ (130, [some (.ref 67), some (.int l1), none, some (.int x6), some (.int x7), some (.int l5), some (.int l6), some (.int l7), some (.int x5)], [.int x5, .ref 3, .int l5], (gSh, σ, u)) rfl ?_
    obtain ⟨hc, hP⟩ := g_if hP
    refine hG.1 _ (131, [some (.ref 67), some (.int l1), none, some (.int x6), some (.int x7), some (.int l5), some (.int l6), some (.int l7), some (.int x5)], [.int (σ.1 3 x5.toNatClampNeg), .int l5], (gSh, σ, u)) _ rfl (if_pos hc) ?_
    refine hG.2.2.2.2.2.2.2 _ _ _ _ _ _ _ _ _ rfl rfl rfl (Nat.le_refl _) (Nat.le_refl _) ?_
    show G (134, [some (.ref 67), some (.int l1), none, some (.int x6), some (.int x7), some (.int l5), some (.int l6), some (.int l7), some (.int x5)], [.int (if (σ.1 3 x5.toNatClampNeg) < l5 then (σ.1 3 x5.toNatClampNeg) else l5)], (gSh, σ, u))
    refine gRunN_ok hG.1 1 _ (136, [some (.ref 67), some (.int l1), none, some (.int x6), some (.int x7), some (.int (if (σ.1 3 x5.toNatClampNeg) < l5 then (σ.1 3 x5.toNatClampNeg) else l5)), some (.int l6), some (.int l7), some (.int x5)], [], (gSh, σ, u)) rfl ?_
    obtain ⟨x8, ex8, hP⟩ := g_let hP
    rw [← ex8]
    refine gRunN_ok hG.1 5 _ (147, [some (.ref 67), some (.int l1), none, some (.int x6), some (.int x7), some (.int x8), some (.int l6), some (.int l7), some (.int x5)], [.int x5, .ref 3, .int l6], (gSh, σ, u)) rfl ?_
    obtain ⟨hc, hP⟩ := g_if hP
    refine hG.1 _ (148, [some (.ref 67), some (.int l1), none, some (.int x6), some (.int x7), some (.int x8), some (.int l6), some (.int l7), some (.int x5)], [.int (σ.1 3 x5.toNatClampNeg), .int l6], (gSh, σ, u)) _ rfl (if_pos hc) ?_
    refine hG.2.2.2.2.2.2.1 _ _ _ _ _ _ _ _ _ rfl rfl rfl (Nat.le_refl _) (Nat.le_refl _) ?_
    show G (151, [some (.ref 67), some (.int l1), none, some (.int x6), some (.int x7), some (.int x8), some (.int l6), some (.int l7), some (.int x5)], [.int (if l6 < (σ.1 3 x5.toNatClampNeg) then (σ.1 3 x5.toNatClampNeg) else l6)], (gSh, σ, u))
    refine gRunN_ok hG.1 1 _ (153, [some (.ref 67), some (.int l1), none, some (.int x6), some (.int x7), some (.int x8), some (.int (if l6 < (σ.1 3 x5.toNatClampNeg) then (σ.1 3 x5.toNatClampNeg) else l6)), some (.int l7), some (.int x5)], [], (gSh, σ, u)) rfl ?_
    obtain ⟨x9, ex9, hP⟩ := g_let hP
    rw [← ex9]
    refine gRunN_ok hG.1 1 _ (156, [some (.ref 67), some (.int l1), none, some (.int x6), some (.int x7), some (.int x8), some (.int x9), some (.int (l7 + 1)), some (.int x5)], [], (gSh, σ, u)) rfl ?_
    obtain ⟨x10, ex10, hP⟩ := g_let hP
    rw [← ex10]
    refine gRunN_ok hG.1 1 _ (54, [some (.ref 67), some (.int l1), none, some (.int x6), some (.int x7), some (.int x8), some (.int x9), some (.int x10), some (.int x5)], [], (gSh, σ, u)) rfl ?_
    refine hG.2.2.2.2.1 _ _ [some (.ref 67), some (.int l1), none, some (.int x6), some (.int x7), some (.int x8), some (.int x9), some (.int x10), none] _ _ ⟨rfl, ⟨rfl, ⟨rfl, ⟨rfl, ⟨rfl, ⟨rfl, ⟨rfl, trivial⟩⟩⟩⟩⟩⟩⟩ ?_
    cases hP
    exact K1 _ _ _ _ _ rfl
theorem l_Placing_lengthOf_54 (E : gEv) (d u : Nat) {G : gFr → Prop} {vo : Option Value} {sr : gS} (hG : gClo E gDf gP9 gY103 (some .int) (gC E gDf gMs (d + 0)) (vo, (gSh, sr, u)) G) (l1 : Int32) (σ : gS) : ∀ (n : Nat) (l3 : Int32) (l4 : Int32) (l5 : Int32) (l6 : Int32) (l7 : Int32) (e : (Int32 × Int32 × Int32 × Int32)), gIter (fun z => p_Placing_lengthOf_54 E l1 z.1 z.2.1 z.2.2.1 z.2.2.2.1 z.2.2.2.2 σ) n (l3, l4, l5, l6, l7) = some e → (∀ (m3 : Int32) (m4 : Int32) (m5 : Int32) (m6 : Int32), e = (m3, m4, m5, m6) → G (159, [none, none, none, some (.int m3), some (.int m4), some (.int m5), some (.int m6), none, none], [], (gSh, σ, u))) → G (54, [some (.ref 67), some (.int l1), none, some (.int l3), some (.int l4), some (.int l5), some (.int l6), some (.int l7), none], [], (gSh, σ, u)) := by
  intro n
  induction n with
  | zero => intro l3 l4 l5 l6 l7 e h; cases h
  | succ n ih =>
    intro l3 l4 l5 l6 l7 e h K2
    rcases g_iter h with ⟨z, h1, h2⟩ | h1
    · exact b_Placing_lengthOf_54 E d u hG l1 l3 l4 l5 l6 l7 σ h1 (fun n0 n1 n2 n3 n4 hz => by cases hz; exact ih _ _ _ _ _ e h2 K2) (fun _ _ _ _ hz => by cases hz)
    · exact b_Placing_lengthOf_54 E d u hG l1 l3 l4 l5 l6 l7 σ h1 (fun _ _ _ _ _ hz => by cases hz) (fun m3 m4 m5 m6 hz => K2 m3 m4 m5 m6 (by cases hz; rfl))
def p_Placing_lengthOf (E : gEv) (a0 : Int32) (σ : gS) : Option (Int32) :=
  if gIn a0 (σ.2.1 61) then if gIn (σ.1 61 a0.toNatClampNeg) (σ.2.1 69) then gLet (σ.1 69 (σ.1 61 a0.toNatClampNeg).toNatClampNeg) fun x1 => if gIn x1 (σ.2.1 2) then gLet (σ.1 2 x1.toNatClampNeg) fun x2 => if gIn x1 (σ.2.1 3) then gLet (σ.1 3 x1.toNatClampNeg) fun x3 => if gIn a0 (σ.2.1 62) then gLet (σ.1 62 a0.toNatClampNeg) fun x4 => gB1 (gIter (fun z => p_Placing_lengthOf_54 E a0 z.1 z.2.1 z.2.2.1 z.2.2.2.1 z.2.2.2.2 σ) gN (x2, x2, x3, x3, x4)) fun e11 => (fun w12 w13 w14 w15 => some (((w13 - w12) + w15) - w14)) e11.1 e11.2.1 e11.2.2.1 e11.2.2.2 else none else none else none else none else none
set_option maxRecDepth 20000 in
theorem c_Placing_lengthOf (E : gEv) (d u : Nat) (a0 : Int32) (σ : gS) {v : Int32}  (hq : p_Placing_lengthOf E a0 σ = some v) : gC E gDf gMs (d + 1) 103 [.ref 67, .int a0] (gSh, σ, u) (some (.int v), (gSh, σ, u)) := ⟨gM103, rfl, Nat.le_of_ble_eq_true rfl, fun G hG => by
  have hP := hq
  unfold p_Placing_lengthOf at hP
  replace hG : gClo E gDf gP9 gY103 (some .int) (gC E gDf gMs (d + 0)) (some (.int v), (gSh, σ, u)) G := hG
  show G (0, [some (.ref 67), some (.int a0), none, none, none, none, none, none, none], [], (gSh, σ, u))
  refine gRunN_ok hG.1 6 _ (12, [some (.ref 67), some (.int a0), none, none, none, none, none, none, none], [.int a0, .ref 61, .ref 69], (gSh, σ, u)) rfl ?_
  obtain ⟨hc, hP⟩ := g_if hP
  refine hG.1 _ (13, [some (.ref 67), some (.int a0), none, none, none, none, none, none, none], [.int (σ.1 61 a0.toNatClampNeg), .ref 69], (gSh, σ, u)) _ rfl (if_pos hc) ?_
  obtain ⟨hc, hP⟩ := g_if hP
  refine hG.1 _ (14, [some (.ref 67), some (.int a0), none, none, none, none, none, none, none], [.int (σ.1 69 (σ.1 61 a0.toNatClampNeg).toNatClampNeg)], (gSh, σ, u)) _ rfl (if_pos hc) ?_
  refine gRunN_ok hG.1 1 _ (15, [some (.ref 67), some (.int a0), some (.int (σ.1 69 (σ.1 61 a0.toNatClampNeg).toNatClampNeg)), none, none, none, none, none, none], [], (gSh, σ, u)) rfl ?_
  obtain ⟨x1, ex1, hP⟩ := g_let hP
  rw [← ex1]
  refine gRunN_ok hG.1 4 _ (23, [some (.ref 67), some (.int a0), some (.int x1), none, none, none, none, none, none], [.int x1, .ref 2], (gSh, σ, u)) rfl ?_
  obtain ⟨hc, hP⟩ := g_if hP
  refine hG.1 _ (24, [some (.ref 67), some (.int a0), some (.int x1), none, none, none, none, none, none], [.int (σ.1 2 x1.toNatClampNeg)], (gSh, σ, u)) _ rfl (if_pos hc) ?_
  refine gRunN_ok hG.1 1 _ (25, [some (.ref 67), some (.int a0), some (.int x1), some (.int (σ.1 2 x1.toNatClampNeg)), none, none, none, none, none], [], (gSh, σ, u)) rfl ?_
  obtain ⟨x2, ex2, hP⟩ := g_let hP
  rw [← ex2]
  refine gRunN_ok hG.1 6 _ (36, [some (.ref 67), some (.int a0), some (.int x1), some (.int x2), some (.int x2), none, none, none, none], [.int x1, .ref 3], (gSh, σ, u)) rfl ?_
  obtain ⟨hc, hP⟩ := g_if hP
  refine hG.1 _ (37, [some (.ref 67), some (.int a0), some (.int x1), some (.int x2), some (.int x2), none, none, none, none], [.int (σ.1 3 x1.toNatClampNeg)], (gSh, σ, u)) _ rfl (if_pos hc) ?_
  refine gRunN_ok hG.1 1 _ (39, [some (.ref 67), some (.int a0), some (.int x1), some (.int x2), some (.int x2), some (.int (σ.1 3 x1.toNatClampNeg)), none, none, none], [], (gSh, σ, u)) rfl ?_
  obtain ⟨x3, ex3, hP⟩ := g_let hP
  rw [← ex3]
  refine gRunN_ok hG.1 6 _ (51, [some (.ref 67), some (.int a0), some (.int x1), some (.int x2), some (.int x2), some (.int x3), some (.int x3), none, none], [.int a0, .ref 62], (gSh, σ, u)) rfl ?_
  obtain ⟨hc, hP⟩ := g_if hP
  refine hG.1 _ (52, [some (.ref 67), some (.int a0), some (.int x1), some (.int x2), some (.int x2), some (.int x3), some (.int x3), none, none], [.int (σ.1 62 a0.toNatClampNeg)], (gSh, σ, u)) _ rfl (if_pos hc) ?_
  refine gRunN_ok hG.1 1 _ (54, [some (.ref 67), some (.int a0), some (.int x1), some (.int x2), some (.int x2), some (.int x3), some (.int x3), some (.int (σ.1 62 a0.toNatClampNeg)), none], [], (gSh, σ, u)) rfl ?_
  obtain ⟨x4, ex4, hP⟩ := g_let hP
  rw [← ex4]
  refine hG.2.2.2.2.1 _ _ [some (.ref 67), some (.int a0), none, some (.int x2), some (.int x2), some (.int x3), some (.int x3), some (.int x4), none] _ _ ⟨rfl, ⟨rfl, ⟨rfl, ⟨rfl, ⟨rfl, ⟨rfl, ⟨rfl, trivial⟩⟩⟩⟩⟩⟩⟩ ?_
  obtain ⟨e11, hq, hP⟩ := g_b1 hP
  refine l_Placing_lengthOf_54 E d u hG a0 σ gN x2 x2 x3 x3 x4 _ hq (fun w12 w13 w14 w15 he => ?_)
  · subst he
    try dsimp only [gSum] at hP
    refine gRunN_ok hG.1 7 _ (169, [none, none, none, some (.int w12), some (.int w13), some (.int w14), some (.int w15), none, none], [.int (((w13 - w12) + w15) - w14)], (gSh, σ, u)) rfl ?_
    cases hP
    exact hG.2.1 _ _ rfl rfl⟩
def p_Face_lookCompiled (E : gEv) (a0 : Int32) (σ : gS) : Option (Int32) :=
  if a0 = 1 then (some (σ.1 30 12)) else if a0 = 2 then (some (σ.1 30 11)) else if a0 = 3 then (some (σ.1 30 10)) else if a0 = 4 then (some (σ.1 30 13)) else if a0 = 5 then (some (σ.1 53 15)) else if a0 = 6 then (some (σ.1 53 16)) else if a0 = 7 then (some (σ.1 53 17)) else (some (σ.1 67 4))
set_option maxRecDepth 20000 in
theorem c_Face_lookCompiled (E : gEv) (d u : Nat) (a0 : Int32) (σ : gS) {v : Int32}  (hq : p_Face_lookCompiled E a0 σ = some v) : gC E gDf gMs (d + 1) 105 [.ref 0, .int a0] (gSh, σ, u) (some (.int v), (gSh, σ, u)) := ⟨gM105, rfl, Nat.le_of_ble_eq_true rfl, fun G hG => by
  have hP := hq
  unfold p_Face_lookCompiled at hP
  replace hG : gClo E gDf gP0 gY105 (some .int) (gC E gDf gMs (d + 0)) (some (.int v), (gSh, σ, u)) G := hG
  show G (0, [some (.ref 0), some (.int a0)], [], (gSh, σ, u))
  refine gRunN_ok hG.1 1 _ (1, [some (.ref 0), some (.int a0)], [.int a0], (gSh, σ, u)) rfl ?_
  rcases g_ite hP with ⟨hc0, hP⟩ | ⟨hc0, hP⟩
  · refine hG.1 _ (44, [some (.ref 0), some (.int a0)], [], (gSh, σ, u)) _ rfl (if_pos hc0) ?_
    refine gRunN_ok hG.1 3 _ (51, [some (.ref 0), some (.int a0)], [.int (σ.1 30 12)], (gSh, σ, u)) rfl ?_
    cases hP
    exact hG.2.1 _ _ rfl rfl
  rcases g_ite hP with ⟨hc1, hP⟩ | ⟨hc1, hP⟩
  · refine hG.1 _ (52, [some (.ref 0), some (.int a0)], [], (gSh, σ, u)) _ rfl ((if_neg hc0).trans (if_pos hc1)) ?_
    refine gRunN_ok hG.1 3 _ (59, [some (.ref 0), some (.int a0)], [.int (σ.1 30 11)], (gSh, σ, u)) rfl ?_
    cases hP
    exact hG.2.1 _ _ rfl rfl
  rcases g_ite hP with ⟨hc2, hP⟩ | ⟨hc2, hP⟩
  · refine hG.1 _ (60, [some (.ref 0), some (.int a0)], [], (gSh, σ, u)) _ rfl ((if_neg hc0).trans ((if_neg hc1).trans (if_pos hc2))) ?_
    refine gRunN_ok hG.1 3 _ (67, [some (.ref 0), some (.int a0)], [.int (σ.1 30 10)], (gSh, σ, u)) rfl ?_
    cases hP
    exact hG.2.1 _ _ rfl rfl
  rcases g_ite hP with ⟨hc3, hP⟩ | ⟨hc3, hP⟩
  · refine hG.1 _ (68, [some (.ref 0), some (.int a0)], [], (gSh, σ, u)) _ rfl ((if_neg hc0).trans ((if_neg hc1).trans ((if_neg hc2).trans (if_pos hc3)))) ?_
    refine gRunN_ok hG.1 3 _ (75, [some (.ref 0), some (.int a0)], [.int (σ.1 30 13)], (gSh, σ, u)) rfl ?_
    cases hP
    exact hG.2.1 _ _ rfl rfl
  rcases g_ite hP with ⟨hc4, hP⟩ | ⟨hc4, hP⟩
  · refine hG.1 _ (76, [some (.ref 0), some (.int a0)], [], (gSh, σ, u)) _ rfl ((if_neg hc0).trans ((if_neg hc1).trans ((if_neg hc2).trans ((if_neg hc3).trans (if_pos hc4))))) ?_
    refine gRunN_ok hG.1 3 _ (83, [some (.ref 0), some (.int a0)], [.int (σ.1 53 15)], (gSh, σ, u)) rfl ?_
    cases hP
    exact hG.2.1 _ _ rfl rfl
  rcases g_ite hP with ⟨hc5, hP⟩ | ⟨hc5, hP⟩
  · refine hG.1 _ (84, [some (.ref 0), some (.int a0)], [], (gSh, σ, u)) _ rfl ((if_neg hc0).trans ((if_neg hc1).trans ((if_neg hc2).trans ((if_neg hc3).trans ((if_neg hc4).trans (if_pos hc5)))))) ?_
    refine gRunN_ok hG.1 3 _ (91, [some (.ref 0), some (.int a0)], [.int (σ.1 53 16)], (gSh, σ, u)) rfl ?_
    cases hP
    exact hG.2.1 _ _ rfl rfl
  rcases g_ite hP with ⟨hc6, hP⟩ | ⟨hc6, hP⟩
  · refine hG.1 _ (92, [some (.ref 0), some (.int a0)], [], (gSh, σ, u)) _ rfl ((if_neg hc0).trans ((if_neg hc1).trans ((if_neg hc2).trans ((if_neg hc3).trans ((if_neg hc4).trans ((if_neg hc5).trans (if_pos hc6))))))) ?_
    refine gRunN_ok hG.1 3 _ (99, [some (.ref 0), some (.int a0)], [.int (σ.1 53 17)], (gSh, σ, u)) rfl ?_
    cases hP
    exact hG.2.1 _ _ rfl rfl
  · refine hG.1 _ (100, [some (.ref 0), some (.int a0)], [], (gSh, σ, u)) _ rfl ((if_neg hc0).trans ((if_neg hc1).trans ((if_neg hc2).trans ((if_neg hc3).trans ((if_neg hc4).trans ((if_neg hc5).trans ((if_neg hc6).trans rfl))))))) ?_
    refine gRunN_ok hG.1 3 _ (107, [some (.ref 0), some (.int a0)], [.int (σ.1 67 4)], (gSh, σ, u)) rfl ?_
    cases hP
    exact hG.2.1 _ _ rfl rfl⟩
def p_Integer_bitCount (E : gEv) (a0 : Int32) (σ : gS) : Option (Int32) :=
  gLet (a0 - (((a0.toUInt32 >>> ((1 : Int32).toUInt32 &&& Int32.toUInt32 31)).toInt32) &&& (1431655765 : Int32))) fun x1 => gLet ((x1 &&& (858993459 : Int32)) + (((x1.toUInt32 >>> ((2 : Int32).toUInt32 &&& Int32.toUInt32 31)).toInt32) &&& (858993459 : Int32))) fun x2 => gLet ((x2 + ((x2.toUInt32 >>> ((4 : Int32).toUInt32 &&& Int32.toUInt32 31)).toInt32)) &&& (252645135 : Int32)) fun x3 => gLet (x3 + ((x3.toUInt32 >>> ((8 : Int32).toUInt32 &&& Int32.toUInt32 31)).toInt32)) fun x4 => gLet (x4 + ((x4.toUInt32 >>> ((16 : Int32).toUInt32 &&& Int32.toUInt32 31)).toInt32)) fun x5 => some (x5 &&& (63 : Int32))
set_option maxRecDepth 20000 in
theorem c_Integer_bitCount (E : gEv) (d u : Nat) (a0 : Int32) (σ : gS) {sh : List gD} {v : Int32}  (hq : p_Integer_bitCount E a0 σ = some v) : gC E gDf gMs (d + 1) 108 [.int a0] (sh, σ, u) (some (.int v), (sh, σ, u)) := ⟨gM108, rfl, Nat.le_of_ble_eq_true rfl, fun G hG => by
  have hP := hq
  unfold p_Integer_bitCount at hP
  replace hG : gClo E gDf gP16 gY108 (some .int) (gC E gDf gMs (d + 0)) (some (.int v), (sh, σ, u)) G := hG
  show G (0, [some (.int a0)], [], (sh, σ, u))
  refine gRunN_ok hG.1 8 _ (10, [some (.int (a0 - (((a0.toUInt32 >>> ((1 : Int32).toUInt32 &&& Int32.toUInt32 31)).toInt32) &&& (1431655765 : Int32))))], [], (sh, σ, u)) rfl ?_
  obtain ⟨x1, ex1, hP⟩ := g_let hP
  rw [← ex1]
  refine gRunN_ok hG.1 10 _ (24, [some (.int ((x1 &&& (858993459 : Int32)) + (((x1.toUInt32 >>> ((2 : Int32).toUInt32 &&& Int32.toUInt32 31)).toInt32) &&& (858993459 : Int32))))], [], (sh, σ, u)) rfl ?_
  obtain ⟨x2, ex2, hP⟩ := g_let hP
  rw [← ex2]
  refine gRunN_ok hG.1 8 _ (34, [some (.int ((x2 + ((x2.toUInt32 >>> ((4 : Int32).toUInt32 &&& Int32.toUInt32 31)).toInt32)) &&& (252645135 : Int32)))], [], (sh, σ, u)) rfl ?_
  obtain ⟨x3, ex3, hP⟩ := g_let hP
  rw [← ex3]
  refine gRunN_ok hG.1 6 _ (41, [some (.int (x3 + ((x3.toUInt32 >>> ((8 : Int32).toUInt32 &&& Int32.toUInt32 31)).toInt32)))], [], (sh, σ, u)) rfl ?_
  obtain ⟨x4, ex4, hP⟩ := g_let hP
  rw [← ex4]
  refine gRunN_ok hG.1 6 _ (48, [some (.int (x4 + ((x4.toUInt32 >>> ((16 : Int32).toUInt32 &&& Int32.toUInt32 31)).toInt32)))], [], (sh, σ, u)) rfl ?_
  obtain ⟨x5, ex5, hP⟩ := g_let hP
  rw [← ex5]
  refine gRunN_ok hG.1 3 _ (52, [some (.int x5)], [.int (x5 &&& (63 : Int32))], (sh, σ, u)) rfl ?_
  cases hP
  exact hG.2.1 _ _ rfl rfl⟩
