def p_Grid_reach_2 (E : gEv) (l1 : Int32) (l2 : Int32) (l3 : Int32) (σ : gS) : Option ((Int32) ⊕ ((Int32 × Int32) ⊕ (Unit))) :=
  if (4 : Int32) ≤ l3 then (some (.inr (.inr ()))) else (if gIn ((l1 * (4 : Int32)) + l3) (σ.2.1 4) then gLet (σ.1 4 ((l1 * (4 : Int32)) + l3).toNatClampNeg) fun x1 => if x1 = ((-1) : Int32) then (gLet (l3 + 1) fun x2 => some (.inl x2)) else (if l2 < x1 then (gLet (l3 + 1) fun x3 => some (.inl x3)) else (if (x1 + (σ.1 1 3)) ≤ l2 then (gLet (l3 + 1) fun x4 => some (.inl x4)) else (some (.inr (.inl (l3, x1)))))) else none)
set_option maxRecDepth 20000 in
theorem b_Grid_reach_2 (E : gEv) (d u : Nat) {G : gFr → Prop} {rv : Option Value × gHS} (hG : gClo E gDf gP2 gY133 (some .int) (gC E gDf gMs (d + 0)) rv G) (l1 : Int32) (l2 : Int32) (l3 : Int32) (σ : gS) {r : (Int32) ⊕ ((Int32 × Int32) ⊕ (Unit))} (hP : p_Grid_reach_2 E l1 l2 l3 σ = some r) (K1 : ∀ (m3 : Int32), r = .inl m3 → G (2, [some (.ref 1), some (.int l1), some (.int l2), some (.int m3), none], [], (gSh, σ, u))) (K2 : ∀ (m3 : Int32) (m4 : Int32), r = .inr (.inl (m3, m4)) → G (42, [some (.ref 1), none, some (.int l2), some (.int m3), some (.int m4)], [], (gSh, σ, u))) (K3 : r = .inr (.inr ()) → G (60, [none, none, none, none, none], [], (gSh, σ, u))) : G (2, [some (.ref 1), some (.int l1), some (.int l2), some (.int l3), none], [], (gSh, σ, u)) := by
  unfold p_Grid_reach_2 at hP
  refine gRunN_ok hG.1 2 _ (4, [some (.ref 1), some (.int l1), some (.int l2), some (.int l3), none], [.int 4, .int l3], (gSh, σ, u)) rfl ?_
  rcases g_ite hP with ⟨hc, hP⟩ | ⟨hc, hP⟩
  · refine hG.1 _ (60, [some (.ref 1), some (.int l1), some (.int l2), some (.int l3), none], [], (gSh, σ, u)) _ rfl (if_pos hc) ?_
    refine hG.2.2.2.2 _ _ [none, none, none, none, none] _ _ trivial ?_
    cases hP
    exact K3 rfl
  · refine hG.1 _ (7, [some (.ref 1), some (.int l1), some (.int l2), some (.int l3), none], [], (gSh, σ, u)) _ rfl (if_neg hc) ?_
    refine gRunN_ok hG.1 7 _ (16, [some (.ref 1), some (.int l1), some (.int l2), some (.int l3), none], [.int ((l1 * (4 : Int32)) + l3), .ref 4], (gSh, σ, u)) rfl ?_
    obtain ⟨hc, hP⟩ := g_if hP
    refine hG.1 _ (17, [some (.ref 1), some (.int l1), some (.int l2), some (.int l3), none], [.int (σ.1 4 ((l1 * (4 : Int32)) + l3).toNatClampNeg)], (gSh, σ, u)) _ rfl (if_pos hc) ?_
    refine gRunN_ok hG.1 1 _ (19, [some (.ref 1), some (.int l1), some (.int l2), some (.int l3), some (.int (σ.1 4 ((l1 * (4 : Int32)) + l3).toNatClampNeg))], [], (gSh, σ, u)) rfl ?_
    obtain ⟨x1, ex1, hP⟩ := g_let hP
    rw [← ex1]
    refine gRunN_ok hG.1 2 _ (22, [some (.ref 1), some (.int l1), some (.int l2), some (.int l3), some (.int x1)], [.int (-1), .int x1], (gSh, σ, u)) rfl ?_
    rcases g_ite hP with ⟨hc, hP⟩ | ⟨hc, hP⟩
    · refine hG.1 _ (54, [some (.ref 1), some (.int l1), some (.int l2), some (.int l3), some (.int x1)], [], (gSh, σ, u)) _ rfl (if_pos hc) ?_
      refine gRunN_ok hG.1 1 _ (57, [some (.ref 1), some (.int l1), some (.int l2), some (.int (l3 + 1)), some (.int x1)], [], (gSh, σ, u)) rfl ?_
      obtain ⟨x2, ex2, hP⟩ := g_let hP
      rw [← ex2]
      refine gRunN_ok hG.1 1 _ (2, [some (.ref 1), some (.int l1), some (.int l2), some (.int x2), some (.int x1)], [], (gSh, σ, u)) rfl ?_
      refine hG.2.2.2.2 _ _ [some (.ref 1), some (.int l1), some (.int l2), some (.int x2), none] _ _ ⟨rfl, ⟨rfl, ⟨rfl, ⟨rfl, trivial⟩⟩⟩⟩ ?_
      cases hP
      exact K1 _ rfl
    · refine hG.1 _ (25, [some (.ref 1), some (.int l1), some (.int l2), some (.int l3), some (.int x1)], [], (gSh, σ, u)) _ rfl (if_neg hc) ?_
      refine gRunN_ok hG.1 2 _ (28, [some (.ref 1), some (.int l1), some (.int l2), some (.int l3), some (.int x1)], [.int x1, .int l2], (gSh, σ, u)) rfl ?_
      rcases g_ite hP with ⟨hc, hP⟩ | ⟨hc, hP⟩
      · refine hG.1 _ (54, [some (.ref 1), some (.int l1), some (.int l2), some (.int l3), some (.int x1)], [], (gSh, σ, u)) _ rfl (if_pos hc) ?_
        refine gRunN_ok hG.1 1 _ (57, [some (.ref 1), some (.int l1), some (.int l2), some (.int (l3 + 1)), some (.int x1)], [], (gSh, σ, u)) rfl ?_
        obtain ⟨x3, ex3, hP⟩ := g_let hP
        rw [← ex3]
        refine gRunN_ok hG.1 1 _ (2, [some (.ref 1), some (.int l1), some (.int l2), some (.int x3), some (.int x1)], [], (gSh, σ, u)) rfl ?_
        refine hG.2.2.2.2 _ _ [some (.ref 1), some (.int l1), some (.int l2), some (.int x3), none] _ _ ⟨rfl, ⟨rfl, ⟨rfl, ⟨rfl, trivial⟩⟩⟩⟩ ?_
        cases hP
        exact K1 _ rfl
      · refine hG.1 _ (31, [some (.ref 1), some (.int l1), some (.int l2), some (.int l3), some (.int x1)], [], (gSh, σ, u)) _ rfl (if_neg hc) ?_
        refine gRunN_ok hG.1 5 _ (39, [some (.ref 1), some (.int l1), some (.int l2), some (.int l3), some (.int x1)], [.int (x1 + (σ.1 1 3)), .int l2], (gSh, σ, u)) rfl ?_
        rcases g_ite hP with ⟨hc, hP⟩ | ⟨hc, hP⟩
        · refine hG.1 _ (54, [some (.ref 1), some (.int l1), some (.int l2), some (.int l3), some (.int x1)], [], (gSh, σ, u)) _ rfl (if_pos hc) ?_
          refine gRunN_ok hG.1 1 _ (57, [some (.ref 1), some (.int l1), some (.int l2), some (.int (l3 + 1)), some (.int x1)], [], (gSh, σ, u)) rfl ?_
          obtain ⟨x4, ex4, hP⟩ := g_let hP
          rw [← ex4]
          refine gRunN_ok hG.1 1 _ (2, [some (.ref 1), some (.int l1), some (.int l2), some (.int x4), some (.int x1)], [], (gSh, σ, u)) rfl ?_
          refine hG.2.2.2.2 _ _ [some (.ref 1), some (.int l1), some (.int l2), some (.int x4), none] _ _ ⟨rfl, ⟨rfl, ⟨rfl, ⟨rfl, trivial⟩⟩⟩⟩ ?_
          cases hP
          exact K1 _ rfl
        · refine hG.1 _ (42, [some (.ref 1), some (.int l1), some (.int l2), some (.int l3), some (.int x1)], [], (gSh, σ, u)) _ rfl (if_neg hc) ?_
          refine hG.2.2.2.2 _ _ [some (.ref 1), none, some (.int l2), some (.int l3), some (.int x1)] _ _ ⟨rfl, ⟨rfl, ⟨rfl, ⟨rfl, trivial⟩⟩⟩⟩ ?_
          cases hP
          exact K2 _ _ rfl
theorem l_Grid_reach_2 (E : gEv) (d u : Nat) {G : gFr → Prop} {rv : Option Value × gHS} (hG : gClo E gDf gP2 gY133 (some .int) (gC E gDf gMs (d + 0)) rv G) (l1 : Int32) (l2 : Int32) (σ : gS) : ∀ (n : Nat) (l3 : Int32) (e : ((Int32 × Int32) ⊕ (Unit))), gIter (fun z => p_Grid_reach_2 E l1 l2 z σ) n l3 = some e → (∀ (m3 : Int32) (m4 : Int32), e = (.inl (m3, m4)) → G (42, [some (.ref 1), none, some (.int l2), some (.int m3), some (.int m4)], [], (gSh, σ, u))) → ( e = (.inr ()) → G (60, [none, none, none, none, none], [], (gSh, σ, u))) → G (2, [some (.ref 1), some (.int l1), some (.int l2), some (.int l3), none], [], (gSh, σ, u)) := by
  intro n
  induction n with
  | zero => intro l3 e h; cases h
  | succ n ih =>
    intro l3 e h K2 K3
    rcases g_iter h with ⟨z, h1, h2⟩ | h1
    · exact b_Grid_reach_2 E d u hG l1 l2 l3 σ h1 (fun n0 hz => by cases hz; exact ih n0 e h2 K2 K3) (fun _ _ hz => by cases hz) (fun  hz => by cases hz)
    · exact b_Grid_reach_2 E d u hG l1 l2 l3 σ h1 (fun _ hz => by cases hz) (fun m3 m4 hz => K2 m3 m4 (by cases hz; rfl)) (fun  hz => K3  (by cases hz; rfl))
def p_Grid_reach (E : gEv) (a0 : Int32) (a1 : Int32) (σ : gS) : Option (Int32) :=
  gB1 (gIter (fun z => p_Grid_reach_2 E a0 a1 z σ) gN 0) fun e5 => gSum e5 (fun e8 => (fun w6 w7 => some (((w6 * (σ.1 1 3)) + a1) - w7)) e8.1 e8.2) (fun e9 => some (-1))
set_option maxRecDepth 20000 in
theorem c_Grid_reach (E : gEv) (d u : Nat) (a0 : Int32) (a1 : Int32) (σ : gS) {v : Int32}  (hq : p_Grid_reach E a0 a1 σ = some v) : gC E gDf gMs (d + 1) 133 [.ref 1, .int a0, .int a1] (gSh, σ, u) (some (.int v), (gSh, σ, u)) := ⟨gM133, rfl, by decide, fun G hG => by
  have hP := hq
  unfold p_Grid_reach at hP
  replace hG : gClo E gDf gP2 gY133 (some .int) (gC E gDf gMs (d + 0)) (some (.int v), (gSh, σ, u)) G := hG
  show G (0, [some (.ref 1), some (.int a0), some (.int a1), none, none], [], (gSh, σ, u))
  refine gRunN_ok hG.1 2 _ (2, [some (.ref 1), some (.int a0), some (.int a1), some (.int 0), none], [], (gSh, σ, u)) rfl ?_
  obtain ⟨e5, hq, hP⟩ := g_b1 hP
  refine l_Grid_reach_2 E d u hG a0 a1 σ gN 0 _ hq (fun w6 w7 he => ?_) (fun  he => ?_)
  · subst he
    dsimp only [gSum] at hP
    refine gRunN_ok hG.1 8 _ (53, [some (.ref 1), none, some (.int a1), some (.int w6), some (.int w7)], [.int (((w6 * (σ.1 1 3)) + a1) - w7)], (gSh, σ, u)) rfl ?_
    cases hP
    exact hG.2.1 _ _ rfl rfl
  · subst he
    dsimp only [gSum] at hP
    refine gRunN_ok hG.1 1 _ (61, [none, none, none, none, none], [.int (-1)], (gSh, σ, u)) rfl ?_
    cases hP
    exact hG.2.1 _ _ rfl rfl⟩
def p_Grid_padBit (E : gEv) (a0 : Int32) (σ : gS) : Option (Int32) :=
  some ((σ.1 1 10) + (a0 * ((6 : Int32) + (σ.1 1 3))))
set_option maxRecDepth 20000 in
theorem c_Grid_padBit (E : gEv) (d u : Nat) (a0 : Int32) (σ : gS) {v : Int32}  (hq : p_Grid_padBit E a0 σ = some v) : gC E gDf gMs (d + 1) 146 [.ref 1, .int a0] (gSh, σ, u) (some (.int v), (gSh, σ, u)) := ⟨gM146, rfl, by decide, fun G hG => by
  have hP := hq
  unfold p_Grid_padBit at hP
  replace hG : gClo E gDf gP2 gY146 (some .int) (gC E gDf gMs (d + 0)) (some (.int v), (gSh, σ, u)) G := hG
  show G (0, [some (.ref 1), some (.int a0)], [], (gSh, σ, u))
  refine gRunN_ok hG.1 9 _ (14, [some (.ref 1), some (.int a0)], [.int ((σ.1 1 10) + (a0 * ((6 : Int32) + (σ.1 1 3))))], (gSh, σ, u)) rfl ?_
  cases hP
  exact hG.2.1 _ _ rfl rfl⟩
