def p_Model_newLut (E : gEv) (a0 : Int32) (a1 : Int32) (a2 : Int32) (a3 : Int32) (a4 : Int32) (σ : gS) : Option (Int32 × gS) :=
  if gIn ((4 : Int32) * (σ.1 94 46)) (σ.2.1 117) then gLet (gPut σ 117 ((4 : Int32) * (σ.1 94 46)).toNatClampNeg a0) fun s1 => if gIn (((4 : Int32) * (s1.1 94 46)) + (1 : Int32)) (s1.2.1 117) then gLet (gPut s1 117 (((4 : Int32) * (s1.1 94 46)) + (1 : Int32)).toNatClampNeg a1) fun s2 => if gIn (((4 : Int32) * (s2.1 94 46)) + (2 : Int32)) (s2.2.1 117) then gLet (gPut s2 117 (((4 : Int32) * (s2.1 94 46)) + (2 : Int32)).toNatClampNeg a2) fun s3 => if gIn (((4 : Int32) * (s3.1 94 46)) + (3 : Int32)) (s3.2.1 117) then gLet (gPut s3 117 (((4 : Int32) * (s3.1 94 46)) + (3 : Int32)).toNatClampNeg a3) fun s4 => if gIn (s4.1 94 46) (s4.2.1 118) then gLet (gPut s4 118 (s4.1 94 46).toNatClampNeg a4) fun s5 => gLet (gPut s5 94 46 ((s5.1 94 46) + (1 : Int32))) fun s6 => some (((400 : Int32) + (s6.1 94 46)) - (1 : Int32), s6) else none else none else none else none else none
set_option maxRecDepth 20000 in
theorem c_Model_newLut (E : gEv) (d u : Nat) (a0 : Int32) (a1 : Int32) (a2 : Int32) (a3 : Int32) (a4 : Int32) (σ : gS) {v : Int32} {sr : gS}  (hq : p_Model_newLut E a0 a1 a2 a3 a4 σ = some (v, sr)) : gC E gDf gMs (d + 1) 214 [.ref 94, .int a0, .int a1, .int a2, .int a3, .int a4] (gSh, σ, u) (some (.int v), (gSh, sr, u)) := ⟨gM214, rfl, Nat.le_of_ble_eq_true rfl, fun G hG => by
  have hP := hq
  unfold p_Model_newLut at hP
  replace hG : gClo E gDf gP18 gY214 (some .int) (gC E gDf gMs (d + 0)) (some (.int v), (gSh, sr, u)) G := hG
  show G (0, [some (.ref 94), some (.int a0), some (.int a1), some (.int a2), some (.int a3), some (.int a4)], [], (gSh, σ, u))
  refine gRunN_ok hG.1 7 _ (11, [some (.ref 94), some (.int a0), some (.int a1), some (.int a2), some (.int a3), some (.int a4)], [.int a0, .int ((4 : Int32) * (σ.1 94 46)), .ref 117], (gSh, σ, u)) rfl ?_
  obtain ⟨hc, hP⟩ := g_if hP
  refine hG.1 _ (12, [some (.ref 94), some (.int a0), some (.int a1), some (.int a2), some (.int a3), some (.int a4)], [], (gSh, (gPut σ 117 ((4 : Int32) * (σ.1 94 46)).toNatClampNeg a0), u)) _ rfl (if_pos hc) ?_
  obtain ⟨s1, es1, hP⟩ := g_let hP
  rw [← es1]
  refine gRunN_ok hG.1 9 _ (25, [some (.ref 94), some (.int a0), some (.int a1), some (.int a2), some (.int a3), some (.int a4)], [.int a1, .int (((4 : Int32) * (s1.1 94 46)) + (1 : Int32)), .ref 117], (gSh, s1, u)) rfl ?_
  obtain ⟨hc, hP⟩ := g_if hP
  refine hG.1 _ (26, [some (.ref 94), some (.int a0), some (.int a1), some (.int a2), some (.int a3), some (.int a4)], [], (gSh, (gPut s1 117 (((4 : Int32) * (s1.1 94 46)) + (1 : Int32)).toNatClampNeg a1), u)) _ rfl (if_pos hc) ?_
  obtain ⟨s2, es2, hP⟩ := g_let hP
  rw [← es2]
  refine gRunN_ok hG.1 9 _ (39, [some (.ref 94), some (.int a0), some (.int a1), some (.int a2), some (.int a3), some (.int a4)], [.int a2, .int (((4 : Int32) * (s2.1 94 46)) + (2 : Int32)), .ref 117], (gSh, s2, u)) rfl ?_
  obtain ⟨hc, hP⟩ := g_if hP
  refine hG.1 _ (40, [some (.ref 94), some (.int a0), some (.int a1), some (.int a2), some (.int a3), some (.int a4)], [], (gSh, (gPut s2 117 (((4 : Int32) * (s2.1 94 46)) + (2 : Int32)).toNatClampNeg a2), u)) _ rfl (if_pos hc) ?_
  obtain ⟨s3, es3, hP⟩ := g_let hP
  rw [← es3]
  refine gRunN_ok hG.1 9 _ (54, [some (.ref 94), some (.int a0), some (.int a1), some (.int a2), some (.int a3), some (.int a4)], [.int a3, .int (((4 : Int32) * (s3.1 94 46)) + (3 : Int32)), .ref 117], (gSh, s3, u)) rfl ?_
  obtain ⟨hc, hP⟩ := g_if hP
  refine hG.1 _ (55, [some (.ref 94), some (.int a0), some (.int a1), some (.int a2), some (.int a3), some (.int a4)], [], (gSh, (gPut s3 117 (((4 : Int32) * (s3.1 94 46)) + (3 : Int32)).toNatClampNeg a3), u)) _ rfl (if_pos hc) ?_
  obtain ⟨s4, es4, hP⟩ := g_let hP
  rw [← es4]
  refine gRunN_ok hG.1 5 _ (65, [some (.ref 94), some (.int a0), some (.int a1), some (.int a2), some (.int a3), some (.int a4)], [.int a4, .int (s4.1 94 46), .ref 118], (gSh, s4, u)) rfl ?_
  obtain ⟨hc, hP⟩ := g_if hP
  refine hG.1 _ (66, [some (.ref 94), some (.int a0), some (.int a1), some (.int a2), some (.int a3), some (.int a4)], [], (gSh, (gPut s4 118 (s4.1 94 46).toNatClampNeg a4), u)) _ rfl (if_pos hc) ?_
  obtain ⟨s5, es5, hP⟩ := g_let hP
  rw [← es5]
  refine gRunN_ok hG.1 6 _ (76, [some (.ref 94), some (.int a0), some (.int a1), some (.int a2), some (.int a3), some (.int a4)], [], (gSh, (gPut s5 94 46 ((s5.1 94 46) + (1 : Int32))), u)) rfl ?_
  obtain ⟨s6, es6, hP⟩ := g_let hP
  rw [← es6]
  refine gRunN_ok hG.1 6 _ (86, [some (.ref 94), some (.int a0), some (.int a1), some (.int a2), some (.int a3), some (.int a4)], [.int (((400 : Int32) + (s6.1 94 46)) - (1 : Int32))], (gSh, s6, u)) rfl ?_
  cases hP
  exact hG.2.1 _ _ rfl rfl⟩
def p_Model_elementOf (E : gEv) (a0 : Int32) (σ : gS) : Option (Int32) :=
  if a0 < (400 : Int32) then (if a0 < (200 : Int32) then (some (-1)) else (if gIn (a0 - (200 : Int32)) (σ.2.1 128) then some (σ.1 128 (a0 - (200 : Int32)).toNatClampNeg) else none)) else (some (a0 - (400 : Int32)))
set_option maxRecDepth 20000 in
theorem c_Model_elementOf (E : gEv) (d u : Nat) (a0 : Int32) (σ : gS) {v : Int32}  (hq : p_Model_elementOf E a0 σ = some v) : gC E gDf gMs (d + 1) 220 [.ref 94, .int a0] (gSh, σ, u) (some (.int v), (gSh, σ, u)) := ⟨gM220, rfl, Nat.le_of_ble_eq_true rfl, fun G hG => by
  have hP := hq
  unfold p_Model_elementOf at hP
  replace hG : gClo E gDf gP18 gY220 (some .int) (gC E gDf gMs (d + 0)) (some (.int v), (gSh, σ, u)) G := hG
  show G (0, [some (.ref 94), some (.int a0)], [], (gSh, σ, u))
  refine gRunN_ok hG.1 2 _ (4, [some (.ref 94), some (.int a0)], [.int 400, .int a0], (gSh, σ, u)) rfl ?_
  rcases g_ite hP with ⟨hc, hP⟩ | ⟨hc, hP⟩
  · refine hG.1 _ (15, [some (.ref 94), some (.int a0)], [], (gSh, σ, u)) _ rfl (if_pos hc) ?_
    refine gRunN_ok hG.1 2 _ (19, [some (.ref 94), some (.int a0)], [.int 200, .int a0], (gSh, σ, u)) rfl ?_
    rcases g_ite hP with ⟨hc, hP⟩ | ⟨hc, hP⟩
    · refine hG.1 _ (35, [some (.ref 94), some (.int a0)], [], (gSh, σ, u)) _ rfl (if_pos hc) ?_
      refine gRunN_ok hG.1 1 _ (36, [some (.ref 94), some (.int a0)], [.int (-1)], (gSh, σ, u)) rfl ?_
      cases hP
      exact hG.2.1 _ _ rfl rfl
    · refine hG.1 _ (22, [some (.ref 94), some (.int a0)], [], (gSh, σ, u)) _ rfl (if_neg hc) ?_
      refine gRunN_ok hG.1 5 _ (31, [some (.ref 94), some (.int a0)], [.int (a0 - (200 : Int32)), .ref 128], (gSh, σ, u)) rfl ?_
      obtain ⟨hc, hP⟩ := g_if hP
      refine hG.1 _ (32, [some (.ref 94), some (.int a0)], [.int (σ.1 128 (a0 - (200 : Int32)).toNatClampNeg)], (gSh, σ, u)) _ rfl (if_pos hc) ?_
      refine gRunN_ok hG.1 1 _ (36, [some (.ref 94), some (.int a0)], [.int (σ.1 128 (a0 - (200 : Int32)).toNatClampNeg)], (gSh, σ, u)) rfl ?_
      cases hP
      exact hG.2.1 _ _ rfl rfl
  · refine hG.1 _ (7, [some (.ref 94), some (.int a0)], [], (gSh, σ, u)) _ rfl (if_neg hc) ?_
    refine gRunN_ok hG.1 4 _ (36, [some (.ref 94), some (.int a0)], [.int (a0 - (400 : Int32))], (gSh, σ, u)) rfl ?_
    cases hP
    exact hG.2.1 _ _ rfl rfl⟩
def p_Model_common_18 (E : gEv) (l1 : Int32) (l2 : Int32) (l3 : Int32) (l4 : Int32) (l5 : Int32) (σ : gS) : Option ((Int32 × Int32) ⊕ (Int32)) :=
  if (σ.1 94 55) ≤ l5 then (some (.inr l4)) else (if gIn (((400 : Int32) * l1) + l3) (σ.2.1 135) then if (σ.1 135 (((400 : Int32) * l1) + l3).toNatClampNeg) = 0 then (some (.inr l4)) else (if l4 = 0 then (if gIn l5 (σ.2.1 133) then if (σ.1 133 l5.toNatClampNeg) = (σ.1 94 66) then (if gIn (((400 : Int32) * l5) + l3) (σ.2.1 135) then if (σ.1 135 (((400 : Int32) * l5) + l3).toNatClampNeg) = 0 then (gLet (l5 + 1) fun x1 => some (.inl (0, x1))) else (gLet (l5 + 1) fun x2 => some (.inl (1, x2))) else none) else (gLet (l5 + 1) fun x3 => some (.inl (0, x3))) else none) else (gLet (l5 + 1) fun x4 => some (.inl (1, x4)))) else none)
set_option maxRecDepth 20000 in
theorem b_Model_common_18 (E : gEv) (d u : Nat) {G : gFr → Prop} {vo : Option Value} {sr : gS} (hG : gClo E gDf gP18 gY222 (some .int) (gC E gDf gMs (d + 0)) (vo, (gSh, sr, u)) G) (l1 : Int32) (l2 : Int32) (l3 : Int32) (l4 : Int32) (l5 : Int32) (σ : gS) {r : (Int32 × Int32) ⊕ (Int32)} (hP : p_Model_common_18 E l1 l2 l3 l4 l5 σ = some r) (K1 : ∀ (m4 : Int32) (m5 : Int32), r = .inl (m4, m5) → G (18, [some (.ref 94), some (.int l1), some (.int l2), some (.int l3), some (.int m4), some (.int m5)], [], (gSh, σ, u))) (K2 : ∀ (m4 : Int32), r = .inr m4 → G (90, [some (.ref 94), some (.int l1), some (.int l2), some (.int l3), some (.int m4), none], [], (gSh, σ, u))) : G (18, [some (.ref 94), some (.int l1), some (.int l2), some (.int l3), some (.int l4), some (.int l5)], [], (gSh, σ, u)) := by
  unfold p_Model_common_18 at hP
  refine gRunN_ok hG.1 3 _ (24, [some (.ref 94), some (.int l1), some (.int l2), some (.int l3), some (.int l4), some (.int l5)], [.int (σ.1 94 55), .int l5], (gSh, σ, u)) rfl ?_
  rcases g_ite hP with ⟨hc, hP⟩ | ⟨hc, hP⟩
  · refine hG.1 _ (90, [some (.ref 94), some (.int l1), some (.int l2), some (.int l3), some (.int l4), some (.int l5)], [], (gSh, σ, u)) _ rfl (if_pos hc) ?_
    refine hG.2.2.2.2.1 _ _ [some (.ref 94), some (.int l1), some (.int l2), some (.int l3), some (.int l4), none] _ _ ⟨rfl, ⟨rfl, ⟨rfl, ⟨rfl, ⟨rfl, trivial⟩⟩⟩⟩⟩ ?_
    cases hP
    exact K2 _ rfl
  · refine hG.1 _ (27, [some (.ref 94), some (.int l1), some (.int l2), some (.int l3), some (.int l4), some (.int l5)], [], (gSh, σ, u)) _ rfl (if_neg hc) ?_
    refine gRunN_ok hG.1 7 _ (38, [some (.ref 94), some (.int l1), some (.int l2), some (.int l3), some (.int l4), some (.int l5)], [.int (((400 : Int32) * l1) + l3), .ref 135], (gSh, σ, u)) rfl ?_
    obtain ⟨hc, hP⟩ := g_if hP
    refine hG.1 _ (39, [some (.ref 94), some (.int l1), some (.int l2), some (.int l3), some (.int l4), some (.int l5)], [.int (σ.1 135 (((400 : Int32) * l1) + l3).toNatClampNeg)], (gSh, σ, u)) _ rfl (if_pos hc) ?_
    rcases g_ite hP with ⟨hc, hP⟩ | ⟨hc, hP⟩
    · refine hG.1 _ (90, [some (.ref 94), some (.int l1), some (.int l2), some (.int l3), some (.int l4), some (.int l5)], [], (gSh, σ, u)) _ rfl (if_pos hc) ?_
      refine hG.2.2.2.2.1 _ _ [some (.ref 94), some (.int l1), some (.int l2), some (.int l3), some (.int l4), none] _ _ ⟨rfl, ⟨rfl, ⟨rfl, ⟨rfl, ⟨rfl, trivial⟩⟩⟩⟩⟩ ?_
      cases hP
      exact K2 _ rfl
    · refine hG.1 _ (42, [some (.ref 94), some (.int l1), some (.int l2), some (.int l3), some (.int l4), some (.int l5)], [], (gSh, σ, u)) _ rfl (if_neg hc) ?_
      refine gRunN_ok hG.1 1 _ (44, [some (.ref 94), some (.int l1), some (.int l2), some (.int l3), some (.int l4), some (.int l5)], [.int l4], (gSh, σ, u)) rfl ?_
      rcases g_ite hP with ⟨hc, hP⟩ | ⟨hc, hP⟩
      · refine hG.1 _ (47, [some (.ref 94), some (.int l1), some (.int l2), some (.int l3), some (.int l4), some (.int l5)], [], (gSh, σ, u)) _ rfl (if_pos hc) ?_
        refine gRunN_ok hG.1 3 _ (53, [some (.ref 94), some (.int l1), some (.int l2), some (.int l3), some (.int l4), some (.int l5)], [.int l5, .ref 133], (gSh, σ, u)) rfl ?_
        obtain ⟨hc, hP⟩ := g_if hP
        refine hG.1 _ (54, [some (.ref 94), some (.int l1), some (.int l2), some (.int l3), some (.int l4), some (.int l5)], [.int (σ.1 133 l5.toNatClampNeg)], (gSh, σ, u)) _ rfl (if_pos hc) ?_
        refine gRunN_ok hG.1 2 _ (58, [some (.ref 94), some (.int l1), some (.int l2), some (.int l3), some (.int l4), some (.int l5)], [.int (σ.1 94 66), .int (σ.1 133 l5.toNatClampNeg)], (gSh, σ, u)) rfl ?_
        rcases g_ite hP with ⟨hc, hP⟩ | ⟨hc, hP⟩
        · refine hG.1 _ (61, [some (.ref 94), some (.int l1), some (.int l2), some (.int l3), some (.int l4), some (.int l5)], [], (gSh, σ, u)) _ rfl (if_pos hc) ?_
          refine gRunN_ok hG.1 7 _ (73, [some (.ref 94), some (.int l1), some (.int l2), some (.int l3), some (.int l4), some (.int l5)], [.int (((400 : Int32) * l5) + l3), .ref 135], (gSh, σ, u)) rfl ?_
          obtain ⟨hc, hP⟩ := g_if hP
          refine hG.1 _ (74, [some (.ref 94), some (.int l1), some (.int l2), some (.int l3), some (.int l4), some (.int l5)], [.int (σ.1 135 (((400 : Int32) * l5) + l3).toNatClampNeg)], (gSh, σ, u)) _ rfl (if_pos hc) ?_
          rcases g_ite hP with ⟨hc, hP⟩ | ⟨hc, hP⟩
          · refine hG.1 _ (81, [some (.ref 94), some (.int l1), some (.int l2), some (.int l3), some (.int l4), some (.int l5)], [], (gSh, σ, u)) _ rfl (if_pos hc) ?_
            refine gRunN_ok hG.1 3 _ (87, [some (.ref 94), some (.int l1), some (.int l2), some (.int l3), some (.int 0), some (.int (l5 + 1))], [], (gSh, σ, u)) rfl ?_
            obtain ⟨x1, ex1, hP⟩ := g_let hP
            rw [← ex1]
            refine gRunN_ok hG.1 1 _ (18, [some (.ref 94), some (.int l1), some (.int l2), some (.int l3), some (.int 0), some (.int x1)], [], (gSh, σ, u)) rfl ?_
            cases hP
            exact K1 _ _ rfl
          · refine hG.1 _ (77, [some (.ref 94), some (.int l1), some (.int l2), some (.int l3), some (.int l4), some (.int l5)], [], (gSh, σ, u)) _ rfl (if_neg hc) ?_
            refine gRunN_ok hG.1 4 _ (87, [some (.ref 94), some (.int l1), some (.int l2), some (.int l3), some (.int 1), some (.int (l5 + 1))], [], (gSh, σ, u)) rfl ?_
            obtain ⟨x2, ex2, hP⟩ := g_let hP
            rw [← ex2]
            refine gRunN_ok hG.1 1 _ (18, [some (.ref 94), some (.int l1), some (.int l2), some (.int l3), some (.int 1), some (.int x2)], [], (gSh, σ, u)) rfl ?_
            cases hP
            exact K1 _ _ rfl
        · refine hG.1 _ (81, [some (.ref 94), some (.int l1), some (.int l2), some (.int l3), some (.int l4), some (.int l5)], [], (gSh, σ, u)) _ rfl (if_neg hc) ?_
          refine gRunN_ok hG.1 3 _ (87, [some (.ref 94), some (.int l1), some (.int l2), some (.int l3), some (.int 0), some (.int (l5 + 1))], [], (gSh, σ, u)) rfl ?_
          obtain ⟨x3, ex3, hP⟩ := g_let hP
          rw [← ex3]
          refine gRunN_ok hG.1 1 _ (18, [some (.ref 94), some (.int l1), some (.int l2), some (.int l3), some (.int 0), some (.int x3)], [], (gSh, σ, u)) rfl ?_
          cases hP
          exact K1 _ _ rfl
      · refine hG.1 _ (77, [some (.ref 94), some (.int l1), some (.int l2), some (.int l3), some (.int l4), some (.int l5)], [], (gSh, σ, u)) _ rfl (if_neg hc) ?_
        refine gRunN_ok hG.1 4 _ (87, [some (.ref 94), some (.int l1), some (.int l2), some (.int l3), some (.int 1), some (.int (l5 + 1))], [], (gSh, σ, u)) rfl ?_
        obtain ⟨x4, ex4, hP⟩ := g_let hP
        rw [← ex4]
        refine gRunN_ok hG.1 1 _ (18, [some (.ref 94), some (.int l1), some (.int l2), some (.int l3), some (.int 1), some (.int x4)], [], (gSh, σ, u)) rfl ?_
        cases hP
        exact K1 _ _ rfl
theorem l_Model_common_18 (E : gEv) (d u : Nat) {G : gFr → Prop} {vo : Option Value} {sr : gS} (hG : gClo E gDf gP18 gY222 (some .int) (gC E gDf gMs (d + 0)) (vo, (gSh, sr, u)) G) (l1 : Int32) (l2 : Int32) (l3 : Int32) (σ : gS) : ∀ (n : Nat) (l4 : Int32) (l5 : Int32) (e : (Int32)), gIter (fun z => p_Model_common_18 E l1 l2 l3 z.1 z.2 σ) n (l4, l5) = some e → (∀ (m4 : Int32), e = m4 → G (90, [some (.ref 94), some (.int l1), some (.int l2), some (.int l3), some (.int m4), none], [], (gSh, σ, u))) → G (18, [some (.ref 94), some (.int l1), some (.int l2), some (.int l3), some (.int l4), some (.int l5)], [], (gSh, σ, u)) := by
  intro n
  induction n with
  | zero => intro l4 l5 e h; cases h
  | succ n ih =>
    intro l4 l5 e h K2
    rcases g_iter h with ⟨z, h1, h2⟩ | h1
    · exact b_Model_common_18 E d u hG l1 l2 l3 l4 l5 σ h1 (fun n0 n1 hz => by cases hz; exact ih _ _ e h2 K2) (fun _ hz => by cases hz)
    · exact b_Model_common_18 E d u hG l1 l2 l3 l4 l5 σ h1 (fun _ _ hz => by cases hz) (fun m4 hz => K2 m4 (by cases hz; rfl))
def p_Model_common_j90_4 (E : gEv) (l1 : Int32) (l2 : Int32) (l3 : Int32) (l4 : Int32) (σ : gS) : Option ((Int32 × Int32) ⊕ (Int32)) :=
  if l4 = 0 then (gLet (l2 + (0 : Int32)) fun x7 => gLet (l3 + 1) fun x8 => some (.inl (x7, x8))) else (gLet (l2 + (1 : Int32)) fun x9 => gLet (l3 + 1) fun x10 => some (.inl (x9, x10)))
set_option maxRecDepth 20000 in
theorem j_Model_common_j90_4 (E : gEv) (d u : Nat) {G : gFr → Prop} {vo : Option Value} {sr : gS} (hG : gClo E gDf gP18 gY222 (some .int) (gC E gDf gMs (d + 0)) (vo, (gSh, sr, u)) G) (l1 : Int32) (l2 : Int32) (l3 : Int32) (l4 : Int32) (σ : gS) {r : (Int32 × Int32) ⊕ (Int32)} (hP : p_Model_common_j90_4 E l1 l2 l3 l4 σ = some r) (K1 : ∀ (m2 : Int32) (m3 : Int32), r = .inl (m2, m3) → G (4, [some (.ref 94), some (.int l1), some (.int m2), some (.int m3), none, none], [], (gSh, σ, u))) (K2 : ∀ (m2 : Int32), r = .inr m2 → G (109, [none, none, some (.int m2), none, none, none], [], (gSh, σ, u))) : G (90, [some (.ref 94), some (.int l1), some (.int l2), some (.int l3), some (.int l4), none], [], (gSh, σ, u)) := by
  unfold p_Model_common_j90_4 at hP
  refine gRunN_ok hG.1 2 _ (93, [some (.ref 94), some (.int l1), some (.int l2), some (.int l3), some (.int l4), none], [.int l4, .int l2], (gSh, σ, u)) rfl ?_
  rcases g_ite hP with ⟨hc, hP⟩ | ⟨hc, hP⟩
  · refine hG.1 _ (100, [some (.ref 94), some (.int l1), some (.int l2), some (.int l3), some (.int l4), none], [.int l2], (gSh, σ, u)) _ rfl (if_pos hc) ?_
    refine gRunN_ok hG.1 3 _ (103, [some (.ref 94), some (.int l1), some (.int (l2 + (0 : Int32))), some (.int l3), some (.int l4), none], [], (gSh, σ, u)) rfl ?_
    obtain ⟨x7, ex7, hP⟩ := g_let hP
    rw [← ex7]
    refine gRunN_ok hG.1 1 _ (106, [some (.ref 94), some (.int l1), some (.int x7), some (.int (l3 + 1)), some (.int l4), none], [], (gSh, σ, u)) rfl ?_
    obtain ⟨x8, ex8, hP⟩ := g_let hP
    rw [← ex8]
    refine gRunN_ok hG.1 1 _ (4, [some (.ref 94), some (.int l1), some (.int x7), some (.int x8), some (.int l4), none], [], (gSh, σ, u)) rfl ?_
    refine hG.2.2.2.2.1 _ _ [some (.ref 94), some (.int l1), some (.int x7), some (.int x8), none, none] _ _ ⟨rfl, ⟨rfl, ⟨rfl, ⟨rfl, trivial⟩⟩⟩⟩ ?_
    cases hP
    exact K1 _ _ rfl
  · refine hG.1 _ (96, [some (.ref 94), some (.int l1), some (.int l2), some (.int l3), some (.int l4), none], [.int l2], (gSh, σ, u)) _ rfl (if_neg hc) ?_
    refine gRunN_ok hG.1 4 _ (103, [some (.ref 94), some (.int l1), some (.int (l2 + (1 : Int32))), some (.int l3), some (.int l4), none], [], (gSh, σ, u)) rfl ?_
    obtain ⟨x9, ex9, hP⟩ := g_let hP
    rw [← ex9]
    refine gRunN_ok hG.1 1 _ (106, [some (.ref 94), some (.int l1), some (.int x9), some (.int (l3 + 1)), some (.int l4), none], [], (gSh, σ, u)) rfl ?_
    obtain ⟨x10, ex10, hP⟩ := g_let hP
    rw [← ex10]
    refine gRunN_ok hG.1 1 _ (4, [some (.ref 94), some (.int l1), some (.int x9), some (.int x10), some (.int l4), none], [], (gSh, σ, u)) rfl ?_
    refine hG.2.2.2.2.1 _ _ [some (.ref 94), some (.int l1), some (.int x9), some (.int x10), none, none] _ _ ⟨rfl, ⟨rfl, ⟨rfl, ⟨rfl, trivial⟩⟩⟩⟩ ?_
    cases hP
    exact K1 _ _ rfl
def p_Model_common_4 (E : gEv) (l1 : Int32) (l2 : Int32) (l3 : Int32) (σ : gS) : Option ((Int32 × Int32) ⊕ (Int32)) :=
  if (σ.1 94 60) ≤ l3 then (some (.inr l2)) else (gB1 (gIter (fun z => p_Model_common_18 E l1 l2 l3 z.1 z.2 σ) gN (0, 0)) fun e5 => (fun w6 => p_Model_common_j90_4 E l1 l2 l3 w6 σ) e5)
set_option maxRecDepth 20000 in
theorem b_Model_common_4 (E : gEv) (d u : Nat) {G : gFr → Prop} {vo : Option Value} {sr : gS} (hG : gClo E gDf gP18 gY222 (some .int) (gC E gDf gMs (d + 0)) (vo, (gSh, sr, u)) G) (l1 : Int32) (l2 : Int32) (l3 : Int32) (σ : gS) {r : (Int32 × Int32) ⊕ (Int32)} (hP : p_Model_common_4 E l1 l2 l3 σ = some r) (K1 : ∀ (m2 : Int32) (m3 : Int32), r = .inl (m2, m3) → G (4, [some (.ref 94), some (.int l1), some (.int m2), some (.int m3), none, none], [], (gSh, σ, u))) (K2 : ∀ (m2 : Int32), r = .inr m2 → G (109, [none, none, some (.int m2), none, none, none], [], (gSh, σ, u))) : G (4, [some (.ref 94), some (.int l1), some (.int l2), some (.int l3), none, none], [], (gSh, σ, u)) := by
  unfold p_Model_common_4 at hP
  refine gRunN_ok hG.1 3 _ (9, [some (.ref 94), some (.int l1), some (.int l2), some (.int l3), none, none], [.int (σ.1 94 60), .int l3], (gSh, σ, u)) rfl ?_
  rcases g_ite hP with ⟨hc, hP⟩ | ⟨hc, hP⟩
  · refine hG.1 _ (109, [some (.ref 94), some (.int l1), some (.int l2), some (.int l3), none, none], [], (gSh, σ, u)) _ rfl (if_pos hc) ?_
    refine hG.2.2.2.2.1 _ _ [none, none, some (.int l2), none, none, none] _ _ ⟨rfl, trivial⟩ ?_
    cases hP
    exact K2 _ rfl
  · refine hG.1 _ (12, [some (.ref 94), some (.int l1), some (.int l2), some (.int l3), none, none], [], (gSh, σ, u)) _ rfl (if_neg hc) ?_
    refine gRunN_ok hG.1 4 _ (18, [some (.ref 94), some (.int l1), some (.int l2), some (.int l3), some (.int 0), some (.int 0)], [], (gSh, σ, u)) rfl ?_
    obtain ⟨e5, hq, hP⟩ := g_b1 hP
    refine l_Model_common_18 E d u hG l1 l2 l3 σ gN 0 0 _ hq (fun w6 he => ?_)
    · replace he := he.symm
      subst he
      try dsimp only [gSum] at hP
      exact j_Model_common_j90_4 E d u hG l1 l2 l3 w6 σ hP K1 K2
theorem l_Model_common_4 (E : gEv) (d u : Nat) {G : gFr → Prop} {vo : Option Value} {sr : gS} (hG : gClo E gDf gP18 gY222 (some .int) (gC E gDf gMs (d + 0)) (vo, (gSh, sr, u)) G) (l1 : Int32) (σ : gS) : ∀ (n : Nat) (l2 : Int32) (l3 : Int32) (e : (Int32)), gIter (fun z => p_Model_common_4 E l1 z.1 z.2 σ) n (l2, l3) = some e → (∀ (m2 : Int32), e = m2 → G (109, [none, none, some (.int m2), none, none, none], [], (gSh, σ, u))) → G (4, [some (.ref 94), some (.int l1), some (.int l2), some (.int l3), none, none], [], (gSh, σ, u)) := by
  intro n
  induction n with
  | zero => intro l2 l3 e h; cases h
  | succ n ih =>
    intro l2 l3 e h K2
    rcases g_iter h with ⟨z, h1, h2⟩ | h1
    · exact b_Model_common_4 E d u hG l1 l2 l3 σ h1 (fun n0 n1 hz => by cases hz; exact ih _ _ e h2 K2) (fun _ hz => by cases hz)
    · exact b_Model_common_4 E d u hG l1 l2 l3 σ h1 (fun _ _ hz => by cases hz) (fun m2 hz => K2 m2 (by cases hz; rfl))
def p_Model_common (E : gEv) (a0 : Int32) (σ : gS) : Option (Int32) :=
  gB1 (gIter (fun z => p_Model_common_4 E a0 z.1 z.2 σ) gN (0, 0)) fun e11 => (fun w12 => some w12) e11
set_option maxRecDepth 20000 in
theorem c_Model_common (E : gEv) (d u : Nat) (a0 : Int32) (σ : gS) {v : Int32}  (hq : p_Model_common E a0 σ = some v) : gC E gDf gMs (d + 1) 222 [.ref 94, .int a0] (gSh, σ, u) (some (.int v), (gSh, σ, u)) := ⟨gM222, rfl, Nat.le_of_ble_eq_true rfl, fun G hG => by
  have hP := hq
  unfold p_Model_common at hP
  replace hG : gClo E gDf gP18 gY222 (some .int) (gC E gDf gMs (d + 0)) (some (.int v), (gSh, σ, u)) G := hG
  show G (0, [some (.ref 94), some (.int a0), none, none, none, none], [], (gSh, σ, u))
  refine gRunN_ok hG.1 4 _ (4, [some (.ref 94), some (.int a0), some (.int 0), some (.int 0), none, none], [], (gSh, σ, u)) rfl ?_
  obtain ⟨e11, hq, hP⟩ := g_b1 hP
  refine l_Model_common_4 E d u hG a0 σ gN 0 0 _ hq (fun w12 he => ?_)
  · replace he := he.symm
    subst he
    try dsimp only [gSum] at hP
    refine gRunN_ok hG.1 1 _ (110, [none, none, some (.int w12), none, none, none], [.int w12], (gSh, σ, u)) rfl ?_
    cases hP
    exact hG.2.1 _ _ rfl rfl⟩
def p_Model_place_j28_2 (E : gEv) (l1 : Int32) (y1 : Int32) (y2 : Int32) (σ : gS) : Option ((Int32 × gS) ⊕ (gS)) :=
  if gIn y1 (σ.2.1 136) then gLet (gPut σ 136 y1.toNatClampNeg y2) fun s1 => gLet (l1 + 1) fun x2 => some (.inl (x2, s1)) else none
set_option maxRecDepth 20000 in
theorem j_Model_place_j28_2 (E : gEv) (d u : Nat) {G : gFr → Prop} {vo : Option Value} {sr : gS} (hG : gClo E gDf gP18 gY223 none (gC E gDf gMs (d + 0)) (vo, (gSh, sr, u)) G) (l1 : Int32) (y1 : Int32) (y2 : Int32) (σ : gS) {r : (Int32 × gS) ⊕ (gS)} (hP : p_Model_place_j28_2 E l1 y1 y2 σ = some r) (K1 : ∀ (m1 : Int32) (σ1 : gS), r = .inl (m1, σ1) → G (2, [some (.ref 94), some (.int m1)], [], (gSh, σ1, u))) (K2 : ∀ (σ1 : gS), r = .inr σ1 → G (35, [some (.ref 94), none], [], (gSh, σ1, u))) : G (28, [some (.ref 94), some (.int l1)], [.int y2, .int y1, .ref 136], (gSh, σ, u)) := by
  unfold p_Model_place_j28_2 at hP
  obtain ⟨hc, hP⟩ := g_if hP
  refine hG.1 _ (29, [some (.ref 94), some (.int l1)], [], (gSh, (gPut σ 136 y1.toNatClampNeg y2), u)) _ rfl (if_pos hc) ?_
  obtain ⟨s1, es1, hP⟩ := g_let hP
  rw [← es1]
  refine gRunN_ok hG.1 1 _ (32, [some (.ref 94), some (.int (l1 + 1))], [], (gSh, s1, u)) rfl ?_
  obtain ⟨x2, ex2, hP⟩ := g_let hP
  rw [← ex2]
  refine gRunN_ok hG.1 1 _ (2, [some (.ref 94), some (.int x2)], [], (gSh, s1, u)) rfl ?_
  cases hP
  exact K1 _ _ rfl
def p_Model_place_2 (E : gEv) (l1 : Int32) (σ : gS) : Option ((Int32 × gS) ⊕ (gS)) :=
  if (σ.1 94 4) ≤ l1 then (some (.inr σ)) else (if (σ.1 94 66) ≤ l1 then (p_Model_place_j28_2 E l1 l1 (-1) σ) else (p_Model_place_j28_2 E l1 l1 l1 σ))
set_option maxRecDepth 20000 in
theorem b_Model_place_2 (E : gEv) (d u : Nat) {G : gFr → Prop} {vo : Option Value} {sr : gS} (hG : gClo E gDf gP18 gY223 none (gC E gDf gMs (d + 0)) (vo, (gSh, sr, u)) G) (l1 : Int32) (σ : gS) {r : (Int32 × gS) ⊕ (gS)} (hP : p_Model_place_2 E l1 σ = some r) (K1 : ∀ (m1 : Int32) (σ1 : gS), r = .inl (m1, σ1) → G (2, [some (.ref 94), some (.int m1)], [], (gSh, σ1, u))) (K2 : ∀ (σ1 : gS), r = .inr σ1 → G (35, [some (.ref 94), none], [], (gSh, σ1, u))) : G (2, [some (.ref 94), some (.int l1)], [], (gSh, σ, u)) := by
  unfold p_Model_place_2 at hP
  refine gRunN_ok hG.1 3 _ (7, [some (.ref 94), some (.int l1)], [.int (σ.1 94 4), .int l1], (gSh, σ, u)) rfl ?_
  rcases g_ite hP with ⟨hc, hP⟩ | ⟨hc, hP⟩
  · refine hG.1 _ (35, [some (.ref 94), some (.int l1)], [], (gSh, σ, u)) _ rfl (if_pos hc) ?_
    refine hG.2.2.2.2.1 _ _ [some (.ref 94), none] _ _ ⟨rfl, trivial⟩ ?_
    cases hP
    exact K2 _ rfl
  · refine hG.1 _ (10, [some (.ref 94), some (.int l1)], [], (gSh, σ, u)) _ rfl (if_neg hc) ?_
    refine gRunN_ok hG.1 6 _ (20, [some (.ref 94), some (.int l1)], [.int (σ.1 94 66), .int l1, .int l1, .ref 136], (gSh, σ, u)) rfl ?_
    rcases g_ite hP with ⟨hc, hP⟩ | ⟨hc, hP⟩
    · refine hG.1 _ (27, [some (.ref 94), some (.int l1)], [.int l1, .ref 136], (gSh, σ, u)) _ rfl (if_pos hc) ?_
      refine gRunN_ok hG.1 1 _ (28, [some (.ref 94), some (.int l1)], [.int (-1), .int l1, .ref 136], (gSh, σ, u)) rfl ?_
      exact j_Model_place_j28_2 E d u hG l1 l1 (-1) σ hP K1 K2
    · refine hG.1 _ (23, [some (.ref 94), some (.int l1)], [.int l1, .ref 136], (gSh, σ, u)) _ rfl (if_neg hc) ?_
      refine gRunN_ok hG.1 2 _ (28, [some (.ref 94), some (.int l1)], [.int l1, .int l1, .ref 136], (gSh, σ, u)) rfl ?_
      exact j_Model_place_j28_2 E d u hG l1 l1 l1 σ hP K1 K2
theorem l_Model_place_2 (E : gEv) (d u : Nat) {G : gFr → Prop} {vo : Option Value} {sr : gS} (hG : gClo E gDf gP18 gY223 none (gC E gDf gMs (d + 0)) (vo, (gSh, sr, u)) G) : ∀ (n : Nat) (l1 : Int32) (σ : gS) (e : (gS)), gIter (fun z => p_Model_place_2 E z.1 z.2) n (l1, σ) = some e → (∀ (σ1 : gS), e = σ1 → G (35, [some (.ref 94), none], [], (gSh, σ1, u))) → G (2, [some (.ref 94), some (.int l1)], [], (gSh, σ, u)) := by
  intro n
  induction n with
  | zero => intro l1 σ e h; cases h
  | succ n ih =>
    intro l1 σ e h K2
    rcases g_iter h with ⟨z, h1, h2⟩ | h1
    · exact b_Model_place_2 E d u hG l1 σ h1 (fun n0 n1 hz => by cases hz; exact ih _ _ e h2 K2) (fun _ hz => by cases hz)
    · exact b_Model_place_2 E d u hG l1 σ h1 (fun _ _ hz => by cases hz) (fun σ1 hz => K2 σ1 (by cases hz; rfl))
def p_Model_place_j89_37 (E : gEv) (l1 : Int32) (y1 : Int32) (y2 : Int32) (σ : gS) : Option ((Int32 × gS) ⊕ (gS)) :=
  if gIn y1 (σ.2.1 137) then gLet (gPut σ 137 y1.toNatClampNeg y2) fun s5 => gLet (l1 + 1) fun x6 => some (.inl (x6, s5)) else none
set_option maxRecDepth 20000 in
theorem j_Model_place_j89_37 (E : gEv) (d u : Nat) {G : gFr → Prop} {vo : Option Value} {sr : gS} (hG : gClo E gDf gP18 gY223 none (gC E gDf gMs (d + 0)) (vo, (gSh, sr, u)) G) (l1 : Int32) (y1 : Int32) (y2 : Int32) (σ : gS) {r : (Int32 × gS) ⊕ (gS)} (hP : p_Model_place_j89_37 E l1 y1 y2 σ = some r) (K1 : ∀ (m1 : Int32) (σ1 : gS), r = .inl (m1, σ1) → G (37, [some (.ref 94), some (.int m1)], [], (gSh, σ1, u))) (K2 : ∀ (σ1 : gS), r = .inr σ1 → G (96, [none, none], [], (gSh, σ1, u))) : G (89, [some (.ref 94), some (.int l1)], [.int y2, .int y1, .ref 137], (gSh, σ, u)) := by
  unfold p_Model_place_j89_37 at hP
  obtain ⟨hc, hP⟩ := g_if hP
  refine hG.1 _ (90, [some (.ref 94), some (.int l1)], [], (gSh, (gPut σ 137 y1.toNatClampNeg y2), u)) _ rfl (if_pos hc) ?_
  obtain ⟨s5, es5, hP⟩ := g_let hP
  rw [← es5]
  refine gRunN_ok hG.1 1 _ (93, [some (.ref 94), some (.int (l1 + 1))], [], (gSh, s5, u)) rfl ?_
  obtain ⟨x6, ex6, hP⟩ := g_let hP
  rw [← ex6]
  refine gRunN_ok hG.1 1 _ (37, [some (.ref 94), some (.int x6)], [], (gSh, s5, u)) rfl ?_
  cases hP
  exact K1 _ _ rfl
def p_Model_place_37 (E : gEv) (l1 : Int32) (σ : gS) : Option ((Int32 × gS) ⊕ (gS)) :=
  if (σ.1 94 6) ≤ l1 then (some (.inr σ)) else (if (σ.1 94 29) ≤ l1 then (if ((σ.1 94 29) + (σ.1 94 30)) ≤ l1 then (p_Model_place_j89_37 E l1 l1 (-1) σ) else (p_Model_place_j89_37 E l1 l1 (((200 : Int32) + l1) - (σ.1 94 29)) σ)) else (p_Model_place_j89_37 E l1 l1 l1 σ))
set_option maxRecDepth 20000 in
theorem b_Model_place_37 (E : gEv) (d u : Nat) {G : gFr → Prop} {vo : Option Value} {sr : gS} (hG : gClo E gDf gP18 gY223 none (gC E gDf gMs (d + 0)) (vo, (gSh, sr, u)) G) (l1 : Int32) (σ : gS) {r : (Int32 × gS) ⊕ (gS)} (hP : p_Model_place_37 E l1 σ = some r) (K1 : ∀ (m1 : Int32) (σ1 : gS), r = .inl (m1, σ1) → G (37, [some (.ref 94), some (.int m1)], [], (gSh, σ1, u))) (K2 : ∀ (σ1 : gS), r = .inr σ1 → G (96, [none, none], [], (gSh, σ1, u))) : G (37, [some (.ref 94), some (.int l1)], [], (gSh, σ, u)) := by
  unfold p_Model_place_37 at hP
  refine gRunN_ok hG.1 3 _ (42, [some (.ref 94), some (.int l1)], [.int (σ.1 94 6), .int l1], (gSh, σ, u)) rfl ?_
  rcases g_ite hP with ⟨hc, hP⟩ | ⟨hc, hP⟩
  · refine hG.1 _ (96, [some (.ref 94), some (.int l1)], [], (gSh, σ, u)) _ rfl (if_pos hc) ?_
    refine hG.2.2.2.2.1 _ _ [none, none] _ _ trivial ?_
    cases hP
    exact K2 _ rfl
  · refine hG.1 _ (45, [some (.ref 94), some (.int l1)], [], (gSh, σ, u)) _ rfl (if_neg hc) ?_
    refine gRunN_ok hG.1 6 _ (55, [some (.ref 94), some (.int l1)], [.int (σ.1 94 29), .int l1, .int l1, .ref 137], (gSh, σ, u)) rfl ?_
    rcases g_ite hP with ⟨hc, hP⟩ | ⟨hc, hP⟩
    · refine hG.1 _ (62, [some (.ref 94), some (.int l1)], [.int l1, .ref 137], (gSh, σ, u)) _ rfl (if_pos hc) ?_
      refine gRunN_ok hG.1 6 _ (72, [some (.ref 94), some (.int l1)], [.int ((σ.1 94 29) + (σ.1 94 30)), .int l1, .int l1, .ref 137], (gSh, σ, u)) rfl ?_
      rcases g_ite hP with ⟨hc, hP⟩ | ⟨hc, hP⟩
      · refine hG.1 _ (88, [some (.ref 94), some (.int l1)], [.int l1, .ref 137], (gSh, σ, u)) _ rfl (if_pos hc) ?_
        refine gRunN_ok hG.1 1 _ (89, [some (.ref 94), some (.int l1)], [.int (-1), .int l1, .ref 137], (gSh, σ, u)) rfl ?_
        exact j_Model_place_j89_37 E d u hG l1 l1 (-1) σ hP K1 K2
      · refine hG.1 _ (75, [some (.ref 94), some (.int l1)], [.int l1, .ref 137], (gSh, σ, u)) _ rfl (if_neg hc) ?_
        refine gRunN_ok hG.1 7 _ (89, [some (.ref 94), some (.int l1)], [.int (((200 : Int32) + l1) - (σ.1 94 29)), .int l1, .ref 137], (gSh, σ, u)) rfl ?_
        exact j_Model_place_j89_37 E d u hG l1 l1 (((200 : Int32) + l1) - (σ.1 94 29)) σ hP K1 K2
    · refine hG.1 _ (58, [some (.ref 94), some (.int l1)], [.int l1, .ref 137], (gSh, σ, u)) _ rfl (if_neg hc) ?_
      refine gRunN_ok hG.1 2 _ (89, [some (.ref 94), some (.int l1)], [.int l1, .int l1, .ref 137], (gSh, σ, u)) rfl ?_
      exact j_Model_place_j89_37 E d u hG l1 l1 l1 σ hP K1 K2
theorem l_Model_place_37 (E : gEv) (d u : Nat) {G : gFr → Prop} {vo : Option Value} {sr : gS} (hG : gClo E gDf gP18 gY223 none (gC E gDf gMs (d + 0)) (vo, (gSh, sr, u)) G) : ∀ (n : Nat) (l1 : Int32) (σ : gS) (e : (gS)), gIter (fun z => p_Model_place_37 E z.1 z.2) n (l1, σ) = some e → (∀ (σ1 : gS), e = σ1 → G (96, [none, none], [], (gSh, σ1, u))) → G (37, [some (.ref 94), some (.int l1)], [], (gSh, σ, u)) := by
  intro n
  induction n with
  | zero => intro l1 σ e h; cases h
  | succ n ih =>
    intro l1 σ e h K2
    rcases g_iter h with ⟨z, h1, h2⟩ | h1
    · exact b_Model_place_37 E d u hG l1 σ h1 (fun n0 n1 hz => by cases hz; exact ih _ _ e h2 K2) (fun _ hz => by cases hz)
    · exact b_Model_place_37 E d u hG l1 σ h1 (fun _ _ hz => by cases hz) (fun σ1 hz => K2 σ1 (by cases hz; rfl))
def p_Model_place (E : gEv) (σ : gS) : Option (gS) :=
  gB1 (gIter (fun z => p_Model_place_2 E z.1 z.2) gN (0, σ)) fun e3 => (fun s4 => gB1 (gIter (fun z => p_Model_place_37 E z.1 z.2) gN (0, s4)) fun e7 => (fun s8 => some s8) e7) e3
set_option maxRecDepth 20000 in
theorem c_Model_place (E : gEv) (d u : Nat) (σ : gS) {sr : gS}  (hq : p_Model_place E σ = some sr) : gC E gDf gMs (d + 1) 223 [.ref 94] (gSh, σ, u) (none, (gSh, sr, u)) := ⟨gM223, rfl, Nat.le_of_ble_eq_true rfl, fun G hG => by
  have hP := hq
  unfold p_Model_place at hP
  replace hG : gClo E gDf gP18 gY223 none (gC E gDf gMs (d + 0)) (none, (gSh, sr, u)) G := hG
  show G (0, [some (.ref 94), none], [], (gSh, σ, u))
  refine gRunN_ok hG.1 2 _ (2, [some (.ref 94), some (.int 0)], [], (gSh, σ, u)) rfl ?_
  obtain ⟨e3, hq, hP⟩ := g_b1 hP
  refine l_Model_place_2 E d u hG gN 0 σ _ hq (fun s4 he => ?_)
  · replace he := he.symm
    subst he
    try dsimp only [gSum] at hP
    refine gRunN_ok hG.1 2 _ (37, [some (.ref 94), some (.int 0)], [], (gSh, s4, u)) rfl ?_
    obtain ⟨e7, hq, hP⟩ := g_b1 hP
    refine l_Model_place_37 E d u hG gN 0 s4 _ hq (fun s8 he => ?_)
    · replace he := he.symm
      subst he
      try dsimp only [gSum] at hP
      cases hP
      exact hG.2.1 _ _ rfl rfl⟩
def p_Model_padOf_2 (E : gEv) (l1 : Int32) (l2 : Int32) (σ : gS) : Option ((Int32) ⊕ (Int32)) :=
  if gIn l2 (σ.2.1 137) then if (σ.1 137 l2.toNatClampNeg) = l1 then (some (.inr l2)) else (gLet (l2 + 1) fun x1 => some (.inl x1)) else none
set_option maxRecDepth 20000 in
theorem b_Model_padOf_2 (E : gEv) (d u : Nat) {G : gFr → Prop} {vo : Option Value} {sr : gS} (hG : gClo E gDf gP18 gY227 (some .int) (gC E gDf gMs (d + 0)) (vo, (gSh, sr, u)) G) (l1 : Int32) (l2 : Int32) (σ : gS) {r : (Int32) ⊕ (Int32)} (hP : p_Model_padOf_2 E l1 l2 σ = some r) (K1 : ∀ (m2 : Int32), r = .inl m2 → G (2, [some (.ref 94), some (.int l1), some (.int m2)], [], (gSh, σ, u))) (K2 : ∀ (m2 : Int32), r = .inr m2 → G (18, [none, none, some (.int m2)], [], (gSh, σ, u))) : G (2, [some (.ref 94), some (.int l1), some (.int l2)], [], (gSh, σ, u)) := by
  unfold p_Model_padOf_2 at hP
  refine gRunN_ok hG.1 3 _ (7, [some (.ref 94), some (.int l1), some (.int l2)], [.int l2, .ref 137], (gSh, σ, u)) rfl ?_
  obtain ⟨hc, hP⟩ := g_if hP
  refine hG.1 _ (8, [some (.ref 94), some (.int l1), some (.int l2)], [.int (σ.1 137 l2.toNatClampNeg)], (gSh, σ, u)) _ rfl (if_pos hc) ?_
  refine gRunN_ok hG.1 1 _ (9, [some (.ref 94), some (.int l1), some (.int l2)], [.int l1, .int (σ.1 137 l2.toNatClampNeg)], (gSh, σ, u)) rfl ?_
  rcases g_ite hP with ⟨hc, hP⟩ | ⟨hc, hP⟩
  · refine hG.1 _ (18, [some (.ref 94), some (.int l1), some (.int l2)], [], (gSh, σ, u)) _ rfl (if_pos hc) ?_
    refine hG.2.2.2.2.1 _ _ [none, none, some (.int l2)] _ _ ⟨rfl, trivial⟩ ?_
    cases hP
    exact K2 _ rfl
  · refine hG.1 _ (12, [some (.ref 94), some (.int l1), some (.int l2)], [], (gSh, σ, u)) _ rfl (if_neg hc) ?_
    refine gRunN_ok hG.1 1 _ (15, [some (.ref 94), some (.int l1), some (.int (l2 + 1))], [], (gSh, σ, u)) rfl ?_
    obtain ⟨x1, ex1, hP⟩ := g_let hP
    rw [← ex1]
    refine gRunN_ok hG.1 1 _ (2, [some (.ref 94), some (.int l1), some (.int x1)], [], (gSh, σ, u)) rfl ?_
    cases hP
    exact K1 _ rfl
theorem l_Model_padOf_2 (E : gEv) (d u : Nat) {G : gFr → Prop} {vo : Option Value} {sr : gS} (hG : gClo E gDf gP18 gY227 (some .int) (gC E gDf gMs (d + 0)) (vo, (gSh, sr, u)) G) (l1 : Int32) (σ : gS) : ∀ (n : Nat) (l2 : Int32) (e : (Int32)), gIter (fun z => p_Model_padOf_2 E l1 z σ) n l2 = some e → (∀ (m2 : Int32), e = m2 → G (18, [none, none, some (.int m2)], [], (gSh, σ, u))) → G (2, [some (.ref 94), some (.int l1), some (.int l2)], [], (gSh, σ, u)) := by
  intro n
  induction n with
  | zero => intro l2 e h; cases h
  | succ n ih =>
    intro l2 e h K2
    rcases g_iter h with ⟨z, h1, h2⟩ | h1
    · exact b_Model_padOf_2 E d u hG l1 l2 σ h1 (fun n0 hz => by cases hz; exact ih _ e h2 K2) (fun _ hz => by cases hz)
    · exact b_Model_padOf_2 E d u hG l1 l2 σ h1 (fun _ hz => by cases hz) (fun m2 hz => K2 m2 (by cases hz; rfl))
def p_Model_padOf (E : gEv) (a0 : Int32) (σ : gS) : Option (Int32) :=
  gB1 (gIter (fun z => p_Model_padOf_2 E a0 z σ) gN 0) fun e2 => (fun w3 => some w3) e2
set_option maxRecDepth 20000 in
theorem c_Model_padOf (E : gEv) (d u : Nat) (a0 : Int32) (σ : gS) {v : Int32}  (hq : p_Model_padOf E a0 σ = some v) : gC E gDf gMs (d + 1) 227 [.ref 94, .int a0] (gSh, σ, u) (some (.int v), (gSh, σ, u)) := ⟨gM227, rfl, Nat.le_of_ble_eq_true rfl, fun G hG => by
  have hP := hq
  unfold p_Model_padOf at hP
  replace hG : gClo E gDf gP18 gY227 (some .int) (gC E gDf gMs (d + 0)) (some (.int v), (gSh, σ, u)) G := hG
  show G (0, [some (.ref 94), some (.int a0), none], [], (gSh, σ, u))
  refine gRunN_ok hG.1 2 _ (2, [some (.ref 94), some (.int a0), some (.int 0)], [], (gSh, σ, u)) rfl ?_
  obtain ⟨e2, hq, hP⟩ := g_b1 hP
  refine l_Model_padOf_2 E d u hG a0 σ gN 0 _ hq (fun w3 he => ?_)
  · replace he := he.symm
    subst he
    try dsimp only [gSum] at hP
    refine gRunN_ok hG.1 1 _ (19, [none, none, some (.int w3)], [.int w3], (gSh, σ, u)) rfl ?_
    cases hP
    exact hG.2.1 _ _ rfl rfl⟩
def p_Model_padX (E : gEv) (a0 : Int32) (σ : gS) : Option (Int32) :=
  gLet (a0 / (2 : Int32)) fun x1 => if (σ.1 94 0) ≤ x1 then (if ((2 : Int32) * (σ.1 94 0)) ≤ x1 then (if (((2 : Int32) * (σ.1 94 0)) + (σ.1 94 1)) ≤ x1 then (some ((σ.1 94 0) + (1 : Int32))) else (some 0)) else (some ((x1 - (σ.1 94 0)) + (1 : Int32)))) else (some (x1 + (1 : Int32)))
set_option maxRecDepth 20000 in
theorem c_Model_padX (E : gEv) (d u : Nat) (a0 : Int32) (σ : gS) {v : Int32}  (hq : p_Model_padX E a0 σ = some v) : gC E gDf gMs (d + 1) 229 [.ref 94, .int a0] (gSh, σ, u) (some (.int v), (gSh, σ, u)) := ⟨gM229, rfl, Nat.le_of_ble_eq_true rfl, fun G hG => by
  have hP := hq
  unfold p_Model_padX at hP
  replace hG : gClo E gDf gP18 gY229 (some .int) (gC E gDf gMs (d + 0)) (some (.int v), (gSh, σ, u)) G := hG
  show G (0, [some (.ref 94), some (.int a0), none], [], (gSh, σ, u))
  refine gRunN_ok hG.1 4 _ (4, [some (.ref 94), some (.int a0), some (.int (a0 / (2 : Int32)))], [], (gSh, σ, u)) rfl ?_
  obtain ⟨x1, ex1, hP⟩ := g_let hP
  rw [← ex1]
  refine gRunN_ok hG.1 3 _ (9, [some (.ref 94), some (.int a0), some (.int x1)], [.int (σ.1 94 0), .int x1], (gSh, σ, u)) rfl ?_
  rcases g_ite hP with ⟨hc, hP⟩ | ⟨hc, hP⟩
  · refine hG.1 _ (18, [some (.ref 94), some (.int a0), some (.int x1)], [], (gSh, σ, u)) _ rfl (if_pos hc) ?_
    refine gRunN_ok hG.1 5 _ (25, [some (.ref 94), some (.int a0), some (.int x1)], [.int ((2 : Int32) * (σ.1 94 0)), .int x1], (gSh, σ, u)) rfl ?_
    rcases g_ite hP with ⟨hc, hP⟩ | ⟨hc, hP⟩
    · refine hG.1 _ (39, [some (.ref 94), some (.int a0), some (.int x1)], [], (gSh, σ, u)) _ rfl (if_pos hc) ?_
      refine gRunN_ok hG.1 8 _ (51, [some (.ref 94), some (.int a0), some (.int x1)], [.int (((2 : Int32) * (σ.1 94 0)) + (σ.1 94 1)), .int x1], (gSh, σ, u)) rfl ?_
      rcases g_ite hP with ⟨hc, hP⟩ | ⟨hc, hP⟩
      · refine hG.1 _ (58, [some (.ref 94), some (.int a0), some (.int x1)], [], (gSh, σ, u)) _ rfl (if_pos hc) ?_
        refine gRunN_ok hG.1 4 _ (64, [some (.ref 94), some (.int a0), some (.int x1)], [.int ((σ.1 94 0) + (1 : Int32))], (gSh, σ, u)) rfl ?_
        cases hP
        exact hG.2.1 _ _ rfl rfl
      · refine hG.1 _ (54, [some (.ref 94), some (.int a0), some (.int x1)], [], (gSh, σ, u)) _ rfl (if_neg hc) ?_
        refine gRunN_ok hG.1 2 _ (64, [some (.ref 94), some (.int a0), some (.int x1)], [.int 0], (gSh, σ, u)) rfl ?_
        cases hP
        exact hG.2.1 _ _ rfl rfl
    · refine hG.1 _ (28, [some (.ref 94), some (.int a0), some (.int x1)], [], (gSh, σ, u)) _ rfl (if_neg hc) ?_
      refine gRunN_ok hG.1 7 _ (64, [some (.ref 94), some (.int a0), some (.int x1)], [.int ((x1 - (σ.1 94 0)) + (1 : Int32))], (gSh, σ, u)) rfl ?_
      cases hP
      exact hG.2.1 _ _ rfl rfl
  · refine hG.1 _ (12, [some (.ref 94), some (.int a0), some (.int x1)], [], (gSh, σ, u)) _ rfl (if_neg hc) ?_
    refine gRunN_ok hG.1 4 _ (64, [some (.ref 94), some (.int a0), some (.int x1)], [.int (x1 + (1 : Int32))], (gSh, σ, u)) rfl ?_
    cases hP
    exact hG.2.1 _ _ rfl rfl⟩
def p_Model_padY (E : gEv) (a0 : Int32) (σ : gS) : Option (Int32) :=
  gLet (a0 / (2 : Int32)) fun x1 => if (σ.1 94 0) ≤ x1 then (if ((2 : Int32) * (σ.1 94 0)) ≤ x1 then (if (((2 : Int32) * (σ.1 94 0)) + (σ.1 94 1)) ≤ x1 then (some (((x1 - ((2 : Int32) * (σ.1 94 0))) - (σ.1 94 1)) + (1 : Int32))) else (some ((x1 - ((2 : Int32) * (σ.1 94 0))) + (1 : Int32)))) else (some ((σ.1 94 1) + (1 : Int32)))) else (some 0)
set_option maxRecDepth 20000 in
theorem c_Model_padY (E : gEv) (d u : Nat) (a0 : Int32) (σ : gS) {v : Int32}  (hq : p_Model_padY E a0 σ = some v) : gC E gDf gMs (d + 1) 230 [.ref 94, .int a0] (gSh, σ, u) (some (.int v), (gSh, σ, u)) := ⟨gM230, rfl, Nat.le_of_ble_eq_true rfl, fun G hG => by
  have hP := hq
  unfold p_Model_padY at hP
  replace hG : gClo E gDf gP18 gY230 (some .int) (gC E gDf gMs (d + 0)) (some (.int v), (gSh, σ, u)) G := hG
  show G (0, [some (.ref 94), some (.int a0), none], [], (gSh, σ, u))
  refine gRunN_ok hG.1 4 _ (4, [some (.ref 94), some (.int a0), some (.int (a0 / (2 : Int32)))], [], (gSh, σ, u)) rfl ?_
  obtain ⟨x1, ex1, hP⟩ := g_let hP
  rw [← ex1]
  refine gRunN_ok hG.1 3 _ (9, [some (.ref 94), some (.int a0), some (.int x1)], [.int (σ.1 94 0), .int x1], (gSh, σ, u)) rfl ?_
  rcases g_ite hP with ⟨hc, hP⟩ | ⟨hc, hP⟩
  · refine hG.1 _ (16, [some (.ref 94), some (.int a0), some (.int x1)], [], (gSh, σ, u)) _ rfl (if_pos hc) ?_
    refine gRunN_ok hG.1 5 _ (23, [some (.ref 94), some (.int a0), some (.int x1)], [.int ((2 : Int32) * (σ.1 94 0)), .int x1], (gSh, σ, u)) rfl ?_
    rcases g_ite hP with ⟨hc, hP⟩ | ⟨hc, hP⟩
    · refine hG.1 _ (35, [some (.ref 94), some (.int a0), some (.int x1)], [], (gSh, σ, u)) _ rfl (if_pos hc) ?_
      refine gRunN_ok hG.1 8 _ (47, [some (.ref 94), some (.int a0), some (.int x1)], [.int (((2 : Int32) * (σ.1 94 0)) + (σ.1 94 1)), .int x1], (gSh, σ, u)) rfl ?_
      rcases g_ite hP with ⟨hc, hP⟩ | ⟨hc, hP⟩
      · refine hG.1 _ (63, [some (.ref 94), some (.int a0), some (.int x1)], [], (gSh, σ, u)) _ rfl (if_pos hc) ?_
        refine gRunN_ok hG.1 11 _ (78, [some (.ref 94), some (.int a0), some (.int x1)], [.int (((x1 - ((2 : Int32) * (σ.1 94 0))) - (σ.1 94 1)) + (1 : Int32))], (gSh, σ, u)) rfl ?_
        cases hP
        exact hG.2.1 _ _ rfl rfl
      · refine hG.1 _ (50, [some (.ref 94), some (.int a0), some (.int x1)], [], (gSh, σ, u)) _ rfl (if_neg hc) ?_
        refine gRunN_ok hG.1 9 _ (78, [some (.ref 94), some (.int a0), some (.int x1)], [.int ((x1 - ((2 : Int32) * (σ.1 94 0))) + (1 : Int32))], (gSh, σ, u)) rfl ?_
        cases hP
        exact hG.2.1 _ _ rfl rfl
    · refine hG.1 _ (26, [some (.ref 94), some (.int a0), some (.int x1)], [], (gSh, σ, u)) _ rfl (if_neg hc) ?_
      refine gRunN_ok hG.1 5 _ (78, [some (.ref 94), some (.int a0), some (.int x1)], [.int ((σ.1 94 1) + (1 : Int32))], (gSh, σ, u)) rfl ?_
      cases hP
      exact hG.2.1 _ _ rfl rfl
  · refine hG.1 _ (12, [some (.ref 94), some (.int a0), some (.int x1)], [], (gSh, σ, u)) _ rfl (if_neg hc) ?_
    refine gRunN_ok hG.1 2 _ (78, [some (.ref 94), some (.int a0), some (.int x1)], [.int 0], (gSh, σ, u)) rfl ?_
    cases hP
    exact hG.2.1 _ _ rfl rfl⟩
def p_Model_tileOf_2 (E : gEv) (l1 : Int32) (l2 : Int32) (σ : gS) : Option ((Int32) ⊕ (Int32)) :=
  if gIn l2 (σ.2.1 136) then if gIn l1 (σ.2.1 133) then if (σ.1 136 l2.toNatClampNeg) = (σ.1 133 l1.toNatClampNeg) then (some (.inr l2)) else (gLet (l2 + 1) fun x1 => some (.inl x1)) else none else none
set_option maxRecDepth 20000 in
theorem b_Model_tileOf_2 (E : gEv) (d u : Nat) {G : gFr → Prop} {vo : Option Value} {sr : gS} (hG : gClo E gDf gP18 gY232 (some .int) (gC E gDf gMs (d + 0)) (vo, (gSh, sr, u)) G) (l1 : Int32) (l2 : Int32) (σ : gS) {r : (Int32) ⊕ (Int32)} (hP : p_Model_tileOf_2 E l1 l2 σ = some r) (K1 : ∀ (m2 : Int32), r = .inl m2 → G (2, [some (.ref 94), some (.int l1), some (.int m2)], [], (gSh, σ, u))) (K2 : ∀ (m2 : Int32), r = .inr m2 → G (23, [none, none, some (.int m2)], [], (gSh, σ, u))) : G (2, [some (.ref 94), some (.int l1), some (.int l2)], [], (gSh, σ, u)) := by
  unfold p_Model_tileOf_2 at hP
  refine gRunN_ok hG.1 3 _ (7, [some (.ref 94), some (.int l1), some (.int l2)], [.int l2, .ref 136], (gSh, σ, u)) rfl ?_
  obtain ⟨hc, hP⟩ := g_if hP
  refine hG.1 _ (8, [some (.ref 94), some (.int l1), some (.int l2)], [.int (σ.1 136 l2.toNatClampNeg)], (gSh, σ, u)) _ rfl (if_pos hc) ?_
  refine gRunN_ok hG.1 3 _ (13, [some (.ref 94), some (.int l1), some (.int l2)], [.int l1, .ref 133, .int (σ.1 136 l2.toNatClampNeg)], (gSh, σ, u)) rfl ?_
  obtain ⟨hc, hP⟩ := g_if hP
  refine hG.1 _ (14, [some (.ref 94), some (.int l1), some (.int l2)], [.int (σ.1 133 l1.toNatClampNeg), .int (σ.1 136 l2.toNatClampNeg)], (gSh, σ, u)) _ rfl (if_pos hc) ?_
  rcases g_ite hP with ⟨hc, hP⟩ | ⟨hc, hP⟩
  · refine hG.1 _ (23, [some (.ref 94), some (.int l1), some (.int l2)], [], (gSh, σ, u)) _ rfl (if_pos hc) ?_
    refine hG.2.2.2.2.1 _ _ [none, none, some (.int l2)] _ _ ⟨rfl, trivial⟩ ?_
    cases hP
    exact K2 _ rfl
  · refine hG.1 _ (17, [some (.ref 94), some (.int l1), some (.int l2)], [], (gSh, σ, u)) _ rfl (if_neg hc) ?_
    refine gRunN_ok hG.1 1 _ (20, [some (.ref 94), some (.int l1), some (.int (l2 + 1))], [], (gSh, σ, u)) rfl ?_
    obtain ⟨x1, ex1, hP⟩ := g_let hP
    rw [← ex1]
    refine gRunN_ok hG.1 1 _ (2, [some (.ref 94), some (.int l1), some (.int x1)], [], (gSh, σ, u)) rfl ?_
    cases hP
    exact K1 _ rfl
theorem l_Model_tileOf_2 (E : gEv) (d u : Nat) {G : gFr → Prop} {vo : Option Value} {sr : gS} (hG : gClo E gDf gP18 gY232 (some .int) (gC E gDf gMs (d + 0)) (vo, (gSh, sr, u)) G) (l1 : Int32) (σ : gS) : ∀ (n : Nat) (l2 : Int32) (e : (Int32)), gIter (fun z => p_Model_tileOf_2 E l1 z σ) n l2 = some e → (∀ (m2 : Int32), e = m2 → G (23, [none, none, some (.int m2)], [], (gSh, σ, u))) → G (2, [some (.ref 94), some (.int l1), some (.int l2)], [], (gSh, σ, u)) := by
  intro n
  induction n with
  | zero => intro l2 e h; cases h
  | succ n ih =>
    intro l2 e h K2
    rcases g_iter h with ⟨z, h1, h2⟩ | h1
    · exact b_Model_tileOf_2 E d u hG l1 l2 σ h1 (fun n0 hz => by cases hz; exact ih _ e h2 K2) (fun _ hz => by cases hz)
    · exact b_Model_tileOf_2 E d u hG l1 l2 σ h1 (fun _ hz => by cases hz) (fun m2 hz => K2 m2 (by cases hz; rfl))
def p_Model_tileOf (E : gEv) (a0 : Int32) (σ : gS) : Option (Int32) :=
  gB1 (gIter (fun z => p_Model_tileOf_2 E a0 z σ) gN 0) fun e2 => (fun w3 => some w3) e2
set_option maxRecDepth 20000 in
theorem c_Model_tileOf (E : gEv) (d u : Nat) (a0 : Int32) (σ : gS) {v : Int32}  (hq : p_Model_tileOf E a0 σ = some v) : gC E gDf gMs (d + 1) 232 [.ref 94, .int a0] (gSh, σ, u) (some (.int v), (gSh, σ, u)) := ⟨gM232, rfl, Nat.le_of_ble_eq_true rfl, fun G hG => by
  have hP := hq
  unfold p_Model_tileOf at hP
  replace hG : gClo E gDf gP18 gY232 (some .int) (gC E gDf gMs (d + 0)) (some (.int v), (gSh, σ, u)) G := hG
  show G (0, [some (.ref 94), some (.int a0), none], [], (gSh, σ, u))
  refine gRunN_ok hG.1 2 _ (2, [some (.ref 94), some (.int a0), some (.int 0)], [], (gSh, σ, u)) rfl ?_
  obtain ⟨e2, hq, hP⟩ := g_b1 hP
  refine l_Model_tileOf_2 E d u hG a0 σ gN 0 _ hq (fun w3 he => ?_)
  · replace he := he.symm
    subst he
    try dsimp only [gSum] at hP
    refine gRunN_ok hG.1 1 _ (24, [none, none, some (.int w3)], [.int w3], (gSh, σ, u)) rfl ?_
    cases hP
    exact hG.2.1 _ _ rfl rfl⟩
def p_Model_lut (E : gEv) (a0 : Int32) (a1 : Int32) (σ : gS) : Option (Int32) :=
  if (σ.1 94 106) = 0 then (some (-1)) else (if a0 < 0 then (some (-1)) else (if (σ.1 94 46) ≤ a0 then (some (-1)) else (if a1 < 0 then (some (-1)) else (if a1 ≤ (4 : Int32) then (if a1 = (4 : Int32) then (if gIn a0 (σ.2.1 118) then some (σ.1 118 a0.toNatClampNeg) else none) else (if gIn (((4 : Int32) * a0) + a1) (σ.2.1 117) then some (σ.1 117 (((4 : Int32) * a0) + a1).toNatClampNeg) else none)) else (some (-1))))))
set_option maxRecDepth 20000 in
theorem c_Model_lut (E : gEv) (d u : Nat) (a0 : Int32) (a1 : Int32) (σ : gS) {v : Int32}  (hq : p_Model_lut E a0 a1 σ = some v) : gC E gDf gMs (d + 1) 234 [.ref 94, .int a0, .int a1] (gSh, σ, u) (some (.int v), (gSh, σ, u)) := ⟨gM234, rfl, Nat.le_of_ble_eq_true rfl, fun G hG => by
  have hP := hq
  unfold p_Model_lut at hP
  replace hG : gClo E gDf gP18 gY234 (some .int) (gC E gDf gMs (d + 0)) (some (.int v), (gSh, σ, u)) G := hG
  show G (0, [some (.ref 94), some (.int a0), some (.int a1)], [], (gSh, σ, u))
  refine gRunN_ok hG.1 2 _ (4, [some (.ref 94), some (.int a0), some (.int a1)], [.int (σ.1 94 106)], (gSh, σ, u)) rfl ?_
  rcases g_ite hP with ⟨hc, hP⟩ | ⟨hc, hP⟩
  · refine hG.1 _ (28, [some (.ref 94), some (.int a0), some (.int a1)], [], (gSh, σ, u)) _ rfl (if_pos hc) ?_
    refine gRunN_ok hG.1 1 _ (29, [some (.ref 94), some (.int a0), some (.int a1)], [.int (-1)], (gSh, σ, u)) rfl ?_
    cases hP
    exact hG.2.1 _ _ rfl rfl
  · refine hG.1 _ (7, [some (.ref 94), some (.int a0), some (.int a1)], [], (gSh, σ, u)) _ rfl (if_neg hc) ?_
    refine gRunN_ok hG.1 1 _ (8, [some (.ref 94), some (.int a0), some (.int a1)], [.int a0], (gSh, σ, u)) rfl ?_
    rcases g_ite hP with ⟨hc, hP⟩ | ⟨hc, hP⟩
    · refine hG.1 _ (28, [some (.ref 94), some (.int a0), some (.int a1)], [], (gSh, σ, u)) _ rfl (if_pos hc) ?_
      refine gRunN_ok hG.1 1 _ (29, [some (.ref 94), some (.int a0), some (.int a1)], [.int (-1)], (gSh, σ, u)) rfl ?_
      cases hP
      exact hG.2.1 _ _ rfl rfl
    · refine hG.1 _ (11, [some (.ref 94), some (.int a0), some (.int a1)], [], (gSh, σ, u)) _ rfl (if_neg hc) ?_
      refine gRunN_ok hG.1 3 _ (16, [some (.ref 94), some (.int a0), some (.int a1)], [.int (σ.1 94 46), .int a0], (gSh, σ, u)) rfl ?_
      rcases g_ite hP with ⟨hc, hP⟩ | ⟨hc, hP⟩
      · refine hG.1 _ (28, [some (.ref 94), some (.int a0), some (.int a1)], [], (gSh, σ, u)) _ rfl (if_pos hc) ?_
        refine gRunN_ok hG.1 1 _ (29, [some (.ref 94), some (.int a0), some (.int a1)], [.int (-1)], (gSh, σ, u)) rfl ?_
        cases hP
        exact hG.2.1 _ _ rfl rfl
      · refine hG.1 _ (19, [some (.ref 94), some (.int a0), some (.int a1)], [], (gSh, σ, u)) _ rfl (if_neg hc) ?_
        refine gRunN_ok hG.1 1 _ (20, [some (.ref 94), some (.int a0), some (.int a1)], [.int a1], (gSh, σ, u)) rfl ?_
        rcases g_ite hP with ⟨hc, hP⟩ | ⟨hc, hP⟩
        · refine hG.1 _ (28, [some (.ref 94), some (.int a0), some (.int a1)], [], (gSh, σ, u)) _ rfl (if_pos hc) ?_
          refine gRunN_ok hG.1 1 _ (29, [some (.ref 94), some (.int a0), some (.int a1)], [.int (-1)], (gSh, σ, u)) rfl ?_
          cases hP
          exact hG.2.1 _ _ rfl rfl
        · refine hG.1 _ (23, [some (.ref 94), some (.int a0), some (.int a1)], [], (gSh, σ, u)) _ rfl (if_neg hc) ?_
          refine gRunN_ok hG.1 2 _ (25, [some (.ref 94), some (.int a0), some (.int a1)], [.int 4, .int a1], (gSh, σ, u)) rfl ?_
          rcases g_ite hP with ⟨hc, hP⟩ | ⟨hc, hP⟩
          · refine hG.1 _ (30, [some (.ref 94), some (.int a0), some (.int a1)], [], (gSh, σ, u)) _ rfl (if_pos hc) ?_
            refine gRunN_ok hG.1 2 _ (32, [some (.ref 94), some (.int a0), some (.int a1)], [.int 4, .int a1], (gSh, σ, u)) rfl ?_
            rcases g_ite hP with ⟨hc, hP⟩ | ⟨hc, hP⟩
            · refine hG.1 _ (35, [some (.ref 94), some (.int a0), some (.int a1)], [], (gSh, σ, u)) _ rfl (if_pos hc) ?_
              refine gRunN_ok hG.1 3 _ (40, [some (.ref 94), some (.int a0), some (.int a1)], [.int a0, .ref 118], (gSh, σ, u)) rfl ?_
              obtain ⟨hc, hP⟩ := g_if hP
              refine hG.1 _ (41, [some (.ref 94), some (.int a0), some (.int a1)], [.int (σ.1 118 a0.toNatClampNeg)], (gSh, σ, u)) _ rfl (if_pos hc) ?_
              refine gRunN_ok hG.1 1 _ (54, [some (.ref 94), some (.int a0), some (.int a1)], [.int (σ.1 118 a0.toNatClampNeg)], (gSh, σ, u)) rfl ?_
              cases hP
              exact hG.2.1 _ _ rfl rfl
            · refine hG.1 _ (44, [some (.ref 94), some (.int a0), some (.int a1)], [], (gSh, σ, u)) _ rfl (if_neg hc) ?_
              refine gRunN_ok hG.1 7 _ (53, [some (.ref 94), some (.int a0), some (.int a1)], [.int (((4 : Int32) * a0) + a1), .ref 117], (gSh, σ, u)) rfl ?_
              obtain ⟨hc, hP⟩ := g_if hP
              refine hG.1 _ (54, [some (.ref 94), some (.int a0), some (.int a1)], [.int (σ.1 117 (((4 : Int32) * a0) + a1).toNatClampNeg)], (gSh, σ, u)) _ rfl (if_pos hc) ?_
              cases hP
              exact hG.2.1 _ _ rfl rfl
          · refine hG.1 _ (28, [some (.ref 94), some (.int a0), some (.int a1)], [], (gSh, σ, u)) _ rfl (if_neg hc) ?_
            refine gRunN_ok hG.1 1 _ (29, [some (.ref 94), some (.int a0), some (.int a1)], [.int (-1)], (gSh, σ, u)) rfl ?_
            cases hP
            exact hG.2.1 _ _ rfl rfl⟩
def p_Model_element (E : gEv) (a0 : Int32) (a1 : Int32) (σ : gS) : Option (Int32) :=
  if (σ.1 94 106) = 0 then (some (-1)) else (if a0 < 0 then (some (-1)) else (if (σ.1 94 55) ≤ a0 then (some (-1)) else (if a1 < 0 then (some (-1)) else (if a1 ≤ (3 : Int32) then (if a1 = 0 then (if (σ.1 94 46) ≤ a0 then (some (-1)) else (some a0)) else (if a1 = (1 : Int32) then (if gIn a0 (σ.2.1 125) then some (σ.1 125 a0.toNatClampNeg) else none) else (if a1 = (2 : Int32) then (if gIn a0 (σ.2.1 133) then some (σ.1 133 a0.toNatClampNeg) else none) else (if gIn a0 (σ.2.1 134) then some (σ.1 134 a0.toNatClampNeg) else none)))) else (some (-1))))))
set_option maxRecDepth 20000 in
theorem c_Model_element (E : gEv) (d u : Nat) (a0 : Int32) (a1 : Int32) (σ : gS) {v : Int32}  (hq : p_Model_element E a0 a1 σ = some v) : gC E gDf gMs (d + 1) 235 [.ref 94, .int a0, .int a1] (gSh, σ, u) (some (.int v), (gSh, σ, u)) := ⟨gM235, rfl, Nat.le_of_ble_eq_true rfl, fun G hG => by
  have hP := hq
  unfold p_Model_element at hP
  replace hG : gClo E gDf gP18 gY235 (some .int) (gC E gDf gMs (d + 0)) (some (.int v), (gSh, σ, u)) G := hG
  show G (0, [some (.ref 94), some (.int a0), some (.int a1)], [], (gSh, σ, u))
  refine gRunN_ok hG.1 2 _ (4, [some (.ref 94), some (.int a0), some (.int a1)], [.int (σ.1 94 106)], (gSh, σ, u)) rfl ?_
  rcases g_ite hP with ⟨hc, hP⟩ | ⟨hc, hP⟩
  · refine hG.1 _ (28, [some (.ref 94), some (.int a0), some (.int a1)], [], (gSh, σ, u)) _ rfl (if_pos hc) ?_
    refine gRunN_ok hG.1 1 _ (29, [some (.ref 94), some (.int a0), some (.int a1)], [.int (-1)], (gSh, σ, u)) rfl ?_
    cases hP
    exact hG.2.1 _ _ rfl rfl
  · refine hG.1 _ (7, [some (.ref 94), some (.int a0), some (.int a1)], [], (gSh, σ, u)) _ rfl (if_neg hc) ?_
    refine gRunN_ok hG.1 1 _ (8, [some (.ref 94), some (.int a0), some (.int a1)], [.int a0], (gSh, σ, u)) rfl ?_
    rcases g_ite hP with ⟨hc, hP⟩ | ⟨hc, hP⟩
    · refine hG.1 _ (28, [some (.ref 94), some (.int a0), some (.int a1)], [], (gSh, σ, u)) _ rfl (if_pos hc) ?_
      refine gRunN_ok hG.1 1 _ (29, [some (.ref 94), some (.int a0), some (.int a1)], [.int (-1)], (gSh, σ, u)) rfl ?_
      cases hP
      exact hG.2.1 _ _ rfl rfl
    · refine hG.1 _ (11, [some (.ref 94), some (.int a0), some (.int a1)], [], (gSh, σ, u)) _ rfl (if_neg hc) ?_
      refine gRunN_ok hG.1 3 _ (16, [some (.ref 94), some (.int a0), some (.int a1)], [.int (σ.1 94 55), .int a0], (gSh, σ, u)) rfl ?_
      rcases g_ite hP with ⟨hc, hP⟩ | ⟨hc, hP⟩
      · refine hG.1 _ (28, [some (.ref 94), some (.int a0), some (.int a1)], [], (gSh, σ, u)) _ rfl (if_pos hc) ?_
        refine gRunN_ok hG.1 1 _ (29, [some (.ref 94), some (.int a0), some (.int a1)], [.int (-1)], (gSh, σ, u)) rfl ?_
        cases hP
        exact hG.2.1 _ _ rfl rfl
      · refine hG.1 _ (19, [some (.ref 94), some (.int a0), some (.int a1)], [], (gSh, σ, u)) _ rfl (if_neg hc) ?_
        refine gRunN_ok hG.1 1 _ (20, [some (.ref 94), some (.int a0), some (.int a1)], [.int a1], (gSh, σ, u)) rfl ?_
        rcases g_ite hP with ⟨hc, hP⟩ | ⟨hc, hP⟩
        · refine hG.1 _ (28, [some (.ref 94), some (.int a0), some (.int a1)], [], (gSh, σ, u)) _ rfl (if_pos hc) ?_
          refine gRunN_ok hG.1 1 _ (29, [some (.ref 94), some (.int a0), some (.int a1)], [.int (-1)], (gSh, σ, u)) rfl ?_
          cases hP
          exact hG.2.1 _ _ rfl rfl
        · refine hG.1 _ (23, [some (.ref 94), some (.int a0), some (.int a1)], [], (gSh, σ, u)) _ rfl (if_neg hc) ?_
          refine gRunN_ok hG.1 2 _ (25, [some (.ref 94), some (.int a0), some (.int a1)], [.int 3, .int a1], (gSh, σ, u)) rfl ?_
          rcases g_ite hP with ⟨hc, hP⟩ | ⟨hc, hP⟩
          · refine hG.1 _ (30, [some (.ref 94), some (.int a0), some (.int a1)], [], (gSh, σ, u)) _ rfl (if_pos hc) ?_
            refine gRunN_ok hG.1 1 _ (31, [some (.ref 94), some (.int a0), some (.int a1)], [.int a1], (gSh, σ, u)) rfl ?_
            rcases g_ite hP with ⟨hc, hP⟩ | ⟨hc, hP⟩
            · refine hG.1 _ (34, [some (.ref 94), some (.int a0), some (.int a1)], [], (gSh, σ, u)) _ rfl (if_pos hc) ?_
              refine gRunN_ok hG.1 3 _ (39, [some (.ref 94), some (.int a0), some (.int a1)], [.int (σ.1 94 46), .int a0], (gSh, σ, u)) rfl ?_
              rcases g_ite hP with ⟨hc, hP⟩ | ⟨hc, hP⟩
              · refine hG.1 _ (46, [some (.ref 94), some (.int a0), some (.int a1)], [], (gSh, σ, u)) _ rfl (if_pos hc) ?_
                refine gRunN_ok hG.1 2 _ (84, [some (.ref 94), some (.int a0), some (.int a1)], [.int (-1)], (gSh, σ, u)) rfl ?_
                cases hP
                exact hG.2.1 _ _ rfl rfl
              · refine hG.1 _ (42, [some (.ref 94), some (.int a0), some (.int a1)], [], (gSh, σ, u)) _ rfl (if_neg hc) ?_
                refine gRunN_ok hG.1 2 _ (84, [some (.ref 94), some (.int a0), some (.int a1)], [.int a0], (gSh, σ, u)) rfl ?_
                cases hP
                exact hG.2.1 _ _ rfl rfl
            · refine hG.1 _ (50, [some (.ref 94), some (.int a0), some (.int a1)], [], (gSh, σ, u)) _ rfl (if_neg hc) ?_
              refine gRunN_ok hG.1 2 _ (52, [some (.ref 94), some (.int a0), some (.int a1)], [.int 1, .int a1], (gSh, σ, u)) rfl ?_
              rcases g_ite hP with ⟨hc, hP⟩ | ⟨hc, hP⟩
              · refine hG.1 _ (55, [some (.ref 94), some (.int a0), some (.int a1)], [], (gSh, σ, u)) _ rfl (if_pos hc) ?_
                refine gRunN_ok hG.1 3 _ (60, [some (.ref 94), some (.int a0), some (.int a1)], [.int a0, .ref 125], (gSh, σ, u)) rfl ?_
                obtain ⟨hc, hP⟩ := g_if hP
                refine hG.1 _ (61, [some (.ref 94), some (.int a0), some (.int a1)], [.int (σ.1 125 a0.toNatClampNeg)], (gSh, σ, u)) _ rfl (if_pos hc) ?_
                refine gRunN_ok hG.1 1 _ (84, [some (.ref 94), some (.int a0), some (.int a1)], [.int (σ.1 125 a0.toNatClampNeg)], (gSh, σ, u)) rfl ?_
                cases hP
                exact hG.2.1 _ _ rfl rfl
              · refine hG.1 _ (64, [some (.ref 94), some (.int a0), some (.int a1)], [], (gSh, σ, u)) _ rfl (if_neg hc) ?_
                refine gRunN_ok hG.1 2 _ (66, [some (.ref 94), some (.int a0), some (.int a1)], [.int 2, .int a1], (gSh, σ, u)) rfl ?_
                rcases g_ite hP with ⟨hc, hP⟩ | ⟨hc, hP⟩
                · refine hG.1 _ (69, [some (.ref 94), some (.int a0), some (.int a1)], [], (gSh, σ, u)) _ rfl (if_pos hc) ?_
                  refine gRunN_ok hG.1 3 _ (74, [some (.ref 94), some (.int a0), some (.int a1)], [.int a0, .ref 133], (gSh, σ, u)) rfl ?_
                  obtain ⟨hc, hP⟩ := g_if hP
                  refine hG.1 _ (75, [some (.ref 94), some (.int a0), some (.int a1)], [.int (σ.1 133 a0.toNatClampNeg)], (gSh, σ, u)) _ rfl (if_pos hc) ?_
                  refine gRunN_ok hG.1 1 _ (84, [some (.ref 94), some (.int a0), some (.int a1)], [.int (σ.1 133 a0.toNatClampNeg)], (gSh, σ, u)) rfl ?_
                  cases hP
                  exact hG.2.1 _ _ rfl rfl
                · refine hG.1 _ (78, [some (.ref 94), some (.int a0), some (.int a1)], [], (gSh, σ, u)) _ rfl (if_neg hc) ?_
                  refine gRunN_ok hG.1 3 _ (83, [some (.ref 94), some (.int a0), some (.int a1)], [.int a0, .ref 134], (gSh, σ, u)) rfl ?_
                  obtain ⟨hc, hP⟩ := g_if hP
                  refine hG.1 _ (84, [some (.ref 94), some (.int a0), some (.int a1)], [.int (σ.1 134 a0.toNatClampNeg)], (gSh, σ, u)) _ rfl (if_pos hc) ?_
                  cases hP
                  exact hG.2.1 _ _ rfl rfl
          · refine hG.1 _ (28, [some (.ref 94), some (.int a0), some (.int a1)], [], (gSh, σ, u)) _ rfl (if_neg hc) ?_
            refine gRunN_ok hG.1 1 _ (29, [some (.ref 94), some (.int a0), some (.int a1)], [.int (-1)], (gSh, σ, u)) rfl ?_
            cases hP
            exact hG.2.1 _ _ rfl rfl⟩
def p_Model_net_70 (E : gEv) (l1 : Int32) (l4 : Int32) (l5 : Int32) (σ : gS) : Option ((Int32 × Int32) ⊕ (Int32)) :=
  if (σ.1 94 8) ≤ l5 then (some (.inr l4)) else (if (σ.1 94 77) ≤ 0 then (some (.inr l4)) else (if gIn (((840 : Int32) * l1) + l5) (σ.2.1 141) then if (σ.1 141 (((840 : Int32) * l1) + l5).toNatClampNeg) = 0 then (gLet (l4 + (0 : Int32)) fun x2 => gLet (l5 + 1) fun x3 => some (.inl (x2, x3))) else (gLet (l4 + (1 : Int32)) fun x4 => gLet (l5 + 1) fun x5 => some (.inl (x4, x5))) else none))
set_option maxRecDepth 20000 in
theorem b_Model_net_70 (E : gEv) (d u : Nat) {G : gFr → Prop} {vo : Option Value} {sr : gS} (hG : gClo E gDf gP18 gY236 (some .int) (gC E gDf gMs (d + 0)) (vo, (gSh, sr, u)) G) (l1 : Int32) (l4 : Int32) (l5 : Int32) (σ : gS) {r : (Int32 × Int32) ⊕ (Int32)} (hP : p_Model_net_70 E l1 l4 l5 σ = some r) (K1 : ∀ (m4 : Int32) (m5 : Int32), r = .inl (m4, m5) → G (70, [some (.ref 94), some (.int l1), none, none, some (.int m4), some (.int m5)], [], (gSh, σ, u))) (K2 : ∀ (m4 : Int32), r = .inr m4 → G (118, [none, none, none, none, some (.int m4), none], [], (gSh, σ, u))) : G (70, [some (.ref 94), some (.int l1), none, none, some (.int l4), some (.int l5)], [], (gSh, σ, u)) := by
  unfold p_Model_net_70 at hP
  refine gRunN_ok hG.1 3 _ (76, [some (.ref 94), some (.int l1), none, none, some (.int l4), some (.int l5)], [.int (σ.1 94 8), .int l5], (gSh, σ, u)) rfl ?_
  rcases g_ite hP with ⟨hc, hP⟩ | ⟨hc, hP⟩
  · refine hG.1 _ (118, [some (.ref 94), some (.int l1), none, none, some (.int l4), some (.int l5)], [], (gSh, σ, u)) _ rfl (if_pos hc) ?_
    refine hG.2.2.2.2.1 _ _ [none, none, none, none, some (.int l4), none] _ _ ⟨rfl, trivial⟩ ?_
    cases hP
    exact K2 _ rfl
  · refine hG.1 _ (79, [some (.ref 94), some (.int l1), none, none, some (.int l4), some (.int l5)], [], (gSh, σ, u)) _ rfl (if_neg hc) ?_
    refine gRunN_ok hG.1 2 _ (83, [some (.ref 94), some (.int l1), none, none, some (.int l4), some (.int l5)], [.int (σ.1 94 77)], (gSh, σ, u)) rfl ?_
    rcases g_ite hP with ⟨hc, hP⟩ | ⟨hc, hP⟩
    · refine hG.1 _ (118, [some (.ref 94), some (.int l1), none, none, some (.int l4), some (.int l5)], [], (gSh, σ, u)) _ rfl (if_pos hc) ?_
      refine hG.2.2.2.2.1 _ _ [none, none, none, none, some (.int l4), none] _ _ ⟨rfl, trivial⟩ ?_
      cases hP
      exact K2 _ rfl
    · refine hG.1 _ (86, [some (.ref 94), some (.int l1), none, none, some (.int l4), some (.int l5)], [], (gSh, σ, u)) _ rfl (if_neg hc) ?_
      refine gRunN_ok hG.1 8 _ (100, [some (.ref 94), some (.int l1), none, none, some (.int l4), some (.int l5)], [.int (((840 : Int32) * l1) + l5), .ref 141, .int l4], (gSh, σ, u)) rfl ?_
      obtain ⟨hc, hP⟩ := g_if hP
      refine hG.1 _ (101, [some (.ref 94), some (.int l1), none, none, some (.int l4), some (.int l5)], [.int (σ.1 141 (((840 : Int32) * l1) + l5).toNatClampNeg), .int l4], (gSh, σ, u)) _ rfl (if_pos hc) ?_
      rcases g_ite hP with ⟨hc, hP⟩ | ⟨hc, hP⟩
      · refine hG.1 _ (108, [some (.ref 94), some (.int l1), none, none, some (.int l4), some (.int l5)], [.int l4], (gSh, σ, u)) _ rfl (if_pos hc) ?_
        refine gRunN_ok hG.1 3 _ (112, [some (.ref 94), some (.int l1), none, none, some (.int (l4 + (0 : Int32))), some (.int l5)], [], (gSh, σ, u)) rfl ?_
        obtain ⟨x2, ex2, hP⟩ := g_let hP
        rw [← ex2]
        refine gRunN_ok hG.1 1 _ (115, [some (.ref 94), some (.int l1), none, none, some (.int x2), some (.int (l5 + 1))], [], (gSh, σ, u)) rfl ?_
        obtain ⟨x3, ex3, hP⟩ := g_let hP
        rw [← ex3]
        refine gRunN_ok hG.1 1 _ (70, [some (.ref 94), some (.int l1), none, none, some (.int x2), some (.int x3)], [], (gSh, σ, u)) rfl ?_
        cases hP
        exact K1 _ _ rfl
      · refine hG.1 _ (104, [some (.ref 94), some (.int l1), none, none, some (.int l4), some (.int l5)], [.int l4], (gSh, σ, u)) _ rfl (if_neg hc) ?_
        refine gRunN_ok hG.1 4 _ (112, [some (.ref 94), some (.int l1), none, none, some (.int (l4 + (1 : Int32))), some (.int l5)], [], (gSh, σ, u)) rfl ?_
        obtain ⟨x4, ex4, hP⟩ := g_let hP
        rw [← ex4]
        refine gRunN_ok hG.1 1 _ (115, [some (.ref 94), some (.int l1), none, none, some (.int x4), some (.int (l5 + 1))], [], (gSh, σ, u)) rfl ?_
        obtain ⟨x5, ex5, hP⟩ := g_let hP
        rw [← ex5]
        refine gRunN_ok hG.1 1 _ (70, [some (.ref 94), some (.int l1), none, none, some (.int x4), some (.int x5)], [], (gSh, σ, u)) rfl ?_
        cases hP
        exact K1 _ _ rfl
theorem l_Model_net_70 (E : gEv) (d u : Nat) {G : gFr → Prop} {vo : Option Value} {sr : gS} (hG : gClo E gDf gP18 gY236 (some .int) (gC E gDf gMs (d + 0)) (vo, (gSh, sr, u)) G) (l1 : Int32) (σ : gS) : ∀ (n : Nat) (l4 : Int32) (l5 : Int32) (e : (Int32)), gIter (fun z => p_Model_net_70 E l1 z.1 z.2 σ) n (l4, l5) = some e → (∀ (m4 : Int32), e = m4 → G (118, [none, none, none, none, some (.int m4), none], [], (gSh, σ, u))) → G (70, [some (.ref 94), some (.int l1), none, none, some (.int l4), some (.int l5)], [], (gSh, σ, u)) := by
  intro n
  induction n with
  | zero => intro l4 l5 e h; cases h
  | succ n ih =>
    intro l4 l5 e h K2
    rcases g_iter h with ⟨z, h1, h2⟩ | h1
    · exact b_Model_net_70 E d u hG l1 l4 l5 σ h1 (fun n0 n1 hz => by cases hz; exact ih _ _ e h2 K2) (fun _ hz => by cases hz)
    · exact b_Model_net_70 E d u hG l1 l4 l5 σ h1 (fun _ _ hz => by cases hz) (fun m4 hz => K2 m4 (by cases hz; rfl))
def p_Model_net (E : gEv) (a0 : Int32) (a1 : Int32) (σ : gS) : Option (Int32) :=
  if (σ.1 94 106) = 0 then (some (-1)) else (if a0 < 0 then (some (-1)) else (if (σ.1 94 60) ≤ a0 then (some (-1)) else (if 0 ≤ a1 then (if gIn (a0 + (1 : Int32)) (σ.2.1 130) then if gIn a0 (σ.2.1 130) then gLet ((σ.1 130 (a0 + (1 : Int32)).toNatClampNeg) - (σ.1 130 a0.toNatClampNeg)) fun x1 => if a1 = 0 then (if gIn a0 (σ.2.1 129) then some (σ.1 129 a0.toNatClampNeg) else none) else (if a1 = (1 : Int32) then (some x1) else (if a1 = (2 : Int32) then (gB1 (gIter (fun z => p_Model_net_70 E a0 z.1 z.2 σ) gN (0, 0)) fun e6 => (fun w7 => some w7) e6) else (if x1 ≤ (a1 - (3 : Int32)) then (some (-1)) else (if (σ.1 94 77) ≤ 0 then (some (-1)) else (if gIn a0 (σ.2.1 130) then if gIn (((σ.1 130 a0.toNatClampNeg) + a1) - (3 : Int32)) (σ.2.1 132) then some (σ.1 132 (((σ.1 130 a0.toNatClampNeg) + a1) - (3 : Int32)).toNatClampNeg) else none else none))))) else none else none) else (some (-1)))))
set_option maxRecDepth 20000 in
theorem c_Model_net (E : gEv) (d u : Nat) (a0 : Int32) (a1 : Int32) (σ : gS) {v : Int32}  (hq : p_Model_net E a0 a1 σ = some v) : gC E gDf gMs (d + 1) 236 [.ref 94, .int a0, .int a1] (gSh, σ, u) (some (.int v), (gSh, σ, u)) := ⟨gM236, rfl, Nat.le_of_ble_eq_true rfl, fun G hG => by
  have hP := hq
  unfold p_Model_net at hP
  replace hG : gClo E gDf gP18 gY236 (some .int) (gC E gDf gMs (d + 0)) (some (.int v), (gSh, σ, u)) G := hG
  show G (0, [some (.ref 94), some (.int a0), some (.int a1), none, none, none], [], (gSh, σ, u))
  refine gRunN_ok hG.1 2 _ (4, [some (.ref 94), some (.int a0), some (.int a1), none, none, none], [.int (σ.1 94 106)], (gSh, σ, u)) rfl ?_
  rcases g_ite hP with ⟨hc, hP⟩ | ⟨hc, hP⟩
  · refine hG.1 _ (23, [some (.ref 94), some (.int a0), some (.int a1), none, none, none], [], (gSh, σ, u)) _ rfl (if_pos hc) ?_
    refine gRunN_ok hG.1 1 _ (24, [some (.ref 94), some (.int a0), some (.int a1), none, none, none], [.int (-1)], (gSh, σ, u)) rfl ?_
    cases hP
    exact hG.2.1 _ _ rfl rfl
  · refine hG.1 _ (7, [some (.ref 94), some (.int a0), some (.int a1), none, none, none], [], (gSh, σ, u)) _ rfl (if_neg hc) ?_
    refine gRunN_ok hG.1 1 _ (8, [some (.ref 94), some (.int a0), some (.int a1), none, none, none], [.int a0], (gSh, σ, u)) rfl ?_
    rcases g_ite hP with ⟨hc, hP⟩ | ⟨hc, hP⟩
    · refine hG.1 _ (23, [some (.ref 94), some (.int a0), some (.int a1), none, none, none], [], (gSh, σ, u)) _ rfl (if_pos hc) ?_
      refine gRunN_ok hG.1 1 _ (24, [some (.ref 94), some (.int a0), some (.int a1), none, none, none], [.int (-1)], (gSh, σ, u)) rfl ?_
      cases hP
      exact hG.2.1 _ _ rfl rfl
    · refine hG.1 _ (11, [some (.ref 94), some (.int a0), some (.int a1), none, none, none], [], (gSh, σ, u)) _ rfl (if_neg hc) ?_
      refine gRunN_ok hG.1 3 _ (16, [some (.ref 94), some (.int a0), some (.int a1), none, none, none], [.int (σ.1 94 60), .int a0], (gSh, σ, u)) rfl ?_
      rcases g_ite hP with ⟨hc, hP⟩ | ⟨hc, hP⟩
      · refine hG.1 _ (23, [some (.ref 94), some (.int a0), some (.int a1), none, none, none], [], (gSh, σ, u)) _ rfl (if_pos hc) ?_
        refine gRunN_ok hG.1 1 _ (24, [some (.ref 94), some (.int a0), some (.int a1), none, none, none], [.int (-1)], (gSh, σ, u)) rfl ?_
        cases hP
        exact hG.2.1 _ _ rfl rfl
      · refine hG.1 _ (19, [some (.ref 94), some (.int a0), some (.int a1), none, none, none], [], (gSh, σ, u)) _ rfl (if_neg hc) ?_
        refine gRunN_ok hG.1 1 _ (20, [some (.ref 94), some (.int a0), some (.int a1), none, none, none], [.int a1], (gSh, σ, u)) rfl ?_
        rcases g_ite hP with ⟨hc, hP⟩ | ⟨hc, hP⟩
        · refine hG.1 _ (25, [some (.ref 94), some (.int a0), some (.int a1), none, none, none], [], (gSh, σ, u)) _ rfl (if_pos hc) ?_
          refine gRunN_ok hG.1 5 _ (32, [some (.ref 94), some (.int a0), some (.int a1), none, none, none], [.int (a0 + (1 : Int32)), .ref 130], (gSh, σ, u)) rfl ?_
          obtain ⟨hc, hP⟩ := g_if hP
          refine hG.1 _ (33, [some (.ref 94), some (.int a0), some (.int a1), none, none, none], [.int (σ.1 130 (a0 + (1 : Int32)).toNatClampNeg)], (gSh, σ, u)) _ rfl (if_pos hc) ?_
          refine gRunN_ok hG.1 3 _ (38, [some (.ref 94), some (.int a0), some (.int a1), none, none, none], [.int a0, .ref 130, .int (σ.1 130 (a0 + (1 : Int32)).toNatClampNeg)], (gSh, σ, u)) rfl ?_
          obtain ⟨hc, hP⟩ := g_if hP
          refine hG.1 _ (39, [some (.ref 94), some (.int a0), some (.int a1), none, none, none], [.int (σ.1 130 a0.toNatClampNeg), .int (σ.1 130 (a0 + (1 : Int32)).toNatClampNeg)], (gSh, σ, u)) _ rfl (if_pos hc) ?_
          refine gRunN_ok hG.1 2 _ (41, [some (.ref 94), some (.int a0), some (.int a1), some (.int ((σ.1 130 (a0 + (1 : Int32)).toNatClampNeg) - (σ.1 130 a0.toNatClampNeg))), none, none], [], (gSh, σ, u)) rfl ?_
          obtain ⟨x1, ex1, hP⟩ := g_let hP
          rw [← ex1]
          refine gRunN_ok hG.1 1 _ (42, [some (.ref 94), some (.int a0), some (.int a1), some (.int x1), none, none], [.int a1], (gSh, σ, u)) rfl ?_
          rcases g_ite hP with ⟨hc, hP⟩ | ⟨hc, hP⟩
          · refine hG.1 _ (45, [some (.ref 94), some (.int a0), some (.int a1), some (.int x1), none, none], [], (gSh, σ, u)) _ rfl (if_pos hc) ?_
            refine gRunN_ok hG.1 3 _ (50, [some (.ref 94), some (.int a0), some (.int a1), some (.int x1), none, none], [.int a0, .ref 129], (gSh, σ, u)) rfl ?_
            obtain ⟨hc, hP⟩ := g_if hP
            refine hG.1 _ (51, [some (.ref 94), some (.int a0), some (.int a1), some (.int x1), none, none], [.int (σ.1 129 a0.toNatClampNeg)], (gSh, σ, u)) _ rfl (if_pos hc) ?_
            cases hP
            exact hG.2.1 _ _ rfl rfl
          · refine hG.1 _ (52, [some (.ref 94), some (.int a0), some (.int a1), some (.int x1), none, none], [], (gSh, σ, u)) _ rfl (if_neg hc) ?_
            refine gRunN_ok hG.1 2 _ (54, [some (.ref 94), some (.int a0), some (.int a1), some (.int x1), none, none], [.int 1, .int a1], (gSh, σ, u)) rfl ?_
            rcases g_ite hP with ⟨hc, hP⟩ | ⟨hc, hP⟩
            · refine hG.1 _ (57, [some (.ref 94), some (.int a0), some (.int a1), some (.int x1), none, none], [], (gSh, σ, u)) _ rfl (if_pos hc) ?_
              refine gRunN_ok hG.1 1 _ (58, [some (.ref 94), some (.int a0), some (.int a1), some (.int x1), none, none], [.int x1], (gSh, σ, u)) rfl ?_
              cases hP
              exact hG.2.1 _ _ rfl rfl
            · refine hG.1 _ (59, [some (.ref 94), some (.int a0), some (.int a1), some (.int x1), none, none], [], (gSh, σ, u)) _ rfl (if_neg hc) ?_
              refine gRunN_ok hG.1 2 _ (61, [some (.ref 94), some (.int a0), some (.int a1), some (.int x1), none, none], [.int 2, .int a1], (gSh, σ, u)) rfl ?_
              rcases g_ite hP with ⟨hc, hP⟩ | ⟨hc, hP⟩
              · refine hG.1 _ (64, [some (.ref 94), some (.int a0), some (.int a1), some (.int x1), none, none], [], (gSh, σ, u)) _ rfl (if_pos hc) ?_
                refine gRunN_ok hG.1 4 _ (70, [some (.ref 94), some (.int a0), some (.int a1), some (.int x1), some (.int 0), some (.int 0)], [], (gSh, σ, u)) rfl ?_
                refine hG.2.2.2.2.1 _ _ [some (.ref 94), some (.int a0), none, none, some (.int 0), some (.int 0)] _ _ ⟨rfl, ⟨rfl, ⟨rfl, ⟨rfl, trivial⟩⟩⟩⟩ ?_
                obtain ⟨e6, hq, hP⟩ := g_b1 hP
                refine l_Model_net_70 E d u hG a0 σ gN 0 0 _ hq (fun w7 he => ?_)
                · replace he := he.symm
                  subst he
                  try dsimp only [gSum] at hP
                  refine gRunN_ok hG.1 1 _ (120, [none, none, none, none, some (.int w7), none], [.int w7], (gSh, σ, u)) rfl ?_
                  cases hP
                  exact hG.2.1 _ _ rfl rfl
              · refine hG.1 _ (121, [some (.ref 94), some (.int a0), some (.int a1), some (.int x1), none, none], [], (gSh, σ, u)) _ rfl (if_neg hc) ?_
                refine gRunN_ok hG.1 4 _ (125, [some (.ref 94), some (.int a0), some (.int a1), some (.int x1), none, none], [.int x1, .int (a1 - (3 : Int32))], (gSh, σ, u)) rfl ?_
                rcases g_ite hP with ⟨hc, hP⟩ | ⟨hc, hP⟩
                · refine hG.1 _ (153, [some (.ref 94), some (.int a0), some (.int a1), some (.int x1), none, none], [], (gSh, σ, u)) _ rfl (if_pos hc) ?_
                  refine gRunN_ok hG.1 1 _ (154, [some (.ref 94), some (.int a0), some (.int a1), some (.int x1), none, none], [.int (-1)], (gSh, σ, u)) rfl ?_
                  cases hP
                  exact hG.2.1 _ _ rfl rfl
                · refine hG.1 _ (128, [some (.ref 94), some (.int a0), some (.int a1), some (.int x1), none, none], [], (gSh, σ, u)) _ rfl (if_neg hc) ?_
                  refine gRunN_ok hG.1 2 _ (132, [some (.ref 94), some (.int a0), some (.int a1), some (.int x1), none, none], [.int (σ.1 94 77)], (gSh, σ, u)) rfl ?_
                  rcases g_ite hP with ⟨hc, hP⟩ | ⟨hc, hP⟩
                  · refine hG.1 _ (153, [some (.ref 94), some (.int a0), some (.int a1), some (.int x1), none, none], [], (gSh, σ, u)) _ rfl (if_pos hc) ?_
                    refine gRunN_ok hG.1 1 _ (154, [some (.ref 94), some (.int a0), some (.int a1), some (.int x1), none, none], [.int (-1)], (gSh, σ, u)) rfl ?_
                    cases hP
                    exact hG.2.1 _ _ rfl rfl
                  · refine hG.1 _ (135, [some (.ref 94), some (.int a0), some (.int a1), some (.int x1), none, none], [], (gSh, σ, u)) _ rfl (if_neg hc) ?_
                    refine gRunN_ok hG.1 5 _ (144, [some (.ref 94), some (.int a0), some (.int a1), some (.int x1), none, none], [.int a0, .ref 130, .ref 132], (gSh, σ, u)) rfl ?_
                    obtain ⟨hc, hP⟩ := g_if hP
                    refine hG.1 _ (145, [some (.ref 94), some (.int a0), some (.int a1), some (.int x1), none, none], [.int (σ.1 130 a0.toNatClampNeg), .ref 132], (gSh, σ, u)) _ rfl (if_pos hc) ?_
                    refine gRunN_ok hG.1 4 _ (149, [some (.ref 94), some (.int a0), some (.int a1), some (.int x1), none, none], [.int (((σ.1 130 a0.toNatClampNeg) + a1) - (3 : Int32)), .ref 132], (gSh, σ, u)) rfl ?_
                    obtain ⟨hc, hP⟩ := g_if hP
                    refine hG.1 _ (150, [some (.ref 94), some (.int a0), some (.int a1), some (.int x1), none, none], [.int (σ.1 132 (((σ.1 130 a0.toNatClampNeg) + a1) - (3 : Int32)).toNatClampNeg)], (gSh, σ, u)) _ rfl (if_pos hc) ?_
                    refine gRunN_ok hG.1 1 _ (154, [some (.ref 94), some (.int a0), some (.int a1), some (.int x1), none, none], [.int (σ.1 132 (((σ.1 130 a0.toNatClampNeg) + a1) - (3 : Int32)).toNatClampNeg)], (gSh, σ, u)) rfl ?_
                    cases hP
                    exact hG.2.1 _ _ rfl rfl
        · refine hG.1 _ (23, [some (.ref 94), some (.int a0), some (.int a1), none, none, none], [], (gSh, σ, u)) _ rfl (if_neg hc) ?_
          refine gRunN_ok hG.1 1 _ (24, [some (.ref 94), some (.int a0), some (.int a1), none, none, none], [.int (-1)], (gSh, σ, u)) rfl ?_
          cases hP
          exact hG.2.1 _ _ rfl rfl⟩
def p_Model_tile (E : gEv) (a0 : Int32) (σ : gS) : Option (Int32) :=
  if (σ.1 94 106) = 0 then (some (-1)) else (if a0 < 0 then (some (-1)) else (if a0 < (σ.1 94 4) then (if gIn a0 (σ.2.1 136) then some (σ.1 136 a0.toNatClampNeg) else none) else (some (-1))))
set_option maxRecDepth 20000 in
theorem c_Model_tile (E : gEv) (d u : Nat) (a0 : Int32) (σ : gS) {v : Int32}  (hq : p_Model_tile E a0 σ = some v) : gC E gDf gMs (d + 1) 237 [.ref 94, .int a0] (gSh, σ, u) (some (.int v), (gSh, σ, u)) := ⟨gM237, rfl, Nat.le_of_ble_eq_true rfl, fun G hG => by
  have hP := hq
  unfold p_Model_tile at hP
  replace hG : gClo E gDf gP18 gY237 (some .int) (gC E gDf gMs (d + 0)) (some (.int v), (gSh, σ, u)) G := hG
  show G (0, [some (.ref 94), some (.int a0)], [], (gSh, σ, u))
  refine gRunN_ok hG.1 2 _ (4, [some (.ref 94), some (.int a0)], [.int (σ.1 94 106)], (gSh, σ, u)) rfl ?_
  rcases g_ite hP with ⟨hc, hP⟩ | ⟨hc, hP⟩
  · refine hG.1 _ (19, [some (.ref 94), some (.int a0)], [], (gSh, σ, u)) _ rfl (if_pos hc) ?_
    refine gRunN_ok hG.1 2 _ (29, [some (.ref 94), some (.int a0)], [.int (-1)], (gSh, σ, u)) rfl ?_
    cases hP
    exact hG.2.1 _ _ rfl rfl
  · refine hG.1 _ (7, [some (.ref 94), some (.int a0)], [], (gSh, σ, u)) _ rfl (if_neg hc) ?_
    refine gRunN_ok hG.1 1 _ (8, [some (.ref 94), some (.int a0)], [.int a0], (gSh, σ, u)) rfl ?_
    rcases g_ite hP with ⟨hc, hP⟩ | ⟨hc, hP⟩
    · refine hG.1 _ (19, [some (.ref 94), some (.int a0)], [], (gSh, σ, u)) _ rfl (if_pos hc) ?_
      refine gRunN_ok hG.1 2 _ (29, [some (.ref 94), some (.int a0)], [.int (-1)], (gSh, σ, u)) rfl ?_
      cases hP
      exact hG.2.1 _ _ rfl rfl
    · refine hG.1 _ (11, [some (.ref 94), some (.int a0)], [], (gSh, σ, u)) _ rfl (if_neg hc) ?_
      refine gRunN_ok hG.1 3 _ (16, [some (.ref 94), some (.int a0)], [.int (σ.1 94 4), .int a0], (gSh, σ, u)) rfl ?_
      rcases g_ite hP with ⟨hc, hP⟩ | ⟨hc, hP⟩
      · refine hG.1 _ (23, [some (.ref 94), some (.int a0)], [], (gSh, σ, u)) _ rfl (if_pos hc) ?_
        refine gRunN_ok hG.1 3 _ (28, [some (.ref 94), some (.int a0)], [.int a0, .ref 136], (gSh, σ, u)) rfl ?_
        obtain ⟨hc, hP⟩ := g_if hP
        refine hG.1 _ (29, [some (.ref 94), some (.int a0)], [.int (σ.1 136 a0.toNatClampNeg)], (gSh, σ, u)) _ rfl (if_pos hc) ?_
        cases hP
        exact hG.2.1 _ _ rfl rfl
      · refine hG.1 _ (19, [some (.ref 94), some (.int a0)], [], (gSh, σ, u)) _ rfl (if_neg hc) ?_
        refine gRunN_ok hG.1 2 _ (29, [some (.ref 94), some (.int a0)], [.int (-1)], (gSh, σ, u)) rfl ?_
        cases hP
        exact hG.2.1 _ _ rfl rfl⟩
def p_Model_pad (E : gEv) (a0 : Int32) (σ : gS) : Option (Int32) :=
  if (σ.1 94 106) = 0 then (some (-1)) else (if a0 < 0 then (some (-1)) else (if a0 < (σ.1 94 6) then (if gIn a0 (σ.2.1 137) then some (σ.1 137 a0.toNatClampNeg) else none) else (some (-1))))
set_option maxRecDepth 20000 in
theorem c_Model_pad (E : gEv) (d u : Nat) (a0 : Int32) (σ : gS) {v : Int32}  (hq : p_Model_pad E a0 σ = some v) : gC E gDf gMs (d + 1) 238 [.ref 94, .int a0] (gSh, σ, u) (some (.int v), (gSh, σ, u)) := ⟨gM238, rfl, Nat.le_of_ble_eq_true rfl, fun G hG => by
  have hP := hq
  unfold p_Model_pad at hP
  replace hG : gClo E gDf gP18 gY238 (some .int) (gC E gDf gMs (d + 0)) (some (.int v), (gSh, σ, u)) G := hG
  show G (0, [some (.ref 94), some (.int a0)], [], (gSh, σ, u))
  refine gRunN_ok hG.1 2 _ (4, [some (.ref 94), some (.int a0)], [.int (σ.1 94 106)], (gSh, σ, u)) rfl ?_
  rcases g_ite hP with ⟨hc, hP⟩ | ⟨hc, hP⟩
  · refine hG.1 _ (19, [some (.ref 94), some (.int a0)], [], (gSh, σ, u)) _ rfl (if_pos hc) ?_
    refine gRunN_ok hG.1 2 _ (29, [some (.ref 94), some (.int a0)], [.int (-1)], (gSh, σ, u)) rfl ?_
    cases hP
    exact hG.2.1 _ _ rfl rfl
  · refine hG.1 _ (7, [some (.ref 94), some (.int a0)], [], (gSh, σ, u)) _ rfl (if_neg hc) ?_
    refine gRunN_ok hG.1 1 _ (8, [some (.ref 94), some (.int a0)], [.int a0], (gSh, σ, u)) rfl ?_
    rcases g_ite hP with ⟨hc, hP⟩ | ⟨hc, hP⟩
    · refine hG.1 _ (19, [some (.ref 94), some (.int a0)], [], (gSh, σ, u)) _ rfl (if_pos hc) ?_
      refine gRunN_ok hG.1 2 _ (29, [some (.ref 94), some (.int a0)], [.int (-1)], (gSh, σ, u)) rfl ?_
      cases hP
      exact hG.2.1 _ _ rfl rfl
    · refine hG.1 _ (11, [some (.ref 94), some (.int a0)], [], (gSh, σ, u)) _ rfl (if_neg hc) ?_
      refine gRunN_ok hG.1 3 _ (16, [some (.ref 94), some (.int a0)], [.int (σ.1 94 6), .int a0], (gSh, σ, u)) rfl ?_
      rcases g_ite hP with ⟨hc, hP⟩ | ⟨hc, hP⟩
      · refine hG.1 _ (23, [some (.ref 94), some (.int a0)], [], (gSh, σ, u)) _ rfl (if_pos hc) ?_
        refine gRunN_ok hG.1 3 _ (28, [some (.ref 94), some (.int a0)], [.int a0, .ref 137], (gSh, σ, u)) rfl ?_
        obtain ⟨hc, hP⟩ := g_if hP
        refine hG.1 _ (29, [some (.ref 94), some (.int a0)], [.int (σ.1 137 a0.toNatClampNeg)], (gSh, σ, u)) _ rfl (if_pos hc) ?_
        cases hP
        exact hG.2.1 _ _ rfl rfl
      · refine hG.1 _ (19, [some (.ref 94), some (.int a0)], [], (gSh, σ, u)) _ rfl (if_neg hc) ?_
        refine gRunN_ok hG.1 2 _ (29, [some (.ref 94), some (.int a0)], [.int (-1)], (gSh, σ, u)) rfl ?_
        cases hP
        exact hG.2.1 _ _ rfl rfl⟩
def p_Model_exchange_j19 (E : gEv) (l1 : Int32) (l2 : Int32) (l3 : Int32) (y0 : Int32) (σ : gS) : Option (gS) :=
  if l1 = 0 then (if gIn l3 (σ.2.1 136) then if gIn l2 (σ.2.1 136) then gLet (gPut σ 136 l2.toNatClampNeg (σ.1 136 l3.toNatClampNeg)) fun s1 => if gIn l3 (s1.2.1 136) then gLet (gPut s1 136 l3.toNatClampNeg y0) fun s2 => some s2 else none else none else none) else (if gIn l3 (σ.2.1 137) then if gIn l2 (σ.2.1 137) then gLet (gPut σ 137 l2.toNatClampNeg (σ.1 137 l3.toNatClampNeg)) fun s3 => if gIn l3 (s3.2.1 137) then gLet (gPut s3 137 l3.toNatClampNeg y0) fun s4 => some s4 else none else none else none)
set_option maxRecDepth 20000 in
theorem j_Model_exchange_j19 (E : gEv) (d u : Nat) {G : gFr → Prop} {sr : gS} (hG : gClo E gDf gP18 gY241 none (gC E gDf gMs (d + 0)) (none, (gSh, sr, u)) G) (l1 : Int32) (l2 : Int32) (l3 : Int32) (y0 : Int32) (σ : gS) (hP : p_Model_exchange_j19 E l1 l2 l3 y0 σ = some sr) : G (19, [some (.ref 94), some (.int l1), some (.int l2), some (.int l3), none], [.int y0], (gSh, σ, u)) := by
  unfold p_Model_exchange_j19 at hP
  refine gRunN_ok hG.1 2 _ (22, [some (.ref 94), some (.int l1), some (.int l2), some (.int l3), some (.int y0)], [.int l1], (gSh, σ, u)) rfl ?_
  rcases g_ite hP with ⟨hc, hP⟩ | ⟨hc, hP⟩
  · refine hG.1 _ (48, [some (.ref 94), some (.int l1), some (.int l2), some (.int l3), some (.int y0)], [], (gSh, σ, u)) _ rfl (if_pos hc) ?_
    refine gRunN_ok hG.1 6 _ (58, [some (.ref 94), some (.int l1), some (.int l2), some (.int l3), some (.int y0)], [.int l3, .ref 136, .int l2, .ref 136], (gSh, σ, u)) rfl ?_
    obtain ⟨hc, hP⟩ := g_if hP
    refine hG.1 _ (59, [some (.ref 94), some (.int l1), some (.int l2), some (.int l3), some (.int y0)], [.int (σ.1 136 l3.toNatClampNeg), .int l2, .ref 136], (gSh, σ, u)) _ rfl (if_pos hc) ?_
    obtain ⟨hc, hP⟩ := g_if hP
    refine hG.1 _ (60, [some (.ref 94), some (.int l1), some (.int l2), some (.int l3), some (.int y0)], [], (gSh, (gPut σ 136 l2.toNatClampNeg (σ.1 136 l3.toNatClampNeg)), u)) _ rfl (if_pos hc) ?_
    obtain ⟨s1, es1, hP⟩ := g_let hP
    rw [← es1]
    refine gRunN_ok hG.1 4 _ (67, [some (.ref 94), some (.int l1), some (.int l2), some (.int l3), some (.int y0)], [.int y0, .int l3, .ref 136], (gSh, s1, u)) rfl ?_
    obtain ⟨hc, hP⟩ := g_if hP
    refine hG.1 _ (68, [some (.ref 94), some (.int l1), some (.int l2), some (.int l3), some (.int y0)], [], (gSh, (gPut s1 136 l3.toNatClampNeg y0), u)) _ rfl (if_pos hc) ?_
    obtain ⟨s2, es2, hP⟩ := g_let hP
    rw [← es2]
    cases hP
    exact hG.2.1 _ _ rfl rfl
  · refine hG.1 _ (25, [some (.ref 94), some (.int l1), some (.int l2), some (.int l3), some (.int y0)], [], (gSh, σ, u)) _ rfl (if_neg hc) ?_
    refine gRunN_ok hG.1 6 _ (35, [some (.ref 94), some (.int l1), some (.int l2), some (.int l3), some (.int y0)], [.int l3, .ref 137, .int l2, .ref 137], (gSh, σ, u)) rfl ?_
    obtain ⟨hc, hP⟩ := g_if hP
    refine hG.1 _ (36, [some (.ref 94), some (.int l1), some (.int l2), some (.int l3), some (.int y0)], [.int (σ.1 137 l3.toNatClampNeg), .int l2, .ref 137], (gSh, σ, u)) _ rfl (if_pos hc) ?_
    obtain ⟨hc, hP⟩ := g_if hP
    refine hG.1 _ (37, [some (.ref 94), some (.int l1), some (.int l2), some (.int l3), some (.int y0)], [], (gSh, (gPut σ 137 l2.toNatClampNeg (σ.1 137 l3.toNatClampNeg)), u)) _ rfl (if_pos hc) ?_
    obtain ⟨s3, es3, hP⟩ := g_let hP
    rw [← es3]
    refine gRunN_ok hG.1 4 _ (44, [some (.ref 94), some (.int l1), some (.int l2), some (.int l3), some (.int y0)], [.int y0, .int l3, .ref 137], (gSh, s3, u)) rfl ?_
    obtain ⟨hc, hP⟩ := g_if hP
    refine hG.1 _ (45, [some (.ref 94), some (.int l1), some (.int l2), some (.int l3), some (.int y0)], [], (gSh, (gPut s3 137 l3.toNatClampNeg y0), u)) _ rfl (if_pos hc) ?_
    obtain ⟨s4, es4, hP⟩ := g_let hP
    rw [← es4]
    refine gRunN_ok hG.1 1 _ (68, [some (.ref 94), some (.int l1), some (.int l2), some (.int l3), some (.int y0)], [], (gSh, s4, u)) rfl ?_
    cases hP
    exact hG.2.1 _ _ rfl rfl
def p_Model_exchange (E : gEv) (a0 : Int32) (a1 : Int32) (a2 : Int32) (σ : gS) : Option (gS) :=
  if a0 = 0 then (if gIn a1 (σ.2.1 136) then p_Model_exchange_j19 E a0 a1 a2 (σ.1 136 a1.toNatClampNeg) σ else none) else (if gIn a1 (σ.2.1 137) then p_Model_exchange_j19 E a0 a1 a2 (σ.1 137 a1.toNatClampNeg) σ else none)
set_option maxRecDepth 20000 in
theorem c_Model_exchange (E : gEv) (d u : Nat) (a0 : Int32) (a1 : Int32) (a2 : Int32) (σ : gS) {sr : gS}  (hq : p_Model_exchange E a0 a1 a2 σ = some sr) : gC E gDf gMs (d + 1) 241 [.ref 94, .int a0, .int a1, .int a2] (gSh, σ, u) (none, (gSh, sr, u)) := ⟨gM241, rfl, Nat.le_of_ble_eq_true rfl, fun G hG => by
  have hP := hq
  unfold p_Model_exchange at hP
  replace hG : gClo E gDf gP18 gY241 none (gC E gDf gMs (d + 0)) (none, (gSh, sr, u)) G := hG
  show G (0, [some (.ref 94), some (.int a0), some (.int a1), some (.int a2), none], [], (gSh, σ, u))
  refine gRunN_ok hG.1 1 _ (1, [some (.ref 94), some (.int a0), some (.int a1), some (.int a2), none], [.int a0], (gSh, σ, u)) rfl ?_
  rcases g_ite hP with ⟨hc, hP⟩ | ⟨hc, hP⟩
  · refine hG.1 _ (13, [some (.ref 94), some (.int a0), some (.int a1), some (.int a2), none], [], (gSh, σ, u)) _ rfl (if_pos hc) ?_
    refine gRunN_ok hG.1 3 _ (18, [some (.ref 94), some (.int a0), some (.int a1), some (.int a2), none], [.int a1, .ref 136], (gSh, σ, u)) rfl ?_
    obtain ⟨hc, hP⟩ := g_if hP
    refine hG.1 _ (19, [some (.ref 94), some (.int a0), some (.int a1), some (.int a2), none], [.int (σ.1 136 a1.toNatClampNeg)], (gSh, σ, u)) _ rfl (if_pos hc) ?_
    exact j_Model_exchange_j19 E d u hG a0 a1 a2 (σ.1 136 a1.toNatClampNeg) σ hP
  · refine hG.1 _ (4, [some (.ref 94), some (.int a0), some (.int a1), some (.int a2), none], [], (gSh, σ, u)) _ rfl (if_neg hc) ?_
    refine gRunN_ok hG.1 3 _ (9, [some (.ref 94), some (.int a0), some (.int a1), some (.int a2), none], [.int a1, .ref 137], (gSh, σ, u)) rfl ?_
    obtain ⟨hc, hP⟩ := g_if hP
    refine hG.1 _ (10, [some (.ref 94), some (.int a0), some (.int a1), some (.int a2), none], [.int (σ.1 137 a1.toNatClampNeg)], (gSh, σ, u)) _ rfl (if_pos hc) ?_
    refine gRunN_ok hG.1 1 _ (19, [some (.ref 94), some (.int a0), some (.int a1), some (.int a2), none], [.int (σ.1 137 a1.toNatClampNeg)], (gSh, σ, u)) rfl ?_
    exact j_Model_exchange_j19 E d u hG a0 a1 a2 (σ.1 137 a1.toNatClampNeg) σ hP⟩
def p_Model_giveUp_j37_2 (E : gEv) (l1 : Int32) (l2 : Int32) (y1 : Int32) (y2 : Int32) (y3 : Int32) (σ : gS) : Option ((Int32 × gS) ⊕ (gS)) :=
  if gIn y1 (σ.2.1 147) then gLet (gPut σ 147 y1.toNatClampNeg (y2 - y3)) fun s1 => if gIn (((840 : Int32) * l1) + l2) (s1.2.1 141) then gLet (gPut s1 141 (((840 : Int32) * l1) + l2).toNatClampNeg (vp_nar .boolean 0)) fun s2 => gLet (l2 + 1) fun x3 => some (.inl (x3, s2)) else none else none
set_option maxRecDepth 20000 in
theorem j_Model_giveUp_j37_2 (E : gEv) (d u : Nat) {G : gFr → Prop} {vo : Option Value} {sr : gS} (hG : gClo E gDf gP18 gY246 none (gC E gDf gMs (d + 0)) (vo, (gSh, sr, u)) G) (l1 : Int32) (l2 : Int32) (y1 : Int32) (y2 : Int32) (y3 : Int32) (σ : gS) {r : (Int32 × gS) ⊕ (gS)} (hP : p_Model_giveUp_j37_2 E l1 l2 y1 y2 y3 σ = some r) (K1 : ∀ (m2 : Int32) (σ1 : gS), r = .inl (m2, σ1) → G (2, [some (.ref 94), some (.int l1), some (.int m2)], [], (gSh, σ1, u))) (K2 : ∀ (σ1 : gS), r = .inr σ1 → G (58, [some (.ref 94), some (.int l1), none], [], (gSh, σ1, u))) : G (37, [some (.ref 94), some (.int l1), some (.int l2)], [.int y3, .int y2, .int y1, .ref 147], (gSh, σ, u)) := by
  unfold p_Model_giveUp_j37_2 at hP
  refine gRunN_ok hG.1 1 _ (38, [some (.ref 94), some (.int l1), some (.int l2)], [.int (y2 - y3), .int y1, .ref 147], (gSh, σ, u)) rfl ?_
  obtain ⟨hc, hP⟩ := g_if hP
  refine hG.1 _ (39, [some (.ref 94), some (.int l1), some (.int l2)], [], (gSh, (gPut σ 147 y1.toNatClampNeg (y2 - y3)), u)) _ rfl (if_pos hc) ?_
  obtain ⟨s1, es1, hP⟩ := g_let hP
  rw [← es1]
  refine gRunN_ok hG.1 8 _ (51, [some (.ref 94), some (.int l1), some (.int l2)], [.int 0, .int (((840 : Int32) * l1) + l2), .ref 141], (gSh, s1, u)) rfl ?_
  obtain ⟨hc, hP⟩ := g_if hP
  refine hG.1 _ (52, [some (.ref 94), some (.int l1), some (.int l2)], [], (gSh, (gPut s1 141 (((840 : Int32) * l1) + l2).toNatClampNeg (vp_nar .boolean 0)), u)) _ rfl (if_pos hc) ?_
  obtain ⟨s2, es2, hP⟩ := g_let hP
  rw [← es2]
  refine gRunN_ok hG.1 1 _ (55, [some (.ref 94), some (.int l1), some (.int (l2 + 1))], [], (gSh, s2, u)) rfl ?_
  obtain ⟨x3, ex3, hP⟩ := g_let hP
  rw [← ex3]
  refine gRunN_ok hG.1 1 _ (2, [some (.ref 94), some (.int l1), some (.int x3)], [], (gSh, s2, u)) rfl ?_
  cases hP
  exact K1 _ _ rfl
def p_Model_giveUp_2 (E : gEv) (l1 : Int32) (l2 : Int32) (σ : gS) : Option ((Int32 × gS) ⊕ (gS)) :=
  if (σ.1 94 8) ≤ l2 then (some (.inr σ)) else (if gIn l2 (σ.2.1 147) then if gIn (((840 : Int32) * l1) + l2) (σ.2.1 141) then if (σ.1 141 (((840 : Int32) * l1) + l2).toNatClampNeg) = 0 then (p_Model_giveUp_j37_2 E l1 l2 l2 (σ.1 147 l2.toNatClampNeg) 0 σ) else (p_Model_giveUp_j37_2 E l1 l2 l2 (σ.1 147 l2.toNatClampNeg) 1 σ) else none else none)
set_option maxRecDepth 20000 in
theorem b_Model_giveUp_2 (E : gEv) (d u : Nat) {G : gFr → Prop} {vo : Option Value} {sr : gS} (hG : gClo E gDf gP18 gY246 none (gC E gDf gMs (d + 0)) (vo, (gSh, sr, u)) G) (l1 : Int32) (l2 : Int32) (σ : gS) {r : (Int32 × gS) ⊕ (gS)} (hP : p_Model_giveUp_2 E l1 l2 σ = some r) (K1 : ∀ (m2 : Int32) (σ1 : gS), r = .inl (m2, σ1) → G (2, [some (.ref 94), some (.int l1), some (.int m2)], [], (gSh, σ1, u))) (K2 : ∀ (σ1 : gS), r = .inr σ1 → G (58, [some (.ref 94), some (.int l1), none], [], (gSh, σ1, u))) : G (2, [some (.ref 94), some (.int l1), some (.int l2)], [], (gSh, σ, u)) := by
  unfold p_Model_giveUp_2 at hP
  refine gRunN_ok hG.1 3 _ (7, [some (.ref 94), some (.int l1), some (.int l2)], [.int (σ.1 94 8), .int l2], (gSh, σ, u)) rfl ?_
  rcases g_ite hP with ⟨hc, hP⟩ | ⟨hc, hP⟩
  · refine hG.1 _ (58, [some (.ref 94), some (.int l1), some (.int l2)], [], (gSh, σ, u)) _ rfl (if_pos hc) ?_
    refine hG.2.2.2.2.1 _ _ [some (.ref 94), some (.int l1), none] _ _ ⟨rfl, ⟨rfl, trivial⟩⟩ ?_
    cases hP
    exact K2 _ rfl
  · refine hG.1 _ (10, [some (.ref 94), some (.int l1), some (.int l2)], [], (gSh, σ, u)) _ rfl (if_neg hc) ?_
    refine gRunN_ok hG.1 4 _ (16, [some (.ref 94), some (.int l1), some (.int l2)], [.int l2, .ref 147, .int l2, .ref 147], (gSh, σ, u)) rfl ?_
    obtain ⟨hc, hP⟩ := g_if hP
    refine hG.1 _ (17, [some (.ref 94), some (.int l1), some (.int l2)], [.int (σ.1 147 l2.toNatClampNeg), .int l2, .ref 147], (gSh, σ, u)) _ rfl (if_pos hc) ?_
    refine gRunN_ok hG.1 7 _ (28, [some (.ref 94), some (.int l1), some (.int l2)], [.int (((840 : Int32) * l1) + l2), .ref 141, .int (σ.1 147 l2.toNatClampNeg), .int l2, .ref 147], (gSh, σ, u)) rfl ?_
    obtain ⟨hc, hP⟩ := g_if hP
    refine hG.1 _ (29, [some (.ref 94), some (.int l1), some (.int l2)], [.int (σ.1 141 (((840 : Int32) * l1) + l2).toNatClampNeg), .int (σ.1 147 l2.toNatClampNeg), .int l2, .ref 147], (gSh, σ, u)) _ rfl (if_pos hc) ?_
    rcases g_ite hP with ⟨hc, hP⟩ | ⟨hc, hP⟩
    · refine hG.1 _ (36, [some (.ref 94), some (.int l1), some (.int l2)], [.int (σ.1 147 l2.toNatClampNeg), .int l2, .ref 147], (gSh, σ, u)) _ rfl (if_pos hc) ?_
      refine gRunN_ok hG.1 1 _ (37, [some (.ref 94), some (.int l1), some (.int l2)], [.int 0, .int (σ.1 147 l2.toNatClampNeg), .int l2, .ref 147], (gSh, σ, u)) rfl ?_
      exact j_Model_giveUp_j37_2 E d u hG l1 l2 l2 (σ.1 147 l2.toNatClampNeg) 0 σ hP K1 K2
    · refine hG.1 _ (32, [some (.ref 94), some (.int l1), some (.int l2)], [.int (σ.1 147 l2.toNatClampNeg), .int l2, .ref 147], (gSh, σ, u)) _ rfl (if_neg hc) ?_
      refine gRunN_ok hG.1 2 _ (37, [some (.ref 94), some (.int l1), some (.int l2)], [.int 1, .int (σ.1 147 l2.toNatClampNeg), .int l2, .ref 147], (gSh, σ, u)) rfl ?_
      exact j_Model_giveUp_j37_2 E d u hG l1 l2 l2 (σ.1 147 l2.toNatClampNeg) 1 σ hP K1 K2
theorem l_Model_giveUp_2 (E : gEv) (d u : Nat) {G : gFr → Prop} {vo : Option Value} {sr : gS} (hG : gClo E gDf gP18 gY246 none (gC E gDf gMs (d + 0)) (vo, (gSh, sr, u)) G) (l1 : Int32) : ∀ (n : Nat) (l2 : Int32) (σ : gS) (e : (gS)), gIter (fun z => p_Model_giveUp_2 E l1 z.1 z.2) n (l2, σ) = some e → (∀ (σ1 : gS), e = σ1 → G (58, [some (.ref 94), some (.int l1), none], [], (gSh, σ1, u))) → G (2, [some (.ref 94), some (.int l1), some (.int l2)], [], (gSh, σ, u)) := by
  intro n
  induction n with
  | zero => intro l2 σ e h; cases h
  | succ n ih =>
    intro l2 σ e h K2
    rcases g_iter h with ⟨z, h1, h2⟩ | h1
    · exact b_Model_giveUp_2 E d u hG l1 l2 σ h1 (fun n0 n1 hz => by cases hz; exact ih _ _ e h2 K2) (fun _ hz => by cases hz)
    · exact b_Model_giveUp_2 E d u hG l1 l2 σ h1 (fun _ _ hz => by cases hz) (fun σ1 hz => K2 σ1 (by cases hz; rfl))
def p_Model_giveUp (E : gEv) (a0 : Int32) (σ : gS) : Option (gS) :=
  gB1 (gIter (fun z => p_Model_giveUp_2 E a0 z.1 z.2) gN (0, σ)) fun e4 => (fun s5 => if gIn a0 (s5.2.1 143) then gLet (gPut s5 143 a0.toNatClampNeg 0) fun s6 => if gIn a0 (s6.2.1 145) then gLet (gPut s6 145 a0.toNatClampNeg 0) fun s7 => some s7 else none else none) e4
set_option maxRecDepth 20000 in
theorem c_Model_giveUp (E : gEv) (d u : Nat) (a0 : Int32) (σ : gS) {sr : gS}  (hq : p_Model_giveUp E a0 σ = some sr) : gC E gDf gMs (d + 1) 246 [.ref 94, .int a0] (gSh, σ, u) (none, (gSh, sr, u)) := ⟨gM246, rfl, Nat.le_of_ble_eq_true rfl, fun G hG => by
  have hP := hq
  unfold p_Model_giveUp at hP
  replace hG : gClo E gDf gP18 gY246 none (gC E gDf gMs (d + 0)) (none, (gSh, sr, u)) G := hG
  show G (0, [some (.ref 94), some (.int a0), none], [], (gSh, σ, u))
  refine gRunN_ok hG.1 2 _ (2, [some (.ref 94), some (.int a0), some (.int 0)], [], (gSh, σ, u)) rfl ?_
  obtain ⟨e4, hq, hP⟩ := g_b1 hP
  refine l_Model_giveUp_2 E d u hG a0 gN 0 σ _ hq (fun s5 he => ?_)
  · replace he := he.symm
    subst he
    try dsimp only [gSum] at hP
    refine gRunN_ok hG.1 4 _ (64, [some (.ref 94), some (.int a0), none], [.int 0, .int a0, .ref 143], (gSh, s5, u)) rfl ?_
    obtain ⟨hc, hP⟩ := g_if hP
    refine hG.1 _ (65, [some (.ref 94), some (.int a0), none], [], (gSh, (gPut s5 143 a0.toNatClampNeg 0), u)) _ rfl (if_pos hc) ?_
    obtain ⟨s6, es6, hP⟩ := g_let hP
    rw [← es6]
    refine gRunN_ok hG.1 4 _ (71, [some (.ref 94), some (.int a0), none], [.int 0, .int a0, .ref 145], (gSh, s6, u)) rfl ?_
    obtain ⟨hc, hP⟩ := g_if hP
    refine hG.1 _ (72, [some (.ref 94), some (.int a0), none], [], (gSh, (gPut s6 145 a0.toNatClampNeg 0), u)) _ rfl (if_pos hc) ?_
    obtain ⟨s7, es7, hP⟩ := g_let hP
    rw [← es7]
    cases hP
    exact hG.2.1 _ _ rfl rfl⟩
def p_Model_distances_j105_7 (E : gEv) (l1 : Int32) (l2 : Int32) (l3 : Int32) (l4 : Int32) (y1 : Int32) (y2 : Int32) (σ : gS) : Option ((Int32 × Int32 × gS) ⊕ (Int32 × gS)) :=
  if gIn y1 (σ.2.1 153) then gLet (gPut σ 153 y1.toNatClampNeg (vp_nar .boolean y2)) fun s2 => if gIn l4 (s2.2.1 153) then if (s2.1 153 l4.toNatClampNeg) = 0 then (gLet (l4 + 1) fun x3 => some (.inl (l3, x3, s2))) else (if gIn l3 (s2.2.1 152) then gLet (gPut s2 152 l3.toNatClampNeg l4) fun s4 => gLet ((l3 + (1 : Int32)) - (l3 + (1 : Int32)) / (841 : Int32) * (841 : Int32)) fun x5 => gLet (l4 + 1) fun x6 => some (.inl (x5, x6, s4)) else none) else none else none
set_option maxRecDepth 20000 in
theorem j_Model_distances_j105_7 (E : gEv) (d u : Nat) {G : gFr → Prop} {vo : Option Value} {sr : gS} (hG : gClo E gDf gP18 gY252 none (gC E gDf gMs (d + 0)) (vo, (gSh, sr, u)) G) (l1 : Int32) (l2 : Int32) (l3 : Int32) (l4 : Int32) (y1 : Int32) (y2 : Int32) (σ : gS) {r : (Int32 × Int32 × gS) ⊕ (Int32 × gS)} (hP : p_Model_distances_j105_7 E l1 l2 l3 l4 y1 y2 σ = some r) (K1 : ∀ (m3 : Int32) (m4 : Int32) (σ1 : gS), r = .inl (m3, m4, σ1) → G (7, [some (.ref 94), some (.int l1), some (.int l2), some (.int m3), some (.int m4), none, none], [], (gSh, σ1, u))) (K2 : ∀ (m3 : Int32) (σ1 : gS), r = .inr (m3, σ1) → G (138, [some (.ref 94), some (.int l1), some (.int l2), some (.int m3), none, none, none], [], (gSh, σ1, u))) : G (105, [some (.ref 94), some (.int l1), some (.int l2), some (.int l3), some (.int l4), none, none], [.int y2, .int y1, .ref 153], (gSh, σ, u)) := by
  unfold p_Model_distances_j105_7 at hP
  obtain ⟨hc, hP⟩ := g_if hP
  refine hG.1 _ (106, [some (.ref 94), some (.int l1), some (.int l2), some (.int l3), some (.int l4), none, none], [], (gSh, (gPut σ 153 y1.toNatClampNeg (vp_nar .boolean y2)), u)) _ rfl (if_pos hc) ?_
  obtain ⟨s2, es2, hP⟩ := g_let hP
  rw [← es2]
  refine gRunN_ok hG.1 3 _ (112, [some (.ref 94), some (.int l1), some (.int l2), some (.int l3), some (.int l4), none, none], [.int l4, .ref 153], (gSh, s2, u)) rfl ?_
  obtain ⟨hc, hP⟩ := g_if hP
  refine hG.1 _ (113, [some (.ref 94), some (.int l1), some (.int l2), some (.int l3), some (.int l4), none, none], [.int (s2.1 153 l4.toNatClampNeg)], (gSh, s2, u)) _ rfl (if_pos hc) ?_
  rcases g_ite hP with ⟨hc, hP⟩ | ⟨hc, hP⟩
  · refine hG.1 _ (132, [some (.ref 94), some (.int l1), some (.int l2), some (.int l3), some (.int l4), none, none], [], (gSh, s2, u)) _ rfl (if_pos hc) ?_
    refine gRunN_ok hG.1 1 _ (135, [some (.ref 94), some (.int l1), some (.int l2), some (.int l3), some (.int (l4 + 1)), none, none], [], (gSh, s2, u)) rfl ?_
    obtain ⟨x3, ex3, hP⟩ := g_let hP
    rw [← ex3]
    refine gRunN_ok hG.1 1 _ (7, [some (.ref 94), some (.int l1), some (.int l2), some (.int l3), some (.int x3), none, none], [], (gSh, s2, u)) rfl ?_
    cases hP
    exact K1 _ _ _ rfl
  · refine hG.1 _ (116, [some (.ref 94), some (.int l1), some (.int l2), some (.int l3), some (.int l4), none, none], [], (gSh, s2, u)) _ rfl (if_neg hc) ?_
    refine gRunN_ok hG.1 4 _ (123, [some (.ref 94), some (.int l1), some (.int l2), some (.int l3), some (.int l4), none, none], [.int l4, .int l3, .ref 152], (gSh, s2, u)) rfl ?_
    obtain ⟨hc, hP⟩ := g_if hP
    refine hG.1 _ (124, [some (.ref 94), some (.int l1), some (.int l2), some (.int l3), some (.int l4), none, none], [], (gSh, (gPut s2 152 l3.toNatClampNeg l4), u)) _ rfl (if_pos hc) ?_
    obtain ⟨s4, es4, hP⟩ := g_let hP
    rw [← es4]
    refine gRunN_ok hG.1 6 _ (132, [some (.ref 94), some (.int l1), some (.int l2), some (.int ((l3 + (1 : Int32)) - (l3 + (1 : Int32)) / (841 : Int32) * (841 : Int32))), some (.int l4), none, none], [], (gSh, s4, u)) rfl ?_
    obtain ⟨x5, ex5, hP⟩ := g_let hP
    rw [← ex5]
    refine gRunN_ok hG.1 1 _ (135, [some (.ref 94), some (.int l1), some (.int l2), some (.int x5), some (.int (l4 + 1)), none, none], [], (gSh, s4, u)) rfl ?_
    obtain ⟨x6, ex6, hP⟩ := g_let hP
    rw [← ex6]
    refine gRunN_ok hG.1 1 _ (7, [some (.ref 94), some (.int l1), some (.int l2), some (.int x5), some (.int x6), none, none], [], (gSh, s4, u)) rfl ?_
    cases hP
    exact K1 _ _ _ rfl
def p_Model_distances_j79_7 (E : gEv) (l1 : Int32) (l2 : Int32) (l3 : Int32) (l4 : Int32) (y1 : Int32) (y2 : Int64) (σ : gS) : Option ((Int32 × Int32 × gS) ⊕ (Int32 × gS)) :=
  if gIn y1 (σ.2.1 149) then gLet (gPutL σ 149 y1.toNatClampNeg y2) fun s1 => if gIn l4 (s1.2.1 149) then if 0 ≤ (lg_cmp (s1.2.2 149 l4.toNatClampNeg) (1152921504606846976 : Int64)) then (p_Model_distances_j105_7 E l1 l2 l3 l4 l4 0 s1) else (p_Model_distances_j105_7 E l1 l2 l3 l4 l4 1 s1) else none else none
set_option maxRecDepth 20000 in
theorem j_Model_distances_j79_7 (E : gEv) (d u : Nat) {G : gFr → Prop} {vo : Option Value} {sr : gS} (hG : gClo E gDf gP18 gY252 none (gC E gDf gMs (d + 0)) (vo, (gSh, sr, u)) G) (l1 : Int32) (l2 : Int32) (l3 : Int32) (l4 : Int32) (y1 : Int32) (y2 : Int64) (σ : gS) {r : (Int32 × Int32 × gS) ⊕ (Int32 × gS)} (hP : p_Model_distances_j79_7 E l1 l2 l3 l4 y1 y2 σ = some r) (K1 : ∀ (m3 : Int32) (m4 : Int32) (σ1 : gS), r = .inl (m3, m4, σ1) → G (7, [some (.ref 94), some (.int l1), some (.int l2), some (.int m3), some (.int m4), none, none], [], (gSh, σ1, u))) (K2 : ∀ (m3 : Int32) (σ1 : gS), r = .inr (m3, σ1) → G (138, [some (.ref 94), some (.int l1), some (.int l2), some (.int m3), none, none, none], [], (gSh, σ1, u))) : G (79, [some (.ref 94), some (.int l1), some (.int l2), some (.int l3), some (.int l4), none, none], [.long y2, .int y1, .ref 149], (gSh, σ, u)) := by
  unfold p_Model_distances_j79_7 at hP
  obtain ⟨hc, hP⟩ := g_if hP
  refine hG.1 _ (80, [some (.ref 94), some (.int l1), some (.int l2), some (.int l3), some (.int l4), none, none], [], (gSh, (gPutL σ 149 y1.toNatClampNeg y2), u)) _ rfl (if_pos hc) ?_
  obtain ⟨s1, es1, hP⟩ := g_let hP
  rw [← es1]
  refine gRunN_ok hG.1 6 _ (92, [some (.ref 94), some (.int l1), some (.int l2), some (.int l3), some (.int l4), none, none], [.int l4, .ref 149, .int l4, .ref 153], (gSh, s1, u)) rfl ?_
  obtain ⟨hc, hP⟩ := g_if hP
  refine hG.1 _ (93, [some (.ref 94), some (.int l1), some (.int l2), some (.int l3), some (.int l4), none, none], [.long (s1.2.2 149 l4.toNatClampNeg), .int l4, .ref 153], (gSh, s1, u)) _ rfl (if_pos hc) ?_
  refine gRunN_ok hG.1 2 _ (97, [some (.ref 94), some (.int l1), some (.int l2), some (.int l3), some (.int l4), none, none], [.int (lg_cmp (s1.2.2 149 l4.toNatClampNeg) (1152921504606846976 : Int64)), .int l4, .ref 153], (gSh, s1, u)) rfl ?_
  rcases g_ite hP with ⟨hc, hP⟩ | ⟨hc, hP⟩
  · refine hG.1 _ (104, [some (.ref 94), some (.int l1), some (.int l2), some (.int l3), some (.int l4), none, none], [.int l4, .ref 153], (gSh, s1, u)) _ rfl (if_pos hc) ?_
    refine gRunN_ok hG.1 1 _ (105, [some (.ref 94), some (.int l1), some (.int l2), some (.int l3), some (.int l4), none, none], [.int 0, .int l4, .ref 153], (gSh, s1, u)) rfl ?_
    exact j_Model_distances_j105_7 E d u hG l1 l2 l3 l4 l4 0 s1 hP K1 K2
  · refine hG.1 _ (100, [some (.ref 94), some (.int l1), some (.int l2), some (.int l3), some (.int l4), none, none], [.int l4, .ref 153], (gSh, s1, u)) _ rfl (if_neg hc) ?_
    refine gRunN_ok hG.1 2 _ (105, [some (.ref 94), some (.int l1), some (.int l2), some (.int l3), some (.int l4), none, none], [.int 1, .int l4, .ref 153], (gSh, s1, u)) rfl ?_
    exact j_Model_distances_j105_7 E d u hG l1 l2 l3 l4 l4 1 s1 hP K1 K2
def p_Model_distances_j76_7 (E : gEv) (l1 : Int32) (l2 : Int32) (l3 : Int32) (l4 : Int32) (y1 : Int32) (σ : gS) : Option ((Int32 × Int32 × gS) ⊕ (Int32 × gS)) :=
  p_Model_distances_j79_7 E l1 l2 l3 l4 y1 1152921504606846976 σ
set_option maxRecDepth 20000 in
theorem j_Model_distances_j76_7 (E : gEv) (d u : Nat) {G : gFr → Prop} {vo : Option Value} {sr : gS} (hG : gClo E gDf gP18 gY252 none (gC E gDf gMs (d + 0)) (vo, (gSh, sr, u)) G) (l1 : Int32) (l2 : Int32) (l3 : Int32) (l4 : Int32) (y1 : Int32) (σ : gS) {r : (Int32 × Int32 × gS) ⊕ (Int32 × gS)} (hP : p_Model_distances_j76_7 E l1 l2 l3 l4 y1 σ = some r) (K1 : ∀ (m3 : Int32) (m4 : Int32) (σ1 : gS), r = .inl (m3, m4, σ1) → G (7, [some (.ref 94), some (.int l1), some (.int l2), some (.int m3), some (.int m4), none, none], [], (gSh, σ1, u))) (K2 : ∀ (m3 : Int32) (σ1 : gS), r = .inr (m3, σ1) → G (138, [some (.ref 94), some (.int l1), some (.int l2), some (.int m3), none, none, none], [], (gSh, σ1, u))) : G (76, [some (.ref 94), some (.int l1), some (.int l2), some (.int l3), some (.int l4), none, none], [.int y1, .ref 149], (gSh, σ, u)) := by
  unfold p_Model_distances_j76_7 at hP
  refine gRunN_ok hG.1 1 _ (79, [some (.ref 94), some (.int l1), some (.int l2), some (.int l3), some (.int l4), none, none], [.long 1152921504606846976, .int y1, .ref 149], (gSh, σ, u)) rfl ?_
  exact j_Model_distances_j79_7 E d u hG l1 l2 l3 l4 y1 1152921504606846976 σ hP K1 K2
def p_Model_distances_7 (E : gEv) (l1 : Int32) (l2 : Int32) (l3 : Int32) (l4 : Int32) (σ : gS) : Option ((Int32 × Int32 × gS) ⊕ (Int32 × gS)) :=
  if (σ.1 94 8) ≤ l4 then (some (.inr (l3, σ))) else (if gIn (((840 : Int32) * l1) + l4) (σ.2.1 141) then if (σ.1 141 (((840 : Int32) * l1) + l4).toNatClampNeg) = 0 then (if gIn l4 (σ.2.1 150) then if (σ.1 150 l4.toNatClampNeg) = 0 then (p_Model_distances_j76_7 E l1 l2 l3 l4 l4 σ) else (if gIn l4 (σ.2.1 148) then if 0 ≤ (lg_cmp (σ.2.2 148 l4.toNatClampNeg) (1152921504606846976 : Int64)) then (p_Model_distances_j76_7 E l1 l2 l3 l4 l4 σ) else (if gIn l4 (σ.2.1 148) then p_Model_distances_j79_7 E l1 l2 l3 l4 l4 (σ.2.2 148 l4.toNatClampNeg) σ else none) else none) else none) else (p_Model_distances_j79_7 E l1 l2 l3 l4 l4 0 σ) else none)
set_option maxRecDepth 20000 in
theorem b_Model_distances_7 (E : gEv) (d u : Nat) {G : gFr → Prop} {vo : Option Value} {sr : gS} (hG : gClo E gDf gP18 gY252 none (gC E gDf gMs (d + 0)) (vo, (gSh, sr, u)) G) (l1 : Int32) (l2 : Int32) (l3 : Int32) (l4 : Int32) (σ : gS) {r : (Int32 × Int32 × gS) ⊕ (Int32 × gS)} (hP : p_Model_distances_7 E l1 l2 l3 l4 σ = some r) (K1 : ∀ (m3 : Int32) (m4 : Int32) (σ1 : gS), r = .inl (m3, m4, σ1) → G (7, [some (.ref 94), some (.int l1), some (.int l2), some (.int m3), some (.int m4), none, none], [], (gSh, σ1, u))) (K2 : ∀ (m3 : Int32) (σ1 : gS), r = .inr (m3, σ1) → G (138, [some (.ref 94), some (.int l1), some (.int l2), some (.int m3), none, none, none], [], (gSh, σ1, u))) : G (7, [some (.ref 94), some (.int l1), some (.int l2), some (.int l3), some (.int l4), none, none], [], (gSh, σ, u)) := by
  unfold p_Model_distances_7 at hP
  refine gRunN_ok hG.1 3 _ (13, [some (.ref 94), some (.int l1), some (.int l2), some (.int l3), some (.int l4), none, none], [.int (σ.1 94 8), .int l4], (gSh, σ, u)) rfl ?_
  rcases g_ite hP with ⟨hc, hP⟩ | ⟨hc, hP⟩
  · refine hG.1 _ (138, [some (.ref 94), some (.int l1), some (.int l2), some (.int l3), some (.int l4), none, none], [], (gSh, σ, u)) _ rfl (if_pos hc) ?_
    refine hG.2.2.2.2.1 _ _ [some (.ref 94), some (.int l1), some (.int l2), some (.int l3), none, none, none] _ _ ⟨rfl, ⟨rfl, ⟨rfl, ⟨rfl, trivial⟩⟩⟩⟩ ?_
    cases hP
    exact K2 _ _ rfl
  · refine hG.1 _ (16, [some (.ref 94), some (.int l1), some (.int l2), some (.int l3), some (.int l4), none, none], [], (gSh, σ, u)) _ rfl (if_neg hc) ?_
    refine gRunN_ok hG.1 10 _ (34, [some (.ref 94), some (.int l1), some (.int l2), some (.int l3), some (.int l4), none, none], [.int (((840 : Int32) * l1) + l4), .ref 141, .int l4, .ref 149], (gSh, σ, u)) rfl ?_
    obtain ⟨hc, hP⟩ := g_if hP
    refine hG.1 _ (35, [some (.ref 94), some (.int l1), some (.int l2), some (.int l3), some (.int l4), none, none], [.int (σ.1 141 (((840 : Int32) * l1) + l4).toNatClampNeg), .int l4, .ref 149], (gSh, σ, u)) _ rfl (if_pos hc) ?_
    rcases g_ite hP with ⟨hc, hP⟩ | ⟨hc, hP⟩
    · refine hG.1 _ (42, [some (.ref 94), some (.int l1), some (.int l2), some (.int l3), some (.int l4), none, none], [.int l4, .ref 149], (gSh, σ, u)) _ rfl (if_pos hc) ?_
      refine gRunN_ok hG.1 3 _ (48, [some (.ref 94), some (.int l1), some (.int l2), some (.int l3), some (.int l4), none, none], [.int l4, .ref 150, .int l4, .ref 149], (gSh, σ, u)) rfl ?_
      obtain ⟨hc, hP⟩ := g_if hP
      refine hG.1 _ (49, [some (.ref 94), some (.int l1), some (.int l2), some (.int l3), some (.int l4), none, none], [.int (σ.1 150 l4.toNatClampNeg), .int l4, .ref 149], (gSh, σ, u)) _ rfl (if_pos hc) ?_
      rcases g_ite hP with ⟨hc, hP⟩ | ⟨hc, hP⟩
      · refine hG.1 _ (76, [some (.ref 94), some (.int l1), some (.int l2), some (.int l3), some (.int l4), none, none], [.int l4, .ref 149], (gSh, σ, u)) _ rfl (if_pos hc) ?_
        exact j_Model_distances_j76_7 E d u hG l1 l2 l3 l4 l4 σ hP K1 K2
      · refine hG.1 _ (52, [some (.ref 94), some (.int l1), some (.int l2), some (.int l3), some (.int l4), none, none], [.int l4, .ref 149], (gSh, σ, u)) _ rfl (if_neg hc) ?_
        refine gRunN_ok hG.1 3 _ (58, [some (.ref 94), some (.int l1), some (.int l2), some (.int l3), some (.int l4), none, none], [.int l4, .ref 148, .int l4, .ref 149], (gSh, σ, u)) rfl ?_
        obtain ⟨hc, hP⟩ := g_if hP
        refine hG.1 _ (59, [some (.ref 94), some (.int l1), some (.int l2), some (.int l3), some (.int l4), none, none], [.long (σ.2.2 148 l4.toNatClampNeg), .int l4, .ref 149], (gSh, σ, u)) _ rfl (if_pos hc) ?_
        refine gRunN_ok hG.1 2 _ (63, [some (.ref 94), some (.int l1), some (.int l2), some (.int l3), some (.int l4), none, none], [.int (lg_cmp (σ.2.2 148 l4.toNatClampNeg) (1152921504606846976 : Int64)), .int l4, .ref 149], (gSh, σ, u)) rfl ?_
        rcases g_ite hP with ⟨hc, hP⟩ | ⟨hc, hP⟩
        · refine hG.1 _ (76, [some (.ref 94), some (.int l1), some (.int l2), some (.int l3), some (.int l4), none, none], [.int l4, .ref 149], (gSh, σ, u)) _ rfl (if_pos hc) ?_
          exact j_Model_distances_j76_7 E d u hG l1 l2 l3 l4 l4 σ hP K1 K2
        · refine hG.1 _ (66, [some (.ref 94), some (.int l1), some (.int l2), some (.int l3), some (.int l4), none, none], [.int l4, .ref 149], (gSh, σ, u)) _ rfl (if_neg hc) ?_
          refine gRunN_ok hG.1 3 _ (72, [some (.ref 94), some (.int l1), some (.int l2), some (.int l3), some (.int l4), none, none], [.int l4, .ref 148, .int l4, .ref 149], (gSh, σ, u)) rfl ?_
          obtain ⟨hc, hP⟩ := g_if hP
          refine hG.1 _ (73, [some (.ref 94), some (.int l1), some (.int l2), some (.int l3), some (.int l4), none, none], [.long (σ.2.2 148 l4.toNatClampNeg), .int l4, .ref 149], (gSh, σ, u)) _ rfl (if_pos hc) ?_
          refine gRunN_ok hG.1 1 _ (79, [some (.ref 94), some (.int l1), some (.int l2), some (.int l3), some (.int l4), none, none], [.long (σ.2.2 148 l4.toNatClampNeg), .int l4, .ref 149], (gSh, σ, u)) rfl ?_
          exact j_Model_distances_j79_7 E d u hG l1 l2 l3 l4 l4 (σ.2.2 148 l4.toNatClampNeg) σ hP K1 K2
    · refine hG.1 _ (38, [some (.ref 94), some (.int l1), some (.int l2), some (.int l3), some (.int l4), none, none], [.int l4, .ref 149], (gSh, σ, u)) _ rfl (if_neg hc) ?_
      refine gRunN_ok hG.1 2 _ (79, [some (.ref 94), some (.int l1), some (.int l2), some (.int l3), some (.int l4), none, none], [.long 0, .int l4, .ref 149], (gSh, σ, u)) rfl ?_
      exact j_Model_distances_j79_7 E d u hG l1 l2 l3 l4 l4 0 σ hP K1 K2
theorem l_Model_distances_7 (E : gEv) (d u : Nat) {G : gFr → Prop} {vo : Option Value} {sr : gS} (hG : gClo E gDf gP18 gY252 none (gC E gDf gMs (d + 0)) (vo, (gSh, sr, u)) G) (l1 : Int32) (l2 : Int32) : ∀ (n : Nat) (l3 : Int32) (l4 : Int32) (σ : gS) (e : (Int32 × gS)), gIter (fun z => p_Model_distances_7 E l1 l2 z.1 z.2.1 z.2.2) n (l3, l4, σ) = some e → (∀ (m3 : Int32) (σ1 : gS), e = (m3, σ1) → G (138, [some (.ref 94), some (.int l1), some (.int l2), some (.int m3), none, none, none], [], (gSh, σ1, u))) → G (7, [some (.ref 94), some (.int l1), some (.int l2), some (.int l3), some (.int l4), none, none], [], (gSh, σ, u)) := by
  intro n
  induction n with
  | zero => intro l3 l4 σ e h; cases h
  | succ n ih =>
    intro l3 l4 σ e h K2
    rcases g_iter h with ⟨z, h1, h2⟩ | h1
    · exact b_Model_distances_7 E d u hG l1 l2 l3 l4 σ h1 (fun n0 n1 n2 hz => by cases hz; exact ih _ _ _ e h2 K2) (fun _ _ hz => by cases hz)
    · exact b_Model_distances_7 E d u hG l1 l2 l3 l4 σ h1 (fun _ _ _ hz => by cases hz) (fun m3 σ1 hz => K2 m3 σ1 (by cases hz; rfl))
def p_Model_distances_174 (E : gEv) (l1 : Int32) (l2 : Int32) (l4 : Int32) (l3 : Int32) (l5 : Int32) (σ : gS) : Option ((Int32 × Int32 × gS) ⊕ (Int32 × gS)) :=
  if gIn l4 (σ.2.1 140) then if (((6 : Int32) * l4) + (σ.1 140 l4.toNatClampNeg)) ≤ l5 then (some (.inr (l3, σ))) else (if gIn l5 (σ.2.1 138) then gLet (σ.1 138 l5.toNatClampNeg) fun x14 => if gIn x14 (σ.2.1 148) then if 0 ≤ (lg_cmp (σ.2.2 148 x14.toNatClampNeg) (1152921504606846976 : Int64)) then (gLet (l5 + 1) fun x15 => some (.inl (l3, x15, σ))) else (if gIn (((840 : Int32) * l1) + x14) (σ.2.1 141) then if (σ.1 141 (((840 : Int32) * l1) + x14).toNatClampNeg) = 0 then (if gIn l4 (σ.2.1 149) then if gIn x14 (σ.2.1 148) then if gIn x14 (σ.2.1 149) then if 0 ≤ (lg_cmp ((σ.2.2 149 l4.toNatClampNeg) + (σ.2.2 148 x14.toNatClampNeg)) (σ.2.2 149 x14.toNatClampNeg)) then (gLet (l5 + 1) fun x16 => some (.inl (l3, x16, σ))) else (if gIn l4 (σ.2.1 149) then if gIn x14 (σ.2.1 148) then if gIn x14 (σ.2.1 149) then gLet (gPutL σ 149 x14.toNatClampNeg ((σ.2.2 149 l4.toNatClampNeg) + (σ.2.2 148 x14.toNatClampNeg))) fun s17 => if gIn x14 (s17.2.1 153) then if (s17.1 153 x14.toNatClampNeg) = 0 then (if gIn x14 (s17.2.1 153) then gLet (gPut s17 153 x14.toNatClampNeg (vp_nar .boolean 1)) fun s18 => if gIn l3 (s18.2.1 152) then gLet (gPut s18 152 l3.toNatClampNeg x14) fun s19 => gLet ((l3 + (1 : Int32)) - (l3 + (1 : Int32)) / (841 : Int32) * (841 : Int32)) fun x20 => gLet (l5 + 1) fun x21 => some (.inl (x20, x21, s19)) else none else none) else (gLet (l5 + 1) fun x22 => some (.inl (l3, x22, s17))) else none else none else none else none) else none else none else none) else (gLet (l5 + 1) fun x23 => some (.inl (l3, x23, σ))) else none) else none else none) else none
set_option maxRecDepth 20000 in
theorem b_Model_distances_174 (E : gEv) (d u : Nat) {G : gFr → Prop} {vo : Option Value} {sr : gS} (hG : gClo E gDf gP18 gY252 none (gC E gDf gMs (d + 0)) (vo, (gSh, sr, u)) G) (l1 : Int32) (l2 : Int32) (l4 : Int32) (l3 : Int32) (l5 : Int32) (σ : gS) {r : (Int32 × Int32 × gS) ⊕ (Int32 × gS)} (hP : p_Model_distances_174 E l1 l2 l4 l3 l5 σ = some r) (K1 : ∀ (m3 : Int32) (m5 : Int32) (σ1 : gS), r = .inl (m3, m5, σ1) → G (174, [some (.ref 94), some (.int l1), some (.int l2), some (.int m3), some (.int l4), some (.int m5), none], [], (gSh, σ1, u))) (K2 : ∀ (m3 : Int32) (σ1 : gS), r = .inr (m3, σ1) → G (319, [some (.ref 94), some (.int l1), some (.int l2), some (.int m3), none, none, none], [], (gSh, σ1, u))) : G (174, [some (.ref 94), some (.int l1), some (.int l2), some (.int l3), some (.int l4), some (.int l5), none], [], (gSh, σ, u)) := by
  unfold p_Model_distances_174 at hP
  refine gRunN_ok hG.1 7 _ (187, [some (.ref 94), some (.int l1), some (.int l2), some (.int l3), some (.int l4), some (.int l5), none], [.int l4, .ref 140, .int ((6 : Int32) * l4), .int l5], (gSh, σ, u)) rfl ?_
  obtain ⟨hc, hP⟩ := g_if hP
  refine hG.1 _ (188, [some (.ref 94), some (.int l1), some (.int l2), some (.int l3), some (.int l4), some (.int l5), none], [.int (σ.1 140 l4.toNatClampNeg), .int ((6 : Int32) * l4), .int l5], (gSh, σ, u)) _ rfl (if_pos hc) ?_
  refine gRunN_ok hG.1 1 _ (189, [some (.ref 94), some (.int l1), some (.int l2), some (.int l3), some (.int l4), some (.int l5), none], [.int (((6 : Int32) * l4) + (σ.1 140 l4.toNatClampNeg)), .int l5], (gSh, σ, u)) rfl ?_
  rcases g_ite hP with ⟨hc, hP⟩ | ⟨hc, hP⟩
  · refine hG.1 _ (319, [some (.ref 94), some (.int l1), some (.int l2), some (.int l3), some (.int l4), some (.int l5), none], [], (gSh, σ, u)) _ rfl (if_pos hc) ?_
    refine hG.2.2.2.2.1 _ _ [some (.ref 94), some (.int l1), some (.int l2), some (.int l3), none, none, none] _ _ ⟨rfl, ⟨rfl, ⟨rfl, ⟨rfl, trivial⟩⟩⟩⟩ ?_
    cases hP
    exact K2 _ _ rfl
  · refine hG.1 _ (192, [some (.ref 94), some (.int l1), some (.int l2), some (.int l3), some (.int l4), some (.int l5), none], [], (gSh, σ, u)) _ rfl (if_neg hc) ?_
    refine gRunN_ok hG.1 3 _ (198, [some (.ref 94), some (.int l1), some (.int l2), some (.int l3), some (.int l4), some (.int l5), none], [.int l5, .ref 138], (gSh, σ, u)) rfl ?_
    obtain ⟨hc, hP⟩ := g_if hP
    refine hG.1 _ (199, [some (.ref 94), some (.int l1), some (.int l2), some (.int l3), some (.int l4), some (.int l5), none], [.int (σ.1 138 l5.toNatClampNeg)], (gSh, σ, u)) _ rfl (if_pos hc) ?_
    refine gRunN_ok hG.1 1 _ (201, [some (.ref 94), some (.int l1), some (.int l2), some (.int l3), some (.int l4), some (.int l5), some (.int (σ.1 138 l5.toNatClampNeg))], [], (gSh, σ, u)) rfl ?_
    obtain ⟨x14, ex14, hP⟩ := g_let hP
    rw [← ex14]
    refine gRunN_ok hG.1 3 _ (207, [some (.ref 94), some (.int l1), some (.int l2), some (.int l3), some (.int l4), some (.int l5), some (.int x14)], [.int x14, .ref 148], (gSh, σ, u)) rfl ?_
    obtain ⟨hc, hP⟩ := g_if hP
    refine hG.1 _ (208, [some (.ref 94), some (.int l1), some (.int l2), some (.int l3), some (.int l4), some (.int l5), some (.int x14)], [.long (σ.2.2 148 x14.toNatClampNeg)], (gSh, σ, u)) _ rfl (if_pos hc) ?_
    refine gRunN_ok hG.1 2 _ (212, [some (.ref 94), some (.int l1), some (.int l2), some (.int l3), some (.int l4), some (.int l5), some (.int x14)], [.int (lg_cmp (σ.2.2 148 x14.toNatClampNeg) (1152921504606846976 : Int64))], (gSh, σ, u)) rfl ?_
    rcases g_ite hP with ⟨hc, hP⟩ | ⟨hc, hP⟩
    · refine hG.1 _ (313, [some (.ref 94), some (.int l1), some (.int l2), some (.int l3), some (.int l4), some (.int l5), some (.int x14)], [], (gSh, σ, u)) _ rfl (if_pos hc) ?_
      refine gRunN_ok hG.1 1 _ (316, [some (.ref 94), some (.int l1), some (.int l2), some (.int l3), some (.int l4), some (.int (l5 + 1)), some (.int x14)], [], (gSh, σ, u)) rfl ?_
      obtain ⟨x15, ex15, hP⟩ := g_let hP
      rw [← ex15]
      refine gRunN_ok hG.1 1 _ (174, [some (.ref 94), some (.int l1), some (.int l2), some (.int l3), some (.int l4), some (.int x15), some (.int x14)], [], (gSh, σ, u)) rfl ?_
      refine hG.2.2.2.2.1 _ _ [some (.ref 94), some (.int l1), some (.int l2), some (.int l3), some (.int l4), some (.int x15), none] _ _ ⟨rfl, ⟨rfl, ⟨rfl, ⟨rfl, ⟨rfl, ⟨rfl, trivial⟩⟩⟩⟩⟩⟩ ?_
      cases hP
      exact K1 _ _ _ rfl
    · refine hG.1 _ (215, [some (.ref 94), some (.int l1), some (.int l2), some (.int l3), some (.int l4), some (.int l5), some (.int x14)], [], (gSh, σ, u)) _ rfl (if_neg hc) ?_
      refine gRunN_ok hG.1 7 _ (227, [some (.ref 94), some (.int l1), some (.int l2), some (.int l3), some (.int l4), some (.int l5), some (.int x14)], [.int (((840 : Int32) * l1) + x14), .ref 141], (gSh, σ, u)) rfl ?_
      obtain ⟨hc, hP⟩ := g_if hP
      refine hG.1 _ (228, [some (.ref 94), some (.int l1), some (.int l2), some (.int l3), some (.int l4), some (.int l5), some (.int x14)], [.int (σ.1 141 (((840 : Int32) * l1) + x14).toNatClampNeg)], (gSh, σ, u)) _ rfl (if_pos hc) ?_
      rcases g_ite hP with ⟨hc, hP⟩ | ⟨hc, hP⟩
      · refine hG.1 _ (231, [some (.ref 94), some (.int l1), some (.int l2), some (.int l3), some (.int l4), some (.int l5), some (.int x14)], [], (gSh, σ, u)) _ rfl (if_pos hc) ?_
        refine gRunN_ok hG.1 3 _ (237, [some (.ref 94), some (.int l1), some (.int l2), some (.int l3), some (.int l4), some (.int l5), some (.int x14)], [.int l4, .ref 149], (gSh, σ, u)) rfl ?_
        obtain ⟨hc, hP⟩ := g_if hP
        refine hG.1 _ (238, [some (.ref 94), some (.int l1), some (.int l2), some (.int l3), some (.int l4), some (.int l5), some (.int x14)], [.long (σ.2.2 149 l4.toNatClampNeg)], (gSh, σ, u)) _ rfl (if_pos hc) ?_
        refine gRunN_ok hG.1 3 _ (244, [some (.ref 94), some (.int l1), some (.int l2), some (.int l3), some (.int l4), some (.int l5), some (.int x14)], [.int x14, .ref 148, .long (σ.2.2 149 l4.toNatClampNeg)], (gSh, σ, u)) rfl ?_
        obtain ⟨hc, hP⟩ := g_if hP
        refine hG.1 _ (245, [some (.ref 94), some (.int l1), some (.int l2), some (.int l3), some (.int l4), some (.int l5), some (.int x14)], [.long (σ.2.2 148 x14.toNatClampNeg), .long (σ.2.2 149 l4.toNatClampNeg)], (gSh, σ, u)) _ rfl (if_pos hc) ?_
        refine gRunN_ok hG.1 4 _ (252, [some (.ref 94), some (.int l1), some (.int l2), some (.int l3), some (.int l4), some (.int l5), some (.int x14)], [.int x14, .ref 149, .long ((σ.2.2 149 l4.toNatClampNeg) + (σ.2.2 148 x14.toNatClampNeg))], (gSh, σ, u)) rfl ?_
        obtain ⟨hc, hP⟩ := g_if hP
        refine hG.1 _ (253, [some (.ref 94), some (.int l1), some (.int l2), some (.int l3), some (.int l4), some (.int l5), some (.int x14)], [.long (σ.2.2 149 x14.toNatClampNeg), .long ((σ.2.2 149 l4.toNatClampNeg) + (σ.2.2 148 x14.toNatClampNeg))], (gSh, σ, u)) _ rfl (if_pos hc) ?_
        refine gRunN_ok hG.1 1 _ (254, [some (.ref 94), some (.int l1), some (.int l2), some (.int l3), some (.int l4), some (.int l5), some (.int x14)], [.int (lg_cmp ((σ.2.2 149 l4.toNatClampNeg) + (σ.2.2 148 x14.toNatClampNeg)) (σ.2.2 149 x14.toNatClampNeg))], (gSh, σ, u)) rfl ?_
        rcases g_ite hP with ⟨hc, hP⟩ | ⟨hc, hP⟩
        · refine hG.1 _ (313, [some (.ref 94), some (.int l1), some (.int l2), some (.int l3), some (.int l4), some (.int l5), some (.int x14)], [], (gSh, σ, u)) _ rfl (if_pos hc) ?_
          refine gRunN_ok hG.1 1 _ (316, [some (.ref 94), some (.int l1), some (.int l2), some (.int l3), some (.int l4), some (.int (l5 + 1)), some (.int x14)], [], (gSh, σ, u)) rfl ?_
          obtain ⟨x16, ex16, hP⟩ := g_let hP
          rw [← ex16]
          refine gRunN_ok hG.1 1 _ (174, [some (.ref 94), some (.int l1), some (.int l2), some (.int l3), some (.int l4), some (.int x16), some (.int x14)], [], (gSh, σ, u)) rfl ?_
          refine hG.2.2.2.2.1 _ _ [some (.ref 94), some (.int l1), some (.int l2), some (.int l3), some (.int l4), some (.int x16), none] _ _ ⟨rfl, ⟨rfl, ⟨rfl, ⟨rfl, ⟨rfl, ⟨rfl, trivial⟩⟩⟩⟩⟩⟩ ?_
          cases hP
          exact K1 _ _ _ rfl
        · refine hG.1 _ (257, [some (.ref 94), some (.int l1), some (.int l2), some (.int l3), some (.int l4), some (.int l5), some (.int x14)], [], (gSh, σ, u)) _ rfl (if_neg hc) ?_
          refine gRunN_ok hG.1 6 _ (269, [some (.ref 94), some (.int l1), some (.int l2), some (.int l3), some (.int l4), some (.int l5), some (.int x14)], [.int l4, .ref 149, .int x14, .ref 149], (gSh, σ, u)) rfl ?_
          obtain ⟨hc, hP⟩ := g_if hP
          refine hG.1 _ (270, [some (.ref 94), some (.int l1), some (.int l2), some (.int l3), some (.int l4), some (.int l5), some (.int x14)], [.long (σ.2.2 149 l4.toNatClampNeg), .int x14, .ref 149], (gSh, σ, u)) _ rfl (if_pos hc) ?_
          refine gRunN_ok hG.1 3 _ (276, [some (.ref 94), some (.int l1), some (.int l2), some (.int l3), some (.int l4), some (.int l5), some (.int x14)], [.int x14, .ref 148, .long (σ.2.2 149 l4.toNatClampNeg), .int x14, .ref 149], (gSh, σ, u)) rfl ?_
          obtain ⟨hc, hP⟩ := g_if hP
          refine hG.1 _ (277, [some (.ref 94), some (.int l1), some (.int l2), some (.int l3), some (.int l4), some (.int l5), some (.int x14)], [.long (σ.2.2 148 x14.toNatClampNeg), .long (σ.2.2 149 l4.toNatClampNeg), .int x14, .ref 149], (gSh, σ, u)) _ rfl (if_pos hc) ?_
          refine gRunN_ok hG.1 1 _ (278, [some (.ref 94), some (.int l1), some (.int l2), some (.int l3), some (.int l4), some (.int l5), some (.int x14)], [.long ((σ.2.2 149 l4.toNatClampNeg) + (σ.2.2 148 x14.toNatClampNeg)), .int x14, .ref 149], (gSh, σ, u)) rfl ?_
          obtain ⟨hc, hP⟩ := g_if hP
          refine hG.1 _ (279, [some (.ref 94), some (.int l1), some (.int l2), some (.int l3), some (.int l4), some (.int l5), some (.int x14)], [], (gSh, (gPutL σ 149 x14.toNatClampNeg ((σ.2.2 149 l4.toNatClampNeg) + (σ.2.2 148 x14.toNatClampNeg))), u)) _ rfl (if_pos hc) ?_
          obtain ⟨s17, es17, hP⟩ := g_let hP
          rw [← es17]
          refine gRunN_ok hG.1 3 _ (285, [some (.ref 94), some (.int l1), some (.int l2), some (.int l3), some (.int l4), some (.int l5), some (.int x14)], [.int x14, .ref 153], (gSh, s17, u)) rfl ?_
          obtain ⟨hc, hP⟩ := g_if hP
          refine hG.1 _ (286, [some (.ref 94), some (.int l1), some (.int l2), some (.int l3), some (.int l4), some (.int l5), some (.int x14)], [.int (s17.1 153 x14.toNatClampNeg)], (gSh, s17, u)) _ rfl (if_pos hc) ?_
          rcases g_ite hP with ⟨hc, hP⟩ | ⟨hc, hP⟩
          · refine hG.1 _ (289, [some (.ref 94), some (.int l1), some (.int l2), some (.int l3), some (.int l4), some (.int l5), some (.int x14)], [], (gSh, s17, u)) _ rfl (if_pos hc) ?_
            refine gRunN_ok hG.1 4 _ (296, [some (.ref 94), some (.int l1), some (.int l2), some (.int l3), some (.int l4), some (.int l5), some (.int x14)], [.int 1, .int x14, .ref 153], (gSh, s17, u)) rfl ?_
            obtain ⟨hc, hP⟩ := g_if hP
            refine hG.1 _ (297, [some (.ref 94), some (.int l1), some (.int l2), some (.int l3), some (.int l4), some (.int l5), some (.int x14)], [], (gSh, (gPut s17 153 x14.toNatClampNeg (vp_nar .boolean 1)), u)) _ rfl (if_pos hc) ?_
            obtain ⟨s18, es18, hP⟩ := g_let hP
            rw [← es18]
            refine gRunN_ok hG.1 4 _ (304, [some (.ref 94), some (.int l1), some (.int l2), some (.int l3), some (.int l4), some (.int l5), some (.int x14)], [.int x14, .int l3, .ref 152], (gSh, s18, u)) rfl ?_
            obtain ⟨hc, hP⟩ := g_if hP
            refine hG.1 _ (305, [some (.ref 94), some (.int l1), some (.int l2), some (.int l3), some (.int l4), some (.int l5), some (.int x14)], [], (gSh, (gPut s18 152 l3.toNatClampNeg x14), u)) _ rfl (if_pos hc) ?_
            obtain ⟨s19, es19, hP⟩ := g_let hP
            rw [← es19]
            refine gRunN_ok hG.1 6 _ (313, [some (.ref 94), some (.int l1), some (.int l2), some (.int ((l3 + (1 : Int32)) - (l3 + (1 : Int32)) / (841 : Int32) * (841 : Int32))), some (.int l4), some (.int l5), some (.int x14)], [], (gSh, s19, u)) rfl ?_
            obtain ⟨x20, ex20, hP⟩ := g_let hP
            rw [← ex20]
            refine gRunN_ok hG.1 1 _ (316, [some (.ref 94), some (.int l1), some (.int l2), some (.int x20), some (.int l4), some (.int (l5 + 1)), some (.int x14)], [], (gSh, s19, u)) rfl ?_
            obtain ⟨x21, ex21, hP⟩ := g_let hP
            rw [← ex21]
            refine gRunN_ok hG.1 1 _ (174, [some (.ref 94), some (.int l1), some (.int l2), some (.int x20), some (.int l4), some (.int x21), some (.int x14)], [], (gSh, s19, u)) rfl ?_
            refine hG.2.2.2.2.1 _ _ [some (.ref 94), some (.int l1), some (.int l2), some (.int x20), some (.int l4), some (.int x21), none] _ _ ⟨rfl, ⟨rfl, ⟨rfl, ⟨rfl, ⟨rfl, ⟨rfl, trivial⟩⟩⟩⟩⟩⟩ ?_
            cases hP
            exact K1 _ _ _ rfl
          · refine hG.1 _ (313, [some (.ref 94), some (.int l1), some (.int l2), some (.int l3), some (.int l4), some (.int l5), some (.int x14)], [], (gSh, s17, u)) _ rfl (if_neg hc) ?_
            refine gRunN_ok hG.1 1 _ (316, [some (.ref 94), some (.int l1), some (.int l2), some (.int l3), some (.int l4), some (.int (l5 + 1)), some (.int x14)], [], (gSh, s17, u)) rfl ?_
            obtain ⟨x22, ex22, hP⟩ := g_let hP
            rw [← ex22]
            refine gRunN_ok hG.1 1 _ (174, [some (.ref 94), some (.int l1), some (.int l2), some (.int l3), some (.int l4), some (.int x22), some (.int x14)], [], (gSh, s17, u)) rfl ?_
            refine hG.2.2.2.2.1 _ _ [some (.ref 94), some (.int l1), some (.int l2), some (.int l3), some (.int l4), some (.int x22), none] _ _ ⟨rfl, ⟨rfl, ⟨rfl, ⟨rfl, ⟨rfl, ⟨rfl, trivial⟩⟩⟩⟩⟩⟩ ?_
            cases hP
            exact K1 _ _ _ rfl
      · refine hG.1 _ (313, [some (.ref 94), some (.int l1), some (.int l2), some (.int l3), some (.int l4), some (.int l5), some (.int x14)], [], (gSh, σ, u)) _ rfl (if_neg hc) ?_
        refine gRunN_ok hG.1 1 _ (316, [some (.ref 94), some (.int l1), some (.int l2), some (.int l3), some (.int l4), some (.int (l5 + 1)), some (.int x14)], [], (gSh, σ, u)) rfl ?_
        obtain ⟨x23, ex23, hP⟩ := g_let hP
        rw [← ex23]
        refine gRunN_ok hG.1 1 _ (174, [some (.ref 94), some (.int l1), some (.int l2), some (.int l3), some (.int l4), some (.int x23), some (.int x14)], [], (gSh, σ, u)) rfl ?_
        refine hG.2.2.2.2.1 _ _ [some (.ref 94), some (.int l1), some (.int l2), some (.int l3), some (.int l4), some (.int x23), none] _ _ ⟨rfl, ⟨rfl, ⟨rfl, ⟨rfl, ⟨rfl, ⟨rfl, trivial⟩⟩⟩⟩⟩⟩ ?_
        cases hP
        exact K1 _ _ _ rfl
theorem l_Model_distances_174 (E : gEv) (d u : Nat) {G : gFr → Prop} {vo : Option Value} {sr : gS} (hG : gClo E gDf gP18 gY252 none (gC E gDf gMs (d + 0)) (vo, (gSh, sr, u)) G) (l1 : Int32) (l2 : Int32) (l4 : Int32) : ∀ (n : Nat) (l3 : Int32) (l5 : Int32) (σ : gS) (e : (Int32 × gS)), gIter (fun z => p_Model_distances_174 E l1 l2 l4 z.1 z.2.1 z.2.2) n (l3, l5, σ) = some e → (∀ (m3 : Int32) (σ1 : gS), e = (m3, σ1) → G (319, [some (.ref 94), some (.int l1), some (.int l2), some (.int m3), none, none, none], [], (gSh, σ1, u))) → G (174, [some (.ref 94), some (.int l1), some (.int l2), some (.int l3), some (.int l4), some (.int l5), none], [], (gSh, σ, u)) := by
  intro n
  induction n with
  | zero => intro l3 l5 σ e h; cases h
  | succ n ih =>
    intro l3 l5 σ e h K2
    rcases g_iter h with ⟨z, h1, h2⟩ | h1
    · exact b_Model_distances_174 E d u hG l1 l2 l4 l3 l5 σ h1 (fun n0 n1 n2 hz => by cases hz; exact ih _ _ _ e h2 K2) (fun _ _ hz => by cases hz)
    · exact b_Model_distances_174 E d u hG l1 l2 l4 l3 l5 σ h1 (fun _ _ _ hz => by cases hz) (fun m3 σ1 hz => K2 m3 σ1 (by cases hz; rfl))
def p_Model_distances_138 (E : gEv) (l1 : Int32) (l2 : Int32) (l3 : Int32) (σ : gS) : Option ((Int32 × Int32 × gS) ⊕ (gS)) :=
  if l2 = l3 then (some (.inr σ)) else (if gIn l2 (σ.2.1 152) then gLet (σ.1 152 l2.toNatClampNeg) fun x10 => gLet ((l2 + (1 : Int32)) - (l2 + (1 : Int32)) / (841 : Int32) * (841 : Int32)) fun x11 => if gIn x10 (σ.2.1 153) then gLet (gPut σ 153 x10.toNatClampNeg (vp_nar .boolean 0)) fun s12 => gLet ((6 : Int32) * x10) fun x13 => gB1 (gIter (fun z => p_Model_distances_174 E l1 x11 x10 z.1 z.2.1 z.2.2) gN (l3, x13, s12)) fun e24 => (fun w25 s26 => some (.inl (x11, w25, s26))) e24.1 e24.2 else none else none)
set_option maxRecDepth 20000 in
theorem b_Model_distances_138 (E : gEv) (d u : Nat) {G : gFr → Prop} {vo : Option Value} {sr : gS} (hG : gClo E gDf gP18 gY252 none (gC E gDf gMs (d + 0)) (vo, (gSh, sr, u)) G) (l1 : Int32) (l2 : Int32) (l3 : Int32) (σ : gS) {r : (Int32 × Int32 × gS) ⊕ (gS)} (hP : p_Model_distances_138 E l1 l2 l3 σ = some r) (K1 : ∀ (m2 : Int32) (m3 : Int32) (σ1 : gS), r = .inl (m2, m3, σ1) → G (138, [some (.ref 94), some (.int l1), some (.int m2), some (.int m3), none, none, none], [], (gSh, σ1, u))) (K2 : ∀ (σ1 : gS), r = .inr σ1 → G (322, [none, none, none, none, none, none, none], [], (gSh, σ1, u))) : G (138, [some (.ref 94), some (.int l1), some (.int l2), some (.int l3), none, none, none], [], (gSh, σ, u)) := by
  unfold p_Model_distances_138 at hP
  refine gRunN_ok hG.1 2 _ (140, [some (.ref 94), some (.int l1), some (.int l2), some (.int l3), none, none, none], [.int l3, .int l2], (gSh, σ, u)) rfl ?_
  rcases g_ite hP with ⟨hc, hP⟩ | ⟨hc, hP⟩
  · refine hG.1 _ (322, [some (.ref 94), some (.int l1), some (.int l2), some (.int l3), none, none, none], [], (gSh, σ, u)) _ rfl (if_pos hc) ?_
    refine hG.2.2.2.2.1 _ _ [none, none, none, none, none, none, none] _ _ trivial ?_
    cases hP
    exact K2 _ rfl
  · refine hG.1 _ (143, [some (.ref 94), some (.int l1), some (.int l2), some (.int l3), none, none, none], [], (gSh, σ, u)) _ rfl (if_neg hc) ?_
    refine gRunN_ok hG.1 3 _ (148, [some (.ref 94), some (.int l1), some (.int l2), some (.int l3), none, none, none], [.int l2, .ref 152], (gSh, σ, u)) rfl ?_
    obtain ⟨hc, hP⟩ := g_if hP
    refine hG.1 _ (149, [some (.ref 94), some (.int l1), some (.int l2), some (.int l3), none, none, none], [.int (σ.1 152 l2.toNatClampNeg)], (gSh, σ, u)) _ rfl (if_pos hc) ?_
    refine gRunN_ok hG.1 1 _ (151, [some (.ref 94), some (.int l1), some (.int l2), some (.int l3), some (.int (σ.1 152 l2.toNatClampNeg)), none, none], [], (gSh, σ, u)) rfl ?_
    obtain ⟨x10, ex10, hP⟩ := g_let hP
    rw [← ex10]
    refine gRunN_ok hG.1 6 _ (159, [some (.ref 94), some (.int l1), some (.int ((l2 + (1 : Int32)) - (l2 + (1 : Int32)) / (841 : Int32) * (841 : Int32))), some (.int l3), some (.int x10), none, none], [], (gSh, σ, u)) rfl ?_
    obtain ⟨x11, ex11, hP⟩ := g_let hP
    rw [← ex11]
    refine gRunN_ok hG.1 4 _ (166, [some (.ref 94), some (.int l1), some (.int x11), some (.int l3), some (.int x10), none, none], [.int 0, .int x10, .ref 153], (gSh, σ, u)) rfl ?_
    obtain ⟨hc, hP⟩ := g_if hP
    refine hG.1 _ (167, [some (.ref 94), some (.int l1), some (.int x11), some (.int l3), some (.int x10), none, none], [], (gSh, (gPut σ 153 x10.toNatClampNeg (vp_nar .boolean 0)), u)) _ rfl (if_pos hc) ?_
    obtain ⟨s12, es12, hP⟩ := g_let hP
    rw [← es12]
    refine gRunN_ok hG.1 4 _ (174, [some (.ref 94), some (.int l1), some (.int x11), some (.int l3), some (.int x10), some (.int ((6 : Int32) * x10)), none], [], (gSh, s12, u)) rfl ?_
    obtain ⟨x13, ex13, hP⟩ := g_let hP
    rw [← ex13]
    obtain ⟨e24, hq, hP⟩ := g_b1 hP
    refine l_Model_distances_174 E d u hG l1 x11 x10 gN l3 x13 s12 _ hq (fun w25 s26 he => ?_)
    · subst he
      try dsimp only [gSum] at hP
      refine gRunN_ok hG.1 1 _ (138, [some (.ref 94), some (.int l1), some (.int x11), some (.int w25), none, none, none], [], (gSh, s26, u)) rfl ?_
      cases hP
      exact K1 _ _ _ rfl
theorem l_Model_distances_138 (E : gEv) (d u : Nat) {G : gFr → Prop} {vo : Option Value} {sr : gS} (hG : gClo E gDf gP18 gY252 none (gC E gDf gMs (d + 0)) (vo, (gSh, sr, u)) G) (l1 : Int32) : ∀ (n : Nat) (l2 : Int32) (l3 : Int32) (σ : gS) (e : (gS)), gIter (fun z => p_Model_distances_138 E l1 z.1 z.2.1 z.2.2) n (l2, l3, σ) = some e → (∀ (σ1 : gS), e = σ1 → G (322, [none, none, none, none, none, none, none], [], (gSh, σ1, u))) → G (138, [some (.ref 94), some (.int l1), some (.int l2), some (.int l3), none, none, none], [], (gSh, σ, u)) := by
  intro n
  induction n with
  | zero => intro l2 l3 σ e h; cases h
  | succ n ih =>
    intro l2 l3 σ e h K2
    rcases g_iter h with ⟨z, h1, h2⟩ | h1
    · exact b_Model_distances_138 E d u hG l1 l2 l3 σ h1 (fun n0 n1 n2 hz => by cases hz; exact ih _ _ _ e h2 K2) (fun _ hz => by cases hz)
    · exact b_Model_distances_138 E d u hG l1 l2 l3 σ h1 (fun _ _ _ hz => by cases hz) (fun σ1 hz => K2 σ1 (by cases hz; rfl))
def p_Model_distances (E : gEv) (a0 : Int32) (σ : gS) : Option (gS) :=
  gB1 (gIter (fun z => p_Model_distances_7 E a0 0 z.1 z.2.1 z.2.2) gN (0, 0, σ)) fun e7 => (fun w8 s9 => gB1 (gIter (fun z => p_Model_distances_138 E a0 z.1 z.2.1 z.2.2) gN (0, w8, s9)) fun e27 => (fun s28 => some s28) e27) e7.1 e7.2
set_option maxRecDepth 20000 in
theorem c_Model_distances (E : gEv) (d u : Nat) (a0 : Int32) (σ : gS) {sr : gS}  (hq : p_Model_distances E a0 σ = some sr) : gC E gDf gMs (d + 1) 252 [.ref 94, .int a0] (gSh, σ, u) (none, (gSh, sr, u)) := ⟨gM252, rfl, Nat.le_of_ble_eq_true rfl, fun G hG => by
  have hP := hq
  unfold p_Model_distances at hP
  replace hG : gClo E gDf gP18 gY252 none (gC E gDf gMs (d + 0)) (none, (gSh, sr, u)) G := hG
  show G (0, [some (.ref 94), some (.int a0), none, none, none, none, none], [], (gSh, σ, u))
  refine gRunN_ok hG.1 6 _ (7, [some (.ref 94), some (.int a0), some (.int 0), some (.int 0), some (.int 0), none, none], [], (gSh, σ, u)) rfl ?_
  obtain ⟨e7, hq, hP⟩ := g_b1 hP
  refine l_Model_distances_7 E d u hG a0 0 gN 0 0 σ _ hq (fun w8 s9 he => ?_)
  · subst he
    try dsimp only [gSum] at hP
    obtain ⟨e27, hq, hP⟩ := g_b1 hP
    refine l_Model_distances_138 E d u hG a0 gN 0 w8 s9 _ hq (fun s28 he => ?_)
    · replace he := he.symm
      subst he
      try dsimp only [gSum] at hP
      cases hP
      exact hG.2.1 _ _ rfl rfl⟩
def p_Model_goesTogether_j41_4 (E : gEv) (l1 : Int32) (l2 : Int32) (y1 : Int32) (y2 : Int32) (y3 : Int32) (σ : gS) : Option ((Int32 × Int32 × gS) ⊕ (Int32 × gS)) :=
  if gIn y1 (σ.2.1 146) then gLet (gPut σ 146 y1.toNatClampNeg (y2 + y3)) fun s1 => if l1 = 0 then (gLet (l2 + 1) fun x2 => some (.inl (0, x2, s1))) else (if gIn l2 (s1.2.1 147) then if (2 : Int32) ≤ (s1.1 147 l2.toNatClampNeg) then (gLet (l2 + 1) fun x3 => some (.inl (0, x3, s1))) else (gLet (l2 + 1) fun x4 => some (.inl (1, x4, s1))) else none) else none
set_option maxRecDepth 20000 in
theorem j_Model_goesTogether_j41_4 (E : gEv) (d u : Nat) {G : gFr → Prop} {vo : Option Value} {sr : gS} (hG : gClo E gDf gP18 gY253 (some .boolean) (gC E gDf gMs (d + 0)) (vo, (gSh, sr, u)) G) (l1 : Int32) (l2 : Int32) (y1 : Int32) (y2 : Int32) (y3 : Int32) (σ : gS) {r : (Int32 × Int32 × gS) ⊕ (Int32 × gS)} (hP : p_Model_goesTogether_j41_4 E l1 l2 y1 y2 y3 σ = some r) (K1 : ∀ (m1 : Int32) (m2 : Int32) (σ1 : gS), r = .inl (m1, m2, σ1) → G (4, [some (.ref 94), some (.int m1), some (.int m2)], [], (gSh, σ1, u))) (K2 : ∀ (m1 : Int32) (σ1 : gS), r = .inr (m1, σ1) → G (69, [none, some (.int m1), none], [], (gSh, σ1, u))) : G (41, [some (.ref 94), some (.int l1), some (.int l2)], [.int y3, .int y2, .int y1, .ref 146], (gSh, σ, u)) := by
  unfold p_Model_goesTogether_j41_4 at hP
  refine gRunN_ok hG.1 1 _ (42, [some (.ref 94), some (.int l1), some (.int l2)], [.int (y2 + y3), .int y1, .ref 146], (gSh, σ, u)) rfl ?_
  obtain ⟨hc, hP⟩ := g_if hP
  refine hG.1 _ (43, [some (.ref 94), some (.int l1), some (.int l2)], [], (gSh, (gPut σ 146 y1.toNatClampNeg (y2 + y3)), u)) _ rfl (if_pos hc) ?_
  obtain ⟨s1, es1, hP⟩ := g_let hP
  rw [← es1]
  refine gRunN_ok hG.1 1 _ (44, [some (.ref 94), some (.int l1), some (.int l2)], [.int l1], (gSh, s1, u)) rfl ?_
  rcases g_ite hP with ⟨hc, hP⟩ | ⟨hc, hP⟩
  · refine hG.1 _ (61, [some (.ref 94), some (.int l1), some (.int l2)], [], (gSh, s1, u)) _ rfl (if_pos hc) ?_
    refine gRunN_ok hG.1 3 _ (66, [some (.ref 94), some (.int 0), some (.int (l2 + 1))], [], (gSh, s1, u)) rfl ?_
    obtain ⟨x2, ex2, hP⟩ := g_let hP
    rw [← ex2]
    refine gRunN_ok hG.1 1 _ (4, [some (.ref 94), some (.int 0), some (.int x2)], [], (gSh, s1, u)) rfl ?_
    cases hP
    exact K1 _ _ _ rfl
  · refine hG.1 _ (47, [some (.ref 94), some (.int l1), some (.int l2)], [], (gSh, s1, u)) _ rfl (if_neg hc) ?_
    refine gRunN_ok hG.1 3 _ (52, [some (.ref 94), some (.int l1), some (.int l2)], [.int l2, .ref 147], (gSh, s1, u)) rfl ?_
    obtain ⟨hc, hP⟩ := g_if hP
    refine hG.1 _ (53, [some (.ref 94), some (.int l1), some (.int l2)], [.int (s1.1 147 l2.toNatClampNeg)], (gSh, s1, u)) _ rfl (if_pos hc) ?_
    refine gRunN_ok hG.1 1 _ (54, [some (.ref 94), some (.int l1), some (.int l2)], [.int 2, .int (s1.1 147 l2.toNatClampNeg)], (gSh, s1, u)) rfl ?_
    rcases g_ite hP with ⟨hc, hP⟩ | ⟨hc, hP⟩
    · refine hG.1 _ (61, [some (.ref 94), some (.int l1), some (.int l2)], [], (gSh, s1, u)) _ rfl (if_pos hc) ?_
      refine gRunN_ok hG.1 3 _ (66, [some (.ref 94), some (.int 0), some (.int (l2 + 1))], [], (gSh, s1, u)) rfl ?_
      obtain ⟨x3, ex3, hP⟩ := g_let hP
      rw [← ex3]
      refine gRunN_ok hG.1 1 _ (4, [some (.ref 94), some (.int 0), some (.int x3)], [], (gSh, s1, u)) rfl ?_
      cases hP
      exact K1 _ _ _ rfl
    · refine hG.1 _ (57, [some (.ref 94), some (.int l1), some (.int l2)], [], (gSh, s1, u)) _ rfl (if_neg hc) ?_
      refine gRunN_ok hG.1 4 _ (66, [some (.ref 94), some (.int 1), some (.int (l2 + 1))], [], (gSh, s1, u)) rfl ?_
      obtain ⟨x4, ex4, hP⟩ := g_let hP
      rw [← ex4]
      refine gRunN_ok hG.1 1 _ (4, [some (.ref 94), some (.int 1), some (.int x4)], [], (gSh, s1, u)) rfl ?_
      cases hP
      exact K1 _ _ _ rfl
def p_Model_goesTogether_4 (E : gEv) (l1 : Int32) (l2 : Int32) (σ : gS) : Option ((Int32 × Int32 × gS) ⊕ (Int32 × gS)) :=
  if (σ.1 94 8) ≤ l2 then (some (.inr (l1, σ))) else (if gIn l2 (σ.2.1 146) then if gIn l2 (σ.2.1 147) then if (σ.1 147 l2.toNatClampNeg) ≤ (1 : Int32) then (p_Model_goesTogether_j41_4 E l1 l2 l2 (σ.1 146 l2.toNatClampNeg) 0 σ) else (if gIn l2 (σ.2.1 147) then p_Model_goesTogether_j41_4 E l1 l2 l2 (σ.1 146 l2.toNatClampNeg) ((σ.1 147 l2.toNatClampNeg) - (1 : Int32)) σ else none) else none else none)
set_option maxRecDepth 20000 in
theorem b_Model_goesTogether_4 (E : gEv) (d u : Nat) {G : gFr → Prop} {vo : Option Value} {sr : gS} (hG : gClo E gDf gP18 gY253 (some .boolean) (gC E gDf gMs (d + 0)) (vo, (gSh, sr, u)) G) (l1 : Int32) (l2 : Int32) (σ : gS) {r : (Int32 × Int32 × gS) ⊕ (Int32 × gS)} (hP : p_Model_goesTogether_4 E l1 l2 σ = some r) (K1 : ∀ (m1 : Int32) (m2 : Int32) (σ1 : gS), r = .inl (m1, m2, σ1) → G (4, [some (.ref 94), some (.int m1), some (.int m2)], [], (gSh, σ1, u))) (K2 : ∀ (m1 : Int32) (σ1 : gS), r = .inr (m1, σ1) → G (69, [none, some (.int m1), none], [], (gSh, σ1, u))) : G (4, [some (.ref 94), some (.int l1), some (.int l2)], [], (gSh, σ, u)) := by
  unfold p_Model_goesTogether_4 at hP
  refine gRunN_ok hG.1 3 _ (9, [some (.ref 94), some (.int l1), some (.int l2)], [.int (σ.1 94 8), .int l2], (gSh, σ, u)) rfl ?_
  rcases g_ite hP with ⟨hc, hP⟩ | ⟨hc, hP⟩
  · refine hG.1 _ (69, [some (.ref 94), some (.int l1), some (.int l2)], [], (gSh, σ, u)) _ rfl (if_pos hc) ?_
    refine hG.2.2.2.2.1 _ _ [none, some (.int l1), none] _ _ ⟨rfl, trivial⟩ ?_
    cases hP
    exact K2 _ _ rfl
  · refine hG.1 _ (12, [some (.ref 94), some (.int l1), some (.int l2)], [], (gSh, σ, u)) _ rfl (if_neg hc) ?_
    refine gRunN_ok hG.1 4 _ (18, [some (.ref 94), some (.int l1), some (.int l2)], [.int l2, .ref 146, .int l2, .ref 146], (gSh, σ, u)) rfl ?_
    obtain ⟨hc, hP⟩ := g_if hP
    refine hG.1 _ (19, [some (.ref 94), some (.int l1), some (.int l2)], [.int (σ.1 146 l2.toNatClampNeg), .int l2, .ref 146], (gSh, σ, u)) _ rfl (if_pos hc) ?_
    refine gRunN_ok hG.1 3 _ (24, [some (.ref 94), some (.int l1), some (.int l2)], [.int l2, .ref 147, .int (σ.1 146 l2.toNatClampNeg), .int l2, .ref 146], (gSh, σ, u)) rfl ?_
    obtain ⟨hc, hP⟩ := g_if hP
    refine hG.1 _ (25, [some (.ref 94), some (.int l1), some (.int l2)], [.int (σ.1 147 l2.toNatClampNeg), .int (σ.1 146 l2.toNatClampNeg), .int l2, .ref 146], (gSh, σ, u)) _ rfl (if_pos hc) ?_
    refine gRunN_ok hG.1 1 _ (26, [some (.ref 94), some (.int l1), some (.int l2)], [.int 1, .int (σ.1 147 l2.toNatClampNeg), .int (σ.1 146 l2.toNatClampNeg), .int l2, .ref 146], (gSh, σ, u)) rfl ?_
    rcases g_ite hP with ⟨hc, hP⟩ | ⟨hc, hP⟩
    · refine hG.1 _ (40, [some (.ref 94), some (.int l1), some (.int l2)], [.int (σ.1 146 l2.toNatClampNeg), .int l2, .ref 146], (gSh, σ, u)) _ rfl (if_pos hc) ?_
      refine gRunN_ok hG.1 1 _ (41, [some (.ref 94), some (.int l1), some (.int l2)], [.int 0, .int (σ.1 146 l2.toNatClampNeg), .int l2, .ref 146], (gSh, σ, u)) rfl ?_
      exact j_Model_goesTogether_j41_4 E d u hG l1 l2 l2 (σ.1 146 l2.toNatClampNeg) 0 σ hP K1 K2
    · refine hG.1 _ (29, [some (.ref 94), some (.int l1), some (.int l2)], [.int (σ.1 146 l2.toNatClampNeg), .int l2, .ref 146], (gSh, σ, u)) _ rfl (if_neg hc) ?_
      refine gRunN_ok hG.1 3 _ (34, [some (.ref 94), some (.int l1), some (.int l2)], [.int l2, .ref 147, .int (σ.1 146 l2.toNatClampNeg), .int l2, .ref 146], (gSh, σ, u)) rfl ?_
      obtain ⟨hc, hP⟩ := g_if hP
      refine hG.1 _ (35, [some (.ref 94), some (.int l1), some (.int l2)], [.int (σ.1 147 l2.toNatClampNeg), .int (σ.1 146 l2.toNatClampNeg), .int l2, .ref 146], (gSh, σ, u)) _ rfl (if_pos hc) ?_
      refine gRunN_ok hG.1 3 _ (41, [some (.ref 94), some (.int l1), some (.int l2)], [.int ((σ.1 147 l2.toNatClampNeg) - (1 : Int32)), .int (σ.1 146 l2.toNatClampNeg), .int l2, .ref 146], (gSh, σ, u)) rfl ?_
      exact j_Model_goesTogether_j41_4 E d u hG l1 l2 l2 (σ.1 146 l2.toNatClampNeg) ((σ.1 147 l2.toNatClampNeg) - (1 : Int32)) σ hP K1 K2
theorem l_Model_goesTogether_4 (E : gEv) (d u : Nat) {G : gFr → Prop} {vo : Option Value} {sr : gS} (hG : gClo E gDf gP18 gY253 (some .boolean) (gC E gDf gMs (d + 0)) (vo, (gSh, sr, u)) G) : ∀ (n : Nat) (l1 : Int32) (l2 : Int32) (σ : gS) (e : (Int32 × gS)), gIter (fun z => p_Model_goesTogether_4 E z.1 z.2.1 z.2.2) n (l1, l2, σ) = some e → (∀ (m1 : Int32) (σ1 : gS), e = (m1, σ1) → G (69, [none, some (.int m1), none], [], (gSh, σ1, u))) → G (4, [some (.ref 94), some (.int l1), some (.int l2)], [], (gSh, σ, u)) := by
  intro n
  induction n with
  | zero => intro l1 l2 σ e h; cases h
  | succ n ih =>
    intro l1 l2 σ e h K2
    rcases g_iter h with ⟨z, h1, h2⟩ | h1
    · exact b_Model_goesTogether_4 E d u hG l1 l2 σ h1 (fun n0 n1 n2 hz => by cases hz; exact ih _ _ _ e h2 K2) (fun _ _ hz => by cases hz)
    · exact b_Model_goesTogether_4 E d u hG l1 l2 σ h1 (fun _ _ _ hz => by cases hz) (fun m1 σ1 hz => K2 m1 σ1 (by cases hz; rfl))
def p_Model_goesTogether (E : gEv) (σ : gS) : Option (Int32 × gS) :=
  gB1 (gIter (fun z => p_Model_goesTogether_4 E z.1 z.2.1 z.2.2) gN (1, 0, σ)) fun e5 => (fun w6 s7 => if w6 = 0 ∨ w6 = 1 then some (w6, s7) else none) e5.1 e5.2
set_option maxRecDepth 20000 in
theorem c_Model_goesTogether (E : gEv) (d u : Nat) (σ : gS) {v : Int32} {sr : gS}  (hq : p_Model_goesTogether E σ = some (v, sr)) : gC E gDf gMs (d + 1) 253 [.ref 94] (gSh, σ, u) (some (.int v), (gSh, sr, u)) := ⟨gM253, rfl, Nat.le_of_ble_eq_true rfl, fun G hG => by
  have hP := hq
  unfold p_Model_goesTogether at hP
  replace hG : gClo E gDf gP18 gY253 (some .boolean) (gC E gDf gMs (d + 0)) (some (.int v), (gSh, sr, u)) G := hG
  show G (0, [some (.ref 94), none, none], [], (gSh, σ, u))
  refine gRunN_ok hG.1 4 _ (4, [some (.ref 94), some (.int 1), some (.int 0)], [], (gSh, σ, u)) rfl ?_
  obtain ⟨e5, hq, hP⟩ := g_b1 hP
  refine l_Model_goesTogether_4 E d u hG gN 1 0 σ _ hq (fun w6 s7 he => ?_)
  · subst he
    try dsimp only [gSum] at hP
    refine gRunN_ok hG.1 1 _ (70, [none, some (.int w6), none], [.int w6], (gSh, s7, u)) rfl ?_
    obtain ⟨hc, hP⟩ := g_if hP
    cases hP
    exact hG.2.1 _ _ rfl (if_pos hc)⟩
def p_Model_owner_23 (E : gEv) (l1 : Int32) (l2 : Int32) (σ : gS) : Option ((Int32) ⊕ ((Int32) ⊕ (Unit))) :=
  if (σ.1 94 60) ≤ l2 then (some (.inr (.inr ()))) else (if gIn (((840 : Int32) * l2) + l1) (σ.2.1 141) then if (σ.1 141 (((840 : Int32) * l2) + l1).toNatClampNeg) = 0 then (gLet (l2 + 1) fun x1 => some (.inl x1)) else (some (.inr (.inl l2))) else none)
set_option maxRecDepth 20000 in
theorem b_Model_owner_23 (E : gEv) (d u : Nat) {G : gFr → Prop} {vo : Option Value} {sr : gS} (hG : gClo E gDf gP18 gY254 (some .int) (gC E gDf gMs (d + 0)) (vo, (gSh, sr, u)) G) (l1 : Int32) (l2 : Int32) (σ : gS) {r : (Int32) ⊕ ((Int32) ⊕ (Unit))} (hP : p_Model_owner_23 E l1 l2 σ = some r) (K1 : ∀ (m2 : Int32), r = .inl m2 → G (23, [some (.ref 94), some (.int l1), some (.int m2)], [], (gSh, σ, u))) (K2 : ∀ (m2 : Int32), r = .inr (.inl m2) → G (46, [none, none, some (.int m2)], [], (gSh, σ, u))) (K3 : r = .inr (.inr ()) → G (54, [none, none, none], [], (gSh, σ, u))) : G (23, [some (.ref 94), some (.int l1), some (.int l2)], [], (gSh, σ, u)) := by
  unfold p_Model_owner_23 at hP
  refine gRunN_ok hG.1 3 _ (28, [some (.ref 94), some (.int l1), some (.int l2)], [.int (σ.1 94 60), .int l2], (gSh, σ, u)) rfl ?_
  rcases g_ite hP with ⟨hc, hP⟩ | ⟨hc, hP⟩
  · refine hG.1 _ (54, [some (.ref 94), some (.int l1), some (.int l2)], [], (gSh, σ, u)) _ rfl (if_pos hc) ?_
    refine hG.2.2.2.2.1 _ _ [none, none, none] _ _ trivial ?_
    cases hP
    exact K3 rfl
  · refine hG.1 _ (31, [some (.ref 94), some (.int l1), some (.int l2)], [], (gSh, σ, u)) _ rfl (if_neg hc) ?_
    refine gRunN_ok hG.1 7 _ (42, [some (.ref 94), some (.int l1), some (.int l2)], [.int (((840 : Int32) * l2) + l1), .ref 141], (gSh, σ, u)) rfl ?_
    obtain ⟨hc, hP⟩ := g_if hP
    refine hG.1 _ (43, [some (.ref 94), some (.int l1), some (.int l2)], [.int (σ.1 141 (((840 : Int32) * l2) + l1).toNatClampNeg)], (gSh, σ, u)) _ rfl (if_pos hc) ?_
    rcases g_ite hP with ⟨hc, hP⟩ | ⟨hc, hP⟩
    · refine hG.1 _ (48, [some (.ref 94), some (.int l1), some (.int l2)], [], (gSh, σ, u)) _ rfl (if_pos hc) ?_
      refine gRunN_ok hG.1 1 _ (51, [some (.ref 94), some (.int l1), some (.int (l2 + 1))], [], (gSh, σ, u)) rfl ?_
      obtain ⟨x1, ex1, hP⟩ := g_let hP
      rw [← ex1]
      refine gRunN_ok hG.1 1 _ (23, [some (.ref 94), some (.int l1), some (.int x1)], [], (gSh, σ, u)) rfl ?_
      cases hP
      exact K1 _ rfl
    · refine hG.1 _ (46, [some (.ref 94), some (.int l1), some (.int l2)], [], (gSh, σ, u)) _ rfl (if_neg hc) ?_
      refine hG.2.2.2.2.1 _ _ [none, none, some (.int l2)] _ _ ⟨rfl, trivial⟩ ?_
      cases hP
      exact K2 _ rfl
theorem l_Model_owner_23 (E : gEv) (d u : Nat) {G : gFr → Prop} {vo : Option Value} {sr : gS} (hG : gClo E gDf gP18 gY254 (some .int) (gC E gDf gMs (d + 0)) (vo, (gSh, sr, u)) G) (l1 : Int32) (σ : gS) : ∀ (n : Nat) (l2 : Int32) (e : ((Int32) ⊕ (Unit))), gIter (fun z => p_Model_owner_23 E l1 z σ) n l2 = some e → (∀ (m2 : Int32), e = (.inl m2) → G (46, [none, none, some (.int m2)], [], (gSh, σ, u))) → ( e = (.inr ()) → G (54, [none, none, none], [], (gSh, σ, u))) → G (23, [some (.ref 94), some (.int l1), some (.int l2)], [], (gSh, σ, u)) := by
  intro n
  induction n with
  | zero => intro l2 e h; cases h
  | succ n ih =>
    intro l2 e h K2 K3
    rcases g_iter h with ⟨z, h1, h2⟩ | h1
    · exact b_Model_owner_23 E d u hG l1 l2 σ h1 (fun n0 hz => by cases hz; exact ih _ e h2 K2 K3) (fun _ hz => by cases hz) (fun  hz => by cases hz)
    · exact b_Model_owner_23 E d u hG l1 l2 σ h1 (fun _ hz => by cases hz) (fun m2 hz => K2 m2 (by cases hz; rfl)) (fun  hz => K3  (by cases hz; rfl))
def p_Model_owner (E : gEv) (a0 : Int32) (σ : gS) : Option (Int32) :=
  if (σ.1 94 77) = 0 then (some (-1)) else (if a0 < 0 then (some (-1)) else (if a0 < (σ.1 94 8) then (gB1 (gIter (fun z => p_Model_owner_23 E a0 z σ) gN 0) fun e2 => gSum e2 (fun e4 => (fun w3 => some w3) e4) (fun e5 => some (-1))) else (some (-1))))
set_option maxRecDepth 20000 in
theorem c_Model_owner (E : gEv) (d u : Nat) (a0 : Int32) (σ : gS) {v : Int32}  (hq : p_Model_owner E a0 σ = some v) : gC E gDf gMs (d + 1) 254 [.ref 94, .int a0] (gSh, σ, u) (some (.int v), (gSh, σ, u)) := ⟨gM254, rfl, Nat.le_of_ble_eq_true rfl, fun G hG => by
  have hP := hq
  unfold p_Model_owner at hP
  replace hG : gClo E gDf gP18 gY254 (some .int) (gC E gDf gMs (d + 0)) (some (.int v), (gSh, σ, u)) G := hG
  show G (0, [some (.ref 94), some (.int a0), none], [], (gSh, σ, u))
  refine gRunN_ok hG.1 2 _ (4, [some (.ref 94), some (.int a0), none], [.int (σ.1 94 77)], (gSh, σ, u)) rfl ?_
  rcases g_ite hP with ⟨hc, hP⟩ | ⟨hc, hP⟩
  · refine hG.1 _ (19, [some (.ref 94), some (.int a0), none], [], (gSh, σ, u)) _ rfl (if_pos hc) ?_
    refine gRunN_ok hG.1 1 _ (20, [some (.ref 94), some (.int a0), none], [.int (-1)], (gSh, σ, u)) rfl ?_
    cases hP
    exact hG.2.1 _ _ rfl rfl
  · refine hG.1 _ (7, [some (.ref 94), some (.int a0), none], [], (gSh, σ, u)) _ rfl (if_neg hc) ?_
    refine gRunN_ok hG.1 1 _ (8, [some (.ref 94), some (.int a0), none], [.int a0], (gSh, σ, u)) rfl ?_
    rcases g_ite hP with ⟨hc, hP⟩ | ⟨hc, hP⟩
    · refine hG.1 _ (19, [some (.ref 94), some (.int a0), none], [], (gSh, σ, u)) _ rfl (if_pos hc) ?_
      refine gRunN_ok hG.1 1 _ (20, [some (.ref 94), some (.int a0), none], [.int (-1)], (gSh, σ, u)) rfl ?_
      cases hP
      exact hG.2.1 _ _ rfl rfl
    · refine hG.1 _ (11, [some (.ref 94), some (.int a0), none], [], (gSh, σ, u)) _ rfl (if_neg hc) ?_
      refine gRunN_ok hG.1 3 _ (16, [some (.ref 94), some (.int a0), none], [.int (σ.1 94 8), .int a0], (gSh, σ, u)) rfl ?_
      rcases g_ite hP with ⟨hc, hP⟩ | ⟨hc, hP⟩
      · refine hG.1 _ (21, [some (.ref 94), some (.int a0), none], [], (gSh, σ, u)) _ rfl (if_pos hc) ?_
        refine gRunN_ok hG.1 2 _ (23, [some (.ref 94), some (.int a0), some (.int 0)], [], (gSh, σ, u)) rfl ?_
        obtain ⟨e2, hq, hP⟩ := g_b1 hP
        refine l_Model_owner_23 E d u hG a0 σ gN 0 _ hq (fun w3 he => ?_) (fun  he => ?_)
        · subst he
          try dsimp only [gSum] at hP
          refine gRunN_ok hG.1 1 _ (47, [none, none, some (.int w3)], [.int w3], (gSh, σ, u)) rfl ?_
          cases hP
          exact hG.2.1 _ _ rfl rfl
        · subst he
          try dsimp only [gSum] at hP
          refine gRunN_ok hG.1 1 _ (55, [none, none, none], [.int (-1)], (gSh, σ, u)) rfl ?_
          cases hP
          exact hG.2.1 _ _ rfl rfl
      · refine hG.1 _ (19, [some (.ref 94), some (.int a0), none], [], (gSh, σ, u)) _ rfl (if_neg hc) ?_
        refine gRunN_ok hG.1 1 _ (20, [some (.ref 94), some (.int a0), none], [.int (-1)], (gSh, σ, u)) rfl ?_
        cases hP
        exact hG.2.1 _ _ rfl rfl⟩
def p_Model_number_j32_3 (E : gEv) (l1 : Int32) (l2 : Int32) (l3 : Int32) (l4 : Int32) (y1 : Int32) (y2 : Int32) (σ : gS) : Option ((Int32 × gS) ⊕ (gS)) :=
  if gIn y1 (σ.2.1 154) then gLet (gPut σ 154 y1.toNatClampNeg (vp_nar .boolean y2)) fun s1 => gLet (l4 + 1) fun x2 => some (.inl (x2, s1)) else none
set_option maxRecDepth 20000 in
theorem j_Model_number_j32_3 (E : gEv) (d u : Nat) {G : gFr → Prop} {vo : Option Value} {sr : gS} (hG : gClo E gDf gP18 gY258 none (gC E gDf gMs (d + 0)) (vo, (gSh, sr, u)) G) (l1 : Int32) (l2 : Int32) (l3 : Int32) (l4 : Int32) (y1 : Int32) (y2 : Int32) (σ : gS) {r : (Int32 × gS) ⊕ (gS)} (hP : p_Model_number_j32_3 E l1 l2 l3 l4 y1 y2 σ = some r) (K1 : ∀ (m4 : Int32) (σ1 : gS), r = .inl (m4, σ1) → G (3, [some (.ref 94), some (.int l1), some (.int l2), some (.int l3), some (.int m4)], [], (gSh, σ1, u))) (K2 : ∀ (σ1 : gS), r = .inr σ1 → G (39, [none, none, none, none, none], [], (gSh, σ1, u))) : G (32, [some (.ref 94), some (.int l1), some (.int l2), some (.int l3), some (.int l4)], [.int y2, .int y1, .ref 154], (gSh, σ, u)) := by
  unfold p_Model_number_j32_3 at hP
  obtain ⟨hc, hP⟩ := g_if hP
  refine hG.1 _ (33, [some (.ref 94), some (.int l1), some (.int l2), some (.int l3), some (.int l4)], [], (gSh, (gPut σ 154 y1.toNatClampNeg (vp_nar .boolean y2)), u)) _ rfl (if_pos hc) ?_
  obtain ⟨s1, es1, hP⟩ := g_let hP
  rw [← es1]
  refine gRunN_ok hG.1 1 _ (36, [some (.ref 94), some (.int l1), some (.int l2), some (.int l3), some (.int (l4 + 1))], [], (gSh, s1, u)) rfl ?_
  obtain ⟨x2, ex2, hP⟩ := g_let hP
  rw [← ex2]
  refine gRunN_ok hG.1 1 _ (3, [some (.ref 94), some (.int l1), some (.int l2), some (.int l3), some (.int x2)], [], (gSh, s1, u)) rfl ?_
  cases hP
  exact K1 _ _ rfl
def p_Model_number_3 (E : gEv) (l1 : Int32) (l2 : Int32) (l3 : Int32) (l4 : Int32) (σ : gS) : Option ((Int32 × gS) ⊕ (gS)) :=
  if l2 ≤ l4 then (some (.inr σ)) else (if ((l3 >>> (l4 &&& 31)) &&& (1 : Int32)) = (1 : Int32) then (p_Model_number_j32_3 E l1 l2 l3 l4 (l1 + l4) 1 σ) else (p_Model_number_j32_3 E l1 l2 l3 l4 (l1 + l4) 0 σ))
set_option maxRecDepth 20000 in
theorem b_Model_number_3 (E : gEv) (d u : Nat) {G : gFr → Prop} {vo : Option Value} {sr : gS} (hG : gClo E gDf gP18 gY258 none (gC E gDf gMs (d + 0)) (vo, (gSh, sr, u)) G) (l1 : Int32) (l2 : Int32) (l3 : Int32) (l4 : Int32) (σ : gS) {r : (Int32 × gS) ⊕ (gS)} (hP : p_Model_number_3 E l1 l2 l3 l4 σ = some r) (K1 : ∀ (m4 : Int32) (σ1 : gS), r = .inl (m4, σ1) → G (3, [some (.ref 94), some (.int l1), some (.int l2), some (.int l3), some (.int m4)], [], (gSh, σ1, u))) (K2 : ∀ (σ1 : gS), r = .inr σ1 → G (39, [none, none, none, none, none], [], (gSh, σ1, u))) : G (3, [some (.ref 94), some (.int l1), some (.int l2), some (.int l3), some (.int l4)], [], (gSh, σ, u)) := by
  unfold p_Model_number_3 at hP
  refine gRunN_ok hG.1 2 _ (6, [some (.ref 94), some (.int l1), some (.int l2), some (.int l3), some (.int l4)], [.int l2, .int l4], (gSh, σ, u)) rfl ?_
  rcases g_ite hP with ⟨hc, hP⟩ | ⟨hc, hP⟩
  · refine hG.1 _ (39, [some (.ref 94), some (.int l1), some (.int l2), some (.int l3), some (.int l4)], [], (gSh, σ, u)) _ rfl (if_pos hc) ?_
    refine hG.2.2.2.2.1 _ _ [none, none, none, none, none] _ _ trivial ?_
    cases hP
    exact K2 _ rfl
  · refine hG.1 _ (9, [some (.ref 94), some (.int l1), some (.int l2), some (.int l3), some (.int l4)], [], (gSh, σ, u)) _ rfl (if_neg hc) ?_
    refine gRunN_ok hG.1 11 _ (24, [some (.ref 94), some (.int l1), some (.int l2), some (.int l3), some (.int l4)], [.int 1, .int ((l3 >>> (l4 &&& 31)) &&& (1 : Int32)), .int (l1 + l4), .ref 154], (gSh, σ, u)) rfl ?_
    rcases g_ite hP with ⟨hc, hP⟩ | ⟨hc, hP⟩
    · refine hG.1 _ (27, [some (.ref 94), some (.int l1), some (.int l2), some (.int l3), some (.int l4)], [.int (l1 + l4), .ref 154], (gSh, σ, u)) _ rfl (if_pos hc) ?_
      refine gRunN_ok hG.1 2 _ (32, [some (.ref 94), some (.int l1), some (.int l2), some (.int l3), some (.int l4)], [.int 1, .int (l1 + l4), .ref 154], (gSh, σ, u)) rfl ?_
      exact j_Model_number_j32_3 E d u hG l1 l2 l3 l4 (l1 + l4) 1 σ hP K1 K2
    · refine hG.1 _ (31, [some (.ref 94), some (.int l1), some (.int l2), some (.int l3), some (.int l4)], [.int (l1 + l4), .ref 154], (gSh, σ, u)) _ rfl (if_neg hc) ?_
      refine gRunN_ok hG.1 1 _ (32, [some (.ref 94), some (.int l1), some (.int l2), some (.int l3), some (.int l4)], [.int 0, .int (l1 + l4), .ref 154], (gSh, σ, u)) rfl ?_
      exact j_Model_number_j32_3 E d u hG l1 l2 l3 l4 (l1 + l4) 0 σ hP K1 K2
theorem l_Model_number_3 (E : gEv) (d u : Nat) {G : gFr → Prop} {vo : Option Value} {sr : gS} (hG : gClo E gDf gP18 gY258 none (gC E gDf gMs (d + 0)) (vo, (gSh, sr, u)) G) (l1 : Int32) (l2 : Int32) (l3 : Int32) : ∀ (n : Nat) (l4 : Int32) (σ : gS) (e : (gS)), gIter (fun z => p_Model_number_3 E l1 l2 l3 z.1 z.2) n (l4, σ) = some e → (∀ (σ1 : gS), e = σ1 → G (39, [none, none, none, none, none], [], (gSh, σ1, u))) → G (3, [some (.ref 94), some (.int l1), some (.int l2), some (.int l3), some (.int l4)], [], (gSh, σ, u)) := by
  intro n
  induction n with
  | zero => intro l4 σ e h; cases h
  | succ n ih =>
    intro l4 σ e h K2
    rcases g_iter h with ⟨z, h1, h2⟩ | h1
    · exact b_Model_number_3 E d u hG l1 l2 l3 l4 σ h1 (fun n0 n1 hz => by cases hz; exact ih _ _ e h2 K2) (fun _ hz => by cases hz)
    · exact b_Model_number_3 E d u hG l1 l2 l3 l4 σ h1 (fun _ _ hz => by cases hz) (fun σ1 hz => K2 σ1 (by cases hz; rfl))
def p_Model_number (E : gEv) (a0 : Int32) (a1 : Int32) (a2 : Int32) (σ : gS) : Option (gS) :=
  gB1 (gIter (fun z => p_Model_number_3 E a0 a1 a2 z.1 z.2) gN (0, σ)) fun e3 => (fun s4 => some s4) e3
set_option maxRecDepth 20000 in
theorem c_Model_number (E : gEv) (d u : Nat) (a0 : Int32) (a1 : Int32) (a2 : Int32) (σ : gS) {sr : gS}  (hq : p_Model_number E a0 a1 a2 σ = some sr) : gC E gDf gMs (d + 1) 258 [.ref 94, .int a0, .int a1, .int a2] (gSh, σ, u) (none, (gSh, sr, u)) := ⟨gM258, rfl, Nat.le_of_ble_eq_true rfl, fun G hG => by
  have hP := hq
  unfold p_Model_number at hP
  replace hG : gClo E gDf gP18 gY258 none (gC E gDf gMs (d + 0)) (none, (gSh, sr, u)) G := hG
  show G (0, [some (.ref 94), some (.int a0), some (.int a1), some (.int a2), none], [], (gSh, σ, u))
  refine gRunN_ok hG.1 2 _ (3, [some (.ref 94), some (.int a0), some (.int a1), some (.int a2), some (.int 0)], [], (gSh, σ, u)) rfl ?_
  obtain ⟨e3, hq, hP⟩ := g_b1 hP
  refine l_Model_number_3 E d u hG a0 a1 a2 gN 0 σ _ hq (fun s4 he => ?_)
  · replace he := he.symm
    subst he
    try dsimp only [gSum] at hP
    cases hP
    exact hG.2.1 _ _ rfl rfl⟩
def p_Model_endOf_2 (E : gEv) (l1 : Int32) (l2 : Int32) (σ : gS) : Option ((Int32) ⊕ ((Int32) ⊕ (Unit))) :=
  if (σ.1 94 61) ≤ l2 then (some (.inr (.inr ()))) else (if gIn l2 (σ.2.1 131) then if (σ.1 131 l2.toNatClampNeg) = l1 then (some (.inr (.inl l2))) else (gLet (l2 + 1) fun x1 => some (.inl x1)) else none)
set_option maxRecDepth 20000 in
theorem b_Model_endOf_2 (E : gEv) (d u : Nat) {G : gFr → Prop} {vo : Option Value} {sr : gS} (hG : gClo E gDf gP18 gY259 (some .int) (gC E gDf gMs (d + 0)) (vo, (gSh, sr, u)) G) (l1 : Int32) (l2 : Int32) (σ : gS) {r : (Int32) ⊕ ((Int32) ⊕ (Unit))} (hP : p_Model_endOf_2 E l1 l2 σ = some r) (K1 : ∀ (m2 : Int32), r = .inl m2 → G (2, [some (.ref 94), some (.int l1), some (.int m2)], [], (gSh, σ, u))) (K2 : ∀ (m2 : Int32), r = .inr (.inl m2) → G (20, [some (.ref 94), none, some (.int m2)], [], (gSh, σ, u))) (K3 : r = .inr (.inr ()) → G (33, [none, none, none], [], (gSh, σ, u))) : G (2, [some (.ref 94), some (.int l1), some (.int l2)], [], (gSh, σ, u)) := by
  unfold p_Model_endOf_2 at hP
  refine gRunN_ok hG.1 3 _ (7, [some (.ref 94), some (.int l1), some (.int l2)], [.int (σ.1 94 61), .int l2], (gSh, σ, u)) rfl ?_
  rcases g_ite hP with ⟨hc, hP⟩ | ⟨hc, hP⟩
  · refine hG.1 _ (33, [some (.ref 94), some (.int l1), some (.int l2)], [], (gSh, σ, u)) _ rfl (if_pos hc) ?_
    refine hG.2.2.2.2.1 _ _ [none, none, none] _ _ trivial ?_
    cases hP
    exact K3 rfl
  · refine hG.1 _ (10, [some (.ref 94), some (.int l1), some (.int l2)], [], (gSh, σ, u)) _ rfl (if_neg hc) ?_
    refine gRunN_ok hG.1 3 _ (15, [some (.ref 94), some (.int l1), some (.int l2)], [.int l2, .ref 131], (gSh, σ, u)) rfl ?_
    obtain ⟨hc, hP⟩ := g_if hP
    refine hG.1 _ (16, [some (.ref 94), some (.int l1), some (.int l2)], [.int (σ.1 131 l2.toNatClampNeg)], (gSh, σ, u)) _ rfl (if_pos hc) ?_
    refine gRunN_ok hG.1 1 _ (17, [some (.ref 94), some (.int l1), some (.int l2)], [.int l1, .int (σ.1 131 l2.toNatClampNeg)], (gSh, σ, u)) rfl ?_
    rcases g_ite hP with ⟨hc, hP⟩ | ⟨hc, hP⟩
    · refine hG.1 _ (20, [some (.ref 94), some (.int l1), some (.int l2)], [], (gSh, σ, u)) _ rfl (if_pos hc) ?_
      refine hG.2.2.2.2.1 _ _ [some (.ref 94), none, some (.int l2)] _ _ ⟨rfl, ⟨rfl, trivial⟩⟩ ?_
      cases hP
      exact K2 _ rfl
    · refine hG.1 _ (27, [some (.ref 94), some (.int l1), some (.int l2)], [], (gSh, σ, u)) _ rfl (if_neg hc) ?_
      refine gRunN_ok hG.1 1 _ (30, [some (.ref 94), some (.int l1), some (.int (l2 + 1))], [], (gSh, σ, u)) rfl ?_
      obtain ⟨x1, ex1, hP⟩ := g_let hP
      rw [← ex1]
      refine gRunN_ok hG.1 1 _ (2, [some (.ref 94), some (.int l1), some (.int x1)], [], (gSh, σ, u)) rfl ?_
      cases hP
      exact K1 _ rfl
theorem l_Model_endOf_2 (E : gEv) (d u : Nat) {G : gFr → Prop} {vo : Option Value} {sr : gS} (hG : gClo E gDf gP18 gY259 (some .int) (gC E gDf gMs (d + 0)) (vo, (gSh, sr, u)) G) (l1 : Int32) (σ : gS) : ∀ (n : Nat) (l2 : Int32) (e : ((Int32) ⊕ (Unit))), gIter (fun z => p_Model_endOf_2 E l1 z σ) n l2 = some e → (∀ (m2 : Int32), e = (.inl m2) → G (20, [some (.ref 94), none, some (.int m2)], [], (gSh, σ, u))) → ( e = (.inr ()) → G (33, [none, none, none], [], (gSh, σ, u))) → G (2, [some (.ref 94), some (.int l1), some (.int l2)], [], (gSh, σ, u)) := by
  intro n
  induction n with
  | zero => intro l2 e h; cases h
  | succ n ih =>
    intro l2 e h K2 K3
    rcases g_iter h with ⟨z, h1, h2⟩ | h1
    · exact b_Model_endOf_2 E d u hG l1 l2 σ h1 (fun n0 hz => by cases hz; exact ih _ e h2 K2 K3) (fun _ hz => by cases hz) (fun  hz => by cases hz)
    · exact b_Model_endOf_2 E d u hG l1 l2 σ h1 (fun _ hz => by cases hz) (fun m2 hz => K2 m2 (by cases hz; rfl)) (fun  hz => K3  (by cases hz; rfl))
def p_Model_endOf (E : gEv) (a0 : Int32) (σ : gS) : Option (Int32) :=
  gB1 (gIter (fun z => p_Model_endOf_2 E a0 z σ) gN 0) fun e2 => gSum e2 (fun e4 => (fun w3 => if gIn w3 (σ.2.1 132) then some (σ.1 132 w3.toNatClampNeg) else none) e4) (fun e5 => some (-1))
set_option maxRecDepth 20000 in
theorem c_Model_endOf (E : gEv) (d u : Nat) (a0 : Int32) (σ : gS) {v : Int32}  (hq : p_Model_endOf E a0 σ = some v) : gC E gDf gMs (d + 1) 259 [.ref 94, .int a0] (gSh, σ, u) (some (.int v), (gSh, σ, u)) := ⟨gM259, rfl, Nat.le_of_ble_eq_true rfl, fun G hG => by
  have hP := hq
  unfold p_Model_endOf at hP
  replace hG : gClo E gDf gP18 gY259 (some .int) (gC E gDf gMs (d + 0)) (some (.int v), (gSh, σ, u)) G := hG
  show G (0, [some (.ref 94), some (.int a0), none], [], (gSh, σ, u))
  refine gRunN_ok hG.1 2 _ (2, [some (.ref 94), some (.int a0), some (.int 0)], [], (gSh, σ, u)) rfl ?_
  obtain ⟨e2, hq, hP⟩ := g_b1 hP
  refine l_Model_endOf_2 E d u hG a0 σ gN 0 _ hq (fun w3 he => ?_) (fun  he => ?_)
  · subst he
    try dsimp only [gSum] at hP
    refine gRunN_ok hG.1 3 _ (25, [some (.ref 94), none, some (.int w3)], [.int w3, .ref 132], (gSh, σ, u)) rfl ?_
    obtain ⟨hc, hP⟩ := g_if hP
    refine hG.1 _ (26, [some (.ref 94), none, some (.int w3)], [.int (σ.1 132 w3.toNatClampNeg)], (gSh, σ, u)) _ rfl (if_pos hc) ?_
    cases hP
    exact hG.2.1 _ _ rfl rfl
  · subst he
    try dsimp only [gSum] at hP
    refine gRunN_ok hG.1 1 _ (34, [none, none, none], [.int (-1)], (gSh, σ, u)) rfl ?_
    cases hP
    exact hG.2.1 _ _ rfl rfl⟩
def p_Model_start_2 (E : gEv) (l1 : Int32) (σ : gS) : Option ((Int32 × gS) ⊕ (gS)) :=
  if (σ.1 94 5) ≤ l1 then (some (.inr σ)) else (if gIn ((l1 * (σ.1 94 9)) + (17 : Int32)) (σ.2.1 154) then if gIn l1 (σ.2.1 155) then gLet (gPut σ 155 l1.toNatClampNeg (vp_nar .boolean (σ.1 154 ((l1 * (σ.1 94 9)) + (17 : Int32)).toNatClampNeg))) fun s1 => gLet (l1 + 1) fun x2 => some (.inl (x2, s1)) else none else none)
set_option maxRecDepth 20000 in
theorem b_Model_start_2 (E : gEv) (d u : Nat) {G : gFr → Prop} {vo : Option Value} {sr : gS} (hG : gClo E gDf gP18 gY261 none (gC E gDf gMs (d + 0)) (vo, (gSh, sr, u)) G) (l1 : Int32) (σ : gS) {r : (Int32 × gS) ⊕ (gS)} (hP : p_Model_start_2 E l1 σ = some r) (K1 : ∀ (m1 : Int32) (σ1 : gS), r = .inl (m1, σ1) → G (2, [some (.ref 94), some (.int m1)], [], (gSh, σ1, u))) (K2 : ∀ (σ1 : gS), r = .inr σ1 → G (36, [some (.ref 94), none], [], (gSh, σ1, u))) : G (2, [some (.ref 94), some (.int l1)], [], (gSh, σ, u)) := by
  unfold p_Model_start_2 at hP
  refine gRunN_ok hG.1 3 _ (7, [some (.ref 94), some (.int l1)], [.int (σ.1 94 5), .int l1], (gSh, σ, u)) rfl ?_
  rcases g_ite hP with ⟨hc, hP⟩ | ⟨hc, hP⟩
  · refine hG.1 _ (36, [some (.ref 94), some (.int l1)], [], (gSh, σ, u)) _ rfl (if_pos hc) ?_
    refine hG.2.2.2.2.1 _ _ [some (.ref 94), none] _ _ ⟨rfl, trivial⟩ ?_
    cases hP
    exact K2 _ rfl
  · refine hG.1 _ (10, [some (.ref 94), some (.int l1)], [], (gSh, σ, u)) _ rfl (if_neg hc) ?_
    refine gRunN_ok hG.1 11 _ (28, [some (.ref 94), some (.int l1)], [.int ((l1 * (σ.1 94 9)) + (17 : Int32)), .ref 154, .int l1, .ref 155], (gSh, σ, u)) rfl ?_
    obtain ⟨hc, hP⟩ := g_if hP
    refine hG.1 _ (29, [some (.ref 94), some (.int l1)], [.int (σ.1 154 ((l1 * (σ.1 94 9)) + (17 : Int32)).toNatClampNeg), .int l1, .ref 155], (gSh, σ, u)) _ rfl (if_pos hc) ?_
    obtain ⟨hc, hP⟩ := g_if hP
    refine hG.1 _ (30, [some (.ref 94), some (.int l1)], [], (gSh, (gPut σ 155 l1.toNatClampNeg (vp_nar .boolean (σ.1 154 ((l1 * (σ.1 94 9)) + (17 : Int32)).toNatClampNeg))), u)) _ rfl (if_pos hc) ?_
    obtain ⟨s1, es1, hP⟩ := g_let hP
    rw [← es1]
    refine gRunN_ok hG.1 1 _ (33, [some (.ref 94), some (.int (l1 + 1))], [], (gSh, s1, u)) rfl ?_
    obtain ⟨x2, ex2, hP⟩ := g_let hP
    rw [← ex2]
    refine gRunN_ok hG.1 1 _ (2, [some (.ref 94), some (.int x2)], [], (gSh, s1, u)) rfl ?_
    cases hP
    exact K1 _ _ rfl
theorem l_Model_start_2 (E : gEv) (d u : Nat) {G : gFr → Prop} {vo : Option Value} {sr : gS} (hG : gClo E gDf gP18 gY261 none (gC E gDf gMs (d + 0)) (vo, (gSh, sr, u)) G) : ∀ (n : Nat) (l1 : Int32) (σ : gS) (e : (gS)), gIter (fun z => p_Model_start_2 E z.1 z.2) n (l1, σ) = some e → (∀ (σ1 : gS), e = σ1 → G (36, [some (.ref 94), none], [], (gSh, σ1, u))) → G (2, [some (.ref 94), some (.int l1)], [], (gSh, σ, u)) := by
  intro n
  induction n with
  | zero => intro l1 σ e h; cases h
  | succ n ih =>
    intro l1 σ e h K2
    rcases g_iter h with ⟨z, h1, h2⟩ | h1
    · exact b_Model_start_2 E d u hG l1 σ h1 (fun n0 n1 hz => by cases hz; exact ih _ _ e h2 K2) (fun _ hz => by cases hz)
    · exact b_Model_start_2 E d u hG l1 σ h1 (fun _ _ hz => by cases hz) (fun σ1 hz => K2 σ1 (by cases hz; rfl))
def p_Model_start (E : gEv) (σ : gS) : Option (gS) :=
  gB1 (gIter (fun z => p_Model_start_2 E z.1 z.2) gN (0, σ)) fun e3 => (fun s4 => gLet (gPut s4 94 99 0) fun s5 => gLet (gPut s5 94 97 0) fun s6 => some s6) e3
set_option maxRecDepth 20000 in
theorem c_Model_start (E : gEv) (d u : Nat) (σ : gS) {sr : gS}  (hq : p_Model_start E σ = some sr) : gC E gDf gMs (d + 1) 261 [.ref 94] (gSh, σ, u) (none, (gSh, sr, u)) := ⟨gM261, rfl, Nat.le_of_ble_eq_true rfl, fun G hG => by
  have hP := hq
  unfold p_Model_start at hP
  replace hG : gClo E gDf gP18 gY261 none (gC E gDf gMs (d + 0)) (none, (gSh, sr, u)) G := hG
  show G (0, [some (.ref 94), none], [], (gSh, σ, u))
  refine gRunN_ok hG.1 2 _ (2, [some (.ref 94), some (.int 0)], [], (gSh, σ, u)) rfl ?_
  obtain ⟨e3, hq, hP⟩ := g_b1 hP
  refine l_Model_start_2 E d u hG gN 0 σ _ hq (fun s4 he => ?_)
  · replace he := he.symm
    subst he
    try dsimp only [gSum] at hP
    refine gRunN_ok hG.1 3 _ (41, [some (.ref 94), none], [], (gSh, (gPut s4 94 99 0), u)) rfl ?_
    obtain ⟨s5, es5, hP⟩ := g_let hP
    rw [← es5]
    refine gRunN_ok hG.1 3 _ (46, [some (.ref 94), none], [], (gSh, (gPut s5 94 97 0), u)) rfl ?_
    obtain ⟨s6, es6, hP⟩ := g_let hP
    rw [← es6]
    cases hP
    exact hG.2.1 _ _ rfl rfl⟩
def p_Model_bit (E : gEv) (a0 : Int32) (σ : gS) : Option (Int32) :=
  if a0 < 0 then (some (-1)) else (if a0 < (σ.1 94 13) then (if gIn a0 (σ.2.1 154) then if (σ.1 154 a0.toNatClampNeg) = 0 then (some 0) else (some 1) else none) else (some (-1)))
set_option maxRecDepth 20000 in
theorem c_Model_bit (E : gEv) (d u : Nat) (a0 : Int32) (σ : gS) {v : Int32}  (hq : p_Model_bit E a0 σ = some v) : gC E gDf gMs (d + 1) 262 [.ref 94, .int a0] (gSh, σ, u) (some (.int v), (gSh, σ, u)) := ⟨gM262, rfl, Nat.le_of_ble_eq_true rfl, fun G hG => by
  have hP := hq
  unfold p_Model_bit at hP
  replace hG : gClo E gDf gP18 gY262 (some .int) (gC E gDf gMs (d + 0)) (some (.int v), (gSh, σ, u)) G := hG
  show G (0, [some (.ref 94), some (.int a0)], [], (gSh, σ, u))
  refine gRunN_ok hG.1 1 _ (1, [some (.ref 94), some (.int a0)], [.int a0], (gSh, σ, u)) rfl ?_
  rcases g_ite hP with ⟨hc, hP⟩ | ⟨hc, hP⟩
  · refine hG.1 _ (12, [some (.ref 94), some (.int a0)], [], (gSh, σ, u)) _ rfl (if_pos hc) ?_
    refine gRunN_ok hG.1 2 _ (30, [some (.ref 94), some (.int a0)], [.int (-1)], (gSh, σ, u)) rfl ?_
    cases hP
    exact hG.2.1 _ _ rfl rfl
  · refine hG.1 _ (4, [some (.ref 94), some (.int a0)], [], (gSh, σ, u)) _ rfl (if_neg hc) ?_
    refine gRunN_ok hG.1 3 _ (9, [some (.ref 94), some (.int a0)], [.int (σ.1 94 13), .int a0], (gSh, σ, u)) rfl ?_
    rcases g_ite hP with ⟨hc, hP⟩ | ⟨hc, hP⟩
    · refine hG.1 _ (16, [some (.ref 94), some (.int a0)], [], (gSh, σ, u)) _ rfl (if_pos hc) ?_
      refine gRunN_ok hG.1 3 _ (21, [some (.ref 94), some (.int a0)], [.int a0, .ref 154], (gSh, σ, u)) rfl ?_
      obtain ⟨hc, hP⟩ := g_if hP
      refine hG.1 _ (22, [some (.ref 94), some (.int a0)], [.int (σ.1 154 a0.toNatClampNeg)], (gSh, σ, u)) _ rfl (if_pos hc) ?_
      rcases g_ite hP with ⟨hc, hP⟩ | ⟨hc, hP⟩
      · refine hG.1 _ (29, [some (.ref 94), some (.int a0)], [], (gSh, σ, u)) _ rfl (if_pos hc) ?_
        refine gRunN_ok hG.1 1 _ (30, [some (.ref 94), some (.int a0)], [.int 0], (gSh, σ, u)) rfl ?_
        cases hP
        exact hG.2.1 _ _ rfl rfl
      · refine hG.1 _ (25, [some (.ref 94), some (.int a0)], [], (gSh, σ, u)) _ rfl (if_neg hc) ?_
        refine gRunN_ok hG.1 2 _ (30, [some (.ref 94), some (.int a0)], [.int 1], (gSh, σ, u)) rfl ?_
        cases hP
        exact hG.2.1 _ _ rfl rfl
    · refine hG.1 _ (12, [some (.ref 94), some (.int a0)], [], (gSh, σ, u)) _ rfl (if_neg hc) ?_
      refine gRunN_ok hG.1 2 _ (30, [some (.ref 94), some (.int a0)], [.int (-1)], (gSh, σ, u)) rfl ?_
      cases hP
      exact hG.2.1 _ _ rfl rfl⟩
def p_Model_flip_j33 (E : gEv) (l1 : Int32) (y1 : Int32) (y2 : Int32) (σ : gS) : Option (Int32 × gS) :=
  if gIn y1 (σ.2.1 154) then gLet (gPut σ 154 y1.toNatClampNeg (vp_nar .boolean y2)) fun s1 => gLet (gPut s1 94 97 0) fun s2 => if gIn l1 (s2.2.1 154) then if (s2.1 154 l1.toNatClampNeg) = 0 then (some (0, s2)) else (some (1, s2)) else none else none
set_option maxRecDepth 20000 in
theorem j_Model_flip_j33 (E : gEv) (d u : Nat) {G : gFr → Prop} {v : Int32} {sr : gS} (hG : gClo E gDf gP18 gY263 (some .int) (gC E gDf gMs (d + 0)) (some (.int v), (gSh, sr, u)) G) (l1 : Int32) (y1 : Int32) (y2 : Int32) (σ : gS) (hP : p_Model_flip_j33 E l1 y1 y2 σ = some (v, sr)) : G (33, [some (.ref 94), some (.int l1)], [.int y2, .int y1, .ref 154], (gSh, σ, u)) := by
  unfold p_Model_flip_j33 at hP
  obtain ⟨hc, hP⟩ := g_if hP
  refine hG.1 _ (34, [some (.ref 94), some (.int l1)], [], (gSh, (gPut σ 154 y1.toNatClampNeg (vp_nar .boolean y2)), u)) _ rfl (if_pos hc) ?_
  obtain ⟨s1, es1, hP⟩ := g_let hP
  rw [← es1]
  refine gRunN_ok hG.1 3 _ (39, [some (.ref 94), some (.int l1)], [], (gSh, (gPut s1 94 97 0), u)) rfl ?_
  obtain ⟨s2, es2, hP⟩ := g_let hP
  rw [← es2]
  refine gRunN_ok hG.1 3 _ (44, [some (.ref 94), some (.int l1)], [.int l1, .ref 154], (gSh, s2, u)) rfl ?_
  obtain ⟨hc, hP⟩ := g_if hP
  refine hG.1 _ (45, [some (.ref 94), some (.int l1)], [.int (s2.1 154 l1.toNatClampNeg)], (gSh, s2, u)) _ rfl (if_pos hc) ?_
  rcases g_ite hP with ⟨hc, hP⟩ | ⟨hc, hP⟩
  · refine hG.1 _ (52, [some (.ref 94), some (.int l1)], [], (gSh, s2, u)) _ rfl (if_pos hc) ?_
    refine gRunN_ok hG.1 1 _ (53, [some (.ref 94), some (.int l1)], [.int 0], (gSh, s2, u)) rfl ?_
    cases hP
    exact hG.2.1 _ _ rfl rfl
  · refine hG.1 _ (48, [some (.ref 94), some (.int l1)], [], (gSh, s2, u)) _ rfl (if_neg hc) ?_
    refine gRunN_ok hG.1 2 _ (53, [some (.ref 94), some (.int l1)], [.int 1], (gSh, s2, u)) rfl ?_
    cases hP
    exact hG.2.1 _ _ rfl rfl
def p_Model_flip (E : gEv) (a0 : Int32) (σ : gS) : Option (Int32 × gS) :=
  if a0 < 0 then (some ((-1), σ)) else (if a0 < (σ.1 94 13) then (if gIn a0 (σ.2.1 154) then if (σ.1 154 a0.toNatClampNeg) = 0 then (p_Model_flip_j33 E a0 a0 1 σ) else (p_Model_flip_j33 E a0 a0 0 σ) else none) else (some ((-1), σ)))
set_option maxRecDepth 20000 in
theorem c_Model_flip (E : gEv) (d u : Nat) (a0 : Int32) (σ : gS) {v : Int32} {sr : gS}  (hq : p_Model_flip E a0 σ = some (v, sr)) : gC E gDf gMs (d + 1) 263 [.ref 94, .int a0] (gSh, σ, u) (some (.int v), (gSh, sr, u)) := ⟨gM263, rfl, Nat.le_of_ble_eq_true rfl, fun G hG => by
  have hP := hq
  unfold p_Model_flip at hP
  replace hG : gClo E gDf gP18 gY263 (some .int) (gC E gDf gMs (d + 0)) (some (.int v), (gSh, sr, u)) G := hG
  show G (0, [some (.ref 94), some (.int a0)], [], (gSh, σ, u))
  refine gRunN_ok hG.1 1 _ (1, [some (.ref 94), some (.int a0)], [.int a0], (gSh, σ, u)) rfl ?_
  rcases g_ite hP with ⟨hc, hP⟩ | ⟨hc, hP⟩
  · refine hG.1 _ (12, [some (.ref 94), some (.int a0)], [], (gSh, σ, u)) _ rfl (if_pos hc) ?_
    refine gRunN_ok hG.1 1 _ (13, [some (.ref 94), some (.int a0)], [.int (-1)], (gSh, σ, u)) rfl ?_
    cases hP
    exact hG.2.1 _ _ rfl rfl
  · refine hG.1 _ (4, [some (.ref 94), some (.int a0)], [], (gSh, σ, u)) _ rfl (if_neg hc) ?_
    refine gRunN_ok hG.1 3 _ (9, [some (.ref 94), some (.int a0)], [.int (σ.1 94 13), .int a0], (gSh, σ, u)) rfl ?_
    rcases g_ite hP with ⟨hc, hP⟩ | ⟨hc, hP⟩
    · refine hG.1 _ (14, [some (.ref 94), some (.int a0)], [], (gSh, σ, u)) _ rfl (if_pos hc) ?_
      refine gRunN_ok hG.1 6 _ (24, [some (.ref 94), some (.int a0)], [.int a0, .ref 154, .int a0, .ref 154], (gSh, σ, u)) rfl ?_
      obtain ⟨hc, hP⟩ := g_if hP
      refine hG.1 _ (25, [some (.ref 94), some (.int a0)], [.int (σ.1 154 a0.toNatClampNeg), .int a0, .ref 154], (gSh, σ, u)) _ rfl (if_pos hc) ?_
      rcases g_ite hP with ⟨hc, hP⟩ | ⟨hc, hP⟩
      · refine hG.1 _ (28, [some (.ref 94), some (.int a0)], [.int a0, .ref 154], (gSh, σ, u)) _ rfl (if_pos hc) ?_
        refine gRunN_ok hG.1 2 _ (33, [some (.ref 94), some (.int a0)], [.int 1, .int a0, .ref 154], (gSh, σ, u)) rfl ?_
        exact j_Model_flip_j33 E d u hG a0 a0 1 σ hP
      · refine hG.1 _ (32, [some (.ref 94), some (.int a0)], [.int a0, .ref 154], (gSh, σ, u)) _ rfl (if_neg hc) ?_
        refine gRunN_ok hG.1 1 _ (33, [some (.ref 94), some (.int a0)], [.int 0, .int a0, .ref 154], (gSh, σ, u)) rfl ?_
        exact j_Model_flip_j33 E d u hG a0 a0 0 σ hP
    · refine hG.1 _ (12, [some (.ref 94), some (.int a0)], [], (gSh, σ, u)) _ rfl (if_neg hc) ?_
      refine gRunN_ok hG.1 1 _ (13, [some (.ref 94), some (.int a0)], [.int (-1)], (gSh, σ, u)) rfl ?_
      cases hP
      exact hG.2.1 _ _ rfl rfl⟩
def p_Model_level (E : gEv) (a0 : Int32) (a1 : Int32) (σ : gS) : Option (Int32 × gS) :=
  if a0 < 0 then (some (0, σ)) else (if a0 < (σ.1 94 6) then (if gIn a0 (σ.2.1 158) then gLet (gPut σ 158 a0.toNatClampNeg (vp_nar .boolean a1)) fun s1 => gLet (gPut s1 94 97 0) fun s2 => some (1, s2) else none) else (some (0, σ)))
set_option maxRecDepth 20000 in
theorem c_Model_level (E : gEv) (d u : Nat) (a0 : Int32) (a1 : Int32) (σ : gS) {v : Int32} {sr : gS}  (hq : p_Model_level E a0 a1 σ = some (v, sr)) : gC E gDf gMs (d + 1) 264 [.ref 94, .int a0, .int a1] (gSh, σ, u) (some (.int v), (gSh, sr, u)) := ⟨gM264, rfl, Nat.le_of_ble_eq_true rfl, fun G hG => by
  have hP := hq
  unfold p_Model_level at hP
  replace hG : gClo E gDf gP18 gY264 (some .boolean) (gC E gDf gMs (d + 0)) (some (.int v), (gSh, sr, u)) G := hG
  show G (0, [some (.ref 94), some (.int a0), some (.int a1)], [], (gSh, σ, u))
  refine gRunN_ok hG.1 1 _ (1, [some (.ref 94), some (.int a0), some (.int a1)], [.int a0], (gSh, σ, u)) rfl ?_
  rcases g_ite hP with ⟨hc, hP⟩ | ⟨hc, hP⟩
  · refine hG.1 _ (12, [some (.ref 94), some (.int a0), some (.int a1)], [], (gSh, σ, u)) _ rfl (if_pos hc) ?_
    refine gRunN_ok hG.1 1 _ (13, [some (.ref 94), some (.int a0), some (.int a1)], [.int 0], (gSh, σ, u)) rfl ?_
    cases hP
    exact hG.2.1 _ _ rfl rfl
  · refine hG.1 _ (4, [some (.ref 94), some (.int a0), some (.int a1)], [], (gSh, σ, u)) _ rfl (if_neg hc) ?_
    refine gRunN_ok hG.1 3 _ (9, [some (.ref 94), some (.int a0), some (.int a1)], [.int (σ.1 94 6), .int a0], (gSh, σ, u)) rfl ?_
    rcases g_ite hP with ⟨hc, hP⟩ | ⟨hc, hP⟩
    · refine hG.1 _ (14, [some (.ref 94), some (.int a0), some (.int a1)], [], (gSh, σ, u)) _ rfl (if_pos hc) ?_
      refine gRunN_ok hG.1 4 _ (20, [some (.ref 94), some (.int a0), some (.int a1)], [.int a1, .int a0, .ref 158], (gSh, σ, u)) rfl ?_
      obtain ⟨hc, hP⟩ := g_if hP
      refine hG.1 _ (21, [some (.ref 94), some (.int a0), some (.int a1)], [], (gSh, (gPut σ 158 a0.toNatClampNeg (vp_nar .boolean a1)), u)) _ rfl (if_pos hc) ?_
      obtain ⟨s1, es1, hP⟩ := g_let hP
      rw [← es1]
      refine gRunN_ok hG.1 3 _ (26, [some (.ref 94), some (.int a0), some (.int a1)], [], (gSh, (gPut s1 94 97 0), u)) rfl ?_
      obtain ⟨s2, es2, hP⟩ := g_let hP
      rw [← es2]
      refine gRunN_ok hG.1 1 _ (27, [some (.ref 94), some (.int a0), some (.int a1)], [.int 1], (gSh, s2, u)) rfl ?_
      cases hP
      exact hG.2.1 _ _ rfl rfl
    · refine hG.1 _ (12, [some (.ref 94), some (.int a0), some (.int a1)], [], (gSh, σ, u)) _ rfl (if_neg hc) ?_
      refine gRunN_ok hG.1 1 _ (13, [some (.ref 94), some (.int a0), some (.int a1)], [.int 0], (gSh, σ, u)) rfl ?_
      cases hP
      exact hG.2.1 _ _ rfl rfl⟩
def p_Model_outNow (E : gEv) (a0 : Int32) (σ : gS) : Option (Int32) :=
  if gIn ((a0 * (σ.1 94 9)) + (16 : Int32)) (σ.2.1 154) then if (σ.1 154 ((a0 * (σ.1 94 9)) + (16 : Int32)).toNatClampNeg) = 0 then (if gIn a0 (σ.2.1 156) then if (σ.1 156 a0.toNatClampNeg) = 0 ∨ (σ.1 156 a0.toNatClampNeg) = 1 then some (σ.1 156 a0.toNatClampNeg) else none else none) else (if gIn a0 (σ.2.1 155) then if (σ.1 155 a0.toNatClampNeg) = 0 ∨ (σ.1 155 a0.toNatClampNeg) = 1 then some (σ.1 155 a0.toNatClampNeg) else none else none) else none
set_option maxRecDepth 20000 in
theorem c_Model_outNow (E : gEv) (d u : Nat) (a0 : Int32) (σ : gS) {v : Int32}  (hq : p_Model_outNow E a0 σ = some v) : gC E gDf gMs (d + 1) 268 [.ref 94, .int a0] (gSh, σ, u) (some (.int v), (gSh, σ, u)) := ⟨gM268, rfl, Nat.le_of_ble_eq_true rfl, fun G hG => by
  have hP := hq
  unfold p_Model_outNow at hP
  replace hG : gClo E gDf gP18 gY268 (some .boolean) (gC E gDf gMs (d + 0)) (some (.int v), (gSh, σ, u)) G := hG
  show G (0, [some (.ref 94), some (.int a0)], [], (gSh, σ, u))
  refine gRunN_ok hG.1 8 _ (13, [some (.ref 94), some (.int a0)], [.int ((a0 * (σ.1 94 9)) + (16 : Int32)), .ref 154], (gSh, σ, u)) rfl ?_
  obtain ⟨hc, hP⟩ := g_if hP
  refine hG.1 _ (14, [some (.ref 94), some (.int a0)], [.int (σ.1 154 ((a0 * (σ.1 94 9)) + (16 : Int32)).toNatClampNeg)], (gSh, σ, u)) _ rfl (if_pos hc) ?_
  rcases g_ite hP with ⟨hc, hP⟩ | ⟨hc, hP⟩
  · refine hG.1 _ (26, [some (.ref 94), some (.int a0)], [], (gSh, σ, u)) _ rfl (if_pos hc) ?_
    refine gRunN_ok hG.1 3 _ (31, [some (.ref 94), some (.int a0)], [.int a0, .ref 156], (gSh, σ, u)) rfl ?_
    obtain ⟨hc, hP⟩ := g_if hP
    refine hG.1 _ (32, [some (.ref 94), some (.int a0)], [.int (σ.1 156 a0.toNatClampNeg)], (gSh, σ, u)) _ rfl (if_pos hc) ?_
    obtain ⟨hc, hP⟩ := g_if hP
    cases hP
    exact hG.2.1 _ _ rfl (if_pos hc)
  · refine hG.1 _ (17, [some (.ref 94), some (.int a0)], [], (gSh, σ, u)) _ rfl (if_neg hc) ?_
    refine gRunN_ok hG.1 3 _ (22, [some (.ref 94), some (.int a0)], [.int a0, .ref 155], (gSh, σ, u)) rfl ?_
    obtain ⟨hc, hP⟩ := g_if hP
    refine hG.1 _ (23, [some (.ref 94), some (.int a0)], [.int (σ.1 155 a0.toNatClampNeg)], (gSh, σ, u)) _ rfl (if_pos hc) ?_
    refine gRunN_ok hG.1 1 _ (32, [some (.ref 94), some (.int a0)], [.int (σ.1 155 a0.toNatClampNeg)], (gSh, σ, u)) rfl ?_
    obtain ⟨hc, hP⟩ := g_if hP
    cases hP
    exact hG.2.1 _ _ rfl (if_pos hc)⟩
def p_Model_bitsAt_5 (E : gEv) (l1 : Int32) (l2 : Int32) (l3 : Int32) (l4 : Int32) (σ : gS) : Option ((Int32 × Int32) ⊕ (Int32)) :=
  if l2 ≤ l4 then (some (.inr l3)) else (if gIn (l1 + l4) (σ.2.1 154) then if (σ.1 154 (l1 + l4).toNatClampNeg) = 0 then (gLet (l3 ||| (0 : Int32)) fun x1 => gLet (l4 + 1) fun x2 => some (.inl (x1, x2))) else (gLet (l3 ||| ((1 : Int32) <<< (l4 &&& 31))) fun x3 => gLet (l4 + 1) fun x4 => some (.inl (x3, x4))) else none)
set_option maxRecDepth 20000 in
theorem b_Model_bitsAt_5 (E : gEv) (d u : Nat) {G : gFr → Prop} {vo : Option Value} {sr : gS} (hG : gClo E gDf gP18 gY269 (some .int) (gC E gDf gMs (d + 0)) (vo, (gSh, sr, u)) G) (l1 : Int32) (l2 : Int32) (l3 : Int32) (l4 : Int32) (σ : gS) {r : (Int32 × Int32) ⊕ (Int32)} (hP : p_Model_bitsAt_5 E l1 l2 l3 l4 σ = some r) (K1 : ∀ (m3 : Int32) (m4 : Int32), r = .inl (m3, m4) → G (5, [some (.ref 94), some (.int l1), some (.int l2), some (.int m3), some (.int m4)], [], (gSh, σ, u))) (K2 : ∀ (m3 : Int32), r = .inr m3 → G (40, [none, none, none, some (.int m3), none], [], (gSh, σ, u))) : G (5, [some (.ref 94), some (.int l1), some (.int l2), some (.int l3), some (.int l4)], [], (gSh, σ, u)) := by
  unfold p_Model_bitsAt_5 at hP
  refine gRunN_ok hG.1 2 _ (8, [some (.ref 94), some (.int l1), some (.int l2), some (.int l3), some (.int l4)], [.int l2, .int l4], (gSh, σ, u)) rfl ?_
  rcases g_ite hP with ⟨hc, hP⟩ | ⟨hc, hP⟩
  · refine hG.1 _ (40, [some (.ref 94), some (.int l1), some (.int l2), some (.int l3), some (.int l4)], [], (gSh, σ, u)) _ rfl (if_pos hc) ?_
    refine hG.2.2.2.2.1 _ _ [none, none, none, some (.int l3), none] _ _ ⟨rfl, trivial⟩ ?_
    cases hP
    exact K2 _ rfl
  · refine hG.1 _ (11, [some (.ref 94), some (.int l1), some (.int l2), some (.int l3), some (.int l4)], [], (gSh, σ, u)) _ rfl (if_neg hc) ?_
    refine gRunN_ok hG.1 6 _ (20, [some (.ref 94), some (.int l1), some (.int l2), some (.int l3), some (.int l4)], [.int (l1 + l4), .ref 154, .int l3], (gSh, σ, u)) rfl ?_
    obtain ⟨hc, hP⟩ := g_if hP
    refine hG.1 _ (21, [some (.ref 94), some (.int l1), some (.int l2), some (.int l3), some (.int l4)], [.int (σ.1 154 (l1 + l4).toNatClampNeg), .int l3], (gSh, σ, u)) _ rfl (if_pos hc) ?_
    rcases g_ite hP with ⟨hc, hP⟩ | ⟨hc, hP⟩
    · refine hG.1 _ (31, [some (.ref 94), some (.int l1), some (.int l2), some (.int l3), some (.int l4)], [.int l3], (gSh, σ, u)) _ rfl (if_pos hc) ?_
      refine gRunN_ok hG.1 3 _ (34, [some (.ref 94), some (.int l1), some (.int l2), some (.int (l3 ||| (0 : Int32))), some (.int l4)], [], (gSh, σ, u)) rfl ?_
      obtain ⟨x1, ex1, hP⟩ := g_let hP
      rw [← ex1]
      refine gRunN_ok hG.1 1 _ (37, [some (.ref 94), some (.int l1), some (.int l2), some (.int x1), some (.int (l4 + 1))], [], (gSh, σ, u)) rfl ?_
      obtain ⟨x2, ex2, hP⟩ := g_let hP
      rw [← ex2]
      refine gRunN_ok hG.1 1 _ (5, [some (.ref 94), some (.int l1), some (.int l2), some (.int x1), some (.int x2)], [], (gSh, σ, u)) rfl ?_
      cases hP
      exact K1 _ _ rfl
    · refine hG.1 _ (24, [some (.ref 94), some (.int l1), some (.int l2), some (.int l3), some (.int l4)], [.int l3], (gSh, σ, u)) _ rfl (if_neg hc) ?_
      refine gRunN_ok hG.1 6 _ (34, [some (.ref 94), some (.int l1), some (.int l2), some (.int (l3 ||| ((1 : Int32) <<< (l4 &&& 31)))), some (.int l4)], [], (gSh, σ, u)) rfl ?_
      obtain ⟨x3, ex3, hP⟩ := g_let hP
      rw [← ex3]
      refine gRunN_ok hG.1 1 _ (37, [some (.ref 94), some (.int l1), some (.int l2), some (.int x3), some (.int (l4 + 1))], [], (gSh, σ, u)) rfl ?_
      obtain ⟨x4, ex4, hP⟩ := g_let hP
      rw [← ex4]
      refine gRunN_ok hG.1 1 _ (5, [some (.ref 94), some (.int l1), some (.int l2), some (.int x3), some (.int x4)], [], (gSh, σ, u)) rfl ?_
      cases hP
      exact K1 _ _ rfl
theorem l_Model_bitsAt_5 (E : gEv) (d u : Nat) {G : gFr → Prop} {vo : Option Value} {sr : gS} (hG : gClo E gDf gP18 gY269 (some .int) (gC E gDf gMs (d + 0)) (vo, (gSh, sr, u)) G) (l1 : Int32) (l2 : Int32) (σ : gS) : ∀ (n : Nat) (l3 : Int32) (l4 : Int32) (e : (Int32)), gIter (fun z => p_Model_bitsAt_5 E l1 l2 z.1 z.2 σ) n (l3, l4) = some e → (∀ (m3 : Int32), e = m3 → G (40, [none, none, none, some (.int m3), none], [], (gSh, σ, u))) → G (5, [some (.ref 94), some (.int l1), some (.int l2), some (.int l3), some (.int l4)], [], (gSh, σ, u)) := by
  intro n
  induction n with
  | zero => intro l3 l4 e h; cases h
  | succ n ih =>
    intro l3 l4 e h K2
    rcases g_iter h with ⟨z, h1, h2⟩ | h1
    · exact b_Model_bitsAt_5 E d u hG l1 l2 l3 l4 σ h1 (fun n0 n1 hz => by cases hz; exact ih _ _ e h2 K2) (fun _ hz => by cases hz)
    · exact b_Model_bitsAt_5 E d u hG l1 l2 l3 l4 σ h1 (fun _ _ hz => by cases hz) (fun m3 hz => K2 m3 (by cases hz; rfl))
def p_Model_bitsAt (E : gEv) (a0 : Int32) (a1 : Int32) (σ : gS) : Option (Int32) :=
  gB1 (gIter (fun z => p_Model_bitsAt_5 E a0 a1 z.1 z.2 σ) gN (0, 0)) fun e5 => (fun w6 => some w6) e5
set_option maxRecDepth 20000 in
theorem c_Model_bitsAt (E : gEv) (d u : Nat) (a0 : Int32) (a1 : Int32) (σ : gS) {v : Int32}  (hq : p_Model_bitsAt E a0 a1 σ = some v) : gC E gDf gMs (d + 1) 269 [.ref 94, .int a0, .int a1] (gSh, σ, u) (some (.int v), (gSh, σ, u)) := ⟨gM269, rfl, Nat.le_of_ble_eq_true rfl, fun G hG => by
  have hP := hq
  unfold p_Model_bitsAt at hP
  replace hG : gClo E gDf gP18 gY269 (some .int) (gC E gDf gMs (d + 0)) (some (.int v), (gSh, σ, u)) G := hG
  show G (0, [some (.ref 94), some (.int a0), some (.int a1), none, none], [], (gSh, σ, u))
  refine gRunN_ok hG.1 4 _ (5, [some (.ref 94), some (.int a0), some (.int a1), some (.int 0), some (.int 0)], [], (gSh, σ, u)) rfl ?_
  obtain ⟨e5, hq, hP⟩ := g_b1 hP
  refine l_Model_bitsAt_5 E d u hG a0 a1 σ gN 0 0 _ hq (fun w6 he => ?_)
  · replace he := he.symm
    subst he
    try dsimp only [gSum] at hP
    refine gRunN_ok hG.1 1 _ (41, [none, none, none, some (.int w6), none], [.int w6], (gSh, σ, u)) rfl ?_
    cases hP
    exact hG.2.1 _ _ rfl rfl⟩
def p_Model_drive (E : gEv) (a0 : Int32) (a1 : Int32) (σ : gS) : Option (Int32 × gS) :=
  if (σ.1 94 106) = 0 then (some (0, σ)) else (if a0 < 0 then (some (0, σ)) else (if a0 < (σ.1 94 29) then (if gIn a0 (σ.2.1 160) then gLet (gPut σ 160 a0.toNatClampNeg (vp_nar .boolean a1)) fun s1 => some (1, s1) else none) else (some (0, σ))))
set_option maxRecDepth 20000 in
theorem c_Model_drive (E : gEv) (d u : Nat) (a0 : Int32) (a1 : Int32) (σ : gS) {v : Int32} {sr : gS}  (hq : p_Model_drive E a0 a1 σ = some (v, sr)) : gC E gDf gMs (d + 1) 272 [.ref 94, .int a0, .int a1] (gSh, σ, u) (some (.int v), (gSh, sr, u)) := ⟨gM272, rfl, Nat.le_of_ble_eq_true rfl, fun G hG => by
  have hP := hq
  unfold p_Model_drive at hP
  replace hG : gClo E gDf gP18 gY272 (some .boolean) (gC E gDf gMs (d + 0)) (some (.int v), (gSh, sr, u)) G := hG
  show G (0, [some (.ref 94), some (.int a0), some (.int a1)], [], (gSh, σ, u))
  refine gRunN_ok hG.1 2 _ (4, [some (.ref 94), some (.int a0), some (.int a1)], [.int (σ.1 94 106)], (gSh, σ, u)) rfl ?_
  rcases g_ite hP with ⟨hc, hP⟩ | ⟨hc, hP⟩
  · refine hG.1 _ (19, [some (.ref 94), some (.int a0), some (.int a1)], [], (gSh, σ, u)) _ rfl (if_pos hc) ?_
    refine gRunN_ok hG.1 1 _ (20, [some (.ref 94), some (.int a0), some (.int a1)], [.int 0], (gSh, σ, u)) rfl ?_
    cases hP
    exact hG.2.1 _ _ rfl rfl
  · refine hG.1 _ (7, [some (.ref 94), some (.int a0), some (.int a1)], [], (gSh, σ, u)) _ rfl (if_neg hc) ?_
    refine gRunN_ok hG.1 1 _ (8, [some (.ref 94), some (.int a0), some (.int a1)], [.int a0], (gSh, σ, u)) rfl ?_
    rcases g_ite hP with ⟨hc, hP⟩ | ⟨hc, hP⟩
    · refine hG.1 _ (19, [some (.ref 94), some (.int a0), some (.int a1)], [], (gSh, σ, u)) _ rfl (if_pos hc) ?_
      refine gRunN_ok hG.1 1 _ (20, [some (.ref 94), some (.int a0), some (.int a1)], [.int 0], (gSh, σ, u)) rfl ?_
      cases hP
      exact hG.2.1 _ _ rfl rfl
    · refine hG.1 _ (11, [some (.ref 94), some (.int a0), some (.int a1)], [], (gSh, σ, u)) _ rfl (if_neg hc) ?_
      refine gRunN_ok hG.1 3 _ (16, [some (.ref 94), some (.int a0), some (.int a1)], [.int (σ.1 94 29), .int a0], (gSh, σ, u)) rfl ?_
      rcases g_ite hP with ⟨hc, hP⟩ | ⟨hc, hP⟩
      · refine hG.1 _ (21, [some (.ref 94), some (.int a0), some (.int a1)], [], (gSh, σ, u)) _ rfl (if_pos hc) ?_
        refine gRunN_ok hG.1 4 _ (27, [some (.ref 94), some (.int a0), some (.int a1)], [.int a1, .int a0, .ref 160], (gSh, σ, u)) rfl ?_
        obtain ⟨hc, hP⟩ := g_if hP
        refine hG.1 _ (28, [some (.ref 94), some (.int a0), some (.int a1)], [], (gSh, (gPut σ 160 a0.toNatClampNeg (vp_nar .boolean a1)), u)) _ rfl (if_pos hc) ?_
        obtain ⟨s1, es1, hP⟩ := g_let hP
        rw [← es1]
        refine gRunN_ok hG.1 1 _ (29, [some (.ref 94), some (.int a0), some (.int a1)], [.int 1], (gSh, s1, u)) rfl ?_
        cases hP
        exact hG.2.1 _ _ rfl rfl
      · refine hG.1 _ (19, [some (.ref 94), some (.int a0), some (.int a1)], [], (gSh, σ, u)) _ rfl (if_neg hc) ?_
        refine gRunN_ok hG.1 1 _ (20, [some (.ref 94), some (.int a0), some (.int a1)], [.int 0], (gSh, σ, u)) rfl ?_
        cases hP
        exact hG.2.1 _ _ rfl rfl⟩
def p_Model_levelOf (E : gEv) (a0 : Int32) (σ : gS) : Option (Int32) :=
  if gIn a0 (σ.2.1 101) then if (σ.1 101 a0.toNatClampNeg) = (1 : Int32) then (if gIn a0 (σ.2.1 102) then if gIn (σ.1 102 a0.toNatClampNeg) (σ.2.1 160) then if (σ.1 160 (σ.1 102 a0.toNatClampNeg).toNatClampNeg) = 0 ∨ (σ.1 160 (σ.1 102 a0.toNatClampNeg).toNatClampNeg) = 1 then some (σ.1 160 (σ.1 102 a0.toNatClampNeg).toNatClampNeg) else none else none else none) else (if gIn a0 (σ.2.1 101) then if (σ.1 101 a0.toNatClampNeg) = (2 : Int32) then (if gIn a0 (σ.2.1 102) then if gIn (σ.1 102 a0.toNatClampNeg) (σ.2.1 161) then if (σ.1 161 (σ.1 102 a0.toNatClampNeg).toNatClampNeg) = 0 ∨ (σ.1 161 (σ.1 102 a0.toNatClampNeg).toNatClampNeg) = 1 then some (σ.1 161 (σ.1 102 a0.toNatClampNeg).toNatClampNeg) else none else none else none) else (if gIn a0 (σ.2.1 102) then if gIn (σ.1 102 a0.toNatClampNeg) (σ.2.1 163) then if (σ.1 163 (σ.1 102 a0.toNatClampNeg).toNatClampNeg) = 0 ∨ (σ.1 163 (σ.1 102 a0.toNatClampNeg).toNatClampNeg) = 1 then some (σ.1 163 (σ.1 102 a0.toNatClampNeg).toNatClampNeg) else none else none else none) else none) else none
set_option maxRecDepth 20000 in
theorem c_Model_levelOf (E : gEv) (d u : Nat) (a0 : Int32) (σ : gS) {v : Int32}  (hq : p_Model_levelOf E a0 σ = some v) : gC E gDf gMs (d + 1) 275 [.ref 94, .int a0] (gSh, σ, u) (some (.int v), (gSh, σ, u)) := ⟨gM275, rfl, Nat.le_of_ble_eq_true rfl, fun G hG => by
  have hP := hq
  unfold p_Model_levelOf at hP
  replace hG : gClo E gDf gP18 gY275 (some .boolean) (gC E gDf gMs (d + 0)) (some (.int v), (gSh, σ, u)) G := hG
  show G (0, [some (.ref 94), some (.int a0)], [], (gSh, σ, u))
  refine gRunN_ok hG.1 3 _ (5, [some (.ref 94), some (.int a0)], [.int a0, .ref 101], (gSh, σ, u)) rfl ?_
  obtain ⟨hc, hP⟩ := g_if hP
  refine hG.1 _ (6, [some (.ref 94), some (.int a0)], [.int (σ.1 101 a0.toNatClampNeg)], (gSh, σ, u)) _ rfl (if_pos hc) ?_
  refine gRunN_ok hG.1 1 _ (7, [some (.ref 94), some (.int a0)], [.int 1, .int (σ.1 101 a0.toNatClampNeg)], (gSh, σ, u)) rfl ?_
  rcases g_ite hP with ⟨hc, hP⟩ | ⟨hc, hP⟩
  · refine hG.1 _ (10, [some (.ref 94), some (.int a0)], [], (gSh, σ, u)) _ rfl (if_pos hc) ?_
    refine gRunN_ok hG.1 5 _ (19, [some (.ref 94), some (.int a0)], [.int a0, .ref 102, .ref 160], (gSh, σ, u)) rfl ?_
    obtain ⟨hc, hP⟩ := g_if hP
    refine hG.1 _ (20, [some (.ref 94), some (.int a0)], [.int (σ.1 102 a0.toNatClampNeg), .ref 160], (gSh, σ, u)) _ rfl (if_pos hc) ?_
    obtain ⟨hc, hP⟩ := g_if hP
    refine hG.1 _ (21, [some (.ref 94), some (.int a0)], [.int (σ.1 160 (σ.1 102 a0.toNatClampNeg).toNatClampNeg)], (gSh, σ, u)) _ rfl (if_pos hc) ?_
    refine gRunN_ok hG.1 1 _ (59, [some (.ref 94), some (.int a0)], [.int (σ.1 160 (σ.1 102 a0.toNatClampNeg).toNatClampNeg)], (gSh, σ, u)) rfl ?_
    obtain ⟨hc, hP⟩ := g_if hP
    cases hP
    exact hG.2.1 _ _ rfl (if_pos hc)
  · refine hG.1 _ (24, [some (.ref 94), some (.int a0)], [], (gSh, σ, u)) _ rfl (if_neg hc) ?_
    refine gRunN_ok hG.1 3 _ (29, [some (.ref 94), some (.int a0)], [.int a0, .ref 101], (gSh, σ, u)) rfl ?_
    obtain ⟨hc, hP⟩ := g_if hP
    refine hG.1 _ (30, [some (.ref 94), some (.int a0)], [.int (σ.1 101 a0.toNatClampNeg)], (gSh, σ, u)) _ rfl (if_pos hc) ?_
    refine gRunN_ok hG.1 1 _ (31, [some (.ref 94), some (.int a0)], [.int 2, .int (σ.1 101 a0.toNatClampNeg)], (gSh, σ, u)) rfl ?_
    rcases g_ite hP with ⟨hc, hP⟩ | ⟨hc, hP⟩
    · refine hG.1 _ (34, [some (.ref 94), some (.int a0)], [], (gSh, σ, u)) _ rfl (if_pos hc) ?_
      refine gRunN_ok hG.1 5 _ (43, [some (.ref 94), some (.int a0)], [.int a0, .ref 102, .ref 161], (gSh, σ, u)) rfl ?_
      obtain ⟨hc, hP⟩ := g_if hP
      refine hG.1 _ (44, [some (.ref 94), some (.int a0)], [.int (σ.1 102 a0.toNatClampNeg), .ref 161], (gSh, σ, u)) _ rfl (if_pos hc) ?_
      obtain ⟨hc, hP⟩ := g_if hP
      refine hG.1 _ (45, [some (.ref 94), some (.int a0)], [.int (σ.1 161 (σ.1 102 a0.toNatClampNeg).toNatClampNeg)], (gSh, σ, u)) _ rfl (if_pos hc) ?_
      refine gRunN_ok hG.1 1 _ (59, [some (.ref 94), some (.int a0)], [.int (σ.1 161 (σ.1 102 a0.toNatClampNeg).toNatClampNeg)], (gSh, σ, u)) rfl ?_
      obtain ⟨hc, hP⟩ := g_if hP
      cases hP
      exact hG.2.1 _ _ rfl (if_pos hc)
    · refine hG.1 _ (48, [some (.ref 94), some (.int a0)], [], (gSh, σ, u)) _ rfl (if_neg hc) ?_
      refine gRunN_ok hG.1 5 _ (57, [some (.ref 94), some (.int a0)], [.int a0, .ref 102, .ref 163], (gSh, σ, u)) rfl ?_
      obtain ⟨hc, hP⟩ := g_if hP
      refine hG.1 _ (58, [some (.ref 94), some (.int a0)], [.int (σ.1 102 a0.toNatClampNeg), .ref 163], (gSh, σ, u)) _ rfl (if_pos hc) ?_
      obtain ⟨hc, hP⟩ := g_if hP
      refine hG.1 _ (59, [some (.ref 94), some (.int a0)], [.int (σ.1 163 (σ.1 102 a0.toNatClampNeg).toNatClampNeg)], (gSh, σ, u)) _ rfl (if_pos hc) ?_
      obtain ⟨hc, hP⟩ := g_if hP
      cases hP
      exact hG.2.1 _ _ rfl (if_pos hc)⟩
def p_Model_sourceLevel (E : gEv) (a0 : Int32) (σ : gS) : Option (Int32) :=
  if a0 = ((-1) : Int32) then (some 0) else (if (200 : Int32) ≤ a0 then (if (400 : Int32) ≤ a0 then (if gIn (a0 - (400 : Int32)) (σ.2.1 164) then if (σ.1 164 (a0 - (400 : Int32)).toNatClampNeg) = 0 ∨ (σ.1 164 (a0 - (400 : Int32)).toNatClampNeg) = 1 then some (σ.1 164 (a0 - (400 : Int32)).toNatClampNeg) else none else none) else (if gIn (a0 - (200 : Int32)) (σ.2.1 161) then if (σ.1 161 (a0 - (200 : Int32)).toNatClampNeg) = 0 ∨ (σ.1 161 (a0 - (200 : Int32)).toNatClampNeg) = 1 then some (σ.1 161 (a0 - (200 : Int32)).toNatClampNeg) else none else none)) else (if gIn a0 (σ.2.1 160) then if (σ.1 160 a0.toNatClampNeg) = 0 ∨ (σ.1 160 a0.toNatClampNeg) = 1 then some (σ.1 160 a0.toNatClampNeg) else none else none))
set_option maxRecDepth 20000 in
theorem c_Model_sourceLevel (E : gEv) (d u : Nat) (a0 : Int32) (σ : gS) {v : Int32}  (hq : p_Model_sourceLevel E a0 σ = some v) : gC E gDf gMs (d + 1) 277 [.ref 94, .int a0] (gSh, σ, u) (some (.int v), (gSh, σ, u)) := ⟨gM277, rfl, Nat.le_of_ble_eq_true rfl, fun G hG => by
  have hP := hq
  unfold p_Model_sourceLevel at hP
  replace hG : gClo E gDf gP18 gY277 (some .boolean) (gC E gDf gMs (d + 0)) (some (.int v), (gSh, σ, u)) G := hG
  show G (0, [some (.ref 94), some (.int a0)], [], (gSh, σ, u))
  refine gRunN_ok hG.1 2 _ (2, [some (.ref 94), some (.int a0)], [.int (-1), .int a0], (gSh, σ, u)) rfl ?_
  rcases g_ite hP with ⟨hc, hP⟩ | ⟨hc, hP⟩
  · refine hG.1 _ (5, [some (.ref 94), some (.int a0)], [], (gSh, σ, u)) _ rfl (if_pos hc) ?_
    refine gRunN_ok hG.1 2 _ (55, [some (.ref 94), some (.int a0)], [.int 0], (gSh, σ, u)) rfl ?_
    cases hP
    exact hG.2.1 _ _ rfl rfl
  · refine hG.1 _ (9, [some (.ref 94), some (.int a0)], [], (gSh, σ, u)) _ rfl (if_neg hc) ?_
    refine gRunN_ok hG.1 2 _ (13, [some (.ref 94), some (.int a0)], [.int 200, .int a0], (gSh, σ, u)) rfl ?_
    rcases g_ite hP with ⟨hc, hP⟩ | ⟨hc, hP⟩
    · refine hG.1 _ (25, [some (.ref 94), some (.int a0)], [], (gSh, σ, u)) _ rfl (if_pos hc) ?_
      refine gRunN_ok hG.1 2 _ (29, [some (.ref 94), some (.int a0)], [.int 400, .int a0], (gSh, σ, u)) rfl ?_
      rcases g_ite hP with ⟨hc, hP⟩ | ⟨hc, hP⟩
      · refine hG.1 _ (45, [some (.ref 94), some (.int a0)], [], (gSh, σ, u)) _ rfl (if_pos hc) ?_
        refine gRunN_ok hG.1 5 _ (54, [some (.ref 94), some (.int a0)], [.int (a0 - (400 : Int32)), .ref 164], (gSh, σ, u)) rfl ?_
        obtain ⟨hc, hP⟩ := g_if hP
        refine hG.1 _ (55, [some (.ref 94), some (.int a0)], [.int (σ.1 164 (a0 - (400 : Int32)).toNatClampNeg)], (gSh, σ, u)) _ rfl (if_pos hc) ?_
        obtain ⟨hc, hP⟩ := g_if hP
        cases hP
        exact hG.2.1 _ _ rfl (if_pos hc)
      · refine hG.1 _ (32, [some (.ref 94), some (.int a0)], [], (gSh, σ, u)) _ rfl (if_neg hc) ?_
        refine gRunN_ok hG.1 5 _ (41, [some (.ref 94), some (.int a0)], [.int (a0 - (200 : Int32)), .ref 161], (gSh, σ, u)) rfl ?_
        obtain ⟨hc, hP⟩ := g_if hP
        refine hG.1 _ (42, [some (.ref 94), some (.int a0)], [.int (σ.1 161 (a0 - (200 : Int32)).toNatClampNeg)], (gSh, σ, u)) _ rfl (if_pos hc) ?_
        refine gRunN_ok hG.1 1 _ (55, [some (.ref 94), some (.int a0)], [.int (σ.1 161 (a0 - (200 : Int32)).toNatClampNeg)], (gSh, σ, u)) rfl ?_
        obtain ⟨hc, hP⟩ := g_if hP
        cases hP
        exact hG.2.1 _ _ rfl (if_pos hc)
    · refine hG.1 _ (16, [some (.ref 94), some (.int a0)], [], (gSh, σ, u)) _ rfl (if_neg hc) ?_
      refine gRunN_ok hG.1 3 _ (21, [some (.ref 94), some (.int a0)], [.int a0, .ref 160], (gSh, σ, u)) rfl ?_
      obtain ⟨hc, hP⟩ := g_if hP
      refine hG.1 _ (22, [some (.ref 94), some (.int a0)], [.int (σ.1 160 a0.toNatClampNeg)], (gSh, σ, u)) _ rfl (if_pos hc) ?_
      refine gRunN_ok hG.1 1 _ (55, [some (.ref 94), some (.int a0)], [.int (σ.1 160 a0.toNatClampNeg)], (gSh, σ, u)) rfl ?_
      obtain ⟨hc, hP⟩ := g_if hP
      cases hP
      exact hG.2.1 _ _ rfl (if_pos hc)⟩
def p_Grid_setTiles_12 (E : gEv) (l1 : Int32) (l2 : Int32) (σ : gS) : Option ((Int32 × gS) ⊕ (gS)) :=
  if (σ.1 1 0) ≤ l2 then (some (.inr σ)) else (gLet ((l1 * (σ.1 1 0)) + l2) fun x1 => if gIn x1 (σ.2.1 2) then gLet (gPut σ 2 x1.toNatClampNeg (l2 + (1 : Int32))) fun s2 => if gIn x1 (s2.2.1 3) then gLet (gPut s2 3 x1.toNatClampNeg (l1 + (1 : Int32))) fun s3 => gB1 (p_Grid_across E l2 l1 s3) fun v4 => if gIn (x1 * (4 : Int32)) (s3.2.1 4) then gLet (gPut s3 4 (x1 * (4 : Int32)).toNatClampNeg v4) fun s6 => gB1 (p_Grid_across E l2 (l1 + (1 : Int32)) s6) fun v7 => if gIn ((x1 * (4 : Int32)) + (1 : Int32)) (s6.2.1 4) then gLet (gPut s6 4 ((x1 * (4 : Int32)) + (1 : Int32)).toNatClampNeg v7) fun s9 => gB1 (p_Grid_upright E l2 l1 s9) fun v10 => if gIn ((x1 * (4 : Int32)) + (2 : Int32)) (s9.2.1 4) then gLet (gPut s9 4 ((x1 * (4 : Int32)) + (2 : Int32)).toNatClampNeg v10) fun s12 => gB1 (p_Grid_upright E (l2 + (1 : Int32)) l1 s12) fun v13 => if gIn ((x1 * (4 : Int32)) + (3 : Int32)) (s12.2.1 4) then gLet (gPut s12 4 ((x1 * (4 : Int32)) + (3 : Int32)).toNatClampNeg v13) fun s15 => gLet (l2 + 1) fun x16 => some (.inl (x16, s15)) else none else none else none else none else none else none)
set_option maxRecDepth 20000 in
theorem b_Grid_setTiles_12 (E : gEv) (d u : Nat) {G : gFr → Prop} {vo : Option Value} {sr : gS} (hG : gClo E gDf gP1 gY4 none (gC E gDf gMs (d + 1)) (vo, (gShG, sr, u)) G) (l1 : Int32) (l2 : Int32) (σ : gS) {r : (Int32 × gS) ⊕ (gS)} (hP : p_Grid_setTiles_12 E l1 l2 σ = some r) (K1 : ∀ (m2 : Int32) (σ1 : gS), r = .inl (m2, σ1) → G (12, [some (.ref 1), some (.int l1), some (.int m2), none], [], (gShG, σ1, u))) (K2 : ∀ (σ1 : gS), r = .inr σ1 → G (119, [some (.ref 1), some (.int l1), none, none], [], (gShG, σ1, u))) : G (12, [some (.ref 1), some (.int l1), some (.int l2), none], [], (gShG, σ, u)) := by
  unfold p_Grid_setTiles_12 at hP
  refine gRunN_ok hG.1 3 _ (17, [some (.ref 1), some (.int l1), some (.int l2), none], [.int (σ.1 1 0), .int l2], (gShG, σ, u)) rfl ?_
  rcases g_ite hP with ⟨hc, hP⟩ | ⟨hc, hP⟩
  · refine hG.1 _ (119, [some (.ref 1), some (.int l1), some (.int l2), none], [], (gShG, σ, u)) _ rfl (if_pos hc) ?_
    refine hG.2.2.2.2.1 _ _ [some (.ref 1), some (.int l1), none, none] _ _ ⟨rfl, ⟨rfl, trivial⟩⟩ ?_
    cases hP
    exact K2 _ rfl
  · refine hG.1 _ (20, [some (.ref 1), some (.int l1), some (.int l2), none], [], (gShG, σ, u)) _ rfl (if_neg hc) ?_
    refine gRunN_ok hG.1 7 _ (29, [some (.ref 1), some (.int l1), some (.int l2), some (.int ((l1 * (σ.1 1 0)) + l2))], [], (gShG, σ, u)) rfl ?_
    obtain ⟨x1, ex1, hP⟩ := g_let hP
    rw [← ex1]
    refine gRunN_ok hG.1 6 _ (37, [some (.ref 1), some (.int l1), some (.int l2), some (.int x1)], [.int (l2 + (1 : Int32)), .int x1, .ref 2], (gShG, σ, u)) rfl ?_
    obtain ⟨hc, hP⟩ := g_if hP
    refine hG.1 _ (38, [some (.ref 1), some (.int l1), some (.int l2), some (.int x1)], [], (gShG, (gPut σ 2 x1.toNatClampNeg (l2 + (1 : Int32))), u)) _ rfl (if_pos hc) ?_
    obtain ⟨s2, es2, hP⟩ := g_let hP
    rw [← es2]
    refine gRunN_ok hG.1 6 _ (46, [some (.ref 1), some (.int l1), some (.int l2), some (.int x1)], [.int (l1 + (1 : Int32)), .int x1, .ref 3], (gShG, s2, u)) rfl ?_
    obtain ⟨hc, hP⟩ := g_if hP
    refine hG.1 _ (47, [some (.ref 1), some (.int l1), some (.int l2), some (.int x1)], [], (gShG, (gPut s2 3 x1.toNatClampNeg (l1 + (1 : Int32))), u)) _ rfl (if_pos hc) ?_
    obtain ⟨s3, es3, hP⟩ := g_let hP
    rw [← es3]
    refine gRunN_ok hG.1 8 _ (57, [some (.ref 1), some (.int l1), some (.int l2), some (.int x1)], [.int l1, .int l2, .ref 1, .int (x1 * (4 : Int32)), .ref 4], (gShG, s3, u)) rfl ?_
    obtain ⟨v4, hq, hP⟩ := g_b1 hP
    refine hG.2.2.2.1 _ _ _ [.ref 1, .int l2, .int l1] [.int (x1 * (4 : Int32)), .ref 4] _ (gShG, s3, u) (some (.int v4)) _ _ _ _ _ _ rfl rfl rfl rfl rfl rfl (c_Grid_across E (d + 0) u l2 l1 _  hq) (Nat.le_refl _) (Nat.le_refl _) (Nat.le_refl _) (Nat.le_refl _) ?_
    show G (60, [some (.ref 1), some (.int l1), some (.int l2), some (.int x1)], [.int v4, .int (x1 * (4 : Int32)), .ref 4], (gShG, s3, u))
    obtain ⟨hc, hP⟩ := g_if hP
    refine hG.1 _ (61, [some (.ref 1), some (.int l1), some (.int l2), some (.int x1)], [], (gShG, (gPut s3 4 (x1 * (4 : Int32)).toNatClampNeg v4), u)) _ rfl (if_pos hc) ?_
    obtain ⟨s6, es6, hP⟩ := g_let hP
    rw [← es6]
    refine gRunN_ok hG.1 12 _ (75, [some (.ref 1), some (.int l1), some (.int l2), some (.int x1)], [.int (l1 + (1 : Int32)), .int l2, .ref 1, .int ((x1 * (4 : Int32)) + (1 : Int32)), .ref 4], (gShG, s6, u)) rfl ?_
    obtain ⟨v7, hq, hP⟩ := g_b1 hP
    refine hG.2.2.2.1 _ _ _ [.ref 1, .int l2, .int (l1 + (1 : Int32))] [.int ((x1 * (4 : Int32)) + (1 : Int32)), .ref 4] _ (gShG, s6, u) (some (.int v7)) _ _ _ _ _ _ rfl rfl rfl rfl rfl rfl (c_Grid_across E (d + 0) u l2 (l1 + (1 : Int32)) _  hq) (Nat.le_refl _) (Nat.le_refl _) (Nat.le_refl _) (Nat.le_refl _) ?_
    show G (78, [some (.ref 1), some (.int l1), some (.int l2), some (.int x1)], [.int v7, .int ((x1 * (4 : Int32)) + (1 : Int32)), .ref 4], (gShG, s6, u))
    obtain ⟨hc, hP⟩ := g_if hP
    refine hG.1 _ (79, [some (.ref 1), some (.int l1), some (.int l2), some (.int x1)], [], (gShG, (gPut s6 4 ((x1 * (4 : Int32)) + (1 : Int32)).toNatClampNeg v7), u)) _ rfl (if_pos hc) ?_
    obtain ⟨s9, es9, hP⟩ := g_let hP
    rw [← es9]
    refine gRunN_ok hG.1 10 _ (91, [some (.ref 1), some (.int l1), some (.int l2), some (.int x1)], [.int l1, .int l2, .ref 1, .int ((x1 * (4 : Int32)) + (2 : Int32)), .ref 4], (gShG, s9, u)) rfl ?_
    obtain ⟨v10, hq, hP⟩ := g_b1 hP
    refine hG.2.2.2.1 _ _ _ [.ref 1, .int l2, .int l1] [.int ((x1 * (4 : Int32)) + (2 : Int32)), .ref 4] _ (gShG, s9, u) (some (.int v10)) _ _ _ _ _ _ rfl rfl rfl rfl rfl rfl (c_Grid_upright E (d + 0) u l2 l1 _  hq) (Nat.le_refl _) (Nat.le_refl _) (Nat.le_refl _) (Nat.le_refl _) ?_
    show G (94, [some (.ref 1), some (.int l1), some (.int l2), some (.int x1)], [.int v10, .int ((x1 * (4 : Int32)) + (2 : Int32)), .ref 4], (gShG, s9, u))
    obtain ⟨hc, hP⟩ := g_if hP
    refine hG.1 _ (95, [some (.ref 1), some (.int l1), some (.int l2), some (.int x1)], [], (gShG, (gPut s9 4 ((x1 * (4 : Int32)) + (2 : Int32)).toNatClampNeg v10), u)) _ rfl (if_pos hc) ?_
    obtain ⟨s12, es12, hP⟩ := g_let hP
    rw [← es12]
    refine gRunN_ok hG.1 12 _ (109, [some (.ref 1), some (.int l1), some (.int l2), some (.int x1)], [.int l1, .int (l2 + (1 : Int32)), .ref 1, .int ((x1 * (4 : Int32)) + (3 : Int32)), .ref 4], (gShG, s12, u)) rfl ?_
    obtain ⟨v13, hq, hP⟩ := g_b1 hP
    refine hG.2.2.2.1 _ _ _ [.ref 1, .int (l2 + (1 : Int32)), .int l1] [.int ((x1 * (4 : Int32)) + (3 : Int32)), .ref 4] _ (gShG, s12, u) (some (.int v13)) _ _ _ _ _ _ rfl rfl rfl rfl rfl rfl (c_Grid_upright E (d + 0) u (l2 + (1 : Int32)) l1 _  hq) (Nat.le_refl _) (Nat.le_refl _) (Nat.le_refl _) (Nat.le_refl _) ?_
    show G (112, [some (.ref 1), some (.int l1), some (.int l2), some (.int x1)], [.int v13, .int ((x1 * (4 : Int32)) + (3 : Int32)), .ref 4], (gShG, s12, u))
    obtain ⟨hc, hP⟩ := g_if hP
    refine hG.1 _ (113, [some (.ref 1), some (.int l1), some (.int l2), some (.int x1)], [], (gShG, (gPut s12 4 ((x1 * (4 : Int32)) + (3 : Int32)).toNatClampNeg v13), u)) _ rfl (if_pos hc) ?_
    obtain ⟨s15, es15, hP⟩ := g_let hP
    rw [← es15]
    refine gRunN_ok hG.1 1 _ (116, [some (.ref 1), some (.int l1), some (.int (l2 + 1)), some (.int x1)], [], (gShG, s15, u)) rfl ?_
    obtain ⟨x16, ex16, hP⟩ := g_let hP
    rw [← ex16]
    refine gRunN_ok hG.1 1 _ (12, [some (.ref 1), some (.int l1), some (.int x16), some (.int x1)], [], (gShG, s15, u)) rfl ?_
    refine hG.2.2.2.2.1 _ _ [some (.ref 1), some (.int l1), some (.int x16), none] _ _ ⟨rfl, ⟨rfl, ⟨rfl, trivial⟩⟩⟩ ?_
    cases hP
    exact K1 _ _ rfl
theorem l_Grid_setTiles_12 (E : gEv) (d u : Nat) {G : gFr → Prop} {vo : Option Value} {sr : gS} (hG : gClo E gDf gP1 gY4 none (gC E gDf gMs (d + 1)) (vo, (gShG, sr, u)) G) (l1 : Int32) : ∀ (n : Nat) (l2 : Int32) (σ : gS) (e : (gS)), gIter (fun z => p_Grid_setTiles_12 E l1 z.1 z.2) n (l2, σ) = some e → (∀ (σ1 : gS), e = σ1 → G (119, [some (.ref 1), some (.int l1), none, none], [], (gShG, σ1, u))) → G (12, [some (.ref 1), some (.int l1), some (.int l2), none], [], (gShG, σ, u)) := by
  intro n
  induction n with
  | zero => intro l2 σ e h; cases h
  | succ n ih =>
    intro l2 σ e h K2
    rcases g_iter h with ⟨z, h1, h2⟩ | h1
    · exact b_Grid_setTiles_12 E d u hG l1 l2 σ h1 (fun n0 n1 hz => by cases hz; exact ih _ _ e h2 K2) (fun _ hz => by cases hz)
    · exact b_Grid_setTiles_12 E d u hG l1 l2 σ h1 (fun _ _ hz => by cases hz) (fun σ1 hz => K2 σ1 (by cases hz; rfl))
def p_Grid_setTiles_2 (E : gEv) (l1 : Int32) (σ : gS) : Option ((Int32 × gS) ⊕ (gS)) :=
  if (σ.1 1 1) ≤ l1 then (some (.inr σ)) else (gB1 (gIter (fun z => p_Grid_setTiles_12 E l1 z.1 z.2) gN (0, σ)) fun e17 => (fun s18 => gLet (l1 + 1) fun x19 => some (.inl (x19, s18))) e17)
set_option maxRecDepth 20000 in
theorem b_Grid_setTiles_2 (E : gEv) (d u : Nat) {G : gFr → Prop} {vo : Option Value} {sr : gS} (hG : gClo E gDf gP1 gY4 none (gC E gDf gMs (d + 1)) (vo, (gShG, sr, u)) G) (l1 : Int32) (σ : gS) {r : (Int32 × gS) ⊕ (gS)} (hP : p_Grid_setTiles_2 E l1 σ = some r) (K1 : ∀ (m1 : Int32) (σ1 : gS), r = .inl (m1, σ1) → G (2, [some (.ref 1), some (.int m1), none, none], [], (gShG, σ1, u))) (K2 : ∀ (σ1 : gS), r = .inr σ1 → G (125, [none, none, none, none], [], (gShG, σ1, u))) : G (2, [some (.ref 1), some (.int l1), none, none], [], (gShG, σ, u)) := by
  unfold p_Grid_setTiles_2 at hP
  refine gRunN_ok hG.1 3 _ (7, [some (.ref 1), some (.int l1), none, none], [.int (σ.1 1 1), .int l1], (gShG, σ, u)) rfl ?_
  rcases g_ite hP with ⟨hc, hP⟩ | ⟨hc, hP⟩
  · refine hG.1 _ (125, [some (.ref 1), some (.int l1), none, none], [], (gShG, σ, u)) _ rfl (if_pos hc) ?_
    refine hG.2.2.2.2.1 _ _ [none, none, none, none] _ _ trivial ?_
    cases hP
    exact K2 _ rfl
  · refine hG.1 _ (10, [some (.ref 1), some (.int l1), none, none], [], (gShG, σ, u)) _ rfl (if_neg hc) ?_
    refine gRunN_ok hG.1 2 _ (12, [some (.ref 1), some (.int l1), some (.int 0), none], [], (gShG, σ, u)) rfl ?_
    obtain ⟨e17, hq, hP⟩ := g_b1 hP
    refine l_Grid_setTiles_12 E d u hG l1 gN 0 σ _ hq (fun s18 he => ?_)
    · replace he := he.symm
      subst he
      try dsimp only [gSum] at hP
      refine gRunN_ok hG.1 1 _ (122, [some (.ref 1), some (.int (l1 + 1)), none, none], [], (gShG, s18, u)) rfl ?_
      obtain ⟨x19, ex19, hP⟩ := g_let hP
      rw [← ex19]
      refine gRunN_ok hG.1 1 _ (2, [some (.ref 1), some (.int x19), none, none], [], (gShG, s18, u)) rfl ?_
      cases hP
      exact K1 _ _ rfl
theorem l_Grid_setTiles_2 (E : gEv) (d u : Nat) {G : gFr → Prop} {vo : Option Value} {sr : gS} (hG : gClo E gDf gP1 gY4 none (gC E gDf gMs (d + 1)) (vo, (gShG, sr, u)) G) : ∀ (n : Nat) (l1 : Int32) (σ : gS) (e : (gS)), gIter (fun z => p_Grid_setTiles_2 E z.1 z.2) n (l1, σ) = some e → (∀ (σ1 : gS), e = σ1 → G (125, [none, none, none, none], [], (gShG, σ1, u))) → G (2, [some (.ref 1), some (.int l1), none, none], [], (gShG, σ, u)) := by
  intro n
  induction n with
  | zero => intro l1 σ e h; cases h
  | succ n ih =>
    intro l1 σ e h K2
    rcases g_iter h with ⟨z, h1, h2⟩ | h1
    · exact b_Grid_setTiles_2 E d u hG l1 σ h1 (fun n0 n1 hz => by cases hz; exact ih _ _ e h2 K2) (fun _ hz => by cases hz)
    · exact b_Grid_setTiles_2 E d u hG l1 σ h1 (fun _ _ hz => by cases hz) (fun σ1 hz => K2 σ1 (by cases hz; rfl))
def p_Grid_setTiles (E : gEv) (σ : gS) : Option (gS) :=
  gB1 (gIter (fun z => p_Grid_setTiles_2 E z.1 z.2) gN (0, σ)) fun e20 => (fun s21 => some s21) e20
set_option maxRecDepth 20000 in
theorem c_Grid_setTiles (E : gEv) (d u : Nat) (σ : gS) {sr : gS}  (hq : p_Grid_setTiles E σ = some sr) : gC E gDf gMs (d + 2) 4 [.ref 1] (gShG, σ, u) (none, (gShG, sr, u)) := ⟨gM4, rfl, Nat.le_of_ble_eq_true rfl, fun G hG => by
  have hP := hq
  unfold p_Grid_setTiles at hP
  replace hG : gClo E gDf gP1 gY4 none (gC E gDf gMs (d + 1)) (none, (gShG, sr, u)) G := hG
  show G (0, [some (.ref 1), none, none, none], [], (gShG, σ, u))
  refine gRunN_ok hG.1 2 _ (2, [some (.ref 1), some (.int 0), none, none], [], (gShG, σ, u)) rfl ?_
  obtain ⟨e20, hq, hP⟩ := g_b1 hP
  refine l_Grid_setTiles_2 E d u hG gN 0 σ _ hq (fun s21 he => ?_)
  · replace he := he.symm
    subst he
    try dsimp only [gSum] at hP
    cases hP
    exact hG.2.1 _ _ rfl rfl⟩
def p_Grid_setPads_2 (E : gEv) (l1 : Int32) (σ : gS) : Option ((Int32 × gS) ⊕ (gS)) :=
  if (σ.1 1 0) ≤ l1 then (some (.inr σ)) else (gB1 (p_Grid_across E l1 0 σ) fun v1 => gB1 (p_Grid_setPadPair E l1 (l1 + (1 : Int32)) 0 v1 σ) fun s4 => gB1 (p_Grid_across E l1 (s4.1 1 1) s4) fun v5 => gB1 (p_Grid_setPadPair E ((s4.1 1 0) + l1) (l1 + (1 : Int32)) ((s4.1 1 1) + (1 : Int32)) v5 s4) fun s8 => gLet (l1 + 1) fun x9 => some (.inl (x9, s8)))
set_option maxRecDepth 20000 in
theorem b_Grid_setPads_2 (E : gEv) (d u : Nat) {G : gFr → Prop} {vo : Option Value} {sr : gS} (hG : gClo E gDf gP1 gY7 none (gC E gDf gMs (d + 1)) (vo, (gShG, sr, u)) G) (l1 : Int32) (σ : gS) {r : (Int32 × gS) ⊕ (gS)} (hP : p_Grid_setPads_2 E l1 σ = some r) (K1 : ∀ (m1 : Int32) (σ1 : gS), r = .inl (m1, σ1) → G (2, [some (.ref 1), some (.int m1)], [], (gShG, σ1, u))) (K2 : ∀ (σ1 : gS), r = .inr σ1 → G (59, [some (.ref 1), none], [], (gShG, σ1, u))) : G (2, [some (.ref 1), some (.int l1)], [], (gShG, σ, u)) := by
  unfold p_Grid_setPads_2 at hP
  refine gRunN_ok hG.1 3 _ (7, [some (.ref 1), some (.int l1)], [.int (σ.1 1 0), .int l1], (gShG, σ, u)) rfl ?_
  rcases g_ite hP with ⟨hc, hP⟩ | ⟨hc, hP⟩
  · refine hG.1 _ (59, [some (.ref 1), some (.int l1)], [], (gShG, σ, u)) _ rfl (if_pos hc) ?_
    refine hG.2.2.2.2.1 _ _ [some (.ref 1), none] _ _ ⟨rfl, trivial⟩ ?_
    cases hP
    exact K2 _ rfl
  · refine hG.1 _ (10, [some (.ref 1), some (.int l1)], [], (gShG, σ, u)) _ rfl (if_neg hc) ?_
    refine gRunN_ok hG.1 9 _ (19, [some (.ref 1), some (.int l1)], [.int 0, .int l1, .ref 1, .int 0, .int (l1 + (1 : Int32)), .int l1, .ref 1], (gShG, σ, u)) rfl ?_
    obtain ⟨v1, hq, hP⟩ := g_b1 hP
    refine hG.2.2.2.1 _ _ _ [.ref 1, .int l1, .int 0] [.int 0, .int (l1 + (1 : Int32)), .int l1, .ref 1] _ (gShG, σ, u) (some (.int v1)) _ _ _ _ _ _ rfl rfl rfl rfl rfl rfl (c_Grid_across E (d + 0) u l1 0 _  hq) (Nat.le_refl _) (Nat.le_refl _) (Nat.le_refl _) (Nat.le_refl _) ?_
    show G (22, [some (.ref 1), some (.int l1)], [.int v1, .int 0, .int (l1 + (1 : Int32)), .int l1, .ref 1], (gShG, σ, u))
    obtain ⟨s4, hq, hP⟩ := g_b1 hP
    refine hG.2.2.2.1 _ _ _ [.ref 1, .int l1, .int (l1 + (1 : Int32)), .int 0, .int v1] [] _ (gShG, s4, u) none _ _ _ _ _ _ rfl rfl rfl rfl rfl rfl (c_Grid_setPadPair E (d + 0) u l1 (l1 + (1 : Int32)) 0 v1 _  hq) (Nat.le_refl _) (Nat.le_refl _) (Nat.le_refl _) (Nat.le_refl _) ?_
    show G (25, [some (.ref 1), some (.int l1)], [], (gShG, s4, u))
    refine gRunN_ok hG.1 16 _ (47, [some (.ref 1), some (.int l1)], [.int (s4.1 1 1), .int l1, .ref 1, .int ((s4.1 1 1) + (1 : Int32)), .int (l1 + (1 : Int32)), .int ((s4.1 1 0) + l1), .ref 1], (gShG, s4, u)) rfl ?_
    obtain ⟨v5, hq, hP⟩ := g_b1 hP
    refine hG.2.2.2.1 _ _ _ [.ref 1, .int l1, .int (s4.1 1 1)] [.int ((s4.1 1 1) + (1 : Int32)), .int (l1 + (1 : Int32)), .int ((s4.1 1 0) + l1), .ref 1] _ (gShG, s4, u) (some (.int v5)) _ _ _ _ _ _ rfl rfl rfl rfl rfl rfl (c_Grid_across E (d + 0) u l1 (s4.1 1 1) _  hq) (Nat.le_refl _) (Nat.le_refl _) (Nat.le_refl _) (Nat.le_refl _) ?_
    show G (50, [some (.ref 1), some (.int l1)], [.int v5, .int ((s4.1 1 1) + (1 : Int32)), .int (l1 + (1 : Int32)), .int ((s4.1 1 0) + l1), .ref 1], (gShG, s4, u))
    obtain ⟨s8, hq, hP⟩ := g_b1 hP
    refine hG.2.2.2.1 _ _ _ [.ref 1, .int ((s4.1 1 0) + l1), .int (l1 + (1 : Int32)), .int ((s4.1 1 1) + (1 : Int32)), .int v5] [] _ (gShG, s8, u) none _ _ _ _ _ _ rfl rfl rfl rfl rfl rfl (c_Grid_setPadPair E (d + 0) u ((s4.1 1 0) + l1) (l1 + (1 : Int32)) ((s4.1 1 1) + (1 : Int32)) v5 _  hq) (Nat.le_refl _) (Nat.le_refl _) (Nat.le_refl _) (Nat.le_refl _) ?_
    show G (53, [some (.ref 1), some (.int l1)], [], (gShG, s8, u))
    refine gRunN_ok hG.1 1 _ (56, [some (.ref 1), some (.int (l1 + 1))], [], (gShG, s8, u)) rfl ?_
    obtain ⟨x9, ex9, hP⟩ := g_let hP
    rw [← ex9]
    refine gRunN_ok hG.1 1 _ (2, [some (.ref 1), some (.int x9)], [], (gShG, s8, u)) rfl ?_
    cases hP
    exact K1 _ _ rfl
theorem l_Grid_setPads_2 (E : gEv) (d u : Nat) {G : gFr → Prop} {vo : Option Value} {sr : gS} (hG : gClo E gDf gP1 gY7 none (gC E gDf gMs (d + 1)) (vo, (gShG, sr, u)) G) : ∀ (n : Nat) (l1 : Int32) (σ : gS) (e : (gS)), gIter (fun z => p_Grid_setPads_2 E z.1 z.2) n (l1, σ) = some e → (∀ (σ1 : gS), e = σ1 → G (59, [some (.ref 1), none], [], (gShG, σ1, u))) → G (2, [some (.ref 1), some (.int l1)], [], (gShG, σ, u)) := by
  intro n
  induction n with
  | zero => intro l1 σ e h; cases h
  | succ n ih =>
    intro l1 σ e h K2
    rcases g_iter h with ⟨z, h1, h2⟩ | h1
    · exact b_Grid_setPads_2 E d u hG l1 σ h1 (fun n0 n1 hz => by cases hz; exact ih _ _ e h2 K2) (fun _ hz => by cases hz)
    · exact b_Grid_setPads_2 E d u hG l1 σ h1 (fun _ _ hz => by cases hz) (fun σ1 hz => K2 σ1 (by cases hz; rfl))
def p_Grid_setPads_61 (E : gEv) (l1 : Int32) (σ : gS) : Option ((Int32 × gS) ⊕ (gS)) :=
  if (σ.1 1 1) ≤ l1 then (some (.inr σ)) else (gB1 (p_Grid_upright E 0 l1 σ) fun v12 => gB1 (p_Grid_setPadPair E (((2 : Int32) * (σ.1 1 0)) + l1) 0 (l1 + (1 : Int32)) v12 σ) fun s15 => gB1 (p_Grid_upright E (s15.1 1 0) l1 s15) fun v16 => gB1 (p_Grid_setPadPair E ((((2 : Int32) * (s15.1 1 0)) + (s15.1 1 1)) + l1) ((s15.1 1 0) + (1 : Int32)) (l1 + (1 : Int32)) v16 s15) fun s19 => gLet (l1 + 1) fun x20 => some (.inl (x20, s19)))
set_option maxRecDepth 20000 in
theorem b_Grid_setPads_61 (E : gEv) (d u : Nat) {G : gFr → Prop} {vo : Option Value} {sr : gS} (hG : gClo E gDf gP1 gY7 none (gC E gDf gMs (d + 1)) (vo, (gShG, sr, u)) G) (l1 : Int32) (σ : gS) {r : (Int32 × gS) ⊕ (gS)} (hP : p_Grid_setPads_61 E l1 σ = some r) (K1 : ∀ (m1 : Int32) (σ1 : gS), r = .inl (m1, σ1) → G (61, [some (.ref 1), some (.int m1)], [], (gShG, σ1, u))) (K2 : ∀ (σ1 : gS), r = .inr σ1 → G (132, [none, none], [], (gShG, σ1, u))) : G (61, [some (.ref 1), some (.int l1)], [], (gShG, σ, u)) := by
  unfold p_Grid_setPads_61 at hP
  refine gRunN_ok hG.1 3 _ (66, [some (.ref 1), some (.int l1)], [.int (σ.1 1 1), .int l1], (gShG, σ, u)) rfl ?_
  rcases g_ite hP with ⟨hc, hP⟩ | ⟨hc, hP⟩
  · refine hG.1 _ (132, [some (.ref 1), some (.int l1)], [], (gShG, σ, u)) _ rfl (if_pos hc) ?_
    refine hG.2.2.2.2.1 _ _ [none, none] _ _ trivial ?_
    cases hP
    exact K2 _ rfl
  · refine hG.1 _ (69, [some (.ref 1), some (.int l1)], [], (gShG, σ, u)) _ rfl (if_neg hc) ?_
    refine gRunN_ok hG.1 14 _ (85, [some (.ref 1), some (.int l1)], [.int l1, .int 0, .ref 1, .int (l1 + (1 : Int32)), .int 0, .int (((2 : Int32) * (σ.1 1 0)) + l1), .ref 1], (gShG, σ, u)) rfl ?_
    obtain ⟨v12, hq, hP⟩ := g_b1 hP
    refine hG.2.2.2.1 _ _ _ [.ref 1, .int 0, .int l1] [.int (l1 + (1 : Int32)), .int 0, .int (((2 : Int32) * (σ.1 1 0)) + l1), .ref 1] _ (gShG, σ, u) (some (.int v12)) _ _ _ _ _ _ rfl rfl rfl rfl rfl rfl (c_Grid_upright E (d + 0) u 0 l1 _  hq) (Nat.le_refl _) (Nat.le_refl _) (Nat.le_refl _) (Nat.le_refl _) ?_
    show G (88, [some (.ref 1), some (.int l1)], [.int v12, .int (l1 + (1 : Int32)), .int 0, .int (((2 : Int32) * (σ.1 1 0)) + l1), .ref 1], (gShG, σ, u))
    obtain ⟨s15, hq, hP⟩ := g_b1 hP
    refine hG.2.2.2.1 _ _ _ [.ref 1, .int (((2 : Int32) * (σ.1 1 0)) + l1), .int 0, .int (l1 + (1 : Int32)), .int v12] [] _ (gShG, s15, u) none _ _ _ _ _ _ rfl rfl rfl rfl rfl rfl (c_Grid_setPadPair E (d + 0) u (((2 : Int32) * (σ.1 1 0)) + l1) 0 (l1 + (1 : Int32)) v12 _  hq) (Nat.le_refl _) (Nat.le_refl _) (Nat.le_refl _) (Nat.le_refl _) ?_
    show G (91, [some (.ref 1), some (.int l1)], [], (gShG, s15, u))
    refine gRunN_ok hG.1 21 _ (120, [some (.ref 1), some (.int l1)], [.int l1, .int (s15.1 1 0), .ref 1, .int (l1 + (1 : Int32)), .int ((s15.1 1 0) + (1 : Int32)), .int ((((2 : Int32) * (s15.1 1 0)) + (s15.1 1 1)) + l1), .ref 1], (gShG, s15, u)) rfl ?_
    obtain ⟨v16, hq, hP⟩ := g_b1 hP
    refine hG.2.2.2.1 _ _ _ [.ref 1, .int (s15.1 1 0), .int l1] [.int (l1 + (1 : Int32)), .int ((s15.1 1 0) + (1 : Int32)), .int ((((2 : Int32) * (s15.1 1 0)) + (s15.1 1 1)) + l1), .ref 1] _ (gShG, s15, u) (some (.int v16)) _ _ _ _ _ _ rfl rfl rfl rfl rfl rfl (c_Grid_upright E (d + 0) u (s15.1 1 0) l1 _  hq) (Nat.le_refl _) (Nat.le_refl _) (Nat.le_refl _) (Nat.le_refl _) ?_
    show G (123, [some (.ref 1), some (.int l1)], [.int v16, .int (l1 + (1 : Int32)), .int ((s15.1 1 0) + (1 : Int32)), .int ((((2 : Int32) * (s15.1 1 0)) + (s15.1 1 1)) + l1), .ref 1], (gShG, s15, u))
    obtain ⟨s19, hq, hP⟩ := g_b1 hP
    refine hG.2.2.2.1 _ _ _ [.ref 1, .int ((((2 : Int32) * (s15.1 1 0)) + (s15.1 1 1)) + l1), .int ((s15.1 1 0) + (1 : Int32)), .int (l1 + (1 : Int32)), .int v16] [] _ (gShG, s19, u) none _ _ _ _ _ _ rfl rfl rfl rfl rfl rfl (c_Grid_setPadPair E (d + 0) u ((((2 : Int32) * (s15.1 1 0)) + (s15.1 1 1)) + l1) ((s15.1 1 0) + (1 : Int32)) (l1 + (1 : Int32)) v16 _  hq) (Nat.le_refl _) (Nat.le_refl _) (Nat.le_refl _) (Nat.le_refl _) ?_
    show G (126, [some (.ref 1), some (.int l1)], [], (gShG, s19, u))
    refine gRunN_ok hG.1 1 _ (129, [some (.ref 1), some (.int (l1 + 1))], [], (gShG, s19, u)) rfl ?_
    obtain ⟨x20, ex20, hP⟩ := g_let hP
    rw [← ex20]
    refine gRunN_ok hG.1 1 _ (61, [some (.ref 1), some (.int x20)], [], (gShG, s19, u)) rfl ?_
    cases hP
    exact K1 _ _ rfl
theorem l_Grid_setPads_61 (E : gEv) (d u : Nat) {G : gFr → Prop} {vo : Option Value} {sr : gS} (hG : gClo E gDf gP1 gY7 none (gC E gDf gMs (d + 1)) (vo, (gShG, sr, u)) G) : ∀ (n : Nat) (l1 : Int32) (σ : gS) (e : (gS)), gIter (fun z => p_Grid_setPads_61 E z.1 z.2) n (l1, σ) = some e → (∀ (σ1 : gS), e = σ1 → G (132, [none, none], [], (gShG, σ1, u))) → G (61, [some (.ref 1), some (.int l1)], [], (gShG, σ, u)) := by
  intro n
  induction n with
  | zero => intro l1 σ e h; cases h
  | succ n ih =>
    intro l1 σ e h K2
    rcases g_iter h with ⟨z, h1, h2⟩ | h1
    · exact b_Grid_setPads_61 E d u hG l1 σ h1 (fun n0 n1 hz => by cases hz; exact ih _ _ e h2 K2) (fun _ hz => by cases hz)
    · exact b_Grid_setPads_61 E d u hG l1 σ h1 (fun _ _ hz => by cases hz) (fun σ1 hz => K2 σ1 (by cases hz; rfl))
def p_Grid_setPads (E : gEv) (σ : gS) : Option (gS) :=
  gB1 (gIter (fun z => p_Grid_setPads_2 E z.1 z.2) gN (0, σ)) fun e10 => (fun s11 => gB1 (gIter (fun z => p_Grid_setPads_61 E z.1 z.2) gN (0, s11)) fun e21 => (fun s22 => some s22) e21) e10
set_option maxRecDepth 20000 in
theorem c_Grid_setPads (E : gEv) (d u : Nat) (σ : gS) {sr : gS}  (hq : p_Grid_setPads E σ = some sr) : gC E gDf gMs (d + 2) 7 [.ref 1] (gShG, σ, u) (none, (gShG, sr, u)) := ⟨gM7, rfl, Nat.le_of_ble_eq_true rfl, fun G hG => by
  have hP := hq
  unfold p_Grid_setPads at hP
  replace hG : gClo E gDf gP1 gY7 none (gC E gDf gMs (d + 1)) (none, (gShG, sr, u)) G := hG
  show G (0, [some (.ref 1), none], [], (gShG, σ, u))
  refine gRunN_ok hG.1 2 _ (2, [some (.ref 1), some (.int 0)], [], (gShG, σ, u)) rfl ?_
  obtain ⟨e10, hq, hP⟩ := g_b1 hP
  refine l_Grid_setPads_2 E d u hG gN 0 σ _ hq (fun s11 he => ?_)
  · replace he := he.symm
    subst he
    try dsimp only [gSum] at hP
    refine gRunN_ok hG.1 2 _ (61, [some (.ref 1), some (.int 0)], [], (gShG, s11, u)) rfl ?_
    obtain ⟨e21, hq, hP⟩ := g_b1 hP
    refine l_Grid_setPads_61 E d u hG gN 0 s11 _ hq (fun s22 he => ?_)
    · replace he := he.symm
      subst he
      try dsimp only [gSum] at hP
      cases hP
      exact hG.2.1 _ _ rfl rfl⟩
