def p_Model_swapOnce (E : gEv) (a0 : Int32) (a1 : Int32) (a2 : Int32) (a3 : Int32) (σ : gS) : Option (gS) :=
  gB2 (p_Model_length E σ) fun v1 s2 => gB1 (p_Model_exchange E a0 a1 a2 s2) fun s4 => gB2 (p_Model_length E s4) fun v5 s6 => if (lg_cmp (v5.toInt64) ((v1.toInt64) + (a3.toInt64))) ≤ 0 then (some s6) else (gB1 (p_Model_exchange E a0 a1 a2 s6) fun s8 => some s8)
set_option maxRecDepth 20000 in
theorem c_Model_swapOnce (E : gEv) (d u : Nat) (a0 : Int32) (a1 : Int32) (a2 : Int32) (a3 : Int32) (σ : gS) {sr : gS}  (hq : p_Model_swapOnce E a0 a1 a2 a3 σ = some sr) : gC E gDf gMs (d + 5) 240 [.ref 94, .int a0, .int a1, .int a2, .int a3] (gSh, σ, u) (none, (gSh, sr, u)) := ⟨gM240, rfl, Nat.le_of_ble_eq_true rfl, fun G hG => by
  have hP := hq
  unfold p_Model_swapOnce at hP
  replace hG : gClo E gDf gP18 gY240 none (gC E gDf gMs (d + 4)) (none, (gSh, sr, u)) G := hG
  show G (0, [some (.ref 94), some (.int a0), some (.int a1), some (.int a2), some (.int a3), none], [], (gSh, σ, u))
  refine gRunN_ok hG.1 1 _ (1, [some (.ref 94), some (.int a0), some (.int a1), some (.int a2), some (.int a3), none], [.ref 94], (gSh, σ, u)) rfl ?_
  obtain ⟨v1, s2, hq, hP⟩ := g_b2 hP
  refine hG.2.2.2.1 _ _ _ [.ref 94] [] _ (gSh, s2, u) (some (.int v1)) _ _ _ _ _ _ rfl rfl rfl rfl rfl rfl (c_Model_length E (d + 0) u _  hq) (Nat.le_refl _) (Nat.le_refl _) (Nat.le_refl _) (Nat.le_refl _) ?_
  show G (4, [some (.ref 94), some (.int a0), some (.int a1), some (.int a2), some (.int a3), none], [.int v1], (gSh, s2, u))
  refine gRunN_ok hG.1 5 _ (10, [some (.ref 94), some (.int a0), some (.int a1), some (.int a2), some (.int a3), some (.int v1)], [.int a2, .int a1, .int a0, .ref 94], (gSh, s2, u)) rfl ?_
  obtain ⟨s4, hq, hP⟩ := g_b1 hP
  refine hG.2.2.2.1 _ _ _ [.ref 94, .int a0, .int a1, .int a2] [] _ (gSh, s4, u) none _ _ _ _ _ _ rfl rfl rfl rfl rfl rfl (c_Model_exchange E (d + 3) u a0 a1 a2 _  hq) (Nat.le_refl _) (Nat.le_refl _) (Nat.le_refl _) (Nat.le_refl _) ?_
  show G (13, [some (.ref 94), some (.int a0), some (.int a1), some (.int a2), some (.int a3), some (.int v1)], [], (gSh, s4, u))
  refine gRunN_ok hG.1 1 _ (14, [some (.ref 94), some (.int a0), some (.int a1), some (.int a2), some (.int a3), some (.int v1)], [.ref 94], (gSh, s4, u)) rfl ?_
  obtain ⟨v5, s6, hq, hP⟩ := g_b2 hP
  refine hG.2.2.2.1 _ _ _ [.ref 94] [] _ (gSh, s6, u) (some (.int v5)) _ _ _ _ _ _ rfl rfl rfl rfl rfl rfl (c_Model_length E (d + 0) u _  hq) (Nat.le_refl _) (Nat.le_refl _) (Nat.le_refl _) (Nat.le_refl _) ?_
  show G (17, [some (.ref 94), some (.int a0), some (.int a1), some (.int a2), some (.int a3), some (.int v1)], [.int v5], (gSh, s6, u))
  refine gRunN_ok hG.1 7 _ (26, [some (.ref 94), some (.int a0), some (.int a1), some (.int a2), some (.int a3), some (.int v1)], [.int (lg_cmp (v5.toInt64) ((v1.toInt64) + (a3.toInt64)))], (gSh, s6, u)) rfl ?_
  rcases g_ite hP with ⟨hc, hP⟩ | ⟨hc, hP⟩
  · refine hG.1 _ (36, [some (.ref 94), some (.int a0), some (.int a1), some (.int a2), some (.int a3), some (.int v1)], [], (gSh, s6, u)) _ rfl (if_pos hc) ?_
    cases hP
    exact hG.2.1 _ _ rfl rfl
  · refine hG.1 _ (29, [some (.ref 94), some (.int a0), some (.int a1), some (.int a2), some (.int a3), some (.int v1)], [], (gSh, s6, u)) _ rfl (if_neg hc) ?_
    refine gRunN_ok hG.1 4 _ (33, [some (.ref 94), some (.int a0), some (.int a1), some (.int a2), some (.int a3), some (.int v1)], [.int a2, .int a1, .int a0, .ref 94], (gSh, s6, u)) rfl ?_
    obtain ⟨s8, hq, hP⟩ := g_b1 hP
    refine hG.2.2.2.1 _ _ _ [.ref 94, .int a0, .int a1, .int a2] [] _ (gSh, s8, u) none _ _ _ _ _ _ rfl rfl rfl rfl rfl rfl (c_Model_exchange E (d + 3) u a0 a1 a2 _  hq) (Nat.le_refl _) (Nat.le_refl _) (Nat.le_refl _) (Nat.le_refl _) ?_
    show G (36, [some (.ref 94), some (.int a0), some (.int a1), some (.int a2), some (.int a3), some (.int v1)], [], (gSh, s8, u))
    cases hP
    exact hG.2.1 _ _ rfl rfl⟩
def p_Model_routeNet_j75_7 (E : gEv) (l1 : Int32) (l2 : Int32) (l3 : Int32) (y1 : Int32) (y2 : Int64) (σ : gS) : Option ((Int32 × gS) ⊕ (gS)) :=
  if gIn y1 (σ.2.1 148) then gLet (gPutL σ 148 y1.toNatClampNeg y2) fun s4 => gLet (l3 + 1) fun x5 => some (.inl (x5, s4)) else none
set_option maxRecDepth 20000 in
theorem j_Model_routeNet_j75_7 (E : gEv) (d u : Nat) {G : gFr → Prop} {vo : Option Value} {sr : gS} (hG : gClo E gDf gP18 gY245 none (gC E gDf gMs (d + 4)) (vo, (gSh, sr, u)) G) (l1 : Int32) (l2 : Int32) (l3 : Int32) (y1 : Int32) (y2 : Int64) (σ : gS) {r : (Int32 × gS) ⊕ (gS)} (hP : p_Model_routeNet_j75_7 E l1 l2 l3 y1 y2 σ = some r) (K1 : ∀ (m3 : Int32) (σ1 : gS), r = .inl (m3, σ1) → G (7, [some (.ref 94), some (.int l1), some (.int l2), some (.int m3), none], [], (gSh, σ1, u))) (K2 : ∀ (σ1 : gS), r = .inr σ1 → G (82, [some (.ref 94), some (.int l1), none, none, none], [], (gSh, σ1, u))) : G (75, [some (.ref 94), some (.int l1), some (.int l2), some (.int l3), none], [.long y2, .int y1, .ref 148], (gSh, σ, u)) := by
  unfold p_Model_routeNet_j75_7 at hP
  obtain ⟨hc, hP⟩ := g_if hP
  refine hG.1 _ (76, [some (.ref 94), some (.int l1), some (.int l2), some (.int l3), none], [], (gSh, (gPutL σ 148 y1.toNatClampNeg y2), u)) _ rfl (if_pos hc) ?_
  obtain ⟨s4, es4, hP⟩ := g_let hP
  rw [← es4]
  refine gRunN_ok hG.1 1 _ (79, [some (.ref 94), some (.int l1), some (.int l2), some (.int (l3 + 1)), none], [], (gSh, s4, u)) rfl ?_
  obtain ⟨x5, ex5, hP⟩ := g_let hP
  rw [← ex5]
  refine gRunN_ok hG.1 1 _ (7, [some (.ref 94), some (.int l1), some (.int l2), some (.int x5), none], [], (gSh, s4, u)) rfl ?_
  cases hP
  exact K1 _ _ rfl
def p_Model_routeNet_7 (E : gEv) (l1 : Int32) (l2 : Int32) (l3 : Int32) (σ : gS) : Option ((Int32 × gS) ⊕ (gS)) :=
  if (σ.1 94 8) ≤ l3 then (some (.inr σ)) else (if gIn l3 (σ.2.1 150) then gLet (gPut σ 150 l3.toNatClampNeg (vp_nar .boolean 0)) fun s3 => if l2 = 0 then (if ¬ (s3.1 94 3) = 0 then if (l3 - l3 / (s3.1 94 3) * (s3.1 94 3)) = l1 then (p_Model_routeNet_j75_7 E l1 l2 l3 l3 1 s3) else (p_Model_routeNet_j75_7 E l1 l2 l3 l3 1152921504606846976 s3) else none) else (if gIn l3 (s3.2.1 146) then if gIn l3 (s3.2.1 147) then p_Model_routeNet_j75_7 E l1 l2 l3 l3 (((1 : Int64) + ((s3.1 146 l3.toNatClampNeg).toInt64)) * ((1 : Int64) + (((l2.toInt64) - (1 : Int64)) * ((s3.1 147 l3.toNatClampNeg).toInt64)))) s3 else none else none) else none)
set_option maxRecDepth 20000 in
theorem b_Model_routeNet_7 (E : gEv) (d u : Nat) {G : gFr → Prop} {vo : Option Value} {sr : gS} (hG : gClo E gDf gP18 gY245 none (gC E gDf gMs (d + 4)) (vo, (gSh, sr, u)) G) (l1 : Int32) (l2 : Int32) (l3 : Int32) (σ : gS) {r : (Int32 × gS) ⊕ (gS)} (hP : p_Model_routeNet_7 E l1 l2 l3 σ = some r) (K1 : ∀ (m3 : Int32) (σ1 : gS), r = .inl (m3, σ1) → G (7, [some (.ref 94), some (.int l1), some (.int l2), some (.int m3), none], [], (gSh, σ1, u))) (K2 : ∀ (σ1 : gS), r = .inr σ1 → G (82, [some (.ref 94), some (.int l1), none, none, none], [], (gSh, σ1, u))) : G (7, [some (.ref 94), some (.int l1), some (.int l2), some (.int l3), none], [], (gSh, σ, u)) := by
  unfold p_Model_routeNet_7 at hP
  refine gRunN_ok hG.1 3 _ (12, [some (.ref 94), some (.int l1), some (.int l2), some (.int l3), none], [.int (σ.1 94 8), .int l3], (gSh, σ, u)) rfl ?_
  rcases g_ite hP with ⟨hc, hP⟩ | ⟨hc, hP⟩
  · refine hG.1 _ (82, [some (.ref 94), some (.int l1), some (.int l2), some (.int l3), none], [], (gSh, σ, u)) _ rfl (if_pos hc) ?_
    refine hG.2.2.2.2.1 _ _ [some (.ref 94), some (.int l1), none, none, none] _ _ ⟨rfl, ⟨rfl, trivial⟩⟩ ?_
    cases hP
    exact K2 _ rfl
  · refine hG.1 _ (15, [some (.ref 94), some (.int l1), some (.int l2), some (.int l3), none], [], (gSh, σ, u)) _ rfl (if_neg hc) ?_
    refine gRunN_ok hG.1 4 _ (21, [some (.ref 94), some (.int l1), some (.int l2), some (.int l3), none], [.int 0, .int l3, .ref 150], (gSh, σ, u)) rfl ?_
    obtain ⟨hc, hP⟩ := g_if hP
    refine hG.1 _ (22, [some (.ref 94), some (.int l1), some (.int l2), some (.int l3), none], [], (gSh, (gPut σ 150 l3.toNatClampNeg (vp_nar .boolean 0)), u)) _ rfl (if_pos hc) ?_
    obtain ⟨s3, es3, hP⟩ := g_let hP
    rw [← es3]
    refine gRunN_ok hG.1 4 _ (28, [some (.ref 94), some (.int l1), some (.int l2), some (.int l3), none], [.int l2, .int l3, .ref 148], (gSh, s3, u)) rfl ?_
    rcases g_ite hP with ⟨hc, hP⟩ | ⟨hc, hP⟩
    · refine hG.1 _ (31, [some (.ref 94), some (.int l1), some (.int l2), some (.int l3), none], [.int l3, .ref 148], (gSh, s3, u)) _ rfl (if_pos hc) ?_
      refine gRunN_ok hG.1 3 _ (36, [some (.ref 94), some (.int l1), some (.int l2), some (.int l3), none], [.int (s3.1 94 3), .int l3, .int l3, .ref 148], (gSh, s3, u)) rfl ?_
      obtain ⟨hc, hP⟩ := g_if hP
      refine hG.1 _ (37, [some (.ref 94), some (.int l1), some (.int l2), some (.int l3), none], [.int (l3 - l3 / (s3.1 94 3) * (s3.1 94 3)), .int l3, .ref 148], (gSh, s3, u)) _ rfl (if_pos hc) ?_
      refine gRunN_ok hG.1 1 _ (38, [some (.ref 94), some (.int l1), some (.int l2), some (.int l3), none], [.int l1, .int (l3 - l3 / (s3.1 94 3) * (s3.1 94 3)), .int l3, .ref 148], (gSh, s3, u)) rfl ?_
      rcases g_ite hP with ⟨hc, hP⟩ | ⟨hc, hP⟩
      · refine hG.1 _ (41, [some (.ref 94), some (.int l1), some (.int l2), some (.int l3), none], [.int l3, .ref 148], (gSh, s3, u)) _ rfl (if_pos hc) ?_
        refine gRunN_ok hG.1 2 _ (75, [some (.ref 94), some (.int l1), some (.int l2), some (.int l3), none], [.long 1, .int l3, .ref 148], (gSh, s3, u)) rfl ?_
        exact j_Model_routeNet_j75_7 E d u hG l1 l2 l3 l3 1 s3 hP K1 K2
      · refine hG.1 _ (45, [some (.ref 94), some (.int l1), some (.int l2), some (.int l3), none], [.int l3, .ref 148], (gSh, s3, u)) _ rfl (if_neg hc) ?_
        refine gRunN_ok hG.1 2 _ (75, [some (.ref 94), some (.int l1), some (.int l2), some (.int l3), none], [.long 1152921504606846976, .int l3, .ref 148], (gSh, s3, u)) rfl ?_
        exact j_Model_routeNet_j75_7 E d u hG l1 l2 l3 l3 1152921504606846976 s3 hP K1 K2
    · refine hG.1 _ (51, [some (.ref 94), some (.int l1), some (.int l2), some (.int l3), none], [.int l3, .ref 148], (gSh, s3, u)) _ rfl (if_neg hc) ?_
      refine gRunN_ok hG.1 4 _ (57, [some (.ref 94), some (.int l1), some (.int l2), some (.int l3), none], [.int l3, .ref 146, .long 1, .int l3, .ref 148], (gSh, s3, u)) rfl ?_
      obtain ⟨hc, hP⟩ := g_if hP
      refine hG.1 _ (58, [some (.ref 94), some (.int l1), some (.int l2), some (.int l3), none], [.int (s3.1 146 l3.toNatClampNeg), .long 1, .int l3, .ref 148], (gSh, s3, u)) _ rfl (if_pos hc) ?_
      refine gRunN_ok hG.1 10 _ (70, [some (.ref 94), some (.int l1), some (.int l2), some (.int l3), none], [.int l3, .ref 147, .long ((l2.toInt64) - (1 : Int64)), .long 1, .long ((1 : Int64) + ((s3.1 146 l3.toNatClampNeg).toInt64)), .int l3, .ref 148], (gSh, s3, u)) rfl ?_
      obtain ⟨hc, hP⟩ := g_if hP
      refine hG.1 _ (71, [some (.ref 94), some (.int l1), some (.int l2), some (.int l3), none], [.int (s3.1 147 l3.toNatClampNeg), .long ((l2.toInt64) - (1 : Int64)), .long 1, .long ((1 : Int64) + ((s3.1 146 l3.toNatClampNeg).toInt64)), .int l3, .ref 148], (gSh, s3, u)) _ rfl (if_pos hc) ?_
      refine gRunN_ok hG.1 4 _ (75, [some (.ref 94), some (.int l1), some (.int l2), some (.int l3), none], [.long (((1 : Int64) + ((s3.1 146 l3.toNatClampNeg).toInt64)) * ((1 : Int64) + (((l2.toInt64) - (1 : Int64)) * ((s3.1 147 l3.toNatClampNeg).toInt64)))), .int l3, .ref 148], (gSh, s3, u)) rfl ?_
      exact j_Model_routeNet_j75_7 E d u hG l1 l2 l3 l3 (((1 : Int64) + ((s3.1 146 l3.toNatClampNeg).toInt64)) * ((1 : Int64) + (((l2.toInt64) - (1 : Int64)) * ((s3.1 147 l3.toNatClampNeg).toInt64)))) s3 hP K1 K2
theorem l_Model_routeNet_7 (E : gEv) (d u : Nat) {G : gFr → Prop} {vo : Option Value} {sr : gS} (hG : gClo E gDf gP18 gY245 none (gC E gDf gMs (d + 4)) (vo, (gSh, sr, u)) G) (l1 : Int32) (l2 : Int32) : ∀ (n : Nat) (l3 : Int32) (σ : gS) (e : (gS)), gIter (fun z => p_Model_routeNet_7 E l1 l2 z.1 z.2) n (l3, σ) = some e → (∀ (σ1 : gS), e = σ1 → G (82, [some (.ref 94), some (.int l1), none, none, none], [], (gSh, σ1, u))) → G (7, [some (.ref 94), some (.int l1), some (.int l2), some (.int l3), none], [], (gSh, σ, u)) := by
  intro n
  induction n with
  | zero => intro l3 σ e h; cases h
  | succ n ih =>
    intro l3 σ e h K2
    rcases g_iter h with ⟨z, h1, h2⟩ | h1
    · exact b_Model_routeNet_7 E d u hG l1 l2 l3 σ h1 (fun n0 n1 hz => by cases hz; exact ih _ _ e h2 K2) (fun _ hz => by cases hz)
    · exact b_Model_routeNet_7 E d u hG l1 l2 l3 σ h1 (fun _ _ hz => by cases hz) (fun σ1 hz => K2 σ1 (by cases hz; rfl))
def p_Model_routeNet_137 (E : gEv) (l1 : Int32) (l4 : Int32) (σ : gS) : Option ((Int32 × gS) ⊕ (gS)) :=
  if gIn (l1 + (1 : Int32)) (σ.2.1 130) then if (σ.1 130 (l1 + (1 : Int32)).toNatClampNeg) ≤ l4 then (some (.inr σ)) else (gB1 (p_Model_routeSink E l1 l4 σ) fun s17 => gLet (l4 + 1) fun x18 => some (.inl (x18, s17))) else none
set_option maxRecDepth 20000 in
theorem b_Model_routeNet_137 (E : gEv) (d u : Nat) {G : gFr → Prop} {vo : Option Value} {sr : gS} (hG : gClo E gDf gP18 gY245 none (gC E gDf gMs (d + 4)) (vo, (gSh, sr, u)) G) (l1 : Int32) (l4 : Int32) (σ : gS) {r : (Int32 × gS) ⊕ (gS)} (hP : p_Model_routeNet_137 E l1 l4 σ = some r) (K1 : ∀ (m4 : Int32) (σ1 : gS), r = .inl (m4, σ1) → G (137, [some (.ref 94), some (.int l1), none, none, some (.int m4)], [], (gSh, σ1, u))) (K2 : ∀ (σ1 : gS), r = .inr σ1 → G (163, [none, none, none, none, none], [], (gSh, σ1, u))) : G (137, [some (.ref 94), some (.int l1), none, none, some (.int l4)], [], (gSh, σ, u)) := by
  unfold p_Model_routeNet_137 at hP
  refine gRunN_ok hG.1 6 _ (146, [some (.ref 94), some (.int l1), none, none, some (.int l4)], [.int (l1 + (1 : Int32)), .ref 130, .int l4], (gSh, σ, u)) rfl ?_
  obtain ⟨hc, hP⟩ := g_if hP
  refine hG.1 _ (147, [some (.ref 94), some (.int l1), none, none, some (.int l4)], [.int (σ.1 130 (l1 + (1 : Int32)).toNatClampNeg), .int l4], (gSh, σ, u)) _ rfl (if_pos hc) ?_
  rcases g_ite hP with ⟨hc, hP⟩ | ⟨hc, hP⟩
  · refine hG.1 _ (163, [some (.ref 94), some (.int l1), none, none, some (.int l4)], [], (gSh, σ, u)) _ rfl (if_pos hc) ?_
    refine hG.2.2.2.2.1 _ _ [none, none, none, none, none] _ _ trivial ?_
    cases hP
    exact K2 _ rfl
  · refine hG.1 _ (150, [some (.ref 94), some (.int l1), none, none, some (.int l4)], [], (gSh, σ, u)) _ rfl (if_neg hc) ?_
    refine gRunN_ok hG.1 3 _ (154, [some (.ref 94), some (.int l1), none, none, some (.int l4)], [.int l4, .int l1, .ref 94], (gSh, σ, u)) rfl ?_
    obtain ⟨s17, hq, hP⟩ := g_b1 hP
    refine hG.2.2.2.1 _ _ _ [.ref 94, .int l1, .int l4] [] _ (gSh, s17, u) none _ _ _ _ _ _ rfl rfl rfl rfl rfl rfl (c_Model_routeSink E (d + 0) u l1 l4 _  hq) (Nat.le_refl _) (Nat.le_refl _) (Nat.le_refl _) (Nat.le_refl _) ?_
    show G (157, [some (.ref 94), some (.int l1), none, none, some (.int l4)], [], (gSh, s17, u))
    refine gRunN_ok hG.1 1 _ (160, [some (.ref 94), some (.int l1), none, none, some (.int (l4 + 1))], [], (gSh, s17, u)) rfl ?_
    obtain ⟨x18, ex18, hP⟩ := g_let hP
    rw [← ex18]
    refine gRunN_ok hG.1 1 _ (137, [some (.ref 94), some (.int l1), none, none, some (.int x18)], [], (gSh, s17, u)) rfl ?_
    cases hP
    exact K1 _ _ rfl
theorem l_Model_routeNet_137 (E : gEv) (d u : Nat) {G : gFr → Prop} {vo : Option Value} {sr : gS} (hG : gClo E gDf gP18 gY245 none (gC E gDf gMs (d + 4)) (vo, (gSh, sr, u)) G) (l1 : Int32) : ∀ (n : Nat) (l4 : Int32) (σ : gS) (e : (gS)), gIter (fun z => p_Model_routeNet_137 E l1 z.1 z.2) n (l4, σ) = some e → (∀ (σ1 : gS), e = σ1 → G (163, [none, none, none, none, none], [], (gSh, σ1, u))) → G (137, [some (.ref 94), some (.int l1), none, none, some (.int l4)], [], (gSh, σ, u)) := by
  intro n
  induction n with
  | zero => intro l4 σ e h; cases h
  | succ n ih =>
    intro l4 σ e h K2
    rcases g_iter h with ⟨z, h1, h2⟩ | h1
    · exact b_Model_routeNet_137 E d u hG l1 l4 σ h1 (fun n0 n1 hz => by cases hz; exact ih _ _ e h2 K2) (fun _ hz => by cases hz)
    · exact b_Model_routeNet_137 E d u hG l1 l4 σ h1 (fun _ _ hz => by cases hz) (fun σ1 hz => K2 σ1 (by cases hz; rfl))
def p_Model_routeNet_j129 (E : gEv) (l1 : Int32) (σ : gS) : Option (gS) :=
  if gIn l1 (σ.2.1 130) then gLet (σ.1 130 l1.toNatClampNeg) fun x15 => gB1 (gIter (fun z => p_Model_routeNet_137 E l1 z.1 z.2) gN (x15, σ)) fun e19 => (fun s20 => some s20) e19 else none
set_option maxRecDepth 20000 in
theorem j_Model_routeNet_j129 (E : gEv) (d u : Nat) {G : gFr → Prop} {sr : gS} (hG : gClo E gDf gP18 gY245 none (gC E gDf gMs (d + 4)) (none, (gSh, sr, u)) G) (l1 : Int32) (σ : gS) (hP : p_Model_routeNet_j129 E l1 σ = some sr) : G (129, [some (.ref 94), some (.int l1), none, none, none], [], (gSh, σ, u)) := by
  unfold p_Model_routeNet_j129 at hP
  refine gRunN_ok hG.1 3 _ (134, [some (.ref 94), some (.int l1), none, none, none], [.int l1, .ref 130], (gSh, σ, u)) rfl ?_
  obtain ⟨hc, hP⟩ := g_if hP
  refine hG.1 _ (135, [some (.ref 94), some (.int l1), none, none, none], [.int (σ.1 130 l1.toNatClampNeg)], (gSh, σ, u)) _ rfl (if_pos hc) ?_
  refine gRunN_ok hG.1 1 _ (137, [some (.ref 94), some (.int l1), none, none, some (.int (σ.1 130 l1.toNatClampNeg))], [], (gSh, σ, u)) rfl ?_
  obtain ⟨x15, ex15, hP⟩ := g_let hP
  rw [← ex15]
  obtain ⟨e19, hq, hP⟩ := g_b1 hP
  refine l_Model_routeNet_137 E d u hG l1 gN x15 σ _ hq (fun s20 he => ?_)
  · replace he := he.symm
    subst he
    try dsimp only [gSum] at hP
    cases hP
    exact hG.2.1 _ _ rfl rfl
def p_Model_routeNet (E : gEv) (a0 : Int32) (a1 : Int32) (σ : gS) : Option (gS) :=
  gB1 (p_Model_giveUp E a0 σ) fun s2 => gB1 (gIter (fun z => p_Model_routeNet_7 E a0 a1 z.1 z.2) gN (0, s2)) fun e6 => (fun s7 => if gIn a0 (s7.2.1 129) then gLet (s7.1 129 a0.toNatClampNeg) fun x8 => if (200 : Int32) ≤ x8 then (gB1 (p_Model_elementOf E x8 s7) fun v9 => gB1 (p_Model_tileOf E v9 s7) fun v11 => gB1 (p_Model_touchTile E 150 v11 s7) fun s14 => p_Model_routeNet_j129 E a0 s14) else (gB1 (p_Model_padOf E x8 s7) fun v21 => gB1 (p_Model_touchPad E 150 v21 s7) fun s24 => p_Model_routeNet_j129 E a0 s24) else none) e6
set_option maxRecDepth 20000 in
theorem c_Model_routeNet (E : gEv) (d u : Nat) (a0 : Int32) (a1 : Int32) (σ : gS) {sr : gS}  (hq : p_Model_routeNet E a0 a1 σ = some sr) : gC E gDf gMs (d + 5) 245 [.ref 94, .int a0, .int a1] (gSh, σ, u) (none, (gSh, sr, u)) := ⟨gM245, rfl, Nat.le_of_ble_eq_true rfl, fun G hG => by
  have hP := hq
  unfold p_Model_routeNet at hP
  replace hG : gClo E gDf gP18 gY245 none (gC E gDf gMs (d + 4)) (none, (gSh, sr, u)) G := hG
  show G (0, [some (.ref 94), some (.int a0), some (.int a1), none, none], [], (gSh, σ, u))
  refine gRunN_ok hG.1 2 _ (2, [some (.ref 94), some (.int a0), some (.int a1), none, none], [.int a0, .ref 94], (gSh, σ, u)) rfl ?_
  obtain ⟨s2, hq, hP⟩ := g_b1 hP
  refine hG.2.2.2.1 _ _ _ [.ref 94, .int a0] [] _ (gSh, s2, u) none _ _ _ _ _ _ rfl rfl rfl rfl rfl rfl (c_Model_giveUp E (d + 3) u a0 _  hq) (Nat.le_refl _) (Nat.le_refl _) (Nat.le_refl _) (Nat.le_refl _) ?_
  show G (5, [some (.ref 94), some (.int a0), some (.int a1), none, none], [], (gSh, s2, u))
  refine gRunN_ok hG.1 2 _ (7, [some (.ref 94), some (.int a0), some (.int a1), some (.int 0), none], [], (gSh, s2, u)) rfl ?_
  obtain ⟨e6, hq, hP⟩ := g_b1 hP
  refine l_Model_routeNet_7 E d u hG a0 a1 gN 0 s2 _ hq (fun s7 he => ?_)
  · replace he := he.symm
    subst he
    try dsimp only [gSum] at hP
    refine gRunN_ok hG.1 3 _ (87, [some (.ref 94), some (.int a0), none, none, none], [.int a0, .ref 129], (gSh, s7, u)) rfl ?_
    obtain ⟨hc, hP⟩ := g_if hP
    refine hG.1 _ (88, [some (.ref 94), some (.int a0), none, none, none], [.int (s7.1 129 a0.toNatClampNeg)], (gSh, s7, u)) _ rfl (if_pos hc) ?_
    refine gRunN_ok hG.1 1 _ (89, [some (.ref 94), some (.int a0), none, some (.int (s7.1 129 a0.toNatClampNeg)), none], [], (gSh, s7, u)) rfl ?_
    obtain ⟨x8, ex8, hP⟩ := g_let hP
    rw [← ex8]
    refine gRunN_ok hG.1 2 _ (93, [some (.ref 94), some (.int a0), none, some (.int x8), none], [.int 200, .int x8], (gSh, s7, u)) rfl ?_
    rcases g_ite hP with ⟨hc, hP⟩ | ⟨hc, hP⟩
    · refine hG.1 _ (112, [some (.ref 94), some (.int a0), none, some (.int x8), none], [], (gSh, s7, u)) _ rfl (if_pos hc) ?_
      refine gRunN_ok hG.1 6 _ (120, [some (.ref 94), some (.int a0), none, some (.int x8), none], [.int x8, .ref 94, .ref 94, .ref 150, .ref 94], (gSh, s7, u)) rfl ?_
      obtain ⟨v9, hq, hP⟩ := g_b1 hP
      refine hG.2.2.2.1 _ _ _ [.ref 94, .int x8] [.ref 94, .ref 150, .ref 94] _ (gSh, s7, u) (some (.int v9)) _ _ _ _ _ _ rfl rfl rfl rfl rfl rfl (c_Model_elementOf E (d + 3) u x8 _  hq) (Nat.le_refl _) (Nat.le_refl _) (Nat.le_refl _) (Nat.le_refl _) ?_
      show G (123, [some (.ref 94), some (.int a0), none, some (.int x8), none], [.int v9, .ref 94, .ref 150, .ref 94], (gSh, s7, u))
      obtain ⟨v11, hq, hP⟩ := g_b1 hP
      refine hG.2.2.2.1 _ _ _ [.ref 94, .int v9] [.ref 150, .ref 94] _ (gSh, s7, u) (some (.int v11)) _ _ _ _ _ _ rfl rfl rfl rfl rfl rfl (c_Model_tileOf E (d + 3) u v9 _  hq) (Nat.le_refl _) (Nat.le_refl _) (Nat.le_refl _) (Nat.le_refl _) ?_
      show G (126, [some (.ref 94), some (.int a0), none, some (.int x8), none], [.int v11, .ref 150, .ref 94], (gSh, s7, u))
      obtain ⟨s14, hq, hP⟩ := g_b1 hP
      refine hG.2.2.2.1 _ _ _ [.ref 94, .ref 150, .int v11] [] _ (gSh, s14, u) none _ _ _ _ _ _ rfl rfl rfl rfl rfl rfl (c_Model_touchTile E (d + 1) u 150 v11 _ rfl hq) (Nat.le_refl _) (Nat.le_refl _) (Nat.le_refl _) (Nat.le_refl _) ?_
      show G (129, [some (.ref 94), some (.int a0), none, some (.int x8), none], [], (gSh, s14, u))
      refine hG.2.2.2.2.1 _ _ [some (.ref 94), some (.int a0), none, none, none] _ _ ⟨rfl, ⟨rfl, trivial⟩⟩ ?_
      exact j_Model_routeNet_j129 E d u hG a0 s14 hP
    · refine hG.1 _ (96, [some (.ref 94), some (.int a0), none, some (.int x8), none], [], (gSh, s7, u)) _ rfl (if_neg hc) ?_
      refine gRunN_ok hG.1 5 _ (103, [some (.ref 94), some (.int a0), none, some (.int x8), none], [.int x8, .ref 94, .ref 150, .ref 94], (gSh, s7, u)) rfl ?_
      obtain ⟨v21, hq, hP⟩ := g_b1 hP
      refine hG.2.2.2.1 _ _ _ [.ref 94, .int x8] [.ref 150, .ref 94] _ (gSh, s7, u) (some (.int v21)) _ _ _ _ _ _ rfl rfl rfl rfl rfl rfl (c_Model_padOf E (d + 3) u x8 _  hq) (Nat.le_refl _) (Nat.le_refl _) (Nat.le_refl _) (Nat.le_refl _) ?_
      show G (106, [some (.ref 94), some (.int a0), none, some (.int x8), none], [.int v21, .ref 150, .ref 94], (gSh, s7, u))
      obtain ⟨s24, hq, hP⟩ := g_b1 hP
      refine hG.2.2.2.1 _ _ _ [.ref 94, .ref 150, .int v21] [] _ (gSh, s24, u) none _ _ _ _ _ _ rfl rfl rfl rfl rfl rfl (c_Model_touchPad E (d + 1) u 150 v21 _ rfl hq) (Nat.le_refl _) (Nat.le_refl _) (Nat.le_refl _) (Nat.le_refl _) ?_
      show G (109, [some (.ref 94), some (.int a0), none, some (.int x8), none], [], (gSh, s24, u))
      refine gRunN_ok hG.1 1 _ (129, [some (.ref 94), some (.int a0), none, some (.int x8), none], [], (gSh, s24, u)) rfl ?_
      refine hG.2.2.2.2.1 _ _ [some (.ref 94), some (.int a0), none, none, none] _ _ ⟨rfl, ⟨rfl, trivial⟩⟩ ?_
      exact j_Model_routeNet_j129 E d u hG a0 s24 hP⟩
def p_Model_burn (E : gEv) (σ : gS) : Option (Int32 × gS) :=
  if (σ.1 94 77) = 0 then (some (0, σ)) else (gB1 (p_Model_burnBits E σ) fun s2 => gB1 (p_Model_start E s2) fun s4 => some (1, s4))
set_option maxRecDepth 20000 in
theorem c_Model_burn (E : gEv) (d u : Nat) (σ : gS) {v : Int32} {sr : gS}  (hq : p_Model_burn E σ = some (v, sr)) : gC E gDf gMs (d + 5) 255 [.ref 94] (gSh, σ, u) (some (.int v), (gSh, sr, u)) := ⟨gM255, rfl, Nat.le_of_ble_eq_true rfl, fun G hG => by
  have hP := hq
  unfold p_Model_burn at hP
  replace hG : gClo E gDf gP18 gY255 (some .boolean) (gC E gDf gMs (d + 4)) (some (.int v), (gSh, sr, u)) G := hG
  show G (0, [some (.ref 94)], [], (gSh, σ, u))
  refine gRunN_ok hG.1 2 _ (4, [some (.ref 94)], [.int (σ.1 94 77)], (gSh, σ, u)) rfl ?_
  rcases g_ite hP with ⟨hc, hP⟩ | ⟨hc, hP⟩
  · refine hG.1 _ (7, [some (.ref 94)], [], (gSh, σ, u)) _ rfl (if_pos hc) ?_
    refine gRunN_ok hG.1 1 _ (8, [some (.ref 94)], [.int 0], (gSh, σ, u)) rfl ?_
    cases hP
    exact hG.2.1 _ _ rfl rfl
  · refine hG.1 _ (9, [some (.ref 94)], [], (gSh, σ, u)) _ rfl (if_neg hc) ?_
    refine gRunN_ok hG.1 1 _ (10, [some (.ref 94)], [.ref 94], (gSh, σ, u)) rfl ?_
    obtain ⟨s2, hq, hP⟩ := g_b1 hP
    refine hG.2.2.2.1 _ _ _ [.ref 94] [] _ (gSh, s2, u) none _ _ _ _ _ _ rfl rfl rfl rfl rfl rfl (c_Model_burnBits E (d + 0) u _  hq) (Nat.le_refl _) (Nat.le_refl _) (Nat.le_refl _) (Nat.le_refl _) ?_
    show G (13, [some (.ref 94)], [], (gSh, s2, u))
    refine gRunN_ok hG.1 1 _ (14, [some (.ref 94)], [.ref 94], (gSh, s2, u)) rfl ?_
    obtain ⟨s4, hq, hP⟩ := g_b1 hP
    refine hG.2.2.2.1 _ _ _ [.ref 94] [] _ (gSh, s4, u) none _ _ _ _ _ _ rfl rfl rfl rfl rfl rfl (c_Model_start E (d + 3) u _  hq) (Nat.le_refl _) (Nat.le_refl _) (Nat.le_refl _) (Nat.le_refl _) ?_
    show G (17, [some (.ref 94)], [], (gSh, s4, u))
    refine gRunN_ok hG.1 1 _ (18, [some (.ref 94)], [.int 1], (gSh, s4, u)) rfl ?_
    cases hP
    exact hG.2.1 _ _ rfl rfl⟩
def p_Model_tick_j100_50 (E : gEv) (l1 : Int32) (l2 : Int32) (l3 : Int32) (l4 : Int32) (y1 : Int32) (y2 : Int32) (σ : gS) : Option ((Int32 × gS) ⊕ (gS)) :=
  if gIn y1 (σ.2.1 155) then gLet (gPut σ 155 y1.toNatClampNeg (vp_nar .boolean y2)) fun s3 => gLet (l4 + 1) fun x4 => some (.inl (x4, s3)) else none
set_option maxRecDepth 20000 in
theorem j_Model_tick_j100_50 (E : gEv) (d u : Nat) {G : gFr → Prop} {vo : Option Value} {sr : gS} (hG : gClo E gDf gP18 gY265 (some .int) (gC E gDf gMs (d + 4)) (vo, (gSh, sr, u)) G) (l1 : Int32) (l2 : Int32) (l3 : Int32) (l4 : Int32) (y1 : Int32) (y2 : Int32) (σ : gS) {r : (Int32 × gS) ⊕ (gS)} (hP : p_Model_tick_j100_50 E l1 l2 l3 l4 y1 y2 σ = some r) (K1 : ∀ (m4 : Int32) (σ1 : gS), r = .inl (m4, σ1) → G (50, [some (.ref 94), some (.int l1), some (.int l2), some (.int l3), some (.int m4)], [], (gSh, σ1, u))) (K2 : ∀ (σ1 : gS), r = .inr σ1 → G (107, [some (.ref 94), some (.int l1), some (.int l2), some (.int l3), none], [], (gSh, σ1, u))) : G (100, [some (.ref 94), some (.int l1), some (.int l2), some (.int l3), some (.int l4)], [.int y2, .int y1, .ref 155], (gSh, σ, u)) := by
  unfold p_Model_tick_j100_50 at hP
  obtain ⟨hc, hP⟩ := g_if hP
  refine hG.1 _ (101, [some (.ref 94), some (.int l1), some (.int l2), some (.int l3), some (.int l4)], [], (gSh, (gPut σ 155 y1.toNatClampNeg (vp_nar .boolean y2)), u)) _ rfl (if_pos hc) ?_
  obtain ⟨s3, es3, hP⟩ := g_let hP
  rw [← es3]
  refine gRunN_ok hG.1 1 _ (104, [some (.ref 94), some (.int l1), some (.int l2), some (.int l3), some (.int (l4 + 1))], [], (gSh, s3, u)) rfl ?_
  obtain ⟨x4, ex4, hP⟩ := g_let hP
  rw [← ex4]
  refine gRunN_ok hG.1 1 _ (50, [some (.ref 94), some (.int l1), some (.int l2), some (.int l3), some (.int x4)], [], (gSh, s3, u)) rfl ?_
  cases hP
  exact K1 _ _ rfl
def p_Model_tick_50 (E : gEv) (l1 : Int32) (l2 : Int32) (l3 : Int32) (l4 : Int32) (σ : gS) : Option ((Int32 × gS) ⊕ (gS)) :=
  if (σ.1 94 5) ≤ l4 then (some (.inr σ)) else (if gIn ((l4 * (σ.1 94 9)) + (16 : Int32)) (σ.2.1 154) then if (σ.1 154 ((l4 * (σ.1 94 9)) + (16 : Int32)).toNatClampNeg) = 0 then (if gIn l4 (σ.2.1 155) then p_Model_tick_j100_50 E l1 l2 l3 l4 l4 (σ.1 155 l4.toNatClampNeg) σ else none) else (if gIn l4 (σ.2.1 156) then p_Model_tick_j100_50 E l1 l2 l3 l4 l4 (σ.1 156 l4.toNatClampNeg) σ else none) else none)
set_option maxRecDepth 20000 in
theorem b_Model_tick_50 (E : gEv) (d u : Nat) {G : gFr → Prop} {vo : Option Value} {sr : gS} (hG : gClo E gDf gP18 gY265 (some .int) (gC E gDf gMs (d + 4)) (vo, (gSh, sr, u)) G) (l1 : Int32) (l2 : Int32) (l3 : Int32) (l4 : Int32) (σ : gS) {r : (Int32 × gS) ⊕ (gS)} (hP : p_Model_tick_50 E l1 l2 l3 l4 σ = some r) (K1 : ∀ (m4 : Int32) (σ1 : gS), r = .inl (m4, σ1) → G (50, [some (.ref 94), some (.int l1), some (.int l2), some (.int l3), some (.int m4)], [], (gSh, σ1, u))) (K2 : ∀ (σ1 : gS), r = .inr σ1 → G (107, [some (.ref 94), some (.int l1), some (.int l2), some (.int l3), none], [], (gSh, σ1, u))) : G (50, [some (.ref 94), some (.int l1), some (.int l2), some (.int l3), some (.int l4)], [], (gSh, σ, u)) := by
  unfold p_Model_tick_50 at hP
  refine gRunN_ok hG.1 3 _ (56, [some (.ref 94), some (.int l1), some (.int l2), some (.int l3), some (.int l4)], [.int (σ.1 94 5), .int l4], (gSh, σ, u)) rfl ?_
  rcases g_ite hP with ⟨hc, hP⟩ | ⟨hc, hP⟩
  · refine hG.1 _ (107, [some (.ref 94), some (.int l1), some (.int l2), some (.int l3), some (.int l4)], [], (gSh, σ, u)) _ rfl (if_pos hc) ?_
    refine hG.2.2.2.2.1 _ _ [some (.ref 94), some (.int l1), some (.int l2), some (.int l3), none] _ _ ⟨rfl, ⟨rfl, ⟨rfl, ⟨rfl, trivial⟩⟩⟩⟩ ?_
    cases hP
    exact K2 _ rfl
  · refine hG.1 _ (59, [some (.ref 94), some (.int l1), some (.int l2), some (.int l3), some (.int l4)], [], (gSh, σ, u)) _ rfl (if_neg hc) ?_
    refine gRunN_ok hG.1 11 _ (79, [some (.ref 94), some (.int l1), some (.int l2), some (.int l3), some (.int l4)], [.int ((l4 * (σ.1 94 9)) + (16 : Int32)), .ref 154, .int l4, .ref 155], (gSh, σ, u)) rfl ?_
    obtain ⟨hc, hP⟩ := g_if hP
    refine hG.1 _ (80, [some (.ref 94), some (.int l1), some (.int l2), some (.int l3), some (.int l4)], [.int (σ.1 154 ((l4 * (σ.1 94 9)) + (16 : Int32)).toNatClampNeg), .int l4, .ref 155], (gSh, σ, u)) _ rfl (if_pos hc) ?_
    rcases g_ite hP with ⟨hc, hP⟩ | ⟨hc, hP⟩
    · refine hG.1 _ (93, [some (.ref 94), some (.int l1), some (.int l2), some (.int l3), some (.int l4)], [.int l4, .ref 155], (gSh, σ, u)) _ rfl (if_pos hc) ?_
      refine gRunN_ok hG.1 3 _ (99, [some (.ref 94), some (.int l1), some (.int l2), some (.int l3), some (.int l4)], [.int l4, .ref 155, .int l4, .ref 155], (gSh, σ, u)) rfl ?_
      obtain ⟨hc, hP⟩ := g_if hP
      refine hG.1 _ (100, [some (.ref 94), some (.int l1), some (.int l2), some (.int l3), some (.int l4)], [.int (σ.1 155 l4.toNatClampNeg), .int l4, .ref 155], (gSh, σ, u)) _ rfl (if_pos hc) ?_
      exact j_Model_tick_j100_50 E d u hG l1 l2 l3 l4 l4 (σ.1 155 l4.toNatClampNeg) σ hP K1 K2
    · refine hG.1 _ (83, [some (.ref 94), some (.int l1), some (.int l2), some (.int l3), some (.int l4)], [.int l4, .ref 155], (gSh, σ, u)) _ rfl (if_neg hc) ?_
      refine gRunN_ok hG.1 3 _ (89, [some (.ref 94), some (.int l1), some (.int l2), some (.int l3), some (.int l4)], [.int l4, .ref 156, .int l4, .ref 155], (gSh, σ, u)) rfl ?_
      obtain ⟨hc, hP⟩ := g_if hP
      refine hG.1 _ (90, [some (.ref 94), some (.int l1), some (.int l2), some (.int l3), some (.int l4)], [.int (σ.1 156 l4.toNatClampNeg), .int l4, .ref 155], (gSh, σ, u)) _ rfl (if_pos hc) ?_
      refine gRunN_ok hG.1 1 _ (100, [some (.ref 94), some (.int l1), some (.int l2), some (.int l3), some (.int l4)], [.int (σ.1 156 l4.toNatClampNeg), .int l4, .ref 155], (gSh, σ, u)) rfl ?_
      exact j_Model_tick_j100_50 E d u hG l1 l2 l3 l4 l4 (σ.1 156 l4.toNatClampNeg) σ hP K1 K2
theorem l_Model_tick_50 (E : gEv) (d u : Nat) {G : gFr → Prop} {vo : Option Value} {sr : gS} (hG : gClo E gDf gP18 gY265 (some .int) (gC E gDf gMs (d + 4)) (vo, (gSh, sr, u)) G) (l1 : Int32) (l2 : Int32) (l3 : Int32) : ∀ (n : Nat) (l4 : Int32) (σ : gS) (e : (gS)), gIter (fun z => p_Model_tick_50 E l1 l2 l3 z.1 z.2) n (l4, σ) = some e → (∀ (σ1 : gS), e = σ1 → G (107, [some (.ref 94), some (.int l1), some (.int l2), some (.int l3), none], [], (gSh, σ1, u))) → G (50, [some (.ref 94), some (.int l1), some (.int l2), some (.int l3), some (.int l4)], [], (gSh, σ, u)) := by
  intro n
  induction n with
  | zero => intro l4 σ e h; cases h
  | succ n ih =>
    intro l4 σ e h K2
    rcases g_iter h with ⟨z, h1, h2⟩ | h1
    · exact b_Model_tick_50 E d u hG l1 l2 l3 l4 σ h1 (fun n0 n1 hz => by cases hz; exact ih _ _ e h2 K2) (fun _ hz => by cases hz)
    · exact b_Model_tick_50 E d u hG l1 l2 l3 l4 σ h1 (fun _ _ hz => by cases hz) (fun σ1 hz => K2 σ1 (by cases hz; rfl))
def p_Model_tick_j42_17 (E : gEv) (l1 : Int32) (l2 : Int32) (y0 : Int32) (σ : gS) : Option ((Int32 × Int32 × gS) ⊕ (Int32 × gS)) :=
  if y0 = 0 then (some (.inl (l2, y0, σ))) else (gB1 (gIter (fun z => p_Model_tick_50 E l1 l2 y0 z.1 z.2) gN (0, σ)) fun e5 => (fun s6 => gLet (gPut s6 94 97 0) fun s7 => gLet (l2 + 1) fun x8 => gLet (gPut s7 94 99 ((s7.1 94 99) + (1 : Int32))) fun s9 => some (.inl (x8, y0, s9))) e5)
set_option maxRecDepth 20000 in
theorem j_Model_tick_j42_17 (E : gEv) (d u : Nat) {G : gFr → Prop} {vo : Option Value} {sr : gS} (hG : gClo E gDf gP18 gY265 (some .int) (gC E gDf gMs (d + 4)) (vo, (gSh, sr, u)) G) (l1 : Int32) (l2 : Int32) (y0 : Int32) (σ : gS) {r : (Int32 × Int32 × gS) ⊕ (Int32 × gS)} (hP : p_Model_tick_j42_17 E l1 l2 y0 σ = some r) (K1 : ∀ (m2 : Int32) (m3 : Int32) (σ1 : gS), r = .inl (m2, m3, σ1) → G (17, [some (.ref 94), some (.int l1), some (.int m2), some (.int m3), none], [], (gSh, σ1, u))) (K2 : ∀ (m2 : Int32) (σ1 : gS), r = .inr (m2, σ1) → G (128, [none, none, some (.int m2), none, none], [], (gSh, σ1, u))) : G (42, [some (.ref 94), some (.int l1), some (.int l2), none, none], [.int y0], (gSh, σ, u)) := by
  unfold p_Model_tick_j42_17 at hP
  refine gRunN_ok hG.1 2 _ (44, [some (.ref 94), some (.int l1), some (.int l2), some (.int y0), none], [.int y0], (gSh, σ, u)) rfl ?_
  rcases g_ite hP with ⟨hc, hP⟩ | ⟨hc, hP⟩
  · refine hG.1 _ (17, [some (.ref 94), some (.int l1), some (.int l2), some (.int y0), none], [], (gSh, σ, u)) _ rfl (if_pos hc) ?_
    cases hP
    exact K1 _ _ _ rfl
  · refine hG.1 _ (47, [some (.ref 94), some (.int l1), some (.int l2), some (.int y0), none], [], (gSh, σ, u)) _ rfl (if_neg hc) ?_
    refine gRunN_ok hG.1 2 _ (50, [some (.ref 94), some (.int l1), some (.int l2), some (.int y0), some (.int 0)], [], (gSh, σ, u)) rfl ?_
    obtain ⟨e5, hq, hP⟩ := g_b1 hP
    refine l_Model_tick_50 E d u hG l1 l2 y0 gN 0 σ _ hq (fun s6 he => ?_)
    · replace he := he.symm
      subst he
      try dsimp only [gSum] at hP
      refine gRunN_ok hG.1 3 _ (112, [some (.ref 94), some (.int l1), some (.int l2), some (.int y0), none], [], (gSh, (gPut s6 94 97 0), u)) rfl ?_
      obtain ⟨s7, es7, hP⟩ := g_let hP
      rw [← es7]
      refine gRunN_ok hG.1 1 _ (115, [some (.ref 94), some (.int l1), some (.int (l2 + 1)), some (.int y0), none], [], (gSh, s7, u)) rfl ?_
      obtain ⟨x8, ex8, hP⟩ := g_let hP
      rw [← ex8]
      refine gRunN_ok hG.1 6 _ (125, [some (.ref 94), some (.int l1), some (.int x8), some (.int y0), none], [], (gSh, (gPut s7 94 99 ((s7.1 94 99) + (1 : Int32))), u)) rfl ?_
      obtain ⟨s9, es9, hP⟩ := g_let hP
      rw [← es9]
      refine gRunN_ok hG.1 1 _ (17, [some (.ref 94), some (.int l1), some (.int x8), some (.int y0), none], [], (gSh, s9, u)) rfl ?_
      cases hP
      exact K1 _ _ _ rfl
def p_Model_tick_17 (E : gEv) (l1 : Int32) (l2 : Int32) (l3 : Int32) (σ : gS) : Option ((Int32 × Int32 × gS) ⊕ (Int32 × gS)) :=
  if l1 ≤ l2 then (some (.inr (l2, σ))) else (if l3 = 0 then (some (.inr (l2, σ))) else (gB1 (p_Model_settle E σ) fun s2 => if (s2.1 94 98) = 0 then (p_Model_tick_j42_17 E l1 l2 1 s2) else (p_Model_tick_j42_17 E l1 l2 0 s2)))
set_option maxRecDepth 20000 in
theorem b_Model_tick_17 (E : gEv) (d u : Nat) {G : gFr → Prop} {vo : Option Value} {sr : gS} (hG : gClo E gDf gP18 gY265 (some .int) (gC E gDf gMs (d + 4)) (vo, (gSh, sr, u)) G) (l1 : Int32) (l2 : Int32) (l3 : Int32) (σ : gS) {r : (Int32 × Int32 × gS) ⊕ (Int32 × gS)} (hP : p_Model_tick_17 E l1 l2 l3 σ = some r) (K1 : ∀ (m2 : Int32) (m3 : Int32) (σ1 : gS), r = .inl (m2, m3, σ1) → G (17, [some (.ref 94), some (.int l1), some (.int m2), some (.int m3), none], [], (gSh, σ1, u))) (K2 : ∀ (m2 : Int32) (σ1 : gS), r = .inr (m2, σ1) → G (128, [none, none, some (.int m2), none, none], [], (gSh, σ1, u))) : G (17, [some (.ref 94), some (.int l1), some (.int l2), some (.int l3), none], [], (gSh, σ, u)) := by
  unfold p_Model_tick_17 at hP
  refine gRunN_ok hG.1 2 _ (19, [some (.ref 94), some (.int l1), some (.int l2), some (.int l3), none], [.int l1, .int l2], (gSh, σ, u)) rfl ?_
  rcases g_ite hP with ⟨hc, hP⟩ | ⟨hc, hP⟩
  · refine hG.1 _ (128, [some (.ref 94), some (.int l1), some (.int l2), some (.int l3), none], [], (gSh, σ, u)) _ rfl (if_pos hc) ?_
    refine hG.2.2.2.2.1 _ _ [none, none, some (.int l2), none, none] _ _ ⟨rfl, trivial⟩ ?_
    cases hP
    exact K2 _ _ rfl
  · refine hG.1 _ (22, [some (.ref 94), some (.int l1), some (.int l2), some (.int l3), none], [], (gSh, σ, u)) _ rfl (if_neg hc) ?_
    refine gRunN_ok hG.1 1 _ (23, [some (.ref 94), some (.int l1), some (.int l2), some (.int l3), none], [.int l3], (gSh, σ, u)) rfl ?_
    rcases g_ite hP with ⟨hc, hP⟩ | ⟨hc, hP⟩
    · refine hG.1 _ (128, [some (.ref 94), some (.int l1), some (.int l2), some (.int l3), none], [], (gSh, σ, u)) _ rfl (if_pos hc) ?_
      refine hG.2.2.2.2.1 _ _ [none, none, some (.int l2), none, none] _ _ ⟨rfl, trivial⟩ ?_
      cases hP
      exact K2 _ _ rfl
    · refine hG.1 _ (26, [some (.ref 94), some (.int l1), some (.int l2), some (.int l3), none], [], (gSh, σ, u)) _ rfl (if_neg hc) ?_
      refine gRunN_ok hG.1 1 _ (27, [some (.ref 94), some (.int l1), some (.int l2), some (.int l3), none], [.ref 94], (gSh, σ, u)) rfl ?_
      obtain ⟨s2, hq, hP⟩ := g_b1 hP
      refine hG.2.2.2.1 _ _ _ [.ref 94] [] _ (gSh, s2, u) none _ _ _ _ _ _ rfl rfl rfl rfl rfl rfl (c_Model_settle E (d + 0) u _  hq) (Nat.le_refl _) (Nat.le_refl _) (Nat.le_refl _) (Nat.le_refl _) ?_
      show G (30, [some (.ref 94), some (.int l1), some (.int l2), some (.int l3), none], [], (gSh, s2, u))
      refine gRunN_ok hG.1 2 _ (34, [some (.ref 94), some (.int l1), some (.int l2), some (.int l3), none], [.int (s2.1 94 98)], (gSh, s2, u)) rfl ?_
      rcases g_ite hP with ⟨hc, hP⟩ | ⟨hc, hP⟩
      · refine hG.1 _ (37, [some (.ref 94), some (.int l1), some (.int l2), some (.int l3), none], [], (gSh, s2, u)) _ rfl (if_pos hc) ?_
        refine gRunN_ok hG.1 2 _ (42, [some (.ref 94), some (.int l1), some (.int l2), some (.int l3), none], [.int 1], (gSh, s2, u)) rfl ?_
        refine hG.2.2.2.2.1 _ _ [some (.ref 94), some (.int l1), some (.int l2), none, none] _ _ ⟨rfl, ⟨rfl, ⟨rfl, trivial⟩⟩⟩ ?_
        exact j_Model_tick_j42_17 E d u hG l1 l2 1 s2 hP K1 K2
      · refine hG.1 _ (41, [some (.ref 94), some (.int l1), some (.int l2), some (.int l3), none], [], (gSh, s2, u)) _ rfl (if_neg hc) ?_
        refine gRunN_ok hG.1 1 _ (42, [some (.ref 94), some (.int l1), some (.int l2), some (.int l3), none], [.int 0], (gSh, s2, u)) rfl ?_
        refine hG.2.2.2.2.1 _ _ [some (.ref 94), some (.int l1), some (.int l2), none, none] _ _ ⟨rfl, ⟨rfl, ⟨rfl, trivial⟩⟩⟩ ?_
        exact j_Model_tick_j42_17 E d u hG l1 l2 0 s2 hP K1 K2
theorem l_Model_tick_17 (E : gEv) (d u : Nat) {G : gFr → Prop} {vo : Option Value} {sr : gS} (hG : gClo E gDf gP18 gY265 (some .int) (gC E gDf gMs (d + 4)) (vo, (gSh, sr, u)) G) (l1 : Int32) : ∀ (n : Nat) (l2 : Int32) (l3 : Int32) (σ : gS) (e : (Int32 × gS)), gIter (fun z => p_Model_tick_17 E l1 z.1 z.2.1 z.2.2) n (l2, l3, σ) = some e → (∀ (m2 : Int32) (σ1 : gS), e = (m2, σ1) → G (128, [none, none, some (.int m2), none, none], [], (gSh, σ1, u))) → G (17, [some (.ref 94), some (.int l1), some (.int l2), some (.int l3), none], [], (gSh, σ, u)) := by
  intro n
  induction n with
  | zero => intro l2 l3 σ e h; cases h
  | succ n ih =>
    intro l2 l3 σ e h K2
    rcases g_iter h with ⟨z, h1, h2⟩ | h1
    · exact b_Model_tick_17 E d u hG l1 l2 l3 σ h1 (fun n0 n1 n2 hz => by cases hz; exact ih _ _ _ e h2 K2) (fun _ _ hz => by cases hz)
    · exact b_Model_tick_17 E d u hG l1 l2 l3 σ h1 (fun _ _ _ hz => by cases hz) (fun m2 σ1 hz => K2 m2 σ1 (by cases hz; rfl))
def p_Model_tick (E : gEv) (a0 : Int32) (σ : gS) : Option (Int32 × gS) :=
  if a0 < 0 then (some ((-1), σ)) else (if a0 ≤ (1000 : Int32) then (gB1 (gIter (fun z => p_Model_tick_17 E a0 z.1 z.2.1 z.2.2) gN (0, 1, σ)) fun e10 => (fun w11 s12 => some (w11, s12)) e10.1 e10.2) else (some ((-1), σ)))
set_option maxRecDepth 20000 in
theorem c_Model_tick (E : gEv) (d u : Nat) (a0 : Int32) (σ : gS) {v : Int32} {sr : gS}  (hq : p_Model_tick E a0 σ = some (v, sr)) : gC E gDf gMs (d + 5) 265 [.ref 94, .int a0] (gSh, σ, u) (some (.int v), (gSh, sr, u)) := ⟨gM265, rfl, Nat.le_of_ble_eq_true rfl, fun G hG => by
  have hP := hq
  unfold p_Model_tick at hP
  replace hG : gClo E gDf gP18 gY265 (some .int) (gC E gDf gMs (d + 4)) (some (.int v), (gSh, sr, u)) G := hG
  show G (0, [some (.ref 94), some (.int a0), none, none, none], [], (gSh, σ, u))
  refine gRunN_ok hG.1 1 _ (1, [some (.ref 94), some (.int a0), none, none, none], [.int a0], (gSh, σ, u)) rfl ?_
  rcases g_ite hP with ⟨hc, hP⟩ | ⟨hc, hP⟩
  · refine hG.1 _ (11, [some (.ref 94), some (.int a0), none, none, none], [], (gSh, σ, u)) _ rfl (if_pos hc) ?_
    refine gRunN_ok hG.1 1 _ (12, [some (.ref 94), some (.int a0), none, none, none], [.int (-1)], (gSh, σ, u)) rfl ?_
    cases hP
    exact hG.2.1 _ _ rfl rfl
  · refine hG.1 _ (4, [some (.ref 94), some (.int a0), none, none, none], [], (gSh, σ, u)) _ rfl (if_neg hc) ?_
    refine gRunN_ok hG.1 2 _ (8, [some (.ref 94), some (.int a0), none, none, none], [.int 1000, .int a0], (gSh, σ, u)) rfl ?_
    rcases g_ite hP with ⟨hc, hP⟩ | ⟨hc, hP⟩
    · refine hG.1 _ (13, [some (.ref 94), some (.int a0), none, none, none], [], (gSh, σ, u)) _ rfl (if_pos hc) ?_
      refine gRunN_ok hG.1 4 _ (17, [some (.ref 94), some (.int a0), some (.int 0), some (.int 1), none], [], (gSh, σ, u)) rfl ?_
      obtain ⟨e10, hq, hP⟩ := g_b1 hP
      refine l_Model_tick_17 E d u hG a0 gN 0 1 σ _ hq (fun w11 s12 he => ?_)
      · subst he
        try dsimp only [gSum] at hP
        refine gRunN_ok hG.1 1 _ (129, [none, none, some (.int w11), none, none], [.int w11], (gSh, s12, u)) rfl ?_
        cases hP
        exact hG.2.1 _ _ rfl rfl
    · refine hG.1 _ (11, [some (.ref 94), some (.int a0), none, none, none], [], (gSh, σ, u)) _ rfl (if_neg hc) ?_
      refine gRunN_ok hG.1 1 _ (12, [some (.ref 94), some (.int a0), none, none, none], [.int (-1)], (gSh, σ, u)) rfl ?_
      cases hP
      exact hG.2.1 _ _ rfl rfl⟩
def p_Model_probe_j224 (E : gEv) (y2 : Int32) (y3 : Int32) (σ : gS) : Option (Int32 × gS) :=
  gB1 (p_Model_padWire E y2 y3 σ) fun v12 => if gIn v12 (σ.2.1 159) then if (σ.1 159 v12.toNatClampNeg) = 0 then (some (0, σ)) else (some (1, σ)) else none
set_option maxRecDepth 20000 in
theorem j_Model_probe_j224 (E : gEv) (d u : Nat) {G : gFr → Prop} {v : Int32} {sr : gS} (hG : gClo E gDf gP18 gY271 (some .int) (gC E gDf gMs (d + 4)) (some (.int v), (gSh, sr, u)) G) (y2 : Int32) (y3 : Int32) (σ : gS) (hP : p_Model_probe_j224 E y2 y3 σ = some (v, sr)) : G (224, [none, none, none, none, none], [.int y3, .int y2, .ref 94, .ref 159], (gSh, σ, u)) := by
  unfold p_Model_probe_j224 at hP
  obtain ⟨v12, hq, hP⟩ := g_b1 hP
  refine hG.2.2.2.1 _ _ _ [.ref 94, .int y2, .int y3] [.ref 159] _ (gSh, σ, u) (some (.int v12)) _ _ _ _ _ _ rfl rfl rfl rfl rfl rfl (c_Model_padWire E (d + 2) u y2 y3 _  hq) (Nat.le_refl _) (Nat.le_refl _) (Nat.le_refl _) (Nat.le_refl _) ?_
  show G (227, [none, none, none, none, none], [.int v12, .ref 159], (gSh, σ, u))
  obtain ⟨hc, hP⟩ := g_if hP
  refine hG.1 _ (228, [none, none, none, none, none], [.int (σ.1 159 v12.toNatClampNeg)], (gSh, σ, u)) _ rfl (if_pos hc) ?_
  rcases g_ite hP with ⟨hc, hP⟩ | ⟨hc, hP⟩
  · refine hG.1 _ (235, [none, none, none, none, none], [], (gSh, σ, u)) _ rfl (if_pos hc) ?_
    refine gRunN_ok hG.1 1 _ (236, [none, none, none, none, none], [.int 0], (gSh, σ, u)) rfl ?_
    cases hP
    exact hG.2.1 _ _ rfl rfl
  · refine hG.1 _ (231, [none, none, none, none, none], [], (gSh, σ, u)) _ rfl (if_neg hc) ?_
    refine gRunN_ok hG.1 2 _ (236, [none, none, none, none, none], [.int 1], (gSh, σ, u)) rfl ?_
    cases hP
    exact hG.2.1 _ _ rfl rfl
def p_Model_probe_j218 (E : gEv) (y2 : Int32) (σ : gS) : Option (Int32 × gS) :=
  p_Model_probe_j224 E y2 0 σ
set_option maxRecDepth 20000 in
theorem j_Model_probe_j218 (E : gEv) (d u : Nat) {G : gFr → Prop} {v : Int32} {sr : gS} (hG : gClo E gDf gP18 gY271 (some .int) (gC E gDf gMs (d + 4)) (some (.int v), (gSh, sr, u)) G) (y2 : Int32) (σ : gS) (hP : p_Model_probe_j218 E y2 σ = some (v, sr)) : G (218, [none, none, none, none, none], [.int y2, .ref 94, .ref 159], (gSh, σ, u)) := by
  unfold p_Model_probe_j218 at hP
  refine gRunN_ok hG.1 2 _ (224, [none, none, none, none, none], [.int 0, .int y2, .ref 94, .ref 159], (gSh, σ, u)) rfl ?_
  exact j_Model_probe_j224 E d u hG y2 0 σ hP
def p_Model_probe_j106 (E : gEv) (l1 : Int32) (l2 : Int32) (σ : gS) : Option (Int32 × gS) :=
  gB1 (p_Model_settle E σ) fun s4 => if (s4.1 94 98) = 0 then (gB1 (p_Model_spread E s4) fun s6 => if l1 = 0 then (if gIn l2 (s6.2.1 159) then if (s6.1 159 l2.toNatClampNeg) = 0 then (some (0, s6)) else (some (1, s6)) else none) else (if l1 = (2 : Int32) then (gB1 (p_Model_outNow E l2 s6) fun v7 => if v7 = 0 then (some (0, s6)) else (some (1, s6))) else (gB1 (p_Model_bitsAt E (((s6.1 94 11) + (l2 * (s6.1 94 10))) + (2 : Int32)) 4 s6) fun v9 => gLet (v9 - (1 : Int32)) fun x11 => if x11 < 0 then (some (0, s6)) else (if (s6.1 94 3) ≤ x11 then (some (0, s6)) else (if x11 < 0 then (p_Model_probe_j218 E l2 s6) else (if x11 < (s6.1 94 3) then (p_Model_probe_j224 E l2 x11 s6) else (p_Model_probe_j218 E l2 s6))))))) else (some ((-2), s4))
set_option maxRecDepth 20000 in
theorem j_Model_probe_j106 (E : gEv) (d u : Nat) {G : gFr → Prop} {v : Int32} {sr : gS} (hG : gClo E gDf gP18 gY271 (some .int) (gC E gDf gMs (d + 4)) (some (.int v), (gSh, sr, u)) G) (l1 : Int32) (l2 : Int32) (σ : gS) (hP : p_Model_probe_j106 E l1 l2 σ = some (v, sr)) : G (106, [some (.ref 94), some (.int l1), some (.int l2), none, none], [], (gSh, σ, u)) := by
  unfold p_Model_probe_j106 at hP
  refine gRunN_ok hG.1 1 _ (107, [some (.ref 94), some (.int l1), some (.int l2), none, none], [.ref 94], (gSh, σ, u)) rfl ?_
  obtain ⟨s4, hq, hP⟩ := g_b1 hP
  refine hG.2.2.2.1 _ _ _ [.ref 94] [] _ (gSh, s4, u) none _ _ _ _ _ _ rfl rfl rfl rfl rfl rfl (c_Model_settle E (d + 0) u _  hq) (Nat.le_refl _) (Nat.le_refl _) (Nat.le_refl _) (Nat.le_refl _) ?_
  show G (110, [some (.ref 94), some (.int l1), some (.int l2), none, none], [], (gSh, s4, u))
  refine gRunN_ok hG.1 2 _ (114, [some (.ref 94), some (.int l1), some (.int l2), none, none], [.int (s4.1 94 98)], (gSh, s4, u)) rfl ?_
  rcases g_ite hP with ⟨hc, hP⟩ | ⟨hc, hP⟩
  · refine hG.1 _ (120, [some (.ref 94), some (.int l1), some (.int l2), none, none], [], (gSh, s4, u)) _ rfl (if_pos hc) ?_
    refine gRunN_ok hG.1 1 _ (121, [some (.ref 94), some (.int l1), some (.int l2), none, none], [.ref 94], (gSh, s4, u)) rfl ?_
    obtain ⟨s6, hq, hP⟩ := g_b1 hP
    refine hG.2.2.2.1 _ _ _ [.ref 94] [] _ (gSh, s6, u) none _ _ _ _ _ _ rfl rfl rfl rfl rfl rfl (c_Model_spread E (d + 1) u _  hq) (Nat.le_refl _) (Nat.le_refl _) (Nat.le_refl _) (Nat.le_refl _) ?_
    show G (124, [some (.ref 94), some (.int l1), some (.int l2), none, none], [], (gSh, s6, u))
    refine gRunN_ok hG.1 1 _ (125, [some (.ref 94), some (.int l1), some (.int l2), none, none], [.int l1], (gSh, s6, u)) rfl ?_
    rcases g_ite hP with ⟨hc, hP⟩ | ⟨hc, hP⟩
    · refine hG.1 _ (128, [some (.ref 94), some (.int l1), some (.int l2), none, none], [], (gSh, s6, u)) _ rfl (if_pos hc) ?_
      refine gRunN_ok hG.1 3 _ (133, [some (.ref 94), some (.int l1), some (.int l2), none, none], [.int l2, .ref 159], (gSh, s6, u)) rfl ?_
      obtain ⟨hc, hP⟩ := g_if hP
      refine hG.1 _ (134, [some (.ref 94), some (.int l1), some (.int l2), none, none], [.int (s6.1 159 l2.toNatClampNeg)], (gSh, s6, u)) _ rfl (if_pos hc) ?_
      rcases g_ite hP with ⟨hc, hP⟩ | ⟨hc, hP⟩
      · refine hG.1 _ (141, [some (.ref 94), some (.int l1), some (.int l2), none, none], [], (gSh, s6, u)) _ rfl (if_pos hc) ?_
        refine gRunN_ok hG.1 1 _ (142, [some (.ref 94), some (.int l1), some (.int l2), none, none], [.int 0], (gSh, s6, u)) rfl ?_
        cases hP
        exact hG.2.1 _ _ rfl rfl
      · refine hG.1 _ (137, [some (.ref 94), some (.int l1), some (.int l2), none, none], [], (gSh, s6, u)) _ rfl (if_neg hc) ?_
        refine gRunN_ok hG.1 2 _ (142, [some (.ref 94), some (.int l1), some (.int l2), none, none], [.int 1], (gSh, s6, u)) rfl ?_
        cases hP
        exact hG.2.1 _ _ rfl rfl
    · refine hG.1 _ (143, [some (.ref 94), some (.int l1), some (.int l2), none, none], [], (gSh, s6, u)) _ rfl (if_neg hc) ?_
      refine gRunN_ok hG.1 2 _ (145, [some (.ref 94), some (.int l1), some (.int l2), none, none], [.int 2, .int l1], (gSh, s6, u)) rfl ?_
      rcases g_ite hP with ⟨hc, hP⟩ | ⟨hc, hP⟩
      · refine hG.1 _ (148, [some (.ref 94), some (.int l1), some (.int l2), none, none], [], (gSh, s6, u)) _ rfl (if_pos hc) ?_
        refine gRunN_ok hG.1 2 _ (150, [some (.ref 94), some (.int l1), some (.int l2), none, none], [.int l2, .ref 94], (gSh, s6, u)) rfl ?_
        obtain ⟨v7, hq, hP⟩ := g_b1 hP
        refine hG.2.2.2.1 _ _ _ [.ref 94, .int l2] [] _ (gSh, s6, u) (some (.int v7)) _ _ _ _ _ _ rfl rfl rfl rfl rfl rfl (c_Model_outNow E (d + 3) u l2 _  hq) (Nat.le_refl _) (Nat.le_refl _) (Nat.le_refl _) (Nat.le_refl _) ?_
        show G (153, [some (.ref 94), some (.int l1), some (.int l2), none, none], [.int v7], (gSh, s6, u))
        rcases g_ite hP with ⟨hc, hP⟩ | ⟨hc, hP⟩
        · refine hG.1 _ (160, [some (.ref 94), some (.int l1), some (.int l2), none, none], [], (gSh, s6, u)) _ rfl (if_pos hc) ?_
          refine gRunN_ok hG.1 1 _ (161, [some (.ref 94), some (.int l1), some (.int l2), none, none], [.int 0], (gSh, s6, u)) rfl ?_
          cases hP
          exact hG.2.1 _ _ rfl rfl
        · refine hG.1 _ (156, [some (.ref 94), some (.int l1), some (.int l2), none, none], [], (gSh, s6, u)) _ rfl (if_neg hc) ?_
          refine gRunN_ok hG.1 2 _ (161, [some (.ref 94), some (.int l1), some (.int l2), none, none], [.int 1], (gSh, s6, u)) rfl ?_
          cases hP
          exact hG.2.1 _ _ rfl rfl
      · refine hG.1 _ (162, [some (.ref 94), some (.int l1), some (.int l2), none, none], [], (gSh, s6, u)) _ rfl (if_neg hc) ?_
        refine gRunN_ok hG.1 11 _ (177, [some (.ref 94), some (.int l1), some (.int l2), none, none], [.int 4, .int (((s6.1 94 11) + (l2 * (s6.1 94 10))) + (2 : Int32)), .ref 94], (gSh, s6, u)) rfl ?_
        obtain ⟨v9, hq, hP⟩ := g_b1 hP
        refine hG.2.2.2.1 _ _ _ [.ref 94, .int (((s6.1 94 11) + (l2 * (s6.1 94 10))) + (2 : Int32)), .int 4] [] _ (gSh, s6, u) (some (.int v9)) _ _ _ _ _ _ rfl rfl rfl rfl rfl rfl (c_Model_bitsAt E (d + 3) u (((s6.1 94 11) + (l2 * (s6.1 94 10))) + (2 : Int32)) 4 _  hq) (Nat.le_refl _) (Nat.le_refl _) (Nat.le_refl _) (Nat.le_refl _) ?_
        show G (180, [some (.ref 94), some (.int l1), some (.int l2), none, none], [.int v9], (gSh, s6, u))
        refine gRunN_ok hG.1 3 _ (184, [some (.ref 94), some (.int l1), some (.int l2), none, some (.int (v9 - (1 : Int32)))], [], (gSh, s6, u)) rfl ?_
        obtain ⟨x11, ex11, hP⟩ := g_let hP
        rw [← ex11]
        refine gRunN_ok hG.1 1 _ (186, [some (.ref 94), some (.int l1), some (.int l2), none, some (.int x11)], [.int x11], (gSh, s6, u)) rfl ?_
        rcases g_ite hP with ⟨hc, hP⟩ | ⟨hc, hP⟩
        · refine hG.1 _ (235, [some (.ref 94), some (.int l1), some (.int l2), none, some (.int x11)], [], (gSh, s6, u)) _ rfl (if_pos hc) ?_
          refine gRunN_ok hG.1 1 _ (236, [some (.ref 94), some (.int l1), some (.int l2), none, some (.int x11)], [.int 0], (gSh, s6, u)) rfl ?_
          cases hP
          exact hG.2.1 _ _ rfl rfl
        · refine hG.1 _ (189, [some (.ref 94), some (.int l1), some (.int l2), none, some (.int x11)], [], (gSh, s6, u)) _ rfl (if_neg hc) ?_
          refine gRunN_ok hG.1 3 _ (195, [some (.ref 94), some (.int l1), some (.int l2), none, some (.int x11)], [.int (s6.1 94 3), .int x11], (gSh, s6, u)) rfl ?_
          rcases g_ite hP with ⟨hc, hP⟩ | ⟨hc, hP⟩
          · refine hG.1 _ (235, [some (.ref 94), some (.int l1), some (.int l2), none, some (.int x11)], [], (gSh, s6, u)) _ rfl (if_pos hc) ?_
            refine gRunN_ok hG.1 1 _ (236, [some (.ref 94), some (.int l1), some (.int l2), none, some (.int x11)], [.int 0], (gSh, s6, u)) rfl ?_
            cases hP
            exact hG.2.1 _ _ rfl rfl
          · refine hG.1 _ (198, [some (.ref 94), some (.int l1), some (.int l2), none, some (.int x11)], [], (gSh, s6, u)) _ rfl (if_neg hc) ?_
            refine gRunN_ok hG.1 5 _ (206, [some (.ref 94), some (.int l1), some (.int l2), none, some (.int x11)], [.int x11, .int l2, .ref 94, .ref 159], (gSh, s6, u)) rfl ?_
            rcases g_ite hP with ⟨hc, hP⟩ | ⟨hc, hP⟩
            · refine hG.1 _ (218, [some (.ref 94), some (.int l1), some (.int l2), none, some (.int x11)], [.int l2, .ref 94, .ref 159], (gSh, s6, u)) _ rfl (if_pos hc) ?_
              refine hG.2.2.2.2.1 _ _ [none, none, none, none, none] _ _ trivial ?_
              exact j_Model_probe_j218 E d u hG l2 s6 hP
            · refine hG.1 _ (209, [some (.ref 94), some (.int l1), some (.int l2), none, some (.int x11)], [.int l2, .ref 94, .ref 159], (gSh, s6, u)) _ rfl (if_neg hc) ?_
              refine gRunN_ok hG.1 3 _ (215, [some (.ref 94), some (.int l1), some (.int l2), none, some (.int x11)], [.int (s6.1 94 3), .int x11, .int l2, .ref 94, .ref 159], (gSh, s6, u)) rfl ?_
              rcases g_ite hP with ⟨hc, hP⟩ | ⟨hc, hP⟩
              · refine hG.1 _ (222, [some (.ref 94), some (.int l1), some (.int l2), none, some (.int x11)], [.int l2, .ref 94, .ref 159], (gSh, s6, u)) _ rfl (if_pos hc) ?_
                refine gRunN_ok hG.1 1 _ (224, [some (.ref 94), some (.int l1), some (.int l2), none, some (.int x11)], [.int x11, .int l2, .ref 94, .ref 159], (gSh, s6, u)) rfl ?_
                refine hG.2.2.2.2.1 _ _ [none, none, none, none, none] _ _ trivial ?_
                exact j_Model_probe_j224 E d u hG l2 x11 s6 hP
              · refine hG.1 _ (218, [some (.ref 94), some (.int l1), some (.int l2), none, some (.int x11)], [.int l2, .ref 94, .ref 159], (gSh, s6, u)) _ rfl (if_neg hc) ?_
                refine hG.2.2.2.2.1 _ _ [none, none, none, none, none] _ _ trivial ?_
                exact j_Model_probe_j218 E d u hG l2 s6 hP
  · refine hG.1 _ (117, [some (.ref 94), some (.int l1), some (.int l2), none, none], [], (gSh, s4, u)) _ rfl (if_neg hc) ?_
    refine gRunN_ok hG.1 1 _ (119, [some (.ref 94), some (.int l1), some (.int l2), none, none], [.int (-2)], (gSh, s4, u)) rfl ?_
    cases hP
    exact hG.2.1 _ _ rfl rfl
def p_Model_probe_j48 (E : gEv) (l1 : Int32) (l2 : Int32) (y0 : Int32) (σ : gS) : Option (Int32 × gS) :=
  if y0 = 0 then (some ((-1), σ)) else (if 0 ≤ l2 then (if l1 = (3 : Int32) then (if gIn l2 (σ.2.1 155) then if (σ.1 155 l2.toNatClampNeg) = 0 then (some (0, σ)) else (some (1, σ)) else none) else (if l1 = (1 : Int32) then (gB1 (p_Model_bitsAt E ((σ.1 94 11) + (l2 * (σ.1 94 10))) 2 σ) fun v1 => if v1 = (2 : Int32) then (p_Model_probe_j106 E l1 l2 σ) else (some ((-1), σ))) else (p_Model_probe_j106 E l1 l2 σ))) else (some ((-1), σ)))
set_option maxRecDepth 20000 in
theorem j_Model_probe_j48 (E : gEv) (d u : Nat) {G : gFr → Prop} {v : Int32} {sr : gS} (hG : gClo E gDf gP18 gY271 (some .int) (gC E gDf gMs (d + 4)) (some (.int v), (gSh, sr, u)) G) (l1 : Int32) (l2 : Int32) (y0 : Int32) (σ : gS) (hP : p_Model_probe_j48 E l1 l2 y0 σ = some (v, sr)) : G (48, [some (.ref 94), some (.int l1), some (.int l2), none, none], [.int y0], (gSh, σ, u)) := by
  unfold p_Model_probe_j48 at hP
  refine gRunN_ok hG.1 2 _ (50, [some (.ref 94), some (.int l1), some (.int l2), some (.int y0), none], [.int y0], (gSh, σ, u)) rfl ?_
  rcases g_ite hP with ⟨hc, hP⟩ | ⟨hc, hP⟩
  · refine hG.1 _ (57, [some (.ref 94), some (.int l1), some (.int l2), some (.int y0), none], [], (gSh, σ, u)) _ rfl (if_pos hc) ?_
    refine gRunN_ok hG.1 1 _ (58, [some (.ref 94), some (.int l1), some (.int l2), some (.int y0), none], [.int (-1)], (gSh, σ, u)) rfl ?_
    cases hP
    exact hG.2.1 _ _ rfl rfl
  · refine hG.1 _ (53, [some (.ref 94), some (.int l1), some (.int l2), some (.int y0), none], [], (gSh, σ, u)) _ rfl (if_neg hc) ?_
    refine gRunN_ok hG.1 1 _ (54, [some (.ref 94), some (.int l1), some (.int l2), some (.int y0), none], [.int l2], (gSh, σ, u)) rfl ?_
    rcases g_ite hP with ⟨hc, hP⟩ | ⟨hc, hP⟩
    · refine hG.1 _ (59, [some (.ref 94), some (.int l1), some (.int l2), some (.int y0), none], [], (gSh, σ, u)) _ rfl (if_pos hc) ?_
      refine gRunN_ok hG.1 2 _ (61, [some (.ref 94), some (.int l1), some (.int l2), some (.int y0), none], [.int 3, .int l1], (gSh, σ, u)) rfl ?_
      rcases g_ite hP with ⟨hc, hP⟩ | ⟨hc, hP⟩
      · refine hG.1 _ (64, [some (.ref 94), some (.int l1), some (.int l2), some (.int y0), none], [], (gSh, σ, u)) _ rfl (if_pos hc) ?_
        refine gRunN_ok hG.1 3 _ (69, [some (.ref 94), some (.int l1), some (.int l2), some (.int y0), none], [.int l2, .ref 155], (gSh, σ, u)) rfl ?_
        obtain ⟨hc, hP⟩ := g_if hP
        refine hG.1 _ (70, [some (.ref 94), some (.int l1), some (.int l2), some (.int y0), none], [.int (σ.1 155 l2.toNatClampNeg)], (gSh, σ, u)) _ rfl (if_pos hc) ?_
        rcases g_ite hP with ⟨hc, hP⟩ | ⟨hc, hP⟩
        · refine hG.1 _ (77, [some (.ref 94), some (.int l1), some (.int l2), some (.int y0), none], [], (gSh, σ, u)) _ rfl (if_pos hc) ?_
          refine gRunN_ok hG.1 1 _ (78, [some (.ref 94), some (.int l1), some (.int l2), some (.int y0), none], [.int 0], (gSh, σ, u)) rfl ?_
          cases hP
          exact hG.2.1 _ _ rfl rfl
        · refine hG.1 _ (73, [some (.ref 94), some (.int l1), some (.int l2), some (.int y0), none], [], (gSh, σ, u)) _ rfl (if_neg hc) ?_
          refine gRunN_ok hG.1 2 _ (78, [some (.ref 94), some (.int l1), some (.int l2), some (.int y0), none], [.int 1], (gSh, σ, u)) rfl ?_
          cases hP
          exact hG.2.1 _ _ rfl rfl
      · refine hG.1 _ (79, [some (.ref 94), some (.int l1), some (.int l2), some (.int y0), none], [], (gSh, σ, u)) _ rfl (if_neg hc) ?_
        refine gRunN_ok hG.1 2 _ (81, [some (.ref 94), some (.int l1), some (.int l2), some (.int y0), none], [.int 1, .int l1], (gSh, σ, u)) rfl ?_
        rcases g_ite hP with ⟨hc, hP⟩ | ⟨hc, hP⟩
        · refine hG.1 _ (84, [some (.ref 94), some (.int l1), some (.int l2), some (.int y0), none], [], (gSh, σ, u)) _ rfl (if_pos hc) ?_
          refine gRunN_ok hG.1 9 _ (97, [some (.ref 94), some (.int l1), some (.int l2), some (.int y0), none], [.int 2, .int ((σ.1 94 11) + (l2 * (σ.1 94 10))), .ref 94], (gSh, σ, u)) rfl ?_
          obtain ⟨v1, hq, hP⟩ := g_b1 hP
          refine hG.2.2.2.1 _ _ _ [.ref 94, .int ((σ.1 94 11) + (l2 * (σ.1 94 10))), .int 2] [] _ (gSh, σ, u) (some (.int v1)) _ _ _ _ _ _ rfl rfl rfl rfl rfl rfl (c_Model_bitsAt E (d + 3) u ((σ.1 94 11) + (l2 * (σ.1 94 10))) 2 _  hq) (Nat.le_refl _) (Nat.le_refl _) (Nat.le_refl _) (Nat.le_refl _) ?_
          show G (100, [some (.ref 94), some (.int l1), some (.int l2), some (.int y0), none], [.int v1], (gSh, σ, u))
          refine gRunN_ok hG.1 1 _ (101, [some (.ref 94), some (.int l1), some (.int l2), some (.int y0), none], [.int 2, .int v1], (gSh, σ, u)) rfl ?_
          rcases g_ite hP with ⟨hc, hP⟩ | ⟨hc, hP⟩
          · refine hG.1 _ (106, [some (.ref 94), some (.int l1), some (.int l2), some (.int y0), none], [], (gSh, σ, u)) _ rfl (if_pos hc) ?_
            refine hG.2.2.2.2.1 _ _ [some (.ref 94), some (.int l1), some (.int l2), none, none] _ _ ⟨rfl, ⟨rfl, ⟨rfl, trivial⟩⟩⟩ ?_
            exact j_Model_probe_j106 E d u hG l1 l2 σ hP
          · refine hG.1 _ (104, [some (.ref 94), some (.int l1), some (.int l2), some (.int y0), none], [], (gSh, σ, u)) _ rfl (if_neg hc) ?_
            refine gRunN_ok hG.1 1 _ (105, [some (.ref 94), some (.int l1), some (.int l2), some (.int y0), none], [.int (-1)], (gSh, σ, u)) rfl ?_
            cases hP
            exact hG.2.1 _ _ rfl rfl
        · refine hG.1 _ (106, [some (.ref 94), some (.int l1), some (.int l2), some (.int y0), none], [], (gSh, σ, u)) _ rfl (if_neg hc) ?_
          refine hG.2.2.2.2.1 _ _ [some (.ref 94), some (.int l1), some (.int l2), none, none] _ _ ⟨rfl, ⟨rfl, ⟨rfl, trivial⟩⟩⟩ ?_
          exact j_Model_probe_j106 E d u hG l1 l2 σ hP
    · refine hG.1 _ (57, [some (.ref 94), some (.int l1), some (.int l2), some (.int y0), none], [], (gSh, σ, u)) _ rfl (if_neg hc) ?_
      refine gRunN_ok hG.1 1 _ (58, [some (.ref 94), some (.int l1), some (.int l2), some (.int y0), none], [.int (-1)], (gSh, σ, u)) rfl ?_
      cases hP
      exact hG.2.1 _ _ rfl rfl
def p_Model_probe_j43 (E : gEv) (l1 : Int32) (l2 : Int32) (σ : gS) : Option (Int32 × gS) :=
  p_Model_probe_j48 E l1 l2 1 σ
set_option maxRecDepth 20000 in
theorem j_Model_probe_j43 (E : gEv) (d u : Nat) {G : gFr → Prop} {v : Int32} {sr : gS} (hG : gClo E gDf gP18 gY271 (some .int) (gC E gDf gMs (d + 4)) (some (.int v), (gSh, sr, u)) G) (l1 : Int32) (l2 : Int32) (σ : gS) (hP : p_Model_probe_j43 E l1 l2 σ = some (v, sr)) : G (43, [some (.ref 94), some (.int l1), some (.int l2), none, none], [], (gSh, σ, u)) := by
  unfold p_Model_probe_j43 at hP
  refine gRunN_ok hG.1 2 _ (48, [some (.ref 94), some (.int l1), some (.int l2), none, none], [.int 1], (gSh, σ, u)) rfl ?_
  exact j_Model_probe_j48 E d u hG l1 l2 1 σ hP
def p_Model_probe_j47 (E : gEv) (l1 : Int32) (l2 : Int32) (σ : gS) : Option (Int32 × gS) :=
  p_Model_probe_j48 E l1 l2 0 σ
set_option maxRecDepth 20000 in
theorem j_Model_probe_j47 (E : gEv) (d u : Nat) {G : gFr → Prop} {v : Int32} {sr : gS} (hG : gClo E gDf gP18 gY271 (some .int) (gC E gDf gMs (d + 4)) (some (.int v), (gSh, sr, u)) G) (l1 : Int32) (l2 : Int32) (σ : gS) (hP : p_Model_probe_j47 E l1 l2 σ = some (v, sr)) : G (47, [some (.ref 94), some (.int l1), some (.int l2), none, none], [], (gSh, σ, u)) := by
  unfold p_Model_probe_j47 at hP
  refine gRunN_ok hG.1 1 _ (48, [some (.ref 94), some (.int l1), some (.int l2), none, none], [.int 0], (gSh, σ, u)) rfl ?_
  exact j_Model_probe_j48 E d u hG l1 l2 0 σ hP
def p_Model_probe_j35 (E : gEv) (l1 : Int32) (l2 : Int32) (σ : gS) : Option (Int32 × gS) :=
  if (σ.1 94 5) ≤ l2 then (p_Model_probe_j47 E l1 l2 σ) else (p_Model_probe_j43 E l1 l2 σ)
set_option maxRecDepth 20000 in
theorem j_Model_probe_j35 (E : gEv) (d u : Nat) {G : gFr → Prop} {v : Int32} {sr : gS} (hG : gClo E gDf gP18 gY271 (some .int) (gC E gDf gMs (d + 4)) (some (.int v), (gSh, sr, u)) G) (l1 : Int32) (l2 : Int32) (σ : gS) (hP : p_Model_probe_j35 E l1 l2 σ = some (v, sr)) : G (35, [some (.ref 94), some (.int l1), some (.int l2), none, none], [], (gSh, σ, u)) := by
  unfold p_Model_probe_j35 at hP
  refine gRunN_ok hG.1 3 _ (40, [some (.ref 94), some (.int l1), some (.int l2), none, none], [.int (σ.1 94 5), .int l2], (gSh, σ, u)) rfl ?_
  rcases g_ite hP with ⟨hc, hP⟩ | ⟨hc, hP⟩
  · refine hG.1 _ (47, [some (.ref 94), some (.int l1), some (.int l2), none, none], [], (gSh, σ, u)) _ rfl (if_pos hc) ?_
    exact j_Model_probe_j47 E d u hG l1 l2 σ hP
  · refine hG.1 _ (43, [some (.ref 94), some (.int l1), some (.int l2), none, none], [], (gSh, σ, u)) _ rfl (if_neg hc) ?_
    exact j_Model_probe_j43 E d u hG l1 l2 σ hP
def p_Model_probe_j25 (E : gEv) (l1 : Int32) (l2 : Int32) (σ : gS) : Option (Int32 × gS) :=
  if l1 = (2 : Int32) then (p_Model_probe_j35 E l1 l2 σ) else (if l1 = (3 : Int32) then (p_Model_probe_j35 E l1 l2 σ) else (p_Model_probe_j47 E l1 l2 σ))
set_option maxRecDepth 20000 in
theorem j_Model_probe_j25 (E : gEv) (d u : Nat) {G : gFr → Prop} {v : Int32} {sr : gS} (hG : gClo E gDf gP18 gY271 (some .int) (gC E gDf gMs (d + 4)) (some (.int v), (gSh, sr, u)) G) (l1 : Int32) (l2 : Int32) (σ : gS) (hP : p_Model_probe_j25 E l1 l2 σ = some (v, sr)) : G (25, [some (.ref 94), some (.int l1), some (.int l2), none, none], [], (gSh, σ, u)) := by
  unfold p_Model_probe_j25 at hP
  refine gRunN_ok hG.1 2 _ (27, [some (.ref 94), some (.int l1), some (.int l2), none, none], [.int 2, .int l1], (gSh, σ, u)) rfl ?_
  rcases g_ite hP with ⟨hc, hP⟩ | ⟨hc, hP⟩
  · refine hG.1 _ (35, [some (.ref 94), some (.int l1), some (.int l2), none, none], [], (gSh, σ, u)) _ rfl (if_pos hc) ?_
    exact j_Model_probe_j35 E d u hG l1 l2 σ hP
  · refine hG.1 _ (30, [some (.ref 94), some (.int l1), some (.int l2), none, none], [], (gSh, σ, u)) _ rfl (if_neg hc) ?_
    refine gRunN_ok hG.1 2 _ (32, [some (.ref 94), some (.int l1), some (.int l2), none, none], [.int 3, .int l1], (gSh, σ, u)) rfl ?_
    rcases g_ite hP with ⟨hc, hP⟩ | ⟨hc, hP⟩
    · refine hG.1 _ (35, [some (.ref 94), some (.int l1), some (.int l2), none, none], [], (gSh, σ, u)) _ rfl (if_pos hc) ?_
      exact j_Model_probe_j35 E d u hG l1 l2 σ hP
    · refine hG.1 _ (47, [some (.ref 94), some (.int l1), some (.int l2), none, none], [], (gSh, σ, u)) _ rfl (if_neg hc) ?_
      exact j_Model_probe_j47 E d u hG l1 l2 σ hP
def p_Model_probe_j12 (E : gEv) (l1 : Int32) (l2 : Int32) (σ : gS) : Option (Int32 × gS) :=
  if l1 = (1 : Int32) then (if l2 < (σ.1 94 6) then (p_Model_probe_j43 E l1 l2 σ) else (p_Model_probe_j25 E l1 l2 σ)) else (p_Model_probe_j25 E l1 l2 σ)
set_option maxRecDepth 20000 in
theorem j_Model_probe_j12 (E : gEv) (d u : Nat) {G : gFr → Prop} {v : Int32} {sr : gS} (hG : gClo E gDf gP18 gY271 (some .int) (gC E gDf gMs (d + 4)) (some (.int v), (gSh, sr, u)) G) (l1 : Int32) (l2 : Int32) (σ : gS) (hP : p_Model_probe_j12 E l1 l2 σ = some (v, sr)) : G (12, [some (.ref 94), some (.int l1), some (.int l2), none, none], [], (gSh, σ, u)) := by
  unfold p_Model_probe_j12 at hP
  refine gRunN_ok hG.1 2 _ (14, [some (.ref 94), some (.int l1), some (.int l2), none, none], [.int 1, .int l1], (gSh, σ, u)) rfl ?_
  rcases g_ite hP with ⟨hc, hP⟩ | ⟨hc, hP⟩
  · refine hG.1 _ (17, [some (.ref 94), some (.int l1), some (.int l2), none, none], [], (gSh, σ, u)) _ rfl (if_pos hc) ?_
    refine gRunN_ok hG.1 3 _ (22, [some (.ref 94), some (.int l1), some (.int l2), none, none], [.int (σ.1 94 6), .int l2], (gSh, σ, u)) rfl ?_
    rcases g_ite hP with ⟨hc, hP⟩ | ⟨hc, hP⟩
    · refine hG.1 _ (43, [some (.ref 94), some (.int l1), some (.int l2), none, none], [], (gSh, σ, u)) _ rfl (if_pos hc) ?_
      exact j_Model_probe_j43 E d u hG l1 l2 σ hP
    · refine hG.1 _ (25, [some (.ref 94), some (.int l1), some (.int l2), none, none], [], (gSh, σ, u)) _ rfl (if_neg hc) ?_
      exact j_Model_probe_j25 E d u hG l1 l2 σ hP
  · refine hG.1 _ (25, [some (.ref 94), some (.int l1), some (.int l2), none, none], [], (gSh, σ, u)) _ rfl (if_neg hc) ?_
    exact j_Model_probe_j25 E d u hG l1 l2 σ hP
def p_Model_probe (E : gEv) (a0 : Int32) (a1 : Int32) (σ : gS) : Option (Int32 × gS) :=
  if a0 = 0 then (if a1 < (σ.1 94 8) then (p_Model_probe_j43 E a0 a1 σ) else (p_Model_probe_j12 E a0 a1 σ)) else (p_Model_probe_j12 E a0 a1 σ)
set_option maxRecDepth 20000 in
theorem c_Model_probe (E : gEv) (d u : Nat) (a0 : Int32) (a1 : Int32) (σ : gS) {v : Int32} {sr : gS}  (hq : p_Model_probe E a0 a1 σ = some (v, sr)) : gC E gDf gMs (d + 5) 271 [.ref 94, .int a0, .int a1] (gSh, σ, u) (some (.int v), (gSh, sr, u)) := ⟨gM271, rfl, Nat.le_of_ble_eq_true rfl, fun G hG => by
  have hP := hq
  unfold p_Model_probe at hP
  replace hG : gClo E gDf gP18 gY271 (some .int) (gC E gDf gMs (d + 4)) (some (.int v), (gSh, sr, u)) G := hG
  show G (0, [some (.ref 94), some (.int a0), some (.int a1), none, none], [], (gSh, σ, u))
  refine gRunN_ok hG.1 1 _ (1, [some (.ref 94), some (.int a0), some (.int a1), none, none], [.int a0], (gSh, σ, u)) rfl ?_
  rcases g_ite hP with ⟨hc, hP⟩ | ⟨hc, hP⟩
  · refine hG.1 _ (4, [some (.ref 94), some (.int a0), some (.int a1), none, none], [], (gSh, σ, u)) _ rfl (if_pos hc) ?_
    refine gRunN_ok hG.1 3 _ (9, [some (.ref 94), some (.int a0), some (.int a1), none, none], [.int (σ.1 94 8), .int a1], (gSh, σ, u)) rfl ?_
    rcases g_ite hP with ⟨hc, hP⟩ | ⟨hc, hP⟩
    · refine hG.1 _ (43, [some (.ref 94), some (.int a0), some (.int a1), none, none], [], (gSh, σ, u)) _ rfl (if_pos hc) ?_
      exact j_Model_probe_j43 E d u hG a0 a1 σ hP
    · refine hG.1 _ (12, [some (.ref 94), some (.int a0), some (.int a1), none, none], [], (gSh, σ, u)) _ rfl (if_neg hc) ?_
      exact j_Model_probe_j12 E d u hG a0 a1 σ hP
  · refine hG.1 _ (12, [some (.ref 94), some (.int a0), some (.int a1), none, none], [], (gSh, σ, u)) _ rfl (if_neg hc) ?_
    exact j_Model_probe_j12 E d u hG a0 a1 σ hP⟩
def p_Reader_readLine (E : gEv) (σ : gS) : Option (gS) :=
  gB2 (p_Text_nextWord E σ) fun v1 s2 => if v1 = 0 then (some s2) else (gB1 (p_Text_hasDot E s2) fun v3 => if v3 = 0 then (gB1 (p_Reader_readCover E s2) fun s6 => some s6) else (gLet (gPut s2 22 16 (-1)) fun s7 => gB1 (p_Text_isWord E 0 s7) fun v8 => if v8 = 0 then (gB1 (p_Text_isWord E 1 s7) fun v10 => if v10 = 0 then (gB1 (p_Text_isWord E 2 s7) fun v12 => if v12 = 0 then (gB1 (p_Text_isWord E 3 s7) fun v14 => if v14 = 0 then (gB1 (p_Text_isWord E 4 s7) fun v16 => if v16 = 0 then (gB1 (p_Reader_refuse E 1 (s7.1 10 5) s7) fun s19 => some s19) else (gLet (gPut s7 22 17 1) fun s20 => gB1 (p_Reader_refuseMore E s20) fun s22 => some s22)) else (gB1 (p_Reader_readNames E s7) fun s24 => some s24)) else (gB1 (p_Reader_readLatch E s7) fun s26 => some s26)) else (gB1 (p_Reader_readPadNames E 0 s7) fun s28 => some s28)) else (gB1 (p_Reader_readPadNames E 1 s7) fun s30 => some s30)))
set_option maxRecDepth 20000 in
theorem c_Reader_readLine (E : gEv) (d u : Nat) (σ : gS) {sr : gS}  (hq : p_Reader_readLine E σ = some sr) : gC E gDf gMs (d + 6) 38 [.ref 22] (gSh, σ, u) (none, (gSh, sr, u)) := ⟨gM38, rfl, Nat.le_of_ble_eq_true rfl, fun G hG => by
  have hP := hq
  unfold p_Reader_readLine at hP
  replace hG : gClo E gDf gP5 gY38 none (gC E gDf gMs (d + 5)) (none, (gSh, sr, u)) G := hG
  show G (0, [some (.ref 22)], [], (gSh, σ, u))
  refine gRunN_ok hG.1 2 _ (4, [some (.ref 22)], [.ref 10], (gSh, σ, u)) rfl ?_
  obtain ⟨v1, s2, hq, hP⟩ := g_b2 hP
  refine hG.2.2.2.1 _ _ _ [.ref 10] [] _ (gSh, s2, u) (some (.int v1)) _ _ _ _ _ _ rfl rfl rfl rfl rfl rfl (c_Text_nextWord E (d + 3) u _  hq) (Nat.le_refl _) (Nat.le_refl _) (Nat.le_refl _) (Nat.le_refl _) ?_
  show G (7, [some (.ref 22)], [.int v1], (gSh, s2, u))
  rcases g_ite hP with ⟨hc, hP⟩ | ⟨hc, hP⟩
  · refine hG.1 _ (10, [some (.ref 22)], [], (gSh, s2, u)) _ rfl (if_pos hc) ?_
    cases hP
    exact hG.2.1 _ _ rfl rfl
  · refine hG.1 _ (11, [some (.ref 22)], [], (gSh, s2, u)) _ rfl (if_neg hc) ?_
    refine gRunN_ok hG.1 2 _ (15, [some (.ref 22)], [.ref 10], (gSh, s2, u)) rfl ?_
    obtain ⟨v3, hq, hP⟩ := g_b1 hP
    refine hG.2.2.2.1 _ _ _ [.ref 10] [] _ (gSh, s2, u) (some (.int v3)) _ _ _ _ _ _ rfl rfl rfl rfl rfl rfl (c_Text_hasDot E (d + 4) u _  hq) (Nat.le_refl _) (Nat.le_refl _) (Nat.le_refl _) (Nat.le_refl _) ?_
    show G (18, [some (.ref 22)], [.int v3], (gSh, s2, u))
    rcases g_ite hP with ⟨hc, hP⟩ | ⟨hc, hP⟩
    · refine hG.1 _ (21, [some (.ref 22)], [], (gSh, s2, u)) _ rfl (if_pos hc) ?_
      refine gRunN_ok hG.1 1 _ (22, [some (.ref 22)], [.ref 22], (gSh, s2, u)) rfl ?_
      obtain ⟨s6, hq, hP⟩ := g_b1 hP
      refine hG.2.2.2.1 _ _ _ [.ref 22] [] _ (gSh, s6, u) none _ _ _ _ _ _ rfl rfl rfl rfl rfl rfl (c_Reader_readCover E (d + 1) u _  hq) (Nat.le_refl _) (Nat.le_refl _) (Nat.le_refl _) (Nat.le_refl _) ?_
      show G (25, [some (.ref 22)], [], (gSh, s6, u))
      cases hP
      exact hG.2.1 _ _ rfl rfl
    · refine hG.1 _ (26, [some (.ref 22)], [], (gSh, s2, u)) _ rfl (if_neg hc) ?_
      refine gRunN_ok hG.1 3 _ (31, [some (.ref 22)], [], (gSh, (gPut s2 22 16 (-1)), u)) rfl ?_
      obtain ⟨s7, es7, hP⟩ := g_let hP
      rw [← es7]
      refine gRunN_ok hG.1 3 _ (37, [some (.ref 22)], [.retAddr 0, .ref 10], (gSh, s7, u)) rfl ?_
      obtain ⟨v8, hq, hP⟩ := g_b1 hP
      refine hG.2.2.2.1 _ _ _ [.ref 10, .retAddr 0] [] _ (gSh, s7, u) (some (.int v8)) _ _ _ _ _ _ rfl rfl rfl rfl rfl rfl (c_Text_isWord E (d + 0) u 0 _ (by decide) hq) (Nat.le_refl _) (Nat.le_refl _) (Nat.le_refl _) (Nat.le_refl _) ?_
      show G (40, [some (.ref 22)], [.int v8], (gSh, s7, u))
      rcases g_ite hP with ⟨hc, hP⟩ | ⟨hc, hP⟩
      · refine hG.1 _ (51, [some (.ref 22)], [], (gSh, s7, u)) _ rfl (if_pos hc) ?_
        refine gRunN_ok hG.1 3 _ (57, [some (.ref 22)], [.retAddr 1, .ref 10], (gSh, s7, u)) rfl ?_
        obtain ⟨v10, hq, hP⟩ := g_b1 hP
        refine hG.2.2.2.1 _ _ _ [.ref 10, .retAddr 1] [] _ (gSh, s7, u) (some (.int v10)) _ _ _ _ _ _ rfl rfl rfl rfl rfl rfl (c_Text_isWord E (d + 0) u 1 _ (by decide) hq) (Nat.le_refl _) (Nat.le_refl _) (Nat.le_refl _) (Nat.le_refl _) ?_
        show G (60, [some (.ref 22)], [.int v10], (gSh, s7, u))
        rcases g_ite hP with ⟨hc, hP⟩ | ⟨hc, hP⟩
        · refine hG.1 _ (71, [some (.ref 22)], [], (gSh, s7, u)) _ rfl (if_pos hc) ?_
          refine gRunN_ok hG.1 3 _ (77, [some (.ref 22)], [.retAddr 2, .ref 10], (gSh, s7, u)) rfl ?_
          obtain ⟨v12, hq, hP⟩ := g_b1 hP
          refine hG.2.2.2.1 _ _ _ [.ref 10, .retAddr 2] [] _ (gSh, s7, u) (some (.int v12)) _ _ _ _ _ _ rfl rfl rfl rfl rfl rfl (c_Text_isWord E (d + 0) u 2 _ (by decide) hq) (Nat.le_refl _) (Nat.le_refl _) (Nat.le_refl _) (Nat.le_refl _) ?_
          show G (80, [some (.ref 22)], [.int v12], (gSh, s7, u))
          rcases g_ite hP with ⟨hc, hP⟩ | ⟨hc, hP⟩
          · refine hG.1 _ (90, [some (.ref 22)], [], (gSh, s7, u)) _ rfl (if_pos hc) ?_
            refine gRunN_ok hG.1 3 _ (96, [some (.ref 22)], [.retAddr 3, .ref 10], (gSh, s7, u)) rfl ?_
            obtain ⟨v14, hq, hP⟩ := g_b1 hP
            refine hG.2.2.2.1 _ _ _ [.ref 10, .retAddr 3] [] _ (gSh, s7, u) (some (.int v14)) _ _ _ _ _ _ rfl rfl rfl rfl rfl rfl (c_Text_isWord E (d + 0) u 3 _ (by decide) hq) (Nat.le_refl _) (Nat.le_refl _) (Nat.le_refl _) (Nat.le_refl _) ?_
            show G (99, [some (.ref 22)], [.int v14], (gSh, s7, u))
            rcases g_ite hP with ⟨hc, hP⟩ | ⟨hc, hP⟩
            · refine hG.1 _ (109, [some (.ref 22)], [], (gSh, s7, u)) _ rfl (if_pos hc) ?_
              refine gRunN_ok hG.1 3 _ (115, [some (.ref 22)], [.retAddr 4, .ref 10], (gSh, s7, u)) rfl ?_
              obtain ⟨v16, hq, hP⟩ := g_b1 hP
              refine hG.2.2.2.1 _ _ _ [.ref 10, .retAddr 4] [] _ (gSh, s7, u) (some (.int v16)) _ _ _ _ _ _ rfl rfl rfl rfl rfl rfl (c_Text_isWord E (d + 0) u 4 _ (by decide) hq) (Nat.le_refl _) (Nat.le_refl _) (Nat.le_refl _) (Nat.le_refl _) ?_
              show G (118, [some (.ref 22)], [.int v16], (gSh, s7, u))
              rcases g_ite hP with ⟨hc, hP⟩ | ⟨hc, hP⟩
              · refine hG.1 _ (133, [some (.ref 22)], [], (gSh, s7, u)) _ rfl (if_pos hc) ?_
                refine gRunN_ok hG.1 5 _ (142, [some (.ref 22)], [.int (s7.1 10 5), .int 1, .ref 22], (gSh, s7, u)) rfl ?_
                obtain ⟨s19, hq, hP⟩ := g_b1 hP
                refine hG.2.2.2.1 _ _ _ [.ref 22, .int 1, .int (s7.1 10 5)] [] _ (gSh, s19, u) none _ _ _ _ _ _ rfl rfl rfl rfl rfl rfl (c_Reader_refuse E (d + 4) u 1 (s7.1 10 5) _  hq) (Nat.le_refl _) (Nat.le_refl _) (Nat.le_refl _) (Nat.le_refl _) ?_
                show G (145, [some (.ref 22)], [], (gSh, s19, u))
                cases hP
                exact hG.2.1 _ _ rfl rfl
              · refine hG.1 _ (121, [some (.ref 22)], [], (gSh, s7, u)) _ rfl (if_neg hc) ?_
                refine gRunN_ok hG.1 3 _ (126, [some (.ref 22)], [], (gSh, (gPut s7 22 17 1), u)) rfl ?_
                obtain ⟨s20, es20, hP⟩ := g_let hP
                rw [← es20]
                refine gRunN_ok hG.1 1 _ (127, [some (.ref 22)], [.ref 22], (gSh, s20, u)) rfl ?_
                obtain ⟨s22, hq, hP⟩ := g_b1 hP
                refine hG.2.2.2.1 _ _ _ [.ref 22] [] _ (gSh, s22, u) none _ _ _ _ _ _ rfl rfl rfl rfl rfl rfl (c_Reader_refuseMore E (d + 2) u _  hq) (Nat.le_refl _) (Nat.le_refl _) (Nat.le_refl _) (Nat.le_refl _) ?_
                show G (130, [some (.ref 22)], [], (gSh, s22, u))
                refine gRunN_ok hG.1 1 _ (145, [some (.ref 22)], [], (gSh, s22, u)) rfl ?_
                cases hP
                exact hG.2.1 _ _ rfl rfl
            · refine hG.1 _ (102, [some (.ref 22)], [], (gSh, s7, u)) _ rfl (if_neg hc) ?_
              refine gRunN_ok hG.1 1 _ (103, [some (.ref 22)], [.ref 22], (gSh, s7, u)) rfl ?_
              obtain ⟨s24, hq, hP⟩ := g_b1 hP
              refine hG.2.2.2.1 _ _ _ [.ref 22] [] _ (gSh, s24, u) none _ _ _ _ _ _ rfl rfl rfl rfl rfl rfl (c_Reader_readNames E (d + 2) u _  hq) (Nat.le_refl _) (Nat.le_refl _) (Nat.le_refl _) (Nat.le_refl _) ?_
              show G (106, [some (.ref 22)], [], (gSh, s24, u))
              refine gRunN_ok hG.1 1 _ (145, [some (.ref 22)], [], (gSh, s24, u)) rfl ?_
              cases hP
              exact hG.2.1 _ _ rfl rfl
          · refine hG.1 _ (83, [some (.ref 22)], [], (gSh, s7, u)) _ rfl (if_neg hc) ?_
            refine gRunN_ok hG.1 1 _ (84, [some (.ref 22)], [.ref 22], (gSh, s7, u)) rfl ?_
            obtain ⟨s26, hq, hP⟩ := g_b1 hP
            refine hG.2.2.2.1 _ _ _ [.ref 22] [] _ (gSh, s26, u) none _ _ _ _ _ _ rfl rfl rfl rfl rfl rfl (c_Reader_readLatch E (d + 1) u _  hq) (Nat.le_refl _) (Nat.le_refl _) (Nat.le_refl _) (Nat.le_refl _) ?_
            show G (87, [some (.ref 22)], [], (gSh, s26, u))
            refine gRunN_ok hG.1 1 _ (145, [some (.ref 22)], [], (gSh, s26, u)) rfl ?_
            cases hP
            exact hG.2.1 _ _ rfl rfl
        · refine hG.1 _ (63, [some (.ref 22)], [], (gSh, s7, u)) _ rfl (if_neg hc) ?_
          refine gRunN_ok hG.1 2 _ (65, [some (.ref 22)], [.int 0, .ref 22], (gSh, s7, u)) rfl ?_
          obtain ⟨s28, hq, hP⟩ := g_b1 hP
          refine hG.2.2.2.1 _ _ _ [.ref 22, .int 0] [] _ (gSh, s28, u) none _ _ _ _ _ _ rfl rfl rfl rfl rfl rfl (c_Reader_readPadNames E (d + 2) u 0 _  hq) (Nat.le_refl _) (Nat.le_refl _) (Nat.le_refl _) (Nat.le_refl _) ?_
          show G (68, [some (.ref 22)], [], (gSh, s28, u))
          refine gRunN_ok hG.1 1 _ (145, [some (.ref 22)], [], (gSh, s28, u)) rfl ?_
          cases hP
          exact hG.2.1 _ _ rfl rfl
      · refine hG.1 _ (43, [some (.ref 22)], [], (gSh, s7, u)) _ rfl (if_neg hc) ?_
        refine gRunN_ok hG.1 2 _ (45, [some (.ref 22)], [.int 1, .ref 22], (gSh, s7, u)) rfl ?_
        obtain ⟨s30, hq, hP⟩ := g_b1 hP
        refine hG.2.2.2.1 _ _ _ [.ref 22, .int 1] [] _ (gSh, s30, u) none _ _ _ _ _ _ rfl rfl rfl rfl rfl rfl (c_Reader_readPadNames E (d + 2) u 1 _  hq) (Nat.le_refl _) (Nat.le_refl _) (Nat.le_refl _) (Nat.le_refl _) ?_
        show G (48, [some (.ref 22)], [], (gSh, s30, u))
        refine gRunN_ok hG.1 1 _ (145, [some (.ref 22)], [], (gSh, s30, u)) rfl ?_
        cases hP
        exact hG.2.1 _ _ rfl rfl⟩
def p_Face_route (E : gEv) (a0 : Int32) (σ : gS) : Option (Int32 × gS) :=
  if (σ.1 0 10) = 0 then (some ((-1), σ)) else (if a0 < (1 : Int32) then (some ((-1), σ)) else (if a0 ≤ (20 : Int32) then (gB2 (p_Router_work E a0 σ) fun v1 s2 => some (v1, s2)) else (some ((-1), σ))))
set_option maxRecDepth 20000 in
theorem c_Face_route (E : gEv) (d u : Nat) (a0 : Int32) (σ : gS) {v : Int32} {sr : gS}  (hq : p_Face_route E a0 σ = some (v, sr)) : gC E gDf gMs (d + 6) 120 [.ref 0, .int a0] (gSh, σ, u) (some (.int v), (gSh, sr, u)) := ⟨gM120, rfl, Nat.le_of_ble_eq_true rfl, fun G hG => by
  have hP := hq
  unfold p_Face_route at hP
  replace hG : gClo E gDf gP0 gY120 (some .int) (gC E gDf gMs (d + 5)) (some (.int v), (gSh, sr, u)) G := hG
  show G (0, [some (.ref 0), some (.int a0)], [], (gSh, σ, u))
  refine gRunN_ok hG.1 2 _ (4, [some (.ref 0), some (.int a0)], [.int (σ.1 0 10)], (gSh, σ, u)) rfl ?_
  rcases g_ite hP with ⟨hc, hP⟩ | ⟨hc, hP⟩
  · refine hG.1 _ (18, [some (.ref 0), some (.int a0)], [], (gSh, σ, u)) _ rfl (if_pos hc) ?_
    refine gRunN_ok hG.1 1 _ (19, [some (.ref 0), some (.int a0)], [.int (-1)], (gSh, σ, u)) rfl ?_
    cases hP
    exact hG.2.1 _ _ rfl rfl
  · refine hG.1 _ (7, [some (.ref 0), some (.int a0)], [], (gSh, σ, u)) _ rfl (if_neg hc) ?_
    refine gRunN_ok hG.1 2 _ (9, [some (.ref 0), some (.int a0)], [.int 1, .int a0], (gSh, σ, u)) rfl ?_
    rcases g_ite hP with ⟨hc, hP⟩ | ⟨hc, hP⟩
    · refine hG.1 _ (18, [some (.ref 0), some (.int a0)], [], (gSh, σ, u)) _ rfl (if_pos hc) ?_
      refine gRunN_ok hG.1 1 _ (19, [some (.ref 0), some (.int a0)], [.int (-1)], (gSh, σ, u)) rfl ?_
      cases hP
      exact hG.2.1 _ _ rfl rfl
    · refine hG.1 _ (12, [some (.ref 0), some (.int a0)], [], (gSh, σ, u)) _ rfl (if_neg hc) ?_
      refine gRunN_ok hG.1 2 _ (15, [some (.ref 0), some (.int a0)], [.int 20, .int a0], (gSh, σ, u)) rfl ?_
      rcases g_ite hP with ⟨hc, hP⟩ | ⟨hc, hP⟩
      · refine hG.1 _ (20, [some (.ref 0), some (.int a0)], [], (gSh, σ, u)) _ rfl (if_pos hc) ?_
        refine gRunN_ok hG.1 3 _ (25, [some (.ref 0), some (.int a0)], [.int a0, .ref 70], (gSh, σ, u)) rfl ?_
        obtain ⟨v1, s2, hq, hP⟩ := g_b2 hP
        refine hG.2.2.2.1 _ _ _ [.ref 70, .int a0] [] _ (gSh, s2, u) (some (.int v1)) _ _ _ _ _ _ rfl rfl rfl rfl rfl rfl (c_Router_work E (d + 0) u a0 _  hq) (Nat.le_refl _) (Nat.le_refl _) (Nat.le_refl _) (Nat.le_refl _) ?_
        show G (28, [some (.ref 0), some (.int a0)], [.int v1], (gSh, s2, u))
        cases hP
        exact hG.2.1 _ _ rfl rfl
      · refine hG.1 _ (18, [some (.ref 0), some (.int a0)], [], (gSh, σ, u)) _ rfl (if_neg hc) ?_
        refine gRunN_ok hG.1 1 _ (19, [some (.ref 0), some (.int a0)], [.int (-1)], (gSh, σ, u)) rfl ?_
        cases hP
        exact hG.2.1 _ _ rfl rfl⟩
def p_Face_tick (E : gEv) (a0 : Int32) (σ : gS) : Option (Int32 × gS) :=
  if a0 < 0 then (some ((-1), σ)) else (if a0 ≤ (1000 : Int32) then (gB2 (p_Field_run E a0 σ) fun v1 s2 => some (v1, s2)) else (some ((-1), σ)))
set_option maxRecDepth 20000 in
theorem c_Face_tick (E : gEv) (d u : Nat) (a0 : Int32) (σ : gS) {v : Int32} {sr : gS}  (hq : p_Face_tick E a0 σ = some (v, sr)) : gC E gDf gMs (d + 6) 155 [.ref 0, .int a0] (gSh, σ, u) (some (.int v), (gSh, sr, u)) := ⟨gM155, rfl, Nat.le_of_ble_eq_true rfl, fun G hG => by
  have hP := hq
  unfold p_Face_tick at hP
  replace hG : gClo E gDf gP0 gY155 (some .int) (gC E gDf gMs (d + 5)) (some (.int v), (gSh, sr, u)) G := hG
  show G (0, [some (.ref 0), some (.int a0)], [], (gSh, σ, u))
  refine gRunN_ok hG.1 1 _ (1, [some (.ref 0), some (.int a0)], [.int a0], (gSh, σ, u)) rfl ?_
  rcases g_ite hP with ⟨hc, hP⟩ | ⟨hc, hP⟩
  · refine hG.1 _ (11, [some (.ref 0), some (.int a0)], [], (gSh, σ, u)) _ rfl (if_pos hc) ?_
    refine gRunN_ok hG.1 2 _ (23, [some (.ref 0), some (.int a0)], [.int (-1)], (gSh, σ, u)) rfl ?_
    cases hP
    exact hG.2.1 _ _ rfl rfl
  · refine hG.1 _ (4, [some (.ref 0), some (.int a0)], [], (gSh, σ, u)) _ rfl (if_neg hc) ?_
    refine gRunN_ok hG.1 2 _ (8, [some (.ref 0), some (.int a0)], [.int 1000, .int a0], (gSh, σ, u)) rfl ?_
    rcases g_ite hP with ⟨hc, hP⟩ | ⟨hc, hP⟩
    · refine hG.1 _ (15, [some (.ref 0), some (.int a0)], [], (gSh, σ, u)) _ rfl (if_pos hc) ?_
      refine gRunN_ok hG.1 3 _ (20, [some (.ref 0), some (.int a0)], [.int a0, .ref 81], (gSh, σ, u)) rfl ?_
      obtain ⟨v1, s2, hq, hP⟩ := g_b2 hP
      refine hG.2.2.2.1 _ _ _ [.ref 81, .int a0] [] _ (gSh, s2, u) (some (.int v1)) _ _ _ _ _ _ rfl rfl rfl rfl rfl rfl (c_Field_run E (d + 0) u a0 _  hq) (Nat.le_refl _) (Nat.le_refl _) (Nat.le_refl _) (Nat.le_refl _) ?_
      show G (23, [some (.ref 0), some (.int a0)], [.int v1], (gSh, s2, u))
      cases hP
      exact hG.2.1 _ _ rfl rfl
    · refine hG.1 _ (11, [some (.ref 0), some (.int a0)], [], (gSh, σ, u)) _ rfl (if_neg hc) ?_
      refine gRunN_ok hG.1 2 _ (23, [some (.ref 0), some (.int a0)], [.int (-1)], (gSh, σ, u)) rfl ?_
      cases hP
      exact hG.2.1 _ _ rfl rfl⟩
def p_Model_coverLine_292 (E : gEv) (l1 : Int32) (l2 : Int32) (l5 : Int32) (l6 : Int32) (l7 : Int32) (σ : gS) : Option ((Int32 × Int32) ⊕ (Int32)) :=
  if l2 ≤ l7 then (some (.inr l6)) else (if gIn (0 : Int32) (σ.2.1 97) then if gIn ((σ.1 97 (0 : Int32).toNatClampNeg) + l7) (σ.2.1 96) then gLet (σ.1 96 ((σ.1 97 (0 : Int32).toNatClampNeg) + l7).toNatClampNeg) fun x12 => if l6 = 0 then (gLet (l7 + 1) fun x13 => some (.inl (0, x13))) else (if x12 = (45 : Int32) then (gLet (l7 + 1) fun x14 => some (.inl (1, x14))) else (if (x12 - (48 : Int32)) = ((l5 >>> (l7 &&& 31)) &&& (1 : Int32)) then (gLet (l7 + 1) fun x15 => some (.inl (1, x15))) else (gLet (l7 + 1) fun x16 => some (.inl (0, x16))))) else none else none)
set_option maxRecDepth 20000 in
theorem b_Model_coverLine_292 (E : gEv) (d u : Nat) {G : gFr → Prop} {vo : Option Value} {sr : gS} (hG : gClo E gDf gP18 gY199 none (gC E gDf gMs (d + 5)) (vo, (gSh, sr, u)) G) (l1 : Int32) (l2 : Int32) (l5 : Int32) (l6 : Int32) (l7 : Int32) (σ : gS) {r : (Int32 × Int32) ⊕ (Int32)} (hP : p_Model_coverLine_292 E l1 l2 l5 l6 l7 σ = some r) (K1 : ∀ (m6 : Int32) (m7 : Int32), r = .inl (m6, m7) → G (292, [some (.ref 94), some (.int l1), some (.int l2), none, none, some (.int l5), some (.int m6), some (.int m7), none], [], (gSh, σ, u))) (K2 : ∀ (m6 : Int32), r = .inr m6 → G (354, [some (.ref 94), some (.int l1), some (.int l2), none, none, some (.int l5), some (.int m6), none, none], [], (gSh, σ, u))) : G (292, [some (.ref 94), some (.int l1), some (.int l2), none, none, some (.int l5), some (.int l6), some (.int l7), none], [], (gSh, σ, u)) := by
  unfold p_Model_coverLine_292 at hP
  refine gRunN_ok hG.1 2 _ (295, [some (.ref 94), some (.int l1), some (.int l2), none, none, some (.int l5), some (.int l6), some (.int l7), none], [.int l2, .int l7], (gSh, σ, u)) rfl ?_
  rcases g_ite hP with ⟨hc, hP⟩ | ⟨hc, hP⟩
  · refine hG.1 _ (354, [some (.ref 94), some (.int l1), some (.int l2), none, none, some (.int l5), some (.int l6), some (.int l7), none], [], (gSh, σ, u)) _ rfl (if_pos hc) ?_
    refine hG.2.2.2.2.1 _ _ [some (.ref 94), some (.int l1), some (.int l2), none, none, some (.int l5), some (.int l6), none, none] _ _ ⟨rfl, ⟨rfl, ⟨rfl, ⟨rfl, ⟨rfl, trivial⟩⟩⟩⟩⟩ ?_
    cases hP
    exact K2 _ rfl
  · refine hG.1 _ (298, [some (.ref 94), some (.int l1), some (.int l2), none, none, some (.int l5), some (.int l6), some (.int l7), none], [], (gSh, σ, u)) _ rfl (if_neg hc) ?_
    refine gRunN_ok hG.1 5 _ (307, [some (.ref 94), some (.int l1), some (.int l2), none, none, some (.int l5), some (.int l6), some (.int l7), none], [.int 0, .ref 97, .ref 96], (gSh, σ, u)) rfl ?_
    obtain ⟨hc, hP⟩ := g_if hP
    refine hG.1 _ (308, [some (.ref 94), some (.int l1), some (.int l2), none, none, some (.int l5), some (.int l6), some (.int l7), none], [.int (σ.1 97 (0 : Int32).toNatClampNeg), .ref 96], (gSh, σ, u)) _ rfl (if_pos hc) ?_
    refine gRunN_ok hG.1 2 _ (311, [some (.ref 94), some (.int l1), some (.int l2), none, none, some (.int l5), some (.int l6), some (.int l7), none], [.int ((σ.1 97 (0 : Int32).toNatClampNeg) + l7), .ref 96], (gSh, σ, u)) rfl ?_
    obtain ⟨hc, hP⟩ := g_if hP
    refine hG.1 _ (312, [some (.ref 94), some (.int l1), some (.int l2), none, none, some (.int l5), some (.int l6), some (.int l7), none], [.int (σ.1 96 ((σ.1 97 (0 : Int32).toNatClampNeg) + l7).toNatClampNeg)], (gSh, σ, u)) _ rfl (if_pos hc) ?_
    refine gRunN_ok hG.1 1 _ (314, [some (.ref 94), some (.int l1), some (.int l2), none, none, some (.int l5), some (.int l6), some (.int l7), some (.int (σ.1 96 ((σ.1 97 (0 : Int32).toNatClampNeg) + l7).toNatClampNeg))], [], (gSh, σ, u)) rfl ?_
    obtain ⟨x12, ex12, hP⟩ := g_let hP
    rw [← ex12]
    refine gRunN_ok hG.1 1 _ (316, [some (.ref 94), some (.int l1), some (.int l2), none, none, some (.int l5), some (.int l6), some (.int l7), some (.int x12)], [.int l6], (gSh, σ, u)) rfl ?_
    rcases g_ite hP with ⟨hc, hP⟩ | ⟨hc, hP⟩
    · refine hG.1 _ (345, [some (.ref 94), some (.int l1), some (.int l2), none, none, some (.int l5), some (.int l6), some (.int l7), some (.int x12)], [], (gSh, σ, u)) _ rfl (if_pos hc) ?_
      refine gRunN_ok hG.1 3 _ (351, [some (.ref 94), some (.int l1), some (.int l2), none, none, some (.int l5), some (.int 0), some (.int (l7 + 1)), some (.int x12)], [], (gSh, σ, u)) rfl ?_
      obtain ⟨x13, ex13, hP⟩ := g_let hP
      rw [← ex13]
      refine gRunN_ok hG.1 1 _ (292, [some (.ref 94), some (.int l1), some (.int l2), none, none, some (.int l5), some (.int 0), some (.int x13), some (.int x12)], [], (gSh, σ, u)) rfl ?_
      refine hG.2.2.2.2.1 _ _ [some (.ref 94), some (.int l1), some (.int l2), none, none, some (.int l5), some (.int 0), some (.int x13), none] _ _ ⟨rfl, ⟨rfl, ⟨rfl, ⟨rfl, ⟨rfl, ⟨rfl, trivial⟩⟩⟩⟩⟩⟩ ?_
      cases hP
      exact K1 _ _ rfl
    · refine hG.1 _ (319, [some (.ref 94), some (.int l1), some (.int l2), none, none, some (.int l5), some (.int l6), some (.int l7), some (.int x12)], [], (gSh, σ, u)) _ rfl (if_neg hc) ?_
      refine gRunN_ok hG.1 2 _ (323, [some (.ref 94), some (.int l1), some (.int l2), none, none, some (.int l5), some (.int l6), some (.int l7), some (.int x12)], [.int 45, .int x12], (gSh, σ, u)) rfl ?_
      rcases g_ite hP with ⟨hc, hP⟩ | ⟨hc, hP⟩
      · refine hG.1 _ (341, [some (.ref 94), some (.int l1), some (.int l2), none, none, some (.int l5), some (.int l6), some (.int l7), some (.int x12)], [], (gSh, σ, u)) _ rfl (if_pos hc) ?_
        refine gRunN_ok hG.1 4 _ (351, [some (.ref 94), some (.int l1), some (.int l2), none, none, some (.int l5), some (.int 1), some (.int (l7 + 1)), some (.int x12)], [], (gSh, σ, u)) rfl ?_
        obtain ⟨x14, ex14, hP⟩ := g_let hP
        rw [← ex14]
        refine gRunN_ok hG.1 1 _ (292, [some (.ref 94), some (.int l1), some (.int l2), none, none, some (.int l5), some (.int 1), some (.int x14), some (.int x12)], [], (gSh, σ, u)) rfl ?_
        refine hG.2.2.2.2.1 _ _ [some (.ref 94), some (.int l1), some (.int l2), none, none, some (.int l5), some (.int 1), some (.int x14), none] _ _ ⟨rfl, ⟨rfl, ⟨rfl, ⟨rfl, ⟨rfl, ⟨rfl, trivial⟩⟩⟩⟩⟩⟩ ?_
        cases hP
        exact K1 _ _ rfl
      · refine hG.1 _ (326, [some (.ref 94), some (.int l1), some (.int l2), none, none, some (.int l5), some (.int l6), some (.int l7), some (.int x12)], [], (gSh, σ, u)) _ rfl (if_neg hc) ?_
        refine gRunN_ok hG.1 8 _ (338, [some (.ref 94), some (.int l1), some (.int l2), none, none, some (.int l5), some (.int l6), some (.int l7), some (.int x12)], [.int ((l5 >>> (l7 &&& 31)) &&& (1 : Int32)), .int (x12 - (48 : Int32))], (gSh, σ, u)) rfl ?_
        rcases g_ite hP with ⟨hc, hP⟩ | ⟨hc, hP⟩
        · refine hG.1 _ (341, [some (.ref 94), some (.int l1), some (.int l2), none, none, some (.int l5), some (.int l6), some (.int l7), some (.int x12)], [], (gSh, σ, u)) _ rfl (if_pos hc) ?_
          refine gRunN_ok hG.1 4 _ (351, [some (.ref 94), some (.int l1), some (.int l2), none, none, some (.int l5), some (.int 1), some (.int (l7 + 1)), some (.int x12)], [], (gSh, σ, u)) rfl ?_
          obtain ⟨x15, ex15, hP⟩ := g_let hP
          rw [← ex15]
          refine gRunN_ok hG.1 1 _ (292, [some (.ref 94), some (.int l1), some (.int l2), none, none, some (.int l5), some (.int 1), some (.int x15), some (.int x12)], [], (gSh, σ, u)) rfl ?_
          refine hG.2.2.2.2.1 _ _ [some (.ref 94), some (.int l1), some (.int l2), none, none, some (.int l5), some (.int 1), some (.int x15), none] _ _ ⟨rfl, ⟨rfl, ⟨rfl, ⟨rfl, ⟨rfl, ⟨rfl, trivial⟩⟩⟩⟩⟩⟩ ?_
          cases hP
          exact K1 _ _ rfl
        · refine hG.1 _ (345, [some (.ref 94), some (.int l1), some (.int l2), none, none, some (.int l5), some (.int l6), some (.int l7), some (.int x12)], [], (gSh, σ, u)) _ rfl (if_neg hc) ?_
          refine gRunN_ok hG.1 3 _ (351, [some (.ref 94), some (.int l1), some (.int l2), none, none, some (.int l5), some (.int 0), some (.int (l7 + 1)), some (.int x12)], [], (gSh, σ, u)) rfl ?_
          obtain ⟨x16, ex16, hP⟩ := g_let hP
          rw [← ex16]
          refine gRunN_ok hG.1 1 _ (292, [some (.ref 94), some (.int l1), some (.int l2), none, none, some (.int l5), some (.int 0), some (.int x16), some (.int x12)], [], (gSh, σ, u)) rfl ?_
          refine hG.2.2.2.2.1 _ _ [some (.ref 94), some (.int l1), some (.int l2), none, none, some (.int l5), some (.int 0), some (.int x16), none] _ _ ⟨rfl, ⟨rfl, ⟨rfl, ⟨rfl, ⟨rfl, ⟨rfl, trivial⟩⟩⟩⟩⟩⟩ ?_
          cases hP
          exact K1 _ _ rfl
theorem l_Model_coverLine_292 (E : gEv) (d u : Nat) {G : gFr → Prop} {vo : Option Value} {sr : gS} (hG : gClo E gDf gP18 gY199 none (gC E gDf gMs (d + 5)) (vo, (gSh, sr, u)) G) (l1 : Int32) (l2 : Int32) (l5 : Int32) (σ : gS) : ∀ (n : Nat) (l6 : Int32) (l7 : Int32) (e : (Int32)), gIter (fun z => p_Model_coverLine_292 E l1 l2 l5 z.1 z.2 σ) n (l6, l7) = some e → (∀ (m6 : Int32), e = m6 → G (354, [some (.ref 94), some (.int l1), some (.int l2), none, none, some (.int l5), some (.int m6), none, none], [], (gSh, σ, u))) → G (292, [some (.ref 94), some (.int l1), some (.int l2), none, none, some (.int l5), some (.int l6), some (.int l7), none], [], (gSh, σ, u)) := by
  intro n
  induction n with
  | zero => intro l6 l7 e h; cases h
  | succ n ih =>
    intro l6 l7 e h K2
    rcases g_iter h with ⟨z, h1, h2⟩ | h1
    · exact b_Model_coverLine_292 E d u hG l1 l2 l5 l6 l7 σ h1 (fun n0 n1 hz => by cases hz; exact ih _ _ e h2 K2) (fun _ hz => by cases hz)
    · exact b_Model_coverLine_292 E d u hG l1 l2 l5 l6 l7 σ h1 (fun _ _ hz => by cases hz) (fun m6 hz => K2 m6 (by cases hz; rfl))
def p_Model_coverLine_j392_278 (E : gEv) (l1 : Int32) (l2 : Int32) (l5 : Int32) (y1 : Int32) (y2 : Int32) (σ : gS) : Option ((Int32 × gS) ⊕ (gS)) :=
  if gIn y1 (σ.2.1 114) then gLet (gPut σ 114 y1.toNatClampNeg (vp_nar .boolean y2)) fun s19 => gLet (l5 + 1) fun x20 => some (.inl (x20, s19)) else none
set_option maxRecDepth 20000 in
theorem j_Model_coverLine_j392_278 (E : gEv) (d u : Nat) {G : gFr → Prop} {vo : Option Value} {sr : gS} (hG : gClo E gDf gP18 gY199 none (gC E gDf gMs (d + 5)) (vo, (gSh, sr, u)) G) (l1 : Int32) (l2 : Int32) (l5 : Int32) (y1 : Int32) (y2 : Int32) (σ : gS) {r : (Int32 × gS) ⊕ (gS)} (hP : p_Model_coverLine_j392_278 E l1 l2 l5 y1 y2 σ = some r) (K1 : ∀ (m5 : Int32) (σ1 : gS), r = .inl (m5, σ1) → G (278, [some (.ref 94), some (.int l1), some (.int l2), none, none, some (.int m5), none, none, none], [], (gSh, σ1, u))) (K2 : ∀ (σ1 : gS), r = .inr σ1 → G (399, [none, none, none, none, none, none, none, none, none], [], (gSh, σ1, u))) : G (392, [some (.ref 94), some (.int l1), some (.int l2), none, none, some (.int l5), none, none, none], [.int y2, .int y1, .ref 114], (gSh, σ, u)) := by
  unfold p_Model_coverLine_j392_278 at hP
  obtain ⟨hc, hP⟩ := g_if hP
  refine hG.1 _ (393, [some (.ref 94), some (.int l1), some (.int l2), none, none, some (.int l5), none, none, none], [], (gSh, (gPut σ 114 y1.toNatClampNeg (vp_nar .boolean y2)), u)) _ rfl (if_pos hc) ?_
  obtain ⟨s19, es19, hP⟩ := g_let hP
  rw [← es19]
  refine gRunN_ok hG.1 1 _ (396, [some (.ref 94), some (.int l1), some (.int l2), none, none, some (.int (l5 + 1)), none, none, none], [], (gSh, s19, u)) rfl ?_
  obtain ⟨x20, ex20, hP⟩ := g_let hP
  rw [← ex20]
  refine gRunN_ok hG.1 1 _ (278, [some (.ref 94), some (.int l1), some (.int l2), none, none, some (.int x20), none, none, none], [], (gSh, s19, u)) rfl ?_
  cases hP
  exact K1 _ _ rfl
def p_Model_coverLine_j387_278 (E : gEv) (l1 : Int32) (l2 : Int32) (l5 : Int32) (y1 : Int32) (σ : gS) : Option ((Int32 × gS) ⊕ (gS)) :=
  p_Model_coverLine_j392_278 E l1 l2 l5 y1 1 σ
set_option maxRecDepth 20000 in
theorem j_Model_coverLine_j387_278 (E : gEv) (d u : Nat) {G : gFr → Prop} {vo : Option Value} {sr : gS} (hG : gClo E gDf gP18 gY199 none (gC E gDf gMs (d + 5)) (vo, (gSh, sr, u)) G) (l1 : Int32) (l2 : Int32) (l5 : Int32) (y1 : Int32) (σ : gS) {r : (Int32 × gS) ⊕ (gS)} (hP : p_Model_coverLine_j387_278 E l1 l2 l5 y1 σ = some r) (K1 : ∀ (m5 : Int32) (σ1 : gS), r = .inl (m5, σ1) → G (278, [some (.ref 94), some (.int l1), some (.int l2), none, none, some (.int m5), none, none, none], [], (gSh, σ1, u))) (K2 : ∀ (σ1 : gS), r = .inr σ1 → G (399, [none, none, none, none, none, none, none, none, none], [], (gSh, σ1, u))) : G (387, [some (.ref 94), some (.int l1), some (.int l2), none, none, some (.int l5), none, none, none], [.int y1, .ref 114], (gSh, σ, u)) := by
  unfold p_Model_coverLine_j387_278 at hP
  refine gRunN_ok hG.1 2 _ (392, [some (.ref 94), some (.int l1), some (.int l2), none, none, some (.int l5), none, none, none], [.int 1, .int y1, .ref 114], (gSh, σ, u)) rfl ?_
  exact j_Model_coverLine_j392_278 E d u hG l1 l2 l5 y1 1 σ hP K1 K2
def p_Model_coverLine_278 (E : gEv) (l1 : Int32) (l2 : Int32) (l5 : Int32) (σ : gS) : Option ((Int32 × gS) ⊕ (gS)) :=
  if ((1 : Int32) <<< (l2 &&& 31)) ≤ l5 then (some (.inr σ)) else (gB1 (gIter (fun z => p_Model_coverLine_292 E l1 l2 l5 z.1 z.2 σ) gN (1, 0)) fun e17 => (fun w18 => if gIn (((256 : Int32) * l1) + l5) (σ.2.1 114) then if (σ.1 114 (((256 : Int32) * l1) + l5).toNatClampNeg) = 0 then (if w18 = 0 then (p_Model_coverLine_j392_278 E l1 l2 l5 (((256 : Int32) * l1) + l5) 0 σ) else (p_Model_coverLine_j387_278 E l1 l2 l5 (((256 : Int32) * l1) + l5) σ)) else (p_Model_coverLine_j387_278 E l1 l2 l5 (((256 : Int32) * l1) + l5) σ) else none) e17)
set_option maxRecDepth 20000 in
theorem b_Model_coverLine_278 (E : gEv) (d u : Nat) {G : gFr → Prop} {vo : Option Value} {sr : gS} (hG : gClo E gDf gP18 gY199 none (gC E gDf gMs (d + 5)) (vo, (gSh, sr, u)) G) (l1 : Int32) (l2 : Int32) (l5 : Int32) (σ : gS) {r : (Int32 × gS) ⊕ (gS)} (hP : p_Model_coverLine_278 E l1 l2 l5 σ = some r) (K1 : ∀ (m5 : Int32) (σ1 : gS), r = .inl (m5, σ1) → G (278, [some (.ref 94), some (.int l1), some (.int l2), none, none, some (.int m5), none, none, none], [], (gSh, σ1, u))) (K2 : ∀ (σ1 : gS), r = .inr σ1 → G (399, [none, none, none, none, none, none, none, none, none], [], (gSh, σ1, u))) : G (278, [some (.ref 94), some (.int l1), some (.int l2), none, none, some (.int l5), none, none, none], [], (gSh, σ, u)) := by
  unfold p_Model_coverLine_278 at hP
  refine gRunN_ok hG.1 4 _ (283, [some (.ref 94), some (.int l1), some (.int l2), none, none, some (.int l5), none, none, none], [.int ((1 : Int32) <<< (l2 &&& 31)), .int l5], (gSh, σ, u)) rfl ?_
  rcases g_ite hP with ⟨hc, hP⟩ | ⟨hc, hP⟩
  · refine hG.1 _ (399, [some (.ref 94), some (.int l1), some (.int l2), none, none, some (.int l5), none, none, none], [], (gSh, σ, u)) _ rfl (if_pos hc) ?_
    refine hG.2.2.2.2.1 _ _ [none, none, none, none, none, none, none, none, none] _ _ trivial ?_
    cases hP
    exact K2 _ rfl
  · refine hG.1 _ (286, [some (.ref 94), some (.int l1), some (.int l2), none, none, some (.int l5), none, none, none], [], (gSh, σ, u)) _ rfl (if_neg hc) ?_
    refine gRunN_ok hG.1 4 _ (292, [some (.ref 94), some (.int l1), some (.int l2), none, none, some (.int l5), some (.int 1), some (.int 0), none], [], (gSh, σ, u)) rfl ?_
    obtain ⟨e17, hq, hP⟩ := g_b1 hP
    refine l_Model_coverLine_292 E d u hG l1 l2 l5 σ gN 1 0 _ hq (fun w18 he => ?_)
    · replace he := he.symm
      subst he
      try dsimp only [gSum] at hP
      refine gRunN_ok hG.1 14 _ (378, [some (.ref 94), some (.int l1), some (.int l2), none, none, some (.int l5), some (.int w18), none, none], [.int (((256 : Int32) * l1) + l5), .ref 114, .int (((256 : Int32) * l1) + l5), .ref 114], (gSh, σ, u)) rfl ?_
      obtain ⟨hc, hP⟩ := g_if hP
      refine hG.1 _ (379, [some (.ref 94), some (.int l1), some (.int l2), none, none, some (.int l5), some (.int w18), none, none], [.int (σ.1 114 (((256 : Int32) * l1) + l5).toNatClampNeg), .int (((256 : Int32) * l1) + l5), .ref 114], (gSh, σ, u)) _ rfl (if_pos hc) ?_
      rcases g_ite hP with ⟨hc, hP⟩ | ⟨hc, hP⟩
      · refine hG.1 _ (382, [some (.ref 94), some (.int l1), some (.int l2), none, none, some (.int l5), some (.int w18), none, none], [.int (((256 : Int32) * l1) + l5), .ref 114], (gSh, σ, u)) _ rfl (if_pos hc) ?_
        refine gRunN_ok hG.1 1 _ (384, [some (.ref 94), some (.int l1), some (.int l2), none, none, some (.int l5), some (.int w18), none, none], [.int w18, .int (((256 : Int32) * l1) + l5), .ref 114], (gSh, σ, u)) rfl ?_
        rcases g_ite hP with ⟨hc, hP⟩ | ⟨hc, hP⟩
        · refine hG.1 _ (391, [some (.ref 94), some (.int l1), some (.int l2), none, none, some (.int l5), some (.int w18), none, none], [.int (((256 : Int32) * l1) + l5), .ref 114], (gSh, σ, u)) _ rfl (if_pos hc) ?_
          refine gRunN_ok hG.1 1 _ (392, [some (.ref 94), some (.int l1), some (.int l2), none, none, some (.int l5), some (.int w18), none, none], [.int 0, .int (((256 : Int32) * l1) + l5), .ref 114], (gSh, σ, u)) rfl ?_
          refine hG.2.2.2.2.1 _ _ [some (.ref 94), some (.int l1), some (.int l2), none, none, some (.int l5), none, none, none] _ _ ⟨rfl, ⟨rfl, ⟨rfl, ⟨rfl, trivial⟩⟩⟩⟩ ?_
          exact j_Model_coverLine_j392_278 E d u hG l1 l2 l5 (((256 : Int32) * l1) + l5) 0 σ hP K1 K2
        · refine hG.1 _ (387, [some (.ref 94), some (.int l1), some (.int l2), none, none, some (.int l5), some (.int w18), none, none], [.int (((256 : Int32) * l1) + l5), .ref 114], (gSh, σ, u)) _ rfl (if_neg hc) ?_
          refine hG.2.2.2.2.1 _ _ [some (.ref 94), some (.int l1), some (.int l2), none, none, some (.int l5), none, none, none] _ _ ⟨rfl, ⟨rfl, ⟨rfl, ⟨rfl, trivial⟩⟩⟩⟩ ?_
          exact j_Model_coverLine_j387_278 E d u hG l1 l2 l5 (((256 : Int32) * l1) + l5) σ hP K1 K2
      · refine hG.1 _ (387, [some (.ref 94), some (.int l1), some (.int l2), none, none, some (.int l5), some (.int w18), none, none], [.int (((256 : Int32) * l1) + l5), .ref 114], (gSh, σ, u)) _ rfl (if_neg hc) ?_
        refine hG.2.2.2.2.1 _ _ [some (.ref 94), some (.int l1), some (.int l2), none, none, some (.int l5), none, none, none] _ _ ⟨rfl, ⟨rfl, ⟨rfl, ⟨rfl, trivial⟩⟩⟩⟩ ?_
        exact j_Model_coverLine_j387_278 E d u hG l1 l2 l5 (((256 : Int32) * l1) + l5) σ hP K1 K2
theorem l_Model_coverLine_278 (E : gEv) (d u : Nat) {G : gFr → Prop} {vo : Option Value} {sr : gS} (hG : gClo E gDf gP18 gY199 none (gC E gDf gMs (d + 5)) (vo, (gSh, sr, u)) G) (l1 : Int32) (l2 : Int32) : ∀ (n : Nat) (l5 : Int32) (σ : gS) (e : (gS)), gIter (fun z => p_Model_coverLine_278 E l1 l2 z.1 z.2) n (l5, σ) = some e → (∀ (σ1 : gS), e = σ1 → G (399, [none, none, none, none, none, none, none, none, none], [], (gSh, σ1, u))) → G (278, [some (.ref 94), some (.int l1), some (.int l2), none, none, some (.int l5), none, none, none], [], (gSh, σ, u)) := by
  intro n
  induction n with
  | zero => intro l5 σ e h; cases h
  | succ n ih =>
    intro l5 σ e h K2
    rcases g_iter h with ⟨z, h1, h2⟩ | h1
    · exact b_Model_coverLine_278 E d u hG l1 l2 l5 σ h1 (fun n0 n1 hz => by cases hz; exact ih _ _ e h2 K2) (fun _ hz => by cases hz)
    · exact b_Model_coverLine_278 E d u hG l1 l2 l5 σ h1 (fun _ _ hz => by cases hz) (fun σ1 hz => K2 σ1 (by cases hz; rfl))
def p_Model_coverLine_j243 (E : gEv) (l1 : Int32) (l2 : Int32) (l3 : Int32) (l4 : Int32) (σ : gS) : Option (gS) :=
  if gIn l1 (σ.2.1 113) then gLet (gPut σ 113 l1.toNatClampNeg l4) fun s11 => if (s11.1 94 19) ≤ (l3 + (1 : Int32)) then (gB1 (gIter (fun z => p_Model_coverLine_278 E l1 l2 z.1 z.2) gN (0, s11)) fun e21 => (fun s22 => some s22) e21) else (if gIn (l3 + (1 : Int32)) (s11.2.1 97) then gB1 (p_Model_fail E 1 (s11.1 97 (l3 + (1 : Int32)).toNatClampNeg) s11) fun s24 => some s24 else none) else none
set_option maxRecDepth 20000 in
theorem j_Model_coverLine_j243 (E : gEv) (d u : Nat) {G : gFr → Prop} {sr : gS} (hG : gClo E gDf gP18 gY199 none (gC E gDf gMs (d + 5)) (none, (gSh, sr, u)) G) (l1 : Int32) (l2 : Int32) (l3 : Int32) (l4 : Int32) (σ : gS) (hP : p_Model_coverLine_j243 E l1 l2 l3 l4 σ = some sr) : G (243, [some (.ref 94), some (.int l1), some (.int l2), some (.int l3), some (.int l4), none, none, none, none], [], (gSh, σ, u)) := by
  unfold p_Model_coverLine_j243 at hP
  refine gRunN_ok hG.1 4 _ (250, [some (.ref 94), some (.int l1), some (.int l2), some (.int l3), some (.int l4), none, none, none, none], [.int l4, .int l1, .ref 113], (gSh, σ, u)) rfl ?_
  obtain ⟨hc, hP⟩ := g_if hP
  refine hG.1 _ (251, [some (.ref 94), some (.int l1), some (.int l2), some (.int l3), some (.int l4), none, none, none, none], [], (gSh, (gPut σ 113 l1.toNatClampNeg l4), u)) _ rfl (if_pos hc) ?_
  obtain ⟨s11, es11, hP⟩ := g_let hP
  rw [← es11]
  refine gRunN_ok hG.1 5 _ (258, [some (.ref 94), some (.int l1), some (.int l2), some (.int l3), some (.int l4), none, none, none, none], [.int (l3 + (1 : Int32)), .int (s11.1 94 19)], (gSh, s11, u)) rfl ?_
  rcases g_ite hP with ⟨hc, hP⟩ | ⟨hc, hP⟩
  · refine hG.1 _ (275, [some (.ref 94), some (.int l1), some (.int l2), some (.int l3), some (.int l4), none, none, none, none], [], (gSh, s11, u)) _ rfl (if_pos hc) ?_
    refine gRunN_ok hG.1 2 _ (278, [some (.ref 94), some (.int l1), some (.int l2), some (.int l3), some (.int l4), some (.int 0), none, none, none], [], (gSh, s11, u)) rfl ?_
    refine hG.2.2.2.2.1 _ _ [some (.ref 94), some (.int l1), some (.int l2), none, none, some (.int 0), none, none, none] _ _ ⟨rfl, ⟨rfl, ⟨rfl, ⟨rfl, trivial⟩⟩⟩⟩ ?_
    obtain ⟨e21, hq, hP⟩ := g_b1 hP
    refine l_Model_coverLine_278 E d u hG l1 l2 gN 0 s11 _ hq (fun s22 he => ?_)
    · replace he := he.symm
      subst he
      try dsimp only [gSum] at hP
      cases hP
      exact hG.2.1 _ _ rfl rfl
  · refine hG.1 _ (261, [some (.ref 94), some (.int l1), some (.int l2), some (.int l3), some (.int l4), none, none, none, none], [], (gSh, s11, u)) _ rfl (if_neg hc) ?_
    refine gRunN_ok hG.1 7 _ (270, [some (.ref 94), some (.int l1), some (.int l2), some (.int l3), some (.int l4), none, none, none, none], [.int (l3 + (1 : Int32)), .ref 97, .int 1, .ref 94], (gSh, s11, u)) rfl ?_
    obtain ⟨hc, hP⟩ := g_if hP
    refine hG.1 _ (271, [some (.ref 94), some (.int l1), some (.int l2), some (.int l3), some (.int l4), none, none, none, none], [.int (s11.1 97 (l3 + (1 : Int32)).toNatClampNeg), .int 1, .ref 94], (gSh, s11, u)) _ rfl (if_pos hc) ?_
    obtain ⟨s24, hq, hP⟩ := g_b1 hP
    refine hG.2.2.2.1 _ _ _ [.ref 94, .int 1, .int (s11.1 97 (l3 + (1 : Int32)).toNatClampNeg)] [] _ (gSh, s24, u) none _ _ _ _ _ _ rfl rfl rfl rfl rfl rfl (c_Model_fail E (d + 4) u 1 (s11.1 97 (l3 + (1 : Int32)).toNatClampNeg) _  hq) (Nat.le_refl _) (Nat.le_refl _) (Nat.le_refl _) (Nat.le_refl _) ?_
    show G (274, [some (.ref 94), some (.int l1), some (.int l2), some (.int l3), some (.int l4), none, none, none, none], [], (gSh, s24, u))
    cases hP
    exact hG.2.1 _ _ rfl rfl
def p_Model_coverLine_j208 (E : gEv) (l1 : Int32) (l2 : Int32) (l3 : Int32) (y0 : Int32) (σ : gS) : Option (gS) :=
  if gIn l1 (σ.2.1 113) then if (σ.1 113 l1.toNatClampNeg) = ((-1) : Int32) then (p_Model_coverLine_j243 E l1 l2 l3 y0 σ) else (if gIn l1 (σ.2.1 113) then if (σ.1 113 l1.toNatClampNeg) = y0 then (p_Model_coverLine_j243 E l1 l2 l3 y0 σ) else (if gIn l3 (σ.2.1 97) then gB1 (p_Model_fail E 3 (σ.1 97 l3.toNatClampNeg) σ) fun s26 => some s26 else none) else none) else none
set_option maxRecDepth 20000 in
theorem j_Model_coverLine_j208 (E : gEv) (d u : Nat) {G : gFr → Prop} {sr : gS} (hG : gClo E gDf gP18 gY199 none (gC E gDf gMs (d + 5)) (none, (gSh, sr, u)) G) (l1 : Int32) (l2 : Int32) (l3 : Int32) (y0 : Int32) (σ : gS) (hP : p_Model_coverLine_j208 E l1 l2 l3 y0 σ = some sr) : G (208, [some (.ref 94), some (.int l1), some (.int l2), some (.int l3), none, none, none, none, none], [.int y0], (gSh, σ, u)) := by
  unfold p_Model_coverLine_j208 at hP
  refine gRunN_ok hG.1 4 _ (215, [some (.ref 94), some (.int l1), some (.int l2), some (.int l3), some (.int y0), none, none, none, none], [.int l1, .ref 113], (gSh, σ, u)) rfl ?_
  obtain ⟨hc, hP⟩ := g_if hP
  refine hG.1 _ (216, [some (.ref 94), some (.int l1), some (.int l2), some (.int l3), some (.int y0), none, none, none, none], [.int (σ.1 113 l1.toNatClampNeg)], (gSh, σ, u)) _ rfl (if_pos hc) ?_
  refine gRunN_ok hG.1 1 _ (217, [some (.ref 94), some (.int l1), some (.int l2), some (.int l3), some (.int y0), none, none, none, none], [.int (-1), .int (σ.1 113 l1.toNatClampNeg)], (gSh, σ, u)) rfl ?_
  rcases g_ite hP with ⟨hc, hP⟩ | ⟨hc, hP⟩
  · refine hG.1 _ (243, [some (.ref 94), some (.int l1), some (.int l2), some (.int l3), some (.int y0), none, none, none, none], [], (gSh, σ, u)) _ rfl (if_pos hc) ?_
    exact j_Model_coverLine_j243 E d u hG l1 l2 l3 y0 σ hP
  · refine hG.1 _ (220, [some (.ref 94), some (.int l1), some (.int l2), some (.int l3), some (.int y0), none, none, none, none], [], (gSh, σ, u)) _ rfl (if_neg hc) ?_
    refine gRunN_ok hG.1 3 _ (225, [some (.ref 94), some (.int l1), some (.int l2), some (.int l3), some (.int y0), none, none, none, none], [.int l1, .ref 113], (gSh, σ, u)) rfl ?_
    obtain ⟨hc, hP⟩ := g_if hP
    refine hG.1 _ (226, [some (.ref 94), some (.int l1), some (.int l2), some (.int l3), some (.int y0), none, none, none, none], [.int (σ.1 113 l1.toNatClampNeg)], (gSh, σ, u)) _ rfl (if_pos hc) ?_
    refine gRunN_ok hG.1 1 _ (228, [some (.ref 94), some (.int l1), some (.int l2), some (.int l3), some (.int y0), none, none, none, none], [.int y0, .int (σ.1 113 l1.toNatClampNeg)], (gSh, σ, u)) rfl ?_
    rcases g_ite hP with ⟨hc, hP⟩ | ⟨hc, hP⟩
    · refine hG.1 _ (243, [some (.ref 94), some (.int l1), some (.int l2), some (.int l3), some (.int y0), none, none, none, none], [], (gSh, σ, u)) _ rfl (if_pos hc) ?_
      exact j_Model_coverLine_j243 E d u hG l1 l2 l3 y0 σ hP
    · refine hG.1 _ (231, [some (.ref 94), some (.int l1), some (.int l2), some (.int l3), some (.int y0), none, none, none, none], [], (gSh, σ, u)) _ rfl (if_neg hc) ?_
      refine gRunN_ok hG.1 5 _ (238, [some (.ref 94), some (.int l1), some (.int l2), some (.int l3), some (.int y0), none, none, none, none], [.int l3, .ref 97, .int 3, .ref 94], (gSh, σ, u)) rfl ?_
      obtain ⟨hc, hP⟩ := g_if hP
      refine hG.1 _ (239, [some (.ref 94), some (.int l1), some (.int l2), some (.int l3), some (.int y0), none, none, none, none], [.int (σ.1 97 l3.toNatClampNeg), .int 3, .ref 94], (gSh, σ, u)) _ rfl (if_pos hc) ?_
      obtain ⟨s26, hq, hP⟩ := g_b1 hP
      refine hG.2.2.2.1 _ _ _ [.ref 94, .int 3, .int (σ.1 97 l3.toNatClampNeg)] [] _ (gSh, s26, u) none _ _ _ _ _ _ rfl rfl rfl rfl rfl rfl (c_Model_fail E (d + 4) u 3 (σ.1 97 l3.toNatClampNeg) _  hq) (Nat.le_refl _) (Nat.le_refl _) (Nat.le_refl _) (Nat.le_refl _) ?_
      show G (242, [some (.ref 94), some (.int l1), some (.int l2), some (.int l3), some (.int y0), none, none, none, none], [], (gSh, s26, u))
      cases hP
      exact hG.2.1 _ _ rfl rfl
def p_Model_coverLine_j192 (E : gEv) (l1 : Int32) (l2 : Int32) (l3 : Int32) (σ : gS) : Option (gS) :=
  gB1 (p_Model_isWord E l3 6 σ) fun v9 => if v9 = 0 then (p_Model_coverLine_j208 E l1 l2 l3 0 σ) else (p_Model_coverLine_j208 E l1 l2 l3 1 σ)
set_option maxRecDepth 20000 in
theorem j_Model_coverLine_j192 (E : gEv) (d u : Nat) {G : gFr → Prop} {sr : gS} (hG : gClo E gDf gP18 gY199 none (gC E gDf gMs (d + 5)) (none, (gSh, sr, u)) G) (l1 : Int32) (l2 : Int32) (l3 : Int32) (σ : gS) (hP : p_Model_coverLine_j192 E l1 l2 l3 σ = some sr) : G (192, [some (.ref 94), some (.int l1), some (.int l2), some (.int l3), none, none, none, none, none], [], (gSh, σ, u)) := by
  unfold p_Model_coverLine_j192 at hP
  refine gRunN_ok hG.1 3 _ (197, [some (.ref 94), some (.int l1), some (.int l2), some (.int l3), none, none, none, none, none], [.retAddr 6, .int l3, .ref 94], (gSh, σ, u)) rfl ?_
  obtain ⟨v9, hq, hP⟩ := g_b1 hP
  refine hG.2.2.2.1 _ _ _ [.ref 94, .int l3, .retAddr 6] [] _ (gSh, σ, u) (some (.int v9)) _ _ _ _ _ _ rfl rfl rfl rfl rfl rfl (c_Model_isWord E (d + 0) u l3 6 _ (by decide) hq) (Nat.le_refl _) (Nat.le_refl _) (Nat.le_refl _) (Nat.le_refl _) ?_
  show G (200, [some (.ref 94), some (.int l1), some (.int l2), some (.int l3), none, none, none, none, none], [.int v9], (gSh, σ, u))
  rcases g_ite hP with ⟨hc, hP⟩ | ⟨hc, hP⟩
  · refine hG.1 _ (207, [some (.ref 94), some (.int l1), some (.int l2), some (.int l3), none, none, none, none, none], [], (gSh, σ, u)) _ rfl (if_pos hc) ?_
    refine gRunN_ok hG.1 1 _ (208, [some (.ref 94), some (.int l1), some (.int l2), some (.int l3), none, none, none, none, none], [.int 0], (gSh, σ, u)) rfl ?_
    exact j_Model_coverLine_j208 E d u hG l1 l2 l3 0 σ hP
  · refine hG.1 _ (203, [some (.ref 94), some (.int l1), some (.int l2), some (.int l3), none, none, none, none, none], [], (gSh, σ, u)) _ rfl (if_neg hc) ?_
    refine gRunN_ok hG.1 2 _ (208, [some (.ref 94), some (.int l1), some (.int l2), some (.int l3), none, none, none, none, none], [.int 1], (gSh, σ, u)) rfl ?_
    exact j_Model_coverLine_j208 E d u hG l1 l2 l3 1 σ hP
def p_Model_coverLine_j150 (E : gEv) (l1 : Int32) (l2 : Int32) (l3 : Int32) (σ : gS) : Option (gS) :=
  if (σ.1 94 17) ≤ 0 then (gB1 (p_Model_isWord E l3 5 σ) fun v3 => if v3 = 0 then (gB1 (p_Model_isWord E l3 6 σ) fun v5 => if v5 = 0 then (if gIn l3 (σ.2.1 97) then gB1 (p_Model_fail E 1 (σ.1 97 l3.toNatClampNeg) σ) fun s8 => some s8 else none) else (p_Model_coverLine_j192 E l1 l2 l3 σ)) else (p_Model_coverLine_j192 E l1 l2 l3 σ)) else (some σ)
set_option maxRecDepth 20000 in
theorem j_Model_coverLine_j150 (E : gEv) (d u : Nat) {G : gFr → Prop} {sr : gS} (hG : gClo E gDf gP18 gY199 none (gC E gDf gMs (d + 5)) (none, (gSh, sr, u)) G) (l1 : Int32) (l2 : Int32) (l3 : Int32) (σ : gS) (hP : p_Model_coverLine_j150 E l1 l2 l3 σ = some sr) : G (150, [some (.ref 94), some (.int l1), some (.int l2), some (.int l3), none, none, none, none, none], [], (gSh, σ, u)) := by
  unfold p_Model_coverLine_j150 at hP
  refine gRunN_ok hG.1 2 _ (154, [some (.ref 94), some (.int l1), some (.int l2), some (.int l3), none, none, none, none, none], [.int (σ.1 94 17)], (gSh, σ, u)) rfl ?_
  rcases g_ite hP with ⟨hc, hP⟩ | ⟨hc, hP⟩
  · refine hG.1 _ (158, [some (.ref 94), some (.int l1), some (.int l2), some (.int l3), none, none, none, none, none], [], (gSh, σ, u)) _ rfl (if_pos hc) ?_
    refine gRunN_ok hG.1 3 _ (163, [some (.ref 94), some (.int l1), some (.int l2), some (.int l3), none, none, none, none, none], [.retAddr 5, .int l3, .ref 94], (gSh, σ, u)) rfl ?_
    obtain ⟨v3, hq, hP⟩ := g_b1 hP
    refine hG.2.2.2.1 _ _ _ [.ref 94, .int l3, .retAddr 5] [] _ (gSh, σ, u) (some (.int v3)) _ _ _ _ _ _ rfl rfl rfl rfl rfl rfl (c_Model_isWord E (d + 0) u l3 5 _ (by decide) hq) (Nat.le_refl _) (Nat.le_refl _) (Nat.le_refl _) (Nat.le_refl _) ?_
    show G (166, [some (.ref 94), some (.int l1), some (.int l2), some (.int l3), none, none, none, none, none], [.int v3], (gSh, σ, u))
    rcases g_ite hP with ⟨hc, hP⟩ | ⟨hc, hP⟩
    · refine hG.1 _ (169, [some (.ref 94), some (.int l1), some (.int l2), some (.int l3), none, none, none, none, none], [], (gSh, σ, u)) _ rfl (if_pos hc) ?_
      refine gRunN_ok hG.1 3 _ (174, [some (.ref 94), some (.int l1), some (.int l2), some (.int l3), none, none, none, none, none], [.retAddr 6, .int l3, .ref 94], (gSh, σ, u)) rfl ?_
      obtain ⟨v5, hq, hP⟩ := g_b1 hP
      refine hG.2.2.2.1 _ _ _ [.ref 94, .int l3, .retAddr 6] [] _ (gSh, σ, u) (some (.int v5)) _ _ _ _ _ _ rfl rfl rfl rfl rfl rfl (c_Model_isWord E (d + 0) u l3 6 _ (by decide) hq) (Nat.le_refl _) (Nat.le_refl _) (Nat.le_refl _) (Nat.le_refl _) ?_
      show G (177, [some (.ref 94), some (.int l1), some (.int l2), some (.int l3), none, none, none, none, none], [.int v5], (gSh, σ, u))
      rcases g_ite hP with ⟨hc, hP⟩ | ⟨hc, hP⟩
      · refine hG.1 _ (180, [some (.ref 94), some (.int l1), some (.int l2), some (.int l3), none, none, none, none, none], [], (gSh, σ, u)) _ rfl (if_pos hc) ?_
        refine gRunN_ok hG.1 5 _ (187, [some (.ref 94), some (.int l1), some (.int l2), some (.int l3), none, none, none, none, none], [.int l3, .ref 97, .int 1, .ref 94], (gSh, σ, u)) rfl ?_
        obtain ⟨hc, hP⟩ := g_if hP
        refine hG.1 _ (188, [some (.ref 94), some (.int l1), some (.int l2), some (.int l3), none, none, none, none, none], [.int (σ.1 97 l3.toNatClampNeg), .int 1, .ref 94], (gSh, σ, u)) _ rfl (if_pos hc) ?_
        obtain ⟨s8, hq, hP⟩ := g_b1 hP
        refine hG.2.2.2.1 _ _ _ [.ref 94, .int 1, .int (σ.1 97 l3.toNatClampNeg)] [] _ (gSh, s8, u) none _ _ _ _ _ _ rfl rfl rfl rfl rfl rfl (c_Model_fail E (d + 4) u 1 (σ.1 97 l3.toNatClampNeg) _  hq) (Nat.le_refl _) (Nat.le_refl _) (Nat.le_refl _) (Nat.le_refl _) ?_
        show G (191, [some (.ref 94), some (.int l1), some (.int l2), some (.int l3), none, none, none, none, none], [], (gSh, s8, u))
        cases hP
        exact hG.2.1 _ _ rfl rfl
      · refine hG.1 _ (192, [some (.ref 94), some (.int l1), some (.int l2), some (.int l3), none, none, none, none, none], [], (gSh, σ, u)) _ rfl (if_neg hc) ?_
        exact j_Model_coverLine_j192 E d u hG l1 l2 l3 σ hP
    · refine hG.1 _ (192, [some (.ref 94), some (.int l1), some (.int l2), some (.int l3), none, none, none, none, none], [], (gSh, σ, u)) _ rfl (if_neg hc) ?_
      exact j_Model_coverLine_j192 E d u hG l1 l2 l3 σ hP
  · refine hG.1 _ (157, [some (.ref 94), some (.int l1), some (.int l2), some (.int l3), none, none, none, none, none], [], (gSh, σ, u)) _ rfl (if_neg hc) ?_
    cases hP
    exact hG.2.1 _ _ rfl rfl
def p_Model_coverLine_48 (E : gEv) (l1 : Int32) (l2 : Int32) (l3 : Int32) (l4 : Int32) (l5 : Int32) (σ : gS) : Option ((Int32 × Int32) ⊕ (Int32)) :=
  if gIn (0 : Int32) (σ.2.1 98) then if (σ.1 98 (0 : Int32).toNatClampNeg) ≤ l5 then (some (.inr l4)) else (if gIn (0 : Int32) (σ.2.1 97) then if gIn ((σ.1 97 (0 : Int32).toNatClampNeg) + l5) (σ.2.1 96) then gLet (σ.1 96 ((σ.1 97 (0 : Int32).toNatClampNeg) + l5).toNatClampNeg) fun x27 => if l4 = 0 then (gLet (l5 + 1) fun x28 => some (.inl (0, x28))) else (if x27 = (48 : Int32) then (gLet (l5 + 1) fun x29 => some (.inl (1, x29))) else (if x27 = (49 : Int32) then (gLet (l5 + 1) fun x30 => some (.inl (1, x30))) else (if x27 = (45 : Int32) then (gLet (l5 + 1) fun x31 => some (.inl (1, x31))) else (gLet (l5 + 1) fun x32 => some (.inl (0, x32)))))) else none else none) else none
set_option maxRecDepth 20000 in
theorem b_Model_coverLine_48 (E : gEv) (d u : Nat) {G : gFr → Prop} {vo : Option Value} {sr : gS} (hG : gClo E gDf gP18 gY199 none (gC E gDf gMs (d + 5)) (vo, (gSh, sr, u)) G) (l1 : Int32) (l2 : Int32) (l3 : Int32) (l4 : Int32) (l5 : Int32) (σ : gS) {r : (Int32 × Int32) ⊕ (Int32)} (hP : p_Model_coverLine_48 E l1 l2 l3 l4 l5 σ = some r) (K1 : ∀ (m4 : Int32) (m5 : Int32), r = .inl (m4, m5) → G (48, [some (.ref 94), some (.int l1), some (.int l2), some (.int l3), some (.int m4), some (.int m5), none, none, none], [], (gSh, σ, u))) (K2 : ∀ (m4 : Int32), r = .inr m4 → G (114, [some (.ref 94), some (.int l1), some (.int l2), some (.int l3), some (.int m4), none, none, none, none], [], (gSh, σ, u))) : G (48, [some (.ref 94), some (.int l1), some (.int l2), some (.int l3), some (.int l4), some (.int l5), none, none, none], [], (gSh, σ, u)) := by
  unfold p_Model_coverLine_48 at hP
  refine gRunN_ok hG.1 4 _ (55, [some (.ref 94), some (.int l1), some (.int l2), some (.int l3), some (.int l4), some (.int l5), none, none, none], [.int 0, .ref 98, .int l5], (gSh, σ, u)) rfl ?_
  obtain ⟨hc, hP⟩ := g_if hP
  refine hG.1 _ (56, [some (.ref 94), some (.int l1), some (.int l2), some (.int l3), some (.int l4), some (.int l5), none, none, none], [.int (σ.1 98 (0 : Int32).toNatClampNeg), .int l5], (gSh, σ, u)) _ rfl (if_pos hc) ?_
  rcases g_ite hP with ⟨hc, hP⟩ | ⟨hc, hP⟩
  · refine hG.1 _ (114, [some (.ref 94), some (.int l1), some (.int l2), some (.int l3), some (.int l4), some (.int l5), none, none, none], [], (gSh, σ, u)) _ rfl (if_pos hc) ?_
    refine hG.2.2.2.2.1 _ _ [some (.ref 94), some (.int l1), some (.int l2), some (.int l3), some (.int l4), none, none, none, none] _ _ ⟨rfl, ⟨rfl, ⟨rfl, ⟨rfl, ⟨rfl, trivial⟩⟩⟩⟩⟩ ?_
    cases hP
    exact K2 _ rfl
  · refine hG.1 _ (59, [some (.ref 94), some (.int l1), some (.int l2), some (.int l3), some (.int l4), some (.int l5), none, none, none], [], (gSh, σ, u)) _ rfl (if_neg hc) ?_
    refine gRunN_ok hG.1 5 _ (68, [some (.ref 94), some (.int l1), some (.int l2), some (.int l3), some (.int l4), some (.int l5), none, none, none], [.int 0, .ref 97, .ref 96], (gSh, σ, u)) rfl ?_
    obtain ⟨hc, hP⟩ := g_if hP
    refine hG.1 _ (69, [some (.ref 94), some (.int l1), some (.int l2), some (.int l3), some (.int l4), some (.int l5), none, none, none], [.int (σ.1 97 (0 : Int32).toNatClampNeg), .ref 96], (gSh, σ, u)) _ rfl (if_pos hc) ?_
    refine gRunN_ok hG.1 2 _ (72, [some (.ref 94), some (.int l1), some (.int l2), some (.int l3), some (.int l4), some (.int l5), none, none, none], [.int ((σ.1 97 (0 : Int32).toNatClampNeg) + l5), .ref 96], (gSh, σ, u)) rfl ?_
    obtain ⟨hc, hP⟩ := g_if hP
    refine hG.1 _ (73, [some (.ref 94), some (.int l1), some (.int l2), some (.int l3), some (.int l4), some (.int l5), none, none, none], [.int (σ.1 96 ((σ.1 97 (0 : Int32).toNatClampNeg) + l5).toNatClampNeg)], (gSh, σ, u)) _ rfl (if_pos hc) ?_
    refine gRunN_ok hG.1 1 _ (75, [some (.ref 94), some (.int l1), some (.int l2), some (.int l3), some (.int l4), some (.int l5), some (.int (σ.1 96 ((σ.1 97 (0 : Int32).toNatClampNeg) + l5).toNatClampNeg)), none, none], [], (gSh, σ, u)) rfl ?_
    obtain ⟨x27, ex27, hP⟩ := g_let hP
    rw [← ex27]
    refine gRunN_ok hG.1 1 _ (77, [some (.ref 94), some (.int l1), some (.int l2), some (.int l3), some (.int l4), some (.int l5), some (.int x27), none, none], [.int l4], (gSh, σ, u)) rfl ?_
    rcases g_ite hP with ⟨hc, hP⟩ | ⟨hc, hP⟩
    · refine hG.1 _ (105, [some (.ref 94), some (.int l1), some (.int l2), some (.int l3), some (.int l4), some (.int l5), some (.int x27), none, none], [], (gSh, σ, u)) _ rfl (if_pos hc) ?_
      refine gRunN_ok hG.1 3 _ (111, [some (.ref 94), some (.int l1), some (.int l2), some (.int l3), some (.int 0), some (.int (l5 + 1)), some (.int x27), none, none], [], (gSh, σ, u)) rfl ?_
      obtain ⟨x28, ex28, hP⟩ := g_let hP
      rw [← ex28]
      refine gRunN_ok hG.1 1 _ (48, [some (.ref 94), some (.int l1), some (.int l2), some (.int l3), some (.int 0), some (.int x28), some (.int x27), none, none], [], (gSh, σ, u)) rfl ?_
      refine hG.2.2.2.2.1 _ _ [some (.ref 94), some (.int l1), some (.int l2), some (.int l3), some (.int 0), some (.int x28), none, none, none] _ _ ⟨rfl, ⟨rfl, ⟨rfl, ⟨rfl, ⟨rfl, ⟨rfl, trivial⟩⟩⟩⟩⟩⟩ ?_
      cases hP
      exact K1 _ _ rfl
    · refine hG.1 _ (80, [some (.ref 94), some (.int l1), some (.int l2), some (.int l3), some (.int l4), some (.int l5), some (.int x27), none, none], [], (gSh, σ, u)) _ rfl (if_neg hc) ?_
      refine gRunN_ok hG.1 2 _ (84, [some (.ref 94), some (.int l1), some (.int l2), some (.int l3), some (.int l4), some (.int l5), some (.int x27), none, none], [.int 48, .int x27], (gSh, σ, u)) rfl ?_
      rcases g_ite hP with ⟨hc, hP⟩ | ⟨hc, hP⟩
      · refine hG.1 _ (101, [some (.ref 94), some (.int l1), some (.int l2), some (.int l3), some (.int l4), some (.int l5), some (.int x27), none, none], [], (gSh, σ, u)) _ rfl (if_pos hc) ?_
        refine gRunN_ok hG.1 4 _ (111, [some (.ref 94), some (.int l1), some (.int l2), some (.int l3), some (.int 1), some (.int (l5 + 1)), some (.int x27), none, none], [], (gSh, σ, u)) rfl ?_
        obtain ⟨x29, ex29, hP⟩ := g_let hP
        rw [← ex29]
        refine gRunN_ok hG.1 1 _ (48, [some (.ref 94), some (.int l1), some (.int l2), some (.int l3), some (.int 1), some (.int x29), some (.int x27), none, none], [], (gSh, σ, u)) rfl ?_
        refine hG.2.2.2.2.1 _ _ [some (.ref 94), some (.int l1), some (.int l2), some (.int l3), some (.int 1), some (.int x29), none, none, none] _ _ ⟨rfl, ⟨rfl, ⟨rfl, ⟨rfl, ⟨rfl, ⟨rfl, trivial⟩⟩⟩⟩⟩⟩ ?_
        cases hP
        exact K1 _ _ rfl
      · refine hG.1 _ (87, [some (.ref 94), some (.int l1), some (.int l2), some (.int l3), some (.int l4), some (.int l5), some (.int x27), none, none], [], (gSh, σ, u)) _ rfl (if_neg hc) ?_
        refine gRunN_ok hG.1 2 _ (91, [some (.ref 94), some (.int l1), some (.int l2), some (.int l3), some (.int l4), some (.int l5), some (.int x27), none, none], [.int 49, .int x27], (gSh, σ, u)) rfl ?_
        rcases g_ite hP with ⟨hc, hP⟩ | ⟨hc, hP⟩
        · refine hG.1 _ (101, [some (.ref 94), some (.int l1), some (.int l2), some (.int l3), some (.int l4), some (.int l5), some (.int x27), none, none], [], (gSh, σ, u)) _ rfl (if_pos hc) ?_
          refine gRunN_ok hG.1 4 _ (111, [some (.ref 94), some (.int l1), some (.int l2), some (.int l3), some (.int 1), some (.int (l5 + 1)), some (.int x27), none, none], [], (gSh, σ, u)) rfl ?_
          obtain ⟨x30, ex30, hP⟩ := g_let hP
          rw [← ex30]
          refine gRunN_ok hG.1 1 _ (48, [some (.ref 94), some (.int l1), some (.int l2), some (.int l3), some (.int 1), some (.int x30), some (.int x27), none, none], [], (gSh, σ, u)) rfl ?_
          refine hG.2.2.2.2.1 _ _ [some (.ref 94), some (.int l1), some (.int l2), some (.int l3), some (.int 1), some (.int x30), none, none, none] _ _ ⟨rfl, ⟨rfl, ⟨rfl, ⟨rfl, ⟨rfl, ⟨rfl, trivial⟩⟩⟩⟩⟩⟩ ?_
          cases hP
          exact K1 _ _ rfl
        · refine hG.1 _ (94, [some (.ref 94), some (.int l1), some (.int l2), some (.int l3), some (.int l4), some (.int l5), some (.int x27), none, none], [], (gSh, σ, u)) _ rfl (if_neg hc) ?_
          refine gRunN_ok hG.1 2 _ (98, [some (.ref 94), some (.int l1), some (.int l2), some (.int l3), some (.int l4), some (.int l5), some (.int x27), none, none], [.int 45, .int x27], (gSh, σ, u)) rfl ?_
          rcases g_ite hP with ⟨hc, hP⟩ | ⟨hc, hP⟩
          · refine hG.1 _ (101, [some (.ref 94), some (.int l1), some (.int l2), some (.int l3), some (.int l4), some (.int l5), some (.int x27), none, none], [], (gSh, σ, u)) _ rfl (if_pos hc) ?_
            refine gRunN_ok hG.1 4 _ (111, [some (.ref 94), some (.int l1), some (.int l2), some (.int l3), some (.int 1), some (.int (l5 + 1)), some (.int x27), none, none], [], (gSh, σ, u)) rfl ?_
            obtain ⟨x31, ex31, hP⟩ := g_let hP
            rw [← ex31]
            refine gRunN_ok hG.1 1 _ (48, [some (.ref 94), some (.int l1), some (.int l2), some (.int l3), some (.int 1), some (.int x31), some (.int x27), none, none], [], (gSh, σ, u)) rfl ?_
            refine hG.2.2.2.2.1 _ _ [some (.ref 94), some (.int l1), some (.int l2), some (.int l3), some (.int 1), some (.int x31), none, none, none] _ _ ⟨rfl, ⟨rfl, ⟨rfl, ⟨rfl, ⟨rfl, ⟨rfl, trivial⟩⟩⟩⟩⟩⟩ ?_
            cases hP
            exact K1 _ _ rfl
          · refine hG.1 _ (105, [some (.ref 94), some (.int l1), some (.int l2), some (.int l3), some (.int l4), some (.int l5), some (.int x27), none, none], [], (gSh, σ, u)) _ rfl (if_neg hc) ?_
            refine gRunN_ok hG.1 3 _ (111, [some (.ref 94), some (.int l1), some (.int l2), some (.int l3), some (.int 0), some (.int (l5 + 1)), some (.int x27), none, none], [], (gSh, σ, u)) rfl ?_
            obtain ⟨x32, ex32, hP⟩ := g_let hP
            rw [← ex32]
            refine gRunN_ok hG.1 1 _ (48, [some (.ref 94), some (.int l1), some (.int l2), some (.int l3), some (.int 0), some (.int x32), some (.int x27), none, none], [], (gSh, σ, u)) rfl ?_
            refine hG.2.2.2.2.1 _ _ [some (.ref 94), some (.int l1), some (.int l2), some (.int l3), some (.int 0), some (.int x32), none, none, none] _ _ ⟨rfl, ⟨rfl, ⟨rfl, ⟨rfl, ⟨rfl, ⟨rfl, trivial⟩⟩⟩⟩⟩⟩ ?_
            cases hP
            exact K1 _ _ rfl
theorem l_Model_coverLine_48 (E : gEv) (d u : Nat) {G : gFr → Prop} {vo : Option Value} {sr : gS} (hG : gClo E gDf gP18 gY199 none (gC E gDf gMs (d + 5)) (vo, (gSh, sr, u)) G) (l1 : Int32) (l2 : Int32) (l3 : Int32) (σ : gS) : ∀ (n : Nat) (l4 : Int32) (l5 : Int32) (e : (Int32)), gIter (fun z => p_Model_coverLine_48 E l1 l2 l3 z.1 z.2 σ) n (l4, l5) = some e → (∀ (m4 : Int32), e = m4 → G (114, [some (.ref 94), some (.int l1), some (.int l2), some (.int l3), some (.int m4), none, none, none, none], [], (gSh, σ, u))) → G (48, [some (.ref 94), some (.int l1), some (.int l2), some (.int l3), some (.int l4), some (.int l5), none, none, none], [], (gSh, σ, u)) := by
  intro n
  induction n with
  | zero => intro l4 l5 e h; cases h
  | succ n ih =>
    intro l4 l5 e h K2
    rcases g_iter h with ⟨z, h1, h2⟩ | h1
    · exact b_Model_coverLine_48 E d u hG l1 l2 l3 l4 l5 σ h1 (fun n0 n1 hz => by cases hz; exact ih _ _ e h2 K2) (fun _ hz => by cases hz)
    · exact b_Model_coverLine_48 E d u hG l1 l2 l3 l4 l5 σ h1 (fun _ _ hz => by cases hz) (fun m4 hz => K2 m4 (by cases hz; rfl))
def p_Model_coverLine_j43 (E : gEv) (l1 : Int32) (l2 : Int32) (l3 : Int32) (y0 : Int32) (σ : gS) : Option (gS) :=
  gB1 (gIter (fun z => p_Model_coverLine_48 E l1 l2 l3 z.1 z.2 σ) gN (y0, 0)) fun e33 => (fun w34 => if w34 = 0 then (if gIn (0 : Int32) (σ.2.1 97) then gB1 (p_Model_fail E 1 (σ.1 97 (0 : Int32).toNatClampNeg) σ) fun s36 => p_Model_coverLine_j150 E l1 l2 l3 s36 else none) else (if (σ.1 94 19) = (1 : Int32) then (gB1 (p_Model_fail E 1 (σ.1 94 20) σ) fun s38 => p_Model_coverLine_j150 E l1 l2 l3 s38) else (p_Model_coverLine_j150 E l1 l2 l3 σ))) e33
set_option maxRecDepth 20000 in
theorem j_Model_coverLine_j43 (E : gEv) (d u : Nat) {G : gFr → Prop} {sr : gS} (hG : gClo E gDf gP18 gY199 none (gC E gDf gMs (d + 5)) (none, (gSh, sr, u)) G) (l1 : Int32) (l2 : Int32) (l3 : Int32) (y0 : Int32) (σ : gS) (hP : p_Model_coverLine_j43 E l1 l2 l3 y0 σ = some sr) : G (43, [some (.ref 94), some (.int l1), some (.int l2), some (.int l3), none, none, none, none, none], [.int y0], (gSh, σ, u)) := by
  unfold p_Model_coverLine_j43 at hP
  refine gRunN_ok hG.1 3 _ (48, [some (.ref 94), some (.int l1), some (.int l2), some (.int l3), some (.int y0), some (.int 0), none, none, none], [], (gSh, σ, u)) rfl ?_
  obtain ⟨e33, hq, hP⟩ := g_b1 hP
  refine l_Model_coverLine_48 E d u hG l1 l2 l3 σ gN y0 0 _ hq (fun w34 he => ?_)
  · replace he := he.symm
    subst he
    try dsimp only [gSum] at hP
    refine gRunN_ok hG.1 1 _ (116, [some (.ref 94), some (.int l1), some (.int l2), some (.int l3), some (.int w34), none, none, none, none], [.int w34], (gSh, σ, u)) rfl ?_
    rcases g_ite hP with ⟨hc, hP⟩ | ⟨hc, hP⟩
    · refine hG.1 _ (119, [some (.ref 94), some (.int l1), some (.int l2), some (.int l3), some (.int w34), none, none, none, none], [], (gSh, σ, u)) _ rfl (if_pos hc) ?_
      refine gRunN_ok hG.1 5 _ (126, [some (.ref 94), some (.int l1), some (.int l2), some (.int l3), some (.int w34), none, none, none, none], [.int 0, .ref 97, .int 1, .ref 94], (gSh, σ, u)) rfl ?_
      obtain ⟨hc, hP⟩ := g_if hP
      refine hG.1 _ (127, [some (.ref 94), some (.int l1), some (.int l2), some (.int l3), some (.int w34), none, none, none, none], [.int (σ.1 97 (0 : Int32).toNatClampNeg), .int 1, .ref 94], (gSh, σ, u)) _ rfl (if_pos hc) ?_
      obtain ⟨s36, hq, hP⟩ := g_b1 hP
      refine hG.2.2.2.1 _ _ _ [.ref 94, .int 1, .int (σ.1 97 (0 : Int32).toNatClampNeg)] [] _ (gSh, s36, u) none _ _ _ _ _ _ rfl rfl rfl rfl rfl rfl (c_Model_fail E (d + 4) u 1 (σ.1 97 (0 : Int32).toNatClampNeg) _  hq) (Nat.le_refl _) (Nat.le_refl _) (Nat.le_refl _) (Nat.le_refl _) ?_
      show G (130, [some (.ref 94), some (.int l1), some (.int l2), some (.int l3), some (.int w34), none, none, none, none], [], (gSh, s36, u))
      refine gRunN_ok hG.1 1 _ (150, [some (.ref 94), some (.int l1), some (.int l2), some (.int l3), some (.int w34), none, none, none, none], [], (gSh, s36, u)) rfl ?_
      refine hG.2.2.2.2.1 _ _ [some (.ref 94), some (.int l1), some (.int l2), some (.int l3), none, none, none, none, none] _ _ ⟨rfl, ⟨rfl, ⟨rfl, ⟨rfl, trivial⟩⟩⟩⟩ ?_
      exact j_Model_coverLine_j150 E d u hG l1 l2 l3 s36 hP
    · refine hG.1 _ (133, [some (.ref 94), some (.int l1), some (.int l2), some (.int l3), some (.int w34), none, none, none, none], [], (gSh, σ, u)) _ rfl (if_neg hc) ?_
      refine gRunN_ok hG.1 3 _ (138, [some (.ref 94), some (.int l1), some (.int l2), some (.int l3), some (.int w34), none, none, none, none], [.int 1, .int (σ.1 94 19)], (gSh, σ, u)) rfl ?_
      rcases g_ite hP with ⟨hc, hP⟩ | ⟨hc, hP⟩
      · refine hG.1 _ (141, [some (.ref 94), some (.int l1), some (.int l2), some (.int l3), some (.int w34), none, none, none, none], [], (gSh, σ, u)) _ rfl (if_pos hc) ?_
        refine gRunN_ok hG.1 4 _ (147, [some (.ref 94), some (.int l1), some (.int l2), some (.int l3), some (.int w34), none, none, none, none], [.int (σ.1 94 20), .int 1, .ref 94], (gSh, σ, u)) rfl ?_
        obtain ⟨s38, hq, hP⟩ := g_b1 hP
        refine hG.2.2.2.1 _ _ _ [.ref 94, .int 1, .int (σ.1 94 20)] [] _ (gSh, s38, u) none _ _ _ _ _ _ rfl rfl rfl rfl rfl rfl (c_Model_fail E (d + 4) u 1 (σ.1 94 20) _  hq) (Nat.le_refl _) (Nat.le_refl _) (Nat.le_refl _) (Nat.le_refl _) ?_
        show G (150, [some (.ref 94), some (.int l1), some (.int l2), some (.int l3), some (.int w34), none, none, none, none], [], (gSh, s38, u))
        refine hG.2.2.2.2.1 _ _ [some (.ref 94), some (.int l1), some (.int l2), some (.int l3), none, none, none, none, none] _ _ ⟨rfl, ⟨rfl, ⟨rfl, ⟨rfl, trivial⟩⟩⟩⟩ ?_
        exact j_Model_coverLine_j150 E d u hG l1 l2 l3 s38 hP
      · refine hG.1 _ (150, [some (.ref 94), some (.int l1), some (.int l2), some (.int l3), some (.int w34), none, none, none, none], [], (gSh, σ, u)) _ rfl (if_neg hc) ?_
        refine hG.2.2.2.2.1 _ _ [some (.ref 94), some (.int l1), some (.int l2), some (.int l3), none, none, none, none, none] _ _ ⟨rfl, ⟨rfl, ⟨rfl, ⟨rfl, trivial⟩⟩⟩⟩ ?_
        exact j_Model_coverLine_j150 E d u hG l1 l2 l3 σ hP
def p_Model_coverLine_j23 (E : gEv) (l1 : Int32) (l2 : Int32) (y0 : Int32) (σ : gS) : Option (gS) :=
  if l2 ≤ 0 then (p_Model_coverLine_j150 E l1 l2 y0 σ) else (if gIn (0 : Int32) (σ.2.1 98) then if (σ.1 98 (0 : Int32).toNatClampNeg) = l2 then (p_Model_coverLine_j43 E l1 l2 y0 1 σ) else (p_Model_coverLine_j43 E l1 l2 y0 0 σ) else none)
set_option maxRecDepth 20000 in
theorem j_Model_coverLine_j23 (E : gEv) (d u : Nat) {G : gFr → Prop} {sr : gS} (hG : gClo E gDf gP18 gY199 none (gC E gDf gMs (d + 5)) (none, (gSh, sr, u)) G) (l1 : Int32) (l2 : Int32) (y0 : Int32) (σ : gS) (hP : p_Model_coverLine_j23 E l1 l2 y0 σ = some sr) : G (23, [some (.ref 94), some (.int l1), some (.int l2), none, none, none, none, none, none], [.int y0], (gSh, σ, u)) := by
  unfold p_Model_coverLine_j23 at hP
  refine gRunN_ok hG.1 2 _ (25, [some (.ref 94), some (.int l1), some (.int l2), some (.int y0), none, none, none, none, none], [.int l2], (gSh, σ, u)) rfl ?_
  rcases g_ite hP with ⟨hc, hP⟩ | ⟨hc, hP⟩
  · refine hG.1 _ (150, [some (.ref 94), some (.int l1), some (.int l2), some (.int y0), none, none, none, none, none], [], (gSh, σ, u)) _ rfl (if_pos hc) ?_
    exact j_Model_coverLine_j150 E d u hG l1 l2 y0 σ hP
  · refine hG.1 _ (28, [some (.ref 94), some (.int l1), some (.int l2), some (.int y0), none, none, none, none, none], [], (gSh, σ, u)) _ rfl (if_neg hc) ?_
    refine gRunN_ok hG.1 3 _ (33, [some (.ref 94), some (.int l1), some (.int l2), some (.int y0), none, none, none, none, none], [.int 0, .ref 98], (gSh, σ, u)) rfl ?_
    obtain ⟨hc, hP⟩ := g_if hP
    refine hG.1 _ (34, [some (.ref 94), some (.int l1), some (.int l2), some (.int y0), none, none, none, none, none], [.int (σ.1 98 (0 : Int32).toNatClampNeg)], (gSh, σ, u)) _ rfl (if_pos hc) ?_
    refine gRunN_ok hG.1 1 _ (35, [some (.ref 94), some (.int l1), some (.int l2), some (.int y0), none, none, none, none, none], [.int l2, .int (σ.1 98 (0 : Int32).toNatClampNeg)], (gSh, σ, u)) rfl ?_
    rcases g_ite hP with ⟨hc, hP⟩ | ⟨hc, hP⟩
    · refine hG.1 _ (38, [some (.ref 94), some (.int l1), some (.int l2), some (.int y0), none, none, none, none, none], [], (gSh, σ, u)) _ rfl (if_pos hc) ?_
      refine gRunN_ok hG.1 2 _ (43, [some (.ref 94), some (.int l1), some (.int l2), some (.int y0), none, none, none, none, none], [.int 1], (gSh, σ, u)) rfl ?_
      exact j_Model_coverLine_j43 E d u hG l1 l2 y0 1 σ hP
    · refine hG.1 _ (42, [some (.ref 94), some (.int l1), some (.int l2), some (.int y0), none, none, none, none, none], [], (gSh, σ, u)) _ rfl (if_neg hc) ?_
      refine gRunN_ok hG.1 1 _ (43, [some (.ref 94), some (.int l1), some (.int l2), some (.int y0), none, none, none, none, none], [.int 0], (gSh, σ, u)) rfl ?_
      exact j_Model_coverLine_j43 E d u hG l1 l2 y0 0 σ hP
def p_Model_coverLine (E : gEv) (σ : gS) : Option (gS) :=
  gLet ((σ.1 94 32) - (1 : Int32)) fun x1 => if gIn x1 (σ.2.1 110) then gLet (σ.1 110 x1.toNatClampNeg) fun x2 => if x2 = 0 then (p_Model_coverLine_j23 E x1 x2 0 σ) else (p_Model_coverLine_j23 E x1 x2 1 σ) else none
set_option maxRecDepth 20000 in
theorem c_Model_coverLine (E : gEv) (d u : Nat) (σ : gS) {sr : gS}  (hq : p_Model_coverLine E σ = some sr) : gC E gDf gMs (d + 6) 199 [.ref 94] (gSh, σ, u) (none, (gSh, sr, u)) := ⟨gM199, rfl, Nat.le_of_ble_eq_true rfl, fun G hG => by
  have hP := hq
  unfold p_Model_coverLine at hP
  replace hG : gClo E gDf gP18 gY199 none (gC E gDf gMs (d + 5)) (none, (gSh, sr, u)) G := hG
  show G (0, [some (.ref 94), none, none, none, none, none, none, none, none], [], (gSh, σ, u))
  refine gRunN_ok hG.1 5 _ (7, [some (.ref 94), some (.int ((σ.1 94 32) - (1 : Int32))), none, none, none, none, none, none, none], [], (gSh, σ, u)) rfl ?_
  obtain ⟨x1, ex1, hP⟩ := g_let hP
  rw [← ex1]
  refine gRunN_ok hG.1 3 _ (12, [some (.ref 94), some (.int x1), none, none, none, none, none, none, none], [.int x1, .ref 110], (gSh, σ, u)) rfl ?_
  obtain ⟨hc, hP⟩ := g_if hP
  refine hG.1 _ (13, [some (.ref 94), some (.int x1), none, none, none, none, none, none, none], [.int (σ.1 110 x1.toNatClampNeg)], (gSh, σ, u)) _ rfl (if_pos hc) ?_
  refine gRunN_ok hG.1 1 _ (14, [some (.ref 94), some (.int x1), some (.int (σ.1 110 x1.toNatClampNeg)), none, none, none, none, none, none], [], (gSh, σ, u)) rfl ?_
  obtain ⟨x2, ex2, hP⟩ := g_let hP
  rw [← ex2]
  refine gRunN_ok hG.1 1 _ (15, [some (.ref 94), some (.int x1), some (.int x2), none, none, none, none, none, none], [.int x2], (gSh, σ, u)) rfl ?_
  rcases g_ite hP with ⟨hc, hP⟩ | ⟨hc, hP⟩
  · refine hG.1 _ (18, [some (.ref 94), some (.int x1), some (.int x2), none, none, none, none, none, none], [], (gSh, σ, u)) _ rfl (if_pos hc) ?_
    refine gRunN_ok hG.1 2 _ (23, [some (.ref 94), some (.int x1), some (.int x2), none, none, none, none, none, none], [.int 0], (gSh, σ, u)) rfl ?_
    exact j_Model_coverLine_j23 E d u hG x1 x2 0 σ hP
  · refine hG.1 _ (22, [some (.ref 94), some (.int x1), some (.int x2), none, none, none, none, none, none], [], (gSh, σ, u)) _ rfl (if_neg hc) ?_
    refine gRunN_ok hG.1 1 _ (23, [some (.ref 94), some (.int x1), some (.int x2), none, none, none, none, none, none], [.int 1], (gSh, σ, u)) rfl ?_
    exact j_Model_coverLine_j23 E d u hG x1 x2 1 σ hP⟩
def p_Model_latchLine_j181 (E : gEv) (y1 : Int32) (y2 : Int32) (σ : gS) : Option (gS) :=
  if gIn y1 (σ.2.1 108) then gLet (gPut σ 108 y1.toNatClampNeg y2) fun s11 => gLet (gPut s11 94 31 ((s11.1 94 31) + (1 : Int32))) fun s12 => some s12 else none
set_option maxRecDepth 20000 in
theorem j_Model_latchLine_j181 (E : gEv) (d u : Nat) {G : gFr → Prop} {sr : gS} (hG : gClo E gDf gP18 gY206 none (gC E gDf gMs (d + 5)) (none, (gSh, sr, u)) G) (y1 : Int32) (y2 : Int32) (σ : gS) (hP : p_Model_latchLine_j181 E y1 y2 σ = some sr) : G (181, [some (.ref 94), none, none], [.int y2, .int y1, .ref 108], (gSh, σ, u)) := by
  unfold p_Model_latchLine_j181 at hP
  obtain ⟨hc, hP⟩ := g_if hP
  refine hG.1 _ (182, [some (.ref 94), none, none], [], (gSh, (gPut σ 108 y1.toNatClampNeg y2), u)) _ rfl (if_pos hc) ?_
  obtain ⟨s11, es11, hP⟩ := g_let hP
  rw [← es11]
  refine gRunN_ok hG.1 6 _ (192, [some (.ref 94), none, none], [], (gSh, (gPut s11 94 31 ((s11.1 94 31) + (1 : Int32))), u)) rfl ?_
  obtain ⟨s12, es12, hP⟩ := g_let hP
  rw [← es12]
  cases hP
  exact hG.2.1 _ _ rfl rfl
def p_Model_latchLine_j180 (E : gEv) (y1 : Int32) (σ : gS) : Option (gS) :=
  p_Model_latchLine_j181 E y1 0 σ
set_option maxRecDepth 20000 in
theorem j_Model_latchLine_j180 (E : gEv) (d u : Nat) {G : gFr → Prop} {sr : gS} (hG : gClo E gDf gP18 gY206 none (gC E gDf gMs (d + 5)) (none, (gSh, sr, u)) G) (y1 : Int32) (σ : gS) (hP : p_Model_latchLine_j180 E y1 σ = some sr) : G (180, [some (.ref 94), none, none], [.int y1, .ref 108], (gSh, σ, u)) := by
  unfold p_Model_latchLine_j180 at hP
  refine gRunN_ok hG.1 1 _ (181, [some (.ref 94), none, none], [.int 0, .int y1, .ref 108], (gSh, σ, u)) rfl ?_
  exact j_Model_latchLine_j181 E d u hG y1 0 σ hP
def p_Model_latchLine_j122 (E : gEv) (l1 : Int32) (l2 : Int32) (σ : gS) : Option (gS) :=
  if (σ.1 94 17) = 0 then (if gIn (σ.1 94 31) (σ.2.1 106) then gLet (gPut σ 106 (σ.1 94 31).toNatClampNeg l1) fun s9 => if gIn (s9.1 94 31) (s9.2.1 107) then gLet (gPut s9 107 (s9.1 94 31).toNatClampNeg l2) fun s10 => if (s10.1 94 19) ≤ (3 : Int32) then (p_Model_latchLine_j180 E (s10.1 94 31) s10) else (gB1 (p_Model_isWord E 3 6 s10) fun v13 => if v13 = 0 then (p_Model_latchLine_j180 E (s10.1 94 31) s10) else (p_Model_latchLine_j181 E (s10.1 94 31) 1 s10)) else none else none) else (some σ)
set_option maxRecDepth 20000 in
theorem j_Model_latchLine_j122 (E : gEv) (d u : Nat) {G : gFr → Prop} {sr : gS} (hG : gClo E gDf gP18 gY206 none (gC E gDf gMs (d + 5)) (none, (gSh, sr, u)) G) (l1 : Int32) (l2 : Int32) (σ : gS) (hP : p_Model_latchLine_j122 E l1 l2 σ = some sr) : G (122, [some (.ref 94), some (.int l1), some (.int l2)], [], (gSh, σ, u)) := by
  unfold p_Model_latchLine_j122 at hP
  refine gRunN_ok hG.1 2 _ (126, [some (.ref 94), some (.int l1), some (.int l2)], [.int (σ.1 94 17)], (gSh, σ, u)) rfl ?_
  rcases g_ite hP with ⟨hc, hP⟩ | ⟨hc, hP⟩
  · refine hG.1 _ (129, [some (.ref 94), some (.int l1), some (.int l2)], [], (gSh, σ, u)) _ rfl (if_pos hc) ?_
    refine gRunN_ok hG.1 5 _ (138, [some (.ref 94), some (.int l1), some (.int l2)], [.int l1, .int (σ.1 94 31), .ref 106], (gSh, σ, u)) rfl ?_
    obtain ⟨hc, hP⟩ := g_if hP
    refine hG.1 _ (139, [some (.ref 94), some (.int l1), some (.int l2)], [], (gSh, (gPut σ 106 (σ.1 94 31).toNatClampNeg l1), u)) _ rfl (if_pos hc) ?_
    obtain ⟨s9, es9, hP⟩ := g_let hP
    rw [← es9]
    refine gRunN_ok hG.1 5 _ (148, [some (.ref 94), some (.int l1), some (.int l2)], [.int l2, .int (s9.1 94 31), .ref 107], (gSh, s9, u)) rfl ?_
    obtain ⟨hc, hP⟩ := g_if hP
    refine hG.1 _ (149, [some (.ref 94), some (.int l1), some (.int l2)], [], (gSh, (gPut s9 107 (s9.1 94 31).toNatClampNeg l2), u)) _ rfl (if_pos hc) ?_
    obtain ⟨s10, es10, hP⟩ := g_let hP
    rw [← es10]
    refine gRunN_ok hG.1 7 _ (162, [some (.ref 94), some (.int l1), some (.int l2)], [.int 3, .int (s10.1 94 19), .int (s10.1 94 31), .ref 108], (gSh, s10, u)) rfl ?_
    rcases g_ite hP with ⟨hc, hP⟩ | ⟨hc, hP⟩
    · refine hG.1 _ (180, [some (.ref 94), some (.int l1), some (.int l2)], [.int (s10.1 94 31), .ref 108], (gSh, s10, u)) _ rfl (if_pos hc) ?_
      refine hG.2.2.2.2.1 _ _ [some (.ref 94), none, none] _ _ ⟨rfl, trivial⟩ ?_
      exact j_Model_latchLine_j180 E d u hG (s10.1 94 31) s10 hP
    · refine hG.1 _ (165, [some (.ref 94), some (.int l1), some (.int l2)], [.int (s10.1 94 31), .ref 108], (gSh, s10, u)) _ rfl (if_neg hc) ?_
      refine gRunN_ok hG.1 3 _ (170, [some (.ref 94), some (.int l1), some (.int l2)], [.retAddr 6, .int 3, .ref 94, .int (s10.1 94 31), .ref 108], (gSh, s10, u)) rfl ?_
      obtain ⟨v13, hq, hP⟩ := g_b1 hP
      refine hG.2.2.2.1 _ _ _ [.ref 94, .int 3, .retAddr 6] [.int (s10.1 94 31), .ref 108] _ (gSh, s10, u) (some (.int v13)) _ _ _ _ _ _ rfl rfl rfl rfl rfl rfl (c_Model_isWord E (d + 0) u 3 6 _ (by decide) hq) (Nat.le_refl _) (Nat.le_refl _) (Nat.le_refl _) (Nat.le_refl _) ?_
      show G (173, [some (.ref 94), some (.int l1), some (.int l2)], [.int v13, .int (s10.1 94 31), .ref 108], (gSh, s10, u))
      rcases g_ite hP with ⟨hc, hP⟩ | ⟨hc, hP⟩
      · refine hG.1 _ (180, [some (.ref 94), some (.int l1), some (.int l2)], [.int (s10.1 94 31), .ref 108], (gSh, s10, u)) _ rfl (if_pos hc) ?_
        refine hG.2.2.2.2.1 _ _ [some (.ref 94), none, none] _ _ ⟨rfl, trivial⟩ ?_
        exact j_Model_latchLine_j180 E d u hG (s10.1 94 31) s10 hP
      · refine hG.1 _ (176, [some (.ref 94), some (.int l1), some (.int l2)], [.int (s10.1 94 31), .ref 108], (gSh, s10, u)) _ rfl (if_neg hc) ?_
        refine gRunN_ok hG.1 2 _ (181, [some (.ref 94), some (.int l1), some (.int l2)], [.int 1, .int (s10.1 94 31), .ref 108], (gSh, s10, u)) rfl ?_
        refine hG.2.2.2.2.1 _ _ [some (.ref 94), none, none] _ _ ⟨rfl, trivial⟩ ?_
        exact j_Model_latchLine_j181 E d u hG (s10.1 94 31) 1 s10 hP
  · refine hG.1 _ (192, [some (.ref 94), some (.int l1), some (.int l2)], [], (gSh, σ, u)) _ rfl (if_neg hc) ?_
    cases hP
    exact hG.2.1 _ _ rfl rfl
def p_Model_latchLine_j103 (E : gEv) (l1 : Int32) (l2 : Int32) (σ : gS) : Option (gS) :=
  if (σ.1 94 19) ≤ (4 : Int32) then (p_Model_latchLine_j122 E l1 l2 σ) else (if gIn (4 : Int32) (σ.2.1 97) then gB1 (p_Model_fail E 1 (σ.1 97 (4 : Int32).toNatClampNeg) σ) fun s16 => p_Model_latchLine_j122 E l1 l2 s16 else none)
set_option maxRecDepth 20000 in
theorem j_Model_latchLine_j103 (E : gEv) (d u : Nat) {G : gFr → Prop} {sr : gS} (hG : gClo E gDf gP18 gY206 none (gC E gDf gMs (d + 5)) (none, (gSh, sr, u)) G) (l1 : Int32) (l2 : Int32) (σ : gS) (hP : p_Model_latchLine_j103 E l1 l2 σ = some sr) : G (103, [some (.ref 94), some (.int l1), some (.int l2)], [], (gSh, σ, u)) := by
  unfold p_Model_latchLine_j103 at hP
  refine gRunN_ok hG.1 3 _ (108, [some (.ref 94), some (.int l1), some (.int l2)], [.int 4, .int (σ.1 94 19)], (gSh, σ, u)) rfl ?_
  rcases g_ite hP with ⟨hc, hP⟩ | ⟨hc, hP⟩
  · refine hG.1 _ (122, [some (.ref 94), some (.int l1), some (.int l2)], [], (gSh, σ, u)) _ rfl (if_pos hc) ?_
    exact j_Model_latchLine_j122 E d u hG l1 l2 σ hP
  · refine hG.1 _ (111, [some (.ref 94), some (.int l1), some (.int l2)], [], (gSh, σ, u)) _ rfl (if_neg hc) ?_
    refine gRunN_ok hG.1 5 _ (118, [some (.ref 94), some (.int l1), some (.int l2)], [.int 4, .ref 97, .int 1, .ref 94], (gSh, σ, u)) rfl ?_
    obtain ⟨hc, hP⟩ := g_if hP
    refine hG.1 _ (119, [some (.ref 94), some (.int l1), some (.int l2)], [.int (σ.1 97 (4 : Int32).toNatClampNeg), .int 1, .ref 94], (gSh, σ, u)) _ rfl (if_pos hc) ?_
    obtain ⟨s16, hq, hP⟩ := g_b1 hP
    refine hG.2.2.2.1 _ _ _ [.ref 94, .int 1, .int (σ.1 97 (4 : Int32).toNatClampNeg)] [] _ (gSh, s16, u) none _ _ _ _ _ _ rfl rfl rfl rfl rfl rfl (c_Model_fail E (d + 4) u 1 (σ.1 97 (4 : Int32).toNatClampNeg) _  hq) (Nat.le_refl _) (Nat.le_refl _) (Nat.le_refl _) (Nat.le_refl _) ?_
    show G (122, [some (.ref 94), some (.int l1), some (.int l2)], [], (gSh, s16, u))
    exact j_Model_latchLine_j122 E d u hG l1 l2 s16 hP
def p_Model_latchLine (E : gEv) (σ : gS) : Option (gS) :=
  gB2 (p_Model_name E 1 σ) fun v1 s2 => if (s2.1 94 17) ≤ 0 then (if gIn (1 : Int32) (s2.2.1 97) then gB1 (p_Model_isUsed E v1 (s2.1 97 (1 : Int32).toNatClampNeg) s2) fun s4 => gB2 (p_Model_name E 2 s4) fun v5 s6 => if (s6.1 94 17) ≤ 0 then (if gIn (2 : Int32) (s6.2.1 97) then gB1 (p_Model_makes E v5 2 (s6.1 94 31) (s6.1 97 (2 : Int32).toNatClampNeg) s6) fun s8 => if (s8.1 94 17) = 0 then (if (s8.1 94 19) ≤ (3 : Int32) then (p_Model_latchLine_j103 E v1 v5 s8) else (gB1 (p_Model_isWord E 3 5 s8) fun v17 => if v17 = 0 then (gB1 (p_Model_isWord E 3 6 s8) fun v19 => if v19 = 0 then (if gIn (3 : Int32) (s8.2.1 97) then gB1 (p_Model_fail E 1 (s8.1 97 (3 : Int32).toNatClampNeg) s8) fun s22 => p_Model_latchLine_j103 E v1 v5 s22 else none) else (p_Model_latchLine_j103 E v1 v5 s8)) else (p_Model_latchLine_j103 E v1 v5 s8))) else (p_Model_latchLine_j103 E v1 v5 s8) else none) else (some s6) else none) else (some s2)
set_option maxRecDepth 20000 in
theorem c_Model_latchLine (E : gEv) (d u : Nat) (σ : gS) {sr : gS}  (hq : p_Model_latchLine E σ = some sr) : gC E gDf gMs (d + 6) 206 [.ref 94] (gSh, σ, u) (none, (gSh, sr, u)) := ⟨gM206, rfl, Nat.le_of_ble_eq_true rfl, fun G hG => by
  have hP := hq
  unfold p_Model_latchLine at hP
  replace hG : gClo E gDf gP18 gY206 none (gC E gDf gMs (d + 5)) (none, (gSh, sr, u)) G := hG
  show G (0, [some (.ref 94), none, none], [], (gSh, σ, u))
  refine gRunN_ok hG.1 2 _ (2, [some (.ref 94), none, none], [.int 1, .ref 94], (gSh, σ, u)) rfl ?_
  obtain ⟨v1, s2, hq, hP⟩ := g_b2 hP
  refine hG.2.2.2.1 _ _ _ [.ref 94, .int 1] [] _ (gSh, s2, u) (some (.int v1)) _ _ _ _ _ _ rfl rfl rfl rfl rfl rfl (c_Model_name E (d + 3) u 1 _  hq) (Nat.le_refl _) (Nat.le_refl _) (Nat.le_refl _) (Nat.le_refl _) ?_
  show G (5, [some (.ref 94), none, none], [.int v1], (gSh, s2, u))
  refine gRunN_ok hG.1 3 _ (10, [some (.ref 94), some (.int v1), none], [.int (s2.1 94 17)], (gSh, s2, u)) rfl ?_
  rcases g_ite hP with ⟨hc, hP⟩ | ⟨hc, hP⟩
  · refine hG.1 _ (14, [some (.ref 94), some (.int v1), none], [], (gSh, s2, u)) _ rfl (if_pos hc) ?_
    refine gRunN_ok hG.1 5 _ (21, [some (.ref 94), some (.int v1), none], [.int 1, .ref 97, .int v1, .ref 94], (gSh, s2, u)) rfl ?_
    obtain ⟨hc, hP⟩ := g_if hP
    refine hG.1 _ (22, [some (.ref 94), some (.int v1), none], [.int (s2.1 97 (1 : Int32).toNatClampNeg), .int v1, .ref 94], (gSh, s2, u)) _ rfl (if_pos hc) ?_
    obtain ⟨s4, hq, hP⟩ := g_b1 hP
    refine hG.2.2.2.1 _ _ _ [.ref 94, .int v1, .int (s2.1 97 (1 : Int32).toNatClampNeg)] [] _ (gSh, s4, u) none _ _ _ _ _ _ rfl rfl rfl rfl rfl rfl (c_Model_isUsed E (d + 4) u v1 (s2.1 97 (1 : Int32).toNatClampNeg) _  hq) (Nat.le_refl _) (Nat.le_refl _) (Nat.le_refl _) (Nat.le_refl _) ?_
    show G (25, [some (.ref 94), some (.int v1), none], [], (gSh, s4, u))
    refine gRunN_ok hG.1 2 _ (27, [some (.ref 94), some (.int v1), none], [.int 2, .ref 94], (gSh, s4, u)) rfl ?_
    obtain ⟨v5, s6, hq, hP⟩ := g_b2 hP
    refine hG.2.2.2.1 _ _ _ [.ref 94, .int 2] [] _ (gSh, s6, u) (some (.int v5)) _ _ _ _ _ _ rfl rfl rfl rfl rfl rfl (c_Model_name E (d + 3) u 2 _  hq) (Nat.le_refl _) (Nat.le_refl _) (Nat.le_refl _) (Nat.le_refl _) ?_
    show G (30, [some (.ref 94), some (.int v1), none], [.int v5], (gSh, s6, u))
    refine gRunN_ok hG.1 3 _ (35, [some (.ref 94), some (.int v1), some (.int v5)], [.int (s6.1 94 17)], (gSh, s6, u)) rfl ?_
    rcases g_ite hP with ⟨hc, hP⟩ | ⟨hc, hP⟩
    · refine hG.1 _ (39, [some (.ref 94), some (.int v1), some (.int v5)], [], (gSh, s6, u)) _ rfl (if_pos hc) ?_
      refine gRunN_ok hG.1 8 _ (51, [some (.ref 94), some (.int v1), some (.int v5)], [.int 2, .ref 97, .int (s6.1 94 31), .int 2, .int v5, .ref 94], (gSh, s6, u)) rfl ?_
      obtain ⟨hc, hP⟩ := g_if hP
      refine hG.1 _ (52, [some (.ref 94), some (.int v1), some (.int v5)], [.int (s6.1 97 (2 : Int32).toNatClampNeg), .int (s6.1 94 31), .int 2, .int v5, .ref 94], (gSh, s6, u)) _ rfl (if_pos hc) ?_
      obtain ⟨s8, hq, hP⟩ := g_b1 hP
      refine hG.2.2.2.1 _ _ _ [.ref 94, .int v5, .int 2, .int (s6.1 94 31), .int (s6.1 97 (2 : Int32).toNatClampNeg)] [] _ (gSh, s8, u) none _ _ _ _ _ _ rfl rfl rfl rfl rfl rfl (c_Model_makes E (d + 3) u v5 2 (s6.1 94 31) (s6.1 97 (2 : Int32).toNatClampNeg) _  hq) (Nat.le_refl _) (Nat.le_refl _) (Nat.le_refl _) (Nat.le_refl _) ?_
      show G (55, [some (.ref 94), some (.int v1), some (.int v5)], [], (gSh, s8, u))
      refine gRunN_ok hG.1 2 _ (59, [some (.ref 94), some (.int v1), some (.int v5)], [.int (s8.1 94 17)], (gSh, s8, u)) rfl ?_
      rcases g_ite hP with ⟨hc, hP⟩ | ⟨hc, hP⟩
      · refine hG.1 _ (62, [some (.ref 94), some (.int v1), some (.int v5)], [], (gSh, s8, u)) _ rfl (if_pos hc) ?_
        refine gRunN_ok hG.1 3 _ (67, [some (.ref 94), some (.int v1), some (.int v5)], [.int 3, .int (s8.1 94 19)], (gSh, s8, u)) rfl ?_
        rcases g_ite hP with ⟨hc, hP⟩ | ⟨hc, hP⟩
        · refine hG.1 _ (103, [some (.ref 94), some (.int v1), some (.int v5)], [], (gSh, s8, u)) _ rfl (if_pos hc) ?_
          exact j_Model_latchLine_j103 E d u hG v1 v5 s8 hP
        · refine hG.1 _ (70, [some (.ref 94), some (.int v1), some (.int v5)], [], (gSh, s8, u)) _ rfl (if_neg hc) ?_
          refine gRunN_ok hG.1 3 _ (75, [some (.ref 94), some (.int v1), some (.int v5)], [.retAddr 5, .int 3, .ref 94], (gSh, s8, u)) rfl ?_
          obtain ⟨v17, hq, hP⟩ := g_b1 hP
          refine hG.2.2.2.1 _ _ _ [.ref 94, .int 3, .retAddr 5] [] _ (gSh, s8, u) (some (.int v17)) _ _ _ _ _ _ rfl rfl rfl rfl rfl rfl (c_Model_isWord E (d + 0) u 3 5 _ (by decide) hq) (Nat.le_refl _) (Nat.le_refl _) (Nat.le_refl _) (Nat.le_refl _) ?_
          show G (78, [some (.ref 94), some (.int v1), some (.int v5)], [.int v17], (gSh, s8, u))
          rcases g_ite hP with ⟨hc, hP⟩ | ⟨hc, hP⟩
          · refine hG.1 _ (81, [some (.ref 94), some (.int v1), some (.int v5)], [], (gSh, s8, u)) _ rfl (if_pos hc) ?_
            refine gRunN_ok hG.1 3 _ (86, [some (.ref 94), some (.int v1), some (.int v5)], [.retAddr 6, .int 3, .ref 94], (gSh, s8, u)) rfl ?_
            obtain ⟨v19, hq, hP⟩ := g_b1 hP
            refine hG.2.2.2.1 _ _ _ [.ref 94, .int 3, .retAddr 6] [] _ (gSh, s8, u) (some (.int v19)) _ _ _ _ _ _ rfl rfl rfl rfl rfl rfl (c_Model_isWord E (d + 0) u 3 6 _ (by decide) hq) (Nat.le_refl _) (Nat.le_refl _) (Nat.le_refl _) (Nat.le_refl _) ?_
            show G (89, [some (.ref 94), some (.int v1), some (.int v5)], [.int v19], (gSh, s8, u))
            rcases g_ite hP with ⟨hc, hP⟩ | ⟨hc, hP⟩
            · refine hG.1 _ (92, [some (.ref 94), some (.int v1), some (.int v5)], [], (gSh, s8, u)) _ rfl (if_pos hc) ?_
              refine gRunN_ok hG.1 5 _ (99, [some (.ref 94), some (.int v1), some (.int v5)], [.int 3, .ref 97, .int 1, .ref 94], (gSh, s8, u)) rfl ?_
              obtain ⟨hc, hP⟩ := g_if hP
              refine hG.1 _ (100, [some (.ref 94), some (.int v1), some (.int v5)], [.int (s8.1 97 (3 : Int32).toNatClampNeg), .int 1, .ref 94], (gSh, s8, u)) _ rfl (if_pos hc) ?_
              obtain ⟨s22, hq, hP⟩ := g_b1 hP
              refine hG.2.2.2.1 _ _ _ [.ref 94, .int 1, .int (s8.1 97 (3 : Int32).toNatClampNeg)] [] _ (gSh, s22, u) none _ _ _ _ _ _ rfl rfl rfl rfl rfl rfl (c_Model_fail E (d + 4) u 1 (s8.1 97 (3 : Int32).toNatClampNeg) _  hq) (Nat.le_refl _) (Nat.le_refl _) (Nat.le_refl _) (Nat.le_refl _) ?_
              show G (103, [some (.ref 94), some (.int v1), some (.int v5)], [], (gSh, s22, u))
              exact j_Model_latchLine_j103 E d u hG v1 v5 s22 hP
            · refine hG.1 _ (103, [some (.ref 94), some (.int v1), some (.int v5)], [], (gSh, s8, u)) _ rfl (if_neg hc) ?_
              exact j_Model_latchLine_j103 E d u hG v1 v5 s8 hP
          · refine hG.1 _ (103, [some (.ref 94), some (.int v1), some (.int v5)], [], (gSh, s8, u)) _ rfl (if_neg hc) ?_
            exact j_Model_latchLine_j103 E d u hG v1 v5 s8 hP
      · refine hG.1 _ (103, [some (.ref 94), some (.int v1), some (.int v5)], [], (gSh, s8, u)) _ rfl (if_neg hc) ?_
        exact j_Model_latchLine_j103 E d u hG v1 v5 s8 hP
    · refine hG.1 _ (38, [some (.ref 94), some (.int v1), some (.int v5)], [], (gSh, s6, u)) _ rfl (if_neg hc) ?_
      cases hP
      exact hG.2.1 _ _ rfl rfl
  · refine hG.1 _ (13, [some (.ref 94), some (.int v1), none], [], (gSh, s2, u)) _ rfl (if_neg hc) ?_
    cases hP
    exact hG.2.1 _ _ rfl rfl⟩
def p_Model_swap_j15 (E : gEv) (l1 : Int32) (l2 : Int32) (l3 : Int32) (l4 : Int32) (y0 : Int32) (σ : gS) : Option (Int32 × gS) :=
  if (σ.1 94 106) = 0 then (some ((-1), σ)) else (if l2 < 0 then (some ((-1), σ)) else (if y0 ≤ l2 then (some ((-1), σ)) else (if l3 < 0 then (some ((-1), σ)) else (if l3 < y0 then (gLet (gPut σ 94 77 0) fun s1 => gB1 (p_Model_swapOnce E l1 l2 l3 l4 s1) fun s3 => gB2 (p_Model_length E s3) fun v4 s5 => some (v4, s5)) else (some ((-1), σ))))))
set_option maxRecDepth 20000 in
theorem j_Model_swap_j15 (E : gEv) (d u : Nat) {G : gFr → Prop} {v : Int32} {sr : gS} (hG : gClo E gDf gP18 gY239 (some .int) (gC E gDf gMs (d + 5)) (some (.int v), (gSh, sr, u)) G) (l1 : Int32) (l2 : Int32) (l3 : Int32) (l4 : Int32) (y0 : Int32) (σ : gS) (hP : p_Model_swap_j15 E l1 l2 l3 l4 y0 σ = some (v, sr)) : G (15, [some (.ref 94), some (.int l1), some (.int l2), some (.int l3), some (.int l4), none], [.int y0], (gSh, σ, u)) := by
  unfold p_Model_swap_j15 at hP
  refine gRunN_ok hG.1 3 _ (21, [some (.ref 94), some (.int l1), some (.int l2), some (.int l3), some (.int l4), some (.int y0)], [.int (σ.1 94 106)], (gSh, σ, u)) rfl ?_
  rcases g_ite hP with ⟨hc, hP⟩ | ⟨hc, hP⟩
  · refine hG.1 _ (44, [some (.ref 94), some (.int l1), some (.int l2), some (.int l3), some (.int l4), some (.int y0)], [], (gSh, σ, u)) _ rfl (if_pos hc) ?_
    refine gRunN_ok hG.1 1 _ (45, [some (.ref 94), some (.int l1), some (.int l2), some (.int l3), some (.int l4), some (.int y0)], [.int (-1)], (gSh, σ, u)) rfl ?_
    cases hP
    exact hG.2.1 _ _ rfl rfl
  · refine hG.1 _ (24, [some (.ref 94), some (.int l1), some (.int l2), some (.int l3), some (.int l4), some (.int y0)], [], (gSh, σ, u)) _ rfl (if_neg hc) ?_
    refine gRunN_ok hG.1 1 _ (25, [some (.ref 94), some (.int l1), some (.int l2), some (.int l3), some (.int l4), some (.int y0)], [.int l2], (gSh, σ, u)) rfl ?_
    rcases g_ite hP with ⟨hc, hP⟩ | ⟨hc, hP⟩
    · refine hG.1 _ (44, [some (.ref 94), some (.int l1), some (.int l2), some (.int l3), some (.int l4), some (.int y0)], [], (gSh, σ, u)) _ rfl (if_pos hc) ?_
      refine gRunN_ok hG.1 1 _ (45, [some (.ref 94), some (.int l1), some (.int l2), some (.int l3), some (.int l4), some (.int y0)], [.int (-1)], (gSh, σ, u)) rfl ?_
      cases hP
      exact hG.2.1 _ _ rfl rfl
    · refine hG.1 _ (28, [some (.ref 94), some (.int l1), some (.int l2), some (.int l3), some (.int l4), some (.int y0)], [], (gSh, σ, u)) _ rfl (if_neg hc) ?_
      refine gRunN_ok hG.1 2 _ (31, [some (.ref 94), some (.int l1), some (.int l2), some (.int l3), some (.int l4), some (.int y0)], [.int y0, .int l2], (gSh, σ, u)) rfl ?_
      rcases g_ite hP with ⟨hc, hP⟩ | ⟨hc, hP⟩
      · refine hG.1 _ (44, [some (.ref 94), some (.int l1), some (.int l2), some (.int l3), some (.int l4), some (.int y0)], [], (gSh, σ, u)) _ rfl (if_pos hc) ?_
        refine gRunN_ok hG.1 1 _ (45, [some (.ref 94), some (.int l1), some (.int l2), some (.int l3), some (.int l4), some (.int y0)], [.int (-1)], (gSh, σ, u)) rfl ?_
        cases hP
        exact hG.2.1 _ _ rfl rfl
      · refine hG.1 _ (34, [some (.ref 94), some (.int l1), some (.int l2), some (.int l3), some (.int l4), some (.int y0)], [], (gSh, σ, u)) _ rfl (if_neg hc) ?_
        refine gRunN_ok hG.1 1 _ (35, [some (.ref 94), some (.int l1), some (.int l2), some (.int l3), some (.int l4), some (.int y0)], [.int l3], (gSh, σ, u)) rfl ?_
        rcases g_ite hP with ⟨hc, hP⟩ | ⟨hc, hP⟩
        · refine hG.1 _ (44, [some (.ref 94), some (.int l1), some (.int l2), some (.int l3), some (.int l4), some (.int y0)], [], (gSh, σ, u)) _ rfl (if_pos hc) ?_
          refine gRunN_ok hG.1 1 _ (45, [some (.ref 94), some (.int l1), some (.int l2), some (.int l3), some (.int l4), some (.int y0)], [.int (-1)], (gSh, σ, u)) rfl ?_
          cases hP
          exact hG.2.1 _ _ rfl rfl
        · refine hG.1 _ (38, [some (.ref 94), some (.int l1), some (.int l2), some (.int l3), some (.int l4), some (.int y0)], [], (gSh, σ, u)) _ rfl (if_neg hc) ?_
          refine gRunN_ok hG.1 2 _ (41, [some (.ref 94), some (.int l1), some (.int l2), some (.int l3), some (.int l4), some (.int y0)], [.int y0, .int l3], (gSh, σ, u)) rfl ?_
          rcases g_ite hP with ⟨hc, hP⟩ | ⟨hc, hP⟩
          · refine hG.1 _ (46, [some (.ref 94), some (.int l1), some (.int l2), some (.int l3), some (.int l4), some (.int y0)], [], (gSh, σ, u)) _ rfl (if_pos hc) ?_
            refine gRunN_ok hG.1 3 _ (51, [some (.ref 94), some (.int l1), some (.int l2), some (.int l3), some (.int l4), some (.int y0)], [], (gSh, (gPut σ 94 77 0), u)) rfl ?_
            obtain ⟨s1, es1, hP⟩ := g_let hP
            rw [← es1]
            refine gRunN_ok hG.1 5 _ (57, [some (.ref 94), some (.int l1), some (.int l2), some (.int l3), some (.int l4), some (.int y0)], [.int l4, .int l3, .int l2, .int l1, .ref 94], (gSh, s1, u)) rfl ?_
            obtain ⟨s3, hq, hP⟩ := g_b1 hP
            refine hG.2.2.2.1 _ _ _ [.ref 94, .int l1, .int l2, .int l3, .int l4] [] _ (gSh, s3, u) none _ _ _ _ _ _ rfl rfl rfl rfl rfl rfl (c_Model_swapOnce E (d + 0) u l1 l2 l3 l4 _  hq) (Nat.le_refl _) (Nat.le_refl _) (Nat.le_refl _) (Nat.le_refl _) ?_
            show G (60, [some (.ref 94), some (.int l1), some (.int l2), some (.int l3), some (.int l4), some (.int y0)], [], (gSh, s3, u))
            refine gRunN_ok hG.1 1 _ (61, [some (.ref 94), some (.int l1), some (.int l2), some (.int l3), some (.int l4), some (.int y0)], [.ref 94], (gSh, s3, u)) rfl ?_
            obtain ⟨v4, s5, hq, hP⟩ := g_b2 hP
            refine hG.2.2.2.1 _ _ _ [.ref 94] [] _ (gSh, s5, u) (some (.int v4)) _ _ _ _ _ _ rfl rfl rfl rfl rfl rfl (c_Model_length E (d + 1) u _  hq) (Nat.le_refl _) (Nat.le_refl _) (Nat.le_refl _) (Nat.le_refl _) ?_
            show G (64, [some (.ref 94), some (.int l1), some (.int l2), some (.int l3), some (.int l4), some (.int y0)], [.int v4], (gSh, s5, u))
            cases hP
            exact hG.2.1 _ _ rfl rfl
          · refine hG.1 _ (44, [some (.ref 94), some (.int l1), some (.int l2), some (.int l3), some (.int l4), some (.int y0)], [], (gSh, σ, u)) _ rfl (if_neg hc) ?_
            refine gRunN_ok hG.1 1 _ (45, [some (.ref 94), some (.int l1), some (.int l2), some (.int l3), some (.int l4), some (.int y0)], [.int (-1)], (gSh, σ, u)) rfl ?_
            cases hP
            exact hG.2.1 _ _ rfl rfl
def p_Model_swap (E : gEv) (a0 : Int32) (a1 : Int32) (a2 : Int32) (a3 : Int32) (σ : gS) : Option (Int32 × gS) :=
  if a0 = 0 then (p_Model_swap_j15 E a0 a1 a2 a3 (σ.1 94 4) σ) else (p_Model_swap_j15 E a0 a1 a2 a3 (σ.1 94 6) σ)
set_option maxRecDepth 20000 in
theorem c_Model_swap (E : gEv) (d u : Nat) (a0 : Int32) (a1 : Int32) (a2 : Int32) (a3 : Int32) (σ : gS) {v : Int32} {sr : gS}  (hq : p_Model_swap E a0 a1 a2 a3 σ = some (v, sr)) : gC E gDf gMs (d + 6) 239 [.ref 94, .int a0, .int a1, .int a2, .int a3] (gSh, σ, u) (some (.int v), (gSh, sr, u)) := ⟨gM239, rfl, Nat.le_of_ble_eq_true rfl, fun G hG => by
  have hP := hq
  unfold p_Model_swap at hP
  replace hG : gClo E gDf gP18 gY239 (some .int) (gC E gDf gMs (d + 5)) (some (.int v), (gSh, sr, u)) G := hG
  show G (0, [some (.ref 94), some (.int a0), some (.int a1), some (.int a2), some (.int a3), none], [], (gSh, σ, u))
  refine gRunN_ok hG.1 1 _ (1, [some (.ref 94), some (.int a0), some (.int a1), some (.int a2), some (.int a3), none], [.int a0], (gSh, σ, u)) rfl ?_
  rcases g_ite hP with ⟨hc, hP⟩ | ⟨hc, hP⟩
  · refine hG.1 _ (11, [some (.ref 94), some (.int a0), some (.int a1), some (.int a2), some (.int a3), none], [], (gSh, σ, u)) _ rfl (if_pos hc) ?_
    refine gRunN_ok hG.1 2 _ (15, [some (.ref 94), some (.int a0), some (.int a1), some (.int a2), some (.int a3), none], [.int (σ.1 94 4)], (gSh, σ, u)) rfl ?_
    exact j_Model_swap_j15 E d u hG a0 a1 a2 a3 (σ.1 94 4) σ hP
  · refine hG.1 _ (4, [some (.ref 94), some (.int a0), some (.int a1), some (.int a2), some (.int a3), none], [], (gSh, σ, u)) _ rfl (if_neg hc) ?_
    refine gRunN_ok hG.1 3 _ (15, [some (.ref 94), some (.int a0), some (.int a1), some (.int a2), some (.int a3), none], [.int (σ.1 94 6)], (gSh, σ, u)) rfl ?_
    exact j_Model_swap_j15 E d u hG a0 a1 a2 a3 (σ.1 94 6) σ hP⟩
def p_Model_shake_j66_25 (E : gEv) (l2 : Int32) (l3 : Int32) (l4 : Int32) (l5 : Int32) (y0 : Int32) (σ : gS) : Option ((Int32 × Int32 × gS) ⊕ (gS)) :=
  if ¬ y0 = 0 then if ¬ y0 = 0 then gB1 (p_Model_swapOnce E l5 ((((l3.toUInt32 >>> ((1 : Int32).toUInt32 &&& Int32.toUInt32 31)).toInt32) &&& (255 : Int32)) - (((l3.toUInt32 >>> ((1 : Int32).toUInt32 &&& Int32.toUInt32 31)).toInt32) &&& (255 : Int32)) / y0 * y0) ((((l3.toUInt32 >>> ((9 : Int32).toUInt32 &&& Int32.toUInt32 31)).toInt32) &&& (255 : Int32)) - (((l3.toUInt32 >>> ((9 : Int32).toUInt32 &&& Int32.toUInt32 31)).toInt32) &&& (255 : Int32)) / y0 * y0) (((l3.toUInt32 >>> ((17 : Int32).toUInt32 &&& Int32.toUInt32 31)).toInt32) &&& (7 : Int32)) σ) fun s3 => gLet ((l3 * (1103515245 : Int32)) + (12345 : Int32)) fun x4 => gLet (l4 + 1) fun x5 => some (.inl (x4, x5, s3)) else none else none
set_option maxRecDepth 20000 in
theorem j_Model_shake_j66_25 (E : gEv) (d u : Nat) {G : gFr → Prop} {vo : Option Value} {sr : gS} (hG : gClo E gDf gP18 gY242 (some .int) (gC E gDf gMs (d + 5)) (vo, (gSh, sr, u)) G) (l2 : Int32) (l3 : Int32) (l4 : Int32) (l5 : Int32) (y0 : Int32) (σ : gS) {r : (Int32 × Int32 × gS) ⊕ (gS)} (hP : p_Model_shake_j66_25 E l2 l3 l4 l5 y0 σ = some r) (K1 : ∀ (m3 : Int32) (m4 : Int32) (σ1 : gS), r = .inl (m3, m4, σ1) → G (25, [some (.ref 94), none, some (.int l2), some (.int m3), some (.int m4), none, none], [], (gSh, σ1, u))) (K2 : ∀ (σ1 : gS), r = .inr σ1 → G (118, [some (.ref 94), none, none, none, none, none, none], [], (gSh, σ1, u))) : G (66, [some (.ref 94), none, some (.int l2), some (.int l3), some (.int l4), some (.int l5), none], [.int y0], (gSh, σ, u)) := by
  unfold p_Model_shake_j66_25 at hP
  refine gRunN_ok hG.1 9 _ (80, [some (.ref 94), none, some (.int l2), some (.int l3), some (.int l4), some (.int l5), some (.int y0)], [.int y0, .int (((l3.toUInt32 >>> ((1 : Int32).toUInt32 &&& Int32.toUInt32 31)).toInt32) &&& (255 : Int32)), .int l5, .ref 94], (gSh, σ, u)) rfl ?_
  obtain ⟨hc, hP⟩ := g_if hP
  refine hG.1 _ (81, [some (.ref 94), none, some (.int l2), some (.int l3), some (.int l4), some (.int l5), some (.int y0)], [.int ((((l3.toUInt32 >>> ((1 : Int32).toUInt32 &&& Int32.toUInt32 31)).toInt32) &&& (255 : Int32)) - (((l3.toUInt32 >>> ((1 : Int32).toUInt32 &&& Int32.toUInt32 31)).toInt32) &&& (255 : Int32)) / y0 * y0), .int l5, .ref 94], (gSh, σ, u)) _ rfl (if_pos hc) ?_
  refine gRunN_ok hG.1 6 _ (91, [some (.ref 94), none, some (.int l2), some (.int l3), some (.int l4), some (.int l5), some (.int y0)], [.int y0, .int (((l3.toUInt32 >>> ((9 : Int32).toUInt32 &&& Int32.toUInt32 31)).toInt32) &&& (255 : Int32)), .int ((((l3.toUInt32 >>> ((1 : Int32).toUInt32 &&& Int32.toUInt32 31)).toInt32) &&& (255 : Int32)) - (((l3.toUInt32 >>> ((1 : Int32).toUInt32 &&& Int32.toUInt32 31)).toInt32) &&& (255 : Int32)) / y0 * y0), .int l5, .ref 94], (gSh, σ, u)) rfl ?_
  obtain ⟨hc, hP⟩ := g_if hP
  refine hG.1 _ (92, [some (.ref 94), none, some (.int l2), some (.int l3), some (.int l4), some (.int l5), some (.int y0)], [.int ((((l3.toUInt32 >>> ((9 : Int32).toUInt32 &&& Int32.toUInt32 31)).toInt32) &&& (255 : Int32)) - (((l3.toUInt32 >>> ((9 : Int32).toUInt32 &&& Int32.toUInt32 31)).toInt32) &&& (255 : Int32)) / y0 * y0), .int ((((l3.toUInt32 >>> ((1 : Int32).toUInt32 &&& Int32.toUInt32 31)).toInt32) &&& (255 : Int32)) - (((l3.toUInt32 >>> ((1 : Int32).toUInt32 &&& Int32.toUInt32 31)).toInt32) &&& (255 : Int32)) / y0 * y0), .int l5, .ref 94], (gSh, σ, u)) _ rfl (if_pos hc) ?_
  refine gRunN_ok hG.1 5 _ (99, [some (.ref 94), none, some (.int l2), some (.int l3), some (.int l4), some (.int l5), some (.int y0)], [.int (((l3.toUInt32 >>> ((17 : Int32).toUInt32 &&& Int32.toUInt32 31)).toInt32) &&& (7 : Int32)), .int ((((l3.toUInt32 >>> ((9 : Int32).toUInt32 &&& Int32.toUInt32 31)).toInt32) &&& (255 : Int32)) - (((l3.toUInt32 >>> ((9 : Int32).toUInt32 &&& Int32.toUInt32 31)).toInt32) &&& (255 : Int32)) / y0 * y0), .int ((((l3.toUInt32 >>> ((1 : Int32).toUInt32 &&& Int32.toUInt32 31)).toInt32) &&& (255 : Int32)) - (((l3.toUInt32 >>> ((1 : Int32).toUInt32 &&& Int32.toUInt32 31)).toInt32) &&& (255 : Int32)) / y0 * y0), .int l5, .ref 94], (gSh, σ, u)) rfl ?_
  obtain ⟨s3, hq, hP⟩ := g_b1 hP
  refine hG.2.2.2.1 _ _ _ [.ref 94, .int l5, .int ((((l3.toUInt32 >>> ((1 : Int32).toUInt32 &&& Int32.toUInt32 31)).toInt32) &&& (255 : Int32)) - (((l3.toUInt32 >>> ((1 : Int32).toUInt32 &&& Int32.toUInt32 31)).toInt32) &&& (255 : Int32)) / y0 * y0), .int ((((l3.toUInt32 >>> ((9 : Int32).toUInt32 &&& Int32.toUInt32 31)).toInt32) &&& (255 : Int32)) - (((l3.toUInt32 >>> ((9 : Int32).toUInt32 &&& Int32.toUInt32 31)).toInt32) &&& (255 : Int32)) / y0 * y0), .int (((l3.toUInt32 >>> ((17 : Int32).toUInt32 &&& Int32.toUInt32 31)).toInt32) &&& (7 : Int32))] [] _ (gSh, s3, u) none _ _ _ _ _ _ rfl rfl rfl rfl rfl rfl (c_Model_swapOnce E (d + 0) u l5 ((((l3.toUInt32 >>> ((1 : Int32).toUInt32 &&& Int32.toUInt32 31)).toInt32) &&& (255 : Int32)) - (((l3.toUInt32 >>> ((1 : Int32).toUInt32 &&& Int32.toUInt32 31)).toInt32) &&& (255 : Int32)) / y0 * y0) ((((l3.toUInt32 >>> ((9 : Int32).toUInt32 &&& Int32.toUInt32 31)).toInt32) &&& (255 : Int32)) - (((l3.toUInt32 >>> ((9 : Int32).toUInt32 &&& Int32.toUInt32 31)).toInt32) &&& (255 : Int32)) / y0 * y0) (((l3.toUInt32 >>> ((17 : Int32).toUInt32 &&& Int32.toUInt32 31)).toInt32) &&& (7 : Int32)) _  hq) (Nat.le_refl _) (Nat.le_refl _) (Nat.le_refl _) (Nat.le_refl _) ?_
  show G (102, [some (.ref 94), none, some (.int l2), some (.int l3), some (.int l4), some (.int l5), some (.int y0)], [], (gSh, s3, u))
  refine gRunN_ok hG.1 6 _ (112, [some (.ref 94), none, some (.int l2), some (.int ((l3 * (1103515245 : Int32)) + (12345 : Int32))), some (.int l4), some (.int l5), some (.int y0)], [], (gSh, s3, u)) rfl ?_
  obtain ⟨x4, ex4, hP⟩ := g_let hP
  rw [← ex4]
  refine gRunN_ok hG.1 1 _ (115, [some (.ref 94), none, some (.int l2), some (.int x4), some (.int (l4 + 1)), some (.int l5), some (.int y0)], [], (gSh, s3, u)) rfl ?_
  obtain ⟨x5, ex5, hP⟩ := g_let hP
  rw [← ex5]
  refine gRunN_ok hG.1 1 _ (25, [some (.ref 94), none, some (.int l2), some (.int x4), some (.int x5), some (.int l5), some (.int y0)], [], (gSh, s3, u)) rfl ?_
  refine hG.2.2.2.2.1 _ _ [some (.ref 94), none, some (.int l2), some (.int x4), some (.int x5), none, none] _ _ ⟨rfl, ⟨rfl, ⟨rfl, ⟨rfl, trivial⟩⟩⟩⟩ ?_
  cases hP
  exact K1 _ _ _ rfl
def p_Model_shake_j48_25 (E : gEv) (l2 : Int32) (l3 : Int32) (l4 : Int32) (y0 : Int32) (σ : gS) : Option ((Int32 × Int32 × gS) ⊕ (gS)) :=
  if y0 = 0 then (p_Model_shake_j66_25 E l2 l3 l4 y0 (σ.1 94 4) σ) else (p_Model_shake_j66_25 E l2 l3 l4 y0 (σ.1 94 6) σ)
set_option maxRecDepth 20000 in
theorem j_Model_shake_j48_25 (E : gEv) (d u : Nat) {G : gFr → Prop} {vo : Option Value} {sr : gS} (hG : gClo E gDf gP18 gY242 (some .int) (gC E gDf gMs (d + 5)) (vo, (gSh, sr, u)) G) (l2 : Int32) (l3 : Int32) (l4 : Int32) (y0 : Int32) (σ : gS) {r : (Int32 × Int32 × gS) ⊕ (gS)} (hP : p_Model_shake_j48_25 E l2 l3 l4 y0 σ = some r) (K1 : ∀ (m3 : Int32) (m4 : Int32) (σ1 : gS), r = .inl (m3, m4, σ1) → G (25, [some (.ref 94), none, some (.int l2), some (.int m3), some (.int m4), none, none], [], (gSh, σ1, u))) (K2 : ∀ (σ1 : gS), r = .inr σ1 → G (118, [some (.ref 94), none, none, none, none, none, none], [], (gSh, σ1, u))) : G (48, [some (.ref 94), none, some (.int l2), some (.int l3), some (.int l4), none, none], [.int y0], (gSh, σ, u)) := by
  unfold p_Model_shake_j48_25 at hP
  refine gRunN_ok hG.1 2 _ (52, [some (.ref 94), none, some (.int l2), some (.int l3), some (.int l4), some (.int y0), none], [.int y0], (gSh, σ, u)) rfl ?_
  rcases g_ite hP with ⟨hc, hP⟩ | ⟨hc, hP⟩
  · refine hG.1 _ (62, [some (.ref 94), none, some (.int l2), some (.int l3), some (.int l4), some (.int y0), none], [], (gSh, σ, u)) _ rfl (if_pos hc) ?_
    refine gRunN_ok hG.1 2 _ (66, [some (.ref 94), none, some (.int l2), some (.int l3), some (.int l4), some (.int y0), none], [.int (σ.1 94 4)], (gSh, σ, u)) rfl ?_
    exact j_Model_shake_j66_25 E d u hG l2 l3 l4 y0 (σ.1 94 4) σ hP K1 K2
  · refine hG.1 _ (55, [some (.ref 94), none, some (.int l2), some (.int l3), some (.int l4), some (.int y0), none], [], (gSh, σ, u)) _ rfl (if_neg hc) ?_
    refine gRunN_ok hG.1 3 _ (66, [some (.ref 94), none, some (.int l2), some (.int l3), some (.int l4), some (.int y0), none], [.int (σ.1 94 6)], (gSh, σ, u)) rfl ?_
    exact j_Model_shake_j66_25 E d u hG l2 l3 l4 y0 (σ.1 94 6) σ hP K1 K2
def p_Model_shake_25 (E : gEv) (l2 : Int32) (l3 : Int32) (l4 : Int32) (σ : gS) : Option ((Int32 × Int32 × gS) ⊕ (gS)) :=
  if l2 ≤ l4 then (some (.inr σ)) else (gLet (gPut σ 94 77 0) fun s1 => if (l3 &&& (1 : Int32)) = (1 : Int32) then (p_Model_shake_j48_25 E l2 l3 l4 1 s1) else (p_Model_shake_j48_25 E l2 l3 l4 0 s1))
set_option maxRecDepth 20000 in
theorem b_Model_shake_25 (E : gEv) (d u : Nat) {G : gFr → Prop} {vo : Option Value} {sr : gS} (hG : gClo E gDf gP18 gY242 (some .int) (gC E gDf gMs (d + 5)) (vo, (gSh, sr, u)) G) (l2 : Int32) (l3 : Int32) (l4 : Int32) (σ : gS) {r : (Int32 × Int32 × gS) ⊕ (gS)} (hP : p_Model_shake_25 E l2 l3 l4 σ = some r) (K1 : ∀ (m3 : Int32) (m4 : Int32) (σ1 : gS), r = .inl (m3, m4, σ1) → G (25, [some (.ref 94), none, some (.int l2), some (.int m3), some (.int m4), none, none], [], (gSh, σ1, u))) (K2 : ∀ (σ1 : gS), r = .inr σ1 → G (118, [some (.ref 94), none, none, none, none, none, none], [], (gSh, σ1, u))) : G (25, [some (.ref 94), none, some (.int l2), some (.int l3), some (.int l4), none, none], [], (gSh, σ, u)) := by
  unfold p_Model_shake_25 at hP
  refine gRunN_ok hG.1 2 _ (28, [some (.ref 94), none, some (.int l2), some (.int l3), some (.int l4), none, none], [.int l2, .int l4], (gSh, σ, u)) rfl ?_
  rcases g_ite hP with ⟨hc, hP⟩ | ⟨hc, hP⟩
  · refine hG.1 _ (118, [some (.ref 94), none, some (.int l2), some (.int l3), some (.int l4), none, none], [], (gSh, σ, u)) _ rfl (if_pos hc) ?_
    refine hG.2.2.2.2.1 _ _ [some (.ref 94), none, none, none, none, none, none] _ _ ⟨rfl, trivial⟩ ?_
    cases hP
    exact K2 _ rfl
  · refine hG.1 _ (31, [some (.ref 94), none, some (.int l2), some (.int l3), some (.int l4), none, none], [], (gSh, σ, u)) _ rfl (if_neg hc) ?_
    refine gRunN_ok hG.1 3 _ (36, [some (.ref 94), none, some (.int l2), some (.int l3), some (.int l4), none, none], [], (gSh, (gPut σ 94 77 0), u)) rfl ?_
    obtain ⟨s1, es1, hP⟩ := g_let hP
    rw [← es1]
    refine gRunN_ok hG.1 4 _ (40, [some (.ref 94), none, some (.int l2), some (.int l3), some (.int l4), none, none], [.int 1, .int (l3 &&& (1 : Int32))], (gSh, s1, u)) rfl ?_
    rcases g_ite hP with ⟨hc, hP⟩ | ⟨hc, hP⟩
    · refine hG.1 _ (43, [some (.ref 94), none, some (.int l2), some (.int l3), some (.int l4), none, none], [], (gSh, s1, u)) _ rfl (if_pos hc) ?_
      refine gRunN_ok hG.1 2 _ (48, [some (.ref 94), none, some (.int l2), some (.int l3), some (.int l4), none, none], [.int 1], (gSh, s1, u)) rfl ?_
      exact j_Model_shake_j48_25 E d u hG l2 l3 l4 1 s1 hP K1 K2
    · refine hG.1 _ (47, [some (.ref 94), none, some (.int l2), some (.int l3), some (.int l4), none, none], [], (gSh, s1, u)) _ rfl (if_neg hc) ?_
      refine gRunN_ok hG.1 1 _ (48, [some (.ref 94), none, some (.int l2), some (.int l3), some (.int l4), none, none], [.int 0], (gSh, s1, u)) rfl ?_
      exact j_Model_shake_j48_25 E d u hG l2 l3 l4 0 s1 hP K1 K2
theorem l_Model_shake_25 (E : gEv) (d u : Nat) {G : gFr → Prop} {vo : Option Value} {sr : gS} (hG : gClo E gDf gP18 gY242 (some .int) (gC E gDf gMs (d + 5)) (vo, (gSh, sr, u)) G) (l2 : Int32) : ∀ (n : Nat) (l3 : Int32) (l4 : Int32) (σ : gS) (e : (gS)), gIter (fun z => p_Model_shake_25 E l2 z.1 z.2.1 z.2.2) n (l3, l4, σ) = some e → (∀ (σ1 : gS), e = σ1 → G (118, [some (.ref 94), none, none, none, none, none, none], [], (gSh, σ1, u))) → G (25, [some (.ref 94), none, some (.int l2), some (.int l3), some (.int l4), none, none], [], (gSh, σ, u)) := by
  intro n
  induction n with
  | zero => intro l3 l4 σ e h; cases h
  | succ n ih =>
    intro l3 l4 σ e h K2
    rcases g_iter h with ⟨z, h1, h2⟩ | h1
    · exact b_Model_shake_25 E d u hG l2 l3 l4 σ h1 (fun n0 n1 n2 hz => by cases hz; exact ih _ _ _ e h2 K2) (fun _ hz => by cases hz)
    · exact b_Model_shake_25 E d u hG l2 l3 l4 σ h1 (fun _ _ _ hz => by cases hz) (fun σ1 hz => K2 σ1 (by cases hz; rfl))
def p_Model_shake (E : gEv) (a0 : Int32) (a1 : Int32) (σ : gS) : Option (Int32 × gS) :=
  if (σ.1 94 106) = 0 then (some ((-1), σ)) else (if a1 < 0 then (some ((-1), σ)) else (if a1 ≤ (1000 : Int32) then (gB1 (gIter (fun z => p_Model_shake_25 E a1 z.1 z.2.1 z.2.2) gN (a0, 0, σ)) fun e6 => (fun s7 => gB2 (p_Model_length E s7) fun v8 s9 => some (v8, s9)) e6) else (some ((-1), σ))))
set_option maxRecDepth 20000 in
theorem c_Model_shake (E : gEv) (d u : Nat) (a0 : Int32) (a1 : Int32) (σ : gS) {v : Int32} {sr : gS}  (hq : p_Model_shake E a0 a1 σ = some (v, sr)) : gC E gDf gMs (d + 6) 242 [.ref 94, .int a0, .int a1] (gSh, σ, u) (some (.int v), (gSh, sr, u)) := ⟨gM242, rfl, Nat.le_of_ble_eq_true rfl, fun G hG => by
  have hP := hq
  unfold p_Model_shake at hP
  replace hG : gClo E gDf gP18 gY242 (some .int) (gC E gDf gMs (d + 5)) (some (.int v), (gSh, sr, u)) G := hG
  show G (0, [some (.ref 94), some (.int a0), some (.int a1), none, none, none, none], [], (gSh, σ, u))
  refine gRunN_ok hG.1 2 _ (4, [some (.ref 94), some (.int a0), some (.int a1), none, none, none, none], [.int (σ.1 94 106)], (gSh, σ, u)) rfl ?_
  rcases g_ite hP with ⟨hc, hP⟩ | ⟨hc, hP⟩
  · refine hG.1 _ (18, [some (.ref 94), some (.int a0), some (.int a1), none, none, none, none], [], (gSh, σ, u)) _ rfl (if_pos hc) ?_
    refine gRunN_ok hG.1 1 _ (19, [some (.ref 94), some (.int a0), some (.int a1), none, none, none, none], [.int (-1)], (gSh, σ, u)) rfl ?_
    cases hP
    exact hG.2.1 _ _ rfl rfl
  · refine hG.1 _ (7, [some (.ref 94), some (.int a0), some (.int a1), none, none, none, none], [], (gSh, σ, u)) _ rfl (if_neg hc) ?_
    refine gRunN_ok hG.1 1 _ (8, [some (.ref 94), some (.int a0), some (.int a1), none, none, none, none], [.int a1], (gSh, σ, u)) rfl ?_
    rcases g_ite hP with ⟨hc, hP⟩ | ⟨hc, hP⟩
    · refine hG.1 _ (18, [some (.ref 94), some (.int a0), some (.int a1), none, none, none, none], [], (gSh, σ, u)) _ rfl (if_pos hc) ?_
      refine gRunN_ok hG.1 1 _ (19, [some (.ref 94), some (.int a0), some (.int a1), none, none, none, none], [.int (-1)], (gSh, σ, u)) rfl ?_
      cases hP
      exact hG.2.1 _ _ rfl rfl
    · refine hG.1 _ (11, [some (.ref 94), some (.int a0), some (.int a1), none, none, none, none], [], (gSh, σ, u)) _ rfl (if_neg hc) ?_
      refine gRunN_ok hG.1 2 _ (15, [some (.ref 94), some (.int a0), some (.int a1), none, none, none, none], [.int 1000, .int a1], (gSh, σ, u)) rfl ?_
      rcases g_ite hP with ⟨hc, hP⟩ | ⟨hc, hP⟩
      · refine hG.1 _ (20, [some (.ref 94), some (.int a0), some (.int a1), none, none, none, none], [], (gSh, σ, u)) _ rfl (if_pos hc) ?_
        refine gRunN_ok hG.1 4 _ (25, [some (.ref 94), some (.int a0), some (.int a1), some (.int a0), some (.int 0), none, none], [], (gSh, σ, u)) rfl ?_
        refine hG.2.2.2.2.1 _ _ [some (.ref 94), none, some (.int a1), some (.int a0), some (.int 0), none, none] _ _ ⟨rfl, ⟨rfl, ⟨rfl, ⟨rfl, trivial⟩⟩⟩⟩ ?_
        obtain ⟨e6, hq, hP⟩ := g_b1 hP
        refine l_Model_shake_25 E d u hG a1 gN a0 0 σ _ hq (fun s7 he => ?_)
        · replace he := he.symm
          subst he
          try dsimp only [gSum] at hP
          refine gRunN_ok hG.1 1 _ (119, [some (.ref 94), none, none, none, none, none, none], [.ref 94], (gSh, s7, u)) rfl ?_
          obtain ⟨v8, s9, hq, hP⟩ := g_b2 hP
          refine hG.2.2.2.1 _ _ _ [.ref 94] [] _ (gSh, s9, u) (some (.int v8)) _ _ _ _ _ _ rfl rfl rfl rfl rfl rfl (c_Model_length E (d + 1) u _  hq) (Nat.le_refl _) (Nat.le_refl _) (Nat.le_refl _) (Nat.le_refl _) ?_
          show G (122, [some (.ref 94), none, none, none, none, none, none], [.int v8], (gSh, s9, u))
          cases hP
          exact hG.2.1 _ _ rfl rfl
      · refine hG.1 _ (18, [some (.ref 94), some (.int a0), some (.int a1), none, none, none, none], [], (gSh, σ, u)) _ rfl (if_neg hc) ?_
        refine gRunN_ok hG.1 1 _ (19, [some (.ref 94), some (.int a0), some (.int a1), none, none, none, none], [.int (-1)], (gSh, σ, u)) rfl ?_
        cases hP
        exact hG.2.1 _ _ rfl rfl⟩
def p_Model_routeAll_2 (E : gEv) (l1 : Int32) (l2 : Int32) (σ : gS) : Option ((Int32 × gS) ⊕ (gS)) :=
  if (σ.1 94 8) ≤ l2 then (some (.inr σ)) else (if gIn l2 (σ.2.1 146) then gLet (gPut σ 146 l2.toNatClampNeg 0) fun s1 => if gIn l2 (s1.2.1 147) then gLet (gPut s1 147 l2.toNatClampNeg 0) fun s2 => gLet (l2 + 1) fun x3 => some (.inl (x3, s2)) else none else none)
set_option maxRecDepth 20000 in
theorem b_Model_routeAll_2 (E : gEv) (d u : Nat) {G : gFr → Prop} {vo : Option Value} {sr : gS} (hG : gClo E gDf gP18 gY244 (some .int) (gC E gDf gMs (d + 5)) (vo, (gSh, sr, u)) G) (l1 : Int32) (l2 : Int32) (σ : gS) {r : (Int32 × gS) ⊕ (gS)} (hP : p_Model_routeAll_2 E l1 l2 σ = some r) (K1 : ∀ (m2 : Int32) (σ1 : gS), r = .inl (m2, σ1) → G (2, [some (.ref 94), some (.int l1), some (.int m2), none], [], (gSh, σ1, u))) (K2 : ∀ (σ1 : gS), r = .inr σ1 → G (30, [some (.ref 94), some (.int l1), none, none], [], (gSh, σ1, u))) : G (2, [some (.ref 94), some (.int l1), some (.int l2), none], [], (gSh, σ, u)) := by
  unfold p_Model_routeAll_2 at hP
  refine gRunN_ok hG.1 3 _ (7, [some (.ref 94), some (.int l1), some (.int l2), none], [.int (σ.1 94 8), .int l2], (gSh, σ, u)) rfl ?_
  rcases g_ite hP with ⟨hc, hP⟩ | ⟨hc, hP⟩
  · refine hG.1 _ (30, [some (.ref 94), some (.int l1), some (.int l2), none], [], (gSh, σ, u)) _ rfl (if_pos hc) ?_
    refine hG.2.2.2.2.1 _ _ [some (.ref 94), some (.int l1), none, none] _ _ ⟨rfl, ⟨rfl, trivial⟩⟩ ?_
    cases hP
    exact K2 _ rfl
  · refine hG.1 _ (10, [some (.ref 94), some (.int l1), some (.int l2), none], [], (gSh, σ, u)) _ rfl (if_neg hc) ?_
    refine gRunN_ok hG.1 4 _ (16, [some (.ref 94), some (.int l1), some (.int l2), none], [.int 0, .int l2, .ref 146], (gSh, σ, u)) rfl ?_
    obtain ⟨hc, hP⟩ := g_if hP
    refine hG.1 _ (17, [some (.ref 94), some (.int l1), some (.int l2), none], [], (gSh, (gPut σ 146 l2.toNatClampNeg 0), u)) _ rfl (if_pos hc) ?_
    obtain ⟨s1, es1, hP⟩ := g_let hP
    rw [← es1]
    refine gRunN_ok hG.1 4 _ (23, [some (.ref 94), some (.int l1), some (.int l2), none], [.int 0, .int l2, .ref 147], (gSh, s1, u)) rfl ?_
    obtain ⟨hc, hP⟩ := g_if hP
    refine hG.1 _ (24, [some (.ref 94), some (.int l1), some (.int l2), none], [], (gSh, (gPut s1 147 l2.toNatClampNeg 0), u)) _ rfl (if_pos hc) ?_
    obtain ⟨s2, es2, hP⟩ := g_let hP
    rw [← es2]
    refine gRunN_ok hG.1 1 _ (27, [some (.ref 94), some (.int l1), some (.int (l2 + 1)), none], [], (gSh, s2, u)) rfl ?_
    obtain ⟨x3, ex3, hP⟩ := g_let hP
    rw [← ex3]
    refine gRunN_ok hG.1 1 _ (2, [some (.ref 94), some (.int l1), some (.int x3), none], [], (gSh, s2, u)) rfl ?_
    cases hP
    exact K1 _ _ rfl
theorem l_Model_routeAll_2 (E : gEv) (d u : Nat) {G : gFr → Prop} {vo : Option Value} {sr : gS} (hG : gClo E gDf gP18 gY244 (some .int) (gC E gDf gMs (d + 5)) (vo, (gSh, sr, u)) G) (l1 : Int32) : ∀ (n : Nat) (l2 : Int32) (σ : gS) (e : (gS)), gIter (fun z => p_Model_routeAll_2 E l1 z.1 z.2) n (l2, σ) = some e → (∀ (σ1 : gS), e = σ1 → G (30, [some (.ref 94), some (.int l1), none, none], [], (gSh, σ1, u))) → G (2, [some (.ref 94), some (.int l1), some (.int l2), none], [], (gSh, σ, u)) := by
  intro n
  induction n with
  | zero => intro l2 σ e h; cases h
  | succ n ih =>
    intro l2 σ e h K2
    rcases g_iter h with ⟨z, h1, h2⟩ | h1
    · exact b_Model_routeAll_2 E d u hG l1 l2 σ h1 (fun n0 n1 hz => by cases hz; exact ih _ _ e h2 K2) (fun _ hz => by cases hz)
    · exact b_Model_routeAll_2 E d u hG l1 l2 σ h1 (fun _ _ hz => by cases hz) (fun σ1 hz => K2 σ1 (by cases hz; rfl))
def p_Model_routeAll_32 (E : gEv) (l1 : Int32) (l2 : Int32) (σ : gS) : Option ((Int32 × gS) ⊕ (gS)) :=
  if (Int32.ofNat (σ.2.1 141)) ≤ l2 then (some (.inr σ)) else (if gIn l2 (σ.2.1 141) then gLet (gPut σ 141 l2.toNatClampNeg (vp_nar .boolean 0)) fun s6 => gLet (l2 + 1) fun x7 => some (.inl (x7, s6)) else none)
set_option maxRecDepth 20000 in
theorem b_Model_routeAll_32 (E : gEv) (d u : Nat) {G : gFr → Prop} {vo : Option Value} {sr : gS} (hG : gClo E gDf gP18 gY244 (some .int) (gC E gDf gMs (d + 5)) (vo, (gSh, sr, u)) G) (l1 : Int32) (l2 : Int32) (σ : gS) {r : (Int32 × gS) ⊕ (gS)} (hP : p_Model_routeAll_32 E l1 l2 σ = some r) (K1 : ∀ (m2 : Int32) (σ1 : gS), r = .inl (m2, σ1) → G (32, [some (.ref 94), some (.int l1), some (.int m2), none], [], (gSh, σ1, u))) (K2 : ∀ (σ1 : gS), r = .inr σ1 → G (54, [some (.ref 94), some (.int l1), none, none], [], (gSh, σ1, u))) : G (32, [some (.ref 94), some (.int l1), some (.int l2), none], [], (gSh, σ, u)) := by
  unfold p_Model_routeAll_32 at hP
  refine gRunN_ok hG.1 4 _ (38, [some (.ref 94), some (.int l1), some (.int l2), none], [.int (Int32.ofNat (σ.2.1 141)), .int l2], (gSh, σ, u)) rfl ?_
  rcases g_ite hP with ⟨hc, hP⟩ | ⟨hc, hP⟩
  · refine hG.1 _ (54, [some (.ref 94), some (.int l1), some (.int l2), none], [], (gSh, σ, u)) _ rfl (if_pos hc) ?_
    refine hG.2.2.2.2.1 _ _ [some (.ref 94), some (.int l1), none, none] _ _ ⟨rfl, ⟨rfl, trivial⟩⟩ ?_
    cases hP
    exact K2 _ rfl
  · refine hG.1 _ (41, [some (.ref 94), some (.int l1), some (.int l2), none], [], (gSh, σ, u)) _ rfl (if_neg hc) ?_
    refine gRunN_ok hG.1 4 _ (47, [some (.ref 94), some (.int l1), some (.int l2), none], [.int 0, .int l2, .ref 141], (gSh, σ, u)) rfl ?_
    obtain ⟨hc, hP⟩ := g_if hP
    refine hG.1 _ (48, [some (.ref 94), some (.int l1), some (.int l2), none], [], (gSh, (gPut σ 141 l2.toNatClampNeg (vp_nar .boolean 0)), u)) _ rfl (if_pos hc) ?_
    obtain ⟨s6, es6, hP⟩ := g_let hP
    rw [← es6]
    refine gRunN_ok hG.1 1 _ (51, [some (.ref 94), some (.int l1), some (.int (l2 + 1)), none], [], (gSh, s6, u)) rfl ?_
    obtain ⟨x7, ex7, hP⟩ := g_let hP
    rw [← ex7]
    refine gRunN_ok hG.1 1 _ (32, [some (.ref 94), some (.int l1), some (.int x7), none], [], (gSh, s6, u)) rfl ?_
    cases hP
    exact K1 _ _ rfl
theorem l_Model_routeAll_32 (E : gEv) (d u : Nat) {G : gFr → Prop} {vo : Option Value} {sr : gS} (hG : gClo E gDf gP18 gY244 (some .int) (gC E gDf gMs (d + 5)) (vo, (gSh, sr, u)) G) (l1 : Int32) : ∀ (n : Nat) (l2 : Int32) (σ : gS) (e : (gS)), gIter (fun z => p_Model_routeAll_32 E l1 z.1 z.2) n (l2, σ) = some e → (∀ (σ1 : gS), e = σ1 → G (54, [some (.ref 94), some (.int l1), none, none], [], (gSh, σ1, u))) → G (32, [some (.ref 94), some (.int l1), some (.int l2), none], [], (gSh, σ, u)) := by
  intro n
  induction n with
  | zero => intro l2 σ e h; cases h
  | succ n ih =>
    intro l2 σ e h K2
    rcases g_iter h with ⟨z, h1, h2⟩ | h1
    · exact b_Model_routeAll_32 E d u hG l1 l2 σ h1 (fun n0 n1 hz => by cases hz; exact ih _ _ e h2 K2) (fun _ hz => by cases hz)
    · exact b_Model_routeAll_32 E d u hG l1 l2 σ h1 (fun _ _ hz => by cases hz) (fun σ1 hz => K2 σ1 (by cases hz; rfl))
def p_Model_routeAll_63 (E : gEv) (l1 : Int32) (l2 : Int32) (l3 : Int32) (σ : gS) : Option ((Int32 × gS) ⊕ (gS)) :=
  if (σ.1 94 60) ≤ l3 then (some (.inr σ)) else (gB1 (p_Model_routeNet E l3 l2 σ) fun s11 => gLet (l3 + 1) fun x12 => some (.inl (x12, s11)))
set_option maxRecDepth 20000 in
theorem b_Model_routeAll_63 (E : gEv) (d u : Nat) {G : gFr → Prop} {vo : Option Value} {sr : gS} (hG : gClo E gDf gP18 gY244 (some .int) (gC E gDf gMs (d + 5)) (vo, (gSh, sr, u)) G) (l1 : Int32) (l2 : Int32) (l3 : Int32) (σ : gS) {r : (Int32 × gS) ⊕ (gS)} (hP : p_Model_routeAll_63 E l1 l2 l3 σ = some r) (K1 : ∀ (m3 : Int32) (σ1 : gS), r = .inl (m3, σ1) → G (63, [some (.ref 94), some (.int l1), some (.int l2), some (.int m3)], [], (gSh, σ1, u))) (K2 : ∀ (σ1 : gS), r = .inr σ1 → G (83, [some (.ref 94), some (.int l1), some (.int l2), none], [], (gSh, σ1, u))) : G (63, [some (.ref 94), some (.int l1), some (.int l2), some (.int l3)], [], (gSh, σ, u)) := by
  unfold p_Model_routeAll_63 at hP
  refine gRunN_ok hG.1 3 _ (68, [some (.ref 94), some (.int l1), some (.int l2), some (.int l3)], [.int (σ.1 94 60), .int l3], (gSh, σ, u)) rfl ?_
  rcases g_ite hP with ⟨hc, hP⟩ | ⟨hc, hP⟩
  · refine hG.1 _ (83, [some (.ref 94), some (.int l1), some (.int l2), some (.int l3)], [], (gSh, σ, u)) _ rfl (if_pos hc) ?_
    refine hG.2.2.2.2.1 _ _ [some (.ref 94), some (.int l1), some (.int l2), none] _ _ ⟨rfl, ⟨rfl, ⟨rfl, trivial⟩⟩⟩ ?_
    cases hP
    exact K2 _ rfl
  · refine hG.1 _ (71, [some (.ref 94), some (.int l1), some (.int l2), some (.int l3)], [], (gSh, σ, u)) _ rfl (if_neg hc) ?_
    refine gRunN_ok hG.1 3 _ (74, [some (.ref 94), some (.int l1), some (.int l2), some (.int l3)], [.int l2, .int l3, .ref 94], (gSh, σ, u)) rfl ?_
    obtain ⟨s11, hq, hP⟩ := g_b1 hP
    refine hG.2.2.2.1 _ _ _ [.ref 94, .int l3, .int l2] [] _ (gSh, s11, u) none _ _ _ _ _ _ rfl rfl rfl rfl rfl rfl (c_Model_routeNet E (d + 0) u l3 l2 _  hq) (Nat.le_refl _) (Nat.le_refl _) (Nat.le_refl _) (Nat.le_refl _) ?_
    show G (77, [some (.ref 94), some (.int l1), some (.int l2), some (.int l3)], [], (gSh, s11, u))
    refine gRunN_ok hG.1 1 _ (80, [some (.ref 94), some (.int l1), some (.int l2), some (.int (l3 + 1))], [], (gSh, s11, u)) rfl ?_
    obtain ⟨x12, ex12, hP⟩ := g_let hP
    rw [← ex12]
    refine gRunN_ok hG.1 1 _ (63, [some (.ref 94), some (.int l1), some (.int l2), some (.int x12)], [], (gSh, s11, u)) rfl ?_
    cases hP
    exact K1 _ _ rfl
theorem l_Model_routeAll_63 (E : gEv) (d u : Nat) {G : gFr → Prop} {vo : Option Value} {sr : gS} (hG : gClo E gDf gP18 gY244 (some .int) (gC E gDf gMs (d + 5)) (vo, (gSh, sr, u)) G) (l1 : Int32) (l2 : Int32) : ∀ (n : Nat) (l3 : Int32) (σ : gS) (e : (gS)), gIter (fun z => p_Model_routeAll_63 E l1 l2 z.1 z.2) n (l3, σ) = some e → (∀ (σ1 : gS), e = σ1 → G (83, [some (.ref 94), some (.int l1), some (.int l2), none], [], (gSh, σ1, u))) → G (63, [some (.ref 94), some (.int l1), some (.int l2), some (.int l3)], [], (gSh, σ, u)) := by
  intro n
  induction n with
  | zero => intro l3 σ e h; cases h
  | succ n ih =>
    intro l3 σ e h K2
    rcases g_iter h with ⟨z, h1, h2⟩ | h1
    · exact b_Model_routeAll_63 E d u hG l1 l2 l3 σ h1 (fun n0 n1 hz => by cases hz; exact ih _ _ e h2 K2) (fun _ hz => by cases hz)
    · exact b_Model_routeAll_63 E d u hG l1 l2 l3 σ h1 (fun _ _ hz => by cases hz) (fun σ1 hz => K2 σ1 (by cases hz; rfl))
def p_Model_routeAll_56 (E : gEv) (l1 : Int32) (l2 : Int32) (σ : gS) : Option ((Int32 × gS) ⊕ ((Int32 × gS) ⊕ (gS))) :=
  if l1 < l2 then (some (.inr (.inr σ))) else (gB1 (gIter (fun z => p_Model_routeAll_63 E l1 l2 z.1 z.2) gN (0, σ)) fun e13 => (fun s14 => gB2 (p_Model_goesTogether E s14) fun v15 s16 => if v15 = 0 then (gLet (l2 + 1) fun x17 => some (.inl (x17, s16))) else (some (.inr (.inl (l2, s16))))) e13)
set_option maxRecDepth 20000 in
theorem b_Model_routeAll_56 (E : gEv) (d u : Nat) {G : gFr → Prop} {vo : Option Value} {sr : gS} (hG : gClo E gDf gP18 gY244 (some .int) (gC E gDf gMs (d + 5)) (vo, (gSh, sr, u)) G) (l1 : Int32) (l2 : Int32) (σ : gS) {r : (Int32 × gS) ⊕ ((Int32 × gS) ⊕ (gS))} (hP : p_Model_routeAll_56 E l1 l2 σ = some r) (K1 : ∀ (m2 : Int32) (σ1 : gS), r = .inl (m2, σ1) → G (56, [some (.ref 94), some (.int l1), some (.int m2), none], [], (gSh, σ1, u))) (K2 : ∀ (m2 : Int32) (σ1 : gS), r = .inr (.inl (m2, σ1)) → G (90, [none, none, some (.int m2), none], [], (gSh, σ1, u))) (K3 : ∀ (σ1 : gS), r = .inr (.inr σ1) → G (98, [some (.ref 94), some (.int l1), none, none], [], (gSh, σ1, u))) : G (56, [some (.ref 94), some (.int l1), some (.int l2), none], [], (gSh, σ, u)) := by
  unfold p_Model_routeAll_56 at hP
  refine gRunN_ok hG.1 2 _ (58, [some (.ref 94), some (.int l1), some (.int l2), none], [.int l1, .int l2], (gSh, σ, u)) rfl ?_
  rcases g_ite hP with ⟨hc, hP⟩ | ⟨hc, hP⟩
  · refine hG.1 _ (98, [some (.ref 94), some (.int l1), some (.int l2), none], [], (gSh, σ, u)) _ rfl (if_pos hc) ?_
    refine hG.2.2.2.2.1 _ _ [some (.ref 94), some (.int l1), none, none] _ _ ⟨rfl, ⟨rfl, trivial⟩⟩ ?_
    cases hP
    exact K3 _ rfl
  · refine hG.1 _ (61, [some (.ref 94), some (.int l1), some (.int l2), none], [], (gSh, σ, u)) _ rfl (if_neg hc) ?_
    refine gRunN_ok hG.1 2 _ (63, [some (.ref 94), some (.int l1), some (.int l2), some (.int 0)], [], (gSh, σ, u)) rfl ?_
    obtain ⟨e13, hq, hP⟩ := g_b1 hP
    refine l_Model_routeAll_63 E d u hG l1 l2 gN 0 σ _ hq (fun s14 he => ?_)
    · replace he := he.symm
      subst he
      try dsimp only [gSum] at hP
      refine gRunN_ok hG.1 1 _ (84, [some (.ref 94), some (.int l1), some (.int l2), none], [.ref 94], (gSh, s14, u)) rfl ?_
      obtain ⟨v15, s16, hq, hP⟩ := g_b2 hP
      refine hG.2.2.2.1 _ _ _ [.ref 94] [] _ (gSh, s16, u) (some (.int v15)) _ _ _ _ _ _ rfl rfl rfl rfl rfl rfl (c_Model_goesTogether E (d + 4) u _  hq) (Nat.le_refl _) (Nat.le_refl _) (Nat.le_refl _) (Nat.le_refl _) ?_
      show G (87, [some (.ref 94), some (.int l1), some (.int l2), none], [.int v15], (gSh, s16, u))
      rcases g_ite hP with ⟨hc, hP⟩ | ⟨hc, hP⟩
      · refine hG.1 _ (92, [some (.ref 94), some (.int l1), some (.int l2), none], [], (gSh, s16, u)) _ rfl (if_pos hc) ?_
        refine gRunN_ok hG.1 1 _ (95, [some (.ref 94), some (.int l1), some (.int (l2 + 1)), none], [], (gSh, s16, u)) rfl ?_
        obtain ⟨x17, ex17, hP⟩ := g_let hP
        rw [← ex17]
        refine gRunN_ok hG.1 1 _ (56, [some (.ref 94), some (.int l1), some (.int x17), none], [], (gSh, s16, u)) rfl ?_
        cases hP
        exact K1 _ _ rfl
      · refine hG.1 _ (90, [some (.ref 94), some (.int l1), some (.int l2), none], [], (gSh, s16, u)) _ rfl (if_neg hc) ?_
        refine hG.2.2.2.2.1 _ _ [none, none, some (.int l2), none] _ _ ⟨rfl, trivial⟩ ?_
        cases hP
        exact K2 _ _ rfl
theorem l_Model_routeAll_56 (E : gEv) (d u : Nat) {G : gFr → Prop} {vo : Option Value} {sr : gS} (hG : gClo E gDf gP18 gY244 (some .int) (gC E gDf gMs (d + 5)) (vo, (gSh, sr, u)) G) (l1 : Int32) : ∀ (n : Nat) (l2 : Int32) (σ : gS) (e : ((Int32 × gS) ⊕ (gS))), gIter (fun z => p_Model_routeAll_56 E l1 z.1 z.2) n (l2, σ) = some e → (∀ (m2 : Int32) (σ1 : gS), e = (.inl (m2, σ1)) → G (90, [none, none, some (.int m2), none], [], (gSh, σ1, u))) → (∀ (σ1 : gS), e = (.inr σ1) → G (98, [some (.ref 94), some (.int l1), none, none], [], (gSh, σ1, u))) → G (56, [some (.ref 94), some (.int l1), some (.int l2), none], [], (gSh, σ, u)) := by
  intro n
  induction n with
  | zero => intro l2 σ e h; cases h
  | succ n ih =>
    intro l2 σ e h K2 K3
    rcases g_iter h with ⟨z, h1, h2⟩ | h1
    · exact b_Model_routeAll_56 E d u hG l1 l2 σ h1 (fun n0 n1 hz => by cases hz; exact ih _ _ e h2 K2 K3) (fun _ _ hz => by cases hz) (fun _ hz => by cases hz)
    · exact b_Model_routeAll_56 E d u hG l1 l2 σ h1 (fun _ _ hz => by cases hz) (fun m2 σ1 hz => K2 m2 σ1 (by cases hz; rfl)) (fun σ1 hz => K3 σ1 (by cases hz; rfl))
def p_Model_routeAll_113 (E : gEv) (l1 : Int32) (l2 : Int32) (σ : gS) : Option ((Int32 × gS) ⊕ (gS)) :=
  if (σ.1 94 60) ≤ l2 then (some (.inr σ)) else (gB1 (p_Model_giveUp E l2 σ) fun s23 => gLet (l2 + 1) fun x24 => some (.inl (x24, s23)))
set_option maxRecDepth 20000 in
theorem b_Model_routeAll_113 (E : gEv) (d u : Nat) {G : gFr → Prop} {vo : Option Value} {sr : gS} (hG : gClo E gDf gP18 gY244 (some .int) (gC E gDf gMs (d + 5)) (vo, (gSh, sr, u)) G) (l1 : Int32) (l2 : Int32) (σ : gS) {r : (Int32 × gS) ⊕ (gS)} (hP : p_Model_routeAll_113 E l1 l2 σ = some r) (K1 : ∀ (m2 : Int32) (σ1 : gS), r = .inl (m2, σ1) → G (113, [some (.ref 94), some (.int l1), some (.int m2), none], [], (gSh, σ1, u))) (K2 : ∀ (σ1 : gS), r = .inr σ1 → G (132, [some (.ref 94), some (.int l1), none, none], [], (gSh, σ1, u))) : G (113, [some (.ref 94), some (.int l1), some (.int l2), none], [], (gSh, σ, u)) := by
  unfold p_Model_routeAll_113 at hP
  refine gRunN_ok hG.1 3 _ (118, [some (.ref 94), some (.int l1), some (.int l2), none], [.int (σ.1 94 60), .int l2], (gSh, σ, u)) rfl ?_
  rcases g_ite hP with ⟨hc, hP⟩ | ⟨hc, hP⟩
  · refine hG.1 _ (132, [some (.ref 94), some (.int l1), some (.int l2), none], [], (gSh, σ, u)) _ rfl (if_pos hc) ?_
    refine hG.2.2.2.2.1 _ _ [some (.ref 94), some (.int l1), none, none] _ _ ⟨rfl, ⟨rfl, trivial⟩⟩ ?_
    cases hP
    exact K2 _ rfl
  · refine hG.1 _ (121, [some (.ref 94), some (.int l1), some (.int l2), none], [], (gSh, σ, u)) _ rfl (if_neg hc) ?_
    refine gRunN_ok hG.1 2 _ (123, [some (.ref 94), some (.int l1), some (.int l2), none], [.int l2, .ref 94], (gSh, σ, u)) rfl ?_
    obtain ⟨s23, hq, hP⟩ := g_b1 hP
    refine hG.2.2.2.1 _ _ _ [.ref 94, .int l2] [] _ (gSh, s23, u) none _ _ _ _ _ _ rfl rfl rfl rfl rfl rfl (c_Model_giveUp E (d + 4) u l2 _  hq) (Nat.le_refl _) (Nat.le_refl _) (Nat.le_refl _) (Nat.le_refl _) ?_
    show G (126, [some (.ref 94), some (.int l1), some (.int l2), none], [], (gSh, s23, u))
    refine gRunN_ok hG.1 1 _ (129, [some (.ref 94), some (.int l1), some (.int (l2 + 1)), none], [], (gSh, s23, u)) rfl ?_
    obtain ⟨x24, ex24, hP⟩ := g_let hP
    rw [← ex24]
    refine gRunN_ok hG.1 1 _ (113, [some (.ref 94), some (.int l1), some (.int x24), none], [], (gSh, s23, u)) rfl ?_
    cases hP
    exact K1 _ _ rfl
theorem l_Model_routeAll_113 (E : gEv) (d u : Nat) {G : gFr → Prop} {vo : Option Value} {sr : gS} (hG : gClo E gDf gP18 gY244 (some .int) (gC E gDf gMs (d + 5)) (vo, (gSh, sr, u)) G) (l1 : Int32) : ∀ (n : Nat) (l2 : Int32) (σ : gS) (e : (gS)), gIter (fun z => p_Model_routeAll_113 E l1 z.1 z.2) n (l2, σ) = some e → (∀ (σ1 : gS), e = σ1 → G (132, [some (.ref 94), some (.int l1), none, none], [], (gSh, σ1, u))) → G (113, [some (.ref 94), some (.int l1), some (.int l2), none], [], (gSh, σ, u)) := by
  intro n
  induction n with
  | zero => intro l2 σ e h; cases h
  | succ n ih =>
    intro l2 σ e h K2
    rcases g_iter h with ⟨z, h1, h2⟩ | h1
    · exact b_Model_routeAll_113 E d u hG l1 l2 σ h1 (fun n0 n1 hz => by cases hz; exact ih _ _ e h2 K2) (fun _ hz => by cases hz)
    · exact b_Model_routeAll_113 E d u hG l1 l2 σ h1 (fun _ _ hz => by cases hz) (fun σ1 hz => K2 σ1 (by cases hz; rfl))
def p_Model_routeAll_134 (E : gEv) (l1 : Int32) (l2 : Int32) (σ : gS) : Option ((Int32 × gS) ⊕ (gS)) :=
  if (σ.1 94 60) ≤ l2 then (some (.inr σ)) else (gB1 (p_Model_routeNet E l2 0 σ) fun s28 => gLet (l2 + 1) fun x29 => some (.inl (x29, s28)))
set_option maxRecDepth 20000 in
theorem b_Model_routeAll_134 (E : gEv) (d u : Nat) {G : gFr → Prop} {vo : Option Value} {sr : gS} (hG : gClo E gDf gP18 gY244 (some .int) (gC E gDf gMs (d + 5)) (vo, (gSh, sr, u)) G) (l1 : Int32) (l2 : Int32) (σ : gS) {r : (Int32 × gS) ⊕ (gS)} (hP : p_Model_routeAll_134 E l1 l2 σ = some r) (K1 : ∀ (m2 : Int32) (σ1 : gS), r = .inl (m2, σ1) → G (134, [some (.ref 94), some (.int l1), some (.int m2), none], [], (gSh, σ1, u))) (K2 : ∀ (σ1 : gS), r = .inr σ1 → G (154, [none, some (.int l1), none, none], [], (gSh, σ1, u))) : G (134, [some (.ref 94), some (.int l1), some (.int l2), none], [], (gSh, σ, u)) := by
  unfold p_Model_routeAll_134 at hP
  refine gRunN_ok hG.1 3 _ (139, [some (.ref 94), some (.int l1), some (.int l2), none], [.int (σ.1 94 60), .int l2], (gSh, σ, u)) rfl ?_
  rcases g_ite hP with ⟨hc, hP⟩ | ⟨hc, hP⟩
  · refine hG.1 _ (154, [some (.ref 94), some (.int l1), some (.int l2), none], [], (gSh, σ, u)) _ rfl (if_pos hc) ?_
    refine hG.2.2.2.2.1 _ _ [none, some (.int l1), none, none] _ _ ⟨rfl, trivial⟩ ?_
    cases hP
    exact K2 _ rfl
  · refine hG.1 _ (142, [some (.ref 94), some (.int l1), some (.int l2), none], [], (gSh, σ, u)) _ rfl (if_neg hc) ?_
    refine gRunN_ok hG.1 3 _ (145, [some (.ref 94), some (.int l1), some (.int l2), none], [.int 0, .int l2, .ref 94], (gSh, σ, u)) rfl ?_
    obtain ⟨s28, hq, hP⟩ := g_b1 hP
    refine hG.2.2.2.1 _ _ _ [.ref 94, .int l2, .int 0] [] _ (gSh, s28, u) none _ _ _ _ _ _ rfl rfl rfl rfl rfl rfl (c_Model_routeNet E (d + 0) u l2 0 _  hq) (Nat.le_refl _) (Nat.le_refl _) (Nat.le_refl _) (Nat.le_refl _) ?_
    show G (148, [some (.ref 94), some (.int l1), some (.int l2), none], [], (gSh, s28, u))
    refine gRunN_ok hG.1 1 _ (151, [some (.ref 94), some (.int l1), some (.int (l2 + 1)), none], [], (gSh, s28, u)) rfl ?_
    obtain ⟨x29, ex29, hP⟩ := g_let hP
    rw [← ex29]
    refine gRunN_ok hG.1 1 _ (134, [some (.ref 94), some (.int l1), some (.int x29), none], [], (gSh, s28, u)) rfl ?_
    cases hP
    exact K1 _ _ rfl
theorem l_Model_routeAll_134 (E : gEv) (d u : Nat) {G : gFr → Prop} {vo : Option Value} {sr : gS} (hG : gClo E gDf gP18 gY244 (some .int) (gC E gDf gMs (d + 5)) (vo, (gSh, sr, u)) G) (l1 : Int32) : ∀ (n : Nat) (l2 : Int32) (σ : gS) (e : (gS)), gIter (fun z => p_Model_routeAll_134 E l1 z.1 z.2) n (l2, σ) = some e → (∀ (σ1 : gS), e = σ1 → G (154, [none, some (.int l1), none, none], [], (gSh, σ1, u))) → G (134, [some (.ref 94), some (.int l1), some (.int l2), none], [], (gSh, σ, u)) := by
  intro n
  induction n with
  | zero => intro l2 σ e h; cases h
  | succ n ih =>
    intro l2 σ e h K2
    rcases g_iter h with ⟨z, h1, h2⟩ | h1
    · exact b_Model_routeAll_134 E d u hG l1 l2 σ h1 (fun n0 n1 hz => by cases hz; exact ih _ _ e h2 K2) (fun _ hz => by cases hz)
    · exact b_Model_routeAll_134 E d u hG l1 l2 σ h1 (fun _ _ hz => by cases hz) (fun σ1 hz => K2 σ1 (by cases hz; rfl))
def p_Model_routeAll (E : gEv) (a0 : Int32) (σ : gS) : Option (Int32 × gS) :=
  gB1 (gIter (fun z => p_Model_routeAll_2 E a0 z.1 z.2) gN (0, σ)) fun e4 => (fun s5 => gB1 (gIter (fun z => p_Model_routeAll_32 E a0 z.1 z.2) gN (0, s5)) fun e8 => (fun s9 => gB1 (gIter (fun z => p_Model_routeAll_56 E a0 z.1 z.2) gN (1, s9)) fun e18 => gSum e18 (fun e32 => (fun w19 s20 => some (w19, s20)) e32.1 e32.2) (fun e33 => (fun s21 => if (s21.1 94 60) ≤ (s21.1 94 3) then (gB1 (gIter (fun z => p_Model_routeAll_113 E a0 z.1 z.2) gN (0, s21)) fun e25 => (fun s26 => gB1 (gIter (fun z => p_Model_routeAll_134 E a0 z.1 z.2) gN (0, s26)) fun e30 => (fun s31 => some (a0 + (1 : Int32), s31)) e30) e25) else (some (0, s21))) e33)) e8) e4
set_option maxRecDepth 20000 in
theorem c_Model_routeAll (E : gEv) (d u : Nat) (a0 : Int32) (σ : gS) {v : Int32} {sr : gS}  (hq : p_Model_routeAll E a0 σ = some (v, sr)) : gC E gDf gMs (d + 6) 244 [.ref 94, .int a0] (gSh, σ, u) (some (.int v), (gSh, sr, u)) := ⟨gM244, rfl, Nat.le_of_ble_eq_true rfl, fun G hG => by
  have hP := hq
  unfold p_Model_routeAll at hP
  replace hG : gClo E gDf gP18 gY244 (some .int) (gC E gDf gMs (d + 5)) (some (.int v), (gSh, sr, u)) G := hG
  show G (0, [some (.ref 94), some (.int a0), none, none], [], (gSh, σ, u))
  refine gRunN_ok hG.1 2 _ (2, [some (.ref 94), some (.int a0), some (.int 0), none], [], (gSh, σ, u)) rfl ?_
  obtain ⟨e4, hq, hP⟩ := g_b1 hP
  refine l_Model_routeAll_2 E d u hG a0 gN 0 σ _ hq (fun s5 he => ?_)
  · replace he := he.symm
    subst he
    try dsimp only [gSum] at hP
    refine gRunN_ok hG.1 2 _ (32, [some (.ref 94), some (.int a0), some (.int 0), none], [], (gSh, s5, u)) rfl ?_
    obtain ⟨e8, hq, hP⟩ := g_b1 hP
    refine l_Model_routeAll_32 E d u hG a0 gN 0 s5 _ hq (fun s9 he => ?_)
    · replace he := he.symm
      subst he
      try dsimp only [gSum] at hP
      refine gRunN_ok hG.1 2 _ (56, [some (.ref 94), some (.int a0), some (.int 1), none], [], (gSh, s9, u)) rfl ?_
      obtain ⟨e18, hq, hP⟩ := g_b1 hP
      refine l_Model_routeAll_56 E d u hG a0 gN 1 s9 _ hq (fun w19 s20 he => ?_) (fun s21 he => ?_)
      · subst he
        try dsimp only [gSum] at hP
        refine gRunN_ok hG.1 1 _ (91, [none, none, some (.int w19), none], [.int w19], (gSh, s20, u)) rfl ?_
        cases hP
        exact hG.2.1 _ _ rfl rfl
      · subst he
        try dsimp only [gSum] at hP
        refine gRunN_ok hG.1 4 _ (106, [some (.ref 94), some (.int a0), none, none], [.int (s21.1 94 3), .int (s21.1 94 60)], (gSh, s21, u)) rfl ?_
        rcases g_ite hP with ⟨hc, hP⟩ | ⟨hc, hP⟩
        · refine hG.1 _ (111, [some (.ref 94), some (.int a0), none, none], [], (gSh, s21, u)) _ rfl (if_pos hc) ?_
          refine gRunN_ok hG.1 2 _ (113, [some (.ref 94), some (.int a0), some (.int 0), none], [], (gSh, s21, u)) rfl ?_
          obtain ⟨e25, hq, hP⟩ := g_b1 hP
          refine l_Model_routeAll_113 E d u hG a0 gN 0 s21 _ hq (fun s26 he => ?_)
          · replace he := he.symm
            subst he
            try dsimp only [gSum] at hP
            refine gRunN_ok hG.1 2 _ (134, [some (.ref 94), some (.int a0), some (.int 0), none], [], (gSh, s26, u)) rfl ?_
            obtain ⟨e30, hq, hP⟩ := g_b1 hP
            refine l_Model_routeAll_134 E d u hG a0 gN 0 s26 _ hq (fun s31 he => ?_)
            · replace he := he.symm
              subst he
              try dsimp only [gSum] at hP
              refine gRunN_ok hG.1 3 _ (157, [none, some (.int a0), none, none], [.int (a0 + (1 : Int32))], (gSh, s31, u)) rfl ?_
              cases hP
              exact hG.2.1 _ _ rfl rfl
        · refine hG.1 _ (109, [some (.ref 94), some (.int a0), none, none], [], (gSh, s21, u)) _ rfl (if_neg hc) ?_
          refine gRunN_ok hG.1 1 _ (110, [some (.ref 94), some (.int a0), none, none], [.int 0], (gSh, s21, u)) rfl ?_
          cases hP
          exact hG.2.1 _ _ rfl rfl⟩
def p_Reader_read_6 (E : gEv) (l1 : Int32) (σ : gS) : Option ((Int32 × gS) ⊕ ((gS) ⊕ (gS))) :=
  if (4000 : Int32) < l1 then (some (.inr (.inr σ))) else (gB1 (p_Reader_readLine E σ) fun s4 => if (s4.1 22 14) = 0 then (if (s4.1 22 17) = 0 then (gB2 (p_Text_nextLine E s4) fun v5 s6 => if v5 = 0 then (some (.inr (.inl s6))) else (gLet (l1 + 1) fun x7 => some (.inl (x7, s6)))) else (some (.inr (.inr s4)))) else (some (.inr (.inr s4))))
set_option maxRecDepth 20000 in
theorem b_Reader_read_6 (E : gEv) (d u : Nat) {G : gFr → Prop} {vo : Option Value} {sr : gS} (hG : gClo E gDf gP5 gY35 (some .int) (gC E gDf gMs (d + 6)) (vo, (gSh, sr, u)) G) (l1 : Int32) (σ : gS) {r : (Int32 × gS) ⊕ ((gS) ⊕ (gS))} (hP : p_Reader_read_6 E l1 σ = some r) (K1 : ∀ (m1 : Int32) (σ1 : gS), r = .inl (m1, σ1) → G (6, [some (.ref 22), some (.int m1)], [], (gSh, σ1, u))) (K2 : ∀ (σ1 : gS), r = .inr (.inl σ1) → G (41, [some (.ref 22), none], [], (gSh, σ1, u))) (K3 : ∀ (σ1 : gS), r = .inr (.inr σ1) → G (50, [some (.ref 22), none], [], (gSh, σ1, u))) : G (6, [some (.ref 22), some (.int l1)], [], (gSh, σ, u)) := by
  unfold p_Reader_read_6 at hP
  refine gRunN_ok hG.1 2 _ (10, [some (.ref 22), some (.int l1)], [.int 4000, .int l1], (gSh, σ, u)) rfl ?_
  rcases g_ite hP with ⟨hc, hP⟩ | ⟨hc, hP⟩
  · refine hG.1 _ (50, [some (.ref 22), some (.int l1)], [], (gSh, σ, u)) _ rfl (if_pos hc) ?_
    refine hG.2.2.2.2.1 _ _ [some (.ref 22), none] _ _ ⟨rfl, trivial⟩ ?_
    cases hP
    exact K3 _ rfl
  · refine hG.1 _ (13, [some (.ref 22), some (.int l1)], [], (gSh, σ, u)) _ rfl (if_neg hc) ?_
    refine gRunN_ok hG.1 1 _ (14, [some (.ref 22), some (.int l1)], [.ref 22], (gSh, σ, u)) rfl ?_
    obtain ⟨s4, hq, hP⟩ := g_b1 hP
    refine hG.2.2.2.1 _ _ _ [.ref 22] [] _ (gSh, s4, u) none _ _ _ _ _ _ rfl rfl rfl rfl rfl rfl (c_Reader_readLine E (d + 0) u _  hq) (Nat.le_refl _) (Nat.le_refl _) (Nat.le_refl _) (Nat.le_refl _) ?_
    show G (17, [some (.ref 22), some (.int l1)], [], (gSh, s4, u))
    refine gRunN_ok hG.1 2 _ (21, [some (.ref 22), some (.int l1)], [.int (s4.1 22 14)], (gSh, s4, u)) rfl ?_
    rcases g_ite hP with ⟨hc, hP⟩ | ⟨hc, hP⟩
    · refine hG.1 _ (24, [some (.ref 22), some (.int l1)], [], (gSh, s4, u)) _ rfl (if_pos hc) ?_
      refine gRunN_ok hG.1 2 _ (28, [some (.ref 22), some (.int l1)], [.int (s4.1 22 17)], (gSh, s4, u)) rfl ?_
      rcases g_ite hP with ⟨hc, hP⟩ | ⟨hc, hP⟩
      · refine hG.1 _ (31, [some (.ref 22), some (.int l1)], [], (gSh, s4, u)) _ rfl (if_pos hc) ?_
        refine gRunN_ok hG.1 2 _ (35, [some (.ref 22), some (.int l1)], [.ref 10], (gSh, s4, u)) rfl ?_
        obtain ⟨v5, s6, hq, hP⟩ := g_b2 hP
        refine hG.2.2.2.1 _ _ _ [.ref 10] [] _ (gSh, s6, u) (some (.int v5)) _ _ _ _ _ _ rfl rfl rfl rfl rfl rfl (c_Text_nextLine E (d + 4) u _  hq) (Nat.le_refl _) (Nat.le_refl _) (Nat.le_refl _) (Nat.le_refl _) ?_
        show G (38, [some (.ref 22), some (.int l1)], [.int v5], (gSh, s6, u))
        rcases g_ite hP with ⟨hc, hP⟩ | ⟨hc, hP⟩
        · refine hG.1 _ (41, [some (.ref 22), some (.int l1)], [], (gSh, s6, u)) _ rfl (if_pos hc) ?_
          refine hG.2.2.2.2.1 _ _ [some (.ref 22), none] _ _ ⟨rfl, trivial⟩ ?_
          cases hP
          exact K2 _ rfl
        · refine hG.1 _ (44, [some (.ref 22), some (.int l1)], [], (gSh, s6, u)) _ rfl (if_neg hc) ?_
          refine gRunN_ok hG.1 1 _ (47, [some (.ref 22), some (.int (l1 + 1))], [], (gSh, s6, u)) rfl ?_
          obtain ⟨x7, ex7, hP⟩ := g_let hP
          rw [← ex7]
          refine gRunN_ok hG.1 1 _ (6, [some (.ref 22), some (.int x7)], [], (gSh, s6, u)) rfl ?_
          cases hP
          exact K1 _ _ rfl
      · refine hG.1 _ (50, [some (.ref 22), some (.int l1)], [], (gSh, s4, u)) _ rfl (if_neg hc) ?_
        refine hG.2.2.2.2.1 _ _ [some (.ref 22), none] _ _ ⟨rfl, trivial⟩ ?_
        cases hP
        exact K3 _ rfl
    · refine hG.1 _ (50, [some (.ref 22), some (.int l1)], [], (gSh, s4, u)) _ rfl (if_neg hc) ?_
      refine hG.2.2.2.2.1 _ _ [some (.ref 22), none] _ _ ⟨rfl, trivial⟩ ?_
      cases hP
      exact K3 _ rfl
theorem l_Reader_read_6 (E : gEv) (d u : Nat) {G : gFr → Prop} {vo : Option Value} {sr : gS} (hG : gClo E gDf gP5 gY35 (some .int) (gC E gDf gMs (d + 6)) (vo, (gSh, sr, u)) G) : ∀ (n : Nat) (l1 : Int32) (σ : gS) (e : ((gS) ⊕ (gS))), gIter (fun z => p_Reader_read_6 E z.1 z.2) n (l1, σ) = some e → (∀ (σ1 : gS), e = (.inl σ1) → G (41, [some (.ref 22), none], [], (gSh, σ1, u))) → (∀ (σ1 : gS), e = (.inr σ1) → G (50, [some (.ref 22), none], [], (gSh, σ1, u))) → G (6, [some (.ref 22), some (.int l1)], [], (gSh, σ, u)) := by
  intro n
  induction n with
  | zero => intro l1 σ e h; cases h
  | succ n ih =>
    intro l1 σ e h K2 K3
    rcases g_iter h with ⟨z, h1, h2⟩ | h1
    · exact b_Reader_read_6 E d u hG l1 σ h1 (fun n0 n1 hz => by cases hz; exact ih _ _ e h2 K2 K3) (fun _ hz => by cases hz) (fun _ hz => by cases hz)
    · exact b_Reader_read_6 E d u hG l1 σ h1 (fun _ _ hz => by cases hz) (fun σ1 hz => K2 σ1 (by cases hz; rfl)) (fun σ1 hz => K3 σ1 (by cases hz; rfl))
def p_Reader_read_j61 (E : gEv) (σ : gS) : Option (Int32 × gS) :=
  if (σ.1 22 14) = 0 then (gB1 (p_Reader_checkLoops E σ) fun s13 => some (s13.1 22 14, s13)) else (some (σ.1 22 14, σ))
set_option maxRecDepth 20000 in
theorem j_Reader_read_j61 (E : gEv) (d u : Nat) {G : gFr → Prop} {v : Int32} {sr : gS} (hG : gClo E gDf gP5 gY35 (some .int) (gC E gDf gMs (d + 6)) (some (.int v), (gSh, sr, u)) G) (σ : gS) (hP : p_Reader_read_j61 E σ = some (v, sr)) : G (61, [some (.ref 22), none], [], (gSh, σ, u)) := by
  unfold p_Reader_read_j61 at hP
  refine gRunN_ok hG.1 2 _ (65, [some (.ref 22), none], [.int (σ.1 22 14)], (gSh, σ, u)) rfl ?_
  rcases g_ite hP with ⟨hc, hP⟩ | ⟨hc, hP⟩
  · refine hG.1 _ (68, [some (.ref 22), none], [], (gSh, σ, u)) _ rfl (if_pos hc) ?_
    refine gRunN_ok hG.1 1 _ (69, [some (.ref 22), none], [.ref 22], (gSh, σ, u)) rfl ?_
    obtain ⟨s13, hq, hP⟩ := g_b1 hP
    refine hG.2.2.2.1 _ _ _ [.ref 22] [] _ (gSh, s13, u) none _ _ _ _ _ _ rfl rfl rfl rfl rfl rfl (c_Reader_checkLoops E (d + 2) u _  hq) (Nat.le_refl _) (Nat.le_refl _) (Nat.le_refl _) (Nat.le_refl _) ?_
    show G (72, [some (.ref 22), none], [], (gSh, s13, u))
    refine gRunN_ok hG.1 2 _ (76, [some (.ref 22), none], [.int (s13.1 22 14)], (gSh, s13, u)) rfl ?_
    cases hP
    exact hG.2.1 _ _ rfl rfl
  · refine hG.1 _ (72, [some (.ref 22), none], [], (gSh, σ, u)) _ rfl (if_neg hc) ?_
    refine gRunN_ok hG.1 2 _ (76, [some (.ref 22), none], [.int (σ.1 22 14)], (gSh, σ, u)) rfl ?_
    cases hP
    exact hG.2.1 _ _ rfl rfl
def p_Reader_read_j50 (E : gEv) (σ : gS) : Option (Int32 × gS) :=
  if (σ.1 22 14) = 0 then (gB1 (p_Reader_checkMakers E σ) fun s11 => p_Reader_read_j61 E s11) else (p_Reader_read_j61 E σ)
set_option maxRecDepth 20000 in
theorem j_Reader_read_j50 (E : gEv) (d u : Nat) {G : gFr → Prop} {v : Int32} {sr : gS} (hG : gClo E gDf gP5 gY35 (some .int) (gC E gDf gMs (d + 6)) (some (.int v), (gSh, sr, u)) G) (σ : gS) (hP : p_Reader_read_j50 E σ = some (v, sr)) : G (50, [some (.ref 22), none], [], (gSh, σ, u)) := by
  unfold p_Reader_read_j50 at hP
  refine gRunN_ok hG.1 2 _ (54, [some (.ref 22), none], [.int (σ.1 22 14)], (gSh, σ, u)) rfl ?_
  rcases g_ite hP with ⟨hc, hP⟩ | ⟨hc, hP⟩
  · refine hG.1 _ (57, [some (.ref 22), none], [], (gSh, σ, u)) _ rfl (if_pos hc) ?_
    refine gRunN_ok hG.1 1 _ (58, [some (.ref 22), none], [.ref 22], (gSh, σ, u)) rfl ?_
    obtain ⟨s11, hq, hP⟩ := g_b1 hP
    refine hG.2.2.2.1 _ _ _ [.ref 22] [] _ (gSh, s11, u) none _ _ _ _ _ _ rfl rfl rfl rfl rfl rfl (c_Reader_checkMakers E (d + 4) u _  hq) (Nat.le_refl _) (Nat.le_refl _) (Nat.le_refl _) (Nat.le_refl _) ?_
    show G (61, [some (.ref 22), none], [], (gSh, s11, u))
    exact j_Reader_read_j61 E d u hG s11 hP
  · refine hG.1 _ (61, [some (.ref 22), none], [], (gSh, σ, u)) _ rfl (if_neg hc) ?_
    exact j_Reader_read_j61 E d u hG σ hP
def p_Reader_read (E : gEv) (σ : gS) : Option (Int32 × gS) :=
  gB1 (p_Reader_clear E σ) fun s2 => gB1 (gIter (fun z => p_Reader_read_6 E z.1 z.2) gN (0, s2)) fun e8 => gSum e8 (fun e15 => (fun s9 => p_Reader_read_j50 E s9) e15) (fun e16 => (fun s14 => p_Reader_read_j50 E s14) e16)
set_option maxRecDepth 20000 in
theorem c_Reader_read (E : gEv) (d u : Nat) (σ : gS) {v : Int32} {sr : gS}  (hq : p_Reader_read E σ = some (v, sr)) : gC E gDf gMs (d + 7) 35 [.ref 22] (gSh, σ, u) (some (.int v), (gSh, sr, u)) := ⟨gM35, rfl, Nat.le_of_ble_eq_true rfl, fun G hG => by
  have hP := hq
  unfold p_Reader_read at hP
  replace hG : gClo E gDf gP5 gY35 (some .int) (gC E gDf gMs (d + 6)) (some (.int v), (gSh, sr, u)) G := hG
  show G (0, [some (.ref 22), none], [], (gSh, σ, u))
  refine gRunN_ok hG.1 1 _ (1, [some (.ref 22), none], [.ref 22], (gSh, σ, u)) rfl ?_
  obtain ⟨s2, hq, hP⟩ := g_b1 hP
  refine hG.2.2.2.1 _ _ _ [.ref 22] [] _ (gSh, s2, u) none _ _ _ _ _ _ rfl rfl rfl rfl rfl rfl (c_Reader_clear E (d + 3) u _  hq) (Nat.le_refl _) (Nat.le_refl _) (Nat.le_refl _) (Nat.le_refl _) ?_
  show G (4, [some (.ref 22), none], [], (gSh, s2, u))
  refine gRunN_ok hG.1 2 _ (6, [some (.ref 22), some (.int 0)], [], (gSh, s2, u)) rfl ?_
  obtain ⟨e8, hq, hP⟩ := g_b1 hP
  refine l_Reader_read_6 E d u hG gN 0 s2 _ hq (fun s9 he => ?_) (fun s14 he => ?_)
  · subst he
    try dsimp only [gSum] at hP
    refine gRunN_ok hG.1 1 _ (50, [some (.ref 22), none], [], (gSh, s9, u)) rfl ?_
    exact j_Reader_read_j50 E d u hG s9 hP
  · subst he
    try dsimp only [gSum] at hP
    exact j_Reader_read_j50 E d u hG s14 hP⟩
def p_Model_read_j221_31 (E : gEv) (l1 : Int32) (l2 : Int32) (l3 : Int32) (l4 : Int32) (σ : gS) : Option ((Int32 × Int32 × Int32 × gS) ⊕ (gS)) :=
  gB1 (p_Model_isWord E 0 3 σ) fun v20 => if v20 = 0 then (if l4 = 0 then (if l1 = 0 then (some (.inl (0, l2, l3, σ))) else (some (.inl (1, l2, l3, σ)))) else (some (.inl (0, l2, l3, σ)))) else (some (.inl (1, l2, l3, σ)))
set_option maxRecDepth 20000 in
theorem j_Model_read_j221_31 (E : gEv) (d u : Nat) {G : gFr → Prop} {vo : Option Value} {sr : gS} (hG : gClo E gDf gP18 gY197 none (gC E gDf gMs (d + 6)) (vo, (gSh, sr, u)) G) (l1 : Int32) (l2 : Int32) (l3 : Int32) (l4 : Int32) (σ : gS) {r : (Int32 × Int32 × Int32 × gS) ⊕ (gS)} (hP : p_Model_read_j221_31 E l1 l2 l3 l4 σ = some r) (K1 : ∀ (m1 : Int32) (m2 : Int32) (m3 : Int32) (σ1 : gS), r = .inl (m1, m2, m3, σ1) → G (31, [some (.ref 94), some (.int m1), some (.int m2), some (.int m3), none, none], [], (gSh, σ1, u))) (K2 : ∀ (σ1 : gS), r = .inr σ1 → G (250, [some (.ref 94), none, none, none, none, none], [], (gSh, σ1, u))) : G (221, [some (.ref 94), some (.int l1), some (.int l2), some (.int l3), some (.int l4), none], [], (gSh, σ, u)) := by
  unfold p_Model_read_j221_31 at hP
  refine gRunN_ok hG.1 3 _ (226, [some (.ref 94), some (.int l1), some (.int l2), some (.int l3), some (.int l4), none], [.retAddr 3, .int 0, .ref 94], (gSh, σ, u)) rfl ?_
  obtain ⟨v20, hq, hP⟩ := g_b1 hP
  refine hG.2.2.2.1 _ _ _ [.ref 94, .int 0, .retAddr 3] [] _ (gSh, σ, u) (some (.int v20)) _ _ _ _ _ _ rfl rfl rfl rfl rfl rfl (c_Model_isWord E (d + 1) u 0 3 _ (by decide) hq) (Nat.le_refl _) (Nat.le_refl _) (Nat.le_refl _) (Nat.le_refl _) ?_
  show G (229, [some (.ref 94), some (.int l1), some (.int l2), some (.int l3), some (.int l4), none], [.int v20], (gSh, σ, u))
  rcases g_ite hP with ⟨hc, hP⟩ | ⟨hc, hP⟩
  · refine hG.1 _ (232, [some (.ref 94), some (.int l1), some (.int l2), some (.int l3), some (.int l4), none], [], (gSh, σ, u)) _ rfl (if_pos hc) ?_
    refine gRunN_ok hG.1 1 _ (234, [some (.ref 94), some (.int l1), some (.int l2), some (.int l3), some (.int l4), none], [.int l4], (gSh, σ, u)) rfl ?_
    rcases g_ite hP with ⟨hc, hP⟩ | ⟨hc, hP⟩
    · refine hG.1 _ (237, [some (.ref 94), some (.int l1), some (.int l2), some (.int l3), some (.int l4), none], [], (gSh, σ, u)) _ rfl (if_pos hc) ?_
      refine gRunN_ok hG.1 1 _ (238, [some (.ref 94), some (.int l1), some (.int l2), some (.int l3), some (.int l4), none], [.int l1], (gSh, σ, u)) rfl ?_
      rcases g_ite hP with ⟨hc, hP⟩ | ⟨hc, hP⟩
      · refine hG.1 _ (245, [some (.ref 94), some (.int l1), some (.int l2), some (.int l3), some (.int l4), none], [], (gSh, σ, u)) _ rfl (if_pos hc) ?_
        refine gRunN_ok hG.1 3 _ (31, [some (.ref 94), some (.int 0), some (.int l2), some (.int l3), some (.int l4), none], [], (gSh, σ, u)) rfl ?_
        refine hG.2.2.2.2.1 _ _ [some (.ref 94), some (.int 0), some (.int l2), some (.int l3), none, none] _ _ ⟨rfl, ⟨rfl, ⟨rfl, ⟨rfl, trivial⟩⟩⟩⟩ ?_
        cases hP
        exact K1 _ _ _ _ rfl
      · refine hG.1 _ (241, [some (.ref 94), some (.int l1), some (.int l2), some (.int l3), some (.int l4), none], [], (gSh, σ, u)) _ rfl (if_neg hc) ?_
        refine gRunN_ok hG.1 4 _ (31, [some (.ref 94), some (.int 1), some (.int l2), some (.int l3), some (.int l4), none], [], (gSh, σ, u)) rfl ?_
        refine hG.2.2.2.2.1 _ _ [some (.ref 94), some (.int 1), some (.int l2), some (.int l3), none, none] _ _ ⟨rfl, ⟨rfl, ⟨rfl, ⟨rfl, trivial⟩⟩⟩⟩ ?_
        cases hP
        exact K1 _ _ _ _ rfl
    · refine hG.1 _ (245, [some (.ref 94), some (.int l1), some (.int l2), some (.int l3), some (.int l4), none], [], (gSh, σ, u)) _ rfl (if_neg hc) ?_
      refine gRunN_ok hG.1 3 _ (31, [some (.ref 94), some (.int 0), some (.int l2), some (.int l3), some (.int l4), none], [], (gSh, σ, u)) rfl ?_
      refine hG.2.2.2.2.1 _ _ [some (.ref 94), some (.int 0), some (.int l2), some (.int l3), none, none] _ _ ⟨rfl, ⟨rfl, ⟨rfl, ⟨rfl, trivial⟩⟩⟩⟩ ?_
      cases hP
      exact K1 _ _ _ _ rfl
  · refine hG.1 _ (241, [some (.ref 94), some (.int l1), some (.int l2), some (.int l3), some (.int l4), none], [], (gSh, σ, u)) _ rfl (if_neg hc) ?_
    refine gRunN_ok hG.1 4 _ (31, [some (.ref 94), some (.int 1), some (.int l2), some (.int l3), some (.int l4), none], [], (gSh, σ, u)) rfl ?_
    refine hG.2.2.2.2.1 _ _ [some (.ref 94), some (.int 1), some (.int l2), some (.int l3), none, none] _ _ ⟨rfl, ⟨rfl, ⟨rfl, ⟨rfl, trivial⟩⟩⟩⟩ ?_
    cases hP
    exact K1 _ _ _ _ rfl
def p_Model_read_j124_31 (E : gEv) (l1 : Int32) (l2 : Int32) (l3 : Int32) (l4 : Int32) (σ : gS) : Option ((Int32 × Int32 × Int32 × gS) ⊕ (gS)) :=
  gB1 (p_Model_isWord E 0 0 σ) fun v28 => gB1 (p_Model_padLine E v28 σ) fun s31 => p_Model_read_j221_31 E l1 l2 l3 l4 s31
set_option maxRecDepth 20000 in
theorem j_Model_read_j124_31 (E : gEv) (d u : Nat) {G : gFr → Prop} {vo : Option Value} {sr : gS} (hG : gClo E gDf gP18 gY197 none (gC E gDf gMs (d + 6)) (vo, (gSh, sr, u)) G) (l1 : Int32) (l2 : Int32) (l3 : Int32) (l4 : Int32) (σ : gS) {r : (Int32 × Int32 × Int32 × gS) ⊕ (gS)} (hP : p_Model_read_j124_31 E l1 l2 l3 l4 σ = some r) (K1 : ∀ (m1 : Int32) (m2 : Int32) (m3 : Int32) (σ1 : gS), r = .inl (m1, m2, m3, σ1) → G (31, [some (.ref 94), some (.int m1), some (.int m2), some (.int m3), none, none], [], (gSh, σ1, u))) (K2 : ∀ (σ1 : gS), r = .inr σ1 → G (250, [some (.ref 94), none, none, none, none, none], [], (gSh, σ1, u))) : G (124, [some (.ref 94), some (.int l1), some (.int l2), some (.int l3), some (.int l4), none], [], (gSh, σ, u)) := by
  unfold p_Model_read_j124_31 at hP
  refine gRunN_ok hG.1 4 _ (130, [some (.ref 94), some (.int l1), some (.int l2), some (.int l3), some (.int l4), none], [.retAddr 0, .int 0, .ref 94, .ref 94], (gSh, σ, u)) rfl ?_
  obtain ⟨v28, hq, hP⟩ := g_b1 hP
  refine hG.2.2.2.1 _ _ _ [.ref 94, .int 0, .retAddr 0] [.ref 94] _ (gSh, σ, u) (some (.int v28)) _ _ _ _ _ _ rfl rfl rfl rfl rfl rfl (c_Model_isWord E (d + 1) u 0 0 _ (by decide) hq) (Nat.le_refl _) (Nat.le_refl _) (Nat.le_refl _) (Nat.le_refl _) ?_
  show G (133, [some (.ref 94), some (.int l1), some (.int l2), some (.int l3), some (.int l4), none], [.int v28, .ref 94], (gSh, σ, u))
  obtain ⟨s31, hq, hP⟩ := g_b1 hP
  refine hG.2.2.2.1 _ _ _ [.ref 94, .int v28] [] _ (gSh, s31, u) none _ _ _ _ _ _ rfl rfl rfl rfl rfl rfl (c_Model_padLine E (d + 3) u v28 _  hq) (Nat.le_refl _) (Nat.le_refl _) (Nat.le_refl _) (Nat.le_refl _) ?_
  show G (136, [some (.ref 94), some (.int l1), some (.int l2), some (.int l3), some (.int l4), none], [], (gSh, s31, u))
  refine gRunN_ok hG.1 1 _ (221, [some (.ref 94), some (.int l1), some (.int l2), some (.int l3), some (.int l4), none], [], (gSh, s31, u)) rfl ?_
  exact j_Model_read_j221_31 E d u hG l1 l2 l3 l4 s31 hP K1 K2
def p_Model_read_j102_31 (E : gEv) (l1 : Int32) (l2 : Int32) (l3 : Int32) (l4 : Int32) (σ : gS) : Option ((Int32 × Int32 × Int32 × gS) ⊕ (gS)) :=
  gB1 (p_Model_isWord E 0 0 σ) fun v8 => if v8 = 0 then (gB1 (p_Model_isWord E 0 1 σ) fun v10 => if v10 = 0 then (gB1 (p_Model_isWord E 0 2 σ) fun v12 => if v12 = 0 then (gB1 (p_Model_isWord E 0 3 σ) fun v14 => if v14 = 0 then (gB1 (p_Model_isWord E 0 4 σ) fun v16 => if v16 = 0 then (if gIn (0 : Int32) (σ.2.1 97) then gB1 (p_Model_fail E 1 (σ.1 97 (0 : Int32).toNatClampNeg) σ) fun s19 => p_Model_read_j221_31 E l1 l2 l3 l4 s19 else none) else (if (σ.1 94 19) ≤ (1 : Int32) then (p_Model_read_j221_31 E l1 1 l3 l4 σ) else (if gIn (1 : Int32) (σ.2.1 97) then gB1 (p_Model_fail E 1 (σ.1 97 (1 : Int32).toNatClampNeg) σ) fun s23 => p_Model_read_j221_31 E l1 1 l3 l4 s23 else none))) else (gB1 (p_Model_functionLine E σ) fun s25 => p_Model_read_j221_31 E l1 l2 l3 l4 s25)) else (gB1 (p_Model_latchLine E σ) fun s27 => p_Model_read_j221_31 E l1 l2 l3 l4 s27)) else (p_Model_read_j124_31 E l1 l2 l3 l4 σ)) else (p_Model_read_j124_31 E l1 l2 l3 l4 σ)
set_option maxRecDepth 20000 in
theorem j_Model_read_j102_31 (E : gEv) (d u : Nat) {G : gFr → Prop} {vo : Option Value} {sr : gS} (hG : gClo E gDf gP18 gY197 none (gC E gDf gMs (d + 6)) (vo, (gSh, sr, u)) G) (l1 : Int32) (l2 : Int32) (l3 : Int32) (l4 : Int32) (σ : gS) {r : (Int32 × Int32 × Int32 × gS) ⊕ (gS)} (hP : p_Model_read_j102_31 E l1 l2 l3 l4 σ = some r) (K1 : ∀ (m1 : Int32) (m2 : Int32) (m3 : Int32) (σ1 : gS), r = .inl (m1, m2, m3, σ1) → G (31, [some (.ref 94), some (.int m1), some (.int m2), some (.int m3), none, none], [], (gSh, σ1, u))) (K2 : ∀ (σ1 : gS), r = .inr σ1 → G (250, [some (.ref 94), none, none, none, none, none], [], (gSh, σ1, u))) : G (102, [some (.ref 94), some (.int l1), some (.int l2), some (.int l3), some (.int l4), none], [], (gSh, σ, u)) := by
  unfold p_Model_read_j102_31 at hP
  refine gRunN_ok hG.1 3 _ (107, [some (.ref 94), some (.int l1), some (.int l2), some (.int l3), some (.int l4), none], [.retAddr 0, .int 0, .ref 94], (gSh, σ, u)) rfl ?_
  obtain ⟨v8, hq, hP⟩ := g_b1 hP
  refine hG.2.2.2.1 _ _ _ [.ref 94, .int 0, .retAddr 0] [] _ (gSh, σ, u) (some (.int v8)) _ _ _ _ _ _ rfl rfl rfl rfl rfl rfl (c_Model_isWord E (d + 1) u 0 0 _ (by decide) hq) (Nat.le_refl _) (Nat.le_refl _) (Nat.le_refl _) (Nat.le_refl _) ?_
  show G (110, [some (.ref 94), some (.int l1), some (.int l2), some (.int l3), some (.int l4), none], [.int v8], (gSh, σ, u))
  rcases g_ite hP with ⟨hc, hP⟩ | ⟨hc, hP⟩
  · refine hG.1 _ (113, [some (.ref 94), some (.int l1), some (.int l2), some (.int l3), some (.int l4), none], [], (gSh, σ, u)) _ rfl (if_pos hc) ?_
    refine gRunN_ok hG.1 3 _ (118, [some (.ref 94), some (.int l1), some (.int l2), some (.int l3), some (.int l4), none], [.retAddr 1, .int 0, .ref 94], (gSh, σ, u)) rfl ?_
    obtain ⟨v10, hq, hP⟩ := g_b1 hP
    refine hG.2.2.2.1 _ _ _ [.ref 94, .int 0, .retAddr 1] [] _ (gSh, σ, u) (some (.int v10)) _ _ _ _ _ _ rfl rfl rfl rfl rfl rfl (c_Model_isWord E (d + 1) u 0 1 _ (by decide) hq) (Nat.le_refl _) (Nat.le_refl _) (Nat.le_refl _) (Nat.le_refl _) ?_
    show G (121, [some (.ref 94), some (.int l1), some (.int l2), some (.int l3), some (.int l4), none], [.int v10], (gSh, σ, u))
    rcases g_ite hP with ⟨hc, hP⟩ | ⟨hc, hP⟩
    · refine hG.1 _ (139, [some (.ref 94), some (.int l1), some (.int l2), some (.int l3), some (.int l4), none], [], (gSh, σ, u)) _ rfl (if_pos hc) ?_
      refine gRunN_ok hG.1 3 _ (144, [some (.ref 94), some (.int l1), some (.int l2), some (.int l3), some (.int l4), none], [.retAddr 2, .int 0, .ref 94], (gSh, σ, u)) rfl ?_
      obtain ⟨v12, hq, hP⟩ := g_b1 hP
      refine hG.2.2.2.1 _ _ _ [.ref 94, .int 0, .retAddr 2] [] _ (gSh, σ, u) (some (.int v12)) _ _ _ _ _ _ rfl rfl rfl rfl rfl rfl (c_Model_isWord E (d + 1) u 0 2 _ (by decide) hq) (Nat.le_refl _) (Nat.le_refl _) (Nat.le_refl _) (Nat.le_refl _) ?_
      show G (147, [some (.ref 94), some (.int l1), some (.int l2), some (.int l3), some (.int l4), none], [.int v12], (gSh, σ, u))
      rcases g_ite hP with ⟨hc, hP⟩ | ⟨hc, hP⟩
      · refine hG.1 _ (157, [some (.ref 94), some (.int l1), some (.int l2), some (.int l3), some (.int l4), none], [], (gSh, σ, u)) _ rfl (if_pos hc) ?_
        refine gRunN_ok hG.1 3 _ (162, [some (.ref 94), some (.int l1), some (.int l2), some (.int l3), some (.int l4), none], [.retAddr 3, .int 0, .ref 94], (gSh, σ, u)) rfl ?_
        obtain ⟨v14, hq, hP⟩ := g_b1 hP
        refine hG.2.2.2.1 _ _ _ [.ref 94, .int 0, .retAddr 3] [] _ (gSh, σ, u) (some (.int v14)) _ _ _ _ _ _ rfl rfl rfl rfl rfl rfl (c_Model_isWord E (d + 1) u 0 3 _ (by decide) hq) (Nat.le_refl _) (Nat.le_refl _) (Nat.le_refl _) (Nat.le_refl _) ?_
        show G (165, [some (.ref 94), some (.int l1), some (.int l2), some (.int l3), some (.int l4), none], [.int v14], (gSh, σ, u))
        rcases g_ite hP with ⟨hc, hP⟩ | ⟨hc, hP⟩
        · refine hG.1 _ (175, [some (.ref 94), some (.int l1), some (.int l2), some (.int l3), some (.int l4), none], [], (gSh, σ, u)) _ rfl (if_pos hc) ?_
          refine gRunN_ok hG.1 3 _ (180, [some (.ref 94), some (.int l1), some (.int l2), some (.int l3), some (.int l4), none], [.retAddr 4, .int 0, .ref 94], (gSh, σ, u)) rfl ?_
          obtain ⟨v16, hq, hP⟩ := g_b1 hP
          refine hG.2.2.2.1 _ _ _ [.ref 94, .int 0, .retAddr 4] [] _ (gSh, σ, u) (some (.int v16)) _ _ _ _ _ _ rfl rfl rfl rfl rfl rfl (c_Model_isWord E (d + 1) u 0 4 _ (by decide) hq) (Nat.le_refl _) (Nat.le_refl _) (Nat.le_refl _) (Nat.le_refl _) ?_
          show G (183, [some (.ref 94), some (.int l1), some (.int l2), some (.int l3), some (.int l4), none], [.int v16], (gSh, σ, u))
          rcases g_ite hP with ⟨hc, hP⟩ | ⟨hc, hP⟩
          · refine hG.1 _ (210, [some (.ref 94), some (.int l1), some (.int l2), some (.int l3), some (.int l4), none], [], (gSh, σ, u)) _ rfl (if_pos hc) ?_
            refine gRunN_ok hG.1 5 _ (217, [some (.ref 94), some (.int l1), some (.int l2), some (.int l3), some (.int l4), none], [.int 0, .ref 97, .int 1, .ref 94], (gSh, σ, u)) rfl ?_
            obtain ⟨hc, hP⟩ := g_if hP
            refine hG.1 _ (218, [some (.ref 94), some (.int l1), some (.int l2), some (.int l3), some (.int l4), none], [.int (σ.1 97 (0 : Int32).toNatClampNeg), .int 1, .ref 94], (gSh, σ, u)) _ rfl (if_pos hc) ?_
            obtain ⟨s19, hq, hP⟩ := g_b1 hP
            refine hG.2.2.2.1 _ _ _ [.ref 94, .int 1, .int (σ.1 97 (0 : Int32).toNatClampNeg)] [] _ (gSh, s19, u) none _ _ _ _ _ _ rfl rfl rfl rfl rfl rfl (c_Model_fail E (d + 5) u 1 (σ.1 97 (0 : Int32).toNatClampNeg) _  hq) (Nat.le_refl _) (Nat.le_refl _) (Nat.le_refl _) (Nat.le_refl _) ?_
            show G (221, [some (.ref 94), some (.int l1), some (.int l2), some (.int l3), some (.int l4), none], [], (gSh, s19, u))
            exact j_Model_read_j221_31 E d u hG l1 l2 l3 l4 s19 hP K1 K2
          · refine hG.1 _ (186, [some (.ref 94), some (.int l1), some (.int l2), some (.int l3), some (.int l4), none], [], (gSh, σ, u)) _ rfl (if_neg hc) ?_
            refine gRunN_ok hG.1 5 _ (193, [some (.ref 94), some (.int l1), some (.int 1), some (.int l3), some (.int l4), none], [.int 1, .int (σ.1 94 19)], (gSh, σ, u)) rfl ?_
            rcases g_ite hP with ⟨hc, hP⟩ | ⟨hc, hP⟩
            · refine hG.1 _ (221, [some (.ref 94), some (.int l1), some (.int 1), some (.int l3), some (.int l4), none], [], (gSh, σ, u)) _ rfl (if_pos hc) ?_
              exact j_Model_read_j221_31 E d u hG l1 1 l3 l4 σ hP K1 K2
            · refine hG.1 _ (196, [some (.ref 94), some (.int l1), some (.int 1), some (.int l3), some (.int l4), none], [], (gSh, σ, u)) _ rfl (if_neg hc) ?_
              refine gRunN_ok hG.1 5 _ (203, [some (.ref 94), some (.int l1), some (.int 1), some (.int l3), some (.int l4), none], [.int 1, .ref 97, .int 1, .ref 94], (gSh, σ, u)) rfl ?_
              obtain ⟨hc, hP⟩ := g_if hP
              refine hG.1 _ (204, [some (.ref 94), some (.int l1), some (.int 1), some (.int l3), some (.int l4), none], [.int (σ.1 97 (1 : Int32).toNatClampNeg), .int 1, .ref 94], (gSh, σ, u)) _ rfl (if_pos hc) ?_
              obtain ⟨s23, hq, hP⟩ := g_b1 hP
              refine hG.2.2.2.1 _ _ _ [.ref 94, .int 1, .int (σ.1 97 (1 : Int32).toNatClampNeg)] [] _ (gSh, s23, u) none _ _ _ _ _ _ rfl rfl rfl rfl rfl rfl (c_Model_fail E (d + 5) u 1 (σ.1 97 (1 : Int32).toNatClampNeg) _  hq) (Nat.le_refl _) (Nat.le_refl _) (Nat.le_refl _) (Nat.le_refl _) ?_
              show G (207, [some (.ref 94), some (.int l1), some (.int 1), some (.int l3), some (.int l4), none], [], (gSh, s23, u))
              refine gRunN_ok hG.1 1 _ (221, [some (.ref 94), some (.int l1), some (.int 1), some (.int l3), some (.int l4), none], [], (gSh, s23, u)) rfl ?_
              exact j_Model_read_j221_31 E d u hG l1 1 l3 l4 s23 hP K1 K2
        · refine hG.1 _ (168, [some (.ref 94), some (.int l1), some (.int l2), some (.int l3), some (.int l4), none], [], (gSh, σ, u)) _ rfl (if_neg hc) ?_
          refine gRunN_ok hG.1 1 _ (169, [some (.ref 94), some (.int l1), some (.int l2), some (.int l3), some (.int l4), none], [.ref 94], (gSh, σ, u)) rfl ?_
          obtain ⟨s25, hq, hP⟩ := g_b1 hP
          refine hG.2.2.2.1 _ _ _ [.ref 94] [] _ (gSh, s25, u) none _ _ _ _ _ _ rfl rfl rfl rfl rfl rfl (c_Model_functionLine E (d + 3) u _  hq) (Nat.le_refl _) (Nat.le_refl _) (Nat.le_refl _) (Nat.le_refl _) ?_
          show G (172, [some (.ref 94), some (.int l1), some (.int l2), some (.int l3), some (.int l4), none], [], (gSh, s25, u))
          refine gRunN_ok hG.1 1 _ (221, [some (.ref 94), some (.int l1), some (.int l2), some (.int l3), some (.int l4), none], [], (gSh, s25, u)) rfl ?_
          exact j_Model_read_j221_31 E d u hG l1 l2 l3 l4 s25 hP K1 K2
      · refine hG.1 _ (150, [some (.ref 94), some (.int l1), some (.int l2), some (.int l3), some (.int l4), none], [], (gSh, σ, u)) _ rfl (if_neg hc) ?_
        refine gRunN_ok hG.1 1 _ (151, [some (.ref 94), some (.int l1), some (.int l2), some (.int l3), some (.int l4), none], [.ref 94], (gSh, σ, u)) rfl ?_
        obtain ⟨s27, hq, hP⟩ := g_b1 hP
        refine hG.2.2.2.1 _ _ _ [.ref 94] [] _ (gSh, s27, u) none _ _ _ _ _ _ rfl rfl rfl rfl rfl rfl (c_Model_latchLine E (d + 0) u _  hq) (Nat.le_refl _) (Nat.le_refl _) (Nat.le_refl _) (Nat.le_refl _) ?_
        show G (154, [some (.ref 94), some (.int l1), some (.int l2), some (.int l3), some (.int l4), none], [], (gSh, s27, u))
        refine gRunN_ok hG.1 1 _ (221, [some (.ref 94), some (.int l1), some (.int l2), some (.int l3), some (.int l4), none], [], (gSh, s27, u)) rfl ?_
        exact j_Model_read_j221_31 E d u hG l1 l2 l3 l4 s27 hP K1 K2
    · refine hG.1 _ (124, [some (.ref 94), some (.int l1), some (.int l2), some (.int l3), some (.int l4), none], [], (gSh, σ, u)) _ rfl (if_neg hc) ?_
      exact j_Model_read_j124_31 E d u hG l1 l2 l3 l4 σ hP K1 K2
  · refine hG.1 _ (124, [some (.ref 94), some (.int l1), some (.int l2), some (.int l3), some (.int l4), none], [], (gSh, σ, u)) _ rfl (if_neg hc) ?_
    exact j_Model_read_j124_31 E d u hG l1 l2 l3 l4 σ hP K1 K2
def p_Model_read_j84_31 (E : gEv) (l1 : Int32) (l2 : Int32) (l3 : Int32) (y0 : Int32) (σ : gS) : Option ((Int32 × Int32 × Int32 × gS) ⊕ (gS)) :=
  if y0 = 0 then (if l1 = 0 then (p_Model_read_j102_31 E l1 l2 l3 y0 σ) else (gB1 (p_Model_coverLine E σ) fun s33 => p_Model_read_j221_31 E l1 l2 l3 y0 s33)) else (p_Model_read_j102_31 E l1 l2 l3 y0 σ)
set_option maxRecDepth 20000 in
theorem j_Model_read_j84_31 (E : gEv) (d u : Nat) {G : gFr → Prop} {vo : Option Value} {sr : gS} (hG : gClo E gDf gP18 gY197 none (gC E gDf gMs (d + 6)) (vo, (gSh, sr, u)) G) (l1 : Int32) (l2 : Int32) (l3 : Int32) (y0 : Int32) (σ : gS) {r : (Int32 × Int32 × Int32 × gS) ⊕ (gS)} (hP : p_Model_read_j84_31 E l1 l2 l3 y0 σ = some r) (K1 : ∀ (m1 : Int32) (m2 : Int32) (m3 : Int32) (σ1 : gS), r = .inl (m1, m2, m3, σ1) → G (31, [some (.ref 94), some (.int m1), some (.int m2), some (.int m3), none, none], [], (gSh, σ1, u))) (K2 : ∀ (σ1 : gS), r = .inr σ1 → G (250, [some (.ref 94), none, none, none, none, none], [], (gSh, σ1, u))) : G (84, [some (.ref 94), some (.int l1), some (.int l2), some (.int l3), none, none], [.int y0], (gSh, σ, u)) := by
  unfold p_Model_read_j84_31 at hP
  refine gRunN_ok hG.1 2 _ (88, [some (.ref 94), some (.int l1), some (.int l2), some (.int l3), some (.int y0), none], [.int y0], (gSh, σ, u)) rfl ?_
  rcases g_ite hP with ⟨hc, hP⟩ | ⟨hc, hP⟩
  · refine hG.1 _ (91, [some (.ref 94), some (.int l1), some (.int l2), some (.int l3), some (.int y0), none], [], (gSh, σ, u)) _ rfl (if_pos hc) ?_
    refine gRunN_ok hG.1 1 _ (92, [some (.ref 94), some (.int l1), some (.int l2), some (.int l3), some (.int y0), none], [.int l1], (gSh, σ, u)) rfl ?_
    rcases g_ite hP with ⟨hc, hP⟩ | ⟨hc, hP⟩
    · refine hG.1 _ (102, [some (.ref 94), some (.int l1), some (.int l2), some (.int l3), some (.int y0), none], [], (gSh, σ, u)) _ rfl (if_pos hc) ?_
      exact j_Model_read_j102_31 E d u hG l1 l2 l3 y0 σ hP K1 K2
    · refine hG.1 _ (95, [some (.ref 94), some (.int l1), some (.int l2), some (.int l3), some (.int y0), none], [], (gSh, σ, u)) _ rfl (if_neg hc) ?_
      refine gRunN_ok hG.1 1 _ (96, [some (.ref 94), some (.int l1), some (.int l2), some (.int l3), some (.int y0), none], [.ref 94], (gSh, σ, u)) rfl ?_
      obtain ⟨s33, hq, hP⟩ := g_b1 hP
      refine hG.2.2.2.1 _ _ _ [.ref 94] [] _ (gSh, s33, u) none _ _ _ _ _ _ rfl rfl rfl rfl rfl rfl (c_Model_coverLine E (d + 0) u _  hq) (Nat.le_refl _) (Nat.le_refl _) (Nat.le_refl _) (Nat.le_refl _) ?_
      show G (99, [some (.ref 94), some (.int l1), some (.int l2), some (.int l3), some (.int y0), none], [], (gSh, s33, u))
      refine gRunN_ok hG.1 1 _ (221, [some (.ref 94), some (.int l1), some (.int l2), some (.int l3), some (.int y0), none], [], (gSh, s33, u)) rfl ?_
      exact j_Model_read_j221_31 E d u hG l1 l2 l3 y0 s33 hP K1 K2
  · refine hG.1 _ (102, [some (.ref 94), some (.int l1), some (.int l2), some (.int l3), some (.int y0), none], [], (gSh, σ, u)) _ rfl (if_neg hc) ?_
    exact j_Model_read_j102_31 E d u hG l1 l2 l3 y0 σ hP K1 K2
def p_Model_read_31 (E : gEv) (l1 : Int32) (l2 : Int32) (l3 : Int32) (σ : gS) : Option ((Int32 × Int32 × Int32 × gS) ⊕ (gS)) :=
  if (σ.1 94 16) ≤ l3 then (some (.inr σ)) else (if l2 = 0 then (if (σ.1 94 17) = 0 then (gB2 (p_Model_line E l3 σ) fun v6 s7 => if (s7.1 94 19) ≤ 0 then (some (.inl (l1, l2, v6, s7))) else (if gIn (0 : Int32) (s7.2.1 97) then if gIn (s7.1 97 (0 : Int32).toNatClampNeg) (s7.2.1 96) then if (s7.1 96 (s7.1 97 (0 : Int32).toNatClampNeg).toNatClampNeg) = (46 : Int32) then (p_Model_read_j84_31 E l1 l2 v6 1 s7) else (p_Model_read_j84_31 E l1 l2 v6 0 s7) else none else none)) else (some (.inr σ))) else (some (.inr σ)))
set_option maxRecDepth 20000 in
theorem b_Model_read_31 (E : gEv) (d u : Nat) {G : gFr → Prop} {vo : Option Value} {sr : gS} (hG : gClo E gDf gP18 gY197 none (gC E gDf gMs (d + 6)) (vo, (gSh, sr, u)) G) (l1 : Int32) (l2 : Int32) (l3 : Int32) (σ : gS) {r : (Int32 × Int32 × Int32 × gS) ⊕ (gS)} (hP : p_Model_read_31 E l1 l2 l3 σ = some r) (K1 : ∀ (m1 : Int32) (m2 : Int32) (m3 : Int32) (σ1 : gS), r = .inl (m1, m2, m3, σ1) → G (31, [some (.ref 94), some (.int m1), some (.int m2), some (.int m3), none, none], [], (gSh, σ1, u))) (K2 : ∀ (σ1 : gS), r = .inr σ1 → G (250, [some (.ref 94), none, none, none, none, none], [], (gSh, σ1, u))) : G (31, [some (.ref 94), some (.int l1), some (.int l2), some (.int l3), none, none], [], (gSh, σ, u)) := by
  unfold p_Model_read_31 at hP
  refine gRunN_ok hG.1 3 _ (36, [some (.ref 94), some (.int l1), some (.int l2), some (.int l3), none, none], [.int (σ.1 94 16), .int l3], (gSh, σ, u)) rfl ?_
  rcases g_ite hP with ⟨hc, hP⟩ | ⟨hc, hP⟩
  · refine hG.1 _ (250, [some (.ref 94), some (.int l1), some (.int l2), some (.int l3), none, none], [], (gSh, σ, u)) _ rfl (if_pos hc) ?_
    refine hG.2.2.2.2.1 _ _ [some (.ref 94), none, none, none, none, none] _ _ ⟨rfl, trivial⟩ ?_
    cases hP
    exact K2 _ rfl
  · refine hG.1 _ (39, [some (.ref 94), some (.int l1), some (.int l2), some (.int l3), none, none], [], (gSh, σ, u)) _ rfl (if_neg hc) ?_
    refine gRunN_ok hG.1 1 _ (40, [some (.ref 94), some (.int l1), some (.int l2), some (.int l3), none, none], [.int l2], (gSh, σ, u)) rfl ?_
    rcases g_ite hP with ⟨hc, hP⟩ | ⟨hc, hP⟩
    · refine hG.1 _ (43, [some (.ref 94), some (.int l1), some (.int l2), some (.int l3), none, none], [], (gSh, σ, u)) _ rfl (if_pos hc) ?_
      refine gRunN_ok hG.1 2 _ (47, [some (.ref 94), some (.int l1), some (.int l2), some (.int l3), none, none], [.int (σ.1 94 17)], (gSh, σ, u)) rfl ?_
      rcases g_ite hP with ⟨hc, hP⟩ | ⟨hc, hP⟩
      · refine hG.1 _ (50, [some (.ref 94), some (.int l1), some (.int l2), some (.int l3), none, none], [], (gSh, σ, u)) _ rfl (if_pos hc) ?_
        refine gRunN_ok hG.1 2 _ (52, [some (.ref 94), some (.int l1), some (.int l2), some (.int l3), none, none], [.int l3, .ref 94], (gSh, σ, u)) rfl ?_
        obtain ⟨v6, s7, hq, hP⟩ := g_b2 hP
        refine hG.2.2.2.1 _ _ _ [.ref 94, .int l3] [] _ (gSh, s7, u) (some (.int v6)) _ _ _ _ _ _ rfl rfl rfl rfl rfl rfl (c_Model_line E (d + 5) u l3 _  hq) (Nat.le_refl _) (Nat.le_refl _) (Nat.le_refl _) (Nat.le_refl _) ?_
        show G (55, [some (.ref 94), some (.int l1), some (.int l2), some (.int l3), none, none], [.int v6], (gSh, s7, u))
        refine gRunN_ok hG.1 3 _ (60, [some (.ref 94), some (.int l1), some (.int l2), some (.int v6), none, none], [.int (s7.1 94 19)], (gSh, s7, u)) rfl ?_
        rcases g_ite hP with ⟨hc, hP⟩ | ⟨hc, hP⟩
        · refine hG.1 _ (31, [some (.ref 94), some (.int l1), some (.int l2), some (.int v6), none, none], [], (gSh, s7, u)) _ rfl (if_pos hc) ?_
          cases hP
          exact K1 _ _ _ _ rfl
        · refine hG.1 _ (63, [some (.ref 94), some (.int l1), some (.int l2), some (.int v6), none, none], [], (gSh, s7, u)) _ rfl (if_neg hc) ?_
          refine gRunN_ok hG.1 5 _ (72, [some (.ref 94), some (.int l1), some (.int l2), some (.int v6), none, none], [.int 0, .ref 97, .ref 96], (gSh, s7, u)) rfl ?_
          obtain ⟨hc, hP⟩ := g_if hP
          refine hG.1 _ (73, [some (.ref 94), some (.int l1), some (.int l2), some (.int v6), none, none], [.int (s7.1 97 (0 : Int32).toNatClampNeg), .ref 96], (gSh, s7, u)) _ rfl (if_pos hc) ?_
          obtain ⟨hc, hP⟩ := g_if hP
          refine hG.1 _ (74, [some (.ref 94), some (.int l1), some (.int l2), some (.int v6), none, none], [.int (s7.1 96 (s7.1 97 (0 : Int32).toNatClampNeg).toNatClampNeg)], (gSh, s7, u)) _ rfl (if_pos hc) ?_
          refine gRunN_ok hG.1 1 _ (76, [some (.ref 94), some (.int l1), some (.int l2), some (.int v6), none, none], [.int 46, .int (s7.1 96 (s7.1 97 (0 : Int32).toNatClampNeg).toNatClampNeg)], (gSh, s7, u)) rfl ?_
          rcases g_ite hP with ⟨hc, hP⟩ | ⟨hc, hP⟩
          · refine hG.1 _ (79, [some (.ref 94), some (.int l1), some (.int l2), some (.int v6), none, none], [], (gSh, s7, u)) _ rfl (if_pos hc) ?_
            refine gRunN_ok hG.1 2 _ (84, [some (.ref 94), some (.int l1), some (.int l2), some (.int v6), none, none], [.int 1], (gSh, s7, u)) rfl ?_
            exact j_Model_read_j84_31 E d u hG l1 l2 v6 1 s7 hP K1 K2
          · refine hG.1 _ (83, [some (.ref 94), some (.int l1), some (.int l2), some (.int v6), none, none], [], (gSh, s7, u)) _ rfl (if_neg hc) ?_
            refine gRunN_ok hG.1 1 _ (84, [some (.ref 94), some (.int l1), some (.int l2), some (.int v6), none, none], [.int 0], (gSh, s7, u)) rfl ?_
            exact j_Model_read_j84_31 E d u hG l1 l2 v6 0 s7 hP K1 K2
      · refine hG.1 _ (250, [some (.ref 94), some (.int l1), some (.int l2), some (.int l3), none, none], [], (gSh, σ, u)) _ rfl (if_neg hc) ?_
        refine hG.2.2.2.2.1 _ _ [some (.ref 94), none, none, none, none, none] _ _ ⟨rfl, trivial⟩ ?_
        cases hP
        exact K2 _ rfl
    · refine hG.1 _ (250, [some (.ref 94), some (.int l1), some (.int l2), some (.int l3), none, none], [], (gSh, σ, u)) _ rfl (if_neg hc) ?_
      refine hG.2.2.2.2.1 _ _ [some (.ref 94), none, none, none, none, none] _ _ ⟨rfl, trivial⟩ ?_
      cases hP
      exact K2 _ rfl
theorem l_Model_read_31 (E : gEv) (d u : Nat) {G : gFr → Prop} {vo : Option Value} {sr : gS} (hG : gClo E gDf gP18 gY197 none (gC E gDf gMs (d + 6)) (vo, (gSh, sr, u)) G) : ∀ (n : Nat) (l1 : Int32) (l2 : Int32) (l3 : Int32) (σ : gS) (e : (gS)), gIter (fun z => p_Model_read_31 E z.1 z.2.1 z.2.2.1 z.2.2.2) n (l1, l2, l3, σ) = some e → (∀ (σ1 : gS), e = σ1 → G (250, [some (.ref 94), none, none, none, none, none], [], (gSh, σ1, u))) → G (31, [some (.ref 94), some (.int l1), some (.int l2), some (.int l3), none, none], [], (gSh, σ, u)) := by
  intro n
  induction n with
  | zero => intro l1 l2 l3 σ e h; cases h
  | succ n ih =>
    intro l1 l2 l3 σ e h K2
    rcases g_iter h with ⟨z, h1, h2⟩ | h1
    · exact b_Model_read_31 E d u hG l1 l2 l3 σ h1 (fun n0 n1 n2 n3 hz => by cases hz; exact ih _ _ _ _ e h2 K2) (fun _ hz => by cases hz)
    · exact b_Model_read_31 E d u hG l1 l2 l3 σ h1 (fun _ _ _ _ hz => by cases hz) (fun σ1 hz => K2 σ1 (by cases hz; rfl))
def p_Model_read_j318_265 (E : gEv) (l4 : Int32) (l5 : Int32) (y1 : Int32) (y2 : Int32) (σ : gS) : Option ((Int32 × gS) ⊕ (gS)) :=
  if gIn y1 (σ.2.1 114) then gLet (gPut σ 114 y1.toNatClampNeg (vp_nar .boolean y2)) fun s36 => gLet (l5 + 1) fun x37 => some (.inl (x37, s36)) else none
set_option maxRecDepth 20000 in
theorem j_Model_read_j318_265 (E : gEv) (d u : Nat) {G : gFr → Prop} {vo : Option Value} {sr : gS} (hG : gClo E gDf gP18 gY197 none (gC E gDf gMs (d + 6)) (vo, (gSh, sr, u)) G) (l4 : Int32) (l5 : Int32) (y1 : Int32) (y2 : Int32) (σ : gS) {r : (Int32 × gS) ⊕ (gS)} (hP : p_Model_read_j318_265 E l4 l5 y1 y2 σ = some r) (K1 : ∀ (m5 : Int32) (σ1 : gS), r = .inl (m5, σ1) → G (265, [some (.ref 94), none, none, none, some (.int l4), some (.int m5)], [], (gSh, σ1, u))) (K2 : ∀ (σ1 : gS), r = .inr σ1 → G (325, [some (.ref 94), none, none, none, some (.int l4), none], [], (gSh, σ1, u))) : G (318, [some (.ref 94), none, none, none, some (.int l4), some (.int l5)], [.int y2, .int y1, .ref 114], (gSh, σ, u)) := by
  unfold p_Model_read_j318_265 at hP
  obtain ⟨hc, hP⟩ := g_if hP
  refine hG.1 _ (319, [some (.ref 94), none, none, none, some (.int l4), some (.int l5)], [], (gSh, (gPut σ 114 y1.toNatClampNeg (vp_nar .boolean y2)), u)) _ rfl (if_pos hc) ?_
  obtain ⟨s36, es36, hP⟩ := g_let hP
  rw [← es36]
  refine gRunN_ok hG.1 1 _ (322, [some (.ref 94), none, none, none, some (.int l4), some (.int (l5 + 1))], [], (gSh, s36, u)) rfl ?_
  obtain ⟨x37, ex37, hP⟩ := g_let hP
  rw [← ex37]
  refine gRunN_ok hG.1 1 _ (265, [some (.ref 94), none, none, none, some (.int l4), some (.int x37)], [], (gSh, s36, u)) rfl ?_
  cases hP
  exact K1 _ _ rfl
def p_Model_read_265 (E : gEv) (l4 : Int32) (l5 : Int32) (σ : gS) : Option ((Int32 × gS) ⊕ (gS)) :=
  if gIn l4 (σ.2.1 113) then if (σ.1 113 l4.toNatClampNeg) = 0 then (if (256 : Int32) ≤ l5 then (some (.inr σ)) else (if gIn (((256 : Int32) * l4) + l5) (σ.2.1 114) then if (σ.1 114 (((256 : Int32) * l4) + l5).toNatClampNeg) = 0 then (p_Model_read_j318_265 E l4 l5 (((256 : Int32) * l4) + l5) 1 σ) else (p_Model_read_j318_265 E l4 l5 (((256 : Int32) * l4) + l5) 0 σ) else none)) else (some (.inr σ)) else none
set_option maxRecDepth 20000 in
theorem b_Model_read_265 (E : gEv) (d u : Nat) {G : gFr → Prop} {vo : Option Value} {sr : gS} (hG : gClo E gDf gP18 gY197 none (gC E gDf gMs (d + 6)) (vo, (gSh, sr, u)) G) (l4 : Int32) (l5 : Int32) (σ : gS) {r : (Int32 × gS) ⊕ (gS)} (hP : p_Model_read_265 E l4 l5 σ = some r) (K1 : ∀ (m5 : Int32) (σ1 : gS), r = .inl (m5, σ1) → G (265, [some (.ref 94), none, none, none, some (.int l4), some (.int m5)], [], (gSh, σ1, u))) (K2 : ∀ (σ1 : gS), r = .inr σ1 → G (325, [some (.ref 94), none, none, none, some (.int l4), none], [], (gSh, σ1, u))) : G (265, [some (.ref 94), none, none, none, some (.int l4), some (.int l5)], [], (gSh, σ, u)) := by
  unfold p_Model_read_265 at hP
  refine gRunN_ok hG.1 3 _ (271, [some (.ref 94), none, none, none, some (.int l4), some (.int l5)], [.int l4, .ref 113], (gSh, σ, u)) rfl ?_
  obtain ⟨hc, hP⟩ := g_if hP
  refine hG.1 _ (272, [some (.ref 94), none, none, none, some (.int l4), some (.int l5)], [.int (σ.1 113 l4.toNatClampNeg)], (gSh, σ, u)) _ rfl (if_pos hc) ?_
  rcases g_ite hP with ⟨hc, hP⟩ | ⟨hc, hP⟩
  · refine hG.1 _ (275, [some (.ref 94), none, none, none, some (.int l4), some (.int l5)], [], (gSh, σ, u)) _ rfl (if_pos hc) ?_
    refine gRunN_ok hG.1 2 _ (280, [some (.ref 94), none, none, none, some (.int l4), some (.int l5)], [.int 256, .int l5], (gSh, σ, u)) rfl ?_
    rcases g_ite hP with ⟨hc, hP⟩ | ⟨hc, hP⟩
    · refine hG.1 _ (325, [some (.ref 94), none, none, none, some (.int l4), some (.int l5)], [], (gSh, σ, u)) _ rfl (if_pos hc) ?_
      refine hG.2.2.2.2.1 _ _ [some (.ref 94), none, none, none, some (.int l4), none] _ _ ⟨rfl, ⟨rfl, trivial⟩⟩ ?_
      cases hP
      exact K2 _ rfl
    · refine hG.1 _ (283, [some (.ref 94), none, none, none, some (.int l4), some (.int l5)], [], (gSh, σ, u)) _ rfl (if_neg hc) ?_
      refine gRunN_ok hG.1 14 _ (309, [some (.ref 94), none, none, none, some (.int l4), some (.int l5)], [.int (((256 : Int32) * l4) + l5), .ref 114, .int (((256 : Int32) * l4) + l5), .ref 114], (gSh, σ, u)) rfl ?_
      obtain ⟨hc, hP⟩ := g_if hP
      refine hG.1 _ (310, [some (.ref 94), none, none, none, some (.int l4), some (.int l5)], [.int (σ.1 114 (((256 : Int32) * l4) + l5).toNatClampNeg), .int (((256 : Int32) * l4) + l5), .ref 114], (gSh, σ, u)) _ rfl (if_pos hc) ?_
      rcases g_ite hP with ⟨hc, hP⟩ | ⟨hc, hP⟩
      · refine hG.1 _ (313, [some (.ref 94), none, none, none, some (.int l4), some (.int l5)], [.int (((256 : Int32) * l4) + l5), .ref 114], (gSh, σ, u)) _ rfl (if_pos hc) ?_
        refine gRunN_ok hG.1 2 _ (318, [some (.ref 94), none, none, none, some (.int l4), some (.int l5)], [.int 1, .int (((256 : Int32) * l4) + l5), .ref 114], (gSh, σ, u)) rfl ?_
        exact j_Model_read_j318_265 E d u hG l4 l5 (((256 : Int32) * l4) + l5) 1 σ hP K1 K2
      · refine hG.1 _ (317, [some (.ref 94), none, none, none, some (.int l4), some (.int l5)], [.int (((256 : Int32) * l4) + l5), .ref 114], (gSh, σ, u)) _ rfl (if_neg hc) ?_
        refine gRunN_ok hG.1 1 _ (318, [some (.ref 94), none, none, none, some (.int l4), some (.int l5)], [.int 0, .int (((256 : Int32) * l4) + l5), .ref 114], (gSh, σ, u)) rfl ?_
        exact j_Model_read_j318_265 E d u hG l4 l5 (((256 : Int32) * l4) + l5) 0 σ hP K1 K2
  · refine hG.1 _ (325, [some (.ref 94), none, none, none, some (.int l4), some (.int l5)], [], (gSh, σ, u)) _ rfl (if_neg hc) ?_
    refine hG.2.2.2.2.1 _ _ [some (.ref 94), none, none, none, some (.int l4), none] _ _ ⟨rfl, ⟨rfl, trivial⟩⟩ ?_
    cases hP
    exact K2 _ rfl
theorem l_Model_read_265 (E : gEv) (d u : Nat) {G : gFr → Prop} {vo : Option Value} {sr : gS} (hG : gClo E gDf gP18 gY197 none (gC E gDf gMs (d + 6)) (vo, (gSh, sr, u)) G) (l4 : Int32) : ∀ (n : Nat) (l5 : Int32) (σ : gS) (e : (gS)), gIter (fun z => p_Model_read_265 E l4 z.1 z.2) n (l5, σ) = some e → (∀ (σ1 : gS), e = σ1 → G (325, [some (.ref 94), none, none, none, some (.int l4), none], [], (gSh, σ1, u))) → G (265, [some (.ref 94), none, none, none, some (.int l4), some (.int l5)], [], (gSh, σ, u)) := by
  intro n
  induction n with
  | zero => intro l5 σ e h; cases h
  | succ n ih =>
    intro l5 σ e h K2
    rcases g_iter h with ⟨z, h1, h2⟩ | h1
    · exact b_Model_read_265 E d u hG l4 l5 σ h1 (fun n0 n1 hz => by cases hz; exact ih _ _ e h2 K2) (fun _ hz => by cases hz)
    · exact b_Model_read_265 E d u hG l4 l5 σ h1 (fun _ _ hz => by cases hz) (fun σ1 hz => K2 σ1 (by cases hz; rfl))
def p_Model_read_253 (E : gEv) (l4 : Int32) (σ : gS) : Option ((Int32 × gS) ⊕ (gS)) :=
  if (σ.1 94 32) ≤ l4 then (some (.inr σ)) else (gB1 (gIter (fun z => p_Model_read_265 E l4 z.1 z.2) gN (0, σ)) fun e38 => (fun s39 => gLet (l4 + 1) fun x40 => some (.inl (x40, s39))) e38)
set_option maxRecDepth 20000 in
theorem b_Model_read_253 (E : gEv) (d u : Nat) {G : gFr → Prop} {vo : Option Value} {sr : gS} (hG : gClo E gDf gP18 gY197 none (gC E gDf gMs (d + 6)) (vo, (gSh, sr, u)) G) (l4 : Int32) (σ : gS) {r : (Int32 × gS) ⊕ (gS)} (hP : p_Model_read_253 E l4 σ = some r) (K1 : ∀ (m4 : Int32) (σ1 : gS), r = .inl (m4, σ1) → G (253, [some (.ref 94), none, none, none, some (.int m4), none], [], (gSh, σ1, u))) (K2 : ∀ (σ1 : gS), r = .inr σ1 → G (331, [none, none, none, none, none, none], [], (gSh, σ1, u))) : G (253, [some (.ref 94), none, none, none, some (.int l4), none], [], (gSh, σ, u)) := by
  unfold p_Model_read_253 at hP
  refine gRunN_ok hG.1 3 _ (259, [some (.ref 94), none, none, none, some (.int l4), none], [.int (σ.1 94 32), .int l4], (gSh, σ, u)) rfl ?_
  rcases g_ite hP with ⟨hc, hP⟩ | ⟨hc, hP⟩
  · refine hG.1 _ (331, [some (.ref 94), none, none, none, some (.int l4), none], [], (gSh, σ, u)) _ rfl (if_pos hc) ?_
    refine hG.2.2.2.2.1 _ _ [none, none, none, none, none, none] _ _ trivial ?_
    cases hP
    exact K2 _ rfl
  · refine hG.1 _ (262, [some (.ref 94), none, none, none, some (.int l4), none], [], (gSh, σ, u)) _ rfl (if_neg hc) ?_
    refine gRunN_ok hG.1 2 _ (265, [some (.ref 94), none, none, none, some (.int l4), some (.int 0)], [], (gSh, σ, u)) rfl ?_
    obtain ⟨e38, hq, hP⟩ := g_b1 hP
    refine l_Model_read_265 E d u hG l4 gN 0 σ _ hq (fun s39 he => ?_)
    · replace he := he.symm
      subst he
      try dsimp only [gSum] at hP
      refine gRunN_ok hG.1 1 _ (328, [some (.ref 94), none, none, none, some (.int (l4 + 1)), none], [], (gSh, s39, u)) rfl ?_
      obtain ⟨x40, ex40, hP⟩ := g_let hP
      rw [← ex40]
      refine gRunN_ok hG.1 1 _ (253, [some (.ref 94), none, none, none, some (.int x40), none], [], (gSh, s39, u)) rfl ?_
      cases hP
      exact K1 _ _ rfl
theorem l_Model_read_253 (E : gEv) (d u : Nat) {G : gFr → Prop} {vo : Option Value} {sr : gS} (hG : gClo E gDf gP18 gY197 none (gC E gDf gMs (d + 6)) (vo, (gSh, sr, u)) G) : ∀ (n : Nat) (l4 : Int32) (σ : gS) (e : (gS)), gIter (fun z => p_Model_read_253 E z.1 z.2) n (l4, σ) = some e → (∀ (σ1 : gS), e = σ1 → G (331, [none, none, none, none, none, none], [], (gSh, σ1, u))) → G (253, [some (.ref 94), none, none, none, some (.int l4), none], [], (gSh, σ, u)) := by
  intro n
  induction n with
  | zero => intro l4 σ e h; cases h
  | succ n ih =>
    intro l4 σ e h K2
    rcases g_iter h with ⟨z, h1, h2⟩ | h1
    · exact b_Model_read_253 E d u hG l4 σ h1 (fun n0 n1 hz => by cases hz; exact ih _ _ e h2 K2) (fun _ hz => by cases hz)
    · exact b_Model_read_253 E d u hG l4 σ h1 (fun _ _ hz => by cases hz) (fun σ1 hz => K2 σ1 (by cases hz; rfl))
def p_Model_read_j250 (E : gEv) (σ : gS) : Option (gS) :=
  gB1 (gIter (fun z => p_Model_read_253 E z.1 z.2) gN (0, σ)) fun e41 => (fun s42 => some s42) e41
set_option maxRecDepth 20000 in
theorem j_Model_read_j250 (E : gEv) (d u : Nat) {G : gFr → Prop} {sr : gS} (hG : gClo E gDf gP18 gY197 none (gC E gDf gMs (d + 6)) (none, (gSh, sr, u)) G) (σ : gS) (hP : p_Model_read_j250 E σ = some sr) : G (250, [some (.ref 94), none, none, none, none, none], [], (gSh, σ, u)) := by
  unfold p_Model_read_j250 at hP
  refine gRunN_ok hG.1 2 _ (253, [some (.ref 94), none, none, none, some (.int 0), none], [], (gSh, σ, u)) rfl ?_
  obtain ⟨e41, hq, hP⟩ := g_b1 hP
  refine l_Model_read_253 E d u hG gN 0 σ _ hq (fun s42 he => ?_)
  · replace he := he.symm
    subst he
    try dsimp only [gSum] at hP
    cases hP
    exact hG.2.1 _ _ rfl rfl
def p_Model_read (E : gEv) (σ : gS) : Option (gS) :=
  gLet (gPut σ 94 23 0) fun s1 => gLet (gPut s1 94 29 0) fun s2 => gLet (gPut s2 94 30 0) fun s3 => gLet (gPut s3 94 31 0) fun s4 => gLet (gPut s4 94 32 0) fun s5 => gB1 (gIter (fun z => p_Model_read_31 E z.1 z.2.1 z.2.2.1 z.2.2.2) gN (0, 0, 0, s5)) fun e34 => (fun s35 => p_Model_read_j250 E s35) e34
set_option maxRecDepth 20000 in
theorem c_Model_read (E : gEv) (d u : Nat) (σ : gS) {sr : gS}  (hq : p_Model_read E σ = some sr) : gC E gDf gMs (d + 7) 197 [.ref 94] (gSh, σ, u) (none, (gSh, sr, u)) := ⟨gM197, rfl, Nat.le_of_ble_eq_true rfl, fun G hG => by
  have hP := hq
  unfold p_Model_read at hP
  replace hG : gClo E gDf gP18 gY197 none (gC E gDf gMs (d + 6)) (none, (gSh, sr, u)) G := hG
  show G (0, [some (.ref 94), none, none, none, none, none], [], (gSh, σ, u))
  refine gRunN_ok hG.1 3 _ (5, [some (.ref 94), none, none, none, none, none], [], (gSh, (gPut σ 94 23 0), u)) rfl ?_
  obtain ⟨s1, es1, hP⟩ := g_let hP
  rw [← es1]
  refine gRunN_ok hG.1 3 _ (10, [some (.ref 94), none, none, none, none, none], [], (gSh, (gPut s1 94 29 0), u)) rfl ?_
  obtain ⟨s2, es2, hP⟩ := g_let hP
  rw [← es2]
  refine gRunN_ok hG.1 3 _ (15, [some (.ref 94), none, none, none, none, none], [], (gSh, (gPut s2 94 30 0), u)) rfl ?_
  obtain ⟨s3, es3, hP⟩ := g_let hP
  rw [← es3]
  refine gRunN_ok hG.1 3 _ (20, [some (.ref 94), none, none, none, none, none], [], (gSh, (gPut s3 94 31 0), u)) rfl ?_
  obtain ⟨s4, es4, hP⟩ := g_let hP
  rw [← es4]
  refine gRunN_ok hG.1 3 _ (25, [some (.ref 94), none, none, none, none, none], [], (gSh, (gPut s4 94 32 0), u)) rfl ?_
  obtain ⟨s5, es5, hP⟩ := g_let hP
  rw [← es5]
  refine gRunN_ok hG.1 6 _ (31, [some (.ref 94), some (.int 0), some (.int 0), some (.int 0), none, none], [], (gSh, s5, u)) rfl ?_
  obtain ⟨e34, hq, hP⟩ := g_b1 hP
  refine l_Model_read_31 E d u hG gN 0 0 0 s5 _ hq (fun s35 he => ?_)
  · replace he := he.symm
    subst he
    try dsimp only [gSum] at hP
    exact j_Model_read_j250 E d u hG s35 hP⟩
