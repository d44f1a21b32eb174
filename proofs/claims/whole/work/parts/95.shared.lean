set_option linter.unusedVariables false
-- LJ
section
variable {E : gEv} {c : gCf}
/-- values of a row, counted by places or by values -/
theorem cnb_img {N : Nat} {Q : Nat → Bool} {f : Nat → Int} : ∀ K, (∀ k, k < K → f k = -1 ∨ ∃ n : Nat, f k = n ∧ n < N) → (∀ k k', k < K → k' < K → f k ≠ -1 → f k = f k' → k = k') → cnb (fun n => dcd (∃ k, k < K ∧ f k = (n : Int)) && Q n) N = cnb (fun k => decide (f k ≠ -1) && Q (f k).toNat) K := by
  intro K
  induction K with
  | zero =>
    intro h1 h2
    exact cnb_0 fun i hi => by rw [dcd_f fun ⟨k, q, _⟩ => by omega, Bool.false_and]
  | succ K ih =>
    intro h1 h2
    have ih := ih (fun k hk => h1 k (by omega)) (fun k k' a b => h2 k k' (by omega) (by omega))
    rw [cnb, ← ih]
    rcases h1 K (by omega) with u | ⟨v, u1, u2⟩
    · rw [decide_eq_false (p := f K ≠ -1) (fun w => w u), Bool.false_and, if_neg (by decide), Nat.add_zero]
      refine cnb_c fun n hn => ?_
      show (dcd (∃ k, k < K + 1 ∧ f k = (n : Int)) && Q n) = (dcd (∃ k, k < K ∧ f k = (n : Int)) && Q n)
      congr 1
      by_cases x : ∃ k, k < K ∧ f k = (n : Int)
      · rw [dcd_t x, dcd_t (x.elim fun k w => ⟨k, by omega, w.2⟩)]
      · rw [dcd_f x, dcd_f fun ⟨k, w1, w2⟩ => x ⟨k, by
          by_cases y : k = K
          · rw [y] at w2; omega
          · omega, w2⟩]
    · rw [decide_eq_true (p := f K ≠ -1) (by omega), Bool.true_and, u1, gtN]
      have new : ¬ ∃ k, k < K ∧ f k = (v : Int) := fun ⟨k, w1, w2⟩ => by
        have := h2 k K (by omega) (by omega) (by omega) (by omega)
        omega
      have oth : ∀ n, n ≠ v → dcd (∃ k, k < K + 1 ∧ f k = (n : Int)) = dcd (∃ k, k < K ∧ f k = (n : Int)) := fun n hn => by
        by_cases x : ∃ k, k < K ∧ f k = (n : Int)
        · rw [dcd_t x, dcd_t (x.elim fun k w => ⟨k, by omega, w.2⟩)]
        · rw [dcd_f x, dcd_f fun ⟨k, w1, w2⟩ => x ⟨k, by
            by_cases y : k = K
            · rw [y] at w2; omega
            · omega, w2⟩]
      have at' : dcd (∃ k, k < K + 1 ∧ f k = (v : Int)) = true := dcd_t ⟨K, by omega, u1⟩
      cases g : Q v
      · rw [if_neg (by decide), Nat.add_zero]
        refine cnb_c fun n hn => ?_
        show (dcd (∃ k, k < K + 1 ∧ f k = (n : Int)) && Q n) = (dcd (∃ k, k < K ∧ f k = (n : Int)) && Q n)
        by_cases x : n = v
        · rw [x, g, Bool.and_false, Bool.and_false]
        · rw [oth n x]
      · rw [if_pos rfl]
        refine cnb_add u2 ?_ ?_ fun n hn => ?_
        · show (dcd (∃ k, k < K ∧ f k = (v : Int)) && Q v) = false
          rw [dcd_f new, Bool.false_and]
        · show (dcd (∃ k, k < K + 1 ∧ f k = (v : Int)) && Q v) = true
          rw [at', g]; rfl
        · show (dcd (∃ k, k < K + 1 ∧ f k = (n : Int)) && Q n) = (dcd (∃ k, k < K ∧ f k = (n : Int)) && Q n)
          rw [oth n hn]
section
variable {nU nL nI nO : Nat} {P l o : Nat → Int} {a b : gZ} {q : Nat → Int}
/-- nets that element e shares with cluster g -/
noncomputable def cmN (P l o : Nat → Int) (nU nL nO : Nat) (q : Nat → Int) (C : Nat → Int) (g : Int) (e : Nat) : Nat := cnb (fun n => dcd (TC P l o nU nL nO q e n) && dcd (∃ x, x < eCn P l o nU nL nO nL ∧ C x = g ∧ TC P l o nU nL nO q x n)) (nK P l o nU nL nO (400 + nU))
/-- marks of the class: the last cluster that touches a net -/
def mkC (P l o : Nat → Int) (nU nL nO : Nat) (q : Nat → Int) (G : Nat) (a : gZ) : Prop := ∀ n, n < nK P l o nU nL nO (400 + nU) → a.1 66 n ≤ (G : Int) ∧ (a.1 66 n = (G : Int) ↔ ∃ x, x < eCn P l o nU nL nO nL ∧ a.1 56 x = (G : Int) - 1 ∧ TC P l o nU nL nO q x n)
theorem s_shared (hk : kOk c) (h : PkS c nU nL nI nO P l o) {e G : Nat} (he : e < eCn P l o nU nL nO nL) (hT : TchI P l o nU nL nO q (5 * eCn P l o nU nL nO nL) (a.1 65)) (hM : mkC P l o nU nL nO q G a) (h16 : a.1 53 16 = (G : Int)) : q_Packing_sharedNets E (kL c) (e : Int) a = some ((cmN P l o nU nL nO q (a.1 56) ((G : Int) - 1) e : Nat) : Int) := by
  have hPb := kP_b hk
  have hD := kD_b hk
  have hb := h.1
  have mb := h.2.2.2.2
  have nb := nK_b hk h (400 + nU)
  have vb : ∀ k, k < 5 → a.1 65 (5 * e + k) = -1 ∨ ∃ n : Nat, a.1 65 (5 * e + k) = n ∧ n < nK P l o nU nL nO (400 + nU) := fun k hk' => by
    rcases (hT (5 * e + k) (by omega)).1 with u | u
    · exact Or.inl u
    · rw [u]; exact valT_b hk h _
  have F : gIter (fun y => q_Packing_sharedNets_6 E (kL c) (e : Int) y.1 y.2 a) gN (0, ((5 * e : Nat) : Int)) = some ((cnb (fun k => decide (a.1 65 (5 * e + k) ≠ -1) && dcd (∃ x, x < eCn P l o nU nL nO nL ∧ a.1 56 x = (G : Int) - 1 ∧ TC P l o nU nL nO q x (a.1 65 (5 * e + k)).toNat)) 5 : Nat) : Int) := by
    refine it_acc (fun (i : Nat) (v : Nat) => ((v : Int), ((5 * e + i : Nat) : Int))) (fun i => cnb (fun k => decide (a.1 65 (5 * e + k) ≠ -1) && dcd (∃ x, x < eCn P l o nU nL nO nL ∧ a.1 56 x = (G : Int) - 1 ∧ TC P l o nU nL nO q x (a.1 65 (5 * e + k)).toNat)) i) 0 5 rfl (by omega) (by omega) (fun i _ hi => ?_) ?_
    · have cl := cnb_le (fun k => decide (a.1 65 (5 * e + k) ≠ -1) && dcd (∃ x, x < eCn P l o nU nL nO nL ∧ a.1 56 x = (G : Int) - 1 ∧ TC P l o nU nL nO q x (a.1 65 (5 * e + k)).toNat)) i
      show q_Packing_sharedNets_6 E (kL c) (e : Int) ((cnb (fun k => decide (a.1 65 (5 * e + k) ≠ -1) && dcd (∃ x, x < eCn P l o nU nL nO nL ∧ a.1 56 x = (G : Int) - 1 ∧ TC P l o nU nL nO q x (a.1 65 (5 * e + k)).toNat)) i : Nat) : Int) ((5 * e + i : Nat) : Int) a = some (.inl (((cnb (fun k => decide (a.1 65 (5 * e + k) ≠ -1) && dcd (∃ x, x < eCn P l o nU nL nO nL ∧ a.1 56 x = (G : Int) - 1 ∧ TC P l o nU nL nO q x (a.1 65 (5 * e + k)).toNat)) (i + 1) : Nat) : Int), ((5 * e + (i + 1) : Nat) : Int)))
      rw [cnb]
      generalize cnb (fun k => decide (a.1 65 (5 * e + k) ≠ -1) && dcd (∃ x, x < eCn P l o nU nL nO nL ∧ a.1 56 x = (G : Int) - 1 ∧ TC P l o nU nL nO q x (a.1 65 (5 * e + k)).toNat)) i = cc at *
      unfold q_Packing_sharedNets_6
      rw [if_pos (by omega), if_neg (by omega), kL_65, if_pos (by omega), gtN, show ((5 * e + (i + 1) : Nat) : Int) = ((5 * e + i : Nat) : Int) + 1 by omega]
      rcases vb i hi with u | ⟨n, u1, u2⟩
      · rw [if_pos u, let_s, decide_eq_false (p := a.1 65 (5 * e + i) ≠ -1) (fun w => w u), Bool.false_and, if_neg (by decide), Nat.add_zero]
      · rw [if_neg (by omega), u1, kL_66, if_pos (by omega), gtN, h16, decide_eq_true (by omega), Bool.true_and]
        by_cases y : a.1 66 n = (G : Int)
        · rw [if_pos y, if_pos (by omega), let_s, let_s, dcd_t ((hM n u2).2.1 y), if_pos rfl, show ((cc + 1 : Nat) : Int) = (cc : Int) + 1 by omega]
        · rw [if_neg y, let_s, dcd_f fun z => y ((hM n u2).2.2 z), if_neg (by decide), Nat.add_zero]
    · unfold q_Packing_sharedNets_6
      show (if _ then (if ((e : Int) + 1) * 5 ≤ ((5 * e + 5 : Nat) : Int) then _ else _) else _) = _
      rw [if_pos (by omega), if_pos (by omega)]
  unfold q_Packing_sharedNets
  rw [if_pos (by omega), let_s, show (e : Int) * 5 = ((5 * e : Nat) : Int) by omega, F, b1_s]
  unfold cmN
  rw [← cnb_img (N := nK P l o nU nL nO (400 + nU)) (Q := fun n => dcd (∃ x, x < eCn P l o nU nL nO nL ∧ a.1 56 x = (G : Int) - 1 ∧ TC P l o nU nL nO q x n)) (f := fun k => a.1 65 (5 * e + k)) 5 vb fun k k' w1 w2 w3 w4 => TchI_d he hT w1 w2 w3 w4]
  have : cnb (fun n => dcd (∃ k, k < 5 ∧ a.1 65 (5 * e + k) = (n : Int)) && dcd (∃ x, x < eCn P l o nU nL nO nL ∧ a.1 56 x = (G : Int) - 1 ∧ TC P l o nU nL nO q x n)) (nK P l o nU nL nO (400 + nU)) = cnb (fun n => dcd (TC P l o nU nL nO q e n) && dcd (∃ x, x < eCn P l o nU nL nO nL ∧ a.1 56 x = (G : Int) - 1 ∧ TC P l o nU nL nO q x n)) (nK P l o nU nL nO (400 + nU)) := cnb_c fun n hn => by
    have e1 : dcd (∃ k, k < 5 ∧ a.1 65 (5 * e + k) = (n : Int)) = dcd (TC P l o nU nL nO q e n) := by
      have := TchI_t (n := n) he hT
      by_cases x : TC P l o nU nL nO q e n
      · rw [dcd_t x, dcd_t (this.1 x)]
      · rw [dcd_f x, dcd_f fun y => x (this.2 y)]
    show (dcd (∃ k, k < 5 ∧ a.1 65 (5 * e + k) = (n : Int)) && dcd (∃ x, x < eCn P l o nU nL nO nL ∧ a.1 56 x = (G : Int) - 1 ∧ TC P l o nU nL nO q x n)) = (dcd (TC P l o nU nL nO q e n) && dcd (∃ x, x < eCn P l o nU nL nO nL ∧ a.1 56 x = (G : Int) - 1 ∧ TC P l o nU nL nO q x n))
    rw [e1]
  rw [this]
theorem s_common (hk : kOk c) (h : PkS c nU nL nI nO P l o) {e g : Nat} (he : e < eCn P l o nU nL nO nL) (h55 : b.1 94 55 = (eCn P l o nU nL nO nL : Nat)) (h60 : b.1 94 60 = (nK P l o nU nL nO (400 + nU) : Nat)) (h66 : b.1 94 66 = (g : Int)) (hT : ∀ e n, e < eCn P l o nU nL nO nL → n < nK P l o nU nL nO (400 + nU) → b01 (b.1 135 (400 * e + n)) ∧ (b.1 135 (400 * e + n) = 1 ↔ TC P l o nU nL nO q e n)) : q_Model_common E (kL c) (e : Int) b = some ((cmN P l o nU nL nO q (b.1 133) (g : Int) e : Nat) : Int) := by
  have hPb := kP_b hk
  have hD := kD_b hk
  have hb := h.1
  have mb := h.2.2.2.2
  have nb := nK_b hk h (400 + nU)
  have inn : ∀ n, n < nK P l o nU nL nO (400 + nU) → ∀ l2 : Int, gIter (fun y => q_Model_common_18 E (kL c) (e : Int) l2 (n : Int) y.1 y.2 b) gN (0, 0) = some (dI (TC P l o nU nL nO q e n ∧ ∃ x, x < eCn P l o nU nL nO nL ∧ b.1 133 x = (g : Int) ∧ TC P l o nU nL nO q x n)) := fun n hn l2 => by
    have te := hT e n he hn
    by_cases y : TC P l o nU nL nO q e n
    · have : dI (TC P l o nU nL nO q e n ∧ ∃ x, x < eCn P l o nU nL nO nL ∧ b.1 133 x = (g : Int) ∧ TC P l o nU nL nO q x n) = dI (∃ x, x < eCn P l o nU nL nO nL ∧ b.1 133 x = (g : Int) ∧ TC P l o nU nL nO q x n) := by
        by_cases z : ∃ x, x < eCn P l o nU nL nO nL ∧ b.1 133 x = (g : Int) ∧ TC P l o nU nL nO q x n
        · rw [dI_t z, dI_t ⟨y, z⟩]
        · rw [dI_f z, dI_f fun w => z w.2]
      rw [this]
      refine it_acc (fun (i : Nat) (v : Int) => (v, (i : Int))) (fun i => dI (∃ x, x < i ∧ b.1 133 x = (g : Int) ∧ TC P l o nU nL nO q x n)) 0 (eCn P l o nU nL nO nL) ?_ (by omega) (by omega) (fun i _ hi => ?_) ?_
      · show ((0 : Int), (0 : Int)) = (dI (∃ x, x < 0 ∧ b.1 133 x = (g : Int) ∧ TC P l o nU nL nO q x n), ((0 : Nat) : Int))
        rw [dI_f fun ⟨x, w, _⟩ => by omega]; rfl
      · show q_Model_common_18 E (kL c) (e : Int) l2 (n : Int) (dI (∃ x, x < i ∧ b.1 133 x = (g : Int) ∧ TC P l o nU nL nO q x n)) (i : Int) b = some (.inl (dI (∃ x, x < i + 1 ∧ b.1 133 x = (g : Int) ∧ TC P l o nU nL nO q x n), ((i + 1 : Nat) : Int)))
        have ti := hT i n hi hn
        unfold q_Model_common_18
        rw [h55, if_neg (by omega), kL_135, show (400 * (e : Int) + (n : Int)) = ((400 * e + n : Nat) : Int) by omega, if_pos (by omega), gtN, te.2.2 y, if_neg (by decide)]
        by_cases z : ∃ x, x < i ∧ b.1 133 x = (g : Int) ∧ TC P l o nU nL nO q x n
        · rw [dI_t z, if_neg (by decide), let_s, dI_t (z.elim fun x w => ⟨x, by omega, w.2⟩)]; rfl
        · have up : (∃ x, x < i + 1 ∧ b.1 133 x = (g : Int) ∧ TC P l o nU nL nO q x n) → b.1 133 i = (g : Int) ∧ TC P l o nU nL nO q i n := fun ⟨x, w1, w2⟩ => by
            by_cases v : x = i
            · rw [v] at w2; exact w2
            · exact absurd ⟨x, by omega, w2⟩ z
          rw [dI_f z, if_pos rfl, kL_133, if_pos (by omega), gtN, h66]
          by_cases w : b.1 133 i = (g : Int)
          · rw [if_pos w, show (400 * (i : Int) + (n : Int)) = ((400 * i + n : Nat) : Int) by omega, if_pos (by omega), gtN]
            by_cases v : TC P l o nU nL nO q i n
            · rw [ti.2.2 v, if_neg (by decide), let_s, dI_t ⟨i, by omega, w, v⟩]; rfl
            · have v0 : b.1 135 (400 * i + n) = 0 := by
                rcases ti.1 with r | r
                · exact r
                · exact absurd (ti.2.1 r) v
              rw [v0, if_pos rfl, let_s, dI_f fun r => v (up r).2]; rfl
          · rw [if_neg w, let_s, dI_f fun r => w (up r).1]; rfl
      · show q_Model_common_18 E (kL c) (e : Int) l2 (n : Int) (dI (∃ x, x < eCn P l o nU nL nO nL ∧ b.1 133 x = (g : Int) ∧ TC P l o nU nL nO q x n)) ((eCn P l o nU nL nO nL : Nat) : Int) b = _
        unfold q_Model_common_18
        rw [h55, if_pos (by omega)]
    · have v0 : b.1 135 (400 * e + n) = 0 := by
        rcases te.1 with r | r
        · exact r
        · exact absurd (te.2.1 r) y
      rw [dI_f fun w => y w.1]
      have gn : gN = (gN - 1) + 1 := by unfold gN; omega
      rw [gn]
      refine it_end ?_
      show q_Model_common_18 E (kL c) (e : Int) l2 (n : Int) 0 0 b = _
      unfold q_Model_common_18
      rw [h55, if_neg (by omega), kL_135, show (400 * (e : Int) + (n : Int)) = ((400 * e + n : Nat) : Int) by omega, if_pos (by omega), gtN, v0, if_pos rfl]
  have F : gIter (fun y => q_Model_common_4 E (kL c) (e : Int) y.1 y.2 b) gN (0, 0) = some ((cmN P l o nU nL nO q (b.1 133) (g : Int) e : Nat) : Int) := by
    unfold cmN
    refine it_acc (fun (i : Nat) (v : Nat) => ((v : Int), (i : Int))) (fun i => cnb (fun n => dcd (TC P l o nU nL nO q e n) && dcd (∃ x, x < eCn P l o nU nL nO nL ∧ b.1 133 x = (g : Int) ∧ TC P l o nU nL nO q x n)) i) 0 (nK P l o nU nL nO (400 + nU)) rfl (by omega) (by omega) (fun i _ hi => ?_) ?_
    · have cl := cnb_le (fun n => dcd (TC P l o nU nL nO q e n) && dcd (∃ x, x < eCn P l o nU nL nO nL ∧ b.1 133 x = (g : Int) ∧ TC P l o nU nL nO q x n)) i
      show q_Model_common_4 E (kL c) (e : Int) ((cnb (fun n => dcd (TC P l o nU nL nO q e n) && dcd (∃ x, x < eCn P l o nU nL nO nL ∧ b.1 133 x = (g : Int) ∧ TC P l o nU nL nO q x n)) i : Nat) : Int) (i : Int) b = some (.inl (((cnb (fun n => dcd (TC P l o nU nL nO q e n) && dcd (∃ x, x < eCn P l o nU nL nO nL ∧ b.1 133 x = (g : Int) ∧ TC P l o nU nL nO q x n)) (i + 1) : Nat) : Int), ((i + 1 : Nat) : Int)))
      rw [cnb]
      generalize cnb (fun n => dcd (TC P l o nU nL nO q e n) && dcd (∃ x, x < eCn P l o nU nL nO nL ∧ b.1 133 x = (g : Int) ∧ TC P l o nU nL nO q x n)) i = cc at *
      unfold q_Model_common_4
      rw [h60, if_neg (by omega), inn i hi, b1_s]
      unfold q_Model_common_j90_4
      by_cases y : TC P l o nU nL nO q e i
      · by_cases z : ∃ x, x < eCn P l o nU nL nO nL ∧ b.1 133 x = (g : Int) ∧ TC P l o nU nL nO q x i
        · rw [dI_t ⟨y, z⟩, if_neg (by decide), if_pos (by omega), let_s, if_pos (by omega), let_s, dcd_t y, dcd_t z, Bool.and_true, if_pos rfl]; rfl
        · rw [dI_f fun w => z w.2, if_pos rfl, if_pos (by omega), let_s, if_pos (by omega), let_s, dcd_f z, Bool.and_false, if_neg (by decide), Nat.add_zero, Int.add_zero]; rfl
      · rw [dI_f fun w => y w.1, if_pos rfl, if_pos (by omega), let_s, if_pos (by omega), let_s, dcd_f y, Bool.false_and, if_neg (by decide), Nat.add_zero, Int.add_zero]; rfl
    · show q_Model_common_4 E (kL c) (e : Int) _ ((nK P l o nU nL nO (400 + nU) : Nat) : Int) b = _
      unfold q_Model_common_4
      rw [h60, if_pos (by omega)]
  unfold q_Model_common
  rw [F, b1_s]
end
end
