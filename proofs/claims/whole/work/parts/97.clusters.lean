set_option linter.unusedVariables false
-- LL
section
variable {E : gEv} {c : gCf}
def pKc (k j : Nat) : Prop := k = 56 ∨ k = 57 ∨ k = 66 ∨ (k = 53 ∧ j = 16)
def pKm (k j : Nat) : Prop := k = 133 ∨ k = 134 ∨ (k = 94 ∧ j = 66)
/-- clusters below g are full, cluster g has k elements -/
def CSr (c : gCf) (P l o : Nat → Int) (nU nL nO : Nat) (q : Nat → Int) (g k n f : Nat) (a0 b0 a b : gZ) : Prop := (zOff pKc a0 a ∧ zOff pKm b0 b) ∧ (f ≤ eCn P l o nU nL nO nL ∧ ∀ e, e < f → a.1 56 e ≠ -1) ∧ (∀ e, e < eCn P l o nU nL nO nL → a.1 56 e = b.1 133 e ∧ (a.1 56 e ≠ -1 → a.1 57 e = b.1 134 e)) ∧ (a.1 53 16 = ((if k = 0 then g else g + 1 : Nat) : Int) ∧ (∀ x, x < nK P l o nU nL nO (400 + nU) → a.1 66 x ≤ ((if k = 0 then g else g + 1 : Nat) : Int)) ∧ (k ≠ 0 → mkC P l o nU nL nO q (g + 1) a)) ∧ cnb (fun e => decide (a.1 56 e ≠ -1)) (eCn P l o nU nL nO nL) = n ∧ (∀ e, e < eCn P l o nU nL nO nL → a.1 56 e = -1 ∨ ∃ g' k' : Nat, a.1 56 e = g' ∧ a.1 57 e = k' ∧ k' < kE c ∧ (g' < g ∨ (g' = g ∧ k' < k))) ∧ (∀ e e', e < eCn P l o nU nL nO nL → e' < eCn P l o nU nL nO nL → a.1 56 e ≠ -1 → a.1 56 e = a.1 56 e' → a.1 57 e = a.1 57 e' → e = e') ∧ n = kE c * g + k ∧ b.1 94 66 = (g : Int)
section
variable {nU nL nI nO : Nat} {P l o : Nat → Int} {a0 b0 a b : gZ} {q : Nat → Int}
theorem cnb_all {p : Nat → Bool} {n : Nat} (h : ∀ i, i < n → p i = true) : cnb p n = n := by
  induction n with
  | zero => rfl
  | succ n ih => rw [cnb, ih fun i hi => h i (by omega), h n (by omega), if_pos rfl]
theorem CSr_ex {g k n f : Nat} (h : CSr c P l o nU nL nO q g k n f a0 b0 a b) (hn : n < eCn P l o nU nL nO nL) : ∃ e, e < eCn P l o nU nL nO nL ∧ a.1 56 e = -1 := by
  refine Classical.byContradiction fun x => ?_
  have := cnb_all (p := fun e => decide (a.1 56 e ≠ -1)) (n := eCn P l o nU nL nO nL) fun e he => decide_eq_true fun y => x ⟨e, he, y⟩
  have := h.2.2.2.2.1
  omega
/-- one element more, on both sides -/
theorem s_clStep (hk : kOk c) (h : PkS c nU nL nI nO P l o) (h15 : a0.1 53 15 = (eCn P l o nU nL nO nL : Nat)) (h12 : a0.1 1 2 = kE c) (hT : TchI P l o nU nL nO q (5 * eCn P l o nU nL nO nL) (a0.1 65)) (h55 : b0.1 94 55 = (eCn P l o nU nL nO nL : Nat)) (h2 : b0.1 94 2 = kE c) (h60 : b0.1 94 60 = (nK P l o nU nL nO (400 + nU) : Nat)) (hTm : ∀ e n, e < eCn P l o nU nL nO nL → n < nK P l o nU nL nO (400 + nU) → b01 (b0.1 135 (400 * e + n)) ∧ (b0.1 135 (400 * e + n) = 1 ↔ TC P l o nU nL nO q e n)) {g k n f : Nat} (S : CSr c P l o nU nL nO q g k n f a0 b0 a b) (hkK : k < kE c) (hn : n < eCn P l o nU nL nO nL) : ∃ (f' : Nat) (a' b' : gZ), q_Packing_setClusters_25 E (kL c) (f : Int) (n : Int) a = some (.inl ((f' : Int), (n : Int) + 1, a')) ∧ q_Model_makeClusters_39 E (kL c) ((eCn P l o nU nL nO nL : Int) - (n : Int)) (k : Int) b = some (.inl ((eCn P l o nU nL nO nL : Int) - ((n : Int) + 1), (k : Int) + 1, b')) ∧ CSr c P l o nU nL nO q g (k + 1) (n + 1) f' a0 b0 a' b' := by
  have hPb := kP_b hk
  have hK : 1 ≤ kE c ∧ kE c ≤ 4 := hk.2.2.1
  have mb := h.2.2.2.2
  have ex := CSr_ex S hn
  obtain ⟨⟨oa, ob⟩, ⟨f1, f2⟩, sm, ⟨c16, ml, mk⟩, cnt, asg, inj, hn', c66⟩ := S
  have gb : g ≤ n := by rw [hn']; have := Nat.le_mul_of_pos_left g (show 0 < kE c by omega); omega
  -- the class's first free element
  obtain ⟨f', q1, q2, q3, q4⟩ : ∃ f', f' < eCn P l o nU nL nO nL ∧ a.1 56 f' = -1 ∧ (∀ e, e < f' → a.1 56 e ≠ -1) ∧ gIter (fun y => q_Packing_setClusters_33 E (kL c) (n : Int) y a) gN (f : Int) = some (f' : Int) := by
    have e15 : a.1 53 15 = (eCn P l o nU nL nO nL : Nat) := by rw [oa.2 53 15 (by unfold pKc; omega)]; exact h15
    have F := it_find (f := fun y => q_Packing_setClusters_33 E (kL c) (n : Int) y a) (fun e => a.1 56 e = -1) (fun e => (e : Int)) f (eCn P l o nU nL nO nL) (e := ((eCn P l o nU nL nO nL : Nat) : Int)) (s := (f : Int)) rfl f1 (by omega) (fun e _ he hp => by
        show q_Packing_setClusters_33 E (kL c) (n : Int) (e : Int) a = _
        unfold q_Packing_setClusters_33
        rw [e15, if_neg (by omega), kL_56, if_pos (by omega), gtN, if_neg hp, let_s]) (fun e _ he hp => by
        show q_Packing_setClusters_33 E (kL c) (n : Int) (e : Int) a = _
        unfold q_Packing_setClusters_33
        rw [e15, if_neg (by omega), kL_56, if_pos (by omega), gtN, if_pos hp]) (by
        show q_Packing_setClusters_33 E (kL c) (n : Int) ((eCn P l o nU nL nO nL : Nat) : Int) a = _
        unfold q_Packing_setClusters_33
        rw [e15, if_pos (by omega)])
    rcases F with ⟨e, e1, e2, e3, e4, e5⟩ | ⟨j1, j2⟩
    · refine ⟨e, e2, e3, fun e' he' => ?_, e5⟩
      by_cases x : e' < f
      · exact f2 e' x
      · exact e4 e' (by omega) he'
    · obtain ⟨e, e1, e2⟩ := ex
      by_cases x : e < f
      · exact absurd e2 (f2 e x)
      · exact absurd e2 (j1 e (by omega) e1)
  have e15 : a.1 53 15 = (eCn P l o nU nL nO nL : Nat) := by rw [oa.2 53 15 (by unfold pKc; omega)]; exact h15
  have e12 : a.1 1 2 = kE c := by rw [oa.2 1 2 (by unfold pKc; omega)]; exact h12
  have e55 : b.1 94 55 = (eCn P l o nU nL nO nL : Nat) := by rw [ob.2 94 55 (by unfold pKm; omega)]; exact h55
  have e60 : b.1 94 60 = (nK P l o nU nL nO (400 + nU) : Nat) := by rw [ob.2 94 60 (by unfold pKm; omega)]; exact h60
  have eT : ∀ e n, e < eCn P l o nU nL nO nL → n < nK P l o nU nL nO (400 + nU) → b01 (b.1 135 (400 * e + n)) ∧ (b.1 135 (400 * e + n) = 1 ↔ TC P l o nU nL nO q e n) := fun e n he hn => by
    rw [ob.2 135 _ (by unfold pKm; omega)]; exact hTm e n he hn
  have rem : zRem (n : Int) (kE c : Int) = (k : Int) := by
    rw [zRem_n n (kE c) (by omega) (by omega), hn', Nat.mul_add_mod, Nat.mod_eq_of_lt hkK]
  -- the state in which the element is looked for
  obtain ⟨a1, oa1, d16, d56, d57, dM, dC⟩ : ∃ a1, zOff (fun k j => k = 53 ∧ j = 16) a a1 ∧ a1.1 53 16 = ((g + 1 : Nat) : Int) ∧ (∀ e, a1.1 56 e = a.1 56 e) ∧ (∀ e, a1.1 57 e = a.1 57 e) ∧ mkC P l o nU nL nO q (g + 1) a1 ∧ q_Packing_setClusters_j57_25 E (kL c) (f' : Int) (n : Int) a = q_Packing_setClusters_j81_25 E (kL c) (f' : Int) (n : Int) (k : Int) a1 := by
    by_cases k0 : k = 0
    · rw [if_pos k0] at c16 ml
      refine ⟨zPut a 53 16 ((g : Int) + 1), off_put ⟨rfl, rfl⟩, by rw [zp_eq]; omega, fun e => zp_n (by omega), fun e => zp_n (by omega), fun x hx => ?_, ?_⟩
      · have m1 := ml x hx
        rw [zp_n (k' := 66) (by omega)]
        refine ⟨by omega, ⟨fun w => by omega, fun ⟨y, y1, y2, y3⟩ => ?_⟩⟩
        rw [zp_n (k' := 56) (by omega)] at y2
        rcases asg y y1 with u | ⟨g', k', u1, u2, u3, u4⟩
        · omega
        · omega
      · unfold q_Packing_setClusters_j57_25
        rw [e12, if_pos (by omega), let_s, rem, if_pos (by omega), c16, if_pos (by omega), let_s]
    · rw [if_neg k0] at c16
      refine ⟨a, off_r, c16, fun e => rfl, fun e => rfl, mk k0, ?_⟩
      unfold q_Packing_setClusters_j57_25
      rw [e12, if_pos (by omega), let_s, rem, if_neg (by omega)]
  have e15' : a1.1 53 15 = (eCn P l o nU nL nO nL : Nat) := by rw [oa1.2 53 15 (by omega)]; exact e15
  have eT' : TchI P l o nU nL nO q (5 * eCn P l o nU nL nO nL) (a1.1 65) := by
    have : a1.1 65 = a0.1 65 := funext fun j => by rw [oa1.2 65 j (by omega), oa.2 65 j (by unfold pKc; omega)]
    rw [this]; exact hT
  have r56 : a1.1 56 = a.1 56 := funext d56
  -- the best element
  obtain ⟨x, x1, x2, x3, x4⟩ : ∃ x : Nat, x < eCn P l o nU nL nO nL ∧ a.1 56 x = -1 ∧ (if k = 0 then some (f' : Int) else q_Packing_closest E (kL c) (f' : Int) a1) = some (x : Int) ∧ gIter (fun y => q_Model_makeClusters_59 E (kL c) ((eCn P l o nU nL nO nL : Int) - (n : Int)) (k : Int) y.1 y.2.1 y.2.2 b) gN ((-1), (-1), 0) = some (x : Int) := by
    have bm := s_bestM (E := E) (q := q) (l1 := (eCn P l o nU nL nO nL : Int) - (n : Int)) (many := k) hk h e55 e60 c66 eT
    rw [bm]
    by_cases k0 : k = 0
    · refine ⟨f', q1, q2, by rw [if_pos k0], ?_⟩
      have e1 : bF (b.1 133) (fun e => if k = 0 then 0 else cmN P l o nU nL nO q (b.1 133) (g : Int) e) (eCn P l o nU nL nO nL) = bF (a.1 56) (fun _ => 0) (eCn P l o nU nL nO nL) := bF_c _ fun e he => ⟨(sm e he).1.symm, if_pos k0⟩
      have := bF_f q3 q2 (eCn P l o nU nL nO nL - (f' + 1))
      rw [show f' + 1 + (eCn P l o nU nL nO nL - (f' + 1)) = eCn P l o nU nL nO nL by omega] at this
      rw [e1, this]
    · have cl := s_closest (E := E) (q := q) (f := f') (G := g + 1) hk h (by omega) (fun e he => by rw [d56]; exact q3 e he) e15' eT' dM d16
      have e1 : bF (b.1 133) (fun e => if k = 0 then 0 else cmN P l o nU nL nO q (b.1 133) (g : Int) e) (eCn P l o nU nL nO nL) = bF (a1.1 56) (cmN P l o nU nL nO q (a1.1 56) (((g + 1 : Nat) : Int) - 1)) (eCn P l o nU nL nO nL) := bF_c _ fun e he => ⟨by rw [d56]; exact (sm e he).1.symm, by
        rw [if_neg k0, show ((g + 1 : Nat) : Int) - 1 = (g : Int) by omega]
        exact cmN_c fun y hy => by rw [d56]; exact (sm y hy).1.symm⟩
      rw [if_neg k0, cl, e1]
      rcases bF_ok (C := a1.1 56) (h := cmN P l o nU nL nO q (a1.1 56) (((g + 1 : Nat) : Int) - 1)) (eCn P l o nU nL nO nL) with ⟨-, u⟩ | ⟨e, w1, w2, w3, -⟩
      · exact absurd (by rw [d56]; exact q2) (u f' q1)
      · exact ⟨e, w1, by rw [← d56]; exact w2, by rw [w3], by rw [w3]⟩
  obtain ⟨a2, j1, o2, j56, j57, j66⟩ := s_join (E := E) (q := q) (a := a1) (e := x) (k := k) (G := g + 1) hk h x1 e15' eT' d16 (by omega)
  have oaa : zOff pKc a a2 := off_t (off_w oa1 fun k j x => by unfold pKc; omega) (off_w o2 fun k j x => by unfold pKc; omega)
  have c56 : ∀ e, a2.1 56 e = if e = x then (g : Int) else a.1 56 e := fun e => by
    by_cases y : e = x
    · rw [if_pos y, y, j56]; omega
    · rw [if_neg y, o2.2 56 e (by omega), d56]
  have c57 : ∀ e, a2.1 57 e = if e = x then (k : Int) else a.1 57 e := fun e => by
    by_cases y : e = x
    · rw [if_pos y, y, j57]
    · rw [if_neg y, o2.2 57 e (by omega), d57]
  refine ⟨f', a2, zPut (zPut b 133 x (g : Int)) 134 x (k : Int), ?_, ?_, ⟨off_t oa oaa, off_t ob (off_t (off_put (by unfold pKm; omega)) (off_put (by unfold pKm; omega)))⟩, ⟨by omega, fun e he => ?_⟩, fun e he => ?_, ⟨?_, fun y hy => ?_, fun _ => ?_⟩, ?_, fun e he => ?_, fun e e' he he' w1 w2 w3 => ?_, by omega, ?_⟩
  · unfold q_Packing_setClusters_25
    rw [e15, if_neg (by omega), q4, b1_s, dC]
    unfold q_Packing_setClusters_j81_25 q_Packing_setClusters_j95_25
    by_cases k0 : k = 0
    · rw [if_pos k0] at x3
      have x3 : (f' : Int) = (x : Int) := Option.some.inj x3
      rw [if_pos (by omega)]
      rw [show q_Packing_join E (kL c) (f' : Int) (k : Int) a1 = some a2 by rw [x3]; exact j1, b1_s, if_pos (by omega), let_s]
    · rw [if_neg k0] at x3
      rw [if_neg (by omega), x3, b1_s, j1, b1_s, if_pos (by omega), let_s]
  · unfold q_Model_makeClusters_39
    rw [ob.2 94 2 (by unfold pKm; omega), h2, if_neg (by omega), if_neg (by omega), x4, b1_s, kL_133, if_pos (by omega), let_s, kL_134, if_pos (by omega), let_s, let_s, if_pos (by omega), let_s, gtN, c66]
    rw [show (eCn P l o nU nL nO nL : Int) - (n : Int) + -1 = (eCn P l o nU nL nO nL : Int) - ((n : Int) + 1) by omega]
  · rw [c56]
    by_cases y : e = x
    · rw [if_pos y]; omega
    · rw [if_neg y]; exact q3 e he
  · rw [c56, c57, zp_n (k' := 133) (by omega), zp1, if_pos rfl, zp1, if_pos rfl, zp_n (k' := 134) (by omega)]
    by_cases y : e = x
    · rw [if_pos y, if_pos y, if_pos y, if_pos y]; exact ⟨rfl, fun _ => rfl⟩
    · rw [if_neg y, if_neg y, if_neg y, if_neg y]; exact sm e he
  · rw [o2.2 53 16 (by omega), d16, if_neg (by omega)]
  · rw [if_neg (by omega)]
    obtain ⟨u1, u2⟩ := j66 y hy
    by_cases t : TC P l o nU nL nO q x y
    · rw [u1 t]; exact Int.le_refl _
    · rw [u2 t]; exact (dM y hy).1
  · intro y hy
    obtain ⟨m1, m2⟩ := dM y hy
    obtain ⟨u1, u2⟩ := j66 y hy
    by_cases t : TC P l o nU nL nO q x y
    · rw [u1 t]
      exact ⟨Int.le_refl _, ⟨fun _ => ⟨x, x1, by rw [c56, if_pos rfl]; omega, t⟩, fun _ => rfl⟩⟩
    · rw [u2 t]
      refine ⟨m1, m2.trans ⟨fun ⟨z, z1, z2, z3⟩ => ⟨z, z1, ?_, z3⟩, fun ⟨z, z1, z2, z3⟩ => ⟨z, z1, ?_, z3⟩⟩⟩
      · have ne : z ≠ x := fun w => t (by rw [← w]; exact z3)
        rw [c56, if_neg ne, ← d56]; exact z2
      · have ne : z ≠ x := fun w => t (by rw [← w]; exact z3)
        rw [c56, if_neg ne] at z2
        rw [d56]; exact z2
  · rw [← cnt]
    refine cnb_add x1 (decide_eq_false fun w => w x2) (decide_eq_true (by rw [c56, if_pos rfl]; omega)) fun e he => ?_
    show decide (a2.1 56 e ≠ -1) = decide (a.1 56 e ≠ -1)
    rw [c56, if_neg he]
  · rw [c56, c57]
    by_cases y : e = x
    · rw [if_pos y, if_pos y]
      exact Or.inr ⟨g, k, rfl, rfl, hkK, Or.inr ⟨rfl, by omega⟩⟩
    · rw [if_neg y, if_neg y]
      rcases asg e he with u | ⟨g', k', u1, u2, u3, u4⟩
      · exact Or.inl u
      · exact Or.inr ⟨g', k', u1, u2, u3, by omega⟩
  · rw [c56] at w1
    rw [c56, c56] at w2
    rw [c57, c57] at w3
    by_cases y : e = x
    · by_cases y' : e' = x
      · rw [y, y']
      · rw [if_pos y, if_neg y'] at w2 w3
        rcases asg e' he' with u | ⟨g', k', u1, u2, u3, u4⟩
        · omega
        · omega
    · by_cases y' : e' = x
      · rw [if_neg y, if_pos y'] at w2 w3
        rcases asg e he with u | ⟨g', k', u1, u2, u3, u4⟩
        · omega
        · omega
      · rw [if_neg y, if_neg y'] at w2 w3
        rw [if_neg y] at w1
        exact inj e e' he he' w1 w2 w3
  · rw [zp_n (by omega), zp_n (by omega)]; exact c66
end
end
