set_option linter.unusedVariables false
-- LU
section
variable {E : gEv} {c : gCf}
def pOk (k j : Nat) : Prop := pEm k j ∨ k = 136 ∨ k = 137 ∨ k = 160 ∨ k = 161
/-- the reference's end, with no fault -/
theorem s_tailK (hk : kOk c) {nC nI nO nL : Nat} {b : gZ} (h17 : b.1 94 17 = 0) (h66 : b.1 94 66 = nC) (h29 : b.1 94 29 = nI) (h30 : b.1 94 30 = nO) (h31 : b.1 94 31 = nL) (h4 : b.1 94 4 = kN c) (h6 : b.1 94 6 = kD c) (hC : nC ≤ kN c) (hI : nI + nO ≤ kD c) (hL : nL ≤ 150) (h108 : ∀ j, j < nL → b01 (b.1 108 j)) : zOk (q_Model_compile_j83 E (kL c) b) (fun s => s.1 = 0 ∧ zOff pOk b s.2 ∧ (s.2.1 94 16 = 0 ∧ s.2.1 94 77 = 0 ∧ s.2.1 94 106 = 1 ∧ s.2.1 94 105 = 0) ∧ (∀ i, i < 48 → s.2.1 160 i = 0) ∧ (∀ j, j < nL → s.2.1 161 j = b.1 108 j) ∧ ∀ y : Nat → Int, (∀ q, q < kN c + kD c → y q = pY c nC nI nO q) → PM c y s.2) := by
  unfold q_Model_compile_j83 q_Model_compile_j106
  rw [let_s, let_s, zp_n (by omega), zp_n (by omega), h17, if_pos rfl, if_pos (Or.inr rfl), let_s, let_s]
  rw [zp_n (k' := 94) (j' := 106) (by omega), zp_eq, if_neg (by omega)]
  generalize hb1 : zPut (zPut (zPut (zPut b 94 16 0) 94 77 0) 94 106 1) 94 105 0 = b1
  have o1 : zOff pEm b b1 := by
    rw [← hb1]
    exact off_t (off_put (by unfold pEm; omega)) (off_t (off_put (by unfold pEm; omega)) (off_t (off_put (by unfold pEm; omega)) (off_put (by unfold pEm; omega))))
  have e16 : b1.1 94 16 = 0 := by rw [← hb1, zp_n (by omega), zp_n (by omega), zp_n (by omega), zp_eq]
  have e77 : b1.1 94 77 = 0 := by rw [← hb1, zp_n (by omega), zp_n (by omega), zp_eq]
  have e106 : b1.1 94 106 = 1 := by rw [← hb1, zp_n (by omega), zp_eq]
  have e105 : b1.1 94 105 = 0 := by rw [← hb1, zp_eq]
  obtain ⟨b2, p2, o2, pm⟩ := s_placeM (E := E) (b := b1) hk (by rw [o1.2 94 66 (by unfold pEm; omega)]; exact h66) (by rw [o1.2 94 29 (by unfold pEm; omega)]; exact h29) (by rw [o1.2 94 30 (by unfold pEm; omega)]; exact h30) (by rw [o1.2 94 4 (by unfold pEm; omega)]; exact h4) (by rw [o1.2 94 6 (by unfold pEm; omega)]; exact h6) hC hI
  rw [p2, b1_s]
  have L1 : zOk (gIter (fun y => q_Model_compile_127 E (kL c) y.1 y.2) gN (0, b2)) (fun s => zOff (fun k j => k = 160) b2 s ∧ ∀ i, i < 48 → s.1 160 i = 0) := by
    refine it_for (fun (i : Nat) (t : gZ) => ((i : Int), t)) (fun i t => zOff (fun k j => k = 160) b2 t ∧ ∀ n, n < i → t.1 160 n = 0) 0 48 rfl ⟨off_r, fun e he => by omega⟩ (by omega) (by omega) ?_ ?_
    · rintro i t - hi ⟨t1, t2⟩
      show zOk (q_Model_compile_127 E (kL c) (i : Int) t) _
      unfold q_Model_compile_127
      rw [if_neg (by omega), kL_160, if_pos (by omega), ok_l, ok_l, gtN, show zBool 0 = 0 from rfl]
      refine ok_inl (Or.inl ⟨_, by rw [show ((i + 1 : Nat) : Int) = (i : Int) + 1 by omega], off_t t1 (off_put rfl), fun n hn => ?_⟩)
      rw [zp1, if_pos rfl]
      by_cases y : n = i
      · rw [if_pos y]
      · rw [if_neg y]; exact t2 n (by omega)
    · rintro t ht
      show zOk (q_Model_compile_127 E (kL c) ((48 : Nat) : Int) t) _
      unfold q_Model_compile_127
      rw [if_pos (by omega)]
      exact ok_inr ⟨t, rfl, ht⟩
  obtain ⟨b3, p3, o3, z3⟩ := L1
  rw [p3, b1_s]
  have f31 : b3.1 94 31 = nL := by rw [o3.2 94 31 (by omega), o2.2 94 31 (by omega), o1.2 94 31 (by unfold pEm; omega)]; exact h31
  have f108 : ∀ j, b3.1 108 j = b.1 108 j := fun j => by rw [o3.2 108 j (by omega), o2.2 108 j (by omega), o1.2 108 j (by unfold pEm; omega)]
  have L2 : zOk (gIter (fun y => q_Model_compile_148 E (kL c) y.1 y.2) gN (0, b3)) (fun s => zOff (fun k j => k = 161) b3 s ∧ ∀ j, j < nL → s.1 161 j = b.1 108 j) := by
    refine it_for (fun (i : Nat) (t : gZ) => ((i : Int), t)) (fun i t => zOff (fun k j => k = 161) b3 t ∧ ∀ n, n < i → t.1 161 n = b.1 108 n) 0 nL rfl ⟨off_r, fun e he => by omega⟩ (by omega) (by omega) ?_ ?_
    · rintro i t - hi ⟨t1, t2⟩
      have fin : ∀ v : Int, zBool v = b.1 108 i → zOk (q_Model_compile_j176_148 E (kL c) (i : Int) (i : Int) v t) (fun y => (∃ s, y = .inl (((i + 1 : Nat) : Int), s) ∧ zOff (fun k j => k = 161) b3 s ∧ ∀ n, n < i + 1 → s.1 161 n = b.1 108 n) ∨ ∃ e : gZ, y = .inr e ∧ (zOff (fun k j => k = 161) b3 e ∧ ∀ j, j < nL → e.1 161 j = b.1 108 j)) := fun v hv => by
        unfold q_Model_compile_j176_148
        rw [kL_161, if_pos (by omega), ok_l, if_pos (by omega), ok_l, gtN, hv]
        refine ok_inl (Or.inl ⟨_, by rw [show ((i + 1 : Nat) : Int) = (i : Int) + 1 by omega], off_t t1 (off_put rfl), fun n hn => ?_⟩)
        rw [zp1, if_pos rfl]
        by_cases y : n = i
        · rw [if_pos y, y]
        · rw [if_neg y]; exact t2 n (by omega)
      show zOk (q_Model_compile_148 E (kL c) (i : Int) t) _
      unfold q_Model_compile_148
      rw [t1.2 94 31 (by omega), f31, if_neg (by omega), kL_108, if_pos (by omega), gtN, t1.2 108 i (by omega), f108]
      rcases h108 i hi with x | x
      · rw [if_neg (by omega)]; exact fin 0 (by rw [x]; rfl)
      · rw [if_pos x]; exact fin 1 (by rw [x]; rfl)
    · rintro t ht
      show zOk (q_Model_compile_148 E (kL c) (nL : Int) t) _
      unfold q_Model_compile_148
      rw [ht.1.2 94 31 (by omega), f31, if_pos (by omega)]
      exact ok_inr ⟨t, rfl, ht⟩
  obtain ⟨b4, p4, o4, z4⟩ := L2
  rw [p4, b1_s]
  have f : ∀ k j, k ≠ 160 → k ≠ 161 → b4.1 k j = b2.1 k j := fun k j x y => by rw [o4.2 k j y, o3.2 k j x]
  have f94 : ∀ j, b4.1 94 j = b1.1 94 j := fun j => by rw [f 94 j (by omega) (by omega), o2.2 94 j (by omega)]
  refine ⟨_, rfl, ?_, off_t (off_w o1 fun k j x => Or.inl x) (off_t (off_w o2 fun k j x => by unfold pOk; omega) (off_t (off_w o3 fun k j x => by unfold pOk; omega) (off_w o4 fun k j x => by unfold pOk; omega))), ⟨?_, ?_, ?_, ?_⟩, fun i hi => ?_, z4, fun y hy => ?_⟩
  · show b4.1 94 17 = 0
    rw [f94, o1.2 94 17 (by unfold pEm; omega)]; exact h17
  · show b4.1 94 16 = 0
    rw [f94]; exact e16
  · show b4.1 94 77 = 0
    rw [f94]; exact e77
  · show b4.1 94 106 = 1
    rw [f94]; exact e106
  · show b4.1 94 105 = 0
    rw [f94]; exact e105
  · show b4.1 160 i = 0
    rw [o4.2 160 i (by omega)]; exact z3 i hi
  · have := pm y hy
    exact ⟨fun t ht => by show b4.1 136 t = _; rw [f 136 t (by omega) (by omega)]; exact this.t t ht, fun p hp => by show b4.1 137 p = _; rw [f 137 p (by omega) (by omega)]; exact this.p p hp⟩
/-- a state made of both -/
def hyb (a b : gZ) : gZ := (fun k j => if k < 94 then a.1 k j else b.1 k j, a.2)
theorem hyb_l {a b : gZ} {k j : Nat} (h : k < 94) : (hyb a b).1 k j = a.1 k j := if_pos h
theorem hyb_h {a b : gZ} {k j : Nat} (h : 94 ≤ k) : (hyb a b).1 k j = b.1 k j := if_neg (by omega)
theorem hyb_m (a b : gZ) : q_Placing_measure E (kL c) (hyb a b) = q_Placing_measure E (kL c) a := rfl
end
