set_option linter.unusedVariables false
-- LT
section
variable {E : gEv} {c : gCf}
def pFg (k j : Nat) : Prop := (k = 30 ∧ 10 ≤ j ∧ j ≤ 15) ∨ k = 38 ∨ (k = 53 ∧ 15 ≤ j ∧ j ≤ 17) ∨ k = 68 ∨ (k = 67 ∧ j = 4) ∨ (k = 70 ∧ j = 15)
/-- what forgetting leaves -/
def FGs (c : gCf) (s : gZ) : Prop := (∀ j, 10 ≤ j → j ≤ 15 → s.1 30 j = 0) ∧ (∀ i, i < kD c → s.1 38 i = 0) ∧ (s.1 53 15 = 0 ∧ s.1 53 16 = 0 ∧ s.1 53 17 = 0) ∧ (∀ q, q < kN c + kD c → s.1 68 q = -1) ∧ s.1 70 15 = 0
theorem s_forget (hk : kOk c) (a : gZ) : zOk (q_Face_forget E (kL c) a) (fun s => zOff pFg a s ∧ FGs c s) := by
  have hN := kN_b hk
  have hD := kD_b hk
  have l1 : kL c 38 = kD c := kL_38 c
  have l2 : kL c 68 = kN c + kD c := kL_68 c
  unfold q_Face_forget q_Circuit_clear q_Packing_clear q_Placing_clear q_Router_drop
  rw [let_s, let_s, let_s, let_s, let_s, let_s, s_fillI 38 _ _ (by omega), l1, b1_s, b1_s, let_s, let_s, let_s, b1_s, s_fillI 68 _ _ (by omega), l2, b1_s, let_s, b1_s, let_s, b1_s]
  generalize h1 : zPut (zPut (zPut (zPut (zPut (zPut a 30 10 0) 30 11 0) 30 12 0) 30 13 0) 30 14 0) 30 15 0 = a1
  have o1 : zOff pFg a a1 := by
    rw [← h1]
    exact off_t (off_put (by unfold pFg; omega)) (off_t (off_put (by unfold pFg; omega)) (off_t (off_put (by unfold pFg; omega)) (off_t (off_put (by unfold pFg; omega)) (off_t (off_put (by unfold pFg; omega)) (off_put (by unfold pFg; omega))))))
  have e1 : ∀ j, 10 ≤ j → j ≤ 15 → a1.1 30 j = 0 := fun j x y => by
    rw [← h1]
    rcases (by omega : j = 10 ∨ j = 11 ∨ j = 12 ∨ j = 13 ∨ j = 14 ∨ j = 15) with w | w | w | w | w | w
    · rw [w, zp_n (by omega), zp_n (by omega), zp_n (by omega), zp_n (by omega), zp_n (by omega), zp_eq]
    · rw [w, zp_n (by omega), zp_n (by omega), zp_n (by omega), zp_n (by omega), zp_eq]
    · rw [w, zp_n (by omega), zp_n (by omega), zp_n (by omega), zp_eq]
    · rw [w, zp_n (by omega), zp_n (by omega), zp_eq]
    · rw [w, zp_n (by omega), zp_eq]
    · rw [w, zp_eq]
  generalize h2 : zPut (zPut (zPut (zFill a1 38 (fun _ => 0) (kD c)) 53 15 0) 53 16 0) 53 17 0 = a2
  have o2 : zOff pFg a1 a2 := by
    rw [← h2]
    exact off_t (off_fill fun j => by unfold pFg; omega) (off_t (off_put (by unfold pFg; omega)) (off_t (off_put (by unfold pFg; omega)) (off_put (by unfold pFg; omega))))
  have f : ∀ k j, k ≠ 67 → k ≠ 70 → k ≠ 68 → (zPut (zPut (zFill a2 68 (fun _ => -1) (kN c + kD c)) 67 4 0) 70 15 0).1 k j = a2.1 k j := fun k j x y w => by
    rw [zp_n (by omega), zp_n (by omega), zf1, if_neg (by omega)]
  refine ⟨_, rfl, off_t o1 (off_t o2 (off_t (off_fill fun j => by unfold pFg; omega) (off_t (off_put (by unfold pFg; omega)) (off_put (by unfold pFg; omega))))), fun j x y => ?_, fun i hi => ?_, ⟨?_, ?_, ?_⟩, fun q hq => ?_, zp_eq _ _ _ _⟩
  · rw [f 30 j (by omega) (by omega) (by omega), ← h2, zp_n (by omega), zp_n (by omega), zp_n (by omega), zf1, if_neg (by omega)]; exact e1 j x y
  · rw [f 38 i (by omega) (by omega) (by omega), ← h2, zp_n (by omega), zp_n (by omega), zp_n (by omega), zf1, if_pos rfl, if_pos hi]
  · rw [f 53 15 (by omega) (by omega) (by omega), ← h2, zp_n (by omega), zp_n (by omega), zp_eq]
  · rw [f 53 16 (by omega) (by omega) (by omega), ← h2, zp_n (by omega), zp_eq]
  · rw [f 53 17 (by omega) (by omega) (by omega), ← h2, zp_eq]
  · rw [zp_n (by omega), zp_n (by omega), zf1, if_pos rfl, if_pos hq]
/-- the class's end, with a fault -/
theorem s_tailC (hk : kOk c) {r : Int} (hr : r ≠ 0) (a : gZ) : zOk (q_Face_compile_j44 E (kL c) r a) (fun s => s.1 = r ∧ zOff (fun k j => pFg k j ∨ (k = 0 ∧ j = 10)) a s.2 ∧ FGs c s.2 ∧ s.2.1 0 10 = 0) := by
  unfold q_Face_compile_j44 q_Face_compile_j54
  rw [if_neg hr, if_pos (Or.inl rfl), let_s, zp_eq, if_pos rfl]
  obtain ⟨s, p, o, g⟩ := s_forget (E := E) hk (zPut a 0 10 0)
  rw [p, b1_s]
  exact ⟨_, rfl, rfl, off_t (off_put (Or.inr ⟨rfl, rfl⟩)) (off_w o fun k j x => Or.inl x), g, by rw [o.2 0 10 (by unfold pFg; omega), zp_eq]⟩
def pEm (k j : Nat) : Prop := k = 94 ∧ (j = 16 ∨ j = 77 ∨ j = 106 ∨ j = 105)
/-- the reference's end, with a fault -/
theorem s_tailM {r : Int} (hr : r ≠ 0) {b : gZ} (h17 : b.1 94 17 = r) : zOk (q_Model_compile_j83 E (kL c) b) (fun s => s.1 = r ∧ zOff pEm b s.2 ∧ s.2.1 94 16 = 0 ∧ s.2.1 94 77 = 0 ∧ s.2.1 94 106 = 0 ∧ s.2.1 94 105 = 0) := by
  unfold q_Model_compile_j83 q_Model_compile_j106
  rw [let_s, let_s, zp_n (by omega), zp_n (by omega), h17, if_neg hr, if_pos (Or.inl rfl), let_s, let_s]
  rw [zp_n (k' := 94) (j' := 106) (by omega), zp_eq, if_pos rfl, zp_n (by omega), zp_n (by omega), zp_n (by omega), zp_n (by omega), h17]
  refine ⟨_, rfl, rfl, off_t (off_put (by unfold pEm; omega)) (off_t (off_put (by unfold pEm; omega)) (off_t (off_put (by unfold pEm; omega)) (off_put (by unfold pEm; omega)))), ?_, ?_, ?_, zp_eq _ _ _ _⟩
  · show (zPut (zPut (zPut (zPut b 94 16 0) 94 77 0) 94 106 0) 94 105 0).1 94 16 = 0
    rw [zp_n (by omega), zp_n (by omega), zp_n (by omega), zp_eq]
  · show (zPut (zPut (zPut (zPut b 94 16 0) 94 77 0) 94 106 0) 94 105 0).1 94 77 = 0
    rw [zp_n (by omega), zp_n (by omega), zp_eq]
  · show (zPut (zPut (zPut (zPut b 94 16 0) 94 77 0) 94 106 0) 94 105 0).1 94 106 = 0
    rw [zp_n (by omega), zp_eq]
def pCoo (k j : Nat) : Prop := (k = 0 ∧ (j = 10 ∨ j = 11)) ∨ (k = 10 ∧ 2 ≤ j ∧ j ≤ 6) ∨ (13 ≤ k ∧ k ≤ 69 ∧ ¬ (k = 22 ∧ j = 2) ∧ ¬ (k = 30 ∧ j = 0)) ∨ (k = 70 ∧ j = 15)
def pRoo (k j : Nat) : Prop := (k = 94 ∧ 14 ≤ j ∧ ¬ (97 ≤ j ∧ j ≤ 99)) ∨ (97 ≤ k ∧ k ≤ 137) ∨ k = 160 ∨ k = 161
/-- all that compile's law must give of a state -/
def OutI (c : gCf) (n : Nat) (s : gZ) : Prop := iT 0 s ∧ iCir c (1000 * ((n + 1 : Nat) : Int)) s ∧ iPla c s ∧ iRou c s ∧ iEl c s ∧ s.1 0 11 = s.1 94 18
theorem out_fail {n : Nat} {z bz a b s : gZ} (h : IB c n z) (hz : ∀ k j, 94 ≤ k → bz.1 k j = z.1 k j) (oa : zOff pCoo z a) (ob : zOff pRoo bz b) (g : FGs c a) (h10 : a.1 0 10 = 0) (h2 : a.1 10 2 = 0) (h16 : b.1 94 16 = 0) (h77 : b.1 94 77 = 0) (h106 : b.1 94 106 = 0) (h105 : b.1 94 105 = 0) (hf : a.1 0 11 = b.1 94 18) (A : ∀ k j, k < 94 → s.1 k j = a.1 k j) (B : ∀ k j, 94 ≤ k → s.1 k j = b.1 k j) : OutI c n s := by
  obtain ⟨g1, g2, ⟨g3, g4, g5⟩, g6, g7⟩ := g
  obtain ⟨k, t1, t2, t3, t4, t5⟩ := h.t
  refine ⟨⟨by omega, by rw [A 10 2 (by omega), h2]; rfl, by rw [B 94 16 (by omega), h16]; rfl, fun j hj => by omega, fun j hj => ?_⟩, Or.inl ⟨?_, ?_, ?_, ?_, ?_, ?_, ?_, ?_, by omega, Or.inl ?_⟩, Or.inl ⟨?_, ?_, fun q hq => ?_, ?_, ?_, ?_⟩, ⟨?_, Or.inl ⟨?_, ?_⟩⟩, Or.inl ?_, ?_⟩
  · rw [A 12 j (by omega), oa.2 12 j (by unfold pCoo; omega), B 95 j (by omega), ob.2 95 j (by unfold pRoo; omega), hz 95 j (by omega)]; exact t5 j hj
  · rw [A 0 10 (by omega)]; exact h10
  · rw [B 94 106 (by omega)]; exact h106
  · rw [A 30 10 (by omega)]; exact g1 10 (by omega) (by omega)
  · rw [A 30 11 (by omega)]; exact g1 11 (by omega) (by omega)
  · rw [A 30 12 (by omega)]; exact g1 12 (by omega) (by omega)
  · rw [A 30 13 (by omega)]; exact g1 13 (by omega) (by omega)
  · rw [A 30 14 (by omega)]; exact g1 14 (by omega) (by omega)
  · rw [B 94 105 (by omega)]; exact h105
  · rw [A 30 15 (by omega)]; exact g1 15 (by omega) (by omega)
  · rw [A 0 10 (by omega)]; exact h10
  · rw [B 94 106 (by omega)]; exact h106
  · rw [A 68 q (by omega)]; exact g6 q hq
  · rw [A 53 15 (by omega)]; exact g3
  · rw [A 53 16 (by omega)]; exact g4
  · rw [A 53 17 (by omega)]; exact g5
  · rw [A 70 4 (by omega), oa.2 70 4 (by unfold pCoo; omega)]; exact h.r.1
  · rw [A 70 15 (by omega)]; exact g7
  · rw [B 94 77 (by omega)]; exact h77
  · rw [B 94 106 (by omega)]; exact h106
  · rw [A 0 11 (by omega), B 94 18 (by omega)]; exact hf
end
