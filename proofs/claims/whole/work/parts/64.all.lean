set_option linter.unusedVariables false
-- Z1
section
variable {E : gEv} {c : gCf}
section
variable {P : Nat → Nat → Prop} {z s : gZ}
theorem iT_o {n : Nat} (h : iT n z) (o : zO P z s) (hP : ∀ k j, P k j → ¬ pT k j) : iT n s := by
  obtain ⟨h1, h2, h3, h4, h5⟩ := h
  have r : ∀ k j, pT k j → s.1 k j = z.1 k j := fun k j x => o k j fun y => hP k j y x
  refine ⟨h1, by rw [r 10 2 (by unfold pT; omega)]; exact h2, by rw [r 94 16 (by unfold pT; omega)]; exact h3, fun j hj => ?_, fun j hj => ?_⟩
  · rw [r 11 j (by unfold pT; omega), r 96 j (by unfold pT; omega)]; exact h4 j hj
  · rw [r 95 j (by unfold pT; omega), r 12 j (by unfold pT; omega)]; exact h5 j hj
def rF (k j : Nat) : Prop := k = 5 ∨ k = 6 ∨ (k = 81 ∧ 13 ≤ j ∧ j ≤ 16) ∨ (82 ≤ k ∧ k ≤ 93) ∨ k = 154 ∨ k = 155 ∨ k = 156 ∨ k = 158 ∨ (k = 94 ∧ 97 ≤ j ∧ j ≤ 99)
theorem JF_o {tb tb' : Int} (h : JF c tb z) (hb : tb ≤ tb') (o : zO P z s) (hP : ∀ k j, P k j → ¬ rF k j) : JF c tb' s := by
  have n : ∀ k j, rF k j → s.1 k j = z.1 k j := fun k j x => o k j fun y => hP k j y x
  have r : ∀ k, k = 5 ∨ k = 6 ∨ (82 ≤ k ∧ k ≤ 93) ∨ k = 154 ∨ k = 155 ∨ k = 156 ∨ k = 158 → s.1 k = z.1 k := fun k hk => funext fun j => n k j (by unfold rF; omega)
  obtain ⟨⟨h1, h1'⟩, ⟨h2, h2'⟩, h3, h4, h5, h6, h7, h8⟩ := h
  refine ⟨⟨?_, ?_⟩, ⟨?_, ?_⟩, ?_, ?_, ?_, ?_, ?_, ?_⟩
  · unfold FB; rw [r 82 (by omega), r 83 (by omega), r 84 (by omega), r 85 (by omega)]; exact h1
  · rw [n 81 14 (by unfold rF; omega), n 81 15 (by unfold rF; omega)]
    refine h1'.imp id fun ⟨a, b, d⟩ => ⟨a, Wd_off (fun k j hk => n k j (by unfold rF; omega)) b, d.imp id fun ⟨e, f⟩ => ⟨e, ?_⟩⟩
    unfold SI
    rw [n 81 16 (by unfold rF; omega), r 5 (by omega), r 6 (by omega), r 82 (by omega), r 83 (by omega), r 84 (by omega), r 85 (by omega), r 88 (by omega), r 89 (by omega)]
    exact f
  · unfold RB; rw [r 154 (by omega), r 158 (by omega), r 155 (by omega), r 156 (by omega)]; exact h2
  · rw [n 94 97 (by unfold rF; omega)]
    refine h2'.imp id fun ⟨a, b⟩ => ⟨a, ?_⟩
    unfold SR
    rw [n 94 98 (by unfold rF; omega), r 5 (by omega), r 6 (by omega), r 154 (by omega), r 158 (by omega), r 155 (by omega), r 156 (by omega)]
    exact b
  · rw [r 82 (by omega), r 154 (by omega)]; exact h3
  · rw [r 83 (by omega), r 158 (by omega)]; exact h4
  · rw [r 84 (by omega), r 155 (by omega)]; exact h5
  · rw [n 81 13 (by unfold rF; omega), n 94 99 (by unfold rF; omega)]; exact h6
  · rw [n 81 13 (by unfold rF; omega)]; exact h7
  · rw [n 81 13 (by unfold rF; omega)]; omega
def rC (k j : Nat) : Prop := (k = 0 ∧ j = 10) ∨ (k = 30 ∧ 10 ≤ j ∧ j ≤ 15) ∨ k = 31 ∨ k = 33 ∨ (35 ≤ k ∧ k ≤ 39) ∨ k = 101 ∨ k = 102 ∨ k = 105 ∨ k = 106 ∨ (110 ≤ k ∧ k ≤ 119) ∨ k = 160 ∨ k = 161 ∨ (k = 94 ∧ (j = 29 ∨ j = 30 ∨ j = 31 ∨ j = 32 ∨ j = 46 ∨ j = 105 ∨ j = 106))
theorem CJ_1 {cb cb' : Int} {nU nL nI nO nF : Nat} (h : CJ c cb nU nL nI nO nF z) (hb : cb ≤ cb') (o : zO P z s) (hP : ∀ k j, P k j → ¬ rC k j) : CJ c cb' nU nL nI nO nF s := by
  have n : ∀ k j, rC k j → s.1 k j = z.1 k j := fun k j x => o k j fun y => hP k j y x
  have r : ∀ k, k = 31 ∨ k = 33 ∨ (35 ≤ k ∧ k ≤ 39) ∨ k = 101 ∨ k = 102 ∨ k = 105 ∨ k = 106 ∨ (110 ≤ k ∧ k ≤ 119) ∨ k = 160 ∨ k = 161 → s.1 k = z.1 k := fun k hk => funext fun j => n k j (by unfold rC; omega)
  have w := fun v => okV_c (nU := nU) (nL := nL) (nI := nI) (nF := nF) (v := v) (z := z) (s := s) fun k hk => r k (by omega)
  obtain ⟨⟨k1, k2, k3, k4, k5, k6, k7, k8, k9⟩, hr, hf, h1, h2, h3, h4, h5, h6, h7, h8, h9, h10⟩ := h
  refine ⟨⟨by rw [n 30 10 (by unfold rC; omega)]; exact k1, by rw [n 30 11 (by unfold rC; omega)]; exact k2, by rw [n 30 12 (by unfold rC; omega)]; exact k3, k4, k5, k6, by rw [r 35 (by omega)]; exact k7, by rw [r 38 (by omega)]; exact k8, by rw [r 33 (by omega)]; exact k9⟩, ?_, ?_, ?_, ?_, ?_, ?_, ?_, ?_, ?_, h8, ?_, ?_⟩
  · refine ⟨by rw [n 94 46 (by unfold rC; omega)]; exact hr.u, by rw [n 94 31 (by unfold rC; omega)]; exact hr.l, by rw [n 94 29 (by unfold rC; omega)]; exact hr.i, by rw [n 94 32 (by unfold rC; omega)]; exact hr.f, hr.ub, hr.lb, hr.ib, hr.fb, by rw [r 117 (by omega)]; exact hr.pin, by rw [r 160 (by omega)]; exact hr.x, by rw [r 161 (by omega)]; exact hr.y, ?_, by rw [r 114 (by omega)]; exact hr.val, by rw [r 115 (by omega)]; exact hr.all, ?_⟩
    · unfold okV
      rw [r 115 (by omega), r 110 (by omega), r 111 (by omega), r 101 (by omega), r 102 (by omega), r 119 (by omega), r 112 (by omega)]
      exact hr.ord
    · unfold lutF adrF srcF
      rw [r 117 (by omega), r 118 (by omega), r 119 (by omega), r 112 (by omega), r 114 (by omega), r 111 (by omega), r 101 (by omega), r 102 (by omega), r 110 (by omega)]
      exact hr.sem
  · unfold frC evC
    rw [n 30 15 (by unfold rC; omega), r 37 (by omega), r 35 (by omega), r 36 (by omega), r 38 (by omega), r 33 (by omega)]; exact hf
  · rw [r 35 (by omega), r 117 (by omega)]; exact h1
  · rw [r 36 (by omega), r 118 (by omega)]; exact h2
  · rw [r 38 (by omega), r 160 (by omega)]; exact h3
  · rw [r 33 (by omega), r 161 (by omega)]; exact h4
  · rw [r 106 (by omega), r 31 (by omega)]
    intro j hj
    obtain ⟨v, v1, v2, v3⟩ := h5 j hj
    exact ⟨v, v1, (w v).1.2 v2, v3.trans (w v).2.symm⟩
  · rw [n 30 13 (by unfold rC; omega)]; exact h6
  · rw [n 94 30 (by unfold rC; omega)]; exact h7
  · rw [r 105 (by omega), r 39 (by omega)]
    intro j hj
    obtain ⟨v, v1, v2, v3⟩ := h9 j hj
    exact ⟨v, v1, (w v).1.2 v2, v3.trans (w v).2.symm⟩
  · rw [n 30 14 (by unfold rC; omega), n 94 105 (by unfold rC; omega)]
    exact ⟨h10.1, h10.2.1, by have := h10.2.2; omega⟩
theorem iCir_o {cb cb' : Int} (h : iCir c cb z) (hb : cb ≤ cb') (o : zO P z s) (hP : ∀ k j, P k j → ¬ rC k j) : iCir c cb' s := by
  have n : ∀ k j, rC k j → s.1 k j = z.1 k j := fun k j x => o k j fun y => hP k j y x
  rcases h with ⟨h1, h2, h3, h4, h5, h6, h7, h8, h9, h10⟩ | ⟨h1, h2, nU, nL, nI, nO, nF, h⟩
  · refine Or.inl ⟨by rw [n 0 10 (by unfold rC; omega)]; exact h1, by rw [n 94 106 (by unfold rC; omega)]; exact h2, by rw [n 30 10 (by unfold rC; omega)]; exact h3, by rw [n 30 11 (by unfold rC; omega)]; exact h4, by rw [n 30 12 (by unfold rC; omega)]; exact h5, by rw [n 30 13 (by unfold rC; omega)]; exact h6, by rw [n 30 14 (by unfold rC; omega)]; exact h7, by rw [n 94 105 (by unfold rC; omega)]; exact h8, by omega, ?_⟩
    unfold frC at *
    rw [n 30 15 (by unfold rC; omega)]
    exact h10.imp id fun x => ⟨x.1, fun l hl => by omega⟩
  · exact Or.inr ⟨by rw [n 0 10 (by unfold rC; omega)]; exact h1, by rw [n 94 106 (by unfold rC; omega)]; exact h2, nU, nL, nI, nO, nF, CJ_1 h hb o hP⟩
def rEz (k j : Nat) : Prop := k = 32 ∨ k = 36 ∨ (54 ≤ k ∧ k ≤ 57) ∨ k = 62 ∨ k = 108 ∨ (125 ≤ k ∧ k ≤ 129) ∨ k = 131 ∨ k = 133 ∨ k = 134 ∨ (k = 30 ∧ (j = 10 ∨ j = 11)) ∨ (k = 53 ∧ 15 ≤ j ∧ j ≤ 17) ∨ (k = 94 ∧ (j = 55 ∨ j = 61 ∨ j = 106))
theorem iEl_o (h : iEl c z) (o : zO P z s) (hP : ∀ k j, P k j → ¬ rEz k j) : iEl c s := by
  have n : ∀ k j, rEz k j → s.1 k j = z.1 k j := fun k j x => o k j fun y => hP k j y x
  rcases h with h | ⟨m, nC, nS, nU, nL, h, h1, h2, h3⟩
  · exact Or.inl (by rw [n 94 106 (by unfold rEz; omega)]; exact h)
  · exact Or.inr ⟨m, nC, nS, nU, nL, EJ_o h o fun k j x => by have := hP k j x; unfold rEz at this; omega, by rw [n 53 16 (by unfold rEz; omega)]; exact h1, by rw [n 53 17 (by unfold rEz; omega), n 62 _ (by unfold rEz; omega)]; exact h2, by rw [n 30 11 (by unfold rEz; omega)]; exact h3⟩
end
end
