set_option linter.unusedVariables false
-- Z1
section
variable {E : gEv} {c : gCf}
section
variable {P : Nat → Nat → Prop} {z s : gZ}
theorem iT_o {n : Nat} (h : iT n z) (o : zO P z s) (hP : ∀ k j, P k j → ¬ pT k j) : iT n s := by
  obtain ⟨h1, h2, h3, h4, h5⟩ := h
  have r : ∀ k j, pT k j → s.1 k j = z.1 k j := fun k j x => o k j fun y => hP k j y x
  refine ⟨h1, by rw [r 10 2 (by unfold pT; omega)]; exact h2, by rw [r 94 16 (by unfold pT; omega)]; exact h3, fun j hj => ?_, fun j hj => ?_⟩
  · rw [r 11 j (by unfold pT; omega), r 96 j (by unfold pT; omega)]; exact h4 j hj
  · rw [r 95 j (by unfold pT; omega), r 12 j (by unfold pT; omega)]; exact h5 j hj
def rF (k j : Nat) : Prop := k = 5 ∨ k = 6 ∨ (k = 81 ∧ 13 ≤ j ∧ j ≤ 16) ∨ (82 ≤ k ∧ k ≤ 93) ∨ k = 154 ∨ k = 155 ∨ k = 156 ∨ k = 158 ∨ (k = 94 ∧ 97 ≤ j ∧ j ≤ 99)
theorem JF_o {tb tb' : Int} (h : JF c tb z) (hb : tb ≤ tb') (o : zO P z s) (hP : ∀ k j, P k j → ¬ rF k j) : JF c tb' s := by
  have n : ∀ k j, rF k j → s.1 k j = z.1 k j := fun k j x => o k j fun y => hP k j y x
  have r : ∀ k, k = 5 ∨ k = 6 ∨ (82 ≤ k ∧ k ≤ 93) ∨ k = 154 ∨ k = 155 ∨ k = 156 ∨ k = 158 → s.1 k = z.1 k := fun k hk => funext fun j => n k j (by unfold rF; omega)
  obtain ⟨⟨h1, h1'⟩, ⟨h2, h2'⟩, h3, h4, h5, h6, h7, h8⟩ := h
  refine ⟨⟨?_, ?_⟩, ⟨?_, ?_⟩, ?_, ?_, ?_, ?_, ?_, ?_⟩
  · unfold FB; rw [r 82 (by omega), r 83 (by omega), r 84 (by omega), r 85 (by omega)]; exact h1
  · rw [n 81 14 (by unfold rF; omega), n 81 15 (by unfold rF; omega)]
    refine h1'.imp id fun ⟨a, b, d⟩ => ⟨a, Wd_off (fun k j hk => n k j (by unfold rF; omega)) b, d.imp id fun ⟨e, f⟩ => ⟨e, ?_⟩⟩
    unfold SI
    rw [n 81 16 (by unfold rF; omega), r 5 (by omega), r 6 (by omega), r 82 (by omega), r 83 (by omega), r 84 (by omega), r 85 (by omega), r 88 (by omega), r 89 (by omega)]
    exact f
  · unfold RB; rw [r 154 (by omega), r 158 (by omega), r 155 (by omega), r 156 (by omega)]; exact h2
  · rw [n 94 97 (by unfold rF; omega)]
    refine h2'.imp id fun ⟨a, b⟩ => ⟨a, ?_⟩
    unfold SR
    rw [n 94 98 (by unfold rF; omega), r 5 (by omega), r 6 (by omega), r 154 (by omega), r 158 (by omega), r 155 (by omega), r 156 (by omega)]
    exact b
  · rw [r 82 (by omega), r 154 (by omega)]; exact h3
  · rw [r 83 (by omega), r 158 (by omega)]; exact h4
  · rw [r 84 (by omega), r 155 (by omega)]; exact h5
  · rw [n 81 13 (by unfold rF; omega), n 94 99 (by unfold rF; omega)]; exact h6
  · rw [n 81 13 (by unfold rF; omega)]; exact h7
  · rw [n 81 13 (by unfold rF; omega)]; omega
def rC (k j : Nat) : Prop := (k = 0 ∧ j = 10) ∨ (k = 30 ∧ 10 ≤ j ∧ j ≤ 15) ∨ k = 31 ∨ k = 33 ∨ (35 ≤ k ∧ k ≤ 39) ∨ k = 101 ∨ k = 102 ∨ k = 105 ∨ k = 106 ∨ (110 ≤ k ∧ k ≤ 119) ∨ k = 160 ∨ k = 161 ∨ (k = 94 ∧ (j = 29 ∨ j = 30 ∨ j = 31 ∨ j = 32 ∨ j = 46 ∨ j = 105 ∨ j = 106))
theorem CJ_1 {cb cb' : Int} {nU nL nI nO nF : Nat} (h : CJ c cb nU nL nI nO nF z) (hb : cb ≤ cb') (o : zO P z s) (hP : ∀ k j, P k j → ¬ rC k j) : CJ c cb' nU nL nI nO nF s := by
  have n : ∀ k j, rC k j → s.1 k j = z.1 k j := fun k j x => o k j fun y => hP k j y x
  have r : ∀ k, k = 31 ∨ k = 33 ∨ (35 ≤ k ∧ k ≤ 39) ∨ k = 101 ∨ k = 102 ∨ k = 105 ∨ k = 106 ∨ (110 ≤ k ∧ k ≤ 119) ∨ k = 160 ∨ k = 161 → s.1 k = z.1 k := fun k hk => funext fun j => n k j (by unfold rC; omega)
  have w := fun v => okV_c (nU := nU) (nL := nL) (nI := nI) (nF := nF) (v := v) (z := z) (s := s) fun k hk => r k (by omega)
  obtain ⟨⟨k1, k2, k3, k4, k5, k6, k7, k8, k9⟩, hr, hf, h1, h2, h3, h4, h5, h6, h7, h8, h9, h10⟩ := h
  refine ⟨⟨by rw [n 30 10 (by unfold rC; omega)]; exact k1, by rw [n 30 11 (by unfold rC; omega)]; exact k2, by rw [n 30 12 (by unfold rC; omega)]; exact k3, k4, k5, k6, by rw [r 35 (by omega)]; exact k7, by rw [r 38 (by omega)]; exact k8, by rw [r 33 (by omega)]; exact k9⟩, ?_, ?_, ?_, ?_, ?_, ?_, ?_, ?_, ?_, h8, ?_, ?_⟩
  · refine ⟨by rw [n 94 46 (by unfold rC; omega)]; exact hr.u, by rw [n 94 31 (by unfold rC; omega)]; exact hr.l, by rw [n 94 29 (by unfold rC; omega)]; exact hr.i, by rw [n 94 32 (by unfold rC; omega)]; exact hr.f, hr.ub, hr.lb, hr.ib, hr.fb, by rw [r 117 (by omega)]; exact hr.pin, by rw [r 160 (by omega)]; exact hr.x, by rw [r 161 (by omega)]; exact hr.y, ?_, by rw [r 114 (by omega)]; exact hr.val, by rw [r 115 (by omega)]; exact hr.all, ?_⟩
    · unfold okV
      rw [r 115 (by omega), r 110 (by omega), r 111 (by omega), r 101 (by omega), r 102 (by omega), r 119 (by omega), r 112 (by omega)]
      exact hr.ord
    · unfold lutF adrF srcF
      rw [r 117 (by omega), r 118 (by omega), r 119 (by omega), r 112 (by omega), r 114 (by omega), r 111 (by omega), r 101 (by omega), r 102 (by omega), r 110 (by omega)]
      exact hr.sem
  · unfold frC evC
    rw [n 30 15 (by unfold rC; omega), r 37 (by omega), r 35 (by omega), r 36 (by omega), r 38 (by omega), r 33 (by omega)]; exact hf
  · rw [r 35 (by omega), r 117 (by omega)]; exact h1
  · rw [r 36 (by omega), r 118 (by omega)]; exact h2
  · rw [r 38 (by omega), r 160 (by omega)]; exact h3
  · rw [r 33 (by omega), r 161 (by omega)]; exact h4
  · rw [r 106 (by omega), r 31 (by omega)]
    intro j hj
    obtain ⟨v, v1, v2, v3⟩ := h5 j hj
    exact ⟨v, v1, (w v).1.2 v2, v3.trans (w v).2.symm⟩
  · rw [n 30 13 (by unfold rC; omega)]; exact h6
  · rw [n 94 30 (by unfold rC; omega)]; exact h7
  · rw [r 105 (by omega), r 39 (by omega)]
    intro j hj
    obtain ⟨v, v1, v2, v3⟩ := h9 j hj
    exact ⟨v, v1, (w v).1.2 v2, v3.trans (w v).2.symm⟩
  · rw [n 30 14 (by unfold rC; omega), n 94 105 (by unfold rC; omega)]
    exact ⟨h10.1, h10.2.1, by have := h10.2.2; omega⟩
theorem iCir_o {cb cb' : Int} (h : iCir c cb z) (hb : cb ≤ cb') (o : zO P z s) (hP : ∀ k j, P k j → ¬ rC k j) : iCir c cb' s := by
  have n : ∀ k j, rC k j → s.1 k j = z.1 k j := fun k j x => o k j fun y => hP k j y x
  rcases h with ⟨h1, h2, h3, h4, h5, h6, h7, h8, h9, h10⟩ | ⟨h1, h2, nU, nL, nI, nO, nF, h⟩
  · refine Or.inl ⟨by rw [n 0 10 (by unfold rC; omega)]; exact h1, by rw [n 94 106 (by unfold rC; omega)]; exact h2, by rw [n 30 10 (by unfold rC; omega)]; exact h3, by rw [n 30 11 (by unfold rC; omega)]; exact h4, by rw [n 30 12 (by unfold rC; omega)]; exact h5, by rw [n 30 13 (by unfold rC; omega)]; exact h6, by rw [n 30 14 (by unfold rC; omega)]; exact h7, by rw [n 94 105 (by unfold rC; omega)]; exact h8, by omega, ?_⟩
    unfold frC at *
    rw [n 30 15 (by unfold rC; omega)]
    exact h10.imp id fun x => ⟨x.1, fun l hl => by omega⟩
  · exact Or.inr ⟨by rw [n 0 10 (by unfold rC; omega)]; exact h1, by rw [n 94 106 (by unfold rC; omega)]; exact h2, nU, nL, nI, nO, nF, CJ_1 h hb o hP⟩
def rE (k j : Nat) : Prop := k = 32 ∨ k = 36 ∨ (54 ≤ k ∧ k ≤ 57) ∨ k = 62 ∨ k = 108 ∨ (125 ≤ k ∧ k ≤ 129) ∨ k = 131 ∨ k = 133 ∨ k = 134 ∨ (k = 30 ∧ (j = 10 ∨ j = 11)) ∨ (k = 53 ∧ 15 ≤ j ∧ j ≤ 17) ∨ (k = 94 ∧ (j = 55 ∨ j = 61 ∨ j = 106))
theorem iEl_o (h : iEl c z) (o : zO P z s) (hP : ∀ k j, P k j → ¬ rE k j) : iEl c s := by
  have n : ∀ k j, rE k j → s.1 k j = z.1 k j := fun k j x => o k j fun y => hP k j y x
  rcases h with h | ⟨m, nC, nS, nU, nL, h, h1, h2, h3⟩
  · exact Or.inl (by rw [n 94 106 (by unfold rE; omega)]; exact h)
  · exact Or.inr ⟨m, nC, nS, nU, nL, EJ_o h o fun k j x => by have := hP k j x; unfold rE at this; omega, by rw [n 53 16 (by unfold rE; omega)]; exact h1, by rw [n 53 17 (by unfold rE; omega), n 62 _ (by unfold rE; omega)]; exact h2, by rw [n 30 11 (by unfold rE; omega)]; exact h3⟩
end
end
-- Z2
section
variable {E : gEv} {c : gCf}
/-- what the calls keep -/
abbrev IA (c : gCf) (n : Nat) (z : gZ) : Prop := ∃ _ : (Gr c z), ∃ _ : (Jk c z), ∃ _ : (∃ k, iT k z), ∃ _ : (JF c (1000 * (n : Int)) z), ∃ _ : (iCir c (1000 * (n : Int)) z), ∃ _ : (iPla c z), ∃ _ : (iRou c z), ∃ _ : (iEl c z), (z.1 0 11 = z.1 94 18)
theorem IA.g {c : gCf} {n : Nat} {z : gZ} (h : IA c n z) : Gr c z := by obtain ⟨x, _⟩ := h; exact x
theorem IA.j {c : gCf} {n : Nat} {z : gZ} (h : IA c n z) : Jk c z := by obtain ⟨_, x, _⟩ := h; exact x
theorem IA.t {c : gCf} {n : Nat} {z : gZ} (h : IA c n z) : ∃ k, iT k z := by obtain ⟨_, _, x, _⟩ := h; exact x
theorem IA.f {c : gCf} {n : Nat} {z : gZ} (h : IA c n z) : JF c (1000 * (n : Int)) z := by obtain ⟨_, _, _, x, _⟩ := h; exact x
theorem IA.ci {c : gCf} {n : Nat} {z : gZ} (h : IA c n z) : iCir c (1000 * (n : Int)) z := by obtain ⟨_, _, _, _, x, _⟩ := h; exact x
theorem IA.p {c : gCf} {n : Nat} {z : gZ} (h : IA c n z) : iPla c z := by obtain ⟨_, _, _, _, _, x, _⟩ := h; exact x
theorem IA.r {c : gCf} {n : Nat} {z : gZ} (h : IA c n z) : iRou c z := by obtain ⟨_, _, _, _, _, _, x, _⟩ := h; exact x
theorem IA.e {c : gCf} {n : Nat} {z : gZ} (h : IA c n z) : iEl c z := by obtain ⟨_, _, _, _, _, _, _, x, _⟩ := h; exact x
theorem IA.w {c : gCf} {n : Nat} {z : gZ} (h : IA c n z) : z.1 0 11 = z.1 94 18 := by obtain ⟨_, _, _, _, _, _, _, _, x⟩ := h; exact x
section
variable {P : Nat → Nat → Prop} {z s : gZ} {n : Nat}
theorem Jk_o (h : Jk c z) (o : zO P z s) (hP : ∀ k j, P k j → k ≠ 5 ∧ k ≠ 6) : Jk c s := fun j hj => by
  have := h j hj
  unfold jOk at *
  rw [o 5 j fun x => (hP _ _ x).1 rfl, o 6 j fun x => (hP _ _ x).2 rfl]
  exact this
/-- all but what is given anew -/
theorem IA_o (h : IA c n z) (o : zO P z s) (hS : ∀ k j, P k j → ¬ pS k j) (hT : (∃ k, iT k s) ∨ ∀ k j, P k j → ¬ pT k j) (hF : JF c (1000 * ((n + 1 : Nat) : Int)) s ∨ ∀ k j, P k j → ¬ rF k j) (hC : iCir c (1000 * ((n + 1 : Nat) : Int)) s ∨ ∀ k j, P k j → ¬ rC k j) (hp : iPla c s ∨ ∀ k j, P k j → ¬ pN k j ∧ ¬ pS k j ∧ k ≠ 0 ∧ k ≠ 68 ∧ k ≠ 69 ∧ ¬ (k = 67 ∧ j = 4) ∧ k ≠ 136 ∧ k ≠ 137 ∧ ¬ (k = 94 ∧ (j = 106 ∨ j = 55)) ∧ ¬ (k = 53 ∧ j = 15)) (hR : iRou c s ∨ ∀ k j, P k j → ¬ (k = 70 ∧ (j = 4 ∨ j = 15)) ∧ ¬ (k = 94 ∧ (j = 77 ∨ j = 106)) ∧ ¬ (k = 53 ∧ j = 17) ∧ ¬ (74 ≤ k ∧ k ≤ 75) ∧ ¬ (77 ≤ k ∧ k ≤ 79) ∧ k ≠ 132 ∧ ¬ (141 ≤ k ∧ k ≤ 145) ∧ k ≠ 147 ∧ k ≠ 61 ∧ k ≠ 62 ∧ k ≠ 64 ∧ k ≠ 69) (hE : ∀ k j, P k j → ¬ rE k j) (hw : ∀ k j, P k j → k ≠ 0 ∧ ¬ (k = 94 ∧ j = 18)) : IA c (n + 1) s := by
  refine ⟨Gr_o o (fun k j a b => hS k j b a) h.g, Jk_o h.j o fun k j x => by have := hS k j x; unfold pS at this; omega, hT.elim id fun x => ?_, hF.elim id fun x => JF_o h.f (by omega) o x, hC.elim id fun x => iCir_o h.ci (by omega) o x, hp.elim id fun x => iPla_o h.p o x, hR.elim id fun x => iRou_o h.r h.g.1 o x, iEl_o h.e o hE, ?_⟩
  · obtain ⟨k, hk⟩ := h.t
    exact ⟨k, iT_o hk o x⟩
  · rw [o 0 11 fun x => (hw _ _ x).1 rfl, o 94 18 fun x => (hw _ _ x).2 ⟨rfl, rfl⟩]; exact h.w
theorem IA_T (h : IA c n z) (o : zO pT z s) (ht : ∃ k, iT k s) : IA c (n + 1) s :=
  IA_o h o (fun k j x => by unfold pT at x; unfold pS; omega) (Or.inl ht) (Or.inr fun k j x => by unfold pT at x; unfold rF; omega) (Or.inr fun k j x => by unfold pT at x; unfold rC; omega) (Or.inr fun k j x => by unfold pT at x; unfold pN pS; omega) (Or.inr fun k j x => by unfold pT at x; omega) (fun k j x => by unfold pT at x; unfold rE; omega) (fun k j x => by unfold pT at x; omega)
theorem IA_F (h : IA c n z) (o : zO pF z s) (hf : JF c (1000 * ((n + 1 : Nat) : Int)) s) : IA c (n + 1) s :=
  IA_o h o (fun k j x => by unfold pF at x; unfold pS; omega) (Or.inr fun k j x => by unfold pF at x; unfold pT; omega) (Or.inl hf) (Or.inr fun k j x => by unfold pF at x; unfold rC; omega) (Or.inr fun k j x => by unfold pF at x; unfold pN pS; omega) (Or.inr fun k j x => by unfold pF at x; omega) (fun k j x => by unfold pF at x; unfold rE; omega) (fun k j x => by unfold pF at x; omega)
theorem IA_C (h : IA c n z) (o : zO pCi z s) (hc : iCir c (1000 * ((n + 1 : Nat) : Int)) s) : IA c (n + 1) s :=
  IA_o h o (fun k j x => by unfold pCi at x; unfold pS; omega) (Or.inr fun k j x => by unfold pCi at x; unfold pT; omega) (Or.inr fun k j x => by unfold pCi at x; unfold rF; omega) (Or.inl hc) (Or.inr fun k j x => by unfold pCi at x; unfold pN pS; omega) (Or.inr fun k j x => by unfold pCi at x; omega) (fun k j x => by unfold pCi at x; unfold rE; omega) (fun k j x => by unfold pCi at x; omega)
theorem IA_P (h : IA c n z) (o : zO pPa z s) (hp : iPla c s) (hr : iRou c s) : IA c (n + 1) s :=
  IA_o h o (fun k j x => by unfold pPa at x; unfold pS; omega) (Or.inr fun k j x => by unfold pPa at x; unfold pT; omega) (Or.inr fun k j x => by unfold pPa at x; unfold rF; omega) (Or.inr fun k j x => by unfold pPa at x; unfold rC; omega) (Or.inl hp) (Or.inl hr) (fun k j x => by unfold pPa at x; unfold rE; omega) (fun k j x => by unfold pPa at x; omega)
theorem IA_R (h : IA c n z) (o : zO pRt' z s) (hp : iPla c s) (hr : iRou c s) : IA c (n + 1) s :=
  IA_o h o (fun k j x => by unfold pRt' pWr pRm at x; unfold pS; omega) (Or.inr fun k j x => by unfold pRt' pWr pRm at x; unfold pT; omega) (Or.inr fun k j x => by unfold pRt' pWr pRm at x; unfold rF; omega) (Or.inr fun k j x => by unfold pRt' pWr pRm at x; unfold rC; omega) (Or.inl hp) (Or.inl hr) (fun k j x => by unfold pRt' pWr pRm at x; unfold rE; omega) (fun k j x => by unfold pRt' pWr pRm at x; omega)
theorem IA_t (h : IA c n z) (o : zO pPt z s) : IA c (n + 1) s :=
  IA_o h o (fun k j x => by unfold pPt at x; unfold pS; omega) (Or.inr fun k j x => by unfold pPt at x; unfold pT; omega) (Or.inr fun k j x => by unfold pPt at x; unfold rF; omega) (Or.inr fun k j x => by unfold pPt at x; unfold rC; omega) (Or.inr fun k j x => by unfold pPt at x; unfold pN pS; omega) (Or.inr fun k j x => by unfold pPt at x; omega) (fun k j x => by unfold pPt at x; unfold rE; omega) (fun k j x => by unfold pPt at x; omega)
theorem IA_n (h : IA c n z) : IA c (n + 1) z := IA_t h o_r
theorem JF_m {tb tb' : Int} (h : JF c tb z) (hb : tb ≤ tb') : JF c tb' z := by
  obtain ⟨h1, h2, h3, h4, h5, h6, h7, h8⟩ := h
  exact ⟨h1, h2, h3, h4, h5, h6, h7, by omega⟩
theorem iCir_m {cb cb' : Int} (h : iCir c cb z) (hb : cb ≤ cb') : iCir c cb' z := iCir_o (P := fun _ _ => False) h hb o_r fun k j x => x.elim
theorem iRou_p (h : iRou c z) (hk : kOk c) (o : zOff pPa z s) (x : zOff pPt z s ∨ (s.1 70 15 = 0 ∧ s.1 94 77 = 0)) : iRou c s := by
  rcases x with x | x
  · exact iRou_o h hk x.2 fun k j y => by unfold pPt at y; omega
  · exact ⟨by rw [o.2 70 4 (by unfold pPa; omega)]; exact h.1, Or.inl x⟩
end
/-- all laws but compile's -/
theorem lw_all (hc : ∀ (n : Nat) (z : gZ), IA c n z → zOk (q_Face_compile E (kL c) z) (fun r => zOk (q_Model_compile E (kL c) r.2) (fun q => r.1 = q.1 ∧ IA c (n + 1) q.2))) : LW E c (IA c) := by
  refine ⟨?_, ?_, ?_, ?_, ?_, ?_, ?_, ?_, ?_, ?_, ?_, ?_, ?_, ?_, ?_, ?_, ?_, ?_, ?_, ?_, ?_, ?_, ?_, ?_, ?_⟩
  · exact fun n z h => IA_n h
  · intro n z a0 a1 a2 a3 a4 h
    obtain ⟨k, hk⟩ := h.t
    exact ok_w (l_feed a0 a1 a2 a3 a4 hk) fun s hs => ok_w hs fun q ⟨q1, q2⟩ => IA_T h q2.2 ⟨k, q1⟩
  · intro n z a h
    obtain ⟨k, hk⟩ := h.t
    exact ok_w (l_end a hk) fun s hs => ok_w hs fun q ⟨q0, q1, q2⟩ => ⟨q0, IA_T h q2.2 q1⟩
  · exact hc
  · exact fun n z a h => ok_w (l_look h.g h.ci h.p h.r h.w h.f.2.2.2.2.2.1 a) fun s hs => ok_w hs fun q ⟨q0, q1⟩ => ⟨q0, IA_t h q1.2⟩
  · exact fun n z a b h => l_lut h.g.1 (iLut_of h.ci) a b
  · exact fun n z a b h => l_element h.g.1 (iLut_of h.ci) (iEle_of h.p h.e) a b
  · exact fun n z a b h hb => l_net h.g h.p h.r a b hb
  · exact fun n z a h => l_tile h.g (iTil_of h.p) a
  · exact fun n z a h => l_pad h.g (iPad_of h.p) a
  · exact fun n z a0 a1 a2 a3 h h0 h3 => ok_w (l_swap h.g h.p a0 a1 a2 a3 h0 h3) fun s hs => ok_w hs fun q ⟨q0, q1, q2, q3⟩ => ⟨q0, IA_P h q2.2 q1 (iRou_p h.r h.g.1 q2 (q3.imp (fun e => by rw [e]; exact off_r) id))⟩
  · exact fun n z a0 a1 h => ok_w (l_shake h.g h.p a0 a1) fun s hs => ok_w hs fun q ⟨q0, q1, q2, q3⟩ => ⟨q0, IA_P h q2.2 q1 (iRou_p h.r h.g.1 q2 q3)⟩
  · exact fun n z a h => ok_w (l_route h.g h.j h.p h.r a) fun s hs => ok_w hs fun q ⟨q0, q1, q2, q3⟩ => ⟨q0, IA_R h q3 q1 q2⟩
  · exact fun n z a h => l_owner h.g h.p h.r a
  · exact fun n z h => ok_w (l_burn h.g h.f h.p h.r h.e) fun s hs => ok_w hs fun q ⟨q0, q1, q2⟩ => ⟨q0, IA_F h q2.2 (JF_m q1 (by omega))⟩
  · intro n z a h
    obtain ⟨v, h1, h2⟩ := l_bit (E := E) h.g h.f a
    exact ok_e h1 (ok_e h2 rfl)
  · exact fun n z a h => ok_w (l_flip h.g h.f a) fun s hs => ok_w hs fun q ⟨q0, q1, q2⟩ => ⟨q0, IA_F h q2.2 (JF_m q1 (by omega))⟩
  · exact fun n z h => ok_w (l_start h.g h.f) fun s hs => ok_w hs fun q ⟨q1, q2⟩ => IA_F h q2.2 (JF_m q1 (by omega))
  · exact fun n z a b h hb => ok_w (l_level h.g h.f a b hb) fun s hs => ok_w hs fun q ⟨q0, q1, q2⟩ => ⟨q0, IA_F h q2.2 (JF_m q1 (by omega))⟩
  · exact fun n z a h hn => ok_w (l_tick h.g h.f (by omega) a) fun s hs => ok_w hs fun q ⟨q0, q1, q2⟩ => ⟨q0, IA_F h q2.2 (JF_m q1 (by omega))⟩
  · exact fun n z a b h => ok_w (l_probe h.g h.f a b) fun s hs => ok_w hs fun q ⟨q0, q1, q2⟩ => ⟨q0, IA_F h q2.2 (JF_m q1 (by omega))⟩
  · exact fun n z a b h hb => ok_w (l_drive h.g.1 h.ci a b hb) fun s hs => ok_w hs fun q ⟨q0, q1, q2⟩ => ⟨q0, IA_C h q2.2 (iCir_m q1 (by omega))⟩
  · exact fun n z a h hn => ok_w (l_clock h.g.1 h.ci (by omega) a) fun s hs => ok_w hs fun q ⟨q0, q1, q2⟩ => ⟨q0, IA_C h q2.2 (iCir_m q1 (by omega))⟩
  · exact fun n z a h => ok_w (l_value h.g.1 h.ci a) fun s hs => ok_w hs fun q ⟨q0, q1, q2⟩ => ⟨q0, IA_C h q2.2 (iCir_m q1 (by omega))⟩
  · exact fun n z a h => ok_w (l_out h.g.1 h.ci a) fun s hs => ok_w hs fun q ⟨q0, q1, q2⟩ => ⟨q0, IA_C h q2.2 (iCir_m q1 (by omega))⟩
end
-- Z3
section
variable {E : gEv} {c : gCf}
theorem IA_0 {z : gZ} (g : Gr c z) (hj : ∀ j, j < kJ c → jOk c z j) (h : z00 c z) (h18 : z.1 94 18 = -1) : IA c 0 z := by
  have a0 : ∀ j, z.1 0 j = if j = 11 then -1 else 0 := fun j => by
    rw [h 0 j (by omega) (by unfold pMi p3; omega)]; rfl
  have e : ∀ k j, 10 ≤ k → k ≠ 22 → k ≠ 30 → k ≠ 68 → k ≠ 70 → ¬ pMi k j → z.1 k j = 0 := fun k j a b d f g' x => z0_at h a b d f g' x
  have a30 : ∀ j, j ≠ 0 → z.1 30 j = 0 := fun j hj => by
    rw [h 30 j (by omega) (by unfold pMi p3; omega)]
    unfold fcV
    rw [if_neg (by omega), if_neg (by omega), if_pos rfl, if_neg hj]
  have a70 : ∀ j, z.1 70 j = if j = 4 then (kH c : Int) else 0 := fun j => by
    rw [h 70 j (by omega) (by unfold pMi p3; omega)]; rfl
  have a68 : ∀ j, j < kN c + kD c → z.1 68 j = -1 := fun j hj => by
    rw [h 68 j (by omega) (by unfold pMi p3; omega)]
    unfold fcV
    rw [if_neg (by omega), if_neg (by omega), if_neg (by omega), if_pos rfl, if_pos hj]
  have a94 : ∀ j, ¬ j ≤ 13 → j ≠ 18 → z.1 94 j = 0 := fun j h1 h2 => e 94 j (by omega) (by omega) (by omega) (by omega) (by omega) (by unfold pMi p3; omega)
  have a53 : ∀ j, z.1 53 j = 0 := fun j => e 53 j (by omega) (by omega) (by omega) (by omega) (by omega) (by unfold pMi p3; omega)
  refine ⟨g, hj, ⟨0, iT_0 h⟩, JF_0 h, Or.inl ⟨by rw [a0]; rfl, a94 _ (by omega) (by omega), a30 _ (by omega), a30 _ (by omega), a30 _ (by omega), a30 _ (by omega), a30 _ (by omega), a94 _ (by omega) (by omega), by omega, Or.inl (a30 _ (by omega))⟩, Or.inl ⟨by rw [a0]; rfl, a94 _ (by omega) (by omega), a68, a53 _, a53 _, a53 _⟩, ⟨by rw [a70]; rfl, Or.inl ⟨by rw [a70]; rfl, a94 _ (by omega) (by omega)⟩⟩, Or.inl (a94 _ (by omega) (by omega)), by rw [a0, h18]; rfl⟩
/-- whole, out of compile's law -/
theorem whole_of (hE : (E 1000).1 ≤ 3076) (hc : ∀ (c : gCf) (n : Nat) (z : gZ), IA c n z → zOk (q_Face_compile E (kL c) z) (fun r => zOk (q_Model_compile E (kL c) r.2) (fun q => r.1 = q.1 ∧ IA c (n + 1) q.2))) : ∃ y, q_Law_law E (fun _ => 0) (fun _ _ => 0, fun _ _ => 0) = some (1, y) :=
  law_of hE fun c z g hj h0 h18 _ => lw_loop (lw_all (hc c)) hE (IA_0 g hj h0 h18)
end
