set_option linter.unusedVariables false
-- M1
section
variable {E : gEv} {c : gCf} {L : Nat → Nat}
/-- one of the script's first four ints, 0 where it has none -/
theorem s_cell (hE : (E 1000).1 ≤ 3076) (a : Nat) : ∃ v, ∀ (L : Nat → Nat) (z : gZ), q_Law_cell E L a z = some v := by
  have hz : zOf ((E 1000).1) = ((E 1000).1 : Int) := by
    unfold zOf
    have := n_i32 ((E 1000).1 : Int) (by omega)
    rw [← this]
    congr 1
  by_cases e : (E 1000).1 ≤ a
  · refine ⟨0, fun L z => ?_⟩
    unfold q_Law_cell
    rw [hz, if_pos (by omega)]
  · refine ⟨((E 1000).2 a).toInt, fun L z => ?_⟩
    unfold q_Law_cell
    rw [hz, if_neg (by omega), if_pos (by omega), gtN]
/-- the law: its loop from the first state on -/
theorem law_of (hE : (E 1000).1 ≤ 3076) (h : ∀ (c : gCf) (z : gZ), Gr c z → (∀ j, j < kJ c → jOk c z j) → z00 c z → z.1 94 18 = -1 → (∀ k j, z.2 k j = 0) → zOk (gIter (fun y => q_Law_law_58 E (kL c) y.1 y.2) gN (4, z)) (fun _ => True)) : ∃ y, q_Law_law E (fun _ => 0) (fun _ _ => 0, fun _ _ => 0) = some (1, y) := by
  obtain ⟨v0, e0⟩ := s_cell hE 0
  obtain ⟨v1, e1⟩ := s_cell hE 1
  obtain ⟨v2, e2⟩ := s_cell hE 2
  obtain ⟨v3, e3⟩ := s_cell hE 3
  have e0 : ∀ (L : Nat → Nat) (z : gZ), q_Law_cell E L 0 z = some v0 := e0
  have e1 : ∀ (L : Nat → Nat) (z : gZ), q_Law_cell E L 1 z = some v1 := e1
  have e2 : ∀ (L : Nat → Nat) (z : gZ), q_Law_cell E L 2 z = some v2 := e2
  have e3 : ∀ (L : Nat → Nat) (z : gZ), q_Law_cell E L 3 z = some v3 := e3
  have hf : fr 0 ((fun _ _ => 0, fun _ _ => 0) : gZ) := ⟨fun _ _ _ => rfl, fun _ _ => rfl⟩
  have hl : ln (cf v0 v1 v2 v3) 0 (fun _ => 0) := fun k => by rw [if_neg (by omega)]
  have main : zOk (q_Law_law E (fun _ => 0) (fun _ _ => 0, fun _ _ => 0)) (fun r => r.1 = 1) := by
    unfold q_Law_law
    refine ok_new hf hl rfl fun L1 h1 => ?_
    rw [e0, b1_s, e1, b1_s, e2, b1_s, e3, b1_s, ok_2]
    refine ok_w (s_both (E := E) rfl hf h1) fun r ⟨r1, r2⟩ => ?_
    show zOk (gB1 (q_Law_cell E (zZrL r.1 94 107) 0 (zZr r.2 94)) _) _
    rw [zZr_id (r1.1 94 · (by omega)) (r1.2 94), e0, b1_s, e1, b1_s, e2, b1_s, e3, b1_s, ok_2]
    refine ok_w (r2 _ rfl) ?_
    rintro ⟨L2, z2⟩ ⟨q1, q2, q3, q4, q5⟩
    have q1 : L2 = kL (cf v0 v1 v2 v3) := q1
    subst q1
    rw [ok_1]
    exact ok_w (h _ _ q2.1 q2.2 q5 q3 q4) fun e _ => (ok_s _ _).2 rfl
  obtain ⟨⟨a, y⟩, h1, h2⟩ := main
  have h2 : a = 1 := h2
  exact ⟨y, by rw [h1, h2]⟩
end
-- M2
section
variable {E : gEv} {c : gCf}
/-- one law for each call, over one invariant of the calls so far -/
abbrev LW (E : gEv) (c : gCf) (I : Nat → gZ → Prop) : Prop := ∃ _ : (∀ n z, I n z → I (n + 1) z), ∃ _ : (∀ (n : Nat) (z : gZ) (a0 a1 a2 a3 a4 : Int), I n z → zOk (q_Face_feed E (kL c) a0 a1 a2 a3 a4 z) (fun s => zOk (q_Model_feed E (kL c) a0 a1 a2 a3 a4 s) (fun q => I (n + 1) q))), ∃ _ : (∀ (n : Nat) (z : gZ) (a0 : Int), I n z → zOk (q_Face_end E (kL c) a0 z) (fun r => zOk (q_Model_end E (kL c) a0 r.2) (fun q => r.1 = q.1 ∧ I (n + 1) q.2))), ∃ _ : (∀ (n : Nat) (z : gZ), I n z → zOk (q_Face_compile E (kL c) z) (fun r => zOk (q_Model_compile E (kL c) r.2) (fun q => r.1 = q.1 ∧ I (n + 1) q.2))), ∃ _ : (∀ (n : Nat) (z : gZ) (a0 : Int), I n z → zOk (q_Face_look E (kL c) a0 z) (fun v => zOk (q_Model_look E (kL c) a0 z) (fun q => v = q.1 ∧ I (n + 1) q.2))), ∃ _ : (∀ (n : Nat) (z : gZ) (a0 a1 : Int), I n z → zOk (q_Face_lut E (kL c) a0 a1 z) (fun v => zOk (q_Model_lut E (kL c) a0 a1 z) (fun q => v = q))), ∃ _ : (∀ (n : Nat) (z : gZ) (a0 a1 : Int), I n z → zOk (q_Face_element E (kL c) a0 a1 z) (fun v => zOk (q_Model_element E (kL c) a0 a1 z) (fun q => v = q))), ∃ _ : (∀ (n : Nat) (z : gZ) (a0 a1 : Int), I n z → (-2147483648 ≤ a1 ∧ a1 < 2147483648) → zOk (q_Face_net E (kL c) a0 a1 z) (fun v => zOk (q_Model_net E (kL c) a0 a1 z) (fun q => v = q))), ∃ _ : (∀ (n : Nat) (z : gZ) (a0 : Int), I n z → zOk (q_Face_tile E (kL c) a0 z) (fun v => zOk (q_Model_tile E (kL c) a0 z) (fun q => v = q))), ∃ _ : (∀ (n : Nat) (z : gZ) (a0 : Int), I n z → zOk (q_Face_pad E (kL c) a0 z) (fun v => zOk (q_Model_pad E (kL c) a0 z) (fun q => v = q))), ∃ _ : (∀ (n : Nat) (z : gZ) (a0 a1 a2 a3 : Int), I n z → (a0 = 0 ∨ a0 = 1) → (-2147483648 ≤ a3 ∧ a3 < 2147483648) → zOk (q_Face_swap E (kL c) a0 a1 a2 a3 z) (fun r => zOk (q_Model_swap E (kL c) a0 a1 a2 a3 r.2) (fun q => r.1 = q.1 ∧ I (n + 1) q.2))), ∃ _ : (∀ (n : Nat) (z : gZ) (a0 a1 : Int), I n z → zOk (q_Face_shake E (kL c) a0 a1 z) (fun r => zOk (q_Model_shake E (kL c) a0 a1 r.2) (fun q => r.1 = q.1 ∧ I (n + 1) q.2))), ∃ _ : (∀ (n : Nat) (z : gZ) (a0 : Int), I n z → zOk (q_Face_route E (kL c) a0 z) (fun r => zOk (q_Model_route E (kL c) a0 r.2) (fun q => r.1 = q.1 ∧ I (n + 1) q.2))), ∃ _ : (∀ (n : Nat) (z : gZ) (a0 : Int), I n z → zOk (q_Face_owner E (kL c) a0 z) (fun v => zOk (q_Model_owner E (kL c) a0 z) (fun q => v = q))), ∃ _ : (∀ (n : Nat) (z : gZ), I n z → zOk (q_Face_burn E (kL c) z) (fun r => zOk (q_Model_burn E (kL c) r.2) (fun q => r.1 = q.1 ∧ I (n + 1) q.2))), ∃ _ : (∀ (n : Nat) (z : gZ) (a0 : Int), I n z → zOk (q_Face_bit E (kL c) a0 z) (fun v => zOk (q_Model_bit E (kL c) a0 z) (fun q => v = q))), ∃ _ : (∀ (n : Nat) (z : gZ) (a0 : Int), I n z → zOk (q_Face_flip E (kL c) a0 z) (fun r => zOk (q_Model_flip E (kL c) a0 r.2) (fun q => r.1 = q.1 ∧ I (n + 1) q.2))), ∃ _ : (∀ (n : Nat) (z : gZ), I n z → zOk (q_Face_start E (kL c) z) (fun s => zOk (q_Model_start E (kL c) s) (fun q => I (n + 1) q))), ∃ _ : (∀ (n : Nat) (z : gZ) (a0 a1 : Int), I n z → (a1 = 0 ∨ a1 = 1) → zOk (q_Face_level E (kL c) a0 a1 z) (fun r => zOk (q_Model_level E (kL c) a0 a1 r.2) (fun q => r.1 = q.1 ∧ I (n + 1) q.2))), ∃ _ : (∀ (n : Nat) (z : gZ) (a0 : Int), I n z → n < 1000 → zOk (q_Face_tick E (kL c) a0 z) (fun r => zOk (q_Model_tick E (kL c) a0 r.2) (fun q => r.1 = q.1 ∧ I (n + 1) q.2))), ∃ _ : (∀ (n : Nat) (z : gZ) (a0 a1 : Int), I n z → zOk (q_Face_probe E (kL c) a0 a1 z) (fun r => zOk (q_Model_probe E (kL c) a0 a1 r.2) (fun q => r.1 = q.1 ∧ I (n + 1) q.2))), ∃ _ : (∀ (n : Nat) (z : gZ) (a0 a1 : Int), I n z → (a1 = 0 ∨ a1 = 1) → zOk (q_Face_drive E (kL c) a0 a1 z) (fun r => zOk (q_Model_drive E (kL c) a0 a1 r.2) (fun q => r.1 = q.1 ∧ I (n + 1) q.2))), ∃ _ : (∀ (n : Nat) (z : gZ) (a0 : Int), I n z → n < 1000 → zOk (q_Face_clock E (kL c) a0 z) (fun r => zOk (q_Model_clock E (kL c) a0 r.2) (fun q => r.1 = q.1 ∧ I (n + 1) q.2))), ∃ _ : (∀ (n : Nat) (z : gZ) (a0 : Int), I n z → zOk (q_Face_value E (kL c) a0 z) (fun r => zOk (q_Model_value E (kL c) a0 r.2) (fun q => r.1 = q.1 ∧ I (n + 1) q.2))), (∀ (n : Nat) (z : gZ) (a0 : Int), I n z → zOk (q_Face_out E (kL c) a0 z) (fun r => zOk (q_Model_out E (kL c) a0 r.2) (fun q => r.1 = q.1 ∧ I (n + 1) q.2)))
theorem LW.none {E : gEv} {c : gCf} {I : Nat → gZ → Prop} (h : LW E c I) : ∀ n z, I n z → I (n + 1) z := by obtain ⟨x, _⟩ := h; exact x
theorem LW.feed_ {E : gEv} {c : gCf} {I : Nat → gZ → Prop} (h : LW E c I) : ∀ (n : Nat) (z : gZ) (a0 a1 a2 a3 a4 : Int), I n z → zOk (q_Face_feed E (kL c) a0 a1 a2 a3 a4 z) (fun s => zOk (q_Model_feed E (kL c) a0 a1 a2 a3 a4 s) (fun q => I (n + 1) q)) := by obtain ⟨_, x, _⟩ := h; exact x
theorem LW.end_ {E : gEv} {c : gCf} {I : Nat → gZ → Prop} (h : LW E c I) : ∀ (n : Nat) (z : gZ) (a0 : Int), I n z → zOk (q_Face_end E (kL c) a0 z) (fun r => zOk (q_Model_end E (kL c) a0 r.2) (fun q => r.1 = q.1 ∧ I (n + 1) q.2)) := by obtain ⟨_, _, x, _⟩ := h; exact x
theorem LW.compile_ {E : gEv} {c : gCf} {I : Nat → gZ → Prop} (h : LW E c I) : ∀ (n : Nat) (z : gZ), I n z → zOk (q_Face_compile E (kL c) z) (fun r => zOk (q_Model_compile E (kL c) r.2) (fun q => r.1 = q.1 ∧ I (n + 1) q.2)) := by obtain ⟨_, _, _, x, _⟩ := h; exact x
theorem LW.look_ {E : gEv} {c : gCf} {I : Nat → gZ → Prop} (h : LW E c I) : ∀ (n : Nat) (z : gZ) (a0 : Int), I n z → zOk (q_Face_look E (kL c) a0 z) (fun v => zOk (q_Model_look E (kL c) a0 z) (fun q => v = q.1 ∧ I (n + 1) q.2)) := by obtain ⟨_, _, _, _, x, _⟩ := h; exact x
theorem LW.lut_ {E : gEv} {c : gCf} {I : Nat → gZ → Prop} (h : LW E c I) : ∀ (n : Nat) (z : gZ) (a0 a1 : Int), I n z → zOk (q_Face_lut E (kL c) a0 a1 z) (fun v => zOk (q_Model_lut E (kL c) a0 a1 z) (fun q => v = q)) := by obtain ⟨_, _, _, _, _, x, _⟩ := h; exact x
theorem LW.element_ {E : gEv} {c : gCf} {I : Nat → gZ → Prop} (h : LW E c I) : ∀ (n : Nat) (z : gZ) (a0 a1 : Int), I n z → zOk (q_Face_element E (kL c) a0 a1 z) (fun v => zOk (q_Model_element E (kL c) a0 a1 z) (fun q => v = q)) := by obtain ⟨_, _, _, _, _, _, x, _⟩ := h; exact x
theorem LW.net_ {E : gEv} {c : gCf} {I : Nat → gZ → Prop} (h : LW E c I) : ∀ (n : Nat) (z : gZ) (a0 a1 : Int), I n z → (-2147483648 ≤ a1 ∧ a1 < 2147483648) → zOk (q_Face_net E (kL c) a0 a1 z) (fun v => zOk (q_Model_net E (kL c) a0 a1 z) (fun q => v = q)) := by obtain ⟨_, _, _, _, _, _, _, x, _⟩ := h; exact x
theorem LW.tile_ {E : gEv} {c : gCf} {I : Nat → gZ → Prop} (h : LW E c I) : ∀ (n : Nat) (z : gZ) (a0 : Int), I n z → zOk (q_Face_tile E (kL c) a0 z) (fun v => zOk (q_Model_tile E (kL c) a0 z) (fun q => v = q)) := by obtain ⟨_, _, _, _, _, _, _, _, x, _⟩ := h; exact x
theorem LW.pad_ {E : gEv} {c : gCf} {I : Nat → gZ → Prop} (h : LW E c I) : ∀ (n : Nat) (z : gZ) (a0 : Int), I n z → zOk (q_Face_pad E (kL c) a0 z) (fun v => zOk (q_Model_pad E (kL c) a0 z) (fun q => v = q)) := by obtain ⟨_, _, _, _, _, _, _, _, _, x, _⟩ := h; exact x
theorem LW.swap_ {E : gEv} {c : gCf} {I : Nat → gZ → Prop} (h : LW E c I) : ∀ (n : Nat) (z : gZ) (a0 a1 a2 a3 : Int), I n z → (a0 = 0 ∨ a0 = 1) → (-2147483648 ≤ a3 ∧ a3 < 2147483648) → zOk (q_Face_swap E (kL c) a0 a1 a2 a3 z) (fun r => zOk (q_Model_swap E (kL c) a0 a1 a2 a3 r.2) (fun q => r.1 = q.1 ∧ I (n + 1) q.2)) := by obtain ⟨_, _, _, _, _, _, _, _, _, _, x, _⟩ := h; exact x
theorem LW.shake_ {E : gEv} {c : gCf} {I : Nat → gZ → Prop} (h : LW E c I) : ∀ (n : Nat) (z : gZ) (a0 a1 : Int), I n z → zOk (q_Face_shake E (kL c) a0 a1 z) (fun r => zOk (q_Model_shake E (kL c) a0 a1 r.2) (fun q => r.1 = q.1 ∧ I (n + 1) q.2)) := by obtain ⟨_, _, _, _, _, _, _, _, _, _, _, x, _⟩ := h; exact x
theorem LW.route_ {E : gEv} {c : gCf} {I : Nat → gZ → Prop} (h : LW E c I) : ∀ (n : Nat) (z : gZ) (a0 : Int), I n z → zOk (q_Face_route E (kL c) a0 z) (fun r => zOk (q_Model_route E (kL c) a0 r.2) (fun q => r.1 = q.1 ∧ I (n + 1) q.2)) := by obtain ⟨_, _, _, _, _, _, _, _, _, _, _, _, x, _⟩ := h; exact x
theorem LW.owner_ {E : gEv} {c : gCf} {I : Nat → gZ → Prop} (h : LW E c I) : ∀ (n : Nat) (z : gZ) (a0 : Int), I n z → zOk (q_Face_owner E (kL c) a0 z) (fun v => zOk (q_Model_owner E (kL c) a0 z) (fun q => v = q)) := by obtain ⟨_, _, _, _, _, _, _, _, _, _, _, _, _, x, _⟩ := h; exact x
theorem LW.burn_ {E : gEv} {c : gCf} {I : Nat → gZ → Prop} (h : LW E c I) : ∀ (n : Nat) (z : gZ), I n z → zOk (q_Face_burn E (kL c) z) (fun r => zOk (q_Model_burn E (kL c) r.2) (fun q => r.1 = q.1 ∧ I (n + 1) q.2)) := by obtain ⟨_, _, _, _, _, _, _, _, _, _, _, _, _, _, x, _⟩ := h; exact x
theorem LW.bit_ {E : gEv} {c : gCf} {I : Nat → gZ → Prop} (h : LW E c I) : ∀ (n : Nat) (z : gZ) (a0 : Int), I n z → zOk (q_Face_bit E (kL c) a0 z) (fun v => zOk (q_Model_bit E (kL c) a0 z) (fun q => v = q)) := by obtain ⟨_, _, _, _, _, _, _, _, _, _, _, _, _, _, _, x, _⟩ := h; exact x
theorem LW.flip_ {E : gEv} {c : gCf} {I : Nat → gZ → Prop} (h : LW E c I) : ∀ (n : Nat) (z : gZ) (a0 : Int), I n z → zOk (q_Face_flip E (kL c) a0 z) (fun r => zOk (q_Model_flip E (kL c) a0 r.2) (fun q => r.1 = q.1 ∧ I (n + 1) q.2)) := by obtain ⟨_, _, _, _, _, _, _, _, _, _, _, _, _, _, _, _, x, _⟩ := h; exact x
theorem LW.start_ {E : gEv} {c : gCf} {I : Nat → gZ → Prop} (h : LW E c I) : ∀ (n : Nat) (z : gZ), I n z → zOk (q_Face_start E (kL c) z) (fun s => zOk (q_Model_start E (kL c) s) (fun q => I (n + 1) q)) := by obtain ⟨_, _, _, _, _, _, _, _, _, _, _, _, _, _, _, _, _, x, _⟩ := h; exact x
theorem LW.level_ {E : gEv} {c : gCf} {I : Nat → gZ → Prop} (h : LW E c I) : ∀ (n : Nat) (z : gZ) (a0 a1 : Int), I n z → (a1 = 0 ∨ a1 = 1) → zOk (q_Face_level E (kL c) a0 a1 z) (fun r => zOk (q_Model_level E (kL c) a0 a1 r.2) (fun q => r.1 = q.1 ∧ I (n + 1) q.2)) := by obtain ⟨_, _, _, _, _, _, _, _, _, _, _, _, _, _, _, _, _, _, x, _⟩ := h; exact x
theorem LW.tick_ {E : gEv} {c : gCf} {I : Nat → gZ → Prop} (h : LW E c I) : ∀ (n : Nat) (z : gZ) (a0 : Int), I n z → n < 1000 → zOk (q_Face_tick E (kL c) a0 z) (fun r => zOk (q_Model_tick E (kL c) a0 r.2) (fun q => r.1 = q.1 ∧ I (n + 1) q.2)) := by obtain ⟨_, _, _, _, _, _, _, _, _, _, _, _, _, _, _, _, _, _, _, x, _⟩ := h; exact x
theorem LW.probe_ {E : gEv} {c : gCf} {I : Nat → gZ → Prop} (h : LW E c I) : ∀ (n : Nat) (z : gZ) (a0 a1 : Int), I n z → zOk (q_Face_probe E (kL c) a0 a1 z) (fun r => zOk (q_Model_probe E (kL c) a0 a1 r.2) (fun q => r.1 = q.1 ∧ I (n + 1) q.2)) := by obtain ⟨_, _, _, _, _, _, _, _, _, _, _, _, _, _, _, _, _, _, _, _, x, _⟩ := h; exact x
theorem LW.drive_ {E : gEv} {c : gCf} {I : Nat → gZ → Prop} (h : LW E c I) : ∀ (n : Nat) (z : gZ) (a0 a1 : Int), I n z → (a1 = 0 ∨ a1 = 1) → zOk (q_Face_drive E (kL c) a0 a1 z) (fun r => zOk (q_Model_drive E (kL c) a0 a1 r.2) (fun q => r.1 = q.1 ∧ I (n + 1) q.2)) := by obtain ⟨_, _, _, _, _, _, _, _, _, _, _, _, _, _, _, _, _, _, _, _, _, x, _⟩ := h; exact x
theorem LW.clock_ {E : gEv} {c : gCf} {I : Nat → gZ → Prop} (h : LW E c I) : ∀ (n : Nat) (z : gZ) (a0 : Int), I n z → n < 1000 → zOk (q_Face_clock E (kL c) a0 z) (fun r => zOk (q_Model_clock E (kL c) a0 r.2) (fun q => r.1 = q.1 ∧ I (n + 1) q.2)) := by obtain ⟨_, _, _, _, _, _, _, _, _, _, _, _, _, _, _, _, _, _, _, _, _, _, x, _⟩ := h; exact x
theorem LW.value_ {E : gEv} {c : gCf} {I : Nat → gZ → Prop} (h : LW E c I) : ∀ (n : Nat) (z : gZ) (a0 : Int), I n z → zOk (q_Face_value E (kL c) a0 z) (fun r => zOk (q_Model_value E (kL c) a0 r.2) (fun q => r.1 = q.1 ∧ I (n + 1) q.2)) := by obtain ⟨_, _, _, _, _, _, _, _, _, _, _, _, _, _, _, _, _, _, _, _, _, _, _, x, _⟩ := h; exact x
theorem LW.out_ {E : gEv} {c : gCf} {I : Nat → gZ → Prop} (h : LW E c I) : ∀ (n : Nat) (z : gZ) (a0 : Int), I n z → zOk (q_Face_out E (kL c) a0 z) (fun r => zOk (q_Model_out E (kL c) a0 r.2) (fun q => r.1 = q.1 ∧ I (n + 1) q.2)) := by obtain ⟨_, _, _, _, _, _, _, _, _, _, _, _, _, _, _, _, _, _, _, _, _, _, _, _, x⟩ := h; exact x
def lwE (i : Nat) (t : gZ) : Int × gZ := (((4 + 6 * i : Nat) : Int), t)
def lwQ (I : Nat → gZ → Prop) (i : Nat) (r : (Int × gZ) ⊕ gZ) : Prop := (∃ t', r = .inl (lwE (i + 1) t') ∧ I (i + 1) t') ∨ ∃ e, r = .inr e ∧ True
theorem lw_tl {I : Nat → gZ → Prop} {i : Nat} (hi : i < 1000) {z : gZ} (h : I (i + 1) z) : zOk (if -2147483648 ≤ ((4 + 6 * i : Nat) : Int) + 6 ∧ ((4 + 6 * i : Nat) : Int) + 6 < 2147483648 then gLet (((4 + 6 * i : Nat) : Int) + 6) fun x => some (.inl (x, z)) else none) (lwQ I i) := by
  rw [if_pos (by omega), let_s]
  refine ok_inl (Or.inl ⟨z, ?_, h⟩)
  unfold lwE
  rw [show ((4 + 6 * i : Nat) : Int) + 6 = ((4 + 6 * (i + 1) : Nat) : Int) by omega]
theorem lw_body {I : Nat → gZ → Prop} (H : LW E c I) (hE : (E 1000).1 ≤ 3076) {i : Nat} {z : gZ} (hi : 4 + 6 * i + 6 ≤ (E 1000).1) (h : I i z) : zOk (q_Law_law_58 E (kL c) ((4 + 6 * i : Nat) : Int) z) (lwQ I i) := by
  have hz : zOf ((E 1000).1) = ((E 1000).1 : Int) := by
    unfold zOf
    have := n_i32 ((E 1000).1 : Int) (by omega)
    rw [← this]
    congr 1
  have tl : ∀ {z : gZ}, I (i + 1) z → zOk (if -2147483648 ≤ ((4 + 6 * i : Nat) : Int) + 6 ∧ ((4 + 6 * i : Nat) : Int) + 6 < 2147483648 then gLet (((4 + 6 * i : Nat) : Int) + 6) fun x => some (.inl (x, z)) else none) (lwQ I i) := fun h => lw_tl (by omega) h
  have g0 : 0 ≤ ((4 + 6 * i : Nat) : Int) ∧ ((4 + 6 * i : Nat) : Int) < (((E 1000).1 : Nat) : Int) := by omega
  have g1 : 0 ≤ ((4 + 6 * i : Nat) : Int) + 1 ∧ ((4 + 6 * i : Nat) : Int) + 1 < (((E 1000).1 : Nat) : Int) := by omega
  have g2 : 0 ≤ ((4 + 6 * i : Nat) : Int) + 2 ∧ ((4 + 6 * i : Nat) : Int) + 2 < (((E 1000).1 : Nat) : Int) := by omega
  have g3 : 0 ≤ ((4 + 6 * i : Nat) : Int) + 3 ∧ ((4 + 6 * i : Nat) : Int) + 3 < (((E 1000).1 : Nat) : Int) := by omega
  have g4 : 0 ≤ ((4 + 6 * i : Nat) : Int) + 4 ∧ ((4 + 6 * i : Nat) : Int) + 4 < (((E 1000).1 : Nat) : Int) := by omega
  have g5 : 0 ≤ ((4 + 6 * i : Nat) : Int) + 5 ∧ ((4 + 6 * i : Nat) : Int) + 5 < (((E 1000).1 : Nat) : Int) := by omega
  have hl : -2147483648 ≤ zOf ((E 1000).1) - 6 ∧ zOf ((E 1000).1) - 6 < 2147483648 := by omega
  have hl2 : ¬ zOf ((E 1000).1) - 6 < ((4 + 6 * i : Nat) : Int) := by omega
  unfold q_Law_law_58
  rw [if_pos hl, if_neg hl2, if_pos g0]
  generalize zAnd (((E 1000).2 (((4 + 6 * i : Nat) : Int)).toNat).toInt) 31 = op
  by_cases o0 : op = 0
  · rw [if_pos o0, if_pos g1, if_pos g2, if_pos g3, if_pos g4, if_pos g5, ok_1]
    refine ok_w (H.feed_ i z _ _ _ _ _ h) fun r hr => ?_
    rw [ok_1]
    exact ok_w hr fun q hq => tl hq
  rw [if_neg o0]
  by_cases o1 : op = 1
  · rw [if_pos o1, if_pos g1, ok_2]
    refine ok_w (H.end_ i z _ h) fun r hr => ?_
    rw [ok_2]
    refine ok_w hr fun q hq => ?_
    rw [if_pos hq.1]; exact tl hq.2
  rw [if_neg o1]
  by_cases o2 : op = 2
  · rw [if_pos o2, ok_2]
    refine ok_w (H.compile_ i z h) fun r hr => ?_
    rw [ok_2]
    refine ok_w hr fun q hq => ?_
    rw [if_pos hq.1]; exact tl hq.2
  rw [if_neg o2]
  by_cases o3 : op = 3
  · rw [if_pos o3, if_pos g1, ok_1]
    refine ok_w (H.look_ i z _ h) fun r hr => ?_
    rw [ok_2]
    refine ok_w hr fun q hq => ?_
    rw [if_pos hq.1]; exact tl hq.2
  rw [if_neg o3]
  by_cases o4 : op = 4
  · rw [if_pos o4, if_pos g1, if_pos g2, ok_1]
    refine ok_w (H.lut_ i z _ _ h) fun r hr => ?_
    rw [ok_1]
    refine ok_w hr fun q hq => ?_
    rw [if_pos hq]; exact tl (H.none i z h)
  rw [if_neg o4]
  by_cases o5 : op = 5
  · rw [if_pos o5, if_pos g1, if_pos g2, ok_1]
    refine ok_w (H.element_ i z _ _ h) fun r hr => ?_
    rw [ok_1]
    refine ok_w hr fun q hq => ?_
    rw [if_pos hq]; exact tl (H.none i z h)
  rw [if_neg o5]
  by_cases o6 : op = 6
  · rw [if_pos o6, if_pos g1, if_pos g2, ok_1]
    refine ok_w (H.net_ i z _ _ h (n_rng _)) fun r hr => ?_
    rw [ok_1]
    refine ok_w hr fun q hq => ?_
    rw [if_pos hq]; exact tl (H.none i z h)
  rw [if_neg o6]
  by_cases o7 : op = 7
  · rw [if_pos o7, if_pos g1, ok_1]
    refine ok_w (H.tile_ i z _ h) fun r hr => ?_
    rw [ok_1]
    refine ok_w hr fun q hq => ?_
    rw [if_pos hq]; exact tl (H.none i z h)
  rw [if_neg o7]
  by_cases o8 : op = 8
  · rw [if_pos o8, if_pos g1, ok_1]
    refine ok_w (H.pad_ i z _ h) fun r hr => ?_
    rw [ok_1]
    refine ok_w hr fun q hq => ?_
    rw [if_pos hq]; exact tl (H.none i z h)
  rw [if_neg o8]
  by_cases o9 : op = 9
  · rw [if_pos o9, if_pos g1]
    by_cases b : ((E 1000).2 ((((4 + 6 * i : Nat) : Int) + 1).toNat)).toInt = 0
    · rw [if_pos b]
      unfold q_Law_law_j463_58
      rw [if_pos g2, if_pos g3, if_pos g4, ok_2]
      refine ok_w (H.swap_ i z _ _ _ _ h (by omega) (n_rng _)) fun r hr => ?_
      rw [if_pos g1, if_pos b]
      unfold q_Law_law_j495_58
      rw [if_pos g2, if_pos g3, if_pos g4, ok_2]
      refine ok_w hr fun q hq => ?_
      rw [if_pos hq.1]; exact tl hq.2
    · rw [if_neg b]
      unfold q_Law_law_j463_58
      rw [if_pos g2, if_pos g3, if_pos g4, ok_2]
      refine ok_w (H.swap_ i z _ _ _ _ h (by omega) (n_rng _)) fun r hr => ?_
      rw [if_pos g1, if_neg b]
      unfold q_Law_law_j495_58
      rw [if_pos g2, if_pos g3, if_pos g4, ok_2]
      refine ok_w hr fun q hq => ?_
      rw [if_pos hq.1]; exact tl hq.2
  rw [if_neg o9]
  by_cases o10 : op = 10
  · rw [if_pos o10, if_pos g1, if_pos g2, ok_2]
    refine ok_w (H.shake_ i z _ _ h) fun r hr => ?_
    rw [ok_2]
    refine ok_w hr fun q hq => ?_
    rw [if_pos hq.1]; exact tl hq.2
  rw [if_neg o10]
  by_cases o11 : op = 11
  · rw [if_pos o11, if_pos g1, ok_2]
    refine ok_w (H.route_ i z _ h) fun r hr => ?_
    rw [ok_2]
    refine ok_w hr fun q hq => ?_
    rw [if_pos hq.1]; exact tl hq.2
  rw [if_neg o11]
  by_cases o12 : op = 12
  · rw [if_pos o12, if_pos g1, ok_1]
    refine ok_w (H.owner_ i z _ h) fun r hr => ?_
    rw [ok_1]
    refine ok_w hr fun q hq => ?_
    rw [if_pos hq]; exact tl (H.none i z h)
  rw [if_neg o12]
  by_cases o13 : op = 13
  · rw [if_pos o13, ok_2]
    refine ok_w (H.burn_ i z h) fun r hr => ?_
    rw [ok_2]
    refine ok_w hr fun q hq => ?_
    rw [if_pos hq.1]; exact tl hq.2
  rw [if_neg o13]
  by_cases o14 : op = 14
  · rw [if_pos o14, if_pos g1, ok_1]
    refine ok_w (H.bit_ i z _ h) fun r hr => ?_
    rw [ok_1]
    refine ok_w hr fun q hq => ?_
    rw [if_pos hq]; exact tl (H.none i z h)
  rw [if_neg o14]
  by_cases o15 : op = 15
  · rw [if_pos o15, if_pos g1, ok_2]
    refine ok_w (H.flip_ i z _ h) fun r hr => ?_
    rw [ok_2]
    refine ok_w hr fun q hq => ?_
    rw [if_pos hq.1]; exact tl hq.2
  rw [if_neg o15]
  by_cases o16 : op = 16
  · rw [if_pos o16, ok_1]
    refine ok_w (H.start_ i z h) fun r hr => ?_
    rw [ok_1]
    exact ok_w hr fun q hq => tl hq
  rw [if_neg o16]
  by_cases o17 : op = 17
  · rw [if_pos o17, if_pos g1, if_pos g2]
    by_cases b : ((E 1000).2 ((((4 + 6 * i : Nat) : Int) + 2).toNat)).toInt = 0
    · rw [if_pos b]
      unfold q_Law_law_j686_58
      rw [ok_2]
      refine ok_w (H.level_ i z _ _ h (by omega)) fun r hr => ?_
      rw [if_pos g1, if_pos g2, if_pos b]
      unfold q_Law_law_j708_58
      rw [ok_2]
      refine ok_w hr fun q hq => ?_
      rw [if_pos hq.1]; exact tl hq.2
    · rw [if_neg b]
      unfold q_Law_law_j686_58
      rw [ok_2]
      refine ok_w (H.level_ i z _ _ h (by omega)) fun r hr => ?_
      rw [if_pos g1, if_pos g2, if_neg b]
      unfold q_Law_law_j708_58
      rw [ok_2]
      refine ok_w hr fun q hq => ?_
      rw [if_pos hq.1]; exact tl hq.2
  rw [if_neg o17]
  by_cases o18 : op = 18
  · rw [if_pos o18, if_pos g1, ok_2]
    refine ok_w (H.tick_ i z _ h (by omega)) fun r hr => ?_
    rw [ok_2]
    refine ok_w hr fun q hq => ?_
    rw [if_pos hq.1]; exact tl hq.2
  rw [if_neg o18]
  by_cases o19 : op = 19
  · rw [if_pos o19, if_pos g1, if_pos g2, ok_2]
    refine ok_w (H.probe_ i z _ _ h) fun r hr => ?_
    rw [ok_2]
    refine ok_w hr fun q hq => ?_
    rw [if_pos hq.1]; exact tl hq.2
  rw [if_neg o19]
  by_cases o20 : op = 20
  · rw [if_pos o20, if_pos g1, if_pos g2]
    by_cases b : ((E 1000).2 ((((4 + 6 * i : Nat) : Int) + 2).toNat)).toInt = 0
    · rw [if_pos b]
      unfold q_Law_law_j791_58
      rw [ok_2]
      refine ok_w (H.drive_ i z _ _ h (by omega)) fun r hr => ?_
      rw [if_pos g1, if_pos g2, if_pos b]
      unfold q_Law_law_j813_58
      rw [ok_2]
      refine ok_w hr fun q hq => ?_
      rw [if_pos hq.1]; exact tl hq.2
    · rw [if_neg b]
      unfold q_Law_law_j791_58
      rw [ok_2]
      refine ok_w (H.drive_ i z _ _ h (by omega)) fun r hr => ?_
      rw [if_pos g1, if_pos g2, if_neg b]
      unfold q_Law_law_j813_58
      rw [ok_2]
      refine ok_w hr fun q hq => ?_
      rw [if_pos hq.1]; exact tl hq.2
  rw [if_neg o20]
  by_cases o21 : op = 21
  · rw [if_pos o21, if_pos g1, ok_2]
    refine ok_w (H.clock_ i z _ h (by omega)) fun r hr => ?_
    rw [ok_2]
    refine ok_w hr fun q hq => ?_
    rw [if_pos hq.1]; exact tl hq.2
  rw [if_neg o21]
  by_cases o22 : op = 22
  · rw [if_pos o22, if_pos g1, ok_2]
    refine ok_w (H.value_ i z _ h) fun r hr => ?_
    rw [ok_2]
    refine ok_w hr fun q hq => ?_
    rw [if_pos hq.1]; exact tl hq.2
  rw [if_neg o22]
  by_cases o23 : op = 23
  · rw [if_pos o23, if_pos g1, ok_2]
    refine ok_w (H.out_ i z _ h) fun r hr => ?_
    rw [ok_2]
    refine ok_w hr fun q hq => ?_
    rw [if_pos hq.1]; exact tl hq.2
  rw [if_neg o23]
  exact tl (H.none i z h)
theorem lw_loop {I : Nat → gZ → Prop} (H : LW E c I) (hE : (E 1000).1 ≤ 3076) {z : gZ} (h : I 0 z) : zOk (gIter (fun y => q_Law_law_58 E (kL c) y.1 y.2) gN (4, z)) (fun _ => True) := by
  have hz : zOf ((E 1000).1) = ((E 1000).1 : Int) := by
    unfold zOf
    have := n_i32 ((E 1000).1 : Int) (by omega)
    rw [← this]
    congr 1
  refine it_for lwE I 0 (((E 1000).1 - 4) / 6) (t := z) rfl h (by omega) (by omega) ?_ ?_
  · intro i t _ hi ht
    exact lw_body H hE (by omega) ht
  · intro t ht
    show zOk (q_Law_law_58 E (kL c) ((4 + 6 * (((E 1000).1 - 4) / 6) : Nat) : Int) t) _
    unfold q_Law_law_58
    rw [if_pos (by omega), if_pos (by omega)]
    exact ok_inr ⟨t, rfl, trivial⟩
end
-- M3
section
variable {E : gEv} {c : gCf}
/-- the look-up tables of both sides: n of them, none where nothing is compiled -/
def iLut (c : gCf) (z : gZ) : Prop := ∃ n : Nat, n ≤ kP c ∧ z.1 30 10 = n ∧ ((z.1 94 106 = 0 ∧ n = 0) ∨ (z.1 94 106 = 1 ∧ z.1 94 46 = n)) ∧ (∀ a, a < n → z.1 36 a = z.1 118 a) ∧ ∀ j, j < n * 4 → z.1 35 j = z.1 117 j
theorem l_lut {z : gZ} (hk : kOk c) (h : iLut c z) (a b : Int) : zOk (q_Face_lut E (kL c) a b z) (fun v => zOk (q_Model_lut E (kL c) a b z) (fun q => v = q)) := by
  obtain ⟨n, hn, h1, h2, h3, h4⟩ := h
  have hP := kP_b hk
  unfold q_Face_lut q_Model_lut
  rw [h1, kL_35, kL_36, kL_117, kL_118]
  by_cases e0 : a < 0
  · rw [if_pos e0, ok_s, if_pos e0]
    by_cases e : z.1 94 106 = 0
    · rw [if_pos e, ok_s]
    · rw [if_neg e, ok_s]
  rw [if_neg e0, if_neg e0]
  by_cases e1 : (n : Int) ≤ a
  · rw [if_pos e1, ok_s]
    rcases h2 with ⟨g, g'⟩ | ⟨g, g'⟩
    · rw [if_pos g, ok_s]
    · rw [if_neg (by omega), g', if_pos e1, ok_s]
  · have g : z.1 94 106 = 1 ∧ z.1 94 46 = n := by
      rcases h2 with ⟨g, g'⟩ | g
      · omega
      · exact g
    rw [if_neg e1, if_neg (show ¬ z.1 94 106 = 0 by omega), g.2, if_neg e1]
    by_cases e2 : b < 0
    · rw [if_pos e2, ok_s, if_pos e2, ok_s]
    rw [if_neg e2, if_neg e2]
    by_cases e3 : b ≤ 4
    · rw [if_pos e3, if_pos e3]
      by_cases e4 : b = 4
      · rw [if_pos e4, if_pos e4, if_pos (by omega), ok_s, if_pos (by omega), ok_s]
        exact h3 _ (by omega)
      · rw [if_neg e4, if_neg e4, if_pos (by omega), ok_s, if_pos (by omega), ok_s, show 4 * a + b = a * 4 + b by omega]
        exact h4 _ (by omega)
    · rw [if_neg e3, ok_s, if_neg e3, ok_s]
/-- the tiles -/
def iTil (c : gCf) (z : gZ) : Prop := (∀ t, t < kN c → z.1 94 106 = 0 → z.1 68 t = -1) ∧ (z.1 94 106 ≠ 0 → ∀ t, t < kN c → z.1 68 t = z.1 136 t)
theorem l_tile {z : gZ} (g : Gr c z) (h : iTil c z) (a : Int) : zOk (q_Face_tile E (kL c) a z) (fun v => zOk (q_Model_tile E (kL c) a z) (fun q => v = q)) := by
  have hN := kN_b g.1
  have hD := kD_b g.1
  have o4 : z.1 1 4 = kN c := g.2.1.2.2.2.2.1
  have m4 : z.1 94 4 = kN c := g.2.2.1.2.2.2.2.1
  unfold q_Face_tile q_Model_tile
  rw [o4, m4, kL_68, kL_136]
  by_cases e0 : a < 0
  · rw [if_pos e0, ok_s, if_pos e0]
    by_cases e : z.1 94 106 = 0
    · rw [if_pos e, ok_s]
    · rw [if_neg e, ok_s]
  rw [if_neg e0, if_neg e0]
  by_cases e1 : a < (kN c : Int)
  · rw [if_pos e1, if_pos e1, if_pos (by omega), ok_s]
    by_cases e : z.1 94 106 = 0
    · rw [if_pos e, ok_s]; exact h.1 _ (by omega) e
    · rw [if_neg e, if_pos (by omega), ok_s]; exact h.2 e _ (by omega)
  · rw [if_neg e1, ok_s, if_neg e1]
    by_cases e : z.1 94 106 = 0
    · rw [if_pos e, ok_s]
    · rw [if_neg e, ok_s]
end
-- M4
section
variable {E : gEv} {c : gCf}
/-- the elements of both sides: m of them -/
def iEle (c : gCf) (z : gZ) : Prop := ∃ m : Nat, m ≤ kP c ∧ z.1 53 15 = m ∧ ((z.1 94 106 = 0 ∧ m = 0) ∨ (z.1 94 106 = 1 ∧ z.1 94 55 = m)) ∧ ∀ a, a < m → z.1 55 a = z.1 125 a ∧ z.1 56 a = z.1 133 a ∧ z.1 57 a = z.1 134 a
theorem l_element {z : gZ} (hk : kOk c) (h0 : iLut c z) (h : iEle c z) (a b : Int) : zOk (q_Face_element E (kL c) a b z) (fun v => zOk (q_Model_element E (kL c) a b z) (fun q => v = q)) := by
  obtain ⟨n, hn, k1, k2, -, -⟩ := h0
  obtain ⟨m, hm, h1, h2, h3⟩ := h
  have hP := kP_b hk
  unfold q_Face_element q_Model_element
  rw [h1, k1, kL_55, kL_56, kL_57, kL_125, kL_133, kL_134]
  by_cases e0 : a < 0
  · rw [if_pos e0, ok_s, if_pos e0]
    by_cases e : z.1 94 106 = 0
    · rw [if_pos e, ok_s]
    · rw [if_neg e, ok_s]
  rw [if_neg e0, if_neg e0]
  by_cases e1 : a < (m : Int)
  · have g : z.1 94 106 = 1 ∧ z.1 94 55 = m := by
      rcases h2 with ⟨g, g'⟩ | g
      · omega
      · exact g
    have g46 : z.1 94 46 = n := by
      rcases k2 with ⟨g1, g'⟩ | g1
      · omega
      · exact g1.2
    obtain ⟨t1, t2, t3⟩ := h3 a.toNat (by omega)
    rw [if_pos e1, if_neg (show ¬ z.1 94 106 = 0 by omega), g.2, if_neg (show ¬ (m : Int) ≤ a by omega), g46]
    by_cases b0 : b = 0
    · rw [if_pos b0, if_neg (show ¬ b < 0 by omega), if_pos (show b ≤ 3 by omega), if_pos b0]
      by_cases e2 : (n : Int) ≤ a
      · rw [if_pos e2, ok_s, ok_s]
      · rw [if_neg e2, ok_s, ok_s]
    rw [if_neg b0]
    by_cases b1 : b = 1
    · rw [if_pos b1, if_pos (by omega), ok_s, if_neg (show ¬ b < 0 by omega), if_pos (show b ≤ 3 by omega), if_neg b0, if_pos b1, if_pos (by omega), ok_s]; exact t1
    rw [if_neg b1]
    by_cases b2 : b = 2
    · rw [if_pos b2, if_pos (by omega), ok_s, if_neg (show ¬ b < 0 by omega), if_pos (show b ≤ 3 by omega), if_neg b0, if_neg b1, if_pos b2, if_pos (by omega), ok_s]; exact t2
    rw [if_neg b2]
    by_cases b3 : b = 3
    · rw [if_pos b3, if_pos (by omega), ok_s, if_neg (show ¬ b < 0 by omega), if_pos (show b ≤ 3 by omega), if_neg b0, if_neg b1, if_neg b2, if_pos (by omega), ok_s]; exact t3
    rw [if_neg b3, ok_s]
    by_cases e3 : b < 0
    · rw [if_pos e3, ok_s]
    · rw [if_neg e3, if_neg (show ¬ b ≤ 3 by omega), ok_s]
  · rw [if_neg e1, ok_s]
    rcases h2 with ⟨g, g'⟩ | ⟨g, g'⟩
    · rw [if_pos g, ok_s]
    · rw [if_neg (show ¬ z.1 94 106 = 0 by omega), g', if_pos (show (m : Int) ≤ a by omega), ok_s]
/-- the pads -/
def iPad (c : gCf) (z : gZ) : Prop := (z.1 94 106 = 0 → ∀ p, p < kD c → z.1 68 (kN c + p) = -1) ∧ (z.1 94 106 ≠ 0 → ∀ p, p < kD c → (z.1 68 (kN c + p) = -1 ∧ z.1 137 p = -1) ∨ ∃ x : Nat, x < 2 * kD c ∧ z.1 68 (kN c + p) = ((kN c + x : Nat) : Int) ∧ z.1 137 p = if kD c ≤ x then ((200 + (x - kD c) : Nat) : Int) else x)
theorem l_pad {z : gZ} (g : Gr c z) (h : iPad c z) (a : Int) : zOk (q_Face_pad E (kL c) a z) (fun v => zOk (q_Model_pad E (kL c) a z) (fun q => v = q)) := by
  have hN := kN_b g.1
  have hD := kD_b g.1
  have o4 : z.1 1 4 = kN c := g.2.1.2.2.2.2.1
  have o5 : z.1 1 5 = kD c := g.2.1.2.2.2.2.2.1
  have m6 : z.1 94 6 = kD c := g.2.2.1.2.2.2.2.2.2.1
  unfold q_Face_pad q_Model_pad
  rw [o4, o5, m6, kL_68, kL_137]
  by_cases e0 : a < 0
  · rw [if_pos e0, ok_s, if_pos e0]
    by_cases e : z.1 94 106 = 0
    · rw [if_pos e, ok_s]
    · rw [if_neg e, ok_s]
  rw [if_neg e0, if_neg e0]
  by_cases e1 : a < (kD c : Int)
  · rw [if_pos e1, if_pos e1, if_pos (by omega), ok_l, show ((kN c : Int) + a).toNat = kN c + a.toNat by omega]
    by_cases e : z.1 94 106 = 0
    · rw [if_pos e, if_pos (h.1 e _ (by omega)), ok_s, ok_s]
    · rw [if_neg e]
      rcases h.2 e a.toNat (by omega) with ⟨x1, x2⟩ | ⟨x, hx, x1, x2⟩
      · rw [if_pos x1, ok_s, if_pos (by omega), ok_s, x2]
      · rw [x1, if_neg (by omega), if_pos (by omega), ok_l, show ((kN c + x : Nat) : Int) - (kN c : Int) = (x : Int) by omega]
        by_cases e2 : kD c ≤ x
        · rw [if_pos (show (kD c : Int) ≤ (x : Int) by omega), if_pos (by omega), ok_s, if_pos (by omega), ok_s, x2, if_pos e2]; omega
        · rw [if_neg (show ¬ (kD c : Int) ≤ (x : Int) by omega), ok_s, if_pos (by omega), ok_s, x2, if_neg e2]
  · rw [if_neg e1, ok_s, if_neg e1]
    by_cases e : z.1 94 106 = 0
    · rw [if_pos e, ok_s]
    · rw [if_neg e, ok_s]
end
-- T
section
theorem ok_gd {α : Type} {c : Prop} [Decidable c] {a : Option α} {Q : α → Prop} (h : c) (k : zOk a Q) : zOk (if c then a else none) Q := by rw [if_pos h]; exact k
theorem ok_pos {α : Type} {c : Prop} [Decidable c] {a b : Option α} {Q : α → Prop} (h : c) (k : zOk a Q) : zOk (if c then a else b) Q := by rw [if_pos h]; exact k
theorem ok_neg {α : Type} {c : Prop} [Decidable c] {a b : Option α} {Q : α → Prop} (h : ¬ c) (k : zOk b Q) : zOk (if c then a else b) Q := by rw [if_neg h]; exact k
theorem ok_br {α : Type} {c : Prop} [Decidable c] {a b : Option α} {Q : α → Prop} (h : c → zOk a Q) (k : ¬ c → zOk b Q) : zOk (if c then a else b) Q := (ok_i a b Q).2 ⟨h, k⟩
theorem ok_ll {α β : Type} {x : α} {f : α → Option β} {Q : β → Prop} (h : zOk (f x) Q) : zOk (gLet x f) Q := h
theorem ok_so {α : Type} {x : α} {Q : α → Prop} (h : Q x) : zOk (some x) Q := ⟨x, rfl, h⟩
theorem ok_b1 {α β : Type} {x : Option α} {f : α → Option β} {Q : β → Prop} (P : α → Prop) (h : zOk x P) (k : ∀ a, P a → zOk (f a) Q) : zOk (gB1 x f) Q := (ok_1 x f Q).2 (ok_w h k)
theorem ok_b2 {α β γ : Type} {x : Option (α × β)} {f : α → β → Option γ} {Q : γ → Prop} (P : α × β → Prop) (h : zOk x P) (k : ∀ a b, P (a, b) → zOk (f a b) Q) : zOk (gB2 x f) Q := (ok_2 x f Q).2 (ok_w h fun a p => k a.1 a.2 p)
theorem ok_v1 {α β : Type} {x : Option α} {v : α} {f : α → Option β} {Q : β → Prop} (h : x = some v) (k : zOk (f v) Q) : zOk (gB1 x f) Q := by rw [h]; exact k
theorem ok_v2 {α β γ : Type} {x : Option (α × β)} {v : α × β} {f : α → β → Option γ} {Q : γ → Prop} (h : x = some v) (k : zOk (f v.1 v.2) Q) : zOk (gB2 x f) Q := by rw [h]; exact k
end
