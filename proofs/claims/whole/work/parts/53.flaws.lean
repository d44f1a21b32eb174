set_option linter.unusedVariables false
-- L1
section
variable {E : gEv} {c : gCf}
/-- the field, in both -/
def JF (c : gCf) (tb : Int) (z : gZ) : Prop := FI c z ∧ RI c z ∧ (∀ i, i < kB c → z.1 82 i = z.1 154 i) ∧ (∀ p, p < kD c → z.1 83 p = z.1 158 p) ∧ Ag c (z.1 84) (z.1 155) ∧ z.1 81 13 = z.1 94 99 ∧ 0 ≤ z.1 81 13 ∧ z.1 81 13 ≤ tb
def pF (k j : Nat) : Prop := (81 ≤ k ∧ k ≤ 93) ∨ (152 ≤ k ∧ k ≤ 159 ∧ k ≠ 153) ∨ (k = 94 ∧ 97 ≤ j ∧ j ≤ 99)
theorem pF_S {k j : Nat} (h : pS k j) : ¬ pF k j := by unfold pS at h; unfold pF; omega
theorem l_bit {z : gZ} {tb : Int} (g : Gr c z) (h : JF c tb z) (a : Int) : ∃ v, q_Face_bit E (kL c) a z = some v ∧ q_Model_bit E (kL c) a z = some v := by
  have hB := kB_b g.1
  unfold q_Face_bit q_Model_bit
  rw [g.2.1.2.2.2.2.2.2.2.2.1, g.2.2.1.2.2.2.2.2.2.2.2.2.2.2.2.2]
  by_cases h1 : a < 0
  · rw [if_pos h1, if_pos h1]; exact ⟨_, rfl, rfl⟩
  · rw [if_neg h1, if_neg h1]
    by_cases h2 : a < (kB c : Int)
    · obtain ⟨n, rfl⟩ : ∃ n : Nat, a = n := ⟨a.toNat, by omega⟩
      rw [if_pos h2, if_pos h2, kL_82, kL_154, if_pos (by omega), if_pos (by omega), gtN]
      have e := h.2.2.1 n (by omega)
      rcases h.1.1.1 n (by omega) with h0 | h0
      · rw [if_pos (by omega)]; exact ⟨_, rfl, by rw [h0]⟩
      · rw [if_neg (by omega)]; exact ⟨_, rfl, by rw [h0]⟩
    · rw [if_neg h2, if_neg h2]; exact ⟨_, rfl, rfl⟩
theorem l_flip {z : gZ} {tb : Int} (g : Gr c z) (h : JF c tb z) (a : Int) : zOk (q_Face_flip E (kL c) a z) (fun r1 => zOk (q_Model_flip E (kL c) a r1.2) (fun r2 => r1.1 = r2.1 ∧ JF c tb r2.2 ∧ zOff pF z r2.2)) := by
  have hB := kB_b g.1
  have hJ := h
  obtain ⟨⟨⟨f1, f2, f3, f4⟩, f5⟩, ⟨⟨r1, r2, r3, r4⟩, r5⟩, h3, h4, h5, h6, h7⟩ := h
  unfold q_Face_flip
  rw [g.2.1.2.2.2.2.2.2.2.2.1]
  by_cases h1 : a < 0
  · rw [if_pos h1, ok_s]
    refine ok_e (x := (-1, z)) ?_ ⟨rfl, hJ, off_r⟩
    unfold q_Model_flip; rw [if_pos h1]
  · rw [if_neg h1]
    by_cases h2 : a < (kB c : Int)
    · obtain ⟨n, rfl⟩ : ∃ n : Nat, a = n := ⟨a.toNat, by omega⟩
      have hb := f1 n (by omega)
      have he := h3 n (by omega)
      generalize hx : z.1 82 n = x at *
      have hb' : b01 (1 - x) := by unfold b01 at *; omega
      have k1 : q_Field_turn E (kL c) n z = some (1 - x, zPut (zPut z 82 n (1 - x)) 81 14 0) := by
        unfold q_Field_turn
        rw [kL_82, if_pos (by omega), gtN, hx, if_pos (by rcases hb with h | h <;> omega), let_s, let_s, zByte_b, zByte_s _ (by rcases hb with h | h <;> omega)]
        have : (zPut (zPut z 82 n (1 - x)) 81 14 0).1 82 n = 1 - x := by simp only [zp1, reduceIte, Nat.reduceEqDiff]
        rw [this]
      rw [if_pos h2, k1, b2_s, ok_s]
      generalize hz1 : zPut (zPut z 82 n (1 - x)) 81 14 0 = z1
      have o1 : zOff pF z z1 := by rw [← hz1]; exact off_t (off_put (by unfold pF; omega)) (off_put (by unfold pF; omega))
      have o1' : zOff (fun k j => (k = 82 ∧ j = n) ∨ (k = 81 ∧ j = 14)) z z1 := by rw [← hz1]; exact off_t (off_put (Or.inl ⟨rfl, rfl⟩)) (off_put (Or.inr ⟨rfl, rfl⟩))
      have g1 : Gr c z1 := Gr_off o1 (fun k j => pF_S) g
      have e154 : z1.1 154 n = x := (o1'.2 _ _ (by omega)).trans he.symm
      have k2 : q_Model_flip E (kL c) n z1 = some (1 - x, zPut (zPut z1 154 n (1 - x)) 94 97 0) := by
        unfold q_Model_flip
        rw [if_neg h1, g1.2.2.1.2.2.2.2.2.2.2.2.2.2.2.2.2, if_pos h2, kL_154, if_pos (by omega), gtN, e154]
        have hj : ∀ y, b01 y → y = 1 - x → q_Model_flip_j33 E (kL c) (n : Int) (n : Int) y z1 = some (1 - x, zPut (zPut z1 154 n (1 - x)) 94 97 0) := by
          intro y hy e
          unfold q_Model_flip_j33
          rw [kL_154, if_pos (by omega), let_s, let_s, if_pos (by omega), gtN, zBool_n y hy]
          have : (zPut (zPut z1 154 n y) 94 97 0).1 154 n = y := by simp only [zp1, reduceIte, Nat.reduceEqDiff]
          rw [this, e]
          rcases hb' with h | h
          · rw [if_pos h, h]
          · rw [if_neg (by omega), h]
        rcases hb with h | h
        · rw [if_pos h]; exact hj 1 (Or.inr rfl) (by omega)
        · rw [if_neg (by omega)]; exact hj 0 (Or.inl rfl) (by omega)
      refine ok_e k2 ⟨rfl, ?_, off_t o1 (off_t (off_put (by unfold pF; omega)) (off_put (by unfold pF; omega)))⟩
      generalize hz2 : zPut (zPut z1 154 n (1 - x)) 94 97 0 = z2
      have o2 : zOff (fun k j => (k = 154 ∧ j = n) ∨ (k = 94 ∧ j = 97)) z1 z2 := by rw [← hz2]; exact off_t (off_put (Or.inl ⟨rfl, rfl⟩)) (off_put (Or.inr ⟨rfl, rfl⟩))
      have e82 : ∀ i, z2.1 82 i = if i = n then 1 - x else z.1 82 i := fun i => by
        rw [← hz2, ← hz1]; simp only [zp1, reduceIte, Nat.reduceEqDiff]
      have e154 : ∀ i, z2.1 154 i = if i = n then 1 - x else z.1 154 i := fun i => by
        rw [← hz2, ← hz1]; simp only [zp1, reduceIte, Nat.reduceEqDiff]
      have ez : ∀ k j, ¬ (k = 82) → ¬ (k = 154) → ¬ (k = 81 ∧ j = 14) → ¬ (k = 94 ∧ j = 97) → z2.1 k j = z.1 k j := fun k j a1 a2 a3 a4 => (o2.2 k j (by omega)).trans (o1'.2 k j (by omega))
      have w14 : z2.1 81 14 = 0 := (o2.2 _ _ (by omega)).trans (by rw [← hz1]; rfl)
      have s97 : z2.1 94 97 = 0 := by rw [← hz2]; rfl
      refine ⟨⟨⟨fun i hi => ?_, fun i hi => ?_, fun i hi => ?_, fun i hi => ?_⟩, Or.inl w14⟩, ⟨⟨fun i hi => ?_, fun i hi => ?_, fun i hi => ?_, fun i hi => ?_⟩, Or.inl s97⟩, fun i hi => ?_, fun i hi => ?_, fun i hi => ?_, ?_, ?_⟩
      · rw [e82]; split
        · exact hb'
        · exact f1 i hi
      · rw [ez _ _ (by omega) (by omega) (by omega) (by omega)]; exact f2 i hi
      · rw [ez _ _ (by omega) (by omega) (by omega) (by omega)]; exact f3 i hi
      · rw [ez _ _ (by omega) (by omega) (by omega) (by omega)]; exact f4 i hi
      · rw [e154]; split
        · exact hb'
        · exact r1 i hi
      · rw [ez _ _ (by omega) (by omega) (by omega) (by omega)]; exact r2 i hi
      · rw [ez _ _ (by omega) (by omega) (by omega) (by omega)]; exact r3 i hi
      · rw [ez _ _ (by omega) (by omega) (by omega) (by omega)]; exact r4 i hi
      · rw [e82, e154, h3 i hi]
      · rw [ez _ _ (by omega) (by omega) (by omega) (by omega), ez _ _ (by omega) (by omega) (by omega) (by omega)]; exact h4 i hi
      · rw [ez _ _ (by omega) (by omega) (by omega) (by omega), ez _ _ (by omega) (by omega) (by omega) (by omega)]; exact h5 i hi
      · rw [ez _ _ (by omega) (by omega) (by omega) (by omega), ez _ _ (by omega) (by omega) (by omega) (by omega)]; exact h6
      · rw [ez _ _ (by omega) (by omega) (by omega) (by omega)]; exact h7
    · rw [if_neg h2, ok_s]
      refine ok_e (x := (-1, z)) ?_ ⟨rfl, hJ, off_r⟩
      unfold q_Model_flip; rw [if_neg h1, g.2.2.1.2.2.2.2.2.2.2.2.2.2.2.2.2, if_neg h2]
theorem FI_c {z z' : gZ} (hb : FB c z') (h : ∀ k j, (5 ≤ k ∧ k ≤ 6) ∨ k = 82 ∨ (89 ≤ k ∧ k ≤ 93) → z'.1 k j = z.1 k j) (h14 : z'.1 81 14 = z.1 81 14) (h15 : z'.1 81 15 = 0) (f : FI c z) : FI c z' := by
  refine ⟨hb, ?_⟩
  rcases f.2 with q | ⟨q1, q2, q3⟩
  · exact Or.inl (h14.trans q)
  · exact Or.inr ⟨h14.trans q1, Wd_off h q2, Or.inl h15⟩
theorem s_begin {z : gZ} (g : Gr c z) (hb : ∀ i, i < kB c → b01 (z.1 82 i)) : q_Field_begin E (kL c) z = some (zPut (zPut (zFill z 84 (fun e => z.1 82 (e * kX c + 17)) (kP c)) 81 13 0) 81 15 0) := by
  have hP := kP_b g.1
  have hX := kX_b g.1
  have hYB := kYB c
  have hBb := kB_b g.1
  have l1 : gIter (fun y => q_Field_begin_2 E (kL c) y.1 y.2) gN (0, z) = some (zFill z 84 (fun e => z.1 82 (e * kX c + 17)) (kP c)) := by
    refine it_fill 84 (fun e => z.1 82 (e * kX c + 17)) (kP c) (by omega) ?_ ?_
    · intro i hi
      have hy := kY_i (c := c) hi (show 17 < kX c by omega)
      have e6 : (zFill z 84 (fun e => z.1 82 (e * kX c + 17)) i).1 1 6 = kP c := g.2.1.2.2.2.2.2.2.1
      have e9 : (zFill z 84 (fun e => z.1 82 (e * kX c + 17)) i).1 1 9 = kX c := g.2.1.2.2.2.2.2.2.2.2.2.1
      have ea : (i : Int) * (kX c : Int) + 17 = ((i * kX c + 17 : Nat) : Int) := by push_cast; rfl
      have e82 : ∀ j, (zFill z 84 (fun e => z.1 82 (e * kX c + 17)) i).1 82 j = z.1 82 j := fun j => rfl
      have key : q_Field_begin_2 E (kL c) (i : Int) (zFill z 84 (fun e => z.1 82 (e * kX c + 17)) i) = some (.inl ((i : Int) + 1, zPut (zFill z 84 (fun e => z.1 82 (e * kX c + 17)) i) 84 i (z.1 82 (i * kX c + 17)))) := by
        unfold q_Field_begin_2
        rw [e6, if_neg (by omega), e9, ea, kL_82, if_pos (by omega), kL_84, if_pos (by omega), let_s, let_s, gtN, gtN, e82, zByte_s _ (by rcases hb (i * kX c + 17) (by omega) with h | h <;> omega)]
      exact key
    · have e6 : (zFill z 84 (fun e => z.1 82 (e * kX c + 17)) (kP c)).1 1 6 = kP c := g.2.1.2.2.2.2.2.2.1
      have key : q_Field_begin_2 E (kL c) ((kP c : Nat) : Int) (zFill z 84 (fun e => z.1 82 (e * kX c + 17)) (kP c)) = some (.inr (zFill z 84 (fun e => z.1 82 (e * kX c + 17)) (kP c))) := by
        unfold q_Field_begin_2
        rw [e6, if_pos (by omega)]
      exact key
  unfold q_Field_begin
  rw [l1, b1_s, let_s, let_s]
theorem s_startM {z : gZ} (g : Gr c z) (hb : ∀ i, i < kB c → b01 (z.1 154 i)) : q_Model_start E (kL c) z = some (zPut (zPut (zFill z 155 (fun e => z.1 154 (e * kX c + 17)) (kP c)) 94 99 0) 94 97 0) := by
  have hP := kP_b g.1
  have hX := kX_b g.1
  have hYB := kYB c
  have hBb := kB_b g.1
  have l1 : gIter (fun y => q_Model_start_2 E (kL c) y.1 y.2) gN (0, z) = some (zFill z 155 (fun e => z.1 154 (e * kX c + 17)) (kP c)) := by
    refine it_fill 155 (fun e => z.1 154 (e * kX c + 17)) (kP c) (by omega) ?_ ?_
    · intro i hi
      have hy := kY_i (c := c) hi (show 17 < kX c by omega)
      have e6 : (zFill z 155 (fun e => z.1 154 (e * kX c + 17)) i).1 94 5 = kP c := g.2.2.1.2.2.2.2.2.1
      have e9 : (zFill z 155 (fun e => z.1 154 (e * kX c + 17)) i).1 94 9 = kX c := g.2.2.1.2.2.2.2.2.2.2.2.2.1
      have ea : (i : Int) * (kX c : Int) + 17 = ((i * kX c + 17 : Nat) : Int) := by push_cast; rfl
      have e82 : ∀ j, (zFill z 155 (fun e => z.1 154 (e * kX c + 17)) i).1 154 j = z.1 154 j := fun j => rfl
      have key : q_Model_start_2 E (kL c) (i : Int) (zFill z 155 (fun e => z.1 154 (e * kX c + 17)) i) = some (.inl ((i : Int) + 1, zPut (zFill z 155 (fun e => z.1 154 (e * kX c + 17)) i) 155 i (z.1 154 (i * kX c + 17)))) := by
        unfold q_Model_start_2
        rw [e6, if_neg (by omega), e9, ea, kL_154, if_pos (by omega), kL_155, if_pos (by omega), let_s, let_s, gtN, gtN, e82, zBool_n _ (hb (i * kX c + 17) (by omega))]
      exact key
    · have e6 : (zFill z 155 (fun e => z.1 154 (e * kX c + 17)) (kP c)).1 94 5 = kP c := g.2.2.1.2.2.2.2.2.1
      have key : q_Model_start_2 E (kL c) ((kP c : Nat) : Int) (zFill z 155 (fun e => z.1 154 (e * kX c + 17)) (kP c)) = some (.inr (zFill z 155 (fun e => z.1 154 (e * kX c + 17)) (kP c))) := by
        unfold q_Model_start_2
        rw [e6, if_pos (by omega)]
      exact key
  unfold q_Model_start
  rw [l1, b1_s, let_s, let_s]
/-- both started: bits are alike, the rest is made anew -/
theorem l_start0 {z : gZ} {tb : Int} (htb : 0 ≤ tb) (g : Gr c z) (f : FB c z) (fw : z.1 81 14 = 0 ∨ (z.1 81 14 = 1 ∧ Wd c z)) (r : RB c z) (h3 : ∀ i, i < kB c → z.1 82 i = z.1 154 i) (h4 : ∀ p, p < kD c → z.1 83 p = z.1 158 p) : zOk (q_Field_begin E (kL c) z) (fun z1 => zOk (q_Model_start E (kL c) z1) (fun z2 => JF c tb z2 ∧ zOff pF z z2)) := by
  obtain ⟨f1, f2, f3, f4⟩ := f
  obtain ⟨r1, r2, r3, r4⟩ := r
  have hX := kX_b g.1
  have hYB := kYB c
  refine ok_e (s_begin g f1) ?_
  generalize hz1 : zPut (zPut (zFill z 84 (fun e => z.1 82 (e * kX c + 17)) (kP c)) 81 13 0) 81 15 0 = z1
  have o1 : zOff (fun k j => k = 84 ∨ (k = 81 ∧ (j = 13 ∨ j = 15))) z z1 := by rw [← hz1]; exact off_t (off_fill fun j => by omega) (off_t (off_put (by omega)) (off_put (by omega)))
  have g1 : Gr c z1 := Gr_off o1 (fun k j h => by unfold pS at h; omega) g
  have e154 : z1.1 154 = z.1 154 := funext fun j => o1.2 _ _ (by omega)
  refine ok_e (s_startM g1 (by rw [e154]; exact r1)) ?_
  generalize hz2 : zPut (zPut (zFill z1 155 (fun e => z1.1 154 (e * kX c + 17)) (kP c)) 94 99 0) 94 97 0 = z2
  have o2 : zOff (fun k j => k = 155 ∨ (k = 94 ∧ (j = 99 ∨ j = 97))) z1 z2 := by rw [← hz2]; exact off_t (off_fill fun j => by omega) (off_t (off_put (by omega)) (off_put (by omega)))
  have ez : ∀ k j, ¬ (k = 84) → ¬ (k = 155) → ¬ (k = 81 ∧ (j = 13 ∨ j = 15)) → ¬ (k = 94 ∧ (j = 99 ∨ j = 97)) → z2.1 k j = z.1 k j := fun k j a1 a2 a3 a4 => (o2.2 k j (by omega)).trans (o1.2 k j (by omega))
  have e84 : ∀ e, e < kP c → z2.1 84 e = z.1 82 (e * kX c + 17) := fun e he => by
    rw [o2.2 _ _ (by omega), ← hz1]
    simp only [zp1, zf1, reduceIte, Nat.reduceEqDiff, he]
  have e155 : ∀ e, e < kP c → z2.1 155 e = z.1 154 (e * kX c + 17) := fun e he => by
    rw [← hz2]
    simp only [zp1, zf1, reduceIte, Nat.reduceEqDiff, he, e154]
  have t13 : z2.1 81 13 = 0 := (o2.2 _ _ (by omega)).trans (by rw [← hz1]; rfl)
  have t15 : z2.1 81 15 = 0 := (o2.2 _ _ (by omega)).trans (by rw [← hz1]; rfl)
  have t97 : z2.1 94 97 = 0 := by rw [← hz2]; rfl
  have t99 : z2.1 94 99 = 0 := by rw [← hz2]; rfl
  have t14 : z2.1 81 14 = z.1 81 14 := ez _ _ (by omega) (by omega) (by omega) (by omega)
  refine ⟨⟨⟨⟨fun i hi => ?_, fun i hi => ?_, fun i hi => ?_, fun i hi => ?_⟩, ?_⟩, ⟨⟨fun i hi => ?_, fun i hi => ?_, fun i hi => ?_, fun i hi => ?_⟩, Or.inl t97⟩, fun i hi => ?_, fun i hi => ?_, fun i hi => ?_, ?_, ?_, ?_⟩, off_t (off_w o1 fun k j h => by unfold pF; omega) (off_w o2 fun k j h => by unfold pF; omega)⟩
  · rw [ez _ _ (by omega) (by omega) (by omega) (by omega)]; exact f1 i hi
  · rw [ez _ _ (by omega) (by omega) (by omega) (by omega)]; exact f2 i hi
  · rw [e84 i hi]; have hy := kY_i (c := c) hi (show 17 < kX c by omega); exact f1 _ (by omega)
  · rw [ez _ _ (by omega) (by omega) (by omega) (by omega)]; exact f4 i hi
  · rw [t14]
    rcases fw with q | ⟨q1, q2⟩
    · exact Or.inl q
    · exact Or.inr ⟨q1, Wd_off (fun k j h => ez k j (by omega) (by omega) (by omega) (by omega)) q2, Or.inl t15⟩
  · rw [ez _ _ (by omega) (by omega) (by omega) (by omega)]; exact r1 i hi
  · rw [ez _ _ (by omega) (by omega) (by omega) (by omega)]; exact r2 i hi
  · rw [e155 i hi]; have hy := kY_i (c := c) hi (show 17 < kX c by omega); exact r1 _ (by omega)
  · rw [ez _ _ (by omega) (by omega) (by omega) (by omega)]; exact r4 i hi
  · rw [ez _ _ (by omega) (by omega) (by omega) (by omega), ez _ _ (by omega) (by omega) (by omega) (by omega)]; exact h3 i hi
  · rw [ez _ _ (by omega) (by omega) (by omega) (by omega), ez _ _ (by omega) (by omega) (by omega) (by omega)]; exact h4 i hi
  · rw [e84 i hi, e155 i hi]; have hy := kY_i (c := c) hi (show 17 < kX c by omega); exact h3 _ (by omega)
  · rw [t13, t99]
  · rw [t13]; omega
  · rw [t13]; exact htb
theorem l_start {z : gZ} {tb : Int} (g : Gr c z) (h : JF c tb z) : zOk (q_Face_start E (kL c) z) (fun z1 => zOk (q_Model_start E (kL c) z1) (fun z2 => JF c tb z2 ∧ zOff pF z z2)) := by
  obtain ⟨h1, h2, h3, h4, h5, h6, h7, h8⟩ := h
  unfold q_Face_start
  rw [ok_1]
  refine ok_w (l_start0 (E := E) (tb := tb) (by omega) g h1.1 (h1.2.imp id fun q => ⟨q.1, q.2.1⟩) h2.1 h3 h4) ?_
  intro z1 q
  rw [ok_s]; exact q
theorem l_level {z : gZ} {tb : Int} (g : Gr c z) (h : JF c tb z) (a v : Int) (hv : b01 v) : zOk (q_Face_level E (kL c) a v z) (fun r1 => zOk (q_Model_level E (kL c) a v r1.2) (fun r2 => r1.1 = r2.1 ∧ JF c tb r2.2 ∧ zOff pF z r2.2)) := by
  have hD := kD_b g.1
  have hJ := h
  obtain ⟨⟨⟨f1, f2, f3, f4⟩, f5⟩, ⟨⟨r1, r2, r3, r4⟩, r5⟩, h3, h4, h5, h6, h7⟩ := h
  unfold q_Face_level
  rw [g.2.1.2.2.2.2.2.1]
  by_cases h1 : a < 0
  · rw [if_pos h1, ok_s]
    refine ok_e (x := (0, z)) ?_ ⟨rfl, hJ, off_r⟩
    unfold q_Model_level; rw [if_pos h1]
  · rw [if_neg h1]
    by_cases h2 : a < (kD c : Int)
    · obtain ⟨n, rfl⟩ : ∃ n : Nat, a = n := ⟨a.toNat, by omega⟩
      have k0 : ∀ y, y = v → q_Face_level_j31 E (kL c) (n : Int) y z = some (1, zPut (zPut z 83 n v) 81 15 0) := by
        intro y hy
        subst hy
        unfold q_Face_level_j31 q_Field_setPad
        rw [kL_83, if_pos (by omega), let_s, let_s, b1_s, gtN, zByte_b, zByte_s _ (by rcases hv with h | h <;> omega)]
      have k1 : (if v = 0 then q_Face_level_j31 E (kL c) (n : Int) 0 z else q_Face_level_j31 E (kL c) (n : Int) 1 z) = some (1, zPut (zPut z 83 n v) 81 15 0) := by
        rcases hv with h | h
        · rw [if_pos h]; exact k0 0 h.symm
        · rw [if_neg (by omega)]; exact k0 1 h.symm
      rw [if_pos h2, k1, ok_s]
      generalize hz1 : zPut (zPut z 83 n v) 81 15 0 = z1
      have o1 : zOff (fun k j => (k = 83 ∧ j = n) ∨ (k = 81 ∧ j = 15)) z z1 := by rw [← hz1]; exact off_t (off_put (Or.inl ⟨rfl, rfl⟩)) (off_put (Or.inr ⟨rfl, rfl⟩))
      have g1 : Gr c z1 := Gr_off o1 (fun k j h => by unfold pS at h; omega) g
      have k2 : q_Model_level E (kL c) n v z1 = some (1, zPut (zPut z1 158 n v) 94 97 0) := by
        unfold q_Model_level
        rw [if_neg h1, g1.2.2.1.2.2.2.2.2.2.1, if_pos h2, kL_158, if_pos (by omega), let_s, let_s, gtN, zBool_n v hv]
      refine ok_e k2 ?_
      generalize hz2 : zPut (zPut z1 158 n v) 94 97 0 = z2
      have o2 : zOff (fun k j => (k = 158 ∧ j = n) ∨ (k = 94 ∧ j = 97)) z1 z2 := by rw [← hz2]; exact off_t (off_put (Or.inl ⟨rfl, rfl⟩)) (off_put (Or.inr ⟨rfl, rfl⟩))
      have e83 : ∀ i, z2.1 83 i = if i = n then v else z.1 83 i := fun i => by
        rw [← hz2, ← hz1]; simp only [zp1, reduceIte, Nat.reduceEqDiff]
      have e158 : ∀ i, z2.1 158 i = if i = n then v else z.1 158 i := fun i => by
        rw [← hz2, ← hz1]; simp only [zp1, reduceIte, Nat.reduceEqDiff]
      have ez : ∀ k j, ¬ (k = 83) → ¬ (k = 158) → ¬ (k = 81 ∧ j = 15) → ¬ (k = 94 ∧ j = 97) → z2.1 k j = z.1 k j := fun k j a1 a2 a3 a4 => (o2.2 k j (by omega)).trans (o1.2 k j (by omega))
      have s15 : z2.1 81 15 = 0 := (o2.2 _ _ (by omega)).trans (by rw [← hz1]; rfl)
      have s97 : z2.1 94 97 = 0 := by rw [← hz2]; rfl
      refine ⟨rfl, ⟨FI_c ⟨fun i hi => ?_, fun i hi => ?_, fun i hi => ?_, fun i hi => ?_⟩ (fun k j h => ez k j (by omega) (by omega) (by omega) (by omega)) (ez _ _ (by omega) (by omega) (by omega) (by omega)) s15 ⟨⟨f1, f2, f3, f4⟩, f5⟩, ⟨⟨fun i hi => ?_, fun i hi => ?_, fun i hi => ?_, fun i hi => ?_⟩, Or.inl s97⟩, fun i hi => ?_, fun i hi => ?_, fun i hi => ?_, ?_, ?_⟩, off_t (off_w o1 fun k j h => by unfold pF; omega) (off_w o2 fun k j h => by unfold pF; omega)⟩
      · rw [ez _ _ (by omega) (by omega) (by omega) (by omega)]; exact f1 i hi
      · rw [e83]; split
        · exact hv
        · exact f2 i hi
      · rw [ez _ _ (by omega) (by omega) (by omega) (by omega)]; exact f3 i hi
      · rw [ez _ _ (by omega) (by omega) (by omega) (by omega)]; exact f4 i hi
      · rw [ez _ _ (by omega) (by omega) (by omega) (by omega)]; exact r1 i hi
      · rw [e158]; split
        · exact hv
        · exact r2 i hi
      · rw [ez _ _ (by omega) (by omega) (by omega) (by omega)]; exact r3 i hi
      · rw [ez _ _ (by omega) (by omega) (by omega) (by omega)]; exact r4 i hi
      · rw [ez _ _ (by omega) (by omega) (by omega) (by omega), ez _ _ (by omega) (by omega) (by omega) (by omega)]; exact h3 i hi
      · rw [e83, e158, h4 i hi]
      · rw [ez _ _ (by omega) (by omega) (by omega) (by omega), ez _ _ (by omega) (by omega) (by omega) (by omega)]; exact h5 i hi
      · rw [ez _ _ (by omega) (by omega) (by omega) (by omega), ez _ _ (by omega) (by omega) (by omega) (by omega)]; exact h6
      · rw [ez _ _ (by omega) (by omega) (by omega) (by omega)]; exact h7
    · rw [if_neg h2, ok_s]
      refine ok_e (x := (0, z)) ?_ ⟨rfl, hJ, off_r⟩
      unfold q_Model_level; rw [if_neg h1, g.2.2.1.2.2.2.2.2.2.1, if_neg h2]
end
-- L2
section
variable {E : gEv} {c : gCf}
/-- latches behind one tick -/
def fTk (c : gCf) (b l v l' : Nat → Int) : Prop := ∀ e, e < kP c → l' e = if b (e * kX c + 16) = 1 then v e else l e
def fRn (c : gCf) (A B b pl : Nat → Int) : Nat → (Nat → Int) → Nat → (Nat → Int) → Prop
  | 0, l, d, l' => d = 0 ∧ Ag c l l'
  | n + 1, l, d, l' => (∃ v, fStl c A B b pl l (kP c + 1) fZ False v ∧ d = 0 ∧ Ag c l l') ∨ (∃ v l1 d1, fStl c A B b pl l (kP c + 1) fZ True v ∧ fTk c b l v l1 ∧ fRn c A B b pl n l1 d1 l' ∧ d = d1 + 1)
theorem fTk_u {b b' l l' v v' x x' : Nat → Int} (hk : kOk c) (hb : ∀ i, i < kB c → b i = b' i) (hl : Ag c l l') (hv : Ag c v v') (h : fTk c b l v x) (h' : fTk c b' l' v' x') : Ag c x x' := by
  intro e he
  have hX := kX_b hk
  have hYB := kYB c
  have hy := kY_i (c := c) he (show 16 < kX c by omega)
  rw [h e he, h' e he, hb _ (by omega), hl e he, hv e he]
theorem fRn_u {A B b b' pl pl' : Nat → Int} (hk : kOk c) (hb : ∀ i, i < kB c → b i = b' i) (hp : ∀ p, p < kD c → pl p = pl' p) : ∀ (n : Nat) {l l' x x' : Nat → Int} {d d' : Nat}, Ag c l l' → fRn c A B b pl n l d x → fRn c A B b' pl' n l' d' x' → d = d' ∧ Ag c x x'
  | 0, l, l', x, x', d, d', hl, h, h' => ⟨h.1.trans h'.1.symm, fun e he => by rw [← h.2 e he, hl e he]; exact h'.2 e he⟩
  | n + 1, l, l', x, x', d, d', hl, h, h' => by
    rcases h with ⟨v, h1, h2, h3⟩ | ⟨v, l1, d1, h1, h2, h3, h4⟩
    · rcases h' with ⟨v', k1, k2, k3⟩ | ⟨v', l1', d1', k1, k2, k3, k4⟩
      · exact ⟨h2.trans k2.symm, fun e he => by rw [← h3 e he, hl e he]; exact k3 e he⟩
      · have := (fStl_u hk hb hp hl _ Ag_r h1 k1).1
        exact absurd (this.2 trivial) id
    · rcases h' with ⟨v', k1, k2, k3⟩ | ⟨v', l1', d1', k1, k2, k3, k4⟩
      · have := (fStl_u hk hb hp hl _ Ag_r h1 k1).1
        exact absurd (this.1 trivial) id
      · have hv := (fStl_u hk hb hp hl _ Ag_r h1 k1).2
        have := fRn_u hk hb hp n (fTk_u hk hb hl hv h2 k2) h3 k3
        exact ⟨by omega, this.2⟩
theorem fRn_c {A B b pl : Nat → Int} (hk : kOk c) : ∀ (n : Nat) {l l' x : Nat → Int} {d : Nat}, Ag c l l' → fRn c A B b pl n l d x → fRn c A B b pl n l' d x
  | 0, l, l', x, d, hl, h => ⟨h.1, fun e he => by rw [← hl e he]; exact h.2 e he⟩
  | n + 1, l, l', x, d, hl, h => by
    have cg : ∀ {r v}, fStl c A B b pl l (kP c + 1) fZ r v → fStl c A B b pl l' (kP c + 1) fZ r v := by
      have key : ∀ (m : Nat) {u v : Nat → Int} {r : Prop}, fStl c A B b pl l m u r v → fStl c A B b pl l' m u r v := by
        intro m
        induction m with
        | zero => intro u v r h; exact h
        | succ m ih =>
          intro u v r h
          obtain ⟨w, w1, w2⟩ := h
          exact ⟨w, fSw_c hk (fun _ _ => rfl) (fun _ _ => rfl) hl Ag_r Ag_r w1, w2.imp id fun q => ⟨q.1, ih q.2⟩⟩
      intro r v h
      exact key _ h
    rcases h with ⟨v, h1, h2, h3⟩ | ⟨v, l1, d1, h1, h2, h3, h4⟩
    · exact Or.inl ⟨v, cg h1, h2, fun e he => by rw [← hl e he]; exact h3 e he⟩
    · exact Or.inr ⟨v, l1, d1, cg h1, fun e he => by rw [h2 e he, hl e he], h3, h4⟩
/-- a tick that changes nothing can be done again -/
theorem fRn_still {A B b pl l v l1 : Nat → Int} (hk : kOk c) (h1 : fStl c A B b pl l (kP c + 1) fZ True v) (h2 : fTk c b l v l1) (h3 : Ag c l1 l) : ∀ n, fRn c A B b pl n l n l
  | 0 => ⟨rfl, Ag_r⟩
  | n + 1 => Or.inr ⟨v, l1, n, h1, h2, fRn_c hk n (fun e he => (h3 e he).symm) (fRn_still hk h1 h2 h3 n), rfl⟩
theorem s_takeLuts {z : gZ} (g : Gr c z) (f : FB c z) (h15 : z.1 81 15 = 1) : zOk (q_Field_takeLuts E (kL c) z) (fun r => ∃ F, fTk c (z.1 82) (z.1 84) (z.1 85) F ∧ ((r = (0, zPut (zRow z 84 F) 81 15 1) ∧ Ag c F (z.1 84)) ∨ (r = (1, zPut (zRow z 84 F) 81 15 0) ∧ ¬ Ag c F (z.1 84)))) := by
  have hP := kP_b g.1
  have gF : ∀ F, Gr c (zRow z 84 F) := fun F => Gr_off (P := fun k j => k = 84) (off_row fun j => rfl) (fun k j h => by unfold pS at h; omega) g
  unfold q_Field_takeLuts
  rw [ok_1]
  refine ok_w (it_for (fun (i : Nat) (t : Int × (Nat → Int)) => (t.1, (i : Int), zRow z 84 t.2)) (fun i t => (∀ e, e < kP c → t.2 e = if e < i then (if z.1 82 (e * kX c + 16) = 1 then z.1 85 e else z.1 84 e) else z.1 84 e) ∧ ((t.1 = 0 ∧ ∀ e, e < i → t.2 e = z.1 84 e) ∨ (t.1 = 1 ∧ ¬ ∀ e, e < i → t.2 e = z.1 84 e))) 0 (kP c)
    (Q := fun r => ∃ (ch : Int) (F : Nat → Int), r = (ch, zRow z 84 F) ∧ fTk c (z.1 82) (z.1 84) (z.1 85) F ∧ ((ch = 0 ∧ Ag c F (z.1 84)) ∨ (ch = 1 ∧ ¬ Ag c F (z.1 84)))) (t := (0, z.1 84)) (by rw [zr_self]; rfl) ⟨fun e he => by rw [if_neg (Nat.not_lt_zero e)], Or.inl ⟨rfl, fun e he => rfl⟩⟩ (by omega) (by omega) ?_ ?_) ?_
  · rintro i ⟨ch, F⟩ _ hi ⟨hA, hC⟩
    simp only at hA hC
    have gg := gF F
    have e82 : ∀ j, (zRow z 84 F).1 82 j = z.1 82 j := fun j => rfl
    have e85 : ∀ j, (zRow z 84 F).1 85 j = z.1 85 j := fun j => rfl
    have e84 : ∀ j, (zRow z 84 F).1 84 j = F j := fun j => by rw [zr_eq]
    have hFi : F i = z.1 84 i := by rw [hA i hi, if_neg (Nat.lt_irrefl i)]
    have keep : (¬ (z.1 82 (i * kX c + 16) = 1 ∧ ¬ z.1 84 i = z.1 85 i)) → (∀ e, e < kP c → F e = if e < i + 1 then (if z.1 82 (e * kX c + 16) = 1 then z.1 85 e else z.1 84 e) else z.1 84 e) ∧ ((ch = 0 ∧ ∀ e, e < i + 1 → F e = z.1 84 e) ∨ (ch = 1 ∧ ¬ ∀ e, e < i + 1 → F e = z.1 84 e)) := by
      intro hn
      refine ⟨fun e he => ?_, ?_⟩
      · by_cases ee : e = i
        · subst ee
          rw [hFi, if_pos (show e < e + 1 by omega)]
          by_cases hu : z.1 82 (e * kX c + 16) = 1
          · rw [if_pos hu]; exact Classical.byContradiction fun hx => hn ⟨hu, hx⟩
          · rw [if_neg hu]
        · rw [hA e he]
          by_cases hl : e < i
          · rw [if_pos hl, if_pos (show e < i + 1 by omega)]
          · rw [if_neg hl, if_neg (show ¬ e < i + 1 by omega)]
      · rcases hC with ⟨c1, c2⟩ | ⟨c1, c2⟩
        · refine Or.inl ⟨c1, fun e he => ?_⟩
          by_cases ee : e = i
          · subst ee; exact hFi
          · exact c2 e (by omega)
        · exact Or.inr ⟨c1, fun h => c2 fun e he => h e (by omega)⟩
    by_cases hu : z.1 82 (i * kX c + 16) = 1
    · by_cases hx : z.1 84 i = z.1 85 i
      · have key : q_Field_takeLuts_4 E (kL c) ch (i : Int) (zRow z 84 F) = some (.inl (ch, (i : Int) + 1, zRow z 84 F)) := by
          unfold q_Field_takeLuts_4
          rw [gg.2.1.2.2.2.2.2.2.1, if_neg (by omega), s_isUsed gg hi, b1_s, e82, if_pos hu, if_neg (by omega), kL_84, if_pos (by omega), kL_85, if_pos (by omega), gtN, e84, e85, if_pos (hFi.trans hx), let_s]
        exact ok_e key (Or.inl ⟨(ch, F), rfl, keep fun h => h.2 hx⟩)
      · have key : q_Field_takeLuts_4 E (kL c) ch (i : Int) (zRow z 84 F) = some (.inl (1, (i : Int) + 1, zRow z 84 (fun j => if j = i then z.1 85 i else F j))) := by
          unfold q_Field_takeLuts_4
          rw [gg.2.1.2.2.2.2.2.2.1, if_neg (by omega), s_isUsed gg hi, b1_s, e82, if_pos hu, if_neg (by omega), kL_84, if_pos (by omega), kL_85, if_pos (by omega), gtN, e84, e85, if_neg (by rw [hFi]; exact hx), let_s, let_s, zp_zr, zByte_s _ (by rcases f.2.2.2 i hi with h | h <;> omega)]
        refine ok_e key (Or.inl ⟨(1, fun j => if j = i then z.1 85 i else F j), rfl, fun e he => ?_, Or.inr ⟨rfl, fun h => hx ?_⟩⟩)
        · simp only
          by_cases ee : e = i
          · subst ee; rw [if_pos rfl, if_pos (show e < e + 1 by omega), if_pos hu]
          · rw [if_neg ee, hA e he]
            by_cases hl : e < i
            · rw [if_pos hl, if_pos (show e < i + 1 by omega)]
            · rw [if_neg hl, if_neg (show ¬ e < i + 1 by omega)]
        · have := h i (by omega)
          simp only [if_true] at this
          exact this.symm
    · have key : q_Field_takeLuts_4 E (kL c) ch (i : Int) (zRow z 84 F) = some (.inl (ch, (i : Int) + 1, zRow z 84 F)) := by
        unfold q_Field_takeLuts_4
        rw [gg.2.1.2.2.2.2.2.2.1, if_neg (by omega), s_isUsed gg hi, b1_s, e82, if_neg hu, if_pos rfl, let_s]
      exact ok_e key (Or.inl ⟨(ch, F), rfl, keep fun h => hu h.1⟩)
  · rintro ⟨ch, F⟩ ⟨hA, hC⟩
    simp only at hA hC
    have key : q_Field_takeLuts_4 E (kL c) ch ((kP c : Nat) : Int) (zRow z 84 F) = some (.inr (ch, zRow z 84 F)) := by
      unfold q_Field_takeLuts_4
      rw [(gF F).2.1.2.2.2.2.2.2.1, if_pos (by omega)]
    exact ok_e key ⟨_, rfl, ch, F, rfl, fun e he => by rw [hA e he, if_pos he], hC⟩
  · rintro r ⟨ch, F, rfl, hT, hC⟩
    have e15 : (zRow z 84 F).1 81 15 = 1 := h15
    simp only
    rw [e15, if_neg (by omega)]
    rcases hC with ⟨c1, c2⟩ | ⟨c1, c2⟩
    · subst c1
      rw [if_pos rfl]
      unfold q_Field_takeLuts_j75
      rw [if_pos (Or.inr rfl), let_s, if_pos (Or.inl rfl), ok_s]
      exact ⟨F, hT, Or.inl ⟨rfl, c2⟩⟩
    · subst c1
      rw [if_neg (by omega)]
      unfold q_Field_takeLuts_j74 q_Field_takeLuts_j75
      rw [if_pos (Or.inl rfl), let_s, if_pos (Or.inr rfl), ok_s]
      exact ⟨F, hT, Or.inr ⟨rfl, c2⟩⟩
def pRu (k j : Nat) : Prop := (k = 81 ∧ 14 ≤ j ∧ j ≤ 16) ∨ (84 ≤ k ∧ k ≤ 93)
theorem fTk_01 {b l v l' : Nat → Int} (h : fTk c b l v l') (hl : ∀ e, e < kP c → b01 (l e)) (hv : ∀ e, e < kP c → b01 (v e)) : ∀ e, e < kP c → b01 (l' e) := by
  intro e he
  rw [h e he]
  split
  · exact hv e he
  · exact hl e he
theorem s_run {z : gZ} {n : Nat} (g : Gr c z) (f : FI c z) (hn : n ≤ 1000) (h13 : 0 ≤ z.1 81 13 ∧ z.1 81 13 ≤ 1000000) : zOk (q_Field_run E (kL c) n z) (fun r => ∃ (d : Nat) (z1 : gZ), r = ((d : Int), zPut z1 81 13 (z.1 81 13 + d)) ∧ d ≤ n ∧ FI c z1 ∧ zOff pRu z z1 ∧ fRn c (z.1 5) (z.1 6) (z.1 82) (z.1 83) n (z.1 84) d (z1.1 84)) := by
  unfold q_Field_run
  rw [ok_1]
  refine ok_w (it_for (fun (i : Nat) (t : Int × gZ) => ((i : Int), t.1, t.2)) (fun i t => FI c t.2 ∧ zOff pRu z t.2 ∧ ((t.1 = 0 ∧ ∀ d l', fRn c (z.1 5) (z.1 6) (z.1 82) (z.1 83) (n - i) (t.2.1 84) d l' → fRn c (z.1 5) (z.1 6) (z.1 82) (z.1 83) n (z.1 84) (i + d) l') ∨ (t.1 = 1 ∧ fRn c (z.1 5) (z.1 6) (z.1 82) (z.1 83) n (z.1 84) n (t.2.1 84)))) 0 n
    (Q := fun r => ∃ (i : Nat) (s : Int) (t : gZ), r = ((i : Int), s, t) ∧ i ≤ n ∧ FI c t ∧ zOff pRu z t ∧ ((s = 0 ∧ fRn c (z.1 5) (z.1 6) (z.1 82) (z.1 83) n (z.1 84) i (t.1 84)) ∨ (s = 1 ∧ fRn c (z.1 5) (z.1 6) (z.1 82) (z.1 83) n (z.1 84) n (t.1 84)))) (t := (0, z)) rfl ⟨f, off_r, Or.inl ⟨rfl, fun d l' h => by rw [Nat.zero_add]; exact h⟩⟩ (by omega) (by omega) ?_ ?_) ?_
  · rintro i ⟨s, t⟩ _ hi ⟨k1, k2, k3⟩
    simp only at k1 k2 k3
    rcases k3 with ⟨k3, k4⟩ | ⟨k3, k4⟩
    · subst k3
      have gt : Gr c t := Gr_off k2 (fun k j h => by unfold pS at h; unfold pRu; omega) g
      obtain ⟨⟨v1, s2⟩, hr, q1, q2, q3, q4, q5, q6, q7⟩ := s_settle (E := E) gt k1
      simp only at q1 q2 q3 q4 q5 q6 q7
      have o2 : zOff pRu z s2 := off_t k2 (off_w q7 fun k j h => by unfold pSt at h; unfold pRu; omega)
      have g2 : Gr c s2 := Gr_off o2 (fun k j h => by unfold pS at h; unfold pRu; omega) g
      have e84 : s2.1 84 = t.1 84 := funext fun j => q7.2 _ _ (by unfold pSt; omega)
      have e5 : s2.1 5 = z.1 5 := funext fun j => o2.2 _ _ (by unfold pRu; omega)
      have e6 : s2.1 6 = z.1 6 := funext fun j => o2.2 _ _ (by unfold pRu; omega)
      have e82 : s2.1 82 = z.1 82 := funext fun j => o2.2 _ _ (by unfold pRu; omega)
      have e83 : s2.1 83 = z.1 83 := funext fun j => o2.2 _ _ (by unfold pRu; omega)
      have hSt := q6.2.1
      rw [e5, e6, e82, e83, e84] at hSt
      rcases q6.1 with h0 | h1
      · have key : q_Field_run_4 E (kL c) (n : Int) (i : Int) 0 t = some (.inr ((i : Int), 0, s2)) := by
          unfold q_Field_run_4
          rw [if_neg (by omega), if_pos rfl, hr, b2_s, if_pos (q1.trans h0)]
        refine ok_e key (Or.inr ⟨_, rfl, i, 0, s2, rfl, by omega, ⟨q2, Or.inr ⟨q3, q5, Or.inr ⟨q4, q6⟩⟩⟩, o2, Or.inl ⟨rfl, ?_⟩⟩)
        rw [show (s2.1 81 16 = 1) = False from propext ⟨fun h => by omega, False.elim⟩] at hSt
        have := k4 0 (s2.1 84) ?_
        · rw [Nat.add_zero] at this; exact this
        · rw [show n - i = (n - i - 1) + 1 by omega]
          exact Or.inl ⟨_, hSt, rfl, by rw [e84]; exact Ag_r⟩
      · rw [show (s2.1 81 16 = 1) = True from propext ⟨fun _ => trivial, fun _ => h1⟩] at hSt
        obtain ⟨⟨v3, s4⟩, hr2, F, w1, w2⟩ := s_takeLuts (E := E) g2 q2 q4
        rw [e82, e84] at w1
        have b01F : ∀ e, e < kP c → b01 (F e) := fTk_01 w1 (fun e he => by have := q2.2.2.1 e he; rw [e84] at this; exact this) q2.2.2.2
        have fi : ∀ y, (y = 0 ∨ (y = 1 ∧ Ag c F (t.1 84))) → FI c (zPut (zRow s2 84 F) 81 15 y) := by
          intro y hy
          have oo : zOff (fun k j => k = 84 ∨ (k = 81 ∧ j = 15)) s2 (zPut (zRow s2 84 F) 81 15 y) := off_t (off_row fun j => Or.inl rfl) (off_put (Or.inr ⟨rfl, rfl⟩))
          have F84 : ∀ e, (zPut (zRow s2 84 F) 81 15 y).1 84 e = F e := fun e => by
            show (zRow s2 84 F).1 84 e = F e
            rw [zr_eq]
          refine ⟨⟨fun j hj => ?_, fun j hj => ?_, fun j hj => ?_, fun j hj => ?_⟩, Or.inr ⟨(oo.2 _ _ (by omega)).trans q3, Wd_off (fun k j h => oo.2 _ _ (by omega)) q5, ?_⟩⟩
          · rw [oo.2 _ _ (by omega)]; exact q2.1 j hj
          · rw [oo.2 _ _ (by omega)]; exact q2.2.1 j hj
          · rw [F84]; exact b01F j hj
          · rw [oo.2 _ _ (by omega)]; exact q2.2.2.2 j hj
          · rcases hy with hy | ⟨hy, hag⟩
            · subst hy; exact Or.inl rfl
            · subst hy
              refine Or.inr ⟨rfl, ?_⟩
              have ag2 : Ag c (s2.1 84) F := fun e he => by rw [e84]; exact (hag e he).symm
              have r5 : (zPut (zRow s2 84 F) 81 15 1).1 5 = s2.1 5 := funext fun j => oo.2 _ _ (by omega)
              have r6 : (zPut (zRow s2 84 F) 81 15 1).1 6 = s2.1 6 := funext fun j => oo.2 _ _ (by omega)
              have r82 : (zPut (zRow s2 84 F) 81 15 1).1 82 = s2.1 82 := funext fun j => oo.2 _ _ (by omega)
              have r83 : (zPut (zRow s2 84 F) 81 15 1).1 83 = s2.1 83 := funext fun j => oo.2 _ _ (by omega)
              have r84 : (zPut (zRow s2 84 F) 81 15 1).1 84 = F := funext F84
              have r85 : (zPut (zRow s2 84 F) 81 15 1).1 85 = s2.1 85 := funext fun j => oo.2 _ _ (by omega)
              have r88 : (zPut (zRow s2 84 F) 81 15 1).1 88 = s2.1 88 := funext fun j => oo.2 _ _ (by omega)
              have r89 : (zPut (zRow s2 84 F) 81 15 1).1 89 = s2.1 89 := funext fun j => oo.2 _ _ (by omega)
              have r16 : (zPut (zRow s2 84 F) 81 15 1).1 81 16 = s2.1 81 16 := oo.2 _ _ (by omega)
              unfold SI
              rw [r5, r6, r82, r83, r84, r85, r88, r89, r16]
              refine ⟨q6.1, ?_, fun h => ?_⟩
              · have key : ∀ (m : Nat) {u v : Nat → Int} {r : Prop}, fStl c (s2.1 5) (s2.1 6) (s2.1 82) (s2.1 83) (s2.1 84) m u r v → fStl c (s2.1 5) (s2.1 6) (s2.1 82) (s2.1 83) F m u r v := by
                  intro m
                  induction m with
                  | zero => intro u v r h; exact h
                  | succ m ih =>
                    intro u v r h
                    obtain ⟨w, w1, w2⟩ := h
                    exact ⟨w, fSw_c g.1 (fun _ _ => rfl) (fun _ _ => rfl) ag2 Ag_r Ag_r w1, w2.imp id fun q => ⟨q.1, ih q.2⟩⟩
                exact key _ q6.2.1
              · refine rowIs_c (q6.2.2 h) fun x _ => ?_
                unfold fGs fBs
                refine or_congr_left (or_congr_right ⟨?_, ?_⟩)
                · rintro ⟨e, a1, a2, a3, a4⟩; exact ⟨e, a1, a2, by rw [← ag2 e a1]; exact a3, a4⟩
                · rintro ⟨e, a1, a2, a3, a4⟩; exact ⟨e, a1, a2, by rw [ag2 e a1]; exact a3, a4⟩
        have oF : ∀ y, zOff pRu z (zPut (zRow s2 84 F) 81 15 y) := fun y => off_t o2 (off_t (off_row fun j => by unfold pRu; omega) (off_put (by unfold pRu; omega)))
        have F84 : ∀ y, (zPut (zRow s2 84 F) 81 15 y).1 84 = F := fun y => by
          show (zRow s2 84 F).1 84 = F
          rw [zr_eq]
        rcases w2 with ⟨w2, w3⟩ | ⟨w2, w3⟩
        · cases w2
          rw [e84] at w3
          have key : q_Field_run_4 E (kL c) (n : Int) (i : Int) 0 t = some (.inl ((i : Int) + 1, 1, zPut (zRow s2 84 F) 81 15 1)) := by
            unfold q_Field_run_4
            rw [if_neg (by omega), if_pos rfl, hr, b2_s, if_neg (by simp only; omega), hr2, b2_s, if_pos rfl, let_s]
          refine ok_e key (Or.inl ⟨(1, zPut (zRow s2 84 F) 81 15 1), rfl, fi 1 (Or.inr ⟨rfl, w3⟩), oF 1, Or.inr ⟨rfl, ?_⟩⟩)
          simp only
          rw [F84]
          have st := fRn_still g.1 hSt w1 w3 (n - i)
          have := k4 _ _ st
          rw [show i + (n - i) = n by omega] at this
          have key2 : ∀ (m : Nat) {l : Nat → Int} {d : Nat} {x x' : Nat → Int}, Ag c x x' → fRn c (z.1 5) (z.1 6) (z.1 82) (z.1 83) m l d x → fRn c (z.1 5) (z.1 6) (z.1 82) (z.1 83) m l d x' := by
            intro m
            induction m with
            | zero => intro l d x x' hx h; exact ⟨h.1, fun e he => (h.2 e he).trans (hx e he)⟩
            | succ m ih =>
              intro l d x x' hx h
              rcases h with ⟨v, h1, h2, h3⟩ | ⟨v, l1, d1, h1, h2, h3, h4⟩
              · exact Or.inl ⟨v, h1, h2, fun e he => (h3 e he).trans (hx e he)⟩
              · exact Or.inr ⟨v, l1, d1, h1, h2, ih hx h3, h4⟩
          exact key2 _ (fun e he => (w3 e he).symm) this
        · cases w2
          have key : q_Field_run_4 E (kL c) (n : Int) (i : Int) 0 t = some (.inl ((i : Int) + 1, 0, zPut (zRow s2 84 F) 81 15 0)) := by
            unfold q_Field_run_4
            rw [if_neg (by omega), if_pos rfl, hr, b2_s, if_neg (by simp only; omega), hr2, b2_s, if_neg (by simp only; omega), let_s]
          refine ok_e key (Or.inl ⟨(0, zPut (zRow s2 84 F) 81 15 0), rfl, fi 0 (Or.inl rfl), oF 0, Or.inl ⟨rfl, fun d l' h => ?_⟩⟩)
          simp only at h
          rw [F84] at h
          have := k4 (d + 1) l' (by
            rw [show n - i = (n - (i + 1)) + 1 by omega]
            exact Or.inr ⟨_, F, d, hSt, w1, h, rfl⟩)
          rw [show i + 1 + d = i + (d + 1) by omega]; exact this
    · subst k3
      have key : q_Field_run_4 E (kL c) (n : Int) (i : Int) 1 t = some (.inr ((i : Int), 1, t)) := by
        unfold q_Field_run_4
        rw [if_neg (by omega), if_neg (by omega)]
      exact ok_e key (Or.inr ⟨_, rfl, i, 1, t, rfl, by omega, k1, k2, Or.inr ⟨rfl, k4⟩⟩)
  · rintro ⟨s, t⟩ ⟨k1, k2, k3⟩
    simp only at k1 k2 k3
    have key : q_Field_run_4 E (kL c) (n : Int) (n : Int) s t = some (.inr ((n : Int), s, t)) := by
      unfold q_Field_run_4
      rw [if_pos (by omega)]
    refine ok_e key ⟨_, rfl, n, s, t, rfl, Nat.le_refl n, k1, k2, k3.imp (fun q => ⟨q.1, ?_⟩) id⟩
    have := q.2 0 (t.1 84) (by rw [Nat.sub_self]; exact ⟨rfl, Ag_r⟩)
    rw [Nat.add_zero] at this; exact this
  · rintro r ⟨i, s, t, rfl, hi, k1, k2, k3⟩
    have e13 : t.1 81 13 = z.1 81 13 := k2.2 _ _ (by unfold pRu; omega)
    simp only
    unfold q_Field_run_j39
    rcases k3 with ⟨k3, k4⟩ | ⟨k3, k4⟩
    · subst k3
      rw [if_pos rfl]
      unfold q_Field_run_j45
      rw [e13, if_pos (by omega), let_s, ok_s]
      exact ⟨i, t, rfl, hi, k1, k2, k4⟩
    · subst k3
      rw [if_neg (by omega)]
      unfold q_Field_run_j45
      rw [e13, if_pos (by omega), let_s, ok_s]
      exact ⟨n, t, rfl, Nat.le_refl n, k1, k2, k4⟩
end
-- L3
section
variable {E : gEv} {c : gCf}
def pTm (k j : Nat) : Prop := k = 152 ∨ (155 ≤ k ∧ k ≤ 157) ∨ k = 159 ∨ (k = 94 ∧ (97 ≤ j ∧ j ≤ 99))
theorem s_tick50 {z : gZ} {l1 l2 l3 : Int} (g : Gr c z) (r : RB c z) : ∃ F, gIter (fun y => q_Model_tick_50 E (kL c) l1 l2 l3 y.1 y.2) gN (0, z) = some (zFill z 155 F (kP c)) ∧ fTk c (z.1 154) (z.1 155) (z.1 156) F := by
  have hP := kP_b g.1
  have hX := kX_b g.1
  have hYB := kYB c
  have hBb := kB_b g.1
  refine ⟨fun e => if z.1 154 (e * kX c + 16) = 1 then z.1 156 e else z.1 155 e, ?_, fun e he => rfl⟩
  generalize hF : (fun e => if z.1 154 (e * kX c + 16) = 1 then z.1 156 e else z.1 155 e) = F
  have hFe : ∀ e, F e = if z.1 154 (e * kX c + 16) = 1 then z.1 156 e else z.1 155 e := fun e => by rw [← hF]
  refine it_fill 155 F (kP c) (by omega) ?_ ?_
  · intro i hi
    have hy := kY_i (c := c) hi (show 16 < kX c by omega)
    have e5 : (zFill z 155 F i).1 94 5 = kP c := g.2.2.1.2.2.2.2.2.1
    have e9 : (zFill z 155 F i).1 94 9 = kX c := g.2.2.1.2.2.2.2.2.2.2.2.2.1
    have ea : (i : Int) * (kX c : Int) + 16 = ((i * kX c + 16 : Nat) : Int) := by push_cast; rfl
    have e154 : ∀ j, (zFill z 155 F i).1 154 j = z.1 154 j := fun j => rfl
    have e156 : ∀ j, (zFill z 155 F i).1 156 j = z.1 156 j := fun j => rfl
    have e155 : (zFill z 155 F i).1 155 i = z.1 155 i := by rw [zf1, if_pos rfl, if_neg (Nat.lt_irrefl i)]
    have fin : ∀ y, b01 y → q_Model_tick_j100_50 E (kL c) l1 l2 l3 (i : Int) (i : Int) y (zFill z 155 F i) = some (.inl ((i : Int) + 1, zPut (zFill z 155 F i) 155 i y)) := by
      intro y hy
      unfold q_Model_tick_j100_50
      rw [kL_155, if_pos (by omega), let_s, if_pos (by omega), let_s, gtN, zBool_n y hy]
    have key : q_Model_tick_50 E (kL c) l1 l2 l3 (i : Int) (zFill z 155 F i) = some (.inl ((i : Int) + 1, zPut (zFill z 155 F i) 155 i (F i))) := by
      unfold q_Model_tick_50
      rw [e5, if_neg (by omega), e9, ea, kL_154, if_pos (by omega), gtN, e154, hFe]
      rcases r.1 (i * kX c + 16) (by omega) with h | h
      · rw [if_pos h, if_neg (show ¬ z.1 154 (i * kX c + 16) = 1 by omega), kL_155, if_pos (by omega), gtN, e155, fin _ (r.2.2.1 i hi)]
      · rw [if_neg (show ¬ z.1 154 (i * kX c + 16) = 0 by omega), if_pos h, kL_156, if_pos (by omega), gtN, e156, fin _ (r.2.2.2 i hi)]
    exact key
  · have e5 : (zFill z 155 F (kP c)).1 94 5 = kP c := g.2.2.1.2.2.2.2.2.1
    have key : q_Model_tick_50 E (kL c) l1 l2 l3 ((kP c : Nat) : Int) (zFill z 155 F (kP c)) = some (.inr (zFill z 155 F (kP c))) := by
      unfold q_Model_tick_50
      rw [e5, if_pos (by omega)]
    exact key
theorem s_tickM {z : gZ} {n : Nat} (g : Gr c z) (hR : RI c z) (hn : n ≤ 1000) (h99 : 0 ≤ z.1 94 99 ∧ z.1 94 99 ≤ 1000000) : zOk (gIter (fun y => q_Model_tick_17 E (kL c) n y.1 y.2.1 y.2.2) gN (0, 1, z)) (fun r => ∃ (d : Nat) (z1 : gZ), r = ((d : Int), z1) ∧ d ≤ n ∧ RI c z1 ∧ zOff pTm z z1 ∧ z1.1 94 99 = z.1 94 99 + d ∧ fRn c (z.1 5) (z.1 6) (z.1 154) (z.1 158) n (z.1 155) d (z1.1 155)) := by
  refine it_inv (fun s : Int × Int × gZ => ∃ (i : Nat) (go : Int) (t : gZ), s = ((i : Int), go, t) ∧ i ≤ n ∧ RI c t ∧ zOff pTm z t ∧ t.1 94 99 = z.1 94 99 + i ∧ ((go = 1 ∧ ∀ d l', fRn c (z.1 5) (z.1 6) (z.1 154) (z.1 158) (n - i) (t.1 155) d l' → fRn c (z.1 5) (z.1 6) (z.1 154) (z.1 158) n (z.1 155) (i + d) l') ∨ (go = 0 ∧ fRn c (z.1 5) (z.1 6) (z.1 154) (z.1 158) n (z.1 155) i (t.1 155)))) _ (fun s => 2 * (2000 - s.1.toNat) + s.2.1.toNat) ⟨0, 1, z, rfl, Nat.zero_le n, hR, off_r, by simp, Or.inl ⟨rfl, fun d l' h => by rw [Nat.zero_add]; exact h⟩⟩ (by show 2 * (2000 - (0 : Int).toNat) + (1 : Int).toNat < _; omega) ?_
  rintro s ⟨i, go, t, rfl, hi, k1, k2, k3, k4⟩
  have gt : Gr c t := Gr_off k2 (fun k j h => by unfold pS at h; unfold pTm; omega) g
  rcases k4 with ⟨k4, k5⟩ | ⟨k4, k5⟩
  · subst k4
    by_cases hin : n ≤ i
    · have : i = n := by omega
      subst this
      have key : q_Model_tick_17 E (kL c) (i : Int) (i : Int) 1 t = some (.inr ((i : Int), t)) := by
        unfold q_Model_tick_17
        rw [if_pos (by omega)]
      refine Or.inr ⟨_, key, i, t, rfl, Nat.le_refl i, k1, k2, k3, ?_⟩
      have := k5 0 (t.1 155) (by rw [Nat.sub_self]; exact ⟨rfl, Ag_r⟩)
      rw [Nat.add_zero] at this; exact this
    · obtain ⟨s2, hr, q1, q2, q3, q4⟩ := s_settleM (E := E) gt k1
      have o2 : zOff pTm z s2 := off_t k2 (off_w q4 fun k j h => by unfold pRt at h; unfold pTm; omega)
      have g2 : Gr c s2 := Gr_off o2 (fun k j h => by unfold pS at h; unfold pTm; omega) g
      have e5 : s2.1 5 = z.1 5 := funext fun j => o2.2 _ _ (by unfold pTm; omega)
      have e6 : s2.1 6 = z.1 6 := funext fun j => o2.2 _ _ (by unfold pTm; omega)
      have e154 : s2.1 154 = z.1 154 := funext fun j => o2.2 _ _ (by unfold pTm; omega)
      have e158 : s2.1 158 = z.1 158 := funext fun j => o2.2 _ _ (by unfold pTm; omega)
      have e155 : s2.1 155 = t.1 155 := funext fun j => q4.2 _ _ (by unfold pRt; omega)
      have e99 : s2.1 94 99 = z.1 94 99 + i := (q4.2 _ _ (by unfold pRt; omega)).trans k3
      have hSt := q3.2
      rw [e5, e6, e154, e158, e155] at hSt
      rcases q3.1 with h0 | h1
      · rw [show (s2.1 94 98 = 0) = True from propext ⟨fun _ => trivial, fun _ => h0⟩] at hSt
        obtain ⟨F, hF, hT⟩ := s_tick50 (E := E) (l1 := n) (l2 := i) (l3 := 1) g2 q1
        rw [e154, e155] at hT
        generalize hz5 : zFill s2 155 F (kP c) = s5 at hF
        have o5 : zOff pTm s2 s5 := by rw [← hz5]; exact off_fill fun j => by unfold pTm; omega
        have e599 : s5.1 94 99 = z.1 94 99 + i := by rw [← hz5]; exact e99
        have key : q_Model_tick_17 E (kL c) (n : Int) (i : Int) 1 t = some (.inl ((i : Int) + 1, 1, zPut (zPut s5 94 97 0) 94 99 (z.1 94 99 + i + 1))) := by
          unfold q_Model_tick_17
          rw [if_neg (by omega), if_neg (by omega), hr, b1_s, if_pos h0]
          unfold q_Model_tick_j42_17
          rw [if_neg (by omega), hF, b1_s, let_s, if_pos (by omega), let_s]
          have : (zPut s5 94 97 0).1 94 99 = z.1 94 99 + i := e599
          rw [this, if_pos (by omega), let_s]
        generalize hz9 : zPut (zPut s5 94 97 0) 94 99 (z.1 94 99 + i + 1) = s9 at key
        have o9 : zOff pTm s5 s9 := by rw [← hz9]; exact off_t (off_put (by unfold pTm; omega)) (off_put (by unfold pTm; omega))
        have F155 : ∀ e, e < kP c → s9.1 155 e = F e := fun e he => by
          rw [← hz9, ← hz5]
          simp only [zp1, zf1, reduceIte, Nat.reduceEqDiff, he]
        have oo : zOff pTm z s9 := off_t o2 (off_t o5 o9)
        have d9 : ∀ k j, ¬ k = 155 → ¬ (k = 94 ∧ (j = 97 ∨ j = 99)) → s9.1 k j = s2.1 k j := fun k j a1 a2 => by
          rw [← hz9, ← hz5]
          simp only [zp1]
          by_cases hk : k = 94
          · subst hk
            rw [if_pos rfl, if_neg (by omega), if_pos rfl, if_neg (by omega)]
            rfl
          · rw [if_neg hk, if_neg hk, zf_ne _ _ _ _ _ a1]
        refine Or.inl ⟨_, key, ⟨i + 1, 1, s9, rfl, by omega, ⟨⟨fun j hj => ?_, fun j hj => ?_, fun j hj => ?_, fun j hj => ?_⟩, Or.inl ?_⟩, oo, ?_, Or.inl ⟨rfl, fun d l' h => ?_⟩⟩, ?_⟩
        · rw [d9 _ _ (by omega) (by omega)]; exact q1.1 j hj
        · rw [d9 _ _ (by omega) (by omega)]; exact q1.2.1 j hj
        · rw [F155 j hj]
          exact fTk_01 hT (fun e he => by rw [← e155]; exact q1.2.2.1 e he) q1.2.2.2 j hj
        · rw [d9 _ _ (by omega) (by omega)]; exact q1.2.2.2 j hj
        · rw [← hz9]; rfl
        · rw [← hz9]
          show z.1 94 99 + (i : Int) + 1 = z.1 94 99 + ((i + 1 : Nat) : Int)
          omega
        · have := k5 (d + 1) l' (by
            rw [show n - i = (n - (i + 1)) + 1 by omega]
            exact Or.inr ⟨_, F, d, hSt, hT, fRn_c g.1 _ F155 h, rfl⟩)
          rw [show i + 1 + d = i + (d + 1) by omega]; exact this
        · show 2 * (2000 - ((i : Int) + 1).toNat) + (1 : Int).toNat < 2 * (2000 - (i : Int).toNat) + (1 : Int).toNat
          omega
      · rw [show (s2.1 94 98 = 0) = False from propext ⟨fun h => by omega, False.elim⟩] at hSt
        have key : q_Model_tick_17 E (kL c) (n : Int) (i : Int) 1 t = some (.inl ((i : Int), 0, s2)) := by
          unfold q_Model_tick_17
          rw [if_neg (by omega), if_neg (by omega), hr, b1_s, if_neg (by omega)]
          unfold q_Model_tick_j42_17
          rw [if_pos rfl]
        refine Or.inl ⟨_, key, ⟨i, 0, s2, rfl, hi, ⟨q1, Or.inr ⟨q2, q3⟩⟩, o2, e99, Or.inr ⟨rfl, ?_⟩⟩, ?_⟩
        · have := k5 0 (s2.1 155) (by
            rw [show n - i = (n - i - 1) + 1 by omega]
            exact Or.inl ⟨_, hSt, rfl, by rw [e155]; exact Ag_r⟩)
          rw [Nat.add_zero] at this; exact this
        · show 2 * (2000 - (i : Int).toNat) + (0 : Int).toNat < 2 * (2000 - (i : Int).toNat) + (1 : Int).toNat
          omega
  · subst k4
    have key : q_Model_tick_17 E (kL c) (n : Int) (i : Int) 0 t = some (.inr ((i : Int), t)) := by
      unfold q_Model_tick_17
      by_cases hin : (n : Int) ≤ i
      · rw [if_pos hin]
      · rw [if_neg hin, if_pos rfl]
    exact Or.inr ⟨_, key, i, t, rfl, hi, k1, k2, k3, k5⟩
theorem l_tick {z : gZ} {tb : Int} (g : Gr c z) (h : JF c tb z) (htb : tb ≤ 1000000) (a : Int) : zOk (q_Face_tick E (kL c) a z) (fun r1 => zOk (q_Model_tick E (kL c) a r1.2) (fun r2 => r1.1 = r2.1 ∧ JF c (tb + 1000) r2.2 ∧ zOff pF z r2.2)) := by
  have hJ : JF c (tb + 1000) z := ⟨h.1, h.2.1, h.2.2.1, h.2.2.2.1, h.2.2.2.2.1, h.2.2.2.2.2.1, h.2.2.2.2.2.2.1, by have := h.2.2.2.2.2.2.2; omega⟩
  obtain ⟨f, r, h3, h4, h5, h6, h7, h8⟩ := h
  unfold q_Face_tick
  by_cases g1 : a < 0
  · rw [if_pos g1, ok_s]
    refine ok_e (x := (-1, z)) ?_ ⟨rfl, hJ, off_r⟩
    unfold q_Model_tick; rw [if_pos g1]
  · by_cases g2 : a ≤ 1000
    · obtain ⟨n, rfl⟩ : ∃ n : Nat, a = n := ⟨a.toNat, by omega⟩
      rw [if_neg g1, if_pos g2]
      obtain ⟨x, hx, d, z1, rfl, d1, d2, d3, d4⟩ := s_run (E := E) (n := n) g f (by omega) (by omega)
      rw [hx, b2_s, ok_s]
      simp only
      generalize hz2 : zPut z1 81 13 (z.1 81 13 + d) = z2
      have o1 : zOff pRu z z1 := d3
      have o2 : zOff (fun k j => k = 81 ∧ j = 13) z1 z2 := by rw [← hz2]; exact off_put ⟨rfl, rfl⟩
      have oz : ∀ k j, ¬ pRu k j → ¬ (k = 81 ∧ j = 13) → z2.1 k j = z.1 k j := fun k j a1 a2 => (o2.2 k j a2).trans (o1.2 k j a1)
      have g2' : Gr c z2 := Gr_off o2 (fun k j h => by unfold pS at h; omega) (Gr_off o1 (fun k j h => by unfold pS at h; unfold pRu; omega) g)
      have f2 : FI c z2 := by
        have e : ∀ k j, ¬ (k = 81 ∧ j = 13) → z2.1 k j = z1.1 k j := o2.2
        obtain ⟨⟨b1, b2, b3, b4⟩, b5⟩ := d2
        refine ⟨⟨fun j hj => ?_, fun j hj => ?_, fun j hj => ?_, fun j hj => ?_⟩, ?_⟩
        · rw [e _ _ (by omega)]; exact b1 j hj
        · rw [e _ _ (by omega)]; exact b2 j hj
        · rw [e _ _ (by omega)]; exact b3 j hj
        · rw [e _ _ (by omega)]; exact b4 j hj
        · rw [e 81 14 (by omega), e 81 15 (by omega)]
          refine b5.imp id fun q => ⟨q.1, Wd_off (fun k j h => e k j (by omega)) q.2.1, q.2.2.imp id fun w => ⟨w.1, ?_⟩⟩
          have w2 := w.2
          unfold SI at w2 ⊢
          have r5 : z2.1 5 = z1.1 5 := funext fun j => e _ _ (by omega)
          have r6 : z2.1 6 = z1.1 6 := funext fun j => e _ _ (by omega)
          have r82 : z2.1 82 = z1.1 82 := funext fun j => e _ _ (by omega)
          have r83 : z2.1 83 = z1.1 83 := funext fun j => e _ _ (by omega)
          have r84 : z2.1 84 = z1.1 84 := funext fun j => e _ _ (by omega)
          have r85 : z2.1 85 = z1.1 85 := funext fun j => e _ _ (by omega)
          have r88 : z2.1 88 = z1.1 88 := funext fun j => e _ _ (by omega)
          have r89 : z2.1 89 = z1.1 89 := funext fun j => e _ _ (by omega)
          rw [r5, r6, r82, r83, r84, r85, r88, r89, e 81 16 (by omega)]
          exact w2
      have m5 : z2.1 5 = z.1 5 := funext fun j => oz _ _ (by unfold pRu; omega) (by omega)
      have m6 : z2.1 6 = z.1 6 := funext fun j => oz _ _ (by unfold pRu; omega) (by omega)
      have m154 : z2.1 154 = z.1 154 := funext fun j => oz _ _ (by unfold pRu; omega) (by omega)
      have m155 : z2.1 155 = z.1 155 := funext fun j => oz _ _ (by unfold pRu; omega) (by omega)
      have m156 : z2.1 156 = z.1 156 := funext fun j => oz _ _ (by unfold pRu; omega) (by omega)
      have m158 : z2.1 158 = z.1 158 := funext fun j => oz _ _ (by unfold pRu; omega) (by omega)
      have m94 : ∀ j, z2.1 94 j = z.1 94 j := fun j => oz _ _ (by unfold pRu; omega) (by omega)
      have r2 : RI c z2 := by
        unfold RI RB SR at r ⊢
        rw [m5, m6, m154, m155, m156, m158, m94, m94]; exact r
      obtain ⟨y, hy, d', z3, rfl, e1, e2, e3, e4, e5⟩ := s_tickM (E := E) (n := n) g2' r2 (by omega) (by rw [m94]; omega)
      rw [m5, m6, m154, m158, m155] at e5
      have hu := fRn_u g.1 h3 h4 n h5 d4 e5
      have hd : d = d' := hu.1
      subst hd
      have key : q_Model_tick E (kL c) n z2 = some ((d : Int), z3) := by
        unfold q_Model_tick
        rw [if_neg g1, if_pos g2, hy, b1_s]
      refine ok_e key ⟨rfl, ?_, ?_⟩
      · have k3 : ∀ k j, ¬ pTm k j → z3.1 k j = z2.1 k j := e3.2
        refine ⟨?_, e2, fun i hi => ?_, fun i hi => ?_, fun i hi => ?_, ?_, ?_, ?_⟩
        · obtain ⟨⟨b1, b2, b3, b4⟩, b5⟩ := f2
          refine ⟨⟨fun j hj => ?_, fun j hj => ?_, fun j hj => ?_, fun j hj => ?_⟩, ?_⟩
          · rw [k3 _ _ (by unfold pTm; omega)]; exact b1 j hj
          · rw [k3 _ _ (by unfold pTm; omega)]; exact b2 j hj
          · rw [k3 _ _ (by unfold pTm; omega)]; exact b3 j hj
          · rw [k3 _ _ (by unfold pTm; omega)]; exact b4 j hj
          · rw [k3 81 14 (by unfold pTm; omega), k3 81 15 (by unfold pTm; omega)]
            refine b5.imp id fun q => ⟨q.1, Wd_off (fun k j h => k3 k j (by unfold pTm; omega)) q.2.1, q.2.2.imp id fun w => ⟨w.1, ?_⟩⟩
            have w2 := w.2
            unfold SI at w2 ⊢
            have r5 : z3.1 5 = z2.1 5 := funext fun j => k3 _ _ (by unfold pTm; omega)
            have r6 : z3.1 6 = z2.1 6 := funext fun j => k3 _ _ (by unfold pTm; omega)
            have r82 : z3.1 82 = z2.1 82 := funext fun j => k3 _ _ (by unfold pTm; omega)
            have r83 : z3.1 83 = z2.1 83 := funext fun j => k3 _ _ (by unfold pTm; omega)
            have r84 : z3.1 84 = z2.1 84 := funext fun j => k3 _ _ (by unfold pTm; omega)
            have r85 : z3.1 85 = z2.1 85 := funext fun j => k3 _ _ (by unfold pTm; omega)
            have r88 : z3.1 88 = z2.1 88 := funext fun j => k3 _ _ (by unfold pTm; omega)
            have r89 : z3.1 89 = z2.1 89 := funext fun j => k3 _ _ (by unfold pTm; omega)
            rw [r5, r6, r82, r83, r84, r85, r88, r89, k3 81 16 (by unfold pTm; omega)]
            exact w2
        · rw [k3 _ _ (by unfold pTm; omega), k3 _ _ (by unfold pTm; omega), m154, oz _ _ (by unfold pRu; omega) (by omega)]; exact h3 i hi
        · rw [k3 _ _ (by unfold pTm; omega), k3 _ _ (by unfold pTm; omega), m158, oz _ _ (by unfold pRu; omega) (by omega)]; exact h4 i hi
        · rw [k3 _ _ (by unfold pTm; omega), o2.2 _ _ (by omega)]; exact hu.2 i hi
        · rw [k3 _ _ (by unfold pTm; omega), e4, m94, ← hz2]
          show z.1 81 13 + (d : Int) = z.1 94 99 + d
          omega
        · rw [k3 _ _ (by unfold pTm; omega), ← hz2]
          show 0 ≤ z.1 81 13 + (d : Int)
          omega
        · rw [k3 _ _ (by unfold pTm; omega), ← hz2]
          show z.1 81 13 + (d : Int) ≤ tb + 1000
          omega
      · exact off_t (off_w o1 fun k j h => by unfold pRu at h; unfold pF; omega) (off_t (off_w o2 fun k j h => by unfold pF; omega) (off_w e3 fun k j h => by unfold pTm at h; unfold pF; omega))
    · rw [if_neg g1, if_neg g2, ok_s]
      refine ok_e (x := (-1, z)) ?_ ⟨rfl, hJ, off_r⟩
      unfold q_Model_tick; rw [if_neg g1, if_neg g2]
end
-- L4
section
variable {E : gEv} {c : gCf}
theorem JF_c {z z' : gZ} {tb : Int} (h : JF c tb z) (f : FI c z') (r : RI c z') (e : ∀ k j, k = 82 ∨ k = 154 ∨ k = 83 ∨ k = 158 ∨ k = 84 ∨ k = 155 ∨ (k = 81 ∧ j = 13) ∨ (k = 94 ∧ j = 99) → z'.1 k j = z.1 k j) : JF c tb z' := by
  obtain ⟨_, _, h3, h4, h5, h6, h7, h8⟩ := h
  refine ⟨f, r, fun i hi => ?_, fun i hi => ?_, fun i hi => ?_, ?_, ?_, ?_⟩
  · rw [e _ _ (by omega), e _ _ (by omega)]; exact h3 i hi
  · rw [e _ _ (by omega), e _ _ (by omega)]; exact h4 i hi
  · rw [e _ _ (by omega), e _ _ (by omega)]; exact h5 i hi
  · rw [e _ _ (by omega), e _ _ (by omega)]; exact h6
  · rw [e _ _ (by omega)]; exact h7
  · rw [e _ _ (by omega)]; exact h8
theorem FI_e {z z' : gZ} (e : ∀ k j, (5 ≤ k ∧ k ≤ 6) ∨ (81 ≤ k ∧ k ≤ 93) → z'.1 k j = z.1 k j) (f : FI c z) : FI c z' := by
  have r5 : z'.1 5 = z.1 5 := funext fun j => e _ _ (by omega)
  have r6 : z'.1 6 = z.1 6 := funext fun j => e _ _ (by omega)
  have r81 : z'.1 81 = z.1 81 := funext fun j => e _ _ (by omega)
  have r82 : z'.1 82 = z.1 82 := funext fun j => e _ _ (by omega)
  have r83 : z'.1 83 = z.1 83 := funext fun j => e _ _ (by omega)
  have r84 : z'.1 84 = z.1 84 := funext fun j => e _ _ (by omega)
  have r85 : z'.1 85 = z.1 85 := funext fun j => e _ _ (by omega)
  have r88 : z'.1 88 = z.1 88 := funext fun j => e _ _ (by omega)
  have r89 : z'.1 89 = z.1 89 := funext fun j => e _ _ (by omega)
  have r90 : z'.1 90 = z.1 90 := funext fun j => e _ _ (by omega)
  have r91 : z'.1 91 = z.1 91 := funext fun j => e _ _ (by omega)
  have r92 : z'.1 92 = z.1 92 := funext fun j => e _ _ (by omega)
  have r93 : z'.1 93 = z.1 93 := funext fun j => e _ _ (by omega)
  unfold FI FB Wd SI
  rw [r5, r6, r81, r82, r83, r84, r85, r88, r89, r90, r91, r92, r93]
  exact f
theorem RI_e {z z' : gZ} (e : ∀ k j, (5 ≤ k ∧ k ≤ 6) ∨ (154 ≤ k ∧ k ≤ 156) ∨ k = 158 ∨ (k = 94 ∧ (j = 97 ∨ j = 98)) → z'.1 k j = z.1 k j) (f : RI c z) : RI c z' := by
  have r5 : z'.1 5 = z.1 5 := funext fun j => e _ _ (by omega)
  have r6 : z'.1 6 = z.1 6 := funext fun j => e _ _ (by omega)
  have r154 : z'.1 154 = z.1 154 := funext fun j => e _ _ (by omega)
  have r155 : z'.1 155 = z.1 155 := funext fun j => e _ _ (by omega)
  have r156 : z'.1 156 = z.1 156 := funext fun j => e _ _ (by omega)
  have r158 : z'.1 158 = z.1 158 := funext fun j => e _ _ (by omega)
  unfold RI RB SR
  rw [r5, r6, r154, r155, r156, r158, e 94 97 (by omega), e 94 98 (by omega)]
  exact f
theorem s_outOf {z : gZ} {e : Nat} (g : Gr c z) (he : e < kP c) : q_Field_outOf E (kL c) e z = some (fOut c (z.1 82) (z.1 84) (z.1 85) e) := by
  have hP := kP_b g.1
  unfold q_Field_outOf fOut
  rw [s_isUsed g he, b1_s]
  by_cases h : z.1 82 (e * kX c + 16) = 1
  · rw [if_pos h, if_neg (by omega), if_pos h, kL_84, if_pos (by omega), gtN]
  · rw [if_neg h, if_pos rfl, if_neg h, kL_85, if_pos (by omega), gtN]
theorem s_canAsk {z : gZ} (g : Gr c z) (a i : Int) : q_Field_canAsk E (kL c) a i z = some (if (a = 0 ∧ 0 ≤ i ∧ i < (kW c : Int)) ∨ (a = 1 ∧ 0 ≤ i ∧ i < (kD c : Int) ∧ nb (z.1 82) (kY c + i.toNat * (6 + kT c)) 2 = 2) ∨ ((a = 2 ∨ a = 3) ∧ 0 ≤ i ∧ i < (kP c : Int)) then 1 else 0) := by
  have h1 := g.2.1
  have hYB := kYB c
  have hB := kB_b g.1
  unfold q_Field_canAsk
  rw [h1.2.2.2.2.2.2.2.1, h1.2.2.2.2.2.1, h1.2.2.2.2.2.2.1]
  by_cases a0 : a = 0
  · rw [if_pos a0]
    by_cases i0 : i < 0
    · rw [if_pos i0, if_neg (by omega)]
    · rw [if_neg i0]
      by_cases i1 : (kW c : Int) ≤ i
      · rw [if_pos i1, if_neg (by omega)]
      · rw [if_neg i1, if_pos (by omega)]
  · rw [if_neg a0]
    by_cases a1 : a = 1
    · rw [if_pos a1]
      by_cases i0 : i < 0
      · rw [if_pos i0, if_neg (by omega)]
      · rw [if_neg i0]
        by_cases i1 : (kD c : Int) ≤ i
        · rw [if_pos i1, if_neg (by omega)]
        · obtain ⟨n, rfl⟩ : ∃ n : Nat, i = n := ⟨i.toNat, by omega⟩
          have hz := kZ_i (c := c) (show n < kD c by omega) (show 5 < 6 + kT c by omega)
          rw [if_neg i1, s_padBit g (by omega), b1_s, show (2 : Int) = ((2 : Nat) : Int) from rfl, s_numberAt (by omega) (by omega) g.1, b1_s, gtN]
          by_cases hn : nb (z.1 82) (kY c + n * (6 + kT c)) 2 = ((2 : Nat) : Int)
          · rw [if_pos hn, if_pos (by omega)]
          · rw [if_neg hn, if_neg (by omega)]
    · rw [if_neg a1]
      by_cases a2 : a = 2
      · rw [if_pos a2]
        by_cases i0 : i < 0
        · rw [if_pos i0, if_neg (by omega)]
        · rw [if_neg i0]
          by_cases i1 : (kP c : Int) ≤ i
          · rw [if_pos i1, if_neg (by omega)]
          · rw [if_neg i1, if_pos (by omega)]
      · rw [if_neg a2]
        by_cases a3 : a = 3
        · rw [if_pos a3]
          by_cases i0 : i < 0
          · rw [if_pos i0, if_neg (by omega)]
          · rw [if_neg i0]
            by_cases i1 : (kP c : Int) ≤ i
            · rw [if_pos i1, if_neg (by omega)]
            · rw [if_neg i1, if_pos (by omega)]
        · rw [if_neg a3, if_neg (by omega)]
/-- the reference: what can be asked goes on, the rest answers NONE -/
theorem s_probeM {z : gZ} (g : Gr c z) (r : RB c z) (a i : Int) : q_Model_probe E (kL c) a i z = if (a = 0 ∧ 0 ≤ i ∧ i < (kW c : Int)) ∨ (a = 1 ∧ 0 ≤ i ∧ i < (kD c : Int) ∧ nb (z.1 154) (kY c + i.toNat * (6 + kT c)) 2 = 2) ∨ (a = 2 ∧ 0 ≤ i ∧ i < (kP c : Int)) then q_Model_probe_j106 E (kL c) a i z else if a = 3 ∧ 0 ≤ i ∧ i < (kP c : Int) then some (z.1 155 i.toNat, z) else some (-1, z) := by
  have h2 := g.2.2.1
  have hYB := kYB c
  have hB := kB_b g.1
  have hP := kP_b g.1
  have no : ∀ a, q_Model_probe_j47 E (kL c) a i z = some (-1, z) := fun a => by
    unfold q_Model_probe_j47 q_Model_probe_j48; rw [if_pos rfl]
  have yes : ∀ a, ¬ a = 3 → ¬ a = 1 → q_Model_probe_j43 E (kL c) a i z = if 0 ≤ i then q_Model_probe_j106 E (kL c) a i z else some (-1, z) := fun a h3 h1 => by
    unfold q_Model_probe_j43 q_Model_probe_j48; rw [if_neg (by omega), if_neg h3, if_neg h1]
  unfold q_Model_probe q_Model_probe_j12 q_Model_probe_j25 q_Model_probe_j35
  rw [h2.2.2.2.2.2.2.2.2.1, h2.2.2.2.2.2.2.1, h2.2.2.2.2.2.1]
  by_cases a0 : a = 0
  · rw [if_pos a0, if_neg (show ¬ a = 1 by omega), if_neg (show ¬ a = 2 by omega), if_neg (show ¬ a = 3 by omega), no]
    by_cases i1 : i < (kW c : Int)
    · rw [if_pos i1, yes a (by omega) (by omega)]
      by_cases i0 : 0 ≤ i
      · rw [if_pos i0, if_pos (by omega)]
      · rw [if_neg i0, if_neg (by omega), if_neg (by omega)]
    · rw [if_neg i1, if_neg (by omega), if_neg (by omega)]
  · rw [if_neg a0]
    by_cases a1 : a = 1
    · rw [if_pos a1, if_neg (show ¬ a = 2 by omega), if_neg (show ¬ a = 3 by omega), no]
      by_cases i1 : i < (kD c : Int)
      · rw [if_pos i1]
        unfold q_Model_probe_j43 q_Model_probe_j48
        rw [if_neg (by omega)]
        by_cases i0 : 0 ≤ i
        · obtain ⟨n, rfl⟩ : ∃ n : Nat, i = n := ⟨i.toNat, by omega⟩
          have hz := kZ_i (c := c) (show n < kD c by omega) (show 5 < 6 + kT c by omega)
          have eb : (kY c : Int) + (n : Int) * ((6 + kT c : Nat) : Int) = ((kY c + n * (6 + kT c) : Nat) : Int) := by push_cast; rfl
          have hba : q_Model_bitsAt E (kL c) ((kY c + n * (6 + kT c) : Nat) : Int) 2 z = some (nb (z.1 154) (kY c + n * (6 + kT c)) 2) := s_bitsAt (E := E) (c := c) (z := z) (a := kY c + n * (6 + kT c)) (n := 2) (by omega) (by omega) g.1 (fun i hi => r.1 _ (by omega))
          rw [if_pos i0, if_neg (show ¬ a = 3 by omega), if_pos a1, h2.2.2.2.2.2.2.2.2.2.2.2.1, h2.2.2.2.2.2.2.2.2.2.2.1, eb, if_pos (by omega), hba, b1_s, gtN]
          by_cases hn : nb (z.1 154) (kY c + n * (6 + kT c)) 2 = 2
          · rw [if_pos hn, if_pos (by omega)]
          · rw [if_neg hn, if_neg (by omega), if_neg (by omega)]
        · rw [if_neg i0, if_neg (by omega), if_neg (by omega)]
      · rw [if_neg i1, if_neg (by omega), if_neg (by omega)]
    · rw [if_neg a1]
      by_cases a2 : a = 2
      · rw [if_pos a2, no]
        by_cases i1 : (kP c : Int) ≤ i
        · rw [if_pos i1, if_neg (by omega), if_neg (by omega)]
        · rw [if_neg i1, yes a (by omega) (by omega)]
          by_cases i0 : 0 ≤ i
          · rw [if_pos i0, if_pos (by omega)]
          · rw [if_neg i0, if_neg (by omega), if_neg (by omega)]
      · rw [if_neg a2]
        by_cases a3 : a = 3
        · rw [if_pos a3, no]
          by_cases i1 : (kP c : Int) ≤ i
          · rw [if_pos i1, if_neg (by omega), if_neg (by omega)]
          · rw [if_neg i1]
            unfold q_Model_probe_j43 q_Model_probe_j48
            rw [if_neg (by omega)]
            by_cases i0 : 0 ≤ i
            · rw [if_pos i0, if_pos a3, kL_155, if_pos (by omega)]
              rcases r.2.2.1 i.toNat (by omega) with h | h
              · rw [if_pos h, if_neg (by omega), if_pos (by omega), h]
              · rw [if_neg (show ¬ z.1 155 i.toNat = 0 by omega), if_neg (by omega), if_pos (by omega), h]
            · rw [if_neg i0, if_neg (by omega), if_neg (by omega)]
        · rw [if_neg a3, no, if_neg (by omega), if_neg (by omega)]
theorem l_probe {z : gZ} {tb : Int} (g : Gr c z) (h : JF c tb z) (a i : Int) : zOk (q_Face_probe E (kL c) a i z) (fun r1 => zOk (q_Model_probe E (kL c) a i r1.2) (fun r2 => r1.1 = r2.1 ∧ JF c tb r2.2 ∧ zOff pF z r2.2)) := by
  have hJ := h
  obtain ⟨f, r, h3, h4, h5, h6, h7, h8⟩ := h
  have hYB := kYB c
  have hB := kB_b g.1
  have hP := kP_b g.1
  have hW := kW_b g.1
  have hD := kD_b g.1
  have hT := g.1.2.2.2
  have hN := kN_b g.1
  have enb : ∀ n m k, k ≤ 6 → n < kD c → kY c + n * (6 + kT c) + m + k ≤ kY c + n * (6 + kT c) + 6 → nb (z.1 82) (kY c + n * (6 + kT c) + m) k = nb (z.1 154) (kY c + n * (6 + kT c) + m) k := fun n m k hk hn hm => nb_c fun j hj => by
    have hz := kZ_i (c := c) hn (show 5 < 6 + kT c by omega)
    exact h3 _ (by omega)
  unfold q_Face_probe
  rw [s_canAsk g, b1_s]
  by_cases hq : (a = 0 ∧ 0 ≤ i ∧ i < (kW c : Int)) ∨ (a = 1 ∧ 0 ≤ i ∧ i < (kD c : Int) ∧ nb (z.1 82) (kY c + i.toNat * (6 + kT c)) 2 = 2) ∨ ((a = 2 ∨ a = 3) ∧ 0 ≤ i ∧ i < (kP c : Int))
  · rw [if_pos hq, if_neg (by omega)]
    by_cases a3 : a = 3
    · obtain ⟨n, rfl⟩ : ∃ n : Nat, i = n := ⟨i.toNat, by omega⟩
      rw [if_pos a3, kL_84, if_pos (by omega), ok_s, gtN]
      refine ok_e (x := (z.1 155 n, z)) ?_ ⟨h5 n (by omega), hJ, off_r⟩
      show q_Model_probe E (kL c) a n z = _
      rw [s_probeM g r.1, if_neg (by omega), if_pos (by omega), gtN]
    · rw [if_neg a3, ok_2]
      refine ok_w (s_settle (E := E) g f) ?_
      rintro ⟨v3, s4⟩ ⟨q1, q2, q3, q4, q5, q6, q7⟩
      simp only at q1 q2 q3 q4 q5 q6 q7
      have f4 : FI c s4 := ⟨q2, Or.inr ⟨q3, q5, Or.inr ⟨q4, q6⟩⟩⟩
      have oF : zOff pF z s4 := off_w q7 fun k j h => by unfold pSt at h; unfold pF; omega
      have g4 : Gr c s4 := Gr_off oF (fun k j => pF_S) g
      have e4 : ∀ k j, ¬ pSt k j → s4.1 k j = z.1 k j := q7.2
      have r4 : RI c s4 := RI_e (fun k j h => e4 k j (by unfold pSt; omega)) r
      have m5 : s4.1 5 = z.1 5 := funext fun j => e4 _ _ (by unfold pSt; omega)
      have m6 : s4.1 6 = z.1 6 := funext fun j => e4 _ _ (by unfold pSt; omega)
      have m82 : s4.1 82 = z.1 82 := funext fun j => e4 _ _ (by unfold pSt; omega)
      have m83 : s4.1 83 = z.1 83 := funext fun j => e4 _ _ (by unfold pSt; omega)
      have m84 : s4.1 84 = z.1 84 := funext fun j => e4 _ _ (by unfold pSt; omega)
      have m154 : s4.1 154 = z.1 154 := funext fun j => e4 _ _ (by unfold pSt; omega)
      have m155 : s4.1 155 = z.1 155 := funext fun j => e4 _ _ (by unfold pSt; omega)
      have m158 : s4.1 158 = z.1 158 := funext fun j => e4 _ _ (by unfold pSt; omega)
      have J4 : JF c tb s4 := JF_c hJ f4 r4 fun k j h => e4 k j (by unfold pSt; omega)
      have hM : ∀ x, q_Model_probe E (kL c) a i s4 = x ↔ q_Model_probe_j106 E (kL c) a i s4 = x := by
        intro x
        rw [s_probeM g4 r4.1, if_pos ?_]
        rw [m154]
        rcases hq with w | w | w
        · exact Or.inl w
        · refine Or.inr (Or.inl ⟨w.1, w.2.1, w.2.2.1, ?_⟩)
          have := enb i.toNat 0 2 (by omega) (by omega) (by omega)
          rw [Nat.add_zero] at this; rw [← this]; exact w.2.2.2
        · exact Or.inr (Or.inr ⟨w.1.resolve_right a3, w.2⟩)
      obtain ⟨s5, hs5, p1, p2, p3, p4⟩ := s_settleM (E := E) g4 r4
      have oF5 : zOff pF s4 s5 := off_w p4 fun k j h => by unfold pRt at h; unfold pF; omega
      have g5 : Gr c s5 := Gr_off oF5 (fun k j => pF_S) g4
      have e5 : ∀ k j, ¬ pRt k j → s5.1 k j = s4.1 k j := p4.2
      have f5 : FI c s5 := FI_e (fun k j h => e5 k j (by unfold pRt; omega)) f4
      have r5 : RI c s5 := ⟨p1, Or.inr ⟨p2, p3⟩⟩
      have J5 : JF c tb s5 := JF_c J4 f5 r5 fun k j h => e5 k j (by unfold pRt; omega)
      have n5 : s5.1 5 = z.1 5 := (funext fun j => e5 _ _ (by unfold pRt; omega) : s5.1 5 = s4.1 5).trans m5
      have n6 : s5.1 6 = z.1 6 := (funext fun j => e5 _ _ (by unfold pRt; omega) : s5.1 6 = s4.1 6).trans m6
      have n154 : s5.1 154 = z.1 154 := (funext fun j => e5 _ _ (by unfold pRt; omega) : s5.1 154 = s4.1 154).trans m154
      have n155 : s5.1 155 = z.1 155 := (funext fun j => e5 _ _ (by unfold pRt; omega) : s5.1 155 = s4.1 155).trans m155
      have n158 : s5.1 158 = z.1 158 := (funext fun j => e5 _ _ (by unfold pRt; omega) : s5.1 158 = s4.1 158).trans m158
      have st1 := q6.2.1
      rw [m5, m6, m82, m83, m84] at st1
      have st2 := p3.2
      rw [n5, n6, n154, n158, n155] at st2
      have hu := fStl_u g.1 h3 h4 h5 _ Ag_r st1 st2
      by_cases h0 : v3 = 0
      · have hr : ¬ s5.1 94 98 = 0 := fun h => by have := hu.1.2 h; omega
        rw [if_pos h0, ok_s]
        refine ok_e (x := (-2, s5)) ((hM _).2 ?_) ⟨rfl, J5, off_t oF oF5⟩
        unfold q_Model_probe_j106
        rw [hs5, b1_s, if_neg hr]
      · have hv1 : s4.1 81 16 = 1 := by rcases q6.1 with w | w <;> omega
        have hr : s5.1 94 98 = 0 := hu.1.1 hv1
        have grp := q6.2.2 hv1
        obtain ⟨R, fd, w1, w2, w3, w4, w5, w6⟩ := q5
        obtain ⟨s6, hs6, Q, F, rfl, hF⟩ := s_spread (E := E) g5 p1
        rw [n5, n6, n154, n158, n155] at hF
        have o6 := sq_off s5 Q F
        have e6 : ∀ k j, k ≠ 152 → k ≠ 159 → (sq s5 Q F).1 k j = s5.1 k j := fun k j h1 h2 => o6.2 k j (by omega)
        have oF6 : zOff pF s5 (sq s5 Q F) := off_w o6 fun k j h => by unfold pF; omega
        have g6 : Gr c (sq s5 Q F) := Gr_off oF6 (fun k j => pF_S) g5
        have f6 : FI c (sq s5 Q F) := FI_e (fun k j h => e6 k j (by omega) (by omega)) f5
        have r6 : RI c (sq s5 Q F) := RI_e (fun k j h => e6 k j (by omega) (by omega)) r5
        have J6 : JF c tb (sq s5 Q F) := JF_c J5 f6 r6 fun k j h => e6 k j (by omega) (by omega)
        have oAll : zOff pF z (sq s5 Q F) := off_t oF (off_t oF5 oF6)
        have agL : Ag c (s4.1 85) (s5.1 156) := hu.2
        have ago : Ag c (fOut c (z.1 82) (z.1 84) (s4.1 85)) (fOut c (z.1 154) (z.1 155) (s5.1 156)) := fun e he => fOut_c h3 h5 agL g.1 he
        have lvl : ∀ w, w < kW c → s4.1 88 (R w) = F w ∧ b01 (F w) := by
          intro w hw
          have rw' := w1 w hw
          have e1 := lev_eq (lut := s4.1 85) (pl := s4.1 83) (l := s4.1 84) g.1 w1 w2 hw
          rw [m5, m6, m82, m83, m84] at e1
          rw [m82, m83, m84] at grp
          have e2 : fLev c (z.1 5) (z.1 6) (z.1 82) (z.1 83) (fOut c (z.1 82) (z.1 84) (s4.1 85)) w ↔ fLev c (z.1 5) (z.1 6) (z.1 154) (z.1 158) (fOut c (z.1 154) (z.1 155) (s5.1 156)) w := ⟨fLev_c g.1 h3 h4 ago, fLev_c g.1 (fun i hi => (h3 i hi).symm) (fun p hp => (h4 p hp).symm) (fun e he => (ago e he).symm)⟩
          by_cases hl : fLev c (z.1 5) (z.1 6) (z.1 154) (z.1 158) (fOut c (z.1 154) (z.1 155) (s5.1 156)) w
          · have x1 := (hF w hw).1 hl
            have x2 := (grp (R w) (by omega)).1 (e1.2 (e2.2 hl))
            exact ⟨x2.trans x1.symm, Or.inr x1⟩
          · have x1 := (hF w hw).2 hl
            have x2 := (grp (R w) (by omega)).2 fun y => hl (e2.1 (e1.1 y))
            exact ⟨x2.trans x1.symm, Or.inl x1⟩
        have e159 : ∀ j, (sq s5 Q F).1 159 j = F j := fun j => by rw [sq_159]
        have fin : ∀ (v : Int), q_Field_ask E (kL c) a i s4 = some v → q_Model_probe_j106 E (kL c) a i s4 = some (v, sq s5 Q F) → zOk (gB1 (q_Field_ask E (kL c) a i s4) fun v5 => some (v5, s4)) (fun r1 => zOk (q_Model_probe E (kL c) a i r1.2) (fun r2 => r1.1 = r2.1 ∧ JF c tb r2.2 ∧ zOff pF z r2.2)) := by
          intro v e1 e2
          rw [e1, b1_s, ok_s]
          exact ok_e ((hM _).2 e2) ⟨rfl, J6, oAll⟩
        have pre : ∀ x, q_Model_probe_j106 E (kL c) a i s4 = x ↔ (if a = 0 then (if 0 ≤ i ∧ i < ((kL c 159 : Nat) : Int) then if (sq s5 Q F).1 159 i.toNat = 0 then some (0, sq s5 Q F) else some (1, sq s5 Q F) else none) else if a = 2 then (gB1 (q_Model_outNow E (kL c) i (sq s5 Q F)) fun v7 => if v7 = 0 then some (0, sq s5 Q F) else some (1, sq s5 Q F)) else if -2147483648 ≤ (((sq s5 Q F).1 94 11) + (i * ((sq s5 Q F).1 94 10))) + 2 ∧ (((sq s5 Q F).1 94 11) + (i * ((sq s5 Q F).1 94 10))) + 2 < 2147483648 then gB1 (q_Model_bitsAt E (kL c) ((((sq s5 Q F).1 94 11) + (i * ((sq s5 Q F).1 94 10))) + 2) 4 (sq s5 Q F)) fun v9 => if -2147483648 ≤ v9 - 1 ∧ v9 - 1 < 2147483648 then gLet (v9 - 1) fun x11 => if x11 < 0 then some (0, sq s5 Q F) else if (sq s5 Q F).1 94 3 ≤ x11 then some (0, sq s5 Q F) else if x11 < 0 then q_Model_probe_j218 E (kL c) i (sq s5 Q F) else if x11 < (sq s5 Q F).1 94 3 then q_Model_probe_j224 E (kL c) i x11 (sq s5 Q F) else q_Model_probe_j218 E (kL c) i (sq s5 Q F) else none else none) = x := by
          intro x
          unfold q_Model_probe_j106
          rw [hs5, b1_s, if_pos hr, hs6, b1_s]
        rw [if_neg h0]
        rcases hq with ⟨a0, i0, i1⟩ | ⟨a1, i0, i1, i2⟩ | ⟨a2, i0, i1⟩
        · obtain ⟨n, rfl⟩ : ∃ n : Nat, i = n := ⟨i.toNat, by omega⟩
          obtain ⟨l1, l2⟩ := lvl n (by omega)
          have rn := w1 n (by omega)
          refine fin (F n) ?_ ((pre _).2 ?_)
          · unfold q_Field_ask
            rw [if_pos a0, kL_89, if_pos (by omega), gtN, rn.2, kL_88, if_pos (by omega), gtN, l1]
          · rw [if_pos a0, kL_159, if_pos (by omega), gtN, e159]
            rcases l2 with w | w
            · rw [if_pos w, w]
            · rw [if_neg (by omega), w]
        · obtain ⟨n, rfl⟩ : ∃ n : Nat, i = n := ⟨i.toNat, by omega⟩
          have hn : n < kD c := by omega
          have hz := kZ_i (c := c) hn (show 5 < 6 + kT c by omega)
          have e2' : ((kY c + n * (6 + kT c) : Nat) : Int) + 2 = ((kY c + n * (6 + kT c) + 2 : Nat) : Int) := by push_cast; rfl
          have n4 : nb (s4.1 82) (kY c + n * (6 + kT c) + 2) 4 = nb (z.1 154) (kY c + n * (6 + kT c) + 2) 4 := by rw [m82]; exact enb n 2 4 (by omega) hn (by omega)
          obtain ⟨m, m1, m2, _⟩ := nb_n (b := z.1 154) (a := kY c + n * (6 + kT c) + 2) (n := 4) (by omega) (fun j hj => r.1.1 _ (by omega))
          have m1 : m < 16 := m1
          have hba : q_Model_bitsAt E (kL c) ((kY c + n * (6 + kT c) + 2 : Nat) : Int) 4 (sq s5 Q F) = some (m : Int) := by
            have t154 : (sq s5 Q F).1 154 = z.1 154 := (funext fun j => e6 _ _ (by omega) (by omega) : (sq s5 Q F).1 154 = s5.1 154).trans n154
            have := s_bitsAt (E := E) (c := c) (z := sq s5 Q F) (a := kY c + n * (6 + kT c) + 2) (n := 4) (by omega) (by omega) g.1 (fun j hj => by rw [t154]; exact r.1.1 _ (by omega))
            rw [t154, m2] at this; exact this
          have eb : ((sq s5 Q F).1 94 11 + (n : Int) * (sq s5 Q F).1 94 10) + 2 = ((kY c + n * (6 + kT c) + 2 : Nat) : Int) := by
            rw [g6.2.2.1.2.2.2.2.2.2.2.2.2.2.2.1, g6.2.2.1.2.2.2.2.2.2.2.2.2.2.1]; push_cast; rfl
          have na : q_Field_numberAt E (kL c) ((kY c + n * (6 + kT c) + 2 : Nat) : Int) 4 s4 = some (m : Int) := by
            have := s_numberAt (E := E) (c := c) (z := s4) (a := kY c + n * (6 + kT c) + 2) (n := 4) (by omega) (by omega) g.1
            rw [n4, m2] at this; exact this
          have eN : (kN c : Int) + (n : Int) = ((kN c + n : Nat) : Int) := by push_cast; rfl
          have ask0 : ∀ x, q_Field_ask E (kL c) a (n : Int) s4 = x ↔ (if (m : Int) < 1 then q_Field_ask_j63 E (kL c) (n : Int) (m : Int) s4 else if s4.1 1 3 < (m : Int) then q_Field_ask_j63 E (kL c) (n : Int) (m : Int) s4 else q_Field_ask_j64 E (kL c) (n : Int) (m : Int) 1 s4) = x := by
            intro x
            unfold q_Field_ask
            rw [if_neg (by omega), if_neg (by omega), s_padBit g4 hn, b1_s, e2', if_pos (by omega), na, b1_s]
          have askz : q_Field_ask_j63 E (kL c) (n : Int) (m : Int) s4 = some 0 := by
            unfold q_Field_ask_j63 q_Field_ask_j64
            rw [if_pos rfl]
          have prx : ∀ x, q_Model_probe_j106 E (kL c) a (n : Int) s4 = x ↔ (if (m : Int) - 1 < 0 then some (0, sq s5 Q F) else if (kT c : Int) ≤ (m : Int) - 1 then some (0, sq s5 Q F) else if (m : Int) - 1 < 0 then q_Model_probe_j218 E (kL c) (n : Int) (sq s5 Q F) else if (m : Int) - 1 < (kT c : Int) then q_Model_probe_j224 E (kL c) (n : Int) ((m : Int) - 1) (sq s5 Q F) else q_Model_probe_j218 E (kL c) (n : Int) (sq s5 Q F)) = x := by
            intro x
            rw [pre, if_neg (by omega), if_neg (by omega), eb, if_pos (by omega), hba, b1_s, if_pos (by omega), let_s, g6.2.2.1.2.2.2.1]
          by_cases k1 : (m : Int) < 1
          · exact fin 0 ((ask0 _).2 (by rw [if_pos k1, askz])) ((prx _).2 (by rw [if_pos (by omega)]))
          · by_cases k2 : (kT c : Int) < m
            · exact fin 0 ((ask0 _).2 (by rw [if_neg k1, g4.2.1.2.2.2.1, if_pos k2, askz])) ((prx _).2 (by rw [if_neg (by omega), if_pos (by omega)]))
            · have em : (m : Int) - 1 = ((m - 1 : Nat) : Int) := by omega
              have hpw := kPw_lt (r := m - 1) g.1 hn (by omega)
              obtain ⟨l1, l2⟩ := lvl (kPw c n + (m - 1)) hpw
              have rn := w1 _ hpw
              refine fin (F (kPw c n + (m - 1))) ((ask0 _).2 ?_) ((prx _).2 ?_)
              · rw [if_neg k1, g4.2.1.2.2.2.1, if_neg k2]
                unfold q_Field_ask_j64
                rw [if_neg (by omega), g4.2.1.2.2.2.2.1, eN, if_pos (by omega), if_pos (by omega), em, s_groupAtP g4 hn (by omega), b1_s, rn.2, kL_88, if_pos (by omega), gtN, l1]
              · rw [if_neg (by omega), if_neg (by omega), if_neg (by omega), if_pos (by omega)]
                unfold q_Model_probe_j224
                rw [em, s_padWire g6 hn (by omega), b1_s, kL_159, if_pos (by omega), gtN, e159]
                rcases l2 with w | w
                · rw [if_pos w, w]
                · rw [if_neg (by omega), w]
        · have a2' : a = 2 := a2.resolve_right a3
          obtain ⟨n, rfl⟩ : ∃ n : Nat, i = n := ⟨i.toNat, by omega⟩
          have hn : n < kP c := by omega
          have so := s_outOf (E := E) g4 hn
          rw [m82, m84] at so
          have t154 : (sq s5 Q F).1 154 = z.1 154 := (funext fun j => e6 _ _ (by omega) (by omega) : (sq s5 Q F).1 154 = s5.1 154).trans n154
          have t155 : (sq s5 Q F).1 155 = z.1 155 := (funext fun j => e6 _ _ (by omega) (by omega) : (sq s5 Q F).1 155 = s5.1 155).trans n155
          have t156 : (sq s5 Q F).1 156 = s5.1 156 := funext fun j => e6 _ _ (by omega) (by omega)
          have mo := s_outNow (E := E) g6 r6.1 hn
          rw [t154, t155, t156] at mo
          have eo := ago n hn
          have b01o : b01 (fOut c (z.1 154) (z.1 155) (s5.1 156) n) := by
            unfold fOut; split
            · exact r.1.2.2.1 n hn
            · exact p1.2.2.2 n hn
          refine fin (fOut c (z.1 154) (z.1 155) (s5.1 156) n) ?_ ((pre _).2 ?_)
          · unfold q_Field_ask
            rw [if_neg (by omega), if_pos a2', so, b1_s, eo]
          · rw [if_neg (by omega), if_pos a2', mo, b1_s]
            rcases b01o with w | w
            · rw [if_pos w, w]
            · rw [if_neg (by omega), w]
  · rw [if_neg hq, if_pos rfl, ok_s]
    refine ok_e (x := (-1, z)) ?_ ⟨rfl, hJ, off_r⟩
    show q_Model_probe E (kL c) a i z = _
    rw [s_probeM g r.1, if_neg ?_, if_neg (by omega)]
    intro w
    apply hq
    rcases w with w | w | w
    · exact Or.inl w
    · refine Or.inr (Or.inl ⟨w.1, w.2.1, w.2.2.1, ?_⟩)
      have := enb i.toNat 0 2 (by omega) (by omega) (by omega)
      rw [Nat.add_zero] at this; rw [this]; exact w.2.2.2
    · exact Or.inr (Or.inr ⟨Or.inl w.1, w.2⟩)
end
