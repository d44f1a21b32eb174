set_option linter.unusedVariables false
-- R1
section
variable {E : gEv} {c : gCf}
def RB (c : gCf) (z : gZ) : Prop := (∀ i, i < kB c → b01 (z.1 154 i)) ∧ (∀ p, p < kD c → b01 (z.1 158 p)) ∧ (∀ e, e < kP c → b01 (z.1 155 e)) ∧ (∀ e, e < kP c → b01 (z.1 156 e))
theorem b01_r {x : Int} (h : b01 x) : -2147483648 ≤ x ∧ x < 2147483648 := by rcases h with h | h <;> omega
theorem b01_ne {x : Int} (h : b01 x) (h' : ¬ x = 0) : x = 1 := h.resolve_left h'
theorem s_outNow {z : gZ} {e : Nat} (g : Gr c z) (hB : RB c z) (he : e < kP c) : q_Model_outNow E (kL c) e z = some (fOut c (z.1 154) (z.1 155) (z.1 156) e) := by
  have h2 := g.2.2.1
  have hP := kP_b g.1
  have hX := kX_b g.1
  have hYB := kYB c
  have hBb := kB_b g.1
  have hy := kY_i (c := c) he (show 16 < kX c by omega)
  have e1 : (e : Int) * (kX c : Int) + 16 = ((e * kX c + 16 : Nat) : Int) := by push_cast; rfl
  unfold q_Model_outNow fOut
  rw [h2.2.2.2.2.2.2.2.2.2.1, e1, kL_154, if_pos (by omega), gtN]
  rcases hB.1 (e * kX c + 16) (by omega) with h | h
  · rw [if_pos h, if_neg (show ¬ z.1 154 (e * kX c + 16) = 1 by omega), kL_156, if_pos (by omega), gtN]; exact if_pos (hB.2.2.2 e he)
  · rw [if_neg (show ¬ z.1 154 (e * kX c + 16) = 0 by omega), if_pos h, kL_155, if_pos (by omega), gtN]; exact if_pos (hB.2.2.1 e he)
theorem rowIs_put1 {F : Nat → Int} {S : Nat → Prop} (h : rowIs c F S) (y : Nat) (T : Nat → Prop) (hT : ∀ x, x < kW c → (T x ↔ S x ∨ x = y)) : rowIs c (fun i => if i = y then 1 else F i) T := rowIs_c (rowIs_put h y) fun x hx => (hT x hx).symm
theorem zBool_1 : zBool 1 = 1 := zBool_n 1 (Or.inr rfl)
theorem zBool_0 : zBool 0 = 0 := zBool_n 0 (Or.inl rfl)
/-- what an element that is up drives -/
def oE (c : gCf) (b : Nat → Int) (o : Int) (e x : Nat) : Prop := o = 1 ∧ ∃ k, k < 4 * kT c ∧ b (e * kX c + 42 + k) = 1 ∧ kPin c e k = x
theorem s_spread29 {z : gZ} {F : Nat → Int} {S : Nat → Prop} {e : Nat} (g : Gr c z) (hB : RB c z) (he : e < kP c) (hF : rowIs c F S) : zOk (q_Model_spread_29 E (kL c) 0 0 e (zRow z 159 F)) (fun r => ∃ F', r = .inl ((e : Int) + 1, zRow z 159 F') ∧ rowIs c F' (fun x => S x ∨ oE c (z.1 154) (fOut c (z.1 154) (z.1 155) (z.1 156) e) e x)) := by
  have hP := kP_b g.1
  have hX := kX_b g.1
  have hXe : kX c = 42 + 4 * kT c := rfl
  have hYB := kYB c
  have hBb := kB_b g.1
  have hW := kW_b g.1
  have hT := g.1.2.2.2
  have hE := g.1.2.2.1
  have hd := kP_dm g.1 he
  have gF : ∀ F, Gr c (zRow z 159 F) := fun F => Gr_off (P := fun k j => k = 159) (off_row fun j => rfl) (fun k j h => by unfold pS at h; omega) g
  have o01 : b01 (fOut c (z.1 154) (z.1 155) (z.1 156) e) := by
    unfold fOut; split
    · exact hB.2.2.1 e he
    · exact hB.2.2.2 e he
  have hout : ∀ F, q_Model_outNow E (kL c) e (zRow z 159 F) = some (fOut c (z.1 154) (z.1 155) (z.1 156) e) := fun F => s_outNow (z := zRow z 159 F) (gF F) hB he
  generalize hv : fOut c (z.1 154) (z.1 155) (z.1 156) e = v at *
  have lp : zOk (gIter (fun y => q_Model_spread_40 E (kL c) 0 0 e y.1 y.2) gN (0, zRow z 159 F)) (fun t => ∃ F', t = zRow z 159 F' ∧ rowIs c F' (fun x => S x ∨ oE c (z.1 154) v e x)) := by
    refine it_for (fun (i : Nat) (F : Nat → Int) => ((i : Int), zRow z 159 F)) (fun i F => rowIs c F (fun x => S x ∨ (v = 1 ∧ ∃ k, k < i ∧ z.1 154 (e * kX c + 42 + k) = 1 ∧ kPin c e k = x))) 0 (4 * kT c) (t := F) rfl (rowIs_c hF fun x _ => ⟨Or.inl, fun h => h.elim id fun ⟨_, k, h, _⟩ => absurd h (Nat.not_lt_zero k)⟩) (by omega) (by omega) ?_ ?_
    · intro i F _ hi hF
      have gg := gF F
      have h2 := gg.2.2.1
      have hy := kY_i (c := c) he (show 42 + i < kX c by omega)
      have ea : (e : Int) * (kX c : Int) + 42 + (i : Int) = ((e * kX c + 42 + i : Nat) : Int) := by push_cast; rfl
      have e154 : ∀ j, (zRow z 159 F).1 154 j = z.1 154 j := fun j => rfl
      rcases o01 with h0 | h1
      · have key : q_Model_spread_40 E (kL c) 0 0 (e : Int) (i : Int) (zRow z 159 F) = some (.inr (zRow z 159 F)) := by
          unfold q_Model_spread_40
          rw [h2.2.2.2.1, if_pos (by omega), if_neg (by omega), hout, b1_s, if_pos h0]
        refine ok_e key (Or.inr ⟨_, rfl, F, rfl, rowIs_c hF fun x _ => or_congr_right ⟨fun h => by omega, fun h => by unfold oE at h; omega⟩⟩)
      · by_cases hb : z.1 154 (e * kX c + 42 + i) = 0
        · have key : q_Model_spread_40 E (kL c) 0 0 (e : Int) (i : Int) (zRow z 159 F) = some (.inl ((i : Int) + 1, zRow z 159 F)) := by
            unfold q_Model_spread_40
            rw [h2.2.2.2.1, if_pos (by omega), if_neg (by omega), hout, b1_s, if_neg (by omega), h2.2.2.2.2.2.2.2.2.2.1, ea, kL_154, if_pos (by omega), gtN, e154, if_pos hb, let_s]
          refine ok_e key (Or.inl ⟨F, rfl, rowIs_c hF fun x _ => or_congr_right (and_congr_right fun _ => ⟨fun ⟨k, k1, k2⟩ => ⟨k, by omega, k2⟩, fun ⟨k, k1, k2, k3⟩ => ⟨k, ?_, k2, k3⟩⟩)⟩)
          by_cases ek : k = i
          · subst ek; omega
          · omega
        · have hb1 := b01_ne (hB.1 _ (by omega)) hb
          have ⟨d1, d2⟩ := dm4 (by omega) hi
          have hw : kPin c e i < kW c := kPin_lt g.1 he hi
          have tw := s_tileWire (E := E) gg hd d1 d2
          have key : q_Model_spread_40 E (kL c) 0 0 (e : Int) (i : Int) (zRow z 159 F) = some (.inl ((i : Int) + 1, zPut (zRow z 159 F) 159 (kPin c e i) 1)) := by
            unfold q_Model_spread_40
            rw [h2.2.2.2.1, if_pos (by omega), if_neg (by omega), hout, b1_s, if_neg (by omega), h2.2.2.2.2.2.2.2.2.2.1, ea, kL_154, if_pos (by omega), gtN, e154, if_neg hb, h2.2.2.1, if_pos (by omega), if_pos (by omega), if_pos (by omega), zDiv_n e (kE c) (by omega) (by omega), zDiv_n i (kT c) (by omega) (by omega), zRem_n i (kT c) (by omega) (by omega), tw, b1_s, kL_159]
            have hw2 : kTw c (e / kE c) (i / kT c) + i % kT c < kW c := hw
            rw [if_pos (by omega), let_s, let_s, gtN, zBool_1]
            rfl
          refine ok_e key (Or.inl ⟨fun j => if j = kPin c e i then 1 else F j, by rw [zp_zr]; rfl, rowIs_put1 hF _ _ fun x hx => ⟨?_, ?_⟩⟩)
          · rintro (h | ⟨a, k, k1, k2, k3⟩)
            · exact Or.inl (Or.inl h)
            · by_cases ek : k = i
              · subst ek; exact Or.inr k3.symm
              · exact Or.inl (Or.inr ⟨a, k, by omega, k2, k3⟩)
          · rintro ((h | ⟨a, k, k1, k2, k3⟩) | h)
            · exact Or.inl h
            · exact Or.inr ⟨a, k, by omega, k2, k3⟩
            · exact Or.inr ⟨h1, i, by omega, hb1, h.symm⟩
    · intro F hF
      have key : q_Model_spread_40 E (kL c) 0 0 (e : Int) ((4 * kT c : Nat) : Int) (zRow z 159 F) = some (.inr (zRow z 159 F)) := by
        unfold q_Model_spread_40
        rw [(gF F).2.2.1.2.2.2.1, if_pos (by omega), if_pos (by omega)]
      exact ok_e key ⟨_, rfl, F, rfl, hF⟩
  obtain ⟨t, ht, F', rfl, hF'⟩ := lp
  have key : q_Model_spread_29 E (kL c) 0 0 e (zRow z 159 F) = some (.inl ((e : Int) + 1, zRow z 159 F')) := by
    unfold q_Model_spread_29
    rw [(gF F).2.2.1.2.2.2.2.2.1, if_neg (by omega), ht, b1_s, let_s]
  exact ok_e key ⟨F', rfl, hF'⟩
/-- what a pad that is up drives -/
def oP (c : gCf) (b pl : Nat → Int) (p x : Nat) : Prop := ∃ t, t < kT c ∧ nb b (kY c + p * (6 + kT c)) 2 = 1 ∧ pl p = 1 ∧ b (kY c + p * (6 + kT c) + 6 + t) = 1 ∧ kPw c p + t = x
theorem s_spread123 {z : gZ} {F : Nat → Int} {S : Nat → Prop} {p : Nat} (g : Gr c z) (hB : RB c z) (hp : p < kD c) (hF : rowIs c F S) : zOk (q_Model_spread_123 E (kL c) 0 0 p (zRow z 159 F)) (fun r => ∃ F', r = .inl ((p : Int) + 1, zRow z 159 F') ∧ rowIs c F' (fun x => S x ∨ oP c (z.1 154) (z.1 158) p x)) := by
  have hD := kD_b g.1
  have hYB := kYB c
  have hBb := kB_b g.1
  have hW := kW_b g.1
  have hT := g.1.2.2.2
  have gF : ∀ F, Gr c (zRow z 159 F) := fun F => Gr_off (P := fun k j => k = 159) (off_row fun j => rfl) (fun k j h => by unfold pS at h; omega) g
  have hz0 := kZ_i (c := c) hp (show 5 < 6 + kT c by omega)
  have eb : (kY c : Int) + (p : Int) * ((6 + kT c : Nat) : Int) = ((kY c + p * (6 + kT c) : Nat) : Int) := by push_cast; rfl
  have lp : ∀ (u : Int), (u = 0 ∨ u = 1) → zOk (gIter (fun y => q_Model_spread_170 E (kL c) 0 0 p u y.1 y.2) gN (0, zRow z 159 F)) (fun t => ∃ F', t = zRow z 159 F' ∧ rowIs c F' (fun x => S x ∨ (u = 1 ∧ ∃ t, t < kT c ∧ z.1 154 (kY c + p * (6 + kT c) + 6 + t) = 1 ∧ kPw c p + t = x))) := by
    intro u hu
    refine it_for (fun (i : Nat) (F : Nat → Int) => ((i : Int), zRow z 159 F)) (fun i F => rowIs c F (fun x => S x ∨ (u = 1 ∧ ∃ k, k < i ∧ z.1 154 (kY c + p * (6 + kT c) + 6 + k) = 1 ∧ kPw c p + k = x))) 0 (kT c) (t := F) rfl (rowIs_c hF fun x _ => ⟨Or.inl, fun h => h.elim id fun ⟨_, k, h, _⟩ => absurd h (Nat.not_lt_zero k)⟩) (by omega) (by omega) ?_ ?_
    · intro i F _ hi hF
      have gg := gF F
      have h2 := gg.2.2.1
      have hz := kZ_i (c := c) hp (show 6 + i < 6 + kT c by omega)
      have ea : (kY c : Int) + (p : Int) * ((6 + kT c : Nat) : Int) + 6 + (i : Int) = ((kY c + p * (6 + kT c) + 6 + i : Nat) : Int) := by push_cast; rfl
      have e154 : ∀ j, (zRow z 159 F).1 154 j = z.1 154 j := fun j => rfl
      rcases hu with h0 | h1
      · have key : q_Model_spread_170 E (kL c) 0 0 (p : Int) u (i : Int) (zRow z 159 F) = some (.inr (zRow z 159 F)) := by
          unfold q_Model_spread_170
          rw [h2.2.2.2.1, if_neg (by omega), if_pos h0]
        refine ok_e key (Or.inr ⟨_, rfl, F, rfl, rowIs_c hF fun x _ => or_congr_right ⟨fun h => by omega, fun h => by omega⟩⟩)
      · by_cases hb : z.1 154 (kY c + p * (6 + kT c) + 6 + i) = 0
        · have key : q_Model_spread_170 E (kL c) 0 0 (p : Int) u (i : Int) (zRow z 159 F) = some (.inl ((i : Int) + 1, zRow z 159 F)) := by
            unfold q_Model_spread_170
            rw [h2.2.2.2.1, if_neg (by omega), if_neg (by omega), h2.2.2.2.2.2.2.2.2.2.2.2.1, h2.2.2.2.2.2.2.2.2.2.2.1, ea, kL_154, if_pos (by omega), gtN, e154, if_pos hb, let_s]
          refine ok_e key (Or.inl ⟨F, rfl, rowIs_c hF fun x _ => or_congr_right (and_congr_right fun _ => ⟨fun ⟨k, k1, k2⟩ => ⟨k, by omega, k2⟩, fun ⟨k, k1, k2, k3⟩ => ⟨k, ?_, k2, k3⟩⟩)⟩)
          by_cases ek : k = i
          · subst ek; omega
          · omega
        · have hb1 := b01_ne (hB.1 _ (by omega)) hb
          have hw := kPw_lt g.1 hp hi
          have key : q_Model_spread_170 E (kL c) 0 0 (p : Int) u (i : Int) (zRow z 159 F) = some (.inl ((i : Int) + 1, zPut (zRow z 159 F) 159 (kPw c p + i) 1)) := by
            unfold q_Model_spread_170
            rw [h2.2.2.2.1, if_neg (by omega), if_neg (by omega), h2.2.2.2.2.2.2.2.2.2.2.2.1, h2.2.2.2.2.2.2.2.2.2.2.1, ea, kL_154, if_pos (by omega), gtN, e154, if_neg hb, s_padWire gg hp hi, b1_s, kL_159, if_pos (by omega), let_s, let_s, gtN, zBool_1]
          refine ok_e key (Or.inl ⟨fun j => if j = kPw c p + i then 1 else F j, by rw [zp_zr]; rfl, rowIs_put1 hF _ _ fun x hx => ⟨?_, ?_⟩⟩)
          · rintro (h | ⟨a, k, k1, k2, k3⟩)
            · exact Or.inl (Or.inl h)
            · by_cases ek : k = i
              · subst ek; exact Or.inr k3.symm
              · exact Or.inl (Or.inr ⟨a, k, by omega, k2, k3⟩)
          · rintro ((h | ⟨a, k, k1, k2, k3⟩) | h)
            · exact Or.inl h
            · exact Or.inr ⟨a, k, by omega, k2, k3⟩
            · exact Or.inr ⟨h1, i, by omega, hb1, h.symm⟩
    · intro F hF
      have key : q_Model_spread_170 E (kL c) 0 0 (p : Int) u ((kT c : Nat) : Int) (zRow z 159 F) = some (.inr (zRow z 159 F)) := by
        unfold q_Model_spread_170
        rw [(gF F).2.2.1.2.2.2.1, if_pos (by omega)]
      exact ok_e key ⟨_, rfl, F, rfl, hF⟩
  have h2 := (gF F).2.2.1
  have ha : q_Model_bitsAt E (kL c) ((kY c + p * (6 + kT c) : Nat) : Int) 2 (zRow z 159 F) = some (nb (z.1 154) (kY c + p * (6 + kT c)) 2) := by
    have := s_bitsAt (E := E) (c := c) (z := zRow z 159 F) (a := kY c + p * (6 + kT c)) (n := 2) (by omega) (by omega) g.1 (fun i hi => hB.1 _ (by omega))
    exact this
  have tail : ∀ u : Int, (u = 0 ∨ u = 1) → zOk (q_Model_spread_j165_123 E (kL c) 0 0 p u (zRow z 159 F)) (fun r => ∃ F', r = .inl ((p : Int) + 1, zRow z 159 F') ∧ rowIs c F' (fun x => S x ∨ (u = 1 ∧ ∃ t, t < kT c ∧ z.1 154 (kY c + p * (6 + kT c) + 6 + t) = 1 ∧ kPw c p + t = x))) := by
    intro u hu
    obtain ⟨t, ht, F', rfl, hF'⟩ := lp u hu
    have key : q_Model_spread_j165_123 E (kL c) 0 0 p u (zRow z 159 F) = some (.inl ((p : Int) + 1, zRow z 159 F')) := by
      unfold q_Model_spread_j165_123
      rw [ht, b1_s, if_pos (by omega), let_s]
    exact ok_e key ⟨F', rfl, hF'⟩
  have e158 : ∀ j, (zRow z 159 F).1 158 j = z.1 158 j := fun j => rfl
  unfold q_Model_spread_123
  rw [h2.2.2.2.2.2.2.1, if_neg (by omega), h2.2.2.2.2.2.2.2.2.2.2.2.1, h2.2.2.2.2.2.2.2.2.2.2.1, eb, if_pos (by omega), ha, b1_s]
  by_cases h1 : nb (z.1 154) (kY c + p * (6 + kT c)) 2 = 1
  · rw [if_pos h1, kL_158, if_pos (by omega), gtN, e158]
    by_cases h3 : z.1 158 p = 0
    · rw [if_pos h3]
      refine ok_w (tail 0 (Or.inl rfl)) ?_
      rintro r ⟨F', rfl, hF'⟩
      exact ⟨F', rfl, rowIs_c hF' fun x _ => or_congr_right ⟨fun h => absurd h.1 (by decide), fun ⟨t, t1, t2, t3, t4⟩ => by omega⟩⟩
    · rw [if_neg h3]
      refine ok_w (tail 1 (Or.inr rfl)) ?_
      rintro r ⟨F', rfl, hF'⟩
      have h4 := b01_ne (hB.2.1 p hp) h3
      exact ⟨F', rfl, rowIs_c hF' fun x _ => or_congr_right ⟨fun ⟨_, t, t1, t2, t3⟩ => ⟨t, t1, h1, h4, t2, t3⟩, fun ⟨t, t1, t2, t3, t4, t5⟩ => ⟨rfl, t, t1, t4, t5⟩⟩⟩
  · rw [if_neg h1]
    refine ok_w (tail 0 (Or.inl rfl)) ?_
    rintro r ⟨F', rfl, hF'⟩
    exact ⟨F', rfl, rowIs_c hF' fun x _ => or_congr_right ⟨fun h => absurd h.1 (by decide), fun ⟨t, t1, t2, t3, t4⟩ => absurd t2 h1⟩⟩
end
-- R2
section
variable {E : gEv} {c : gCf}
def cnt (F : Nat → Int) : Nat → Nat
  | 0 => 0
  | n + 1 => cnt F n + (if F n = 1 then 1 else 0)
theorem cnt_le (F : Nat → Int) (n : Nat) : cnt F n ≤ n := by
  induction n with
  | zero => exact Nat.le_refl 0
  | succ n ih => rw [cnt]; split <;> omega
theorem cnt_c {F G : Nat → Int} {n : Nat} (h : ∀ i, i < n → F i = G i) : cnt F n = cnt G n := by
  induction n with
  | zero => rfl
  | succ n ih => rw [cnt, cnt, ih fun i hi => h i (by omega), h n (by omega)]
theorem cnt_put {F : Nat → Int} {v n : Nat} (hv : v < n) (h0 : F v = 0) : cnt (fun i => if i = v then 1 else F i) n = cnt F n + 1 := by
  induction n with
  | zero => omega
  | succ n ih =>
    rw [cnt, cnt]
    by_cases e : n = v
    · subst e
      have : cnt (fun i => if i = n then 1 else F i) n = cnt F n := cnt_c fun i hi => if_neg (by omega)
      rw [this, if_pos (if_pos rfl), if_neg (by omega)]
    · have : (if n = v then (1 : Int) else F n) = F n := if_neg e
      rw [ih (by omega), this]; omega
theorem cnt_lt {F : Nat → Int} {v n : Nat} (hv : v < n) (h0 : F v = 0) : cnt F n < n := by
  have := cnt_put hv h0
  have := cnt_le (fun i => if i = v then 1 else F i) n
  omega
def sq (z : gZ) (Q F : Nat → Int) : gZ := zRow (zRow z 152 Q) 159 F
theorem sq_put1 (z : gZ) (Q F : Nat → Int) (j : Nat) (v : Int) : zPut (sq z Q F) 159 j v = sq z Q (fun i => if i = j then v else F i) := zp_zr _ _ _ _ _
theorem sq_put2 (z : gZ) (Q F : Nat → Int) (j : Nat) (v : Int) : zPut (sq z Q F) 152 j v = sq z (fun i => if i = j then v else Q i) F := by
  unfold sq
  rw [zp_row, zr_comm _ 159 152 _ _ (by omega), zr_row]
  congr 2
theorem sq_152 (z : gZ) (Q F : Nat → Int) : (sq z Q F).1 152 = Q := by
  unfold sq; rw [zr_ne _ _ _ _ (by omega), zr_eq]
theorem sq_159 (z : gZ) (Q F : Nat → Int) : (sq z Q F).1 159 = F := zr_eq _ _ _
theorem sq_off (z : gZ) (Q F : Nat → Int) : zOff (fun k j => k = 152 ∨ k = 159) z (sq z Q F) := off_t (off_row fun j => Or.inl rfl) (off_row fun j => Or.inr rfl)
theorem sq_self (z : gZ) : sq z (z.1 152) (z.1 159) = z := by
  unfold sq; rw [zr_self, zr_self]
/-- the queue holds just the wires that are up -/
def qI (c : gCf) (n : Nat) (last : Nat) (Q F : Nat → Int) : Prop := last = cnt F n ∧ (∀ i, i < last → ∃ x : Nat, x < n ∧ Q i = (x : Int) ∧ F x = 1) ∧ (∀ x, x < n → F x = 1 → ∃ i, i < last ∧ Q i = (x : Int))
theorem s_spread236 {z : gZ} (g : Gr c z) {F : Nat → Int} (hF : ∀ w, w < kW c → b01 (F w)) {Q : Nat → Int} : zOk (gIter (fun y => q_Model_spread_236 E (kL c) 0 y.1 y.2.1 y.2.2) gN (0, 0, sq z Q F)) (fun r => ∃ (last : Nat) (Q' : Nat → Int), r = ((last : Int), sq z Q' F) ∧ qI c (kW c) last Q' F) := by
  have hW := kW_b g.1
  refine it_for (fun (i : Nat) (t : Nat × (Nat → Int)) => ((t.1 : Int), (i : Int), sq z t.2 F)) (fun i t => qI c i t.1 t.2 F) 0 (kW c) (t := (0, Q)) rfl ⟨rfl, fun i hi => absurd hi (Nat.not_lt_zero i), fun x hx => absurd hx (Nat.not_lt_zero x)⟩ (by omega) (by omega) ?_ ?_
  · rintro i ⟨last, Q⟩ _ hi ⟨k1, k2, k3⟩
    simp only at k1 k2 k3
    have gg : Gr c (sq z Q F) := Gr_off (sq_off z Q F) (fun k j h => by unfold pS at h; omega) g
    have hle := cnt_le F i
    have e159 : ∀ j, (sq z Q F).1 159 j = F j := fun j => by rw [sq_159]
    rcases hF i hi with h0 | h1
    · have key : q_Model_spread_236 E (kL c) 0 (last : Int) (i : Int) (sq z Q F) = some (.inl ((last : Int), (i : Int) + 1, sq z Q F)) := by
        unfold q_Model_spread_236
        rw [gg.2.2.1.2.2.2.2.2.2.2.2.1, if_neg (by omega), kL_159, if_pos (by omega), gtN, e159, if_pos h0, let_s]
      refine ok_e key (Or.inl ⟨(last, Q), rfl, ?_, fun j hj => ?_, fun x hx hx1 => ?_⟩)
      · show last = cnt F i + _
        rw [if_neg (by omega)]; exact k1
      · obtain ⟨x, x1, x2⟩ := k2 j hj
        exact ⟨x, by omega, x2⟩
      · by_cases e : x = i
        · subst e; omega
        · exact k3 x (by omega) hx1
    · have key : q_Model_spread_236 E (kL c) 0 (last : Int) (i : Int) (sq z Q F) = some (.inl ((last : Int) + 1, (i : Int) + 1, sq z (fun j => if j = last then (i : Int) else Q j) F)) := by
        unfold q_Model_spread_236
        rw [gg.2.2.1.2.2.2.2.2.2.2.2.1, if_neg (by omega), kL_159, if_pos (by omega), gtN, e159, if_neg (by omega), kL_152, if_pos (by omega), let_s, if_pos (by omega), let_s, let_s, gtN, sq_put2]
      refine ok_e key (Or.inl ⟨(last + 1, fun j => if j = last then (i : Int) else Q j), rfl, ?_, fun j hj => ?_, fun x hx hx1 => ?_⟩)
      · show last + 1 = cnt F i + _
        rw [if_pos h1, k1]
      · simp only at hj ⊢
        by_cases e : j = last
        · subst e; rw [if_pos rfl]; exact ⟨i, by omega, rfl, h1⟩
        · rw [if_neg e]
          obtain ⟨x, x1, x2⟩ := k2 j (by omega)
          exact ⟨x, by omega, x2⟩
      · simp only
        by_cases e : x = i
        · subst e; exact ⟨last, by omega, if_pos rfl⟩
        · obtain ⟨j, j1, j2⟩ := k3 x (by omega) hx1
          exact ⟨j, by omega, by rw [if_neg (by omega)]; exact j2⟩
  · rintro ⟨last, Q⟩ hI
    have gg : Gr c (sq z Q F) := Gr_off (sq_off z Q F) (fun k j h => by unfold pS at h; omega) g
    have key : q_Model_spread_236 E (kL c) 0 (last : Int) ((kW c : Nat) : Int) (sq z Q F) = some (.inr ((last : Int), sq z Q F)) := by
      unfold q_Model_spread_236
      rw [gg.2.2.1.2.2.2.2.2.2.2.2.1, if_pos (by omega)]
    exact ok_e key ⟨_, rfl, last, Q, rfl, hI⟩
/-- the walk's property: what is up is reached, and what drives is up -/
def bI (c : gCf) (z : gZ) (D : Nat → Prop) (last : Nat) (Q F : Nat → Int) : Prop := qI c (kW c) last Q F ∧ (∀ w, w < kW c → b01 (F w)) ∧ (∀ w, w < kW c → F w = 1 → ∃ u, D u ∧ Cn c (z.1 5) (z.1 6) (z.1 154) u w) ∧ (∀ u, u < kW c → D u → F u = 1)
theorem s_spread290 {z : gZ} (g : Gr c z) (hB : RB c z) {D : Nat → Prop} {last : Nat} {Q F : Nat → Int} {w : Nat} {l1 : Int} (hw : w < kW c) (hI : bI c z D last Q F) (hFw : F w = 1) :
    zOk (gIter (fun y => q_Model_spread_290 E (kL c) l1 (w : Int) y.1 y.2.1 y.2.2) gN ((last : Int), ((6 * w : Nat) : Int), sq z Q F)) (fun r => ∃ (last' : Nat) (Q' F' : Nat → Int), r = ((last' : Int), sq z Q' F') ∧ bI c z D last' Q' F' ∧ last ≤ last' ∧ (∀ i, i < last → Q' i = Q i) ∧ (∀ x, F x = 1 → F' x = 1) ∧ ∀ v, jn c (z.1 5) (z.1 6) (z.1 154) w v → F' v = 1) := by
  have hW := kW_b g.1
  have hBb := kB_b g.1
  obtain ⟨d, d1, d2, d3, d4, d5⟩ := g.2.2.2.2.2.1 w hw
  refine ok_w (it_for (fun (i : Nat) (t : Nat × (Nat → Int) × (Nat → Int)) => ((t.1 : Int), (i : Int), sq z t.2.1 t.2.2)) (fun i t => bI c z D t.1 t.2.1 t.2.2 ∧ last ≤ t.1 ∧ (∀ i, i < last → t.2.1 i = Q i) ∧ (∀ x, F x = 1 → t.2.2 x = 1) ∧ ∀ k, 6 * w + k < i → k < d → ∀ v j : Nat, z.1 8 (w * 6 + k) = (v : Int) → z.1 9 (w * 6 + k) = (j : Int) → z.1 154 (kZ c + j) = 1 → t.2.2 v = 1) (6 * w) (6 * w + d)
    (Q := fun r => ∃ (last' : Nat) (Q' F' : Nat → Int), r = ((last' : Int), sq z Q' F') ∧ bI c z D last' Q' F' ∧ last ≤ last' ∧ (∀ i, i < last → Q' i = Q i) ∧ (∀ x, F x = 1 → F' x = 1) ∧ ∀ k, k < d → ∀ v j : Nat, z.1 8 (w * 6 + k) = (v : Int) → z.1 9 (w * 6 + k) = (j : Int) → z.1 154 (kZ c + j) = 1 → F' v = 1) (t := (last, Q, F)) rfl ⟨hI, Nat.le_refl _, fun _ _ => rfl, fun _ h => h, fun k hk => by omega⟩ (by omega) (by omega) ?_ ?_) ?_
  · rintro i ⟨n, Q1, F1⟩ hi1 hi2 ⟨k1, k2, k3, k4, k5⟩
    simp only at k1 k2 k3 k4 k5
    obtain ⟨k, rfl⟩ : ∃ k, i = 6 * w + k := ⟨i - 6 * w, by omega⟩
    obtain ⟨v, j, v1, v2, v3, v4, v5, v6, v7⟩ := d4 k (by omega)
    have gg : Gr c (sq z Q1 F1) := Gr_off (sq_off z Q1 F1) (fun k j h => by unfold pS at h; omega) g
    have f : ∀ k j, k ≠ 152 → k ≠ 159 → (sq z Q1 F1).1 k j = z.1 k j := fun k j h1 h2 => (sq_off z Q1 F1).2 k j (by omega)
    have f159 : ∀ j, (sq z Q1 F1).1 159 j = F1 j := fun j => by rw [sq_159]
    have ew : 6 * w + k = w * 6 + k := by omega
    have hj : kZ c + j < kB c := by unfold kB; omega
    have e6 : 6 * (w : Int) + (d : Int) = ((6 * w + d : Nat) : Int) := by push_cast; rfl
    obtain ⟨⟨q1, q2, q3⟩, q4, q5, q6⟩ := k1
    have hcn : F1 w = 1 := k4 w hFw
    have pre : ∀ x, q_Model_spread_290 E (kL c) l1 (w : Int) (n : Int) ((6 * w + k : Nat) : Int) (sq z Q1 F1) = x ↔ (if z.1 154 (kZ c + j) = 0 then some (.inl ((n : Int), ((6 * w + k : Nat) : Int) + 1, sq z Q1 F1)) else if F1 v = 0 then (gLet (zPut (sq z Q1 F1) 159 v (zBool 1)) fun s40 => if 0 ≤ (n : Int) ∧ (n : Int) < ((kL c 152 : Nat) : Int) then gLet (zPut s40 152 n (s40.1 138 (w * 6 + k))) fun s41 => if -2147483648 ≤ (n : Int) + 1 ∧ (n : Int) + 1 < 2147483648 then gLet ((n : Int) + 1) fun x42 => gLet (((6 * w + k : Nat) : Int) + 1) fun x43 => some (.inl (x42, x43, s41)) else none else none) else gLet (((6 * w + k : Nat) : Int) + 1) fun x44 => some (.inl ((n : Int), x44, sq z Q1 F1))) = x := by
      intro x
      unfold q_Model_spread_290
      rw [kL_140, if_pos (by omega), gtN, f 140 w (by omega) (by omega), d3, e6, if_pos (by omega), if_neg (by omega), kL_139, if_pos (by omega), gtN, f 139 _ (by omega) (by omega), ew, v6, kL_154, if_pos (by omega), gtN, f 154 _ (by omega) (by omega)]
      by_cases h0 : z.1 154 (kZ c + j) = 0
      · rw [if_pos h0, if_pos h0]; rfl
      · rw [if_neg h0, if_neg h0, kL_138, if_pos (by omega), f 138 _ (by omega) (by omega), v4, kL_159, if_pos (by omega), gtN, f159]
        rfl
    by_cases h0 : z.1 154 (kZ c + j) = 0
    · have key := (pre _).2 (if_pos h0)
      refine ok_e key (Or.inl ⟨(n, Q1, F1), rfl, ⟨⟨q1, q2, q3⟩, q4, q5, q6⟩, k2, k3, k4, fun k' hk' hk2 v' j' a1 a2 a3 => ?_⟩)
      by_cases e : k' = k
      · subst e
        have : j' = j := by omega
        subst this; omega
      · exact k5 k' (by omega) hk2 v' j' a1 a2 a3
    · have hb1 := b01_ne (hB.1 _ hj) h0
      have hjn : jn c (z.1 5) (z.1 6) (z.1 154) w v := ⟨j, v2, hb1, v7⟩
      rcases q4 v v1 with hv0 | hv1
      · have hlt := cnt_lt v1 hv0
        have key : q_Model_spread_290 E (kL c) l1 (w : Int) (n : Int) ((6 * w + k : Nat) : Int) (sq z Q1 F1) = some (.inl ((n : Int) + 1, ((6 * w + k : Nat) : Int) + 1, sq z (fun i => if i = n then (v : Int) else Q1 i) (fun i => if i = v then 1 else F1 i))) := by
          refine (pre _).2 ?_
          rw [if_neg h0, if_pos hv0, let_s, sq_put1, kL_152, if_pos (by omega), let_s, if_pos (by omega), let_s, let_s, sq_put2, zBool_1]
          have : (sq z Q1 fun i => if i = v then 1 else F1 i).1 138 (w * 6 + k) = v := ((sq_off z Q1 _).2 _ _ (by omega)).trans v4
          rw [this]
        refine ok_e key (Or.inl ⟨(n + 1, (fun i => if i = n then (v : Int) else Q1 i), (fun i => if i = v then 1 else F1 i)), rfl, ⟨⟨?_, ?_, ?_⟩, ?_, ?_, ?_⟩, by simp only; omega, ?_, ?_, ?_⟩)
        · simp only; rw [cnt_put v1 hv0, q1]
        · intro i hi
          simp only at hi ⊢
          by_cases e : i = n
          · subst e; exact ⟨v, v1, if_pos rfl, if_pos rfl⟩
          · obtain ⟨x, x1, x2, x3⟩ := q2 i (by omega)
            refine ⟨x, x1, by rw [if_neg e]; exact x2, ?_⟩
            split
            · rfl
            · exact x3
        · intro x hx hx1
          simp only at hx1 ⊢
          by_cases e : x = v
          · subst e; exact ⟨n, by omega, if_pos rfl⟩
          · rw [if_neg e] at hx1
            obtain ⟨i, i1, i2⟩ := q3 x hx hx1
            exact ⟨i, by omega, by rw [if_neg (by omega)]; exact i2⟩
        · intro x hx
          simp only
          split
          · exact Or.inr rfl
          · exact q4 x hx
        · intro x hx hx1
          simp only at hx1
          by_cases e : x = v
          · subst e
            obtain ⟨u, u1, u2⟩ := q5 w hw hcn
            exact ⟨u, u1, Cn_t u2 (Cn_j hjn)⟩
          · rw [if_neg e] at hx1; exact q5 x hx hx1
        · intro u hu hd
          simp only
          split
          · rfl
          · exact q6 u hu hd
        · intro i hi
          simp only
          rw [if_neg (by omega)]; exact k3 i hi
        · intro x hx
          simp only
          split
          · rfl
          · exact k4 x hx
        · intro k' hk' hk2 v' j' a1 a2 a3
          simp only
          by_cases e : k' = k
          · subst e
            have : v' = v := by omega
            subst this; exact if_pos rfl
          · split
            · rfl
            · exact k5 k' (by omega) hk2 v' j' a1 a2 a3
      · have key : q_Model_spread_290 E (kL c) l1 (w : Int) (n : Int) ((6 * w + k : Nat) : Int) (sq z Q1 F1) = some (.inl ((n : Int), ((6 * w + k : Nat) : Int) + 1, sq z Q1 F1)) := by
          refine (pre _).2 ?_
          rw [if_neg h0, if_neg (by omega), let_s]
        refine ok_e key (Or.inl ⟨(n, Q1, F1), rfl, ⟨⟨q1, q2, q3⟩, q4, q5, q6⟩, k2, k3, k4, fun k' hk' hk2 v' j' a1 a2 a3 => ?_⟩)
        by_cases e : k' = k
        · subst e
          have : v' = v := by omega
          subst this; exact hv1
        · exact k5 k' (by omega) hk2 v' j' a1 a2 a3
  · rintro ⟨n, Q1, F1⟩ ⟨k1, k2, k3, k4, k5⟩
    have f : ∀ k j, k ≠ 152 → k ≠ 159 → (sq z Q1 F1).1 k j = z.1 k j := fun k j h1 h2 => (sq_off z Q1 F1).2 k j (by omega)
    have e6 : 6 * (w : Int) + (d : Int) = ((6 * w + d : Nat) : Int) := by push_cast; rfl
    have key : q_Model_spread_290 E (kL c) l1 (w : Int) (n : Int) ((6 * w + d : Nat) : Int) (sq z Q1 F1) = some (.inr ((n : Int), sq z Q1 F1)) := by
      unfold q_Model_spread_290
      rw [kL_140, if_pos (by omega), gtN, f 140 w (by omega) (by omega), d3, e6, if_pos (by omega), if_pos (by omega)]
    exact ok_e key ⟨_, rfl, n, Q1, F1, rfl, k1, k2, k3, k4, fun k hk v j => k5 k (by omega) hk v j⟩
  · rintro r ⟨n, Q1, F1, rfl, k1, k2, k3, k4, k5⟩
    refine ⟨n, Q1, F1, rfl, k1, k2, k3, k4, fun v hv => ?_⟩
    obtain ⟨j, j1, j2, j3⟩ := hv
    obtain ⟨k, k6, k7, k8⟩ := d5 j v j1 j3
    exact k5 k k6 v j k7 k8 j2
end
-- R3
section
variable {E : gEv} {c : gCf}
theorem s_spread269 {z : gZ} (g : Gr c z) (hB : RB c z) {D : Nat → Prop} {last : Nat} {Q F : Nat → Int} (hI : bI c z D last Q F) (hD : ∀ u, D u → u < kW c) :
    zOk (gIter (fun y => q_Model_spread_269 E (kL c) y.1 y.2.1 y.2.2) gN (0, (last : Int), sq z Q F)) (fun r => ∃ Q' F', r = sq z Q' F' ∧ rowIs c F' (fun w => ∃ u, D u ∧ Cn c (z.1 5) (z.1 6) (z.1 154) u w)) := by
  have hW := kW_b g.1
  refine it_inv (fun s : Int × Int × gZ => ∃ (i n : Nat) (Q' F' : Nat → Int), s = ((i : Int), (n : Int), sq z Q' F') ∧ i ≤ n ∧ bI c z D n Q' F' ∧ ∀ j, j < i → ∀ x : Nat, Q' j = (x : Int) → ∀ y, jn c (z.1 5) (z.1 6) (z.1 154) x y → F' y = 1) _ (fun s => 1000 - s.1.toNat) ⟨0, last, Q, F, rfl, Nat.zero_le _, hI, fun j hj => absurd hj (Nat.not_lt_zero j)⟩ (by show 1000 - (0 : Int).toNat < _; omega) ?_
  rintro s ⟨i, n, Q1, F1, rfl, h1, h2, h3⟩
  have hcnt : n ≤ kW c := by rw [h2.1.1]; exact cnt_le _ _
  have e152 : ∀ j, (sq z Q1 F1).1 152 j = Q1 j := fun j => by rw [sq_152]
  by_cases hin : n ≤ i
  · have key : q_Model_spread_269 E (kL c) (i : Int) (n : Int) (sq z Q1 F1) = some (.inr (sq z Q1 F1)) := by
      unfold q_Model_spread_269
      rw [if_pos (by omega)]
    refine Or.inr ⟨_, key, Q1, F1, rfl, fun w hw => ⟨?_, ?_⟩⟩
    · rintro ⟨u, u1, u2⟩
      have : w < kW c ∧ F1 w = 1 := by
        refine u2 (fun x => x < kW c ∧ F1 x = 1) ?_ ⟨hD u u1, h2.2.2.2 u (hD u u1) u1⟩
        rintro x y ⟨x1, x2⟩ hj
        obtain ⟨j, j1, j2⟩ := h2.1.2.2 x x1 x2
        refine ⟨?_, h3 j (by omega) x j2 y hj⟩
        obtain ⟨jj, q1, q2, q3⟩ := hj
        rcases g.2.2.2.2.1 jj q1 with ⟨a1, a2⟩ | ⟨a, b, a1, a2, a3, a4, a5, _⟩
        · rcases q3 with ⟨q3, q4⟩ | ⟨q3, q4⟩ <;> omega
        · rcases q3 with ⟨q3, q4⟩ | ⟨q3, q4⟩ <;> omega
      exact this.2
    · intro hn
      rcases h2.2.1 w hw with h | h
      · exact h
      · exact absurd (h2.2.2.1 w hw h) hn
  · obtain ⟨w, w1, w2, w3⟩ := h2.1.2.1 i (by omega)
    obtain ⟨r, hr, n', Q', F', rfl, k1, k2, k3, k4, k5⟩ := s_spread290 (E := E) (l1 := (i : Int) + 1) g hB w1 h2 w3
    have key : q_Model_spread_269 E (kL c) (i : Int) (n : Int) (sq z Q1 F1) = some (.inl ((i : Int) + 1, (n' : Int), sq z Q' F')) := by
      unfold q_Model_spread_269
      have e6 : 6 * (w : Int) = ((6 * w : Nat) : Int) := by push_cast; rfl
      rw [if_neg (by omega), kL_152, if_pos (by omega), let_s, let_s, gtN, e152, w2, e6, if_pos (by omega), let_s, hr, b1_s]
    refine Or.inl ⟨_, key, ⟨i + 1, n', Q', F', rfl, by omega, k1, fun j hj x hx y hy => ?_⟩, ?_⟩
    · by_cases e : j = i
      · subst e
        rw [k3 j (by omega), w2] at hx
        have : w = x := by omega
        subst this
        exact k5 y hy
      · rw [k3 j (by omega)] at hx
        exact k4 y (h3 j (by omega) x hx y hy)
    · show 1000 - ((i : Int) + 1).toNat < 1000 - (i : Int).toNat
      omega
theorem s_spread {z : gZ} (g : Gr c z) (hB : RB c z) : zOk (q_Model_spread E (kL c) z) (fun z' => ∃ Q F, z' = sq z Q F ∧ rowIs c F (fLev c (z.1 5) (z.1 6) (z.1 154) (z.1 158) (fOut c (z.1 154) (z.1 155) (z.1 156)))) := by
  have hW := kW_b g.1
  have hP := kP_b g.1
  have hD := kD_b g.1
  have gF : ∀ F, Gr c (zRow z 159 F) := fun F => Gr_off (P := fun k j => k = 159) (off_row fun j => rfl) (fun k j h => by unfold pS at h; omega) g
  unfold q_Model_spread
  have l1 : gIter (fun y => q_Model_spread_6 E (kL c) 0 0 y.1 y.2) gN (0, z) = some (zFill z 159 (fun _ => 0) (kW c)) := by
    refine it_fill 159 (fun _ => 0) (kW c) (by omega) ?_ ?_
    · intro i hi
      have e : (zFill z 159 (fun _ => 0) i).1 94 8 = kW c := g.2.2.1.2.2.2.2.2.2.2.2.1
      have key : q_Model_spread_6 E (kL c) 0 0 (i : Int) (zFill z 159 (fun _ => 0) i) = some (.inl ((i : Int) + 1, zPut (zFill z 159 (fun _ => 0) i) 159 i 0)) := by
        unfold q_Model_spread_6
        rw [e, if_neg (by omega), kL_159, if_pos (by omega), let_s, let_s, gtN, zBool_0]
      exact key
    · have e : (zFill z 159 (fun _ => 0) (kW c)).1 94 8 = kW c := g.2.2.1.2.2.2.2.2.2.2.2.1
      have key : q_Model_spread_6 E (kL c) 0 0 ((kW c : Nat) : Int) (zFill z 159 (fun _ => 0) (kW c)) = some (.inr (zFill z 159 (fun _ => 0) (kW c))) := by
        unfold q_Model_spread_6
        rw [e, if_pos (by omega)]
      exact key
  rw [l1, b1_s, ok_1]
  refine ok_w (it_for (fun (i : Nat) (F : Nat → Int) => ((i : Int), zRow z 159 F)) (fun i F => rowIs c F (fun x => ∃ e, e < i ∧ oE c (z.1 154) (fOut c (z.1 154) (z.1 155) (z.1 156) e) e x)) 0 (kP c)
    (Q := fun t => ∃ F, t = zRow z 159 F ∧ rowIs c F (fun x => ∃ e, e < kP c ∧ oE c (z.1 154) (fOut c (z.1 154) (z.1 155) (z.1 156) e) e x)) (t := fun j => if j < kW c then 0 else z.1 159 j) rfl (fun x hx => ⟨fun ⟨e, h, _⟩ => absurd h (Nat.not_lt_zero e), fun _ => if_pos hx⟩) (by omega) (by omega) ?_ ?_) ?_
  · intro i F _ hi hF
    refine ok_w (s_spread29 (E := E) g hB hi hF) ?_
    rintro r ⟨F', rfl, hF'⟩
    refine Or.inl ⟨F', rfl, rowIs_c hF' fun x _ => ⟨?_, ?_⟩⟩
    · rintro (⟨e, e1, e2⟩ | h)
      · exact ⟨e, by omega, e2⟩
      · exact ⟨i, by omega, h⟩
    · rintro ⟨e, e1, e2⟩
      by_cases ee : e = i
      · subst ee; exact Or.inr e2
      · exact Or.inl ⟨e, by omega, e2⟩
  · intro F hF
    have key : q_Model_spread_29 E (kL c) 0 0 ((kP c : Nat) : Int) (zRow z 159 F) = some (.inr (zRow z 159 F)) := by
      unfold q_Model_spread_29
      rw [(gF F).2.2.1.2.2.2.2.2.1, if_pos (by omega)]
    exact ok_e key ⟨_, rfl, F, rfl, hF⟩
  · rintro t ⟨F0, rfl, hF0⟩
    rw [ok_1]
    refine ok_w (it_for (fun (i : Nat) (F : Nat → Int) => ((i : Int), zRow z 159 F)) (fun i F => rowIs c F (fun x => (∃ e, e < kP c ∧ oE c (z.1 154) (fOut c (z.1 154) (z.1 155) (z.1 156) e) e x) ∨ ∃ p, p < i ∧ oP c (z.1 154) (z.1 158) p x)) 0 (kD c)
      (Q := fun t => ∃ F, t = zRow z 159 F ∧ rowIs c F (fDrv c (z.1 154) (z.1 158) (fOut c (z.1 154) (z.1 155) (z.1 156)))) (t := F0) rfl (rowIs_c hF0 fun x _ => ⟨Or.inl, fun h => h.elim id fun ⟨e, h, _⟩ => absurd h (Nat.not_lt_zero e)⟩) (by omega) (by omega) ?_ ?_) ?_
    · intro i F _ hi hF
      refine ok_w (s_spread123 (E := E) g hB hi hF) ?_
      rintro r ⟨F', rfl, hF'⟩
      refine Or.inl ⟨F', rfl, rowIs_c hF' fun x _ => ⟨?_, ?_⟩⟩
      · rintro ((h | ⟨e, e1, e2⟩) | h)
        · exact Or.inl h
        · exact Or.inr ⟨e, by omega, e2⟩
        · exact Or.inr ⟨i, by omega, h⟩
      · rintro (h | ⟨e, e1, e2⟩)
        · exact Or.inl (Or.inl h)
        · by_cases ee : e = i
          · subst ee; exact Or.inr e2
          · exact Or.inl (Or.inr ⟨e, by omega, e2⟩)
    · intro F hF
      have key : q_Model_spread_123 E (kL c) 0 0 ((kD c : Nat) : Int) (zRow z 159 F) = some (.inr (zRow z 159 F)) := by
        unfold q_Model_spread_123
        rw [(gF F).2.2.1.2.2.2.2.2.2.1, if_pos (by omega)]
      refine ok_e key ⟨_, rfl, F, rfl, rowIs_c hF fun x _ => ⟨?_, ?_⟩⟩
      · rintro (⟨e, e1, e2, k, k1, k2, k3⟩ | ⟨p, p1, t, t1, t2, t3, t4, t5⟩)
        · exact Or.inl ⟨e, k, e1, k1, e2, k2, k3⟩
        · exact Or.inr ⟨p, t, p1, t1, t2, t3, t4, t5⟩
      · rintro (⟨e, k, e1, k1, e2, k2, k3⟩ | ⟨p, t, p1, t1, t2, t3, t4, t5⟩)
        · exact Or.inl ⟨e, e1, e2, k, k1, k2, k3⟩
        · exact Or.inr ⟨p, p1, t, t1, t2, t3, t4, t5⟩
    · rintro t ⟨F1, rfl, hF1⟩
      rw [ok_1]
      have e0 : zRow z 159 F1 = sq z (z.1 152) F1 := by unfold sq; rw [zr_self]
      rw [e0]
      refine ok_w (s_spread236 (E := E) g (fun w hw => rowIs_01 hF1 hw)) ?_
      rintro r ⟨last, Q, rfl, hq⟩
      rw [ok_1]
      refine ok_w (s_spread269 (E := E) g hB (D := fDrv c (z.1 154) (z.1 158) (fOut c (z.1 154) (z.1 155) (z.1 156))) ⟨hq, fun w hw => rowIs_01 hF1 hw, fun w hw h1 => ⟨w, Classical.byContradiction fun hn => by have := (hF1 w hw).2 hn; have h1 : F1 w = 1 := h1; rw [h1] at this; exact absurd this (by decide), Cn_r⟩, fun u hu hd => (hF1 u hu).1 hd⟩ (fun u hu => fDrv_lt g.1 hu)) ?_
      · rintro t ⟨Q', F', rfl, hF'⟩
        rw [ok_s]
        exact ⟨Q', F', rfl, hF'⟩
theorem s_lutOf {z : gZ} {e : Nat} {S : Nat → Prop} (g : Gr c z) (hB : RB c z) (he : e < kP c) (hS : rowIs c (z.1 159) S) : ∃ m : Nat, q_Model_lutOf E (kL c) e z = some (z.1 154 (e * kX c + m)) ∧ m < 16 ∧ ∀ p, p < 4 → (m.testBit p = true ↔ fPin c (z.1 154) S e p) := by
  have hW := kW_b g.1
  have hP := kP_b g.1
  have hX := kX_b g.1
  have hYB := kYB c
  have hBb := kB_b g.1
  have hT := g.1.2.2.2
  have hE := g.1.2.2.1
  have hd := kP_dm g.1 he
  have h2 := g.2.2.1
  let u : Nat → Int := fun p => if nb (z.1 154) (e * kX c + 18 + p * 6) 6 < 1 then 0 else if 4 * (kT c : Int) < nb (z.1 154) (e * kX c + 18 + p * 6) 6 then 0 else z.1 159 (kPin c e (nb (z.1 154) (e * kX c + 18 + p * 6) 6 - 1).toNat)
  have hu : ∀ p, p < 4 → b01 (u p) ∧ (u p = 1 ↔ fPin c (z.1 154) S e p) := by
    intro p hp
    have hyb := kY_i (c := c) he (show 18 + p * 6 + 5 < kX c by omega)
    obtain ⟨m, m1, m2, _⟩ := nb_n (b := z.1 154) (a := e * kX c + 18 + p * 6) (n := 6) (by omega) (fun i hi => hB.1 _ (by omega))
    have hup : u p = if (m : Int) < 1 then 0 else if 4 * (kT c : Int) < (m : Int) then 0 else z.1 159 (kPin c e ((m : Int) - 1).toNat) := by
      show (if nb (z.1 154) (e * kX c + 18 + p * 6) 6 < 1 then 0 else if 4 * (kT c : Int) < nb (z.1 154) (e * kX c + 18 + p * 6) 6 then 0 else z.1 159 (kPin c e (nb (z.1 154) (e * kX c + 18 + p * 6) 6 - 1).toNat)) = _
      rw [m2]
    rw [hup]
    unfold fPin
    rw [m2]
    by_cases g1 : (m : Int) < 1
    · rw [if_pos g1]
      refine ⟨Or.inl rfl, fun h => absurd h (by decide), ?_⟩
      rintro ⟨v, v1, v2, v3, _⟩; omega
    · rw [if_neg g1]
      by_cases g2 : 4 * (kT c : Int) < (m : Int)
      · rw [if_pos g2]
        refine ⟨Or.inl rfl, fun h => absurd h (by decide), ?_⟩
        rintro ⟨v, v1, v2, v3, _⟩; omega
      · rw [if_neg g2, show ((m : Int) - 1).toNat = m - 1 by omega]
        have hx := kPin_lt (v := m - 1) g.1 he (by omega)
        refine ⟨rowIs_01 hS hx, fun h => ⟨m, rfl, by omega, by omega, ?_⟩, ?_⟩
        · exact Classical.byContradiction fun hn => by have := (hS _ hx).2 hn; omega
        · rintro ⟨v, v1, v2, v3, v4⟩
          have : v = m := by omega
          subst this; exact (hS _ hx).1 v4
  have ex : (e : Int) * (kX c : Int) = ((e * kX c : Nat) : Int) := by push_cast; rfl
  have hy0 := kY_i (c := c) he (show 45 < kX c by omega)
  have run : gIter (fun y => q_Model_lutOf_12 E (kL c) e ((e * kX c : Nat) : Int) y.1 y.2 z) gN (0, 0) = some (nb u 0 4) := by
    refine it_acc (fun i x => (x, (i : Int))) (fun i => nb u 0 i) 0 4 rfl (by omega) (by omega) ?_ ?_
    · intro i _ hi
      have hyb := kY_i (c := c) he (show 18 + i * 6 + 5 < kX c by omega)
      have e18 : ((e * kX c : Nat) : Int) + 18 + 6 * (i : Int) = ((e * kX c + 18 + i * 6 : Nat) : Int) := by push_cast; omega
      have hba : q_Model_bitsAt E (kL c) ((e * kX c + 18 + i * 6 : Nat) : Int) 6 z = some (nb (z.1 154) (e * kX c + 18 + i * 6) 6) := s_bitsAt (E := E) (c := c) (z := z) (a := e * kX c + 18 + i * 6) (n := 6) (by omega) (by omega) g.1 (fun i hi => hB.1 _ (by omega))
      obtain ⟨m, m1, m2, _⟩ := nb_n (b := z.1 154) (a := e * kX c + 18 + i * 6) (n := 6) (by omega) (fun i hi => hB.1 _ (by omega))
      have m1 : m < 64 := m1
      have hup : u i = if (m : Int) < 1 then 0 else if 4 * (kT c : Int) < (m : Int) then 0 else z.1 159 (kPin c e ((m : Int) - 1).toNat) := by
        show (if nb (z.1 154) (e * kX c + 18 + i * 6) 6 < 1 then 0 else if 4 * (kT c : Int) < nb (z.1 154) (e * kX c + 18 + i * 6) 6 then 0 else z.1 159 (kPin c e (nb (z.1 154) (e * kX c + 18 + i * 6) 6 - 1).toNat)) = _
        rw [m2]
      have fin0 : u i = 0 → q_Model_lutOf_j120_12 E (kL c) e ((e * kX c : Nat) : Int) (nb u 0 i) (i : Int) 0 z = some (.inl (nb u 0 (i + 1), (i : Int) + 1)) := by
        intro h
        unfold q_Model_lutOf_j120_12
        rw [if_pos rfl, let_s, if_pos (by omega), let_s, nb, Nat.zero_add, h, zShl_0 i (by omega)]
      have fin1 : u i = 1 → q_Model_lutOf_j120_12 E (kL c) e ((e * kX c : Nat) : Int) (nb u 0 i) (i : Int) 1 z = some (.inl (nb u 0 (i + 1), (i : Int) + 1)) := by
        intro h
        unfold q_Model_lutOf_j120_12
        rw [if_neg (by omega), let_s, if_pos (by omega), let_s, nb, Nat.zero_add, h]
      have key : q_Model_lutOf_12 E (kL c) e ((e * kX c : Nat) : Int) (nb u 0 i) (i : Int) z = some (.inl (nb u 0 (i + 1), (i : Int) + 1)) := by
        unfold q_Model_lutOf_12
        rw [if_neg (by omega), e18, if_pos (by omega), hba, b1_s, m2, if_pos (by omega), let_s, h2.2.2.2.1]
        by_cases g1 : (m : Int) < 1
        · rw [if_pos (by omega)]
          unfold q_Model_lutOf_j119_12
          exact fin0 (by rw [hup, if_pos g1])
        · rw [if_neg (by omega), if_pos (by omega)]
          by_cases g2 : 4 * (kT c : Int) < (m : Int)
          · rw [if_pos (by omega)]
            unfold q_Model_lutOf_j119_12
            exact fin0 (by rw [hup, if_neg g1, if_pos g2])
          · have em : (m : Int) - 1 = ((m - 1 : Nat) : Int) := by omega
            have ⟨dd1, dd2⟩ := dm4 (T := kT c) (r := m - 1) (by omega) (by omega)
            have hx := kPin_lt (v := m - 1) g.1 he (by omega)
            have hx2 : kTw c (e / kE c) ((m - 1) / kT c) + (m - 1) % kT c < kW c := hx
            rw [if_neg (by omega), h2.2.2.1, if_pos (by omega), if_neg (by omega), if_pos (by omega), if_pos (by omega)]
            unfold q_Model_lutOf_j92_12
            rw [if_pos (by omega), h2.2.2.2.1, if_pos (by omega)]
            unfold q_Model_lutOf_j108_12
            rw [em, zDiv_n e (kE c) (by omega) (by omega), zDiv_n (m - 1) (kT c) (by omega) (by omega), zRem_n (m - 1) (kT c) (by omega) (by omega), s_tileWire g hd dd1 dd2, b1_s, kL_159, if_pos (by omega), gtN]
            have hv : u i = z.1 159 (kTw c (e / kE c) ((m - 1) / kT c) + (m - 1) % kT c) := by
              rw [hup, if_neg g1, if_neg g2, em, gtN]; rfl
            by_cases h0 : z.1 159 (kTw c (e / kE c) ((m - 1) / kT c) + (m - 1) % kT c) = 0
            · rw [if_pos h0]
              unfold q_Model_lutOf_j119_12
              exact fin0 (hv.trans h0)
            · rw [if_neg h0]
              exact fin1 (hv.trans (b01_ne (rowIs_01 hS hx) h0))
      exact key
    · have key : q_Model_lutOf_12 E (kL c) e ((e * kX c : Nat) : Int) (nb u 0 4) ((4 : Nat) : Int) z = some (.inr (nb u 0 4)) := by
        unfold q_Model_lutOf_12
        rw [if_pos (by omega)]
      exact key
  obtain ⟨m, m1, m2, m3⟩ := nb_n (b := u) (a := 0) (n := 4) (by omega) (fun i hi => by rw [Nat.zero_add]; exact (hu i hi).1)
  have m1 : m < 16 := m1
  refine ⟨m, ?_, m1, fun p hp => ?_⟩
  · unfold q_Model_lutOf
    have e1 : ((e * kX c : Nat) : Int) + (m : Int) = ((e * kX c + m : Nat) : Int) := by push_cast; rfl
    rw [h2.2.2.2.2.2.2.2.2.2.1, ex, if_pos (by omega), let_s, run, b1_s, m2, e1, kL_154, if_pos (by omega), gtN]
    exact if_pos (hB.1 _ (by omega))
  · rw [m3 p hp, Nat.zero_add]; exact (hu p hp).2
end
-- R4
section
variable {E : gEv} {c : gCf}
def SR (c : gCf) (z : gZ) : Prop := (z.1 94 98 = 0 ∨ z.1 94 98 = 1) ∧ fStl c (z.1 5) (z.1 6) (z.1 154) (z.1 158) (z.1 155) (kP c + 1) fZ (z.1 94 98 = 0) (z.1 156)
def RI (c : gCf) (z : gZ) : Prop := RB c z ∧ (z.1 94 97 = 0 ∨ (z.1 94 97 = 1 ∧ SR c z))
def pRs (k j : Nat) : Prop := k = 152 ∨ k = 156 ∨ k = 157 ∨ k = 159
theorem RB_off {z z' : gZ} {P : Nat → Nat → Prop} (h : zOff P z z') (hP : ∀ k j, (154 ≤ k ∧ k ≤ 155) ∨ k = 158 → ¬ P k j) (hb : RB c z) (hl : ∀ e, e < kP c → b01 (z'.1 156 e)) : RB c z' := by
  refine ⟨fun i hi => ?_, fun i hi => ?_, fun i hi => ?_, hl⟩
  · rw [h.2 _ _ (hP _ _ (by omega))]; exact hb.1 i hi
  · rw [h.2 _ _ (hP _ _ (by omega))]; exact hb.2.1 i hi
  · rw [h.2 _ _ (hP _ _ (by omega))]; exact hb.2.2.1 i hi
theorem s_settle35 {z : gZ} {n : Nat} (g : Gr c z) (hB : RB c z) (hn : n ≤ kP c) : zOk (q_Model_settle_35 E (kL c) 1 (n : Int) z) (fun r => ∃ (ch : Int) (z' : gZ), r = .inl (ch, (n : Int) + 1, z') ∧ zOff pRs z z' ∧ (∀ e, e < kP c → b01 (z'.1 156 e)) ∧ fSw c (z.1 5) (z.1 6) (z.1 154) (z.1 158) (z.1 155) (z.1 156) (z'.1 156) ∧ ((ch = 0 ∧ Ag c (z'.1 156) (z.1 156)) ∨ (ch = 1 ∧ ¬ Ag c (z'.1 156) (z.1 156)))) := by
  have hP := kP_b g.1
  unfold q_Model_settle_35
  rw [if_neg (by omega), g.2.2.1.2.2.2.2.2.1, if_neg (by omega), ok_1]
  refine ok_w (s_spread (E := E) g hB) ?_
  rintro z1 ⟨Q, F, rfl, hF⟩
  generalize hz1 : sq z Q F = z1
  have o1 : zOff (fun k j => k = 152 ∨ k = 159) z z1 := by rw [← hz1]; exact sq_off z Q F
  have g1 : Gr c z1 := Gr_off o1 (fun k j h => by unfold pS at h; omega) g
  have d1 : ∀ k j, k ≠ 152 → k ≠ 159 → z1.1 k j = z.1 k j := fun k j h1 h2 => o1.2 k j (by omega)
  have r154 : z1.1 154 = z.1 154 := funext fun j => d1 _ _ (by omega) (by omega)
  have r156 : z1.1 156 = z.1 156 := funext fun j => d1 _ _ (by omega) (by omega)
  have hB1 : RB c z1 := RB_off o1 (fun k j h => by omega) hB (fun e he => by rw [r156]; exact hB.2.2.2 e he)
  have hF1 : rowIs c (z1.1 159) (fLev c (z.1 5) (z.1 6) (z.1 154) (z.1 158) (fOut c (z.1 154) (z.1 155) (z.1 156))) := by rw [← hz1, sq_159]; exact hF
  rw [ok_1]
  have g2 : ∀ F, Gr c (zRow z1 157 F) := fun F => Gr_off (P := fun k j => k = 157) (off_row fun j => rfl) (fun k j h => by unfold pS at h; omega) g1
  refine ok_w (it_for (fun (i : Nat) (t : Int × (Nat → Int)) => (t.1, (i : Int), zRow z1 157 t.2)) (fun i t => (∀ e, e < i → b01 (t.2 e) ∧ ∃ n : Nat, n < 16 ∧ (∀ p, p < 4 → (n.testBit p = true ↔ fPin c (z.1 154) (fLev c (z.1 5) (z.1 6) (z.1 154) (z.1 158) (fOut c (z.1 154) (z.1 155) (z.1 156))) e p)) ∧ t.2 e = z.1 154 (e * kX c + n)) ∧ ((t.1 = 0 ∧ ∀ e, e < i → t.2 e = z.1 156 e) ∨ (t.1 = 1 ∧ ¬ ∀ e, e < i → t.2 e = z.1 156 e))) 0 (kP c)
      (Q := fun r => ∃ (ch : Int) (F2 : Nat → Int), r = (ch, zRow z1 157 F2) ∧ (∀ e, e < kP c → b01 (F2 e) ∧ ∃ n : Nat, n < 16 ∧ (∀ p, p < 4 → (n.testBit p = true ↔ fPin c (z.1 154) (fLev c (z.1 5) (z.1 6) (z.1 154) (z.1 158) (fOut c (z.1 154) (z.1 155) (z.1 156))) e p)) ∧ F2 e = z.1 154 (e * kX c + n)) ∧ ((ch = 0 ∧ ∀ e, e < kP c → F2 e = z.1 156 e) ∨ (ch = 1 ∧ ¬ ∀ e, e < kP c → F2 e = z.1 156 e))) (t := (0, z1.1 157)) (by rw [zr_self]; rfl) ⟨fun e he => absurd he (Nat.not_lt_zero e), Or.inl ⟨rfl, fun e he => absurd he (Nat.not_lt_zero e)⟩⟩ (by omega) (by omega) ?_ ?_) ?_
  · rintro i ⟨ch, F2⟩ _ hi ⟨hA, hC⟩
    simp only at hA hC
    have gg := g2 F2
    obtain ⟨m, m0, m1, m2⟩ := s_lutOf (E := E) (z := zRow z1 157 F2) (S := fLev c (z.1 5) (z.1 6) (z.1 154) (z.1 158) (fOut c (z.1 154) (z.1 155) (z.1 156))) gg hB1 hi hF1
    have hX := kX_b g.1
    have hYB := kYB c
    have hyb := kY_i (c := c) hi (show 16 < kX c by omega)
    have e154 : (zRow z1 157 F2).1 154 = z.1 154 := r154
    rw [e154] at m0 m2
    have hbm : b01 (z.1 154 (i * kX c + m)) := hB.1 _ (by omega)
    generalize hv : z.1 154 (i * kX c + m) = v at *
    have e156 : ∀ G j, (zRow z1 157 G).1 156 j = z.1 156 j := fun G j => congrFun r156 j
    have e157 : ∀ G j, (zRow z1 157 G).1 157 j = G j := fun G j => by rw [zr_eq]
    have hch : ch = 0 ∨ ch = 1 := by rcases hC with h | h <;> omega
    have key : q_Model_settle_55 E (kL c) (n : Int) ch (i : Int) (zRow z1 157 F2) = some (.inl (if v = z.1 156 i then ch else 1, (i : Int) + 1, zRow z1 157 (fun j => if j = i then v else F2 j))) := by
      unfold q_Model_settle_55
      rw [gg.2.2.1.2.2.2.2.2.1, if_neg (by omega), m0, b1_s, kL_157, if_pos (by omega), let_s, gtN, zBool_n v hbm, zp_zr, kL_156, e157, e156, if_pos rfl]
      rcases hch with h | h
      · rw [if_pos h, if_pos (by omega)]
        by_cases hx : v = z.1 156 i
        · rw [if_pos hx, if_pos hx, let_s, h]
        · rw [if_neg hx, if_neg hx, let_s]
      · rw [if_neg (by omega), let_s, h]
        split <;> rfl
    refine ok_e key (Or.inl ⟨(if v = z.1 156 i then ch else 1, fun j => if j = i then v else F2 j), rfl, ?_, ?_⟩)
    · intro e he
      simp only
      by_cases ee : e = i
      · subst ee
        rw [if_pos rfl]
        exact ⟨hbm, m, m1, m2, hv.symm⟩
      · rw [if_neg ee]; exact hA e (by omega)
    · simp only
      by_cases hx : v = z.1 156 i
      · rw [if_pos hx]
        rcases hC with ⟨h1, h2⟩ | ⟨h1, h2⟩
        · refine Or.inl ⟨h1, fun e he => ?_⟩
          by_cases ee : e = i
          · subst ee; rw [if_pos rfl]; exact hx
          · rw [if_neg ee]; exact h2 e (by omega)
        · refine Or.inr ⟨h1, fun h => h2 fun e he => ?_⟩
          have := h e (by omega)
          rw [if_neg (by omega)] at this; exact this
      · rw [if_neg hx]
        refine Or.inr ⟨rfl, fun h => hx ?_⟩
        have := h i (by omega)
        rw [if_pos rfl] at this; exact this
  · rintro ⟨ch, F2⟩ hI
    have key : q_Model_settle_55 E (kL c) (n : Int) ch ((kP c : Nat) : Int) (zRow z1 157 F2) = some (.inr (ch, zRow z1 157 F2)) := by
      unfold q_Model_settle_55
      rw [(g2 F2).2.2.1.2.2.2.2.2.1, if_pos (by omega)]
    exact ok_e key ⟨_, rfl, ch, F2, rfl, hI.1, hI.2⟩
  · rintro r ⟨ch, F2, rfl, hA, hC⟩
    have lc : gIter (fun y => q_Model_settle_107 E (kL c) ch (n : Int) y.1 y.2) gN (0, zRow z1 157 F2) = some (zFill (zRow z1 157 F2) 156 F2 (kP c)) := by
      refine it_fill 156 F2 (kP c) (by omega) ?_ ?_
      · intro i hi
        have e5 : (zFill (zRow z1 157 F2) 156 F2 i).1 94 5 = kP c := (g2 F2).2.2.1.2.2.2.2.2.1
        have e7 : (zFill (zRow z1 157 F2) 156 F2 i).1 157 i = F2 i := by
          rw [zf_ne _ _ _ _ _ (by omega), zr_eq]
        have key : q_Model_settle_107 E (kL c) ch (n : Int) (i : Int) (zFill (zRow z1 157 F2) 156 F2 i) = some (.inl ((i : Int) + 1, zPut (zFill (zRow z1 157 F2) 156 F2 i) 156 i (F2 i))) := by
          unfold q_Model_settle_107
          rw [e5, if_neg (by omega), kL_157, if_pos (by omega), kL_156, if_pos (by omega), let_s, let_s, gtN, e7, zBool_n _ (hA i hi).1]
        exact key
      · have e5 : (zFill (zRow z1 157 F2) 156 F2 (kP c)).1 94 5 = kP c := (g2 F2).2.2.1.2.2.2.2.2.1
        have key : q_Model_settle_107 E (kL c) ch (n : Int) ((kP c : Nat) : Int) (zFill (zRow z1 157 F2) 156 F2 (kP c)) = some (.inr (zFill (zRow z1 157 F2) 156 F2 (kP c))) := by
          unfold q_Model_settle_107
          rw [e5, if_pos (by omega)]
        exact key
    simp only
    rw [lc, b1_s, if_pos (by omega), let_s, ok_s]
    have eF : ∀ e, e < kP c → (zFill (zRow z1 157 F2) 156 F2 (kP c)).1 156 e = F2 e := fun e he => by
      rw [zf1, if_pos rfl, if_pos he]
    refine ⟨ch, _, rfl, off_t (off_w o1 fun k j h => by unfold pRs; omega) (off_t (off_row fun j => by unfold pRs; omega) (off_fill fun j => by unfold pRs; omega)), ?_, ?_, ?_⟩
    · intro e he; rw [eF e he]; exact (hA e he).1
    · intro e he
      obtain ⟨_, n, n1, n2, n3⟩ := hA e he
      exact ⟨n, n1, n2, by rw [← n3]; exact eF e he⟩
    · rcases hC with ⟨h1, h2⟩ | ⟨h1, h2⟩
      · exact Or.inl ⟨h1, fun e he => (eF e he).trans (h2 e he)⟩
      · exact Or.inr ⟨h1, fun h => h2 fun e he => by rw [← eF e he]; exact h e he⟩
theorem fOut_c {b b' l l' lut lut' : Nat → Int} (hb : ∀ i, i < kB c → b i = b' i) (hl : Ag c l l') (hu : Ag c lut lut') (hk : kOk c) {e : Nat} (he : e < kP c) : fOut c b l lut e = fOut c b' l' lut' e := by
  have hX := kX_b hk
  have hYB := kYB c
  have hy := kY_i (c := c) he (show 16 < kX c by omega)
  unfold fOut
  rw [hb _ (by omega), hl e he, hu e he]
theorem jn_c {A B b b' : Nat → Int} (hb : ∀ i, i < kB c → b i = b' i) {u v : Nat} (h : jn c A B b u v) : jn c A B b' u v := by
  obtain ⟨j, h1, h2, h3⟩ := h
  exact ⟨j, h1, by rw [← hb _ (by unfold kB; omega)]; exact h2, h3⟩
theorem Cn_c {A B b b' : Nat → Int} (hb : ∀ i, i < kB c → b i = b' i) {u v : Nat} (h : Cn c A B b u v) : Cn c A B b' u v := fun S hS hu => h S (fun x y hx hj => hS x y hx (jn_c hb hj)) hu
theorem fDrv_c {b b' pl pl' o o' : Nat → Int} (hk : kOk c) (hb : ∀ i, i < kB c → b i = b' i) (hp : ∀ p, p < kD c → pl p = pl' p) (ho : Ag c o o') {u : Nat} (h : fDrv c b pl o u) : fDrv c b' pl' o' u := by
  have hX : kX c = 42 + 4 * kT c := rfl
  have hYB := kYB c
  rcases h with ⟨e, k, h1, h2, h3, h4, h5⟩ | ⟨p, t, h1, h2, h3, h4, h5, h6⟩
  · have hy := kY_i (c := c) h1 (show 42 + k < kX c by omega)
    exact Or.inl ⟨e, k, h1, h2, by rw [← ho e h1]; exact h3, by rw [← hb _ (by omega)]; exact h4, h5⟩
  · have hz := kZ_i (c := c) h1 (show 6 + t < 6 + kT c by omega)
    refine Or.inr ⟨p, t, h1, h2, ?_, by rw [← hp p h1]; exact h4, by rw [← hb _ (by omega)]; exact h5, h6⟩
    rw [← h3]; exact (nb_c fun i hi => hb _ (by omega)).symm
theorem fLev_c {A B b b' pl pl' o o' : Nat → Int} (hk : kOk c) (hb : ∀ i, i < kB c → b i = b' i) (hp : ∀ p, p < kD c → pl p = pl' p) (ho : Ag c o o') {u : Nat} (h : fLev c A B b pl o u) : fLev c A B b' pl' o' u := by
  obtain ⟨w, h1, h2⟩ := h
  exact ⟨w, fDrv_c hk hb hp ho h1, Cn_c hb h2⟩
theorem fPin_c {b b' : Nat → Int} {S S' : Nat → Prop} (hk : kOk c) (hb : ∀ i, i < kB c → b i = b' i) (hS : ∀ w, S w → S' w) {e p : Nat} (he : e < kP c) (hp : p < 4) (h : fPin c b S e p) : fPin c b' S' e p := by
  have hX := kX_b hk
  have hYB := kYB c
  have hy := kY_i (c := c) he (show 18 + p * 6 + 5 < kX c by omega)
  obtain ⟨v, h1, h2, h3, h4⟩ := h
  refine ⟨v, ?_, h2, h3, hS _ h4⟩
  rw [← h1]; exact (nb_c fun i hi => hb _ (by omega)).symm
theorem fSw_c {A B b b' pl pl' l l' u u' v v' : Nat → Int} (hk : kOk c) (hb : ∀ i, i < kB c → b i = b' i) (hp : ∀ p, p < kD c → pl p = pl' p) (hl : Ag c l l') (hu : Ag c u u') (hv : Ag c v v') (h : fSw c A B b pl l u v) : fSw c A B b' pl' l' u' v' := by
  intro e he
  have hX := kX_b hk
  have hYB := kYB c
  have hy := kY_i (c := c) he (show 16 < kX c by omega)
  obtain ⟨n, n1, n2, n3⟩ := h e he
  have ho : Ag c (fOut c b l u) (fOut c b' l' u') := fun e he => fOut_c hb hl hu hk he
  have ho' : Ag c (fOut c b' l' u') (fOut c b l u) := fun e he => (ho e he).symm
  refine ⟨n, n1, fun p hp4 => ?_, ?_⟩
  · rw [n2 p hp4]
    exact ⟨fPin_c hk hb (fun w => fLev_c hk hb hp ho) he hp4, fPin_c hk (fun i hi => (hb i hi).symm) (fun w => fLev_c hk (fun i hi => (hb i hi).symm) (fun p h => (hp p h).symm) ho') he hp4⟩
  · rw [← hv e he, n3, hb _ (by omega)]
/-- the sweep has one result, and so has the settling -/
theorem fSw_u {A B b pl l u v v' : Nat → Int} (h : fSw c A B b pl l u v) (h' : fSw c A B b pl l u v') : Ag c v v' := by
  intro e he
  obtain ⟨n, n1, n2, n3⟩ := h e he
  obtain ⟨m, m1, m2, m3⟩ := h' e he
  have : n = m := by
    apply Nat.eq_of_testBit_eq
    intro i
    by_cases hi : i < 4
    · have := (n2 i hi).trans (m2 i hi).symm
      cases hn : n.testBit i <;> cases hm : m.testBit i <;> simp [hn, hm] at this ⊢
    · have e1 : (2 : Nat) ^ 4 ≤ 2 ^ i := Nat.pow_le_pow_right (by decide) (by omega)
      rw [Nat.testBit_lt_two_pow (by omega), Nat.testBit_lt_two_pow (by omega)]
  rw [n3, m3, this]
theorem fStl_u {A B b b' pl pl' l l' : Nat → Int} (hk : kOk c) (hb : ∀ i, i < kB c → b i = b' i) (hp : ∀ p, p < kD c → pl p = pl' p) (hl : Ag c l l') : ∀ (n : Nat) {u u' v v' : Nat → Int} {r r' : Prop}, Ag c u u' → fStl c A B b pl l n u r v → fStl c A B b' pl' l' n u' r' v' → (r ↔ r') ∧ Ag c v v'
  | 0, u, u', v, v', r, r', hu, h, h' => ⟨⟨fun x => absurd x h.1, fun x => absurd x h'.1⟩, fun e he => by rw [← h.2 e he, hu e he]; exact h'.2 e he⟩
  | n + 1, u, u', v, v', r, r', hu, h, h' => by
    obtain ⟨w, w1, w2⟩ := h
    obtain ⟨w', w1', w2'⟩ := h'
    have hw : Ag c w w' := fSw_u (fSw_c hk hb hp hl hu (fun _ _ => rfl) w1) w1'
    rcases w2 with ⟨a1, a2, a3⟩ | ⟨a1, a2⟩
    · rcases w2' with ⟨b1, b2, b3⟩ | ⟨b1, b2⟩
      · exact ⟨⟨fun _ => b2, fun _ => a2⟩, fun e he => by rw [← a3 e he, hw e he]; exact b3 e he⟩
      · exact absurd (fun e he => by rw [← hw e he, a1 e he, hu e he]) b1
    · rcases w2' with ⟨b1, b2, b3⟩ | ⟨b1, b2⟩
      · exact absurd (fun e he => by rw [hw e he, b1 e he, hu e he]) a1
      · exact fStl_u hk hb hp hl n hw a2 b2
theorem fStl_c {A B b pl l : Nat → Int} (hk : kOk c) : ∀ (n : Nat) {u u' v : Nat → Int} {r : Prop}, Ag c u u' → fStl c A B b pl l n u r v → fStl c A B b pl l n u' r v
  | 0, u, u', v, r, hu, h => ⟨h.1, fun e he => by rw [← hu e he]; exact h.2 e he⟩
  | n + 1, u, u', v, r, hu, h => by
    obtain ⟨w, w1, w2⟩ := h
    have ag : Ag c w u ↔ Ag c w u' := ⟨fun h e he => (h e he).trans (hu e he), fun h e he => (h e he).trans (hu e he).symm⟩
    refine ⟨w, fSw_c hk (fun _ _ => rfl) (fun _ _ => rfl) (fun _ _ => rfl) hu (fun _ _ => rfl) w1, ?_⟩
    rw [← ag]; exact w2
def pRt (k j : Nat) : Prop := k = 152 ∨ k = 156 ∨ k = 157 ∨ k = 159 ∨ (k = 94 ∧ (j = 97 ∨ j = 98))
theorem s_settleM {z : gZ} (g : Gr c z) (hR : RI c z) : zOk (q_Model_settle E (kL c) z) (fun z' => RB c z' ∧ z'.1 94 97 = 1 ∧ SR c z' ∧ zOff pRt z z') := by
  obtain ⟨hB, hc⟩ := hR
  have hP := kP_b g.1
  unfold q_Model_settle
  rcases hc with hc | ⟨hc1, hc2⟩
  · rw [if_pos hc]
    have l1 : gIter (fun y => q_Model_settle_10 E (kL c) y.1 y.2) gN (0, z) = some (zFill z 156 (fun _ => 0) (kP c)) := by
      refine it_fill 156 (fun _ => 0) (kP c) (by omega) ?_ ?_
      · intro i hi
        have e : (zFill z 156 (fun _ => 0) i).1 94 5 = kP c := g.2.2.1.2.2.2.2.2.1
        have key : q_Model_settle_10 E (kL c) (i : Int) (zFill z 156 (fun _ => 0) i) = some (.inl ((i : Int) + 1, zPut (zFill z 156 (fun _ => 0) i) 156 i 0)) := by
          unfold q_Model_settle_10
          rw [e, if_neg (by omega), kL_156, if_pos (by omega), let_s, let_s, gtN, zBool_0]
        exact key
      · have e : (zFill z 156 (fun _ => 0) (kP c)).1 94 5 = kP c := g.2.2.1.2.2.2.2.2.1
        have key : q_Model_settle_10 E (kL c) ((kP c : Nat) : Int) (zFill z 156 (fun _ => 0) (kP c)) = some (.inr (zFill z 156 (fun _ => 0) (kP c))) := by
          unfold q_Model_settle_10
          rw [e, if_pos (by omega)]
        exact key
    rw [l1, b1_s, ok_1]
    generalize hz1 : zFill z 156 (fun _ => 0) (kP c) = z1
    have o1 : zOff pRs z z1 := by rw [← hz1]; exact off_fill fun j => by unfold pRs; omega
    have g1 : Gr c z1 := Gr_off o1 (fun k j h => by unfold pS at h; unfold pRs; omega) g
    have z156 : ∀ e, e < kP c → z1.1 156 e = 0 := fun e he => by rw [← hz1, zf1, if_pos rfl, if_pos he]
    refine ok_w (it_for (fun (i : Nat) (t : Int × gZ) => (t.1, (i : Int), t.2)) (fun i t => zOff pRs z1 t.2 ∧ (∀ e, e < kP c → b01 (t.2.1 156 e)) ∧ ((t.1 = 1 ∧ ∀ r v', fStl c (z.1 5) (z.1 6) (z.1 154) (z.1 158) (z.1 155) (kP c + 1 - i) (t.2.1 156) r v' → fStl c (z.1 5) (z.1 6) (z.1 154) (z.1 158) (z.1 155) (kP c + 1) fZ r v') ∨ (t.1 = 0 ∧ fStl c (z.1 5) (z.1 6) (z.1 154) (z.1 158) (z.1 155) (kP c + 1) fZ True (t.2.1 156)))) 0 (kP c + 1)
      (Q := fun r => zOff pRs z1 r.2 ∧ (∀ e, e < kP c → b01 (r.2.1 156 e)) ∧ (r.1 = 0 ∨ r.1 = 1) ∧ fStl c (z.1 5) (z.1 6) (z.1 154) (z.1 158) (z.1 155) (kP c + 1) fZ (r.1 = 0) (r.2.1 156)) (t := (1, z1)) rfl ⟨off_r, fun e he => Or.inl (z156 e he), Or.inl ⟨rfl, fun r v' h => fStl_c g.1 _ (fun e he => z156 e he) h⟩⟩ (by omega) (by omega) ?_ ?_) ?_
    · rintro i ⟨ch, t⟩ _ hi ⟨ho, h01, hC⟩
      simp only at ho h01 hC
      have oz : zOff pRs z t := off_t o1 ho
      have gt : Gr c t := Gr_off ho (fun k j h => by unfold pS at h; unfold pRs; omega) g1
      have hBt : RB c t := RB_off oz (fun k j h => by unfold pRs; omega) hB h01
      have a5 : t.1 5 = z.1 5 := funext fun j => oz.2 _ _ (by unfold pRs; omega)
      have a6 : t.1 6 = z.1 6 := funext fun j => oz.2 _ _ (by unfold pRs; omega)
      have a154 : t.1 154 = z.1 154 := funext fun j => oz.2 _ _ (by unfold pRs; omega)
      have a155 : t.1 155 = z.1 155 := funext fun j => oz.2 _ _ (by unfold pRs; omega)
      have a158 : t.1 158 = z.1 158 := funext fun j => oz.2 _ _ (by unfold pRs; omega)
      rcases hC with ⟨c1, c2⟩ | ⟨c1, c2⟩
      · subst c1
        refine ok_w (s_settle35 (E := E) gt hBt (by omega)) ?_
        rintro r ⟨ch, t2, rfl, q1, q2, q3, q4⟩
        rw [a5, a6, a154, a155, a158] at q3
        have step : fStl c (z.1 5) (z.1 6) (z.1 154) (z.1 158) (z.1 155) (kP c + 1 - i) = fStl c (z.1 5) (z.1 6) (z.1 154) (z.1 158) (z.1 155) ((kP c - i) + 1) := by rw [show kP c + 1 - i = kP c - i + 1 by omega]
        refine Or.inl ⟨(ch, t2), rfl, off_t ho q1, q2, ?_⟩
        rcases q4 with ⟨q5, q6⟩ | ⟨q5, q6⟩
        · refine Or.inr ⟨q5, c2 True _ ?_⟩
          rw [step]
          exact ⟨t2.1 156, q3, Or.inl ⟨q6, trivial, Ag_r⟩⟩
        · refine Or.inl ⟨q5, fun r v' h => c2 r v' ?_⟩
          rw [step]
          rw [show kP c + 1 - (i + 1) = kP c - i by omega] at h
          exact ⟨t2.1 156, q3, Or.inr ⟨q6, h⟩⟩
      · subst c1
        have key : q_Model_settle_35 E (kL c) 0 (i : Int) t = some (.inr (0, t)) := by
          unfold q_Model_settle_35
          rw [if_pos rfl]
        refine ok_e key (Or.inr ⟨_, rfl, ho, h01, Or.inl rfl, ?_⟩)
        rw [show ((0 : Int) = 0) = True from propext ⟨fun _ => trivial, fun _ => rfl⟩]; exact c2
    · rintro ⟨ch, t⟩ ⟨ho, h01, hC⟩
      simp only at ho h01 hC
      have gt : Gr c t := Gr_off ho (fun k j h => by unfold pS at h; unfold pRs; omega) g1
      have key : q_Model_settle_35 E (kL c) ch ((kP c + 1 : Nat) : Int) t = some (.inr (ch, t)) := by
        unfold q_Model_settle_35
        by_cases h : ch = 0
        · rw [if_pos h]
        · rw [if_neg h, gt.2.2.1.2.2.2.2.2.1, if_pos (by omega)]
      refine ok_e key ⟨_, rfl, ho, h01, ?_, ?_⟩
      · rcases hC with h | h
        · exact Or.inr h.1
        · exact Or.inl h.1
      · rcases hC with ⟨c1, c2⟩ | ⟨c1, c2⟩
        · subst c1
          simp only
          rw [show ((1 : Int) = 0) = False from propext ⟨fun h => absurd h (by decide), False.elim⟩]
          apply c2
          rw [Nat.sub_self]
          exact ⟨fun h => h, Ag_r⟩
        · subst c1
          simp only
          exact c2
    · rintro ⟨ch, t⟩ ⟨ho, h01, hC, hS⟩
      simp only at ho h01 hC hS
      have oz : zOff pRs z t := off_t o1 ho
      have a5 : t.1 5 = z.1 5 := funext fun j => oz.2 _ _ (by unfold pRs; omega)
      have a6 : t.1 6 = z.1 6 := funext fun j => oz.2 _ _ (by unfold pRs; omega)
      have a154 : t.1 154 = z.1 154 := funext fun j => oz.2 _ _ (by unfold pRs; omega)
      have a155 : t.1 155 = z.1 155 := funext fun j => oz.2 _ _ (by unfold pRs; omega)
      have a158 : t.1 158 = z.1 158 := funext fun j => oz.2 _ _ (by unfold pRs; omega)
      have hBt : RB c t := RB_off oz (fun k j h => by unfold pRs; omega) hB h01
      unfold q_Model_settle_j139
      rw [if_pos hC, let_s, let_s, ok_s]
      refine ⟨hBt, rfl, ⟨hC, ?_⟩, off_t (off_w oz fun k j h => by unfold pRs at h; unfold pRt; omega) (off_t (off_put (by unfold pRt; omega)) (off_put (by unfold pRt; omega)))⟩
      show fStl c (t.1 5) (t.1 6) (t.1 154) (t.1 158) (t.1 155) (kP c + 1) fZ (ch = 0) (t.1 156)
      rw [a5, a6, a154, a155, a158]; exact hS
  · rw [if_neg (by omega), ok_s]
    exact ⟨hB, hc1, hc2, off_r⟩
end
