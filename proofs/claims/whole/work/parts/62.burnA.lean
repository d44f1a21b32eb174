set_option linter.unusedVariables false
-- U1
section
variable {E : gEv} {c : gCf}
def bitI (v : Int) (b : Nat) : Int := if zBit v b then 1 else 0
theorem bitI_b (v : Int) (b : Nat) : b01 (bitI v b) := by
  unfold bitI; split
  · exact Or.inr rfl
  · exact Or.inl rfl
theorem s_put {z : gZ} {a w : Nat} {v : Int} (g : Gr c z) (hw : w ≤ 32) (ha : a + w ≤ kB c) : zOk (q_Field_put E (kL c) (a : Int) (w : Int) v z) (fun s => zOff (fun k j => k = 82 ∧ a ≤ j ∧ j < a + w) z s ∧ ∀ b, b < w → s.1 82 (a + b) = bitI v b) := by
  have hB := kB_b g.1
  have o8 : z.1 1 8 = kB c := g.2.1.2.2.2.2.2.2.2.2.1
  unfold q_Field_put
  refine ok_b1 (fun s => zOff (fun k j => k = 82 ∧ a ≤ j ∧ j < a + w) z s ∧ ∀ b, b < w → s.1 82 (a + b) = bitI v b) ?_ fun s hs => ok_so hs
  refine it_for (fun (i : Nat) (t : gZ) => ((i : Int), t)) (fun i t => zOff (fun k j => k = 82 ∧ a ≤ j ∧ j < a + w) z t ∧ ∀ b, b < i → t.1 82 (a + b) = bitI v b) 0 w rfl ⟨off_r, fun b hb => by omega⟩ (by omega) (by omega) ?_ ?_
  · rintro i t - hi ⟨o, h⟩
    show zOk (q_Field_put_3 E (kL c) (a : Int) (w : Int) v (i : Int) t) _
    unfold q_Field_put_3
    rw [o.2 1 8 (by omega), o8, kL_82]
    (refine ok_neg (by omega) ?_); (refine ok_neg (by omega) ?_); (refine ok_gd (by omega) ?_); (refine ok_neg (by omega) ?_); (refine ok_gd (by omega) ?_)
    rw [ok_l, ok_l, show ((a : Int) + (i : Int)).toNat = a + i by omega, zBit_at v i (by omega), zByte_b]
    refine ok_inl (Or.inl ⟨_, rfl, off_t o (off_put (by omega)), fun b hb => ?_⟩)
    rw [zp1, if_pos rfl]
    by_cases e : b = i
    · rw [if_pos (by omega), e]
      show zByte (bitI v i) = bitI v i
      rcases bitI_b v i with x | x <;> rw [x]
      · exact zByte_s 0 (by omega)
      · exact zByte_s 1 (by omega)
    · rw [if_neg (by omega)]; exact h b (by omega)
  · rintro t ⟨o, h⟩
    show zOk (q_Field_put_3 E (kL c) (a : Int) (w : Int) v (w : Int) t) _
    unfold q_Field_put_3
    (refine ok_pos (by omega) ?_)
    exact ok_inr ⟨t, rfl, o, h⟩
theorem s_num {z : gZ} {a w : Nat} {v : Int} (hk : kOk c) (hw : w ≤ 32) (ha : a + w ≤ kB c) : zOk (q_Model_number E (kL c) (a : Int) (w : Int) v z) (fun s => zOff (fun k j => k = 154 ∧ a ≤ j ∧ j < a + w) z s ∧ ∀ b, b < w → s.1 154 (a + b) = bitI v b) := by
  have hB := kB_b hk
  unfold q_Model_number
  refine ok_b1 (fun s => zOff (fun k j => k = 154 ∧ a ≤ j ∧ j < a + w) z s ∧ ∀ b, b < w → s.1 154 (a + b) = bitI v b) ?_ fun s hs => ok_so hs
  refine it_for (fun (i : Nat) (t : gZ) => ((i : Int), t)) (fun i t => zOff (fun k j => k = 154 ∧ a ≤ j ∧ j < a + w) z t ∧ ∀ b, b < i → t.1 154 (a + b) = bitI v b) 0 w rfl ⟨off_r, fun b hb => by omega⟩ (by omega) (by omega) ?_ ?_
  · rintro i t - hi ⟨o, h⟩
    have main : ∀ x : Int, x = bitI v i → zOk (q_Model_number_j32_3 E (kL c) (a : Int) (w : Int) v (i : Int) ((a : Int) + (i : Int)) x t) (fun r => (∃ t', r = Sum.inl (((i + 1 : Nat) : Int), t') ∧ zOff (fun k j => k = 154 ∧ a ≤ j ∧ j < a + w) z t' ∧ ∀ b, b < i + 1 → t'.1 154 (a + b) = bitI v b) ∨ ∃ e, r = Sum.inr e ∧ zOff (fun k j => k = 154 ∧ a ≤ j ∧ j < a + w) z e ∧ ∀ b, b < w → e.1 154 (a + b) = bitI v b) := fun x hx => by
      unfold q_Model_number_j32_3
      rw [kL_154]
      (refine ok_gd (by omega) ?_)
      rw [ok_l]
      (refine ok_gd (by omega) ?_)
      rw [ok_l, show ((a : Int) + (i : Int)).toNat = a + i by omega, zBool_n x (by rw [hx]; exact bitI_b v i)]
      refine ok_inl (Or.inl ⟨_, rfl, off_t o (off_put (by omega)), fun b hb => ?_⟩)
      rw [zp1, if_pos rfl]
      by_cases e : b = i
      · rw [if_pos (by omega), e]; exact hx
      · rw [if_neg (by omega)]; exact h b (by omega)
    show zOk (q_Model_number_3 E (kL c) (a : Int) (w : Int) v (i : Int) t) _
    unfold q_Model_number_3
    rw [zBit_atS v i (by omega)]
    (refine ok_neg (by omega) ?_)
    cases hb : zBit v i
    · rw [if_neg Bool.false_ne_true]
      refine ok_neg (by decide) ?_
      (refine ok_gd (by omega) ?_)
      exact main 0 (by unfold bitI; rw [hb]; rfl)
    · rw [if_pos rfl]
      refine ok_pos rfl ?_
      (refine ok_gd (by omega) ?_)
      exact main 1 (by unfold bitI; rw [hb]; rfl)
  · rintro t ⟨o, h⟩
    show zOk (q_Model_number_3 E (kL c) (a : Int) (w : Int) v (w : Int) t) _
    unfold q_Model_number_3
    (refine ok_pos (by omega) ?_)
    exact ok_inr ⟨t, rfl, o, h⟩
/-- the number of a wire that a tile touches -/
theorem s_place {z : gZ} {q w s a : Nat} (g : Gr c z) (hq : q < kN c) (hs : s < 4) (ha : tF c q s = a) (h1 : a ≤ w) (h2 : w < a + kT c) (hf : ∀ s', s' < s → ¬ (0 ≤ tF c q s' ∧ tF c q s' ≤ w ∧ (w : Int) < tF c q s' + kT c)) : q_Model_placeOfTile E (kL c) (q : Int) (w : Int) z = some ((1 + (s * kT c + (w - a)) : Nat) : Int) := by
  obtain ⟨-, -, -, ⟨t1, t2⟩⟩ := id g.1
  have m3 : z.1 94 3 = kT c := g.2.2.1.2.2.2.1
  have tt : ∀ s, tF c q s = kTw c q s := fun s => by unfold tF; rw [if_pos hq]
  have st : ∀ s' : Nat, s' < 4 → q_Model_placeOfTile_2 E (kL c) (q : Int) (w : Int) (s' : Int) z = if kTw c q s' ≤ w ∧ w < kTw c q s' + kT c then some (.inr (.inl ((s' : Int), ((w - kTw c q s' : Nat) : Int)))) else some (.inl ((s' : Int) + 1)) := fun s' h4 => by
    have inn : ∀ t : Nat, t < kT c → q_Model_placeOfTile_10 E (kL c) (q : Int) (w : Int) (s' : Int) (t : Int) z = if kTw c q s' + t = w then some (.inr (.inl (t : Int))) else some (.inl ((t : Int) + 1)) := fun t ht => by
      unfold q_Model_placeOfTile_10
      rw [m3, if_neg (by omega), s_tileWire g hq h4 ht, b1_s]
      by_cases e : kTw c q s' + t = w
      · rw [if_pos (by omega), if_pos e]
      · rw [if_neg (by omega), if_neg e, let_s]
    unfold q_Model_placeOfTile_2
    rw [if_neg (by omega)]
    rcases it_find (f := fun y => q_Model_placeOfTile_10 E (kL c) (q : Int) (w : Int) (s' : Int) y z) (fun t => kTw c q s' + t = w) (fun t => Sum.inl (t : Int)) 0 (kT c) (e := Sum.inr ()) (s := 0) rfl (by omega) (by omega) (fun i _ hi hp => by rw [inn i hi, if_neg hp]) (fun i _ hi hp => by rw [inn i hi, if_pos hp]) (by show q_Model_placeOfTile_10 E (kL c) (q : Int) (w : Int) (s' : Int) (kT c : Int) z = _; unfold q_Model_placeOfTile_10; rw [m3, if_pos (by omega)]) with ⟨i, -, i1, i2, i3, i4⟩ | ⟨i1, i2⟩
    · rw [i4, b1_s, gs_l, if_pos (by omega), show w - kTw c q s' = i by omega]
    · rw [i2, b1_s, gs_r, let_s, if_neg fun x => i1 (w - kTw c q s') (by omega) (by omega) (by omega)]
  unfold q_Model_placeOfTile
  rw [tt] at ha
  have hst : s * kT c ≤ 3 * 10 := Nat.mul_le_mul (by omega) t2
  rcases it_find (f := fun y => q_Model_placeOfTile_2 E (kL c) (q : Int) (w : Int) y z) (fun s' => kTw c q s' ≤ w ∧ w < kTw c q s' + kT c) (fun s' => Sum.inl ((s' : Int), ((w - kTw c q s' : Nat) : Int))) 0 4 (e := Sum.inr ()) (s := 0) rfl (by omega) (by omega) (fun i _ hi hp => by rw [st i hi, if_neg hp]) (fun i _ hi hp => by rw [st i hi, if_pos hp]) (by show q_Model_placeOfTile_2 E (kL c) (q : Int) (w : Int) 4 z = _; unfold q_Model_placeOfTile_2; rw [if_pos (by omega)]) with ⟨i, -, i1, i2, i3, i4⟩ | ⟨i1, i2⟩
  · have : i = s := by
      rcases Nat.lt_trichotomy i s with x | x | x
      · exfalso
        refine hf i x ?_
        rw [tt]; omega
      · exact x
      · exact absurd (by omega) (i3 s (by omega) x)
    subst this
    rw [i4, b1_s, gs_l]
    dsimp only
    have ek : kTw c q i = a := by omega
    rw [m3, ek]
    have e : (1 + (i : Int) * (kT c : Int)) + ((w - a : Nat) : Int) = ((1 + (i * kT c + (w - a)) : Nat) : Int) := by
      rw [← Int.natCast_mul]
      generalize i * kT c = p
      omega
    rw [e]
    generalize i * kT c = p at *
    rw [if_pos (by omega)]
  · exact absurd (by omega) (i1 s (by omega) hs)
/-- the end of the sink with a code -/
theorem s_endOf {z : gZ} {nS k : Nat} {x : Int} (hS : z.1 94 61 = nS) (hb : nS ≤ 700) (hk : k < nS) (hx : z.1 131 k = x) (hu : ∀ k', k' < nS → z.1 131 k' = x → k' = k) : q_Model_endOf E (kL c) x z = some (z.1 132 k) := by
  unfold q_Model_endOf
  rw [it_c0 k (e := Sum.inl (k : Int)) (by omega)]
  · rw [b1_s, gs_l, kL_132, if_pos (by omega), gtN]
  · intro i hi
    unfold q_Model_endOf_2
    rw [hS, kL_131, if_neg (by omega), if_pos (by omega), gtN, if_neg fun e => by have := hu i (by omega) e; omega, let_s]
  · unfold q_Model_endOf_2
    rw [hS, kL_131, if_neg (by omega), if_pos (by omega), gtN, if_pos hx]
theorem s_endOf0 {z : gZ} {nS : Nat} {x : Int} (hS : z.1 94 61 = nS) (hb : nS ≤ 700) (hu : ∀ k, k < nS → z.1 131 k ≠ x) : q_Model_endOf E (kL c) x z = some (-1) := by
  unfold q_Model_endOf
  rw [it_c0 nS (e := Sum.inr ()) (by omega)]
  · rw [b1_s, gs_r]
  · intro i hi
    unfold q_Model_endOf_2
    rw [hS, kL_131, if_neg (by omega), if_pos (by omega), gtN, if_neg (hu i hi), let_s]
  · unfold q_Model_endOf_2
    rw [hS, if_pos (by omega)]
end
-- U2
section
variable {E : gEv} {c : gCf}
/-- by which number a spot touches a wire -/
def Rv (c : gCf) (sp w r : Nat) : Prop := ∃ s a : Nat, s < 4 ∧ tF c sp s = a ∧ a ≤ w ∧ w < a + kT c ∧ (∀ s', s' < s → ¬ (0 ≤ tF c sp s' ∧ tF c sp s' ≤ w ∧ (w : Int) < tF c sp s' + kT c)) ∧ r = s * kT c + (w - a)
theorem Rv_u {sp w r r' : Nat} (h : Rv c sp w r) (k : Rv c sp w r') : r = r' := by
  obtain ⟨s, a, h1, h2, h3, h4, h5, h6⟩ := h
  obtain ⟨s', a', k1, k2, k3, k4, k5, k6⟩ := k
  have : s = s' := by
    rcases Nat.lt_trichotomy s s' with x | x | x
    · exact absurd ⟨by omega, by omega, by omega⟩ (k5 s x)
    · exact x
    · exact absurd ⟨by omega, by omega, by omega⟩ (h5 s' x)
  subst this
  have : a = a' := by omega
  subst this
  omega
theorem Rv_ex {sp w : Nat} (h : kTc c sp w) : ∃ r, Rv c sp w r := by
  obtain ⟨s, s1, s2, s3, s4⟩ := h
  have : ∀ n, ∀ s, s < n → s < 4 → (0 ≤ tF c sp s ∧ tF c sp s ≤ w ∧ (w : Int) < tF c sp s + kT c) → ∃ r, Rv c sp w r := by
    intro n
    induction n with
    | zero => intro s hs; omega
    | succ n ih =>
      intro s hs h4 hp
      by_cases e : ∃ s', s' < s ∧ (0 ≤ tF c sp s' ∧ tF c sp s' ≤ w ∧ (w : Int) < tF c sp s' + kT c)
      · obtain ⟨s', a, b⟩ := e
        exact ih s' (by omega) (by omega) b
      · exact ⟨_, s, (tF c sp s).toNat, h4, by omega, by omega, by omega, fun s' a b => e ⟨s', a, b⟩, rfl⟩
  exact this (s + 1) s (by omega) s1 ⟨s2, s3, s4⟩
noncomputable def rv (c : gCf) (sp w : Nat) : Nat := @dite Nat (∃ r, Rv c sp w r) (Classical.propDecidable _) (fun h => Classical.choose h) (fun _ => 0)
theorem rv_s {sp w : Nat} (h : kTc c sp w) : Rv c sp w (rv c sp w) := by
  unfold rv
  rw [dif_pos (Rv_ex h)]
  exact Classical.choose_spec (Rv_ex h)
theorem rv_b (hk : kOk c) {sp w : Nat} (h : kTc c sp w) : rv c sp w < 4 * kT c := by
  obtain ⟨s, a, h1, h2, h3, h4, h5, h6⟩ := rv_s h
  have : s * kT c ≤ 3 * kT c := Nat.mul_le_mul_right _ (by omega)
  omega
theorem rv_p {sp w : Nat} (hs : ¬ sp < kN c) (h : kTc c sp w) : ∃ a, tF c sp 0 = (a : Nat) ∧ a % kT c = 0 ∧ a ≤ w ∧ w < a + kT c ∧ rv c sp w = w - a ∧ rv c sp w = w % kT c := by
  obtain ⟨s, a, h1, h2, h3, h4, h5, h6⟩ := rv_s h
  have s0 : s = 0 := by
    unfold tF at h2
    rw [if_neg hs] at h2
    by_cases e : s = 0
    · exact e
    · rw [if_neg e] at h2; omega
  subst s0
  have ha : a = kPw c (sp - kN c) := by
    unfold tF at h2
    rw [if_neg hs, if_pos rfl] at h2
    omega
  have hm : a % kT c = 0 := by rw [ha]; exact kPw_m c _
  refine ⟨a, h2, hm, h3, h4, by omega, ?_⟩
  have := mod_at hm (t := w - a) (T := kT c) (by omega)
  rw [show a + (w - a) = w by omega] at this
  omega
theorem s_reachV {z : gZ} (g : Gr c z) {sp w : Nat} (hs : sp < kN c + kD c) (hw : w < kW c) (h : kTc c sp w) : q_Grid_reach E (kL c) (sp : Int) (w : Int) z = some (rv c sp w : Int) := by
  rcases s_reach (E := E) g hs hw with ⟨s, a, h1, h2, h3, h4, h5, h6⟩ | ⟨h1, -⟩
  · rw [h6, Rv_u (rv_s h) ⟨s, a, h1, h2, h3, h4, h5, rfl⟩]
  · exact absurd h h1
theorem s_placeV {z : gZ} (g : Gr c z) {q w : Nat} (hq : q < kN c) (h : kTc c q w) : q_Model_placeOfTile E (kL c) (q : Int) (w : Int) z = some ((1 + rv c q w : Nat) : Int) := by
  obtain ⟨s, a, h1, h2, h3, h4, h5, h6⟩ := rv_s h
  rw [s_place g hq h1 h2 h3 h4 h5, h6]
/-- addresses: of an element, of a pad -/
def spE (z : gZ) (e : Nat) : Nat := (z.1 69 (z.1 56 e).toNat).toNat
def bsE (c : gCf) (z : gZ) (e : Nat) : Nat := (spE z e * kE c + (z.1 57 e).toNat) * kX c
def pbP (c : gCf) (p : Nat) : Nat := kY c + p * (6 + kT c)
/-- elements as both sides have them -/
abbrev EJ (c : gCf) (m nC nS nU nL : Nat) (z : gZ) : Prop := ∃ _ : (∀ e, e < m → z.1 55 e = z.1 125 e ∧ z.1 56 e = z.1 133 e ∧ z.1 57 e = z.1 134 e ∧ 0 ≤ z.1 56 e ∧ z.1 56 e < nC ∧ 0 ≤ z.1 57 e ∧ z.1 57 e < kE c), ∃ _ : (∀ e e', e < m → e' < m → z.1 56 e = z.1 56 e' → z.1 57 e = z.1 57 e' → e = e'), ∃ _ : (∀ e, e < m → z.1 55 e = -1 ∨ (0 ≤ z.1 55 e ∧ z.1 55 e < nL)), ∃ _ : (∀ j, j < nL → z.1 32 j = z.1 108 j ∧ b01 (z.1 32 j)), ∃ _ : (nL ≤ 150), ∃ _ : (∀ e, e < m → z.1 127 e = if e < nU then z.1 36 e else 43690), ∃ _ : (z.1 30 10 = nU), ∃ _ : (nU ≤ m), ∃ _ : (z.1 53 15 = m), ∃ _ : (z.1 94 55 = m), ∃ _ : (z.1 94 61 = nS), ∃ _ : (∀ j, j < 4 * m → (z.1 126 j = -1 ∧ ∀ k, k < nS → z.1 131 k ≠ j) ∨ (z.1 126 j ≠ -1 ∧ ∃ k, k < nS ∧ z.1 131 k = j)), ∃ _ : (∀ k k', k < nS → k' < nS → z.1 131 k = z.1 131 k' → k = k'), ∃ _ : (∀ j, j < nL → z.1 54 j = z.1 128 j), (∀ n : Nat, (n : Int) < z.1 53 17 → 200 ≤ z.1 129 n → z.1 129 n < 350 → z.1 129 n < 200 + nL)
theorem EJ.el {c : gCf} {m nC nS nU nL : Nat} {z : gZ} (h : EJ c m nC nS nU nL z) : ∀ e, e < m → z.1 55 e = z.1 125 e ∧ z.1 56 e = z.1 133 e ∧ z.1 57 e = z.1 134 e ∧ 0 ≤ z.1 56 e ∧ z.1 56 e < nC ∧ 0 ≤ z.1 57 e ∧ z.1 57 e < kE c := by obtain ⟨x, _⟩ := h; exact x
theorem EJ.inj {c : gCf} {m nC nS nU nL : Nat} {z : gZ} (h : EJ c m nC nS nU nL z) : ∀ e e', e < m → e' < m → z.1 56 e = z.1 56 e' → z.1 57 e = z.1 57 e' → e = e' := by obtain ⟨_, x, _⟩ := h; exact x
theorem EJ.lt {c : gCf} {m nC nS nU nL : Nat} {z : gZ} (h : EJ c m nC nS nU nL z) : ∀ e, e < m → z.1 55 e = -1 ∨ (0 ≤ z.1 55 e ∧ z.1 55 e < nL) := by obtain ⟨_, _, x, _⟩ := h; exact x
theorem EJ.lf {c : gCf} {m nC nS nU nL : Nat} {z : gZ} (h : EJ c m nC nS nU nL z) : ∀ j, j < nL → z.1 32 j = z.1 108 j ∧ b01 (z.1 32 j) := by obtain ⟨_, _, _, x, _⟩ := h; exact x
theorem EJ.lb {c : gCf} {m nC nS nU nL : Nat} {z : gZ} (h : EJ c m nC nS nU nL z) : nL ≤ 150 := by obtain ⟨_, _, _, _, x, _⟩ := h; exact x
theorem EJ.tb {c : gCf} {m nC nS nU nL : Nat} {z : gZ} (h : EJ c m nC nS nU nL z) : ∀ e, e < m → z.1 127 e = if e < nU then z.1 36 e else 43690 := by obtain ⟨_, _, _, _, _, x, _⟩ := h; exact x
theorem EJ.u {c : gCf} {m nC nS nU nL : Nat} {z : gZ} (h : EJ c m nC nS nU nL z) : z.1 30 10 = nU := by obtain ⟨_, _, _, _, _, _, x, _⟩ := h; exact x
theorem EJ.ub {c : gCf} {m nC nS nU nL : Nat} {z : gZ} (h : EJ c m nC nS nU nL z) : nU ≤ m := by obtain ⟨_, _, _, _, _, _, _, x, _⟩ := h; exact x
theorem EJ.e1 {c : gCf} {m nC nS nU nL : Nat} {z : gZ} (h : EJ c m nC nS nU nL z) : z.1 53 15 = m := by obtain ⟨_, _, _, _, _, _, _, _, x, _⟩ := h; exact x
theorem EJ.e2 {c : gCf} {m nC nS nU nL : Nat} {z : gZ} (h : EJ c m nC nS nU nL z) : z.1 94 55 = m := by obtain ⟨_, _, _, _, _, _, _, _, _, x, _⟩ := h; exact x
theorem EJ.s2 {c : gCf} {m nC nS nU nL : Nat} {z : gZ} (h : EJ c m nC nS nU nL z) : z.1 94 61 = nS := by obtain ⟨_, _, _, _, _, _, _, _, _, _, x, _⟩ := h; exact x
theorem EJ.pn {c : gCf} {m nC nS nU nL : Nat} {z : gZ} (h : EJ c m nC nS nU nL z) : ∀ j, j < 4 * m → (z.1 126 j = -1 ∧ ∀ k, k < nS → z.1 131 k ≠ j) ∨ (z.1 126 j ≠ -1 ∧ ∃ k, k < nS ∧ z.1 131 k = j) := by obtain ⟨_, _, _, _, _, _, _, _, _, _, _, x, _⟩ := h; exact x
theorem EJ.su {c : gCf} {m nC nS nU nL : Nat} {z : gZ} (h : EJ c m nC nS nU nL z) : ∀ k k', k < nS → k' < nS → z.1 131 k = z.1 131 k' → k = k' := by obtain ⟨_, _, _, _, _, _, _, _, _, _, _, _, x, _⟩ := h; exact x
theorem EJ.le {c : gCf} {m nC nS nU nL : Nat} {z : gZ} (h : EJ c m nC nS nU nL z) : ∀ j, j < nL → z.1 54 j = z.1 128 j := by obtain ⟨_, _, _, _, _, _, _, _, _, _, _, _, _, x, _⟩ := h; exact x
theorem EJ.ls {c : gCf} {m nC nS nU nL : Nat} {z : gZ} (h : EJ c m nC nS nU nL z) : ∀ n : Nat, (n : Int) < z.1 53 17 → 200 ≤ z.1 129 n → z.1 129 n < 350 → z.1 129 n < 200 + nL := by obtain ⟨_, _, _, _, _, _, _, _, _, _, _, _, _, _, x⟩ := h; exact x
/-- bits that are on -/
def Row (c : gCf) (r : Nat → Int) (P : Nat → Prop) : Prop := ∀ i, i < kB c → (P i → r i = 1) ∧ (¬ P i → r i = 0)
theorem Row_put {r r' : Nat → Int} {P : Nat → Prop} {a w : Nat} {v : Int} (h : Row c r P) (hf : ∀ i, a ≤ i → i < a + w → ¬ P i) (h1 : ∀ b, b < w → r' (a + b) = bitI v b) (h2 : ∀ i, ¬ (a ≤ i ∧ i < a + w) → r' i = r i) : Row c r' (fun i => P i ∨ ∃ b, b < w ∧ i = a + b ∧ zBit v b = true) := by
  intro i hi
  by_cases e : a ≤ i ∧ i < a + w
  · have hv := h1 (i - a) (by omega)
    rw [show a + (i - a) = i by omega] at hv
    rw [hv]
    unfold bitI
    constructor
    · rintro (x | ⟨b, b1, b2, b3⟩)
      · exact absurd x (hf i e.1 e.2)
      · rw [show i - a = b by omega, b3]; rfl
    · intro x
      cases g : zBit v (i - a)
      · rfl
      · exact absurd (Or.inr ⟨i - a, by omega, by omega, g⟩) x
  · rw [h2 i e]
    constructor
    · rintro (x | ⟨b, b1, b2, b3⟩)
      · exact (h i hi).1 x
      · omega
    · intro x
      exact (h i hi).2 fun y => x (Or.inl y)
theorem Row_one {r r' : Nat → Int} {P : Nat → Prop} {a : Nat} (h : Row c r P) (h1 : r' a = 1) (h2 : ∀ i, i ≠ a → r' i = r i) : Row c r' (fun i => P i ∨ i = a) := by
  intro i hi
  by_cases e : i = a
  · rw [e, h1]; exact ⟨fun _ => rfl, fun x => absurd (Or.inr rfl) x⟩
  · rw [h2 i e]
    exact ⟨fun x => (h i hi).1 (x.resolve_right e), fun x => (h i hi).2 fun y => x (Or.inl y)⟩
theorem Row_c {r : Nat → Int} {P Q : Nat → Prop} (h : Row c r P) (e : ∀ i, i < kB c → (P i ↔ Q i)) : Row c r Q := fun i hi => ⟨fun x => (h i hi).1 ((e i hi).2 x), fun x => (h i hi).2 fun y => x ((e i hi).1 y)⟩
theorem Row_e {r r' : Nat → Int} {P : Nat → Prop} (h : Row c r P) (h' : Row c r' P) : ∀ i, i < kB c → r i = r' i := fun i hi => by
  by_cases e : P i
  · rw [(h i hi).1 e, (h' i hi).1 e]
  · rw [(h i hi).2 e, (h' i hi).2 e]
theorem Row_b {r : Nat → Int} {P : Nat → Prop} (h : Row c r P) : ∀ i, i < kB c → b01 (r i) := fun i hi => by
  by_cases e : P i
  · exact Or.inr ((h i hi).1 e)
  · exact Or.inl ((h i hi).2 e)
section
variable {m nC nN nS nI nO nU nL : Nat} {z : gZ}
theorem EJ.sp (hE : EJ c m nC nS nU nL z) (hP : PZ c nC nI nO z) {e : Nat} (he : e < m) : ∃ x : Nat, z.1 56 e = x ∧ x < nC ∧ z.1 69 x = (spE z e : Nat) ∧ spE z e < kN c ∧ z.1 68 (spE z e) = x := by
  obtain ⟨-, -, -, h1, h2, -, -⟩ := hE.el e he
  have hx : ∃ x : Nat, z.1 56 e = x := ⟨(z.1 56 e).toNat, by omega⟩
  obtain ⟨x, hx⟩ := hx
  have hc : x < nC := by omega
  obtain ⟨q, q1, q2, q3, q4⟩ := hP.sp x (Or.inl hc)
  have cb := hP.cb
  have es : spE z e = q := by unfold spE; rw [hx, gtN, q1, gtN]
  rw [es]
  exact ⟨x, hx, hc, q1, q4.2 (by omega), q3⟩
theorem bs_P (hk : kOk c) (hE : EJ c m nC nS nU nL z) (hP : PZ c nC nI nO z) {e : Nat} (he : e < m) : spE z e * kE c + (z.1 57 e).toNat < kP c ∧ bsE c z e + kX c ≤ kY c ∧ ∀ o, o < kX c → (bsE c z e + o) / kX c = spE z e * kE c + (z.1 57 e).toNat ∧ (bsE c z e + o) % kX c = o := by
  obtain ⟨x, -, -, -, h1, -⟩ := hE.sp hP he
  obtain ⟨-, -, -, -, -, h2, h3⟩ := hE.el e he
  have hp : spE z e * kE c + (z.1 57 e).toNat < kP c := by
    have := Nat.mul_le_mul_right (kE c) (show spE z e + 1 ≤ kN c from h1)
    rw [Nat.add_mul] at this
    show _ < kN c * kE c
    omega
  have hX : 0 < kX c := by unfold kX; omega
  refine ⟨hp, ?_, fun o ho => ?_⟩
  · have := Nat.mul_le_mul_right (kX c) (show spE z e * kE c + (z.1 57 e).toNat + 1 ≤ kP c from hp)
    rw [Nat.add_mul] at this
    show (spE z e * kE c + (z.1 57 e).toNat) * kX c + kX c ≤ kP c * kX c
    omega
  · unfold bsE
    generalize spE z e * kE c + (z.1 57 e).toNat = P
    rw [Nat.mul_comm]
    constructor
    · rw [Nat.mul_add_div hX, Nat.div_eq_of_lt ho, Nat.add_zero]
    · rw [Nat.mul_add_mod, Nat.mod_eq_of_lt ho]
theorem bs_i (hk : kOk c) (hE : EJ c m nC nS nU nL z) (hP : PZ c nC nI nO z) {e e' o o' : Nat} (he : e < m) (he' : e' < m) (ho : o < kX c) (ho' : o' < kX c) (h : bsE c z e + o = bsE c z e' + o') : e = e' ∧ o = o' := by
  obtain ⟨-, -, a⟩ := bs_P hk hE hP he
  obtain ⟨-, -, b⟩ := bs_P hk hE hP he'
  obtain ⟨a1, a2⟩ := a o ho
  obtain ⟨b1, b2⟩ := b o' ho'
  rw [h] at a1 a2
  have hoo : o = o' := by omega
  have hpp : spE z e * kE c + (z.1 57 e).toNat = spE z e' * kE c + (z.1 57 e').toNat := by omega
  obtain ⟨x, x1, x2, x3, x4, x5⟩ := hE.sp hP he
  obtain ⟨y, y1, y2, y3, y4, y5⟩ := hE.sp hP he'
  obtain ⟨-, -, -, -, -, h2, h3⟩ := hE.el e he
  obtain ⟨-, -, -, -, -, h4, h5⟩ := hE.el e' he'
  have hsp : spE z e = spE z e' ∧ (z.1 57 e).toNat = (z.1 57 e').toNat := by
    by_cases q : spE z e = spE z e'
    · rw [q] at hpp; exact ⟨q, by omega⟩
    · exact absurd hpp (ix_ne q (by omega) (by omega))
  refine ⟨hE.inj e e' he he' ?_ (by omega), hoo⟩
  rw [hsp.1] at x5
  omega
theorem pb_i (hk : kOk c) {p p' o o' : Nat} (ho : o < 6 + kT c) (ho' : o' < 6 + kT c) (h : pbP c p + o = pbP c p' + o') : p = p' ∧ o = o' := by
  unfold pbP at h
  have h : p * (6 + kT c) + o = p' * (6 + kT c) + o' := by
    generalize p * (6 + kT c) = x at *
    generalize p' * (6 + kT c) = y at *
    omega
  by_cases q : p = p'
  · subst q; exact ⟨rfl, by omega⟩
  · exact absurd h (ix_ne q ho ho')
theorem pb_b {p : Nat} (hp : p < kD c) : pbP c p + (6 + kT c) ≤ kZ c := by
  have := Nat.mul_le_mul_right (6 + kT c) (show p + 1 ≤ kD c from hp)
  rw [Nat.add_mul] at this
  unfold pbP kZ
  generalize p * (6 + kT c) = x at *
  generalize kD c * (6 + kT c) = y at *
  omega
end
end
-- U3
section
variable {E : gEv} {c : gCf}
def pBu (k j : Nat) : Prop := k = 82
def onE (c : gCf) (z : gZ) (e i : Nat) : Prop := (∃ b, b < 16 ∧ i = bsE c z e + b ∧ zBit (z.1 127 e) b = true) ∨ (i = bsE c z e + 16 ∧ z.1 55 e ≠ -1) ∨ (i = bsE c z e + 17 ∧ z.1 55 e ≠ -1 ∧ z.1 32 (z.1 55 e).toNat = 1)
def kdP (c : gCf) (z : gZ) (p : Nat) : Int := if z.1 68 (kN c + p) = -1 then 0 else if z.1 68 (kN c + p) < kN c + kD c then 1 else 2
def onP (c : gCf) (z : gZ) (p i : Nat) : Prop := ∃ b, b < 2 ∧ i = pbP c p + b ∧ zBit (kdP c z p) b = true
noncomputable def nmS (c : gCf) (z : gZ) (k : Nat) : Int := ((1 + rv c (spK z k) (z.1 79 k).toNat : Nat) : Int)
def onS (c : gCf) (z : gZ) (k i : Nat) : Prop := (z.1 63 k < 4 * kP c ∧ ∃ b, b < 6 ∧ i = bsE c z ((z.1 63 k).toNat / 4) + (18 + (z.1 63 k).toNat % 4 * 6) + b ∧ zBit (nmS c z k) b = true) ∨ (¬ z.1 63 k < 4 * kP c ∧ ∃ b, b < 4 ∧ i = pbP c (spK z k - kN c) + 2 + b ∧ zBit (nmS c z k) b = true)
def elM (z : gZ) (n : Nat) : Nat := (if 400 ≤ z.1 129 n then z.1 129 n - 400 else z.1 128 (z.1 129 n - 200).toNat).toNat
noncomputable def drA (c : gCf) (z : gZ) (n w : Nat) : Nat := if spN z n < kN c then bsE c z (elM z n) + 42 + rv c (spN z n) w else pbP c (spN z n - kN c) + 6 + rv c (spN z n) w
section
variable {m nC nN nS nI nO nU nL : Nat} {z : gZ}
theorem zBit_1 (b : Nat) : zBit 1 b = true ↔ b = 0 := by rw [zB_1]; exact decide_eq_true_iff
theorem s_firstBit {t : gZ} (g : Gr c z) (hE : EJ c m nC nS nU nL z) (hP : PZ c nC nI nO z) (hm : m ≤ kP c) (o : zOff pBu z t) {e : Nat} (he : e < m) : q_Packing_firstBit E (kL c) (e : Int) (spE z e : Int) t = some (bsE c z e : Int) := by
  have hY := kY_b g.1
  have hX := kX_b g.1
  obtain ⟨-, b1, -⟩ := bs_P g.1 hE hP he
  obtain ⟨-, -, -, -, -, h2, h3⟩ := hE.el e he
  have o2 : t.1 1 2 = kE c := by rw [o.2 1 2 (by unfold pBu; omega)]; exact g.2.1.2.2.1
  have o9 : t.1 1 9 = kX c := by rw [o.2 1 9 (by unfold pBu; omega)]; exact g.2.1.2.2.2.2.2.2.2.2.2.1
  unfold q_Packing_firstBit
  have e57 : t.1 57 e = ((z.1 57 e).toNat : Int) := by rw [o.2 57 e (by unfold pBu; omega)]; omega
  have ev : ((spE z e : Int) * (kE c : Int) + ((z.1 57 e).toNat : Int)) * (kX c : Int) = (bsE c z e : Int) := by
    unfold bsE; simp only [Int.natCast_mul, Int.natCast_add]
  rw [kL_57, gtN, o2, o9, e57, ev, if_pos (by omega), if_pos (by omega)]
theorem s_wrE {t : gZ} (g : Gr c z) (hE : EJ c m nC nS nU nL z) (hP : PZ c nC nI nO z) (hm : m ≤ kP c) (o : zOff pBu z t) (h0 : Row c (t.1 82) (fun _ => False)) : zOk (gIter (fun y => q_Packing_write_2 E (kL c) y.1 y.2) gN (0, t)) (fun s => zOff pBu z s ∧ Row c (s.1 82) (fun i => ∃ e, e < m ∧ onE c z e i)) := by
  have hPb := kP_b g.1
  have hY := kY_b g.1
  have hX := kX_b g.1
  have hB := kYB c
  have hN := kN_b g.1
  have hD := kD_b g.1
  have lb := hE.lb
  refine it_for (fun (i : Nat) (t : gZ) => ((i : Int), t)) (fun k u => zOff pBu z u ∧ Row c (u.1 82) (fun i => ∃ e, e < k ∧ onE c z e i)) 0 m rfl ⟨o, Row_c h0 fun i _ => ⟨fun x => x.elim, fun ⟨e, h, _⟩ => by omega⟩⟩ (by omega) (by omega) ?_ ?_
  · rintro e u - he ⟨ou, hu⟩
    have gu : Gr c u := Gr_off ou (fun k j h => by unfold pS at h; unfold pBu; omega) g
    obtain ⟨x, x1, x2, x3, x4, x5⟩ := hE.sp hP he
    obtain ⟨-, b1, -⟩ := bs_P g.1 hE hP he
    have cb := hP.cb
    have fb := s_firstBit (E := E) g hE hP hm ou he
    have ltb := hE.lt e he
    have r55 : u.1 55 e = z.1 55 e := ou.2 55 e (by unfold pBu; omega)
    -- nothing is there yet
    have fresh : ∀ i, bsE c z e ≤ i → i < bsE c z e + 18 → ¬ ∃ e', e' < e ∧ onE c z e' i := by
      rintro i h1 h2 ⟨e', h3, h4⟩
      have h5 : ∃ o', o' < 18 ∧ i = bsE c z e' + o' := by
        rcases h4 with ⟨b, b1, b2, -⟩ | ⟨b2, -⟩ | ⟨b2, -⟩
        · exact ⟨b, by omega, b2⟩
        · exact ⟨16, by omega, b2⟩
        · exact ⟨17, by omega, b2⟩
      obtain ⟨o', o1, o2⟩ := h5
      have := (bs_i g.1 hE hP (e := e) (e' := e') (o := i - bsE c z e) (o' := o') he (by omega) (by omega) (by omega) (by omega)).1
      omega
    have main : ∀ v : Int, v = z.1 127 e → zOk (q_Packing_write_j58_2 E (kL c) (e : Int) (bsE c z e : Int) (bsE c z e : Int) 16 v u) (fun r => (∃ t', r = Sum.inl (((e + 1 : Nat) : Int), t') ∧ zOff pBu z t' ∧ Row c (t'.1 82) (fun i => ∃ e', e' < e + 1 ∧ onE c z e' i)) ∨ ∃ s, r = Sum.inr s ∧ zOff pBu z s ∧ Row c (s.1 82) (fun i => ∃ e, e < m ∧ onE c z e i)) := fun v hv => by
      unfold q_Packing_write_j58_2
      refine ok_b1 _ (s_put (a := bsE c z e) (w := 16) (v := v) gu (by omega) (by omega)) fun s4 ⟨p1, p2⟩ => ?_
      have o4 : zOff pBu z s4 := off_t ou (off_w p1 fun k j y => y.1)
      have R4 := Row_put (v := v) hu (fun i a b => fresh i a (by omega)) p2 fun i hi => p1.2 82 i (by omega)
      have g4 : Gr c s4 := Gr_off o4 (fun k j h => by unfold pS at h; unfold pBu; omega) g
      rw [kL_55]
      (refine ok_gd (by omega) ?_)
      rw [gtN, o4.2 55 e (by unfold pBu; omega)]
      refine ok_br (fun e5 => ?_) fun e5 => ?_
      · (refine ok_gd (by omega) ?_)
        rw [ok_l]
        refine ok_inl (Or.inl ⟨s4, rfl, o4, Row_c R4 fun i _ => ?_⟩)
        constructor
        · rintro (⟨e', a, b⟩ | ⟨b, a1, a2, a3⟩)
          · exact ⟨e', by omega, b⟩
          · exact ⟨e, by omega, Or.inl ⟨b, a1, a2, by rw [← hv]; exact a3⟩⟩
        · rintro ⟨e', a, b⟩
          by_cases y : e' = e
          · subst y
            rcases b with ⟨b, a1, a2, a3⟩ | ⟨-, a2⟩ | ⟨-, a2, -⟩
            · exact Or.inr ⟨b, a1, a2, by rw [hv]; exact a3⟩
            · exact absurd e5 a2
            · exact absurd e5 a2
          · exact Or.inl ⟨e', by omega, b⟩
      · (refine ok_gd (by omega) ?_)
        rw [show (bsE c z e : Int) + 16 = ((bsE c z e + 16 : Nat) : Int) by omega]
        refine ok_b1 _ (s_put (a := bsE c z e + 16) (w := 1) (v := 1) g4 (by omega) (by omega)) fun s7 ⟨p3, p4⟩ => ?_
        have o7 : zOff pBu z s7 := off_t o4 (off_w p3 fun k j y => y.1)
        have R7 := Row_put (v := 1) R4 (fun i a b => by
          rintro (h | ⟨b', b1, b2, -⟩)
          · exact fresh i (by omega) (by omega) h
          · omega) p4 fun i hi => p3.2 82 i (by omega)
        have g7 : Gr c s7 := Gr_off o7 (fun k j h => by unfold pS at h; unfold pBu; omega) g
        rw [o7.2 55 e (by unfold pBu; omega), kL_32]
        (refine ok_gd (by omega) ?_); (refine ok_gd (by omega) ?_)
        rw [o7.2 32 _ (by unfold pBu; omega), show (bsE c z e : Int) + 17 = ((bsE c z e + 17 : Nat) : Int) by omega]
        refine ok_b1 _ (s_put (a := bsE c z e + 17) (w := 1) (v := z.1 32 (z.1 55 e).toNat) g7 (by omega) (by omega)) fun s9 ⟨p5, p6⟩ => ?_
        have o9 : zOff pBu z s9 := off_t o7 (off_w p5 fun k j y => y.1)
        have R9 := Row_put (v := z.1 32 (z.1 55 e).toNat) R7 (fun i a b => by
          rintro ((h | ⟨b', b1, b2, -⟩) | ⟨b', b1, b2, -⟩)
          · exact fresh i (by omega) (by omega) h
          · omega
          · omega) p6 fun i hi => p5.2 82 i (by omega)
        (refine ok_gd (by omega) ?_)
        rw [ok_l]
        have lf := (hE.lf (z.1 55 e).toNat (by omega)).2
        refine ok_inl (Or.inl ⟨s9, rfl, o9, Row_c R9 fun i _ => ?_⟩)
        constructor
        · rintro (((⟨e', a, b⟩ | ⟨b, a1, a2, a3⟩) | ⟨b, a1, a2, a3⟩) | ⟨b, a1, a2, a3⟩)
          · exact ⟨e', by omega, b⟩
          · exact ⟨e, by omega, Or.inl ⟨b, a1, a2, by rw [← hv]; exact a3⟩⟩
          · exact ⟨e, by omega, Or.inr (Or.inl ⟨by omega, e5⟩)⟩
          · refine ⟨e, by omega, Or.inr (Or.inr ⟨by omega, e5, ?_⟩)⟩
            rcases lf with y | y
            · rw [y, zB_0] at a3; cases a3
            · exact y
        · rintro ⟨e', a, b⟩
          by_cases y : e' = e
          · subst y
            rcases b with ⟨b, a1, a2, a3⟩ | ⟨a1, a2⟩ | ⟨a1, a2, a3⟩
            · exact Or.inl (Or.inl (Or.inr ⟨b, a1, a2, by rw [hv]; exact a3⟩))
            · exact Or.inl (Or.inr ⟨0, by omega, by omega, by rw [zBit_1]⟩)
            · exact Or.inr ⟨0, by omega, by omega, by rw [a3, zBit_1]⟩
          · exact Or.inl (Or.inl (Or.inl ⟨e', by omega, b⟩))
    show zOk (q_Packing_write_2 E (kL c) (e : Int) u) _
    unfold q_Packing_write_2
    rw [ou.2 53 15 (by unfold pBu; omega), hE.e1, kL_56, kL_69, kL_36, gtN, ou.2 56 e (by unfold pBu; omega), x1, gtN, ou.2 69 x (by unfold pBu; omega), x3, ou.2 30 10 (by unfold pBu; omega), hE.u, ou.2 36 e (by unfold pBu; omega)]
    (refine ok_neg (by omega) ?_); (refine ok_gd (by omega) ?_); (refine ok_gd (by omega) ?_)
    refine ok_v1 fb ?_
    have tb := hE.tb e he
    refine ok_br (fun e1 => main _ (by rw [tb, if_neg (by omega)])) fun e1 => ?_
    have ub := hE.ub
    (refine ok_gd (by omega) ?_)
    exact main _ (by rw [tb, if_pos (by omega)])
  · rintro u ⟨ou, hu⟩
    show zOk (q_Packing_write_2 E (kL c) (m : Int) u) _
    unfold q_Packing_write_2
    rw [ou.2 53 15 (by unfold pBu; omega), hE.e1]
    (refine ok_pos (by omega) ?_)
    exact ok_inr ⟨u, rfl, ou, hu⟩
theorem s_padBt {t : gZ} (g : Gr c z) (o : zOff pBu z t) {p : Nat} (hp : p < kD c) : q_Grid_padBit E (kL c) (p : Int) t = some (pbP c p : Int) := by
  have hZ := kZ_b g.1
  have hb := pb_b hp
  have o10 : t.1 1 10 = kY c := by rw [o.2 1 10 (by unfold pBu; omega)]; exact g.2.1.2.2.2.2.2.2.2.2.2.2.1
  have o3 : t.1 1 3 = kT c := by rw [o.2 1 3 (by unfold pBu; omega)]; exact g.2.1.2.2.2.1
  unfold q_Grid_padBit
  have ev : (kY c : Int) + (p : Int) * (6 + (kT c : Int)) = (pbP c p : Int) := by
    unfold pbP; simp only [Int.natCast_mul, Int.natCast_add, Int.cast_ofNat_Int]
  rw [o10, o3, ev, if_pos (by omega)]
theorem on_lo (g : Gr c z) (hE : EJ c m nC nS nU nL z) (hP : PZ c nC nI nO z) {e i : Nat} (he : e < m) (h : onE c z e i) : ∃ o, o < 18 ∧ i = bsE c z e + o := by
  rcases h with ⟨b, b1, b2, -⟩ | ⟨b2, -⟩ | ⟨b2, -⟩
  · exact ⟨b, by omega, b2⟩
  · exact ⟨16, by omega, b2⟩
  · exact ⟨17, by omega, b2⟩
theorem s_wrP {t : gZ} (g : Gr c z) (hE : EJ c m nC nS nU nL z) (hP : PZ c nC nI nO z) (o : zOff pBu z t) (h0 : Row c (t.1 82) (fun i => ∃ e, e < m ∧ onE c z e i)) : zOk (gIter (fun y => q_Packing_write_114 E (kL c) y.1 y.2) gN (0, t)) (fun s => zOff pBu z s ∧ Row c (s.1 82) (fun i => (∃ e, e < m ∧ onE c z e i) ∨ ∃ p, p < kD c ∧ onP c z p i)) := by
  have hX := kX_b g.1
  have hB := kYB c
  have hN := kN_b g.1
  have hD := kD_b g.1
  have o4 : z.1 1 4 = kN c := g.2.1.2.2.2.2.1
  have o5 : z.1 1 5 = kD c := g.2.1.2.2.2.2.2.1
  refine it_for (fun (i : Nat) (t : gZ) => ((i : Int), t)) (fun k u => zOff pBu z u ∧ Row c (u.1 82) (fun i => (∃ e, e < m ∧ onE c z e i) ∨ ∃ p, p < k ∧ onP c z p i)) 0 (kD c) rfl ⟨o, Row_c h0 fun i _ => ⟨Or.inl, fun x => x.elim id fun ⟨e, h, _⟩ => by omega⟩⟩ (by omega) (by omega) ?_ ?_
  · rintro p u - hp ⟨ou, hu⟩
    have gu : Gr c u := Gr_off ou (fun k j h => by unfold pS at h; unfold pBu; omega) g
    have hb := pb_b hp
    have main : ∀ v : Int, v = kdP c z p → zOk (q_Packing_write_j172_114 E (kL c) (p : Int) v u) (fun r => (∃ t', r = Sum.inl (((p + 1 : Nat) : Int), t') ∧ zOff pBu z t' ∧ Row c (t'.1 82) (fun i => (∃ e, e < m ∧ onE c z e i) ∨ ∃ p', p' < p + 1 ∧ onP c z p' i)) ∨ ∃ s, r = Sum.inr s ∧ zOff pBu z s ∧ Row c (s.1 82) (fun i => (∃ e, e < m ∧ onE c z e i) ∨ ∃ p, p < kD c ∧ onP c z p i)) := fun v hv => by
      unfold q_Packing_write_j172_114
      refine ok_v1 (s_padBt g ou hp) ?_
      refine ok_b1 _ (s_put (a := pbP c p) (w := 2) (v := v) gu (by omega) (by omega)) fun s4 ⟨p1, p2⟩ => ?_
      have o4 : zOff pBu z s4 := off_t ou (off_w p1 fun k j y => y.1)
      have R4 := Row_put (v := v) hu (fun i a b => by
        rintro (⟨e, e1, e2⟩ | ⟨p', p1, b', b1, b2, -⟩)
        · obtain ⟨o', o1, o2⟩ := on_lo g hE hP e1 e2
          have := (bs_P g.1 hE hP e1).2.1
          have : kY c ≤ pbP c p := by unfold pbP; omega
          omega
        · have := (pb_i g.1 (p := p) (p' := p') (o := i - pbP c p) (o' := b') (by omega) (by omega) (by omega)).1
          omega) p2 fun i hi => p1.2 82 i (by omega)
      (refine ok_gd (by omega) ?_)
      rw [ok_l]
      refine ok_inl (Or.inl ⟨s4, rfl, o4, Row_c R4 fun i _ => ?_⟩)
      constructor
      · rintro ((x | ⟨p', a, b⟩) | ⟨b, a1, a2, a3⟩)
        · exact Or.inl x
        · exact Or.inr ⟨p', by omega, b⟩
        · exact Or.inr ⟨p, by omega, b, a1, a2, by rw [← hv]; exact a3⟩
      · rintro (x | ⟨p', a, b⟩)
        · exact Or.inl (Or.inl x)
        · by_cases y : p' = p
          · subst y
            obtain ⟨b, a1, a2, a3⟩ := b
            exact Or.inr ⟨b, a1, a2, by rw [hv]; exact a3⟩
          · exact Or.inl (Or.inr ⟨p', by omega, b⟩)
    show zOk (q_Packing_write_114 E (kL c) (p : Int) u) _
    unfold q_Packing_write_114
    rw [ou.2 1 5 (by unfold pBu; omega), ou.2 1 4 (by unfold pBu; omega), o4, o5, kL_68]
    (refine ok_neg (by omega) ?_); (refine ok_gd (by omega) ?_)
    rw [ok_l, show ((kN c : Int) + (p : Int)).toNat = kN c + p by omega, ou.2 68 _ (by unfold pBu; omega)]
    refine ok_br (fun e1 => ?_) fun e1 => ?_
    · rw [ok_l]
      refine ok_inl (Or.inl ⟨u, rfl, ou, Row_c hu fun i _ => ?_⟩)
      constructor
      · rintro (x | ⟨p', a, b⟩)
        · exact Or.inl x
        · exact Or.inr ⟨p', by omega, b⟩
      · rintro (x | ⟨p', a, b⟩)
        · exact Or.inl x
        · by_cases y : p' = p
          · subst y
            obtain ⟨b, a1, a2, a3⟩ := b
            have : kdP c z p' = 0 := by unfold kdP; rw [if_pos e1]
            rw [this, zB_0] at a3; cases a3
          · exact Or.inr ⟨p', by omega, b⟩
    · (refine ok_gd (by omega) ?_)
      refine ok_br (fun e2 => main 2 ?_) fun e2 => main 1 ?_
      · unfold kdP; rw [if_neg e1, if_neg (by omega)]
      · unfold kdP; rw [if_neg e1, if_pos (by omega)]
  · rintro u ⟨ou, hu⟩
    show zOk (q_Packing_write_114 E (kL c) (kD c : Int) u) _
    unfold q_Packing_write_114
    rw [ou.2 1 5 (by unfold pBu; omega), o5]
    (refine ok_pos (by omega) ?_)
    exact ok_inr ⟨u, rfl, ou, hu⟩
end
end
-- U4
section
variable {E : gEv} {c : gCf}
section
variable {m nC nN nS nI nO nU nL : Nat} {z : gZ}
/-- a sink's kind -/
theorem snkK (hN : NJ c m nC nN nS nI nO z) (hE : EJ c m nC nS nU nL z) (hP : PZ c nC nI nO z) {k : Nat} (hk : k < nS) : (∃ e p : Nat, e < m ∧ p < 4 ∧ z.1 131 k = ((4 * e + p : Nat) : Int) ∧ z.1 63 k = ((4 * e + p : Nat) : Int) ∧ spK z k = spE z e ∧ spK z k < kN c) ∨ ∃ o q : Nat, o < nO ∧ z.1 131 k = ((1000 + o : Nat) : Int) ∧ z.1 63 k = ((4 * kP c + o : Nat) : Int) ∧ q < kD c ∧ spK z k = kN c + q ∧ z.1 69 (kN c + kD c + o) = ((kN c + q : Nat) : Int) := by
  rcases hN.snk k hk with ⟨e, p, x, e1, e2, e3, e4, e5, e6, e7⟩ | ⟨o, o1, o2, o3, o4⟩
  · left
    obtain ⟨y, y1, y2, y3, y4, y5⟩ := hE.sp hP e1
    have h56 := (hE.el e e1).2.1
    have : y = x := by omega
    subst this
    have es : spK z k = spE z e := by unfold spK; rw [e7, gtN, y3, gtN]
    exact ⟨e, p, e1, e2, e3, e4, es, by rw [es]; exact y4⟩
  · right
    have ob := hP.ob
    have hu : uT c nC nI nO (kN c + kD c + o) := by unfold uT; omega
    obtain ⟨q, q1, q2, q3, q4⟩ := hP.sp _ hu
    have hq : ¬ q < kN c := fun h => by have := q4.1 h; omega
    have es : spK z k = q := by unfold spK; rw [o4, gtN, q1, gtN]
    exact ⟨o, q - kN c, o1, o2, o3, by omega, by rw [es]; omega, by rw [q1]; omega⟩
theorem on_sk (g : Gr c z) (hN : NJ c m nC nN nS nI nO z) (hE : EJ c m nC nS nU nL z) (hP : PZ c nC nI nO z) {k i : Nat} (hk : k < nS) (h : onS c z k i) : (∃ e p b, e < m ∧ p < 4 ∧ b < 6 ∧ z.1 131 k = ((4 * e + p : Nat) : Int) ∧ i = bsE c z e + (18 + p * 6) + b) ∨ ∃ q b o, q < kD c ∧ b < 4 ∧ o < nO ∧ z.1 131 k = ((1000 + o : Nat) : Int) ∧ z.1 69 (kN c + kD c + o) = ((kN c + q : Nat) : Int) ∧ i = pbP c q + 2 + b := by
  have mb := hN.mb
  rcases snkK hN hE hP hk with ⟨e, p, e1, e2, e3, e4, e5, e6⟩ | ⟨o, q, o1, o2, o3, o4, o5, o6⟩
  · left
    rcases h with ⟨-, b, b1, b2, -⟩ | ⟨h, -⟩
    · rw [e4, gtN, show (4 * e + p) / 4 = e by omega, show (4 * e + p) % 4 = p by omega] at b2
      exact ⟨e, p, b, e1, e2, b1, e3, b2⟩
    · omega
  · right
    rcases h with ⟨h, -⟩ | ⟨-, b, b1, b2, -⟩
    · omega
    · rw [o5, show kN c + q - kN c = q by omega] at b2
      exact ⟨q, b, o, o4, b1, o1, o2, o6, b2⟩
theorem s_wrS {t : gZ} (g : Gr c z) (hN : NJ c m nC nN nS nI nO z) (hE : EJ c m nC nS nU nL z) (hP : PZ c nC nI nO z) (hen : ∀ k, k < nS → ∃ e : Nat, z.1 79 k = e ∧ e < kW c ∧ kTc c (spK z k) e) (o : zOff pBu z t) (h0 : Row c (t.1 82) (fun i => (∃ e, e < m ∧ onE c z e i) ∨ ∃ p, p < kD c ∧ onP c z p i)) : zOk (gIter (fun y => q_Router_write_2 E (kL c) y.1 y.2) gN (0, t)) (fun s => zOff pBu z s ∧ Row c (s.1 82) (fun i => ((∃ e, e < m ∧ onE c z e i) ∨ ∃ p, p < kD c ∧ onP c z p i) ∨ ∃ k, k < nS ∧ onS c z k i)) := by
  have hX := kX_b g.1
  have hYb := kY_b g.1
  have hZb := kZ_b g.1
  have hB := kYB c
  have hNN := kN_b g.1
  have hD := kD_b g.1
  have hPb := kP_b g.1
  have hW := kW_b g.1
  have sb := hN.sb
  have mb := hN.mb
  have nb := hN.nb
  obtain ⟨-, -, -, ⟨t1, t2⟩⟩ := id g.1
  have o4 : z.1 1 4 = kN c := g.2.1.2.2.2.2.1
  have o6 : z.1 1 6 = kP c := g.2.1.2.2.2.2.2.2.1
  refine it_for (fun (i : Nat) (t : gZ) => ((i : Int), t)) (fun k u => zOff pBu z u ∧ Row c (u.1 82) (fun i => ((∃ e, e < m ∧ onE c z e i) ∨ ∃ p, p < kD c ∧ onP c z p i) ∨ ∃ k', k' < k ∧ onS c z k' i)) 0 nS rfl ⟨o, Row_c h0 fun i _ => ⟨Or.inl, fun x => x.elim id fun ⟨e, h, _⟩ => by omega⟩⟩ (by omega) (by omega) ?_ ?_
  · rintro k u - hk ⟨ou, hu⟩
    have gu : Gr c u := Gr_off ou (fun k j h => by unfold pS at h; unfold pBu; omega) g
    obtain ⟨y, y1, y2⟩ := hN.ku hk
    obtain ⟨y3, q0, q1, q2⟩ := hP.q y2
    have esk : spK z k = q0 := by unfold spK; rw [y1, gtN, q1, gtN]
    obtain ⟨w, w1, w2, w3⟩ := hen k hk
    have rvb := rv_b g.1 w3
    have enm : nmS c z k = ((1 + rv c (spK z k) w : Nat) : Int) := by unfold nmS; rw [w1, gtN]
    show zOk (q_Router_write_2 E (kL c) (k : Int) u) _
    unfold q_Router_write_2
    rw [ou.2 53 17 (by unfold pBu; omega), hN.n, kL_62]
    (refine ok_gd (by omega) ?_)
    rw [gtN, ou.2 62 nN (by unfold pBu; omega), hN.fN]
    (refine ok_neg (by omega) ?_)
    have fin : ∀ s : gZ, zOff pBu z s → Row c (s.1 82) (fun i => (((∃ e, e < m ∧ onE c z e i) ∨ ∃ p, p < kD c ∧ onP c z p i) ∨ ∃ k', k' < k ∧ onS c z k' i) ∨ onS c z k i) → zOk (gLet ((k : Int) + 1) fun x3 => some (.inl (x3, s)) : Option ((Int × gZ) ⊕ gZ)) (fun r => (∃ t', r = Sum.inl (((k + 1 : Nat) : Int), t') ∧ zOff pBu z t' ∧ Row c (t'.1 82) (fun i => ((∃ e, e < m ∧ onE c z e i) ∨ ∃ p, p < kD c ∧ onP c z p i) ∨ ∃ k', k' < k + 1 ∧ onS c z k' i)) ∨ ∃ s, r = Sum.inr s ∧ zOff pBu z s ∧ Row c (s.1 82) (fun i => ((∃ e, e < m ∧ onE c z e i) ∨ ∃ p, p < kD c ∧ onP c z p i) ∨ ∃ k', k' < nS ∧ onS c z k' i)) := fun s s1 s2 => by
      rw [ok_l]
      refine ok_inl (Or.inl ⟨s, rfl, s1, Row_c s2 fun i _ => ?_⟩)
      constructor
      · rintro ((x | ⟨k', a, b⟩) | x)
        · exact Or.inl x
        · exact Or.inr ⟨k', by omega, b⟩
        · exact Or.inr ⟨k, by omega, x⟩
      · rintro (x | ⟨k', a, b⟩)
        · exact Or.inl (Or.inl x)
        · by_cases y : k' = k
          · subst y; exact Or.inr b
          · exact Or.inl (Or.inr ⟨k', by omega, b⟩)
    refine ok_b1 (fun s => zOff pBu z s ∧ Row c (s.1 82) (fun i => (((∃ e, e < m ∧ onE c z e i) ∨ ∃ p, p < kD c ∧ onP c z p i) ∨ ∃ k', k' < k ∧ onS c z k' i) ∨ onS c z k i)) ?_ fun s ⟨s1, s2⟩ => fin s s1 s2
    unfold q_Router_writeEnd
    rw [kL_64, kL_69, kL_79, kL_63, gtN, ou.2 64 k (by unfold pBu; omega), y1, gtN, ou.2 69 y (by unfold pBu; omega), q1, ou.2 79 k (by unfold pBu; omega), w1, ou.2 1 4 (by unfold pBu; omega), o4, ou.2 63 k (by unfold pBu; omega)]
    (refine ok_gd (by omega) ?_); (refine ok_gd (by omega) ?_)
    rw [ok_l]
    (refine ok_gd (by omega) ?_)
    rw [esk] at w3 rvb enm
    refine ok_v1 (s_reachV gu q2 w2 w3) ?_
    (refine ok_gd (by omega) ?_)
    rw [ok_l, show (1 : Int) + (rv c q0 w : Int) = ((1 + rv c q0 w : Nat) : Int) by omega]
    have ip : q_Packing_isPin E (kL c) (k : Int) u = some (if (kP c : Int) * 4 ≤ z.1 63 k then 0 else 1) := by
      unfold q_Packing_isPin
      rw [kL_63, if_pos (by omega), ou.2 1 6 (by unfold pBu; omega), o6, if_pos (by omega), gtN, ou.2 63 k (by unfold pBu; omega)]
      split <;> rfl
    refine ok_v1 ip ?_
    rcases snkK hN hE hP hk with ⟨e, p, e1, e2, e3, e4, e5, e6⟩ | ⟨oo, q, oo1, oo2, oo3, oo4, oo5, oo6⟩
    · obtain ⟨-, b1, -⟩ := bs_P g.1 hE hP e1
      rw [e4, if_neg (show ¬ (kP c : Int) * 4 ≤ ((4 * e + p : Nat) : Int) by omega)]
      refine ok_neg (by decide) ?_
      (refine ok_gd (by omega) ?_)
      have dv : zDiv ((4 * e + p : Nat) : Int) 4 = ((e : Nat) : Int) := by
        have := zDiv_n (4 * e + p) 4 (by omega) (by omega)
        rw [show (4 * e + p) / 4 = e by omega] at this
        exact this
      have rm : zRem ((4 * e + p : Nat) : Int) 4 = ((p : Nat) : Int) := by
        have := zRem_n (4 * e + p) 4 (by omega) (by omega)
        rw [show (4 * e + p) % 4 = p by omega] at this
        exact this
      rw [dv, rm]
      have fb := s_firstBit (E := E) g hE hP mb ou e1
      rw [← e5, esk] at fb
      refine ok_v1 fb ?_
      (refine ok_gd (by omega) ?_)
      rw [ok_l]
      (refine ok_gd (by omega) ?_)
      rw [show (bsE c z e : Int) + 18 + (p : Int) * 6 = ((bsE c z e + (18 + p * 6) : Nat) : Int) by omega]
      refine ok_b1 _ (s_put (a := bsE c z e + (18 + p * 6)) (w := 6) (v := ((1 + rv c q0 w : Nat) : Int)) gu (by omega) (by omega)) fun s4 ⟨p1, p2⟩ => ?_
      refine ok_so ⟨off_t ou (off_w p1 fun k j y => y.1), ?_⟩
      have R4 := Row_put (v := ((1 + rv c q0 w : Nat) : Int)) hu (fun i a b => by
        rintro ((⟨e', x1, x2⟩ | ⟨p', x1, b', b1', b2', -⟩) | ⟨k', x1, x2⟩)
        · obtain ⟨o', o1, o2⟩ := on_lo g hE hP x1 x2
          have := (bs_i g.1 hE hP (e := e) (e' := e') (o := i - bsE c z e) (o' := o') e1 x1 (by omega) (by omega) (by omega))
          omega
        · have : kY c ≤ pbP c p' := by unfold pbP; omega
          omega
        · rcases on_sk g hN hE hP (by omega) x2 with ⟨e', p', b', c1, c2, c3, c4, c5⟩ | ⟨q', b', o', c1, c2, c3, c4, c5, c6⟩
          · have := (bs_i g.1 hE hP (e := e) (e' := e') (o := i - bsE c z e) (o' := 18 + p' * 6 + b') e1 c1 (by omega) (by omega) (by omega))
            have hee : e = e' := this.1
            have hpp : p = p' := by omega
            subst hee; subst hpp
            have := hE.su k k' hk (by omega) (by rw [e3, c4])
            omega
          · have : kY c ≤ pbP c q' := by unfold pbP; omega
            omega) p2 fun i hi => p1.2 82 i (by omega)
      refine Row_c R4 fun i _ => or_congr Iff.rfl ?_
      unfold onS
      rw [e4, gtN, show (4 * e + p) / 4 = e by omega, show (4 * e + p) % 4 = p by omega, enm]
      constructor
      · rintro ⟨b, a1, a2, a3⟩; exact Or.inl ⟨by omega, b, a1, by omega, a3⟩
      · rintro (⟨-, b, a1, a2, a3⟩ | ⟨h, -⟩)
        · exact ⟨b, a1, by omega, a3⟩
        · omega
    · have hb := pb_b oo4
      have hq0 : q0 = kN c + q := by omega
      rw [oo3, if_pos (show (kP c : Int) * 4 ≤ ((4 * kP c + oo : Nat) : Int) by omega)]
      refine ok_pos rfl ?_
      (refine ok_gd (by omega) ?_)
      rw [hq0, show ((kN c + q : Nat) : Int) - (kN c : Int) = (q : Int) by omega]
      refine ok_v1 (s_padBt g ou oo4) ?_
      (refine ok_gd (by omega) ?_)
      rw [show (pbP c q : Int) + 2 = ((pbP c q + 2 : Nat) : Int) by omega, ← hq0]
      refine ok_b1 _ (s_put (a := pbP c q + 2) (w := 4) (v := ((1 + rv c q0 w : Nat) : Int)) gu (by omega) (by omega)) fun s4 ⟨p1, p2⟩ => ?_
      refine ok_so ⟨off_t ou (off_w p1 fun k j y => y.1), ?_⟩
      have hY0 : kY c ≤ pbP c q := by unfold pbP; omega
      have R4 := Row_put (v := ((1 + rv c q0 w : Nat) : Int)) hu (fun i a b => by
        rintro ((⟨e', x1, x2⟩ | ⟨p', x1, b', b1', b2', -⟩) | ⟨k', x1, x2⟩)
        · obtain ⟨o', o1, o2⟩ := on_lo g hE hP x1 x2
          have := (bs_P g.1 hE hP x1).2.1
          omega
        · have := pb_i g.1 (p := q) (p' := p') (o := i - pbP c q) (o' := b') (by omega) (by omega) (by omega)
          omega
        · rcases on_sk g hN hE hP (by omega) x2 with ⟨e', p', b', c1, c2, c3, c4, c5⟩ | ⟨q', b', o', c1, c2, c3, c4, c5, c6⟩
          · have := (bs_P g.1 hE hP c1).2.1
            omega
          · have := (pb_i g.1 (p := q) (p' := q') (o := i - pbP c q) (o' := 2 + b') (by omega) (by omega) (by omega)).1
            subst this
            -- one thing lies at a pad
            have ob := hP.ob
            obtain ⟨r1, d1, d2, d3, d4⟩ := hP.sp (kN c + kD c + oo) (by unfold uT; omega)
            obtain ⟨r2, f1, f2, f3, f4⟩ := hP.sp (kN c + kD c + o') (by unfold uT; omega)
            have : r1 = r2 := by omega
            subst this
            have hoo : oo = o' := by omega
            subst hoo
            have := hE.su k k' hk (by omega) (by rw [oo2, c4])
            omega) p2 fun i hi => p1.2 82 i (by omega)
      refine Row_c R4 fun i _ => or_congr Iff.rfl ?_
      unfold onS
      rw [oo3, esk, hq0, show kN c + q - kN c = q by omega]
      rw [enm, hq0]
      constructor
      · rintro ⟨b, a1, a2, a3⟩; exact Or.inr ⟨by omega, b, a1, a2, a3⟩
      · rintro (⟨h, -⟩ | ⟨-, b, a1, a2, a3⟩)
        · omega
        · exact ⟨b, a1, a2, a3⟩
  · rintro u ⟨ou, hu⟩
    show zOk (q_Router_write_2 E (kL c) (nS : Int) u) _
    unfold q_Router_write_2
    rw [ou.2 53 17 (by unfold pBu; omega), hN.n, kL_62]
    (refine ok_gd (by omega) ?_)
    rw [gtN, ou.2 62 nN (by unfold pBu; omega), hN.fN]
    (refine ok_pos (by omega) ?_)
    exact ok_inr ⟨u, rfl, ou, hu⟩
end
end
-- U5
section
variable {E : gEv} {c : gCf}
section
variable {m nC nN nS nI nO nU nL : Nat} {z : gZ}
/-- a net's source -/
theorem srcK (hN : NJ c m nC nN nS nI nO z) (hE : EJ c m nC nS nU nL z) (hP : PZ c nC nI nO z) {n : Nat} (hn : n < nN) : z.1 60 n = z.1 129 n ∧ ((∃ i q : Nat, i < nI ∧ z.1 129 n = i ∧ q < kD c ∧ spN z n = kN c + q ∧ z.1 69 (kN c + i) = ((kN c + q : Nat) : Int)) ∨ ∃ e, e < m ∧ elM z n = e ∧ spN z n = spE z e ∧ spN z n < kN c ∧ 200 ≤ z.1 129 n ∧ ((400 ≤ z.1 129 n ∧ z.1 129 n - 400 = (e : Nat)) ∨ (z.1 129 n < 400 ∧ z.1 128 (z.1 129 n - 200).toNat = (e : Nat) ∧ z.1 54 (z.1 129 n - 200).toNat = (e : Nat) ∧ z.1 129 n < 350))) := by
  obtain ⟨h0, h⟩ := hN.src n hn
  refine ⟨h0, ?_⟩
  rcases h with ⟨i, i1, i2, i3⟩ | ⟨e, x, e1, e2, e3, e4, e5⟩
  · left
    have ib := hP.ib
    have hu : uT c nC nI nO (kN c + i) := by unfold uT; omega
    obtain ⟨q, q1, q2, q3, q4⟩ := hP.sp _ hu
    have hq : ¬ q < kN c := fun h => by have := q4.1 h; omega
    have es : spN z n = q := by unfold spN; rw [i3, gtN, q1, gtN]
    exact ⟨i, q - kN c, i1, i2, by omega, by rw [es]; omega, by rw [q1]; omega⟩
  · right
    obtain ⟨y, y1, y2, y3, y4, y5⟩ := hE.sp hP e1
    have h56 := (hE.el e e1).2.1
    have : y = x := by omega
    subst this
    have es : spN z n = spE z e := by unfold spN; rw [e5, gtN, y3, gtN]
    refine ⟨e, e1, ?_, es, by rw [es]; exact y4, by omega, ?_⟩
    · unfold elM
      rcases e2 with ⟨a, b⟩ | ⟨a, b, d⟩
      · rw [if_pos a, b, gtN]
      · rw [if_neg (by omega), d, gtN]
    · rcases e2 with ⟨a, b⟩ | ⟨a, b, d⟩
      · exact Or.inl ⟨a, b⟩
      · have l1 := hE.ls n (by rw [hN.n]; omega) a b
        have l2 := hE.le (z.1 129 n - 200).toNat (by omega)
        exact Or.inr ⟨by omega, d, by rw [l2]; exact d, b⟩
theorem drA_b (g : Gr c z) (hN : NJ c m nC nN nS nI nO z) (hE : EJ c m nC nS nU nL z) (hP : PZ c nC nI nO z) {n w : Nat} (hn : n < nN) (ht : kTc c (spN z n) w) : drA c z n w < kZ c := by
  have hB := kYB c
  have rvb := rv_b g.1 ht
  rcases (srcK hN hE hP hn).2 with ⟨i, q, -, -, q1, q2, -⟩ | ⟨e, e1, e2, e3, e4, -⟩
  · unfold drA
    rw [if_neg (by omega), show spN z n - kN c = q by omega]
    have := pb_b q1
    obtain ⟨a, -, -, h3, h4, h5, -⟩ := rv_p (by omega) ht
    omega
  · unfold drA
    rw [if_pos e4, e2]
    have := (bs_P g.1 hE hP e1).2.1
    unfold kX at this
    omega
/-- wires of nets: what turns them on -/
def onW (c : gCf) (z : gZ) (nN : Nat) (A : Nat → Nat → Bool) (L : Nat → Nat → Int) (i : Nat) : Prop := ∃ n w, n < nN ∧ w < kW c ∧ A n w = true ∧ ((L n w = -1 ∧ i = drA c z n w) ∨ (0 ≤ L n w ∧ i = kZ c + (L n w).toNat))
theorem s_wrW {t : gZ} {b : RSt} (g : Gr c z) (hN : NJ c m nC nN nS nI nO z) (hE : EJ c m nC nS nU nL z) (hP : PZ c nC nI nO z) (hk : ∀ w, w < kW c → z.1 78 w = kpR b.A nN w) (hl : z.1 77 = b.l) (hone : aOne c nN b.A) (hlk : ∀ n w, n < nN → w < kW c → b.A n w = true → b.l w = b.L n w) (hlv : ∀ n w, n < nN → b.A n w = true → b.L n w = -1 ∨ (0 ≤ b.L n w ∧ b.L n w < kJ c)) (htd : ∀ n w, n < nN → b.A n w = true → b.L n w = -1 → kTc c (spN z n) w) {P : Nat → Prop} (o : zOff pBu z t) (h0 : Row c (t.1 82) P) : zOk (gIter (fun y => q_Router_write_35 E (kL c) y.1 y.2) gN (0, t)) (fun s => zOff pBu z s ∧ Row c (s.1 82) (fun i => P i ∨ onW c z nN b.A b.L i)) := by
  have hX := kX_b g.1
  have hZb := kZ_b g.1
  have hBb := kB_b g.1
  have hB := kYB c
  have hNN := kN_b g.1
  have hD := kD_b g.1
  have hPb := kP_b g.1
  have hW := kW_b g.1
  have mb := hN.mb
  have nb := hN.nb
  have o7 : z.1 1 7 = kW c := g.2.1.2.2.2.2.2.2.2.1
  have o11 : z.1 1 11 = kZ c := g.2.1.2.2.2.2.2.2.2.2.2.2.2
  have o4 : z.1 1 4 = kN c := g.2.1.2.2.2.2.1
  have kBv : kB c = kZ c + kJ c := rfl
  let Q : Nat → Nat → Prop := fun k i => ∃ n w, n < nN ∧ w < k ∧ b.A n w = true ∧ ((b.L n w = -1 ∧ i = drA c z n w) ∨ (0 ≤ b.L n w ∧ i = kZ c + (b.L n w).toNat))
  refine it_for (fun (i : Nat) (t : gZ) => ((i : Int), t)) (fun k u => zOff pBu z u ∧ Row c (u.1 82) (fun i => P i ∨ Q k i)) 0 (kW c) rfl ⟨o, Row_c h0 fun i _ => ⟨Or.inl, fun x => x.elim id fun ⟨n, w, _, h, _⟩ => by omega⟩⟩ (by omega) (by omega) ?_ ?_
  · rintro w u - hw ⟨ou, hu⟩
    have gu : Gr c u := Gr_off ou (fun k j h => by unfold pS at h; unfold pBu; omega) g
    show zOk (q_Router_write_35 E (kL c) (w : Int) u) _
    unfold q_Router_write_35
    rw [ou.2 1 7 (by unfold pBu; omega), o7, kL_78, kL_77, gtN, ou.2 78 w (by unfold pBu; omega), hk w hw, ou.2 77 w (by unfold pBu; omega), hl, ou.2 1 11 (by unfold pBu; omega), o11]
    (refine ok_neg (by omega) ?_); (refine ok_gd (by omega) ?_)
    by_cases ex : ∃ n, n < nN ∧ b.A n w = true
    · obtain ⟨n, n1, n2⟩ := ex
      have ek : kpR b.A nN w = n := kpR_s n2 nN n1 fun m' h1 h2 => one_u hone hw h1 n1 h2 n2
      have el := hlk n w n1 hw n2
      rw [ek, el]
      (refine ok_neg (by omega) ?_); (refine ok_gd (by omega) ?_)
      have main : ∀ a : Nat, a + 1 ≤ kB c → ((b.L n w = -1 ∧ a = drA c z n w) ∨ (0 ≤ b.L n w ∧ a = kZ c + (b.L n w).toNat)) → zOk (q_Router_write_j88_35 E (kL c) (w : Int) (a : Int) u) (fun r => (∃ t', r = Sum.inl (((w + 1 : Nat) : Int), t') ∧ zOff pBu z t' ∧ Row c (t'.1 82) (fun i => P i ∨ Q (w + 1) i)) ∨ ∃ s, r = Sum.inr s ∧ zOff pBu z s ∧ Row c (s.1 82) (fun i => P i ∨ onW c z nN b.A b.L i)) := fun a ha hh => by
        unfold q_Router_write_j88_35
        refine ok_b1 _ (s_put (a := a) (w := 1) (v := 1) gu (by omega) ha) fun s4 ⟨p1, p2⟩ => ?_
        (refine ok_gd (by omega) ?_)
        rw [ok_l]
        have R4 := Row_one hu (r' := s4.1 82) (a := a) (by have := p2 0 (by omega); rw [Nat.add_zero] at this; rw [this]; rfl) fun i hi => p1.2 82 i (by omega)
        refine ok_inl (Or.inl ⟨s4, rfl, off_t ou (off_w p1 fun k j y => y.1), Row_c R4 fun i _ => ?_⟩)
        constructor
        · rintro ((x | ⟨n', w', a1, a2, a3⟩) | x)
          · exact Or.inl x
          · exact Or.inr ⟨n', w', a1, by omega, a3⟩
          · exact Or.inr ⟨n, w, n1, by omega, n2, by rw [x]; exact hh⟩
        · rintro (x | ⟨n', w', a1, a2, a3, a4⟩)
          · exact Or.inl (Or.inl x)
          · by_cases y : w' = w
            · subst y
              have hnn := one_u hone hw a1 n1 a3 n2
              subst hnn
              right
              rcases a4 with ⟨a5, a6⟩ | ⟨a5, a6⟩ <;> rcases hh with ⟨b5, b6⟩ | ⟨b5, b6⟩
              · rw [a6, b6]
              · omega
              · omega
              · rw [a6, b6]
            · exact Or.inl (Or.inr ⟨n', w', a1, by omega, a3, a4⟩)
      refine ok_br (fun e1 => ?_) fun e1 => ?_
      · have ht := htd n w n1 n2 e1
        have hdb := drA_b g hN hE hP n1 ht
        obtain ⟨x, x1, x2⟩ := hN.su n1
        obtain ⟨x3, q, q1, q2⟩ := hP.q x2
        have esp : spN z n = q := by unfold spN; rw [x1, gtN, q1, gtN]
        have drv : q_Router_drivenBit E (kL c) (w : Int) u = some (drA c z n w : Int) := by
          unfold q_Router_drivenBit
          have rvv := s_reachV (E := E) gu (sp := spN z n) (w := w) (by rw [esp]; exact q2) hw ht
          rw [kL_78, if_pos (by omega), let_s, gtN, ou.2 78 w (by unfold pBu; omega), hk w hw, ek, kL_61, if_pos (by omega), gtN, ou.2 61 n (by unfold pBu; omega), x1, kL_69, if_pos (by omega), let_s, gtN, ou.2 69 x (by unfold pBu; omega), q1, ← esp, rvv, b1_s, ou.2 1 4 (by unfold pBu; omega), o4, kL_60, ou.2 60 n (by unfold pBu; omega)]
          have rvb := rv_b g.1 ht
          obtain ⟨-, -, -, ⟨t1, t2⟩⟩ := id g.1
          obtain ⟨h60, hsrc⟩ := srcK hN hE hP n1
          rcases hsrc with ⟨i, p, i1, i2, p1, p2, -⟩ | ⟨e, e1, e2, e3, e4, e5, e6⟩
          · rw [if_neg (by omega), if_pos (by omega), show (spN z n : Int) - (kN c : Int) = (p : Int) by omega, s_padBt g ou p1, b1_s]
            have hpb := pb_b p1
            rw [if_pos (by omega)]
            unfold drA
            rw [if_neg (by omega), show spN z n - kN c = p by omega]; rfl
          · have em : q_Packing_elementMaking E (kL c) (z.1 60 n) u = some (e : Int) := by
              unfold q_Packing_elementMaking
              rw [h60, kL_54]
              rcases e6 with ⟨a1, a2⟩ | ⟨a1, a2, a3, a4⟩
              · rw [if_pos a1, if_pos (by omega), a2]
              · rw [if_neg (by omega), if_pos (by omega), ou.2 54 _ (by unfold pBu; omega), a3]
            have fb := s_firstBit (E := E) g hE hP mb ou e1
            have hb1 := (bs_P g.1 hE hP e1).2.1
            have hYb := kY_b g.1
            rw [if_pos (by omega), if_pos (by omega), em, b1_s, e3, fb, b1_s]
            rw [e3] at rvb
            rw [if_pos (by omega)]
            unfold drA
            rw [e3, if_pos (by rw [← e3]; exact e4), e2]; rfl
        refine ok_v1 drv ?_
        exact main _ (by omega) (Or.inl ⟨e1, rfl⟩)
      · have hv := hlv n w n1 n2
        have hv2 : 0 ≤ b.L n w ∧ b.L n w < kJ c := by
          rcases hv with x | x
          · exact absurd x e1
          · exact x
        (refine ok_gd (by omega) ?_)
        rw [show (kZ c : Int) + b.L n w = ((kZ c + (b.L n w).toNat : Nat) : Int) by omega]
        exact main _ (by omega) (Or.inr ⟨hv2.1, rfl⟩)
    · have ek : kpR b.A nN w = -1 := kpR_n nN fun m' h1 => by
        cases g : b.A m' w
        · rfl
        · exact absurd ⟨m', h1, g⟩ ex
      refine ok_pos ek ?_
      rw [ok_l]
      refine ok_inl (Or.inl ⟨u, rfl, ou, Row_c hu fun i _ => ?_⟩)
      constructor
      · rintro (x | ⟨n', w', a1, a2, a3⟩)
        · exact Or.inl x
        · exact Or.inr ⟨n', w', a1, by omega, a3⟩
      · rintro (x | ⟨n', w', a1, a2, a3, a4⟩)
        · exact Or.inl x
        · refine Or.inr ⟨n', w', a1, ?_, a3, a4⟩
          by_cases y : w' = w
          · subst y; exact absurd ⟨n', a1, a3⟩ ex
          · omega
  · rintro u ⟨ou, hu⟩
    show zOk (q_Router_write_35 E (kL c) (kW c : Int) u) _
    unfold q_Router_write_35
    rw [ou.2 1 7 (by unfold pBu; omega), o7]
    (refine ok_pos (by omega) ?_)
    exact ok_inr ⟨u, rfl, ou, hu⟩
/-- all bits that the class writes -/
def onC (c : gCf) (z : gZ) (m nN nS : Nat) (b : RSt) (i : Nat) : Prop := (((∃ e, e < m ∧ onE c z e i) ∨ ∃ p, p < kD c ∧ onP c z p i) ∨ ∃ k, k < nS ∧ onS c z k i) ∨ onW c z nN b.A b.L i
end
end
