set_option linter.unusedVariables false
-- Y4
section
variable {E : gEv} {c : gCf}
theorem s_touchT {z : gZ} {k0 q : Nat} (g : Gr c z) (h0 : k0 = 150 ∨ k0 = 151) (hq : q < kN c) : zOk (q_Model_touchTile E (kL c) k0 (q : Int) z) (fun s => zOff (fun k j => k = k0) z s ∧ ∀ w, (kTc c q w → s.1 k0 w = 1) ∧ (¬ kTc c q w → s.1 k0 w = z.1 k0 w)) := by
  have hW := kW_b g.1
  have hN := kN_b g.1
  obtain ⟨-, -, -, ⟨t1, t2⟩⟩ := id g.1
  have hL : kL c k0 = 840 := by rcases h0 with h | h <;> subst h; exact kL_150 c; exact kL_151 c
  have m3 : z.1 94 3 = kT c := g.2.2.1.2.2.2.1
  have tt : ∀ s, tF c q s = kTw c q s := fun s => by unfold tF; rw [if_pos hq]
  have gz : ∀ {t}, zOff (fun k j => k = k0) z t → Gr c t ∧ t.1 94 3 = kT c := fun {t} o => ⟨Gr_off o (fun k j h => by unfold pS at h; omega) g, by rw [o.2 94 3 (by omega)]; exact m3⟩
  have one : zBool 1 = 1 := zBool_n 1 (Or.inr rfl)
  unfold q_Model_touchTile
  refine ok_b1 (fun s => zOff (fun k j => k = k0) z s ∧ ∀ w, (kTc c q w → s.1 k0 w = 1) ∧ (¬ kTc c q w → s.1 k0 w = z.1 k0 w)) ?_ fun s hs => ok_so hs
  refine it_for (fun (i : Nat) (t : gZ) => ((i : Int), t)) (fun i t => zOff (fun k j => k = k0) z t ∧ ∀ w, ((∃ s, s < i ∧ kTw c q s ≤ w ∧ w < kTw c q s + kT c) → t.1 k0 w = 1) ∧ ((¬ ∃ s, s < i ∧ kTw c q s ≤ w ∧ w < kTw c q s + kT c) → t.1 k0 w = z.1 k0 w)) 0 4 rfl ⟨off_r, fun w => ⟨fun ⟨s, h, _⟩ => by omega, fun _ => rfl⟩⟩ (by omega) (by omega) ?_ ?_
  · rintro s t - h4 ⟨o, ht⟩
    show zOk (q_Model_touchTile_2 E (kL c) k0 (q : Int) (s : Int) t) _
    unfold q_Model_touchTile_2
    (refine ok_neg (by omega) ?_)
    refine ok_b1 (fun u => zOff (fun k j => k = k0) z u ∧ ∀ w, ((kTw c q s ≤ w ∧ w < kTw c q s + kT c) → u.1 k0 w = 1) ∧ (¬ (kTw c q s ≤ w ∧ w < kTw c q s + kT c) → u.1 k0 w = t.1 k0 w)) ?_ fun u ⟨u1, u2⟩ => ?_
    · refine it_for (fun (i : Nat) (t : gZ) => ((i : Int), t)) (fun i u => zOff (fun k j => k = k0) z u ∧ ∀ w, ((kTw c q s ≤ w ∧ w < kTw c q s + i) → u.1 k0 w = 1) ∧ (¬ (kTw c q s ≤ w ∧ w < kTw c q s + i) → u.1 k0 w = t.1 k0 w)) 0 (kT c) rfl ⟨o, fun w => ⟨fun h => by omega, fun _ => rfl⟩⟩ (by omega) (by omega) ?_ ?_
      · rintro i u - hi ⟨ou, hu⟩
        obtain ⟨gu, mu⟩ := gz ou
        have hlt := kTw_lt (s := s) g.1 hq hi
        show zOk (q_Model_touchTile_10 E (kL c) k0 (q : Int) (s : Int) (i : Int) u) _
        unfold q_Model_touchTile_10
        rw [mu, s_tileWire gu hq h4 hi, b1_s, hL, one]
        (refine ok_neg (by omega) ?_); (refine ok_gd (by omega) ?_)
        rw [ok_l, ok_l, gtN]
        refine ok_inl (Or.inl ⟨_, rfl, off_t ou (off_put rfl), fun w => ?_⟩)
        rw [zp1, if_pos rfl]
        by_cases e : w = kTw c q s + i
        · rw [if_pos e]; exact ⟨fun _ => rfl, fun h => by omega⟩
        · rw [if_neg e]; exact ⟨fun h => (hu w).1 (by omega), fun h => (hu w).2 (by omega)⟩
      · rintro u ⟨ou, hu⟩
        obtain ⟨gu, mu⟩ := gz ou
        show zOk (q_Model_touchTile_10 E (kL c) k0 (q : Int) (s : Int) (kT c : Int) u) _
        unfold q_Model_touchTile_10
        rw [mu]
        (refine ok_pos (by omega) ?_)
        exact ok_inr ⟨u, rfl, ou, hu⟩
    · rw [ok_l]
      refine ok_inl (Or.inl ⟨u, rfl, u1, fun w => ⟨fun ⟨s', a, b⟩ => ?_, fun h => ?_⟩⟩)
      · by_cases e : kTw c q s ≤ w ∧ w < kTw c q s + kT c
        · exact (u2 w).1 e
        · rw [(u2 w).2 e]
          refine (ht w).1 ⟨s', ?_, b⟩
          by_cases e2 : s' = s
          · subst e2; exact absurd b e
          · omega
      · rw [(u2 w).2 fun e => h ⟨s, by omega, e⟩]
        exact (ht w).2 fun ⟨s', a, b⟩ => h ⟨s', by omega, b⟩
  · rintro t ⟨o, ht⟩
    show zOk (q_Model_touchTile_2 E (kL c) k0 (q : Int) 4 t) _
    unfold q_Model_touchTile_2
    (refine ok_pos (by omega) ?_)
    have eqv : ∀ w, kTc c q w ↔ ∃ s, s < 4 ∧ kTw c q s ≤ w ∧ w < kTw c q s + kT c := fun w => by
      unfold kTc
      constructor
      · rintro ⟨s, a, b⟩; rw [tt] at b; exact ⟨s, a, by omega⟩
      · rintro ⟨s, a, b⟩; refine ⟨s, a, ?_⟩; rw [tt]; omega
    exact ok_inr ⟨t, rfl, o, fun w => ⟨fun h => (ht w).1 ((eqv w).1 h), fun h => (ht w).2 fun x => h ((eqv w).2 x)⟩⟩
theorem s_touchP {z : gZ} {k0 q : Nat} (g : Gr c z) (h0 : k0 = 150 ∨ k0 = 151) (hq : kN c ≤ q ∧ q < kN c + kD c) : zOk (q_Model_touchPad E (kL c) k0 ((q - kN c : Nat) : Int) z) (fun s => zOff (fun k j => k = k0) z s ∧ ∀ w, (kTc c q w → s.1 k0 w = 1) ∧ (¬ kTc c q w → s.1 k0 w = z.1 k0 w)) := by
  have hW := kW_b g.1
  have hN := kN_b g.1
  obtain ⟨-, -, -, ⟨t1, t2⟩⟩ := id g.1
  have hL : kL c k0 = 840 := by rcases h0 with h | h <;> subst h; exact kL_150 c; exact kL_151 c
  have m3 : z.1 94 3 = kT c := g.2.2.1.2.2.2.1
  have gz : ∀ {t}, zOff (fun k j => k = k0) z t → Gr c t ∧ t.1 94 3 = kT c := fun {t} o => ⟨Gr_off o (fun k j h => by unfold pS at h; omega) g, by rw [o.2 94 3 (by omega)]; exact m3⟩
  have one : zBool 1 = 1 := zBool_n 1 (Or.inr rfl)
  unfold q_Model_touchPad
  refine ok_b1 (fun s => zOff (fun k j => k = k0) z s ∧ ∀ w, (kTc c q w → s.1 k0 w = 1) ∧ (¬ kTc c q w → s.1 k0 w = z.1 k0 w)) ?_ fun s hs => ok_so hs
  refine it_for (fun (i : Nat) (t : gZ) => ((i : Int), t)) (fun i u => zOff (fun k j => k = k0) z u ∧ ∀ w, ((kPw c (q - kN c) ≤ w ∧ w < kPw c (q - kN c) + i) → u.1 k0 w = 1) ∧ (¬ (kPw c (q - kN c) ≤ w ∧ w < kPw c (q - kN c) + i) → u.1 k0 w = z.1 k0 w)) 0 (kT c) rfl ⟨off_r, fun w => ⟨fun h => by omega, fun _ => rfl⟩⟩ (by omega) (by omega) ?_ ?_
  · rintro i u - hi ⟨ou, hu⟩
    obtain ⟨gu, mu⟩ := gz ou
    have hlt := kPw_lt (p := q - kN c) g.1 (by omega) hi
    show zOk (q_Model_touchPad_2 E (kL c) k0 ((q - kN c : Nat) : Int) (i : Int) u) _
    unfold q_Model_touchPad_2
    rw [mu, s_padWire gu (by omega) hi, b1_s, hL, one]
    (refine ok_neg (by omega) ?_); (refine ok_gd (by omega) ?_)
    rw [ok_l, ok_l, gtN]
    refine ok_inl (Or.inl ⟨_, rfl, off_t ou (off_put rfl), fun w => ?_⟩)
    rw [zp1, if_pos rfl]
    by_cases e : w = kPw c (q - kN c) + i
    · rw [if_pos e]; exact ⟨fun _ => rfl, fun h => by omega⟩
    · rw [if_neg e]; exact ⟨fun h => (hu w).1 (by omega), fun h => (hu w).2 (by omega)⟩
  · rintro u ⟨ou, hu⟩
    obtain ⟨gu, mu⟩ := gz ou
    show zOk (q_Model_touchPad_2 E (kL c) k0 ((q - kN c : Nat) : Int) (kT c : Int) u) _
    unfold q_Model_touchPad_2
    rw [mu]
    (refine ok_pos (by omega) ?_)
    have eqv : ∀ w, kTc c q w ↔ (kPw c (q - kN c) ≤ w ∧ w < kPw c (q - kN c) + kT c) := fun w => by
      unfold kTc
      constructor
      · rintro ⟨s, a, b⟩
        unfold tF at b
        rw [if_neg (by omega)] at b
        by_cases e : s = 0
        · rw [if_pos e] at b; omega
        · rw [if_neg e] at b; omega
      · intro b
        refine ⟨0, by omega, ?_⟩
        unfold tF
        rw [if_neg (by omega), if_pos rfl]; omega
    exact ok_inr ⟨u, rfl, ou, fun w => ⟨fun h => (hu w).1 ((eqv w).1 h), fun h => (hu w).2 fun x => h ((eqv w).2 x)⟩⟩
/-- sums -/
def smN (f : Nat → Nat) : Nat → Nat
  | 0 => 0
  | n + 1 => smN f n + f n
theorem smN_le {f : Nat → Nat} {B n : Nat} (h : ∀ i, i < n → f i ≤ B) : smN f n ≤ n * B := by
  induction n with
  | zero => exact Nat.zero_le _
  | succ n ih =>
    have := ih fun i hi => h i (by omega)
    have := h n (by omega)
    rw [smN, Nat.succ_mul]; omega
theorem smN_c {f g : Nat → Nat} {n : Nat} (h : ∀ i, i < n → f i = g i) : smN f n = smN g n := by
  induction n with
  | zero => rfl
  | succ n ih => rw [smN, smN, ih fun i hi => h i (by omega), h n (by omega)]
theorem smN_u {f g : Nat → Nat} {n v : Nat} (hv : v < n) (h : g v < f v) (he : ∀ i, i ≠ v → g i = f i) : smN g n < smN f n := by
  induction n with
  | zero => omega
  | succ n ih =>
    rw [smN, smN]
    by_cases e : v = n
    · subst e
      have := smN_c (f := g) (g := f) (n := v) fun i hi => he i (by omega)
      omega
    · have := ih (by omega)
      have := he n (fun x => e x.symm)
      omega
/-- the reference's queue: len wires from a place on, around -/
abbrev QI (c : gCf) (t : gZ) (f len : Nat) : Prop := ∃ _ : (f < 841), ∃ _ : (∀ w, w < kW c → b01 (t.1 153 w)), ∃ _ : (len = cnb (fun w => decide (t.1 153 w = 1)) (kW c)), ∃ _ : (∀ i, i < len → ∃ w, w < kW c ∧ t.1 152 ((f + i) % 841) = (w : Nat) ∧ t.1 153 w = 1), ∃ _ : (∀ i j, i < len → j < len → t.1 152 ((f + i) % 841) = t.1 152 ((f + j) % 841) → i = j), (∀ w, w < kW c → t.1 153 w = 1 → ∃ i, i < len ∧ t.1 152 ((f + i) % 841) = (w : Nat))
theorem QI.fl {c : gCf} {t : gZ} {f len : Nat} (h : QI c t f len) : f < 841 := by obtain ⟨x, _⟩ := h; exact x
theorem QI.b {c : gCf} {t : gZ} {f len : Nat} (h : QI c t f len) : ∀ w, w < kW c → b01 (t.1 153 w) := by obtain ⟨_, x, _⟩ := h; exact x
theorem QI.l {c : gCf} {t : gZ} {f len : Nat} (h : QI c t f len) : len = cnb (fun w => decide (t.1 153 w = 1)) (kW c) := by obtain ⟨_, _, x, _⟩ := h; exact x
theorem QI.m {c : gCf} {t : gZ} {f len : Nat} (h : QI c t f len) : ∀ i, i < len → ∃ w, w < kW c ∧ t.1 152 ((f + i) % 841) = (w : Nat) ∧ t.1 153 w = 1 := by obtain ⟨_, _, _, x, _⟩ := h; exact x
theorem QI.ij {c : gCf} {t : gZ} {f len : Nat} (h : QI c t f len) : ∀ i j, i < len → j < len → t.1 152 ((f + i) % 841) = t.1 152 ((f + j) % 841) → i = j := by obtain ⟨_, _, _, _, x, _⟩ := h; exact x
theorem QI.a {c : gCf} {t : gZ} {f len : Nat} (h : QI c t f len) : ∀ w, w < kW c → t.1 153 w = 1 → ∃ i, i < len ∧ t.1 152 ((f + i) % 841) = (w : Nat) := by obtain ⟨_, _, _, _, _, x⟩ := h; exact x
theorem QI.le {t : gZ} {f len : Nat} (hk : kOk c) (h : QI c t f len) : len ≤ 840 := by
  have := kW_b hk
  rw [h.l]
  have := cnb_le (fun w => decide (t.1 153 w = 1)) (kW c)
  omega
/-- the first is taken out -/
theorem QI.pop {t s : gZ} {f len w : Nat} (hk : kOk c) (h : QI c t f (len + 1)) (hw : t.1 152 f = (w : Nat)) (hwW : w < kW c) (h2 : ∀ j, s.1 152 j = t.1 152 j) (h3 : ∀ j, s.1 153 j = if j = w then 0 else t.1 153 j) : QI c s ((f + 1) % 841) len := by
  have hle := h.le hk
  have hf := h.fl
  have ix : ∀ i, ((f + 1) % 841 + i) % 841 = (f + (i + 1)) % 841 := fun i => by omega
  have i0 : (f + 0) % 841 = f := by omega
  have hq : t.1 153 w = 1 := by
    obtain ⟨w', a1, a2, a3⟩ := h.m 0 (by omega)
    rw [i0, hw] at a2
    have : w' = w := by omega
    subst this; exact a3
  refine ⟨by omega, fun v hv => ?_, ?_, fun i hi => ?_, fun i j hi hj e => ?_, fun v hv e => ?_⟩
  · rw [h3]; split
    · exact Or.inl rfl
    · exact h.b v hv
  · have := cnb_add (p := fun v => decide (s.1 153 v = 1)) (q := fun v => decide (t.1 153 v = 1)) hwW (by show decide (s.1 153 w = 1) = false; rw [h3, if_pos rfl]; rfl) (decide_eq_true hq) fun i hi => by show decide (t.1 153 i = 1) = decide (s.1 153 i = 1); rw [h3, if_neg hi]
    have := h.l
    omega
  · obtain ⟨v, a1, a2, a3⟩ := h.m (i + 1) (by omega)
    rw [ix, h2]
    refine ⟨v, a1, a2, ?_⟩
    rw [h3, if_neg fun x => ?_]
    · exact a3
    · subst x
      have := h.ij (i + 1) 0 (by omega) (by omega) (by rw [a2, i0, hw])
      omega
  · rw [ix, ix, h2, h2] at e
    have := h.ij (i + 1) (j + 1) (by omega) (by omega) e
    omega
  · rw [h3] at e
    by_cases x : v = w
    · rw [if_pos x] at e; omega
    · rw [if_neg x] at e
      obtain ⟨i, i1, i2⟩ := h.a v hv e
      cases i with
      | zero => rw [i0, hw] at i2; omega
      | succ i => exact ⟨i, by omega, by rw [ix, h2]; exact i2⟩
/-- one is put behind -/
theorem QI.push {t s : gZ} {f len w : Nat} (hk : kOk c) (h : QI c t f len) (hw : w < kW c) (hq : t.1 153 w = 0) (h2 : ∀ j, s.1 152 j = if j = (f + len) % 841 then (w : Int) else t.1 152 j) (h3 : ∀ j, s.1 153 j = if j = w then 1 else t.1 153 j) : QI c s f (len + 1) := by
  have hle : len < 840 + 1 := by have := h.le hk; omega
  have hW := kW_b hk
  have hlt : len < 841 := hle
  have hl2 : len ≤ 839 ∨ len = 840 := by omega
  have hlk : len < kW c := by
    rw [h.l]; exact cnb_lt hw (decide_eq_false (by omega))
  have ne : ∀ i, i < len → (f + i) % 841 ≠ (f + len) % 841 := fun i hi => by
    have := h.fl; omega
  refine ⟨h.fl, fun v hv => ?_, ?_, fun i hi => ?_, fun i j hi hj e => ?_, fun v hv e => ?_⟩
  · rw [h3]; split
    · exact Or.inr rfl
    · exact h.b v hv
  · have := cnb_add (p := fun v => decide (t.1 153 v = 1)) (q := fun v => decide (s.1 153 v = 1)) hw (decide_eq_false (by omega)) (by show decide (s.1 153 w = 1) = true; rw [h3, if_pos rfl]; rfl) fun i hi => by show decide (s.1 153 i = 1) = decide (t.1 153 i = 1); rw [h3, if_neg hi]
    have := h.l
    omega
  · rw [h2]
    by_cases e : i = len
    · rw [if_pos (by rw [e])]; exact ⟨w, hw, rfl, by rw [h3, if_pos rfl]⟩
    · rw [if_neg (ne i (by omega))]
      obtain ⟨v, a1, a2, a3⟩ := h.m i (by omega)
      refine ⟨v, a1, a2, ?_⟩
      rw [h3]; split
      · rfl
      · exact a3
  · rw [h2, h2] at e
    by_cases ei : i = len
    · by_cases ej : j = len
      · omega
      · rw [if_pos (by rw [ei]), if_neg (ne j (by omega))] at e
        obtain ⟨v, a1, a2, a3⟩ := h.m j (by omega)
        rw [a2] at e
        have : v = w := by omega
        subst this; omega
    · by_cases ej : j = len
      · rw [if_neg (ne i (by omega)), if_pos (by rw [ej])] at e
        obtain ⟨v, a1, a2, a3⟩ := h.m i (by omega)
        rw [a2] at e
        have : v = w := by omega
        subst this; omega
      · rw [if_neg (ne i (by omega)), if_neg (ne j (by omega))] at e
        exact h.ij i j (by omega) (by omega) e
  · rw [h3] at e
    by_cases x : v = w
    · exact ⟨len, by omega, by rw [h2, if_pos rfl, x]⟩
    · rw [if_neg x] at e
      obtain ⟨i, i1, i2⟩ := h.a v hv e
      exact ⟨i, by omega, by rw [h2, if_neg (ne i i1)]; exact i2⟩
end
-- Y5
section
variable {E : gEv} {c : gCf}
def NV : Int := 1152921504606846976
/-- what the reference has of a net when it looks for distances -/
abbrev DH (c : gCf) (n : Nat) (H : Nat → Bool) (fin : Nat → Prop) (cost : Nat → Nat) (tch : Nat → Prop) (z : gZ) : Prop := ∃ _ : (∀ w, w < kW c → z.1 141 (840 * n + w) = if H w = true then 1 else 0), ∃ _ : (∀ w, w < kW c → tch w → z.1 150 w = 1), ∃ _ : (∀ w, w < kW c → ¬ tch w → z.1 150 w = 0), ∃ _ : (∀ w, w < kW c → fin w → z.2 148 w = cost w), ∃ _ : (∀ w, w < kW c → ¬ fin w → z.2 148 w = NV), ∃ _ : (∀ w, 1 ≤ cost w ∧ cost w ≤ 16000000), (n < 400)
theorem DH.has {c : gCf} {n : Nat} {H : Nat → Bool} {fin : Nat → Prop} {cost : Nat → Nat} {tch : Nat → Prop} {z : gZ} (h : DH c n H fin cost tch z) : ∀ w, w < kW c → z.1 141 (840 * n + w) = if H w = true then 1 else 0 := by obtain ⟨x, _⟩ := h; exact x
theorem DH.t1 {c : gCf} {n : Nat} {H : Nat → Bool} {fin : Nat → Prop} {cost : Nat → Nat} {tch : Nat → Prop} {z : gZ} (h : DH c n H fin cost tch z) : ∀ w, w < kW c → tch w → z.1 150 w = 1 := by obtain ⟨_, x, _⟩ := h; exact x
theorem DH.t0 {c : gCf} {n : Nat} {H : Nat → Bool} {fin : Nat → Prop} {cost : Nat → Nat} {tch : Nat → Prop} {z : gZ} (h : DH c n H fin cost tch z) : ∀ w, w < kW c → ¬ tch w → z.1 150 w = 0 := by obtain ⟨_, _, x, _⟩ := h; exact x
theorem DH.c1 {c : gCf} {n : Nat} {H : Nat → Bool} {fin : Nat → Prop} {cost : Nat → Nat} {tch : Nat → Prop} {z : gZ} (h : DH c n H fin cost tch z) : ∀ w, w < kW c → fin w → z.2 148 w = cost w := by obtain ⟨_, _, _, x, _⟩ := h; exact x
theorem DH.c0 {c : gCf} {n : Nat} {H : Nat → Bool} {fin : Nat → Prop} {cost : Nat → Nat} {tch : Nat → Prop} {z : gZ} (h : DH c n H fin cost tch z) : ∀ w, w < kW c → ¬ fin w → z.2 148 w = NV := by obtain ⟨_, _, _, _, x, _⟩ := h; exact x
theorem DH.cb {c : gCf} {n : Nat} {H : Nat → Bool} {fin : Nat → Prop} {cost : Nat → Nat} {tch : Nat → Prop} {z : gZ} (h : DH c n H fin cost tch z) : ∀ w, 1 ≤ cost w ∧ cost w ≤ 16000000 := by obtain ⟨_, _, _, _, _, x, _⟩ := h; exact x
theorem DH.nb {c : gCf} {n : Nat} {H : Nat → Bool} {fin : Nat → Prop} {cost : Nat → Nat} {tch : Nat → Prop} {z : gZ} (h : DH c n H fin cost tch z) : n < 400 := by obtain ⟨_, _, _, _, _, _, x⟩ := h; exact x
def pDi (k j : Nat) : Prop := k = 152 ∨ k = 153
def zD (z s : gZ) : Prop := zO pDi z s ∧ ∀ k, k ≠ 149 → s.2 k = z.2 k
theorem zD_t {z s t : gZ} (h : zD z s) (k : zD s t) : zD z t := ⟨o_t h.1 k.1, fun a b => (k.2 a b).trans (h.2 a b)⟩
theorem DH_o {n : Nat} {H : Nat → Bool} {fin tch : Nat → Prop} {cost : Nat → Nat} {z s : gZ} (h : DH c n H fin cost tch z) (o : zD z s) : DH c n H fin cost tch s := by
  have e1 : s.1 141 = z.1 141 := funext fun j => o.1 141 j (by unfold pDi; omega)
  have e2 : s.1 150 = z.1 150 := funext fun j => o.1 150 j (by unfold pDi; omega)
  have e3 : s.2 148 = z.2 148 := o.2 148 (by decide)
  exact ⟨by rw [e1]; exact h.has, by rw [e2]; exact h.t1, by rw [e2]; exact h.t0, by rw [e3]; exact h.c1, by rw [e3]; exact h.c0, h.cb, h.nb⟩
/-- distances that are lengths of ways, first ones in -/
abbrev DI (c : gCf) (g : Gph) (t : gZ) : Prop := ∃ _ : (∀ w, w < kW c → 0 ≤ t.2 149 w ∧ t.2 149 w ≤ NV), ∃ _ : (∀ w, w < kW c → t.2 149 w < NV → Rch g w (t.2 149 w).toNat), ∃ _ : (∀ w, w < kW c → g.own w → t.2 149 w = 0), (∀ w, w < kW c → ¬ g.own w → g.fin w → g.tch w → t.2 149 w ≤ g.cost w)
theorem DI.b {c : gCf} {g : Gph} {t : gZ} (h : DI c g t) : ∀ w, w < kW c → 0 ≤ t.2 149 w ∧ t.2 149 w ≤ NV := by obtain ⟨x, _⟩ := h; exact x
theorem DI.s {c : gCf} {g : Gph} {t : gZ} (h : DI c g t) : ∀ w, w < kW c → t.2 149 w < NV → Rch g w (t.2 149 w).toNat := by obtain ⟨_, x, _⟩ := h; exact x
theorem DI.o {c : gCf} {g : Gph} {t : gZ} (h : DI c g t) : ∀ w, w < kW c → g.own w → t.2 149 w = 0 := by obtain ⟨_, _, x, _⟩ := h; exact x
theorem DI.t {c : gCf} {g : Gph} {t : gZ} (h : DI c g t) : ∀ w, w < kW c → ¬ g.own w → g.fin w → g.tch w → t.2 149 w ≤ g.cost w := by obtain ⟨_, _, _, x⟩ := h; exact x
/-- no way over u is shorter -/
def cl (c : gCf) (g : Gph) (t : gZ) (u v : Nat) : Prop := g.fin v → ¬ g.own v → t.2 149 u < NV → t.2 149 v ≤ t.2 149 u + g.cost v
theorem DI_end {g : Gph} {t : gZ} (hW : g.W = kW c) (ha : g.adj = kAdj c) (hk : kOk c) (h : DI c g t) (hc : ∀ u v, u < kW c → kAdj c u v → cl c g t u v) {w d : Nat} (hd : Dst g w d) (hl : (d : Int) < NV) : t.2 149 w = d := by
  have le : ∀ {w d}, Rch g w d → t.2 149 w ≤ d := by
    intro w d hr
    refine hr (fun w d => t.2 149 w ≤ ((d : Nat) : Int)) ?_ ?_ ?_
    · intro w a b
      have := h.o w (by rw [← hW]; exact a) b
      omega
    · intro w a b d e
      exact h.t w (by rw [← hW]; exact a) b d e
    · intro u w d ih k2 k3 k4 k5
      rw [ha] at k2
      have hu : u < kW c := (kAdj_t hk k2).1
      have hw : w < kW c := (kAdj_t hk k2).2.1
      have hb := h.b w hw
      by_cases e : t.2 149 u < NV
      · have := hc u w hu k2 k5 k4 e
        omega
      · omega
  have hw : w < kW c := by rw [← hW]; exact rch_W hd.1
  have h1 := le hd.1
  have h2 := h.s w hw (by omega)
  have h3 := hd.2 _ h2
  have hb := h.b w hw
  omega
theorem zRem_841 (a : Nat) (h : a < 100000) : zRem ((a : Int) + 1) 841 = (((a + 1) % 841 : Nat) : Int) := by
  have := zRem_n (a + 1) 841 (by omega) (by omega)
  exact this
theorem s_dist0 {z : gZ} {n : Nat} {H : Nat → Bool} {fin tch : Nat → Prop} {cost : Nat → Nat} (g : Gr c z) (h : DH c n H fin cost tch z) : zOk (gIter (fun y => q_Model_distances_7 E (kL c) (n : Int) 0 y.1 y.2.1 y.2.2) gN (0, 0, z)) (fun r => ∃ len : Nat, r.1 = len ∧ zD z r.2 ∧ QI c r.2 0 len ∧ DI c (gOf c fin cost (fun w => H w = true) tch) r.2 ∧ ∀ w, w < kW c → r.2.2 149 w < NV → r.2.1 153 w = 1) := by
  have hW := kW_b g.1
  have m8 : z.1 94 8 = kW c := g.2.2.1.2.2.2.2.2.2.2.2.1
  have nb := h.nb
  let vl : Nat → Int := fun w => if H w = true then 0 else @ite Int (tch w ∧ fin w) (Classical.propDecidable _) (cost w : Int) NV
  have vb : ∀ w, 0 ≤ vl w ∧ vl w ≤ NV := fun w => by
    have := h.cb w
    show 0 ≤ (if H w = true then (0 : Int) else _) ∧ (if H w = true then (0 : Int) else _) ≤ NV
    unfold NV
    split
    · omega
    · split <;> omega
  let J : Nat → Nat → gZ → Prop := fun i len t => zD z t ∧ (∀ w, w < i → t.2 149 w = vl w) ∧ (∀ w, w < i → t.1 153 w = if vl w < NV then 1 else 0) ∧ len = cnb (fun w => decide (vl w < NV)) i ∧ (∀ j, j < len → ∃ w, w < i ∧ t.1 152 j = (w : Nat) ∧ vl w < NV) ∧ (∀ j k, j < len → k < len → t.1 152 j = t.1 152 k → j = k) ∧ (∀ w, w < i → vl w < NV → ∃ j, j < len ∧ t.1 152 j = (w : Nat))
  refine ok_w (it_for (fun (i : Nat) (t : Nat × gZ) => ((t.1 : Int), (i : Int), t.2)) (fun i t => J i t.1 t.2) 0 (kW c) (t := (0, z)) (Q := fun (r : Int × gZ) => ∃ len : Nat, r.1 = (len : Int) ∧ J (kW c) len r.2) rfl ⟨⟨o_r, fun _ _ => rfl⟩, fun w hw => by omega, fun w hw => by omega, rfl, fun j hj => by omega, fun j k hj => by omega, fun w hw => by omega⟩ (by omega) (by omega) ?_ ?_) ?_
  · rintro w ⟨len, t⟩ - hw ⟨o, k1, k2, k3, k4, k5, k6⟩
    have k3 : len = cnb (fun w => decide (vl w < NV)) w := k3
    have hle := cnb_le (fun w => decide (vl w < NV)) w
    have ht := DH_o h o
    show zOk (q_Model_distances_7 E (kL c) (n : Int) 0 (len : Int) (w : Int) t) _
    unfold q_Model_distances_7
    rw [o.1 94 8 (by unfold pDi; omega), m8, kL_141, kL_150, kL_148, show (840 * (n : Int) + (w : Int)) = ((840 * n + w : Nat) : Int) by omega, gtN, gtN, ht.has w hw]
    have main : zOk (q_Model_distances_j79_7 E (kL c) (n : Int) 0 (len : Int) (w : Int) (w : Int) (vl w) t) (fun r => (∃ t' : Nat × gZ, r = Sum.inl ((t'.1 : Int), ((w + 1 : Nat) : Int), t'.2) ∧ J (w + 1) t'.1 t'.2) ∨ ∃ e : Int × gZ, r = Sum.inr e ∧ ∃ len : Nat, e.1 = (len : Int) ∧ J (kW c) len e.2) := by
      unfold q_Model_distances_j79_7
      rw [kL_149]
      (refine ok_gd (by omega) ?_)
      rw [ok_l]
      (refine ok_gd (by omega) ?_)
      rw [gtN]
      have ol : zD t (zPutL t 149 w (vl w)) := ⟨fun k j _ => rfl, fun k hk => funext fun j => by rw [zl2, if_neg hk]⟩
      have vl2 : ∀ v, (zPutL t 149 w (vl w)).2 149 v = if v = w then vl w else t.2 149 v := fun v => by rw [zl2, if_pos rfl]
      have vl1 : (zPutL t 149 w (vl w)).1 = t.1 := rfl
      generalize zPutL t 149 w (vl w) = u at ol vl2 vl1 ⊢
      rw [vl2, if_pos rfl]
      have oz : zD z u := zD_t o ol
      have k1' : ∀ v, v < w + 1 → u.2 149 v = vl v := fun v hv => by
        rw [vl2]
        by_cases e : v = w
        · rw [if_pos e, e]
        · rw [if_neg e]; exact k1 v (by omega)
      refine ok_br (fun e => ?_) fun e => ?_
      · unfold q_Model_distances_j105_7
        rw [kL_153, zBool_n 0 (Or.inl rfl)]
        (refine ok_gd (by omega) ?_)
        rw [ok_l]
        (refine ok_gd (by omega) ?_)
        rw [gtN, show (zPut u 153 w 0).1 153 w = 0 by (simp only [zp1, zr1, zf1, Nat.reduceEqDiff, Nat.reduceBEq, reduceIte, if_true, if_false, and_true, true_and, and_false, false_and, gtN])]
        refine ok_pos rfl ?_
        (refine ok_gd (by omega) ?_)
        rw [ok_l]
        have nl : ¬ vl w < NV := by show ¬ vl w < 1152921504606846976; omega
        refine ok_inl (Or.inl ⟨(len, _), rfl, zD_t oz ⟨o_put (Or.inr rfl), fun _ _ => rfl⟩, k1', fun v hv => ?_, ?_, fun j hj => ?_, ?_, fun v hv hl => ?_⟩)
        · show (zPut u 153 w 0).1 153 v = _
          rw [zp1, if_pos rfl, vl1]
          by_cases x : v = w
          · rw [if_pos x, x, if_neg nl]
          · rw [if_neg x]; exact k2 v (by omega)
        · show len = _
          rw [cnb, decide_eq_false nl, if_neg Bool.false_ne_true]; omega
        · show ∃ w', w' < w + 1 ∧ (zPut u 153 w 0).1 152 j = _ ∧ _
          rw [zp_ne _ _ _ _ _ (by decide), vl1]
          obtain ⟨v, a, b⟩ := k4 j hj
          exact ⟨v, by omega, b⟩
        · show ∀ j k, j < len → k < len → (zPut u 153 w 0).1 152 j = (zPut u 153 w 0).1 152 k → j = k
          rw [zp_ne _ _ _ _ _ (by decide), vl1]; exact k5
        · show ∃ j, j < len ∧ (zPut u 153 w 0).1 152 j = _
          rw [zp_ne _ _ _ _ _ (by decide), vl1]
          refine k6 v ?_ hl
          by_cases x : v = w
          · subst x; exact absurd hl nl
          · omega
      · unfold q_Model_distances_j105_7
        rw [kL_153, kL_152, zBool_n 1 (Or.inr rfl)]
        (refine ok_gd (by omega) ?_)
        rw [ok_l]
        (refine ok_gd (by omega) ?_)
        rw [gtN, show (zPut u 153 w 1).1 153 w = 1 by (simp only [zp1, zr1, zf1, Nat.reduceEqDiff, Nat.reduceBEq, reduceIte, if_true, if_false, and_true, true_and, and_false, false_and, gtN])]
        refine ok_neg (by decide) ?_
        (refine ok_gd (by omega) ?_)
        rw [ok_l]
        (refine ok_gd (by omega) ?_)
        rw [ok_l]
        (refine ok_gd (by omega) ?_)
        rw [ok_l, gtN, zRem_841 len (by omega), Nat.mod_eq_of_lt (by omega)]
        have nl : vl w < NV := by show vl w < 1152921504606846976; omega
        have w2 : ∀ j, (zPut (zPut u 153 w 1) 152 len (w : Int)).1 152 j = if j = len then (w : Int) else t.1 152 j := fun j => by rw [zp1, if_pos rfl, zp_ne _ _ _ _ _ (by decide), vl1]
        have w3 : ∀ j, (zPut (zPut u 153 w 1) 152 len (w : Int)).1 153 j = if j = w then 1 else t.1 153 j := fun j => by rw [zp_ne _ _ _ _ _ (by decide), zp1, if_pos rfl, vl1]
        have w9 : (zPut (zPut u 153 w 1) 152 len (w : Int)).2 = u.2 := rfl
        have wo : zD u (zPut (zPut u 153 w 1) 152 len (w : Int)) := ⟨o_t (o_put (Or.inr rfl)) (o_put (Or.inl rfl)), fun _ _ => rfl⟩
        generalize zPut (zPut u 153 w 1) 152 len (w : Int) = x at w2 w3 w9 wo ⊢
        refine ok_inl (Or.inl ⟨(len + 1, x), rfl, zD_t oz wo, fun v hv => by show x.2 149 v = _; rw [w9]; exact k1' v hv, fun v hv => ?_, ?_, fun j hj => ?_, fun j k hj hk e => ?_, fun v hv hl => ?_⟩)
        · show x.1 153 v = _
          rw [w3]
          by_cases y : v = w
          · rw [if_pos y, y, if_pos nl]
          · rw [if_neg y]; exact k2 v (by omega)
        · show len + 1 = _
          rw [cnb, decide_eq_true nl, if_pos rfl]; omega
        · have hj : j < len + 1 := hj
          show ∃ w', w' < w + 1 ∧ x.1 152 j = _ ∧ _
          rw [w2]
          by_cases y : j = len
          · rw [if_pos y]; exact ⟨w, by omega, rfl, nl⟩
          · rw [if_neg y]
            obtain ⟨v, a, b⟩ := k4 j (by omega)
            exact ⟨v, by omega, b⟩
        · have hj : j < len + 1 := hj
          have hk : k < len + 1 := hk
          have e : x.1 152 j = x.1 152 k := e
          rw [w2, w2] at e
          by_cases y : j = len
          · by_cases y2 : k = len
            · omega
            · rw [if_pos y, if_neg y2] at e
              obtain ⟨v, a, b, -⟩ := k4 k (by omega)
              have b : t.1 152 k = v := b
              omega
          · by_cases y2 : k = len
            · rw [if_neg y, if_pos y2] at e
              obtain ⟨v, a, b, -⟩ := k4 j (by omega)
              have b : t.1 152 j = v := b
              omega
            · rw [if_neg y, if_neg y2] at e
              exact k5 j k (by omega) (by omega) e
        · show ∃ j, j < len + 1 ∧ x.1 152 j = _
          by_cases y : v = w
          · exact ⟨len, by omega, by rw [w2, if_pos rfl, y]⟩
          · obtain ⟨j, a, b⟩ := k6 v (by omega) hl
            have a : j < len := a
            exact ⟨j, by omega, by rw [w2, if_neg (by omega)]; exact b⟩
    (refine ok_neg (by omega) ?_); (refine ok_gd (by omega) ?_)
    by_cases e : H w = true
    · rw [if_pos e]
      refine ok_neg (by decide) ?_
      have : vl w = 0 := if_pos e
      rw [this] at main
      exact main
    · rw [if_neg e]
      refine ok_pos rfl ?_
      (refine ok_gd (by omega) ?_)
      by_cases et : tch w
      · rw [ht.t1 w hw et]
        refine ok_neg (by decide) ?_
        (refine ok_gd (by omega) ?_)
        by_cases ef : fin w
        · have hc := ht.c1 w hw ef
          have hb := h.cb w
          rw [hc]
          (refine ok_neg (by omega) ?_)
          have : vl w = cost w := by show (if H w = true then (0 : Int) else _) = _; rw [if_neg e, if_pos ⟨et, ef⟩]
          rw [this] at main
          exact main
        · rw [ht.c0 w hw ef]
          refine ok_pos (by unfold NV; omega) ?_
          have : vl w = NV := by show (if H w = true then (0 : Int) else _) = _; rw [if_neg e, if_neg fun x => ef x.2]
          rw [this] at main
          exact main
      · rw [ht.t0 w hw et]
        refine ok_pos rfl ?_
        have : vl w = NV := by show (if H w = true then (0 : Int) else _) = _; rw [if_neg e, if_neg fun x => et x.1]
        rw [this] at main
        exact main
  · rintro ⟨len, t⟩ k
    show zOk (q_Model_distances_7 E (kL c) (n : Int) 0 (len : Int) (kW c : Int) t) _
    unfold q_Model_distances_7
    rw [k.1.1 94 8 (by unfold pDi; omega), m8]
    (refine ok_pos (by omega) ?_)
    exact ok_inr ⟨_, rfl, len, rfl, k⟩
  · rintro ⟨r1, t⟩ ⟨len, e1, o, k1, k2, k3, k4, k5, k6⟩
    have k2 : ∀ w, w < kW c → t.1 153 w = if vl w < NV then 1 else 0 := k2
    have k1 : ∀ w, w < kW c → t.2 149 w = vl w := k1
    have hle := cnb_le (fun w => decide (vl w < NV)) (kW c)
    have ix : ∀ i, i < len → (0 + i) % 841 = i := fun i hi => by rw [Nat.zero_add]; exact Nat.mod_eq_of_lt (by omega)
    have q1 : ∀ w, w < kW c → (t.1 153 w = 1 ↔ vl w < NV) := fun w hw => by
      rw [k2 w hw]
      by_cases e : vl w < NV
      · rw [if_pos e]; exact ⟨fun _ => e, fun _ => rfl⟩
      · rw [if_neg e]; exact ⟨fun x => by omega, fun x => absurd x e⟩
    refine ⟨len, e1, o, ⟨by omega, fun w hw => ?_, ?_, fun i hi => ?_, fun i j hi hj e => ?_, fun w hw e => ?_⟩, ⟨fun w hw => by show 0 ≤ t.2 149 w ∧ t.2 149 w ≤ NV; rw [k1 w hw]; exact vb w, fun w hw hl => ?_, fun w hw ho => ?_, fun w hw ho hf ht => ?_⟩, fun w hw hl => ?_⟩
    · show b01 (t.1 153 w)
      rw [k2 w hw]; split
      · exact Or.inr rfl
      · exact Or.inl rfl
    · rw [k3]
      refine cnb_c fun i hi => ?_
      show decide (vl i < NV) = decide (t.1 153 i = 1)
      by_cases e : vl i < NV
      · rw [decide_eq_true e, decide_eq_true ((q1 i hi).2 e)]
      · rw [decide_eq_false e, decide_eq_false fun x => e ((q1 i hi).1 x)]
    · obtain ⟨w, a, b, d⟩ := k4 i hi
      rw [ix i hi]
      exact ⟨w, a, b, (q1 w a).2 d⟩
    · rw [ix i hi, ix j hj] at e; exact k5 i j hi hj e
    · obtain ⟨j, a, b⟩ := k6 w hw ((q1 w hw).1 e)
      exact ⟨j, a, by rw [ix j a]; exact b⟩
    · have hl : t.2 149 w < NV := hl
      show Rch _ w (t.2 149 w).toNat
      rw [k1 w hw] at hl ⊢
      by_cases e : H w = true
      · have : vl w = 0 := if_pos e
        rw [this]; exact .o hw e
      · by_cases e2 : tch w ∧ fin w
        · have : vl w = cost w := by show (if H w = true then (0 : Int) else _) = _; rw [if_neg e, if_pos e2]
          rw [this, gtN]; exact .t hw e e2.2 e2.1
        · have : vl w = NV := by show (if H w = true then (0 : Int) else _) = _; rw [if_neg e, if_neg e2]
          rw [this] at hl; omega
    · show t.2 149 w = 0
      rw [k1 w hw]; exact if_pos ho
    · have ho : ¬ H w = true := ho
      have hf : fin w := hf
      have ht : tch w := ht
      show t.2 149 w ≤ _
      rw [k1 w hw]
      have : vl w = cost w := by show (if H w = true then (0 : Int) else _) = _; rw [if_neg ho, if_pos ⟨ht, hf⟩]
      rw [this]; exact Int.le_refl _
    · have hl : t.2 149 w < NV := hl
      show t.1 153 w = 1
      rw [k1 w hw] at hl
      exact (q1 w hw).2 hl
end
-- Y6
section
variable {E : gEv} {c : gCf}
theorem ms_b {S l : Nat} (h1 : S ≤ 968454063869751459840) (h2 : l < 1000) : 1000 * S + l < 1000000000000000000000000000000000000000 := by omega
def msD (t : gZ) (W len : Nat) : Nat := 1000 * smN (fun w => (t.2 149 w).toNat) W + len
def farN (t : gZ) (w : Nat) : Nat := (t.2 149 w).toNat
/-- what the search keeps: the queue of len from f on, and ways over all that are not in it -/
abbrev DQ (c : gCf) (g : Gph) (z t : gZ) (f len : Nat) : Prop := ∃ _ : (zD z t), ∃ _ : (QI c t f len), (DI c g t)
theorem DQ.o {c : gCf} {g : Gph} {z t : gZ} {f len : Nat} (h : DQ c g z t f len) : zD z t := by obtain ⟨x, _⟩ := h; exact x
theorem DQ.q {c : gCf} {g : Gph} {z t : gZ} {f len : Nat} (h : DQ c g z t f len) : QI c t f len := by obtain ⟨_, x, _⟩ := h; exact x
theorem DQ.d {c : gCf} {g : Gph} {z t : gZ} {f len : Nat} (h : DQ c g z t f len) : DI c g t := by obtain ⟨_, _, x⟩ := h; exact x
theorem s_dist {z : gZ} {n : Nat} {H : Nat → Bool} {fin tch : Nat → Prop} {cost : Nat → Nat} (gr : Gr c z) (hj : Jk c z) (h : DH c n H fin cost tch z) : zOk (q_Model_distances E (kL c) (n : Int) z) (fun s => zD z s ∧ (∀ w, w < kW c → s.2 149 w = NV ∨ ∃ d : Nat, Dst (gOf c fin cost (fun w => H w = true) tch) w d ∧ s.2 149 w = d) ∧ ∀ w d, Dst (gOf c fin cost (fun w => H w = true) tch) w d → (d : Int) < NV → s.2 149 w = d) := by
  have hW := kW_b gr.1
  have nb := h.nb
  unfold q_Model_distances
  refine ok_b1 _ (s_dist0 gr h) fun e7 ⟨len0, l0, l1, l2, l3, l4⟩ => ?_
  generalize hG : gOf c fin cost (fun w => H w = true) tch = G at l3 ⊢
  have GW : G.W = kW c := by rw [← hG]; rfl
  have Ga : G.adj = kAdj c := by rw [← hG]; rfl
  have Gf : G.fin = fin := by rw [← hG]; rfl
  have Gc : G.cost = cost := by rw [← hG]; rfl
  have Go : ∀ w, G.own w ↔ H w = true := fun w => by rw [← hG]; exact Iff.rfl
  rw [l0]
  let I : (Int × Int × gZ) → Prop := fun s => ∃ (f len : Nat) (t : gZ), s = ((f : Int), (((f + len) % 841 : Nat) : Int), t) ∧ DQ c G z t f len ∧ ∀ u v, u < kW c → t.1 153 u ≠ 1 → kAdj c u v → cl c G t u v
  let ms : gZ → Nat → Nat := fun t len => msD t (kW c) len
  have fb : ∀ {t : gZ}, DI c G t → smN (farN t) (kW c) ≤ kW c * 1152921504606846976 := fun {t} d => smN_le fun i hi => by
    have := d.b i hi
    unfold farN; unfold NV at this; omega
  have hb : ∀ (t : gZ) (l : Nat), smN (farN t) (kW c) ≤ kW c * 1152921504606846976 → l < 1000 → ms t l < 1000000000000000000000000000000000000000 := fun t l h1 h2 => by
    have h3 : kW c * 1152921504606846976 ≤ 840 * 1152921504606846976 := Nat.mul_le_mul_right _ hW.2
    exact ms_b (Nat.le_trans h1 h3) h2
  refine ok_b1 (fun s => zD z s ∧ DI c G s ∧ ∀ u v, u < kW c → kAdj c u v → cl c G s u v) ?_ fun s ⟨s1, s2, s3⟩ => ok_so ⟨s1, fun w hw => ?_, fun w d hd hl => DI_end GW Ga gr.1 s2 s3 hd hl⟩
  rotate_left
  · by_cases e : s.2 149 w < NV
    · obtain ⟨d, d1, d2⟩ := dst_ex (s2.s w hw e)
      have hbb := s2.b w hw
      exact Or.inr ⟨d, d1, DI_end GW Ga gr.1 s2 s3 d1 (by omega)⟩
    · have hbb := s2.b w hw
      left; omega
  refine it_inv I _ (fun s => ms s.2.2 ((s.2.1 - s.1 + 841) % 841).toNat) ⟨0, len0, e7.2, ?_, ⟨l1, l2, l3⟩, fun u v hu hq ha hf ho hl => absurd (l4 u hu hl) hq⟩ ?_ ?_
  · have := l2.le gr.1
    rw [Nat.zero_add, Nat.mod_eq_of_lt (by omega)]; rfl
  · exact hb e7.2 _ (fb l3) (by omega)
  · rintro s ⟨f, len, t, rfl, D, hcl⟩
    have hle := D.q.le gr.1
    have hf := D.q.fl
    have lenv : (((((f + len) % 841 : Nat) : Int) - (f : Int) + 841) % 841).toNat = len := by omega
    show (∃ s', q_Model_distances_138 E (kL c) (n : Int) (f : Int) (((f + len) % 841 : Nat) : Int) t = some (.inl s') ∧ I s' ∧ ms s'.2.2 ((s'.2.1 - s'.1 + 841) % 841).toNat < ms t (((((f + len) % 841 : Nat) : Int) - (f : Int) + 841) % 841).toNat) ∨ (∃ e, q_Model_distances_138 E (kL c) (n : Int) (f : Int) (((f + len) % 841 : Nat) : Int) t = some (.inr e) ∧ _)
    rw [lenv]
    have ht := DH_o h D.o
    have gt : Gr c t := Gr_o D.o.1 (fun k j h => by unfold pS at h; unfold pDi; omega) gr
    have jt : Jk c t := fun j hj' => by
      unfold jOk
      rw [D.o.1 5 j (by unfold pDi; omega), D.o.1 6 j (by unfold pDi; omega)]; exact hj j hj'
    by_cases e0 : len = 0
    · right
      unfold q_Model_distances_138
      subst e0
      have : (f + 0) % 841 = f := by omega
      rw [this, if_pos rfl]
      refine ⟨t, rfl, D.o, D.d, fun u v hu ha => hcl u v hu ?_ ha⟩
      intro e
      obtain ⟨i, i1, -⟩ := D.q.a u hu e
      omega
    · left
      obtain ⟨len, rfl⟩ : ∃ l, len = l + 1 := ⟨len - 1, by omega⟩
      obtain ⟨w, w1, w2, w3⟩ := D.q.m 0 (by omega)
      rw [show (f + 0) % 841 = f by omega] at w2
      have key : zOk (q_Model_distances_138 E (kL c) (n : Int) (f : Int) (((f + (len + 1)) % 841 : Nat) : Int) t) (fun r => ∃ s', r = .inl s' ∧ I s' ∧ ms s'.2.2 ((s'.2.1 - s'.1 + 841) % 841).toNat < ms t (len + 1)) := by
        unfold q_Model_distances_138
        rw [kL_152, kL_153]
        (refine ok_neg (by omega) ?_); (refine ok_gd (by omega) ?_)
        rw [ok_l, gtN, w2]
        (refine ok_gd (by omega) ?_)
        rw [ok_l, zRem_841 f (by omega)]
        (refine ok_gd (by omega) ?_)
        rw [ok_l, gtN, zBool_n 0 (Or.inl rfl)]
        (refine ok_gd (by omega) ?_)
        rw [ok_l]
        generalize hf' : (f + 1) % 841 = f'
        have hf'l : f' < 841 := by omega
        have o12 : zD t (zPut t 153 w 0) := ⟨o_put (Or.inr rfl), fun _ _ => rfl⟩
        have v12 : ∀ j, (zPut t 153 w 0).1 153 j = if j = w then 0 else t.1 153 j := fun j => by rw [zp1, if_pos rfl]
        have u12 : ∀ j, (zPut t 153 w 0).1 152 j = t.1 152 j := fun j => by rw [zp_ne _ _ _ _ _ (by decide)]
        have e12 : (zPut t 153 w 0).2 = t.2 := rfl
        generalize zPut t 153 w 0 = s12 at o12 v12 u12 e12 ⊢
        have Q12 : QI c s12 f' len := by rw [← hf']; exact D.q.pop gr.1 w2 w1 u12 v12
        have D12 : DI c G s12 := ⟨by rw [e12]; exact D.d.b, by rw [e12]; exact D.d.s, by rw [e12]; exact D.d.o, by rw [e12]; exact D.d.t⟩
        have c12 : ∀ u v, u < kW c → u ≠ w → s12.1 153 u ≠ 1 → kAdj c u v → cl c G s12 u v := fun u v hu hne hq ha => by
          unfold cl
          rw [e12]
          refine hcl u v hu ?_ ha
          rw [v12, if_neg hne] at hq; exact hq
        have Qle := Q12.le gr.1
        obtain ⟨dg, d1, d2, d3, d4, d5⟩ := adj_z gt jt w1
        have ot12 : zD z s12 := zD_t D.o o12
        rw [show ((f + (len + 1)) % 841 : Nat) = (f' + len) % 841 by omega]
        have fw : 0 ≤ t.2 149 w ∧ t.2 149 w ≤ NV := D.d.b w w1
        refine ok_b1 (fun r => ∃ (len' : Nat) (u : gZ), r = ((((f' + len') % 841 : Nat) : Int), u) ∧ DQ c G z u f' len' ∧ (∀ x v, x < kW c → u.1 153 x ≠ 1 → kAdj c x v → cl c G u x v) ∧ ms u len' ≤ ms t len) ?_ fun r ⟨len', u, r1, r2, r3, r4⟩ => ?_
        · refine it_for (fun (i : Nat) (p : Nat × gZ) => ((((f' + p.1) % 841 : Nat) : Int), ((6 * w + i : Nat) : Int), p.2)) (fun i p => DQ c G z p.2 f' p.1 ∧ p.2.2 149 w = t.2 149 w ∧ p.2.1 153 w = 0 ∧ (∀ x v, x < kW c → x ≠ w → p.2.1 153 x ≠ 1 → kAdj c x v → cl c G p.2 x v) ∧ (∀ k v : Nat, k < i → t.1 138 (w * 6 + k) = v → cl c G p.2 w v) ∧ ms p.2 p.1 ≤ ms t len) 0 dg (t := (len, s12)) ?_ ⟨⟨ot12, Q12, D12⟩, by show s12.2 149 w = _; rw [e12], by show s12.1 153 w = 0; rw [v12, if_pos rfl], c12, fun k v hk => by omega, ?_⟩ (by omega) (by omega) ?_ ?_
          · show _ = ((((f' + len) % 841 : Nat) : Int), ((6 * w + 0 : Nat) : Int), s12)
            rw [Nat.add_zero, Int.natCast_mul]; rfl
          · show 1000 * smN (farN s12) (kW c) + len ≤ 1000 * smN (farN t) (kW c) + len
            have : farN s12 = farN t := by funext i; unfold farN; rw [e12]
            rw [this]; exact Nat.le_refl _
          · rintro k ⟨l, u⟩ - hk ⟨⟨ou, qu, du⟩, u1, u2, u3, u4, u5⟩
            have ou : zD z u := ou
            have qu : QI c u f' l := qu
            have du : DI c G u := du
            have u1 : u.2 149 w = t.2 149 w := u1
            have u2 : u.1 153 w = 0 := u2
            have u3 : ∀ x v, x < kW c → x ≠ w → u.1 153 x ≠ 1 → kAdj c x v → cl c G u x v := u3
            have u4 : ∀ k' v : Nat, k' < k → t.1 138 (w * 6 + k') = v → cl c G u w v := u4
            have u5 : ms u l ≤ ms t len := u5
            have hu := DH_o h ou
            have hll := qu.le gr.1
            obtain ⟨v, j, v1, v2, v3, v4, v5, v6, v7⟩ := d4 k hk
            have hne : v ≠ w := fun x => (kAdj_t gr.1 v3).2.2.1 x.symm
            have e140 : u.1 140 w = dg := by rw [ou.1 140 w (by unfold pDi; omega), ← D.o.1 140 w (by unfold pDi; omega)]; exact d3
            have e138 : u.1 138 (w * 6 + k) = v := by rw [ou.1 138 _ (by unfold pDi; omega), ← D.o.1 138 _ (by unfold pDi; omega)]; exact v5
            show zOk (q_Model_distances_174 E (kL c) (n : Int) (f' : Int) (w : Int) (((f' + l) % 841 : Nat) : Int) ((6 * w + k : Nat) : Int) u) _
            have skip : cl c G u w v → zOk (gLet (((6 * w + k : Nat) : Int) + 1) fun x => some (.inl ((((f' + l) % 841 : Nat) : Int), x, u)) : Option ((Int × Int × gZ) ⊕ (Int × gZ))) (fun r => (∃ t' : Nat × gZ, r = Sum.inl ((((f' + t'.1) % 841 : Nat) : Int), ((6 * w + (k + 1) : Nat) : Int), t'.2) ∧ DQ c G z t'.2 f' t'.1 ∧ t'.2.2 149 w = t.2 149 w ∧ t'.2.1 153 w = 0 ∧ (∀ x v, x < kW c → x ≠ w → t'.2.1 153 x ≠ 1 → kAdj c x v → cl c G t'.2 x v) ∧ (∀ k' v : Nat, k' < k + 1 → t.1 138 (w * 6 + k') = v → cl c G t'.2 w v) ∧ ms t'.2 t'.1 ≤ ms t len) ∨ ∃ e : Int × gZ, r = Sum.inr e ∧ ∃ (len' : Nat) (u : gZ), e = ((((f' + len') % 841 : Nat) : Int), u) ∧ DQ c G z u f' len' ∧ (∀ x v, x < kW c → u.1 153 x ≠ 1 → kAdj c x v → cl c G u x v) ∧ ms u len' ≤ ms t len) := fun hv => by
              rw [ok_l]
              refine ok_inl (Or.inl ⟨(l, u), rfl, ⟨ou, qu, du⟩, u1, u2, u3, fun k' v' hk' hv' => ?_, u5⟩)
              by_cases x : k' = k
              · subst x
                rw [v5] at hv'
                have : v' = v := by omega
                rw [this]; exact hv
              · exact u4 k' v' (by omega) hv'
            unfold q_Model_distances_174
            rw [kL_140, kL_138, kL_148, kL_141, kL_149, kL_153, kL_152, gtN, gtN, e140, show (6 * w + k) = w * 6 + k by omega, e138]
            (refine ok_gd (by omega) ?_); (refine ok_gd (by omega) ?_); (refine ok_neg (by omega) ?_); (refine ok_gd (by omega) ?_)
            rw [ok_l]
            (refine ok_gd (by omega) ?_)
            rw [show (840 * (n : Int) + (v : Int)) = ((840 * n + v : Nat) : Int) by omega]
            repeat rw [gtN]
            rw [hu.has v v1]
            rw [show w * 6 + k = 6 * w + k by omega]
            by_cases ef : fin v
            · have hcb := h.cb v
              rw [hu.c1 v v1 ef, u1]
              (refine ok_neg (by omega) ?_); (refine ok_gd (by omega) ?_)
              by_cases eo : H v = true
              · rw [if_pos eo]
                exact ok_neg (by decide) (skip fun _ x => absurd ((Go v).2 eo) x)
              · rw [if_neg eo]
                refine ok_pos rfl ?_
                have hbv := du.b v v1
                unfold NV at fw hbv
                (refine ok_gd (by omega) ?_); (refine ok_gd (by omega) ?_); (refine ok_gd (by omega) ?_)
                refine ok_br (fun e1 => skip fun _ _ _ => ?_) fun e1 => ?_
                · rw [u1, Gc]; exact e1
                · rw [ok_l]
                  have hfw : t.2 149 w < NV := by unfold NV; omega
                  (refine ok_gd (by omega) ?_)
                  have ol : zD u (zPutL u 149 v (t.2 149 w + (cost v : Int))) := ⟨fun k j _ => rfl, fun k hk => funext fun j => by rw [zl2, if_neg hk]⟩
                  have vl2 : ∀ x, (zPutL u 149 v (t.2 149 w + (cost v : Int))).2 149 x = if x = v then t.2 149 w + (cost v : Int) else u.2 149 x := fun x => by rw [zl2, if_pos rfl]
                  have vl1 : (zPutL u 149 v (t.2 149 w + (cost v : Int))).1 = u.1 := rfl
                  generalize zPutL u 149 v (t.2 149 w + (cost v : Int)) = s17 at ol vl2 vl1 ⊢
                  have rw_ : Rch G w (t.2 149 w).toNat := by
                    have := du.s w w1 (by rw [u1]; exact hfw)
                    rw [u1] at this; exact this
                  have dn : ∀ {y : gZ}, y.2 = s17.2 → DI c G y := fun {y} hy => by
                    refine ⟨fun x hx => ?_, fun x hx hl => ?_, fun x hx ho => ?_, fun x hx ho hf ht => ?_⟩
                    · rw [hy, vl2]
                      by_cases ex : x = v
                      · rw [if_pos ex]; unfold NV; omega
                      · rw [if_neg ex]; exact du.b x hx
                    · rw [hy, vl2] at hl ⊢
                      by_cases ex : x = v
                      · rw [if_pos ex, ex]
                        have := Rch.s (g := G) rw_ (by rw [Ga]; exact v3) (by rw [GW]; exact v1) (fun x => eo ((Go v).1 x)) (by rw [Gf]; exact ef)
                        rw [Gc] at this
                        rw [show (t.2 149 w + (cost v : Int)).toNat = (t.2 149 w).toNat + cost v by omega]
                        exact this
                      · rw [if_neg ex] at hl ⊢; exact du.s x hx hl
                    · rw [hy, vl2]
                      by_cases ex : x = v
                      · rw [ex] at ho; exact absurd ((Go v).1 ho) eo
                      · rw [if_neg ex]; exact du.o x hx ho
                    · rw [hy, vl2]
                      by_cases ex : x = v
                      · rw [if_pos ex]
                        have := du.t x hx ho hf ht
                        rw [ex] at this ⊢; omega
                      · rw [if_neg ex]; exact du.t x hx ho hf ht
                  have sm : smN (farN s17) (kW c) < smN (farN u) (kW c) := by
                    refine smN_u v1 ?_ fun i hi => ?_
                    · unfold farN; rw [vl2, if_pos rfl]; omega
                    · unfold farN; rw [vl2, if_neg hi]
                  have cn : ∀ {y : gZ}, y.2 = s17.2 → (∀ x, y.1 153 x = 1 ∨ y.1 153 x = u.1 153 x) → y.1 153 v = 1 → (∀ x v', x < kW c → x ≠ w → y.1 153 x ≠ 1 → kAdj c x v' → cl c G y x v') ∧ ∀ k' v' : Nat, k' < k + 1 → t.1 138 (w * 6 + k') = v' → cl c G y w v' := fun {y} hy hq hqv => by
                    have low : ∀ x, y.2 149 x ≤ u.2 149 x := fun x => by
                      rw [hy, vl2]
                      by_cases ex : x = v
                      · rw [if_pos ex, ex]; omega
                      · rw [if_neg ex]; exact Int.le_refl _
                    have wsame : y.2 149 w = u.2 149 w := by rw [hy, vl2, if_neg fun x => hne x.symm]
                    refine ⟨fun x v' hx hxw hxq ha hf ho hl => ?_, fun k' v' hk' hv' hf ho hl => ?_⟩
                    · have hxv : x ≠ v := fun e => hxq (by rw [e]; exact hqv)
                      have e5 : y.2 149 x = u.2 149 x := by rw [hy, vl2, if_neg hxv]
                      have hxq' : u.1 153 x ≠ 1 := fun e => by
                        rcases hq x with q | q
                        · exact hxq q
                        · exact hxq (by rw [q]; exact e)
                      rw [e5] at hl ⊢
                      have := u3 x v' hx hxw hxq' ha hf ho hl
                      have := low v'
                      omega
                    · rw [wsame] at hl ⊢
                      by_cases ek : k' = k
                      · subst ek
                        rw [v5] at hv'
                        have : v' = v := by omega
                        rw [this, hy, vl2, if_pos rfl, u1, Gc]; exact Int.le_refl _
                      · have := u4 k' v' (by omega) hv' hf ho hl
                        have := low v'
                        omega
                  have ms17 : ∀ {y : gZ} (l' : Nat), y.2 = s17.2 → l' ≤ l + 1 → ms y l' ≤ ms t len := fun {y} l' hy hl' => by
                    show 1000 * smN (farN y) (kW c) + l' ≤ _
                    have : farN y = farN s17 := by funext i; unfold farN; rw [hy]
                    rw [this]
                    have u5 : 1000 * smN (farN u) (kW c) + l ≤ ms t len := u5
                    omega
                  rw [vl1]
                  refine ok_br (fun e2 => ?_) fun e2 => ?_
                  · rw [ok_l, zBool_n 1 (Or.inr rfl)]
                    (refine ok_gd (by omega) ?_)
                    rw [ok_l]
                    (refine ok_gd (by omega) ?_)
                    rw [ok_l, ok_l, zRem_841 ((f' + l) % 841) (by omega), show ((f' + l) % 841 + 1) % 841 = (f' + (l + 1)) % 841 by omega]
                    have x2 : ∀ j, (zPut (zPut s17 153 v 1) 152 ((f' + l) % 841) (v : Int)).1 152 j = if j = (f' + l) % 841 then (v : Int) else u.1 152 j := fun j => by rw [zp1, if_pos rfl, zp_ne _ _ _ _ _ (by decide), vl1]
                    have x3 : ∀ j, (zPut (zPut s17 153 v 1) 152 ((f' + l) % 841) (v : Int)).1 153 j = if j = v then 1 else u.1 153 j := fun j => by rw [zp_ne _ _ _ _ _ (by decide), zp1, if_pos rfl, vl1]
                    have x9 : (zPut (zPut s17 153 v 1) 152 ((f' + l) % 841) (v : Int)).2 = s17.2 := rfl
                    have xo : zD s17 (zPut (zPut s17 153 v 1) 152 ((f' + l) % 841) (v : Int)) := ⟨o_t (o_put (Or.inr rfl)) (o_put (Or.inl rfl)), fun _ _ => rfl⟩
                    generalize zPut (zPut s17 153 v 1) 152 ((f' + l) % 841) (v : Int) = y at x2 x3 x9 xo ⊢
                    have qy := qu.push gr.1 v1 e2 x2 x3
                    obtain ⟨cy1, cy2⟩ := cn x9 (fun x => by rw [x3]; split; exact Or.inl rfl; exact Or.inr rfl) (by rw [x3, if_pos rfl])
                    refine ok_inl (Or.inl ⟨(l + 1, y), rfl, ⟨zD_t (zD_t ou ol) xo, qy, dn x9⟩, ?_, ?_, cy1, cy2, ms17 (l + 1) x9 (Nat.le_refl _)⟩)
                    · show y.2 149 w = _
                      rw [x9, vl2, if_neg fun x => hne x.symm]; exact u1
                    · show y.1 153 w = 0
                      rw [x3, if_neg fun x => hne x.symm]; exact u2
                  · have hq1 : u.1 153 v = 1 := by
                      rcases qu.b v v1 with x | x
                      · exact absurd x e2
                      · exact x
                    obtain ⟨cy1, cy2⟩ := cn (y := s17) rfl (fun x => Or.inr (by rw [vl1])) (by rw [vl1]; exact hq1)
                    rw [ok_l]
                    have qy : QI c s17 f' l := ⟨qu.fl, by rw [vl1]; exact qu.b, by rw [vl1]; exact qu.l, by rw [vl1]; exact qu.m, by rw [vl1]; exact qu.ij, by rw [vl1]; exact qu.a⟩
                    refine ok_inl (Or.inl ⟨(l, s17), rfl, ⟨zD_t ou ol, qy, dn rfl⟩, ?_, ?_, cy1, cy2, ms17 l rfl (by omega)⟩)
                    · show s17.2 149 w = _
                      rw [vl2, if_neg fun x => hne x.symm]; exact u1
                    · show s17.1 153 w = 0
                      rw [vl1]; exact u2
            · rw [hu.c0 v v1 ef]
              refine ok_pos (by unfold NV; omega) (skip fun x => ?_)
              rw [Gf] at x; exact absurd x ef
          · rintro ⟨l, u⟩ ⟨⟨ou, qu, du⟩, u1, u2, u3, u4, u5⟩
            have ou : zD z u := ou
            have u2 : u.1 153 w = 0 := u2
            have u3 : ∀ x v, x < kW c → x ≠ w → u.1 153 x ≠ 1 → kAdj c x v → cl c G u x v := u3
            have u4 : ∀ k' v : Nat, k' < dg → t.1 138 (w * 6 + k') = v → cl c G u w v := u4
            have e140 : u.1 140 w = dg := by rw [ou.1 140 w (by unfold pDi; omega), ← D.o.1 140 w (by unfold pDi; omega)]; exact d3
            show zOk (q_Model_distances_174 E (kL c) (n : Int) (f' : Int) (w : Int) (((f' + l) % 841 : Nat) : Int) ((6 * w + dg : Nat) : Int) u) _
            unfold q_Model_distances_174
            rw [kL_140, gtN, e140]
            (refine ok_gd (by omega) ?_); (refine ok_gd (by omega) ?_); (refine ok_pos (by omega) ?_)
            refine ok_inr ⟨_, rfl, l, u, rfl, ⟨ou, qu, du⟩, fun x v hx hq ha => ?_, u5⟩
            by_cases ex : x = w
            · subst ex
              obtain ⟨k, k1, k2⟩ := d5 v ha
              obtain ⟨v', j', v1', -, -, v4', v5', -, -⟩ := d4 k k1
              refine u4 k v k1 ?_
              rw [v5']; rw [v4'] at k2; exact k2
            · exact u3 x v hx ex hq ha
        · subst r1
          refine ok_so ⟨_, rfl, ⟨f', len', u, rfl, r2, r3⟩, ?_⟩
          have hl' := r2.q.le gr.1
          show ms u (((((f' + len') % 841 : Nat) : Int) - (f' : Int) + 841) % 841).toNat < ms t (len + 1)
          rw [show (((((f' + len') % 841 : Nat) : Int) - (f' : Int) + 841) % 841).toNat = len' by omega]
          have : ms t (len + 1) = ms t len + 1 := by show 1000 * _ + (len + 1) = 1000 * _ + len + 1; omega
          omega
      obtain ⟨r, k1, s', k2, k3, k4⟩ := key
      subst k2
      exact ⟨s', k1, k3, k4⟩
end
-- Y7
section
variable {E : gEv} {c : gCf}
/-- a spot touches 40 wires at most -/
noncomputable def tcB (c : gCf) (sp : Nat) : Nat → Bool := fun w => @decide (kTc c sp w) (Classical.propDecidable _)
theorem tcB_t {sp w : Nat} : tcB c sp w = true ↔ kTc c sp w := by
  unfold tcB
  constructor
  · exact fun h => @of_decide_eq_true _ (Classical.propDecidable _) h
  · exact fun h => @decide_eq_true _ (Classical.propDecidable _) h
theorem tcB_b (hk : kOk c) (sp n : Nat) : cnb (tcB c sp) n ≤ 40 := by
  obtain ⟨-, -, -, ⟨t1, t2⟩⟩ := id hk
  let iv : Nat → Nat → Bool := fun s w => decide ((tF c sp s).toNat ≤ w ∧ w < (tF c sp s).toNat + kT c)
  have ivb : ∀ s, cnb (iv s) n ≤ kT c := fun s => cnb_iv _ _ _
  have h3 : cnb (fun w => iv 2 w || iv 3 w) n ≤ cnb (iv 2) n + cnb (iv 3) n := cnb_or fun i _ h => by rw [Bool.or_eq_true] at h; exact h
  have h2 : cnb (fun w => iv 1 w || (iv 2 w || iv 3 w)) n ≤ cnb (iv 1) n + cnb (fun w => iv 2 w || iv 3 w) n := cnb_or fun i _ h => by rw [Bool.or_eq_true] at h; exact h
  have h1 : cnb (tcB c sp) n ≤ cnb (iv 0) n + cnb (fun w => iv 1 w || (iv 2 w || iv 3 w)) n := cnb_or fun i _ h => by
    obtain ⟨s, s1, s2, s3, s4⟩ := tcB_t.1 h
    have hs : iv s i = true := decide_eq_true (by omega)
    show iv 0 i = true ∨ (iv 1 i || (iv 2 i || iv 3 i)) = true
    rw [Bool.or_eq_true, Bool.or_eq_true]
    have : s = 0 ∨ s = 1 ∨ s = 2 ∨ s = 3 := by omega
    rcases this with x | x | x | x <;> subst x
    · exact Or.inl hs
    · exact Or.inr (Or.inl hs)
    · exact Or.inr (Or.inr (Or.inl hs))
    · exact Or.inr (Or.inr (Or.inr hs))
  have := ivb 0
  have := ivb 1
  have := ivb 2
  have := ivb 3
  omega
/-- what the reference has of a net: its wires, and lists of how they are linked -/
abbrev ER (c : gCf) (n sp : Nat) (H : Nat → Bool) (l : Nat → Int) (z : gZ) (jm dm : Nat) : Prop := ∃ _ : (∀ w, w < kW c → z.1 141 (840 * n + w) = if H w = true then 1 else 0), ∃ _ : (∀ w, H w = true → w < kW c), ∃ _ : (z.1 143 n = jm), ∃ _ : (z.1 145 n = dm), ∃ _ : (jm + dm = cnb H (kW c)), ∃ _ : (dm = cnb (fun w => H w && decide (l w = -1)) (kW c)), ∃ _ : (∀ i, i < jm → ∃ w, H w = true ∧ 0 ≤ l w ∧ z.1 142 (840 * n + i) = kZ c + l w), ∃ _ : (∀ w, H w = true → 0 ≤ l w → ∃ i, i < jm ∧ z.1 142 (840 * n + i) = kZ c + l w), ∃ _ : (∀ i, i < dm → ∃ w, H w = true ∧ l w = -1 ∧ z.1 144 (50 * n + i) = (w : Nat)), ∃ _ : (∀ w, H w = true → l w = -1 → ∃ i, i < dm ∧ z.1 144 (50 * n + i) = (w : Nat)), ∃ _ : (∀ w, H w = true → l w = -1 ∨ (0 ≤ l w ∧ l w < kJ c)), (∀ w, H w = true → l w = -1 → kTc c sp w)
theorem ER.has {c : gCf} {n sp : Nat} {H : Nat → Bool} {l : Nat → Int} {z : gZ} {jm dm : Nat} (h : ER c n sp H l z jm dm) : ∀ w, w < kW c → z.1 141 (840 * n + w) = if H w = true then 1 else 0 := by obtain ⟨x, _⟩ := h; exact x
theorem ER.hW {c : gCf} {n sp : Nat} {H : Nat → Bool} {l : Nat → Int} {z : gZ} {jm dm : Nat} (h : ER c n sp H l z jm dm) : ∀ w, H w = true → w < kW c := by obtain ⟨_, x, _⟩ := h; exact x
theorem ER.zj {c : gCf} {n sp : Nat} {H : Nat → Bool} {l : Nat → Int} {z : gZ} {jm dm : Nat} (h : ER c n sp H l z jm dm) : z.1 143 n = jm := by obtain ⟨_, _, x, _⟩ := h; exact x
theorem ER.zd {c : gCf} {n sp : Nat} {H : Nat → Bool} {l : Nat → Int} {z : gZ} {jm dm : Nat} (h : ER c n sp H l z jm dm) : z.1 145 n = dm := by obtain ⟨_, _, _, x, _⟩ := h; exact x
theorem ER.jd {c : gCf} {n sp : Nat} {H : Nat → Bool} {l : Nat → Int} {z : gZ} {jm dm : Nat} (h : ER c n sp H l z jm dm) : jm + dm = cnb H (kW c) := by obtain ⟨_, _, _, _, x, _⟩ := h; exact x
theorem ER.dd {c : gCf} {n sp : Nat} {H : Nat → Bool} {l : Nat → Int} {z : gZ} {jm dm : Nat} (h : ER c n sp H l z jm dm) : dm = cnb (fun w => H w && decide (l w = -1)) (kW c) := by obtain ⟨_, _, _, _, _, x, _⟩ := h; exact x
theorem ER.j1 {c : gCf} {n sp : Nat} {H : Nat → Bool} {l : Nat → Int} {z : gZ} {jm dm : Nat} (h : ER c n sp H l z jm dm) : ∀ i, i < jm → ∃ w, H w = true ∧ 0 ≤ l w ∧ z.1 142 (840 * n + i) = kZ c + l w := by obtain ⟨_, _, _, _, _, _, x, _⟩ := h; exact x
theorem ER.j2 {c : gCf} {n sp : Nat} {H : Nat → Bool} {l : Nat → Int} {z : gZ} {jm dm : Nat} (h : ER c n sp H l z jm dm) : ∀ w, H w = true → 0 ≤ l w → ∃ i, i < jm ∧ z.1 142 (840 * n + i) = kZ c + l w := by obtain ⟨_, _, _, _, _, _, _, x, _⟩ := h; exact x
theorem ER.d1 {c : gCf} {n sp : Nat} {H : Nat → Bool} {l : Nat → Int} {z : gZ} {jm dm : Nat} (h : ER c n sp H l z jm dm) : ∀ i, i < dm → ∃ w, H w = true ∧ l w = -1 ∧ z.1 144 (50 * n + i) = (w : Nat) := by obtain ⟨_, _, _, _, _, _, _, _, x, _⟩ := h; exact x
theorem ER.d2 {c : gCf} {n sp : Nat} {H : Nat → Bool} {l : Nat → Int} {z : gZ} {jm dm : Nat} (h : ER c n sp H l z jm dm) : ∀ w, H w = true → l w = -1 → ∃ i, i < dm ∧ z.1 144 (50 * n + i) = (w : Nat) := by obtain ⟨_, _, _, _, _, _, _, _, _, x, _⟩ := h; exact x
theorem ER.lv {c : gCf} {n sp : Nat} {H : Nat → Bool} {l : Nat → Int} {z : gZ} {jm dm : Nat} (h : ER c n sp H l z jm dm) : ∀ w, H w = true → l w = -1 ∨ (0 ≤ l w ∧ l w < kJ c) := by obtain ⟨_, _, _, _, _, _, _, _, _, _, x, _⟩ := h; exact x
theorem ER.td {c : gCf} {n sp : Nat} {H : Nat → Bool} {l : Nat → Int} {z : gZ} {jm dm : Nat} (h : ER c n sp H l z jm dm) : ∀ w, H w = true → l w = -1 → kTc c sp w := by obtain ⟨_, _, _, _, _, _, _, _, _, _, _, x⟩ := h; exact x
theorem ER.db {n sp jm dm : Nat} {H : Nat → Bool} {l : Nat → Int} {z : gZ} (hk : kOk c) (h : ER c n sp H l z jm dm) {w : Nat} (hw : w < kW c) (hH : H w = false) (ht : kTc c sp w) : dm < 40 := by
  have h1 : cnb (fun v => (H v && decide (l v = -1)) || decide (v = w)) (kW c) = dm + 1 := by
    rw [h.dd]
    refine cnb_add hw (by rw [hH]; rfl) ?_ fun i hi => ?_
    · show ((H w && decide (l w = -1)) || decide (w = w)) = true
      rw [decide_eq_true rfl, Bool.or_true]
    · show ((H i && decide (l i = -1)) || decide (i = w)) = _
      rw [decide_eq_false hi, Bool.or_false]
  have h2 : cnb (fun v => (H v && decide (l v = -1)) || decide (v = w)) (kW c) ≤ cnb (tcB c sp) (kW c) := cnb_mono fun i _ hh => by
    rw [tcB_t]
    rw [Bool.or_eq_true, Bool.and_eq_true] at hh
    rcases hh with ⟨a, b⟩ | a
    · exact h.td i a (of_decide_eq_true b)
    · rw [of_decide_eq_true a]; exact ht
  have := tcB_b hk sp (kW c)
  omega
/-- one wire more: joined -/
theorem ER.join {n sp jm dm w j : Nat} {H : Nat → Bool} {l : Nat → Int} {z s : gZ} (h : ER c n sp H l z jm dm) (hw : w < kW c) (hH : H w = false) (hjj : j < kJ c) (e1 : ∀ v, v < kW c → s.1 141 (840 * n + v) = if v = w then 1 else z.1 141 (840 * n + v)) (e2 : ∀ i, i ≤ jm → s.1 142 (840 * n + i) = if i = jm then (kZ c : Int) + j else z.1 142 (840 * n + i)) (e3 : s.1 143 n = ((jm + 1 : Nat) : Int)) (e4 : ∀ i, i < dm → s.1 144 (50 * n + i) = z.1 144 (50 * n + i)) (e5 : s.1 145 n = z.1 145 n) : ER c n sp (updB H w) (zUpd l w j) s (jm + 1) dm := by
  have cn : cnb (updB H w) (kW c) = cnb H (kW c) + 1 := cnb_add hw hH (updB_e H w) fun i hi => updB_n hi
  have key : ∀ v, updB H w v = true → v = w ∨ (v ≠ w ∧ H v = true) := fun v hv => by
    by_cases e : v = w
    · exact Or.inl e
    · rw [updB_n e] at hv; exact Or.inr ⟨e, hv⟩
  refine ⟨fun v hv => ?_, fun v hv => ?_, e3, by rw [e5]; exact h.zd, by rw [cn, ← h.jd]; omega, ?_, fun i hi => ?_, fun v hv hl => ?_, fun i hi => ?_, fun v hv hl => ?_, fun v hv => ?_, fun v hv hl => ?_⟩
  · rw [e1 v hv]
    by_cases e : v = w
    · rw [if_pos e, e, updB_e, if_pos rfl]
    · rw [if_neg e, updB_n e]; exact h.has v hv
  · rcases key v hv with x | ⟨-, x⟩
    · rw [x]; exact hw
    · exact h.hW v x
  · rw [h.dd]
    refine cnb_c fun i hi => ?_
    by_cases e : i = w
    · show (H i && decide (l i = -1)) = (updB H w i && decide (zUpd l w j i = -1))
      rw [e, hH, updB_e, zUpd_e, show decide ((j : Int) = -1) = false from decide_eq_false (by omega)]; rfl
    · rw [updB_n e, zUpd_n e]
  · rw [e2 i (by omega)]
    by_cases e : i = jm
    · rw [if_pos e]; exact ⟨w, updB_e H w, by rw [zUpd_e]; omega, by rw [zUpd_e]⟩
    · rw [if_neg e]
      obtain ⟨v, a, b, d⟩ := h.j1 i (by omega)
      have ne : v ≠ w := fun x => by rw [x, hH] at a; cases a
      exact ⟨v, by rw [updB_n ne]; exact a, by rw [zUpd_n ne]; exact b, by rw [zUpd_n ne]; exact d⟩
  · rcases key v hv with x | ⟨ne, x⟩
    · exact ⟨jm, by omega, by rw [e2 jm (Nat.le_refl _), if_pos rfl, x, zUpd_e]⟩
    · rw [zUpd_n ne] at hl ⊢
      obtain ⟨i, a, b⟩ := h.j2 v x hl
      exact ⟨i, by omega, by rw [e2 i (by omega), if_neg (by omega)]; exact b⟩
  · rw [e4 i hi]
    obtain ⟨v, a, b, d⟩ := h.d1 i hi
    have ne : v ≠ w := fun x => by rw [x, hH] at a; cases a
    exact ⟨v, by rw [updB_n ne]; exact a, by rw [zUpd_n ne]; exact b, d⟩
  · rcases key v hv with x | ⟨ne, x⟩
    · rw [x, zUpd_e] at hl; omega
    · rw [zUpd_n ne] at hl
      obtain ⟨i, a, b⟩ := h.d2 v x hl
      exact ⟨i, a, by rw [e4 i a]; exact b⟩
  · rcases key v hv with x | ⟨ne, x⟩
    · rw [x, zUpd_e]; right; exact ⟨by omega, by omega⟩
    · rw [zUpd_n ne]; exact h.lv v x
  · rcases key v hv with x | ⟨ne, x⟩
    · rw [x, zUpd_e] at hl; omega
    · rw [zUpd_n ne] at hl; exact h.td v x hl
/-- one wire more: driven -/
theorem ER.driv {n sp jm dm w : Nat} {H : Nat → Bool} {l : Nat → Int} {z s : gZ} (h : ER c n sp H l z jm dm) (hw : w < kW c) (hH : H w = false) (ht : kTc c sp w) (e1 : ∀ v, v < kW c → s.1 141 (840 * n + v) = if v = w then 1 else z.1 141 (840 * n + v)) (e2 : ∀ i, i < jm → s.1 142 (840 * n + i) = z.1 142 (840 * n + i)) (e3 : s.1 143 n = z.1 143 n) (e4 : ∀ i, i ≤ dm → s.1 144 (50 * n + i) = if i = dm then (w : Int) else z.1 144 (50 * n + i)) (e5 : s.1 145 n = ((dm + 1 : Nat) : Int)) : ER c n sp (updB H w) (zUpd l w (-1)) s jm (dm + 1) := by
  have cn : cnb (updB H w) (kW c) = cnb H (kW c) + 1 := cnb_add hw hH (updB_e H w) fun i hi => updB_n hi
  have key : ∀ v, updB H w v = true → v = w ∨ (v ≠ w ∧ H v = true) := fun v hv => by
    by_cases e : v = w
    · exact Or.inl e
    · rw [updB_n e] at hv; exact Or.inr ⟨e, hv⟩
  refine ⟨fun v hv => ?_, fun v hv => ?_, by rw [e3]; exact h.zj, e5, by rw [cn, ← h.jd]; omega, ?_, fun i hi => ?_, fun v hv hl => ?_, fun i hi => ?_, fun v hv hl => ?_, fun v hv => ?_, fun v hv hl => ?_⟩
  · rw [e1 v hv]
    by_cases e : v = w
    · rw [if_pos e, e, updB_e, if_pos rfl]
    · rw [if_neg e, updB_n e]; exact h.has v hv
  · rcases key v hv with x | ⟨-, x⟩
    · rw [x]; exact hw
    · exact h.hW v x
  · rw [h.dd]
    refine (cnb_add hw (by rw [hH]; rfl) ?_ fun i hi => ?_).symm
    · show (updB H w w && decide (zUpd l w (-1) w = -1)) = true
      rw [updB_e, zUpd_e]; rfl
    · show (updB H w i && decide (zUpd l w (-1) i = -1)) = _
      rw [updB_n hi, zUpd_n hi]
  · rw [e2 i hi]
    obtain ⟨v, a, b, d⟩ := h.j1 i hi
    have ne : v ≠ w := fun x => by rw [x, hH] at a; cases a
    exact ⟨v, by rw [updB_n ne]; exact a, by rw [zUpd_n ne]; exact b, by rw [zUpd_n ne]; exact d⟩
  · rcases key v hv with x | ⟨ne, x⟩
    · rw [x, zUpd_e] at hl; omega
    · rw [zUpd_n ne] at hl ⊢
      obtain ⟨i, a, b⟩ := h.j2 v x hl
      exact ⟨i, a, by rw [e2 i a]; exact b⟩
  · rw [e4 i (by omega)]
    by_cases e : i = dm
    · rw [if_pos e]; exact ⟨w, updB_e H w, zUpd_e _ _ _, rfl⟩
    · rw [if_neg e]
      obtain ⟨v, a, b, d⟩ := h.d1 i (by omega)
      have ne : v ≠ w := fun x => by rw [x, hH] at a; cases a
      exact ⟨v, by rw [updB_n ne]; exact a, by rw [zUpd_n ne]; exact b, d⟩
  · rcases key v hv with x | ⟨ne, x⟩
    · exact ⟨dm, by omega, by rw [e4 dm (Nat.le_refl _), if_pos rfl, x]⟩
    · rw [zUpd_n ne] at hl
      obtain ⟨i, a, b⟩ := h.d2 v x hl
      exact ⟨i, by omega, by rw [e4 i (by omega), if_neg (by omega)]; exact b⟩
  · rcases key v hv with x | ⟨ne, x⟩
    · rw [x, zUpd_e]; exact Or.inl rfl
    · rw [zUpd_n ne]; exact h.lv v x
  · rcases key v hv with x | ⟨ne, x⟩
    · rw [x]; exact ht
    · rw [zUpd_n ne] at hl; exact h.td v x hl
/-- distances as the reference has them -/
def FrO (c : gCf) (g : Gph) (t : gZ) : Prop := (∀ w, w < kW c → t.2 149 w = NV ∨ ∃ d : Nat, Dst g w d ∧ t.2 149 w = d) ∧ ∀ w d, Dst g w d → t.2 149 w = d
/-- the scan for the next wire -/
theorem s_scanM {z : gZ} {g : Gph} {w D n : Nat} (gr : Gr c z) (hj : Jk c z) (hw : w < kW c) (hGa : g.adj = kAdj c) (hF : FrO c g z) (hc : z.2 148 w = g.cost w) (hcb : ∀ w, 1 ≤ g.cost w ∧ g.cost w ≤ 16000000) (hD : Dst g w D) (hDb : D < 2147483648) (ho : ¬ g.own w) {v k : Nat} (hp : Pick z w (fun v => ∃ m, Dst g v m ∧ m + g.cost w = D) (dgZ z w) v k) : gIter (fun y => q_Model_routeSink_274 E (kL c) (n : Int) (w : Int) y.1 y.2.1 y.2.2 z) gN (-1, -1, 6 * (w : Int)) = some ((v : Int), ((kZ c + jnZ z w k : Nat) : Int)) := by
  have hW := kW_b gr.1
  obtain ⟨d, d1, d2, d3, d4, d5⟩ := adj_z gr hj hw
  have hdg : dgZ z w = d := by unfold dgZ; rw [d2, gtN]
  rw [hdg] at hp
  have fw := hF.2 w D hD
  have cw := hc
  have hcw := hcb w
  generalize hA : (fun v => ∃ m, Dst g v m ∧ m + g.cost w = D) = A at hp
  have hA' : ∀ v, A v ↔ ∃ m, Dst g v m ∧ m + g.cost w = D := fun v => by rw [← hA]
  have nbv : ∀ k, k < d → nbZ' z w k < kW c ∧ z.1 138 (w * 6 + k) = (nbZ' z w k : Int) ∧ z.1 139 (w * 6 + k) = ((kZ c + jnZ z w k : Nat) : Int) := fun k hk => by
    obtain ⟨v, j, v1, v2, v3, v4, v5, v6, v7⟩ := d4 k hk
    unfold nbZ' jnZ
    rw [v4, v5, v6, v7]
    refine ⟨?_, ?_, ?_⟩
    · omega
    · rw [gtN]
    · rw [gtN]
  have cand : ∀ v, v < kW c → (z.2 149 v = (D : Int) - g.cost w ↔ A v) := fun v hv => by
    rw [hA']
    constructor
    · intro e
      rcases hF.1 v hv with x | ⟨m, x1, x2⟩
      · unfold NV at x; omega
      · exact ⟨m, x1, by omega⟩
    · rintro ⟨m, m1, m2⟩
      rw [hF.2 v m m1]; omega
  have main : zOk (gIter (fun y => q_Model_routeSink_274 E (kL c) (n : Int) (w : Int) y.1 y.2.1 y.2.2 z) gN (-1, -1, 6 * (w : Int))) (fun r => ∃ v k : Nat, r = ((v : Int), ((kZ c + jnZ z w k : Nat) : Int)) ∧ Pick z w A d v k) := by
    refine it_for (fun (i : Nat) (t : Int × Int) => (t.1, t.2, ((w * 6 + i : Nat) : Int))) (fun i t => (t.1 = -1 ∧ ∀ k', k' < i → ¬ A (nbZ' z w k')) ∨ ∃ v k : Nat, t = ((v : Int), ((kZ c + jnZ z w k : Nat) : Int)) ∧ Pick z w A i v k) 0 d (t := (-1, -1)) ?_ (Or.inl ⟨rfl, fun k hk => by omega⟩) (by omega) (by omega) ?_ ?_
    · show _ = ((-1 : Int), (-1 : Int), ((w * 6 + 0 : Nat) : Int))
      rw [show ((w * 6 + 0 : Nat) : Int) = 6 * (w : Int) by omega]
    · rintro i ⟨nx, bt⟩ - hi h
      obtain ⟨n1, n2, n3⟩ := nbv i hi
      show zOk (q_Model_routeSink_274 E (kL c) (n : Int) (w : Int) nx bt ((w * 6 + i : Nat) : Int) z) _
      have put : A (nbZ' z w i) → ((∀ k', k' < i → ¬ A (nbZ' z w k')) ∨ ∃ v k, Pick z w A i v k ∧ nbZ' z w i < v) → zOk (q_Model_routeSink_j340_274 E (kL c) (n : Int) (w : Int) ((w * 6 + i : Nat) : Int) (nbZ' z w i : Int) z) (fun r => (∃ t' : Int × Int, r = Sum.inl (t'.1, t'.2, ((w * 6 + (i + 1) : Nat) : Int)) ∧ ((t'.1 = -1 ∧ ∀ k', k' < i + 1 → ¬ A (nbZ' z w k')) ∨ ∃ v k : Nat, t' = ((v : Int), ((kZ c + jnZ z w k : Nat) : Int)) ∧ Pick z w A (i + 1) v k)) ∨ ∃ e : Int × Int, r = Sum.inr e ∧ ∃ v k : Nat, e = ((v : Int), ((kZ c + jnZ z w k : Nat) : Int)) ∧ Pick z w A d v k) := fun a b => by
        unfold q_Model_routeSink_j340_274
        rw [kL_139]
        (refine ok_gd (by omega) ?_)
        rw [ok_l, gtN, n3]
        (refine ok_gd (by omega) ?_)
        rw [ok_l]
        exact ok_inl (Or.inl ⟨((nbZ' z w i : Int), ((kZ c + jnZ z w i : Nat) : Int)), rfl, Or.inr ⟨nbZ' z w i, i, rfl, pick_n a b⟩⟩)
      have skip : (A (nbZ' z w i) → ∃ v k : Nat, (nx, bt) = ((v : Int), ((kZ c + jnZ z w k : Nat) : Int)) ∧ Pick z w A i v k ∧ v ≤ nbZ' z w i) → zOk (gLet (((w * 6 + i : Nat) : Int) + 1) fun x6 => some (.inl (nx, bt, x6)) : Option ((Int × Int × Int) ⊕ (Int × Int))) (fun r => (∃ t' : Int × Int, r = Sum.inl (t'.1, t'.2, ((w * 6 + (i + 1) : Nat) : Int)) ∧ ((t'.1 = -1 ∧ ∀ k', k' < i + 1 → ¬ A (nbZ' z w k')) ∨ ∃ v k : Nat, t' = ((v : Int), ((kZ c + jnZ z w k : Nat) : Int)) ∧ Pick z w A (i + 1) v k)) ∨ ∃ e : Int × Int, r = Sum.inr e ∧ ∃ v k : Nat, e = ((v : Int), ((kZ c + jnZ z w k : Nat) : Int)) ∧ Pick z w A d v k) := fun a => by
        rw [ok_l]
        refine ok_inl (Or.inl ⟨(nx, bt), rfl, ?_⟩)
        by_cases e : A (nbZ' z w i)
        · obtain ⟨v, k, a1, a2, a4⟩ := a e
          exact Or.inr ⟨v, k, a1, pick_s a2 fun _ => a4⟩
        · rcases h with ⟨h1, h3⟩ | ⟨v, k', h1, h2⟩
          · refine Or.inl ⟨h1, fun k' hk' => ?_⟩
            by_cases x : k' = i
            · rw [x]; exact e
            · exact h3 k' (by omega)
          · exact Or.inr ⟨v, k', h1, pick_s h2 fun x => absurd x e⟩
      unfold q_Model_routeSink_274
      rw [kL_140, kL_138, kL_149, kL_148, gtN, gtN, d3, n2]
      (refine ok_gd (by omega) ?_); (refine ok_gd (by omega) ?_); (refine ok_neg (by omega) ?_); (refine ok_gd (by omega) ?_)
      rw [ok_l]
      (refine ok_gd (by omega) ?_); (refine ok_gd (by omega) ?_); (refine ok_gd (by omega) ?_)
      rw [fw, cw, gtN]
      (refine ok_gd (by omega) ?_)
      refine ok_br (fun e => ?_) fun e => skip fun x => absurd ((cand _ n1).2 x) e
      have a : A (nbZ' z w i) := (cand _ n1).1 e
      refine ok_br (fun e1 => ?_) fun e1 => ?_
      · rcases h with ⟨h1, h3⟩ | ⟨v, k', h1, h2⟩
        · exact put a (Or.inl h3)
        · have := (Prod.mk.inj h1).1; omega
      · rcases h with ⟨h1, h3⟩ | ⟨v, k', h1, h2⟩
        · exact absurd h1 e1
        · have := (Prod.mk.inj h1).1
          exact ok_br (fun e2 => skip fun _ => ⟨v, k', h1, h2, by omega⟩) fun e2 => put a (Or.inr ⟨v, k', h2, by omega⟩)
    · rintro ⟨nx, bt⟩ h
      show zOk (q_Model_routeSink_274 E (kL c) (n : Int) (w : Int) nx bt ((w * 6 + d : Nat) : Int) z) _
      unfold q_Model_routeSink_274
      rw [kL_140, gtN, d3]
      (refine ok_gd (by omega) ?_); (refine ok_gd (by omega) ?_); (refine ok_pos (by omega) ?_)
      rcases h with ⟨h1, h3⟩ | ⟨v', k', h1, h2⟩
      · exact absurd hp.2.2.1 (by rw [← hp.2.1]; exact h3 k hp.1)
      · exact ok_inr ⟨_, rfl, v', k', h1, h2⟩
  obtain ⟨r, r1, v', k', r2, r3⟩ := main
  obtain ⟨e1, e2⟩ := pick_u hp r3
  rw [r1, r2, e1, e2]
end
-- Y8
section
variable {E : gEv} {c : gCf}
def pWm (n k j : Nat) : Prop := (k = 141 ∧ 840 * n ≤ j ∧ j < 840 * n + 840) ∨ (k = 142 ∧ 840 * n ≤ j ∧ j < 840 * n + 840) ∨ (k = 143 ∧ j = n) ∨ (k = 144 ∧ 50 * n ≤ j ∧ j < 50 * n + 50) ∨ (k = 145 ∧ j = n) ∨ k = 147
def HV (c : gCf) (k0 : Nat → Nat) (H : Nat → Bool) (z : gZ) : Prop := ∀ w, w < kW c → z.1 147 w = k0 w + (if H w = true then 1 else 0)
theorem s_walkM {z : gZ} {fin : Nat → Prop} {n sp e jm dm : Nat} {k0 : Nat → Nat} {cost : Nat → Nat} {H0 H' : Nat → Bool} {l0 l' : Nat → Int} (gr : Gr c z) (hj : Jk c z) (hn : n < 400) (hER : ER c n sp H0 l0 z jm dm) (hHV : HV c k0 H0 z) (hk0 : ∀ w, w < kW c → k0 w ≤ 200) (hF : FrO c (gOf c fin cost (fun w => H0 w = true) (kTc c sp)) z) (hc : ∀ w, w < kW c → fin w → z.2 148 w = cost w) (hcb : ∀ w, 1 ≤ cost w ∧ cost w ≤ 16000000) (ht1 : ∀ w, w < kW c → kTc c sp w → z.1 150 w = 1) (ht0 : ∀ w, w < kW c → ¬ kTc c sp w → z.1 150 w = 0) (hDb : ∀ w d, Dst (gOf c fin cost (fun w => H0 w = true) (kTc c sp)) w d → d < 2147483648) {D0 : Nat} (hD0 : Dst (gOf c fin cost (fun w => H0 w = true) (kTc c sp)) e D0) (hWk : Wlk c z (gOf c fin cost (fun w => H0 w = true) (kTc c sp)) H0 l0 e H' l') : zOk (gIter (fun y => q_Model_routeSink_169 E (kL c) (n : Int) y.1 y.2.1 y.2.2) gN ((e : Int), z.1 141 (840 * n + e), z)) (fun s => ∃ jm' dm', ER c n sp H' l' s jm' dm' ∧ HV c k0 H' s ∧ zOff (pWm n) z s) := by
  have hW := kW_b gr.1
  generalize hG : gOf c fin cost (fun w => H0 w = true) (kTc c sp) = G at hF hDb hWk hD0
  have GW : G.W = kW c := by rw [← hG]; rfl
  have Ga : G.adj = kAdj c := by rw [← hG]; rfl
  have Gf : G.fin = fin := by rw [← hG]; rfl
  have Gc : G.cost = cost := by rw [← hG]; rfl
  have Go : ∀ w, G.own w ↔ H0 w = true := fun w => by rw [← hG]; exact Iff.rfl
  have Gt : G.tch = kTc c sp := by rw [← hG]; rfl
  have one : zBool 1 = 1 := zBool_n 1 (Or.inr rfl)
  let I : (Int × Int × gZ) → Prop := fun s => ∃ (w : Nat) (t : gZ), zOff (pWm n) z t ∧ ((s = ((w : Int), 1, t) ∧ ∃ jm' dm', ER c n sp H' l' t jm' dm' ∧ HV c k0 H' t) ∨ (s = ((w : Int), 0, t) ∧ ∃ (H : Nat → Bool) (l : Nat → Int) (D jm dm : Nat), ¬ G.own w ∧ H w = false ∧ Dst G w D ∧ Wlk c z G H l w H' l' ∧ ER c n sp H l t jm dm ∧ HV c k0 H t ∧ (∀ v, H v = true → H0 v = true ∨ ∃ d, Dst G v d ∧ D < d) ∧ ∀ v, H0 v = true → H v = true))
  have stp : ∀ {H : Nat → Bool} {l : Nat → Int} {w : Nat}, G.own w → Wlk c z G H l w H' l' → H' = H ∧ l' = l := fun {H l w} ho hw => by
    rcases Wlk_inv hw with a | a | ⟨D, v, k, a, -⟩
    · exact a.2
    · exact absurd ho a.1
    · exact absurd ho a
  have he : e < kW c := by rw [← GW]; exact rch_W hD0.1
  refine it_inv I _ (fun s => if s.2.1 = 0 then (z.2 149 s.1.toNat).toNat + 1 else 0) ⟨e, z, off_r, ?_⟩ ?_ ?_
  · rw [hER.has e he]
    by_cases x : H0 e = true
    · left
      rw [if_pos x]
      obtain ⟨a, b⟩ := stp ((Go e).2 x) hWk
      exact ⟨rfl, jm, dm, by rw [a, b]; exact hER, by rw [a]; exact hHV⟩
    · right
      rw [if_neg x]
      exact ⟨rfl, H0, l0, D0, jm, dm, fun y => x ((Go e).1 y), by cases g : H0 e; rfl; exact absurd g x, hD0, hWk, hER, hHV, fun v hv => Or.inl hv, fun v hv => hv⟩
  · show (if z.1 141 (840 * n + e) = 0 then (z.2 149 ((e : Int)).toNat).toNat + 1 else 0) < _
    have h1 := hF.2 e D0 hD0
    have h2 := hDb e D0 hD0
    rw [gtN, h1, gtN]
    split <;> omega
  · rintro s ⟨w, t, o, h⟩
    rcases h with ⟨rfl, h⟩ | ⟨rfl, H, l, D, jm, dm, hno, hHw, hD, hWl, hE, hV, hm, hs⟩
    · right
      obtain ⟨jm', dm', a, b⟩ := h
      refine ⟨t, ?_, jm', dm', a, b, o⟩
      show q_Model_routeSink_169 E (kL c) (n : Int) (w : Int) 1 t = _
      unfold q_Model_routeSink_169
      rw [if_neg (by decide)]
    · left
      have hw : w < kW c := by rw [← GW]; exact rch_W hD.1
      have hDl := hDb w D hD
      have fD : z.2 149 w = D := hF.2 w D hD
      have e2 : t.2 = z.2 := o.1
      have gt : Gr c t := Gr_off o (fun k j h => by unfold pS at h; unfold pWm; omega) gr
      have jt : Jk c t := fun j hj' => by
        unfold jOk
        rw [o.2 5 j (by unfold pWm; omega), o.2 6 j (by unfold pWm; omega)]; exact hj j hj'
      have hcw := hcb w
      have hfin : fin w := by rw [← Gf]; exact (dst_p hD hno).1
      have hvw := hV w hw
      rw [hHw, if_neg Bool.false_ne_true] at hvw
      have hk := hk0 w hw
      have cl := cnb_lt hw hHw
      have jd := hE.jd
      have hjb : jm < 840 := by omega
      have key : zOk (q_Model_routeSink_169 E (kL c) (n : Int) (w : Int) 0 t) (fun r => ∃ s', r = .inl s' ∧ I s' ∧ (if s'.2.1 = 0 then (z.2 149 s'.1.toNat).toNat + 1 else 0) < D + 1) := by
        unfold q_Model_routeSink_169
        rw [kL_141, kL_147, kL_150, kL_149, kL_148, kL_145, kL_144, one]
        refine ok_pos rfl ?_
        rw [show 840 * (n : Int) + (w : Int) = ((840 * n + w : Nat) : Int) by omega]
        (refine ok_gd (by omega) ?_)
        rw [ok_l]
        (refine ok_gd (by omega) ?_)
        rw [gtN, gtN, zp_ne _ _ _ _ _ (show 147 ≠ 141 by decide), hvw]
        (refine ok_gd (by omega) ?_)
        rw [ok_l]
        have o20 : zOff (pWm n) t (zPut (zPut t 141 (840 * n + w) 1) 147 w ((k0 w : Int) + 0 + 1)) := off_t (off_put (by unfold pWm; omega)) (off_put (by unfold pWm; omega))
        have f141 : ∀ j, (zPut (zPut t 141 (840 * n + w) 1) 147 w ((k0 w : Int) + 0 + 1)).1 141 j = if j = 840 * n + w then 1 else t.1 141 j := fun j => by rw [zp_ne _ _ _ _ _ (by decide), zp1, if_pos rfl]
        have f147 : ∀ j, (zPut (zPut t 141 (840 * n + w) 1) 147 w ((k0 w : Int) + 0 + 1)).1 147 j = if j = w then (k0 w : Int) + 0 + 1 else t.1 147 j := fun j => by rw [zp1, if_pos rfl, zp_ne _ _ _ _ _ (by decide)]
        have fr : ∀ k, k ≠ 141 → k ≠ 147 → (zPut (zPut t 141 (840 * n + w) 1) 147 w ((k0 w : Int) + 0 + 1)).1 k = t.1 k := fun k a b => by rw [zp_ne _ _ _ _ _ b, zp_ne _ _ _ _ _ a]
        have f2 : (zPut (zPut t 141 (840 * n + w) 1) 147 w ((k0 w : Int) + 0 + 1)).2 = t.2 := rfl
        generalize zPut (zPut t 141 (840 * n + w) 1) 147 w ((k0 w : Int) + 0 + 1) = u at o20 f141 f147 fr f2 ⊢
        have hV' : ∀ {y : gZ}, (∀ v, y.1 147 v = u.1 147 v) → HV c k0 (updB H w) y := fun {y} hy v hv => by
          rw [hy, f147]
          by_cases x : v = w
          · rw [if_pos x, x, updB_e, if_pos rfl]; omega
          · rw [if_neg x, updB_n x]; exact hV v hv
        have ozu : zOff (pWm n) z u := off_t o o20
        have gu : Gr c u := Gr_off ozu (fun k j h => by unfold pS at h; unfold pWm; omega) gr
        have ju : Jk c u := fun j hj' => by
          unfold jOk
          rw [ozu.2 5 j (by unfold pWm; omega), ozu.2 6 j (by unfold pWm; omega)]; exact hj j hj'
        have u150 : u.1 150 w = z.1 150 w := ozu.2 150 w (by unfold pWm; omega)
        (refine ok_gd (by omega) ?_)
        rw [u150, f2, e2, fD, hc w hw hfin]
        have joinB : ¬ (G.tch w ∧ D = G.cost w) → zOk (q_Model_routeSink_j261_169 E (kL c) (n : Int) (w : Int) u) (fun r => ∃ s', r = .inl s' ∧ I s' ∧ (if s'.2.1 = 0 then (z.2 149 s'.1.toNat).toNat + 1 else 0) < D + 1) := fun nt => by
          rcases Wlk_inv hWl with a | ⟨-, a, b, -⟩ | ⟨D', v, k, -, hD', nt', hpk, hrest⟩
          · exact absurd a.1 hno
          · have := dst_u hD b
            exact absurd ⟨a, this⟩ nt
          · have : D' = D := dst_u hD' hD
            subst this
            have pu : Pick u w (fun v => ∃ m, Dst G v m ∧ m + G.cost w = D') (dgZ u w) v k := by
              have e7 : dgZ u w = dgZ z w := by unfold dgZ; rw [ozu.2 7 w (by unfold pWm; omega)]
              rw [e7]
              exact pick_z (funext fun j => (ozu.2 8 j (by unfold pWm; omega)).symm) hpk
            have scan := s_scanM (E := E) (n := n) gu ju hw Ga (z := u) (g := G) (D := D') ⟨by rw [f2, e2]; exact hF.1, by rw [f2, e2]; exact hF.2⟩ (by rw [f2, e2, Gc]; exact hc w hw hfin) (by rw [Gc]; exact hcb) hD hDl hno pu
            have ju' : jnZ u w k = jnZ z w k := by unfold jnZ; rw [ozu.2 9 _ (by unfold pWm; omega)]
            rw [ju'] at scan
            unfold q_Model_routeSink_j261_169
            (refine ok_gd (by omega) ?_)
            rw [ok_l]
            refine ok_v1 scan ?_
            have uj : u.1 143 n = jm := by rw [fr 143 (by decide) (by decide)]; exact hE.zj
            rw [kL_143, kL_142, kL_141]
            (refine ok_gd (by omega) ?_)
            dsimp only
            rw [gtN, uj, show 840 * (n : Int) + (jm : Int) = ((840 * n + jm : Nat) : Int) by omega]
            (refine ok_gd (by omega) ?_)
            rw [ok_l, gtN, zp_ne _ _ _ _ _ (show 143 ≠ 142 by decide), uj]
            (refine ok_gd (by omega) ?_)
            rw [ok_l]
            have hv1 : v < kW c := by
              have := hpk.2.2.1
              obtain ⟨m, m1, -⟩ := this
              rw [← GW]; exact rch_W m1.1
            rw [show 840 * (n : Int) + (v : Int) = ((840 * n + v : Nat) : Int) by omega]
            (refine ok_gd (by omega) ?_)
            rw [ok_l, gtN]
            have g142 : ∀ j, (zPut (zPut u 142 (840 * n + jm) ((kZ c + jnZ z w k : Nat) : Int)) 143 n ((jm : Int) + 1)).1 142 j = if j = 840 * n + jm then ((kZ c + jnZ z w k : Nat) : Int) else t.1 142 j := fun j => by rw [zp_ne _ _ _ _ _ (by decide), zp1, if_pos rfl, fr 142 (by decide) (by decide)]
            have g143 : (zPut (zPut u 142 (840 * n + jm) ((kZ c + jnZ z w k : Nat) : Int)) 143 n ((jm : Int) + 1)).1 143 n = ((jm + 1 : Nat) : Int) := by (simp only [zp1, zr1, zf1, Nat.reduceEqDiff, Nat.reduceBEq, reduceIte, if_true, if_false, and_true, true_and, and_false, false_and, gtN]); rfl
            have gfr : ∀ k', k' ≠ 142 → k' ≠ 143 → (zPut (zPut u 142 (840 * n + jm) ((kZ c + jnZ z w k : Nat) : Int)) 143 n ((jm : Int) + 1)).1 k' = u.1 k' := fun k' a b => by rw [zp_ne _ _ _ _ _ b, zp_ne _ _ _ _ _ a]
            have g0 : zOff (pWm n) u (zPut (zPut u 142 (840 * n + jm) ((kZ c + jnZ z w k : Nat) : Int)) 143 n ((jm : Int) + 1)) := off_t (off_put (by unfold pWm; omega)) (off_put (by unfold pWm; omega))
            generalize zPut (zPut u 142 (840 * n + jm) ((kZ c + jnZ z w k : Nat) : Int)) 143 n ((jm : Int) + 1) = y at g142 g143 gfr g0 ⊢
            have ozy : zOff (pWm n) z y := off_t ozu g0
            have hEy : ER c n sp (updB H w) (zUpd l w (jnZ z w k)) y (jm + 1) dm := by
              have hjj : jnZ z w k < kJ c := by
                obtain ⟨dd, -, dd2, -, dd4, -⟩ := adj_z gr hj hw
                have hkd : k < dd := by have := hpk.1; unfold dgZ at this; rw [dd2, gtN] at this; exact this
                obtain ⟨v', j', -, q2, -, -, -, q6, -⟩ := dd4 k hkd
                unfold jnZ; rw [q6, gtN]; exact q2
              refine hE.join hw hHw hjj (fun v hv => ?_) (fun i hi => ?_) g143 (fun i hi => ?_) ?_
              · rw [gfr 141 (by decide) (by decide), f141]
                by_cases x : v = w
                · rw [if_pos (by omega), if_pos x]
                · rw [if_neg (by omega), if_neg x]
              · rw [g142]
                by_cases x : i = jm
                · rw [if_pos (by omega), if_pos x]; rfl
                · rw [if_neg (by omega), if_neg x]
              · rw [gfr 144 (by decide) (by decide), fr 144 (by decide) (by decide)]
              · rw [gfr 145 (by decide) (by decide), fr 145 (by decide) (by decide)]
            have hVy : HV c k0 (updB H w) y := hV' fun v => by rw [gfr 147 (by decide) (by decide)]
            obtain ⟨m, m1, m2⟩ := hpk.2.2.1
            rw [Gc] at m2
            have hD : Dst G w D' := hD
            by_cases ov : G.own v
            · have hvv : updB H w v = true := by
                unfold updB; split
                · rfl
                · exact hs v ((Go v).1 ov)
              rw [hEy.has v hv1, if_pos hvv]
              obtain ⟨a, b⟩ := stp ov hrest
              refine ok_so ⟨_, rfl, ⟨v, y, ozy, Or.inl ⟨rfl, jm + 1, dm, by rw [a, b]; exact hEy, by rw [a]; exact hVy⟩⟩, ?_⟩
              show (if (1 : Int) = 0 then _ else 0) < _
              rw [if_neg (by decide)]; omega
            · have hvv : updB H w v = false := by
                have ne : v ≠ w := fun x => by
                  subst x
                  have := dst_u hD m1; omega
                rw [updB_n ne]
                cases g : H v
                · rfl
                · rcases hm v g with x | ⟨d, x1, x2⟩
                  · exact absurd ((Go v).2 x) ov
                  · have := dst_u x1 m1; omega
              rw [hEy.has v hv1, hvv, if_neg Bool.false_ne_true]
              refine ok_so ⟨_, rfl, ⟨v, y, ozy, Or.inr ⟨rfl, updB H w, _, m, jm + 1, dm, ov, hvv, m1, hrest, hEy, hVy, fun x hx => ?_, fun x hx => ?_⟩⟩, ?_⟩
              · by_cases ex : x = w
                · rw [ex]; exact Or.inr ⟨D', hD, by omega⟩
                · rw [updB_n ex] at hx
                  rcases hm x hx with y | ⟨d, y1, y2⟩
                  · exact Or.inl y
                  · exact Or.inr ⟨d, y1, by omega⟩
              · unfold updB; split
                · rfl
                · exact hs x hx
              · show (if (0 : Int) = 0 then (z.2 149 ((v : Int)).toNat).toNat + 1 else 0) < _
                rw [if_pos rfl, gtN, hF.2 v m m1, gtN]; omega
        by_cases et : kTc c sp w
        · rw [ht1 w hw et]
          refine ok_neg (by decide) ?_
          (refine ok_gd (by omega) ?_); (refine ok_gd (by omega) ?_)
          refine ok_br (fun e5 => ?_) fun e5 => joinB fun x => by rw [Gc] at x; omega
          rcases Wlk_inv hWl with a | ⟨-, a, b, eH, el⟩ | ⟨D', v, k, -, hD', nt', hpk, hrest⟩
          · exact absurd a.1 hno
          rotate_left
          · have : D' = D := dst_u hD' hD
            exact absurd ⟨by rw [Gt]; exact et, by rw [Gc]; omega⟩ nt'
          · subst eH; subst el
            have hdb := hE.db gr.1 hw hHw et
            have ud : u.1 145 n = dm := by rw [fr 145 (by decide) (by decide)]; exact hE.zd
            (refine ok_gd (by omega) ?_)
            rw [gtN, ud, show 50 * (n : Int) + (dm : Int) = ((50 * n + dm : Nat) : Int) by omega]
            (refine ok_gd (by omega) ?_)
            rw [ok_l, gtN, zp_ne _ _ _ _ _ (show 145 ≠ 144 by decide), ud]
            (refine ok_gd (by omega) ?_)
            rw [ok_l]
            have g144 : ∀ j, (zPut (zPut u 144 (50 * n + dm) (w : Int)) 145 n ((dm : Int) + 1)).1 144 j = if j = 50 * n + dm then (w : Int) else t.1 144 j := fun j => by rw [zp_ne _ _ _ _ _ (by decide), zp1, if_pos rfl, fr 144 (by decide) (by decide)]
            have g145 : (zPut (zPut u 144 (50 * n + dm) (w : Int)) 145 n ((dm : Int) + 1)).1 145 n = ((dm + 1 : Nat) : Int) := by (simp only [zp1, zr1, zf1, Nat.reduceEqDiff, Nat.reduceBEq, reduceIte, if_true, if_false, and_true, true_and, and_false, false_and, gtN]); rfl
            have gfr : ∀ k', k' ≠ 144 → k' ≠ 145 → (zPut (zPut u 144 (50 * n + dm) (w : Int)) 145 n ((dm : Int) + 1)).1 k' = u.1 k' := fun k' a b => by rw [zp_ne _ _ _ _ _ b, zp_ne _ _ _ _ _ a]
            have g0 : zOff (pWm n) u (zPut (zPut u 144 (50 * n + dm) (w : Int)) 145 n ((dm : Int) + 1)) := off_t (off_put (by unfold pWm; omega)) (off_put (by unfold pWm; omega))
            generalize zPut (zPut u 144 (50 * n + dm) (w : Int)) 145 n ((dm : Int) + 1) = y at g144 g145 gfr g0 ⊢
            have hEy : ER c n sp (updB H w) (zUpd l w (-1)) y jm (dm + 1) := by
              refine hE.driv hw hHw et (fun v hv => ?_) (fun i hi => ?_) ?_ (fun i hi => ?_) g145
              · rw [gfr 141 (by decide) (by decide), f141]
                by_cases x : v = w
                · rw [if_pos (by omega), if_pos x]
                · rw [if_neg (by omega), if_neg x]
              · rw [gfr 142 (by decide) (by decide), fr 142 (by decide) (by decide)]
              · rw [gfr 143 (by decide) (by decide), fr 143 (by decide) (by decide)]
              · rw [g144]
                by_cases x : i = dm
                · rw [if_pos (by omega), if_pos x]
                · rw [if_neg (by omega), if_neg x]
            refine ok_so ⟨_, rfl, ⟨w, y, off_t ozu g0, Or.inl ⟨rfl, jm, dm + 1, hEy, hV' fun v => by rw [gfr 147 (by decide) (by decide)]⟩⟩, ?_⟩
            show (if (1 : Int) = 0 then _ else 0) < _
            rw [if_neg (by decide)]; omega
        · rw [ht0 w hw et]
          exact ok_pos rfl (joinB fun x => by rw [Gt] at x; exact et x.1)
      obtain ⟨r, k1, s', k2, k3, k4⟩ := key
      subst k2
      refine ⟨s', k1, k3, ?_⟩
      show _ < (if (0 : Int) = 0 then (z.2 149 ((w : Int)).toNat).toNat + 1 else 0)
      rw [if_pos rfl, gtN, fD, gtN]
      exact k4
end
-- Y9
section
variable {E : gEv} {c : gCf}
def pSk (n k j : Nat) : Prop := pWm n k j ∨ k = 132 ∨ (151 ≤ k ∧ k ≤ 153)
/-- the reference's end of a sink -/
theorem s_endM {z : gZ} {g : Gph} {n k sk e D : Nat} (gr : Gr c z) (hF : FrO c g z) (h1 : ∀ w, w < kW c → kTc c sk w → z.1 151 w = 1) (h0 : ∀ w, w < kW c → ¬ kTc c sk w → z.1 151 w = 0) (hB : BstE c g sk e D) (hDb : D < 2147483648) : gIter (fun y => q_Model_routeSink_94 E (kL c) (n : Int) (k : Int) y.1 y.2 z) gN (-1, 0) = some (e : Int) := by
  have hW := kW_b gr.1
  have m8 : z.1 94 8 = kW c := gr.2.2.1.2.2.2.2.2.2.2.2.1
  have main : zOk (gIter (fun y => q_Model_routeSink_94 E (kL c) (n : Int) (k : Int) y.1 y.2 z) gN (-1, 0)) (fun r => r = (e : Int)) := by
    refine it_for (fun (i : Nat) (t : Int) => (t, (i : Int))) (fun i t => (t = -1 ∧ ∀ w, w < i → ¬ kTc c sk w) ∨ ∃ x : Nat, t = x ∧ x < i ∧ kTc c sk x ∧ ∀ y, y < i → kTc c sk y → z.2 149 x < z.2 149 y ∨ (z.2 149 x = z.2 149 y ∧ x ≤ y)) 0 (kW c) (t := -1) rfl (Or.inl ⟨rfl, fun w hw => by omega⟩) (by omega) (by omega) ?_ ?_
    · rintro i t - hi h
      show zOk (q_Model_routeSink_94 E (kL c) (n : Int) (k : Int) t (i : Int) z) _
      unfold q_Model_routeSink_94
      rw [m8, kL_151, kL_149]
      (refine ok_neg (by omega) ?_); (refine ok_gd (by omega) ?_)
      rw [gtN]
      by_cases et : kTc c sk i
      · rw [h1 i hi et]
        refine ok_neg (by decide) ?_
        rcases h with ⟨a, b⟩ | ⟨x, a, b, d, f⟩
        · refine ok_pos a ?_
          rw [ok_l]
          refine ok_inl (Or.inl ⟨(i : Int), rfl, Or.inr ⟨i, rfl, by omega, et, fun y hy hk => ?_⟩⟩)
          by_cases ey : y = i
          · rw [ey]; exact Or.inr ⟨rfl, Nat.le_refl _⟩
          · exact absurd hk (b y (by omega))
        · rw [a]
          (refine ok_neg (by omega) ?_); (refine ok_gd (by omega) ?_); (refine ok_gd (by omega) ?_)
          rw [gtN]
          refine ok_br (fun e1 => ?_) fun e1 => ?_
          · rw [ok_l]
            refine ok_inl (Or.inl ⟨(x : Int), rfl, Or.inr ⟨x, rfl, by omega, d, fun y hy hk => ?_⟩⟩)
            by_cases ey : y = i
            · rw [ey]; omega
            · exact f y (by omega) hk
          · rw [ok_l]
            refine ok_inl (Or.inl ⟨(i : Int), rfl, Or.inr ⟨i, rfl, by omega, et, fun y hy hk => ?_⟩⟩)
            by_cases ey : y = i
            · rw [ey]; exact Or.inr ⟨rfl, Nat.le_refl _⟩
            · have := f y (by omega) hk
              left; omega
      · rw [h0 i hi et]
        refine ok_pos rfl ?_
        rw [ok_l]
        refine ok_inl (Or.inl ⟨t, rfl, ?_⟩)
        rcases h with ⟨a, b⟩ | ⟨x, a, b, d, f⟩
        · refine Or.inl ⟨a, fun w hw => ?_⟩
          by_cases ey : w = i
          · rw [ey]; exact et
          · exact b w (by omega)
        · refine Or.inr ⟨x, a, by omega, d, fun y hy hk => ?_⟩
          by_cases ey : y = i
          · rw [ey] at hk; exact absurd hk et
          · exact f y (by omega) hk
    · rintro t h
      show zOk (q_Model_routeSink_94 E (kL c) (n : Int) (k : Int) t (kW c : Int) z) _
      unfold q_Model_routeSink_94
      rw [m8]
      (refine ok_pos (by omega) ?_)
      refine ok_inr ⟨t, rfl, ?_⟩
      obtain ⟨b1, b2, b3, b4⟩ := hB
      rcases h with ⟨a, b⟩ | ⟨x, a, b, d, f⟩
      · exact absurd b2 (b e b1)
      · have fe := hF.2 e D b3
        have h1 := f e b1 b2
        rcases hF.1 x b with y | ⟨dx, y1, y2⟩
        · rw [fe, y] at h1
          unfold NV at h1; omega
        · have h2 := b4 x dx b d y1
          rw [a]; omega
  exact ok_is main
theorem s_snkM {m nC nN nS nI nO n k sp e D jm dm : Nat} {z : gZ} {fin : Nat → Prop} {k0 cost : Nat → Nat} {H0 H' : Nat → Bool} {l0 l' : Nat → Int} (gr : Gr c z) (hj : Jk c z) (hN : NJ c m nC nN nS nI nO z) (hP : PZ c nC nI nO z) (hM : PM c (z.1 68) z) (hk : k < nS) (hD : DH c n H0 fin cost (kTc c sp) z) (hER : ER c n sp H0 l0 z jm dm) (hHV : HV c k0 H0 z) (hk0 : ∀ w, w < kW c → k0 w ≤ 200) (hDb : ∀ w d, Dst (gOf c fin cost (fun w => H0 w = true) (kTc c sp)) w d → d < 2147483648) (hB : BstE c (gOf c fin cost (fun w => H0 w = true) (kTc c sp)) (spK z k) e D) (hWk : Wlk c z (gOf c fin cost (fun w => H0 w = true) (kTc c sp)) H0 l0 e H' l') : zOk (q_Model_routeSink E (kL c) (n : Int) (k : Int) z) (fun s => ∃ jm' dm', ER c n sp H' l' s jm' dm' ∧ HV c k0 H' s ∧ (∀ j, s.1 132 j = if j = k then (e : Int) else z.1 132 j) ∧ zO (pSk n) z s ∧ s.2 148 = z.2 148) := by
  have hW := kW_b gr.1
  have hDD := kD_b gr.1
  have hPP := kP_b gr.1
  have hNN := kN_b gr.1
  have nb := hD.nb
  have sb := hN.sb
  have mb := hN.mb
  have m8 : z.1 94 8 = kW c := gr.2.2.1.2.2.2.2.2.2.2.2.1
  have zero : zBool 0 = 0 := zBool_n 0 (Or.inl rfl)
  unfold q_Model_routeSink
  refine ok_b1 _ (s_dist gr hj hD) fun s2 ⟨o2, f1, f2⟩ => ?_
  refine ok_b1 (fun s => zO (fun k j => (151 ≤ k ∧ k ≤ 153)) z s ∧ s.2 = s2.2 ∧ ∀ w, w < kW c → s.1 151 w = 0) ?_ fun e5 ⟨o5, z5, h5⟩ => ?_
  · refine it_for (fun (i : Nat) (t : gZ) => ((i : Int), t)) (fun i t => zO (fun k j => (151 ≤ k ∧ k ≤ 153)) z t ∧ t.2 = s2.2 ∧ ∀ w, w < i → t.1 151 w = 0) 0 (kW c) rfl ⟨o_w o2.1 fun k j x => by unfold pDi at x; omega, rfl, fun w hw => by omega⟩ (by omega) (by omega) ?_ ?_
    · rintro i t - hi ⟨a, b, d⟩
      show zOk (q_Model_routeSink_7 E (kL c) (n : Int) (k : Int) (i : Int) t) _
      unfold q_Model_routeSink_7
      rw [a 94 8 (by omega), m8, kL_151, zero]
      (refine ok_neg (by omega) ?_); (refine ok_gd (by omega) ?_)
      rw [ok_l, ok_l, gtN]
      refine ok_inl (Or.inl ⟨_, rfl, o_t a (o_put (by omega)), b, fun w hw => ?_⟩)
      rw [zp1, if_pos rfl]
      by_cases x : w = i
      · rw [if_pos x]
      · rw [if_neg x]; exact d w (by omega)
    · rintro t ⟨a, b, d⟩
      show zOk (q_Model_routeSink_7 E (kL c) (n : Int) (k : Int) (kW c : Int) t) _
      unfold q_Model_routeSink_7
      rw [a 94 8 (by omega), m8]
      (refine ok_pos (by omega) ?_)
      exact ok_inr ⟨t, rfl, a, b, d⟩
  · have g5 : Gr c e5 := Gr_o o5 (fun k j h => by unfold pS at h; omega) gr
    have n5 : NJ c m nC nN nS nI nO e5 := NJ_1 hN o5 (fun k j h => by unfold pN at h; omega)
    have p5 : PM c (z.1 68) e5 := ⟨fun t ht => by rw [o5 136 t (by omega)]; exact hM.t t ht, fun p hp => by rw [o5 137 p (by omega)]; exact hM.p p hp⟩
    rw [kL_131]
    (refine ok_gd (by omega) ?_)
    rw [gtN, o5 131 k (by omega)]
    -- behind the touch
    have go : ∀ s10 : gZ, zOff (fun k j => k = 151) e5 s10 → (∀ w, (kTc c (spK z k) w → s10.1 151 w = 1) ∧ (¬ kTc c (spK z k) w → s10.1 151 w = e5.1 151 w)) → zOk (q_Model_routeSink_j89 E (kL c) (n : Int) (k : Int) s10) (fun s => ∃ jm' dm', ER c n sp H' l' s jm' dm' ∧ HV c k0 H' s ∧ (∀ j, s.1 132 j = if j = k then (e : Int) else z.1 132 j) ∧ zO (pSk n) z s ∧ s.2 148 = z.2 148) := fun s10 o10 t10 => by
      have oz10 : zO (fun k j => 151 ≤ k ∧ k ≤ 153) z s10 := o_t o5 (o_w (o_of o10) fun k j x => by omega)
      have e2 : s10.2 = s2.2 := o10.1.trans z5
      have g10 : Gr c s10 := Gr_o oz10 (fun k j h => by unfold pS at h; omega) gr
      have F10 : FrO c (gOf c fin cost (fun w => H0 w = true) (kTc c sp)) s10 := ⟨by rw [e2]; exact f1, fun w d hd => by
        rw [e2]
        have := hDb w d hd
        exact f2 w d hd (by unfold NV; omega)⟩
      have hDD0 := hDb e D hB.2.2.1
      unfold q_Model_routeSink_j89
      rw [s_endM (E := E) (n := n) (k := k) g10 F10 (fun w hw hk => (t10 w).1 hk) (fun w hw hk => by rw [(t10 w).2 hk]; exact h5 w hw) hB hDD0, b1_s, kL_132, kL_141]
      (refine ok_gd (by omega) ?_)
      rw [ok_l, gtN, show 840 * (n : Int) + (e : Int) = ((840 * n + e : Nat) : Int) by omega]
      have he := hB.1
      (refine ok_gd (by omega) ?_)
      rw [ok_l, gtN]
      have o17 : zO (fun k' j => k' = 132 ∧ j = k) s10 (zPut s10 132 k (e : Int)) := o_put ⟨rfl, rfl⟩
      have v17 : ∀ j, (zPut s10 132 k (e : Int)).1 132 j = if j = k then (e : Int) else z.1 132 j := fun j => by rw [zp1, if_pos rfl, oz10 132 j (by omega)]
      have w17 : (zPut s10 132 k (e : Int)).2 = s10.2 := rfl
      generalize zPut s10 132 k (e : Int) = s17 at o17 v17 w17 ⊢
      have oz17 : zO (fun k j => k = 132 ∨ (151 ≤ k ∧ k ≤ 153)) z s17 := o_t (o_w oz10 fun k j x => Or.inr x) (o_w o17 fun k j x => Or.inl x.1)
      have r : ∀ k, k ≠ 132 → ¬ (151 ≤ k ∧ k ≤ 153) → s17.1 k = z.1 k := fun k a b => funext fun j => oz17 k j (by omega)
      have g17 : Gr c s17 := Gr_o oz17 (fun k j h => by unfold pS at h; omega) gr
      have j17 : Jk c s17 := fun j hj' => by
        unfold jOk
        rw [oz17 5 j (by omega), oz17 6 j (by omega)]; exact hj j hj'
      have E17 : ER c n sp H0 l0 s17 jm dm := ⟨by rw [r 141 (by decide) (by omega)]; exact hER.has, hER.hW, by rw [r 143 (by decide) (by omega)]; exact hER.zj, by rw [r 145 (by decide) (by omega)]; exact hER.zd, hER.jd, hER.dd, by rw [r 142 (by decide) (by omega)]; exact hER.j1, by rw [r 142 (by decide) (by omega)]; exact hER.j2, by rw [r 144 (by decide) (by omega)]; exact hER.d1, by rw [r 144 (by decide) (by omega)]; exact hER.d2, hER.lv, hER.td⟩
      have V17 : HV c k0 H0 s17 := by unfold HV; rw [r 147 (by decide) (by omega)]; exact hHV
      have c148 : s17.2 148 = z.2 148 := by rw [w17, e2]; exact o2.2 148 (by decide)
      have F17 : FrO c (gOf c fin cost (fun w => H0 w = true) (kTc c sp)) s17 := ⟨by rw [w17]; exact F10.1, by rw [w17]; exact F10.2⟩
      have wk := s_walkM (E := E) g17 j17 (by omega) E17 V17 hk0 F17 (by rw [c148]; exact hD.c1) hD.cb (by rw [r 150 (by decide) (by omega)]; exact hD.t1) (by rw [r 150 (by decide) (by omega)]; exact hD.t0) hDb hB.2.2.1 (Wlk_z (r 7 (by decide) (by omega)).symm (r 8 (by decide) (by omega)).symm (r 9 (by decide) (by omega)).symm hWk)
      refine ok_b1 _ wk fun s ⟨jm', dm', a1, a2, a3⟩ => ok_so ⟨jm', dm', a1, a2, fun j => ?_, ?_, ?_⟩
      · rw [a3.2 132 j (by unfold pWm; omega)]; exact v17 j
      · exact o_t (o_w oz17 fun k j x => by unfold pSk; omega) (o_w (o_of a3) fun k j x => Or.inl x)
      · rw [a3.1]; exact c148
    rcases hN.snk k hk with ⟨e', p', x, e1, e2, e3, e4, e5', e6, e7⟩ | ⟨o, o1, oo2, oo3, oo4⟩
    · obtain ⟨-, q, q1, q2⟩ := hP.q (nO := nO) (nI := nI) (x := x) (Or.inl e6)
      have esk : spK z k = q := by unfold spK; rw [e7, gtN, q1, gtN]
      rw [e3]
      (refine ok_pos (by omega) ?_)
      have dv : zDiv ((4 * e' + p' : Nat) : Int) 4 = ((e' : Nat) : Int) := by
        have := zDiv_n (4 * e' + p') 4 (by omega) (by omega)
        rw [show (4 * e' + p') / 4 = e' by omega] at this
        exact this
      obtain ⟨t1, t2⟩ := s_tileOf (E := E) gr.1 hP p5 (e := e') (x := x) (q := q) (by omega) (by rw [o5 133 e' (by omega)]; exact e5') e6 q1
      rw [dv]
      refine ok_v1 t2 ?_
      refine ok_b1 _ (s_touchT g5 (Or.inr rfl) t1) fun s10 ⟨a, b⟩ => go s10 a (by rw [esk]; exact b)
    · have ob := hP.ob
      have hu : uT c nC nI nO (kN c + kD c + o) := by unfold uT; omega
      obtain ⟨-, q, q1, q2⟩ := hP.q hu
      have esk : spK z k = q := by unfold spK; rw [oo4, gtN, q1, gtN]
      rw [oo2]
      (refine ok_neg (by omega) ?_); (refine ok_gd (by omega) ?_)
      obtain ⟨w1, w2⟩ := s_padOf (E := E) gr.1 hP p5 hu (by omega) q1
      rw [show cdP c ((kN c + kD c + o : Nat) : Int) = 200 + ((1000 + o : Nat) : Int) - 1000 by unfold cdP; rw [if_neg (by omega), if_neg (by omega)]; omega] at w2
      refine ok_v1 w2 ?_
      refine ok_b1 _ (s_touchP g5 (Or.inr rfl) w1) fun s10 ⟨a, b⟩ => go s10 a (by rw [esk]; exact b)
end
