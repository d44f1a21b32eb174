set_option linter.unusedVariables false
-- F1
section
variable {E : gEv} {c : gCf}
/-- the number that n bits from a on are -/
def nb (b : Nat → Int) (a : Nat) : Nat → Int
  | 0 => 0
  | n + 1 => zOr (nb b a n) (zShl (b (a + n)) (n : Int))
theorem zShl_0 (i : Nat) (h : i < 32) : zShl 0 (i : Int) = 0 := by
  have := zShl_n 0 i h (by omega)
  rw [Nat.zero_mul] at this; exact this
def b01 (x : Int) : Prop := x = 0 ∨ x = 1
theorem nb_c {b b' : Nat → Int} {a n : Nat} (h : ∀ i, i < n → b (a + i) = b' (a + i)) : nb b a n = nb b' a n := by
  induction n with
  | zero => rfl
  | succ n ih => rw [nb, nb, ih fun i hi => h i (by omega), h n (by omega)]
theorem nb_n {b : Nat → Int} {a n : Nat} (hn : n ≤ 16) (h : ∀ i, i < n → b01 (b (a + i))) : ∃ m : Nat, m < 2 ^ n ∧ nb b a n = m ∧ ∀ i, i < n → (m.testBit i = true ↔ b (a + i) = 1) := by
  induction n with
  | zero => exact ⟨0, by decide, rfl, fun i hi => absurd hi (Nat.not_lt_zero i)⟩
  | succ n ih =>
    obtain ⟨m, h1, h2, h3⟩ := ih (by omega) fun i hi => h i (by omega)
    have h4 : (2 : Nat) ^ n ≤ 2 ^ 15 := Nat.pow_le_pow_right (by decide) (by omega)
    have h5 : (2 : Nat) ^ (n + 1) = 2 * 2 ^ n := by rw [Nat.pow_succ, Nat.mul_comm]
    have h6 : (2 : Nat) ^ 15 = 32768 := by decide
    rcases h n (by omega) with h0 | h0
    · refine ⟨m, by omega, ?_, fun i hi => ?_⟩
      · rw [nb, h2, h0, show (0 : Int) = ((0 : Nat) : Int) from rfl, zShl_n 0 n (by omega) (by omega), zOr_n _ _ (by omega) (by omega)]
        simp
      · by_cases e : i = n
        · subst e
          rw [h0, Nat.testBit_lt_two_pow h1]; simp
        · exact h3 i (by omega)
    · refine ⟨m ||| 2 ^ n, ?_, ?_, fun i hi => ?_⟩
      · exact Nat.or_lt_two_pow (by omega) (by omega)
      · rw [nb, h2, h0, show (1 : Int) = ((1 : Nat) : Int) from rfl, zShl_n 1 n (by omega) (by omega), zOr_n _ _ (by omega) (by omega), Nat.one_mul]
      · rw [Nat.testBit_or, Nat.testBit_two_pow]
        by_cases e : i = n
        · subst e; simp [h0]
        · have e' : ¬ n = i := fun x => e x.symm
          simp only [e', decide_false, Bool.or_false]
          exact h3 i (by omega)
theorem s_numberAt {z : gZ} {a n : Nat} (hn : n ≤ 31) (h : a + n ≤ kB c) (hk : kOk c) : q_Field_numberAt E (kL c) a n z = some (nb (z.1 82) a n) := by
  have hB := kB_b hk
  unfold q_Field_numberAt
  rw [it_acc (fun i x => (x, (i : Int))) (fun i => nb (z.1 82) a i) 0 n (s := (0, 0)) (e := nb (z.1 82) a n) rfl (by omega) (by omega)]
  · rfl
  · intro i _ hi
    simp only [q_Field_numberAt_5, kL_82, let_s]
    rw [if_neg (by omega), if_pos (by omega), show ((a : Int) + (i : Int)).toNat = a + i by omega]
    rfl
  · simp only [q_Field_numberAt_5]
    rw [if_pos (by omega)]
theorem s_bitsAt {z : gZ} {a n : Nat} (hn : n ≤ 31) (h : a + n ≤ kB c) (hk : kOk c) (hb : ∀ i, i < n → b01 (z.1 154 (a + i))) : q_Model_bitsAt E (kL c) a n z = some (nb (z.1 154) a n) := by
  have hB := kB_b hk
  unfold q_Model_bitsAt
  rw [it_acc (fun i x => (x, (i : Int))) (fun i => nb (z.1 154) a i) 0 n (s := (0, 0)) (e := nb (z.1 154) a n) rfl (by omega) (by omega)]
  · rfl
  · intro i _ hi
    simp only [q_Model_bitsAt_5, kL_154, let_s]
    rw [if_neg (by omega), if_pos (by omega), show ((a : Int) + (i : Int)).toNat = a + i by omega, nb]
    rcases hb i hi with h0 | h0
    · rw [if_pos h0, h0, zShl_0 i (by omega)]; rfl
    · rw [if_neg (by omega), h0]; rfl
  · simp only [q_Model_bitsAt_5]
    rw [if_pos (by omega)]
theorem kY_i {e j : Nat} (he : e < kP c) (hj : j < kX c) : e * kX c + j < kY c := gidx he hj
theorem kZ_i {p j : Nat} (hp : p < kD c) (hj : j < 6 + kT c) : kY c + (p * (6 + kT c) + j) < kZ c := by
  have := gidx hp hj; unfold kZ; omega
theorem kYB (c : gCf) : kY c ≤ kZ c ∧ kZ c ≤ kB c := by unfold kB; unfold kZ; omega
theorem s_padBit {z : gZ} {p : Nat} (g : Gr c z) (hp : p < kD c) : q_Grid_padBit E (kL c) p z = some ((kY c + p * (6 + kT c) : Nat) : Int) := by
  have h1 := g.2.1
  have := kZ_i (c := c) hp (show 0 < 6 + kT c by omega)
  have := kZ_b g.1
  unfold q_Grid_padBit
  rw [h1.2.2.2.2.2.2.2.2.2.2.1, h1.2.2.2.1]
  have e : (kY c : Int) + (p : Int) * (6 + (kT c : Int)) = ((kY c + p * (6 + kT c) : Nat) : Int) := by push_cast; rfl
  rw [e, if_pos (by omega)]
theorem s_isUsed {z : gZ} {e : Nat} (g : Gr c z) (he : e < kP c) : q_Field_isUsed E (kL c) e z = some (if z.1 82 (e * kX c + 16) = 1 then 1 else 0) := by
  have h1 := g.2.1
  have := kY_i (c := c) he (show 16 < kX c by have := kX_b g.1; omega)
  have := kYB c
  unfold q_Field_isUsed
  rw [h1.2.2.2.2.2.2.2.2.2.1]
  have e1 : (e : Int) * (kX c : Int) + 16 = ((e * kX c + 16 : Nat) : Int) := by push_cast; rfl
  rw [e1, kL_82, if_pos (by omega), gtN]
  split <;> rfl
theorem dm4 {T r : Nat} (hT : 0 < T) (hr : r < 4 * T) : r / T < 4 ∧ r % T < T := ⟨Nat.div_lt_of_lt_mul (by rw [Nat.mul_comm]; exact hr), Nat.mod_lt r hT⟩
theorem s_groupAt {z : gZ} {t r : Nat} (g : Gr c z) (ht : t < kN c) (hr : r < 4 * kT c) : q_Field_groupAt E (kL c) t r z = some (z.1 89 (kTw c t (r / kT c) + r % kT c)) := by
  have h1 := g.2.1
  have hT := g.1.2.2.2
  have ⟨d1, d2⟩ := dm4 (by omega) hr
  have hw := kTw_lt (s := r / kT c) g.1 ht d2
  have hW := kW_b g.1
  have h3 := g.2.2.2.1.1 t (r / kT c) ht d1
  unfold q_Field_groupAt
  rw [h1.2.2.2.1]
  simp only [let_s, kL_4, kL_89]
  rw [if_pos (by omega), if_pos (by omega), zDiv_n r (kT c) (by omega) (by omega), zRem_n r (kT c) (by omega) (by omega)]
  generalize r / kT c = q at *
  generalize r % kT c = r2 at *
  have e1 : (t : Int) * 4 + (q : Int) = ((t * 4 + q : Nat) : Int) := by push_cast; rfl
  rw [e1, gtN, h3, if_pos (by omega), if_neg (by omega)]
  have e2 : (kTw c t q : Int) + (r2 : Int) = ((kTw c t q + r2 : Nat) : Int) := by push_cast; rfl
  rw [e2, if_pos (by omega), gtN]
theorem s_groupAtP {z : gZ} {p r : Nat} (g : Gr c z) (hp : p < kD c) (hr : r < kT c) : q_Field_groupAt E (kL c) ((kN c + p : Nat) : Int) r z = some (z.1 89 (kPw c p + r)) := by
  have h1 := g.2.1
  have hT := g.1.2.2.2
  have hw := kPw_lt g.1 hp hr
  have hW := kW_b g.1
  have h3 := g.2.2.2.1.2.1 p hp
  unfold q_Field_groupAt
  rw [h1.2.2.2.1]
  simp only [let_s, kL_4, kL_89]
  rw [if_pos (by omega), if_pos (by omega), zDiv_n r (kT c) (by omega) (by omega), zRem_n r (kT c) (by omega) (by omega), Nat.div_eq_of_lt hr, Nat.mod_eq_of_lt hr]
  have e1 : ((kN c + p : Nat) : Int) * 4 + ((0 : Nat) : Int) = (((kN c + p) * 4 : Nat) : Int) := by push_cast; omega
  rw [e1, gtN, h3, if_pos (by omega), if_neg (by omega)]
  have e2 : (kPw c p : Int) + (r : Int) = ((kPw c p + r : Nat) : Int) := by push_cast; rfl
  rw [e2, if_pos (by omega), gtN]
theorem s_flatWire {z : gZ} {x y t : Nat} (g : Gr c z) (hx : x < kC c) (hy : y < kR c + 1) (ht : t < kT c) : q_Model_flatWire E (kL c) x y t z = some (((y * kC c + x) * kT c + t : Nat) : Int) := by
  have h := kW_H (c := c) hx hy ht
  have := kF_b g.1
  have h2 := g.2.2.1
  unfold q_Model_flatWire
  rw [h2.1, h2.2.2.2.1]
  have e1 : (((y : Int) * (kC c : Int)) + (x : Int)) * (kT c : Int) + (t : Int) = (((y * kC c + x) * kT c + t : Nat) : Int) := by push_cast; rfl
  rw [e1, if_pos (by omega)]
theorem s_uprightWire {z : gZ} {x y t : Nat} (g : Gr c z) (hx : x < kC c + 1) (hy : y < kR c) (ht : t < kT c) : q_Model_uprightWire E (kL c) x y t z = some ((kF c + (y * (kC c + 1) + x) * kT c + t : Nat) : Int) := by
  have h := kW_V (c := c) hx hy ht
  have := kW_b g.1
  have h2 := g.2.2.1
  unfold q_Model_uprightWire
  rw [h2.1, h2.2.2.2.1, h2.2.2.2.2.2.2.2.1]
  have e1 : (kF c : Int) + ((((y : Int) * ((kC c : Int) + 1)) + (x : Int)) * (kT c : Int)) + (t : Int) = ((kF c + (y * (kC c + 1) + x) * kT c + t : Nat) : Int) := by push_cast; rfl
  rw [e1, if_pos (by omega)]
theorem s_tileWire {z : gZ} {t s r : Nat} (g : Gr c z) (ht : t < kN c) (hs : s < 4) (hr : r < kT c) : q_Model_tileWire E (kL c) t s r z = some ((kTw c t s + r : Nat) : Int) := by
  have ⟨d1, d2⟩ := kN_dm g.1 ht
  have h2 := g.2.2.1
  have hC := g.1.1
  have hN := kN_b g.1
  unfold q_Model_tileWire
  rw [h2.1]
  simp only [let_s]
  have hR := g.1.2.1
  rw [if_pos (by omega), if_pos (by omega), zDiv_n t (kC c) (by omega) (by omega), zRem_n t (kC c) (by omega) (by omega)]
  unfold kTw
  generalize t / kC c = yy at *
  generalize t % kC c = xx at *
  have hx : (yy : Int) + 1 = ((yy + 1 : Nat) : Int) := by push_cast; rfl
  have hy : (xx : Int) + 1 = ((xx + 1 : Nat) : Int) := by push_cast; rfl
  have : s = 0 ∨ s = 1 ∨ s = 2 ∨ s = 3 := by omega
  rcases this with rfl | rfl | rfl | rfl
  · rw [if_pos (by rfl), s_flatWire g d2 (by omega) hr, b1_s]; rfl
  · rw [if_neg (by omega), if_pos (by rfl), if_pos (by omega), hx, s_flatWire g d2 (by omega) hr, b1_s]; rfl
  · rw [if_neg (by omega), if_neg (by omega), if_pos (by rfl), s_uprightWire g (by omega) d1 hr, b1_s]; rfl
  · rw [if_neg (by omega), if_neg (by omega), if_neg (by omega), if_pos (by omega), hy, s_uprightWire g (by omega) d1 hr, b1_s]; rfl
theorem s_padWire {z : gZ} {p r : Nat} (g : Gr c z) (hp : p < kD c) (hr : r < kT c) : q_Model_padWire E (kL c) p r z = some ((kPw c p + r : Nat) : Int) := by
  have h2 := g.2.2.1
  have hC := g.1.1
  have hR := g.1.2.1
  have hp2 := hp
  unfold kD at hp2
  unfold q_Model_padWire
  rw [h2.1, h2.2.1]
  simp only [let_s]
  rw [show (2 : Int) = ((2 : Nat) : Int) from rfl, zDiv_n p 2 (by omega) (by omega)]
  unfold kPw
  have hk : p / 2 < 2 * kC c + 2 * kR c := by omega
  generalize p / 2 = k at *
  by_cases g1 : k < kC c
  · rw [if_pos g1, if_neg (by omega)]
    have e := s_flatWire (E := E) g (x := k) (y := 0) g1 (by omega) hr
    rw [show ((0 : Nat) : Int) = 0 from rfl] at e
    rw [e, b1_s]
  · rw [if_neg g1, if_pos (by omega), if_pos (by omega)]
    by_cases g2 : k < 2 * kC c
    · rw [if_pos g2, if_neg (by omega), if_pos (by omega), show (k : Int) - (kC c : Int) = ((k - kC c : Nat) : Int) by omega, s_flatWire g (by omega) (by omega) hr, b1_s]
    · rw [if_neg g2, if_pos (by omega), if_pos (by omega)]
      by_cases g3 : k < 2 * kC c + kR c
      · rw [if_pos g3, if_neg (by omega), if_pos (by omega), show (k : Int) - ((2 : Nat) : Int) * (kC c : Int) = ((k - 2 * kC c : Nat) : Int) by omega]
        have e := s_uprightWire (E := E) g (x := 0) (y := k - 2 * kC c) (by omega) (by omega) hr
        rw [show ((0 : Nat) : Int) = 0 from rfl] at e
        rw [e, b1_s]
      · rw [if_neg g3, if_pos (by omega), if_pos (by omega), show (k : Int) - ((2 : Nat) : Int) * (kC c : Int) - (kR c : Int) = ((k - 2 * kC c - kR c : Nat) : Int) by omega, s_uprightWire g (by omega) (by omega) hr, b1_s]
theorem zp_zr (z : gZ) (k j : Nat) (F : Nat → Int) (v : Int) : zPut (zRow z k F) k j v = zRow z k (fun i => if i = j then v else F i) := by
  rw [zp_row, zr_row, zr_eq]
end
-- F2
section
variable {E : gEv} {c : gCf}
/-- two wires are joined by a bit -/
def jn (c : gCf) (A B b : Nat → Int) (u v : Nat) : Prop := ∃ j, j < kJ c ∧ b (kZ c + j) = 1 ∧ ((A j = (u : Int) ∧ B j = (v : Int)) ∨ (A j = (v : Int) ∧ B j = (u : Int)))
def Cn (c : gCf) (A B b : Nat → Int) (u v : Nat) : Prop := ∀ S : Nat → Prop, (∀ x y, S x → jn c A B b x y → S y) → S u → S v
theorem jn_s {A B b : Nat → Int} {u v : Nat} (h : jn c A B b u v) : jn c A B b v u := by
  obtain ⟨j, h1, h2, h3⟩ := h
  exact ⟨j, h1, h2, h3.symm⟩
theorem Cn_r {A B b : Nat → Int} {u : Nat} : Cn c A B b u u := fun S _ h => h
theorem Cn_t {A B b : Nat → Int} {u v w : Nat} (h : Cn c A B b u v) (k : Cn c A B b v w) : Cn c A B b u w := fun S hS hu => k S hS (h S hS hu)
theorem Cn_j {A B b : Nat → Int} {u v : Nat} (h : jn c A B b u v) : Cn c A B b u v := fun S hS hu => hS u v hu h
theorem Cn_s {A B b : Nat → Int} {u v : Nat} (h : Cn c A B b u v) : Cn c A B b v u :=
  h (fun x => Cn c A B b x u) (fun x y hx hj => Cn_t (Cn_j (jn_s hj)) hx) Cn_r
/-- a forest of groups, with its roots -/
def uf (c : gCf) (G : Nat → Int) (R : Nat → Nat) : Prop := ∀ w, w < kW c → R w ≤ w ∧ ∃ x : Nat, G w = x ∧ x ≤ w ∧ R x = R w ∧ (x = w → R w = w)
theorem s_rootOf {z : gZ} {G : Nat → Int} {R : Nat → Nat} {w : Nat} (g : Gr c z) (hw : w < kW c) (hu : uf c G R) : zOk (q_Field_rootOf E (kL c) w (zRow z 89 G)) (fun r => r.1 = (R w : Int) ∧ ∃ G', r.2 = zRow z 89 G' ∧ uf c G' R ∧ (∀ x, x < kW c → G x = (R x : Int) → G' x = (R x : Int))) := by
  unfold q_Field_rootOf
  rw [ok_1]
  have h17 := g.2.1.2.2.2.2.2.2.2.1
  refine ok_w (it_inv (fun s : Int × Int × gZ => ∃ (v n : Nat) (G' : Nat → Int), s = ((v : Int), (n : Int), zRow z 89 G') ∧ v + n ≤ w ∧ R v = R w ∧ uf c G' R ∧ (∀ x, x < kW c → G x = (R x : Int) → G' x = (R x : Int)))
    (fun r : Int × gZ => r.1 = (R w : Int) ∧ ∃ G', r.2 = zRow z 89 G' ∧ uf c G' R ∧ (∀ x, x < kW c → G x = (R x : Int) → G' x = (R x : Int))) (fun s => s.1.toNat) ⟨w, 0, G, rfl, by omega, rfl, hu, fun x _ h => h⟩ (by show (w : Int).toNat < _; have := kW_b g.1; omega) ?_) ?_
  · rintro s ⟨v, n, G', rfl, h1, h2, h3, h4⟩
    obtain ⟨h5, x, h6, h7, h8, h9⟩ := h3 v (by omega)
    have e17 : (zRow z 89 G').1 1 7 = kW c := h17
    have e89 : ∀ j, (zRow z 89 G').1 89 j = G' j := fun j => by rw [zr_eq]
    simp only [q_Field_rootOf_4, kL_89, let_s, e17, e89, gtN, h6]
    rw [if_neg (by omega), if_pos (by omega)]
    by_cases hx : x = v
    · subst hx
      rw [if_pos rfl]
      refine Or.inr ⟨_, rfl, ?_, G', rfl, h3, h4⟩
      have := h9 rfl
      show (x : Int) = R w
      rw [← h2, this]
    · rw [if_neg (by omega), if_pos (by omega)]
      obtain ⟨k5, y, k6, k7, k8, k9⟩ := h3 x (by omega)
      refine Or.inl ⟨_, rfl, ⟨y, n + 1, fun i => if i = v then (y : Int) else G' i, ?_, by omega, by rw [k8, h8, h2], ?_, ?_⟩, ?_⟩
      · rw [k6, zp_row, zr_row]
        simp only [zr1, zp1, reduceIte]
        rfl
      · intro u hu
        obtain ⟨m5, t, m6, m7, m8, m9⟩ := h3 u hu
        refine ⟨m5, ?_⟩
        by_cases e : u = v
        · subst e
          refine ⟨y, if_pos rfl, by omega, by rw [k8, h8], fun e => ?_⟩
          omega
        · exact ⟨t, (if_neg e).trans m6, m7, m8, m9⟩
      · intro u hu hg
        have := h4 u hu hg
        by_cases e : u = v
        · subst e
          refine (if_pos rfl).trans ?_
          rw [h6] at this
          have hxr : x = R u := by omega
          have := (h3 x (by omega)).1
          have r2 : R x = R u := h8
          have : y = x := by
            have q := h3 x (by omega)
            obtain ⟨q1, q2, q3, q4, q5, q6⟩ := q
            have : q2 = y := by omega
            subst this
            have q7 : R q2 = x := by rw [q5, r2, hxr]
            have q8 := (h3 q2 (by omega)).1
            omega
          omega
        · exact (if_neg e).trans this
      · show ((zPut (zRow z 89 G') 89 v (G' x)).1 89 v).toNat < (v : Int).toNat
        rw [zp1, if_pos rfl, if_pos rfl, k6]
        omega
  · rintro ⟨r, z'⟩ h
    rw [ok_s]; exact h
theorem uf_root {G : Nat → Int} {R : Nat → Nat} (h : uf c G R) {w : Nat} (hw : w < kW c) : R (R w) = R w := by
  have key : ∀ n w, w < n → w < kW c → R (R w) = R w := by
    intro n
    induction n with
    | zero => intro w h; omega
    | succ n ih =>
      intro w h1 h2
      obtain ⟨h3, x, h4, h5, h6, h7⟩ := h w h2
      by_cases e : x = w
      · rw [h7 e, h7 e]
      · have := ih x (by omega) (by omega)
        rw [h6] at this; exact this
  exact key (w + 1) w (by omega) hw
/-- what the first joints join is one group, and a group is connected -/
def ufJ (c : gCf) (A B b : Nat → Int) (R : Nat → Nat) (i : Nat) : Prop := (∀ j u v : Nat, j < i → j < kJ c → b (kZ c + j) = 1 → A j = (u : Int) → B j = (v : Int) → R u = R v) ∧ (∀ u v, u < kW c → v < kW c → R u = R v → Cn c A B b u v)
theorem uf_join {A B b G : Nat → Int} {R : Nat → Nat} {j u v : Nat} (hG : uf c G R) (hj : ufJ c A B b R j) (h1 : j < kJ c) (h2 : b (kZ c + j) = 1) (hA : A j = (u : Int)) (hB : B j = (v : Int)) (hu : u < kW c) (hv : v < kW c) :
    ∃ R' : Nat → Nat, uf c (fun i => if i = max (R u) (R v) then ((min (R u) (R v) : Nat) : Int) else G i) R' ∧ ufJ c A B b R' (j + 1) := by
  have ru := (hG u hu).1
  have rv := (hG v hv).1
  have rru := uf_root hG hu
  have rrv := uf_root hG hv
  have hmm : R (max (R u) (R v)) = max (R u) (R v) ∧ R (min (R u) (R v)) = min (R u) (R v) := by
    rcases Nat.le_total (R u) (R v) with h | h
    · rw [Nat.max_eq_right h, Nat.min_eq_left h]; exact ⟨rrv, rru⟩
    · rw [Nat.max_eq_left h, Nat.min_eq_right h]; exact ⟨rru, rrv⟩
  have hle : min (R u) (R v) ≤ max (R u) (R v) := by omega
  have hmx : max (R u) (R v) = R u ∧ min (R u) (R v) = R v ∨ max (R u) (R v) = R v ∧ min (R u) (R v) = R u := by omega
  generalize max (R u) (R v) = m at *
  generalize min (R u) (R v) = n at *
  refine ⟨fun x => if R x = m then n else R x, ?_, ?_, ?_⟩
  · intro w hw
    obtain ⟨k1, x, k2, k3, k4, k5⟩ := hG w hw
    refine ⟨?_, ?_⟩
    · show (if R w = m then n else R w) ≤ w
      split <;> omega
    · by_cases e : w = m
      · subst e
        refine ⟨n, if_pos rfl, by omega, ?_, fun e => ?_⟩
        · show (if R n = w then n else R n) = (if R w = w then n else R w)
          rw [hmm.1, if_pos rfl]; split <;> omega
        · show (if R w = w then n else R w) = w
          rw [hmm.1, if_pos rfl]; exact e
      · refine ⟨x, (if_neg e).trans k2, k3, ?_, fun e2 => ?_⟩
        · show (if R x = m then n else R x) = (if R w = m then n else R w)
          rw [k4]
        · show (if R w = m then n else R w) = w
          rw [k5 e2, if_neg e]
  · intro i p q k1 k2 k3 k4 k5
    show (if R p = m then n else R p) = (if R q = m then n else R q)
    by_cases e : i = j
    · subst e
      have e1 : p = u := by omega
      have e2 : q = v := by omega
      subst e1; subst e2
      split <;> split <;> omega
    · rw [hj.1 i p q (by omega) k2 k3 k4 k5]
  · intro p q k1 k2 k3
    have k3 : (if R p = m then n else R p) = (if R q = m then n else R q) := k3
    have huv : Cn c A B b u v := Cn_j ⟨j, h1, h2, Or.inl ⟨hA, hB⟩⟩
    by_cases e : R p = R q
    · exact hj.2 p q k1 k2 e
    · have : (R p = R u ∧ R q = R v) ∨ (R p = R v ∧ R q = R u) := by
        split at k3 <;> split at k3 <;> omega
      rcases this with ⟨a1, a2⟩ | ⟨a1, a2⟩
      · exact Cn_t (hj.2 p u k1 hu a1) (Cn_t huv (Cn_s (hj.2 q v k2 hv a2)))
      · exact Cn_t (hj.2 p v k1 hv a1) (Cn_t (Cn_s huv) (Cn_s (hj.2 q u k2 hu a2)))
theorem s_setGroups {z : gZ} (g : Gr c z) : zOk (q_Field_setGroups E (kL c) z) (fun z' => ∃ (G : Nat → Int) (R : Nat → Nat), z' = zRow z 89 G ∧ (∀ w, w < kW c → R w ≤ w ∧ G w = (R w : Int)) ∧ ∀ u v, u < kW c → v < kW c → (R u = R v ↔ Cn c (z.1 5) (z.1 6) (z.1 82) u v)) := by
  have h17 := g.2.1.2.2.2.2.2.2.2.1
  have h11 := g.2.1.2.2.2.2.2.2.2.2.2.2.2
  have hW := kW_b g.1
  have hJ := kJ_b g.1
  unfold q_Field_setGroups
  have l1 : gIter (fun y => q_Field_setGroups_2 E (kL c) y.1 y.2) gN (0, z) = some (zFill z 89 (fun j => (j : Int)) (kW c)) := by
    refine it_fill 89 (fun j => (j : Int)) (kW c) (by omega) ?_ ?_
    · intro i hi
      have e : (zFill z 89 (fun j => (j : Int)) i).1 1 7 = kW c := h17
      simp only [q_Field_setGroups_2, let_s, kL_89, gtN, e]
      rw [if_neg (by omega), if_pos (by omega)]
    · have e : (zFill z 89 (fun j => (j : Int)) (kW c)).1 1 7 = kW c := h17
      simp only [q_Field_setGroups_2, e]
      rw [if_pos (by omega)]
  rw [l1, b1_s, ok_1]
  refine ok_w (it_for (fun (i : Nat) (t : gZ) => ((i : Int), t)) (fun i t => ∃ (G : Nat → Int) (R : Nat → Nat), t = zRow z 89 G ∧ uf c G R ∧ ufJ c (z.1 5) (z.1 6) (z.1 82) R i) 0 (kJ c)
    (Q := fun t => ∃ (G : Nat → Int) (R : Nat → Nat), t = zRow z 89 G ∧ uf c G R ∧ ufJ c (z.1 5) (z.1 6) (z.1 82) R (kJ c)) (t := zFill z 89 (fun j => (j : Int)) (kW c)) rfl ?_ (by omega) (by omega) ?_ ?_) ?_
  · refine ⟨_, fun w => w, rfl, fun w hw => ⟨Nat.le_refl w, w, if_pos hw, Nat.le_refl w, rfl, fun _ => rfl⟩, fun j u v hj => absurd hj (Nat.not_lt_zero j), fun u v hu hv h => ?_⟩
    have h : u = v := h
    subst h; exact Cn_r
  · rintro i t _ hi ⟨G, R, rfl, h1, h2⟩
    have e11 : ∀ G, (zRow z 89 G).1 1 11 = kZ c := fun _ => h11
    have e82 : ∀ G j, (zRow z 89 G).1 82 j = z.1 82 j := fun _ _ => rfl
    have e5 : ∀ G j, (zRow z 89 G).1 5 j = z.1 5 j := fun _ _ => rfl
    have e6 : ∀ G j, (zRow z 89 G).1 6 j = z.1 6 j := fun _ _ => rfl
    have eZ : (kZ c : Int) + (i : Int) = ((kZ c + i : Nat) : Int) := by push_cast; rfl
    have hB : kZ c + i < kB c := by unfold kB; omega
    simp only [q_Field_setGroups_28, let_s, kL_5, kL_82, e11, e82, e5, eZ, gtN]
    rw [if_neg (by omega), if_pos (by omega)]
    by_cases hb : z.1 82 (kZ c + i) = 1
    · rw [if_pos hb, if_pos (by omega)]
      rcases g.2.2.2.2.1 i hi with ⟨ha, _⟩ | ⟨a, b, ha, hb', hab, hA, hB, _⟩
      · rw [if_pos ha]
        refine ok_inl (Or.inl ⟨_, rfl, G, R, rfl, h1, fun j u v k1 k2 k3 k4 k5 => ?_, h2.2⟩)
        by_cases e : j = i
        · subst e; omega
        · exact h2.1 j u v (by omega) k2 k3 k4 k5
      · rw [hA, if_neg (by omega), ok_2]
        refine ok_w (s_rootOf g ha h1) ?_
        rintro ⟨v6, s7⟩ ⟨rfl, G1, rfl, u1, _⟩
        simp only [kL_6]
        rw [if_pos (by omega), ok_2, e6, hB]
        refine ok_w (s_rootOf g hb' u1) ?_
        rintro ⟨v8, s9⟩ ⟨rfl, G2, rfl, u2, _⟩
        have m1 : (if (R a : Int) < (R b : Int) then (R b : Int) else (R a : Int)) = ((max (R a) (R b) : Nat) : Int) := by split <;> omega
        have m2 : (if (R b : Int) < (R a : Int) then (R b : Int) else (R a : Int)) = ((min (R a) (R b) : Nat) : Int) := by split <;> omega
        simp only [m1, m2, kL_89, let_s, gtN]
        have ra := (h1 a ha).1
        have rb := (h1 b hb').1
        rw [if_pos (by omega)]
        obtain ⟨R', r1, r2⟩ := uf_join u2 h2 hi hb hA hB ha hb'
        refine ok_inl (Or.inl ⟨_, rfl, _, R', ?_, r1, r2⟩)
        rw [zp_row, zr_row, zr_eq]
    · rw [if_neg hb]
      refine ok_inl (Or.inl ⟨_, rfl, G, R, rfl, h1, fun j u v k1 k2 k3 k4 k5 => ?_, h2.2⟩)
      by_cases e : j = i
      · subst e; exact absurd k3 hb
      · exact h2.1 j u v (by omega) k2 k3 k4 k5
  · rintro t ⟨G, R, rfl, h1, h2⟩
    simp only [q_Field_setGroups_28, kL_5]
    rw [if_pos (by omega)]
    exact ok_inr ⟨_, rfl, G, R, rfl, h1, h2⟩
  · rintro t ⟨G, R, rfl, h1, h2⟩
    rw [ok_1]
    refine ok_w (it_for (fun (i : Nat) (t : gZ) => ((i : Int), t)) (fun i t => ∃ (G : Nat → Int), t = zRow z 89 G ∧ uf c G R ∧ ∀ x, x < i → G x = (R x : Int)) 0 (kW c)
      (Q := fun t => ∃ (G : Nat → Int), t = zRow z 89 G ∧ uf c G R ∧ ∀ x, x < kW c → G x = (R x : Int)) (t := zRow z 89 G) rfl ⟨G, rfl, h1, fun x hx => absurd hx (Nat.not_lt_zero x)⟩ (by omega) (by omega) ?_ ?_) ?_
    · rintro i t _ hi ⟨G, rfl, k1, k2⟩
      have e17 : (zRow z 89 G).1 1 7 = kW c := h17
      simp only [q_Field_setGroups_122, e17]
      rw [if_neg (by omega), ok_2]
      refine ok_w (s_rootOf g hi k1) ?_
      rintro ⟨v6, s7⟩ ⟨rfl, G1, rfl, u1, u2⟩
      simp only [kL_89, let_s, gtN]
      rw [if_pos (by omega)]
      refine ok_inl (Or.inl ⟨_, rfl, fun j => if j = i then (R i : Int) else G1 j, ?_, ?_, ?_⟩)
      · rw [zp_row, zr_row, zr_eq]
      · intro w hw
        obtain ⟨m1, x, m2, m3, m4, m5⟩ := u1 w hw
        refine ⟨m1, ?_⟩
        by_cases e : w = i
        · subst e
          exact ⟨R w, if_pos rfl, m1, uf_root u1 hw, fun e => e⟩
        · exact ⟨x, (if_neg e).trans m2, m3, m4, m5⟩
      · intro x hx
        by_cases e : x = i
        · subst e; exact if_pos rfl
        · exact (if_neg e).trans (u2 x (by omega) (k2 x (by omega)))
    · rintro t ⟨G, rfl, k1, k2⟩
      have e17 : (zRow z 89 G).1 1 7 = kW c := h17
      simp only [q_Field_setGroups_122, e17]
      rw [if_pos (by omega)]
      exact ok_inr ⟨_, rfl, G, rfl, k1, k2⟩
    · rintro t ⟨G, rfl, k1, k2⟩
      rw [ok_s]
      refine ⟨G, R, rfl, fun w hw => ⟨(k1 w hw).1, k2 w hw⟩, fun u v hu hv => ⟨h2.2 u v hu hv, fun hc => ?_⟩⟩
      have : v < kW c ∧ R v = R u := by
        refine hc (fun x => x < kW c ∧ R x = R u) ?_ ⟨hu, rfl⟩
        rintro x y ⟨hx1, hx2⟩ ⟨j, j1, j2, j3⟩
        rcases g.2.2.2.2.1 j j1 with ⟨ha, hb⟩ | ⟨a, b, ha, hb, hab, hA, hB, _⟩
        · rcases j3 with ⟨q1, q2⟩ | ⟨q1, q2⟩ <;> omega
        · have q := h2.1 j a b j1 j1 j2 hA hB
          rcases j3 with ⟨q1, q2⟩ | ⟨q1, q2⟩
          · have e1 : a = x := by omega
            have e2 : b = y := by omega
            subst e1; subst e2
            exact ⟨hb, by rw [← q, hx2]⟩
          · have e1 : a = y := by omega
            have e2 : b = x := by omega
            subst e1; subst e2
            exact ⟨ha, by rw [q, hx2]⟩
      exact this.2.symm
end
-- F3
section
variable {E : gEv} {c : gCf}
theorem kP_dm {e : Nat} (h : kOk c) (he : e < kP c) : e / kE c < kN c := by
  unfold kP at he
  exact Nat.div_lt_of_lt_mul (by rw [Nat.mul_comm]; exact he)
/-- the wire that a number of a pin means -/
def kPin (c : gCf) (e : Nat) (v : Nat) : Nat := kTw c (e / kE c) (v / kT c) + v % kT c
theorem kPin_lt {e v : Nat} (h : kOk c) (he : e < kP c) (hv : v < 4 * kT c) : kPin c e v < kW c :=
  kTw_lt h (kP_dm h he) (dm4 h.2.2.2.1 hv).2
def pg (c : gCf) (b G : Nat → Int) (e p : Nat) : Int := if nb b (e * kX c + 18 + p * 6) 6 < 1 then -1 else if 4 * (kT c : Int) < nb b (e * kX c + 18 + p * 6) 6 then -1 else G (kPin c e (nb b (e * kX c + 18 + p * 6) 6 - 1).toNat)
theorem s_setPins {z : gZ} {e : Nat} (g : Gr c z) (he : e < kP c) (hb : ∀ i, i < kB c → b01 (z.1 82 i)) : q_Field_setPins E (kL c) e ((e * kX c + 18 : Nat) : Int) z = some (zRow z 91 (fun j => if e * 4 ≤ j ∧ j < e * 4 + 4 then pg c (z.1 82) (z.1 89) e (j - e * 4) else z.1 91 j)) := by
  have h1 := g.2.1
  have hX := kX_b g.1
  have hT := g.1.2.2.2
  have hP := kP_b g.1
  have hY := kY_b g.1
  have hYB := kYB c
  have hE := g.1.2.2.1
  have hd := kP_dm g.1 he
  unfold q_Field_setPins
  rw [h1.2.2.1, if_pos (by omega), let_s, zDiv_n e (kE c) (by omega) (by omega)]
  rw [it_run (fun i => ((i : Int), zRow z 91 (fun j => if e * 4 ≤ j ∧ j < e * 4 + i then pg c (z.1 82) (z.1 89) e (j - e * 4) else z.1 91 j))) 4 (e := zRow z 91 (fun j => if e * 4 ≤ j ∧ j < e * 4 + 4 then pg c (z.1 82) (z.1 89) e (j - e * 4) else z.1 91 j))]
  · rfl
  · refine Prod.ext rfl ?_
    show zRow z 91 _ = z
    rw [← zr_self z 91, zr_row]; apply zr_congr; intro j
    rw [if_neg (by omega), zr_self]
  · intro i hi
    have key : ∀ Fn : Nat → Int, q_Field_setPins_13 E (kL c) e ((e * kX c + 18 : Nat) : Int) ((e / kE c : Nat) : Int) (i : Int) (zRow z 91 Fn) = some (.inl ((i : Int) + 1, zPut (zRow z 91 Fn) 91 (e * 4 + i) (pg c (z.1 82) (z.1 89) e i))) := by
      intro Fn
      have gg : Gr c (zRow z 91 Fn) := Gr_off (P := fun k j => k = 91) (off_row fun j => rfl) (fun k j h => by unfold pS at h; omega) g
      have hyb := kY_i (c := c) he (show 18 + i * 6 + 5 < kX c by omega)
      have ea : ((e * kX c + 18 : Nat) : Int) + (i : Int) * 6 = ((e * kX c + 18 + i * 6 : Nat) : Int) := by push_cast; rfl
      have e4 : (e : Int) * 4 + (i : Int) = ((e * 4 + i : Nat) : Int) := by push_cast; rfl
      unfold q_Field_setPins_13
      rw [if_neg (by omega), ea, if_pos (by omega), show (6 : Int) = ((6 : Nat) : Int) from rfl, s_numberAt (by omega) (by omega) g.1, b1_s]
      have e82 : (zRow z 91 Fn).1 82 = z.1 82 := rfl
      have e13 : (zRow z 91 Fn).1 1 3 = kT c := h1.2.2.2.1
      rw [e82, e13]
      have fin : ∀ v : Int, q_Field_setPins_j89_13 E (kL c) e ((e * kX c + 18 : Nat) : Int) ((e / kE c : Nat) : Int) (i : Int) ((e : Int) * 4 + (i : Int)) v (zRow z 91 Fn) = some (.inl ((i : Int) + 1, zPut (zRow z 91 Fn) 91 (e * 4 + i) v)) := by
        intro v
        unfold q_Field_setPins_j89_13
        rw [e4, kL_91, if_pos (by omega), let_s, if_pos (by omega), let_s, gtN]
      obtain ⟨m, m1, m2, _⟩ := nb_n (b := z.1 82) (a := e * kX c + 18 + i * 6) (n := 6) (by omega) (fun i hi => hb _ (by omega))
      unfold pg
      rw [m2]
      have m1 : m < 64 := m1
      by_cases g1 : (m : Int) < 1
      · rw [if_pos g1, if_pos g1]
        unfold q_Field_setPins_j58_13 q_Field_setPins_j59_13
        rw [if_pos rfl, if_pos (by omega), fin]
      · rw [if_neg g1, if_neg g1, if_pos (by omega)]
        by_cases g2 : 4 * (kT c : Int) < (m : Int)
        · rw [if_pos g2, if_pos g2]
          unfold q_Field_setPins_j58_13 q_Field_setPins_j59_13
          rw [if_pos rfl, if_pos (by omega), fin]
        · rw [if_neg g2, if_neg g2]
          unfold q_Field_setPins_j59_13
          have em : (m : Int) - 1 = ((m - 1 : Nat) : Int) := by omega
          rw [if_neg (by omega), if_pos (by omega), em, s_groupAt gg hd (by omega), b1_s, if_pos (by omega), fin, gtN]
          rfl
    rw [show ((fun i : Nat => ((i : Int), zRow z 91 (fun j => if e * 4 ≤ j ∧ j < e * 4 + i then pg c (z.1 82) (z.1 89) e (j - e * 4) else z.1 91 j))) i).1 = (i : Int) from rfl, key, zp_row, zr_row]
    congr 3
    apply zr_congr; intro j
    rw [zr_eq]
    by_cases h1 : j = e * 4 + i
    · subst h1
      rw [if_pos rfl, if_pos (by omega), show e * 4 + i - e * 4 = i by omega]
    · rw [if_neg h1]
      by_cases h2 : e * 4 ≤ j ∧ j < e * 4 + i
      · rw [if_pos h2, if_pos (by omega)]
      · rw [if_neg h2, if_neg (by omega)]
  · simp only [q_Field_setPins_13]
    rw [if_pos (by omega)]
  · omega
theorem s_addDriven {z : gZ} {e n : Nat} (g : Gr c z) (he : e < kP c) (hn : n ≤ e * (4 * kT c)) : zOk (q_Field_addDriven E (kL c) e ((e * kX c + 42 : Nat) : Int) (n : Int) z) (fun r => ∃ (m : Nat) (F : Nat → Int), r = ((m : Int), zRow z 93 F) ∧ n ≤ m ∧ m ≤ n + 4 * kT c ∧ (∀ j, j < n → F j = z.1 93 j) ∧ ∀ x : Int, (∃ j, n ≤ j ∧ j < m ∧ F j = x) ↔ ∃ k, k < 4 * kT c ∧ z.1 82 (e * kX c + 42 + k) = 1 ∧ x = z.1 89 (kPin c e k)) := by
  have h1 := g.2.1
  have hX := kX_b g.1
  have hXe : kX c = 42 + 4 * kT c := rfl
  have hT := g.1.2.2.2
  have hP := kP_b g.1
  have hY := kY_b g.1
  have hYB := kYB c
  have hE := g.1.2.2.1
  have hd := kP_dm g.1 he
  have hc : e * (4 * kT c) + 4 * kT c ≤ kP c * 4 * kT c := by
    have : (e + 1) * (4 * kT c) ≤ kP c * (4 * kT c) := Nat.mul_le_mul_right _ he
    rw [Nat.mul_assoc]; rw [Nat.add_mul] at this; omega
  have hc2 : kP c * 4 * kT c ≤ 576 * 10 := Nat.mul_le_mul (by omega) (by omega)
  unfold q_Field_addDriven
  rw [ok_1]
  refine ok_w (it_for (fun (i : Nat) (t : Nat × (Nat → Int)) => ((t.1 : Int), (i : Int), zRow z 93 t.2)) (fun i t => n ≤ t.1 ∧ t.1 ≤ n + i ∧ (∀ j, j < n → t.2 j = z.1 93 j) ∧ ∀ x : Int, (∃ j, n ≤ j ∧ j < t.1 ∧ t.2 j = x) ↔ ∃ k, k < i ∧ z.1 82 (e * kX c + 42 + k) = 1 ∧ x = z.1 89 (kPin c e k)) 0 (4 * kT c)
    (Q := fun r => ∃ (m : Nat) (F : Nat → Int), r = ((m : Int), zRow z 93 F) ∧ n ≤ m ∧ m ≤ n + 4 * kT c ∧ (∀ j, j < n → F j = z.1 93 j) ∧ ∀ x : Int, (∃ j, n ≤ j ∧ j < m ∧ F j = x) ↔ ∃ k, k < 4 * kT c ∧ z.1 82 (e * kX c + 42 + k) = 1 ∧ x = z.1 89 (kPin c e k)) (t := (n, z.1 93)) (by rw [zr_self]; rfl) ⟨Nat.le_refl n, Nat.le_refl n, fun _ _ => rfl, fun x => ⟨fun ⟨j, h1, h2, _⟩ => absurd h2 (by show ¬ j < n; omega), fun ⟨k, hk, _⟩ => absurd hk (Nat.not_lt_zero k)⟩⟩ (by omega) (by omega) ?_ ?_) ?_
  · rintro i ⟨m, F⟩ _ hi ⟨k1, k2, k3, k4⟩
    have gg : Gr c (zRow z 93 F) := Gr_off (P := fun k j => k = 93) (off_row fun j => rfl) (fun k j h => by unfold pS at h; omega) g
    have e13 : (zRow z 93 F).1 1 3 = kT c := h1.2.2.2.1
    have e12 : (zRow z 93 F).1 1 2 = kE c := h1.2.2.1
    have e82 : ∀ j, (zRow z 93 F).1 82 j = z.1 82 j := fun j => rfl
    have hyb := kY_i (c := c) he (show 42 + i < kX c by omega)
    have ea : ((e * kX c + 42 : Nat) : Int) + (i : Int) = ((e * kX c + 42 + i : Nat) : Int) := by push_cast; rfl
    simp only at k1 k2 k3 k4
    have key1 : z.1 82 (e * kX c + 42 + i) = 1 → q_Field_addDriven_6 E (kL c) (e : Int) ((e * kX c + 42 : Nat) : Int) (m : Int) (i : Int) (zRow z 93 F) = some (.inl ((m : Int) + 1, (i : Int) + 1, zPut (zRow z 93 F) 93 m (z.1 89 (kPin c e i)))) := by
      intro hb
      unfold q_Field_addDriven_6
      rw [e13, if_pos (by omega), if_neg (by omega), ea, kL_82, if_pos (by omega), gtN, e82, if_pos hb, e12, if_pos (by omega), zDiv_n e (kE c) (by omega) (by omega), s_groupAt gg hd (by omega), b1_s, kL_93, if_pos (by omega), let_s, if_pos (by omega), let_s, let_s, gtN]
      rfl
    have key2 : ¬ z.1 82 (e * kX c + 42 + i) = 1 → q_Field_addDriven_6 E (kL c) (e : Int) ((e * kX c + 42 : Nat) : Int) (m : Int) (i : Int) (zRow z 93 F) = some (.inl ((m : Int), (i : Int) + 1, zRow z 93 F)) := by
      intro hb
      unfold q_Field_addDriven_6
      rw [e13, if_pos (by omega), if_neg (by omega), ea, kL_82, if_pos (by omega), gtN, e82, if_neg hb, let_s]
    by_cases hb : z.1 82 (e * kX c + 42 + i) = 1
    · refine ok_e (key1 hb) ?_
      refine Or.inl ⟨(m + 1, fun j => if j = m then z.1 89 (kPin c e i) else F j), ?_, ?_⟩
      · rw [zp_row, zr_row, zr_eq]; rfl
      · simp only
        refine ⟨by omega, by omega, fun j hj => (if_neg (by omega)).trans (k3 j hj), fun x => ⟨?_, ?_⟩⟩
        · rintro ⟨j, j1, j2, j3⟩
          by_cases ej : j = m
          · subst ej
            rw [if_pos rfl] at j3
            exact ⟨i, by omega, hb, j3.symm⟩
          · rw [if_neg ej] at j3
            obtain ⟨k, q1, q2, q3⟩ := (k4 x).1 ⟨j, j1, by omega, j3⟩
            exact ⟨k, by omega, q2, q3⟩
        · rintro ⟨k, q1, q2, q3⟩
          by_cases ek : k = i
          · subst ek
            exact ⟨m, k1, by omega, by rw [if_pos rfl, q3]⟩
          · obtain ⟨j, j1, j2, j3⟩ := (k4 x).2 ⟨k, by omega, q2, q3⟩
            exact ⟨j, j1, by omega, by rw [if_neg (by omega), j3]⟩
    · refine ok_e (key2 hb) ?_
      refine Or.inl ⟨(m, F), rfl, ?_⟩
      simp only
      refine ⟨k1, by omega, k3, fun x => ⟨fun h => ?_, ?_⟩⟩
      · obtain ⟨k, q1, q2, q3⟩ := (k4 x).1 h
        exact ⟨k, by omega, q2, q3⟩
      · rintro ⟨k, q1, q2, q3⟩
        by_cases ek : k = i
        · subst ek; exact absurd q2 hb
        · exact (k4 x).2 ⟨k, by omega, q2, q3⟩
  · rintro ⟨m, F⟩ ⟨k1, k2, k3, k4⟩
    have e13 : (zRow z 93 F).1 1 3 = kT c := h1.2.2.2.1
    simp only [q_Field_addDriven_6, e13]
    rw [if_pos (by omega), if_pos (by omega)]
    exact ok_inr ⟨_, rfl, m, F, rfl, k1, k2, k3, k4⟩
  · rintro r ⟨m, F, rfl, h⟩
    rw [ok_s]
    exact ⟨m, F, rfl, h⟩
end
-- F4
section
variable {E : gEv} {c : gCf}
/-- the tables that wire() makes of the bits -/
def Wd (c : gCf) (z : gZ) : Prop := ∃ R fd : Nat → Nat, (∀ w, w < kW c → R w ≤ w ∧ z.1 89 w = (R w : Int)) ∧ (∀ u v, u < kW c → v < kW c → (R u = R v ↔ Cn c (z.1 5) (z.1 6) (z.1 82) u v)) ∧ (∀ e, e < kP c → z.1 90 e = nb (z.1 82) (e * kX c) 16) ∧ (∀ e p, e < kP c → p < 4 → z.1 91 (e * 4 + p) = pg c (z.1 82) (z.1 89) e p) ∧ (∀ e, e ≤ kP c → z.1 92 e = (fd e : Int) ∧ fd e ≤ e * (4 * kT c)) ∧ (∀ e, e < kP c → fd e ≤ fd (e + 1) ∧ ∀ x : Int, (∃ j, fd e ≤ j ∧ j < fd (e + 1) ∧ z.1 93 j = x) ↔ ∃ k, k < 4 * kT c ∧ z.1 82 (e * kX c + 42 + k) = 1 ∧ x = z.1 89 (kPin c e k))
def pWi (k j : Nat) : Prop := (89 ≤ k ∧ k ≤ 93) ∨ (k = 81 ∧ (j = 14 ∨ j = 15))
def pV (k j : Nat) : Prop := 90 ≤ k ∧ k ≤ 93
/-- the loop's property -/
def wI (c : gCf) (z : gZ) (e n : Nat) (t : gZ) : Prop := zOff pV z t ∧ ∃ fd : Nat → Nat, fd e = n ∧ (∀ x, x ≤ e → fd x ≤ x * (4 * kT c) ∧ fd x ≤ n) ∧ (∀ x, x < e → t.1 92 x = (fd x : Int) ∧ t.1 90 x = nb (z.1 82) (x * kX c) 16 ∧ ∀ p, p < 4 → t.1 91 (x * 4 + p) = pg c (z.1 82) (z.1 89) x p) ∧ (∀ x, x < e → fd x ≤ fd (x + 1) ∧ ∀ y : Int, (∃ j, fd x ≤ j ∧ j < fd (x + 1) ∧ t.1 93 j = y) ↔ ∃ k, k < 4 * kT c ∧ z.1 82 (x * kX c + 42 + k) = 1 ∧ y = z.1 89 (kPin c x k))
theorem s_wire26 {z t : gZ} {e n : Nat} (g : Gr c z) (hb : ∀ i, i < kB c → b01 (z.1 82 i)) (he : e < kP c) (h : wI c z e n t) : zOk (q_Field_wire_26 E (kL c) (n : Int) (e : Int) t) (fun r => ∃ (m : Nat) (t' : gZ), r = .inl ((m : Int), (e : Int) + 1, t') ∧ wI c z (e + 1) m t') := by
  obtain ⟨ho, fd, f1, f2, f3, f4⟩ := h
  have gt : Gr c t := Gr_off ho (fun k j h => by unfold pS at h; unfold pV; omega) g
  have h1 := gt.2.1
  have hX := kX_b g.1
  have hT := g.1.2.2.2
  have hP := kP_b g.1
  have hY := kY_b g.1
  have hYB := kYB c
  have hy := kY_i (c := c) he (show 45 < kX c by omega)
  have r82 : ∀ j, t.1 82 j = z.1 82 j := fun j => ho.2 _ _ (by unfold pV; omega)
  have r82' : t.1 82 = z.1 82 := funext r82
  have r89' : t.1 89 = z.1 89 := funext fun j => ho.2 _ _ (by unfold pV; omega)
  have hn := f2 e (Nat.le_refl e)
  have ex : (e : Int) * (kX c : Int) = ((e * kX c : Nat) : Int) := by push_cast; rfl
  have e18 : ((e * kX c : Nat) : Int) + 18 = ((e * kX c + 18 : Nat) : Int) := by push_cast; rfl
  have e42 : ((e * kX c : Nat) : Int) + 42 = ((e * kX c + 42 : Nat) : Int) := by push_cast; rfl
  have o1 : zOff pV z (zPut t 90 e (nb (t.1 82) (e * kX c) 16)) := off_t ho (off_put (by unfold pV; omega))
  have g1 : Gr c (zPut t 90 e (nb (t.1 82) (e * kX c) 16)) := Gr_off o1 (fun k j h => by unfold pS at h; unfold pV; omega) g
  have s1 := s_setPins (E := E) g1 he (fun i hi => by rw [show (zPut t 90 e (nb (t.1 82) (e * kX c) 16)).1 82 i = z.1 82 i from r82 i]; exact hb i hi)
  generalize hs10 : zRow (zPut t 90 e (nb (t.1 82) (e * kX c) 16)) 91 (fun j => if e * 4 ≤ j ∧ j < e * 4 + 4 then pg c ((zPut t 90 e (nb (t.1 82) (e * kX c) 16)).1 82) ((zPut t 90 e (nb (t.1 82) (e * kX c) 16)).1 89) e (j - e * 4) else (zPut t 90 e (nb (t.1 82) (e * kX c) 16)).1 91 j) = s10 at s1
  have o2 : zOff pV z s10 := by rw [← hs10]; exact off_t o1 (off_row fun j => by unfold pV; omega)
  have o3 : zOff pV z (zPut s10 92 e (n : Int)) := off_t o2 (off_put (by unfold pV; omega))
  have g3 : Gr c (zPut s10 92 e (n : Int)) := Gr_off o3 (fun k j h => by unfold pS at h; unfold pV; omega) g
  obtain ⟨r, hr, m, F, rfl, m1, m2, m3, m4⟩ := s_addDriven (E := E) g3 he (by omega : n ≤ e * (4 * kT c))
  have key : q_Field_wire_26 E (kL c) (n : Int) (e : Int) t = some (.inl ((m : Int), (e : Int) + 1, zRow (zPut s10 92 e (n : Int)) 93 F)) := by
    unfold q_Field_wire_26
    rw [h1.2.2.2.2.2.2.1, if_neg (by omega), h1.2.2.2.2.2.2.2.2.2.1, ex, if_pos (by omega), let_s, show (16 : Int) = ((16 : Nat) : Int) from rfl, s_numberAt (by omega) (by omega) g.1, b1_s, kL_90, if_pos (by omega), let_s, gtN, e18, if_pos (by omega), s1, b1_s, kL_92, if_pos (by omega), let_s, e42, if_pos (by omega), hr, b2_s, let_s]
  refine ok_e key ⟨m, _, rfl, off_t o3 (off_row fun j => by unfold pV; omega), fun x => if x = e + 1 then m else fd x, if_pos rfl, ?_, ?_, ?_⟩
  · intro x hx
    by_cases e1 : x = e + 1
    · subst e1
      simp only [if_true]
      rw [Nat.add_mul]; omega
    · simp only [e1, if_false]
      have := f2 x (by omega); omega
  · intro x hx
    have hxe : x ≠ e + 1 := by omega
    simp only [hxe, if_false]
    subst hs10
    simp only [zr1, zp1, reduceIte, Nat.reduceEqDiff]
    by_cases e1 : x = e
    · subst e1
      simp only [if_true]
      refine ⟨by rw [f1], by rw [r82'], fun p hp => ?_⟩
      rw [if_pos (by omega), show x * 4 + p - x * 4 = p by omega]
      rw [show (zPut t 90 x (nb (t.1 82) (x * kX c) 16)).1 82 = z.1 82 from r82', show (zPut t 90 x (nb (t.1 82) (x * kX c) 16)).1 89 = z.1 89 from r89']
    · simp only [e1, if_false]
      have := f3 x (by omega)
      refine ⟨this.1, this.2.1, fun p hp => ?_⟩
      rw [if_neg (by omega)]; exact this.2.2 p hp
  · intro x hx
    have hxe : x ≠ e + 1 := by omega
    have z93 : ∀ j, j < n → F j = t.1 93 j := fun j hj => by rw [m3 j hj, ← hs10]; rfl
    by_cases e1 : x = e
    · subst e1
      simp only [if_true, hxe, if_false]
      refine ⟨by omega, fun y => ?_⟩
      have q := m4 y
      rw [f1]
      simp only [zr1, reduceIte]
      rw [q]
      rw [show (zPut s10 92 x (n : Int)).1 82 = z.1 82 from by rw [← hs10]; exact r82', show (zPut s10 92 x (n : Int)).1 89 = z.1 89 from by rw [← hs10]; exact r89']
    · have hx2 : x + 1 ≠ e + 1 := by omega
      simp only [hxe, hx2, if_false]
      obtain ⟨q1, q2⟩ := f4 x (by omega)
      refine ⟨q1, fun y => ?_⟩
      rw [← q2 y]
      have := (f2 (x + 1) (by omega)).2
      constructor
      · rintro ⟨j, j1, j2, j3⟩
        refine ⟨j, j1, j2, ?_⟩
        rw [← j3, zr1, if_pos rfl, z93 j (by omega)]
      · rintro ⟨j, j1, j2, j3⟩
        refine ⟨j, j1, j2, ?_⟩
        rw [← j3, zr1, if_pos rfl, z93 j (by omega)]
theorem s_wire {z : gZ} (g : Gr c z) (hb : ∀ i, i < kB c → b01 (z.1 82 i)) (hw : z.1 81 14 = 0 ∨ (z.1 81 14 = 1 ∧ Wd c z)) : zOk (q_Field_wire E (kL c) z) (fun z' => Wd c z' ∧ z'.1 81 14 = 1 ∧ (z.1 81 14 = 1 → z' = z) ∧ (z.1 81 14 = 0 → z'.1 81 15 = 0) ∧ zOff pWi z z') := by
  have hP := kP_b g.1
  unfold q_Field_wire
  rcases hw with hw | ⟨hw, hw2⟩
  · rw [if_pos hw, let_s, let_s, ok_1]
    have o1 : zOff pWi z (zPut (zPut z 81 14 1) 81 15 0) := off_t (off_put (by unfold pWi; omega)) (off_put (by unfold pWi; omega))
    have g1 := Gr_off o1 (fun k j h => by unfold pS at h; unfold pWi; omega) g
    refine ok_w (s_setGroups g1) ?_
    rintro z4 ⟨G, R, rfl, k1, k2⟩
    generalize hz4 : zRow (zPut (zPut z 81 14 1) 81 15 0) 89 G = z4
    have o4 : zOff pWi z z4 := by rw [← hz4]; exact off_t o1 (off_row fun j => by unfold pWi; omega)
    have g4 : Gr c z4 := Gr_off o4 (fun k j h => by unfold pS at h; unfold pWi; omega) g
    have b4 : z4.1 82 = z.1 82 := funext fun j => o4.2 _ _ (by unfold pWi; omega)
    rw [ok_1]
    refine ok_w (it_for (fun (i : Nat) (t : Nat × gZ) => ((t.1 : Int), (i : Int), t.2)) (fun i t => wI c z4 i t.1 t.2) 0 (kP c)
      (Q := fun r => ∃ (n : Nat) (t : gZ), r = ((n : Int), t) ∧ wI c z4 (kP c) n t) (t := (0, z4)) rfl ⟨off_r, fun _ => 0, rfl, fun x hx => ⟨Nat.zero_le _, Nat.le_refl 0⟩, fun x hx => absurd hx (Nat.not_lt_zero x), fun x hx => absurd hx (Nat.not_lt_zero x)⟩ (by omega) (by omega) ?_ ?_) ?_
    · rintro i ⟨n, t⟩ _ hi hI
      refine ok_w (s_wire26 (E := E) g4 (fun i hi => by rw [b4]; exact hb i hi) hi hI) ?_
      rintro r ⟨m, t', rfl, h⟩
      exact Or.inl ⟨(m, t'), rfl, h⟩
    · rintro ⟨n, t⟩ hI
      have gt : Gr c t := Gr_off hI.1 (fun k j h => by unfold pS at h; unfold pV; omega) g4
      have key : q_Field_wire_26 E (kL c) (n : Int) ((kP c : Nat) : Int) t = some (.inr ((n : Int), t)) := by
        unfold q_Field_wire_26
        rw [gt.2.1.2.2.2.2.2.2.1, if_pos (by omega)]
      exact ok_e key ⟨_, rfl, n, t, rfl, hI⟩
    · rintro r ⟨n, t, rfl, hI⟩
      have gt : Gr c t := Gr_off hI.1 (fun k j h => by unfold pS at h; unfold pV; omega) g4
      obtain ⟨ho, fd, f1, f2, f3, f4⟩ := hI
      simp only
      rw [gt.2.1.2.2.2.2.2.2.1, kL_92, if_pos (by omega), let_s, ok_s, gtN]
      have of : zOff pWi z4 (zPut t 92 (kP c) (n : Int)) := off_t (off_w ho fun k j h => by unfold pV at h; unfold pWi; omega) (off_put (by unfold pWi; omega))
      have ofV : zOff pV z4 (zPut t 92 (kP c) (n : Int)) := off_t ho (off_put (by unfold pV; omega))
      have c82 : (zPut t 92 (kP c) (n : Int)).1 82 = z4.1 82 := funext fun j => ofV.2 _ _ (by unfold pV; omega)
      have c89 : (zPut t 92 (kP c) (n : Int)).1 89 = z4.1 89 := funext fun j => ofV.2 _ _ (by unfold pV; omega)
      have c5 : (zPut t 92 (kP c) (n : Int)).1 5 = z4.1 5 := funext fun j => ofV.2 _ _ (by unfold pV; omega)
      have c6 : (zPut t 92 (kP c) (n : Int)).1 6 = z4.1 6 := funext fun j => ofV.2 _ _ (by unfold pV; omega)
      have g89 : ∀ j, z4.1 89 j = G j := fun j => by rw [← hz4, zr_eq]
      refine ⟨⟨R, fd, fun w hw => ?_, fun u v hu hv => ?_, fun e he => ?_, fun e p he hp => ?_, fun e he => ?_, fun e he => ?_⟩, ?_, ?_, ?_, off_t o4 of⟩
      · rw [c89, g89]; exact k1 w hw
      · rw [c5, c6, c82, ← hz4]; exact k2 u v hu hv
      · rw [c82]; exact (f3 e he).2.1
      · rw [c82, c89]; exact (f3 e he).2.2 p hp
      · refine ⟨?_, (f2 e he).1⟩
        rw [zp1, if_pos rfl]
        by_cases h : e = kP c
        · subst h; rw [if_pos rfl, f1]
        · rw [if_neg h]; exact (f3 e (by omega)).1
      · rw [c82, c89]; exact f4 e he
      · rw [ofV.2 81 14 (by unfold pV; omega), ← hz4]; rfl
      · intro h; omega
      · intro _; rw [ofV.2 81 15 (by unfold pV; omega), ← hz4]; rfl
  · rw [if_neg (by omega), ok_s]
    exact ⟨hw2, hw, fun _ => rfl, fun h => by omega, off_r⟩
end
-- F5
section
variable {E : gEv} {c : gCf}
def fDrv (c : gCf) (b pl out : Nat → Int) (u : Nat) : Prop := (∃ e k, e < kP c ∧ k < 4 * kT c ∧ out e = 1 ∧ b (e * kX c + 42 + k) = 1 ∧ kPin c e k = u) ∨ (∃ p t, p < kD c ∧ t < kT c ∧ nb b (kY c + p * (6 + kT c)) 2 = 1 ∧ pl p = 1 ∧ b (kY c + p * (6 + kT c) + 6 + t) = 1 ∧ kPw c p + t = u)
def fLev (c : gCf) (A B b pl out : Nat → Int) (w : Nat) : Prop := ∃ u, fDrv c b pl out u ∧ Cn c A B b u w
def fOut (c : gCf) (b l lut : Nat → Int) (e : Nat) : Int := if b (e * kX c + 16) = 1 then l e else lut e
def fPin (c : gCf) (b : Nat → Int) (lv : Nat → Prop) (e p : Nat) : Prop := ∃ v : Nat, nb b (e * kX c + 18 + p * 6) 6 = (v : Int) ∧ 1 ≤ v ∧ v ≤ 4 * kT c ∧ lv (kPin c e (v - 1))
def fSw (c : gCf) (A B b pl l lut lut' : Nat → Int) : Prop := ∀ e, e < kP c → ∃ n : Nat, n < 16 ∧ (∀ p, p < 4 → (n.testBit p = true ↔ fPin c b (fLev c A B b pl (fOut c b l lut)) e p)) ∧ lut' e = b (e * kX c + n)
def Ag (c : gCf) (v v' : Nat → Int) : Prop := ∀ e, e < kP c → v e = v' e
def fStl (c : gCf) (A B b pl l : Nat → Int) : Nat → (Nat → Int) → Prop → (Nat → Int) → Prop
  | 0, v, r, v' => ¬ r ∧ Ag c v v'
  | n + 1, v, r, v' => ∃ v1, fSw c A B b pl l v v1 ∧ ((Ag c v1 v ∧ r ∧ Ag c v1 v') ∨ (¬ Ag c v1 v ∧ fStl c A B b pl l n v1 r v'))
theorem fDrv_lt {b pl out : Nat → Int} {u : Nat} (h : kOk c) (hd : fDrv c b pl out u) : u < kW c := by
  rcases hd with ⟨e, k, h1, h2, _, _, rfl⟩ | ⟨p, t, h1, h2, _, _, _, rfl⟩
  · exact kPin_lt h h1 h2
  · exact kPw_lt h h1 h2
def dE (c : gCf) (b G : Nat → Int) (e x : Nat) : Prop := ∃ k, k < 4 * kT c ∧ b (e * kX c + 42 + k) = 1 ∧ (x : Int) = G (kPin c e k)
def dP (c : gCf) (b G : Nat → Int) (p x : Nat) : Prop := ∃ t, t < kT c ∧ b (kY c + p * (6 + kT c) + 6 + t) = 1 ∧ (x : Int) = G (kPw c p + t)
def rowIs (c : gCf) (F : Nat → Int) (S : Nat → Prop) : Prop := ∀ x, x < kW c → (S x → F x = 1) ∧ (¬ S x → F x = 0)
theorem rowIs_c {F : Nat → Int} {S S' : Nat → Prop} (h : rowIs c F S) (k : ∀ x, x < kW c → (S x ↔ S' x)) : rowIs c F S' := fun x hx => ⟨fun q => (h x hx).1 ((k x hx).2 q), fun q => (h x hx).2 fun r => q ((k x hx).1 r)⟩
theorem rowIs_put {F : Nat → Int} {S : Nat → Prop} (h : rowIs c F S) (y : Nat) : rowIs c (fun i => if i = y then 1 else F i) (fun x => S x ∨ x = y) := by
  intro x hx
  by_cases e : x = y
  · subst e; exact ⟨fun _ => if_pos rfl, fun q => absurd (Or.inr rfl) q⟩
  · refine ⟨fun q => (if_neg e).trans ((h x hx).1 (q.resolve_right e)), fun q => (if_neg e).trans ((h x hx).2 fun r => q (Or.inl r))⟩
theorem rowIs_01 {F : Nat → Int} {S : Nat → Prop} (h : rowIs c F S) {x : Nat} (hx : x < kW c) : b01 (F x) := by
  by_cases q : S x
  · exact Or.inr ((h x hx).1 q)
  · exact Or.inl ((h x hx).2 q)
theorem zByte_1 : zByte 1 = 1 := zByte_s 1 (by omega)
theorem zByte_0 : zByte 0 = 0 := zByte_s 0 (by omega)
theorem s_raise {z : gZ} {k e : Nat} {S : Nat → Prop} (g : Gr c z) (hw : Wd c z) (he : e < kP c) (hk : k = 87 ∨ k = 88) (hS : rowIs c (z.1 k) S) : zOk (q_Field_raise E (kL c) k e z) (fun z' => ∃ F, z' = zRow z k F ∧ rowIs c F (fun x => S x ∨ dE c (z.1 82) (z.1 89) e x)) := by
  obtain ⟨R, fd, w1, w2, w3, w4, w5, w6⟩ := hw
  have hW := kW_b g.1
  have hP := kP_b g.1
  have hT := g.1.2.2.2
  have hLk : kL c k = kW c := by rcases hk with rfl | rfl <;> rfl
  have k92 : 92 ≠ k := by omega
  have k93 : 93 ≠ k := by omega
  obtain ⟨a1, a2⟩ := w5 e (by omega)
  obtain ⟨b1, b2⟩ := w5 (e + 1) (by omega)
  obtain ⟨q1, q2⟩ := w6 e he
  have hc2 : (e + 1) * (4 * kT c) ≤ kP c * 4 * kT c := by
    rw [Nat.mul_assoc]; exact Nat.mul_le_mul_right _ he
  have hc3 : kP c * 4 * kT c ≤ 576 * 10 := Nat.mul_le_mul (by omega) (by omega)
  have rng : ∀ j, fd e ≤ j → j < fd (e + 1) → ∃ x : Nat, x < kW c ∧ z.1 93 j = (x : Int) := by
    intro j j1 j2
    obtain ⟨k, k1, _, k3⟩ := (q2 (z.1 93 j)).1 ⟨j, j1, j2, rfl⟩
    have := w1 (kPin c e k) (kPin_lt g.1 he k1)
    have hp := kPin_lt g.1 he k1
    exact ⟨R (kPin c e k), by omega, by rw [k3, this.2]⟩
  unfold q_Field_raise
  rw [kL_92, if_pos (by omega), let_s, gtN, a1, ok_1]
  have hq3 : ∀ x : Nat, dE c (z.1 82) (z.1 89) e x ↔ ∃ j, fd e ≤ j ∧ j < fd (e + 1) ∧ z.1 93 j = (x : Int) := fun x => (q2 x).symm
  refine ok_w (it_for (fun (i : Nat) (F : Nat → Int) => ((i : Int), zRow z k F)) (fun i F => rowIs c F (fun x => S x ∨ ∃ j, fd e ≤ j ∧ j < i ∧ z.1 93 j = (x : Int))) (fd e) (fd (e + 1))
    (Q := fun z' => ∃ F, z' = zRow z k F ∧ rowIs c F (fun x => S x ∨ dE c (z.1 82) (z.1 89) e x)) (t := z.1 k) (by rw [zr_self]) (rowIs_c hS fun x _ => ⟨Or.inl, fun h => h.elim id fun ⟨j, j1, j2, _⟩ => by omega⟩) q1 (by omega) ?_ ?_) ?_
  · intro i F hi1 hi2 hF
    obtain ⟨x, hx, hz⟩ := rng i hi1 hi2
    have e92 : ∀ j, (zRow z k F).1 92 j = z.1 92 j := fun j => by rw [zr_ne _ _ _ _ k92]
    have e93 : ∀ j, (zRow z k F).1 93 j = z.1 93 j := fun j => by rw [zr_ne _ _ _ _ k93]
    have ee : (e : Int) + 1 = ((e + 1 : Nat) : Int) := by push_cast; rfl
    have key : q_Field_raise_7 E (kL c) k (e : Int) (i : Int) (zRow z k F) = some (.inl ((i : Int) + 1, zPut (zRow z k F) k x 1)) := by
      unfold q_Field_raise_7
      rw [ee, kL_92, if_pos (by omega), gtN, e92, b1, if_neg (by omega), kL_93, if_pos (by omega), gtN, e93, hz, hLk, if_pos (by omega), let_s, gtN, zByte_1, let_s]
    refine ok_e key (Or.inl ⟨fun j => if j = x then 1 else F j, ?_, ?_⟩)
    · rw [zp_row, zr_row, zr_eq]; rfl
    · refine rowIs_c (rowIs_put hF x) fun y hy => ?_
      constructor
      · rintro ((h | ⟨j, j1, j2, j3⟩) | h)
        · exact Or.inl h
        · exact Or.inr ⟨j, j1, by omega, j3⟩
        · subst h; exact Or.inr ⟨i, hi1, by omega, hz⟩
      · rintro (h | ⟨j, j1, j2, j3⟩)
        · exact Or.inl (Or.inl h)
        · by_cases ej : j = i
          · subst ej; right; omega
          · exact Or.inl (Or.inr ⟨j, j1, by omega, j3⟩)
  · intro F hF
    have e92 : ∀ j, (zRow z k F).1 92 j = z.1 92 j := fun j => by rw [zr_ne _ _ _ _ k92]
    have ee : (e : Int) + 1 = ((e + 1 : Nat) : Int) := by push_cast; rfl
    have key : q_Field_raise_7 E (kL c) k (e : Int) ((fd (e + 1) : Nat) : Int) (zRow z k F) = some (.inr (zRow z k F)) := by
      unfold q_Field_raise_7
      rw [ee, kL_92, if_pos (by omega), gtN, e92, b1, if_pos (by omega)]
    exact ok_e key ⟨_, rfl, F, rfl, rowIs_c hF fun x _ => or_congr_right (hq3 x).symm⟩
  · intro z' h
    rw [ok_s]; exact h
theorem s_drivePad {z : gZ} {p : Nat} {S : Nat → Prop} (g : Gr c z) (hw : Wd c z) (hp : p < kD c) (hS : rowIs c (z.1 87) S) : zOk (q_Field_drivePad E (kL c) p ((kY c + p * (6 + kT c) + 6 : Nat) : Int) z) (fun z' => ∃ F, z' = zRow z 87 F ∧ rowIs c F (fun x => S x ∨ dP c (z.1 82) (z.1 89) p x)) := by
  obtain ⟨R, fd, w1, w2, w3, w4, w5, w6⟩ := hw
  have hW := kW_b g.1
  have hT := g.1.2.2.2
  have hYB := kYB c
  have hB := kB_b g.1
  have hN := kN_b g.1
  have hD := kD_b g.1
  unfold q_Field_drivePad
  rw [ok_1]
  refine ok_w (it_for (fun (i : Nat) (F : Nat → Int) => ((i : Int), zRow z 87 F)) (fun i F => rowIs c F (fun x => S x ∨ ∃ t, t < i ∧ z.1 82 (kY c + p * (6 + kT c) + 6 + t) = 1 ∧ (x : Int) = z.1 89 (kPw c p + t))) 0 (kT c)
    (Q := fun z' => ∃ F, z' = zRow z 87 F ∧ rowIs c F (fun x => S x ∨ dP c (z.1 82) (z.1 89) p x)) (t := z.1 87) (by rw [zr_self]; rfl) (rowIs_c hS fun x _ => ⟨Or.inl, fun h => h.elim id fun ⟨j, j1, _⟩ => by omega⟩) (by omega) (by omega) ?_ ?_) ?_
  · intro i F _ hi hF
    have gg : Gr c (zRow z 87 F) := Gr_off (P := fun k j => k = 87) (off_row fun j => rfl) (fun k j h => by unfold pS at h; omega) g
    have hz := kZ_i (c := c) hp (show 6 + i < 6 + kT c by omega)
    have ea : ((kY c + p * (6 + kT c) + 6 : Nat) : Int) + (i : Int) = ((kY c + p * (6 + kT c) + 6 + i : Nat) : Int) := by push_cast; rfl
    have eN : ((kN c : Nat) : Int) + (p : Int) = ((kN c + p : Nat) : Int) := by push_cast; rfl
    have e82 : ∀ j, (zRow z 87 F).1 82 j = z.1 82 j := fun j => rfl
    have e89 : ∀ j, (zRow z 87 F).1 89 j = z.1 89 j := fun j => rfl
    have hpw := kPw_lt g.1 hp hi
    obtain ⟨r1, r2⟩ := w1 _ hpw
    by_cases hb : z.1 82 (kY c + p * (6 + kT c) + 6 + i) = 1
    · have key : q_Field_drivePad_2 E (kL c) (p : Int) ((kY c + p * (6 + kT c) + 6 : Nat) : Int) (i : Int) (zRow z 87 F) = some (.inl ((i : Int) + 1, zPut (zRow z 87 F) 87 (R (kPw c p + i)) 1)) := by
        unfold q_Field_drivePad_2
        rw [gg.2.1.2.2.2.1, if_neg (by omega), ea, kL_82, if_pos (by omega), gtN, e82, if_pos hb, gg.2.1.2.2.2.2.1, eN, if_pos (by omega), s_groupAtP gg hp hi, b1_s, e89, r2, kL_87, if_pos (by omega), let_s, let_s, gtN, zByte_1]
      refine ok_e key (Or.inl ⟨fun j => if j = R (kPw c p + i) then 1 else F j, ?_, ?_⟩)
      · rw [zp_row, zr_row, zr_eq]; rfl
      · refine rowIs_c (rowIs_put hF _) fun y hy => ?_
        constructor
        · rintro ((h | ⟨j, j1, j2, j3⟩) | h)
          · exact Or.inl h
          · exact Or.inr ⟨j, by omega, j2, j3⟩
          · subst h; exact Or.inr ⟨i, by omega, hb, r2.symm⟩
        · rintro (h | ⟨j, j1, j2, j3⟩)
          · exact Or.inl (Or.inl h)
          · by_cases ej : j = i
            · subst ej; right; omega
            · exact Or.inl (Or.inr ⟨j, by omega, j2, j3⟩)
    · have key : q_Field_drivePad_2 E (kL c) (p : Int) ((kY c + p * (6 + kT c) + 6 : Nat) : Int) (i : Int) (zRow z 87 F) = some (.inl ((i : Int) + 1, zRow z 87 F)) := by
        unfold q_Field_drivePad_2
        rw [gg.2.1.2.2.2.1, if_neg (by omega), ea, kL_82, if_pos (by omega), gtN, e82, if_neg hb, let_s]
      refine ok_e key (Or.inl ⟨F, rfl, rowIs_c hF fun y hy => or_congr_right ⟨fun ⟨j, j1, j2, j3⟩ => ⟨j, by omega, j2, j3⟩, fun ⟨j, j1, j2, j3⟩ => ⟨j, ?_, j2, j3⟩⟩⟩)
      by_cases ej : j = i
      · subst ej; exact absurd j2 hb
      · omega
  · intro F hF
    have gg : Gr c (zRow z 87 F) := Gr_off (P := fun k j => k = 87) (off_row fun j => rfl) (fun k j h => by unfold pS at h; omega) g
    have key : q_Field_drivePad_2 E (kL c) (p : Int) ((kY c + p * (6 + kT c) + 6 : Nat) : Int) ((kT c : Nat) : Int) (zRow z 87 F) = some (.inr (zRow z 87 F)) := by
      unfold q_Field_drivePad_2
      rw [gg.2.1.2.2.2.1, if_pos (by omega)]
    exact ok_e key ⟨_, rfl, F, rfl, hF⟩
  · intro z' h
    rw [ok_s]; exact h
end
-- F6
section
variable {E : gEv} {c : gCf}
/-- what pads and latches drive -/
def fBs (c : gCf) (b G pl l : Nat → Int) (x : Nat) : Prop := (∃ p, p < kD c ∧ pl p = 1 ∧ nb b (kY c + p * (6 + kT c)) 2 = 1 ∧ dP c b G p x) ∨ (∃ e, e < kP c ∧ b (e * kX c + 16) = 1 ∧ l e = 1 ∧ dE c b G e x)
theorem Wd_off {z z' : gZ} (h : ∀ k j, (5 ≤ k ∧ k ≤ 6) ∨ k = 82 ∨ (89 ≤ k ∧ k ≤ 93) → z'.1 k j = z.1 k j) (w : Wd c z) : Wd c z' := by
  have h5 : z'.1 5 = z.1 5 := funext fun j => h _ _ (by omega)
  have h6 : z'.1 6 = z.1 6 := funext fun j => h _ _ (by omega)
  have h82 : z'.1 82 = z.1 82 := funext fun j => h _ _ (by omega)
  have h89 : z'.1 89 = z.1 89 := funext fun j => h _ _ (by omega)
  have h90 : z'.1 90 = z.1 90 := funext fun j => h _ _ (by omega)
  have h91 : z'.1 91 = z.1 91 := funext fun j => h _ _ (by omega)
  have h92 : z'.1 92 = z.1 92 := funext fun j => h _ _ (by omega)
  have h93 : z'.1 93 = z.1 93 := funext fun j => h _ _ (by omega)
  unfold Wd
  rw [h5, h6, h82, h89, h90, h91, h92, h93]
  exact w
theorem s_setBase {z : gZ} (g : Gr c z) (hw : Wd c z) : zOk (q_Field_setBase E (kL c) z) (fun z' => ∃ F, z' = zRow z 87 F ∧ rowIs c F (fBs c (z.1 82) (z.1 89) (z.1 83) (z.1 84))) := by
  have hW := kW_b g.1
  have hP := kP_b g.1
  have hD := kD_b g.1
  have hYB := kYB c
  have hB := kB_b g.1
  have gF : ∀ F, Gr c (zRow z 87 F) := fun F => Gr_off (P := fun k j => k = 87) (off_row fun j => rfl) (fun k j h => by unfold pS at h; omega) g
  have wF : ∀ F, Wd c (zRow z 87 F) := fun F => Wd_off (fun k j h => by rw [zr_ne]; omega) hw
  unfold q_Field_setBase
  rw [s_fillB 87 0 z (by rw [kL_87]; omega), b1_s, ok_1, kL_87]
  refine ok_w (it_for (fun (i : Nat) (F : Nat → Int) => ((i : Int), zRow z 87 F)) (fun i F => rowIs c F (fun x => ∃ p, p < i ∧ z.1 83 p = 1 ∧ nb (z.1 82) (kY c + p * (6 + kT c)) 2 = 1 ∧ dP c (z.1 82) (z.1 89) p x)) 0 (kD c)
    (Q := fun z' => ∃ F, z' = zRow z 87 F ∧ rowIs c F (fun x => ∃ p, p < kD c ∧ z.1 83 p = 1 ∧ nb (z.1 82) (kY c + p * (6 + kT c)) 2 = 1 ∧ dP c (z.1 82) (z.1 89) p x)) (t := fun j => if j < kW c then zByte 0 else z.1 87 j) rfl (fun x hx => ⟨fun ⟨p, h, _⟩ => absurd h (Nat.not_lt_zero p), fun _ => (if_pos hx).trans zByte_0⟩) (by omega) (by omega) ?_ ?_) ?_
  · intro i F _ hi hF
    have gg := gF F
    have hz := kZ_i (c := c) hi (show 6 < 6 + kT c by have := g.1.2.2.2; omega)
    have e2 : ∀ t : gZ, t.1 82 = z.1 82 → Gr c t → q_Field_numberAt E (kL c) ((kY c + i * (6 + kT c) : Nat) : Int) 2 t = some (nb (z.1 82) (kY c + i * (6 + kT c)) 2) := fun t ht gt => by
      rw [show (2 : Int) = ((2 : Nat) : Int) from rfl, s_numberAt (by omega) (by omega) gt.1, ht]
    have skip : ∀ (hn : ¬ (z.1 83 i = 1 ∧ nb (z.1 82) (kY c + i * (6 + kT c)) 2 = 1)), rowIs c F (fun x => ∃ p, p < i + 1 ∧ z.1 83 p = 1 ∧ nb (z.1 82) (kY c + p * (6 + kT c)) 2 = 1 ∧ dP c (z.1 82) (z.1 89) p x) := fun hn => rowIs_c hF fun x hx => ⟨fun ⟨p, h1, h2⟩ => ⟨p, by omega, h2⟩, fun ⟨p, h1, h2, h3, h4⟩ => ⟨p, by
      by_cases ep : p = i
      · subst ep; exact absurd ⟨h2, h3⟩ hn
      · omega, h2, h3, h4⟩⟩
    have pre : q_Field_setBase_10 E (kL c) (i : Int) (zRow z 87 F) = if z.1 83 i = 1 then (if nb (z.1 82) (kY c + i * (6 + kT c)) 2 = 1 then (gB1 (q_Field_drivePad E (kL c) i ((kY c + i * (6 + kT c) + 6 : Nat) : Int) (zRow z 87 F)) fun s8 => some (.inl ((i : Int) + 1, s8))) else some (.inl ((i : Int) + 1, zRow z 87 F))) else some (.inl ((i : Int) + 1, zRow z 87 F)) := by
      unfold q_Field_setBase_10
      have e83 : ∀ j, (zRow z 87 F).1 83 j = z.1 83 j := fun j => rfl
      have e6 : ((kY c + i * (6 + kT c) : Nat) : Int) + 6 = ((kY c + i * (6 + kT c) + 6 : Nat) : Int) := by push_cast; rfl
      rw [gg.2.1.2.2.2.2.2.1, if_neg (by omega), s_padBit gg hi, b1_s, kL_83, if_pos (by omega), gtN, e83]
      by_cases h1 : z.1 83 i = 1
      · rw [if_pos h1, if_pos h1, e2 (zRow z 87 F) rfl gg, b1_s]
        by_cases h2 : nb (z.1 82) (kY c + i * (6 + kT c)) 2 = 1
        · rw [if_pos h2, if_pos h2, e6, if_pos (by omega)]; rfl
        · rw [if_neg h2, if_neg h2]; rfl
      · rw [if_neg h1, if_neg h1]; rfl
    by_cases h1 : z.1 83 i = 1
    · by_cases h2 : nb (z.1 82) (kY c + i * (6 + kT c)) 2 = 1
      · obtain ⟨z', hr, F', rfl, hF'⟩ := s_drivePad (E := E) gg (wF F) hi (S := fun x => ∃ p, p < i ∧ z.1 83 p = 1 ∧ nb (z.1 82) (kY c + p * (6 + kT c)) 2 = 1 ∧ dP c (z.1 82) (z.1 89) p x) (by rw [zr_eq]; exact hF)
        rw [zr_row] at hr
        have key : q_Field_setBase_10 E (kL c) (i : Int) (zRow z 87 F) = some (.inl ((i : Int) + 1, zRow z 87 F')) := by
          rw [pre, if_pos h1, if_pos h2, hr, b1_s]
        refine ok_e key (Or.inl ⟨F', rfl, rowIs_c hF' fun x hx => ⟨?_, ?_⟩⟩)
        · rintro (⟨p, q1, q2⟩ | h)
          · exact ⟨p, by omega, q2⟩
          · exact ⟨i, by omega, h1, h2, h⟩
        · rintro ⟨p, q1, q2, q3, q4⟩
          by_cases ep : p = i
          · subst ep; exact Or.inr q4
          · exact Or.inl ⟨p, by omega, q2, q3, q4⟩
      · refine ok_e (show q_Field_setBase_10 E (kL c) (i : Int) (zRow z 87 F) = some (.inl ((i : Int) + 1, zRow z 87 F)) by rw [pre, if_pos h1, if_neg h2]) (Or.inl ⟨F, rfl, skip fun h => h2 h.2⟩)
    · refine ok_e (show q_Field_setBase_10 E (kL c) (i : Int) (zRow z 87 F) = some (.inl ((i : Int) + 1, zRow z 87 F)) by rw [pre, if_neg h1]) (Or.inl ⟨F, rfl, skip fun h => h1 h.1⟩)
  · intro F hF
    have key : q_Field_setBase_10 E (kL c) ((kD c : Nat) : Int) (zRow z 87 F) = some (.inr (zRow z 87 F)) := by
      unfold q_Field_setBase_10
      rw [(gF F).2.1.2.2.2.2.2.1, if_pos (by omega)]
    exact ok_e key ⟨_, rfl, F, rfl, hF⟩
  · rintro z' ⟨F0, rfl, hF0⟩
    rw [ok_1]
    refine ok_w (it_for (fun (i : Nat) (F : Nat → Int) => ((i : Int), zRow z 87 F)) (fun i F => rowIs c F (fun x => (∃ p, p < kD c ∧ z.1 83 p = 1 ∧ nb (z.1 82) (kY c + p * (6 + kT c)) 2 = 1 ∧ dP c (z.1 82) (z.1 89) p x) ∨ ∃ e, e < i ∧ z.1 82 (e * kX c + 16) = 1 ∧ z.1 84 e = 1 ∧ dE c (z.1 82) (z.1 89) e x)) 0 (kP c)
      (Q := fun z' => ∃ F, z' = zRow z 87 F ∧ rowIs c F (fBs c (z.1 82) (z.1 89) (z.1 83) (z.1 84))) (t := F0) rfl (rowIs_c hF0 fun x _ => ⟨Or.inl, fun h => h.elim id fun ⟨e, h, _⟩ => absurd h (Nat.not_lt_zero e)⟩) (by omega) (by omega) ?_ ?_) ?_
    · intro i F _ hi hF
      have gg := gF F
      have e82 : ∀ j, (zRow z 87 F).1 82 j = z.1 82 j := fun j => rfl
      have e84 : ∀ j, (zRow z 87 F).1 84 j = z.1 84 j := fun j => rfl
      have pre : q_Field_setBase_67 E (kL c) (i : Int) (zRow z 87 F) = if z.1 82 (i * kX c + 16) = 1 then (if z.1 84 i = 1 then (gB1 (q_Field_raise E (kL c) 87 i (zRow z 87 F)) fun s8 => some (.inl ((i : Int) + 1, s8))) else some (.inl ((i : Int) + 1, zRow z 87 F))) else some (.inl ((i : Int) + 1, zRow z 87 F)) := by
        unfold q_Field_setBase_67
        rw [gg.2.1.2.2.2.2.2.2.1, if_neg (by omega), s_isUsed gg hi, b1_s, e82]
        by_cases h : z.1 82 (i * kX c + 16) = 1
        · rw [if_pos h, if_pos h, if_neg (by omega), kL_84, if_pos (by omega), gtN, e84]; rfl
        · rw [if_neg h, if_neg h, if_pos rfl, let_s]
      have skip : ∀ (hn : ¬ (z.1 82 (i * kX c + 16) = 1 ∧ z.1 84 i = 1)), rowIs c F (fun x => (∃ p, p < kD c ∧ z.1 83 p = 1 ∧ nb (z.1 82) (kY c + p * (6 + kT c)) 2 = 1 ∧ dP c (z.1 82) (z.1 89) p x) ∨ ∃ e, e < i + 1 ∧ z.1 82 (e * kX c + 16) = 1 ∧ z.1 84 e = 1 ∧ dE c (z.1 82) (z.1 89) e x) := fun hn => rowIs_c hF fun x hx => or_congr_right ⟨fun ⟨p, h1, h2⟩ => ⟨p, by omega, h2⟩, fun ⟨p, h1, h2, h3, h4⟩ => ⟨p, by
        by_cases ep : p = i
        · subst ep; exact absurd ⟨h2, h3⟩ hn
        · omega, h2, h3, h4⟩⟩
      by_cases h1 : z.1 82 (i * kX c + 16) = 1
      · by_cases h2 : z.1 84 i = 1
        · obtain ⟨z', hr, F', rfl, hF'⟩ := s_raise (E := E) gg (wF F) hi (Or.inl rfl) (S := fun x => (∃ p, p < kD c ∧ z.1 83 p = 1 ∧ nb (z.1 82) (kY c + p * (6 + kT c)) 2 = 1 ∧ dP c (z.1 82) (z.1 89) p x) ∨ ∃ e, e < i ∧ z.1 82 (e * kX c + 16) = 1 ∧ z.1 84 e = 1 ∧ dE c (z.1 82) (z.1 89) e x) (by rw [zr_eq]; exact hF)
          rw [zr_row] at hr
          have key : q_Field_setBase_67 E (kL c) (i : Int) (zRow z 87 F) = some (.inl ((i : Int) + 1, zRow z 87 F')) := by
            rw [pre, if_pos h1, if_pos h2, hr, b1_s]
          refine ok_e key (Or.inl ⟨F', rfl, rowIs_c hF' fun x hx => ⟨?_, ?_⟩⟩)
          · rintro ((h | ⟨p, q1, q2⟩) | h)
            · exact Or.inl h
            · exact Or.inr ⟨p, by omega, q2⟩
            · exact Or.inr ⟨i, by omega, h1, h2, h⟩
          · rintro (h | ⟨p, q1, q2, q3, q4⟩)
            · exact Or.inl (Or.inl h)
            · by_cases ep : p = i
              · subst ep; exact Or.inr q4
              · exact Or.inl (Or.inr ⟨p, by omega, q2, q3, q4⟩)
        · refine ok_e (show q_Field_setBase_67 E (kL c) (i : Int) (zRow z 87 F) = some (.inl ((i : Int) + 1, zRow z 87 F)) by rw [pre, if_pos h1, if_neg h2]) (Or.inl ⟨F, rfl, skip fun h => h2 h.2⟩)
      · refine ok_e (show q_Field_setBase_67 E (kL c) (i : Int) (zRow z 87 F) = some (.inl ((i : Int) + 1, zRow z 87 F)) by rw [pre, if_neg h1]) (Or.inl ⟨F, rfl, skip fun h => h1 h.1⟩)
    · intro F hF
      have key : q_Field_setBase_67 E (kL c) ((kP c : Nat) : Int) (zRow z 87 F) = some (.inr (zRow z 87 F)) := by
        unfold q_Field_setBase_67
        rw [(gF F).2.1.2.2.2.2.2.2.1, if_pos (by omega)]
      exact ok_e key ⟨_, rfl, F, rfl, hF⟩
    · intro z' h
      rw [ok_s]; exact h
end
-- F7
section
variable {E : gEv} {c : gCf}
def fGs (c : gCf) (b G pl l lut : Nat → Int) (x : Nat) : Prop := fBs c b G pl l x ∨ ∃ e, e < kP c ∧ lut e = 1 ∧ ¬ b (e * kX c + 16) = 1 ∧ dE c b G e x
theorem lev_eq {A B b G pl l lut : Nat → Int} {R : Nat → Nat} (hk : kOk c) (hG : ∀ w, w < kW c → R w ≤ w ∧ G w = (R w : Int)) (hR : ∀ u v, u < kW c → v < kW c → (R u = R v ↔ Cn c A B b u v)) {w : Nat} (hw : w < kW c) : fGs c b G pl l lut (R w) ↔ fLev c A B b pl (fOut c b l lut) w := by
  have toC : ∀ u, u < kW c → ((R w : Int) = G u ↔ Cn c A B b u w) := fun u hu => by
    rw [(hG u hu).2, ← hR u w hu hw]; omega
  constructor
  · rintro ((⟨p, p1, p2, p3, t, t1, t2, t3⟩ | ⟨e, e1, e2, e3, k, k1, k2, k3⟩) | ⟨e, e1, e2, e3, k, k1, k2, k3⟩)
    · have hu := kPw_lt hk p1 t1
      exact ⟨_, Or.inr ⟨p, t, p1, t1, p3, p2, t2, rfl⟩, (toC _ hu).1 t3⟩
    · have hu := kPin_lt hk e1 k1
      exact ⟨_, Or.inl ⟨e, k, e1, k1, by unfold fOut; rw [if_pos e2]; exact e3, k2, rfl⟩, (toC _ hu).1 k3⟩
    · have hu := kPin_lt hk e1 k1
      exact ⟨_, Or.inl ⟨e, k, e1, k1, by unfold fOut; rw [if_neg e3]; exact e2, k2, rfl⟩, (toC _ hu).1 k3⟩
  · rintro ⟨u, (⟨e, k, e1, k1, e2, k2, rfl⟩ | ⟨p, t, p1, t1, p3, p2, t2, rfl⟩), hc⟩
    · have hu := kPin_lt hk e1 k1
      have hx := (toC _ hu).2 hc
      unfold fOut at e2
      by_cases hb : b (e * kX c + 16) = 1
      · rw [if_pos hb] at e2
        exact Or.inl (Or.inr ⟨e, e1, hb, e2, k, k1, k2, hx⟩)
      · rw [if_neg hb] at e2
        exact Or.inr ⟨e, e1, e2, hb, k, k1, k2, hx⟩
    · have hu := kPw_lt hk p1 t1
      exact Or.inl (Or.inl ⟨p, p1, p2, p3, t, t1, t2, (toC _ hu).2 hc⟩)
theorem zOr_0 (x : Int) (h : -2147483648 ≤ x ∧ x < 2147483648) : zOr x 0 = x := by
  apply zB_ext (zOr_r _ _) h
  intro i hi
  rw [zB_or, zB_0, Bool.or_false]
theorem nb_r (b : Nat → Int) (a n : Nat) : -2147483648 ≤ nb b a n ∧ nb b a n < 2147483648 := by
  cases n with
  | zero => rw [nb]; omega
  | succ n => rw [nb]; exact zOr_r _ _
theorem s_pinsOf {z : gZ} {e : Nat} {S : Nat → Prop} {R : Nat → Nat} (g : Gr c z) (he : e < kP c) (hb : ∀ i, i < kB c → b01 (z.1 82 i)) (hG : ∀ w, w < kW c → R w ≤ w ∧ z.1 89 w = (R w : Int)) (h91 : ∀ p, p < 4 → z.1 91 (e * 4 + p) = pg c (z.1 82) (z.1 89) e p) (hS : rowIs c (z.1 88) S) : ∃ m : Nat, q_Field_pinsOf E (kL c) e z = some (m : Int) ∧ m < 16 ∧ ∀ p, p < 4 → (m.testBit p = true ↔ fPin c (z.1 82) (fun w => S (R w)) e p) := by
  have hW := kW_b g.1
  have hP := kP_b g.1
  have hX := kX_b g.1
  have hYB := kYB c
  have hT := g.1.2.2.2
  have pv : ∀ p, p < 4 → (z.1 91 (e * 4 + p) = -1 ∧ ¬ fPin c (z.1 82) (fun w => S (R w)) e p) ∨ ∃ x : Nat, x < kW c ∧ z.1 91 (e * 4 + p) = (x : Int) ∧ (S x ↔ fPin c (z.1 82) (fun w => S (R w)) e p) := by
    intro p hp
    have hyb := kY_i (c := c) he (show 18 + p * 6 + 5 < kX c by omega)
    obtain ⟨m, m1, m2, _⟩ := nb_n (b := z.1 82) (a := e * kX c + 18 + p * 6) (n := 6) (by omega) (fun i hi => hb _ (by omega))
    rw [h91 p hp]
    unfold pg fPin
    rw [m2]
    by_cases g1 : (m : Int) < 1
    · left
      rw [if_pos g1]
      refine ⟨rfl, ?_⟩
      rintro ⟨v, v1, v2, v3, _⟩
      omega
    · by_cases g2 : 4 * (kT c : Int) < (m : Int)
      · left
        rw [if_neg g1, if_pos g2]
        refine ⟨rfl, ?_⟩
        rintro ⟨v, v1, v2, v3, _⟩
        omega
      · right
        rw [if_neg g1, if_neg g2, show ((m : Int) - 1).toNat = m - 1 by omega]
        have hx := kPin_lt (v := m - 1) g.1 he (by omega)
        obtain ⟨r1, r2⟩ := hG _ hx
        refine ⟨R (kPin c e (m - 1)), by omega, r2, ?_⟩
        constructor
        · intro h
          exact ⟨m, rfl, by omega, by omega, h⟩
        · rintro ⟨v, v1, v2, v3, v4⟩
          have : v = m := by omega
          subst this; exact v4
  let u : Nat → Int := fun p => if z.1 91 (e * 4 + p) = -1 then 0 else z.1 88 (z.1 91 (e * 4 + p)).toNat
  have hu : ∀ p, p < 4 → b01 (u p) ∧ (u p = 1 ↔ fPin c (z.1 82) (fun w => S (R w)) e p) := by
    intro p hp
    show b01 (if z.1 91 (e * 4 + p) = -1 then 0 else z.1 88 (z.1 91 (e * 4 + p)).toNat) ∧ ((if z.1 91 (e * 4 + p) = -1 then 0 else z.1 88 (z.1 91 (e * 4 + p)).toNat) = 1 ↔ _)
    rcases pv p hp with ⟨h1, h2⟩ | ⟨x, x1, x2, x3⟩
    · rw [if_pos h1]
      exact ⟨Or.inl rfl, fun h => absurd h (by decide), fun h => absurd h h2⟩
    · rw [x2, if_neg (by omega), gtN, ← x3]
      refine ⟨rowIs_01 hS x1, fun h => ?_, (hS x x1).1⟩
      exact Classical.byContradiction fun hn => by have := (hS x x1).2 hn; omega
  have run : q_Field_pinsOf E (kL c) e z = some (nb u 0 4) := by
    unfold q_Field_pinsOf
    rw [it_acc (fun i x => (x, (i : Int))) (fun i => nb u 0 i) 0 4 (s := (0, 0)) (e := nb u 0 4) rfl (by omega) (by omega)]
    · rfl
    · intro i _ hi
      have e4 : (e : Int) * 4 + (i : Int) = ((e * 4 + i : Nat) : Int) := by push_cast; rfl
      have key : q_Field_pinsOf_4 E (kL c) (e : Int) (nb u 0 i) (i : Int) z = some (.inl (nb u 0 (i + 1), (i : Int) + 1)) := by
        unfold q_Field_pinsOf_4
        rw [if_neg (by omega), e4, kL_91, if_pos (by omega), let_s, gtN, nb, Nat.zero_add]
        rcases pv i hi with ⟨h1, h2⟩ | ⟨x, x1, x2, x3⟩
        · rw [if_pos h1, let_s]
          have : u i = 0 := if_pos h1
          rw [this, zShl_0 i (by omega), zOr_0 _ (nb_r _ _ _)]
        · have : u i = z.1 88 x := by
            show (if z.1 91 (e * 4 + i) = -1 then 0 else z.1 88 (z.1 91 (e * 4 + i)).toNat) = _
            rw [x2, if_neg (by omega), gtN]
          rw [this, x2, if_neg (by omega), kL_88, if_pos (by omega), let_s, let_s, gtN]
      exact key
    · simp only [q_Field_pinsOf_4]
      rw [if_pos (by omega)]
  obtain ⟨m, m1, m2, m3⟩ := nb_n (b := u) (a := 0) (n := 4) (by omega) (fun i hi => by rw [Nat.zero_add]; exact (hu i hi).1)
  refine ⟨m, by rw [run, m2], m1, fun p hp => ?_⟩
  rw [m3 p hp, Nat.zero_add]; exact (hu p hp).2
theorem tab_bit {b : Nat → Int} {a n : Nat} (hb : ∀ i, i < 16 → b01 (b (a + i))) (hn : n < 16) : (if nb b a 16 = 0 then 0 else zAnd (zUshr (nb b a 16) (n : Int)) 1) = b (a + n) := by
  obtain ⟨m, m1, m2, m3⟩ := nb_n (b := b) (a := a) (n := 16) (by omega) hb
  have m1 : m < 65536 := m1
  have hq := m3 n hn
  rw [m2]
  by_cases h0 : (m : Int) = 0
  · rw [if_pos h0]
    have : m = 0 := by omega
    subst this
    rw [Nat.zero_testBit] at hq
    rcases hb n hn with h | h
    · exact h.symm
    · exact absurd (hq.2 h) (by decide)
  · rw [if_neg h0, zBit_at _ _ (by omega), zB_n _ _ (by omega)]
    rcases hb n hn with h | h
    · rw [h]
      cases ht : m.testBit n with
      | false => rfl
      | true => rw [hq.1 ht] at h; cases h
    · rw [h, hq.2 h]; rfl
def pSw (k j : Nat) : Prop := k = 85 ∨ k = 86 ∨ k = 88
theorem s_sweep {z : gZ} (g : Gr c z) (hb : ∀ i, i < kB c → b01 (z.1 82 i)) (hw : Wd c z) (h85 : ∀ e, e < kP c → b01 (z.1 85 e)) (hS : rowIs c (z.1 87) (fBs c (z.1 82) (z.1 89) (z.1 83) (z.1 84))) :
    zOk (q_Field_sweep E (kL c) z) (fun r => zOff pSw z r.2 ∧ rowIs c (r.2.1 88) (fGs c (z.1 82) (z.1 89) (z.1 83) (z.1 84) (z.1 85)) ∧ fSw c (z.1 5) (z.1 6) (z.1 82) (z.1 83) (z.1 84) (z.1 85) (r.2.1 85) ∧ (∀ e, e < kP c → b01 (r.2.1 85 e)) ∧ ((r.1 = 0 ∧ Ag c (r.2.1 85) (z.1 85)) ∨ (r.1 = 1 ∧ ¬ Ag c (r.2.1 85) (z.1 85)))) := by
  have hW := kW_b g.1
  have hP := kP_b g.1
  have hX := kX_b g.1
  have hYB := kYB c
  have gF : ∀ F, Gr c (zRow z 88 F) := fun F => Gr_off (P := fun k j => k = 88) (off_row fun j => rfl) (fun k j h => by unfold pS at h; omega) g
  have wF : ∀ F, Wd c (zRow z 88 F) := fun F => Wd_off (fun k j h => by rw [zr_ne]; omega) hw
  unfold q_Field_sweep
  have h17 := g.2.1.2.2.2.2.2.2.2.1
  rw [h17, gtN, kL_87, kL_88, if_pos ⟨⟨by omega, by omega, by omega, by omega, by omega⟩, fun i hi => by rw [Nat.zero_add]; rcases rowIs_01 hS hi with h | h <;> omega⟩, let_s, ok_1]
  refine ok_w (it_for (fun (i : Nat) (F : Nat → Int) => ((i : Int), zRow z 88 F)) (fun i F => rowIs c F (fun x => fBs c (z.1 82) (z.1 89) (z.1 83) (z.1 84) x ∨ ∃ e, e < i ∧ z.1 85 e = 1 ∧ ¬ z.1 82 (e * kX c + 16) = 1 ∧ dE c (z.1 82) (z.1 89) e x)) 0 (kP c)
    (Q := fun z' => ∃ F, z' = zRow z 88 F ∧ rowIs c F (fGs c (z.1 82) (z.1 89) (z.1 83) (z.1 84) (z.1 85))) (t := zCpy (z.1 87) (z.1 88) 0 0 (kW c)) rfl (fun x hx => ?_) (by omega) (by omega) ?_ ?_) ?_
  · have e : zCpy (z.1 87) (z.1 88) 0 0 (kW c) x = z.1 87 x := by
      unfold zCpy
      rw [if_pos ⟨Nat.zero_le x, by omega⟩, Nat.zero_add, Nat.sub_zero]
    rw [e]
    exact ⟨fun h => (hS x hx).1 (h.elim id fun ⟨e, h, _⟩ => absurd h (Nat.not_lt_zero e)), fun h => (hS x hx).2 fun q => h (Or.inl q)⟩
  · intro i F _ hi hF
    have gg := gF F
    have e82 : ∀ j, (zRow z 88 F).1 82 j = z.1 82 j := fun j => rfl
    have e85 : ∀ j, (zRow z 88 F).1 85 j = z.1 85 j := fun j => rfl
    have skip : ∀ (hn : ¬ (z.1 85 i = 1 ∧ ¬ z.1 82 (i * kX c + 16) = 1)), rowIs c F (fun x => fBs c (z.1 82) (z.1 89) (z.1 83) (z.1 84) x ∨ ∃ e, e < i + 1 ∧ z.1 85 e = 1 ∧ ¬ z.1 82 (e * kX c + 16) = 1 ∧ dE c (z.1 82) (z.1 89) e x) := fun hn => rowIs_c hF fun x hx => or_congr_right ⟨fun ⟨p, h1, h2⟩ => ⟨p, by omega, h2⟩, fun ⟨p, h1, h2, h3, h4⟩ => ⟨p, by
      by_cases ep : p = i
      · subst ep; exact absurd ⟨h2, h3⟩ hn
      · omega, h2, h3, h4⟩⟩
    by_cases h1 : z.1 85 i = 1
    · by_cases h2 : z.1 82 (i * kX c + 16) = 1
      · have key : q_Field_sweep_22 E (kL c) (i : Int) (zRow z 88 F) = some (.inl ((i : Int) + 1, zRow z 88 F)) := by
          unfold q_Field_sweep_22
          rw [gg.2.1.2.2.2.2.2.2.1, if_neg (by omega), kL_85, if_pos (by omega), gtN, e85, if_pos h1, s_isUsed gg hi, b1_s, e82, if_pos h2, if_neg (by omega), let_s]
        exact ok_e key (Or.inl ⟨F, rfl, skip fun h => h.2 h2⟩)
      · obtain ⟨z', hr, F', rfl, hF'⟩ := s_raise (E := E) gg (wF F) hi (Or.inr rfl) (S := fun x => fBs c (z.1 82) (z.1 89) (z.1 83) (z.1 84) x ∨ ∃ e, e < i ∧ z.1 85 e = 1 ∧ ¬ z.1 82 (e * kX c + 16) = 1 ∧ dE c (z.1 82) (z.1 89) e x) (by rw [zr_eq]; exact hF)
        rw [zr_row] at hr
        have key : q_Field_sweep_22 E (kL c) (i : Int) (zRow z 88 F) = some (.inl ((i : Int) + 1, zRow z 88 F')) := by
          unfold q_Field_sweep_22
          rw [gg.2.1.2.2.2.2.2.2.1, if_neg (by omega), kL_85, if_pos (by omega), gtN, e85, if_pos h1, s_isUsed gg hi, b1_s, e82, if_neg h2, if_pos rfl, hr, b1_s, let_s]
        refine ok_e key (Or.inl ⟨F', rfl, rowIs_c hF' fun x hx => ⟨?_, ?_⟩⟩)
        · rintro ((h | ⟨p, q1, q2⟩) | h)
          · exact Or.inl h
          · exact Or.inr ⟨p, by omega, q2⟩
          · exact Or.inr ⟨i, by omega, h1, h2, h⟩
        · rintro (h | ⟨p, q1, q2, q3, q4⟩)
          · exact Or.inl (Or.inl h)
          · by_cases ep : p = i
            · subst ep; exact Or.inr q4
            · exact Or.inl (Or.inr ⟨p, by omega, q2, q3, q4⟩)
    · have key : q_Field_sweep_22 E (kL c) (i : Int) (zRow z 88 F) = some (.inl ((i : Int) + 1, zRow z 88 F)) := by
        unfold q_Field_sweep_22
        rw [gg.2.1.2.2.2.2.2.2.1, if_neg (by omega), kL_85, if_pos (by omega), gtN, e85, if_neg h1, let_s]
      exact ok_e key (Or.inl ⟨F, rfl, skip fun h => h1 h.1⟩)
  · intro F hF
    have key : q_Field_sweep_22 E (kL c) ((kP c : Nat) : Int) (zRow z 88 F) = some (.inr (zRow z 88 F)) := by
      unfold q_Field_sweep_22
      rw [(gF F).2.1.2.2.2.2.2.2.1, if_pos (by omega)]
    exact ok_e key ⟨_, rfl, F, rfl, hF⟩
  · rintro z1 ⟨F, rfl, hF⟩
    obtain ⟨R, fd, w1, w2, w3, w4, w5, w6⟩ := hw
    rw [ok_1]
    refine ok_w (it_for (fun (i : Nat) (t : Int × (Nat → Int)) => (t.1, (i : Int), zRow (zRow z 88 F) 86 t.2)) (fun i t => (∀ e, e < i → b01 (t.2 e) ∧ ∃ n : Nat, n < 16 ∧ (∀ p, p < 4 → (n.testBit p = true ↔ fPin c (z.1 82) (fLev c (z.1 5) (z.1 6) (z.1 82) (z.1 83) (fOut c (z.1 82) (z.1 84) (z.1 85))) e p)) ∧ t.2 e = z.1 82 (e * kX c + n)) ∧ ((t.1 = 0 ∧ ∀ e, e < i → t.2 e = z.1 85 e) ∨ (t.1 = 1 ∧ ¬ ∀ e, e < i → t.2 e = z.1 85 e))) 0 (kP c)
      (Q := fun r => ∃ (ch : Int) (F2 : Nat → Int), r = (ch, zRow (zRow z 88 F) 86 F2) ∧ (∀ e, e < kP c → b01 (F2 e) ∧ ∃ n : Nat, n < 16 ∧ (∀ p, p < 4 → (n.testBit p = true ↔ fPin c (z.1 82) (fLev c (z.1 5) (z.1 6) (z.1 82) (z.1 83) (fOut c (z.1 82) (z.1 84) (z.1 85))) e p)) ∧ F2 e = z.1 82 (e * kX c + n)) ∧ ((ch = 0 ∧ ∀ e, e < kP c → F2 e = z.1 85 e) ∨ (ch = 1 ∧ ¬ ∀ e, e < kP c → F2 e = z.1 85 e))) (t := (0, (zRow z 88 F).1 86)) (by rw [zr_self]; rfl) ⟨fun e he => absurd he (Nat.not_lt_zero e), Or.inl ⟨rfl, fun e he => absurd he (Nat.not_lt_zero e)⟩⟩ (by omega) (by omega) ?_ ?_) ?_
    · rintro i ⟨ch, F2⟩ _ hi ⟨hA, hC⟩
      simp only at hA hC
      have o2 : zOff pSw z (zRow (zRow z 88 F) 86 F2) := off_t (off_row fun j => by unfold pSw; omega) (off_row fun j => by unfold pSw; omega)
      have gg : Gr c (zRow (zRow z 88 F) 86 F2) := Gr_off o2 (fun k j h => by unfold pS at h; unfold pSw; omega) g
      obtain ⟨m, m0, m1, m2⟩ := s_pinsOf (E := E) (z := zRow (zRow z 88 F) 86 F2) (S := fGs c (z.1 82) (z.1 89) (z.1 83) (z.1 84) (z.1 85)) (R := R) gg hi hb w1 (fun p hp => w4 i p hi hp) (by show rowIs c ((zRow z 88 F).1 88) _; rw [zr_eq]; exact hF)
      have m3 : ∀ p, p < 4 → (m.testBit p = true ↔ fPin c (z.1 82) (fLev c (z.1 5) (z.1 6) (z.1 82) (z.1 83) (fOut c (z.1 82) (z.1 84) (z.1 85))) i p) := by
        intro p hp
        rw [m2 p hp]
        unfold fPin
        constructor
        · rintro ⟨v, v1, v2, v3, v4⟩
          exact ⟨v, v1, v2, v3, (lev_eq g.1 w1 w2 (kPin_lt g.1 hi (by omega))).1 v4⟩
        · rintro ⟨v, v1, v2, v3, v4⟩
          exact ⟨v, v1, v2, v3, (lev_eq g.1 w1 w2 (kPin_lt g.1 hi (by omega))).2 v4⟩
      have hyb := kY_i (c := c) hi (show 16 < kX c by omega)
      have tb := tab_bit (b := z.1 82) (a := i * kX c) (n := m) (fun j hj => hb _ (by omega)) m1
      have hbm : b01 (z.1 82 (i * kX c + m)) := hb _ (by omega)
      generalize hv : z.1 82 (i * kX c + m) = v at *
      have e90 : (zRow (zRow z 88 F) 86 F2).1 90 i = nb (z.1 82) (i * kX c) 16 := w3 i hi
      have e85 : ∀ G j, (zRow (zRow z 88 F) 86 G).1 85 j = z.1 85 j := fun G j => rfl
      have fin : ∀ x, x = v → q_Field_sweep_j113_70 E (kL c) ch (i : Int) (i : Int) x (zRow (zRow z 88 F) 86 F2) = some (.inl (if v = z.1 85 i then ch else 1, (i : Int) + 1, zRow (zRow z 88 F) 86 (fun j => if j = i then v else F2 j))) := by
        intro x hx
        subst hx
        have hch : ch = 0 ∨ ch = 1 := by rcases hC with h | h <;> omega
        unfold q_Field_sweep_j113_70
        rw [kL_86, if_pos (by omega), let_s, if_pos (by omega), kL_85, if_pos (by omega), gtN, zByte_b, zByte_s x (by rcases hbm with h | h <;> omega), zp_zr]
        have e86 : (zRow (zRow z 88 F) 86 (fun j => if j = i then x else F2 j)).1 86 i = x := by rw [zr_eq, if_pos rfl]
        rw [e86, e85]
        by_cases hx : x = z.1 85 i
        · rw [if_pos hx, if_pos hx, let_s, if_pos (by omega), let_s, zOr_0 _ (by omega)]
        · rw [if_neg hx, if_neg hx, let_s, if_pos (by omega), let_s]
          have : zOr ch 1 = 1 := by rcases hch with h | h <;> subst h <;> decide
          rw [this]
      have key : q_Field_sweep_70 E (kL c) ch (i : Int) (zRow (zRow z 88 F) 86 F2) = some (.inl (if v = z.1 85 i then ch else 1, (i : Int) + 1, zRow (zRow z 88 F) 86 (fun j => if j = i then v else F2 j))) := by
        unfold q_Field_sweep_70
        rw [gg.2.1.2.2.2.2.2.2.1, if_neg (by omega), kL_90, if_pos (by omega), gtN, e90]
        by_cases h0 : nb (z.1 82) (i * kX c) 16 = 0
        · rw [if_pos h0] at tb
          rw [if_pos h0, fin 0 tb]
        · rw [if_neg h0] at tb
          rw [if_neg h0, m0, b1_s, fin _ tb]
      refine ok_e key (Or.inl ⟨(if v = z.1 85 i then ch else 1, fun j => if j = i then v else F2 j), rfl, ?_, ?_⟩)
      · intro e he
        simp only
        by_cases ee : e = i
        · subst ee
          rw [if_pos rfl]
          exact ⟨hbm, m, m1, m3, hv.symm⟩
        · rw [if_neg ee]; exact hA e (by omega)
      · simp only
        by_cases hx : v = z.1 85 i
        · rw [if_pos hx]
          rcases hC with ⟨h1, h2⟩ | ⟨h1, h2⟩
          · refine Or.inl ⟨h1, fun e he => ?_⟩
            by_cases ee : e = i
            · subst ee; rw [if_pos rfl]; exact hx
            · rw [if_neg ee]; exact h2 e (by omega)
          · refine Or.inr ⟨h1, fun h => h2 fun e he => ?_⟩
            have := h e (by omega)
            rw [if_neg (by omega)] at this; exact this
        · rw [if_neg hx]
          refine Or.inr ⟨rfl, fun h => hx ?_⟩
          have := h i (by omega)
          rw [if_pos rfl] at this; exact this
    · rintro ⟨ch, F2⟩ hI
      have key : q_Field_sweep_70 E (kL c) ch ((kP c : Nat) : Int) (zRow (zRow z 88 F) 86 F2) = some (.inr (ch, zRow (zRow z 88 F) 86 F2)) := by
        unfold q_Field_sweep_70
        have e16 : (zRow (zRow z 88 F) 86 F2).1 1 6 = kP c := g.2.1.2.2.2.2.2.2.1
        rw [e16, if_pos (by omega)]
      exact ok_e key ⟨_, rfl, ch, F2, rfl, hI.1, hI.2⟩
    · rintro r ⟨ch, F2, rfl, hA, hC⟩
      have e16 : (zRow (zRow z 88 F) 86 F2).1 1 6 = kP c := g.2.1.2.2.2.2.2.2.1
      have e86 : (zRow (zRow z 88 F) 86 F2).1 86 = F2 := zr_eq _ _ _
      simp only
      rw [e16, gtN, kL_86, kL_85, e86, if_pos ⟨⟨by omega, by omega, by omega, by omega, by omega⟩, fun i hi => by rw [Nat.zero_add]; rcases (hA i hi).1 with h | h <;> omega⟩, let_s, if_pos (by omega), ok_s]
      have eF : ∀ e, e < kP c → (zRow (zRow (zRow z 88 F) 86 F2) 85 (zCpy F2 ((zRow (zRow z 88 F) 86 F2).1 85) 0 0 (kP c))).1 85 e = F2 e := by
        intro e he
        rw [zr_eq]; unfold zCpy
        rw [if_pos ⟨Nat.zero_le e, by omega⟩, Nat.zero_add, Nat.sub_zero]
      refine ⟨off_t (off_row fun j => by unfold pSw; omega) (off_t (off_row fun j => by unfold pSw; omega) (off_row fun j => by unfold pSw; omega)), ?_, ?_, ?_, ?_⟩
      · show rowIs c ((zRow z 88 F).1 88) _
        rw [zr_eq]; exact hF
      · intro e he
        obtain ⟨_, n, n1, n2, n3⟩ := hA e he
        exact ⟨n, n1, n2, by rw [← n3]; exact eF e he⟩
      · intro e he
        rw [show ((ch, zRow (zRow (zRow z 88 F) 86 F2) 85 (zCpy F2 ((zRow (zRow z 88 F) 86 F2).1 85) 0 0 (kP c))) : Int × gZ).2.1 85 e = F2 e from eF e he]
        exact (hA e he).1
      · rcases hC with ⟨h1, h2⟩ | ⟨h1, h2⟩
        · exact Or.inl ⟨h1, fun e he => (eF e he).trans (h2 e he)⟩
        · exact Or.inr ⟨h1, fun h => h2 fun e he => by rw [← eF e he]; exact h e he⟩
end
-- F8
section
variable {E : gEv} {c : gCf}
theorem fGs_c {b G pl l lut lut' : Nat → Int} (h : Ag c lut lut') (x : Nat) : fGs c b G pl l lut x ↔ fGs c b G pl l lut' x := by
  unfold fGs
  refine or_congr_right ⟨?_, ?_⟩
  · rintro ⟨e, h1, h2, h3⟩; exact ⟨e, h1, by rw [← h e h1]; exact h2, h3⟩
  · rintro ⟨e, h1, h2, h3⟩; exact ⟨e, h1, by rw [h e h1]; exact h2, h3⟩
def fZ : Nat → Int := fun _ => 0
def SI (c : gCf) (z : gZ) : Prop := (z.1 81 16 = 0 ∨ z.1 81 16 = 1) ∧ fStl c (z.1 5) (z.1 6) (z.1 82) (z.1 83) (z.1 84) (kP c + 1) fZ (z.1 81 16 = 1) (z.1 85) ∧ (z.1 81 16 = 1 → rowIs c (z.1 88) (fGs c (z.1 82) (z.1 89) (z.1 83) (z.1 84) (z.1 85)))
def FB (c : gCf) (z : gZ) : Prop := (∀ i, i < kB c → b01 (z.1 82 i)) ∧ (∀ p, p < kD c → b01 (z.1 83 p)) ∧ (∀ e, e < kP c → b01 (z.1 84 e)) ∧ (∀ e, e < kP c → b01 (z.1 85 e))
def FI (c : gCf) (z : gZ) : Prop := FB c z ∧ (z.1 81 14 = 0 ∨ (z.1 81 14 = 1 ∧ Wd c z ∧ (z.1 81 15 = 0 ∨ (z.1 81 15 = 1 ∧ SI c z))))
def pSt (k j : Nat) : Prop := (k = 81 ∧ 14 ≤ j ∧ j ≤ 16) ∨ (85 ≤ k ∧ k ≤ 93)
def pLp (k j : Nat) : Prop := (k = 81 ∧ j = 16) ∨ (85 ≤ k ∧ k ≤ 86) ∨ k = 88
theorem Ag_r {v : Nat → Int} : Ag c v v := fun _ _ => rfl
theorem s_settle {z : gZ} (g : Gr c z) (hF : FI c z) : zOk (q_Field_settle E (kL c) z) (fun r => r.1 = r.2.1 81 16 ∧ FB c r.2 ∧ r.2.1 81 14 = 1 ∧ r.2.1 81 15 = 1 ∧ Wd c r.2 ∧ SI c r.2 ∧ zOff pSt z r.2) := by
  obtain ⟨⟨hb, hpl, hl, hlu⟩, hc⟩ := hF
  have hP := kP_b g.1
  unfold q_Field_settle
  rw [ok_1]
  refine ok_w (s_wire (E := E) g hb (hc.imp id fun h => ⟨h.1, h.2.1⟩)) ?_
  rintro z1 ⟨w1, w2, w3, w4, w5⟩
  have g1 : Gr c z1 := Gr_off w5 (fun k j h => by unfold pS at h; unfold pWi; omega) g
  have t82 : z1.1 82 = z.1 82 := funext fun j => w5.2 _ _ (by unfold pWi; omega)
  have t83 : z1.1 83 = z.1 83 := funext fun j => w5.2 _ _ (by unfold pWi; omega)
  have t84 : z1.1 84 = z.1 84 := funext fun j => w5.2 _ _ (by unfold pWi; omega)
  have t85 : z1.1 85 = z.1 85 := funext fun j => w5.2 _ _ (by unfold pWi; omega)
  have wst : zOff pSt z z1 := off_w w5 fun k j h => by unfold pWi at h; unfold pSt; omega
  by_cases hs : z1.1 81 15 = 0
  · rw [if_pos hs, let_s, s_fillB 85 0 _ (by rw [kL_85]; omega), b1_s, ok_1, kL_85]
    generalize hz5 : zFill (zPut z1 81 15 1) 85 (fun _ => zByte 0) (kP c) = z5
    have o5 : zOff pSt z1 z5 := by rw [← hz5]; exact off_t (off_put (by unfold pSt; omega)) (off_fill fun j => by unfold pSt; omega)
    have d5 : ∀ k j, k ≠ 85 → ¬ (k = 81 ∧ j = 15) → z5.1 k j = z1.1 k j := fun k j h1 h2 => by
      rw [← hz5, zf_ne _ _ _ _ _ h1, zp1]
      split
      · split
        · rename_i a b; exact absurd ⟨a, b⟩ h2
        · rfl
      · rfl
    have g5 : Gr c z5 := Gr_off o5 (fun k j h => by unfold pS at h; unfold pSt; omega) g1
    have wd5 : Wd c z5 := Wd_off (fun k j h => d5 k j (by omega) (by omega)) w1
    refine ok_w (s_setBase (E := E) g5 wd5) ?_
    rintro z7 ⟨F, rfl, hbs⟩
    rw [let_s, ok_1]
    have e82 : z5.1 82 = z.1 82 := funext fun j => (d5 _ _ (by omega) (by omega)).trans (congrFun t82 j)
    have e83 : z5.1 83 = z.1 83 := funext fun j => (d5 _ _ (by omega) (by omega)).trans (congrFun t83 j)
    have e84 : z5.1 84 = z.1 84 := funext fun j => (d5 _ _ (by omega) (by omega)).trans (congrFun t84 j)
    have e85 : ∀ e, e < kP c → z5.1 85 e = 0 := fun e he => by
      rw [← hz5, zf1, if_pos rfl, if_pos he]; exact zByte_0
    have e814 : z5.1 81 14 = 1 := (d5 _ _ (by omega) (by omega)).trans w2
    have e815 : z5.1 81 15 = 1 := by rw [← hz5]; rfl
    generalize hz8 : zPut (zRow z5 87 F) 81 16 0 = z8
    have o8 : zOff pSt z5 z8 := by rw [← hz8]; exact off_t (off_row fun j => by unfold pSt; omega) (off_put (by unfold pSt; omega))
    have d8 : ∀ k j, k ≠ 87 → ¬ (k = 81 ∧ j = 16) → z8.1 k j = z5.1 k j := fun k j h1 h2 => by
      rw [← hz8, zp1]
      split
      · split
        · rename_i a b; exact absurd ⟨a, b⟩ h2
        · rw [zr_ne _ _ _ _ h1]
      · rw [zr_ne _ _ _ _ h1]
    have g8 : Gr c z8 := Gr_off o8 (fun k j h => by unfold pS at h; unfold pSt; omega) g5
    have wd8 : Wd c z8 := Wd_off (fun k j h => d8 k j (by omega) (by omega)) wd5
    have b87 : z8.1 87 = F := by
      rw [← hz8]; show (zRow z5 87 F).1 87 = F; exact zr_eq _ _ _
    have f82 : z8.1 82 = z.1 82 := funext fun j => (d8 _ _ (by omega) (by omega)).trans (congrFun e82 j)
    have f83 : z8.1 83 = z.1 83 := funext fun j => (d8 _ _ (by omega) (by omega)).trans (congrFun e83 j)
    have f84 : z8.1 84 = z.1 84 := funext fun j => (d8 _ _ (by omega) (by omega)).trans (congrFun e84 j)
    have f89 : z8.1 89 = z5.1 89 := funext fun j => d8 _ _ (by omega) (by omega)
    have f85 : ∀ e, e < kP c → z8.1 85 e = 0 := fun e he => (d8 _ _ (by omega) (by omega)).trans (e85 e he)
    have hS8 : rowIs c (z8.1 87) (fBs c (z8.1 82) (z8.1 89) (z8.1 83) (z8.1 84)) := by
      rw [b87, f82, f83, f84, f89, ← e82, ← e83, ← e84]; exact hbs
    have e816 : z8.1 81 16 = 0 := by rw [← hz8]; rfl
    refine ok_w (it_for (fun (i : Nat) (t : gZ) => ((i : Int), t)) (fun i t => zOff pLp z8 t ∧ (∀ e, e < kP c → b01 (t.1 85 e)) ∧ ((t.1 81 16 = 0 ∧ ∀ r v', fStl c (z8.1 5) (z8.1 6) (z8.1 82) (z8.1 83) (z8.1 84) (kP c + 1 - i) (t.1 85) r v' → fStl c (z8.1 5) (z8.1 6) (z8.1 82) (z8.1 83) (z8.1 84) (kP c + 1) fZ r v') ∨ (t.1 81 16 = 1 ∧ fStl c (z8.1 5) (z8.1 6) (z8.1 82) (z8.1 83) (z8.1 84) (kP c + 1) fZ True (t.1 85) ∧ rowIs c (t.1 88) (fGs c (z8.1 82) (z8.1 89) (z8.1 83) (z8.1 84) (t.1 85))))) 0 (kP c + 1)
      (Q := fun t => zOff pLp z8 t ∧ (∀ e, e < kP c → b01 (t.1 85 e)) ∧ ((t.1 81 16 = 0 ∧ fStl c (z8.1 5) (z8.1 6) (z8.1 82) (z8.1 83) (z8.1 84) (kP c + 1) fZ False (t.1 85)) ∨ (t.1 81 16 = 1 ∧ fStl c (z8.1 5) (z8.1 6) (z8.1 82) (z8.1 83) (z8.1 84) (kP c + 1) fZ True (t.1 85) ∧ rowIs c (t.1 88) (fGs c (z8.1 82) (z8.1 89) (z8.1 83) (z8.1 84) (t.1 85))))) (t := z8) rfl ⟨off_r, fun e he => Or.inl (f85 e he), Or.inl ⟨e816, fun r v' h => ?_⟩⟩ (by omega) (by omega) ?_ ?_) ?_
    · have sw0 : ∀ (v1 : Nat → Int), fSw c (z8.1 5) (z8.1 6) (z8.1 82) (z8.1 83) (z8.1 84) (z8.1 85) v1 → fSw c (z8.1 5) (z8.1 6) (z8.1 82) (z8.1 83) (z8.1 84) fZ v1 := by
        intro v1 hv e he
        obtain ⟨n, n1, n2, n3⟩ := hv e he
        refine ⟨n, n1, fun p hp => ?_, n3⟩
        rw [n2 p hp]
        have : ∀ w, fLev c (z8.1 5) (z8.1 6) (z8.1 82) (z8.1 83) (fOut c (z8.1 82) (z8.1 84) (z8.1 85)) w ↔ fLev c (z8.1 5) (z8.1 6) (z8.1 82) (z8.1 83) (fOut c (z8.1 82) (z8.1 84) fZ) w := by
          have ho : ∀ e, e < kP c → fOut c (z8.1 82) (z8.1 84) (z8.1 85) e = fOut c (z8.1 82) (z8.1 84) fZ e := fun e he => by
            unfold fOut fZ; rw [f85 e he]
          intro w
          constructor
          · rintro ⟨u, (⟨e, k, h1, h2, h3, h4⟩ | h), hc⟩
            · exact ⟨u, Or.inl ⟨e, k, h1, h2, by rw [← ho e h1]; exact h3, h4⟩, hc⟩
            · exact ⟨u, Or.inr h, hc⟩
          · rintro ⟨u, (⟨e, k, h1, h2, h3, h4⟩ | h), hc⟩
            · exact ⟨u, Or.inl ⟨e, k, h1, h2, by rw [ho e h1]; exact h3, h4⟩, hc⟩
            · exact ⟨u, Or.inr h, hc⟩
        unfold fPin
        constructor
        · rintro ⟨v, v1, v2, v3, v4⟩; exact ⟨v, v1, v2, v3, (this _).1 v4⟩
        · rintro ⟨v, v1, v2, v3, v4⟩; exact ⟨v, v1, v2, v3, (this _).2 v4⟩
      rw [show kP c + 1 - 0 = kP c + 1 from rfl] at h
      obtain ⟨v1, h1, h2⟩ := h
      refine ⟨v1, sw0 v1 h1, ?_⟩
      have ag : Ag c v1 (z8.1 85) ↔ Ag c v1 fZ := ⟨fun h e he => (h e he).trans (f85 e he), fun h e he => (h e he).trans (f85 e he).symm⟩
      rw [← ag]; exact h2
    · rintro i t _ hi ⟨ho, h01, hC⟩
      have gt : Gr c t := Gr_off ho (fun k j h => by unfold pS at h; unfold pLp; omega) g8
      have a5 : t.1 5 = z8.1 5 := funext fun j => ho.2 _ _ (by unfold pLp; omega)
      have a6 : t.1 6 = z8.1 6 := funext fun j => ho.2 _ _ (by unfold pLp; omega)
      have a82 : t.1 82 = z8.1 82 := funext fun j => ho.2 _ _ (by unfold pLp; omega)
      have a83 : t.1 83 = z8.1 83 := funext fun j => ho.2 _ _ (by unfold pLp; omega)
      have a84 : t.1 84 = z8.1 84 := funext fun j => ho.2 _ _ (by unfold pLp; omega)
      have a87 : t.1 87 = z8.1 87 := funext fun j => ho.2 _ _ (by unfold pLp; omega)
      have a89 : t.1 89 = z8.1 89 := funext fun j => ho.2 _ _ (by unfold pLp; omega)
      rcases hC with ⟨c1, c2⟩ | ⟨c1, c2⟩
      · obtain ⟨⟨ch, t2⟩, hr, q1, q2, q3, q4, q5⟩ := s_sweep (E := E) gt (fun i hi => by rw [a82, f82]; exact hb i hi) (Wd_off (fun k j h => ho.2 _ _ (by unfold pLp; omega)) wd8) h01 (by rw [a87, a82, a83, a84, a89]; exact hS8)
        simp only at q1 q2 q3 q4 q5
        rw [a5, a6, a82, a83, a84] at q3
        rw [a82, a83, a84, a89] at q2
        have oo : ∀ y, zOff pLp z8 (zPut t2 81 16 y) := fun y => off_t ho (off_t (off_w q1 fun k j h => by unfold pSw at h; unfold pLp; omega) (off_put (by unfold pLp; omega)))
        have step : fStl c (z8.1 5) (z8.1 6) (z8.1 82) (z8.1 83) (z8.1 84) (kP c + 1 - i) = fStl c (z8.1 5) (z8.1 6) (z8.1 82) (z8.1 83) (z8.1 84) ((kP c - i) + 1) := by rw [show kP c + 1 - i = kP c - i + 1 by omega]
        rcases q5 with ⟨q5, q6⟩ | ⟨q5, q6⟩
        · subst q5
          have key : q_Field_settle_40 E (kL c) (i : Int) t = some (.inl ((i : Int) + 1, zPut t2 81 16 1)) := by
            unfold q_Field_settle_40
            rw [gt.2.1.2.2.2.2.2.2.1, if_neg (by omega), if_pos c1, hr, b2_s, if_pos rfl]
            unfold q_Field_settle_j71_40
            rw [if_pos (Or.inr rfl), let_s, if_pos (by omega), let_s]
          refine ok_e key (Or.inl ⟨_, rfl, oo 1, q4, Or.inr ⟨rfl, ?_, ?_⟩⟩)
          · apply c2
            rw [step]
            exact ⟨t2.1 85, q3, Or.inl ⟨q6, trivial, Ag_r⟩⟩
          · exact rowIs_c q2 fun x _ => fGs_c (fun e he => (q6 e he).symm) x
        · subst q5
          have key : q_Field_settle_40 E (kL c) (i : Int) t = some (.inl ((i : Int) + 1, zPut t2 81 16 0)) := by
            unfold q_Field_settle_40
            rw [gt.2.1.2.2.2.2.2.2.1, if_neg (by omega), if_pos c1, hr, b2_s, if_neg (by omega)]
            unfold q_Field_settle_j71_40
            rw [if_pos (Or.inl rfl), let_s, if_pos (by omega), let_s]
          refine ok_e key (Or.inl ⟨_, rfl, oo 0, q4, Or.inl ⟨rfl, fun r v' h => ?_⟩⟩)
          apply c2
          rw [step]
          rw [show kP c + 1 - (i + 1) = kP c - i by omega] at h
          exact ⟨t2.1 85, q3, Or.inr ⟨q6, h⟩⟩
      · have key : q_Field_settle_40 E (kL c) (i : Int) t = some (.inr t) := by
          unfold q_Field_settle_40
          rw [gt.2.1.2.2.2.2.2.2.1, if_neg (by omega), if_neg (by omega)]
        exact ok_e key (Or.inr ⟨t, rfl, ho, h01, Or.inr ⟨c1, c2⟩⟩)
    · rintro t ⟨ho, h01, hC⟩
      have gt : Gr c t := Gr_off ho (fun k j h => by unfold pS at h; unfold pLp; omega) g8
      have key : q_Field_settle_40 E (kL c) ((kP c + 1 : Nat) : Int) t = some (.inr t) := by
        unfold q_Field_settle_40
        rw [gt.2.1.2.2.2.2.2.2.1, if_pos (by omega)]
      refine ok_e key ⟨t, rfl, ho, h01, hC.imp (fun ⟨c1, c2⟩ => ⟨c1, c2 False _ ?_⟩) id⟩
      rw [Nat.sub_self]
      exact ⟨fun h => h, Ag_r⟩
    · rintro t ⟨ho, h01, hC⟩
      have a5 : t.1 5 = z8.1 5 := funext fun j => ho.2 _ _ (by unfold pLp; omega)
      have a6 : t.1 6 = z8.1 6 := funext fun j => ho.2 _ _ (by unfold pLp; omega)
      have a82 : t.1 82 = z8.1 82 := funext fun j => ho.2 _ _ (by unfold pLp; omega)
      have a83 : t.1 83 = z8.1 83 := funext fun j => ho.2 _ _ (by unfold pLp; omega)
      have a84 : t.1 84 = z8.1 84 := funext fun j => ho.2 _ _ (by unfold pLp; omega)
      have a89 : t.1 89 = z8.1 89 := funext fun j => ho.2 _ _ (by unfold pLp; omega)
      have hst : t.1 81 16 = 0 ∨ t.1 81 16 = 1 := hC.imp (fun h => h.1) (fun h => h.1)
      rw [if_pos hst, ok_s]
      refine ⟨rfl, ⟨?_, ?_, ?_, h01⟩, ?_, ?_, Wd_off (fun k j h => ho.2 _ _ (by unfold pLp; omega)) wd8, ⟨hst, ?_, ?_⟩, off_t wst (off_t o5 (off_t o8 (off_w ho fun k j h => by unfold pLp at h; unfold pSt; omega)))⟩
      · rw [a82, f82]; exact hb
      · rw [a83, f83]; exact hpl
      · rw [a84, f84]; exact hl
      · exact (ho.2 81 14 (by unfold pLp; omega)).trans ((d8 _ _ (by omega) (by omega)).trans e814)
      · exact (ho.2 81 15 (by unfold pLp; omega)).trans ((d8 _ _ (by omega) (by omega)).trans e815)
      · simp only
        rw [a5, a6, a82, a83, a84]
        rcases hC with ⟨c1, c2⟩ | ⟨c1, c2, _⟩
        · rw [show (t.1 81 16 = 1) = False from propext ⟨fun h => by omega, False.elim⟩]; exact c2
        · rw [show (t.1 81 16 = 1) = True from propext ⟨fun h => trivial, fun _ => c1⟩]; exact c2
      · intro h
        simp only at h ⊢
        rw [a82, a83, a84, a89]
        rcases hC with ⟨c1, c2⟩ | ⟨c1, c2, c3⟩
        · omega
        · exact c3
  · have hw1 : z.1 81 14 = 1 := Classical.byContradiction fun h => by
      rcases hc with h0 | h0
      · exact hs (w4 h0)
      · exact h h0.1
    have hz1 := w3 hw1
    subst hz1
    rcases hc with h0 | ⟨_, h1, h2 | ⟨h2, h3⟩⟩
    · omega
    · exact absurd h2 hs
    · rw [if_neg hs, if_pos h3.1, ok_s]
      exact ⟨rfl, ⟨hb, hpl, hl, hlu⟩, hw1, h2, h1, h3, off_r⟩
end
