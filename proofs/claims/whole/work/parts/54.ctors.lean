set_option linter.unusedVariables false
-- C1
section
variable {E : gEv} {c : gCf} {L : Nat → Nat}
/-- first wire across at x, y; upright at x, y; -1 where none is -/
def kAc (c : gCf) (x y : Int) : Int := if 0 ≤ x ∧ x < kC c ∧ 0 ≤ y ∧ y ≤ kR c then (y * kC c + x) * kT c else -1
def kUp (c : gCf) (x y : Int) : Int := if 0 ≤ x ∧ x ≤ kC c ∧ 0 ≤ y ∧ y < kR c then kF c + (y * (kC c + 1) + x) * kT c else -1
theorem kAc_n {x y : Nat} (hx : x < kC c) (hy : y ≤ kR c) : kAc c x y = (((y * kC c + x) * kT c : Nat) : Int) := by
  unfold kAc; rw [if_pos ⟨by omega, by omega, by omega, by omega⟩]
  simp only [Int.natCast_mul, Int.natCast_add]
theorem kUp_n {x y : Nat} (hx : x ≤ kC c) (hy : y < kR c) : kUp c x y = ((kF c + (y * (kC c + 1) + x) * kT c : Nat) : Int) := by
  unfold kUp; rw [if_pos ⟨by omega, by omega, by omega, by omega⟩]
  simp only [Int.natCast_mul, Int.natCast_add, Int.cast_ofNat_Int]
theorem i_nat {x : Int} (h : 0 ≤ x) : ∃ n : Nat, x = n := ⟨x.toNat, by omega⟩
theorem s_across {z : gZ} (hk : kOk c) (h0 : z.1 1 0 = kC c) (h1 : z.1 1 1 = kR c) (h3 : z.1 1 3 = kT c) (x y : Int) : q_Grid_across E L x y z = some (kAc c x y) := by
  unfold q_Grid_across
  rw [h0, h1]
  by_cases e : 0 ≤ x ∧ x < kC c ∧ 0 ≤ y ∧ y ≤ kR c
  · obtain ⟨e1, e2, e3, e4⟩ := e
    obtain ⟨a, rfl⟩ := i_nat e1
    obtain ⟨b, rfl⟩ := i_nat e3
    rw [kAc_n (by omega) (by omega)]
    rw [if_neg (by omega), if_neg (by omega), if_neg (by omega), if_neg (by omega)]
    unfold q_Grid_across_j29
    have h := kW_H (c := c) (x := a) (y := b) (t := 0) (by omega) (by omega) hk.2.2.2.1
    have hF := kF_b hk
    have e5 : ((b : Int) * (kC c : Int) + (a : Int)) * (kT c : Int) = (((b * kC c + a) * kT c : Nat) : Int) := by simp only [Int.natCast_mul, Int.natCast_add]
    rw [if_neg (by decide), h0, h3, e5, if_pos (by omega)]
  · have : kAc c x y = -1 := if_neg e
    rw [this]
    have hj : q_Grid_across_j28 E L x y z = some (-1) := by unfold q_Grid_across_j28 q_Grid_across_j29; rw [if_pos rfl]
    rw [hj]
    by_cases a1 : x < 0
    · rw [if_pos a1]
    · rw [if_neg a1]
      by_cases a2 : (kC c : Int) ≤ x
      · rw [if_pos a2]
      · rw [if_neg a2]
        by_cases a3 : y < 0
        · rw [if_pos a3]
        · rw [if_neg a3, if_pos (by omega)]
theorem s_upright {z : gZ} (hk : kOk c) (h0 : z.1 1 0 = kC c) (h1 : z.1 1 1 = kR c) (h3 : z.1 1 3 = kT c) (x y : Int) : q_Grid_upright E L x y z = some (kUp c x y) := by
  have hF := kF_b hk
  have hW := kW_b hk
  have eF : (kC c : Int) * ((kR c : Int) + 1) * (kT c : Int) = ((kF c : Nat) : Int) := by unfold kF; simp only [Int.natCast_mul, Int.natCast_add, Int.cast_ofNat_Int]
  unfold q_Grid_upright
  rw [h0, h1]
  by_cases e : 0 ≤ x ∧ x ≤ kC c ∧ 0 ≤ y ∧ y < kR c
  · obtain ⟨e1, e2, e3, e4⟩ := e
    obtain ⟨a, rfl⟩ := i_nat e1
    obtain ⟨b, rfl⟩ := i_nat e3
    rw [kUp_n (by omega) (by omega)]
    rw [if_neg (by omega), if_neg (by omega), if_neg (by omega), if_neg (by omega)]
    unfold q_Grid_upright_j29
    have h := kW_V (c := c) (x := a) (y := b) (t := 0) (by omega) (by omega) hk.2.2.2.1
    have e5 : (kF c : Int) + ((b : Int) * ((kC c : Int) + 1) + (a : Int)) * (kT c : Int) = ((kF c + (b * (kC c + 1) + a) * kT c : Nat) : Int) := by simp only [Int.natCast_mul, Int.natCast_add, Int.cast_ofNat_Int]
    rw [h0, h1, h3, eF, if_pos (by omega), let_s, if_neg (by decide), e5, if_pos (by omega)]
  · have : kUp c x y = -1 := if_neg e
    rw [this]
    have hj : q_Grid_upright_j28 E L x y z = some (-1) := by unfold q_Grid_upright_j28 q_Grid_upright_j29; rw [h0, h1, h3, eF, if_pos (by omega), let_s, if_pos rfl]
    rw [hj]
    by_cases a1 : x < 0
    · rw [if_pos a1]
    · rw [if_neg a1]
      by_cases a2 : (kC c : Int) < x
      · rw [if_pos a2]
      · rw [if_neg a2]
        by_cases a3 : y < 0
        · rw [if_pos a3]
        · rw [if_neg a3, if_pos (by omega)]
/-- the lengths of the grid's own arrays -/
def gL (c : gCf) (L : Nat → Nat) : Prop := L 2 = kN c + kD c ∧ L 3 = kN c + kD c ∧ L 4 = (kN c + kD c) * 4 ∧ L 5 = kJ c ∧ L 6 = kJ c ∧ L 7 = kW c ∧ L 8 = kW c * 6 ∧ L 9 = kW c * 6
/-- what one pair of pads writes -/
def pPr (c : gCf) (a k j : Nat) : Prop := ((k = 2 ∨ k = 3) ∧ (j = kN c + 2 * a ∨ j = kN c + 2 * a + 1)) ∨ (k = 4 ∧ (j = (kN c + 2 * a) * 4 ∨ j = (kN c + 2 * a + 1) * 4))
theorem s_padPair {z : gZ} (hk : kOk c) (hL : gL c L) (h4 : z.1 1 4 = kN c) (a : Nat) (ha : 2 * a + 1 < kD c) (x y w : Int) : zOk (q_Grid_setPadPair E L a x y w z) (fun z' => zOff (pPr c a) z z' ∧ ∀ j, 2 * a ≤ j → j < 2 * a + 2 → z'.1 2 (kN c + j) = x ∧ z'.1 3 (kN c + j) = y ∧ z'.1 4 ((kN c + j) * 4) = w) := by
  obtain ⟨l2, l3, l4, -⟩ := hL
  have hD := kD_b hk
  have hN := kN_b hk
  unfold q_Grid_setPadPair
  rw [if_pos (by omega), let_s, ok_1]
  refine ok_w (P := fun z' => zOff (pPr c a) z z' ∧ ∀ j, 2 * a ≤ j → j < 2 * a + 2 → z'.1 2 (kN c + j) = x ∧ z'.1 3 (kN c + j) = y ∧ z'.1 4 ((kN c + j) * 4) = w) ?_ (fun e h => (ok_s _ _).2 h)
  refine it_for (fun i t => ((i : Int), t)) (fun i t => zOff (pPr c a) z t ∧ ∀ j, 2 * a ≤ j → j < i → t.1 2 (kN c + j) = x ∧ t.1 3 (kN c + j) = y ∧ t.1 4 ((kN c + j) * 4) = w) (2 * a) (2 * a + 2) (t := z) (by simp) ⟨off_r, fun j h1 h2 => by omega⟩ (by omega) (by omega) ?_ ?_
  · intro i t h1 h2 ⟨h5, h6⟩
    have t4 : t.1 1 4 = kN c := (h5.2 1 4 (by unfold pPr; omega)).trans h4
    unfold q_Grid_setPadPair_5
    have e1 : ((kN c : Int) + (i : Int)).toNat = kN c + i := by omega
    have e2 : (((kN c : Int) + (i : Int)) * 4).toNat = (kN c + i) * 4 := by omega
    have t5 : (zPut t 2 (kN c + i) x).1 1 4 = kN c := by rw [zp_ne _ _ _ _ _ (by omega)]; exact t4
    have t6 : (zPut (zPut t 2 (kN c + i) x) 3 (kN c + i) y).1 1 4 = kN c := by rw [zp_ne _ _ _ _ _ (by omega)]; exact t5
    rw [l2, l3, l4, if_pos (by omega), if_neg (by omega), t4, if_pos (by omega), let_s, e1, t5, if_pos (by omega), let_s, e1, t6, if_pos (by omega), let_s, e2, let_s]
    refine ok_inl (Or.inl ⟨zPut (zPut (zPut t 2 (kN c + i) x) 3 (kN c + i) y) 4 ((kN c + i) * 4) w, by simp, ?_, ?_⟩)
    · refine off_t (off_t (off_t h5 (off_put ?_)) (off_put ?_)) (off_put ?_) <;> (unfold pPr; omega)
    · intro j j1 j2
      rw [zp1, zp1, zp1, zp1, zp1, zp1, zp1, zp1, zp1]
      by_cases e : j = i
      · subst e
        simp
      · have := h6 j j1 (by omega)
        rw [if_neg (by omega), if_neg (by omega), if_pos rfl, if_neg (by omega), if_neg (by omega), if_pos rfl, if_neg (by omega), if_neg (by omega), if_pos rfl, if_neg (by omega), if_neg (by omega), if_neg (by omega)]
        exact this
  · intro t ⟨h5, h6⟩
    unfold q_Grid_setPadPair_5
    rw [if_pos (by omega), if_pos (by omega)]
    exact ok_inr ⟨t, rfl, h5, h6⟩
end
-- C2
section
variable {E : gEv} {c : gCf} {L : Nat → Nat}
def pTl (c : gCf) (k j : Nat) : Prop := ((k = 2 ∨ k = 3) ∧ j < kN c) ∨ (k = 4 ∧ j < kN c * 4)
def tOk (c : gCf) (z : gZ) (t : Nat) : Prop := z.1 2 t = ((t % kC c + 1 : Nat) : Int) ∧ z.1 3 t = ((t / kC c + 1 : Nat) : Int) ∧ ∀ s, s < 4 → z.1 4 (t * 4 + s) = kTw c t s
theorem n_dm {C y x : Nat} (h : x < C) : (y * C + x) / C = y ∧ (y * C + x) % C = x := by
  have h0 : 0 < C := by omega
  rw [Nat.mul_comm y C]
  exact ⟨by rw [Nat.mul_add_div h0, Nat.div_eq_of_lt h]; omega, by rw [Nat.mul_add_mod, Nat.mod_eq_of_lt h]⟩
theorem s_tile {z : gZ} (hk : kOk c) (hL : gL c L) (h0 : z.1 1 0 = kC c) (h1 : z.1 1 1 = kR c) (h3 : z.1 1 3 = kT c) {x y : Nat} (hx : x < kC c) (hy : y < kR c) : zOk (q_Grid_setTiles_12 E L y x z) (fun r => ∃ z', r = .inl (((x + 1 : Nat) : Int), z') ∧ zOff (fun k j => ((k = 2 ∨ k = 3) ∧ j = y * kC c + x) ∨ (k = 4 ∧ (y * kC c + x) * 4 ≤ j ∧ j < (y * kC c + x) * 4 + 4)) z z' ∧ tOk c z' (y * kC c + x)) := by
  obtain ⟨l2, l3, l4, -⟩ := hL
  have hN := kN_b hk
  have hD := kD_b hk
  have hb1 := hk.1
  have hb2 := hk.2.1
  have ht : y * kC c + x < kN c := by
    have := gidx hy hx
    unfold kN; rw [Nat.mul_comm (kC c)]; exact this
  have ⟨d1, d2⟩ := n_dm (y := y) hx
  unfold q_Grid_setTiles_12
  have e0 : (y : Int) * (kC c : Int) + (x : Int) = ((y * kC c + x : Nat) : Int) := by simp only [Int.natCast_mul, Int.natCast_add]
  rw [h0, l2, l3, l4, if_neg (by omega), e0]
  generalize ht0 : y * kC c + x = t at *
  rw [if_pos (by omega), let_s, if_pos (by omega), gtN, let_s, if_pos (by omega), if_pos (by omega), let_s]
  have eA : ∀ (z' : gZ) (a b : Int), (∀ j, z'.1 1 j = z.1 1 j) → q_Grid_across E L a b z' = some (kAc c a b) := fun z' a b hz => s_across hk ((hz 0).trans h0) ((hz 1).trans h1) ((hz 3).trans h3) a b
  have eU : ∀ (z' : gZ) (a b : Int), (∀ j, z'.1 1 j = z.1 1 j) → q_Grid_upright E L a b z' = some (kUp c a b) := fun z' a b hz => s_upright hk ((hz 0).trans h0) ((hz 1).trans h1) ((hz 3).trans h3) a b
  have q1 : ((t : Int) * 4).toNat = t * 4 := by omega
  have q2 : ((t : Int) * 4 + 1).toNat = t * 4 + 1 := by omega
  have q3 : ((t : Int) * 4 + 2).toNat = t * 4 + 2 := by omega
  have q4 : ((t : Int) * 4 + 3).toNat = t * 4 + 3 := by omega
  rw [eA _ _ _ (fun j => by rw [zp_ne _ _ _ _ _ (by omega), zp_ne _ _ _ _ _ (by omega)]), b1_s, if_pos (by omega), let_s, q1]
  rw [eA _ _ _ (fun j => by rw [zp_ne _ _ _ _ _ (by omega), zp_ne _ _ _ _ _ (by omega), zp_ne _ _ _ _ _ (by omega)]), b1_s, if_pos (by omega), let_s, q2]
  rw [eU _ _ _ (fun j => by rw [zp_ne _ _ _ _ _ (by omega), zp_ne _ _ _ _ _ (by omega), zp_ne _ _ _ _ _ (by omega), zp_ne _ _ _ _ _ (by omega)]), b1_s, if_pos (by omega), let_s, q3]
  rw [eU _ _ _ (fun j => by rw [zp_ne _ _ _ _ _ (by omega), zp_ne _ _ _ _ _ (by omega), zp_ne _ _ _ _ _ (by omega), zp_ne _ _ _ _ _ (by omega), zp_ne _ _ _ _ _ (by omega)]), b1_s, if_pos (by omega), let_s, q4, let_s]
  refine ok_inl ⟨_, by simp; rfl, ?_, ?_⟩
  · refine off_t (off_t (off_t (off_t (off_t (off_put ?_) (off_put ?_)) (off_put ?_)) (off_put ?_)) (off_put ?_)) (off_put ?_) <;> omega
  · have a1 : kAc c x y = ((kTw c t 0 : Nat) : Int) := by
      rw [kAc_n hx (by omega)]; unfold kTw; rw [if_pos rfl, d1, d2]
    have a2 : kAc c x ((y : Int) + 1) = ((kTw c t 1 : Nat) : Int) := by
      rw [show (y : Int) + 1 = ((y + 1 : Nat) : Int) by omega, kAc_n hx (by omega)]; unfold kTw; rw [if_neg (by decide), if_pos rfl, d1, d2]
    have a3 : kUp c x y = ((kTw c t 2 : Nat) : Int) := by
      rw [kUp_n (by omega) hy]; unfold kTw; rw [if_neg (by decide), if_neg (by decide), if_pos rfl, d1, d2]
    have a4 : kUp c ((x : Int) + 1) y = ((kTw c t 3 : Nat) : Int) := by
      rw [show (x : Int) + 1 = ((x + 1 : Nat) : Int) by omega, kUp_n (by omega) hy]; unfold kTw; rw [if_neg (by decide), if_neg (by decide), if_neg (by decide), d1, d2]
    rw [a1, a2, a3, a4]
    refine ⟨?_, ?_, fun s hs => ?_⟩
    · rw [zp_ne _ _ _ _ _ (by omega), zp_ne _ _ _ _ _ (by omega), zp_ne _ _ _ _ _ (by omega), zp_ne _ _ _ _ _ (by omega), zp_ne _ _ _ _ _ (by omega), zp1, if_pos rfl, if_pos rfl, d2]; omega
    · rw [zp_ne _ _ _ _ _ (by omega), zp_ne _ _ _ _ _ (by omega), zp_ne _ _ _ _ _ (by omega), zp_ne _ _ _ _ _ (by omega), zp1, if_pos rfl, if_pos rfl, d1]; omega
    · have hs' : s = 0 ∨ s = 1 ∨ s = 2 ∨ s = 3 := by omega
      rcases hs' with rfl | rfl | rfl | rfl
      · rw [zp1, if_pos rfl, if_neg (by omega), zp1, if_pos rfl, if_neg (by omega), zp1, if_pos rfl, if_neg (by omega), zp1, if_pos rfl, if_pos (by omega)]
      · rw [zp1, if_pos rfl, if_neg (by omega), zp1, if_pos rfl, if_neg (by omega), zp1, if_pos rfl, if_pos (by omega)]
      · rw [zp1, if_pos rfl, if_neg (by omega), zp1, if_pos rfl, if_pos (by omega)]
      · rw [zp1, if_pos rfl, if_pos (by omega)]
theorem s_setTiles {z : gZ} (hk : kOk c) (hL : gL c L) (h0 : z.1 1 0 = kC c) (h1 : z.1 1 1 = kR c) (h3 : z.1 1 3 = kT c) : zOk (q_Grid_setTiles E L z) (fun z' => zOff (pTl c) z z' ∧ ∀ t, t < kN c → tOk c z' t) := by
  unfold q_Grid_setTiles
  rw [ok_1]
  have hNe : kN c = kR c * kC c := by unfold kN; rw [Nat.mul_comm]
  refine ok_w (P := fun z' => zOff (pTl c) z z' ∧ ∀ t, t < kN c → tOk c z' t) ?_ (fun e h => (ok_s _ _).2 h)
  have off1 : ∀ {t : gZ} (j : Nat), zOff (pTl c) z t → t.1 1 j = z.1 1 j := fun j h => h.2 1 j (by unfold pTl; omega)
  have hb1 := hk.1
  have hb2 := hk.2.1
  refine it_for (fun i t => ((i : Int), t)) (fun y t => zOff (pTl c) z t ∧ ∀ u, u < y * kC c → tOk c t u) 0 (kR c) (t := z) rfl ⟨off_r, fun j h => by omega⟩ (by omega) (by omega) ?_ ?_
  · intro y t _ hy ⟨i1, i2⟩
    show zOk (q_Grid_setTiles_2 E L (y : Int) t) _
    unfold q_Grid_setTiles_2
    rw [(off1 1 i1).trans h1, if_neg (by omega), ok_1]
    refine ok_w (P := fun z' => zOff (pTl c) z z' ∧ ∀ u, u < (y + 1) * kC c → tOk c z' u) ?_ (fun e h => ?_)
    · refine it_for (fun i t => ((i : Int), t)) (fun x t => zOff (pTl c) z t ∧ ∀ u, u < y * kC c + x → tOk c t u) 0 (kC c) (t := t) rfl ⟨i1, fun u hu => i2 u (by omega)⟩ (by omega) (by omega) ?_ ?_
      · intro x t2 _ hx ⟨j1, j2⟩
        have ht : y * kC c + x < kN c := by rw [hNe]; exact gidx hy hx
        refine ok_w (s_tile (E := E) (z := t2) hk hL ((off1 0 j1).trans h0) ((off1 1 j1).trans h1) ((off1 3 j1).trans h3) hx hy) ?_
        rintro r ⟨z', rfl, k1, k2⟩
        refine Or.inl ⟨z', rfl, off_t j1 (off_w k1 (fun a b hab => by unfold pTl; omega)), fun u hu => ?_⟩
        by_cases e : u = y * kC c + x
        · rw [e]; exact k2
        · have := j2 u (by omega)
          refine ⟨?_, ?_, fun s hs => ?_⟩
          · rw [k1.2 2 u (by omega)]; exact this.1
          · rw [k1.2 3 u (by omega)]; exact this.2.1
          · rw [k1.2 4 (u * 4 + s) (by omega)]; exact this.2.2 s hs
      · intro t2 ⟨j1, j2⟩
        show zOk (q_Grid_setTiles_12 E L (y : Int) (kC c : Int) t2) _
        unfold q_Grid_setTiles_12
        rw [(off1 0 j1).trans h0, if_pos (by omega)]
        exact ok_inr ⟨t2, rfl, j1, fun u hu => j2 u (by rw [Nat.add_mul] at hu; omega)⟩
    · rw [let_s]
      exact ok_inl (Or.inl ⟨e, by simp, h⟩)
  · intro t ⟨i1, i2⟩
    show zOk (q_Grid_setTiles_2 E L (kR c : Int) t) _
    unfold q_Grid_setTiles_2
    rw [(off1 1 i1).trans h1, if_pos (by omega)]
    exact ok_inr ⟨t, rfl, i1, fun u hu => i2 u (by rw [← hNe]; exact hu)⟩
end
-- C3
section
variable {E : gEv} {c : gCf} {L : Nat → Nat}
def dOk (c : gCf) (z : gZ) (p : Nat) : Prop := z.1 2 (kN c + p) = kPx c p ∧ z.1 3 (kN c + p) = kPy c p ∧ z.1 4 ((kN c + p) * 4) = kPw c p
def pPd (c : gCf) (k j : Nat) : Prop := ((k = 2 ∨ k = 3) ∧ kN c ≤ j) ∨ (k = 4 ∧ ∃ p, j = (kN c + p) * 4)
theorem pPr_w {a k j : Nat} (h : pPr c a k j) : pPd c k j := by
  unfold pPr at h
  rcases h with ⟨h1, h2⟩ | ⟨h1, h2 | h2⟩
  · exact Or.inl ⟨h1, by omega⟩
  · exact Or.inr ⟨h1, 2 * a, h2⟩
  · exact Or.inr ⟨h1, 2 * a + 1, by omega⟩
/-- one pair of pads, right -/
theorem s_pair {z : gZ} (hk : kOk c) (hL : gL c L) (h4 : z.1 1 4 = kN c) (a : Nat) (ha : 2 * a + 1 < kD c) {x y w : Int} (hv : ∀ j, j / 2 = a → x = kPx c j ∧ y = kPy c j ∧ w = kPw c j) : zOk (q_Grid_setPadPair E L a x y w z) (fun z' => zOff (pPd c) z z' ∧ (∀ j, j / 2 = a → dOk c z' j) ∧ ∀ j, dOk c z j → dOk c z' j) := by
  refine ok_w (s_padPair hk hL h4 a ha x y w) fun z' ⟨h1, h2⟩ => ?_
  have key : ∀ j, j / 2 = a → dOk c z' j := fun j hj => by
    obtain ⟨v1, v2, v3⟩ := hv j hj
    obtain ⟨w1, w2, w3⟩ := h2 j (by omega) (by omega)
    exact ⟨w1.trans v1, w2.trans v2, w3.trans v3⟩
  refine ⟨off_w h1 (fun _ _ => pPr_w), key, fun j hj => ?_⟩
  by_cases e : j / 2 = a
  · exact key j e
  · refine ⟨?_, ?_, ?_⟩
    · rw [h1.2 2 (kN c + j) (by unfold pPr; omega)]; exact hj.1
    · rw [h1.2 3 (kN c + j) (by unfold pPr; omega)]; exact hj.2.1
    · rw [h1.2 4 ((kN c + j) * 4) (by unfold pPr; omega)]; exact hj.2.2
theorem s_setPads {z : gZ} (hk : kOk c) (hL : gL c L) (h0 : z.1 1 0 = kC c) (h1 : z.1 1 1 = kR c) (h3 : z.1 1 3 = kT c) (h4 : z.1 1 4 = kN c) : zOk (q_Grid_setPads E L z) (fun z' => zOff (pPd c) z z' ∧ ∀ p, p < kD c → dOk c z' p) := by
  have hb1 := hk.1
  have hb2 := hk.2.1
  have hDe : kD c = 4 * (kC c + kR c) := rfl
  have off1 : ∀ {t : gZ} (j : Nat), zOff (pPd c) z t → t.1 1 j = z.1 1 j := fun j h => h.2 1 j (by unfold pPd; omega)
  unfold q_Grid_setPads
  rw [ok_1]
  refine ok_w (P := fun z' => zOff (pPd c) z z' ∧ ∀ p, p / 2 < 2 * kC c → dOk c z' p) ?_ (fun e he => ?_)
  · refine it_for (fun i t => ((i : Int), t)) (fun i t => zOff (pPd c) z t ∧ ∀ p, p / 2 < i ∨ (kC c ≤ p / 2 ∧ p / 2 < kC c + i) → dOk c t p) 0 (kC c) (t := z) rfl ⟨off_r, fun p hp => by omega⟩ (by omega) (by omega) ?_ ?_
    · intro i t _ hi ⟨i1, i2⟩
      show zOk (q_Grid_setPads_2 E L (i : Int) t) _
      unfold q_Grid_setPads_2
      rw [(off1 0 i1).trans h0, if_neg (by omega), s_across hk ((off1 0 i1).trans h0) ((off1 1 i1).trans h1) ((off1 3 i1).trans h3), b1_s, ok_1]
      refine ok_w (s_pair (E := E) hk hL ((off1 4 i1).trans h4) i (by omega) (fun j hj => ?_)) (fun s4 ⟨j1, j2, j3⟩ => ?_)
      · subst hj
        have e1 : kAc c ((j / 2 : Nat) : Int) 0 = kPw c j := by
          have := kAc_n (c := c) (x := j / 2) (y := 0) hi (by omega)
          unfold kPw; rw [if_pos hi]; exact this
        refine ⟨?_, ?_, e1⟩
        · unfold kPx; rw [if_pos hi]; omega
        · unfold kPy; rw [if_pos hi]; rfl
      · have i3 := off_t i1 j1
        rw [(off1 1 i3).trans h1, (off1 0 i3).trans h0, s_across hk ((off1 0 i3).trans h0) ((off1 1 i3).trans h1) ((off1 3 i3).trans h3), b1_s, if_pos (by omega), if_pos (by omega), ok_1, show (kC c : Int) + (i : Int) = ((kC c + i : Nat) : Int) by omega]
        refine ok_w (s_pair (E := E) hk hL ((off1 4 i3).trans h4) (kC c + i) (by omega) (fun j hj => ?_)) (fun s8 ⟨k1, k2, k3⟩ => ?_)
        · have e1 : kAc c ((i : Nat) : Int) ((kR c : Nat) : Int) = kPw c j := by
            rw [kAc_n hi (by omega)]
            unfold kPw; rw [if_neg (by omega), if_pos (by omega), show j / 2 - kC c = i by omega]
          refine ⟨?_, ?_, e1⟩
          · unfold kPx; rw [if_neg (by omega), if_pos (by omega)]; omega
          · unfold kPy; rw [if_neg (by omega), if_pos (by omega)]; omega
        · rw [let_s]
          refine ok_inl (Or.inl ⟨s8, by simp, off_t i3 k1, fun p hp => ?_⟩)
          by_cases a1 : p / 2 = kC c + i
          · exact k2 p a1
          · refine k3 p ?_
            by_cases a2 : p / 2 = i
            · exact j2 p a2
            · exact j3 p (i2 p (by omega))
    · intro t ⟨i1, i2⟩
      show zOk (q_Grid_setPads_2 E L (kC c : Int) t) _
      unfold q_Grid_setPads_2
      rw [(off1 0 i1).trans h0, if_pos (by omega)]
      exact ok_inr ⟨t, rfl, i1, fun p hp => i2 p (by omega)⟩
  · obtain ⟨e1, e2⟩ := he
    rw [ok_1]
    refine ok_w (P := fun z' => zOff (pPd c) z z' ∧ ∀ p, p < kD c → dOk c z' p) ?_ (fun e h => (ok_s _ _).2 h)
    refine it_for (fun i t => ((i : Int), t)) (fun i t => zOff (pPd c) z t ∧ ∀ p, p / 2 < 2 * kC c + i ∨ (2 * kC c + kR c ≤ p / 2 ∧ p / 2 < 2 * kC c + kR c + i) → dOk c t p) 0 (kR c) (t := e) rfl ⟨e1, fun p hp => e2 p (by omega)⟩ (by omega) (by omega) ?_ ?_
    · intro i t _ hi ⟨i1, i2⟩
      show zOk (q_Grid_setPads_61 E L (i : Int) t) _
      unfold q_Grid_setPads_61
      rw [(off1 1 i1).trans h1, (off1 0 i1).trans h0, if_neg (by omega), s_upright hk ((off1 0 i1).trans h0) ((off1 1 i1).trans h1) ((off1 3 i1).trans h3), b1_s, if_pos (by omega), ok_1, show 2 * (kC c : Int) + (i : Int) = ((2 * kC c + i : Nat) : Int) by omega]
      refine ok_w (s_pair (E := E) hk hL ((off1 4 i1).trans h4) (2 * kC c + i) (by omega) (fun j hj => ?_)) (fun s4 ⟨j1, j2, j3⟩ => ?_)
      · have e3 : kUp c 0 ((i : Nat) : Int) = kPw c j := by
          have := kUp_n (c := c) (x := 0) (y := i) (by omega) hi
          unfold kPw; rw [if_neg (by omega), if_neg (by omega), if_pos (by omega), show j / 2 - 2 * kC c = i by omega]; exact this
        refine ⟨?_, ?_, e3⟩
        · unfold kPx; rw [if_neg (by omega), if_neg (by omega), if_pos (by omega)]; rfl
        · unfold kPy; rw [if_neg (by omega), if_neg (by omega), if_pos (by omega)]; omega
      · have i3 := off_t i1 j1
        rw [(off1 1 i3).trans h1, (off1 0 i3).trans h0, s_upright hk ((off1 0 i3).trans h0) ((off1 1 i3).trans h1) ((off1 3 i3).trans h3), b1_s, if_pos (by omega), if_pos (by omega), ok_1, show 2 * (kC c : Int) + (kR c : Int) + (i : Int) = ((2 * kC c + kR c + i : Nat) : Int) by omega]
        refine ok_w (s_pair (E := E) hk hL ((off1 4 i3).trans h4) (2 * kC c + kR c + i) (by omega) (fun j hj => ?_)) (fun s8 ⟨k1, k2, k3⟩ => ?_)
        · have e3 : kUp c ((kC c : Nat) : Int) ((i : Nat) : Int) = kPw c j := by
            rw [kUp_n (by omega) hi]
            unfold kPw; rw [if_neg (by omega), if_neg (by omega), if_neg (by omega), show j / 2 - 2 * kC c - kR c = i by omega]
          refine ⟨?_, ?_, e3⟩
          · unfold kPx; rw [if_neg (by omega), if_neg (by omega), if_neg (by omega)]; omega
          · unfold kPy; rw [if_neg (by omega), if_neg (by omega), if_neg (by omega)]; omega
        · rw [let_s]
          refine ok_inl (Or.inl ⟨s8, by simp, off_t i3 k1, fun p hp => ?_⟩)
          by_cases a1 : p / 2 = 2 * kC c + kR c + i
          · exact k2 p a1
          · refine k3 p ?_
            by_cases a2 : p / 2 = 2 * kC c + i
            · exact j2 p a2
            · exact j3 p (i2 p (by omega))
    · intro t ⟨i1, i2⟩
      show zOk (q_Grid_setPads_61 E L (kR c : Int) t) _
      unfold q_Grid_setPads_61
      rw [(off1 1 i1).trans h1, if_pos (by omega)]
      exact ok_inr ⟨t, rfl, i1, fun p hp => i2 p (by rw [hDe] at hp; omega)⟩
end
-- C4
section
variable {E : gEv} {c : gCf} {L : Nat → Nat}
/-- what a joint's slot holds of an arm a beside an arm b, on track t -/
def jV (a b : Int) (t : Nat) : Int := if a = -1 ∨ b = -1 then -1 else a + t
def pJt (c : gCf) (j0 k j : Nat) : Prop := (k = 5 ∨ k = 6) ∧ ∃ t, t < kT c ∧ j = j0 + t * 6
theorem s_joint {z : gZ} (hk : kOk c) (hL : gL c L) (h3 : z.1 1 3 = kT c) {j0 : Nat} (hj : ∀ t, t < kT c → j0 + t * 6 < kJ c) {a b : Int} (ha : -1 ≤ a ∧ a < 1000) (hb : -1 ≤ b ∧ b < 1000) : zOk (q_Grid_setJoint E L j0 a b z) (fun z' => zOff (pJt c j0) z z' ∧ ∀ t, t < kT c → z'.1 5 (j0 + t * 6) = jV a b t ∧ z'.1 6 (j0 + t * 6) = jV b a t) := by
  obtain ⟨-, -, -, l5, l6, -⟩ := hL
  have hT := hk.2.2.2
  have hJ := kJ_b hk
  have key : ∀ f : Int, (f = 0 ∧ (a = -1 ∨ b = -1)) ∨ (f = 1 ∧ ¬ (a = -1 ∨ b = -1)) → zOk (q_Grid_setJoint_j15 E L j0 a b f z) (fun z' => zOff (pJt c j0) z z' ∧ ∀ t, t < kT c → z'.1 5 (j0 + t * 6) = jV a b t ∧ z'.1 6 (j0 + t * 6) = jV b a t) := by
    intro f hf
    unfold q_Grid_setJoint_j15
    rw [ok_1]
    refine ok_w (P := fun z' => zOff (pJt c j0) z z' ∧ ∀ t, t < kT c → z'.1 5 (j0 + t * 6) = jV a b t ∧ z'.1 6 (j0 + t * 6) = jV b a t) ?_ (fun e h => (ok_s _ _).2 h)
    refine it_for (fun i t => ((i : Int), t)) (fun i w => zOff (pJt c j0) z w ∧ ∀ t, t < i → w.1 5 (j0 + t * 6) = jV a b t ∧ w.1 6 (j0 + t * 6) = jV b a t) 0 (kT c) (t := z) rfl ⟨off_r, fun j h => by omega⟩ (by omega) (by omega) ?_ ?_
    · intro i w _ hi ⟨h5, h6⟩
      have w3 : w.1 1 3 = kT c := (h5.2 1 3 (by unfold pJt; omega)).trans h3
      have hji := hj i hi
      show zOk (q_Grid_setJoint_20 E L j0 a b f (i : Int) w) _
      have main : ∀ (v1 v2 : Int), v1 = jV a b i → v2 = jV b a i → q_Grid_setJoint_20 E L j0 a b f (i : Int) w = some (.inl (((i : Int) + 1), zPut (zPut w 5 (j0 + i * 6) v1) 6 (j0 + i * 6) v2)) := by
        intro v1 v2 e1 e2
        have en : ((j0 : Int) + (i : Int) * 6).toNat = j0 + i * 6 := by omega
        unfold q_Grid_setJoint_20
        rw [w3, if_neg (by omega)]
        rcases hf with ⟨f0, hf⟩ | ⟨f1, hf⟩
        · have x1 : v1 = -1 := e1.trans (if_pos hf)
          have x2 : v2 = -1 := e2.trans (if_pos hf.symm)
          rw [if_pos f0, if_pos (by omega)]
          unfold q_Grid_setJoint_j53_20
          rw [l5, if_pos (by omega), let_s, if_pos f0, if_pos (by omega)]
          unfold q_Grid_setJoint_j78_20
          rw [l6, if_pos (by omega), let_s, if_pos (by omega), let_s, en, x1, x2]
        · have x1 : v1 = a + i := e1.trans (if_neg hf)
          have x2 : v2 = b + i := e2.trans (if_neg fun h => hf h.symm)
          rw [if_neg (by omega), if_pos (by omega), if_pos (by omega)]
          unfold q_Grid_setJoint_j53_20
          rw [l5, if_pos (by omega), let_s, if_neg (by omega), if_pos (by omega), if_pos (by omega)]
          unfold q_Grid_setJoint_j78_20
          rw [l6, if_pos (by omega), let_s, if_pos (by omega), let_s, en, x1, x2]
      rw [main _ _ rfl rfl]
      refine ok_inl (Or.inl ⟨_, by simp; rfl, off_t (off_t h5 (off_put ⟨Or.inl rfl, i, hi, rfl⟩)) (off_put ⟨Or.inr rfl, i, hi, rfl⟩), fun t ht => ?_⟩)
      rw [zp_ne _ _ _ _ 5 (by omega), zp1, if_pos rfl, zp1, if_pos rfl]
      by_cases e : t = i
      · subst e
        rw [if_pos rfl, if_pos rfl]; exact ⟨rfl, rfl⟩
      · rw [if_neg (by omega), if_neg (by omega), zp_ne _ _ _ _ 6 (by omega)]
        exact h6 t (by omega)
    · intro w ⟨h5, h6⟩
      have w3 : w.1 1 3 = kT c := (h5.2 1 3 (by unfold pJt; omega)).trans h3
      show zOk (q_Grid_setJoint_20 E L j0 a b f (kT c : Int) w) _
      unfold q_Grid_setJoint_20
      rw [w3, if_pos (by omega)]
      exact ok_inr ⟨w, rfl, h5, h6⟩
  unfold q_Grid_setJoint
  by_cases e1 : a = -1
  · rw [if_pos e1]; exact key 0 (Or.inl ⟨rfl, Or.inl e1⟩)
  · rw [if_neg e1]
    by_cases e2 : b = -1
    · rw [if_pos e2]; exact key 0 (Or.inl ⟨rfl, Or.inr e2⟩)
    · rw [if_neg e2]; exact key 1 (Or.inr ⟨rfl, by omega⟩)
end
-- C5
section
variable {E : gEv} {c : gCf} {L : Nat → Nat}
/-- the four arms at a point; the pairs of arms -/
def kArm (c : gCf) (x y : Int) (i : Nat) : Int := if i = 0 then kAc c (x - 1) y else if i = 1 then kAc c x y else if i = 2 then kUp c x (y - 1) else kUp c x y
def kPp (k : Nat) : Nat := if k < 3 then 0 else if k < 5 then 1 else 2
def kPq (k : Nat) : Nat := if k = 0 then 1 else if k = 1 then 2 else if k = 2 then 3 else if k = 3 then 2 else 3
def kQx (c : gCf) (P : Nat) : Nat := P % (kC c + 1)
def kQy (c : gCf) (P : Nat) : Nat := P / (kC c + 1)
/-- the two ends of joint j -/
def kJa (c : gCf) (j : Nat) : Int := jV (kArm c (kQx c (j / 6 / kT c)) (kQy c (j / 6 / kT c)) (kPp (j % 6))) (kArm c (kQx c (j / 6 / kT c)) (kQy c (j / 6 / kT c)) (kPq (j % 6))) (j / 6 % kT c)
def kJb (c : gCf) (j : Nat) : Int := jV (kArm c (kQx c (j / 6 / kT c)) (kQy c (j / 6 / kT c)) (kPq (j % 6))) (kArm c (kQx c (j / 6 / kT c)) (kQy c (j / 6 / kT c)) (kPp (j % 6))) (j / 6 % kT c)
theorem kAc_r (h : kOk c) (x y : Int) : -1 ≤ kAc c x y ∧ kAc c x y < 1000 := by
  by_cases e : 0 ≤ x ∧ x < kC c ∧ 0 ≤ y ∧ y ≤ kR c
  · obtain ⟨a, rfl⟩ := i_nat e.1
    obtain ⟨b, rfl⟩ := i_nat e.2.2.1
    rw [kAc_n (by omega) (by omega)]
    have := kW_H (c := c) (x := a) (y := b) (t := 0) (by omega) (by omega) h.2.2.2.1
    have := kF_b h
    omega
  · have : kAc c x y = -1 := if_neg e
    omega
theorem kUp_r (h : kOk c) (x y : Int) : -1 ≤ kUp c x y ∧ kUp c x y < 1000 := by
  by_cases e : 0 ≤ x ∧ x ≤ kC c ∧ 0 ≤ y ∧ y < kR c
  · obtain ⟨a, rfl⟩ := i_nat e.1
    obtain ⟨b, rfl⟩ := i_nat e.2.2.1
    rw [kUp_n (by omega) (by omega)]
    have := kW_V (c := c) (x := a) (y := b) (t := 0) (by omega) (by omega) h.2.2.2.1
    have := kW_b h
    omega
  · have : kUp c x y = -1 := if_neg e
    omega
theorem kArm_r (h : kOk c) (x y : Int) (i : Nat) : -1 ≤ kArm c x y i ∧ kArm c x y i < 1000 := by
  unfold kArm
  split
  · exact kAc_r h _ _
  · split
    · exact kAc_r h _ _
    · split
      · exact kUp_r h _ _
      · exact kUp_r h _ _
/-- the joints of one point, m pairs of them done -/
def JI (c : gCf) (A : Nat → Int) (X m : Nat) (z w : gZ) : Prop := zOff (fun k j => (k = 5 ∨ k = 6) ∧ X ≤ j ∧ j < X + kT c * 6) z w ∧ ∀ k t, k < m → t < kT c → w.1 5 (X + k + t * 6) = jV (A (kPp k)) (A (kPq k)) t ∧ w.1 6 (X + k + t * 6) = jV (A (kPq k)) (A (kPp k)) t
theorem JI_step {A : Nat → Int} {X m : Nat} {z w : gZ} (hk : kOk c) (hL : gL c L) (h3 : z.1 1 3 = kT c) (hX : X + kT c * 6 ≤ kJ c) (hA : ∀ i, -1 ≤ A i ∧ A i < 1000) (hm : m < 6) (h : JI c A X m z w) {a b jj : Int} (ea : a = A (kPp m)) (eb : b = A (kPq m)) (ej : jj = ((X + m : Nat) : Int)) : zOk (q_Grid_setJoint E L jj a b w) (JI c A X (m + 1) z) := by
  subst ea; subst eb; subst ej
  have w3 : w.1 1 3 = kT c := (h.1.2 1 3 (by omega)).trans h3
  refine ok_w (s_joint hk hL w3 (j0 := X + m) (fun t ht => by omega) (hA _) (hA _)) fun w' ⟨h1, h2⟩ => ⟨off_t h.1 (off_w h1 ?_), ?_⟩
  · rintro k j ⟨h4, t, h5, h6⟩
    exact ⟨h4, by omega, by omega⟩
  · intro k t hk2 ht
    by_cases e : k = m
    · subst e; exact h2 t ht
    · have n1 : ∀ q, ¬ pJt c (X + m) q (X + k + t * 6) := by
        rintro q ⟨_, u, h5, h6⟩
        omega
      rw [h1.2 5 _ (n1 5), h1.2 6 _ (n1 6)]
      exact h.2 k t (by omega) ht
theorem s_point {z : gZ} (hk : kOk c) (hL : gL c L) (h0 : z.1 1 0 = kC c) (h1 : z.1 1 1 = kR c) (h3 : z.1 1 3 = kT c) {x y : Nat} (hx : x ≤ kC c) (hy : y ≤ kR c) : zOk (q_Grid_setJoints_12 E L y x z) (fun r => ∃ z', r = .inl (((x + 1 : Nat) : Int), z') ∧ JI c (kArm c x y) ((y * (kC c + 1) + x) * kT c * 6) 6 z z') := by
  have hb1 := hk.1
  have hb2 := hk.2.1
  have hJ := kJ_b hk
  have hP : y * (kC c + 1) + x < (kR c + 1) * (kC c + 1) := gidx (by omega) (by omega)
  have hX : (y * (kC c + 1) + x) * kT c * 6 + kT c * 6 ≤ kJ c := by
    have e1 : kJ c = (kR c + 1) * (kC c + 1) * kT c * 6 := by unfold kJ; rw [Nat.mul_comm (kC c + 1)]
    have e2 : (y * (kC c + 1) + x + 1) * kT c ≤ (kR c + 1) * (kC c + 1) * kT c := Nat.mul_le_mul_right _ hP
    rw [Nat.add_mul] at e2
    omega
  have eX : ((y : Int) * ((kC c : Int) + 1) + (x : Int)) * (kT c : Int) * 6 = (((y * (kC c + 1) + x) * kT c * 6 : Nat) : Int) := by simp only [Int.natCast_mul, Int.natCast_add, Int.cast_ofNat_Int]
  unfold q_Grid_setJoints_12
  rw [h0, h3, eX]
  generalize (y * (kC c + 1) + x) * kT c * 6 = X at *
  rw [if_neg (by omega), if_pos (by omega), s_across hk h0 h1 h3, b1_s, s_across hk h0 h1 h3, b1_s, if_pos (by omega), s_upright hk h0 h1 h3, b1_s, s_upright hk h0 h1 h3, b1_s, if_pos (by omega), let_s]
  have hA := kArm_r hk (x : Int) (y : Int)
  rw [ok_1]
  refine ok_w (JI_step (m := 0) hk hL h3 hX hA (by omega) ⟨off_r, fun k t h => by omega⟩ rfl rfl rfl) fun w1 j1 => ?_
  rw [if_pos (by omega), ok_1]
  refine ok_w (JI_step (m := 1) hk hL h3 hX hA (by omega) j1 rfl rfl rfl) fun w2 j2 => ?_
  rw [if_pos (by omega), ok_1]
  refine ok_w (JI_step (m := 2) hk hL h3 hX hA (by omega) j2 rfl rfl rfl) fun w3 j3 => ?_
  rw [if_pos (by omega), ok_1]
  refine ok_w (JI_step (m := 3) hk hL h3 hX hA (by omega) j3 rfl rfl rfl) fun w4 j4 => ?_
  rw [if_pos (by omega), ok_1]
  refine ok_w (JI_step (m := 4) hk hL h3 hX hA (by omega) j4 rfl rfl rfl) fun w5 j5 => ?_
  rw [if_pos (by omega), ok_1]
  refine ok_w (JI_step (m := 5) hk hL h3 hX hA (by omega) j5 rfl rfl rfl) fun w6 j6 => ?_
  rw [if_pos (by omega), let_s]
  exact ok_inl ⟨w6, by simp, j6⟩
end
-- C6
section
variable {E : gEv} {c : gCf} {L : Nat → Nat}
def jOk (c : gCf) (z : gZ) (j : Nat) : Prop := z.1 5 j = kJa c j ∧ z.1 6 j = kJb c j
def p56 (k _ : Nat) : Prop := k = 5 ∨ k = 6
theorem jOk_of {z w : gZ} {x y : Nat} (hk : kOk c) (hx : x ≤ kC c) (h : JI c (kArm c x y) ((y * (kC c + 1) + x) * kT c * 6) 6 z w) {j : Nat} (h1 : (y * (kC c + 1) + x) * kT c * 6 ≤ j) (h2 : j < (y * (kC c + 1) + x) * kT c * 6 + kT c * 6) : jOk c w j := by
  have ⟨d1, d2⟩ := n_dm (C := kC c + 1) (y := y) (x := x) (by omega)
  have hT := hk.2.2.2
  generalize hP : y * (kC c + 1) + x = P at *
  have e0 : j / 6 = P * kT c + (j - P * kT c * 6) / 6 := by omega
  have ht : (j - P * kT c * 6) / 6 < kT c := by omega
  have ⟨e1, e2⟩ := n_dm (C := kT c) (y := P) ht
  rw [← e0] at e1 e2
  have e3 : P * kT c * 6 + j % 6 + (j / 6 % kT c) * 6 = j := by rw [e2]; omega
  have h3 := h.2 (j % 6) (j / 6 % kT c) (by omega) (by omega)
  rw [e3] at h3
  unfold jOk kJa kJb kQx kQy
  rw [e1, d1, d2]
  exact h3
theorem s_setJoints {z : gZ} (hk : kOk c) (hL : gL c L) (h0 : z.1 1 0 = kC c) (h1 : z.1 1 1 = kR c) (h3 : z.1 1 3 = kT c) : zOk (q_Grid_setJoints E L z) (fun z' => zOff p56 z z' ∧ ∀ j, j < kJ c → jOk c z' j) := by
  have hb1 := hk.1
  have hb2 := hk.2.1
  have off1 : ∀ {t : gZ} (j : Nat), zOff p56 z t → t.1 1 j = z.1 1 j := fun j h => h.2 1 j (by unfold p56; omega)
  have eJ : kJ c = (kR c + 1) * (kC c + 1) * kT c * 6 := by unfold kJ; rw [Nat.mul_comm (kC c + 1)]
  unfold q_Grid_setJoints
  rw [ok_1]
  refine ok_w (P := fun z' => zOff p56 z z' ∧ ∀ j, j < kJ c → jOk c z' j) ?_ (fun e h => (ok_s _ _).2 h)
  refine it_for (fun i t => ((i : Int), t)) (fun y t => zOff p56 z t ∧ ∀ j, j < y * (kC c + 1) * kT c * 6 → jOk c t j) 0 (kR c + 1) (t := z) rfl ⟨off_r, fun j h => by simp at h⟩ (by omega) (by omega) ?_ ?_
  · intro y t _ hy ⟨i1, i2⟩
    show zOk (q_Grid_setJoints_2 E L (y : Int) t) _
    unfold q_Grid_setJoints_2
    rw [(off1 1 i1).trans h1, if_neg (by omega), ok_1]
    refine ok_w (P := fun z' => zOff p56 z z' ∧ ∀ j, j < (y + 1) * (kC c + 1) * kT c * 6 → jOk c z' j) ?_ (fun e h => ?_)
    · refine it_for (fun i t => ((i : Int), t)) (fun x t => zOff p56 z t ∧ ∀ j, j < (y * (kC c + 1) + x) * kT c * 6 → jOk c t j) 0 (kC c + 1) (t := t) rfl ⟨i1, i2⟩ (by omega) (by omega) ?_ ?_
      · intro x t2 _ hx ⟨j1, j2⟩
        refine ok_w (s_point (E := E) (z := t2) hk hL ((off1 0 j1).trans h0) ((off1 1 j1).trans h1) ((off1 3 j1).trans h3) (x := x) (y := y) (by omega) (by omega)) ?_
        rintro r ⟨z', rfl, k1⟩
        refine Or.inl ⟨z', rfl, off_t j1 (off_w k1.1 (fun a b hab => hab.1)), fun j hj => ?_⟩
        by_cases e : j < (y * (kC c + 1) + x) * kT c * 6
        · have := j2 j e
          unfold jOk
          rw [k1.1.2 5 j (by omega), k1.1.2 6 j (by omega)]
          exact this
        · refine jOk_of hk (by omega) k1 (by omega) ?_
          have e2 : (y * (kC c + 1) + (x + 1)) * kT c = (y * (kC c + 1) + x) * kT c + kT c := by rw [← Nat.add_assoc, Nat.add_mul, Nat.one_mul]
          omega
      · intro t2 ⟨j1, j2⟩
        show zOk (q_Grid_setJoints_12 E L (y : Int) ((kC c + 1 : Nat) : Int) t2) _
        unfold q_Grid_setJoints_12
        rw [(off1 0 j1).trans h0, if_pos (by omega)]
        refine ok_inr ⟨t2, rfl, j1, fun j hj => j2 j ?_⟩
        have e2 : (y + 1) * (kC c + 1) = y * (kC c + 1) + (kC c + 1) := by rw [Nat.add_mul, Nat.one_mul]
        rw [e2] at hj; exact hj
    · rw [if_pos (by omega), let_s]
      exact ok_inl (Or.inl ⟨e, by simp, h⟩)
  · intro t ⟨i1, i2⟩
    show zOk (q_Grid_setJoints_2 E L ((kR c + 1 : Nat) : Int) t) _
    unfold q_Grid_setJoints_2
    rw [(off1 1 i1).trans h1, if_pos (by omega)]
    exact ok_inr ⟨t, rfl, i1, fun j hj => i2 j (by rw [eJ] at hj; exact hj)⟩
end
-- C7
section
variable {E : gEv} {c : gCf} {L : Nat → Nat}
/-- joint j has an end at wire w; its other end; how many such below n -/
abbrev jInc (c : gCf) (j w : Nat) : Prop := kJa c j = w ∨ kJb c j = w
def jOth (c : gCf) (j w : Nat) : Int := if kJa c j = w then kJb c j else kJa c j
def dN (c : gCf) : Nat → Nat → Nat
  | 0, _ => 0
  | n + 1, w => dN c n w + if jInc c n w then 1 else 0
/-- where an arm leads: the wire of an arm that is there -/
theorem arm_flat (hk : kOk c) {x y : Int} {t : Nat} (ht : t < kT c) (h : kAc c x y ≠ -1) : ∃ a b w : Nat, x = a ∧ y = b ∧ kAc c x y + t = w ∧ a < kC c ∧ b ≤ kR c ∧ w < kF c ∧ w = (b * kC c + a) * kT c + t ∧ w / kT c = b * kC c + a ∧ w % kT c = t ∧ w / kT c % kC c = a ∧ w / kT c / kC c = b := by
  by_cases e : 0 ≤ x ∧ x < kC c ∧ 0 ≤ y ∧ y ≤ kR c
  · obtain ⟨a, rfl⟩ := i_nat e.1
    obtain ⟨b, rfl⟩ := i_nat e.2.2.1
    have ha : a < kC c := by omega
    have hb : b ≤ kR c := by omega
    have ⟨d1, d2⟩ := n_dm (C := kT c) (y := b * kC c + a) ht
    have ⟨d3, d4⟩ := n_dm (C := kC c) (y := b) ha
    refine ⟨a, b, (b * kC c + a) * kT c + t, rfl, rfl, ?_, ha, hb, kW_H ha (by omega) ht, rfl, d1, d2, ?_, ?_⟩
    · rw [kAc_n ha hb]; omega
    · rw [d1, d4]
    · rw [d1, d3]
  · exact absurd (if_neg e) h
theorem arm_up (hk : kOk c) {x y : Int} {t : Nat} (ht : t < kT c) (h : kUp c x y ≠ -1) : ∃ a b w : Nat, x = a ∧ y = b ∧ kUp c x y + t = w ∧ a ≤ kC c ∧ b < kR c ∧ kF c ≤ w ∧ w < kW c ∧ w = kF c + (b * (kC c + 1) + a) * kT c + t ∧ (w - kF c) / kT c = b * (kC c + 1) + a ∧ (w - kF c) % kT c = t ∧ (w - kF c) / kT c % (kC c + 1) = a ∧ (w - kF c) / kT c / (kC c + 1) = b := by
  by_cases e : 0 ≤ x ∧ x ≤ kC c ∧ 0 ≤ y ∧ y < kR c
  · obtain ⟨a, rfl⟩ := i_nat e.1
    obtain ⟨b, rfl⟩ := i_nat e.2.2.1
    have ha : a ≤ kC c := by omega
    have hb : b < kR c := by omega
    have ⟨d1, d2⟩ := n_dm (C := kT c) (y := b * (kC c + 1) + a) ht
    have ⟨d3, d4⟩ := n_dm (C := kC c + 1) (y := b) (x := a) (by omega)
    have es : kF c + (b * (kC c + 1) + a) * kT c + t - kF c = (b * (kC c + 1) + a) * kT c + t := by omega
    refine ⟨a, b, kF c + (b * (kC c + 1) + a) * kT c + t, rfl, rfl, ?_, ha, hb, by omega, kW_V (by omega) hb ht, rfl, ?_, ?_, ?_, ?_⟩
    · rw [kUp_n ha hb]; omega
    · rw [es, d1]
    · rw [es, d2]
    · rw [es, d1, d4]
    · rw [es, d1, d3]
  · exact absurd (if_neg e) h
theorem kF_m (c : gCf) : kF c % kT c = 0 := by unfold kF; exact Nat.mul_mod_left _ _
/-- the two wires of a joint that is there -/
theorem arm_w (hk : kOk c) (x y : Int) (i : Nat) {t : Nat} (ht : t < kT c) (h : kArm c x y i ≠ -1) : ∃ w : Nat, kArm c x y i + t = w ∧ w < kW c ∧ w % kT c = t := by
  have hF := kFW c
  unfold kArm at h ⊢
  have fl : ∀ {x' y' : Int}, kAc c x' y' ≠ -1 → ∃ w : Nat, kAc c x' y' + t = w ∧ w < kW c ∧ w % kT c = t := fun h => by
    obtain ⟨a, b, w, h1, h2, h3, h4, h5, h6, h7, h8, h9, h10⟩ := arm_flat hk ht h
    exact ⟨w, h3, by omega, h9⟩
  have up : ∀ {x' y' : Int}, kUp c x' y' ≠ -1 → ∃ w : Nat, kUp c x' y' + t = w ∧ w < kW c ∧ w % kT c = t := fun h => by
    obtain ⟨a, b, w, h1, h2, h3, h4, h5, h6, h7, h8, h9, h10, h11⟩ := arm_up hk ht h
    refine ⟨w, h3, h7, ?_⟩
    have : w = kF c + (w - kF c) := by omega
    rw [this, Nat.add_mod, kF_m, Nat.zero_add, Nat.mod_mod, h10]
  split
  · rename_i e; rw [if_pos e] at h; exact fl h
  · rename_i e; rw [if_neg e] at h
    split
    · rename_i e2; rw [if_pos e2] at h; exact fl h
    · rename_i e2; rw [if_neg e2] at h
      split
      · rename_i e3; rw [if_pos e3] at h; exact up h
      · rename_i e3; rw [if_neg e3] at h; exact up h
end
-- C8
section
variable {E : gEv} {c : gCf} {L : Nat → Nat}
def wT (c : gCf) (w : Nat) : Nat := if w < kF c then w % kT c else (w - kF c) % kT c
def wA (c : gCf) (w : Nat) : Nat := if w < kF c then w / kT c / kC c * (kC c + 1) + w / kT c % kC c else (w - kF c) / kT c / (kC c + 1) * (kC c + 1) + (w - kF c) / kT c % (kC c + 1)
def wB (c : gCf) (w : Nat) : Nat := if w < kF c then w / kT c / kC c * (kC c + 1) + (w / kT c % kC c + 1) else ((w - kF c) / kT c / (kC c + 1) + 1) * (kC c + 1) + (w - kF c) / kT c % (kC c + 1)
def kSl (i m : Nat) : Nat := if i = 0 then m else if i = 1 then (if m = 0 then 0 else if m = 1 then 3 else 4) else if i = 2 then (if m = 0 then 1 else if m = 1 then 3 else 5) else if m = 0 then 2 else if m = 1 then 4 else 5
def sx (c : gCf) (w m : Nat) : Nat := if m < 3 then (wA c w * kT c + wT c w) * 6 + kSl (if w < kF c then 1 else 3) m else (wB c w * kT c + wT c w) * 6 + kSl (if w < kF c then 0 else 2) (m - 3)
theorem kSl_of : ∀ k, k < 6 → ∀ i, i < 4 → (kPp k = i ∨ kPq k = i) → kSl i 0 = k ∨ kSl i 1 = k ∨ kSl i 2 = k := by decide
theorem kPp_lt : ∀ k, k < 6 → kPp k < 4 ∧ kPq k < 4 ∧ kPp k < kPq k := by decide
/-- an arm of a point: where its wire's ends are -/
theorem arm_p (hk : kOk c) {x y : Nat} {i t w : Nat} (ht : t < kT c) (hi : i < 4) (hx : x ≤ kC c) (h : kArm c x y i ≠ -1) (hw : kArm c x y i + t = w) : w < kW c ∧ wT c w = t ∧ ((i = 0 ∧ w < kF c ∧ wB c w = y * (kC c + 1) + x) ∨ (i = 1 ∧ w < kF c ∧ wA c w = y * (kC c + 1) + x) ∨ (i = 2 ∧ ¬ w < kF c ∧ wB c w = y * (kC c + 1) + x) ∨ (i = 3 ∧ ¬ w < kF c ∧ wA c w = y * (kC c + 1) + x)) := by
  have hF := kFW c
  have h4 : i = 0 ∨ i = 1 ∨ i = 2 ∨ i = 3 := by omega
  rcases h4 with rfl | rfl | rfl | rfl
  · have h : kAc c ((x : Int) - 1) y ≠ -1 := h
    have hw : kAc c ((x : Int) - 1) y + t = w := hw
    obtain ⟨a, b, w', h1, h2, h3, h4, h5, h6, h7, h8, h9, h10, h11⟩ := arm_flat hk ht h
    have e : w = w' := by omega
    subst e
    refine ⟨by omega, ?_, Or.inl ⟨rfl, h6, ?_⟩⟩
    · unfold wT; rw [if_pos h6, h9]
    · unfold wB; rw [if_pos h6, h10, h11, show b = y by omega, show a + 1 = x by omega]
  · have h : kAc c (x : Int) y ≠ -1 := h
    have hw : kAc c (x : Int) y + t = w := hw
    obtain ⟨a, b, w', h1, h2, h3, h4, h5, h6, h7, h8, h9, h10, h11⟩ := arm_flat hk ht h
    have e : w = w' := by omega
    subst e
    refine ⟨by omega, ?_, Or.inr (Or.inl ⟨rfl, h6, ?_⟩)⟩
    · unfold wT; rw [if_pos h6, h9]
    · unfold wA; rw [if_pos h6, h10, h11, show b = y by omega, show a = x by omega]
  · have h : kUp c (x : Int) ((y : Int) - 1) ≠ -1 := h
    have hw : kUp c (x : Int) ((y : Int) - 1) + t = w := hw
    obtain ⟨a, b, w', h1, h2, h3, h4, h5, h6, h7, h8, h9, h10, h11, h12⟩ := arm_up hk ht h
    have e : w = w' := by omega
    subst e
    refine ⟨by omega, ?_, Or.inr (Or.inr (Or.inl ⟨rfl, by omega, ?_⟩))⟩
    · unfold wT; rw [if_neg (by omega), h10]
    · unfold wB; rw [if_neg (by omega), h11, h12, show b + 1 = y by omega, show a = x by omega]
  · have h : kUp c (x : Int) (y : Int) ≠ -1 := h
    have hw : kUp c (x : Int) (y : Int) + t = w := hw
    obtain ⟨a, b, w', h1, h2, h3, h4, h5, h6, h7, h8, h9, h10, h11, h12⟩ := arm_up hk ht h
    have e : w = w' := by omega
    subst e
    refine ⟨by omega, ?_, Or.inr (Or.inr (Or.inr ⟨rfl, by omega, ?_⟩))⟩
    · unfold wT; rw [if_neg (by omega), h10]
    · unfold wA; rw [if_neg (by omega), h11, h12, show b = y by omega, show a = x by omega]
/-- a joint in its parts -/
theorem j_parts (hk : kOk c) (j : Nat) : j / 6 % kT c < kT c ∧ kQx c (j / 6 / kT c) ≤ kC c ∧ kQy c (j / 6 / kT c) * (kC c + 1) + kQx c (j / 6 / kT c) = j / 6 / kT c ∧ (j / 6 / kT c * kT c + j / 6 % kT c) * 6 + j % 6 = j := by
  have hT := hk.2.2.2.1
  refine ⟨Nat.mod_lt _ (by omega), ?_, ?_, ?_⟩
  · have := Nat.mod_lt (j / 6 / kT c) (show 0 < kC c + 1 by omega)
    unfold kQx; omega
  · unfold kQx kQy; exact Nat.div_add_mod' _ _
  · rw [Nat.div_add_mod']; omega
theorem jInc_s (hk : kOk c) {j w : Nat} (h : jInc c j w) : ∃ m, m < 6 ∧ j = sx c w m := by
  obtain ⟨p1, p2, p3, p4⟩ := j_parts hk j
  have hm6 : j % 6 < 6 := Nat.mod_lt _ (by decide)
  obtain ⟨q1, q2, q3⟩ := kPp_lt (j % 6) hm6
  have key : ∀ i i', (kPp (j % 6) = i ∧ kPq (j % 6) = i') ∨ (kPq (j % 6) = i ∧ kPp (j % 6) = i') → jV (kArm c (kQx c (j / 6 / kT c)) (kQy c (j / 6 / kT c)) i) (kArm c (kQx c (j / 6 / kT c)) (kQy c (j / 6 / kT c)) i') (j / 6 % kT c) = w → ∃ m, m < 6 ∧ j = sx c w m := by
    intro i i' hi hv
    have hi4 : i < 4 := by omega
    unfold jV at hv
    split at hv
    · omega
    · rename_i hn
      obtain ⟨r1, r2, r3⟩ := arm_p hk p1 hi4 p2 (fun e => hn (Or.inl e)) hv
      rw [p3] at r3
      have hs := kSl_of (j % 6) hm6 i hi4 (by omega)
      have fin : ∀ m, m < 3 → kSl i m = j % 6 → ∃ m, m < 6 ∧ j = sx c w m := by
        intro m hm he
        rcases r3 with ⟨e1, e2, e3⟩ | ⟨e1, e2, e3⟩ | ⟨e1, e2, e3⟩ | ⟨e1, e2, e3⟩
        · refine ⟨m + 3, by omega, ?_⟩
          unfold sx; rw [if_neg (by omega), if_pos e2, r2, e3, show m + 3 - 3 = m by omega, ← e1, he]; exact p4.symm
        · refine ⟨m, by omega, ?_⟩
          unfold sx; rw [if_pos hm, if_pos e2, r2, e3, ← e1, he]; exact p4.symm
        · refine ⟨m + 3, by omega, ?_⟩
          unfold sx; rw [if_neg (by omega), if_neg e2, r2, e3, show m + 3 - 3 = m by omega, ← e1, he]; exact p4.symm
        · refine ⟨m, by omega, ?_⟩
          unfold sx; rw [if_pos hm, if_neg e2, r2, e3, ← e1, he]; exact p4.symm
      rcases hs with hs | hs | hs
      · exact fin 0 (by omega) hs
      · exact fin 1 (by omega) hs
      · exact fin 2 (by omega) hs
  rcases h with h | h
  · exact key _ _ (Or.inl ⟨rfl, rfl⟩) h
  · exact key _ _ (Or.inr ⟨rfl, rfl⟩) h
def uu (s n : Nat) : Nat := if s < n then 1 else 0
theorem uu_0 (s : Nat) : uu s 0 = 0 := if_neg (Nat.not_lt_zero s)
theorem uu_1 (s n : Nat) : uu s n ≤ 1 := by unfold uu; split <;> omega
theorem uu_m (s n : Nat) : uu s n ≤ uu s (n + 1) := by unfold uu; split <;> split <;> omega
theorem uu_e {s n : Nat} (h : n = s) : uu s n + 1 ≤ uu s (n + 1) := by unfold uu; rw [if_neg (by omega), if_pos (by omega)]; exact Nat.le_refl _
/-- no wire has more than six -/
theorem dN_6 (hk : kOk c) (w : Nat) : ∀ n, dN c n w ≤ 6 := by
  have key : ∀ n, dN c n w ≤ uu (sx c w 0) n + uu (sx c w 1) n + uu (sx c w 2) n + uu (sx c w 3) n + uu (sx c w 4) n + uu (sx c w 5) n := by
    intro n
    induction n with
    | zero => exact Nat.zero_le _
    | succ n ih =>
      rw [dN]
      have m0 := uu_m (sx c w 0) n
      have m1 := uu_m (sx c w 1) n
      have m2 := uu_m (sx c w 2) n
      have m3 := uu_m (sx c w 3) n
      have m4 := uu_m (sx c w 4) n
      have m5 := uu_m (sx c w 5) n
      by_cases e : jInc c n w
      · rw [if_pos e]
        obtain ⟨m, hm, he⟩ := jInc_s hk e
        have hm' : m = 0 ∨ m = 1 ∨ m = 2 ∨ m = 3 ∨ m = 4 ∨ m = 5 := by omega
        rcases hm' with rfl | rfl | rfl | rfl | rfl | rfl <;> (have := uu_e he; omega)
      · rw [if_neg e]
        omega
  intro n
  have := key n
  have := uu_1 (sx c w 0) n
  have := uu_1 (sx c w 1) n
  have := uu_1 (sx c w 2) n
  have := uu_1 (sx c w 3) n
  have := uu_1 (sx c w 4) n
  have := uu_1 (sx c w 5) n
  omega
end
-- C9
section
variable {E : gEv} {c : gCf} {L : Nat → Nat}
theorem wAB (c : gCf) (w : Nat) : wA c w < wB c w := by
  unfold wA wB
  split
  · omega
  · rw [Nat.add_mul _ 1]; omega
/-- the ends of a joint: none, or two wires of one track -/
theorem j_ends (hk : kOk c) (j : Nat) : (kJa c j = -1 ∧ kJb c j = -1) ∨ ∃ a b : Nat, kJa c j = a ∧ kJb c j = b ∧ a < kW c ∧ b < kW c ∧ a ≠ b ∧ a % kT c = b % kT c := by
  obtain ⟨p1, p2, p3, p4⟩ := j_parts hk j
  obtain ⟨q1, q2, q3⟩ := kPp_lt (j % 6) (Nat.mod_lt _ (by decide))
  unfold kJa kJb
  generalize kPp (j % 6) = i at *
  generalize kPq (j % 6) = i' at *
  generalize kQx c (j / 6 / kT c) = x at *
  generalize kQy c (j / 6 / kT c) = y at *
  generalize j / 6 % kT c = t at *
  by_cases e : kArm c x y i = -1 ∨ kArm c x y i' = -1
  · exact Or.inl ⟨if_pos e, if_pos e.symm⟩
  · have n1 : kArm c x y i ≠ -1 := fun h => e (Or.inl h)
    have n2 : kArm c x y i' ≠ -1 := fun h => e (Or.inr h)
    obtain ⟨a, h1, h2, h3⟩ := arm_w hk x y i p1 n1
    obtain ⟨b, g1, g2, g3⟩ := arm_w hk x y i' p1 n2
    refine Or.inr ⟨a, b, (if_neg e).trans h1, (if_neg fun h => e h.symm).trans g1, h2, g2, ?_, by rw [h3, g3]⟩
    intro hab
    subst hab
    have r := (arm_p hk p1 q1 p2 n1 h1).2.2
    have s := (arm_p hk p1 q2 p2 n2 g1).2.2
    have := wAB c a
    omega
theorem gr4_of (hk : kOk c) {z : gZ} (h : ∀ j, j < kJ c → jOk c z j) : gr4 c z := by
  intro j hj
  obtain ⟨h1, h2⟩ := h j hj
  rcases j_ends hk j with ⟨e1, e2⟩ | ⟨a, b, e1, e2, e3, e4, e5, e6⟩
  · exact Or.inl ⟨h1.trans e1, h2.trans e2⟩
  · exact Or.inr ⟨a, b, e3, e4, e5, h1.trans e1, h2.trans e2, e6⟩
theorem dN_mono {w : Nat} {j n : Nat} (h : j ≤ n) : dN c j w ≤ dN c n w := by
  induction n with
  | zero => have : j = 0 := by omega
            subst this; exact Nat.le_refl _
  | succ n ih =>
    by_cases e : j = n + 1
    · subst e; exact Nat.le_refl _
    · rw [dN]; have := ih (by omega); omega
theorem dN_lt {w : Nat} {j n : Nat} (h : j < n) (hi : jInc c j w) : dN c j w < dN c n w := by
  have : dN c (j + 1) w ≤ dN c n w := dN_mono h
  rw [dN, if_pos hi] at this; omega
/-- the neighbours' tables, the joints below n done -/
def nbI (c : gCf) (cD cV cJ o n : Nat) (z : gZ) : Prop := (∀ w, w < kW c → z.1 cD w = dN c n w) ∧ ∀ j w, j < n → w < kW c → jInc c j w → z.1 cV (w * 6 + dN c j w) = jOth c j w ∧ z.1 cJ (w * 6 + dN c j w) = ((o + j : Nat) : Int)
def adN (cD cV cJ : Nat) (z : gZ) (a d : Nat) (v jj : Int) : gZ := zPut (zPut (zPut z cV (a * 6 + d) v) cJ (a * 6 + d) jj) cD a ((d : Int) + 1)
theorem adN_D {cD cV cJ : Nat} (h1 : cD ≠ cV) (h2 : cD ≠ cJ) (z : gZ) (a d : Nat) (v jj : Int) (w : Nat) : (adN cD cV cJ z a d v jj).1 cD w = if w = a then (d : Int) + 1 else z.1 cD w := by
  unfold adN; rw [zp1, if_pos rfl, zp_ne _ _ _ _ _ h2, zp_ne _ _ _ _ _ h1]
theorem adN_V {cD cV cJ : Nat} (h1 : cD ≠ cV) (h3 : cV ≠ cJ) (z : gZ) (a d : Nat) (v jj : Int) (w : Nat) : (adN cD cV cJ z a d v jj).1 cV w = if w = a * 6 + d then v else z.1 cV w := by
  unfold adN; rw [zp_ne _ _ _ _ _ h1.symm, zp_ne _ _ _ _ _ h3, zp1, if_pos rfl]
theorem adN_J {cD cV cJ : Nat} (h2 : cD ≠ cJ) (h3 : cV ≠ cJ) (z : gZ) (a d : Nat) (v jj : Int) (w : Nat) : (adN cD cV cJ z a d v jj).1 cJ w = if w = a * 6 + d then jj else z.1 cJ w := by
  unfold adN; rw [zp_ne _ _ _ _ _ h2.symm, zp1, if_pos rfl, zp_ne _ _ _ _ _ h3.symm]
theorem nb_none {cD cV cJ o n : Nat} {z : gZ} (h : nbI c cD cV cJ o n z) (e : kJa c n = -1 ∧ kJb c n = -1) : nbI c cD cV cJ o (n + 1) z := by
  have ni : ∀ w : Nat, ¬ jInc c n w := fun w hi => by
    rcases hi with hi | hi <;> omega
  refine ⟨fun w hw => ?_, fun j w hj hw hi => ?_⟩
  · rw [h.1 w hw, dN, if_neg (ni w)]; rfl
  · by_cases e2 : j = n
    · subst e2; exact absurd hi (ni w)
    · exact h.2 j w (by omega) hw hi
theorem nb_step {cD cV cJ o n : Nat} {z : gZ} (hk : kOk c) (h1 : cD ≠ cV) (h2 : cD ≠ cJ) (h3 : cV ≠ cJ) (h : nbI c cD cV cJ o n z) {a b : Nat} (ea : kJa c n = a) (eb : kJb c n = b) (hab : a ≠ b) : nbI c cD cV cJ o (n + 1) (adN cD cV cJ (adN cD cV cJ z a (dN c n a) b ((o + n : Nat) : Int)) b (dN c n b) a ((o + n : Nat) : Int)) := by
  have ia : jInc c n a := Or.inl ea
  have ib : jInc c n b := Or.inr eb
  have iw : ∀ w : Nat, jInc c n w → w = a ∨ w = b := fun w hi => by
    rcases hi with hi | hi <;> omega
  have da : dN c n a < 6 := by have := dN_6 hk a (n + 1); rw [dN, if_pos ia] at this; omega
  have db : dN c n b < 6 := by have := dN_6 hk b (n + 1); rw [dN, if_pos ib] at this; omega
  refine ⟨fun w hw => ?_, fun j w hj hw hi => ?_⟩
  · rw [adN_D h1 h2, adN_D h1 h2, dN]
    by_cases e1 : w = b
    · subst e1; rw [if_pos rfl, if_pos ib]; omega
    · rw [if_neg e1]
      by_cases e2 : w = a
      · subst e2; rw [if_pos rfl, if_pos ia]; omega
      · rw [if_neg e2, if_neg (fun x => (iw w x).elim e2 e1), h.1 w hw]; omega
  · rw [adN_V h1 h3, adN_V h1 h3, adN_J h2 h3, adN_J h2 h3]
    by_cases e : j = n
    · subst e
      rcases iw w hi with rfl | rfl
      · rw [if_neg (by omega), if_pos rfl, if_neg (by omega), if_pos rfl]
        unfold jOth; rw [if_pos ea, eb]; exact ⟨rfl, rfl⟩
      · rw [if_pos rfl, if_pos rfl]
        unfold jOth; rw [if_neg (by omega), ea]; exact ⟨rfl, rfl⟩
    · have hl := dN_lt (c := c) (w := w) (j := j) (n := n) (by omega) hi
      have h6 := dN_6 hk w n
      have ne1 : w * 6 + dN c j w ≠ a * 6 + dN c n a := fun x => by
        have : w = a := by omega
        subst this; omega
      have ne2 : w * 6 + dN c j w ≠ b * 6 + dN c n b := fun x => by
        have : w = b := by omega
        subst this; omega
      rw [if_neg ne2, if_neg ne1, if_neg ne2, if_neg ne1]
      exact h.2 j w (by omega) hw hi
/-- what the tables say, all joints done -/
theorem nb_at {w : Nat} : ∀ n k, k < dN c n w → ∃ j, j < n ∧ jInc c j w ∧ dN c j w = k := by
  intro n
  induction n with
  | zero => intro k h; simp [dN] at h
  | succ n ih =>
    intro k h
    rw [dN] at h
    by_cases e : k < dN c n w
    · obtain ⟨j, h1, h2, h3⟩ := ih k e
      exact ⟨j, by omega, h2, h3⟩
    · by_cases e2 : jInc c n w
      · rw [if_pos e2] at h
        exact ⟨n, by omega, e2, by omega⟩
      · rw [if_neg e2] at h; omega
end
-- C10
section
variable {E : gEv} {c : gCf} {L : Nat → Nat}
theorem s_addN {z : gZ} (hk : kOk c) (hL : gL c L) {a d : Nat} (ha : a < kW c) (hd : z.1 7 a = d) (h6 : d < 6) (v jj : Int) : q_Grid_addNeighbour E L a v jj z = some (adN 7 8 9 z a d v jj) := by
  obtain ⟨-, -, -, -, -, l7, l8, l9⟩ := hL
  have hW := kW_b hk
  unfold q_Grid_addNeighbour
  have e1 : ((a : Int) * 6 + (d : Int)).toNat = a * 6 + d := by omega
  have e2 : (zPut (zPut z 8 (a * 6 + d) v) 9 (a * 6 + d) jj).1 7 a = d := by rw [zp_ne _ _ _ _ _ (by omega), zp_ne _ _ _ _ _ (by omega)]; exact hd
  rw [l7, l8, l9, if_pos (by omega), gtN, hd, if_pos (by omega), let_s, if_pos (by omega), e1, let_s, if_pos (by omega), let_s, e2, if_pos (by omega), let_s]
  rfl
theorem s_setN {z : gZ} (hk : kOk c) (hL : gL c L) (h0 : ∀ j, j < kJ c → jOk c z j) (h7 : ∀ w, z.1 7 w = 0) : zOk (q_Grid_setNeighbours E L z) (fun z' => zOff (fun k _ => 7 ≤ k ∧ k ≤ 9) z z' ∧ nbI c 7 8 9 0 (kJ c) z') := by
  have hJ := kJ_b hk
  have hL' := hL
  obtain ⟨-, -, -, l5, l6, -⟩ := hL'
  unfold q_Grid_setNeighbours
  rw [ok_1]
  refine ok_w (P := fun z' => zOff (fun k _ => 7 ≤ k ∧ k ≤ 9) z z' ∧ nbI c 7 8 9 0 (kJ c) z') ?_ (fun e h => (ok_s _ _).2 h)
  refine it_for (fun i t => ((i : Int), t)) (fun n t => zOff (fun k _ => 7 ≤ k ∧ k ≤ 9) z t ∧ nbI c 7 8 9 0 n t) 0 (kJ c) (t := z) rfl ⟨off_r, fun w hw => h7 w, fun j w hj => by omega⟩ (by omega) (by omega) ?_ ?_
  · intro n t _ hn ⟨i1, i2⟩
    show zOk (q_Grid_setNeighbours_2 E L (n : Int) t) _
    unfold q_Grid_setNeighbours_2
    obtain ⟨j1, j2⟩ := h0 n hn
    have t5 : t.1 5 n = kJa c n := (i1.2 5 n (by omega)).trans j1
    have t6 : t.1 6 n = kJb c n := (i1.2 6 n (by omega)).trans j2
    rw [l5, l6, if_neg (by omega), if_pos (by omega), gtN, t5, t6]
    rcases j_ends hk n with ⟨e1, e2⟩ | ⟨a, b, e1, e2, e3, e4, e5, e6⟩
    · rw [if_pos e1, let_s]
      exact ok_inl (Or.inl ⟨t, by simp, i1, nb_none i2 ⟨e1, e2⟩⟩)
    · have da : dN c n a < 6 := by have := dN_6 hk a (n + 1); rw [dN, if_pos (show jInc c n a from Or.inl e1)] at this; omega
      have db : dN c n b < 6 := by have := dN_6 hk b (n + 1); rw [dN, if_pos (show jInc c n b from Or.inr e2)] at this; omega
      have hs := nb_step hk (by decide) (by decide) (by decide) i2 e1 e2 e5
      rw [Nat.zero_add] at hs
      have tb : (adN 7 8 9 t a (dN c n a) b (n : Int)).1 7 b = dN c n b := by
        rw [adN_D (by decide) (by decide), if_neg (fun h => e5 h.symm)]; exact i2.1 b e4
      have t5' : (adN 7 8 9 t a (dN c n a) b (n : Int)).1 5 n = kJa c n := by unfold adN; rw [zp_ne _ _ _ _ _ (by omega), zp_ne _ _ _ _ _ (by omega), zp_ne _ _ _ _ _ (by omega)]; exact t5
      have t6' : (adN 7 8 9 t a (dN c n a) b (n : Int)).1 6 n = kJb c n := by unfold adN; rw [zp_ne _ _ _ _ _ (by omega), zp_ne _ _ _ _ _ (by omega), zp_ne _ _ _ _ _ (by omega)]; exact t6
      rw [if_neg (by omega), if_pos (by omega), e1, e2, s_addN hk hL e3 (i2.1 a e3) da, b1_s, t5', t6', e1, e2, s_addN hk hL e4 tb db, b1_s, let_s]
      refine ok_inl (Or.inl ⟨_, by simp, off_t i1 ?_, hs⟩)
      unfold adN
      refine off_t (off_t (off_t (off_t (off_t (off_put ?_) (off_put ?_)) (off_put ?_)) (off_put ?_)) (off_put ?_)) (off_put ?_) <;> omega
  · intro t ⟨i1, i2⟩
    show zOk (q_Grid_setNeighbours_2 E L (kJ c : Int) t) _
    unfold q_Grid_setNeighbours_2
    rw [l5, if_pos (by omega)]
    exact ok_inr ⟨t, rfl, i1, i2⟩
/-- the tables of both sides -/
theorem gr5_of {z : gZ} (hk : kOk c) (h0 : ∀ j, j < kJ c → jOk c z j) (h1 : nbI c 7 8 9 0 (kJ c) z) (h2 : nbI c 140 138 139 (kZ c) (kJ c) z) : gr5 c z := by
  intro w hw
  have oth : ∀ j, j < kJ c → jInc c j w → ∃ v : Nat, v < kW c ∧ jOth c j w = v ∧ ((z.1 5 j = w ∧ z.1 6 j = v) ∨ (z.1 5 j = v ∧ z.1 6 j = w)) := by
    intro j hj hi
    obtain ⟨g1, g2⟩ := h0 j hj
    rcases j_ends hk j with ⟨e1, e2⟩ | ⟨a, b, e1, e2, e3, e4, e5, e6⟩
    · rcases hi with hi | hi <;> omega
    · unfold jOth
      by_cases ha : kJa c j = w
      · rw [if_pos ha]
        exact ⟨b, e4, e2, Or.inl ⟨g1.trans ha, g2.trans e2⟩⟩
      · rw [if_neg ha]
        rcases hi with hi | hi
        · exact absurd hi ha
        · exact ⟨a, e3, e1, Or.inr ⟨g1.trans e1, g2.trans hi⟩⟩
  refine ⟨dN c (kJ c) w, dN_6 hk w _, h1.1 w hw, h2.1 w hw, fun k hkd => ?_, fun j v hj hv => ?_⟩
  · obtain ⟨j, hj, hi, rfl⟩ := nb_at _ k hkd
    obtain ⟨v, hv, e1, e2⟩ := oth j hj hi
    obtain ⟨a1, a2⟩ := h1.2 j w hj hw hi
    obtain ⟨b1, b2⟩ := h2.2 j w hj hw hi
    exact ⟨v, j, hv, hj, a1.trans e1, b1.trans e1, by rw [a2, Nat.zero_add], b2, e2⟩
  · obtain ⟨g1, g2⟩ := h0 j hj
    have hi : jInc c j w := by
      rcases hv with ⟨x1, x2⟩ | ⟨x1, x2⟩
      · exact Or.inl (g1.symm.trans x1)
      · exact Or.inr (g2.symm.trans x2)
    obtain ⟨v', hv', e1, e2⟩ := oth j hj hi
    obtain ⟨a1, a2⟩ := h1.2 j w hj hw hi
    refine ⟨dN c j w, dN_lt hj hi, ?_, by rw [a2, Nat.zero_add]⟩
    rw [a1, e1]
    rcases j_ends hk j with ⟨y1, y2⟩ | ⟨a, b, y1, y2, y3, y4, y5, y6⟩ <;> omega
end
-- C11
section
variable {E : gEv} {c : gCf} {L : Nat → Nat}
/-- lengths and fields that the reference's neighbours need -/
def mL (L : Nat → Nat) : Prop := L 138 = 5040 ∧ L 139 = 5040 ∧ L 140 = 840
def mF (c : gCf) (z : gZ) : Prop := z.1 94 0 = kC c ∧ z.1 94 1 = kR c ∧ z.1 94 3 = kT c ∧ z.1 94 7 = kF c ∧ z.1 94 12 = kZ c
def p3 (k _ : Nat) : Prop := 138 ≤ k ∧ k ≤ 140
theorem mF_o {z z' : gZ} (h : zOff p3 z z') (g : mF c z) : mF c z' := by
  have e : ∀ j, z'.1 94 j = z.1 94 j := fun j => h.2 94 j (by unfold p3; omega)
  unfold mF; rw [e, e, e, e, e]; exact g
theorem s_meet {z : gZ} (hk : kOk c) (hL : mL L) {a d : Nat} (ha : a < kW c) (hd : z.1 140 a = d) (h6 : d < 6) (v jj : Int) : q_Model_meet E L a v jj z = some (adN 140 138 139 z a d v jj) := by
  obtain ⟨l8, l9, l0⟩ := hL
  have hW := kW_b hk
  unfold q_Model_meet
  have e1 : (6 * (a : Int) + (d : Int)).toNat = a * 6 + d := by omega
  have e0 : (zPut z 138 (a * 6 + d) v).1 140 a = d := by rw [zp_ne _ _ _ _ _ (by omega)]; exact hd
  have e2 : (zPut (zPut z 138 (a * 6 + d) v) 139 (a * 6 + d) jj).1 140 a = d := by rw [zp_ne _ _ _ _ _ (by omega)]; exact e0
  rw [l0, l8, l9, if_pos (by omega), gtN, hd, if_pos (by omega), e1, let_s, e0, if_pos (by omega), e1, let_s, e2, if_pos (by omega), let_s]
  rfl
def cW (c : gCf) (x y i t : Nat) : Int := if kArm c x y i = -1 then -1 else kArm c x y i + t
theorem s_flat {z : gZ} (hk : kOk c) (g : mF c z) {x y t : Nat} (hx : x < kC c) (hy : y ≤ kR c) (ht : t < kT c) : q_Model_flatWire E L x y t z = some (kAc c x y + t) := by
  obtain ⟨g0, g1, g3, g7, -⟩ := g
  have h := kW_H (c := c) (x := x) (y := y) (t := t) hx (by omega) ht
  have hF := kF_b hk
  have e : (((y : Int) * (kC c : Int) + (x : Int)) * (kT c : Int)) = (((y * kC c + x) * kT c : Nat) : Int) := by simp only [Int.natCast_mul, Int.natCast_add]
  unfold q_Model_flatWire
  rw [g0, g3, e, if_pos (by omega), kAc_n hx hy]
theorem s_uprW {z : gZ} (hk : kOk c) (g : mF c z) {x y t : Nat} (hx : x ≤ kC c) (hy : y < kR c) (ht : t < kT c) : q_Model_uprightWire E L x y t z = some (kUp c x y + t) := by
  obtain ⟨g0, g1, g3, g7, -⟩ := g
  have h := kW_V (c := c) (x := x) (y := y) (t := t) (by omega) hy ht
  have hW := kW_b hk
  have e : (kF c : Int) + (((y : Int) * ((kC c : Int) + 1) + (x : Int)) * (kT c : Int)) = ((kF c + (y * (kC c + 1) + x) * kT c : Nat) : Int) := by simp only [Int.natCast_mul, Int.natCast_add, Int.cast_ofNat_Int]
  unfold q_Model_uprightWire
  rw [g0, g3, g7, e, if_pos (by omega), kUp_n hx hy]
theorem s_corner {z : gZ} (hk : kOk c) (g : mF c z) {x y i t : Nat} (hx : x ≤ kC c) (hy : y ≤ kR c) (hi : i < 4) (ht : t < kT c) : q_Model_cornerWire E L x y i t z = some (cW c x y i t) := by
  have hb1 := hk.1
  have hb2 := hk.2.1
  have h4 : i = 0 ∨ i = 1 ∨ i = 2 ∨ i = 3 := by omega
  unfold q_Model_cornerWire cW
  rw [g.1, g.2.1]
  rcases h4 with rfl | rfl | rfl | rfl
  · have eA : kArm c x y 0 = kAc c ((x : Int) - 1) y := rfl
    rw [if_pos (by omega), eA]
    by_cases e : x = 0
    · subst e
      have : kAc c (((0 : Nat) : Int) - 1) y = -1 := if_neg (by omega)
      rw [if_pos (by omega), this, if_pos rfl]
    · have e1 : (x : Int) - 1 = ((x - 1 : Nat) : Int) := by omega
      have := kAc_n (c := c) (x := x - 1) (y := y) (by omega) hy
      rw [if_neg (by omega), if_pos (by omega), e1, s_flat hk g (by omega) hy ht, b1_s, if_neg (by omega)]
  · have eA : kArm c x y 1 = kAc c (x : Int) y := rfl
    rw [if_neg (by omega), if_pos (by omega), eA]
    by_cases e : x = kC c
    · have : kAc c (x : Int) y = -1 := if_neg (by omega)
      rw [if_pos (by omega), this, if_pos rfl]
    · have := kAc_n (c := c) (x := x) (y := y) (by omega) hy
      rw [if_neg (by omega), s_flat hk g (by omega) hy ht, b1_s, if_neg (by omega)]
  · have eA : kArm c x y 2 = kUp c (x : Int) ((y : Int) - 1) := rfl
    rw [if_neg (by omega), if_neg (by omega), if_pos (by omega), eA]
    by_cases e : y = 0
    · subst e
      have : kUp c x (((0 : Nat) : Int) - 1) = -1 := if_neg (by omega)
      rw [if_pos (by omega), this, if_pos rfl]
    · have e1 : (y : Int) - 1 = ((y - 1 : Nat) : Int) := by omega
      have := kUp_n (c := c) (x := x) (y := y - 1) hx (by omega)
      rw [if_neg (by omega), if_pos (by omega), e1, s_uprW hk g hx (by omega) ht, b1_s, if_neg (by omega)]
  · have eA : kArm c x y 3 = kUp c (x : Int) y := rfl
    rw [if_neg (by omega), if_neg (by omega), if_neg (by omega), eA]
    by_cases e : y = kR c
    · have : kUp c (x : Int) y = -1 := if_neg (by omega)
      rw [if_pos (by omega), this, if_pos rfl]
    · have := kUp_n (c := c) (x := x) (y := y) hx (by omega)
      rw [if_neg (by omega), s_uprW hk g hx (by omega) ht, b1_s, if_neg (by omega)]
end
-- C12
section
variable {E : gEv} {c : gCf} {L : Nat → Nat}
def kb (p : Nat) : Nat := if p = 0 then 0 else if p = 1 then 3 else if p = 2 then 5 else 6
theorem kb_q : ∀ p, p < 3 → ∀ q, q < 4 → p < q → kPp (kb p + (q - (p + 1))) = p ∧ kPq (kb p + (q - (p + 1))) = q ∧ kb p + (q - (p + 1)) < 6 := by decide
theorem kb_s : ∀ p, p < 3 → kb p + (4 - (p + 1)) = kb (p + 1) := by decide
theorem j_of (hk : kOk c) {x y t k : Nat} (hx : x ≤ kC c) (ht : t < kT c) (hk6 : k < 6) : kJa c (((y * (kC c + 1) + x) * kT c + t) * 6 + k) = jV (kArm c x y (kPp k)) (kArm c x y (kPq k)) t ∧ kJb c (((y * (kC c + 1) + x) * kT c + t) * 6 + k) = jV (kArm c x y (kPq k)) (kArm c x y (kPp k)) t := by
  have ⟨d1, d2⟩ := n_dm (C := kC c + 1) (y := y) (x := x) (by omega)
  generalize y * (kC c + 1) + x = P at *
  have ⟨e1, e2⟩ := n_dm (C := kT c) (y := P) ht
  have f1 : ((P * kT c + t) * 6 + k) / 6 = P * kT c + t := by omega
  have f2 : ((P * kT c + t) * 6 + k) % 6 = k := by omega
  unfold kJa kJb kQx kQy
  rw [f1, f2, e1, e2, d1, d2]
  exact ⟨rfl, rfl⟩
/-- one pair of arms -/
theorem s_nb72 {z : gZ} (hk : kOk c) (hL : mL L) (g : mF c z) {x y t p q : Nat} (hx : x ≤ kC c) (hy : y ≤ kR c) (ht : t < kT c) (hp : p < 3) (hq : q < 4) (hpq : p < q) {n : Nat} (hn : n = ((y * (kC c + 1) + x) * kT c + t) * 6 + (kb p + (q - (p + 1)))) (hnJ : n < kJ c) (h : nbI c 140 138 139 (kZ c) n z) : zOk (q_Model_neighbours_72 E L y x t p ((kZ c + n : Nat) : Int) q z) (fun r => ∃ z', r = .inl (((kZ c + (n + 1) : Nat) : Int), ((q + 1 : Nat) : Int), z') ∧ zOff p3 z z' ∧ nbI c 140 138 139 (kZ c) (n + 1) z') := by
  obtain ⟨q1, q2, q3⟩ := kb_q p hp q hq hpq
  have hj := j_of (y := y) hk hx ht q3
  rw [← hn, q1, q2] at hj
  have hZ := kZ_b hk
  have hJ := kJ_b hk
  unfold q_Model_neighbours_72
  rw [if_neg (by omega), s_corner hk g hx hy (by omega) ht, b1_s, s_corner hk g hx hy (by omega) ht, b1_s]
  have r1 := kArm_r hk x y p
  have r2 := kArm_r hk x y q
  unfold cW
  by_cases e1 : kArm c x y p = -1
  · have hn1 : kJa c n = -1 ∧ kJb c n = -1 := ⟨hj.1.trans (if_pos (Or.inl e1)), hj.2.trans (if_pos (Or.inr e1))⟩
    rw [if_pos e1, if_pos rfl, if_pos (by omega), let_s, let_s]
    exact ok_inl ⟨z, by simp; omega, off_r, nb_none h hn1⟩
  · rw [if_neg e1, if_neg (by omega)]
    by_cases e2 : kArm c x y q = -1
    · have hn1 : kJa c n = -1 ∧ kJb c n = -1 := ⟨hj.1.trans (if_pos (Or.inr e2)), hj.2.trans (if_pos (Or.inl e2))⟩
      rw [if_pos e2, if_pos rfl, if_pos (by omega), let_s, let_s]
      exact ok_inl ⟨z, by simp; omega, off_r, nb_none h hn1⟩
    · have hj1 : kJa c n = kArm c x y p + t := hj.1.trans (if_neg (by omega))
      have hj2 : kJb c n = kArm c x y q + t := hj.2.trans (if_neg (by omega))
      rw [if_neg e2, if_neg (by omega), ← hj1, ← hj2]
      rcases j_ends hk n with ⟨y1, y2⟩ | ⟨a, b, y1, y2, y3, y4, y5, y6⟩
      · omega
      · have da : dN c n a < 6 := by have := dN_6 hk a (n + 1); rw [dN, if_pos (show jInc c n a from Or.inl y1)] at this; omega
        have db : dN c n b < 6 := by have := dN_6 hk b (n + 1); rw [dN, if_pos (show jInc c n b from Or.inr y2)] at this; omega
        have hs := nb_step hk (by decide) (by decide) (by decide) h y1 y2 y5
        have tb : (adN 140 138 139 z a (dN c n a) b ((kZ c + n : Nat) : Int)).1 140 b = dN c n b := by
          rw [adN_D (by decide) (by decide), if_neg (fun h => y5 h.symm)]; exact h.1 b y4
        rw [y1, y2, s_meet hk hL y3 (h.1 a y3) da, b1_s, s_meet hk hL y4 tb db, b1_s, if_pos (by omega), let_s, let_s]
        refine ok_inl ⟨_, by simp; omega, ?_, hs⟩
        unfold adN
        refine off_t (off_t (off_t (off_t (off_t (off_put ?_) (off_put ?_)) (off_put ?_)) (off_put ?_)) (off_put ?_)) (off_put ?_) <;> (unfold p3; omega)
end
-- C13
section
variable {E : gEv} {c : gCf} {L : Nat → Nat}
def nbZ (c : gCf) (n : Nat) (z0 z : gZ) : Prop := zOff p3 z0 z ∧ nbI c 140 138 139 (kZ c) n z
theorem kJ_le (c : gCf) {x y t : Nat} (hx : x ≤ kC c) (hy : y ≤ kR c) (ht : t < kT c) : ((y * (kC c + 1) + x) * kT c + t) * 6 + 6 ≤ kJ c := by
  have e1 : kJ c = (kR c + 1) * (kC c + 1) * kT c * 6 := by unfold kJ; rw [Nat.mul_comm (kC c + 1)]
  have hP : y * (kC c + 1) + x < (kR c + 1) * (kC c + 1) := gidx (by omega) (by omega)
  have := gidx hP ht
  omega
theorem s_nb60 {z0 z : gZ} (hk : kOk c) (hL : mL L) (g : mF c z0) {x y t p : Nat} (hx : x ≤ kC c) (hy : y ≤ kR c) (ht : t < kT c) (hp : p < 3) (h : nbZ c (((y * (kC c + 1) + x) * kT c + t) * 6 + kb p) z0 z) : zOk (q_Model_neighbours_60 E L y x t ((kZ c + (((y * (kC c + 1) + x) * kT c + t) * 6 + kb p) : Nat) : Int) p z) (fun r => ∃ z', r = .inl (((kZ c + (((y * (kC c + 1) + x) * kT c + t) * 6 + kb (p + 1)) : Nat) : Int), ((p + 1 : Nat) : Int), z') ∧ nbZ c (((y * (kC c + 1) + x) * kT c + t) * 6 + kb (p + 1)) z0 z') := by
  have hle := kJ_le c hx hy ht
  have hks := kb_s p hp
  unfold q_Model_neighbours_60
  rw [if_neg (by omega), let_s, ok_1]
  refine ok_w (P := fun r => r.1 = ((kZ c + (((y * (kC c + 1) + x) * kT c + t) * 6 + kb (p + 1)) : Nat) : Int) ∧ nbZ c (((y * (kC c + 1) + x) * kT c + t) * 6 + kb (p + 1)) z0 r.2) ?_ ?_
  · refine it_for (fun q w => (((kZ c + (((y * (kC c + 1) + x) * kT c + t) * 6 + (kb p + (q - (p + 1)))) : Nat) : Int), (q : Int), w)) (fun q w => nbZ c (((y * (kC c + 1) + x) * kT c + t) * 6 + (kb p + (q - (p + 1)))) z0 w) (p + 1) 4 (t := z) (by simp) (by rw [Nat.sub_self]; exact h) (by omega) (by omega) ?_ ?_
    · intro q w h1 h2 ⟨i1, i2⟩
      have hb := (kb_q p hp q h2 (by omega)).2.2
      refine ok_w (s_nb72 (E := E) hk hL (mF_o i1 g) hx hy ht hp h2 (by omega) rfl (by omega) i2) ?_
      rintro r ⟨z', rfl, k1, k2⟩
      have en : ((y * (kC c + 1) + x) * kT c + t) * 6 + (kb p + (q - (p + 1))) + 1 = ((y * (kC c + 1) + x) * kT c + t) * 6 + (kb p + (q + 1 - (p + 1))) := by omega
      rw [en] at k2 ⊢
      exact Or.inl ⟨z', rfl, off_t i1 k1, k2⟩
    · intro w ⟨i1, i2⟩
      show zOk (q_Model_neighbours_72 E L y x t p _ ((4 : Nat) : Int) w) _
      unfold q_Model_neighbours_72
      rw [if_pos (by omega)]
      rw [hks] at i2 ⊢
      exact ok_inr ⟨_, rfl, rfl, i1, i2⟩
  · rintro ⟨v, w⟩ ⟨h1, h2⟩
    rw [let_s]
    refine ok_inl ⟨w, ?_, h2⟩
    have h1 : v = ((kZ c + (((y * (kC c + 1) + x) * kT c + t) * 6 + kb (p + 1)) : Nat) : Int) := h1
    rw [h1]; rfl
theorem s_nb22 {z0 z : gZ} (hk : kOk c) (hL : mL L) (g : mF c z0) {x y t : Nat} (hx : x ≤ kC c) (hy : y ≤ kR c) (ht : t < kT c) (h : nbZ c (((y * (kC c + 1) + x) * kT c + t) * 6) z0 z) : zOk (q_Model_neighbours_22 E L y x t z) (fun r => ∃ z', r = .inl (((t + 1 : Nat) : Int), z') ∧ nbZ c (((y * (kC c + 1) + x) * kT c + (t + 1)) * 6) z0 z') := by
  have hle := kJ_le c hx hy ht
  have hJ := kJ_b hk
  have hZ := kZ_b hk
  have g' := mF_o h.1 g
  obtain ⟨g0, g1, g3, g7, g12⟩ := g'
  have eX : (kZ c : Int) + (((((y : Int) * ((kC c : Int) + 1)) + (x : Int)) * (kT c : Int) + (t : Int)) * 6) = ((kZ c + (((y * (kC c + 1) + x) * kT c + t) * 6) : Nat) : Int) := by simp only [Int.natCast_mul, Int.natCast_add, Int.cast_ofNat_Int]
  unfold q_Model_neighbours_22
  rw [g0, g3, g12, eX, if_neg (by omega), if_pos (by omega), let_s, ok_1]
  refine ok_w (P := fun r => nbZ c (((y * (kC c + 1) + x) * kT c + (t + 1)) * 6) z0 r) ?_ (fun e he => ?_)
  · refine it_for (fun p w => (((kZ c + (((y * (kC c + 1) + x) * kT c + t) * 6 + kb p) : Nat) : Int), (p : Int), w)) (fun p w => nbZ c (((y * (kC c + 1) + x) * kT c + t) * 6 + kb p) z0 w) 0 3 (t := z) rfl h (by omega) (by omega) ?_ ?_
    · intro p w h1 h2 i
      refine ok_w (s_nb60 (E := E) hk hL g hx hy ht h2 i) ?_
      rintro r ⟨z', rfl, k⟩
      exact Or.inl ⟨z', rfl, k⟩
    · intro w i
      show zOk (q_Model_neighbours_60 E L y x t _ ((3 : Nat) : Int) w) _
      unfold q_Model_neighbours_60
      rw [if_pos (by omega)]
      have e6 : ((y * (kC c + 1) + x) * kT c + t) * 6 + kb 3 = ((y * (kC c + 1) + x) * kT c + (t + 1)) * 6 := by rw [show kb 3 = 6 from rfl]; omega
      rw [e6] at i
      exact ok_inr ⟨w, rfl, i⟩
  · rw [let_s]
    exact ok_inl ⟨e, by simp, he⟩
theorem s_neighbours {z : gZ} (hk : kOk c) (hL : mL L) (g : mF c z) (h0 : ∀ w, z.1 140 w = 0) : zOk (q_Model_neighbours E L z) (fun z' => nbZ c (kJ c) z z') := by
  have hb1 := hk.1
  have hb2 := hk.2.1
  have hb4 := hk.2.2.2
  have eJ : kJ c = (kR c + 1) * (kC c + 1) * kT c * 6 := by unfold kJ; rw [Nat.mul_comm (kC c + 1)]
  unfold q_Model_neighbours
  rw [ok_1]
  refine ok_w (P := fun z' => nbZ c (kJ c) z z') ?_ (fun e h => (ok_s _ _).2 h)
  refine it_for (fun i t => ((i : Int), t)) (fun y t => nbZ c (y * (kC c + 1) * kT c * 6) z t) 0 (kR c + 1) (t := z) rfl ⟨off_r, fun w hw => by simp only [Nat.zero_mul]; exact h0 w, fun j w hj => by simp at hj⟩ (by omega) (by omega) ?_ ?_
  · intro y t _ hy i
    show zOk (q_Model_neighbours_2 E L (y : Int) t) _
    unfold q_Model_neighbours_2
    rw [(mF_o i.1 g).2.1, if_neg (by omega), ok_1]
    refine ok_w (P := fun z' => nbZ c ((y + 1) * (kC c + 1) * kT c * 6) z z') ?_ (fun e h => ?_)
    · refine it_for (fun i t => ((i : Int), t)) (fun x t => nbZ c ((y * (kC c + 1) + x) * kT c * 6) z t) 0 (kC c + 1) (t := t) rfl i (by omega) (by omega) ?_ ?_
      · intro x t2 _ hx i2
        show zOk (q_Model_neighbours_12 E L (y : Int) (x : Int) t2) _
        unfold q_Model_neighbours_12
        rw [(mF_o i2.1 g).1, if_neg (by omega), ok_1]
        refine ok_w (P := fun z' => nbZ c ((y * (kC c + 1) + (x + 1)) * kT c * 6) z z') ?_ (fun e h => ?_)
        · refine it_for (fun i t => ((i : Int), t)) (fun u t => nbZ c (((y * (kC c + 1) + x) * kT c + u) * 6) z t) 0 (kT c) (t := t2) rfl i2 (by omega) (by omega) ?_ ?_
          · intro u t3 _ hu i3
            refine ok_w (s_nb22 (E := E) hk hL g (x := x) (y := y) (by omega) (by omega) hu i3) ?_
            rintro r ⟨z', rfl, k⟩
            exact Or.inl ⟨z', rfl, k⟩
          · intro t3 i3
            show zOk (q_Model_neighbours_22 E L (y : Int) (x : Int) (kT c : Int) t3) _
            unfold q_Model_neighbours_22
            rw [(mF_o i3.1 g).2.2.1, if_pos (by omega)]
            have e2 : (y * (kC c + 1) + (x + 1)) * kT c = (y * (kC c + 1) + x) * kT c + kT c := by rw [← Nat.add_assoc, Nat.add_mul, Nat.one_mul]
            rw [← e2] at i3
            exact ok_inr ⟨t3, rfl, i3⟩
        · rw [if_pos (by omega), let_s]
          exact ok_inl (Or.inl ⟨e, by simp, h⟩)
      · intro t2 i2
        show zOk (q_Model_neighbours_12 E L (y : Int) ((kC c + 1 : Nat) : Int) t2) _
        unfold q_Model_neighbours_12
        rw [(mF_o i2.1 g).1, if_pos (by omega)]
        have e2 : y * (kC c + 1) + (kC c + 1) = (y + 1) * (kC c + 1) := by rw [Nat.add_mul, Nat.one_mul]
        rw [e2] at i2
        exact ok_inr ⟨t2, rfl, i2⟩
    · rw [if_pos (by omega), let_s]
      exact ok_inl (Or.inl ⟨e, by simp, h⟩)
  · intro t i
    show zOk (q_Model_neighbours_2 E L ((kR c + 1 : Nat) : Int) t) _
    unfold q_Model_neighbours_2
    rw [(mF_o i.1 g).2.1, if_pos (by omega)]
    rw [← eJ] at i
    exact ok_inr ⟨t, rfl, i⟩
end
-- C14
section
variable {E : gEv} {c : gCf} {L : Nat → Nat}
theorem zr_put (z : gZ) (f : Nat → Int) (J : Nat) (v : Int) : zPut (zRow z 1 f) 1 J v = zRow z 1 (fun i => if i = J then v else f i) := by
  rw [zp_row, zr_eq, zr_row]
theorem ok_let {α β : Type} {x : α} {f : α → Option β} {Q : β → Prop} (y : α) (h : x = y) (k : zOk (f y) Q) : zOk (gLet x f) Q := by subst h; exact k
/-- the grid's fields, as its constructor writes them -/
def gF (c : gCf) (f : Nat → Int) : Nat → Int := fun i => if i = 8 then kB c else if i = 11 then kZ c else if i = 10 then kY c else if i = 9 then kX c else if i = 7 then kW c else if i = 6 then kP c else if i = 5 then kD c else if i = 4 then kN c else if i = 3 then kT c else if i = 2 then kE c else if i = 1 then kR c else if i = 0 then kC c else f i
theorem zZr_off {P : Nat → Nat → Prop} {w : gZ} {k : Nat} (h : P k 0 ∧ ∀ j, P k j) (hz : ∀ j, w.2 k j = 0) : zOff P w (zZr w k) := by
  refine ⟨?_, fun k' j' hn => ?_⟩
  · funext k' j'
    show (if k' = k then fun _ => (0 : Int) else w.2 k') j' = _
    by_cases e : k' = k
    · subst e; rw [if_pos rfl, hz]
    · rw [if_neg e]
  · show (if k' = k then fun _ => (0 : Int) else w.1 k') j' = _
    by_cases e : k' = k
    · subst e; exact absurd (h.2 j') hn
    · rw [if_neg e]
theorem s_gridInit {z : gZ} (hk : kOk c) (hz : ∀ k j, z.2 k j = 0) : zOk (q_Grid_init E L (kC c) (kR c) (kE c) (kT c) z) (fun r => (∀ k, r.1 k = if 2 ≤ k ∧ k ≤ 9 then kL c k else L k) ∧ zOff (fun k _ => 1 ≤ k ∧ k ≤ 9) z r.2 ∧ gr1 c r.2 ∧ gr3 c r.2 ∧ (∀ j, j < kJ c → jOk c r.2 j) ∧ gr6 c r.2 ∧ nbI c 7 8 9 0 (kJ c) r.2) := by
  have hN := kN_b hk
  have hD := kD_b hk
  have hP := kP_b hk
  have hW := kW_b hk
  have hJ := kJ_b hk
  have hX := kX_b hk
  have hY := kY_b hk
  have hZ := kZ_b hk
  have hB := kB_b hk
  have eN : (kC c : Int) * (kR c : Int) = (kN c : Int) := by unfold kN; simp only [Int.natCast_mul]
  have eD : (4 : Int) * ((kC c : Int) + (kR c : Int)) = (kD c : Int) := by unfold kD; simp only [Int.natCast_mul, Int.natCast_add, Int.cast_ofNat_Int]
  have eP : (kN c : Int) * (kE c : Int) = (kP c : Int) := by unfold kP; simp only [Int.natCast_mul]
  have eW : ((kC c : Int) * ((kR c : Int) + 1) + ((kC c : Int) + 1) * (kR c : Int)) * (kT c : Int) = (kW c : Int) := by unfold kW; simp only [Int.natCast_mul, Int.natCast_add, Int.cast_ofNat_Int]
  have eJ : ((kC c : Int) + 1) * ((kR c : Int) + 1) * (kT c : Int) * 6 = (kJ c : Int) := by unfold kJ; simp only [Int.natCast_mul, Int.natCast_add, Int.cast_ofNat_Int]
  have eX : (42 : Int) + 4 * (kT c : Int) = (kX c : Int) := by unfold kX; simp only [Int.natCast_mul, Int.natCast_add, Int.cast_ofNat_Int]
  have eY : (kP c : Int) * (kX c : Int) = (kY c : Int) := by unfold kY; simp only [Int.natCast_mul]
  have eZ : (kY c : Int) + (kD c : Int) * (6 + (kT c : Int)) = (kZ c : Int) := by unfold kZ; simp only [Int.natCast_mul, Int.natCast_add, Int.cast_ofNat_Int]
  have eB : (kZ c : Int) + (kJ c : Int) = (kB c : Int) := by unfold kB; simp only [Int.natCast_add]
  unfold q_Grid_init
  refine ok_let _ (zp_row z 1 0 _) ?_
  refine ok_let _ (zr_put _ _ _ _) ?_
  refine ok_let _ (zr_put _ _ _ _) ?_
  refine ok_let _ (zr_put _ _ _ _) ?_
  rw [eN, if_pos (by omega)]
  refine ok_let _ (zr_put _ _ _ _) ?_
  rw [eD, if_pos (by omega)]
  refine ok_let _ (zr_put _ _ _ _) ?_
  rw [zr_eq]
  simp only [reduceIte, Nat.reduceEqDiff]
  rw [eP, if_pos (by omega)]
  refine ok_let _ (zr_put _ _ _ _) ?_
  rw [eW, if_pos (by omega)]
  refine ok_let _ (zr_put _ _ _ _) ?_
  rw [eJ, if_pos (by omega), ok_l, eX, if_pos (by omega)]
  refine ok_let _ (zr_put _ _ _ _) ?_
  rw [zr_eq]
  simp only [reduceIte, Nat.reduceEqDiff]
  rw [eY, if_pos (by omega)]
  refine ok_let _ (zr_put _ _ _ _) ?_
  rw [zr_eq]
  simp only [reduceIte, Nat.reduceEqDiff]
  rw [eZ, if_pos (by omega)]
  refine ok_let _ (zr_put _ _ _ _) ?_
  rw [zr_eq]
  simp only [reduceIte, Nat.reduceEqDiff]
  rw [eB, if_pos (by omega)]
  refine ok_let _ (zr_put _ _ _ _) ?_
  generalize hs : zRow z 1 _ = s
  have s1 : ∀ j, s.1 1 j = gF c (z.1 1) j := fun j => by rw [← hs, zr_eq]; rfl
  have s0 : zOff (fun k _ => 1 ≤ k ∧ k ≤ 9) z s := by rw [← hs]; exact off_row (fun j => by omega)
  clear hs
  have zz1 : ∀ (w : gZ) (k j : Nat), (zZr w k).1 1 j = if k = 1 then 0 else w.1 1 j := fun w k j => by
    show (if 1 = k then fun _ => (0 : Int) else w.1 1) j = _
    by_cases e : k = 1
    · rw [if_pos e.symm, if_pos e]
    · rw [if_neg (fun h => e h.symm), if_neg e]
  have o4 : s.1 1 4 = kN c := s1 4
  have o5 : s.1 1 5 = kD c := s1 5
  have o7 : s.1 1 7 = kW c := s1 7
  have tN : ∀ n : Nat, ((n : Int)).toNat = n := Int.toNat_natCast
  have a1 : (kN c : Int) + (kD c : Int) = ((kN c + kD c : Nat) : Int) := by omega
  have a2 : ((kN c + kD c : Nat) : Int) * 4 = (((kN c + kD c) * 4 : Nat) : Int) := by omega
  have a3 : (kW c : Int) * 6 = ((kW c * 6 : Nat) : Int) := by omega
  rw [o4, o5, a1, if_pos (by omega), if_pos (by omega), tN, ok_l, ok_l]
  have step : ∀ (w : gZ) (k : Nat), 2 ≤ k ∧ k ≤ 9 → (∀ j, w.1 1 j = s.1 1 j) → ∀ j, (zZr w k).1 1 j = s.1 1 j := fun w k hk h j => by rw [zz1, if_neg (by omega)]; exact h j
  have h2 := step s 2 (by omega) (fun j => rfl)
  generalize hs2 : zZr s 2 = u2 at *
  rw [h2, h2, o4, o5, a1, if_pos (by omega), if_pos (by omega), tN, ok_l, ok_l]
  have h3 := step u2 3 (by omega) h2
  generalize hs3 : zZr u2 3 = u3 at *
  rw [h3, h3, o4, o5, a1, a2, if_pos (by omega), if_pos (by omega), tN, ok_l, ok_l]
  have h4 := step u3 4 (by omega) h3
  generalize hs4 : zZr u3 4 = u4 at *
  rw [if_pos (by omega), tN, ok_l, ok_l]
  have h5 := step u4 5 (by omega) h4
  generalize hs5 : zZr u4 5 = u5 at *
  rw [if_pos (by omega), ok_l, ok_l]
  have h6 := step u5 6 (by omega) h5
  generalize hs6 : zZr u5 6 = u6 at *
  rw [h6, o7, if_pos (by omega), tN, ok_l, ok_l]
  have h7 := step u6 7 (by omega) h6
  generalize hs7 : zZr u6 7 = u7 at *
  rw [h7, o7, a3, if_pos (by omega), if_pos (by omega), tN, ok_l, ok_l]
  have h8 := step u7 8 (by omega) h7
  generalize hs8 : zZr u7 8 = u8 at *
  rw [h8, o7, a3, if_pos (by omega), if_pos (by omega), tN, ok_l, ok_l]
  have h9 := step u8 9 (by omega) h8
  generalize hs9 : zZr u8 9 = u9 at *
  generalize hLL : zZrL _ 9 _ = LL
  have eL : ∀ k, LL k = if 2 ≤ k ∧ k ≤ 9 then kL c k else L k := by
    intro k
    rw [← hLL]
    show (if k = 9 then _ else if k = 8 then _ else if k = 7 then _ else if k = 6 then _ else if k = 5 then _ else if k = 4 then _ else if k = 3 then _ else if k = 2 then _ else L k) = _
    by_cases e : 2 ≤ k ∧ k ≤ 9
    · rw [if_pos e]
      have h : k = 2 ∨ k = 3 ∨ k = 4 ∨ k = 5 ∨ k = 6 ∨ k = 7 ∨ k = 8 ∨ k = 9 := by omega
      rcases h with rfl | rfl | rfl | rfl | rfl | rfl | rfl | rfl <;> rfl
    · rw [if_neg e, if_neg (by omega), if_neg (by omega), if_neg (by omega), if_neg (by omega), if_neg (by omega), if_neg (by omega), if_neg (by omega), if_neg (by omega)]
  clear hLL
  have hL : gL c LL := by
    unfold gL
    rw [eL, eL, eL, eL, eL, eL, eL, eL]
    exact ⟨rfl, rfl, rfl, rfl, rfl, rfl, rfl, rfl⟩
  have oz : ∀ (w : gZ) (k : Nat), 1 ≤ k ∧ k ≤ 9 → zOff (fun k _ => 1 ≤ k ∧ k ≤ 9) z w → zOff (fun k _ => 1 ≤ k ∧ k ≤ 9) z (zZr w k) := fun w k hk' h => off_t h (zZr_off ⟨hk', fun _ => hk'⟩ (fun j => by rw [h.1]; exact hz k j))
  have n2 := oz s 2 (by omega) s0
  rw [hs2] at n2
  have n3 := oz u2 3 (by omega) n2
  rw [hs3] at n3
  have n4 := oz u3 4 (by omega) n3
  rw [hs4] at n4
  have n5 := oz u4 5 (by omega) n4
  rw [hs5] at n5
  have n6 := oz u5 6 (by omega) n5
  rw [hs6] at n6
  have n7 := oz u6 7 (by omega) n6
  rw [hs7] at n7
  have n8 := oz u7 8 (by omega) n7
  rw [hs8] at n8
  have n9 := oz u8 9 (by omega) n8
  rw [hs9] at n9
  have r7 : ∀ w, u9.1 7 w = 0 := fun w => by
    rw [← hs9, ← hs8, ← hs7]
    rfl
  have v1 : ∀ j, u9.1 1 j = gF c (z.1 1) j := fun j => (h9 j).trans (s1 j)
  clear hs2 hs3 hs4 hs5 hs6 hs7 hs8 hs9 h2 h3 h4 h5 h6 h7 h8 n2 n3 n4 n5 n6 n7 n8
  have l4 : LL 4 = (kN c + kD c) * 4 := hL.2.2.1
  rw [s_fillI 4 (-1) u9 (by omega), b1_s, l4]
  have w1 : ∀ j, (zFill u9 4 (fun _ => -1) ((kN c + kD c) * 4)).1 1 j = gF c (z.1 1) j := fun j => by rw [zf_ne _ _ _ _ _ (by omega)]; exact v1 j
  have w4 : ∀ j, j < (kN c + kD c) * 4 → (zFill u9 4 (fun _ => -1) ((kN c + kD c) * 4)).1 4 j = -1 := fun j hj => by rw [zf1, if_pos rfl, if_pos hj]
  have w7 : ∀ j, (zFill u9 4 (fun _ => -1) ((kN c + kD c) * 4)).1 7 j = 0 := fun j => by rw [zf_ne _ _ _ _ _ (by omega)]; exact r7 j
  have w0 : zOff (fun k _ => 1 ≤ k ∧ k ≤ 9) z (zFill u9 4 (fun _ => -1) ((kN c + kD c) * 4)) := off_t n9 (off_fill (fun j => by omega))
  generalize zFill u9 4 (fun _ => -1) ((kN c + kD c) * 4) = w at *
  rw [ok_1]
  refine ok_w (s_setTiles (E := E) hk hL (w1 0) (w1 1) (w1 3)) fun x1 ⟨b1, b2⟩ => ?_
  have f1 : ∀ j, x1.1 1 j = gF c (z.1 1) j := fun j => (b1.2 1 j (by unfold pTl; omega)).trans (w1 j)
  rw [ok_1]
  refine ok_w (s_setPads (E := E) hk hL (f1 0) (f1 1) (f1 3) (f1 4)) fun x2 ⟨b3, b4⟩ => ?_
  have f2 : ∀ j, x2.1 1 j = gF c (z.1 1) j := fun j => (b3.2 1 j (by unfold pPd; omega)).trans (f1 j)
  rw [ok_1]
  refine ok_w (s_setJoints (E := E) hk hL (f2 0) (f2 1) (f2 3)) fun x3 ⟨b5, b6⟩ => ?_
  have f3 : ∀ j, x3.1 1 j = gF c (z.1 1) j := fun j => (b5.2 1 j (by unfold p56; omega)).trans (f2 j)
  have f7 : ∀ j, x3.1 7 j = 0 := fun j => (b5.2 7 j (by unfold p56; omega)).trans ((b3.2 7 j (by unfold pPd; omega)).trans ((b1.2 7 j (by unfold pTl; omega)).trans (w7 j)))
  rw [ok_1]
  refine ok_w (s_setN (E := E) hk hL b6 f7) fun x4 ⟨b7, b8⟩ => ?_
  have f4 : ∀ j, x4.1 1 j = gF c (z.1 1) j := fun j => (b7.2 1 j (by omega)).trans (f3 j)
  rw [ok_s]
  have k4 : ∀ k j, 2 ≤ k → k ≤ 4 → x4.1 k j = x2.1 k j := fun k j h1 h2 => (b7.2 k j (by omega)).trans (b5.2 k j (by unfold p56; omega))
  have kt : ∀ t, t < kN c → ∀ s, s < 4 → ∀ p, t * 4 + s ≠ (kN c + p) * 4 := fun t ht s hs p => by omega
  refine ⟨eL, ?_, ?_, ⟨?_, ?_, ?_⟩, fun j hj => ?_, ⟨?_, ?_⟩, b8⟩
  · refine off_t (off_t (off_t (off_t w0 (off_w b1 ?_)) (off_w b3 ?_)) (off_w b5 ?_)) (off_w b7 ?_)
    · intro a b h; unfold pTl at h; omega
    · intro a b h; unfold pPd at h; omega
    · intro a b h; unfold p56 at h; omega
    · intro a b h; omega
  · exact ⟨f4 0, f4 1, f4 2, f4 3, f4 4, f4 5, f4 6, f4 7, f4 8, f4 9, f4 10, f4 11⟩
  · intro t s ht hs
    rw [k4 4 _ (by omega) (by omega), b3.2 4 _ (by
      rintro (h | ⟨_, p, h⟩)
      · omega
      · exact kt t ht s hs p h)]
    exact (b2 t ht).2.2 s hs
  · intro p hp
    rw [k4 4 _ (by omega) (by omega)]
    exact (b4 p hp).2.2
  · intro p s hp h1 h2
    rw [k4 4 _ (by omega) (by omega), b3.2 4 _ (by
      rintro (h | ⟨_, p', h⟩)
      · omega
      · omega), b1.2 4 _ (by unfold pTl; omega)]
    exact w4 _ (by omega)
  · unfold jOk
    rw [b7.2 5 j (by omega), b7.2 6 j (by omega)]
    exact b6 j hj
  · intro t ht
    rw [k4 2 _ (by omega) (by omega), k4 3 _ (by omega) (by omega), b3.2 2 t (by unfold pPd; omega), b3.2 3 t (by unfold pPd; omega)]
    exact ⟨(b2 t ht).1, (b2 t ht).2.1⟩
  · intro p hp
    rw [k4 2 _ (by omega) (by omega), k4 3 _ (by omega) (by omega)]
    exact ⟨(b4 p hp).1, (b4 p hp).2.1⟩
end
-- C15
section
variable {E : gEv} {c : gCf} {L : Nat → Nat}
/-- cells from n on are not made yet; the lengths of those that are -/
def fr (n : Nat) (z : gZ) : Prop := (∀ k j, n ≤ k → z.1 k j = 0) ∧ ∀ k j, z.2 k j = 0
def ln (c : gCf) (n : Nat) (L : Nat → Nat) : Prop := ∀ k, L k = if k < n then kL c k else 0
theorem zZr_id {z : gZ} {k : Nat} (h1 : ∀ j, z.1 k j = 0) (h2 : ∀ j, z.2 k j = 0) : zZr z k = z := by
  refine Prod.ext ?_ ?_
  · funext k' j'
    show (if k' = k then fun _ => (0 : Int) else z.1 k') j' = _
    by_cases e : k' = k
    · subst e; rw [if_pos rfl, h1]
    · rw [if_neg e]
  · funext k' j'
    show (if k' = k then fun _ => (0 : Int) else z.2 k') j' = _
    by_cases e : k' = k
    · subst e; rw [if_pos rfl, h2]
    · rw [if_neg e]
theorem fr_s {n m : Nat} {z : gZ} (h : fr n z) (hm : n ≤ m) : fr m z := ⟨fun k j hk => h.1 k j (by omega), h.2⟩
theorem fr_put {n k j : Nat} {v : Int} {z : gZ} (h : fr n z) (hk : k < n) : fr n (zPut z k j v) := ⟨fun k' j' h' => by rw [zp_ne _ _ _ _ _ (by omega)]; exact h.1 k' j' h', h.2⟩
theorem ln_new {n m : Nat} (h : ln c n L) (hm : m = kL c n) : ln c (n + 1) (zZrL L n m) := fun k => by
  show (if k = n then m else L k) = _
  by_cases e : k = n
  · subst e; rw [if_pos rfl, if_pos (by omega), hm]
  · rw [if_neg e, h k]
    by_cases e2 : k < n
    · rw [if_pos e2, if_pos (by omega)]
    · rw [if_neg e2, if_neg (by omega)]
theorem ln_at {n k : Nat} (h : ln c n L) (hk : k < n) : L k = kL c k := by rw [h k, if_pos hk]
theorem ok_new {β : Type} {z : gZ} {n m : Nat} {f : (Nat → Nat) → gZ → Option β} {Q : β → Prop} (hf : fr n z) (hl : ln c n L) (hm : m = kL c n) (k : ∀ L', ln c (n + 1) L' → zOk (f L' z) Q) : zOk (gLet (zZrL L n m) fun L1 => gLet (zZr z n) fun s => f L1 s) Q := by
  show zOk (f (zZrL L n m) (zZr z n)) Q
  rw [zZr_id (hf.1 n · (Nat.le_refl n)) (hf.2 n)]
  exact k _ (ln_new hl hm)
theorem s_textInit {z : gZ} (hf : fr 11 z) (hl : ln c 11 L) : zOk (q_Text_init E L z) (fun r => ln c 13 r.1 ∧ r.2 = z) := by
  unfold q_Text_init
  refine ok_new hf hl rfl fun L1 h1 => ?_
  refine ok_new (fr_s hf (by omega)) h1 rfl fun L2 h2 => ?_
  exact (ok_s _ _).2 ⟨h2, rfl⟩
theorem s_gatesInit {z : gZ} (hf : fr 14 z) (hl : ln c 14 L) : zOk (q_Gates_init E L z) (fun r => ln c 22 r.1 ∧ r.2 = z) := by
  unfold q_Gates_init
  refine ok_new hf hl rfl fun L1 h1 => ?_
  refine ok_new (fr_s hf (by omega)) h1 rfl fun L2 h2 => ?_
  refine ok_new (fr_s hf (by omega)) h2 rfl fun L3 h3 => ?_
  refine ok_new (fr_s hf (by omega)) h3 rfl fun L4 h4 => ?_
  refine ok_new (fr_s hf (by omega)) h4 rfl fun L5 h5 => ?_
  refine ok_new (fr_s hf (by omega)) h5 rfl fun L6 h6 => ?_
  refine ok_new (fr_s hf (by omega)) h6 rfl fun L7 h7 => ?_
  refine ok_new (fr_s hf (by omega)) h7 rfl fun L8 h8 => ?_
  exact (ok_s _ _).2 ⟨h8, rfl⟩
theorem s_readerInit {z : gZ} (hk : kOk c) (hf : fr 23 z) (hl : ln c 23 L) : zOk (q_Reader_init E L (kD c) z) (fun r => ln c 30 r.1 ∧ r.2 = zPut z 22 2 (kD c)) := by
  have hD := kD_b hk
  unfold q_Reader_init
  refine ok_new hf hl rfl fun L1 h1 => ?_
  refine ok_new (fr_s hf (by omega)) h1 rfl fun L2 h2 => ?_
  refine ok_new (fr_s hf (by omega)) h2 rfl fun L3 h3 => ?_
  refine ok_new (fr_s hf (by omega)) h3 rfl fun L4 h4 => ?_
  refine ok_new (fr_s hf (by omega)) h4 rfl fun L5 h5 => ?_
  refine ok_new (fr_s hf (by omega)) h5 rfl fun L6 h6 => ?_
  rw [ok_l, if_pos (by omega), gtN]
  refine ok_new (fr_put (fr_s hf (by omega)) (by omega)) h6 (kL_29 c).symm fun L7 h7 => ?_
  exact (ok_s _ _).2 ⟨h7, rfl⟩
theorem s_circuitInit {z : gZ} (hk : kOk c) (hf : fr 31 z) (hl : ln c 31 L) : zOk (q_Circuit_init E L (kP c) (kD c) z) (fun r => ln c 40 r.1 ∧ r.2 = zPut z 30 0 (kP c)) := by
  have hD := kD_b hk
  have hP := kP_b hk
  unfold q_Circuit_init
  refine ok_new hf hl rfl fun L1 h1 => ?_
  refine ok_new (fr_s hf (by omega)) h1 rfl fun L2 h2 => ?_
  refine ok_new (fr_s hf (by omega)) h2 rfl fun L3 h3 => ?_
  refine ok_new (fr_s hf (by omega)) h3 rfl fun L4 h4 => ?_
  have hf' : fr 35 (zPut z 30 0 (kP c)) := fr_put (fr_s hf (by omega)) (by omega)
  rw [ok_l, show (kP c : Int) * 4 = ((kP c * 4 : Nat) : Int) by omega, if_pos (by omega), if_pos (by omega), gtN, gtN, gtN]
  refine ok_new hf' h4 (kL_35 c).symm fun L5 h5 => ?_
  rw [if_pos (by omega)]
  refine ok_new (fr_s hf' (by omega)) h5 (kL_36 c).symm fun L6 h6 => ?_
  rw [if_pos (by omega)]
  refine ok_new (fr_s hf' (by omega)) h6 (kL_37 c).symm fun L7 h7 => ?_
  rw [if_pos (by omega)]
  refine ok_new (fr_s hf' (by omega)) h7 (kL_38 c).symm fun L8 h8 => ?_
  rw [if_pos (by omega)]
  refine ok_new (fr_s hf' (by omega)) h8 (kL_39 c).symm fun L9 h9 => ?_
  exact (ok_s _ _).2 ⟨h9, rfl⟩
end
-- C16
section
variable {E : gEv} {c : gCf} {L : Nat → Nat}
theorem zZm_id {z : gZ} {k n : Nat} (h1 : ∀ k' j, k ≤ k' → z.1 k' j = 0) (h2 : ∀ k' j, z.2 k' j = 0) : zZm z k n = z := by
  refine Prod.ext ?_ ?_
  · funext k' j'
    show (if k ≤ k' ∧ k' ≤ k + n then fun _ => (0 : Int) else z.1 k') j' = _
    by_cases e : k ≤ k' ∧ k' ≤ k + n
    · rw [if_pos e, h1 k' j' e.1]
    · rw [if_neg e]
  · funext k' j'
    show (if k ≤ k' ∧ k' ≤ k + n then fun _ => (0 : Int) else z.2 k') j' = _
    by_cases e : k ≤ k' ∧ k' ≤ k + n
    · rw [if_pos e, h2 k' j']
    · rw [if_neg e]
theorem ok_newm {β : Type} {z : gZ} {n a m : Nat} {f : (Nat → Nat) → gZ → Option β} {Q : β → Prop} (hf : fr n z) (hl : ln c n L) (ha : a = kL c n) (hm : ∀ k, n < k → k ≤ n + a → m = kL c k) (k : ∀ L', ln c (n + 1 + a) L' → zOk (f L' z) Q) : zOk (gLet (zZmL L n a m) fun L1 => gLet (zZm z n a) fun s => f L1 s) Q := by
  show zOk (f (zZmL L n a m) (zZm z n a)) Q
  rw [zZm_id hf.1 hf.2]
  refine k _ fun k' => ?_
  show (if k' = n then a else if n < k' ∧ k' ≤ n + a then m else L k') = _
  by_cases e : k' = n
  · rw [if_pos e, if_pos (by omega), e, ha]
  · rw [if_neg e]
    by_cases e2 : n < k' ∧ k' ≤ n + a
    · rw [if_pos e2, if_pos (by omega)]; exact hm k' e2.1 e2.2
    · rw [if_neg e2, hl k']
      by_cases e3 : k' < n
      · rw [if_pos e3, if_pos (by omega)]
      · rw [if_neg e3, if_neg (by omega)]
theorem s_mapperInit {z : gZ} (hf : fr 41 z) (hl : ln c 41 L) : zOk (q_Mapper_init E L z) (fun r => ln c 53 r.1 ∧ r.2 = z) := by
  unfold q_Mapper_init
  refine ok_newm hf hl rfl (fun k h1 h2 => ?_) fun L1 h1 => ?_
  · have h : k = 42 ∨ k = 43 ∨ k = 44 ∨ k = 45 ∨ k = 46 := by omega
    rcases h with rfl | rfl | rfl | rfl | rfl <;> rfl
  refine ok_newm (fr_s hf (by omega)) h1 rfl (fun k h1 h2 => ?_) fun L2 h2 => ?_
  · have h : k = 48 ∨ k = 49 ∨ k = 50 ∨ k = 51 ∨ k = 52 := by omega
    rcases h with rfl | rfl | rfl | rfl | rfl <;> rfl
  exact (ok_s _ _).2 ⟨h2, rfl⟩
theorem s_packingInit {z : gZ} (hk : kOk c) (g : gr1 c z) (hf : fr 54 z) (hl : ln c 54 L) : zOk (q_Packing_init E L z) (fun r => ln c 67 r.1 ∧ r.2 = z) := by
  have hD := kD_b hk
  have hP := kP_b hk
  have o5 : z.1 1 5 = kD c := g.2.2.2.2.2.1
  have o6 : z.1 1 6 = kP c := g.2.2.2.2.2.2.1
  unfold q_Packing_init
  refine ok_new hf hl rfl fun L1 h1 => ?_
  rw [o5, o6, ok_l, show (kD c : Int) + (kP c : Int) = ((kD c + kP c : Nat) : Int) by omega, show (kP c : Int) * 4 + (kD c : Int) = ((kP c * 4 + kD c : Nat) : Int) by omega, show (400 : Int) + (kP c : Int) = ((400 + kP c : Nat) : Int) by omega, show (kP c : Int) * 5 = ((kP c * 5 : Nat) : Int) by omega, if_pos (by omega), ok_l, if_pos (by omega), ok_l, show ((kD c + kP c : Nat) : Int) + 1 = ((kD c + kP c + 1 : Nat) : Int) by omega, gtN, gtN, gtN, gtN, gtN, gtN, if_pos (by omega)]
  refine ok_new (fr_s hf (by omega)) h1 (kL_55 c).symm fun L2 h2 => ?_
  rw [if_pos (by omega)]
  refine ok_new (fr_s hf (by omega)) h2 (kL_56 c).symm fun L3 h3 => ?_
  rw [if_pos (by omega)]
  refine ok_new (fr_s hf (by omega)) h3 (kL_57 c).symm fun L4 h4 => ?_
  rw [if_pos (by omega), if_pos (by omega)]
  refine ok_new (fr_s hf (by omega)) h4 (kL_58 c).symm fun L5 h5 => ?_
  rw [if_pos (by omega)]
  refine ok_new (fr_s hf (by omega)) h5 (kL_59 c).symm fun L6 h6 => ?_
  rw [if_pos (by omega)]
  refine ok_new (fr_s hf (by omega)) h6 (kL_60 c).symm fun L7 h7 => ?_
  rw [if_pos (by omega)]
  refine ok_new (fr_s hf (by omega)) h7 (kL_61 c).symm fun L8 h8 => ?_
  rw [if_pos (by omega), if_pos (by omega)]
  refine ok_new (fr_s hf (by omega)) h8 (kL_62 c).symm fun L9 h9 => ?_
  rw [if_pos (by omega)]
  refine ok_new (fr_s hf (by omega)) h9 (kL_63 c).symm fun L10 h10 => ?_
  rw [if_pos (by omega)]
  refine ok_new (fr_s hf (by omega)) h10 (kL_64 c).symm fun L11 h11 => ?_
  rw [if_pos (by omega), if_pos (by omega)]
  refine ok_new (fr_s hf (by omega)) h11 (kL_65 c).symm fun L12 h12 => ?_
  rw [if_pos (by omega)]
  refine ok_new (fr_s hf (by omega)) h12 (kL_66 c).symm fun L13 h13 => ?_
  exact (ok_s _ _).2 ⟨h13, rfl⟩
theorem s_placingInit {z : gZ} (hk : kOk c) (g : gr1 c z) (hf : fr 68 z) (hl : ln c 68 L) : zOk (q_Placing_init E L z) (fun r => ln c 70 r.1 ∧ r.2 = zFill z 68 (fun _ => -1) (kN c + kD c)) := by
  have hD := kD_b hk
  have hN := kN_b hk
  have o5 : z.1 1 5 = kD c := g.2.2.2.2.2.1
  have o4 : z.1 1 4 = kN c := g.2.2.2.2.1
  unfold q_Placing_init
  rw [o5, o4, show (kN c : Int) + (kD c : Int) = ((kN c + kD c : Nat) : Int) by omega, gtN, if_pos (by omega), if_pos (by omega)]
  refine ok_new hf hl (kL_68 c).symm fun L1 h1 => ?_
  rw [o5, o4, show (kN c : Int) + 2 * (kD c : Int) = ((kN c + 2 * kD c : Nat) : Int) by omega, gtN, if_pos (by omega), if_pos (by omega)]
  refine ok_new (fr_s hf (by omega)) h1 (kL_69 c).symm fun L2 h2 => ?_
  have e : L2 68 = kN c + kD c := (ln_at h2 (by omega)).trans (kL_68 c)
  rw [s_fillI 68 (-1) z (by omega), b1_s, e]
  exact (ok_s _ _).2 ⟨h2, rfl⟩
end
-- C17
section
variable {E : gEv} {c : gCf} {L : Nat → Nat}
theorem s_frontInit {z : gZ} (hk : kOk c) (hf : fr 72 z) (hl : ln c 72 L) : zOk (q_Front_init E L (kW c) z) (fun r => ln c 74 r.1 ∧ r.2 = z) := by
  have hW := kW_b hk
  unfold q_Front_init
  rw [gtN, if_pos (by omega)]
  refine ok_new hf hl (kL_72 c).symm fun L1 h1 => ?_
  rw [if_pos (by omega)]
  refine ok_new (fr_s hf (by omega)) h1 (kL_73 c).symm fun L2 h2 => ?_
  exact (ok_s _ _).2 ⟨h2, rfl⟩
theorem s_routerInit {z : gZ} (hk : kOk c) (g : gr1 c z) (hf : fr 71 z) (hl : ln c 71 L) : zOk (q_Router_init E L z) (fun r => ln c 81 r.1 ∧ r.2 = zPut z 70 4 (kH c)) := by
  have hD := kD_b hk
  have hP := kP_b hk
  have hW := kW_b hk
  have o7 : z.1 1 7 = kW c := g.2.2.2.2.2.2.2.1
  have hH : kH c ≤ 27 := by unfold kH; omega
  have hm : (kD c + kP c) * kH c ≤ 192 * 27 := Nat.mul_le_mul (by omega) hH
  unfold q_Router_init
  refine ok_new hf hl rfl fun L1 h1 => ?_
  rw [o7, ok_2]
  refine ok_w (s_frontInit (E := E) hk (fr_s hf (by omega)) h1) ?_
  rintro ⟨L2, z2⟩ ⟨h2, e2⟩
  have e2 : z2 = z := e2
  subst e2
  have h2 : ln c 74 L2 := h2
  show zOk (if _ then _ else none) _
  have eH : zUshr ((kW c : Int) + 31) 5 = (kH c : Int) := by
    have := zUshr_n (kW c + 31) 5 (by omega) (by omega)
    unfold kH
    exact this
  have hf' : fr 74 (zPut z2 70 4 (kH c)) := fr_put (fr_s hf (by omega)) (by omega)
  have p7 : (zPut z2 70 4 (kH c)).1 1 7 = kW c := by rw [zp_ne _ _ _ _ _ (by omega)]; exact o7
  have p4 : (zPut z2 70 4 (kH c)).1 70 4 = kH c := by rw [zp1, if_pos rfl, if_pos rfl]
  have e60 : L2 60 = kD c + kP c := (ln_at h2 (by omega)).trans (kL_60 c)
  rw [if_pos (by rw [o7]; omega), ok_l]
  simp only [o7, eH]
  rw [e60, p4, show ((kD c + kP c : Nat) : Int) * (kH c : Int) = (((kD c + kP c) * kH c : Nat) : Int) by simp only [Int.natCast_mul], if_pos (by omega), if_pos (by omega), gtN]
  refine ok_new hf' h2 (kL_74 c).symm fun L3 h3 => ?_
  rw [p7, if_pos (by omega), gtN]
  refine ok_new (fr_s hf' (by omega)) h3 (kL_75 c).symm fun L4 h4 => ?_
  rw [p7, if_pos (by omega), gtN]
  refine ok_new (fr_s hf' (by omega)) h4 (kL_76 c).symm fun L5 h5 => ?_
  rw [p7, if_pos (by omega), gtN]
  refine ok_new (fr_s hf' (by omega)) h5 (kL_77 c).symm fun L6 h6 => ?_
  rw [p7, if_pos (by omega), gtN]
  refine ok_new (fr_s hf' (by omega)) h6 (kL_78 c).symm fun L7 h7 => ?_
  have e63 : L7 63 = kP c * 4 + kD c := (ln_at h7 (by omega)).trans (kL_63 c)
  rw [e63, if_pos (by omega), gtN]
  refine ok_new (fr_s hf' (by omega)) h7 (kL_79 c).symm fun L8 h8 => ?_
  rw [p7, if_pos (by omega), gtN]
  refine ok_new (fr_s hf' (by omega)) h8 (kL_80 c).symm fun L9 h9 => ?_
  exact (ok_s _ _).2 ⟨h9, rfl⟩
theorem s_fieldInit {z : gZ} (hk : kOk c) (g : gr1 c z) (hf : fr 82 z) (hl : ln c 82 L) : zOk (q_Field_init E L z) (fun r => ln c 94 r.1 ∧ r.2 = z) := by
  have hD := kD_b hk
  have hP := kP_b hk
  have hW := kW_b hk
  have hB := kB_b hk
  have hT := hk.2.2.2
  have o3 : z.1 1 3 = kT c := g.2.2.2.1
  have o5 : z.1 1 5 = kD c := g.2.2.2.2.2.1
  have o6 : z.1 1 6 = kP c := g.2.2.2.2.2.2.1
  have o7 : z.1 1 7 = kW c := g.2.2.2.2.2.2.2.1
  have o8 : z.1 1 8 = kB c := g.2.2.2.2.2.2.2.2.1
  have hm : kP c * 4 * kT c ≤ 576 * 10 := Nat.mul_le_mul (by omega) hT.2
  unfold q_Field_init
  rw [o8, if_pos (by omega), gtN]
  refine ok_new hf hl (kL_82 c).symm fun L1 h1 => ?_
  rw [o5, if_pos (by omega), gtN]
  refine ok_new (fr_s hf (by omega)) h1 (kL_83 c).symm fun L2 h2 => ?_
  rw [o6, if_pos (by omega), gtN]
  refine ok_new (fr_s hf (by omega)) h2 (kL_84 c).symm fun L3 h3 => ?_
  rw [o6, if_pos (by omega), gtN]
  refine ok_new (fr_s hf (by omega)) h3 (kL_85 c).symm fun L4 h4 => ?_
  rw [o6, if_pos (by omega), gtN]
  refine ok_new (fr_s hf (by omega)) h4 (kL_86 c).symm fun L5 h5 => ?_
  rw [o7, if_pos (by omega), gtN]
  refine ok_new (fr_s hf (by omega)) h5 (kL_87 c).symm fun L6 h6 => ?_
  rw [o7, if_pos (by omega), gtN]
  refine ok_new (fr_s hf (by omega)) h6 (kL_88 c).symm fun L7 h7 => ?_
  rw [o7, if_pos (by omega), gtN]
  refine ok_new (fr_s hf (by omega)) h7 (kL_89 c).symm fun L8 h8 => ?_
  rw [o6, if_pos (by omega), gtN]
  refine ok_new (fr_s hf (by omega)) h8 (kL_90 c).symm fun L9 h9 => ?_
  rw [o6, show (kP c : Int) * 4 = ((kP c * 4 : Nat) : Int) by omega, if_pos (by omega), if_pos (by omega), gtN]
  refine ok_new (fr_s hf (by omega)) h9 (kL_91 c).symm fun L10 h10 => ?_
  rw [o6, show (kP c : Int) + 1 = ((kP c + 1 : Nat) : Int) by omega, if_pos (by omega), if_pos (by omega), gtN]
  refine ok_new (fr_s hf (by omega)) h10 (kL_92 c).symm fun L11 h11 => ?_
  rw [o6, o3, show (kP c : Int) * 4 * (kT c : Int) = ((kP c * 4 * kT c : Nat) : Int) by simp only [Int.natCast_mul, Int.cast_ofNat_Int], if_pos (by omega), if_pos (by omega), gtN]
  refine ok_new (fr_s hf (by omega)) h11 (kL_93 c).symm fun L12 h12 => ?_
  exact (ok_s _ _).2 ⟨h12, rfl⟩
end
-- C18
section
variable {E : gEv} {c : gCf} {L : Nat → Nat}
def kcl (a : Int) (m : Nat) : Nat := if a < 1 then 1 else if (m : Int) < a then m else a.toNat
def cf (a0 a1 a2 a3 : Int) : gCf := (kcl a0 6, kcl a1 6, kcl a2 4, kcl a3 10)
theorem kcl_r (a : Int) {m : Nat} (hm : 1 ≤ m) : 1 ≤ kcl a m ∧ kcl a m ≤ m := by
  unfold kcl; split
  · omega
  · split <;> omega
theorem cf_ok (a0 a1 a2 a3 : Int) : kOk (cf a0 a1 a2 a3) := ⟨kcl_r a0 (by decide), kcl_r a1 (by decide), kcl_r a2 (by decide), kcl_r a3 (by decide)⟩
theorem s_nearest (a : Int) (m : Nat) (hm : 1 ≤ m) (z : gZ) : q_Face_nearest E L a m z = some ((kcl a m : Nat) : Int) := by
  unfold q_Face_nearest kcl
  congr 1
  repeat' split
  all_goals omega
theorem fr_fill {n k i : Nat} {f : Nat → Int} {z : gZ} (h : fr n z) (hk : k < n) : fr n (zFill z k f i) := ⟨fun k' j' h' => by rw [zf_ne _ _ _ _ _ (by omega)]; exact h.1 k' j' h', h.2⟩
theorem gr1_c {z z' : gZ} (h : ∀ j, z'.1 1 j = z.1 1 j) (g : gr1 c z) : gr1 c z' := by
  unfold gr1; rw [h, h, h, h, h, h, h, h, h, h, h, h]; exact g
/-- what the class's constructor leaves -/
def fcI (c : gCf) (z : gZ) : Prop := gr1 c z ∧ gr3 c z ∧ (∀ j, j < kJ c → jOk c z j) ∧ gr6 c z ∧ nbI c 7 8 9 0 (kJ c) z
theorem fcI_c {z z' : gZ} (h : ∀ k j, 1 ≤ k → k ≤ 9 → z'.1 k j = z.1 k j) (g : fcI c z) : fcI c z' := by
  obtain ⟨g1, g3, g4, g6, g5⟩ := g
  refine ⟨gr1_c (fun j => h 1 j (by omega) (by omega)) g1, ⟨fun t s ht hs => ?_, fun p hp => ?_, fun p s hp h1 h2 => ?_⟩, fun j hj => ?_, ⟨fun t ht => ?_, fun p hp => ?_⟩, ⟨fun w hw => ?_, fun j w hj hw hi => ?_⟩⟩
  · rw [h 4 _ (by omega) (by omega)]; exact g3.1 t s ht hs
  · rw [h 4 _ (by omega) (by omega)]; exact g3.2.1 p hp
  · rw [h 4 _ (by omega) (by omega)]; exact g3.2.2 p s hp h1 h2
  · unfold jOk; rw [h 5 _ (by omega) (by omega), h 6 _ (by omega) (by omega)]; exact g4 j hj
  · rw [h 2 _ (by omega) (by omega), h 3 _ (by omega) (by omega)]; exact g6.1 t ht
  · rw [h 2 _ (by omega) (by omega), h 3 _ (by omega) (by omega)]; exact g6.2 p hp
  · rw [h 7 _ (by omega) (by omega)]; exact g5.1 w hw
  · rw [h 8 _ (by omega) (by omega), h 9 _ (by omega) (by omega)]; exact g5.2 j w hj hw hi
def fcV (c : gCf) (k j : Nat) : Int := if k = 0 then (if j = 11 then -1 else 0) else if k = 22 then (if j = 2 then kD c else 0) else if k = 30 then (if j = 0 then kP c else 0) else if k = 68 then (if j < kN c + kD c then -1 else 0) else if k = 70 then (if j = 4 then kH c else 0) else 0
theorem s_faceInit {z : gZ} {a0 a1 a2 a3 : Int} (hc : c = cf a0 a1 a2 a3) (hf : fr 0 z) (hl : ln c 1 L) : zOk (q_Face_init E L a0 a1 a2 a3 z) (fun r => ln c 94 r.1 ∧ fr 94 r.2 ∧ fcI c r.2 ∧ ∀ k j, k < 1 ∨ 10 ≤ k → r.2.1 k j = fcV c k j) := by
  have hk : kOk c := hc ▸ cf_ok a0 a1 a2 a3
  have n0 : ((kcl a0 6 : Nat) : Int) = kC c := by rw [hc]; rfl
  have n1 : ((kcl a1 6 : Nat) : Int) = kR c := by rw [hc]; rfl
  have n2 : ((kcl a2 4 : Nat) : Int) = kE c := by rw [hc]; rfl
  have n3 : ((kcl a3 10 : Nat) : Int) = kT c := by rw [hc]; rfl
  unfold q_Face_init
  rw [ok_l]
  have f1 : fr 1 (zPut z 0 11 (-1)) := fr_put (fr_s hf (by omega)) (by omega)
  have v1 : ∀ k j, (zPut z 0 11 (-1)).1 k j = if k = 0 then (if j = 11 then -1 else 0) else 0 := fun k j => by
    rw [zp1, hf.1 k j (by omega)]
  generalize zPut z 0 11 (-1) = y at *
  refine ok_new f1 hl rfl fun L1 h1 => ?_
  rw [show (6 : Int) = ((6 : Nat) : Int) from rfl, show (4 : Int) = ((4 : Nat) : Int) from rfl, show (10 : Int) = ((10 : Nat) : Int) from rfl, s_nearest _ _ (by omega), b1_s, s_nearest _ _ (by omega), b1_s, s_nearest _ _ (by omega), b1_s, s_nearest _ _ (by omega), b1_s, n0, n1, n2, n3, ok_2]
  refine ok_w (s_gridInit (E := E) (L := L1) hk f1.2) ?_
  rintro ⟨L2, y2⟩ ⟨e1, e2, g1, g3, g4, g6, g5⟩
  have fc : fcI c y2 := ⟨g1, g3, g4, g6, g5⟩
  have h2 : ln c 10 L2 := fun k => by
    have := e1 k
    have e1 : L2 k = _ := this
    rw [e1, h1 k]
    by_cases a : k < 2
    · rw [if_neg (by omega), if_pos a, if_pos (by omega)]
    · by_cases b : k ≤ 9
      · rw [if_pos (by omega), if_pos (by omega)]
      · rw [if_neg (by omega), if_neg a, if_neg (by omega)]
  have f2 : fr 10 y2 := ⟨fun k j hk' => (e2.2 k j (by omega)).trans (f1.1 k j (by omega)), fun k j => by
    have : y2.2 = y.2 := e2.1
    rw [this]; exact f1.2 k j⟩
  have v2 : ∀ k j, k < 1 ∨ 10 ≤ k → y2.1 k j = if k = 0 then (if j = 11 then -1 else 0) else 0 := fun k j h => (e2.2 k j (by omega)).trans (v1 k j)
  clear e1 e2 f1 v1 h1 hl
  refine ok_new f2 h2 rfl fun L3 h3 => ?_
  rw [ok_2]
  refine ok_w (s_textInit (E := E) (fr_s f2 (by omega)) h3) ?_
  rintro ⟨L4, y3⟩ ⟨h4, e3⟩
  have e3 : y3 = y2 := e3
  subst e3
  refine ok_new (fr_s f2 (by omega)) h4 rfl fun L5 h5 => ?_
  rw [ok_2]
  refine ok_w (s_gatesInit (E := E) (fr_s f2 (by omega)) h5) ?_
  rintro ⟨L6, y4⟩ ⟨h6, e4⟩
  have e4 : y4 = y3 := e4
  subst e4
  refine ok_new (fr_s f2 (by omega)) h6 rfl fun L7 h7 => ?_
  rw [ok_2]
  have o5 : y4.1 1 5 = kD c := fc.1.2.2.2.2.2.1
  have o6 : y4.1 1 6 = kP c := fc.1.2.2.2.2.2.2.1
  rw [o5]
  refine ok_w (s_readerInit (E := E) hk (fr_s f2 (by omega)) h7) ?_
  rintro ⟨L8, y5⟩ ⟨h8, e5⟩
  have e5 : y5 = zPut y4 22 2 (kD c) := e5
  have f5 : fr 30 y5 := by rw [e5]; exact fr_put (fr_s f2 (by omega)) (by omega)
  have c5 : ∀ k j, k ≠ 22 → y5.1 k j = y4.1 k j := fun k j h => by rw [e5, zp_ne _ _ _ _ _ h]
  have d5 : ∀ j, y5.1 22 j = if j = 2 then (kD c : Int) else 0 := fun j => by rw [e5, zp1, if_pos rfl, f2.1 22 j (by omega)]
  have h8 : ln c 30 L8 := h8
  clear e5
  refine ok_new f5 h8 rfl fun L9 h9 => ?_
  show zOk (gB2 (q_Circuit_init E L9 (y5.1 1 6) (y5.1 1 5) y5) _) _
  rw [c5 1 6 (by omega), c5 1 5 (by omega), o5, o6, ok_2]
  refine ok_w (s_circuitInit (E := E) hk (fr_s f5 (by omega)) h9) ?_
  rintro ⟨L10, y6⟩ ⟨h10, e6⟩
  have e6 : y6 = zPut y5 30 0 (kP c) := e6
  have f6 : fr 40 y6 := by rw [e6]; exact fr_put (fr_s f5 (by omega)) (by omega)
  have c6 : ∀ k j, k ≠ 30 → y6.1 k j = y5.1 k j := fun k j h => by rw [e6, zp_ne _ _ _ _ _ h]
  have d6 : ∀ j, y6.1 30 j = if j = 0 then (kP c : Int) else 0 := fun j => by rw [e6, zp1, if_pos rfl, f5.1 30 j (by omega)]
  have h10 : ln c 40 L10 := h10
  clear e6
  refine ok_new f6 h10 rfl fun L11 h11 => ?_
  rw [ok_2]
  refine ok_w (s_mapperInit (E := E) (fr_s f6 (by omega)) h11) ?_
  rintro ⟨L12, y7⟩ ⟨h12, e7⟩
  have e7 : y7 = y6 := e7
  subst e7
  have h12 : ln c 53 L12 := h12
  refine ok_new (fr_s f6 (by omega)) h12 rfl fun L13 h13 => ?_
  have g7 : gr1 c y7 := gr1_c (fun j => (c6 1 j (by omega)).trans (c5 1 j (by omega))) fc.1
  rw [ok_2]
  refine ok_w (s_packingInit (E := E) hk g7 (fr_s f6 (by omega)) h13) ?_
  rintro ⟨L14, y8⟩ ⟨h14, e8⟩
  have e8 : y8 = y7 := e8
  subst e8
  have h14 : ln c 67 L14 := h14
  refine ok_new (fr_s f6 (by omega)) h14 rfl fun L15 h15 => ?_
  rw [ok_2]
  refine ok_w (s_placingInit (E := E) hk g7 (fr_s f6 (by omega)) h15) ?_
  rintro ⟨L16, y9⟩ ⟨h16, e9⟩
  have e9 : y9 = zFill y8 68 (fun _ => -1) (kN c + kD c) := e9
  have f9 : fr 70 y9 := by rw [e9]; exact fr_fill (fr_s f6 (by omega)) (by omega)
  have c9 : ∀ k j, k ≠ 68 → y9.1 k j = y8.1 k j := fun k j h => by rw [e9, zf_ne _ _ _ _ _ h]
  have d9 : ∀ j, y9.1 68 j = if j < kN c + kD c then (-1 : Int) else 0 := fun j => by rw [e9, zf1, if_pos rfl, f6.1 68 j (by omega)]
  have h16 : ln c 70 L16 := h16
  clear e9
  have g9 : gr1 c y9 := gr1_c (fun j => c9 1 j (by omega)) g7
  refine ok_new f9 h16 rfl fun L17 h17 => ?_
  rw [ok_2]
  refine ok_w (s_routerInit (E := E) hk g9 (fr_s f9 (by omega)) h17) ?_
  rintro ⟨L18, y10⟩ ⟨h18, e10⟩
  have e10 : y10 = zPut y9 70 4 (kH c) := e10
  have f10 : fr 81 y10 := by rw [e10]; exact fr_put (fr_s f9 (by omega)) (by omega)
  have c10 : ∀ k j, k ≠ 70 → y10.1 k j = y9.1 k j := fun k j h => by rw [e10, zp_ne _ _ _ _ _ h]
  have d10 : ∀ j, y10.1 70 j = if j = 4 then (kH c : Int) else 0 := fun j => by rw [e10, zp1, if_pos rfl, f9.1 70 j (by omega)]
  have h18 : ln c 81 L18 := h18
  clear e10
  have g10 : gr1 c y10 := gr1_c (fun j => c10 1 j (by omega)) g9
  refine ok_new f10 h18 rfl fun L19 h19 => ?_
  rw [ok_2]
  refine ok_w (s_fieldInit (E := E) hk g10 (fr_s f10 (by omega)) h19) ?_
  rintro ⟨L20, y11⟩ ⟨h20, e11⟩
  have e11 : y11 = y10 := e11
  subst e11
  have call : ∀ k j, k ≠ 22 → k ≠ 30 → k ≠ 68 → k ≠ 70 → y11.1 k j = y4.1 k j := fun k j a b d e => (c10 k j e).trans ((c9 k j d).trans ((c6 k j b).trans (c5 k j a)))
  refine (ok_s _ _).2 ⟨h20, fr_s f10 (by omega), fcI_c (fun k j a b => call k j (by omega) (by omega) (by omega) (by omega)) fc, fun k j hkj => ?_⟩
  show y11.1 k j = _
  unfold fcV
  by_cases a0 : k = 0
  · subst a0
    rw [call 0 j (by omega) (by omega) (by omega) (by omega), v2 0 j (by omega)]; rfl
  · rw [if_neg a0]
    by_cases a1 : k = 22
    · subst a1
      rw [if_pos rfl, c10 22 j (by omega), c9 22 j (by omega), c6 22 j (by omega), d5 j]
    · rw [if_neg a1]
      by_cases a2 : k = 30
      · subst a2
        rw [if_pos rfl, c10 30 j (by omega), c9 30 j (by omega), d6 j]
      · rw [if_neg a2]
        by_cases a3 : k = 68
        · subst a3
          rw [if_pos rfl, c10 68 j (by omega), d9 j]
        · rw [if_neg a3]
          by_cases a4 : k = 70
          · subst a4
            rw [if_pos rfl, d10 j]
          · rw [if_neg a4, call k j a1 a2 a3 a4, v2 k j hkj, if_neg a0]
end
-- C19
section
variable {E : gEv} {c : gCf} {L : Nat → Nat}
theorem zr_putk (z : gZ) (k : Nat) (f : Nat → Int) (J : Nat) (v : Int) : zPut (zRow z k f) k J v = zRow z k (fun i => if i = J then v else f i) := by
  rw [zp_row, zr_eq, zr_row]
theorem kcl_br {α : Type} (a : Int) (m : Nat) (f : Int → α) : (if 1 ≤ a then (if a ≤ (m : Int) then f a else f (m : Int)) else f 1) = f ((kcl a m : Nat) : Int) := by
  unfold kcl
  by_cases h1 : 1 ≤ a
  · rw [if_pos h1, if_neg (show ¬ a < 1 by omega)]
    by_cases h2 : a ≤ (m : Int)
    · rw [if_pos h2, if_neg (show ¬ (m : Int) < a by omega), show ((a.toNat : Nat) : Int) = a by omega]
    · rw [if_neg h2, if_pos (show (m : Int) < a by omega)]
  · rw [if_neg h1, if_pos (show a < 1 by omega)]; rfl
def pMi (k j : Nat) : Prop := (k = 94 ∧ (j ≤ 13 ∨ j = 18)) ∨ p3 k j
theorem s_j717 {z : gZ} {f : Nat → Int} (hk : kOk c) (h0 : f 0 = kC c) (h1 : f 1 = kR c) (h2 : f 2 = kE c) (hl : ln c 165 L) (hz : ∀ w, z.1 140 w = 0) : zOk (q_Model_init_j717 E L (kT c) (zRow z 94 f)) (fun r => r.1 = L ∧ gr2 c r.2 ∧ r.2.1 94 18 = -1 ∧ nbI c 140 138 139 (kZ c) (kJ c) r.2 ∧ r.2.2 = z.2 ∧ ∀ k j, ¬ pMi k j → r.2.1 k j = (zRow z 94 f).1 k j) := by
  have hN := kN_b hk
  have hD := kD_b hk
  have hP := kP_b hk
  have hF := kF_b hk
  have hW := kW_b hk
  have hJ := kJ_b hk
  have hX := kX_b hk
  have hY := kY_b hk
  have hZ := kZ_b hk
  have hB := kB_b hk
  have hb1 := hk.1
  have hb4 := hk.2.2.2
  have eN : (kC c : Int) * (kR c : Int) = (kN c : Int) := by unfold kN; simp only [Int.natCast_mul]
  have eP : (kN c : Int) * (kE c : Int) = (kP c : Int) := by unfold kP; simp only [Int.natCast_mul]
  have eD : (4 : Int) * ((kC c : Int) + (kR c : Int)) = (kD c : Int) := by unfold kD; simp only [Int.natCast_mul, Int.natCast_add, Int.cast_ofNat_Int]
  have eF : ((kR c : Int) + 1) * (kC c : Int) * (kT c : Int) = (kF c : Int) := by unfold kF; rw [Nat.mul_comm (kC c)]; simp only [Int.natCast_mul, Int.natCast_add, Int.cast_ofNat_Int]
  have eW : (kF c : Int) + (kR c : Int) * ((kC c : Int) + 1) * (kT c : Int) = (kW c : Int) := by rw [kW_e]; simp only [Int.natCast_mul, Int.natCast_add, Int.cast_ofNat_Int]
  have eX : (42 : Int) + 4 * (kT c : Int) = (kX c : Int) := by unfold kX; simp only [Int.natCast_mul, Int.natCast_add, Int.cast_ofNat_Int]
  have e6 : (6 : Int) + (kT c : Int) = ((6 + kT c : Nat) : Int) := by omega
  have eY : (kP c : Int) * (kX c : Int) = (kY c : Int) := by unfold kY; simp only [Int.natCast_mul]
  have eZ : (kY c : Int) + (kD c : Int) * ((6 + kT c : Nat) : Int) = (kZ c : Int) := by unfold kZ; simp only [Int.natCast_mul, Int.natCast_add]
  have eB : (kZ c : Int) + ((kC c : Int) + 1) * ((kR c : Int) + 1) * (kT c : Int) * 6 = (kB c : Int) := by unfold kB kJ; simp only [Int.natCast_mul, Int.natCast_add, Int.cast_ofNat_Int]
  unfold q_Model_init_j717
  refine ok_let _ (zr_putk _ _ _ _ _) ?_
  rw [zr_eq]
  simp only [reduceIte, Nat.reduceEqDiff, h0, h1]
  rw [eN, if_pos (by omega)]
  refine ok_let _ (zr_putk _ _ _ _ _) ?_
  rw [zr_eq]
  simp only [reduceIte, Nat.reduceEqDiff, h2]
  rw [eP, if_pos (by omega)]
  refine ok_let _ (zr_putk _ _ _ _ _) ?_
  rw [zr_eq]
  simp only [reduceIte, Nat.reduceEqDiff, h0, h1]
  rw [eD, if_pos (by omega)]
  refine ok_let _ (zr_putk _ _ _ _ _) ?_
  rw [zr_eq]
  simp only [reduceIte, Nat.reduceEqDiff, h0, h1]
  rw [eF, if_pos (by omega)]
  refine ok_let _ (zr_putk _ _ _ _ _) ?_
  rw [zr_eq]
  simp only [reduceIte, Nat.reduceEqDiff, h0, h1]
  rw [eW, if_pos (by omega)]
  refine ok_let _ (zr_putk _ _ _ _ _) ?_
  rw [zr_eq]
  simp only [reduceIte, Nat.reduceEqDiff]
  rw [eX, if_pos (by omega)]
  refine ok_let _ (zr_putk _ _ _ _ _) ?_
  rw [zr_eq]
  simp only [reduceIte, Nat.reduceEqDiff]
  rw [e6, if_pos (by omega)]
  refine ok_let _ (zr_putk _ _ _ _ _) ?_
  rw [zr_eq]
  simp only [reduceIte, Nat.reduceEqDiff]
  rw [eY, if_pos (by omega)]
  refine ok_let _ (zr_putk _ _ _ _ _) ?_
  rw [zr_eq]
  simp only [reduceIte, Nat.reduceEqDiff]
  rw [eZ, if_pos (by omega)]
  refine ok_let _ (zr_putk _ _ _ _ _) ?_
  rw [zr_eq]
  simp only [reduceIte, Nat.reduceEqDiff, h0, h1]
  rw [eB, if_pos (by omega)]
  refine ok_let _ (zr_putk _ _ _ _ _) ?_
  refine ok_let _ (zr_putk _ _ _ _ _) ?_
  generalize hs : zRow z 94 _ = s
  have s1 : ∀ j, s.1 94 j = if j = 18 then -1 else if j = 13 then (kB c : Int) else if j = 12 then (kZ c : Int) else if j = 11 then (kY c : Int) else if j = 10 then ((6 + kT c : Nat) : Int) else if j = 9 then (kX c : Int) else if j = 8 then (kW c : Int) else if j = 7 then (kF c : Int) else if j = 6 then (kD c : Int) else if j = 5 then (kP c : Int) else if j = 4 then (kN c : Int) else if j = 3 then (kT c : Int) else f j := fun j => by rw [← hs, zr_eq]
  have s0 : ∀ k j, k ≠ 94 → s.1 k j = z.1 k j := fun k j h => by rw [← hs, zr_ne _ _ _ _ h]
  have s2 : s.2 = z.2 := by rw [← hs]; rfl
  clear hs
  have m0 : s.1 94 0 = kC c := (s1 0).trans h0
  have m1 : s.1 94 1 = kR c := (s1 1).trans h1
  have m2 : s.1 94 2 = kE c := (s1 2).trans h2
  have hL : mL L := ⟨(ln_at hl (by omega)).trans (kL_138 c), (ln_at hl (by omega)).trans (kL_139 c), (ln_at hl (by omega)).trans (kL_140 c)⟩
  rw [ok_1]
  refine ok_w (s_neighbours (E := E) hk hL ⟨m0, m1, s1 3, s1 7, s1 12⟩ (fun w => (s0 140 w (by omega)).trans (hz w))) fun r ⟨r1, r2⟩ => ?_
  have t : ∀ j, r.1 94 j = s.1 94 j := fun j => r1.2 94 j (by unfold p3; omega)
  refine (ok_s _ _).2 ⟨rfl, ?_, (t 18).trans (s1 18), r2, r1.1.trans s2, fun k j hn => ?_⟩
  · exact ⟨(t 0).trans m0, (t 1).trans m1, (t 2).trans m2, (t 3).trans (s1 3), (t 4).trans (s1 4), (t 5).trans (s1 5), (t 6).trans (s1 6), (t 7).trans (s1 7), (t 8).trans (s1 8), (t 9).trans (s1 9), (t 10).trans (s1 10), (t 11).trans (s1 11), (t 12).trans (s1 12), (t 13).trans (s1 13)⟩
  · unfold pMi at hn
    show r.1 k j = _
    rw [r1.2 k j (fun h => hn (Or.inr h))]
    by_cases e : k = 94
    · subst e
      rw [s1 j, zr_eq, if_neg (by omega), if_neg (by omega), if_neg (by omega), if_neg (by omega), if_neg (by omega), if_neg (by omega), if_neg (by omega), if_neg (by omega), if_neg (by omega), if_neg (by omega), if_neg (by omega), if_neg (by omega)]
    · rw [s0 k j e, zr_ne _ _ _ _ e]
end
-- C20
section
variable {E : gEv} {c : gCf} {L : Nat → Nat}
set_option maxRecDepth 4000 in
theorem kL_hi (k : Nat) (h : 165 ≤ k) : kL c k = 0 := by
  unfold kL
  split <;> first | rfl | omega
theorem kcl_6 {α : Type} (a : Int) (f : Int → α) : (if 1 ≤ a then (if a ≤ 6 then f a else f 6) else f 1) = f ((kcl a 6 : Nat) : Int) := kcl_br a 6 f
theorem kcl_4 {α : Type} (a : Int) (f : Int → α) : (if 1 ≤ a then (if a ≤ 4 then f a else f 4) else f 1) = f ((kcl a 4 : Nat) : Int) := kcl_br a 4 f
theorem kcl_10 {α : Type} (a : Int) (f : Int → α) : (if 1 ≤ a then (if a ≤ 10 then f a else f 10) else f 1) = f ((kcl a 10 : Nat) : Int) := kcl_br a 10 f
/-- the reference's constructor behind the class's -/
theorem s_modelInit {z : gZ} {a0 a1 a2 a3 : Int} (hc : c = cf a0 a1 a2 a3) (hf : fr 94 z) (hl : ln c 95 L) : zOk (q_Model_init E L a0 a1 a2 a3 z) (fun r => ln c 165 r.1 ∧ gr2 c r.2 ∧ r.2.1 94 18 = -1 ∧ nbI c 140 138 139 (kZ c) (kJ c) r.2 ∧ r.2.2 = z.2 ∧ ∀ k j, ¬ pMi k j → r.2.1 k j = z.1 k j) := by
  have hk : kOk c := hc ▸ cf_ok a0 a1 a2 a3
  have n0 : ((kcl a0 6 : Nat) : Int) = kC c := by rw [hc]; rfl
  have n1 : ((kcl a1 6 : Nat) : Int) = kR c := by rw [hc]; rfl
  have n2 : ((kcl a2 4 : Nat) : Int) = kE c := by rw [hc]; rfl
  have n3 : ((kcl a3 10 : Nat) : Int) = kT c := by rw [hc]; rfl
  have f0 : fr 95 z := fr_s hf (by omega)
  unfold q_Model_init
  refine ok_new (fr_s f0 (by omega)) hl rfl fun L95 h95 => ?_
  refine ok_new (fr_s f0 (by omega)) h95 rfl fun L96 h96 => ?_
  refine ok_new (fr_s f0 (by omega)) h96 rfl fun L97 h97 => ?_
  refine ok_new (fr_s f0 (by omega)) h97 rfl fun L98 h98 => ?_
  refine ok_new (fr_s f0 (by omega)) h98 rfl fun L99 h99 => ?_
  refine ok_new (fr_s f0 (by omega)) h99 rfl fun L100 h100 => ?_
  refine ok_new (fr_s f0 (by omega)) h100 rfl fun L101 h101 => ?_
  refine ok_new (fr_s f0 (by omega)) h101 rfl fun L102 h102 => ?_
  refine ok_new (fr_s f0 (by omega)) h102 rfl fun L103 h103 => ?_
  refine ok_new (fr_s f0 (by omega)) h103 rfl fun L104 h104 => ?_
  refine ok_new (fr_s f0 (by omega)) h104 rfl fun L105 h105 => ?_
  unfold q_Model_init_s1
  refine ok_new (fr_s f0 (by omega)) h105 rfl fun L106 h106 => ?_
  refine ok_new (fr_s f0 (by omega)) h106 rfl fun L107 h107 => ?_
  refine ok_new (fr_s f0 (by omega)) h107 rfl fun L108 h108 => ?_
  refine ok_new (fr_s f0 (by omega)) h108 rfl fun L109 h109 => ?_
  refine ok_new (fr_s f0 (by omega)) h109 rfl fun L110 h110 => ?_
  refine ok_new (fr_s f0 (by omega)) h110 rfl fun L111 h111 => ?_
  refine ok_new (fr_s f0 (by omega)) h111 rfl fun L112 h112 => ?_
  refine ok_new (fr_s f0 (by omega)) h112 rfl fun L113 h113 => ?_
  refine ok_new (fr_s f0 (by omega)) h113 rfl fun L114 h114 => ?_
  refine ok_new (fr_s f0 (by omega)) h114 rfl fun L115 h115 => ?_
  refine ok_new (fr_s f0 (by omega)) h115 rfl fun L116 h116 => ?_
  unfold q_Model_init_s2
  refine ok_new (fr_s f0 (by omega)) h116 rfl fun L117 h117 => ?_
  refine ok_new (fr_s f0 (by omega)) h117 rfl fun L118 h118 => ?_
  refine ok_new (fr_s f0 (by omega)) h118 rfl fun L119 h119 => ?_
  refine ok_new (fr_s f0 (by omega)) h119 rfl fun L120 h120 => ?_
  refine ok_new (fr_s f0 (by omega)) h120 rfl fun L121 h121 => ?_
  refine ok_new (fr_s f0 (by omega)) h121 rfl fun L122 h122 => ?_
  refine ok_new (fr_s f0 (by omega)) h122 rfl fun L123 h123 => ?_
  refine ok_new (fr_s f0 (by omega)) h123 rfl fun L124 h124 => ?_
  refine ok_new (fr_s f0 (by omega)) h124 rfl fun L125 h125 => ?_
  refine ok_new (fr_s f0 (by omega)) h125 rfl fun L126 h126 => ?_
  refine ok_new (fr_s f0 (by omega)) h126 rfl fun L127 h127 => ?_
  unfold q_Model_init_s3
  refine ok_new (fr_s f0 (by omega)) h127 rfl fun L128 h128 => ?_
  refine ok_new (fr_s f0 (by omega)) h128 rfl fun L129 h129 => ?_
  refine ok_new (fr_s f0 (by omega)) h129 rfl fun L130 h130 => ?_
  refine ok_new (fr_s f0 (by omega)) h130 rfl fun L131 h131 => ?_
  refine ok_new (fr_s f0 (by omega)) h131 rfl fun L132 h132 => ?_
  refine ok_new (fr_s f0 (by omega)) h132 rfl fun L133 h133 => ?_
  refine ok_new (fr_s f0 (by omega)) h133 rfl fun L134 h134 => ?_
  refine ok_new (fr_s f0 (by omega)) h134 rfl fun L135 h135 => ?_
  refine ok_new (fr_s f0 (by omega)) h135 rfl fun L136 h136 => ?_
  refine ok_new (fr_s f0 (by omega)) h136 rfl fun L137 h137 => ?_
  refine ok_new (fr_s f0 (by omega)) h137 rfl fun L138 h138 => ?_
  unfold q_Model_init_s4
  refine ok_new (fr_s f0 (by omega)) h138 rfl fun L139 h139 => ?_
  refine ok_new (fr_s f0 (by omega)) h139 rfl fun L140 h140 => ?_
  refine ok_new (fr_s f0 (by omega)) h140 rfl fun L141 h141 => ?_
  refine ok_new (fr_s f0 (by omega)) h141 rfl fun L142 h142 => ?_
  refine ok_new (fr_s f0 (by omega)) h142 rfl fun L143 h143 => ?_
  refine ok_new (fr_s f0 (by omega)) h143 rfl fun L144 h144 => ?_
  refine ok_new (fr_s f0 (by omega)) h144 rfl fun L145 h145 => ?_
  refine ok_new (fr_s f0 (by omega)) h145 rfl fun L146 h146 => ?_
  refine ok_new (fr_s f0 (by omega)) h146 rfl fun L147 h147 => ?_
  refine ok_new (fr_s f0 (by omega)) h147 rfl fun L148 h148 => ?_
  refine ok_new (fr_s f0 (by omega)) h148 rfl fun L149 h149 => ?_
  unfold q_Model_init_s5
  refine ok_new (fr_s f0 (by omega)) h149 rfl fun L150 h150 => ?_
  refine ok_new (fr_s f0 (by omega)) h150 rfl fun L151 h151 => ?_
  refine ok_new (fr_s f0 (by omega)) h151 rfl fun L152 h152 => ?_
  refine ok_new (fr_s f0 (by omega)) h152 rfl fun L153 h153 => ?_
  refine ok_new (fr_s f0 (by omega)) h153 rfl fun L154 h154 => ?_
  refine ok_new (fr_s f0 (by omega)) h154 rfl fun L155 h155 => ?_
  refine ok_new (fr_s f0 (by omega)) h155 rfl fun L156 h156 => ?_
  refine ok_new (fr_s f0 (by omega)) h156 rfl fun L157 h157 => ?_
  refine ok_new (fr_s f0 (by omega)) h157 rfl fun L158 h158 => ?_
  refine ok_new (fr_s f0 (by omega)) h158 rfl fun L159 h159 => ?_
  refine ok_new (fr_s f0 (by omega)) h159 rfl fun L160 h160 => ?_
  unfold q_Model_init_s6
  refine ok_new (fr_s f0 (by omega)) h160 rfl fun L161 h161 => ?_
  refine ok_new (fr_s f0 (by omega)) h161 rfl fun L162 h162 => ?_
  refine ok_new (fr_s f0 (by omega)) h162 rfl fun L163 h163 => ?_
  refine ok_new (fr_s f0 (by omega)) h163 rfl fun L164 h164 => ?_
  rw [kcl_6 a0 (fun v => q_Model_init_j641 E L164 a1 a2 a3 v z), n0]
  unfold q_Model_init_j641
  refine ok_let _ (zp_row z 94 0 _) ?_
  generalize hz1 : zRow z 94 _ = z1
  rw [kcl_6 a1 (fun v => q_Model_init_j666 E L164 a2 a3 v z1), n1, ← hz1]
  unfold q_Model_init_j666
  refine ok_let _ (zr_putk _ _ _ _ _) ?_
  generalize hz2 : zRow z 94 _ = z2
  rw [kcl_4 a2 (fun v => q_Model_init_j689 E L164 a3 v z2), n2, ← hz2]
  unfold q_Model_init_j689
  refine ok_let _ (zr_putk _ _ _ _ _) ?_
  generalize hz3 : zRow z 94 _ = z3
  rw [kcl_10 a3 (fun v => q_Model_init_j717 E L164 v z3), n3, ← hz3]
  refine ok_w (s_j717 (E := E) hk rfl rfl rfl h164 (fun w => f0.1 140 w (by omega))) fun r ⟨r1, r2, r3, r4, r5, r6⟩ => ?_
  refine ⟨by rw [r1]; exact h164, r2, r3, r4, r5, fun k j hn => ?_⟩
  rw [r6 k j hn]
  by_cases e : k = 94
  · subst e
    have hn' := hn
    unfold pMi at hn'
    rw [zr_eq, if_neg (by omega), if_neg (by omega), if_neg (by omega)]
  · rw [zr_ne _ _ _ _ e]
/-- both constructors: the grid, the lengths, the first state -/
theorem s_both {a0 a1 a2 a3 : Int} (hc : c = cf a0 a1 a2 a3) {z : gZ} (hf : fr 0 z) (hl : ln c 1 L) : zOk (q_Face_init E L a0 a1 a2 a3 z) (fun r => fr 94 r.2 ∧ ∀ L', L' = zZrL r.1 94 107 → zOk (q_Model_init E L' a0 a1 a2 a3 r.2) (fun q => q.1 = kL c ∧ (Gr c q.2 ∧ ∀ j, j < kJ c → jOk c q.2 j) ∧ q.2.1 94 18 = -1 ∧ (∀ k j, q.2.2 k j = 0) ∧ ∀ k j, (k < 1 ∨ 10 ≤ k) → ¬ pMi k j → q.2.1 k j = fcV c k j)) := by
  have hk : kOk c := hc ▸ cf_ok a0 a1 a2 a3
  refine ok_w (s_faceInit (E := E) hc hf hl) fun r ⟨r1, r2, r3, r4⟩ => ⟨r2, fun L' hL' => ?_⟩
  have h95 : ln c 95 L' := by rw [hL']; exact ln_new r1 rfl
  refine ok_w (s_modelInit (E := E) hc r2 h95) fun q ⟨q1, q2, q3, q4, q5, q6⟩ => ?_
  have lo : ∀ k j, k ≤ 93 → q.2.1 k j = r.2.1 k j := fun k j h => q6 k j (by unfold pMi p3; omega)
  have fc := fcI_c (fun k j a b => lo k j (by omega)) r3
  refine ⟨?_, ⟨⟨hk, fc.1, q2, fc.2.1, gr4_of hk fc.2.2.1, gr5_of hk fc.2.2.1 fc.2.2.2.2 q4, fc.2.2.2.1⟩, fc.2.2.1⟩, q3, fun k j => by rw [q5]; exact r2.2 k j, fun k j h hn => (q6 k j hn).trans (r4 k j h)⟩
  funext k
  rw [q1 k]
  by_cases e : k < 165
  · rw [if_pos e]
  · rw [if_neg e]
    exact (kL_hi k (by omega)).symm
end
-- C21
section
variable {E : gEv} {c : gCf} {L : Nat → Nat}
/-- the first state keeps the text's and the field's invariants -/
def z00 (c : gCf) (z : gZ) : Prop := ∀ k j, (k < 1 ∨ 10 ≤ k) → ¬ pMi k j → z.1 k j = fcV c k j
theorem z0_at {z : gZ} (h : z00 c z) {k j : Nat} (h1 : 10 ≤ k) (h2 : k ≠ 22) (h3 : k ≠ 30) (h4 : k ≠ 68) (h5 : k ≠ 70) (h6 : ¬ pMi k j) : z.1 k j = 0 := by
  rw [h k j (Or.inr h1) h6]
  unfold fcV
  rw [if_neg (by omega), if_neg h2, if_neg h3, if_neg h4, if_neg h5]
theorem iT_0 {z : gZ} (h : z00 c z) : iT 0 z := by
  refine ⟨by omega, z0_at h (by omega) (by omega) (by omega) (by omega) (by omega) (by unfold pMi p3; omega), z0_at h (by omega) (by omega) (by omega) (by omega) (by omega) (by unfold pMi p3; omega), fun j hj => by omega, fun j hj => ?_⟩
  have a : z.1 95 j = 0 := z0_at h (by omega) (by omega) (by omega) (by omega) (by omega) (by unfold pMi p3; omega)
  have b : z.1 12 j = 0 := z0_at h (by omega) (by omega) (by omega) (by omega) (by omega) (by unfold pMi p3; omega)
  rw [a, b]
  exact ⟨⟨by omega, by omega⟩, (zByte_s 0 (by omega)).symm⟩
theorem JF_0 {z : gZ} (h : z00 c z) : JF c 0 z := by
  have e : ∀ k j, (81 ≤ k ∧ k ≤ 93) ∨ (152 ≤ k ∧ k ≤ 159) ∨ (k = 94 ∧ 97 ≤ j ∧ j ≤ 99) → z.1 k j = 0 := fun k j hk => z0_at h (by omega) (by omega) (by omega) (by omega) (by omega) (by unfold pMi p3; omega)
  refine ⟨⟨⟨fun i hi => Or.inl (e _ _ (by omega)), fun i hi => Or.inl (e _ _ (by omega)), fun i hi => Or.inl (e _ _ (by omega)), fun i hi => Or.inl (e _ _ (by omega))⟩, Or.inl (e _ _ (by omega))⟩, ⟨?_, Or.inl (e _ _ (by omega))⟩, fun i hi => ?_, fun p hp => ?_, fun x hx => ?_, ?_, ?_, ?_⟩
  · unfold RB
    repeat' constructor
    all_goals first | (intro i hi; exact Or.inl (e _ _ (by omega))) | skip
  · rw [e 82 i (by omega), e 154 i (by omega)]
  · rw [e 83 p (by omega), e 158 p (by omega)]
  · rw [e 84 x (by omega), e 155 x (by omega)]
  · rw [e 81 13 (by omega), e 94 99 (by omega)]
  · rw [e 81 13 (by omega)]; omega
  · rw [e 81 13 (by omega)]; omega
end
