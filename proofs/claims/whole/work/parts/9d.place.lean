set_option linter.unusedVariables false
-- LR
section
variable {E : gEv} {c : gCf}
/-- what stands at a place in the beginning -/
def pY (c : gCf) (nC nI nO q : Nat) : Int := if q < nC then (q : Int) else if kN c ≤ q ∧ q < kN c + nI then (q : Int) else if kN c + nI ≤ q ∧ q < kN c + nI + nO then ((kD c + q - nI : Nat) : Int) else -1
def pW (c : gCf) (nI x : Nat) : Int := if x < kN c + kD c then (x : Int) else ((x + nI - kD c : Nat) : Int)
section
variable {nC nI nO : Nat} {a b : gZ}
theorem pY_k (hC : nC ≤ kN c) (hI : nI + nO ≤ kD c) {y w : Nat → Int} (hy : ∀ q, q < kN c + kD c → y q = pY c nC nI nO q) (hw : ∀ x, uT c nC nI nO x → w x = pW c nI x) : PK c nC nI nO y w := by
  refine ⟨hC, by omega, by omega, fun x hx => ?_, fun q hq => ?_⟩
  · rw [hw x hx]
    unfold uT at hx
    unfold pW
    by_cases x1 : x < kN c + kD c
    · refine ⟨x, by rw [if_pos x1], x1, ?_, Iff.rfl⟩
      rw [hy x x1]
      unfold pY
      by_cases x2 : x < nC
      · rw [if_pos x2]
      · rw [if_neg x2, if_pos (by omega)]
    · refine ⟨x + nI - kD c, by rw [if_neg x1], by omega, ?_, by omega⟩
      rw [hy _ (by omega)]
      unfold pY
      rw [if_neg (by omega), if_neg (by omega), if_pos (by omega)]
      omega
  · rw [hy q hq]
    unfold pY
    by_cases x2 : q < nC
    · rw [if_pos x2]
      refine Or.inr ⟨q, Or.inl x2, rfl, ?_⟩
      rw [hw q (Or.inl x2)]; unfold pW; rw [if_pos hq]
    · rw [if_neg x2]
      by_cases x3 : kN c ≤ q ∧ q < kN c + nI
      · rw [if_pos x3]
        refine Or.inr ⟨q, Or.inr (Or.inl x3), rfl, ?_⟩
        rw [hw q (Or.inr (Or.inl x3))]; unfold pW; rw [if_pos hq]
      · rw [if_neg x3]
        by_cases x4 : kN c + nI ≤ q ∧ q < kN c + nI + nO
        · rw [if_pos x4]
          have u : uT c nC nI nO (kD c + q - nI) := Or.inr (Or.inr (by omega))
          refine Or.inr ⟨kD c + q - nI, u, rfl, ?_⟩
          rw [hw _ u]; unfold pW; rw [if_neg (by omega)]; omega
        · rw [if_neg x4]; exact Or.inl rfl
theorem s_putAt {p x : Nat} (hp : p < kN c + kD c) (hx : x < kN c + 2 * kD c) : q_Placing_set E (kL c) (p : Int) (x : Int) a = some (zPut (zPut a 68 p (x : Int)) 69 x (p : Int)) := by
  unfold q_Placing_set
  rw [kL_68, if_pos (by omega), let_s, if_neg (by omega), kL_69, if_pos (by omega), let_s, gtN, gtN]
/-- the class's first places, before they are measured -/
theorem s_beginC (hk : kOk c) (h16 : a.1 53 16 = nC) (h12 : a.1 30 12 = nI) (h13 : a.1 30 13 = nO) (h4 : a.1 1 4 = kN c) (h5 : a.1 1 5 = kD c) (hC : nC ≤ kN c) (hI : nI + nO ≤ kD c) (h68 : ∀ q, q < kN c + kD c → a.1 68 q = -1) : ∃ s, zOff (fun k j => k = 68 ∨ k = 69) a s ∧ PZ c nC nI nO s ∧ (∀ q, q < kN c + kD c → s.1 68 q = pY c nC nI nO q) ∧ ∀ v, q_Placing_measure E (kL c) s = some v → q_Placing_begin E (kL c) a = some (zPut s 67 4 v) := by
  have hN := kN_b hk
  have hD := kD_b hk
  have L1 : zOk (gIter (fun y => q_Placing_begin_2 E (kL c) y.1 y.2) gN (0, a)) (fun s => zOff (fun k j => k = 68 ∨ k = 69) a s ∧ (∀ q, q < kN c + kD c → s.1 68 q = pY c nC 0 0 q) ∧ ∀ x, uT c nC 0 0 x → s.1 69 x = pW c nI x) := by
    refine it_for (fun (i : Nat) (t : gZ) => ((i : Int), t)) (fun i t => zOff (fun k j => k = 68 ∨ k = 69) a t ∧ (∀ q, q < kN c + kD c → t.1 68 q = pY c i 0 0 q) ∧ ∀ x, uT c i 0 0 x → t.1 69 x = pW c nI x) 0 nC rfl ⟨off_r, fun q hq => ?_, fun x hx => by unfold uT at hx; omega⟩ (by omega) (by omega) ?_ ?_
    · rw [h68 q hq]; unfold pY; rw [if_neg (by omega), if_neg (by omega), if_neg (by omega)]
    · rintro i t - hi ⟨t1, t2, t3⟩
      show zOk (q_Placing_begin_2 E (kL c) (i : Int) t) _
      unfold q_Placing_begin_2
      rw [t1.2 53 16 (by omega), h16, if_neg (by omega), s_putAt (by omega) (by omega), b1_s, ok_l]
      refine ok_inl (Or.inl ⟨_, by rw [show ((i + 1 : Nat) : Int) = (i : Int) + 1 by omega], off_t t1 (off_t (off_put (Or.inl rfl)) (off_put (Or.inr rfl))), fun q hq => ?_, fun x hx => ?_⟩)
      · rw [zp_n (by omega), zp1, if_pos rfl]
        have g := t2 q hq
        unfold pY at g ⊢
        by_cases y : q = i
        · rw [if_pos y, if_pos (by omega), y]
        · rw [if_neg y, g]
          by_cases w : q < i
          · rw [if_pos w, if_pos (by omega)]
          · rw [if_neg w, if_neg (show ¬ q < i + 1 by omega)]
      · rw [zp1, if_pos rfl]
        unfold uT at hx
        by_cases y : x = i
        · rw [if_pos y, y]; unfold pW; rw [if_pos (by omega)]
        · rw [if_neg y, zp_n (by omega)]; exact t3 x (Or.inl (by omega))
    · rintro t ht
      show zOk (q_Placing_begin_2 E (kL c) (nC : Int) t) _
      unfold q_Placing_begin_2
      rw [ht.1.2 53 16 (by omega), h16, if_pos (by omega)]
      exact ok_inr ⟨t, rfl, ht⟩
  obtain ⟨a1, p1, o1, y1, w1⟩ := L1
  have L2 : zOk (gIter (fun y => q_Placing_begin_38 E (kL c) (nI : Int) y.1 y.2) gN (0, a1)) (fun s => zOff (fun k j => k = 68 ∨ k = 69) a s ∧ (∀ q, q < kN c + kD c → s.1 68 q = pY c nC nI 0 q) ∧ ∀ x, uT c nC nI 0 x → s.1 69 x = pW c nI x) := by
    refine it_for (fun (i : Nat) (t : gZ) => ((i : Int), t)) (fun i t => zOff (fun k j => k = 68 ∨ k = 69) a t ∧ (∀ q, q < kN c + kD c → t.1 68 q = pY c nC i 0 q) ∧ ∀ x, uT c nC i 0 x → t.1 69 x = pW c nI x) 0 nI rfl ⟨o1, y1, w1⟩ (by omega) (by omega) ?_ ?_
    · rintro i t - hi ⟨t1, t2, t3⟩
      show zOk (q_Placing_begin_38 E (kL c) (nI : Int) (i : Int) t) _
      unfold q_Placing_begin_38
      rw [if_neg (by omega), t1.2 1 4 (by omega), h4, if_pos (by omega), show (kN c : Int) + (i : Int) = ((kN c + i : Nat) : Int) by omega, s_putAt (by omega) (by omega), b1_s, ok_l]
      refine ok_inl (Or.inl ⟨_, by rw [show ((i + 1 : Nat) : Int) = (i : Int) + 1 by omega], off_t t1 (off_t (off_put (Or.inl rfl)) (off_put (Or.inr rfl))), fun q hq => ?_, fun x hx => ?_⟩)
      · rw [zp_n (by omega), zp1, if_pos rfl]
        have g := t2 q hq
        unfold pY at g ⊢
        by_cases y : q = kN c + i
        · rw [if_pos y, if_neg (by omega), if_pos (by omega), y]
        · rw [if_neg y, g]
          by_cases w : q < nC
          · rw [if_pos w, if_pos w]
          · rw [if_neg w, if_neg w]
            by_cases u : kN c ≤ q ∧ q < kN c + i
            · rw [if_pos u, if_pos (by omega)]
            · rw [if_neg u, if_neg (show ¬ (kN c ≤ q ∧ q < kN c + (i + 1)) by omega), if_neg (by omega), if_neg (by omega)]
      · rw [zp1, if_pos rfl]
        unfold uT at hx
        by_cases y : x = kN c + i
        · rw [if_pos y, y]; unfold pW; rw [if_pos (by omega)]
        · rw [if_neg y, zp_n (by omega)]; exact t3 x (by unfold uT; omega)
    · rintro t ht
      show zOk (q_Placing_begin_38 E (kL c) (nI : Int) (nI : Int) t) _
      unfold q_Placing_begin_38
      rw [if_pos (by omega)]
      exact ok_inr ⟨t, rfl, ht⟩
  obtain ⟨a2, p2, o2, y2, w2⟩ := L2
  have L3 : zOk (gIter (fun y => q_Placing_begin_73 E (kL c) (nI : Int) y.1 y.2) gN (0, a2)) (fun s => zOff (fun k j => k = 68 ∨ k = 69) a s ∧ (∀ q, q < kN c + kD c → s.1 68 q = pY c nC nI nO q) ∧ ∀ x, uT c nC nI nO x → s.1 69 x = pW c nI x) := by
    refine it_for (fun (i : Nat) (t : gZ) => ((i : Int), t)) (fun i t => zOff (fun k j => k = 68 ∨ k = 69) a t ∧ (∀ q, q < kN c + kD c → t.1 68 q = pY c nC nI i q) ∧ ∀ x, uT c nC nI i x → t.1 69 x = pW c nI x) 0 nO rfl ⟨o2, y2, w2⟩ (by omega) (by omega) ?_ ?_
    · rintro i t - hi ⟨t1, t2, t3⟩
      show zOk (q_Placing_begin_73 E (kL c) (nI : Int) (i : Int) t) _
      unfold q_Placing_begin_73
      rw [t1.2 30 13 (by omega), h13, if_neg (by omega), t1.2 1 4 (by omega), h4, if_pos (by omega), t1.2 1 5 (by omega), h5, if_pos (by omega), show (kN c : Int) + (nI : Int) + (i : Int) = ((kN c + nI + i : Nat) : Int) by omega, show (kN c : Int) + (kD c : Int) + (i : Int) = ((kN c + kD c + i : Nat) : Int) by omega, s_putAt (by omega) (by omega), b1_s, ok_l]
      refine ok_inl (Or.inl ⟨_, by rw [show ((i + 1 : Nat) : Int) = (i : Int) + 1 by omega], off_t t1 (off_t (off_put (Or.inl rfl)) (off_put (Or.inr rfl))), fun q hq => ?_, fun x hx => ?_⟩)
      · rw [zp_n (by omega), zp1, if_pos rfl]
        have g := t2 q hq
        unfold pY at g ⊢
        by_cases y : q = kN c + nI + i
        · rw [if_pos y, if_neg (by omega), if_neg (by omega), if_pos (by omega)]; omega
        · rw [if_neg y, g]
          by_cases w : q < nC
          · rw [if_pos w, if_pos w]
          · rw [if_neg w, if_neg w]
            by_cases u : kN c ≤ q ∧ q < kN c + nI
            · rw [if_pos u, if_pos u]
            · rw [if_neg u, if_neg u]
              by_cases u' : kN c + nI ≤ q ∧ q < kN c + nI + i
              · rw [if_pos u', if_pos (by omega)]
              · rw [if_neg u', if_neg (by omega)]
      · rw [zp1, if_pos rfl]
        unfold uT at hx
        by_cases y : x = kN c + kD c + i
        · rw [if_pos y, y]; unfold pW; rw [if_neg (by omega)]; omega
        · rw [if_neg y, zp_n (by omega)]; exact t3 x (by unfold uT; omega)
    · rintro t ht
      show zOk (q_Placing_begin_73 E (kL c) (nI : Int) (nO : Int) t) _
      unfold q_Placing_begin_73
      rw [ht.1.2 30 13 (by omega), h13, if_pos (by omega)]
      exact ok_inr ⟨t, rfl, ht⟩
  obtain ⟨a3, p3, o3, y3, w3⟩ := L3
  refine ⟨a3, o3, pY_k hC hI y3 w3, y3, fun v hv => ?_⟩
  unfold q_Placing_begin
  rw [p1, b1_s, let_s, o1.2 30 12 (by omega), h12, p2, b1_s, p3, b1_s, hv, b1_s, let_s]
/-- the reference's first places -/
theorem s_placeM (hk : kOk c) (h66 : b.1 94 66 = nC) (h29 : b.1 94 29 = nI) (h30 : b.1 94 30 = nO) (h4 : b.1 94 4 = kN c) (h6 : b.1 94 6 = kD c) (hC : nC ≤ kN c) (hI : nI + nO ≤ kD c) : zOk (q_Model_place E (kL c) b) (fun s => zOff (fun k j => k = 136 ∨ k = 137) b s ∧ ∀ y : Nat → Int, (∀ q, q < kN c + kD c → y q = pY c nC nI nO q) → PM c y s) := by
  have hN := kN_b hk
  have hD := kD_b hk
  unfold q_Model_place
  have L1 : zOk (gIter (fun y => q_Model_place_2 E (kL c) y.1 y.2) gN (0, b)) (fun s => zOff (fun k j => k = 136) b s ∧ ∀ t, t < kN c → s.1 136 t = if t < nC then (t : Int) else -1) := by
    refine it_for (fun (i : Nat) (t : gZ) => ((i : Int), t)) (fun i t => zOff (fun k j => k = 136) b t ∧ ∀ n, n < i → t.1 136 n = if n < nC then (n : Int) else -1) 0 (kN c) rfl ⟨off_r, fun e he => by omega⟩ (by omega) (by omega) ?_ ?_
    · rintro i t - hi ⟨t1, t2⟩
      have fin : ∀ v : Int, v = (if i < nC then (i : Int) else -1) → zOk (q_Model_place_j28_2 E (kL c) (i : Int) (i : Int) v t) (fun y => (∃ s, y = .inl (((i + 1 : Nat) : Int), s) ∧ zOff (fun k j => k = 136) b s ∧ ∀ n, n < i + 1 → s.1 136 n = if n < nC then (n : Int) else -1) ∨ ∃ e : gZ, y = .inr e ∧ (zOff (fun k j => k = 136) b e ∧ ∀ t, t < kN c → e.1 136 t = if t < nC then (t : Int) else -1)) := fun v hv => by
        unfold q_Model_place_j28_2
        rw [kL_136, if_pos (by omega), ok_l, if_pos (by omega), ok_l, gtN]
        refine ok_inl (Or.inl ⟨_, by rw [show ((i + 1 : Nat) : Int) = (i : Int) + 1 by omega], off_t t1 (off_put rfl), fun n hn => ?_⟩)
        rw [zp1, if_pos rfl]
        by_cases y : n = i
        · rw [if_pos y, y]; exact hv
        · rw [if_neg y]; exact t2 n (by omega)
      show zOk (q_Model_place_2 E (kL c) (i : Int) t) _
      unfold q_Model_place_2
      rw [t1.2 94 4 (by omega), h4, if_neg (by omega), t1.2 94 66 (by omega), h66]
      by_cases x : i < nC
      · rw [if_neg (by omega)]; exact fin _ (by rw [if_pos x])
      · rw [if_pos (by omega)]; exact fin _ (by rw [if_neg x])
    · rintro t ht
      show zOk (q_Model_place_2 E (kL c) (kN c : Int) t) _
      unfold q_Model_place_2
      rw [ht.1.2 94 4 (by omega), h4, if_pos (by omega)]
      exact ok_inr ⟨t, rfl, ht⟩
  obtain ⟨b1, p1, o1, z1⟩ := L1
  rw [p1, b1_s]
  have L2 : zOk (gIter (fun y => q_Model_place_37 E (kL c) y.1 y.2) gN (0, b1)) (fun s => zOff (fun k j => k = 137) b1 s ∧ ∀ p, p < kD c → s.1 137 p = if p < nI then (p : Int) else if p < nI + nO then ((200 + p - nI : Nat) : Int) else -1) := by
    refine it_for (fun (i : Nat) (t : gZ) => ((i : Int), t)) (fun i t => zOff (fun k j => k = 137) b1 t ∧ ∀ p, p < i → t.1 137 p = if p < nI then (p : Int) else if p < nI + nO then ((200 + p - nI : Nat) : Int) else -1) 0 (kD c) rfl ⟨off_r, fun e he => by omega⟩ (by omega) (by omega) ?_ ?_
    · rintro i t - hi ⟨t1, t2⟩
      have fin : ∀ v : Int, v = (if i < nI then (i : Int) else if i < nI + nO then ((200 + i - nI : Nat) : Int) else -1) → zOk (q_Model_place_j89_37 E (kL c) (i : Int) (i : Int) v t) (fun y => (∃ s, y = .inl (((i + 1 : Nat) : Int), s) ∧ zOff (fun k j => k = 137) b1 s ∧ ∀ p, p < i + 1 → s.1 137 p = if p < nI then (p : Int) else if p < nI + nO then ((200 + p - nI : Nat) : Int) else -1) ∨ ∃ e : gZ, y = .inr e ∧ (zOff (fun k j => k = 137) b1 e ∧ ∀ p, p < kD c → e.1 137 p = if p < nI then (p : Int) else if p < nI + nO then ((200 + p - nI : Nat) : Int) else -1)) := fun v hv => by
        unfold q_Model_place_j89_37
        rw [kL_137, if_pos (by omega), ok_l, if_pos (by omega), ok_l, gtN]
        refine ok_inl (Or.inl ⟨_, by rw [show ((i + 1 : Nat) : Int) = (i : Int) + 1 by omega], off_t t1 (off_put rfl), fun n hn => ?_⟩)
        rw [zp1, if_pos rfl]
        by_cases y : n = i
        · rw [if_pos y, y]; exact hv
        · rw [if_neg y]; exact t2 n (by omega)
      show zOk (q_Model_place_37 E (kL c) (i : Int) t) _
      unfold q_Model_place_37
      rw [t1.2 94 6 (by omega), o1.2 94 6 (by omega), h6, if_neg (by omega), t1.2 94 29 (by omega), o1.2 94 29 (by omega), h29, t1.2 94 30 (by omega), o1.2 94 30 (by omega), h30]
      by_cases x : i < nI
      · rw [if_neg (by omega)]; exact fin _ (by rw [if_pos x])
      · rw [if_pos (by omega), if_pos (by omega)]
        by_cases x2 : i < nI + nO
        · rw [if_neg (by omega), if_pos (by omega)]; exact fin _ (by rw [if_neg x, if_pos x2]; omega)
        · rw [if_pos (by omega)]; exact fin _ (by rw [if_neg x, if_neg x2])
    · rintro t ht
      show zOk (q_Model_place_37 E (kL c) (kD c : Int) t) _
      unfold q_Model_place_37
      rw [ht.1.2 94 6 (by omega), o1.2 94 6 (by omega), h6, if_pos (by omega)]
      exact ok_inr ⟨t, rfl, ht⟩
  obtain ⟨b2, p2, o2, z2⟩ := L2
  rw [p2, b1_s]
  refine ⟨_, rfl, off_t (off_w o1 fun k j x => Or.inl x) (off_w o2 fun k j x => Or.inr x), fun y hy => ⟨fun t ht => ?_, fun p hp => ?_⟩⟩
  · rw [o2.2 136 t (by omega), z1 t ht, hy t (by omega)]
    unfold pY
    by_cases x : t < nC
    · rw [if_pos x, if_pos x]
    · rw [if_neg x, if_neg x, if_neg (by omega), if_neg (by omega)]
  · rw [z2 p hp, hy (kN c + p) (by omega)]
    unfold pY cdP
    rw [if_neg (show ¬ kN c + p < nC by omega)]
    by_cases x : p < nI
    · rw [if_pos x, if_pos (show kN c ≤ kN c + p ∧ kN c + p < kN c + nI by omega), if_neg (by omega), if_pos (by omega)]; omega
    · rw [if_neg x, if_neg (show ¬ (kN c ≤ kN c + p ∧ kN c + p < kN c + nI) by omega)]
      by_cases x2 : p < nI + nO
      · rw [if_pos x2, if_pos (show kN c + nI ≤ kN c + p ∧ kN c + p < kN c + nI + nO by omega), if_neg (by omega), if_neg (by omega)]; omega
      · rw [if_neg x2, if_neg (show ¬ (kN c + nI ≤ kN c + p ∧ kN c + p < kN c + nI + nO) by omega), if_pos rfl]
end
end
