set_option linter.unusedVariables false
-- LN
section
variable {E : gEv} {c : gCf}
/-- where a net comes from: an input, or an element -/
def nSr (nI nL m : Nat) (a : gZ) (v : Int) (F : Nat → Prop) (G : Nat → Prop) : Prop := (∃ i : Nat, i < nI ∧ v = (i : Int) ∧ F i) ∨ ∃ e : Nat, e < m ∧ ((∃ j : Nat, j < nL ∧ v = 200 + (j : Int) ∧ a.1 54 j = (e : Int)) ∨ v = 400 + (e : Int)) ∧ G e
/-- where a net goes to: a pin, or an output -/
def nSk (c : gCf) (nO m : Nat) (v : Int) (F : Nat → Prop) (G : Nat → Prop) : Prop := (∃ e p : Nat, e < m ∧ p < 4 ∧ v = ((4 * e + p : Nat) : Int) ∧ F e) ∨ ∃ o : Nat, o < nO ∧ v = ((4 * kP c + o : Nat) : Int) ∧ G o
section
variable {nN nS m nC nL nI nO : Nat} {a : gZ}
theorem s_things (hk : kOk c) (h17 : a.1 53 17 = nN) (hN : nN ≤ kD c + kP c) (h62 : a.1 62 nN = nS) (hS : nS ≤ kP c * 4 + kD c) (hm : m ≤ kP c) (h14 : a.1 1 4 = kN c) (h15 : a.1 1 5 = kD c) (h16 : a.1 1 6 = kP c) (hI : nI ≤ 48) (hL : nL ≤ 150) (hO : nO ≤ kD c) (h60 : ∀ n, n < nN → nSr nI nL m a (a.1 60 n) (fun _ => True) (fun _ => True)) (h63 : ∀ k, k < nS → nSk c nO m (a.1 63 k) (fun _ => True) (fun _ => True)) (h56 : ∀ e, e < m → 0 ≤ a.1 56 e ∧ a.1 56 e < kN c) : zOk (q_Packing_setThings E (kL c) a) (fun s => zOff (fun k j => k = 61 ∨ k = 64) a s ∧ (∀ n, n < nN → nSr nI nL m a (a.1 60 n) (fun i => s.1 61 n = ((kN c + i : Nat) : Int)) (fun e => s.1 61 n = a.1 56 e)) ∧ ∀ k, k < nS → nSk c nO m (a.1 63 k) (fun e => s.1 64 k = a.1 56 e) (fun o => s.1 64 k = ((kN c + kD c + o : Nat) : Int))) := by
  have hPb := kP_b hk
  have hD := kD_b hk
  have hNb := kN_b hk
  unfold q_Packing_setThings
  have L1 : zOk (gIter (fun y => q_Packing_setThings_2 E (kL c) y.1 y.2) gN (0, a)) (fun s => zOff (fun k j => k = 61) a s ∧ ∀ n, n < nN → nSr nI nL m a (a.1 60 n) (fun i => s.1 61 n = ((kN c + i : Nat) : Int)) (fun e => s.1 61 n = a.1 56 e)) := by
    refine it_for (fun (i : Nat) (t : gZ) => ((i : Int), t)) (fun i t => zOff (fun k j => k = 61) a t ∧ ∀ n, n < i → nSr nI nL m a (a.1 60 n) (fun i => t.1 61 n = ((kN c + i : Nat) : Int)) (fun e => t.1 61 n = a.1 56 e)) 0 nN rfl ⟨off_r, fun e he => by omega⟩ (by omega) (by omega) ?_ ?_
    · rintro n t - hn ⟨t1, t2⟩
      show zOk (q_Packing_setThings_2 E (kL c) (n : Int) t) _
      have fin : ∀ v : Int, nSr nI nL m a (a.1 60 n) (fun i => v = ((kN c + i : Nat) : Int)) (fun e => v = a.1 56 e) → zOk (q_Packing_setThings_j51_2 E (kL c) (n : Int) (n : Int) v t) (fun y => (∃ s, y = .inl (((n + 1 : Nat) : Int), s) ∧ zOff (fun k j => k = 61) a s ∧ ∀ n', n' < n + 1 → nSr nI nL m a (a.1 60 n') (fun i => s.1 61 n' = ((kN c + i : Nat) : Int)) (fun e => s.1 61 n' = a.1 56 e)) ∨ ∃ e : gZ, y = .inr e ∧ (zOff (fun k j => k = 61) a e ∧ ∀ n, n < nN → nSr nI nL m a (a.1 60 n) (fun i => e.1 61 n = ((kN c + i : Nat) : Int)) (fun e' => e.1 61 n = a.1 56 e'))) := fun v hv => by
        unfold q_Packing_setThings_j51_2
        rw [kL_61, if_pos (by omega), ok_l, if_pos (by omega), ok_l, gtN]
        refine ok_inl (Or.inl ⟨_, by rw [show ((n + 1 : Nat) : Int) = (n : Int) + 1 by omega], off_t t1 (off_put rfl), fun n' hn' => ?_⟩)
        rw [zp1, if_pos rfl]
        by_cases y : n' = n
        · rw [if_pos y, y]; exact hv
        · rw [if_neg y]; exact t2 n' (by omega)
      unfold q_Packing_setThings_2
      rw [t1.2 53 17 (by omega), h17, if_neg (by omega), kL_60, if_pos (by omega), ok_l, gtN, t1.2 60 n (by omega)]
      rcases h60 n hn with ⟨i, i1, i2, -⟩ | ⟨e, e1, e2, -⟩
      · rw [i2, if_neg (by omega), t1.2 1 4 (by omega), h14, if_pos (by omega)]
        exact fin _ (Or.inl ⟨i, i1, i2, by omega⟩)
      · have em : q_Packing_elementMaking E (kL c) (a.1 60 n) t = some (e : Int) := by
          unfold q_Packing_elementMaking
          rcases e2 with ⟨j, j1, j2, j3⟩ | j2
          · rw [j2, if_neg (by omega), kL_54, if_pos (by omega), show (200 + (j : Int) - 200).toNat = j by omega, t1.2 54 j (by omega), j3]
          · rw [j2, if_pos (by omega), if_pos (by omega), show 400 + (e : Int) - 400 = e by omega]
        rw [if_pos (by rcases e2 with ⟨j, j1, j2, j3⟩ | j2 <;> omega), em, b1_s, kL_56, if_pos (by omega), gtN, t1.2 56 e (by omega)]
        exact fin _ (Or.inr ⟨e, e1, e2, rfl⟩)
    · rintro t ht
      show zOk (q_Packing_setThings_2 E (kL c) (nN : Int) t) _
      unfold q_Packing_setThings_2
      rw [ht.1.2 53 17 (by omega), h17, if_pos (by omega)]
      exact ok_inr ⟨t, rfl, ht⟩
  obtain ⟨a1, p1, o1, z1⟩ := L1
  rw [p1, b1_s]
  have L2 : zOk (gIter (fun y => q_Packing_setThings_60 E (kL c) y.1 y.2) gN (0, a1)) (fun s => zOff (fun k j => k = 64) a1 s ∧ ∀ k, k < nS → nSk c nO m (a.1 63 k) (fun e => s.1 64 k = a.1 56 e) (fun o => s.1 64 k = ((kN c + kD c + o : Nat) : Int))) := by
    refine it_for (fun (i : Nat) (t : gZ) => ((i : Int), t)) (fun i t => zOff (fun k j => k = 64) a1 t ∧ ∀ k, k < i → nSk c nO m (a.1 63 k) (fun e => t.1 64 k = a.1 56 e) (fun o => t.1 64 k = ((kN c + kD c + o : Nat) : Int))) 0 nS rfl ⟨off_r, fun e he => by omega⟩ (by omega) (by omega) ?_ ?_
    · rintro k t - hk' ⟨t1, t2⟩
      show zOk (q_Packing_setThings_60 E (kL c) (k : Int) t) _
      have fin : ∀ v : Int, nSk c nO m (a.1 63 k) (fun e => v = a.1 56 e) (fun o => v = ((kN c + kD c + o : Nat) : Int)) → zOk (q_Packing_setThings_j134_60 E (kL c) (k : Int) (k : Int) v t) (fun y => (∃ s, y = .inl (((k + 1 : Nat) : Int), s) ∧ zOff (fun k j => k = 64) a1 s ∧ ∀ k', k' < k + 1 → nSk c nO m (a.1 63 k') (fun e => s.1 64 k' = a.1 56 e) (fun o => s.1 64 k' = ((kN c + kD c + o : Nat) : Int))) ∨ ∃ e : gZ, y = .inr e ∧ (zOff (fun k j => k = 64) a1 e ∧ ∀ k, k < nS → nSk c nO m (a.1 63 k) (fun e' => e.1 64 k = a.1 56 e') (fun o => e.1 64 k = ((kN c + kD c + o : Nat) : Int)))) := fun v hv => by
        unfold q_Packing_setThings_j134_60
        rw [kL_64, if_pos (by omega), ok_l, if_pos (by omega), ok_l, gtN]
        refine ok_inl (Or.inl ⟨_, by rw [show ((k + 1 : Nat) : Int) = (k : Int) + 1 by omega], off_t t1 (off_put rfl), fun k' hk'' => ?_⟩)
        rw [zp1, if_pos rfl]
        by_cases y : k' = k
        · rw [if_pos y, y]; exact hv
        · rw [if_neg y]; exact t2 k' (by omega)
      have e62 : t.1 62 nN = nS := by rw [t1.2 62 _ (by omega), o1.2 62 _ (by omega), h62]
      have e63 : t.1 63 k = a.1 63 k := by rw [t1.2 63 _ (by omega), o1.2 63 _ (by omega)]
      have e56 : ∀ e, t.1 56 e = a.1 56 e := fun e => by rw [t1.2 56 _ (by omega), o1.2 56 _ (by omega)]
      have e1 : ∀ j, t.1 1 j = a.1 1 j := fun j => by rw [t1.2 1 _ (by omega), o1.2 1 _ (by omega)]
      unfold q_Packing_setThings_60
      rw [t1.2 53 17 (by omega), o1.2 53 17 (by omega), h17, kL_62, if_pos (by omega), gtN, e62, if_neg (by omega)]
      have pin : q_Packing_isPin E (kL c) (k : Int) t = if (kP c : Int) * 4 ≤ a.1 63 k then some 0 else some 1 := by
        unfold q_Packing_isPin
        rw [kL_63, if_pos (by omega), e1, h16, if_pos (by omega), gtN, e63]
      rw [pin]
      rcases h63 k hk' with ⟨e, p, e1', e2, e3, -⟩ | ⟨o, o1', o2, -⟩
      · have dv : zDiv (a.1 63 k) 4 = (e : Int) := by
          rw [e3, show (4 : Int) = ((4 : Nat) : Int) from rfl, zDiv_n _ 4 (by omega) (by omega), show (4 * e + p) / 4 = e by omega]
        rw [if_neg (by omega), b1_s, if_neg (by omega), kL_63, if_pos (by omega), gtN, e63, dv, kL_56, if_pos (by omega), gtN, e56]
        exact fin _ (Or.inl ⟨e, p, e1', e2, e3, rfl⟩)
      · rw [if_pos (by omega), b1_s, if_pos rfl, kL_63, if_pos (by omega), gtN, e63, e1, e1, e1, h14, h15, h16, if_pos (by omega)]
        exact fin _ (Or.inr ⟨o, o1', o2, by omega⟩)
    · rintro t ht
      show zOk (q_Packing_setThings_60 E (kL c) (nS : Int) t) _
      unfold q_Packing_setThings_60
      rw [ht.1.2 53 17 (by omega), o1.2 53 17 (by omega), h17, kL_62, if_pos (by omega), gtN, ht.1.2 62 _ (by omega), o1.2 62 _ (by omega), h62, if_pos (by omega)]
      exact ok_inr ⟨t, rfl, ht⟩
  obtain ⟨a2, p2, o2, z2⟩ := L2
  rw [p2, b1_s]
  refine ⟨_, rfl, off_t (off_w o1 fun k j x => Or.inl x) (off_w o2 fun k j x => Or.inr x), fun n hn => ?_, z2⟩
  rw [o2.2 61 n (by omega)]
  exact z1 n hn
end
end
