set_option linter.unusedVariables false
-- LB
section
variable {E : gEv} {c : gCf}
/-- how many elements there are, of j latches -/
noncomputable def eCn (P l o : Nat → Int) (nU nL nO : Nat) : Nat → Nat
  | 0 => nU
  | j + 1 => eCn P l o nU nL nO j + if dcd (inL P l o nU nL nO j) = true then 0 else 1
/-- the element of latch j -/
noncomputable def elj (P l o : Nat → Int) (nU nL nO j : Nat) : Nat := if dcd (inL P l o nU nL nO j) = true then (l j).toNat - 400 else eCn P l o nU nL nO j
/-- the sources of elements' pins, of j latches -/
noncomputable def psA (P l o : Nat → Int) (nU nL nO : Nat) : Nat → Nat → Int
  | 0 => P
  | j + 1 => if dcd (inL P l o nU nL nO j) = true then psA P l o nU nL nO j else fun k => if k = 4 * eCn P l o nU nL nO j then l j else if 4 * eCn P l o nU nL nO j < k ∧ k < 4 * eCn P l o nU nL nO j + 4 then -1 else psA P l o nU nL nO j k
section
variable {nU nL nI nO : Nat} {P l o : Nat → Int} {a b : gZ}
theorem eCn_t {j : Nat} (h : inL P l o nU nL nO j) : eCn P l o nU nL nO (j + 1) = eCn P l o nU nL nO j := by rw [eCn, dcd_t h, if_pos rfl]; rfl
theorem eCn_f {j : Nat} (h : ¬ inL P l o nU nL nO j) : eCn P l o nU nL nO (j + 1) = eCn P l o nU nL nO j + 1 := by rw [eCn, dcd_f h, if_neg (by decide)]
theorem elj_t {j : Nat} (h : inL P l o nU nL nO j) : elj P l o nU nL nO j = (l j).toNat - 400 := by unfold elj; rw [dcd_t h, if_pos rfl]
theorem elj_f {j : Nat} (h : ¬ inL P l o nU nL nO j) : elj P l o nU nL nO j = eCn P l o nU nL nO j := by unfold elj; rw [dcd_f h, if_neg (by decide)]
theorem psA_t {j : Nat} (h : inL P l o nU nL nO j) : psA P l o nU nL nO (j + 1) = psA P l o nU nL nO j := by rw [psA, dcd_t h, if_pos rfl]
theorem psA_f {j : Nat} (h : ¬ inL P l o nU nL nO j) (k : Nat) : psA P l o nU nL nO (j + 1) k = if k = 4 * eCn P l o nU nL nO j then l j else if 4 * eCn P l o nU nL nO j < k ∧ k < 4 * eCn P l o nU nL nO j + 4 then -1 else psA P l o nU nL nO j k := by rw [psA, dcd_f h, if_neg (by decide)]
theorem eCn_m (i d : Nat) : eCn P l o nU nL nO i ≤ eCn P l o nU nL nO (i + d) ∧ eCn P l o nU nL nO (i + d) ≤ eCn P l o nU nL nO i + d := by
  induction d with
  | zero => exact ⟨Nat.le_refl _, Nat.le_refl _⟩
  | succ d ih =>
    rw [← Nat.add_assoc, eCn]
    split <;> omega
theorem eCn_mono {i j : Nat} (h : i ≤ j) : eCn P l o nU nL nO i ≤ eCn P l o nU nL nO j := by
  have := (eCn_m (P := P) (l := l) (o := o) (nU := nU) (nL := nL) (nO := nO) i (j - i)).1
  rwa [show i + (j - i) = j by omega] at this
theorem eCn_lo (j : Nat) : nU ≤ eCn P l o nU nL nO j := eCn_mono (i := 0) (Nat.zero_le j)
theorem cn_two {f : Nat → Int} {n i j : Nat} {s : Int} (hi : i < j) (hj : j < n) (h1 : f i = s) (h2 : f j = s) : 2 ≤ cn f n s := cnb_two hi hj (decide_eq_true h1) (decide_eq_true h2)
/-- latches have elements of their own -/
theorem elj_i (hI : nI ≤ 200) (hL2 : nL ≤ 200) (hl : ∀ j, j < nL → srcO nI nL nU (l j)) {i j : Nat} (hi : i < nL) (hj : j < nL) (h : elj P l o nU nL nO i = elj P l o nU nL nO j) : i = j := by
  have b : ∀ j, j < nL → inL P l o nU nL nO j → (l j).toNat - 400 < nU ∧ 400 ≤ l j := fun j hj q => by
    have q1 := q.1
    have := hl j hj
    unfold srcO at this
    omega
  have two : ∀ i j, i < j → j < nL → inL P l o nU nL nO i → l i = l j → False := fun i j hij hj q e => by
    have := cn_two (f := l) (n := nL) (s := l i) hij hj rfl e.symm
    have := q.2
    unfold us at this
    omega
  by_cases x : inL P l o nU nL nO i
  · have bi := b i hi x
    rw [elj_t x] at h
    by_cases y : inL P l o nU nL nO j
    · have bj := b j hj y
      rw [elj_t y] at h
      have e : l i = l j := by omega
      rcases Nat.lt_trichotomy i j with u | u | u
      · exact (two i j u hj x e).elim
      · exact u
      · exact (two j i u hi y e.symm).elim
    · rw [elj_f y] at h
      have := eCn_lo (P := P) (l := l) (o := o) (nU := nU) (nL := nL) (nO := nO) j
      omega
  · rw [elj_f x] at h
    by_cases y : inL P l o nU nL nO j
    · have bj := b j hj y
      rw [elj_t y] at h
      have := eCn_lo (P := P) (l := l) (o := o) (nU := nU) (nL := nL) (nO := nO) i
      omega
    · rw [elj_f y] at h
      rcases Nat.lt_trichotomy i j with u | u | u
      · have h1 := eCn_f x
        have h2 := eCn_mono (P := P) (l := l) (o := o) (nU := nU) (nL := nL) (nO := nO) (i := i + 1) (j := j) u
        omega
      · exact u
      · have h1 := eCn_f y
        have h2 := eCn_mono (P := P) (l := l) (o := o) (nU := nU) (nL := nL) (nO := nO) (i := j + 1) (j := i) u
        omega
theorem elj_b (hI : nI ≤ 200) (hL2 : nL ≤ 200) (hl : ∀ j, j < nL → srcO nI nL nU (l j)) {j : Nat} (hj : j < nL) : elj P l o nU nL nO j < eCn P l o nU nL nO (j + 1) := by
  by_cases x : inL P l o nU nL nO j
  · rw [elj_t x, eCn_t x]
    have q1 := x.1
    have := hl j hj
    have := eCn_lo (P := P) (l := l) (o := o) (nU := nU) (nL := nL) (nO := nO) j
    unfold srcO at *
    omega
  · rw [elj_f x, eCn_f x]; omega
/-- which latch an element has, of j latches -/
def LtE (P l o : Nat → Int) (nU nL nO j e : Nat) (v : Int) : Prop := (v = -1 ∧ ∀ i, i < j → elj P l o nU nL nO i ≠ e) ∨ ∃ i : Nat, i < j ∧ elj P l o nU nL nO i = e ∧ v = i
theorem LtE_u (hI : nI ≤ 200) (hL2 : nL ≤ 200) (hl : ∀ j, j < nL → srcO nI nL nU (l j)) {j e : Nat} {v w : Int} (hj : j ≤ nL) (h : LtE P l o nU nL nO j e v) (k : LtE P l o nU nL nO j e w) : v = w := by
  rcases h with ⟨h1, h2⟩ | ⟨i, h1, h2, h3⟩
  · rcases k with ⟨k1, k2⟩ | ⟨i', k1, k2, k3⟩
    · omega
    · exact absurd k2 (h2 i' k1)
  · rcases k with ⟨k1, k2⟩ | ⟨i', k1, k2, k3⟩
    · exact absurd h2 (k2 i h1)
    · have := elj_i (P := P) (o := o) (nO := nO) hI hL2 hl (i := i) (j := i') (by omega) (by omega) (by rw [h2, k2])
      omega
theorem LtE_s {j e : Nat} {v : Int} (h : LtE P l o nU nL nO j e v) (hn : elj P l o nU nL nO j ≠ e) : LtE P l o nU nL nO (j + 1) e v := by
  rcases h with ⟨h1, h2⟩ | ⟨i, h1, h2⟩
  · refine Or.inl ⟨h1, fun i hi => ?_⟩
    by_cases x : i = j
    · rw [x]; exact hn
    · exact h2 i (by omega)
  · exact Or.inr ⟨i, by omega, h2⟩
theorem LtE_n {j : Nat} : LtE P l o nU nL nO (j + 1) (elj P l o nU nL nO j) (j : Int) := Or.inr ⟨j, by omega, rfl, rfl⟩
/-- the class's elements -/
theorem s_elems (hk : kOk c) (h : PkC c nU nL nI nO P l o a) (hP : ∀ j, j < 4 * nU → okS nI nL nU (P j)) (hl : ∀ j, j < nL → srcO nI nL nU (l j)) (ho : ∀ i, i < nO → srcO nI nL nU (o i)) (hb : nL ≤ 150 ∧ nI + nO ≤ kD c) (h16 : a.1 1 6 = kP c) : (kP c < eCn P l o nU nL nO nL ∧ ∃ s, q_Packing_setElements E (kL c) a = some (0, s) ∧ zOff (fun k j => k = 58 ∨ k = 54 ∨ k = 55 ∨ (k = 53 ∧ j = 15)) a s) ∨ (eCn P l o nU nL nO nL ≤ kP c ∧ ∃ s, q_Packing_setElements E (kL c) a = some (1, s) ∧ zOff (fun k j => k = 58 ∨ k = 54 ∨ k = 55 ∨ (k = 53 ∧ j = 15)) a s ∧ (∀ s' : Nat, s' < 400 + kP c → s.1 58 s' = (us P l o nU nL nO (s' : Int) : Nat)) ∧ s.1 53 15 = (eCn P l o nU nL nO nL : Nat) ∧ (∀ j, j < nL → s.1 54 j = (elj P l o nU nL nO j : Nat)) ∧ ∀ e, e < kP c → LtE P l o nU nL nO nL e (s.1 55 e)) := by
  have hPb := kP_b hk
  have hDb := kD_b hk
  obtain ⟨s1, q1, o1, c1⟩ := s_count (E := E) hk h hP hl ho hb
  obtain ⟨h1, ⟨h2, h3, h4, h5⟩, h6, h7, h8⟩ := h
  have p10 : s1.1 30 10 = nU := by rw [o1.2 30 10 (by omega)]; exact h2
  unfold q_Packing_setElements
  rw [q1, b1_s, let_s, s_fillI (E := E) (L := kL c) 55 (-1) _ (by rw [kL_55]; omega), b1_s, kL_55, p10]
  generalize hs2 : zFill (zPut s1 53 15 (nU : Int)) 55 (fun _ => -1) (kP c) = s2
  have o2 : zOff (fun k j => k = 58 ∨ k = 54 ∨ k = 55 ∨ (k = 53 ∧ j = 15)) a s2 := by
    rw [← hs2]
    exact off_t (off_w o1 fun k j x => Or.inl x) (off_t (off_put (by omega)) (off_fill fun j => by omega))
  have c58 : ∀ j, s2.1 58 j = s1.1 58 j := fun j => by rw [← hs2, zf1, if_neg (by decide), zp_n (by omega)]
  have c15 : s2.1 53 15 = nU := by rw [← hs2, zf1, if_neg (by decide), zp_eq]
  have c55 : ∀ e, e < kP c → s2.1 55 e = -1 := fun e he => by rw [← hs2, zf1, if_pos rfl, if_pos he]
  have F : zOk (gIter (fun y => q_Packing_setElements_25 E (kL c) y.1 y.2) gN (0, s2)) (fun r => (kP c < eCn P l o nU nL nO nL ∧ ∃ s, r = .inl s ∧ zOff (fun k j => k = 54 ∨ k = 55 ∨ (k = 53 ∧ j = 15)) s2 s) ∨ (eCn P l o nU nL nO nL ≤ kP c ∧ ∃ s, r = .inr s ∧ zOff (fun k j => k = 54 ∨ k = 55 ∨ (k = 53 ∧ j = 15)) s2 s ∧ s.1 53 15 = (eCn P l o nU nL nO nL : Nat) ∧ (∀ j, j < nL → s.1 54 j = (elj P l o nU nL nO j : Nat)) ∧ ∀ e, e < kP c → LtE P l o nU nL nO nL e (s.1 55 e))) := by
    refine it_for (fun (i : Nat) (t : gZ) => ((i : Int), t)) (fun j s => zOff (fun k j => k = 54 ∨ k = 55 ∨ (k = 53 ∧ j = 15)) s2 s ∧ eCn P l o nU nL nO j ≤ kP c ∧ s.1 53 15 = (eCn P l o nU nL nO j : Nat) ∧ (∀ i, i < j → s.1 54 i = (elj P l o nU nL nO i : Nat)) ∧ ∀ e, e < kP c → LtE P l o nU nL nO j e (s.1 55 e)) 0 nL rfl ⟨off_r, h1, c15, fun i hi => by omega, fun e he => Or.inl ⟨c55 e he, fun i hi => by omega⟩⟩ (by omega) (by omega) ?_ ?_
    · rintro j s - hj ⟨t1, t2, t3, t4, t5⟩
      show zOk (q_Packing_setElements_25 E (kL c) (j : Int) s) _
      have e31 : s.1 31 j = l j := by rw [t1.2 31 j (by omega), o2.2 31 j (by omega)]; exact h7 j hj
      have e11 : s.1 30 11 = nL := by rw [t1.2 30 11 (by omega), o2.2 30 11 (by omega)]; exact h3
      have e6 : s.1 1 6 = kP c := by rw [t1.2 1 6 (by omega), o2.2 1 6 (by omega)]; exact h16
      have sl := hl j hj
      have bl := elj_b (P := P) (o := o) (nO := nO) (nI := nI) (by omega) (by omega) hl hj
      -- the element is there
      have good : elj P l o nU nL nO j < kP c → eCn P l o nU nL nO (j + 1) ≤ kP c → zOk (q_Packing_setElements_j75_25 E (kL c) (j : Int) (elj P l o nU nL nO j : Int) s) (fun r => (∃ t', r = .inl (((j + 1 : Nat) : Int), t') ∧ zOff (fun k j => k = 54 ∨ k = 55 ∨ (k = 53 ∧ j = 15)) s2 t' ∧ eCn P l o nU nL nO (j + 1) ≤ kP c ∧ t'.1 53 15 = (eCn P l o nU nL nO (j + 1) : Nat) ∧ (∀ i, i < j + 1 → t'.1 54 i = (elj P l o nU nL nO i : Nat)) ∧ ∀ e, e < kP c → LtE P l o nU nL nO (j + 1) e (t'.1 55 e)) ∨ ∃ e, r = .inr e ∧ ((kP c < eCn P l o nU nL nO nL ∧ ∃ s, e = .inl s ∧ zOff (fun k j => k = 54 ∨ k = 55 ∨ (k = 53 ∧ j = 15)) s2 s) ∨ (eCn P l o nU nL nO nL ≤ kP c ∧ ∃ s, e = .inr s ∧ zOff (fun k j => k = 54 ∨ k = 55 ∨ (k = 53 ∧ j = 15)) s2 s ∧ s.1 53 15 = (eCn P l o nU nL nO nL : Nat) ∧ (∀ j, j < nL → s.1 54 j = (elj P l o nU nL nO j : Nat)) ∧ ∀ e, e < kP c → LtE P l o nU nL nO nL e (s.1 55 e)))) := fun g1 g2 => by
        unfold q_Packing_setElements_j75_25
        rw [e6, if_pos (by omega), kL_55, if_pos (by omega), ok_l, kL_54, if_pos (by omega), ok_l, ok_l, if_pos (by omega), ok_l, gtN, gtN]
        have e15 : (zPut (zPut s 55 (elj P l o nU nL nO j) (j : Int)) 54 j (elj P l o nU nL nO j : Int)).1 53 15 = (eCn P l o nU nL nO j : Nat) := t3
        rw [e15]
        refine ok_inl (Or.inl ⟨_, by rw [show ((j + 1 : Nat) : Int) = (j : Int) + 1 by omega], off_t t1 (off_t (off_put (by omega)) (off_t (off_put (by omega)) (off_put (by omega)))), g2, ?_, fun i hi => ?_, fun e he => ?_⟩)
        · rw [zp_eq]
          by_cases x : inL P l o nU nL nO j
          · rw [eCn_t x] at bl ⊢
            rw [if_neg (by omega)]
          · rw [elj_f x, eCn_f x, if_pos (by omega)]; omega
        · rw [zp_n (by omega), zp1, if_pos rfl]
          by_cases y : i = j
          · rw [if_pos y, y]
          · rw [if_neg y, zp_n (by omega)]; exact t4 i (by omega)
        · rw [zp_n (by omega), zp_n (by omega), zp1, if_pos rfl]
          by_cases y : e = elj P l o nU nL nO j
          · rw [if_pos y, y]; exact LtE_n
          · rw [if_neg y]; exact LtE_s (t5 e he) (fun u => y u.symm)
      unfold q_Packing_setElements_25 q_Packing_setElements_j71_25
      rw [e11, if_neg (by omega), kL_31, if_pos (by omega), ok_l, gtN, e31, t3]
      by_cases x : inL P l o nU nL nO j
      · have x1 := x.1
        have lu : l j < 400 + nU := by unfold srcO at sl; omega
        have e58 : s.1 58 (l j).toNat = 1 := by
          rw [t1.2 58 _ (by omega), c58, c1 _ (by omega), show (((l j).toNat : Nat) : Int) = l j by omega, x.2]; rfl
        have ee : l j - 400 = (elj P l o nU nL nO j : Int) := by rw [elj_t x]; omega
        rw [if_neg (by omega), kL_58, if_pos (by omega), e58, if_pos rfl, if_pos (by omega), ee]
        exact good (by have := elj_t x; omega) (by rw [eCn_t x]; omega)
      · have to : (if l j < 400 then q_Packing_setElements_j75_25 E (kL c) (j : Int) ((eCn P l o nU nL nO j : Nat) : Int) s else if 0 ≤ l j ∧ l j < ((kL c 58 : Nat) : Int) then if s.1 58 (l j).toNat = 1 then (if -2147483648 ≤ l j - 400 ∧ l j - 400 < 2147483648 then q_Packing_setElements_j75_25 E (kL c) (j : Int) (l j - 400) s else none) else q_Packing_setElements_j75_25 E (kL c) (j : Int) ((eCn P l o nU nL nO j : Nat) : Int) s else none) = q_Packing_setElements_j75_25 E (kL c) (j : Int) ((eCn P l o nU nL nO j : Nat) : Int) s := by
          by_cases y : l j < 400
          · rw [if_pos y]
          · have lu : l j < 400 + nU := by unfold srcO at sl; omega
            have e58 : s.1 58 (l j).toNat ≠ 1 := by
              rw [t1.2 58 _ (by omega), c58, c1 _ (by omega), show (((l j).toNat : Nat) : Int) = l j by omega]
              intro u
              exact x ⟨by omega, by omega⟩
            rw [if_neg y, kL_58, if_pos (by omega), if_neg e58]
        rw [to]
        by_cases y : eCn P l o nU nL nO j < kP c
        · have ee := elj_f x
          rw [← ee]
          exact good (by omega) (by rw [eCn_f x]; omega)
        · unfold q_Packing_setElements_j75_25
          rw [e6, if_neg (by omega)]
          have h1 := eCn_f x
          have h2 := eCn_mono (P := P) (l := l) (o := o) (nU := nU) (nL := nL) (nO := nO) (i := j + 1) (j := nL) hj
          exact ok_inr (Or.inr ⟨_, rfl, Or.inl ⟨by omega, s, rfl, t1⟩⟩)
    · rintro s ⟨t1, t2, t3, t4, t5⟩
      show zOk (q_Packing_setElements_25 E (kL c) (nL : Int) s) _
      have e11 : s.1 30 11 = nL := by rw [t1.2 30 11 (by omega), o2.2 30 11 (by omega)]; exact h3
      unfold q_Packing_setElements_25
      rw [e11, if_pos (by omega)]
      exact ok_inr ⟨_, rfl, Or.inr ⟨t2, s, rfl, t1, t3, t4, t5⟩⟩
  obtain ⟨r, hr, fin⟩ := F
  rw [hr, b1_s]
  rcases fin with ⟨f1, s, rfl, f2⟩ | ⟨f1, s, rfl, f2, f3, f4, f5⟩
  · exact Or.inl ⟨f1, s, rfl, off_t o2 (off_w f2 fun k j x => by omega)⟩
  · exact Or.inr ⟨f1, s, rfl, off_t o2 (off_w f2 fun k j x => by omega), fun s' hs => by rw [f2.2 58 s' (by omega), c58]; exact c1 s' hs, f3, f4, f5⟩
end
end
