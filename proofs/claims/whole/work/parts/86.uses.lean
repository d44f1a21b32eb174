set_option linter.unusedVariables false
-- LA
section
variable {E : gEv} {c : gCf}
/-- how often a value stands in a row -/
def cn (f : Nat → Int) (n : Nat) (s : Int) : Nat := cnb (fun j => decide (f j = s)) n
theorem cn_s (f : Nat → Int) (n : Nat) (s : Int) : cn f (n + 1) s = cn f n s + if f n = s then 1 else 0 := by
  unfold cn
  rw [cnb]
  by_cases x : f n = s
  · rw [decide_eq_true x, if_pos rfl, if_pos x]
  · rw [decide_eq_false x, if_neg (by decide), if_neg x]
theorem cn_le (f : Nat → Int) (n : Nat) (s : Int) : cn f n s ≤ n := cnb_le _ _
theorem cn_0 (f : Nat → Int) (s : Int) : cn f 0 s = 0 := rfl
/-- what packing is of: pins, sources of latches, of outputs -/
def us (P l o : Nat → Int) (nU nL nO : Nat) (s : Int) : Nat := cn P (4 * nU) s + cn l nL s + cn o nO s
def inL (P l o : Nat → Int) (nU nL nO j : Nat) : Prop := 400 ≤ l j ∧ us P l o nU nL nO (l j) = 1
/-- the reference has these -/
def PkM (nU nL nI nO : Nat) (P l o : Nat → Int) (b : gZ) : Prop := (nU ≤ 4700 ∧ nL ≤ 150 ∧ nI + nO ≤ 48) ∧ (b.1 94 46 = nU ∧ b.1 94 31 = nL ∧ b.1 94 29 = nI ∧ b.1 94 30 = nO) ∧ (∀ j, j < 4 * nU → b.1 117 j = P j ∧ okS nI nL nU (P j)) ∧ (∀ j, j < nL → srcO nI nL nU (l j) ∧ ∃ v : Nat, b.1 106 j = v ∧ v < 150 ∧ srcF b v = l j) ∧ ∀ i, i < nO → srcO nI nL nU (o i) ∧ ∃ v : Nat, b.1 105 i = v ∧ v < 150 ∧ srcF b v = o i
/-- the class has these -/
def PkC (c : gCf) (nU nL nI nO : Nat) (P l o : Nat → Int) (a : gZ) : Prop := nU ≤ kP c ∧ (a.1 30 10 = nU ∧ a.1 30 11 = nL ∧ a.1 30 12 = nI ∧ a.1 30 13 = nO) ∧ (∀ j, j < 4 * nU → a.1 35 j = P j) ∧ (∀ j, j < nL → a.1 31 j = l j) ∧ ∀ i, i < nO → a.1 39 i = o i
def rPm (k j : Nat) : Prop := (k = 94 ∧ (j = 46 ∨ j = 31 ∨ j = 29 ∨ j = 30)) ∨ k = 117 ∨ k = 106 ∨ k = 105 ∨ k = 101 ∨ k = 102 ∨ k = 119
def rPc (k j : Nat) : Prop := (k = 30 ∧ 10 ≤ j ∧ j ≤ 13) ∨ k = 35 ∨ k = 31 ∨ k = 39
section
variable {nU nL nI nO : Nat} {P l o : Nat → Int} {a b : gZ}
theorem PkM_c {b' : gZ} (h : PkM nU nL nI nO P l o b) (hb : ∀ k j, rPm k j → b'.1 k j = b.1 k j) : PkM nU nL nI nO P l o b' := by
  obtain ⟨h1, ⟨h2, h3, h4, h5⟩, h6, h7, h8⟩ := h
  have sf : ∀ v, srcF b' v = srcF b v := fun v => srcF_c (hb 101 v (by unfold rPm; omega)) (hb 102 v (by unfold rPm; omega)) (hb 119 v (by unfold rPm; omega))
  refine ⟨h1, ⟨by rw [hb 94 46 (by unfold rPm; omega)]; exact h2, by rw [hb 94 31 (by unfold rPm; omega)]; exact h3, by rw [hb 94 29 (by unfold rPm; omega)]; exact h4, by rw [hb 94 30 (by unfold rPm; omega)]; exact h5⟩, fun j hj => by rw [hb 117 j (by unfold rPm; omega)]; exact h6 j hj, fun j hj => ?_, fun i hi => ?_⟩
  · obtain ⟨q, v, q1, q2, q3⟩ := h7 j hj
    exact ⟨q, v, by rw [hb 106 j (by unfold rPm; omega)]; exact q1, q2, by rw [sf]; exact q3⟩
  · obtain ⟨q, v, q1, q2, q3⟩ := h8 i hi
    exact ⟨q, v, by rw [hb 105 i (by unfold rPm; omega)]; exact q1, q2, by rw [sf]; exact q3⟩
theorem PkC_c {a' : gZ} (h : PkC c nU nL nI nO P l o a) (ha : ∀ k j, rPc k j → a'.1 k j = a.1 k j) : PkC c nU nL nI nO P l o a' := by
  obtain ⟨h1, ⟨h2, h3, h4, h5⟩, h6, h7, h8⟩ := h
  exact ⟨h1, ⟨by rw [ha 30 10 (by unfold rPc; omega)]; exact h2, by rw [ha 30 11 (by unfold rPc; omega)]; exact h3, by rw [ha 30 12 (by unfold rPc; omega)]; exact h4, by rw [ha 30 13 (by unfold rPc; omega)]; exact h5⟩, fun j hj => by rw [ha 35 j (by unfold rPc; omega)]; exact h6 j hj, fun j hj => by rw [ha 31 j (by unfold rPc; omega)]; exact h7 j hj, fun j hj => by rw [ha 39 j (by unfold rPc; omega)]; exact h8 j hj⟩
theorem src_ok {v : Nat} {s : Int} (hv : v < 150) (hs : srcF b v = s) (h : srcO nI nL nU s) (hb : nU ≤ 4700 ∧ nL ≤ 150 ∧ nI ≤ 48) : q_Model_source E (kL c) (v : Int) b = some s := by
  rw [s_source hv fun h2 => ?_, hs]
  have e : srcF b v = 200 + b.1 102 v := by unfold srcF; rw [if_neg (by omega), if_pos h2]
  rw [← e, hs]
  unfold srcO at h
  omega
theorem s_srcL (h : PkM nU nL nI nO P l o b) {j : Nat} (hj : j < nL) : q_Model_source E (kL c) (b.1 106 j) b = some (l j) := by
  obtain ⟨h1, -, -, h7, -⟩ := h
  obtain ⟨q, v, q1, q2, q3⟩ := h7 j hj
  rw [q1]; exact src_ok q2 q3 q (by omega)
theorem s_srcO (h : PkM nU nL nI nO P l o b) {i : Nat} (hi : i < nO) : q_Model_source E (kL c) (b.1 105 i) b = some (o i) := by
  obtain ⟨h1, -, -, -, h8⟩ := h
  obtain ⟨q, v, q1, q2, q3⟩ := h8 i hi
  rw [q1]; exact src_ok q2 q3 q (by omega)
/-- the reference counts uses -/
theorem s_uses (h : PkM nU nL nI nO P l o b) (s : Int) : q_Model_uses E (kL c) s b = some ((us P l o nU nL nO s : Nat) : Int) := by
  have h0 := h
  obtain ⟨⟨h1, h1', h1''⟩, ⟨h2, h3, h4, h5⟩, h6, h7, h8⟩ := h
  have b1 := cn_le P (4 * nU) s
  have b2 := cn_le l nL s
  have b3 := cn_le o nO s
  unfold q_Model_uses
  have F1 : gIter (fun y => q_Model_uses_4 E (kL c) s y.1 y.2 b) gN (0, 0) = some ((cn P (4 * nU) s : Nat) : Int) := by
    refine it_acc (fun (i : Nat) (t : Nat) => ((t : Int), (i : Int))) (fun i => cn P i s) 0 (4 * nU) rfl (by omega) (by omega) (fun i _ hi => ?_) ?_
    · show q_Model_uses_4 E (kL c) s ((cn P i s : Nat) : Int) (i : Int) b = some (.inl (((cn P (i + 1) s : Nat) : Int), ((i + 1 : Nat) : Int)))
      have bi := cn_le P i s
      unfold q_Model_uses_4
      rw [h2, if_pos (by omega), if_neg (by omega), kL_117, if_pos (by omega), gtN, (h6 i hi).1, cn_s]
      by_cases x : P i = s
      · rw [if_pos x, if_pos x, if_pos (by omega), let_s, let_s]; rfl
      · rw [if_neg x, if_neg x, if_pos (by omega), let_s, let_s]; rfl
    · show q_Model_uses_4 E (kL c) s ((cn P (4 * nU) s : Nat) : Int) ((4 * nU : Nat) : Int) b = _
      unfold q_Model_uses_4
      rw [h2, if_pos (by omega), if_pos (by omega)]
  have F2 : gIter (fun y => q_Model_uses_40 E (kL c) s y.1 y.2 b) gN (((cn P (4 * nU) s : Nat) : Int), 0) = some ((cn P (4 * nU) s + cn l nL s : Nat) : Int) := by
    refine it_acc (fun (i : Nat) (t : Nat) => ((t : Int), (i : Int))) (fun i => cn P (4 * nU) s + cn l i s) 0 nL rfl (by omega) (by omega) (fun i _ hi => ?_) ?_
    · show q_Model_uses_40 E (kL c) s ((cn P (4 * nU) s + cn l i s : Nat) : Int) (i : Int) b = some (.inl (((cn P (4 * nU) s + cn l (i + 1) s : Nat) : Int), ((i + 1 : Nat) : Int)))
      have bi := cn_le l i s
      unfold q_Model_uses_40
      rw [h3, if_neg (by omega), kL_106, if_pos (by omega), gtN, s_srcL h0 hi, b1_s, cn_s]
      by_cases x : l i = s
      · rw [if_pos x, if_pos x, if_pos (by omega), let_s, let_s]; rfl
      · rw [if_neg x, if_neg x, if_pos (by omega), let_s, let_s]; rfl
    · show q_Model_uses_40 E (kL c) s ((cn P (4 * nU) s + cn l nL s : Nat) : Int) (nL : Int) b = _
      unfold q_Model_uses_40
      rw [h3, if_pos (by omega)]
  have F3 : gIter (fun y => q_Model_uses_78 E (kL c) s y.1 y.2 b) gN (((cn P (4 * nU) s + cn l nL s : Nat) : Int), 0) = some ((us P l o nU nL nO s : Nat) : Int) := by
    refine it_acc (fun (i : Nat) (t : Nat) => ((t : Int), (i : Int))) (fun i => cn P (4 * nU) s + cn l nL s + cn o i s) 0 nO rfl (by omega) (by omega) (fun i _ hi => ?_) ?_
    · show q_Model_uses_78 E (kL c) s ((cn P (4 * nU) s + cn l nL s + cn o i s : Nat) : Int) (i : Int) b = some (.inl (((cn P (4 * nU) s + cn l nL s + cn o (i + 1) s : Nat) : Int), ((i + 1 : Nat) : Int)))
      have bi := cn_le o i s
      unfold q_Model_uses_78
      rw [h5, if_neg (by omega), kL_105, if_pos (by omega), gtN, s_srcO h0 hi, b1_s, cn_s]
      by_cases x : o i = s
      · rw [if_pos x, if_pos x, if_pos (by omega), let_s, let_s]; rfl
      · rw [if_neg x, if_neg x, if_pos (by omega), let_s, let_s]; rfl
    · show q_Model_uses_78 E (kL c) s ((us P l o nU nL nO s : Nat) : Int) (nO : Int) b = _
      unfold q_Model_uses_78
      rw [h5, if_pos (by omega)]
  rw [F1, b1_s, F2, b1_s, F3, b1_s]
theorem s_inLut (h : PkM nU nL nI nO P l o b) {j : Nat} (hj : j < nL) : q_Model_inLut E (kL c) (j : Int) b = some (dI (inL P l o nU nL nO j)) := by
  have hb := h.1
  unfold q_Model_inLut
  rw [kL_106, if_pos (by omega), gtN, s_srcL h hj, b1_s]
  by_cases x : l j < 400
  · rw [if_pos x, dI_f fun y => by have := y.1; omega]
  · rw [if_neg x, s_uses h, b1_s]
    by_cases y : us P l o nU nL nO (l j) = 1
    · rw [if_pos (by omega), dI_t ⟨by omega, y⟩]
    · rw [if_neg (by omega), dI_f fun u => y u.2]
/-- the class counts uses, in row 58 -/
theorem s_count (hk : kOk c) (h : PkC c nU nL nI nO P l o a) (hP : ∀ j, j < 4 * nU → okS nI nL nU (P j)) (hl : ∀ j, j < nL → srcO nI nL nU (l j)) (ho : ∀ i, i < nO → srcO nI nL nU (o i)) (hb : nL ≤ 150 ∧ nI + nO ≤ kD c) : zOk (q_Packing_countSources E (kL c) a) (fun s => zOff (fun k j => k = 58) a s ∧ ∀ s' : Nat, s' < 400 + kP c → s.1 58 s' = (us P l o nU nL nO (s' : Int) : Nat)) := by
  have h0 := h
  obtain ⟨h1, ⟨h2, h3, h4, h5⟩, h6, h7, h8⟩ := h
  have hPb := kP_b hk
  have hD := kD_b hk
  have in1 : ∀ {s : Int}, srcO nI nL nU s → 0 ≤ s ∧ s < ((400 + kP c : Nat) : Int) := fun {s} q => by unfold srcO at q; omega
  unfold q_Packing_countSources
  rw [s_fillI (E := E) (L := kL c) 58 0 a (by rw [kL_58]; omega), b1_s, kL_58]
  have z0 : ∀ s' : Nat, s' < 400 + kP c → (zFill a 58 (fun _ => 0) (400 + kP c)).1 58 s' = 0 := fun s' hs => by rw [zf1, if_pos rfl, if_pos hs]
  have oz : zOff (fun k j => k = 58) a (zFill a 58 (fun _ => 0) (400 + kP c)) := off_fill fun j => rfl
  generalize zFill a 58 (fun _ => 0) (400 + kP c) = a0 at *
  -- one more use
  have put : ∀ (t : gZ) (f : Nat → Nat) (d : Nat), (∀ s' : Nat, s' < 400 + kP c → t.1 58 s' = (f s' : Nat)) → ∀ s' : Nat, s' < 400 + kP c → (zPut t 58 d (t.1 58 d + 1)).1 58 s' = if s' = d then ((f d : Nat) : Int) + 1 else (f s' : Nat) := fun t f d hf s' hs => by
    rw [zp1, if_pos rfl]
    by_cases y : s' = d
    · rw [if_pos y, if_pos y, ← y, hf s' hs]
    · rw [if_neg y, if_neg y]; exact hf s' hs
  refine ok_b1 (fun t => zOff (fun k j => k = 58) a0 t ∧ ∀ s' : Nat, s' < 400 + kP c → t.1 58 s' = (cn P (4 * nU) (s' : Int) : Nat)) ?_ fun t ⟨t1, t2⟩ => ?_
  · refine it_for (fun (i : Nat) (t : gZ) => ((i : Int), t)) (fun i t => zOff (fun k j => k = 58) a0 t ∧ ∀ s' : Nat, s' < 400 + kP c → t.1 58 s' = (cn P i (s' : Int) : Nat)) 0 (4 * nU) rfl ⟨off_r, fun s' hs => z0 s' hs⟩ (by omega) (by omega) ?_ ?_
    · rintro i t - hi ⟨t1, t2⟩
      show zOk (q_Packing_countSources_10 E (kL c) (i : Int) t) _
      have q35 : t.1 35 i = P i := by rw [t1.2 35 i (by omega), oz.2 35 i (by omega)]; exact h6 i hi
      unfold q_Packing_countSources_10
      rw [t1.2 30 10 (by omega), oz.2 30 10 (by omega), h2, if_pos (by omega), if_neg (by omega), kL_35, if_pos (by omega), gtN, q35]
      by_cases x : P i = -1
      · rw [if_pos x, ok_l]
        refine ok_inl (Or.inl ⟨t, by rw [show ((i + 1 : Nat) : Int) = (i : Int) + 1 by omega], t1, fun s' hs => ?_⟩)
        rw [t2 s' hs, cn_s, if_neg (by omega)]; rfl
      · have hs := in1 ((hP i hi).elim (fun y => absurd y x) id)
        obtain ⟨d, hd⟩ : ∃ d : Nat, P i = d := ⟨(P i).toNat, by omega⟩
        have bi := cn_le P i (d : Int)
        rw [if_neg x, kL_58, hd, if_pos (by omega), gtN, t2 d (by omega), if_pos (by omega), ok_l, ok_l]
        refine ok_inl (Or.inl ⟨_, by rw [show ((i + 1 : Nat) : Int) = (i : Int) + 1 by omega], off_t t1 (off_put rfl), fun s' hs => ?_⟩)
        have := put t (fun s => cn P i (s : Int)) d t2 s' hs
        rw [t2 d (by omega)] at this
        rw [this, cn_s, hd]
        by_cases y : s' = d
        · rw [if_pos y, if_pos (by omega), y]; omega
        · rw [if_neg y, if_neg (by omega)]; rfl
    · rintro t ht
      show zOk (q_Packing_countSources_10 E (kL c) ((4 * nU : Nat) : Int) t) _
      unfold q_Packing_countSources_10
      rw [ht.1.2 30 10 (by omega), oz.2 30 10 (by omega), h2, if_pos (by omega), if_pos (by omega)]
      exact ok_inr ⟨t, rfl, ht⟩
  refine ok_b1 (fun u => zOff (fun k j => k = 58) a0 u ∧ ∀ s' : Nat, s' < 400 + kP c → u.1 58 s' = (cn P (4 * nU) (s' : Int) + cn l nL (s' : Int) : Nat)) ?_ fun u ⟨u1, u2⟩ => ?_
  · refine it_for (fun (i : Nat) (t : gZ) => ((i : Int), t)) (fun i t => zOff (fun k j => k = 58) a0 t ∧ ∀ s' : Nat, s' < 400 + kP c → t.1 58 s' = (cn P (4 * nU) (s' : Int) + cn l i (s' : Int) : Nat)) 0 nL rfl ⟨t1, fun s' hs => t2 s' hs⟩ (by omega) (by omega) ?_ ?_
    · rintro i t - hi ⟨t1, t2⟩
      show zOk (q_Packing_countSources_62 E (kL c) (i : Int) t) _
      have q31 : t.1 31 i = l i := by rw [t1.2 31 i (by omega), oz.2 31 i (by omega)]; exact h7 i hi
      have hs := in1 (hl i hi)
      obtain ⟨d, hd⟩ : ∃ d : Nat, l i = d := ⟨(l i).toNat, by omega⟩
      have bi := cn_le l i (d : Int)
      have bj := cn_le P (4 * nU) (d : Int)
      unfold q_Packing_countSources_62
      rw [t1.2 30 11 (by omega), oz.2 30 11 (by omega), h3, if_neg (by omega), kL_31, if_pos (by omega), gtN, q31, kL_58, hd, if_pos (by omega), gtN, t2 d (by omega), if_pos (by omega), ok_l, ok_l]
      refine ok_inl (Or.inl ⟨_, by rw [show ((i + 1 : Nat) : Int) = (i : Int) + 1 by omega], off_t t1 (off_put rfl), fun s' hs => ?_⟩)
      have := put t (fun s => cn P (4 * nU) (s : Int) + cn l i (s : Int)) d t2 s' hs
      rw [t2 d (by omega)] at this
      rw [this, cn_s, hd]
      by_cases y : s' = d
      · rw [if_pos y, if_pos (by omega), y]; omega
      · rw [if_neg y, if_neg (by omega)]; rfl
    · rintro t ht
      show zOk (q_Packing_countSources_62 E (kL c) (nL : Int) t) _
      unfold q_Packing_countSources_62
      rw [ht.1.2 30 11 (by omega), oz.2 30 11 (by omega), h3, if_pos (by omega)]
      exact ok_inr ⟨t, rfl, ht⟩
  refine ok_b1 (fun u => zOff (fun k j => k = 58) a0 u ∧ ∀ s' : Nat, s' < 400 + kP c → u.1 58 s' = (us P l o nU nL nO (s' : Int) : Nat)) ?_ fun w ⟨w1, w2⟩ => ok_so ⟨off_t oz w1, w2⟩
  refine it_for (fun (i : Nat) (t : gZ) => ((i : Int), t)) (fun i t => zOff (fun k j => k = 58) a0 t ∧ ∀ s' : Nat, s' < 400 + kP c → t.1 58 s' = (cn P (4 * nU) (s' : Int) + cn l nL (s' : Int) + cn o i (s' : Int) : Nat)) 0 nO rfl ⟨u1, fun s' hs => u2 s' hs⟩ (by omega) (by omega) ?_ ?_
  · rintro i t - hi ⟨t1, t2⟩
    show zOk (q_Packing_countSources_99 E (kL c) (i : Int) t) _
    have q39 : t.1 39 i = o i := by rw [t1.2 39 i (by omega), oz.2 39 i (by omega)]; exact h8 i hi
    have hs := in1 (ho i hi)
    obtain ⟨d, hd⟩ : ∃ d : Nat, o i = d := ⟨(o i).toNat, by omega⟩
    have bi := cn_le o i (d : Int)
    have bj := cn_le P (4 * nU) (d : Int)
    have bk := cn_le l nL (d : Int)
    unfold q_Packing_countSources_99
    rw [t1.2 30 13 (by omega), oz.2 30 13 (by omega), h5, if_neg (by omega), kL_39, if_pos (by omega), gtN, q39, kL_58, hd, if_pos (by omega), gtN, t2 d (by omega), if_pos (by omega), ok_l, ok_l]
    refine ok_inl (Or.inl ⟨_, by rw [show ((i + 1 : Nat) : Int) = (i : Int) + 1 by omega], off_t t1 (off_put rfl), fun s' hs => ?_⟩)
    have := put t (fun s => cn P (4 * nU) (s : Int) + cn l nL (s : Int) + cn o i (s : Int)) d t2 s' hs
    rw [t2 d (by omega)] at this
    rw [this, cn_s, hd]
    by_cases y : s' = d
    · rw [if_pos y, if_pos (by omega), y]; omega
    · rw [if_neg y, if_neg (by omega)]; rfl
  · rintro t ht
    show zOk (q_Packing_countSources_99 E (kL c) (nO : Int) t) _
    unfold q_Packing_countSources_99
    rw [ht.1.2 30 13 (by omega), oz.2 30 13 (by omega), h5, if_pos (by omega)]
    exact ok_inr ⟨t, rfl, ht⟩
end
end
