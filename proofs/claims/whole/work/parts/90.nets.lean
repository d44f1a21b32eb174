set_option linter.unusedVariables false
-- LE
section
variable {E : gEv} {c : gCf}
/-- what is packed -/
def PkS (c : gCf) (nU nL nI nO : Nat) (P l o : Nat → Int) : Prop := (nU ≤ kP c ∧ nL ≤ 150 ∧ nI + nO ≤ kD c) ∧ (∀ j, j < 4 * nU → okS nI nL nU (P j)) ∧ (∀ j, j < nL → srcO nI nL nU (l j)) ∧ (∀ i, i < nO → srcO nI nL nU (o i)) ∧ eCn P l o nU nL nO nL ≤ kP c
section
variable {nU nL nI nO : Nat} {P l o : Nat → Int} {a b : gZ}
theorem psA_ok (hl : ∀ j, j < nL → srcO nI nL nU (l j)) (hP : ∀ j, j < 4 * nU → okS nI nL nU (P j)) : ∀ j, j ≤ nL → ∀ k, k < 4 * eCn P l o nU nL nO j → okS nI nL nU (psA P l o nU nL nO j k) := by
  intro j
  induction j with
  | zero => exact fun _ k hk => hP k hk
  | succ j ih =>
    intro hj k hk
    by_cases x : inL P l o nU nL nO j
    · rw [psA_t x]
      rw [eCn_t x] at hk
      exact ih (by omega) k hk
    · rw [eCn_f x] at hk
      rw [psA_f x]
      split
      · exact Or.inr (hl j (by omega))
      · split
        · exact Or.inl rfl
        · exact ih (by omega) k (by omega)
theorem snk_src (hk : kOk c) (h : PkS c nU nL nI nO P l o) {s : Nat} (hs : 0 < snkN P l o nU nL nO (s : Int)) : srcO nI nL nU (s : Int) ∧ ¬ hid P l o nU nL nO nL (s : Int) := by
  refine ⟨?_, fun q => by rw [snk_h q] at hs; omega⟩
  unfold snkN at hs
  by_cases x : 0 < cn (psA P l o nU nL nO nL) (4 * eCn P l o nU nL nO nL) (s : Int)
  · obtain ⟨k, k1, k2⟩ := cn_pos x
    rw [← k2]
    exact (psA_ok h.2.2.1 h.2.1 nL (Nat.le_refl _) k k1).elim (fun y => by omega) id
  · obtain ⟨i, i1, i2⟩ := cn_pos (f := o) (n := nO) (s := (s : Int)) (by omega)
    rw [← i2]; exact h.2.2.2.1 i i1
theorem nK_b (hk : kOk c) (h : PkS c nU nL nI nO P l o) (N : Nat) : nK P l o nU nL nO N ≤ nI + eCn P l o nU nL nO nL := by
  have hD := kD_b hk
  have hb := h.1
  have lo := eCn_lo (P := P) (l := l) (o := o) (nU := nU) (nL := nL) (nO := nO) nL
  have eb : ∀ j, j < nL → elj P l o nU nL nO j < eCn P l o nU nL nO nL := fun j hj => by
    have h1 := elj_b (P := P) (o := o) (nO := nO) (nI := nI) (by omega) (by omega) h.2.2.1 hj
    have h2 := eCn_mono (P := P) (l := l) (o := o) (nU := nU) (nL := nL) (nO := nO) (i := j + 1) (j := nL) hj
    omega
  -- a latch's element and a table's
  have ne : ∀ j e : Nat, j < nL → 0 < snkN P l o nU nL nO ((400 + e : Nat) : Int) → e < nU → elj P l o nU nL nO j ≠ e := fun j e hj hs he q => by
    by_cases x : inL P l o nU nL nO j
    · rw [elj_t x] at q
      have x1 := x.1
      have : hid P l o nU nL nO nL ((400 + e : Nat) : Int) := ⟨j, hj, x, by omega⟩
      rw [snk_h this] at hs; omega
    · rw [elj_f x] at q
      have := eCn_lo (P := P) (l := l) (o := o) (nU := nU) (nL := nL) (nO := nO) j
      omega
  unfold nK
  refine cnb_pg (nI + eCn P l o nU nL nO nL) (fun s => if s < 200 then s else if s < 400 then nI + elj P l o nU nL nO (s - 200) else nI + (s - 400)) (fun s _ hs => ?_) fun s t _ _ hs ht e => ?_
  · have hs := of_decide_eq_true hs
    have hx := (snk_src hk h hs).1
    unfold srcO at hx
    by_cases x : s < 200
    · rw [if_pos x]; omega
    · rw [if_neg x]
      by_cases y : s < 400
      · rw [if_pos y]; have := eb (s - 200) (by omega); omega
      · rw [if_neg y]; omega
  · have hs := of_decide_eq_true hs
    have ht := of_decide_eq_true ht
    have hx := (snk_src hk h hs).1
    have hy := (snk_src hk h ht).1
    unfold srcO at hx hy
    have cd : ∀ s : Nat, 0 < snkN P l o nU nL nO (s : Int) → 400 ≤ s → 0 < snkN P l o nU nL nO ((400 + (s - 400) : Nat) : Int) := fun s q hs => by rw [show 400 + (s - 400) = s by omega]; exact q
    have e : (if s < 200 then s else if s < 400 then nI + elj P l o nU nL nO (s - 200) else nI + (s - 400)) = if t < 200 then t else if t < 400 then nI + elj P l o nU nL nO (t - 200) else nI + (t - 400) := e
    by_cases x : s < 200
    · rw [if_pos x] at e
      by_cases y : t < 200
      · rw [if_pos y] at e; exact e
      · rw [if_neg y] at e
        split at e <;> omega
    · rw [if_neg x] at e
      by_cases y : t < 200
      · rw [if_pos y] at e
        split at e <;> omega
      · rw [if_neg y] at e
        by_cases x4 : s < 400
        · rw [if_pos x4] at e
          by_cases y4 : t < 400
          · rw [if_pos y4] at e
            have := elj_i (P := P) (o := o) (nO := nO) (nI := nI) (by omega) (by omega) h.2.2.1 (i := s - 200) (j := t - 200) (by omega) (by omega) (by omega)
            omega
          · rw [if_neg y4] at e
            exact absurd (by omega) (ne (s - 200) (t - 400) (by omega) (cd t ht (by omega)) (by omega))
        · rw [if_neg x4] at e
          by_cases y4 : t < 400
          · rw [if_pos y4] at e
            exact absurd (by omega) (ne (t - 200) (s - 400) (by omega) (cd s hs (by omega)) (by omega))
          · rw [if_neg y4] at e; omega
theorem fS_b (N : Nat) : fS P l o nU nL nO N ≤ 4 * eCn P l o nU nL nO nL + nO := by
  unfold fS
  have : sumN (fun s => snkN P l o nU nL nO (s : Int)) N = sumN (fun s => cn (psA P l o nU nL nO nL) (4 * eCn P l o nU nL nO nL) (s : Int)) N + sumN (fun s => cn o nO (s : Int)) N := by
    rw [← sum_a]; rfl
  rw [this]
  have h1 := sum_cn (psA P l o nU nL nO nL) (4 * eCn P l o nU nL nO nL) N
  have h2 := sum_cn o nO N
  omega
theorem nK_top (hk : kOk c) (h : PkS c nU nL nI nO P l o) {N : Nat} (hN : 400 + nU ≤ N) : nK P l o nU nL nO N = nK P l o nU nL nO (400 + nU) ∧ fS P l o nU nL nO N = fS P l o nU nL nO (400 + nU) := by
  obtain ⟨d, rfl⟩ : ∃ d, N = 400 + nU + d := ⟨N - (400 + nU), by omega⟩
  have hD := kD_b hk
  have hb := h.1
  clear hN
  induction d with
  | zero => exact ⟨rfl, rfl⟩
  | succ d ih =>
    have z : snkN P l o nU nL nO ((400 + nU + d : Nat) : Int) = 0 := by
      by_cases x : 0 < snkN P l o nU nL nO ((400 + nU + d : Nat) : Int)
      · have := (snk_src hk h x).1
        unfold srcO at this
        omega
      · omega
    rw [← Nat.add_assoc, nK_s, fS_s, z, if_neg (by omega)]
    exact ih
/-- the class's nets -/
theorem s_nets (hk : kOk c) (h : PkS c nU nL nI nO P l o) (hC : PkC c nU nL nI nO P l o a) (h58 : ∀ s' : Nat, s' < 400 + kP c → a.1 58 s' = (us P l o nU nL nO (s' : Int) : Nat)) (h54 : ∀ j, j < nL → a.1 54 j = (elj P l o nU nL nO j : Nat)) : zOk (q_Packing_setNets E (kL c) a) (fun s => zOff (fun k j => k = 58 ∨ k = 59 ∨ k = 60 ∨ k = 62 ∨ (k = 53 ∧ j = 17)) a s ∧ s.1 53 17 = (nK P l o nU nL nO (400 + nU) : Nat) ∧ s.1 62 (nK P l o nU nL nO (400 + nU)) = (fS P l o nU nL nO (400 + nU) : Nat) ∧ ∀ s' : Nat, s' < 400 + kP c → s.1 59 s' = (if 0 < snkN P l o nU nL nO (s' : Int) then (nK P l o nU nL nO s' : Int) else -1) ∧ (0 < snkN P l o nU nL nO (s' : Int) → s.1 60 (nK P l o nU nL nO s') = (s' : Int) ∧ s.1 62 (nK P l o nU nL nO s') = (fS P l o nU nL nO s' : Nat))) := by
  have hD := kD_b hk
  have hPb := kP_b hk
  have hb := h.1
  have mb := h.2.2.2.2
  obtain ⟨h1, ⟨h2, h3, h4, h5⟩, h6, h7, h8⟩ := hC
  have nb := nK_b hk h
  have sb := fS_b (P := P) (l := l) (o := o) (nU := nU) (nL := nL) (nO := nO)
  unfold q_Packing_setNets
  refine ok_b1 (fun t => zOff (fun k j => k = 58) a t ∧ ∀ s' : Nat, s' < 400 + kP c → t.1 58 s' = (snkN P l o nU nL nO (s' : Int) : Nat)) ?_ fun t ⟨t1, t2⟩ => ?_
  · refine it_for (fun (i : Nat) (t : gZ) => ((i : Int), t)) (fun j t => zOff (fun k j => k = 58) a t ∧ ∀ s' : Nat, s' < 400 + kP c → (hid P l o nU nL nO j (s' : Int) → t.1 58 s' = 0) ∧ (¬ hid P l o nU nL nO j (s' : Int) → t.1 58 s' = (us P l o nU nL nO (s' : Int) : Nat))) 0 nL rfl ⟨off_r, fun s' hs => ⟨fun ⟨j, q, _⟩ => by omega, fun _ => h58 s' hs⟩⟩ (by omega) (by omega) ?_ ?_
    · rintro j t - hj ⟨t1, t2⟩
      show zOk (q_Packing_setNets_2 E (kL c) (j : Int) t) _
      have sl := h.2.2.1 j hj
      unfold q_Packing_setNets_2
      rw [t1.2 30 11 (by omega), h3, if_neg (by omega), kL_54, if_pos (by omega), gtN, t1.2 30 10 (by omega), h2, t1.2 54 j (by omega), h54 j hj]
      by_cases x : inL P l o nU nL nO j
      · have x1 := x.1
        have el := elj_t x
        have lu : l j < 400 + nU := by unfold srcO at sl; omega
        rw [if_neg (by omega), kL_31, if_pos (by omega), t1.2 31 j (by omega), h7 j hj, kL_58, if_pos (by omega), ok_l, ok_l]
        refine ok_inl (Or.inl ⟨_, by rw [show ((j + 1 : Nat) : Int) = (j : Int) + 1 by omega], off_t t1 (off_put rfl), fun s' hs => ⟨fun ⟨i, i1, i2, i3⟩ => ?_, fun q => ?_⟩⟩)
        · rw [zp1, if_pos rfl]
          by_cases y : s' = (l j).toNat
          · rw [if_pos y]
          · rw [if_neg y]
            refine (t2 s' hs).1 ⟨i, ?_, i2, i3⟩
            by_cases u : i = j
            · rw [u] at i3; omega
            · omega
        · rw [zp1, if_pos rfl, if_neg fun y => q ⟨j, by omega, x, by omega⟩]
          exact (t2 s' hs).2 fun ⟨i, i1, i2⟩ => q ⟨i, by omega, i2⟩
      · have el := elj_f x
        have lo := eCn_lo (P := P) (l := l) (o := o) (nU := nU) (nL := nL) (nO := nO) j
        rw [if_pos (by omega), ok_l]
        refine ok_inl (Or.inl ⟨t, by rw [show ((j + 1 : Nat) : Int) = (j : Int) + 1 by omega], t1, fun s' hs => ⟨fun ⟨i, i1, i2, i3⟩ => ?_, fun q => ?_⟩⟩)
        · refine (t2 s' hs).1 ⟨i, ?_, i2, i3⟩
          by_cases u : i = j
          · rw [u] at i2; exact absurd i2 x
          · omega
        · exact (t2 s' hs).2 fun ⟨i, i1, i2⟩ => q ⟨i, by omega, i2⟩
    · rintro t ⟨t1, t2⟩
      show zOk (q_Packing_setNets_2 E (kL c) (nL : Int) t) _
      unfold q_Packing_setNets_2
      rw [t1.2 30 11 (by omega), h3, if_pos (by omega)]
      refine ok_inr ⟨t, rfl, t1, fun s' hs => ?_⟩
      by_cases x : hid P l o nU nL nO nL (s' : Int)
      · rw [(t2 s' hs).1 x, snk_h x]; rfl
      · rw [(t2 s' hs).2 x, snk_n (by omega) x]
  rw [ok_l]
  generalize ht0 : zPut t 53 17 0 = t0
  have o0 : zOff (fun k j => k = 53 ∧ j = 17) t t0 := by rw [← ht0]; exact off_put ⟨rfl, rfl⟩
  have z17 : t0.1 53 17 = 0 := by rw [← ht0]; exact zp_eq _ _ _ _
  have c58 : ∀ s' : Nat, s' < 400 + kP c → t0.1 58 s' = (snkN P l o nU nL nO (s' : Int) : Nat) := fun s' hs => by rw [o0.2 58 s' (by omega)]; exact t2 s' hs
  refine ok_b1 (fun r => r.1 = ((fS P l o nU nL nO (400 + kP c) : Nat) : Int) ∧ zOff (fun k j => k = 59 ∨ k = 60 ∨ k = 62 ∨ (k = 53 ∧ j = 17)) t0 r.2 ∧ r.2.1 53 17 = (nK P l o nU nL nO (400 + kP c) : Nat) ∧ ∀ s' : Nat, s' < 400 + kP c → r.2.1 59 s' = (if 0 < snkN P l o nU nL nO (s' : Int) then (nK P l o nU nL nO s' : Int) else -1) ∧ (0 < snkN P l o nU nL nO (s' : Int) → r.2.1 60 (nK P l o nU nL nO s') = (s' : Int) ∧ r.2.1 62 (nK P l o nU nL nO s') = (fS P l o nU nL nO s' : Nat))) ?_ ?_
  · refine it_for (fun (i : Nat) (t : gZ) => (((fS P l o nU nL nO i : Nat) : Int), (i : Int), t)) (fun i t => zOff (fun k j => k = 59 ∨ k = 60 ∨ k = 62 ∨ (k = 53 ∧ j = 17)) t0 t ∧ t.1 53 17 = (nK P l o nU nL nO i : Nat) ∧ ∀ s' : Nat, s' < i → t.1 59 s' = (if 0 < snkN P l o nU nL nO (s' : Int) then (nK P l o nU nL nO s' : Int) else -1) ∧ (0 < snkN P l o nU nL nO (s' : Int) → t.1 60 (nK P l o nU nL nO s') = (s' : Int) ∧ t.1 62 (nK P l o nU nL nO s') = (fS P l o nU nL nO s' : Nat))) 0 (400 + kP c) rfl ⟨off_r, z17, fun s' hs => by omega⟩ (by omega) (by omega) ?_ ?_
    · rintro i u - hi ⟨u1, u2, u3⟩
      show zOk (q_Packing_setNets_59 E (kL c) ((fS P l o nU nL nO i : Nat) : Int) (i : Int) u) _
      have ci : u.1 58 i = (snkN P l o nU nL nO (i : Int) : Nat) := by rw [u1.2 58 i (by omega)]; exact c58 i hi
      have n1 := nb (i + 1)
      have n0 := nb i
      have s0 := sb i
      have s1 := sb (i + 1)
      rw [fS_s] at s1
      unfold q_Packing_setNets_59
      rw [kL_58, if_neg (by omega), kL_59, if_pos (by omega), ok_l, if_pos (by omega), gtN, zp_n (k' := 58) (by omega), ci]
      by_cases x : 0 < snkN P l o nU nL nO (i : Int)
      · rw [nK_s, if_pos x] at n1
        have c17 : (zPut u 59 i (-1)).1 53 17 = (nK P l o nU nL nO i : Nat) := u2
        rw [if_neg (by omega), ok_l, c17, kL_60]
        generalize hw : zPut (zPut u 59 i (-1)) 59 i ((nK P l o nU nL nO i : Nat) : Int) = w
        have w17 : w.1 53 17 = (nK P l o nU nL nO i : Nat) := by rw [← hw]; exact u2
        rw [w17, if_pos (by omega), ok_l, gtN]
        have c17' : (zPut w 60 (nK P l o nU nL nO i) (i : Int)).1 53 17 = (nK P l o nU nL nO i : Nat) := w17
        rw [c17', kL_62, if_pos (by omega), ok_l, gtN]
        have c17'' : (zPut (zPut w 60 (nK P l o nU nL nO i) (i : Int)) 62 (nK P l o nU nL nO i) ((fS P l o nU nL nO i : Nat) : Int)).1 53 17 = (nK P l o nU nL nO i : Nat) := w17
        rw [c17'', if_pos (by omega), ok_l]
        have c58' : (zPut (zPut (zPut w 60 (nK P l o nU nL nO i) (i : Int)) 62 (nK P l o nU nL nO i) ((fS P l o nU nL nO i : Nat) : Int)) 53 17 (((nK P l o nU nL nO i : Nat) : Int) + 1)).1 58 i = (snkN P l o nU nL nO (i : Int) : Nat) := by
          rw [zp_n (by omega), zp_n (by omega), zp_n (by omega), ← hw, zp_n (by omega), zp_n (by omega)]; exact ci
        rw [c58', if_pos (by omega), ok_l, ok_l]
        refine ok_inl (Or.inl ⟨_, by rw [show ((i + 1 : Nat) : Int) = (i : Int) + 1 by omega, fS_s, show ((fS P l o nU nL nO i + snkN P l o nU nL nO (i : Int) : Nat) : Int) = (fS P l o nU nL nO i : Int) + (snkN P l o nU nL nO (i : Int) : Int) by omega], ?_, ?_, fun s' hs => ?_⟩)
        · refine off_t u1 (off_t ?_ (off_t (off_put (by omega)) (off_t (off_put (by omega)) (off_put (by omega)))))
          rw [← hw]
          exact off_t (off_put (by omega)) (off_put (by omega))
        · rw [zp_eq, nK_s, if_pos x]; omega
        · rw [zp_n (k' := 59) (by omega), zp_n (k' := 59) (by omega), zp_n (k' := 59) (by omega), zp_n (k' := 60) (by omega), zp_n (k' := 60) (by omega), zp_n (k' := 62) (by omega)]
          have w59 : ∀ s', w.1 59 s' = if s' = i then ((nK P l o nU nL nO i : Nat) : Int) else u.1 59 s' := fun s' => by
            rw [← hw, zp1, if_pos rfl]
            by_cases y : s' = i
            · rw [if_pos y, if_pos y]
            · rw [if_neg y, if_neg y, zp_n (by omega)]
          rw [w59]
          by_cases y : s' = i
          · rw [if_pos y, y, if_pos x]
            exact ⟨rfl, fun _ => ⟨zp_eq _ _ _ _, zp_eq _ _ _ _⟩⟩
          · rw [if_neg y]
            refine ⟨(u3 s' (by omega)).1, fun q => ?_⟩
            have ne : nK P l o nU nL nO s' ≠ nK P l o nU nL nO i := fun e => y (nK_i q x e)
            have w6 : ∀ k j, k = 60 ∨ k = 62 → w.1 k j = u.1 k j := fun k j hk => by rw [← hw, zp_n (by omega), zp_n (by omega)]
            rw [zp_n (k' := 60) (by omega), zp_n (k' := 62) (by omega), zp_n (k' := 62) (by omega), w6 60 _ (by omega), w6 62 _ (by omega)]
            exact (u3 s' (by omega)).2 q
      · rw [if_pos (by omega), ok_l]
        refine ok_inl (Or.inl ⟨_, by rw [show ((i + 1 : Nat) : Int) = (i : Int) + 1 by omega, fS_s, show snkN P l o nU nL nO (i : Int) = 0 by omega, Nat.add_zero], off_t u1 (off_put (by omega)), ?_, fun s' hs => ?_⟩)
        · rw [zp_n (by omega), nK_s, if_neg x]; exact u2
        · rw [zp1, if_pos rfl, zp_n (k' := 60) (by omega), zp_n (k' := 62) (by omega)]
          by_cases y : s' = i
          · rw [if_pos y, y, if_neg x]
            exact ⟨rfl, fun q => absurd q x⟩
          · rw [if_neg y]; exact u3 s' (by omega)
    · rintro u ⟨u1, u2, u3⟩
      show zOk (q_Packing_setNets_59 E (kL c) ((fS P l o nU nL nO (400 + kP c) : Nat) : Int) ((400 + kP c : Nat) : Int) u) _
      unfold q_Packing_setNets_59
      rw [kL_58, if_pos (by omega)]
      exact ok_inr ⟨_, rfl, rfl, u1, u2, u3⟩
  · rintro ⟨v, u⟩ ⟨u0, u1, u2, u3⟩
    have u0 : v = ((fS P l o nU nL nO (400 + kP c) : Nat) : Int) := u0
    have u1 : zOff (fun k j => k = 59 ∨ k = 60 ∨ k = 62 ∨ (k = 53 ∧ j = 17)) t0 u := u1
    have u2 : u.1 53 17 = (nK P l o nU nL nO (400 + kP c) : Nat) := u2
    have top := nK_top hk h (N := 400 + kP c) (by omega)
    have n1 := nb (400 + kP c)
    show zOk (if 0 ≤ u.1 53 17 ∧ u.1 53 17 < ((kL c 62 : Nat) : Int) then gLet (zPut u 62 ((u.1 53 17).toNat) v) fun s18 => some s18 else none) _
    rw [u2, kL_62, if_pos (by omega), ok_l, gtN, u0, top.1, top.2]
    rw [top.1] at u2
    refine ok_so ⟨off_t (off_w t1 fun k j x => by omega) (off_t (off_w o0 fun k j x => by omega) (off_t (off_w u1 fun k j x => by omega) (off_put (by omega)))), by rw [zp_n (by omega)]; exact u2, zp_eq _ _ _ _, fun s' hs => ?_⟩
    rw [zp_n (k' := 59) (by omega), zp_n (k' := 60) (by omega)]
    refine ⟨(u3 s' hs).1, fun q => ?_⟩
    have hx := (snk_src hk h q).1
    have l1 : nK P l o nU nL nO s' < nK P l o nU nL nO (400 + nU) := by
      have := nK_m (P := P) (l := l) (o := o) (nU := nU) (nL := nL) (nO := nO) (i := s' + 1) (j := 400 + nU) (by unfold srcO at hx; omega)
      rw [nK_s, if_pos q] at this
      omega
    rw [zp_n (k' := 62) (by omega)]
    exact (u3 s' hs).2 q
end
end
