set_option linter.unusedVariables false
-- LG
section
variable {E : gEv} {c : gCf}
def pNq (k j : Nat) : Prop := k = 129 ∨ k = 130 ∨ k = 131 ∨ (k = 94 ∧ (j = 60 ∨ j = 61))
section
variable {nU nL nI nO : Nat} {P l o : Nat → Int} {b : gZ}
/-- each sink below n is one of a pin or of an output -/
def cvr (P l o : Nat → Int) (nU nL nO n : Nat) : Prop := ∀ i, i < n → (∃ k, k < 4 * eCn P l o nU nL nO nL ∧ psA P l o nU nL nO nL k ≠ -1 ∧ posP P l o nU nL nO k = i) ∨ ∃ j, j < nO ∧ posO P l o nU nL nO j = i
theorem s_netsM (hk : kOk c) (h : PkS c nU nL nI nO P l o) (hM : PkM nU nL nI nO P l o b) (h55 : b.1 94 55 = (eCn P l o nU nL nO nL : Nat)) (h126 : ∀ k, k < 4 * eCn P l o nU nL nO nL → b.1 126 k = psA P l o nU nL nO nL k) (h60 : b.1 94 60 = 0) (h61 : b.1 94 61 = 0) : zOk (gIter (fun y => q_Model_makeNets_12 E (kL c) y.1 y.2) gN (0, b)) (fun t => zOff pNq b t ∧ t.1 94 61 = (fS P l o nU nL nO (400 + nU) : Nat) ∧ t.1 94 60 = (nK P l o nU nL nO (400 + nU) : Nat) ∧ (∀ s' : Nat, s' < 400 + nU → 0 < snkN P l o nU nL nO (s' : Int) → t.1 129 (nK P l o nU nL nO s') = (s' : Int) ∧ t.1 130 (nK P l o nU nL nO s') = (fS P l o nU nL nO s' : Nat)) ∧ (∀ k, k < 4 * eCn P l o nU nL nO nL → psA P l o nU nL nO nL k ≠ -1 → psA P l o nU nL nO nL k < ((400 + nU : Nat) : Int) → t.1 131 (posP P l o nU nL nO k) = (k : Int)) ∧ (∀ i, i < nO → o i < ((400 + nU : Nat) : Int) → t.1 131 (posO P l o nU nL nO i) = ((1000 + i : Nat) : Int)) ∧ cvr P l o nU nL nO (fS P l o nU nL nO (400 + nU))) := by
  have hPb := kP_b hk
  have hD := kD_b hk
  have hb := h.1
  have mb := h.2.2.2.2
  have pok := psA_ok (P := P) (o := o) (nO := nO) h.2.2.1 h.2.1 nL (Nat.le_refl _)
  have sb := fS_b (P := P) (l := l) (o := o) (nU := nU) (nL := nL) (nO := nO)
  have nb := nK_b hk h
  have rk : ∀ k, k < 4 * eCn P l o nU nL nO nL → psA P l o nU nL nO nL k ≠ -1 → ∃ s : Nat, psA P l o nU nL nO nL k = s ∧ cn (psA P l o nU nL nO nL) k (s : Int) < snkN P l o nU nL nO (s : Int) ∧ posP P l o nU nL nO k = fS P l o nU nL nO s + cn (psA P l o nU nL nO nL) k (s : Int) := fun k hk' hx => by
    have q := (pok k hk').elim (fun y => absurd y hx) id
    unfold srcO at q
    obtain ⟨s, hs⟩ : ∃ s : Nat, psA P l o nU nL nO nL k = s := ⟨(psA P l o nU nL nO nL k).toNat, by omega⟩
    refine ⟨s, hs, ?_, by unfold posP; rw [hs, gtN]⟩
    have := cn_lt (f := psA P l o nU nL nO nL) (s := (s : Int)) hk' hs
    unfold snkN; omega
  have ro : ∀ i, i < nO → ∃ s : Nat, o i = s ∧ cn (psA P l o nU nL nO nL) (4 * eCn P l o nU nL nO nL) (s : Int) + cn o i (s : Int) < snkN P l o nU nL nO (s : Int) ∧ posO P l o nU nL nO i = fS P l o nU nL nO s + (cn (psA P l o nU nL nO nL) (4 * eCn P l o nU nL nO nL) (s : Int) + cn o i (s : Int)) := fun i hi => by
    have q := h.2.2.2.1 i hi
    unfold srcO at q
    obtain ⟨s, hs⟩ : ∃ s : Nat, o i = s := ⟨(o i).toNat, by omega⟩
    refine ⟨s, hs, ?_, by unfold posO; rw [hs, gtN]⟩
    have := cn_lt (f := o) (s := (s : Int)) hi hs
    unfold snkN; omega
  have lo : ∀ s t r : Nat, s < t → r < snkN P l o nU nL nO (s : Int) → fS P l o nU nL nO s + r < fS P l o nU nL nO t := fun s t r h q => by
    have : fS P l o nU nL nO (s + 1) ≤ fS P l o nU nL nO t := sum_m h
    rw [fS_s] at this
    omega
  refine it_for (fun (i : Nat) (t : gZ) => ((i : Int), t)) (fun s t => zOff pNq b t ∧ t.1 94 61 = (fS P l o nU nL nO s : Nat) ∧ t.1 94 60 = (nK P l o nU nL nO s : Nat) ∧ (∀ s' : Nat, s' < s → 0 < snkN P l o nU nL nO (s' : Int) → t.1 129 (nK P l o nU nL nO s') = (s' : Int) ∧ t.1 130 (nK P l o nU nL nO s') = (fS P l o nU nL nO s' : Nat)) ∧ (∀ k, k < 4 * eCn P l o nU nL nO nL → psA P l o nU nL nO nL k ≠ -1 → psA P l o nU nL nO nL k < (s : Int) → t.1 131 (posP P l o nU nL nO k) = (k : Int)) ∧ (∀ i, i < nO → o i < (s : Int) → t.1 131 (posO P l o nU nL nO i) = ((1000 + i : Nat) : Int)) ∧ cvr P l o nU nL nO (fS P l o nU nL nO s)) 0 (400 + nU) rfl ⟨off_r, h61, h60, fun s' hs => by omega, fun k hk' hx hy => by obtain ⟨s, q, -⟩ := rk k hk' hx; omega, fun i hi hy => by obtain ⟨s, q, -⟩ := ro i hi; omega, fun i hi => absurd hi (Nat.not_lt_zero i)⟩ (by omega) (by omega) ?_ ?_
  · rintro s t - hs ⟨t1, t2, t3, t4, t5, t6, t7⟩
    show zOk (q_Model_makeNets_12 E (kL c) (s : Int) t) _
    have hMt : PkM nU nL nI nO P l o t := PkM_c hM fun k j x => t1.2 k j (by unfold rPm at x; unfold pNq; omega)
    have s0 := sb s
    have s1 := sb (s + 1)
    rw [fS_s] at s1
    have n0 := nb s
    have n1 := nb (s + 1)
    have sn : snkN P l o nU nL nO (s : Int) = cn (psA P l o nU nL nO nL) (4 * eCn P l o nU nL nO nL) (s : Int) + cn o nO (s : Int) := rfl
    unfold q_Model_makeNets_12
    rw [hMt.2.1.1, if_pos (by omega), if_neg (by omega), ok_l, t2]
    -- pins
    refine ok_b1 (fun u => zOff (fun k j => (k = 131 ∧ fS P l o nU nL nO s ≤ j) ∨ (k = 94 ∧ j = 61)) t u ∧ u.1 94 61 = ((fS P l o nU nL nO s + cn (psA P l o nU nL nO nL) (4 * eCn P l o nU nL nO nL) (s : Int) : Nat) : Int) ∧ (∀ k, k < 4 * eCn P l o nU nL nO nL → psA P l o nU nL nO nL k = (s : Int) → u.1 131 (posP P l o nU nL nO k) = (k : Int)) ∧ cvr P l o nU nL nO (fS P l o nU nL nO s + cn (psA P l o nU nL nO nL) (4 * eCn P l o nU nL nO nL) (s : Int))) ?_ fun u ⟨u1, u2, u3, u4⟩ => ?_
    · refine it_for (fun (i : Nat) (t : gZ) => ((i : Int), t)) (fun i u => zOff (fun k j => (k = 131 ∧ fS P l o nU nL nO s ≤ j) ∨ (k = 94 ∧ j = 61)) t u ∧ u.1 94 61 = ((fS P l o nU nL nO s + cn (psA P l o nU nL nO nL) i (s : Int) : Nat) : Int) ∧ (∀ k, k < i → psA P l o nU nL nO nL k = (s : Int) → u.1 131 (posP P l o nU nL nO k) = (k : Int)) ∧ cvr P l o nU nL nO (fS P l o nU nL nO s + cn (psA P l o nU nL nO nL) i (s : Int))) 0 (4 * eCn P l o nU nL nO nL) rfl ⟨off_r, t2, fun k hk => by omega, t7⟩ (by omega) (by omega) ?_ ?_
      · rintro i u - hi ⟨u1, u2, u3, u4⟩
        show zOk (q_Model_makeNets_31 E (kL c) (s : Int) ((fS P l o nU nL nO s : Nat) : Int) (i : Int) u) _
        have ci := cn_mono (f := psA P l o nU nL nO nL) (s := (s : Int)) (show i ≤ 4 * eCn P l o nU nL nO nL by omega)
        unfold q_Model_makeNets_31
        rw [u1.2 94 55 (by omega), t1.2 94 55 (by unfold pNq; omega), h55, if_pos (by omega), if_neg (by omega), kL_126, if_pos (by omega), gtN, u1.2 126 i (by omega), t1.2 126 i (by unfold pNq; omega), h126 i hi]
        by_cases x : psA P l o nU nL nO nL i = (s : Int)
        · have ck := cn_lt (f := psA P l o nU nL nO nL) (s := (s : Int)) hi x
          obtain ⟨s', q1, q2, q3⟩ := rk i hi (by omega)
          have es : s' = s := by omega
          subst es
          rw [if_pos x, u2, kL_131, if_pos (by omega), ok_l, gtN, zp_n (k' := 94) (by omega), u2, if_pos (by omega), ok_l, ok_l]
          refine ok_inl (Or.inl ⟨_, by rw [show ((i + 1 : Nat) : Int) = (i : Int) + 1 by omega], off_t u1 (off_t (off_put (by omega)) (off_put (by omega))), ?_, fun k hk' hx => ?_, fun j hj => ?_⟩)
          · rw [zp_eq, cn_s, if_pos x]; omega
          · rw [zp_n (k' := 131) (by omega), zp1, if_pos rfl]
            by_cases y : k = i
            · rw [y, q3, if_pos rfl]
            · obtain ⟨s2, p1, p2, p3⟩ := rk k (by omega) (by omega)
              have es : s2 = s' := by omega
              subst es
              have := cn_lt (f := psA P l o nU nL nO nL) (n := k) (m := i) (s := (s2 : Int)) (by omega) p1
              rw [p3, if_neg (by omega), ← p3]
              exact u3 k (by omega) hx
          · rw [cn_s, if_pos x] at hj
            by_cases y : j < fS P l o nU nL nO s' + cn (psA P l o nU nL nO nL) i (s' : Int)
            · exact u4 j y
            · exact Or.inl ⟨i, hi, by omega, by omega⟩
        · rw [if_neg x, ok_l]
          refine ok_inl (Or.inl ⟨u, by rw [show ((i + 1 : Nat) : Int) = (i : Int) + 1 by omega], u1, ?_, fun k hk' hx => ?_, ?_⟩)
          · rw [cn_s, if_neg x]; exact u2
          · by_cases y : k = i
            · rw [y] at hx; exact absurd hx x
            · exact u3 k (by omega) hx
          · rw [cn_s, if_neg x]; exact u4
      · rintro u hu
        show zOk (q_Model_makeNets_31 E (kL c) (s : Int) ((fS P l o nU nL nO s : Nat) : Int) ((4 * eCn P l o nU nL nO nL : Nat) : Int) u) _
        unfold q_Model_makeNets_31
        rw [hu.1.2 94 55 (by omega), t1.2 94 55 (by unfold pNq; omega), h55, if_pos (by omega), if_pos (by omega)]
        exact ok_inr ⟨u, rfl, hu⟩
    -- outputs
    refine ok_b1 (fun w => zOff (fun k j => (k = 131 ∧ fS P l o nU nL nO s ≤ j) ∨ (k = 94 ∧ j = 61)) t w ∧ w.1 94 61 = ((fS P l o nU nL nO (s + 1) : Nat) : Int) ∧ (∀ k, k < 4 * eCn P l o nU nL nO nL → psA P l o nU nL nO nL k = (s : Int) → w.1 131 (posP P l o nU nL nO k) = (k : Int)) ∧ (∀ i, i < nO → o i = (s : Int) → w.1 131 (posO P l o nU nL nO i) = ((1000 + i : Nat) : Int)) ∧ cvr P l o nU nL nO (fS P l o nU nL nO (s + 1))) ?_ fun w ⟨w1, w2, w3, w4, w5⟩ => ?_
    · refine it_for (fun (i : Nat) (t : gZ) => ((i : Int), t)) (fun i w => zOff (fun k j => (k = 131 ∧ fS P l o nU nL nO s ≤ j) ∨ (k = 94 ∧ j = 61)) t w ∧ w.1 94 61 = ((fS P l o nU nL nO s + (cn (psA P l o nU nL nO nL) (4 * eCn P l o nU nL nO nL) (s : Int) + cn o i (s : Int)) : Nat) : Int) ∧ (∀ k, k < 4 * eCn P l o nU nL nO nL → psA P l o nU nL nO nL k = (s : Int) → w.1 131 (posP P l o nU nL nO k) = (k : Int)) ∧ (∀ i', i' < i → o i' = (s : Int) → w.1 131 (posO P l o nU nL nO i') = ((1000 + i' : Nat) : Int)) ∧ cvr P l o nU nL nO (fS P l o nU nL nO s + (cn (psA P l o nU nL nO nL) (4 * eCn P l o nU nL nO nL) (s : Int) + cn o i (s : Int)))) 0 nO rfl ⟨u1, u2, u3, fun i hi => by omega, u4⟩ (by omega) (by omega) ?_ ?_
      · rintro i w - hi ⟨w1, w2, w3, w4, w5⟩
        show zOk (q_Model_makeNets_79 E (kL c) (s : Int) ((fS P l o nU nL nO s : Nat) : Int) (i : Int) w) _
        have hMw : PkM nU nL nI nO P l o w := PkM_c hMt fun k j x => w1.2 k j (by unfold rPm at x; omega)
        have ci := cn_mono (f := o) (s := (s : Int)) (show i ≤ nO by omega)
        unfold q_Model_makeNets_79
        rw [hMw.2.1.2.2.2, if_neg (by omega), kL_105, if_pos (by omega), gtN, s_srcO hMw hi, b1_s]
        by_cases x : o i = (s : Int)
        · have ck := cn_lt (f := o) (s := (s : Int)) hi x
          obtain ⟨s', q1, q2, q3⟩ := ro i hi
          have es : s' = s := by omega
          subst es
          rw [if_pos x, w2, kL_131, if_pos (by omega), if_pos (by omega), ok_l, gtN, zp_n (k' := 94) (by omega), w2, if_pos (by omega), ok_l, ok_l]
          refine ok_inl (Or.inl ⟨_, by rw [show ((i + 1 : Nat) : Int) = (i : Int) + 1 by omega], off_t w1 (off_t (off_put (by omega)) (off_put (by omega))), ?_, fun k hk' hx => ?_, fun i' hi' hx => ?_, fun j hj => ?_⟩)
          · rw [zp_eq, cn_s, if_pos x]; omega
          · obtain ⟨s2, p1, p2, p3⟩ := rk k hk' (by omega)
            have es : s2 = s' := by omega
            subst es
            have := cn_lt (f := psA P l o nU nL nO nL) (n := k) (m := 4 * eCn P l o nU nL nO nL) (s := (s2 : Int)) hk' p1
            rw [zp_n (k' := 131) (by omega), zp1, if_pos rfl, p3, if_neg (by omega), ← p3]
            exact w3 k hk' hx
          · rw [zp_n (k' := 131) (by omega), zp1, if_pos rfl]
            by_cases y : i' = i
            · rw [y, q3, if_pos rfl]; omega
            · obtain ⟨s2, p1, p2, p3⟩ := ro i' (by omega)
              have es : s2 = s' := by omega
              subst es
              have := cn_lt (f := o) (n := i') (m := i) (s := (s2 : Int)) (by omega) p1
              rw [p3, if_neg (by omega), ← p3]
              exact w4 i' (by omega) hx
          · rw [cn_s, if_pos x] at hj
            by_cases y : j < fS P l o nU nL nO s' + (cn (psA P l o nU nL nO nL) (4 * eCn P l o nU nL nO nL) (s' : Int) + cn o i (s' : Int))
            · exact w5 j y
            · exact Or.inr ⟨i, hi, by omega⟩
        · rw [if_neg x, ok_l]
          refine ok_inl (Or.inl ⟨w, by rw [show ((i + 1 : Nat) : Int) = (i : Int) + 1 by omega], w1, ?_, w3, fun i' hi' hx => ?_, ?_⟩)
          · rw [cn_s, if_neg x]; exact w2
          · by_cases y : i' = i
            · rw [y] at hx; exact absurd hx x
            · exact w4 i' (by omega) hx
          · rw [cn_s, if_neg x]; exact w5
      · rintro w ⟨w1, w2, w3, w4, w5⟩
        show zOk (q_Model_makeNets_79 E (kL c) (s : Int) ((fS P l o nU nL nO s : Nat) : Int) (nO : Int) w) _
        have hMw : PkM nU nL nI nO P l o w := PkM_c hMt fun k j x => w1.2 k j (by unfold rPm at x; omega)
        unfold q_Model_makeNets_79
        rw [hMw.2.1.2.2.2, if_pos (by omega)]
        exact ok_inr ⟨w, rfl, w1, w2, w3, w4, w5⟩
    -- the net
    have fs1 : fS P l o nU nL nO (s + 1) = fS P l o nU nL nO s + snkN P l o nU nL nO (s : Int) := rfl
    have old5 : ∀ v : gZ, (∀ j, v.1 131 j = w.1 131 j) → ∀ k, k < 4 * eCn P l o nU nL nO nL → psA P l o nU nL nO nL k ≠ -1 → psA P l o nU nL nO nL k < ((s + 1 : Nat) : Int) → v.1 131 (posP P l o nU nL nO k) = (k : Int) := fun v hv k hk' hx hy => by
      rw [hv]
      by_cases y : psA P l o nU nL nO nL k = (s : Int)
      · exact w3 k hk' y
      · obtain ⟨s2, p1, p2, p3⟩ := rk k hk' hx
        have := lo s2 s _ (by omega) p2
        rw [w1.2 131 _ (by omega)]
        exact t5 k hk' hx (by omega)
    have old6 : ∀ v : gZ, (∀ j, v.1 131 j = w.1 131 j) → ∀ i, i < nO → o i < ((s + 1 : Nat) : Int) → v.1 131 (posO P l o nU nL nO i) = ((1000 + i : Nat) : Int) := fun v hv i hi hy => by
      rw [hv]
      by_cases y : o i = (s : Int)
      · exact w4 i hi y
      · obtain ⟨s2, p1, p2, p3⟩ := ro i hi
        have := lo s2 s _ (by omega) p2
        rw [w1.2 131 _ (by omega)]
        exact t6 i hi (by omega)
    have w60 : w.1 94 60 = (nK P l o nU nL nO s : Nat) := by rw [w1.2 94 60 (by omega)]; exact t3
    have ow : zOff pNq t w := off_w w1 fun k j x => by unfold pNq; omega
    rw [w2]
    by_cases x : 0 < snkN P l o nU nL nO (s : Int)
    · rw [nK_s, if_pos x] at n1
      rw [if_neg (by omega), w60, kL_129, if_pos (by omega), ok_l, gtN]
      generalize hv : zPut w 129 (nK P l o nU nL nO s) (s : Int) = v
      have v60 : v.1 94 60 = (nK P l o nU nL nO s : Nat) := by rw [← hv]; exact w60
      rw [v60, kL_130, if_pos (by omega), ok_l, gtN, zp_n (k' := 94) (by omega), v60, if_pos (by omega), ok_l, ok_l]
      refine ok_inl (Or.inl ⟨_, by rw [show ((s + 1 : Nat) : Int) = (s : Int) + 1 by omega], off_t t1 (off_t ow (off_t ?_ (off_t (off_put (by unfold pNq; omega)) (off_put (by unfold pNq; omega))))), ?_, ?_, fun s' hs' hx => ?_, old5 _ fun j => ?_, old6 _ fun j => ?_, w5⟩)
      · rw [← hv]; exact off_put (by unfold pNq; omega)
      · rw [zp_n (by omega), zp_n (by omega), ← hv, zp_n (by omega)]; exact w2
      · rw [zp_eq, nK_s, if_pos x]; omega
      · rw [zp_n (k' := 129) (by omega), zp_n (k' := 129) (by omega), zp_n (k' := 130) (by omega), ← hv]
        by_cases y : s' = s
        · rw [y, zp_eq, zp_eq]; exact ⟨rfl, rfl⟩
        · have ne : nK P l o nU nL nO s' ≠ nK P l o nU nL nO s := fun e => y (nK_i hx x e)
          rw [zp_n (k' := 129) (by omega), zp_n (k' := 130) (by omega), zp_n (k' := 130) (by omega), w1.2 129 _ (by omega), w1.2 130 _ (by omega)]
          exact t4 s' (by omega) hx
      · rw [zp_n (by omega), zp_n (by omega), ← hv, zp_n (by omega)]
      · rw [zp_n (by omega), zp_n (by omega), ← hv, zp_n (by omega)]
    · rw [if_pos (by omega), ok_l]
      refine ok_inl (Or.inl ⟨w, by rw [show ((s + 1 : Nat) : Int) = (s : Int) + 1 by omega], off_t t1 ow, w2, ?_, fun s' hs' hx => ?_, old5 w fun j => rfl, old6 w fun j => rfl, w5⟩)
      · rw [nK_s, if_neg x]; exact w60
      · rw [w1.2 129 _ (by omega), w1.2 130 _ (by omega)]
        refine t4 s' ?_ hx
        by_cases y : s' = s
        · rw [y] at hx; exact absurd hx x
        · omega
  · rintro t ht
    show zOk (q_Model_makeNets_12 E (kL c) ((400 + nU : Nat) : Int) t) _
    have hMt : PkM nU nL nI nO P l o t := PkM_c hM fun k j x => ht.1.2 k j (by unfold rPm at x; unfold pNq; omega)
    unfold q_Model_makeNets_12
    rw [hMt.2.1.1, if_pos (by omega), if_pos (by omega)]
    exact ok_inr ⟨t, rfl, ht⟩
end
end
