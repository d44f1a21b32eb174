set_option linter.unusedVariables false
-- LC
section
variable {E : gEv} {c : gCf}
section
variable {nU nL nI nO : Nat} {P l o : Nat → Int} {b : gZ}
theorem s_packN (h : PkM nU nL nI nO P l o b) (h55 : b.1 94 55 = nU) : zOk (gIter (fun y => q_Model_pack_10 E (kL c) y.1 y.2) gN (0, b)) (fun s => zOff (fun k j => k = 94 ∧ j = 55) b s ∧ s.1 94 55 = (eCn P l o nU nL nO nL : Nat)) := by
  have hb := h.1
  refine it_for (fun (i : Nat) (t : gZ) => ((i : Int), t)) (fun j s => zOff (fun k j => k = 94 ∧ j = 55) b s ∧ s.1 94 55 = (eCn P l o nU nL nO j : Nat)) 0 nL rfl ⟨off_r, h55⟩ (by omega) (by omega) ?_ ?_
  · rintro j s - hj ⟨t1, t2⟩
    show zOk (q_Model_pack_10 E (kL c) (j : Int) s) _
    have hs : PkM nU nL nI nO P l o s := PkM_c h fun k j x => t1.2 k j (by unfold rPm at x; omega)
    have bn := (eCn_m (P := P) (l := l) (o := o) (nU := nU) (nL := nL) (nO := nO) 0 j).2
    rw [Nat.zero_add, show eCn P l o nU nL nO 0 = nU from rfl] at bn
    unfold q_Model_pack_10
    rw [hs.2.1.2.1, if_neg (by omega), s_inLut hs hj, b1_s]
    unfold q_Model_pack_j36_10
    by_cases x : inL P l o nU nL nO j
    · rw [dI_t x, if_neg (by decide), t2, if_pos (by omega), ok_l, if_pos (by omega), ok_l]
      refine ok_inl (Or.inl ⟨_, by rw [show ((j + 1 : Nat) : Int) = (j : Int) + 1 by omega], off_t t1 (off_put ⟨rfl, rfl⟩), ?_⟩)
      rw [zp_eq, eCn_t x]; omega
    · rw [dI_f x, if_pos rfl, t2, if_pos (by omega), ok_l, if_pos (by omega), ok_l]
      refine ok_inl (Or.inl ⟨_, by rw [show ((j + 1 : Nat) : Int) = (j : Int) + 1 by omega], off_t t1 (off_put ⟨rfl, rfl⟩), ?_⟩)
      rw [zp_eq, eCn_f x]; omega
  · rintro s ⟨t1, t2⟩
    show zOk (q_Model_pack_10 E (kL c) (nL : Int) s) _
    have hs : PkM nU nL nI nO P l o s := PkM_c h fun k j x => t1.2 k j (by unfold rPm at x; omega)
    unfold q_Model_pack_10
    rw [hs.2.1.2.1, if_pos (by omega)]
    exact ok_inr ⟨s, rfl, t1, t2⟩
/-- elements that are look-up tables -/
theorem s_packU (h : PkM nU nL nI nO P l o b) (hu : nU ≤ 144) : zOk (gIter (fun y => q_Model_pack_67 E (kL c) y.1 y.2) gN (0, b)) (fun s => zOff (fun k j => k = 125 ∨ k = 126 ∨ k = 127) b s ∧ (∀ e, e < nU → s.1 125 e = -1 ∧ s.1 127 e = b.1 118 e) ∧ ∀ k, k < 4 * nU → s.1 126 k = P k) := by
  obtain ⟨hb, ⟨h2, -⟩, h6, -⟩ := h
  refine it_for (fun (i : Nat) (t : gZ) => ((i : Int), t)) (fun i s => zOff (fun k j => k = 125 ∨ k = 126 ∨ k = 127) b s ∧ (∀ e, e < i → s.1 125 e = -1 ∧ s.1 127 e = b.1 118 e) ∧ ∀ k, k < 4 * i → s.1 126 k = P k) 0 nU rfl ⟨off_r, fun e he => by omega, fun k hk => by omega⟩ (by omega) (by omega) ?_ ?_
  · rintro i s - hi ⟨t1, t2, t3⟩
    show zOk (q_Model_pack_67 E (kL c) (i : Int) s) _
    unfold q_Model_pack_67
    rw [t1.2 94 46 (by omega), h2, if_neg (by omega), kL_125, if_pos (by omega), ok_l, kL_118, if_pos (by omega), kL_127, if_pos (by omega), ok_l, gtN]
    have e118 : (zPut s 125 i (-1)).1 118 i = b.1 118 i := by rw [zp_n (by omega), t1.2 118 i (by omega)]
    rw [e118]
    generalize hs2 : zPut (zPut s 125 i (-1)) 127 i (b.1 118 i) = s2
    have o2 : zOff (fun k j => (k = 125 ∨ k = 127) ∧ j = i) s s2 := by rw [← hs2]; exact off_t (off_put (by omega)) (off_put (by omega))
    refine ok_b1 (fun u => zOff (fun k j => k = 126 ∧ 4 * i ≤ j ∧ j < 4 * i + 4) s2 u ∧ ∀ p, p < 4 → u.1 126 (4 * i + p) = P (4 * i + p)) ?_ fun u ⟨u1, u2⟩ => ?_
    · refine it_for (fun (p : Nat) (t : gZ) => ((p : Int), t)) (fun p t => zOff (fun k j => k = 126 ∧ 4 * i ≤ j ∧ j < 4 * i + 4) s2 t ∧ ∀ p', p' < p → t.1 126 (4 * i + p') = P (4 * i + p')) 0 4 rfl ⟨off_r, fun p hp => by omega⟩ (by omega) (by omega) ?_ ?_
      · rintro p t - hp ⟨q1, q2⟩
        show zOk (q_Model_pack_96 E (kL c) (i : Int) (p : Int) t) _
        unfold q_Model_pack_96
        rw [if_neg (by omega), kL_117, show (4 * (i : Int) + (p : Int)) = ((4 * i + p : Nat) : Int) by omega, if_pos (by omega), kL_126, if_pos (by omega), ok_l, ok_l, gtN, q1.2 117 _ (by omega), o2.2 117 _ (by omega), t1.2 117 _ (by omega), (h6 _ (by omega)).1]
        refine ok_inl (Or.inl ⟨_, by rw [show ((p + 1 : Nat) : Int) = (p : Int) + 1 by omega], off_t q1 (off_put (by omega)), fun p' hp' => ?_⟩)
        rw [zp1, if_pos rfl]
        by_cases y : p' = p
        · rw [if_pos (by omega), y]
        · rw [if_neg (by omega)]; exact q2 p' (by omega)
      · rintro t ⟨q1, q2⟩
        show zOk (q_Model_pack_96 E (kL c) (i : Int) ((4 : Nat) : Int) t) _
        unfold q_Model_pack_96
        rw [if_pos (by omega)]
        exact ok_inr ⟨t, rfl, q1, q2⟩
    · rw [ok_l]
      refine ok_inl (Or.inl ⟨u, by rw [show ((i + 1 : Nat) : Int) = (i : Int) + 1 by omega], off_t t1 (off_t (off_w o2 fun k j x => by omega) (off_w u1 fun k j x => by omega)), fun e he => ?_, fun k hk => ?_⟩)
      · rw [u1.2 125 e (by omega), u1.2 127 e (by omega)]
        by_cases y : e = i
        · rw [y, ← hs2]
          exact ⟨by rw [zp_n (by omega), zp_eq], by rw [zp_eq]⟩
        · rw [o2.2 125 e (by omega), o2.2 127 e (by omega)]; exact t2 e (by omega)
      · by_cases y : k < 4 * i
        · rw [u1.2 126 k (by omega), o2.2 126 k (by omega)]; exact t3 k y
        · have := u2 (k - 4 * i) (by omega)
          rw [show 4 * i + (k - 4 * i) = k by omega] at this
          exact this
  · rintro s hs
    show zOk (q_Model_pack_67 E (kL c) (nU : Int) s) _
    unfold q_Model_pack_67
    rw [hs.1.2 94 46 (by omega), h2, if_pos (by omega)]
    exact ok_inr ⟨s, rfl, hs⟩
/-- the reference's elements -/
theorem s_packL (h : PkM nU nL nI nO P l o b) (hI : nI ≤ 200) (hm : eCn P l o nU nL nO nL ≤ 144) {t8 : Nat → Int} (h5 : ∀ e, e < nU → b.1 125 e = -1 ∧ b.1 127 e = t8 e) (h6 : ∀ k, k < 4 * nU → b.1 126 k = P k) : zOk (gIter (fun y => q_Model_pack_140 E (kL c) y.1 y.2.1 y.2.2) gN ((nU : Int), 0, b)) (fun s => zOff (fun k j => 125 ≤ k ∧ k ≤ 128) b s ∧ (∀ e, e < eCn P l o nU nL nO nL → LtE P l o nU nL nO nL e (s.1 125 e) ∧ s.1 127 e = if e < nU then t8 e else 43690) ∧ (∀ j, j < nL → s.1 128 j = (elj P l o nU nL nO j : Nat)) ∧ ∀ k, k < 4 * eCn P l o nU nL nO nL → s.1 126 k = psA P l o nU nL nO nL k) := by
  have hb := h.1
  have hl : ∀ j, j < nL → srcO nI nL nU (l j) := fun j hj => (h.2.2.2.1 j hj).1
  refine it_for (fun (j : Nat) (t : gZ) => (((eCn P l o nU nL nO j : Nat) : Int), (j : Int), t)) (fun j s => zOff (fun k j => 125 ≤ k ∧ k ≤ 128) b s ∧ (∀ e, e < eCn P l o nU nL nO j → LtE P l o nU nL nO j e (s.1 125 e) ∧ s.1 127 e = if e < nU then t8 e else 43690) ∧ (∀ i, i < j → s.1 128 i = (elj P l o nU nL nO i : Nat)) ∧ ∀ k, k < 4 * eCn P l o nU nL nO j → s.1 126 k = psA P l o nU nL nO j k) 0 nL rfl ⟨off_r, fun e he => ⟨Or.inl ⟨(h5 e he).1, fun i hi => by omega⟩, by rw [if_pos (show e < nU from he)]; exact (h5 e he).2⟩, fun i hi => by omega, fun k hk => h6 k hk⟩ (by omega) (by omega) ?_ ?_
  · rintro j s - hj ⟨t1, t2, t3, t4⟩
    show zOk (q_Model_pack_140 E (kL c) ((eCn P l o nU nL nO j : Nat) : Int) (j : Int) s) _
    have hs : PkM nU nL nI nO P l o s := PkM_c h fun k j x => t1.2 k j (by unfold rPm at x; omega)
    have mono := eCn_mono (P := P) (l := l) (o := o) (nU := nU) (nL := nL) (nO := nO) (i := j + 1) (j := nL) hj
    have lo := eCn_lo (P := P) (l := l) (o := o) (nU := nU) (nL := nL) (nO := nO) j
    have bl := elj_b (P := P) (o := o) (nO := nO) (nI := nI) hI (by omega) hl hj
    unfold q_Model_pack_140
    rw [hs.2.1.2.1, if_neg (by omega), s_inLut hs hj, b1_s]
    -- the latch's element is kept
    have fin : ∀ u : gZ, zOff (fun k j => 125 ≤ k ∧ k ≤ 128) b u → u.1 128 j = (elj P l o nU nL nO j : Nat) → (∀ e, e < eCn P l o nU nL nO (j + 1) → (e ≠ elj P l o nU nL nO j → LtE P l o nU nL nO j e (u.1 125 e)) ∧ u.1 127 e = if e < nU then t8 e else 43690) → (∀ i, i < j → u.1 128 i = (elj P l o nU nL nO i : Nat)) → (∀ k, k < 4 * eCn P l o nU nL nO (j + 1) → u.1 126 k = psA P l o nU nL nO (j + 1) k) → zOk (q_Model_pack_j240_140 E (kL c) ((eCn P l o nU nL nO (j + 1) : Nat) : Int) (j : Int) u) (fun r => (∃ t', r = .inl (((eCn P l o nU nL nO (j + 1) : Nat) : Int), ((j + 1 : Nat) : Int), t') ∧ zOff (fun k j => 125 ≤ k ∧ k ≤ 128) b t' ∧ (∀ e, e < eCn P l o nU nL nO (j + 1) → LtE P l o nU nL nO (j + 1) e (t'.1 125 e) ∧ t'.1 127 e = if e < nU then t8 e else 43690) ∧ (∀ i, i < j + 1 → t'.1 128 i = (elj P l o nU nL nO i : Nat)) ∧ ∀ k, k < 4 * eCn P l o nU nL nO (j + 1) → t'.1 126 k = psA P l o nU nL nO (j + 1) k) ∨ ∃ e, r = .inr e ∧ zOff (fun k j => 125 ≤ k ∧ k ≤ 128) b e ∧ (∀ e', e' < eCn P l o nU nL nO nL → LtE P l o nU nL nO nL e' (e.1 125 e') ∧ e.1 127 e' = if e' < nU then t8 e' else 43690) ∧ (∀ j, j < nL → e.1 128 j = (elj P l o nU nL nO j : Nat)) ∧ ∀ k, k < 4 * eCn P l o nU nL nO nL → e.1 126 k = psA P l o nU nL nO nL k) := fun u u1 u2 u3 u4 u5 => by
      unfold q_Model_pack_j240_140
      rw [kL_128, if_pos (by omega), gtN, u2, kL_125, if_pos (by omega), ok_l, if_pos (by omega), ok_l, gtN]
      refine ok_inl (Or.inl ⟨_, by rw [show ((j + 1 : Nat) : Int) = (j : Int) + 1 by omega], off_t u1 (off_put (by omega)), fun e he => ?_, fun i hi => ?_, fun k hk => ?_⟩)
      · rw [zp_n (k' := 127) (by omega)]
        refine ⟨?_, (u3 e he).2⟩
        rw [zp1, if_pos rfl]
        by_cases y : e = elj P l o nU nL nO j
        · rw [if_pos y, y]; exact LtE_n
        · rw [if_neg y]; exact LtE_s ((u3 e he).1 y) (fun q => y q.symm)
      · rw [zp_n (by omega)]
        by_cases y : i = j
        · rw [y]; exact u2
        · exact u4 i (by omega)
      · rw [zp_n (by omega)]; exact u5 k hk
    by_cases x : inL P l o nU nL nO j
    · rw [dI_t x, if_neg (by decide), kL_106, if_pos (by omega), gtN, s_srcL hs hj, b1_s, kL_128, if_pos (by omega)]
      have x1 := x.1
      have sl := hl j hj
      have ee : l j - 400 = (elj P l o nU nL nO j : Int) := by rw [elj_t x]; omega
      rw [ee, if_pos (by omega), ok_l]
      rw [show ((eCn P l o nU nL nO j : Nat) : Int) = ((eCn P l o nU nL nO (j + 1) : Nat) : Int) by rw [eCn_t x]]
      refine fin _ (off_t t1 (off_put (by omega))) (zp_eq _ _ _ _) (fun e he => ?_) (fun i hi => ?_) (fun k hk => ?_)
      · rw [eCn_t x] at he
        rw [zp_n (by omega), zp_n (by omega)]; exact ⟨fun _ => (t2 e he).1, (t2 e he).2⟩
      · rw [zp_n (by omega)]; exact t3 i hi
      · rw [eCn_t x] at hk
        rw [zp_n (by omega), psA_t x]; exact t4 k hk
    · rw [dI_f x, if_pos rfl, kL_127, if_pos (by rw [eCn_f x] at mono; omega), ok_l, kL_106, if_pos (by omega)]
      have hs1 : PkM nU nL nI nO P l o (zPut s 127 (eCn P l o nU nL nO j) 43690) := PkM_c hs fun k j x => zp_n (by unfold rPm at x; omega)
      have fx := eCn_f x
      rw [gtN, gtN, s_srcL hs1 hj, b1_s, kL_126, show 4 * ((eCn P l o nU nL nO j : Nat) : Int) = ((4 * eCn P l o nU nL nO j : Nat) : Int) by omega, if_pos (by omega), ok_l, gtN]
      generalize hu : zPut (zPut s 127 (eCn P l o nU nL nO j) 43690) 126 (4 * eCn P l o nU nL nO j) (l j) = u
      have ou : zOff (fun k j => 125 ≤ k ∧ k ≤ 128) s u := by rw [← hu]; exact off_t (off_put (by omega)) (off_put (by omega))
      refine ok_b1 (fun w => zOff (fun k i => k = 126 ∧ 4 * eCn P l o nU nL nO j < i ∧ i < 4 * eCn P l o nU nL nO j + 4) u w ∧ ∀ p, 1 ≤ p → p < 4 → w.1 126 (4 * eCn P l o nU nL nO j + p) = -1) ?_ fun w ⟨w1, w2⟩ => ?_
      · refine it_for (fun (p : Nat) (t : gZ) => ((p : Int), t)) (fun p t => zOff (fun k i => k = 126 ∧ 4 * eCn P l o nU nL nO j < i ∧ i < 4 * eCn P l o nU nL nO j + 4) u t ∧ ∀ p', 1 ≤ p' → p' < p → t.1 126 (4 * eCn P l o nU nL nO j + p') = -1) 1 4 rfl ⟨off_r, fun p _ hp => by omega⟩ (by omega) (by omega) ?_ ?_
        · rintro p t p1 hp ⟨q1, q2⟩
          show zOk (q_Model_pack_208 E (kL c) ((eCn P l o nU nL nO j : Nat) : Int) (j : Int) (p : Int) t) _
          unfold q_Model_pack_208
          rw [if_neg (by omega), kL_126, show (4 * ((eCn P l o nU nL nO j : Nat) : Int) + (p : Int)) = ((4 * eCn P l o nU nL nO j + p : Nat) : Int) by omega, if_pos (by omega), ok_l, ok_l, gtN]
          refine ok_inl (Or.inl ⟨_, by rw [show ((p + 1 : Nat) : Int) = (p : Int) + 1 by omega], off_t q1 (off_put (by omega)), fun p' h1 h2 => ?_⟩)
          rw [zp1, if_pos rfl]
          by_cases y : p' = p
          · rw [if_pos (by omega)]
          · rw [if_neg (by omega)]; exact q2 p' h1 (by omega)
        · rintro t ⟨q1, q2⟩
          show zOk (q_Model_pack_208 E (kL c) ((eCn P l o nU nL nO j : Nat) : Int) (j : Int) ((4 : Nat) : Int) t) _
          unfold q_Model_pack_208
          rw [if_pos (by omega)]
          exact ok_inr ⟨t, rfl, q1, q2⟩
      · rw [kL_128, if_pos (by omega), ok_l, if_pos (by omega), ok_l, show ((eCn P l o nU nL nO j : Nat) : Int) + 1 = ((eCn P l o nU nL nO (j + 1) : Nat) : Int) by rw [fx]; omega]
        have e127 : ∀ e, (zPut w 128 j ((eCn P l o nU nL nO j : Nat) : Int)).1 127 e = if e = eCn P l o nU nL nO j then 43690 else s.1 127 e := fun e => by
          rw [zp_n (by omega), w1.2 127 e (by omega), ← hu, zp_n (by omega), zp1, if_pos rfl]
        have e125 : ∀ e, (zPut w 128 j ((eCn P l o nU nL nO j : Nat) : Int)).1 125 e = s.1 125 e := fun e => by
          rw [zp_n (by omega), w1.2 125 e (by omega), ← hu, zp_n (by omega), zp_n (by omega)]
        refine fin _ (off_t t1 (off_t ou (off_t (off_w w1 fun k j x => by omega) (off_put (by omega))))) (by rw [zp_eq, elj_f x]) (fun e he => ?_) (fun i hi => ?_) (fun k hk => ?_)
        · rw [e127, e125]
          by_cases y : e = eCn P l o nU nL nO j
          · exact ⟨fun q => absurd (by rw [elj_f x]; exact y) q, by rw [if_pos y, if_neg (by omega)]⟩
          · rw [if_neg y]
            exact ⟨fun _ => (t2 e (by omega)).1, (t2 e (by omega)).2⟩
        · rw [zp_n (by omega), w1.2 128 i (by omega), ← hu, zp_n (by omega), zp_n (by omega)]; exact t3 i hi
        · rw [zp_n (by omega), psA_f x]
          by_cases y : k = 4 * eCn P l o nU nL nO j
          · rw [if_pos y, y, w1.2 126 _ (by omega), ← hu, zp_eq]
          · rw [if_neg y]
            by_cases q : 4 * eCn P l o nU nL nO j < k
            · rw [if_pos (by omega)]
              have := w2 (k - 4 * eCn P l o nU nL nO j) (by omega) (by omega)
              rw [show 4 * eCn P l o nU nL nO j + (k - 4 * eCn P l o nU nL nO j) = k by omega] at this
              exact this
            · rw [if_neg (by omega), w1.2 126 k (by omega), ← hu, zp_n (by omega), zp_n (by omega)]; exact t4 k (by omega)
  · rintro s hs
    show zOk (q_Model_pack_140 E (kL c) ((eCn P l o nU nL nO nL : Nat) : Int) (nL : Int) s) _
    have hs' : PkM nU nL nI nO P l o s := PkM_c h fun k j x => hs.1.2 k j (by unfold rPm at x; omega)
    unfold q_Model_pack_140
    rw [hs'.2.1.2.1, if_pos (by omega)]
    exact ok_inr ⟨s, rfl, hs⟩
end
end
