set_option linter.unusedVariables false
-- KH
section
variable {E : gEv} {c : gCf}
/-- k gates are mapped -/
def MS (c : gCf) (nm nI nL k : Nat) (U : Ut) (a b a1 b1 : gZ) : Prop := zOff pCm a a1 ∧ zOff pBm b b1 ∧ UC c U a1 ∧ UM U b1 ∧ wfU nI nL U ∧ U.2.2 ≤ 31 * k ∧ (∀ v, v < nm → b.1 101 v ≠ 3 → a1.1 25 v = a.1 25 v) ∧ (∀ v, v < nm → b.1 101 v = 3 → (∃ k', k' < k ∧ b.1 115 k' = b.1 102 v) → a1.1 25 v = b1.1 119 v ∧ 400 ≤ b1.1 119 v ∧ b1.1 119 v < ((400 + U.2.2 : Nat) : Int)) ∧ ∀ k', k' < k → ∀ f : Nat, b.1 115 k' = f → ∀ x y, b1s x nI → b1s y nL → evU x y U (lutF b1 f) = b.1 114 (256 * f + adr (lev x y (evU x y U)) (PcG b1 f))
theorem srcF_c {b b1 : gZ} {v : Nat} (h1 : b1.1 101 v = b.1 101 v) (h2 : b1.1 102 v = b.1 102 v) (h3 : b1.1 119 v = b.1 119 v) : srcF b1 v = srcF b v := by unfold srcF; rw [h1, h2, h3]
section
variable {nm nI nO nL nG k : Nat} {U : Ut} {a b a1 b1 : gZ}
theorem MS_src (R : RN c nm nI nO nL nG a b) (M : MS c nm nI nL k U a b a1 b1) {v : Nat} (hv : v < nm) (h3 : b.1 101 v = 3 → ∃ k', k' < k ∧ b.1 115 k' = b.1 102 v) : a1.1 25 v = srcF b1 v ∧ srcO nI nL U.2.2 (srcF b1 v) := by
  obtain ⟨oa, ob, uc, um, wf, ub, mk, md, sem⟩ := M
  have e1 : b1.1 101 v = b.1 101 v := ob.2 101 v (by unfold pBm; omega)
  have e2 : b1.1 102 v = b.1 102 v := ob.2 102 v (by unfold pBm; omega)
  unfold srcF
  rw [e1, e2]
  rcases R.mak v hv with ⟨j, y0, y1, y2, y3⟩ | ⟨j, y0, y1, y2, y3⟩ | ⟨j, y0, y1, y2, y3, -⟩
  · rw [if_pos y2, mk v hv (by omega), y1, y3]
    exact ⟨rfl, Or.inl ⟨by omega, by omega⟩⟩
  · rw [if_neg (by omega), if_pos y2, mk v hv (by omega), y1, y3]
    exact ⟨by omega, Or.inr (Or.inl ⟨by omega, by omega⟩)⟩
  · rw [if_neg (by omega), if_neg (by omega)]
    obtain ⟨q1, q2, q3⟩ := md v hv y2 (h3 y2)
    exact ⟨q1, Or.inr (Or.inr ⟨q2, by omega⟩)⟩
theorem MS_step (hk : kOk c) (R : RN c nm nI nO nL nG a b) (N : NBr nG nG a b) (M : MS c nm nI nL k U a b a1 b1) (hkG : k < nG) : ∃ U' a2 b2, q_Mapper_mapAll_2 E (kL c) (k : Int) a1 = some (.inl ((k : Int) + 1, a2)) ∧ q_Model_compile_39 E (kL c) (k : Int) b1 = some (.inl ((k : Int) + 1, b2)) ∧ MS c nm nI nL (k + 1) U' a b a2 b2 := by
  have M0 := M
  obtain ⟨oa, ob, uc, um, wf, ub, mk, md, sem⟩ := M
  have g150 := RN_150 R
  have nb := R.nb
  have hD := kD_b hk
  have hI : nI ≤ 200 := by have := R.io; omega
  have hL : nL ≤ 200 := by have := R.cnt; omega
  obtain ⟨g, hg, n21, n115, n116, dps⟩ := N.2.1 k hkG
  obtain ⟨m, v0, v1, v2, v3, v4, v5, v6, v7, v8, v9, v12⟩ := R.gat g hg
  -- the piece
  have P2 : (PcG b1 g).2.2 = m := by
    show (b1.1 110 g).toNat = m
    rw [ob.2 110 g (by unfold pBm; omega), v5]; omega
  have ins : ∀ i, i < m → ∃ w : Nat, w < nm ∧ a.1 16 (8 * g + i) = w ∧ b.1 111 (8 * g + i) = w ∧ (PcG b1 g).2.1 i = srcF b1 w ∧ a1.1 25 w = srcF b1 w ∧ srcO nI nL U.2.2 (srcF b1 w) ∧ (b.1 101 w = 3 → ∃ k', k' < k ∧ b.1 115 k' = b.1 102 w) := fun i hi => by
    obtain ⟨w, w1, w2, w3⟩ := v12 i hi
    have dp : b.1 101 w = 3 → ∃ k', k' < k ∧ b.1 115 k' = b.1 102 w := dps i w (by rw [v5]; omega) w3
    obtain ⟨q1, q2⟩ := MS_src R M0 w1 dp
    refine ⟨w, w1, w2, w3, ?_, q1, q2, dp⟩
    show srcF b1 (b1.1 111 (8 * g + i)).toNat = _
    rw [ob.2 111 _ (by unfold pBm; omega), w3, gtN]
  have val : ∀ n, n < 256 → (PcG b1 g).1 n = b.1 114 (256 * g + n) ∧ q_Gates_valueAt E (kL c) (g : Int) (n : Int) a1 = some ((PcG b1 g).1 n) ∧ b01 ((PcG b1 g).1 n) := fun n hn => by
    have e : (PcG b1 g).1 n = b.1 114 (256 * g + n) := ob.2 114 _ (by unfold pBm; omega)
    obtain ⟨q1, q2⟩ := s_value (E := E) (c := c) (a := a) (b := b) (by omega) hn (R.val g hg n hn)
    rw [e]
    refine ⟨rfl, ?_, q2⟩
    rw [value_c (fun j => oa.2 18 j (by unfold pCm pU; omega)) (fun j => oa.2 19 j (by unfold pCm pU; omega)) n]
    exact q1
  have pw := pw_le v1
  have bP : bPc (PcG b1 g) := fun n hn => (val n (by rw [P2] at hn; omega)).2.2
  -- the class
  obtain ⟨s, os, Ps, t, ht, hs⟩ := s_loadC (E := E) (c := c) (k := (k : Int)) (g := g) (m := m) (P := PcG b1 g) (a := a1) (by omega) v1 P2 (fun i hi => by
    obtain ⟨w, w1, w2, w3, w4, w5, w6, w7⟩ := ins i hi
    exact ⟨w, by omega, by rw [oa.2 16 _ (by unfold pCm pU; omega)]; exact w2, by rw [w4]; exact w5⟩) (fun n hn => (val n hn).2.1) (fun s h18 h19 n => value_c h18 h19 n) bP
  have Us : UC c U s := UC_o uc os fun k j x => by omega
  have mc := mp_c 4 (PcG b1 g) U
  have e32 : (2 : Nat) ^ (4 + 1) = 32 := by decide
  obtain ⟨⟨r, s'⟩, hr, r1, r2, r3⟩ := s_mapC (E := E) hk 4 0 (PcG b1 g) U s rfl (by omega) Ps bP Us (by omega)
  have r1 : r = (mp 4 (PcG b1 g) U).1 := r1
  have r2 : UC c (mp 4 (PcG b1 g) U).2 s' := r2
  have r3 : zOff (pMp 0) s s' := r3
  have a13 : a1.1 13 8 = nG := by rw [oa.2 13 8 (by unfold pCm pU; omega)]; exact R.ag
  have a21 : a1.1 21 k = g := by rw [oa.2 21 k (by unfold pCm pU; omega)]; exact n21
  have a15 : a1.1 15 g = m := by rw [oa.2 15 g (by unfold pCm pU; omega)]; exact v4
  have s17 : s.1 17 g = v0 := by rw [os.2 17 g (by omega), oa.2 17 g (by unfold pCm pU; omega)]; exact v6
  have eC : q_Mapper_mapAll_2 E (kL c) (k : Int) a1 = some (.inl ((k : Int) + 1, zPut s' 25 v0 r)) := by
    unfold q_Mapper_mapAll_2
    rw [a13, if_neg (by omega), kL_21, if_pos (by omega), let_s, gtN, a21, kL_15, if_pos (by omega), let_s, gtN, a15, ht, b1_s, hs, b1_s, kL_17, if_pos (by omega)]
    rw [P2, show (4 + 2 : Nat) = 6 from rfl, show ((0 : Nat) : Int) = 0 from rfl] at hr
    rw [hr, b2_p, s17, kL_25, if_pos (by omega), let_s, let_s, gtN]
  -- the reference
  obtain ⟨b', hb', U', o'⟩ := s_mapG (E := E) (c := c) (g := g) (m := m) (P := PcG b1 g) (U := U) (b := b1) (by omega) v1 P2 (by rw [ob.2 110 g (by unfold pBm; omega)]; exact v5) (fun i s hi o => by
    obtain ⟨w, w1, w2, w3, w4, w5, w6, w7⟩ := ins i hi
    have e111 : b1.1 111 (8 * g + i) = w := by rw [ob.2 111 _ (by unfold pBm; omega)]; exact w3
    rw [e111, w4]
    refine ⟨by omega, ?_⟩
    have q : ∀ j, j = 101 ∨ j = 102 → s.1 j w = b.1 j w := fun j hj => by rw [o.2 j w (by omega), ob.2 j w (by unfold pBm; omega)]
    rw [s_source (by omega) (fun h => by
      rw [q 101 (by omega)] at h
      rw [q 102 (by omega)]
      rcases R.mak w w1 with ⟨j, y0, y1, y2, y3⟩ | ⟨j, y0, y1, y2, y3⟩ | ⟨j, y0, y1, y2, y3, -⟩
      · omega
      · omega
      · omega), srcF_c (o.2 101 w (by omega)) (o.2 102 w (by omega)) (o.2 119 w (by omega))]) (fun n hn => ⟨rfl, (val n hn).2.2⟩) um (by omega)
  have b32 : b1.1 94 32 = nG := by rw [ob.2 94 32 (by unfold pBm; omega)]; exact R.bg
  have b115 : b1.1 115 k = g := by rw [ob.2 115 k (by unfold pBm; omega)]; exact n115
  have b112 : b1.1 112 g = v0 := by rw [ob.2 112 g (by unfold pBm; omega)]; exact v7
  have eM : q_Model_compile_39 E (kL c) (k : Int) b1 = some (.inl ((k : Int) + 1, zPut b' 119 v0 r)) := by
    unfold q_Model_compile_39
    rw [b32, if_neg (by omega), kL_115, if_pos (by omega), gtN, b115, kL_112, if_pos (by omega), hb', b2_p, gtN, b112, kL_119, if_pos (by omega), let_s, let_s, gtN, r1]
  -- what is kept
  obtain ⟨p1, p2, p3, p4, p5⟩ := mp_o hI hL 4 (PcG b1 g) U (by omega) wf ⟨bP, fun i hi => by
    rw [P2] at hi
    obtain ⟨w, w1, w2, w3, w4, w5, w6, w7⟩ := ins i hi
    rw [w4]; exact w6⟩
  generalize mp 4 (PcG b1 g) U = X at *
  have ob' : zOff pBm b (zPut b' 119 v0 r) := off_t ob (off_t (off_w o' fun k j x => by unfold pBg at x; unfold pBm; omega) (off_put (by unfold pBm; omega)))
  have c119 : ∀ v, (zPut b' 119 v0 r).1 119 v = if v = v0 then r else b'.1 119 v := fun v => rfl
  have o119 : ∀ v, v ≠ v0 → (zPut b' 119 v0 r).1 119 v = b1.1 119 v := fun v hv => by rw [c119, if_neg hv, o'.2 119 v (by unfold pBg; omega)]
  have bb : ∀ j i, 99 ≤ j → j ≤ 116 → (zPut b' 119 v0 r).1 j i = b1.1 j i := fun j i h1 h2 => by rw [zp_n (by omega), o'.2 j i (by unfold pBg; omega)]
  have c25 : ∀ v, v ≠ v0 → (zPut s' 25 v0 r).1 25 v = a1.1 25 v := fun v hv => by rw [zp_n (by omega), r3.2 25 v (by unfold pMp pU; omega), os.2 25 v (by omega)]
  -- names that are used before are others
  have nv : ∀ w, w < nm → b.1 101 w = 3 → (∃ k', k' < k ∧ b.1 115 k' = b.1 102 w) → w ≠ v0 := fun w hw h3 ⟨k', q1, q2⟩ e => by
    rw [e, v9] at q2
    exact N.2.2.1 k k' q1 hkG (by rw [q2, n115])
  have ad : ∀ p, p ≤ k → ∀ f : Nat, b.1 115 p = f → f < nG → ∀ x y, adr (lev x y (evU x y X.2)) (PcG (zPut b' 119 v0 r) f) = adr (lev x y (evU x y U)) (PcG b1 f) := fun p hp f hf hfG x y => by
    obtain ⟨g', g1, -, g3, -, g5⟩ := N.2.1 p (by omega)
    have eg : g' = f := by omega
    subst eg
    obtain ⟨m', -, m1, -, -, -, m5, -, -, -, -, m12⟩ := R.gat g' g1
    have w2 : (PcG (zPut b' 119 v0 r) g').2.2 = (PcG b1 g').2.2 := by
      show ((zPut b' 119 v0 r).1 110 g').toNat = (b1.1 110 g').toNat
      rw [bb 110 g' (by omega) (by omega)]
    have w2' : (PcG b1 g').2.2 = m' := by
      show (b1.1 110 g').toNat = m'
      rw [ob.2 110 g' (by unfold pBm; omega), m5]; omega
    apply Nat.eq_of_testBit_eq
    intro j
    rw [adr_t, adr_t, w2]
    by_cases hj : j < m'
    · obtain ⟨w, w1, -, w3⟩ := m12 j hj
      have dp : b.1 101 w = 3 → ∃ k', k' < k ∧ b.1 115 k' = b.1 102 w := fun h3 => by
        obtain ⟨k', q1, q2⟩ := g5 j w (by rw [m5]; omega) w3 h3
        exact ⟨k', by omega, q2⟩
      have e1 : (PcG b1 g').2.1 j = srcF b1 w := by
        show srcF b1 (b1.1 111 (8 * g' + j)).toNat = _
        rw [ob.2 111 _ (by unfold pBm; omega), w3, gtN]
      have e2 : (PcG (zPut b' 119 v0 r) g').2.1 j = srcF b1 w := by
        show srcF (zPut b' 119 v0 r) ((zPut b' 119 v0 r).1 111 (8 * g' + j)).toNat = _
        rw [bb 111 _ (by omega) (by omega), ob.2 111 _ (by unfold pBm; omega), w3, gtN]
        by_cases h3 : b.1 101 w = 3
        · exact srcF_c (bb 101 w (by omega) (by omega)) (bb 102 w (by omega) (by omega)) (o119 w (nv w w1 h3 (dp h3)))
        · unfold srcF
          have h3' : b1.1 101 w ≠ 3 := by rw [ob.2 101 w (by unfold pBm; omega)]; exact h3
          rw [bb 101 w (by omega) (by omega), bb 102 w (by omega) (by omega)]
          rcases R.mak w w1 with ⟨i, -, -, y2, -⟩ | ⟨i, -, -, y2, -⟩ | ⟨i, -, -, y2, -⟩
          · rw [if_pos (by rw [ob.2 101 w (by unfold pBm; omega)]; exact y2), if_pos (by rw [ob.2 101 w (by unfold pBm; omega)]; exact y2)]
          · have q2 : b1.1 101 w = 2 := by rw [ob.2 101 w (by unfold pBm; omega)]; exact y2
            have q1 : ¬ b1.1 101 w = 1 := by omega
            rw [if_neg q1, if_neg q1, if_pos q2, if_pos q2]
          · exact absurd y2 h3
      rw [e1, e2, lev_x hI hL wf p1 (Or.inr (MS_src R M0 w1 dp).2)]
    · rw [decide_eq_false fun q => hj (by rw [w2'] at q; exact q.1), decide_eq_false fun q => hj (by rw [w2'] at q; exact q.1)]
  refine ⟨X.2, zPut s' 25 v0 r, zPut b' 119 v0 r, eC, eM, ?_, ob', UC_o r2 (off_put (P := fun k j => k = 25) rfl) (fun k j x => by omega), UM_o U' (off_put (P := fun k j => k = 119) rfl) (fun k j x => by omega), p2, by omega, fun v hv h3 => ?_, fun v hv h3 hx => ?_, fun k' hk' f hf x y hx hy => ?_⟩
  · exact off_t oa (off_t (off_w os fun k j x => by unfold pCm; omega) (off_t (off_w r3 fun k j x => by unfold pMp pU at x; unfold pCm pU; omega) (off_put (by unfold pCm; omega))))
  · have hn : v ≠ v0 := fun e => h3 (by rw [e]; exact v8)
    rw [c25 v hn]; exact mk v hv h3
  · by_cases e : v = v0
    · rw [e, zp_eq, zp_eq, r1]
      exact ⟨rfl, p3.1, p3.2⟩
    · obtain ⟨k', q1, q2⟩ := hx
      have kk : k' ≠ k := fun e2 => by
        rw [e2, n115] at q2
        rcases R.mak v hv with ⟨i, -, -, y2, -⟩ | ⟨i, -, -, y2, -⟩ | ⟨i, y0, y1, y2, y3, y4⟩
        · omega
        · omega
        · have : i = g := by omega
          rw [this, v7] at y4
          exact e (by omega)
      obtain ⟨u1, u2, u3⟩ := md v hv h3 ⟨k', by omega, q2⟩
      rw [c25 v e, o119 v e]
      exact ⟨u1, u2, by have := p1.1; omega⟩
  · obtain ⟨g', g1, -, g3, -, g5⟩ := N.2.1 k' (by omega)
    have eg : g' = f := by omega
    subst eg
    rw [ad k' (by omega) g' hf g1 x y]
    by_cases e : k' = k
    · have e2 : g' = g := by rw [e] at hf; omega
      have l0 : lutF (zPut b' 119 v0 r) g' = (X.1 - 400).toNat := by
        unfold lutF
        rw [e2, bb 112 g (by omega) (by omega), b112, gtN, zp_eq, r1]
      rw [l0, p5 x y hx hy, e2]
      exact (val _ (by have := adr_b (lev x y (evU x y U)) (PcG b1 g); rw [P2] at this; omega)).1
    · obtain ⟨m', vf, -, m2, -, -, -, -, m7, m8, m9, -⟩ := R.gat g' g1
      have hne : vf ≠ v0 := fun e3 => by
        rw [e3, v9] at m9
        exact N.2.2.1 k k' (by omega) hkG (by rw [n115, hf]; omega)
      have l0 : lutF (zPut b' 119 v0 r) g' = lutF b1 g' := by
        unfold lutF
        rw [bb 112 g' (by omega) (by omega), ob.2 112 g' (by unfold pBm; omega), m7, gtN, o119 vf hne]
      have l1 : lutF b1 g' < U.2.2 := by
        obtain ⟨u1, u2, u3⟩ := md vf m2 m8 ⟨k', by omega, by rw [m9, hf]⟩
        unfold lutF
        rw [ob.2 112 g' (by unfold pBm; omega), m7, gtN]
        omega
      rw [l0, evU_x hI hL wf p1 l1]
      exact sem k' (by omega) g' hf x y hx hy
/-- all gates are mapped, on both sides -/
theorem s_mapAll (hk : kOk c) (R : RN c nm nI nO nL nG a b) (N : NBr nG nG a b) (h10 : a.1 30 10 = 0) (h0 : a.1 30 0 = kP c) : ∃ U a1 b1, q_Mapper_mapAll E (kL c) a = some a1 ∧ gIter (fun y => q_Model_compile_39 E (kL c) y.1 y.2) gN (0, zPut b 94 46 0) = some b1 ∧ MS c nm nI nL nG U a b a1 b1 := by
  have g150 := RN_150 R
  have M : MS c nm nI nL 0 (fun _ => 0, fun _ => 0, 0) a b a (zPut b 94 46 0) := ⟨off_r, off_put (by unfold pBm; omega), ⟨h10, h0, fun j hj => by have hj : j < 4 * 0 := hj; omega, fun l hl => by have hl : l < 0 := hl; omega⟩, ⟨zp_eq _ _ _ _, fun j hj => by have hj : j < 4 * 0 := hj; omega, fun l hl => by have hl : l < 0 := hl; omega⟩, fun l p hl => by have hl : l < 0 := hl; omega, by show 0 ≤ 31 * 0; omega, fun v hv h3 => rfl, fun v hv h3 ⟨k', q, _⟩ => by omega, fun k' hk' => by omega⟩
  obtain ⟨e, d, q1, q2, U, q3⟩ := it_two (f := fun y => q_Mapper_mapAll_2 E (kL c) y.1 y.2) (g := fun y => q_Model_compile_39 E (kL c) y.1 y.2) (s := (0, a)) (t := (0, zPut b 94 46 0)) (fun i s t => ∃ U a1 b1, s = ((i : Int), a1) ∧ t = ((i : Int), b1) ∧ i ≤ nG ∧ MS c nm nI nL i U a b a1 b1) nG (Q := fun (e : gZ) (d : gZ) => ∃ U, MS c nm nI nL nG U a b e d) (by omega) (by
    rintro i s t hi ⟨U, a1, b1, rfl, rfl, iG, M1⟩
    show (∃ s' t', q_Mapper_mapAll_2 E (kL c) (i : Int) a1 = some (.inl s') ∧ q_Model_compile_39 E (kL c) (i : Int) b1 = some (.inl t') ∧ _) ∨ (∃ e d, q_Mapper_mapAll_2 E (kL c) (i : Int) a1 = some (.inr e) ∧ q_Model_compile_39 E (kL c) (i : Int) b1 = some (.inr d) ∧ _) ∨ _
    by_cases x : i < nG
    · obtain ⟨U', a2, b2, h1, h2, h3⟩ := MS_step (E := E) hk R N M1 x
      exact Or.inl ⟨_, _, h1, h2, ⟨U', a2, b2, by rw [show ((i + 1 : Nat) : Int) = (i : Int) + 1 by omega], by rw [show ((i + 1 : Nat) : Int) = (i : Int) + 1 by omega], by omega, h3⟩, x⟩
    · have e : i = nG := by omega
      subst e
      refine Or.inr (Or.inl ⟨a1, b1, ?_, ?_, U, M1⟩)
      · unfold q_Mapper_mapAll_2
        rw [M1.1.2 13 8 (by unfold pCm pU; omega), R.ag, if_pos (by omega)]
      · unfold q_Model_compile_39
        rw [M1.2.1.2 94 32 (by unfold pBm; omega), R.bg, if_pos (by omega)]) ⟨_, a, zPut b 94 46 0, rfl, rfl, by omega, M⟩
  refine ⟨U, e, d, ?_, q2, q3⟩
  unfold q_Mapper_mapAll
  rw [q1, b1_s]
end
end
