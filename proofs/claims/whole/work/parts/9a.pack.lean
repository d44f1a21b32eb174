set_option linter.unusedVariables false
-- LO
section
variable {E : gEv} {c : gCf}
def pPc (k j : Nat) : Prop := (k = 53 ∧ (j = 15 ∨ j = 16 ∨ j = 17)) ∨ (54 ≤ k ∧ k ≤ 66)
def pPm (k j : Nat) : Prop := (k = 94 ∧ (j = 55 ∨ j = 60 ∨ j = 61 ∨ j = 66)) ∨ (125 ≤ k ∧ k ≤ 135)
/-- what both packings leave -/
def PJ (c : gCf) (P l o : Nat → Int) (nU nL nI nO nC : Nat) (t8 : Nat → Int) (a b : gZ) : Prop := PkS c nU nL nI nO P l o ∧ (a.1 53 15 = (eCn P l o nU nL nO nL : Nat) ∧ b.1 94 55 = (eCn P l o nU nL nO nL : Nat)) ∧ (a.1 53 17 = (nK P l o nU nL nO (400 + nU) : Nat) ∧ b.1 94 60 = (nK P l o nU nL nO (400 + nU) : Nat) ∧ a.1 62 (nK P l o nU nL nO (400 + nU)) = (fS P l o nU nL nO (400 + nU) : Nat) ∧ b.1 130 (nK P l o nU nL nO (400 + nU)) = (fS P l o nU nL nO (400 + nU) : Nat) ∧ b.1 94 61 = (fS P l o nU nL nO (400 + nU) : Nat)) ∧ (∀ s' : Nat, s' < 400 + nU → 0 < snkN P l o nU nL nO (s' : Int) → a.1 60 (nK P l o nU nL nO s') = (s' : Int) ∧ b.1 129 (nK P l o nU nL nO s') = (s' : Int) ∧ a.1 62 (nK P l o nU nL nO s') = (fS P l o nU nL nO s' : Nat) ∧ b.1 130 (nK P l o nU nL nO s') = (fS P l o nU nL nO s' : Nat)) ∧ ((∀ k, k < 4 * eCn P l o nU nL nO nL → psA P l o nU nL nO nL k ≠ -1 → a.1 63 (posP P l o nU nL nO k) = (k : Int) ∧ b.1 131 (posP P l o nU nL nO k) = (k : Int)) ∧ (∀ i, i < nO → a.1 63 (posO P l o nU nL nO i) = ((4 * kP c + i : Nat) : Int) ∧ b.1 131 (posO P l o nU nL nO i) = ((1000 + i : Nat) : Int)) ∧ cvr P l o nU nL nO (fS P l o nU nL nO (400 + nU))) ∧ ((∀ j, j < nL → a.1 54 j = (elj P l o nU nL nO j : Nat) ∧ b.1 128 j = (elj P l o nU nL nO j : Nat)) ∧ (∀ e, e < eCn P l o nU nL nO nL → LtE P l o nU nL nO nL e (a.1 55 e) ∧ LtE P l o nU nL nO nL e (b.1 125 e) ∧ b.1 127 e = if e < nU then t8 e else 43690) ∧ ∀ k, k < 4 * eCn P l o nU nL nO nL → b.1 126 k = psA P l o nU nL nO nL k) ∧ CLe c P l o nU nL nO nC a b ∧ (∀ n, n < nK P l o nU nL nO (400 + nU) → nSr nI nL (eCn P l o nU nL nO nL) a (a.1 60 n) (fun i => a.1 61 n = ((kN c + i : Nat) : Int)) (fun e => a.1 61 n = a.1 56 e)) ∧ ∀ k, k < fS P l o nU nL nO (400 + nU) → nSk c nO (eCn P l o nU nL nO nL) (a.1 63 k) (fun e => a.1 64 k = a.1 56 e) (fun o => a.1 64 k = ((kN c + kD c + o : Nat) : Int))
section
variable {nU nL nI nO : Nat} {P l o : Nat → Int} {a b : gZ}
theorem b1_id {α : Type} (x : Option α) : gB1 x (fun y => some y) = x := by cases x <;> rfl
/-- too many elements: the reference -/
theorem s_packF (h : PkM nU nL nI nO P l o b) (m5 : b.1 94 5 = kP c) (hx : kP c < eCn P l o nU nL nO nL) : ∃ b', q_Model_pack E (kL c) b = q_Model_fail E (kL c) 6 (-1) b' ∧ zOff (fun k j => k = 94 ∧ j = 55) b b' := by
  have hM0 : PkM nU nL nI nO P l o (zPut b 94 55 (nU : Int)) := PkM_c h fun k j x => zp_n (by unfold rPm at x; omega)
  obtain ⟨b1, p1, o1, z1⟩ := s_packN (E := E) (c := c) hM0 (zp_eq _ _ _ _)
  refine ⟨b1, ?_, off_t (off_put ⟨rfl, rfl⟩) o1⟩
  unfold q_Model_pack
  rw [let_s, h.2.1.1, p1, b1_s, z1, o1.2 94 5 (by omega), zp_n (by omega), m5, if_neg (by omega), b1_id]
theorem s_pack (hk : kOk c) (hC : PkC c nU nL nI nO P l o a) (hM : PkM nU nL nI nO P l o b) (hb : nL ≤ 150 ∧ nI + nO ≤ kD c) (g2 : a.1 1 2 = kE c) (g4 : a.1 1 4 = kN c) (g5 : a.1 1 5 = kD c) (g6 : a.1 1 6 = kP c) (m2 : b.1 94 2 = kE c) (m5 : b.1 94 5 = kP c) : (∃ a' b', q_Packing_pack E (kL c) a = some (0, a') ∧ q_Model_pack E (kL c) b = q_Model_fail E (kL c) 6 (-1) b' ∧ zOff pPc a a' ∧ zOff (fun k j => k = 94 ∧ j = 55) b b') ∨ ∃ (a' b' : gZ) (nC : Nat), q_Packing_pack E (kL c) a = some (1, a') ∧ q_Model_pack E (kL c) b = some b' ∧ zOff pPc a a' ∧ zOff pPm b b' ∧ PJ c P l o nU nL nI nO nC (b.1 118) a' b' := by
  have hPb := kP_b hk
  have hD := kD_b hk
  have hU : nU ≤ kP c := hC.1
  have hPs : ∀ j, j < 4 * nU → okS nI nL nU (P j) := fun j hj => (hM.2.2.1 j hj).2
  have hls : ∀ j, j < nL → srcO nI nL nU (l j) := fun j hj => (hM.2.2.2.1 j hj).1
  have hos : ∀ j, j < nO → srcO nI nL nU (o j) := fun j hj => (hM.2.2.2.2 j hj).1
  rcases s_elems (E := E) hk hC hPs hls hos hb g6 with ⟨hx, a1, p1, o1⟩ | ⟨hx, a1, p1, o1, y58, y15, y54, y55⟩
  · obtain ⟨b', q1, q2⟩ := s_packF (E := E) hM m5 hx
    refine Or.inl ⟨a1, b', ?_, q1, off_w o1 fun k j x => by unfold pPc; omega, q2⟩
    unfold q_Packing_pack
    rw [p1, b2_s]
    exact if_pos rfl
  · have h : PkS c nU nL nI nO P l o := ⟨⟨hU, hb⟩, hPs, hls, hos, hx⟩
    have nb := nK_b hk h (400 + nU)
    have sb := fS_b (P := P) (l := l) (o := o) (nU := nU) (nL := nL) (nO := nO) (400 + nU)
    -- the class, to the touches
    obtain ⟨a2, p2, o2, w17, w62, w59⟩ := s_nets (E := E) hk h (PkC_c hC fun k j x => o1.2 k j (by unfold rPc at x; omega)) y58 y54
    have hC2 : PkC c nU nL nI nO P l o a2 := PkC_c hC fun k j x => by rw [o2.2 k j (by unfold rPc at x; omega), o1.2 k j (by unfold rPc at x; omega)]
    have v55 : ∀ e, e < kP c → LtE P l o nU nL nO nL e (a2.1 55 e) := fun e he => by rw [o2.2 55 e (by omega)]; exact y55 e he
    have v15 : a2.1 53 15 = (eCn P l o nU nL nO nL : Nat) := by rw [o2.2 53 15 (by omega)]; exact y15
    have v16 : a2.1 1 6 = kP c := by rw [o2.2 1 6 (by omega), o1.2 1 6 (by omega)]; exact g6
    obtain ⟨a3, p3, o3, s63, s63o⟩ := s_sinks (E := E) hk h hC2 v55 v15 v16 fun s' hs' => ⟨(w59 s' hs').1, fun x => ((w59 s' hs').2 x).2⟩
    have r55 : a3.1 55 = a2.1 55 := funext fun e => o3.2 55 e (by omega)
    obtain ⟨a4, p4, o4, t65⟩ := s_touch (E := E) hk h (PkC_c hC2 fun k j x => o3.2 k j (by unfold rPc at x; omega)) (fun e he => by rw [r55]; exact v55 e he) (by rw [o3.2 53 15 (by omega)]; exact v15) (fun s' hs' => by rw [o3.2 59 s' (by omega)]; exact (w59 s' hs').1)
    -- the reference, to the touches
    have hM0 : PkM nU nL nI nO P l o (zPut b 94 55 (nU : Int)) := PkM_c hM fun k j x => zp_n (by unfold rPm at x; omega)
    obtain ⟨b1, q1, u1, f55⟩ := s_packN (E := E) (c := c) hM0 (zp_eq _ _ _ _)
    have hM1 : PkM nU nL nI nO P l o b1 := PkM_c hM0 fun k j x => u1.2 k j (by unfold rPm at x; omega)
    obtain ⟨b2, q2, u2, f125, f126⟩ := s_packU (E := E) (c := c) hM1 (by omega)
    have hM2 : PkM nU nL nI nO P l o b2 := PkM_c hM1 fun k j x => u2.2 k j (by unfold rPm at x; omega)
    obtain ⟨b3, q3, u3, g125, g128, g126⟩ := s_packL (E := E) (c := c) hM2 (by omega) (by omega) f125 f126
    have b118 : ∀ e, b1.1 118 e = b.1 118 e := fun e => by rw [u1.2 118 e (by omega), zp_n (by omega)]
    have hM3 : PkM nU nL nI nO P l o (zPut (zPut b3 94 60 0) 94 61 0) := PkM_c hM2 fun k j x => by
      rw [zp_n (by unfold rPm at x; omega), zp_n (by unfold rPm at x; omega), u3.2 k j (by unfold rPm at x; omega)]
    have k55 : b3.1 94 55 = (eCn P l o nU nL nO nL : Nat) := by rw [u3.2 94 55 (by omega), u2.2 94 55 (by omega)]; exact f55
    obtain ⟨b4, q4, u4, n61, n60, n129, n131, n131o, cv⟩ := s_netsM (E := E) hk h hM3 (by rw [zp_n (by omega), zp_n (by omega)]; exact k55) (fun k hk' => by rw [zp_n (by omega), zp_n (by omega)]; exact g126 k hk') (by rw [zp_n (by omega), zp_eq]) (zp_eq _ _ _ _)
    have d4 : ∀ k j, ¬ pNq k j → b4.1 k j = b3.1 k j := fun k j x => by
      rw [u4.2 k j x, zp_n (by unfold pNq at x; omega), zp_n (by unfold pNq at x; omega)]
    generalize hb5 : zPut b4 130 (nK P l o nU nL nO (400 + nU)) (fS P l o nU nL nO (400 + nU) : Nat) = b5
    have d5 : ∀ k j, k ≠ 130 → b5.1 k j = b4.1 k j := fun k j x => by rw [← hb5, zp_n (by omega)]
    have e130 : ∀ n, b5.1 130 n = if n = nK P l o nU nL nO (400 + nU) then ((fS P l o nU nL nO (400 + nU) : Nat) : Int) else b4.1 130 n := fun n => by rw [← hb5, zp1, if_pos rfl]
    obtain ⟨b6, q6, u6, t135⟩ := s_touchM (E := E) (b := b5) (q := a2.1 55) hk h (fun e he => v55 e (by omega)) (by rw [d5 94 55 (by omega), d4 94 55 (by unfold pNq; omega)]; exact k55) (by rw [d5 94 60 (by omega)]; exact n60) (fun k hk' => by rw [d5 126 k (by omega), d4 126 k (by unfold pNq; omega)]; exact g126 k hk') (fun j hj => by rw [d5 128 j (by omega), d4 128 j (by unfold pNq; omega)]; exact g128 j hj) (fun s' hs' x => by rw [d5 129 _ (by omega)]; exact (n129 s' hs' x).1)
    have d6 : ∀ k j, k ≠ 135 → b6.1 k j = b5.1 k j := fun k j x => u6.2 k j (by omega)
    have m55 : b6.1 94 55 = (eCn P l o nU nL nO nL : Nat) := by rw [d6 94 55 (by omega), d5 94 55 (by omega), d4 94 55 (by unfold pNq; omega)]; exact k55
    have m60 : b6.1 94 60 = (nK P l o nU nL nO (400 + nU) : Nat) := by rw [d6 94 60 (by omega), d5 94 60 (by omega)]; exact n60
    have m22 : b6.1 94 2 = kE c := by rw [d6 94 2 (by omega), d5 94 2 (by omega), d4 94 2 (by unfold pNq; omega), u3.2 94 2 (by omega), u2.2 94 2 (by omega), u1.2 94 2 (by omega), zp_n (by omega)]; exact m2
    -- both make the clusters
    rw [r55] at t65
    obtain ⟨a5, b7, nC, p5, q7, o5, u7, cl⟩ := s_clusters (E := E) (a := a4) (b := b6) (q := a2.1 55) hk h (by rw [o4.2 53 15 (by omega), o3.2 53 15 (by omega)]; exact v15) (by rw [o4.2 1 2 (by omega), o3.2 1 2 (by omega), o2.2 1 2 (by omega), o1.2 1 2 (by omega)]; exact g2) t65 m55 m22 m60 t135
    -- what the class has before things
    have A : ∀ k j, ¬ pKc k j → k ≠ 65 → a5.1 k j = a3.1 k j := fun k j x y => by rw [o5.2 k j x, o4.2 k j y]
    have A2 : ∀ k j, ¬ pKc k j → k ≠ 65 → k ≠ 58 → k ≠ 63 → a5.1 k j = a2.1 k j := fun k j x y z w => by rw [A k j x y, o3.2 k j (by omega)]
    have i17 : a5.1 53 17 = (nK P l o nU nL nO (400 + nU) : Nat) := by rw [A2 53 17 (by unfold pKc; omega) (by omega) (by omega) (by omega)]; exact w17
    have i15 : a5.1 53 15 = (eCn P l o nU nL nO nL : Nat) := by rw [A2 53 15 (by unfold pKc; omega) (by omega) (by omega) (by omega)]; exact v15
    have i62 : ∀ n, a5.1 62 n = a2.1 62 n := fun n => A2 62 n (by unfold pKc; omega) (by omega) (by omega) (by omega)
    have i60 : ∀ n, a5.1 60 n = a2.1 60 n := fun n => A2 60 n (by unfold pKc; omega) (by omega) (by omega) (by omega)
    have i54 : ∀ j, j < nL → a5.1 54 j = (elj P l o nU nL nO j : Nat) := fun j hj => by rw [A2 54 j (by unfold pKc; omega) (by omega) (by omega) (by omega), o2.2 54 j (by omega)]; exact y54 j hj
    have i63 : ∀ n, a5.1 63 n = a3.1 63 n := fun n => A 63 n (by unfold pKc; omega) (by omega)
    have i1 : ∀ j, a5.1 1 j = a.1 1 j := fun j => by rw [A2 1 j (by unfold pKc; omega) (by omega) (by omega) (by omega), o2.2 1 j (by omega), o1.2 1 j (by omega)]
    have c60 : ∀ n, n < nK P l o nU nL nO (400 + nU) → nSr nI nL (eCn P l o nU nL nO nL) a5 (a5.1 60 n) (fun _ => True) (fun _ => True) := fun n hn => by
      obtain ⟨s, s1, s2, s3⟩ := nK_ex hn
      have e1 : a5.1 60 n = (s : Int) := by rw [i60, ← s3]; exact ((w59 s (by omega)).2 s2).1
      have sr := (snk_src hk h s2).1
      unfold srcO at sr
      rcases sr with ⟨r1, r2⟩ | ⟨r1, r2⟩ | ⟨r1, r2⟩
      · exact Or.inl ⟨s, by omega, e1, trivial⟩
      · have eb := elj_b (P := P) (o := o) (nO := nO) (by omega) (by omega) hls (j := s - 200) (by omega)
        have em := eCn_mono (P := P) (l := l) (o := o) (nU := nU) (nL := nL) (nO := nO) (i := s - 200 + 1) (j := nL) (by omega)
        exact Or.inr ⟨elj P l o nU nL nO (s - 200), by omega, Or.inl ⟨s - 200, by omega, by rw [e1]; omega, i54 _ (by omega)⟩, trivial⟩
      · have em := eCn_lo (P := P) (l := l) (o := o) (nU := nU) (nL := nL) (nO := nO) nL
        exact Or.inr ⟨s - 400, by omega, Or.inr (by rw [e1]; omega), trivial⟩
    have c63 : ∀ k, k < fS P l o nU nL nO (400 + nU) → nSk c nO (eCn P l o nU nL nO nL) (a5.1 63 k) (fun _ => True) (fun _ => True) := fun k hk' => by
      rw [i63]
      rcases cv k hk' with ⟨x, x1, x2, x3⟩ | ⟨j, j1, j2⟩
      · exact Or.inl ⟨x / 4, x % 4, by omega, by omega, by rw [← x3, s63 x x1 x2]; omega, trivial⟩
      · exact Or.inr ⟨j, j1, by rw [← j2]; exact s63o j j1, trivial⟩
    obtain ⟨a6, p6, o6, th1, th2⟩ := s_things (E := E) (a := a5) (nI := nI) (nL := nL) (nO := nO) (nS := fS P l o nU nL nO (400 + nU)) hk i17 (by omega) (by rw [i62]; exact w62) (by omega) hx (by rw [i1]; exact g4) (by rw [i1]; exact g5) (by rw [i1]; exact g6) (by omega) hb.1 (by omega) c60 c63 (fun e he => by have := cl.2.2.2.1 e he; have := cl.2.2.1; omega)
    have B : ∀ k j, k ≠ 61 → k ≠ 64 → a6.1 k j = a5.1 k j := fun k j x y => o6.2 k j (by omega)
    -- what the reference has
    have D : ∀ k j, ¬ pKm k j → k ≠ 135 → k ≠ 130 → b7.1 k j = b4.1 k j := fun k j x y z => by rw [u7.2 k j x, d6 k j y, d5 k j z]
    have D3 : ∀ k j, ¬ pKm k j → k ≠ 135 → ¬ pNq k j → b7.1 k j = b3.1 k j := fun k j x y z => by rw [D k j x y (by unfold pNq at z; omega), d4 k j z]
    refine Or.inr ⟨a6, b7, nC, ?_, ?_, ?_, ?_, h, ⟨by rw [B 53 15 (by omega) (by omega)]; exact i15, by rw [D3 94 55 (by unfold pKm; omega) (by omega) (by unfold pNq; omega)]; exact k55⟩, ⟨by rw [B 53 17 (by omega) (by omega)]; exact i17, by rw [D 94 60 (by unfold pKm; omega) (by omega) (by omega)]; exact n60, by rw [B 62 _ (by omega) (by omega), i62]; exact w62, ?_, by rw [D 94 61 (by unfold pKm; omega) (by omega) (by omega)]; exact n61⟩, fun s' hs' x => ⟨?_, ?_, ?_, ?_⟩, ⟨fun k hk' x => ⟨?_, ?_⟩, fun i hi => ⟨?_, ?_⟩, cv⟩, ⟨fun j hj => ⟨?_, ?_⟩, fun e he => ⟨?_, ?_, ?_⟩, fun k hk' => ?_⟩, ?_, fun n hn => ?_, fun k hk' => ?_⟩
    · unfold q_Packing_pack
      rw [p1, b2_s]
      show (if (1 : Int) = 0 then _ else gB1 (q_Packing_setNets E (kL c) a1) _) = _
      rw [if_neg (by omega), p2, b1_s, p3, b1_s, p4, b1_s, p5, b1_s, p6, b1_s]
    · unfold q_Model_pack
      rw [let_s, hM.2.1.1, q1, b1_s, f55, u1.2 94 5 (by omega), zp_n (by omega), m5, if_pos (by omega), q2, b1_s, let_s, hM2.2.1.1, q3, b1_s]
      unfold q_Model_makeNets
      rw [let_s, let_s, q4, b1_s, n60, n61, kL_130, if_pos (by omega), let_s, gtN, hb5, q6, b1_s, b1_s, q7, b1_s]
    · exact off_t (off_w o1 fun k j x => by unfold pPc; omega) (off_t (off_w o2 fun k j x => by unfold pPc; omega) (off_t (off_w o3 fun k j x => by unfold pPc; omega) (off_t (off_w o4 fun k j x => by unfold pPc; omega) (off_t (off_w o5 fun k j x => by unfold pKc at x; unfold pPc; omega) (off_w o6 fun k j x => by unfold pPc; omega)))))
    · refine off_t (off_put (j := 55) (k := 94) (v := (nU : Int)) (by unfold pPm; omega)) (off_t (off_w u1 fun k j x => by unfold pPm; omega) (off_t (off_w u2 fun k j x => by unfold pPm; omega) (off_t (off_w u3 fun k j x => by unfold pPm; omega) (off_t (off_t (off_put (k := 94) (j := 60) (v := 0) (by unfold pPm; omega)) (off_put (k := 94) (j := 61) (v := 0) (by unfold pPm; omega))) (off_t (off_w u4 fun k j x => by unfold pNq at x; unfold pPm; omega) (off_t ?_ (off_t (off_w u6 fun k j x => by unfold pPm; omega) (off_w u7 fun k j x => by unfold pKm at x; unfold pPm; omega))))))))
      rw [← hb5]; exact off_put (by unfold pPm; omega)
    · rw [u7.2 130 _ (by unfold pKm; omega), d6 130 _ (by omega), e130, if_pos rfl]
    · rw [B 60 _ (by omega) (by omega), i60]; exact ((w59 s' (by omega)).2 x).1
    · rw [D 129 _ (by unfold pKm; omega) (by omega) (by omega)]; exact (n129 s' hs' x).1
    · rw [B 62 _ (by omega) (by omega), i62]; exact ((w59 s' (by omega)).2 x).2
    · have lt : nK P l o nU nL nO s' < nK P l o nU nL nO (400 + nU) := by
        have e1 := nK_s (P := P) (l := l) (o := o) (nU := nU) (nL := nL) (nO := nO) s'
        rw [if_pos x] at e1
        have e2 := nK_m (P := P) (l := l) (o := o) (nU := nU) (nL := nL) (nO := nO) (i := s' + 1) (j := 400 + nU) (by omega)
        omega
      rw [u7.2 130 _ (by unfold pKm; omega), d6 130 _ (by omega), e130, if_neg (by omega)]; exact (n129 s' hs' x).2
    · rw [B 63 _ (by omega) (by omega), i63]; exact s63 k hk' x
    · rw [D 131 _ (by unfold pKm; omega) (by omega) (by omega)]
      refine n131 k hk' x ?_
      have pok := psA_ok (P := P) (o := o) (nO := nO) hls hPs nL (Nat.le_refl _) k hk'
      unfold okS srcO at pok
      omega
    · rw [B 63 _ (by omega) (by omega), i63]; exact s63o i hi
    · rw [D 131 _ (by unfold pKm; omega) (by omega) (by omega)]
      refine n131o i hi ?_
      have := hos i hi
      unfold srcO at this
      omega
    · rw [B 54 _ (by omega) (by omega)]; exact i54 j hj
    · rw [D3 128 _ (by unfold pKm; omega) (by omega) (by unfold pNq; omega)]; exact g128 j hj
    · rw [B 55 _ (by omega) (by omega), A2 55 e (by unfold pKc; omega) (by omega) (by omega) (by omega)]; exact v55 e (by omega)
    · rw [D3 125 _ (by unfold pKm; omega) (by omega) (by unfold pNq; omega)]; exact (g125 e he).1
    · rw [D3 127 _ (by unfold pKm; omega) (by omega) (by unfold pNq; omega), (g125 e he).2]
      by_cases y : e < nU
      · rw [if_pos y, if_pos y, b118]
      · rw [if_neg y, if_neg y]
    · rw [D3 126 _ (by unfold pKm; omega) (by omega) (by unfold pNq; omega)]; exact g126 k hk'
    · obtain ⟨z1, z2, z3, z4, z5⟩ := cl
      refine ⟨by rw [B 53 16 (by omega) (by omega)]; exact z1, z2, z3, fun e he => ?_, fun e e' he he' => ?_⟩
      · rw [B 56 _ (by omega) (by omega), B 57 _ (by omega) (by omega)]; exact z4 e he
      · rw [B 56 _ (by omega) (by omega), B 57 _ (by omega) (by omega), B 56 _ (by omega) (by omega), B 57 _ (by omega) (by omega)]; exact z5 e e' he he'
    · have e54 : a6.1 54 = a5.1 54 := funext fun j => B 54 j (by omega) (by omega)
      have e56 : a6.1 56 = a5.1 56 := funext fun j => B 56 j (by omega) (by omega)
      have := th1 n hn
      unfold nSr at this ⊢
      rw [e54, e56, B 60 _ (by omega) (by omega)]
      exact this
    · have e56 : a6.1 56 = a5.1 56 := funext fun j => B 56 j (by omega) (by omega)
      rw [e56, B 63 _ (by omega) (by omega)]
      exact th2 k hk'
end
end
