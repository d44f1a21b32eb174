set_option linter.unusedVariables false
-- LP
section
variable {E : gEv} {c : gCf}
section
variable {nU nL nI nO nC : Nat} {P l o t8 : Nat → Int} {a b z : gZ}
theorem fS_0 : ∀ s, nK P l o nU nL nO s = 0 → fS P l o nU nL nO s = 0 := by
  intro s
  induction s with
  | zero => exact fun _ => rfl
  | succ s ih =>
    intro h
    rw [nK_s] at h
    rw [fS_s, ih (by omega)]
    by_cases x : 0 < snkN P l o nU nL nO (s : Int)
    · rw [if_pos x] at h; omega
    · omega
theorem PJ_n (hk : kOk c) (J : PJ c P l o nU nL nI nO nC t8 a b) (A : ∀ k j, pPc k j → z.1 k j = a.1 k j) (B : ∀ k j, pPm k j → z.1 k j = b.1 k j) : NJ c (eCn P l o nU nL nO nL) nC (nK P l o nU nL nO (400 + nU)) (fS P l o nU nL nO (400 + nU)) nI nO z := by
  have hPb := kP_b hk
  have hD := kD_b hk
  obtain ⟨h, ⟨j1, j2⟩, ⟨j3, j4, j5, j6, j7⟩, j8, ⟨j9, j10, cv⟩, ⟨j11, j12, j13⟩, cl, th1, th2⟩ := J
  have hb := h.1
  have mb := h.2.2.2.2
  have nb := nK_b hk h (400 + nU)
  have sb := fS_b (P := P) (l := l) (o := o) (nU := nU) (nL := nL) (nO := nO) (400 + nU)
  obtain ⟨c1, c2, c3, c4, c5⟩ := cl
  have r62 : ∀ n, z.1 62 n = a.1 62 n := fun n => A 62 n (by unfold pPc; omega)
  have r60 : ∀ n, z.1 60 n = a.1 60 n := fun n => A 60 n (by unfold pPc; omega)
  have r61 : ∀ n, z.1 61 n = a.1 61 n := fun n => A 61 n (by unfold pPc; omega)
  have r63 : ∀ n, z.1 63 n = a.1 63 n := fun n => A 63 n (by unfold pPc; omega)
  have r64 : ∀ n, z.1 64 n = a.1 64 n := fun n => A 64 n (by unfold pPc; omega)
  have r128 : ∀ n, z.1 128 n = b.1 128 n := fun n => B 128 n (by unfold pPm; omega)
  have r129 : ∀ n, z.1 129 n = b.1 129 n := fun n => B 129 n (by unfold pPm; omega)
  have r130 : ∀ n, z.1 130 n = b.1 130 n := fun n => B 130 n (by unfold pPm; omega)
  have r131 : ∀ n, z.1 131 n = b.1 131 n := fun n => B 131 n (by unfold pPm; omega)
  have r133 : ∀ n, z.1 133 n = b.1 133 n := fun n => B 133 n (by unfold pPm; omega)
  have at62 : ∀ n, n ≤ nK P l o nU nL nO (400 + nU) → ∃ s : Nat, s ≤ 400 + nU ∧ nK P l o nU nL nO s = n ∧ z.1 62 n = (fS P l o nU nL nO s : Nat) ∧ z.1 130 n = (fS P l o nU nL nO s : Nat) ∧ (n = nK P l o nU nL nO (400 + nU) → s = 400 + nU) := fun n hn => by
    by_cases e : n = nK P l o nU nL nO (400 + nU)
    · exact ⟨400 + nU, Nat.le_refl _, e.symm, by rw [r62, e]; exact j5, by rw [r130, e]; exact j6, fun _ => rfl⟩
    · obtain ⟨s, s1, s2, s3⟩ := nK_ex (P := P) (l := l) (o := o) (nU := nU) (nL := nL) (nO := nO) (N := 400 + nU) (n := n) (by omega)
      have := j8 s s1 s2
      rw [s3] at this
      exact ⟨s, by omega, s3, by rw [r62]; exact this.2.2.1, by rw [r130]; exact this.2.2.2, fun x => absurd x e⟩
  have mono : ∀ {s t : Nat}, s ≤ t → fS P l o nU nL nO s ≤ fS P l o nU nL nO t := fun {s t} hst => sum_m hst
  refine ⟨by rw [A 53 17 (by unfold pPc; omega)]; exact j3, by rw [B 94 60 (by unfold pPm; omega)]; exact j4, by omega, by rw [A 53 16 (by unfold pPc; omega)]; exact c1, by rw [B 94 66 (by unfold pPm; omega)]; exact c2, mb, by omega, fun n hn => ?_, fun n hn => ?_, ?_, by rw [r62]; exact j5, fun n hn => ?_, fun k hk' => ?_⟩
  · obtain ⟨s, s1, s2, s3, s4, -⟩ := at62 n hn
    have := mono s1
    rw [s3, s4]
    exact ⟨by omega, by omega, rfl⟩
  · obtain ⟨s, s1, s2, s3, s4, -⟩ := at62 n (by omega)
    obtain ⟨t, t1, t2, t3, t4, -⟩ := at62 (n + 1) hn
    have st : s ≤ t := by
      by_cases x : s ≤ t
      · exact x
      · have := nK_m (P := P) (l := l) (o := o) (nU := nU) (nL := nL) (nO := nO) (i := t) (j := s) (by omega)
        omega
    have := mono st
    rw [s3, t3]; omega
  · obtain ⟨s, s1, s2, s3, s4, -⟩ := at62 0 (by omega)
    rw [s3, fS_0 s s2]; rfl
  · obtain ⟨s, s1, s2, s3⟩ := nK_ex hn
    have g := j8 s s1 s2
    rw [s3] at g
    have sr := (snk_src hk h s2).1
    unfold srcO at sr
    refine ⟨by rw [r60, r129, g.1, g.2.1], ?_⟩
    rw [r129, g.2.1, r61]
    rcases th1 n hn with ⟨i, i1, i2, i3⟩ | ⟨e, e1, e2, e3⟩
    · exact Or.inl ⟨i, i1, by omega, i3⟩
    · have ce := c4 e e1
      refine Or.inr ⟨e, (a.1 56 e).toNat, e1, ?_, by rw [r133]; omega, by omega, by omega⟩
      rcases e2 with ⟨j, x1, x2, x3⟩ | x2
      · refine Or.inr ⟨by omega, by omega, ?_⟩
        rw [show ((s : Int) - 200).toNat = j by omega, r128, (j11 j x1).2, ← (j11 j x1).1, x3]
      · exact Or.inl ⟨by omega, by omega⟩
  · rw [r131, r63, r64]
    rcases cv k hk' with ⟨x, x1, x2, x3⟩ | ⟨j, y1, y2⟩
    · have g := j9 x x1 x2
      rw [x3] at g
      rcases th2 k hk' with ⟨e, p, e1, e2, e3, e4⟩ | ⟨o', o1, o2, o3⟩
      · have ce := c4 e e1
        exact Or.inl ⟨e, p, (a.1 56 e).toNat, e1, e2, by omega, e3, by rw [r133]; omega, by omega, by omega⟩
      · omega
    · have g := j10 j y1
      rw [y2] at g
      rcases th2 k hk' with ⟨e, p, e1, e2, e3, e4⟩ | ⟨o', o1, o2, o3⟩
      · omega
      · exact Or.inr ⟨o', o1, by omega, o2, o3⟩
theorem PJ_e (hk : kOk c) (J : PJ c P l o nU nL nI nO nC t8 a b) (A : ∀ k j, pPc k j → z.1 k j = a.1 k j) (B : ∀ k j, pPm k j → z.1 k j = b.1 k j) (h36 : ∀ e, e < nU → z.1 36 e = t8 e) (h32 : ∀ j, j < nL → z.1 32 j = z.1 108 j ∧ b01 (z.1 32 j)) (h30 : z.1 30 10 = nU) : EJ c (eCn P l o nU nL nO nL) nC (fS P l o nU nL nO (400 + nU)) nU nL z := by
  have hPb := kP_b hk
  have hD := kD_b hk
  obtain ⟨h, ⟨j1, j2⟩, ⟨j3, j4, j5, j6, j7⟩, j8, ⟨j9, j10, cv⟩, ⟨j11, j12, j13⟩, cl, th1, th2⟩ := J
  have hb := h.1
  have mb := h.2.2.2.2
  obtain ⟨c1, c2, c3, c4, c5⟩ := cl
  have r55 : ∀ n, z.1 55 n = a.1 55 n := fun n => A 55 n (by unfold pPc; omega)
  have r56 : ∀ n, z.1 56 n = a.1 56 n := fun n => A 56 n (by unfold pPc; omega)
  have r57 : ∀ n, z.1 57 n = a.1 57 n := fun n => A 57 n (by unfold pPc; omega)
  have r131 : ∀ n, z.1 131 n = b.1 131 n := fun n => B 131 n (by unfold pPm; omega)
  have lte := eCn_lo (P := P) (l := l) (o := o) (nU := nU) (nL := nL) (nO := nO) nL
  refine ⟨fun e he => ?_, fun e e' he he' => ?_, fun e he => ?_, h32, hb.2.1, fun e he => ?_, h30, lte, by rw [A 53 15 (by unfold pPc; omega)]; exact j1, by rw [B 94 55 (by unfold pPm; omega)]; exact j2, by rw [B 94 61 (by unfold pPm; omega)]; exact j7, fun j hj => ?_, fun k k' hk1 hk2 => ?_, fun j hj => ?_, fun n hn hlo hhi => ?_⟩
  · rw [r55, r56, r57, B 125 e (by unfold pPm; omega), B 133 e (by unfold pPm; omega), B 134 e (by unfold pPm; omega)]
    exact ⟨LtE_u (by omega) (by omega) h.2.2.1 (Nat.le_refl _) (j12 e he).1 (j12 e he).2.1, c4 e he⟩
  · rw [r56, r57, r56, r57]; exact c5 e e' he he'
  · rw [r55]
    rcases (j12 e he).1 with ⟨x, -⟩ | ⟨i, i1, i2, i3⟩
    · exact Or.inl x
    · exact Or.inr (by omega)
  · rw [B 127 e (by unfold pPm; omega), (j12 e he).2.2]
    by_cases y : e < nU
    · rw [if_pos y, if_pos y, h36 e y]
    · rw [if_neg y, if_neg y]
  · rw [B 126 j (by unfold pPm; omega), j13 j hj]
    by_cases x : psA P l o nU nL nO nL j = -1
    · refine Or.inl ⟨x, fun k hk' w => ?_⟩
      rw [r131] at w
      rcases cv k hk' with ⟨y, y1, y2, y3⟩ | ⟨i, y1, y2⟩
      · have := (j9 y y1 y2).2
        rw [y3] at this
        exact y2 (by rw [show y = j by omega]; exact x)
      · have := (j10 i y1).2
        rw [y2] at this
        omega
    · refine Or.inr ⟨x, posP P l o nU nL nO j, ?_, by rw [r131]; exact (j9 j hj x).2⟩
      have pok := (psA_ok (P := P) (o := o) (nO := nO) h.2.2.1 h.2.1 nL (Nat.le_refl _) j hj).resolve_left x
      obtain ⟨s, s1⟩ : ∃ s : Nat, psA P l o nU nL nO nL j = (s : Int) := ⟨(psA P l o nU nL nO nL j).toNat, by unfold srcO at pok; omega⟩
      have s2 : s < 400 + nU := by unfold srcO at pok; omega
      have cl := cn_lt (f := psA P l o nU nL nO nL) (s := (s : Int)) hj s1
      have m1 := sum_m (g := fun s => snkN P l o nU nL nO (s : Int)) (i := s + 1) (j := 400 + nU) s2
      have m2 : fS P l o nU nL nO (s + 1) ≤ fS P l o nU nL nO (400 + nU) := m1
      rw [fS_s] at m2
      have m3 : cn (psA P l o nU nL nO nL) (4 * eCn P l o nU nL nO nL) (s : Int) ≤ snkN P l o nU nL nO (s : Int) := Nat.le_add_right _ _
      unfold posP
      rw [s1, show ((s : Int)).toNat = s by omega]
      omega
  · rw [r131, r131]
    intro w
    rcases cv k hk1 with ⟨y, y1, y2, y3⟩ | ⟨i, y1, y3⟩
    · have g1 := (j9 y y1 y2).2
      rw [y3] at g1
      rcases cv k' hk2 with ⟨x, x1, x2, x3⟩ | ⟨i', x1, x3⟩
      · have g2 := (j9 x x1 x2).2
        rw [x3] at g2
        rw [← y3, ← x3, show y = x by omega]
      · have g2 := (j10 i' x1).2
        rw [x3] at g2
        omega
    · have g1 := (j10 i y1).2
      rw [y3] at g1
      rcases cv k' hk2 with ⟨x, x1, x2, x3⟩ | ⟨i', x1, x3⟩
      · have g2 := (j9 x x1 x2).2
        rw [x3] at g2
        omega
      · have g2 := (j10 i' x1).2
        rw [x3] at g2
        rw [← y3, ← x3, show i = i' by omega]
  · rw [A 54 j (by unfold pPc; omega), B 128 j (by unfold pPm; omega), (j11 j hj).1, (j11 j hj).2]
  · rw [A 53 17 (by unfold pPc; omega), j3] at hn
    obtain ⟨s, s1, s2, s3⟩ := nK_ex (P := P) (l := l) (o := o) (nU := nU) (nL := nL) (nO := nO) (N := 400 + nU) (n := n) (by omega)
    have g := (j8 s s1 s2).2.1
    rw [s3] at g
    have sr := (snk_src hk h s2).1
    unfold srcO at sr
    rw [B 129 n (by unfold pPm; omega), g] at hlo hhi ⊢
    omega
end
end
