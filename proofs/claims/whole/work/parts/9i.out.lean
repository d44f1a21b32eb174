set_option linter.unusedVariables false
-- LV
section
variable {E : gEv} {c : gCf}
theorem s_fin {n : Nat} {z bz aX bX : gZ} {r : Int} (h : IB c n z) (hz : ∀ k j, 94 ≤ k → bz.1 k j = z.1 k j) (hr : r ≠ 0) (oa : zOff pCoo z aX) (ob : zOff pRoo bz bX) (h2 : aX.1 10 2 = 0) (h17 : bX.1 94 17 = r) (hf : aX.1 0 11 = bX.1 94 18) : ∃ a' b', q_Face_compile_j44 E (kL c) r aX = some (r, a') ∧ q_Model_compile_j83 E (kL c) bX = some (r, b') ∧ zOff pCoo z a' ∧ zOff pRoo bz b' ∧ ∀ s : gZ, (∀ k j, k < 94 → s.1 k j = a'.1 k j) → (∀ k j, 94 ≤ k → s.1 k j = b'.1 k j) → OutI c n s := by
  obtain ⟨⟨r1, a'⟩, p1, e1, o1, g1, h10⟩ := s_tailC (E := E) h.g.1 hr aX
  obtain ⟨⟨r2, b'⟩, p2, e2, o2, h16, h77, h106, h105⟩ := s_tailM (E := E) (c := c) hr h17
  have e1 : r1 = r := e1
  have e2 : r2 = r := e2
  have o1 : zOff (fun k j => pFg k j ∨ (k = 0 ∧ j = 10)) aX a' := o1
  have o2 : zOff pEm bX b' := o2
  rw [e1] at p1
  rw [e2] at p2
  have oa' : zOff pCoo z a' := off_t oa (off_w o1 fun k j x => by unfold pFg at x; unfold pCoo; omega)
  have ob' : zOff pRoo bz b' := off_t ob (off_w o2 fun k j x => by unfold pEm at x; unfold pRoo; omega)
  refine ⟨a', b', p1, p2, oa', ob', fun s A B => out_fail h hz oa' ob' g1 h10 ?_ h16 h77 h106 h105 ?_ A B⟩
  · rw [o1.2 10 2 (by unfold pFg; omega)]; exact h2
  · rw [o1.2 0 11 (by unfold pFg; omega), o2.2 94 18 (by unfold pEm; omega)]; exact hf
section
variable {nm nI nO nL nG nC : Nat} {U : Ut} {aR bR aS bS aJ bJ hy z bz a b s : gZ} {n : Nat}
theorem out_ok (h : IB c n z) (hz : ∀ k j, 94 ≤ k → bz.1 k j = z.1 k j) (oa : zOff pCoo z a) (ob : zOff pRoo bz b) (R : RN c nm nI nO nL nG aR bR) (N : NBr nG nG aR bR) (M : MS c nm nI nL nG U aR bR aS bS) (hC : PkC c U.2.2 nL nI nO U.1 (lO bR bS) (oO bR bS) a) (J : PJ c U.1 (lO bR bS) (oO bR bS) U.2.2 nL nI nO nC (bS.1 118) aJ bJ) (a2 : a.1 10 2 = 0) (a10 : a.1 0 10 = 1) (a11 : a.1 0 11 = -1) (a36 : ∀ l, l < U.2.2 → a.1 36 l = U.2.1 l) (a32 : ∀ j, j < nL → a.1 32 j = bR.1 108 j ∧ a.1 33 j = bR.1 108 j ∧ b01 (a.1 32 j)) (a38 : ∀ i, i < nI → a.1 38 i = 0) (a14 : a.1 30 14 = 0) (a15 : a.1 30 15 = 0) (a70 : a.1 70 15 = 0) (aP : ∀ k j, pPc k j → a.1 k j = aJ.1 k j) (aZ : PZ c nC nI nO a) (aY : ∀ q, q < kN c + kD c → a.1 68 q = pY c nC nI nO q) (nj : NJ c (eCn U.1 (lO bR bS) (oO bR bS) U.2.2 nL nO nL) nC (nK U.1 (lO bR bS) (oO bR bS) U.2.2 nL nO (400 + U.2.2)) (fS U.1 (lO bR bS) (oO bR bS) U.2.2 nL nO (400 + U.2.2)) nI nO hy) (hrow : ∀ k, k = 2 ∨ k = 3 ∨ k = 61 ∨ k = 62 ∨ k = 64 → a.1 k = hy.1 k) (h69 : a.1 69 = hy.1 69) (h67 : a.1 67 4 = lam hy (hy.1 69) (nK U.1 (lO bR bS) (oO bR bS) U.2.2 nL nO (400 + U.2.2))) (bC : ∀ k, rCb k → b.1 k = bS.1 k) (b46 : b.1 94 46 = (U.2.2 : Nat)) (b31 : b.1 94 31 = nL) (b29 : b.1 94 29 = nI) (b30 : b.1 94 30 = nO) (b32 : b.1 94 32 = nG) (bP : ∀ k j, pPm k j → b.1 k j = bJ.1 k j) (b160 : ∀ i, i < 48 → b.1 160 i = 0) (b161 : ∀ j, j < nL → b.1 161 j = bR.1 108 j) (b108 : ∀ j, j < nL → b.1 108 j = bR.1 108 j) (b16 : b.1 94 16 = 0) (b77 : b.1 94 77 = 0) (b106 : b.1 94 106 = 1) (b105 : b.1 94 105 = 0) (b18 : b.1 94 18 = -1) (bM : ∀ y : Nat → Int, (∀ q, q < kN c + kD c → y q = pY c nC nI nO q) → PM c y b) (A : ∀ k j, k < 94 → s.1 k j = a.1 k j) (B : ∀ k j, 94 ≤ k → s.1 k j = b.1 k j) : OutI c n s := by
  have hk := h.g.1
  have hD := kD_b hk
  have io := R.io
  obtain ⟨k, t1, t2, t3, t4, t5⟩ := h.t
  have Af : ∀ k, k < 94 → s.1 k = a.1 k := fun k hk => funext fun j => A k j hk
  have Bf : ∀ k, 94 ≤ k → s.1 k = b.1 k := fun k hk => funext fun j => B k j hk
  have sP : ∀ k j, pPc k j → s.1 k j = aJ.1 k j := fun k j x => by rw [A k j (by unfold pPc at x; omega)]; exact aP k j x
  have sM : ∀ k j, pPm k j → s.1 k j = bJ.1 k j := fun k j x => by rw [B k j (by unfold pPm at x; omega)]; exact bP k j x
  have cj : CJ c (1000 * ((n + 1 : Nat) : Int)) U.2.2 nL nI nO nG s := by
    refine CJ_of hk R N M hC.1 (fun k x => by rw [Bf k (by unfold rCb at x; omega)]; exact bC k x) (by rw [B 94 46 (by omega)]; exact b46) (by rw [B 94 31 (by omega)]; exact b31) (by rw [B 94 29 (by omega)]; exact b29) (by rw [B 94 30 (by omega)]; exact b30) (by rw [B 94 32 (by omega)]; exact b32) (fun i hi => by rw [B 160 i (by omega)]; exact b160 i (by omega)) (fun j hj => by rw [B 161 j (by omega), A 33 j (by omega), b161 j hj, (a32 j hj).2.1]) (PkC_c hC fun k j x => A k j (by unfold rPc at x; omega)) (fun l hl => by rw [A 36 l (by omega)]; exact a36 l hl) (fun j hj => ?_) (fun i hi => by rw [A 38 i (by omega)]; exact a38 i hi) (by rw [A 30 14 (by omega)]; exact a14) (by rw [A 30 15 (by omega)]; exact a15) (by rw [B 94 105 (by omega)]; exact b105) (by omega)
    have := a32 j hj
    rw [A 33 j (by omega), this.2.1, ← this.1]; exact this.2.2
  have njs := PJ_n hk J sP sM
  have ejs : EJ c _ nC _ U.2.2 nL s := PJ_e hk J sP sM (fun e he => by rw [A 36 e (by omega), a36 e he]; exact (M.2.2.2.1.2.2 e he).symm) (fun j hj => by rw [A 32 j (by omega), B 108 j (by omega), b108 j hj]; exact ⟨(a32 j hj).1, (a32 j hj).2.2⟩) (by rw [A 30 10 (by omega)]; exact hC.2.1.1)
  have pzs : PZ c nC nI nO s := by
    show PK c nC nI nO (s.1 68) (s.1 69)
    rw [Af 68 (by omega), Af 69 (by omega)]; exact aZ
  have s10 : s.1 0 10 = 1 := by rw [A 0 10 (by omega)]; exact a10
  have s106 : s.1 94 106 = 1 := by rw [B 94 106 (by omega)]; exact b106
  have lm : s.1 67 4 = lam s (s.1 69) (nK U.1 (lO bR bS) (oO bR bS) U.2.2 nL nO (400 + U.2.2)) := by
    rw [lam_c (s := s) (w' := s.1 69) nj (fun x _ => by rw [Af 69 (by omega), h69]) (fun k x => by rw [Af k (by omega)]; exact hrow k x) _ (Nat.le_refl _), A 67 4 (by omega)]
    exact h67
  have pms : PM c (s.1 68) s := by
    have := bM (s.1 68) fun q hq => by rw [Af 68 (by omega)]; exact aY q hq
    exact ⟨fun t ht => by rw [B 136 t (by omega)]; exact this.t t ht, fun p hp => by rw [B 137 p (by omega)]; exact this.p p hp⟩
  refine ⟨⟨by omega, by rw [A 10 2 (by omega), a2]; rfl, by rw [B 94 16 (by omega), b16]; rfl, fun j hj => by omega, fun j hj => ?_⟩, Or.inr ⟨s10, s106, _, _, _, _, _, cj⟩, Or.inr ⟨s10, s106, _, _, _, _, _, _, ⟨njs, pzs, lm⟩, pms, ?_, ?_⟩, ⟨?_, Or.inl ⟨?_, ?_⟩⟩, Or.inr ⟨_, _, _, _, _, ejs, ?_, ?_, ?_⟩, ?_⟩
  · rw [A 12 j (by omega), oa.2 12 j (by unfold pCoo; omega), B 95 j (by omega), ob.2 95 j (by unfold pRoo; omega), hz 95 j (by omega)]; exact t5 j hj
  · rw [sP 53 15 (by unfold pPc; omega)]; exact J.2.1.1
  · rw [sM 94 55 (by unfold pPm; omega)]; exact J.2.1.2
  · rw [A 70 4 (by omega), oa.2 70 4 (by unfold pCoo; omega)]; exact h.r.1
  · rw [A 70 15 (by omega)]; exact a70
  · rw [B 94 77 (by omega)]; exact b77
  · exact njs.cn
  · rw [njs.n, gtN]; exact njs.fN
  · rw [A 30 11 (by omega)]; exact hC.2.1.2.1
  · rw [A 0 11 (by omega), B 94 18 (by omega), a11, b18]
end
end
