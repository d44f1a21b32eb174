set_option linter.unusedVariables false
-- LW
section
variable {E : gEv} {c : gCf}
theorem s_failM {b : gZ} (h17 : b.1 94 17 = 0) : q_Model_fail E (kL c) 6 (-1) b = some (zPut (zPut b 94 17 6) 94 18 (-1)) := by
  unfold q_Model_fail
  rw [h17, if_pos rfl, let_s, let_s]
section
variable {n : Nat} {z bz : gZ}
/-- both compile alike -/
theorem s_comp (hS : SE E) (h : IB c n z) (hz : ∀ k j, 94 ≤ k → bz.1 k j = z.1 k j) : ∃ (r : Int) (a' b' : gZ), q_Face_compile E (kL c) z = some (r, a') ∧ q_Model_compile E (kL c) bz = some (r, b') ∧ zOff pCoo z a' ∧ zOff pRoo bz b' ∧ ∀ s : gZ, (∀ k j, k < 94 → s.1 k j = a'.1 k j) → (∀ k j, 94 ≤ k → s.1 k j = b'.1 k j) → OutI c n s := by
  have hk := h.g.1
  have hN := kN_b hk
  have hD := kD_b hk
  have hPb := kP_b hk
  obtain ⟨x0, x1, x2, x3, x4, x5, x6, -⟩ := h.g.2.1
  obtain ⟨m0, m1, m2, m3, m4, m5, m6, -⟩ := h.g.2.2.1
  obtain ⟨k, t1, t2, t3, t4, t5⟩ := h.t
  obtain ⟨w11, w22, w30⟩ := h.w
  -- the class opens the text and forgets
  generalize hzo : zPut (zPut (zPut z 10 3 (k : Int)) 10 2 0) 10 4 0 = zo
  have oo : zOff (fun k j => k = 10 ∧ 2 ≤ j ∧ j ≤ 4) z zo := by
    rw [← hzo]; exact off_t (off_put ⟨rfl, by omega, by omega⟩) (off_t (off_put ⟨rfl, by omega, by omega⟩) (off_put ⟨rfl, by omega, by omega⟩))
  have po : q_Text_open E (kL c) z = some zo := by
    unfold q_Text_open
    rw [let_s, let_s, let_s, t2, hzo]
  obtain ⟨a0, pf, of, FG⟩ := s_forget (E := E) hk zo
  have f0 : ∀ k j, ¬ pFg k j → ¬ (k = 10 ∧ 2 ≤ j ∧ j ≤ 4) → a0.1 k j = z.1 k j := fun k j x y => by rw [of.2 k j x, oo.2 k j y]
  generalize hb0 : zPut (zPut bz 94 17 0) 94 18 (-1) = b0
  have ob0 : zOff (fun k j => k = 94 ∧ (j = 17 ∨ j = 18)) bz b0 := by
    rw [← hb0]; exact off_t (off_put ⟨rfl, by omega⟩) (off_put ⟨rfl, by omega⟩)
  have gb0 : ∀ k j, 94 ≤ k → ¬ (k = 94 ∧ (j = 17 ∨ j = 18)) → b0.1 k j = z.1 k j := fun k j x y => by rw [ob0.2 k j y, hz k j x]
  obtain ⟨a1, b1, pR, pM, oa1, ob1, cas⟩ := s_read (E := E) (c := c) (T := z.1 96) (n := k) (a := a0) (b := b0) hS hk t1 (by rw [of.2 10 4 (by unfold pFg; omega), ← hzo, zp_eq]) (by rw [of.2 10 3 (by unfold pFg; omega), ← hzo, zp_n (by omega), zp_n (by omega), zp_eq]) (fun j hj => by rw [f0 11 j (by unfold pFg; omega) (by omega)]; exact (t4 j hj).1) (fun j hj => gb0 96 j (by omega) (by omega)) (by rw [gb0 94 16 (by omega) (by omega)]; exact t3) (by rw [← hb0, zp_n (by omega), zp_eq]) (by rw [← hb0, zp_eq]) (by rw [f0 22 2 (by unfold pFg; omega) (by omega)]; exact w22) (by rw [gb0 94 6 (by omega) (by omega)]; exact m6)
  have a12 : a1.1 10 2 = 0 := by rw [oa1.2 10 2 (by unfold pAr; omega), of.2 10 2 (by unfold pFg; omega), ← hzo, zp_n (by omega), zp_eq]
  generalize ha2 : zPut a1 0 11 (a1.1 22 15) = a2
  have oa2 : zOff (fun k j => k = 0 ∧ j = 11) a1 a2 := by rw [← ha2]; exact off_put ⟨rfl, rfl⟩
  have a211 : a2.1 0 11 = a1.1 22 15 := by rw [← ha2, zp_eq]
  have fa2 : ∀ k j, ¬ pAr k j → ¬ pFg k j → ¬ (k = 10 ∧ 2 ≤ j ∧ j ≤ 4) → ¬ (k = 0 ∧ j = 11) → a2.1 k j = z.1 k j := fun k j x y w v => by rw [oa2.2 k j v, oa1.2 k j x, f0 k j y w]
  have ga2 : ∀ k j, ¬ pAr k j → ¬ (k = 0 ∧ j = 11) → a2.1 k j = a0.1 k j := fun k j x v => by rw [oa2.2 k j v, oa1.2 k j x]
  have oz2 : zOff pCoo z a2 := off_t (off_w oo fun k j x => by unfold pCoo; omega) (off_t (off_w of fun k j x => by unfold pFg at x; unfold pCoo; omega) (off_t (off_w oa1 fun k j x => by unfold pAr at x; unfold pCoo; omega) (off_w oa2 fun k j x => by unfold pCoo; omega)))
  have oz1 : zOff pRoo bz b1 := off_t (off_w ob0 fun k j x => by unfold pRoo; omega) (off_w ob1 fun k j x => by unfold pBr at x; unfold pRoo; omega)
  have cls : q_Face_compile E (kL c) z = if a1.1 22 14 = 0 then (gB2 (q_Face_build E (kL c) a2) fun v8 s9 => if v8 = 0 then q_Face_compile_j44 E (kL c) 6 s9 else q_Face_compile_j44 E (kL c) (a1.1 22 14) s9) else q_Face_compile_j44 E (kL c) (a1.1 22 14) a2 := by
    unfold q_Face_compile
    rw [po, b1_s, pf, b1_s, pR, b2_p, let_s, ha2]
  have ref : q_Model_compile E (kL c) bz = q_Model_compile_j25 E (kL c) b1 := by
    unfold q_Model_compile
    rw [let_s, let_s, hb0]
    exact pM (q_Model_compile_j25 E (kL c))
  rw [cls, ref]
  rcases cas with ⟨kf, f, kf0, c14, c15, d17, d18⟩ | ⟨nm, nI, nO, nL, nG, R1, N1⟩
  · obtain ⟨a', b', p1, p2, q⟩ := s_fin (E := E) (aX := a2) (bX := b1) h hz kf0 oz2 oz1 (by rw [oa2.2 10 2 (by omega)]; exact a12) d17 (by rw [a211, c15, d18])
    refine ⟨kf, a', b', ?_, ?_, q⟩
    · rw [c14, if_neg kf0]; exact p1
    · unfold q_Model_compile_j25
      rw [d17, if_neg kf0]; exact p2
  · have R : RN c nm nI nO nL nG a2 b1 := RN_c R1 (fun k j x => oa2.2 k j (by unfold nA at x; omega)) (fun _ _ _ => rfl)
    have N : NBr nG nG a2 b1 := by
      obtain ⟨n1, n2, n3, n4⟩ := N1
      exact ⟨fun g hg => by rw [oa2.2 20 g (by omega)]; exact n1 g hg, fun k hk => by rw [oa2.2 21 k (by omega)]; exact n2 k hk, n3, n4⟩
    have io := R.io
    have ct := R.cnt
    have a2m : a2.1 0 11 = -1 := by rw [a211]; exact R1.pl.1
    rw [R1.fa, if_pos rfl]
    unfold q_Model_compile_j25 q_Face_build
    rw [R.fb, if_pos rfl, let_s]
    obtain ⟨U, a3, b2, pm, pmM, M⟩ := s_mapAll (E := E) hk R N (by rw [ga2 30 10 (by unfold pAr; omega) (by omega)]; exact FG.1 10 (by omega) (by omega)) (by rw [fa2 30 0 (by unfold pAr; omega) (by unfold pFg; omega) (by omega) (by omega)]; exact w30)
    rw [pm, b1_s, pmM, b1_s]
    have hM := MS_PkM hk R N M
    have oa3 := M.1
    have ob2 := M.2.1
    have oz3 : zOff pCoo z a3 := off_t oz2 (off_w oa3 fun k j x => by unfold pCm pU at x; unfold pCoo; omega)
    have ozb2 : zOff pRoo bz b2 := off_t oz1 (off_w ob2 fun k j x => by unfold pBm at x; unfold pRoo; omega)
    have e16 : a3.1 1 6 = kP c := by rw [oz3.2 1 6 (by unfold pCoo; omega)]; exact x6
    have e30 : a3.1 30 10 = (U.2.2 : Nat) := M.2.2.1.1
    have b217 : b2.1 94 17 = 0 := by rw [ob2.2 94 17 (by unfold pBm; omega)]; exact R.fb
    have b25 : b2.1 94 5 = kP c := by rw [ozb2.2 94 5 (by unfold pRoo; omega), hz 94 5 (by omega)]; exact m5
    have b22 : b2.1 94 2 = kE c := by rw [ozb2.2 94 2 (by unfold pRoo; omega), hz 94 2 (by omega)]; exact m2
    rw [e16, e30]
    -- a field too small, on both sides
    have six : ∀ aX bX, zOff pCoo z aX → zOff pRoo bz bX → aX.1 10 2 = 0 → aX.1 0 11 = -1 → q_Model_pack E (kL c) b2 = q_Model_fail E (kL c) 6 (-1) bX → bX.1 94 17 = 0 → ∃ (r : Int) (a' b' : gZ), q_Face_compile_j44 E (kL c) 6 aX = some (r, a') ∧ (gB1 (q_Model_pack E (kL c) b2) fun s15 => q_Model_compile_j83 E (kL c) s15) = some (r, b') ∧ zOff pCoo z a' ∧ zOff pRoo bz b' ∧ ∀ s : gZ, (∀ k j, k < 94 → s.1 k j = a'.1 k j) → (∀ k j, 94 ≤ k → s.1 k j = b'.1 k j) → OutI c n s := fun aX bX oX oY y1 y2 y3 y4 => by
      obtain ⟨a', b', p1, p2, q⟩ := s_fin (E := E) (aX := aX) (bX := zPut (zPut bX 94 17 6) 94 18 (-1)) (r := 6) h hz (by omega) oX (off_t oY (off_t (off_put (by unfold pRoo; omega)) (off_put (by unfold pRoo; omega)))) y1 (by rw [zp_n (by omega), zp_eq]) (by rw [zp_eq]; exact y2)
      exact ⟨6, a', b', p1, by rw [y3, s_failM y4, b1_s]; exact p2, q⟩
    by_cases hU : U.2.2 ≤ kP c
    · rw [if_pos (by omega)]
      obtain ⟨a4, p4, o4, hC4, l32⟩ := s_take (E := E) hk R N M hU
      rw [p4, b1_s]
      have oz4 : zOff pCoo z a4 := off_t oz3 (off_w o4 fun k j x => by unfold pTk at x; unfold pCoo; omega)
      have y1 : ∀ j, a4.1 1 j = z.1 1 j := fun j => oz4.2 1 j (by unfold pCoo; omega)
      have f4 : ∀ k j, ¬ pTk k j → ¬ pCm k j → a4.1 k j = a2.1 k j := fun k j x y => by rw [o4.2 k j x, oa3.2 k j y]
      rcases s_pack (E := E) hk hC4 hM ⟨by omega, io⟩ (by rw [y1]; exact x2) (by rw [y1]; exact x4) (by rw [y1]; exact x5) (by rw [y1]; exact x6) b22 b25 with ⟨a5, b3, p5, q5, o5, u5⟩ | ⟨a5, b3, nC, p5, q5, o5, u5, J⟩
      · rw [p5, b2_p, if_pos rfl, b2_p, if_pos rfl]
        refine six a5 b3 (off_t oz4 (off_w o5 fun k j x => by unfold pPc at x; unfold pCoo; omega)) (off_t ozb2 (off_w u5 fun k j x => by unfold pRoo; omega)) ?_ ?_ q5 (by rw [u5.2 94 17 (by omega)]; exact b217)
        · rw [o5.2 10 2 (by unfold pPc; omega), f4 10 2 (by unfold pTk; omega) (by unfold pCm pU; omega), oa2.2 10 2 (by omega)]; exact a12
        · rw [o5.2 0 11 (by unfold pPc; omega), f4 0 11 (by unfold pTk; omega) (by unfold pCm pU; omega)]; exact a2m
      · rw [p5, b2_p, if_neg (by omega)]
        have oz5 : zOff pCoo z a5 := off_t oz4 (off_w o5 fun k j x => by unfold pPc at x; unfold pCoo; omega)
        have ozb3 : zOff pRoo bz b3 := off_t ozb2 (off_w u5 fun k j x => by unfold pPm at x; unfold pRoo; omega)
        have f5 : ∀ k j, ¬ pPc k j → ¬ pTk k j → ¬ pCm k j → a5.1 k j = a2.1 k j := fun k j w x y => by rw [o5.2 k j w, f4 k j x y]
        have hC5 : PkC c U.2.2 nL nI nO U.1 (lO b1 b2) (oO b1 b2) a5 := PkC_c hC4 fun k j x => o5.2 k j (by unfold rPc at x; unfold pPc; omega)
        have cl := J.2.2.2.2.2.2.1
        obtain ⟨a6, o6, pz6, y68, mz⟩ := s_beginC (E := E) (a := a5) (nC := nC) (nI := nI) (nO := nO) hk cl.1 hC5.2.1.2.2.1 hC5.2.1.2.2.2 (by rw [oz5.2 1 4 (by unfold pCoo; omega)]; exact x4) (by rw [oz5.2 1 5 (by unfold pCoo; omega)]; exact x5) cl.2.2.1 io (fun q hq => by rw [f5 68 q (by unfold pPc; omega) (by unfold pTk; omega) (by unfold pCm pU; omega), ga2 68 q (by unfold pAr; omega) (by omega)]; exact FG.2.2.2.1 q hq)
        have oz6 : zOff pCoo z a6 := off_t oz5 (off_w o6 fun k j x => by unfold pCoo; omega)
        have njh := PJ_n (z := hyb a6 b3) hk J (fun k j x => by rw [hyb_l (by unfold pPc at x; omega), o6.2 k j (by unfold pPc at x; omega)]) (fun k j x => hyb_h (by unfold pPm at x; omega))
        have grh : Gr c (hyb a6 b3) := Gr_o (P := fun k j => pCoo k j ∨ pRoo k j) (z := z) (fun k j x => by
          by_cases y : k < 94
          · rw [hyb_l y]; exact oz6.2 k j fun w => x (Or.inl w)
          · rw [hyb_h (by omega), ozb3.2 k j fun w => x (Or.inr w)]; exact hz k j (by omega)) (fun k j x => by unfold pS at x; unfold pCoo pRoo; omega) h.g
        have pzh : PZ c nC nI nO (hyb a6 b3) := pz6
        have me := s_measure (E := E) grh njh pzh
        rw [hyb_m] at me
        rw [mz _ me, b1_s, b2_p, if_neg (by omega)]
        generalize hv : lam (hyb a6 b3) ((hyb a6 b3).1 69) (nK U.1 (lO b1 b2) (oO b1 b2) U.2.2 nL nO (400 + U.2.2)) = v
        generalize ha8 : zPut (zPut a6 67 4 v) 0 10 1 = a8
        have f8 : ∀ k j, ¬ (k = 67 ∧ j = 4) → ¬ (k = 0 ∧ j = 10) → a8.1 k j = a6.1 k j := fun k j x y => by rw [← ha8, zp_n (by omega), zp_n (by omega)]
        have pe : q_Face_compile_j44 E (kL c) 0 (zPut a6 67 4 v) = some (0, a8) := by
          unfold q_Face_compile_j44 q_Face_compile_j54
          rw [if_pos rfl, if_pos (Or.inr rfl), let_s, ha8, show a8.1 0 10 = 1 by rw [← ha8, zp_eq], if_neg (by omega)]
        rw [q5, b1_s]
        have lat : ∀ j, j < nL → b01 (b3.1 108 j) := fun j hj => by
          obtain ⟨v, v1, v2, v3, v4, v5⟩ := R.lat j hj
          rw [u5.2 108 j (by unfold pPm; omega), ob2.2 108 j (by unfold pBm; omega), ← v4]; exact v5
        have g3 : ∀ k j, ¬ pPm k j → ¬ pBm k j → b3.1 k j = b1.1 k j := fun k j x y => by rw [u5.2 k j x, ob2.2 k j y]
        obtain ⟨⟨r9, b4⟩, p9, e9, o9, ⟨v16, v77, v106, v105⟩, v160, v161, vM⟩ := s_tailK (E := E) (b := b3) (nC := nC) (nI := nI) (nO := nO) (nL := nL) hk (by rw [g3 94 17 (by unfold pPm; omega) (by unfold pBm; omega)]; exact R.fb) cl.2.1 (by rw [g3 94 29 (by unfold pPm; omega) (by unfold pBm; omega)]; exact R.bi) (by rw [g3 94 30 (by unfold pPm; omega) (by unfold pBm; omega)]; exact R.bo) (by rw [g3 94 31 (by unfold pPm; omega) (by unfold pBm; omega)]; exact R.bl) (by rw [ozb3.2 94 4 (by unfold pRoo; omega), hz 94 4 (by omega)]; exact m4) (by rw [ozb3.2 94 6 (by unfold pRoo; omega), hz 94 6 (by omega)]; exact m6) cl.2.2.1 io (by omega) lat
        have e9 : r9 = 0 := e9
        have o9 : zOff pOk b3 b4 := o9
        rw [e9] at p9
        have g4 : ∀ k j, ¬ pOk k j → b4.1 k j = b3.1 k j := fun k j x => o9.2 k j x
        have ozf : zOff pCoo z a8 := off_t oz6 (by rw [← ha8]; exact off_t (off_put (by unfold pCoo; omega)) (off_put (by unfold pCoo; omega)))
        have ozg : zOff pRoo bz b4 := off_t ozb3 (off_w o9 fun k j x => by unfold pOk pEm at x; unfold pRoo; omega)
        have f85 : ∀ k j, ¬ (k = 67 ∧ j = 4) → ¬ (k = 0 ∧ j = 10) → k ≠ 68 → k ≠ 69 → a8.1 k j = a5.1 k j := fun k j x y w u => by rw [f8 k j x y, o6.2 k j (by omega)]
        have f84 : ∀ k j, ¬ (k = 67 ∧ j = 4) → ¬ (k = 0 ∧ j = 10) → k ≠ 68 → k ≠ 69 → ¬ pPc k j → a8.1 k j = a4.1 k j := fun k j x y w u t => by rw [f85 k j x y w u, o5.2 k j t]
        have f82 : ∀ k j, ¬ (k = 67 ∧ j = 4) → ¬ (k = 0 ∧ j = 10) → k ≠ 68 → k ≠ 69 → ¬ pPc k j → ¬ pTk k j → ¬ pCm k j → a8.1 k j = a2.1 k j := fun k j x y w u t p q => by rw [f84 k j x y w u t, f4 k j p q]
        refine ⟨0, a8, b4, pe, p9, ozf, ozg, fun s A B => out_ok (aR := a2) (bR := b1) (aS := a3) (bS := b2) (aJ := a5) (bJ := b3) (hy := hyb a6 b3) (a := a8) (b := b4) h hz ozf ozg R N M (PkC_c hC5 fun k j x => f85 k j (by unfold rPc at x; omega) (by unfold rPc at x; omega) (by unfold rPc at x; omega) (by unfold rPc at x; omega)) J ?_ ?_ ?_ ?_ ?_ ?_ ?_ ?_ ?_ ?_ ?_ ?_ njh ?_ ?_ ?_ ?_ ?_ ?_ ?_ ?_ ?_ ?_ v160 ?_ ?_ v16 v77 v106 v105 ?_ vM A B⟩
        · rw [f82 10 2 (by omega) (by omega) (by omega) (by omega) (by unfold pPc; omega) (by unfold pTk; omega) (by unfold pCm pU; omega), oa2.2 10 2 (by omega)]; exact a12
        · rw [← ha8, zp_eq]
        · rw [f82 0 11 (by omega) (by omega) (by omega) (by omega) (by unfold pPc; omega) (by unfold pTk; omega) (by unfold pCm pU; omega)]; exact a2m
        · intro l hl
          rw [f84 36 l (by omega) (by omega) (by omega) (by omega) (by unfold pPc; omega), o4.2 36 l (by unfold pTk; omega)]; exact M.2.2.1.2.2.2 l hl (by omega)
        · intro j hj
          rw [f84 32 j (by omega) (by omega) (by omega) (by omega) (by unfold pPc; omega), f84 33 j (by omega) (by omega) (by omega) (by omega) (by unfold pPc; omega)]; exact l32 j hj
        · intro i hi
          rw [f82 38 i (by omega) (by omega) (by omega) (by omega) (by unfold pPc; omega) (by unfold pTk; omega) (by unfold pCm pU; omega), ga2 38 i (by unfold pAr; omega) (by omega)]; exact FG.2.1 i (by omega)
        · rw [f82 30 14 (by omega) (by omega) (by omega) (by omega) (by unfold pPc; omega) (by unfold pTk; omega) (by unfold pCm pU; omega), ga2 30 14 (by unfold pAr; omega) (by omega)]; exact FG.1 14 (by omega) (by omega)
        · rw [f82 30 15 (by omega) (by omega) (by omega) (by omega) (by unfold pPc; omega) (by unfold pTk; omega) (by unfold pCm pU; omega), ga2 30 15 (by unfold pAr; omega) (by omega)]; exact FG.1 15 (by omega) (by omega)
        · rw [f82 70 15 (by omega) (by omega) (by omega) (by omega) (by unfold pPc; omega) (by unfold pTk; omega) (by unfold pCm pU; omega), ga2 70 15 (by unfold pAr; omega) (by omega)]; exact FG.2.2.2.2
        · intro k j x
          exact f85 k j (by unfold pPc at x; omega) (by unfold pPc at x; omega) (by unfold pPc at x; omega) (by unfold pPc at x; omega)
        · show PK c nC nI nO (a8.1 68) (a8.1 69)
          rw [show a8.1 68 = a6.1 68 from funext fun j => f8 68 j (by omega) (by omega), show a8.1 69 = a6.1 69 from funext fun j => f8 69 j (by omega) (by omega)]; exact pz6
        · intro q hq
          rw [f8 68 q (by omega) (by omega)]; exact y68 q hq
        · intro k x
          exact funext fun j => by rw [f8 k j (by omega) (by omega), hyb_l (by omega)]
        · exact funext fun j => by rw [f8 69 j (by omega) (by omega), hyb_l (by omega)]
        · rw [hv, ← ha8, zp_n (by omega), zp_eq]
        · intro k x
          exact funext fun j => by rw [g4 k j (by unfold rCb at x; unfold pOk pEm; omega), u5.2 k j (by unfold rCb at x; unfold pPm; omega)]
        · rw [g4 94 46 (by unfold pOk pEm; omega), u5.2 94 46 (by unfold pPm; omega)]; exact M.2.2.2.1.1
        · rw [g4 94 31 (by unfold pOk pEm; omega), g3 94 31 (by unfold pPm; omega) (by unfold pBm; omega)]; exact R.bl
        · rw [g4 94 29 (by unfold pOk pEm; omega), g3 94 29 (by unfold pPm; omega) (by unfold pBm; omega)]; exact R.bi
        · rw [g4 94 30 (by unfold pOk pEm; omega), g3 94 30 (by unfold pPm; omega) (by unfold pBm; omega)]; exact R.bo
        · rw [g4 94 32 (by unfold pOk pEm; omega), g3 94 32 (by unfold pPm; omega) (by unfold pBm; omega)]; exact R.bg
        · intro k j x
          exact g4 k j (by unfold pPm at x; unfold pOk pEm; omega)
        · intro j hj
          rw [v161 j hj, g3 108 j (by unfold pPm; omega) (by unfold pBm; omega)]
        · intro j hj
          rw [g4 108 j (by unfold pOk pEm; omega), g3 108 j (by unfold pPm; omega) (by unfold pBm; omega)]
        · rw [g4 94 18 (by unfold pOk pEm; omega), g3 94 18 (by unfold pPm; omega) (by unfold pBm; omega)]; exact R.pl.2
    · rw [if_neg (by omega), b2_p, if_pos rfl]
      have lo := eCn_lo (P := U.1) (l := lO b1 b2) (o := oO b1 b2) (nU := U.2.2) (nL := nL) (nO := nO) nL
      obtain ⟨b3, q5, u5⟩ := s_packF (E := E) hM b25 (by omega)
      refine six a3 b3 oz3 (off_t ozb2 (off_w u5 fun k j x => by unfold pRoo; omega)) ?_ ?_ q5 (by rw [u5.2 94 17 (by omega)]; exact b217)
      · rw [oa3.2 10 2 (by unfold pCm pU; omega), oa2.2 10 2 (by omega)]; exact a12
      · rw [oa3.2 0 11 (by unfold pCm pU; omega)]; exact a2m
/-- compile's law -/
theorem s_law (hS : SE E) (h : IB c n z) : zOk (q_Face_compile E (kL c) z) (fun r => zOk (q_Model_compile E (kL c) r.2) (fun q => r.1 = q.1 ∧ IB c (n + 1) q.2)) := by
  obtain ⟨r, a, -, p1, -, oa, -⟩ := s_comp (E := E) (bz := z) hS h fun k j _ => rfl
  have ha : ∀ k j, 94 ≤ k → a.1 k j = z.1 k j := fun k j x => oa.2 k j (by unfold pCoo; omega)
  obtain ⟨r', a', b, p2, p3, oa', ob, out⟩ := s_comp (E := E) (bz := a) hS h ha
  rw [p1] at p2
  have e1 : r = r' := congrArg (fun x : Int × gZ => x.1) (Option.some.inj p2)
  have e2 : a = a' := congrArg (fun x : Int × gZ => x.2) (Option.some.inj p2)
  refine ⟨(r, a), p1, (r', b), p3, e1, ?_⟩
  have ob94 : ∀ k j, k < 94 → b.1 k j = a.1 k j := fun k j x => ob.2 k j (by unfold pRoo; omega)
  have zb : zO (fun k j => pCoo k j ∨ pRoo k j) z b := fun k j x => by rw [ob.2 k j fun w => x (Or.inr w), oa.2 k j fun w => x (Or.inl w)]
  obtain ⟨q1, q2, q3, q4, q5, q6⟩ := out b (fun k j x => by rw [← e2]; exact ob94 k j x) fun k j _ => rfl
  refine ⟨Gr_o zb (fun k j x => by unfold pS at x; unfold pCoo pRoo; omega) h.g, Jk_oB h.j zb fun k j x => by unfold pCoo pRoo at x; omega, ⟨0, q1⟩, JF_o h.f (by omega) zb fun k j x => by unfold pCoo pRoo at x; unfold rF; omega, q2, q3, q4, q5, q6, ?_, ?_⟩
  · rw [zb 22 2 (by unfold pCoo pRoo; omega)]; exact h.w.2.1
  · rw [zb 30 0 (by unfold pCoo pRoo; omega)]; exact h.w.2.2
end
/-- whole -/
theorem whole_is (hE : (E 1000).1 ≤ 3076) (hS : SE E) : ∃ y, q_Law_law E (fun _ => 0) (fun _ _ => 0, fun _ _ => 0) = some (1, y) :=
  whole_ofB hE fun c n z h => s_law hS h
end
