set_option linter.unusedVariables false
-- J8
section
variable {E : gEv} {c : gCf}
section
variable {T : Nat → Int} {n p m : Nat} {W S : Nat → Nat} {e q nm nI nO nL nG : Nat} {a b : gZ}
/-- a cover line from its digit on -/
theorem s_covR {last g K : Nat} (hS : SE E) (h : LC T n p m W S e a b) (R : RR c True T n p nm nI nO nL nG a b) (U : US nm 150 b) (hl : last < m) (hg : nG = g + 1) (g15 : nG ≤ 150) (h16 : a.1 22 16 = g) (hK : a.1 15 g = K) (h5 : a.1 10 5 = W last) (h6 : a.1 10 6 = ((W last + S last : Nat) : Int)) (h4 : a.1 10 4 = (psn p W S (last + 1) : Nat)) (hf : W 0 + K ≤ n) (hs : ∀ i, i < K → sgn T (W 0 + i)) : ∃ a' b', q_Reader_readCover_j107 E (kL c) (mskT T (W 0) 49 K : Nat) ((mskT T (W 0) 49 K ||| mskT T (W 0) 48 K : Nat) : Int) a = some a' ∧ q_Model_coverLine_j150 E (kL c) (g : Int) (K : Int) (last : Int) b = some b' ∧ zOff pRa a a' ∧ zOff pRb b b' ∧ (FF a' b' ∨ (RR c True T n (e + 1) nm nI nO nL nG a' b' ∧ US nm 150 b' ∧ a'.1 22 16 = g ∧ a'.1 10 4 = e)) := by
  have m2 := LC_m h
  have n4 := h.n4
  have he := LC_e h
  have hwl := LC_w h hl
  have bwl := h.bw last hl
  obtain ⟨K', v, v1, v2, v3, v4, v5, v6, v7, v8, v9, v10, v11, v12, v13, v14⟩ := R.gat g (by omega) trivial
  have eK : K' = K := by omega
  subst eK
  have ep0 := LC_p h (i := 0) (by omega)
  have i5 := s_isWordM (E := E) (c := c) (z := b) (i := 5) (k := last) hS (by omega) n4 (by omega) bwl.1 bwl.2 (by omega) h.tb
  have i6 := s_isWordM (E := E) (c := c) (z := b) (i := 6) (k := last) hS (by omega) n4 (by omega) bwl.1 bwl.2 (by omega) h.tb
  have dg := s_digit (E := E) (c := c) (z := a) (T := T) n4 h5 h6 (by omega) (by omega) h.ta
  rw [show W last + S last - W last = S last by omega] at dg
  unfold q_Reader_readCover_j107 q_Model_coverLine_j150
  have main : ∀ d : Int, b01 d → ∃ a' b', (gB2 (q_Gates_agree E (kL c) (a.1 22 16) d a) fun v7 s8 => if v7 = 0 then (gB1 (q_Reader_refuse E (kL c) 3 (s8.1 10 5) s8) fun s10 => some s10) else gB1 (q_Gates_addLine E (kL c) (s8.1 22 16) ((mskT T (W 0) 49 K' ||| mskT T (W 0) 48 K' : Nat) : Int) (mskT T (W 0) 49 K' : Nat) s8) fun s12 => gB1 (q_Reader_refuseMore E (kL c) s12) fun s14 => some s14) = some a' ∧ q_Model_coverLine_j208 E (kL c) (g : Int) (K' : Int) (last : Int) d b = some b' ∧ zOff pRa a a' ∧ zOff pRb b b' ∧ (FF a' b' ∨ (RR c True T n (e + 1) nm nI nO nL nG a' b' ∧ US nm 150 b' ∧ a'.1 22 16 = g ∧ a'.1 10 4 = e)) := fun d hd => by
    rw [h16]
    unfold q_Model_coverLine_j208
    rw [kL_113, if_pos (by omega), gtN]
    rcases s_agree (E := E) (c := c) (z := a) (g := g) (d := d) (by omega) with ⟨g1, g2, g3⟩ | ⟨g1, s, g2, g3, g4⟩
    · rw [g3, b2_p, if_pos rfl, s_refuse, b1_s, h5, if_neg (by omega), if_neg (by omega), kL_97, if_pos (by omega), gtN, bwl.1, s_fail R.fb, b1_s]
      exact ⟨_, _, rfl, rfl, pRa_f, pRb_f, Or.inl (FF_put (k := 3) (f := W last) (by omega))⟩
    · have j243 : (if b.1 113 g = -1 then q_Model_coverLine_j243 E (kL c) (g : Int) (K' : Int) (last : Int) d b else if b.1 113 g = d then q_Model_coverLine_j243 E (kL c) (g : Int) (K' : Int) (last : Int) d b else if 0 ≤ (last : Int) ∧ (last : Int) < ((kL c 97 : Nat) : Int) then gB1 (q_Model_fail E (kL c) 3 (b.1 97 ((last : Int)).toNat) b) fun s26 => some s26 else none) = q_Model_coverLine_j243 E (kL c) (g : Int) (K' : Int) (last : Int) d b := by
        by_cases y : b.1 113 g = -1
        · rw [if_pos y]
        · rw [if_neg y, if_pos (by omega)]
      rw [j243, g2, b2_p, if_neg (by decide)]
      have s16 : s.1 22 16 = g := by rw [g4.2 22 16 (by omega)]; exact h16
      have s15 : s.1 15 g = K' := by rw [g4.2 15 g (by omega)]; exact hK
      rw [s16]
      obtain ⟨s12, q1, o12, q2, q3⟩ := s_addLine (E := E) (c := c) (T := T) (z := s) (g := g) (K := K') (f := W 0) (by omega) v1 s15 hs
      rw [q1, b1_s]
      have os : zOff pRa a s := off_w g4 fun k j x => by unfold pRa; omega
      have os12 : zOff pRa a s12 := off_t os (off_w o12 fun k j x => by unfold pRa; omega)
      have h12 := LC_o h os12 off_r
      have d4 : s12.1 10 4 = (psn p W S (last + 1) : Nat) := by rw [o12.2 10 4 (by omega), g4.2 10 4 (by omega)]; exact h4
      have s16' : s12.1 22 16 = g := by rw [o12.2 22 16 (by omega)]; exact s16
      unfold q_Reader_refuseMore q_Model_coverLine_j243
      rw [kL_113, if_pos (by omega), let_s, gtN, if_pos (by omega), show (zPut b 113 g d).1 94 19 = m from h.bm]
      by_cases mm : m = last + 1
      · subst mm
        obtain ⟨⟨r, s5⟩, hr, r1, ro, r5, r6, r4⟩ := s_nw0 (E := E) (c := c) h12 d4
        have r1 : r = 0 := r1
        have ro : zOff p46 s12 s5 := ro
        have r4 : s5.1 10 4 = e := r4
        obtain ⟨b', w1, w2, w3⟩ := s_covM (E := E) (c := c) (z := zPut b 113 g d) (T := T) (f := W 0) (K := K') (g := g) n4 (by omega) v1 (h.bw 0 (by omega)).1 hf h.tb hs (fun x hx => (v13 x hx).1)
        rw [hr, b2_p, if_pos r1, b1_s, if_pos (by omega), w1, b1_s]
        have ob : zOff pRb b b' := off_t (off_put (by unfold pRb; omega)) (off_w w2 fun k j x => by unfold pRb; omega)
        refine ⟨s5, b', rfl, rfl, off_t os12 (off_w ro fun k j x => by unfold p46 at x; unfold pRa; omega), ob, Or.inr ⟨?_, fun i hi hv h0 => ?_, ?_, r4⟩⟩
        · have A : ∀ k j, ¬ (k = 10 ∧ 4 ≤ j ∧ j ≤ 6) → s5.1 k j = s12.1 k j := fun k j hk => ro.2 k j hk
          refine RR_cov (RR_c R (q' := e + 1) (by omega) (fun _ _ _ => rfl) (fun _ _ _ => rfl)) hg g15 (fun k j hk x1 x2 => ?_) (fun k j hk x1 x2 => ?_) ?_ ?_ (fun x hx => ?_) (fun x hx => ?_)
          · rw [A k j (by unfold rA at hk; omega), o12.2 k j (by omega), g4.2 k j x1]
          · rw [w2.2 k j x2, zp_n x1]
          · rw [A 18 g (by omega), o12.2 18 g (by omega), g3, w2.2 113 g (by omega), zp_eq]
          · rw [A 18 g (by omega), o12.2 18 g (by omega), g3]; exact hd
          · refine ⟨(w3 x hx).1, ?_⟩
            have w4 := (w3 x hx).2
            rw [zp_n (by omega)] at w4
            rw [A 19 _ (by omega), q2 x hx, g4.2 19 _ (by omega), (v13 x hx).2]
            by_cases y : x < 2 ^ K' ∧ cov T (W 0) K' x
            · rw [dcd_t y, Bool.or_true]
              exact (decide_eq_true (w4.2 (Or.inr y))).symm
            · rw [dcd_f y, Bool.or_false]
              exact decide_eq_decide.2 ⟨fun t => w4.2 (Or.inl t), fun t => (w4.1 t).elim id fun t => absurd t y⟩
          · rw [A 19 _ (by omega)]
            rcases q3 x hx with y | y
            · rw [y, g4.2 19 _ (by omega)]; exact v14 x hx
            · exact y
        · rw [w2.2 101 i (by omega), zp_n (by omega)] at h0
          rw [w2.2 103 i (by omega), zp_n (by omega)]
          exact U i hi hv h0
        · rw [ro.2 22 16 (by unfold p46; omega)]; exact s16'
      · obtain ⟨⟨r, s5⟩, hr, r1, ro, r5, r6, r4⟩ := s_nw1 (E := E) (c := c) h12 (i := last + 1) (by omega) d4
        have r1 : r = 1 := r1
        have ro : zOff p46 s12 s5 := ro
        have r5 : s5.1 10 5 = W (last + 1) := r5
        rw [hr, b2_p, if_neg (by omega), s_refuse, b1_s, r5, b1_s, if_neg (by omega), kL_97, if_pos (by omega), show ((last : Int) + 1).toNat = last + 1 by omega, show (zPut b 113 g d).1 97 (last + 1) = W (last + 1) from (h.bw (last + 1) (by omega)).1, s_fail (show (zPut b 113 g d).1 94 17 = 0 from R.fb), b1_s]
        exact ⟨_, _, rfl, rfl, off_t (off_t os12 (off_w ro fun k j x => by unfold p46 at x; unfold pRa; omega)) pRa_f, off_t (off_put (by unfold pRb; omega)) pRb_f, Or.inl (FF_put (k := 1) (f := W (last + 1)) (by omega))⟩
  rw [R.fb, if_pos (by omega), i5, b1_s]
  rcases dg with ⟨g5, g6, gd⟩ | ⟨g5, g6, gd⟩ | ⟨g5, g6, gd⟩
  · rw [gd, b1_s, if_neg (by decide), dI_t g5, if_neg (by decide)]
    unfold q_Model_coverLine_j192
    rw [i6, b1_s, dI_f g6, if_pos rfl]
    exact main 0 (Or.inl rfl)
  · rw [gd, b1_s, if_neg (by decide), dI_f g5, if_pos rfl, i6, b1_s, dI_t g6, if_neg (by decide)]
    unfold q_Model_coverLine_j192
    rw [i6, b1_s, dI_t g6, if_neg (by decide)]
    exact main 1 (Or.inr rfl)
  · rw [gd, b1_s, if_pos rfl, dI_f g5, if_pos rfl, i6, b1_s, dI_f g6, if_pos rfl, s_refuse, b1_s, h5, kL_97, if_pos (by omega), gtN, bwl.1, s_fail R.fb, b1_s]
    exact ⟨_, _, rfl, rfl, pRa_f, pRb_f, Or.inl (FF_put (k := 1) (f := W last) (by omega))⟩
/-- a cover line -/
theorem s_cover {g : Nat} (hS : SE E) (h : LC T n p m W S e a b) (R : RR c True T n p nm nI nO nL nG a b) (U : US nm 150 b) (hm : 1 ≤ m) (hg : nG = g + 1) (h16 : a.1 22 16 = g) (h5 : a.1 10 5 = W 0) (h6 : a.1 10 6 = ((W 0 + S 0 : Nat) : Int)) (h4 : a.1 10 4 = (psn p W S 1 : Nat)) : ∃ a' b', q_Reader_readCover E (kL c) a = some a' ∧ q_Model_coverLine E (kL c) b = some b' ∧ zOff pRa a a' ∧ zOff pRb b b' ∧ (FF a' b' ∨ (RR c True T n (e + 1) nm nI nO nL nG a' b' ∧ US nm 150 b' ∧ a'.1 22 16 = g ∧ a'.1 10 4 = e)) := by
  have m2 := LC_m h
  have n4 := h.n4
  have he := LC_e h
  have hw := LC_w h (i := 0) (by omega)
  have bw := h.bw 0 (by omega)
  have nGb : nG ≤ 150 := by
    have := R.cnt
    have := cnb_le (fun i => decide (b.1 101 i ≠ 0)) nm
    have := R.nb
    omega
  obtain ⟨K, v, v1, v2, v3, v4, v5, v6, v7, v8, v9, v10, v11, v12, v13, v14⟩ := R.gat g (by omega) trivial
  have eM : q_Model_coverLine E (kL c) b = if (K : Int) = 0 then q_Model_coverLine_j23 E (kL c) (g : Int) (K : Int) 0 b else q_Model_coverLine_j23 E (kL c) (g : Int) (K : Int) 1 b := by
    unfold q_Model_coverLine
    rw [R.bg, if_pos (by omega), let_s, show (nG : Int) - 1 = (g : Int) by omega, kL_110, if_pos (by omega), let_s, gtN, v5]
  have eC : q_Reader_readCover E (kL c) a = if (K : Int) ≤ 0 then q_Reader_readCover_j58 E (kL c) a else gB1 (q_Text_isSigns E (kL c) (K : Int) a) fun v22 => if v22 = 0 then q_Reader_readCover_j45 E (kL c) a else q_Reader_readCover_j58 E (kL c) a := by
    unfold q_Reader_readCover
    rw [h16, if_neg (by omega), kL_15, if_pos (by omega), gtN, v4]
  rw [eC, eM]
  by_cases k0 : K = 0
  · subst k0
    obtain ⟨a', b', q1, q2, q3⟩ := s_covR (E := E) (K := 0) (last := 0) hS h R U (by omega) hg nGb h16 v4 h5 h6 h4 (by omega) (fun i hi => by omega)
    refine ⟨a', b', ?_, ?_, q3⟩
    · rw [if_pos (by omega)]
      unfold q_Reader_readCover_j58
      rw [h16, kL_15, if_pos (by omega), gtN, v4, if_pos (by omega)]
      rw [show mskT T (W 0) 49 0 = 0 from rfl, show mskT T (W 0) 48 0 = 0 from rfl, show (0 ||| 0 : Nat) = 0 from rfl] at q1
      exact q1
    · rw [if_pos (by omega)]
      unfold q_Model_coverLine_j23
      rw [if_pos (by omega)]
      exact q2
  · rw [if_neg (by omega), if_neg (by omega), s_signs (T := T) n4 h5 h6 (by omega) (by omega) h.ta, b1_s, show W 0 + S 0 - W 0 = S 0 by omega]
    have eM2 : q_Model_coverLine_j23 E (kL c) (g : Int) (K : Int) 1 b = q_Model_coverLine_j43 E (kL c) (g : Int) (K : Int) 1 (dI (S 0 = K)) b := by
      unfold q_Model_coverLine_j23
      rw [if_neg (by omega), kL_98, if_pos (by omega), bw.2]
      by_cases y : S 0 = K
      · rw [if_pos (by omega), dI_t y]
      · rw [if_neg (by omega), dI_f y]
    have eM3 : q_Model_coverLine_j43 E (kL c) (g : Int) (K : Int) 1 (dI (S 0 = K)) b = if dI (S 0 = K ∧ ∀ j, j < K → sgn T (W 0 + j)) = 0 then (if 0 ≤ (0 : Int) ∧ (0 : Int) < ((kL c 97 : Nat) : Int) then gB1 (q_Model_fail E (kL c) 1 (b.1 97 0) b) fun s36 => q_Model_coverLine_j150 E (kL c) (g : Int) (K : Int) 1 s36 else none) else if b.1 94 19 = 1 then (gB1 (q_Model_fail E (kL c) 1 (b.1 94 20) b) fun s38 => q_Model_coverLine_j150 E (kL c) (g : Int) (K : Int) 1 s38) else q_Model_coverLine_j150 E (kL c) (g : Int) (K : Int) 1 b := by
      unfold q_Model_coverLine_j43
      rw [s_sigM (T := T) (K := K) n4 bw.1 bw.2 (by omega) h.tb rfl, b1_s]
    rw [eM2, eM3]
    by_cases sg : S 0 = K ∧ ∀ j, j < K → sgn T (W 0 + j)
    · rw [dI_t sg, if_neg (by decide), if_neg (by decide), h.bm]
      unfold q_Reader_readCover_j58
      have t8 : W 0 + S 0 - W 0 = K := by omega
      rw [h16, kL_15, if_pos (by omega), gtN, v4, if_neg (by omega), s_mask (T := T) n4 h5 h6 (by omega) (by omega) (by omega) h.ta, b1_s, s_mask (T := T) n4 h5 h6 (by omega) (by omega) (by omega) h.ta, b1_s, let_s, t8]
      have b1 := msk_b T (W 0) 49 K
      have b2 := msk_b T (W 0) 48 K
      have p8 : 2 ^ K ≤ 2 ^ 8 := Nat.pow_le_pow_right (by omega) v1
      have p9 : (2 : Nat) ^ 8 = 256 := by decide
      rw [zOr_n _ _ (by omega) (by omega)]
      by_cases m1 : m = 1
      · subst m1
        obtain ⟨⟨r, s⟩, hr, r1, ro, r5, r6, r4⟩ := s_nw0 (E := E) (c := c) h h4
        have ro : zOff p46 a s := ro
        have r5 : s.1 10 5 = e := r5
        have r6 : s.1 10 6 = e := r6
        have os : zOff pRa a s := off_w ro fun k j x => by unfold p46 at x; unfold pRa; omega
        have h1 := LC_o h os off_r
        rw [hr, b2_p, if_pos (by omega), h.be, s_fail R.fb, b1_s]
        refine ⟨zPut (zPut s 22 14 1) 22 15 (e : Int), zPut (zPut b 94 17 1) 94 18 (e : Int), ?_, ?_, off_t os pRa_f, pRb_f, Or.inl (FF_put (k := 1) (f := e) (by omega))⟩
        · unfold q_Reader_readCover_j107
          rcases s_digit (E := E) (c := c) (z := s) (T := T) n4 r5 r6 (Nat.le_refl _) he h1.ta with ⟨x, -⟩ | ⟨-, x, -⟩ | ⟨-, -, x⟩
          · exact absurd x.1 (by rw [Nat.sub_self]; decide)
          · exact absurd x.1 (by rw [Nat.sub_self]; decide)
          · rw [x, b1_s, if_pos rfl, s_refuse, b1_s, r5]
        · unfold q_Model_coverLine_j150
          have fk : (zPut (zPut b 94 17 1) 94 18 (e : Int)).1 94 17 = 1 := rfl
          rw [fk, if_neg (by omega)]
      · obtain ⟨⟨r, s⟩, hr, r1, ro, r5, r6, r4⟩ := s_nw1 (E := E) (c := c) h (i := 1) (by omega) h4
        have ro : zOff p46 a s := ro
        have r5 : s.1 10 5 = W 1 := r5
        have r6 : s.1 10 6 = ((W 1 + S 1 : Nat) : Int) := r6
        have r4 : s.1 10 4 = ((psn p W S (1 + 1) : Nat) : Int) := r4
        have os : zOff pRa a s := off_w ro fun k j x => by unfold p46 at x; unfold pRa; omega
        have h1 := LC_o h os off_r
        have R1 : RR c True T n p nm nI nO nL nG s b := RR_c R (Nat.le_refl _) (fun k j hk => ro.2 k j (by unfold rA at hk; unfold p46; omega)) (fun _ _ _ => rfl)
        obtain ⟨a', b', q1, q2, q3, q4, q5⟩ := s_covR (E := E) (K := K) (last := 1) hS h1 R1 U (by omega) hg nGb (by rw [ro.2 22 16 (by unfold p46; omega)]; exact h16) (by rw [ro.2 15 g (by unfold p46; omega)]; exact v4) r5 r6 r4 (by omega) sg.2
        rw [hr, b2_p, if_neg (by omega)]
        exact ⟨a', b', q1, q2, off_t os q3, q4, q5⟩
    · rw [dI_f sg, if_pos rfl, if_pos rfl, kL_97, if_pos (by omega), bw.1, s_fail R.fb, b1_s]
      unfold q_Reader_readCover_j45 q_Model_coverLine_j150
      have fk : (zPut (zPut b 94 17 1) 94 18 (W 0 : Int)).1 94 17 = 1 := rfl
      rw [s_refuse, b1_s, h5, fk, if_neg (by omega)]
      exact ⟨_, _, rfl, rfl, pRa_f, pRb_f, Or.inl (FF_put (k := 1) (f := W 0) (by omega))⟩
end
end
