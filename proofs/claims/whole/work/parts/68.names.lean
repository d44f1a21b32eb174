set_option linter.unusedVariables false
-- J5
section
variable {E : gEv} {c : gCf}
theorem zp_n {z : gZ} {k j k' j' : Nat} {v : Int} (h : ¬ (k' = k ∧ j' = j)) : (zPut z k j v).1 k' j' = z.1 k' j' := (off_put (P := fun a b => a = k ∧ b = j) ⟨rfl, rfl⟩).2 k' j' h
/-- the class keeps a gate -/
theorem s_gadd {z : gZ} {nG K f : Nat} (h13 : z.1 13 8 = nG) (hG : nG < 150) (hK : K ≤ 8) : q_Gates_add E (kL c) (f : Int) 28 (K : Int) z = some ((nG : Int), zPut (zPut (zRow (zPut (zPut z 14 nG (f : Int)) 15 nG (K : Int)) 16 (zCpy (z.1 28) (z.1 16) 0 (8 * nG) K)) 17 nG (z.1 28 K)) 13 8 ((nG : Int) + 1)) := by
  unfold q_Gates_add
  have e8 : (nG : Int) * 8 = ((8 * nG : Nat) : Int) := by omega
  rw [h13, let_s, kL_14, if_pos (by omega), let_s, kL_15, if_pos (by omega), let_s, e8, if_pos (by omega), gtN, gtN, gtN, kL_28, kL_16, if_pos (by omega), let_s, if_pos (by omega), kL_17, if_pos (by omega), let_s]
  have e1 : (zPut (zRow (zPut (zPut z 14 nG (f : Int)) 15 nG (K : Int)) 16 (zCpy ((zPut (zPut z 14 nG (f : Int)) 15 nG (K : Int)).1 28) ((zPut (zPut z 14 nG (f : Int)) 15 nG (K : Int)).1 16) 0 (8 * nG) K)) 17 nG ((zRow (zPut (zPut z 14 nG (f : Int)) 15 nG (K : Int)) 16 (zCpy ((zPut (zPut z 14 nG (f : Int)) 15 nG (K : Int)).1 28) ((zPut (zPut z 14 nG (f : Int)) 15 nG (K : Int)).1 16) 0 (8 * nG) K)).1 28 K)).1 13 8 = nG := h13
  rw [e1, if_pos (by omega), let_s]
  rfl
def pFn (nG k j : Nat) : Prop := ((k = 109 ∨ k = 110 ∨ k = 112 ∨ k = 113) ∧ j = nG) ∨ (k = 114 ∧ 256 * nG ≤ j ∧ j < 256 * nG + 256) ∨ (k = 94 ∧ j = 32)
/-- the reference keeps a gate -/
theorem s_f206 {z : gZ} {nG K v w0 : Nat} (h17 : z.1 94 17 = 0) (h0 : z.1 97 0 = w0) (hG : nG < 150) (h32 : z.1 94 32 = nG) : zOk (q_Model_functionLine_j206 E (kL c) (K : Int) (nG : Int) (v : Int) z) (fun s => (s.1 109 nG = w0 ∧ s.1 110 nG = K ∧ s.1 112 nG = v ∧ s.1 113 nG = -1 ∧ (∀ x, x < 256 → s.1 114 (256 * nG + x) = 0) ∧ s.1 94 32 = ((nG + 1 : Nat) : Int)) ∧ zOff (pFn nG) z s) := by
  unfold q_Model_functionLine_j206
  rw [if_pos h17, kL_97, if_pos (by omega), kL_109, if_pos (by omega), ok_l, kL_110, if_pos (by omega), ok_l, kL_112, if_pos (by omega), ok_l, kL_113, if_pos (by omega), ok_l, gtN, h0]
  generalize hz1 : zPut (zPut (zPut (zPut z 109 nG (w0 : Int)) 110 nG (K : Int)) 112 nG (v : Int)) 113 nG (-1) = z1
  have r109 : z1.1 109 nG = w0 := by rw [← hz1]; exact zp_eq z 109 nG _
  have r110 : z1.1 110 nG = K := by rw [← hz1]; exact zp_eq (zPut z 109 nG (w0 : Int)) 110 nG _
  have r112 : z1.1 112 nG = v := by rw [← hz1]; exact zp_eq (zPut (zPut z 109 nG (w0 : Int)) 110 nG (K : Int)) 112 nG _
  have r113 : z1.1 113 nG = -1 := by rw [← hz1]; exact zp_eq _ 113 nG _
  have o1 : zOff (pFn nG) z z1 := by
    rw [← hz1]
    exact off_t (off_put (by unfold pFn; omega)) (off_t (off_put (by unfold pFn; omega)) (off_t (off_put (by unfold pFn; omega)) (off_put (by unfold pFn; omega))))
  have b0 : zBool 0 = 0 := zBool_n 0 (Or.inl rfl)
  refine ok_b1 (fun s => zOff (fun k j => k = 114 ∧ 256 * nG ≤ j ∧ j < 256 * nG + 256) z1 s ∧ ∀ x, x < 256 → s.1 114 (256 * nG + x) = 0) ?_ fun s ⟨s1, s2⟩ => ?_
  · refine it_for (fun (i : Nat) (t : gZ) => ((i : Int), t)) (fun i t => zOff (fun k j => k = 114 ∧ 256 * nG ≤ j ∧ j < 256 * nG + 256) z1 t ∧ ∀ x, x < i → t.1 114 (256 * nG + x) = 0) 0 256 rfl ⟨off_r, fun x hx => by omega⟩ (by omega) (by omega) ?_ ?_
    · rintro i t - hi ⟨t1, t2⟩
      show zOk (q_Model_functionLine_249 E (kL c) (nG : Int) (i : Int) t) _
      unfold q_Model_functionLine_249
      rw [if_neg (by omega), kL_114, show (256 * (nG : Int) + (i : Int)) = ((256 * nG + i : Nat) : Int) by omega, if_pos (by omega), ok_l, ok_l, gtN, b0]
      refine ok_inl (Or.inl ⟨_, rfl, off_t t1 (off_put (by omega)), fun x hx => ?_⟩)
      show (if 256 * nG + x = 256 * nG + i then (0 : Int) else t.1 114 (256 * nG + x)) = 0
      by_cases y : x = i
      · rw [if_pos (by omega)]
      · rw [if_neg (by omega)]; exact t2 x (by omega)
    · rintro t ⟨t1, t2⟩
      show zOk (q_Model_functionLine_249 E (kL c) (nG : Int) ((256 : Nat) : Int) t) _
      unfold q_Model_functionLine_249
      rw [if_pos (by omega)]
      exact ok_inr ⟨t, rfl, t1, t2⟩
  · have s32 : s.1 94 32 = nG := by
      rw [s1.2 94 32 (by omega), ← hz1]; exact h32
    rw [s32, if_pos (by omega), ok_l]
    refine ok_so ⟨⟨?_, ?_, ?_, ?_, fun x hx => ?_, ?_⟩, off_t o1 (off_t (off_w s1 fun k j x => by unfold pFn; omega) (off_put (by unfold pFn; omega)))⟩
    · show s.1 109 nG = _
      rw [s1.2 109 nG (by omega)]; exact r109
    · show s.1 110 nG = _
      rw [s1.2 110 nG (by omega)]; exact r110
    · show s.1 112 nG = _
      rw [s1.2 112 nG (by omega)]; exact r112
    · show s.1 113 nG = _
      rw [s1.2 113 nG (by omega)]; exact r113
    · exact s2 x hx
    · rw [zp_eq]; omega
section
variable {T : Nat → Int} {n p m : Nat} {W S : Nat → Nat} {e q nm nI nO nL nG : Nat} {a b : gZ}
/-- a .names line -/
theorem s_names (h : LC T n p m W S e a b) (R : RR c True T n p nm nI nO nL nG a b) (U : US nm 150 b) (hm : 1 ≤ m) (h4 : a.1 10 4 = (psn p W S 1 : Nat)) (h5 : a.1 10 5 = W 0) : ∃ a' b', q_Reader_readNames E (kL c) a = some a' ∧ q_Model_functionLine E (kL c) b = some b' ∧ zOff pRa a a' ∧ ((zOff pRb b b' ∧ FF a' b') ∨ ∃ nm', zOff pRc b b' ∧ RR c True T n (e + 1) nm' nI nO nL (nG + 1) a' b' ∧ US nm' 150 b' ∧ a'.1 22 16 = nG ∧ a'.1 10 4 = e) := by
  have m2 := LC_m h
  have n4 := h.n4
  have he := LC_e h
  unfold q_Reader_readNames q_Model_functionLine
  rw [h5, let_s, h.bm, if_pos (by omega), let_s]
  have fc : ∀ (x : (Int × gZ) ⊕ ((gZ) ⊕ (Int × Int × gZ))), gSum x (fun e25 => gB1 (q_Reader_refuse E (kL c) 2 e25.1 e25.2) fun s13 => some s13) (fun e26 => gSum e26 (fun e27 => some e27) (fun e28 => q_Reader_readNames_j76 E (kL c) (W 0 : Int) e28.1 e28.2.1 e28.2.2)) = funC E c (W 0 : Int) x := fun x => rfl
  by_cases m1 : m = 1
  · subst m1
    obtain ⟨⟨r, s⟩, hr, r1, ro, r5, r6, r4⟩ := s_nw0 (E := E) (c := c) h h4
    have r1 : r = 0 := r1
    have ro : zOff p46 a s := ro
    have r5 : s.1 10 5 = e := r5
    have st : gIter (fun y => q_Reader_readNames_12 E (kL c) (W 0 : Int) y.1 y.2.1 y.2.2) gN ((W 0 : Int), 0, a) = some (.inr (.inr ((W 0 : Int), 0, s))) := by
      have : gN = (gN - 1) + 1 := by unfold gN; omega
      rw [this]
      refine it_end ?_
      show q_Reader_readNames_12 E (kL c) (W 0 : Int) (W 0 : Int) 0 a = _
      unfold q_Reader_readNames_12
      rw [if_neg (by omega), hr, b2_p, if_pos r1]
    refine ⟨zPut (zPut s 22 14 1) 22 15 (e : Int), zPut (zPut b 94 17 1) 94 18 (e : Int), ?_, ?_, off_t (off_w ro fun k j x => by unfold p46 at x; unfold pRa; omega) pRa_f, Or.inl ⟨pRb_f, FF_put (k := 1) (f := e) (by omega)⟩⟩
    · rw [st, b1_s, gs_r, gs_r]
      unfold q_Reader_readNames_j76
      rw [if_pos rfl, s_refuse, b1_s, r5]
    · rw [if_pos (by omega), h.be, s_fail R.fb, b1_s]
  rw [if_neg (by omega), R.bg, let_s]
  have nGb : nG ≤ 150 := by
    have := R.cnt
    have := cnb_le (fun i => decide (b.1 101 i ≠ 0)) nm
    have := R.nb
    omega
  let K : Nat := if m - 2 ≤ 8 then m - 2 else 8
  have hK : K ≤ 8 ∧ K ≤ m - 2 ∧ (m - 2 ≤ 8 → K = m - 2) ∧ (¬ m - 2 ≤ 8 → K = 8) := by
    show (if m - 2 ≤ 8 then m - 2 else 8) ≤ 8 ∧ (if m - 2 ≤ 8 then m - 2 else 8) ≤ m - 2 ∧ _ ∧ _
    by_cases x : m - 2 ≤ 8
    · rw [if_pos x]; exact ⟨x, Nat.le_refl _, fun _ => if_pos x, fun y => absurd x y⟩
    · rw [if_neg x]; exact ⟨Nat.le_refl _, by omega, fun y => absurd y x, fun _ => if_neg x⟩
  rcases s_fpre (E := E) (x1 := (W 0 : Int)) h R U (by omega) h4 K hK.1 hK.2.1 with ⟨x, d, q1, q2, a', q3, q4, q5, q6⟩ | ⟨s, t, k, ⟨f1, f2, f3, nm1, oa, ob, R1, U1, c4, c16, cw⟩, q1, q2⟩
  · refine ⟨a', d, ?_, ?_, q5, Or.inl ⟨q6, q4⟩⟩
    · rw [q1, b1_s]; exact q3
    · obtain ⟨kk, f, f1, f2, f3, f4, f5, f6⟩ := q4
      rw [q2, b1_s]; exact fun_f (by omega)
  obtain ⟨l, i', a1⟩ := s
  obtain ⟨t1, b1⟩ := t
  have f1 : l = W K := f1
  have f2 : i' = (K : Int) := f2
  have f3 : t1 = (K : Int) + 1 := f3
  have oa : zOff pRa a a1 := oa
  have ob : zOff pRb b b1 := ob
  have R1 : RR c (nG < 150) T n (psn p W S (K + 1)) nm1 nI nO nL nG a1 b1 := R1
  have U1 : US nm1 150 b1 := U1
  have c4 : a1.1 10 4 = (psn p W S (K + 1) : Nat) := c4
  have cw : ∀ j, j < K → ∃ w : Nat, w < nm1 ∧ a1.1 28 j = w ∧ (nG < 150 → b1.1 111 (8 * nG + j) = w) := cw
  subst f2
  subst f3
  -- the reference's loop is over
  have e2 : gIter (fun y => q_Model_functionLine_32 E (kL c) ((m : Int) - 2) (nG : Int) y.1 y.2) gN (1, b) = some b1 := by
    rw [q2]
    refine it_end (n := k + 2) ?_
    show q_Model_functionLine_32 E (kL c) ((m : Int) - 2) (nG : Int) ((K : Int) + 1) b1 = _
    refine fun_e ?_
    by_cases x : m - 2 ≤ 8
    · have := hK.2.2.1 x; omega
    · have := hK.2.2.2 x; omega
  rw [e2, b1_s]
  have h1 := LC_o h oa ob
  have hw1 := LC_w h1 (i := K + 1) (by omega)
  have bw1 := h1.bw (K + 1) (by omega)
  have ep : psn p W S (K + 1 + 1) = W (K + 1) + S (K + 1) := rfl
  have ek : ((K + 1 : Nat) : Int) = (K : Int) + 1 := by omega
  -- the class takes one more word
  rcases s_fw (E := E) (l := l) h (i := K) (by omega) hK.1 oa ob R1 U1 c4 (W 0 : Int) with ⟨kf, k1, a', g1, o1, ff1, ff2, g2⟩ | ⟨v, nm2, a2, b2, v1, v2, g1, g2, R2, U2, ux, oa2, ob2, d4, d16, d28, d111⟩
  · -- it can't be a name
    have e1 : gIter (fun y => q_Reader_readNames_12 E (kL c) (W 0 : Int) y.1 y.2.1 y.2.2) gN ((W 0 : Int), 0, a) = some (.inr (.inl a')) := by
      rw [q1]; exact it_end (n := k + 2) g1
    rw [e1, b1_s, fc]
    refine ⟨a', zPut (zPut b1 94 17 (kf : Int)) 94 18 (W (K + 1) : Int), rfl, ?_, o1, Or.inl ⟨off_t ob pRb_f, kf, W (K + 1), k1.1, by omega, ff1, ff2, rfl, rfl⟩⟩
    unfold q_Model_functionLine_j108
    by_cases x : m - 2 ≤ 8
    · have xK := hK.2.2.1 x
      rw [if_pos (by omega)]
      unfold q_Model_functionLine_j162
      rw [R1.fb, if_pos (by omega), h1.bm, if_pos (by omega), show (m : Int) - 1 = ((K + 1 : Nat) : Int) by omega, g2, b2_p]
      have fk : (zPut (zPut b1 94 17 (kf : Int)) 94 18 (W (K + 1) : Int)).1 94 17 = kf := rfl
      rw [fk, if_neg (by omega)]
      unfold q_Model_functionLine_j206
      rw [fk, if_neg (by omega)]
    · have xK := hK.2.2.2 x
      rw [xK] at bw1 hw1 ff2 k1 ⊢
      have tb := h1.tb (W (8 + 1)) (by omega)
      have j162 : ∀ z : gZ, 0 < z.1 94 17 → q_Model_functionLine_j162 E (kL c) ((m : Int) - 2) (nG : Int) z = some z := fun z hz => by
        unfold q_Model_functionLine_j162
        rw [if_neg (by omega)]
      rw [if_neg (by omega), if_pos R1.fb, kL_97, if_pos (by omega), show (b1.1 97 9) = (W (8 + 1) : Int) from bw1.1, kL_96, if_pos (by omega), gtN, tb]
      by_cases dot : T (W (8 + 1)) = 46
      · have : kf = 1 := k1.2.2.2 dot
        subst this
        rw [if_pos dot, s_fail R1.fb, b1_s]
        unfold q_Model_functionLine_j150
        have fk : (zPut (zPut b1 94 17 1) 94 18 (W (8 + 1) : Int)).1 94 17 = 1 := rfl
        rw [kL_97, if_pos (by omega), s_fail1 (by rw [fk]; omega), b1_s]
        exact j162 _ (by rw [fk]; omega)
      · have : kf = 2 := by
          have : kf ≠ 1 := fun y => dot (k1.2.2.1 y)
          omega
        subst this
        rw [if_neg dot]
        unfold q_Model_functionLine_j150
        have fk : (zPut (zPut b1 94 17 2) 94 18 (W (8 + 1) : Int)).1 94 17 = 2 := rfl
        rw [kL_97, if_pos (by omega), show (b1.1 97 9) = (W (8 + 1) : Int) from bw1.1, s_fail R1.fb, b1_s]
        exact j162 _ (by rw [fk]; omega)
  by_cases x : m - 2 ≤ 8
  · -- all words are read
    have xK := hK.2.2.1 x
    have hmK : m = K + 2 := by omega
    have h2 := LC_o h oa2 ob2
    obtain ⟨⟨r, s⟩, hr, r1, ro, r5, r6, r4⟩ := s_nw0 (E := E) (c := c) h2 (by rw [hmK]; exact d4)
    have r1 : r = 0 := r1
    have ro : zOff p46 a2 s := ro
    have r4 : s.1 10 4 = e := r4
    have e1 : gIter (fun y => q_Reader_readNames_12 E (kL c) (W 0 : Int) y.1 y.2.1 y.2.2) gN ((W 0 : Int), 0, a) = some (.inr (.inr ((W (K + 1) : Int), (K : Int) + 1, s))) := by
      rw [q1, it_step (n := k + 2) g1]
      refine it_end (n := k + 1) ?_
      show q_Reader_readNames_12 E (kL c) (W 0 : Int) (W (K + 1) : Int) ((K : Int) + 1) a2 = _
      unfold q_Reader_readNames_12
      rw [if_neg (by omega), hr, b2_p, if_pos r1]
    rw [e1, b1_s, gs_r, gs_r]
    have os : zOff pRa a s := off_t oa2 (off_w ro fun k j x => by unfold p46 at x; unfold pRa; omega)
    have R3 : RR c (nG < 150) T n (W (K + 1) + 1) nm2 nI nO nL nG s b2 := RR_c R2 (Nat.le_refl _) (fun k j hk => ro.2 k j (by unfold rA at hk; unfold p46; omega)) (fun _ _ _ => rfl)
    have s28 : s.1 28 K = v := by rw [ro.2 28 K (by unfold p46; omega), d28, if_pos rfl]
    have s28' : ∀ j, j < K → s.1 28 j = a1.1 28 j := fun j hj => by rw [ro.2 28 j (by unfold p46; omega), d28, if_neg (by omega)]
    have h3 := LC_o h os ob2
    unfold q_Reader_readNames_j76 q_Model_functionLine_j108
    show ∃ a' b', (if (K : Int) + 1 = 0 then _ else if 0 ≤ (K : Int) + 1 - 1 ∧ (K : Int) + 1 - 1 < ((kL c 28 : Nat) : Int) then if -2147483648 ≤ 1000 + s.1 13 8 ∧ 1000 + s.1 13 8 < 2147483648 then gB2 (q_Reader_make E (kL c) (s.1 28 ((K : Int) + 1 - 1).toNat) (1000 + s.1 13 8) (W (K + 1) : Int) s) _ else none else none) = some a' ∧ _
    rw [if_neg (by omega), show (K : Int) + 1 - 1 = (K : Int) by omega, kL_28, if_pos (by omega), R3.ag, if_pos (by omega), gtN, s28, show (1000 : Int) + (nG : Int) = ((1000 + nG : Nat) : Int) by omega, if_pos (by omega)]
    unfold q_Model_functionLine_j162
    rw [R1.fb, if_pos (by omega), h1.bm, if_pos (by omega), show (m : Int) - 1 = ((K + 1 : Nat) : Int) by omega, g2, b2_p, if_pos R2.fb, h3.bm, show (m : Int) - 1 = ((K + 1 : Nat) : Int) by omega, kL_97, if_pos (by omega), gtN, (h3.bw (K + 1) (by omega)).1]
    rcases (s_mkB (E := E) (f := W (K + 1)) (src := ((1000 + nG : Nat) : Int)) (how := 3) (wh := (nG : Int)) R3 v1).symm with ⟨y1, y2⟩ | ⟨x0, y1, y2⟩
    · refine ⟨zPut (zPut s 22 14 3) 22 15 (W (K + 1) : Int), zPut (zPut b2 94 17 3) 94 18 (W (K + 1) : Int), ?_, ?_, off_t os pRa_f, Or.inl ⟨off_t ob2 pRb_f, FF_put (k := 3) (f := W (K + 1)) (by omega)⟩⟩
      · rw [y1, b2_p, if_pos rfl]
      · have fk : (zPut (zPut b2 94 17 3) 94 18 (W (K + 1) : Int)).1 94 17 = 3 := rfl
        rw [y2, b1_s]
        unfold q_Model_functionLine_j206
        rw [fk, if_neg (by omega)]
    · have lt := RR_lt R3 v1 x0
      have f0 : (1 : Int) ≠ 0 := by decide
      rw [y1, b2_p, if_neg f0, y2, b1_s]
      have a13 : (zPut s 25 v ((1000 + nG : Nat) : Int)).1 13 8 = nG := R3.ag
      rw [a13, if_neg (by omega), s_gadd a13 (by omega) hK.1, b2_p, let_s]
      have b0 : (zPut (zPut b2 101 v 3) 102 v (nG : Int)).1 97 0 = W 0 := (h3.bw 0 (by omega)).1
      obtain ⟨b3, w1, ⟨w109, w110, w112, w113, w114, w32⟩, w2⟩ := s_f206 (E := E) (c := c) (z := zPut (zPut b2 101 v 3) 102 v (nG : Int)) (K := K) (v := v) (w0 := W 0) R2.fb b0 (by omega) R2.bg
      rw [show (m : Int) - 2 = (K : Int) by omega]
      refine ⟨_, b3, rfl, w1, ?_, Or.inr ⟨nm2, ?_, ?_, ?_, ?_, ?_⟩⟩
      · refine off_t os ?_
        refine off_t (off_put (by unfold pRa; omega)) (off_t (off_put (by unfold pRa; omega)) (off_t (off_put (by unfold pRa; omega)) (off_t (off_row fun j => by unfold pRa; omega) (off_t (off_put (by unfold pRa; omega)) (off_t (off_put (by unfold pRa; omega)) (off_put (by unfold pRa; omega)))))))
      · refine off_t (off_w ob2 fun k j y => Or.inl y) (off_t (off_t (off_put (by unfold pRc pRb; omega)) (off_put (by unfold pRc pRb; omega))) (off_w w2 fun k j y => by unfold pFn at y; unfold pRc pRb; omega))
      · refine RR_c (RR_gate (v := v) (K := K) (f := W 0) R3 v1 x0 hK.1 (fun j hj => ?_) (fun k j hk q1 q2 q3 q4 => ?_) ?_ ?_ ?_ (fun j hj => ?_) ?_ ?_ (fun k j hk q1 q2 q3 q4 => ?_) ?_ ?_ w109 w110 w112 w113 w114 w32) (by omega) (fun k j hk => rfl) (fun _ _ _ => rfl)
        · obtain ⟨w, w1', w2', w3'⟩ := cw j hj
          exact ⟨w, by omega, by rw [s28' j hj]; exact w2', by rw [d111]; exact w3' (by omega)⟩
        · by_cases y16 : k = 16
          · subst y16
            show zCpy _ _ 0 (8 * nG) K j = s.1 16 j
            unfold zCpy
            rw [if_neg (by omega)]
            rfl
          · rw [zp_n (by unfold rA at hk; omega), zp_n (by omega), zp_n (by omega), zr_ne _ _ _ _ y16, zp_n (by omega), zp_n (by omega), zp_n (by omega)]
        · rw [zp_n (by omega), zp_n (by omega), zp_n (by omega), zr_ne _ _ _ _ (by decide), zp_n (by omega), zp_n (by omega), zp_eq]
        · rw [zp_n (by omega), zp_n (by omega), zp_n (by omega), zr_ne _ _ _ _ (by decide), zp_n (by omega), zp_eq]
        · rw [zp_n (by omega), zp_n (by omega), zp_n (by omega), zr_ne _ _ _ _ (by decide), zp_eq]
        · show zCpy (s.1 28) _ 0 (8 * nG) K (8 * nG + j) = s.1 28 j
          unfold zCpy
          rw [if_pos (by omega), show 0 + (8 * nG + j - 8 * nG) = j by omega]
        · rw [zp_n (by omega), zp_n (by omega), zp_eq]; exact s28
        · rw [zp_n (by omega), zp_eq]; omega
        · rw [w2.2 k j (by unfold pFn; omega), zp_n (by omega), zp_n (by omega)]
        · rw [w2.2 101 v (by unfold pFn; omega), zp_n (by omega), zp_eq]
        · rw [w2.2 102 v (by unfold pFn; omega), zp_eq]
      · intro j j1 j2 j3
        rw [w2.2 101 j (by unfold pFn; omega)] at j3
        rw [w2.2 103 j (by unfold pFn; omega)]
        have j3 : (if j = v then (3 : Int) else b2.1 101 j) = 0 := j3
        by_cases y : j = v
        · rw [if_pos y] at j3; omega
        · rw [if_neg y] at j3; exact U2 j j1 y j3
      · rw [zp_eq]
      · rw [zp_n (by omega), zp_n (by omega), zp_n (by omega), zr_ne _ _ _ _ (by decide), zp_n (by omega), zp_n (by omega), zp_n (by omega)]; exact r4
  · -- too many words
    have xK := hK.2.2.2 x
    have h2 := LC_o h oa2 ob2
    obtain ⟨⟨r, s⟩, hr, r1, ro, r5, r6, r4⟩ := s_nw1 (E := E) (c := c) h2 (i := K + 2) (by omega) d4
    have r1 : r = 1 := r1
    have ro : zOff p46 a2 s := ro
    have os : zOff pRa a s := off_t oa2 (off_w ro fun k j x => by unfold p46 at x; unfold pRa; omega)
    have e1 : gIter (fun y => q_Reader_readNames_12 E (kL c) (W 0 : Int) y.1 y.2.1 y.2.2) gN ((W 0 : Int), 0, a) = some (.inl ((W (K + 1) : Int), s)) := by
      rw [q1, it_step (n := k + 2) g1]
      refine it_end (n := k + 1) ?_
      show q_Reader_readNames_12 E (kL c) (W 0 : Int) (W (K + 1) : Int) ((K : Int) + 1) a2 = _
      unfold q_Reader_readNames_12
      rw [if_neg (by omega), hr, b2_p, if_neg (by omega), if_neg (by omega)]
    rw [e1, b1_s, gs_l, s_refuse, b1_s]
    refine ⟨_, zPut (zPut b1 94 17 2) 94 18 (W (K + 1) : Int), rfl, ?_, off_t os pRa_f, Or.inl ⟨off_t ob pRb_f, FF_put (k := 2) (f := W (K + 1)) (by omega)⟩⟩
    rw [xK] at bw1 hw1 v2 ⊢
    have tb := h1.tb (W (8 + 1)) (by omega)
    unfold q_Model_functionLine_j108
    rw [if_neg (by omega), if_pos R1.fb, kL_97, if_pos (by omega), show (b1.1 97 9) = (W (8 + 1) : Int) from bw1.1, kL_96, if_pos (by omega), gtN, tb, if_neg v2.2]
    unfold q_Model_functionLine_j150
    have fk : (zPut (zPut b1 94 17 2) 94 18 (W (8 + 1) : Int)).1 94 17 = 2 := rfl
    rw [kL_97, if_pos (by omega), show (b1.1 97 9) = (W (8 + 1) : Int) from bw1.1, s_fail R1.fb, b1_s]
    unfold q_Model_functionLine_j162
    rw [fk, if_neg (by omega)]
end
end
