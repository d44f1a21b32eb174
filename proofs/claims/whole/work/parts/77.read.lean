set_option linter.unusedVariables false
-- JE
section
variable {E : gEv} {c : gCf}
def pAr (k j : Nat) : Prop := (k = 10 ∧ 4 ≤ j ∧ j ≤ 6) ∨ (k = 22 ∧ 10 ≤ j ∧ j ≤ 17) ∨ (k = 13 ∧ j = 8) ∨ (14 ≤ k ∧ k ≤ 21) ∨ (23 ≤ k ∧ k ≤ 29)
def pBr (k j : Nat) : Prop := (k = 94 ∧ (j = 17 ∨ j = 18 ∨ j = 19 ∨ j = 20 ∨ j = 23 ∨ (29 ≤ j ∧ j ≤ 32))) ∨ (97 ≤ k ∧ k ≤ 116)
/-- the class's reader begins -/
theorem s_rclear {a : gZ} : zOk (q_Reader_clear E (kL c) a) (fun s => zOff pAr a s ∧ (s.1 10 4 = a.1 10 4 ∧ s.1 22 10 = 0 ∧ s.1 22 11 = 0 ∧ s.1 22 12 = 0 ∧ s.1 22 13 = 0 ∧ s.1 22 14 = 0 ∧ s.1 22 15 = -1 ∧ s.1 22 16 = -1 ∧ s.1 22 17 = 0 ∧ s.1 13 8 = 0) ∧ ∀ i, i < 150 → s.1 25 i = -1 ∧ s.1 20 i = -1 ∧ s.1 18 i = -1 ∧ ∀ x, x < 8 → s.1 19 (8 * i + x) = 0) := by
  unfold q_Reader_clear q_Gates_clear
  have f18 := fun z => s_fillI (E := E) (L := kL c) 18 (-1) z (by rw [kL_18]; omega)
  have f19 := fun z => s_fillI (E := E) (L := kL c) 19 0 z (by rw [kL_19]; omega)
  have f20 := fun z => s_fillI (E := E) (L := kL c) 20 (-1) z (by rw [kL_20]; omega)
  have f25 := fun z => s_fillI (E := E) (L := kL c) 25 (-1) z (by rw [kL_25]; omega)
  rw [let_s, f18, b1_s, f19, b1_s, f20, b1_s, b1_s, let_s, let_s, let_s, let_s, let_s, let_s, let_s, let_s, f25, b1_s, kL_18, kL_19, kL_20, kL_25]
  refine ok_so ⟨?_, ⟨rfl, rfl, rfl, rfl, rfl, rfl, rfl, rfl, rfl, rfl⟩, fun i hi => ⟨?_, ?_, ?_, fun x hx => ?_⟩⟩
  · refine off_t (off_put (by unfold pAr; omega)) (off_t (off_fill fun j => by unfold pAr; omega) (off_t (off_fill fun j => by unfold pAr; omega) (off_t (off_fill fun j => by unfold pAr; omega) (off_t (off_put (by unfold pAr; omega)) (off_t (off_put (by unfold pAr; omega)) (off_t (off_put (by unfold pAr; omega)) (off_t (off_put (by unfold pAr; omega)) (off_t (off_put (by unfold pAr; omega)) (off_t (off_put (by unfold pAr; omega)) (off_t (off_put (by unfold pAr; omega)) (off_t (off_put (by unfold pAr; omega)) (off_fill fun j => by unfold pAr; omega))))))))))))
  · rw [zf1, if_pos rfl, if_pos hi]
  · rw [zf1, if_neg (by decide), zp_n (by omega), zp_n (by omega), zp_n (by omega), zp_n (by omega), zp_n (by omega), zp_n (by omega), zp_n (by omega), zp_n (by omega), zf1, if_pos rfl, if_pos hi]
  · rw [zf1, if_neg (by decide), zp_n (by omega), zp_n (by omega), zp_n (by omega), zp_n (by omega), zp_n (by omega), zp_n (by omega), zp_n (by omega), zp_n (by omega), zf1, if_neg (by decide), zf1, if_neg (by decide), zf1, if_pos rfl, if_pos hi]
  · rw [zf1, if_neg (by decide), zp_n (by omega), zp_n (by omega), zp_n (by omega), zp_n (by omega), zp_n (by omega), zp_n (by omega), zp_n (by omega), zp_n (by omega), zf1, if_neg (by decide), zf1, if_pos rfl, if_pos (by omega)]
/-- both read a text -/
theorem s_read {T : Nat → Int} {n : Nat} {a b : gZ} (hS : SE E) (hk : kOk c) (n4 : n ≤ 4000) (h4 : a.1 10 4 = 0) (h3 : a.1 10 3 = n) (ta : ∀ j, j < n → a.1 11 j = T j) (tb : ∀ j, j < n → b.1 96 j = T j) (b16 : b.1 94 16 = n) (b17 : b.1 94 17 = 0) (b18 : b.1 94 18 = -1) (a2 : a.1 22 2 = kD c) (b6 : b.1 94 6 = kD c) : ∃ (a' b' : gZ), q_Reader_read E (kL c) a = some (a'.1 22 14, a') ∧ (∀ {β : Type} (K : gZ → Option β), (gB1 (q_Model_read E (kL c) b) fun s4 => if s4.1 94 17 = 0 then (gB1 (q_Model_check E (kL c) s4) fun s6 => K s6) else K s4) = K b') ∧ zOff pAr a a' ∧ zOff pBr b b' ∧ (FZ a' b' ∨ ∃ nm nI nO nL nG : Nat, RN c nm nI nO nL nG a' b' ∧ NBr nG nG a' b') := by
  obtain ⟨a1, p1, o1, ⟨c4, c10, c11, c12, c13, c14, c15, c16, c17, c8⟩, cf⟩ := s_rclear (E := E) (c := c) (a := a)
  generalize hb1 : zPut (zPut (zPut (zPut (zPut b 94 23 0) 94 29 0) 94 30 0) 94 31 0) 94 32 0 = b1
  have ob1 : zOff pBr b b1 := by
    rw [← hb1]
    exact off_t (off_put (by unfold pBr; omega)) (off_t (off_put (by unfold pBr; omega)) (off_t (off_put (by unfold pBr; omega)) (off_t (off_put (by unfold pBr; omega)) (off_put (by unfold pBr; omega)))))
  have d23 : b1.1 94 23 = 0 := by rw [← hb1]; rfl
  have d29 : b1.1 94 29 = 0 := by rw [← hb1]; rfl
  have d30 : b1.1 94 30 = 0 := by rw [← hb1]; rfl
  have d31 : b1.1 94 31 = 0 := by rw [← hb1]; rfl
  have d32 : b1.1 94 32 = 0 := by rw [← hb1]; rfl
  have d17 : b1.1 94 17 = 0 := by rw [← hb1]; exact b17
  have d18 : b1.1 94 18 = -1 := by rw [← hb1]; exact b18
  have d16 : b1.1 94 16 = n := by rw [← hb1]; exact b16
  have d6 : b1.1 94 6 = kD c := by rw [← hb1]; exact b6
  have R0 : RR c True T n 0 0 0 0 0 0 a1 b1 := ⟨c10, d23, by omega, fun i hi => by omega, fun i j _ hj => by omega, fun i hi => by omega, fun i _ hi => (cf i hi).1, rfl, c11, d29, c12, d30, by omega, c13, d31, c8, d32, fun i hi => by omega, fun i hi => by omega, fun g hg => by omega, fun g _ hg => ⟨(cf g hg).2.2.1, (cf g hg).2.2.2⟩, c14, d17, c15, d18⟩
  obtain ⟨e, d, p2, p3, a3, ea, oa3, od, fin⟩ := s_lines (E := E) hS hk n4 R0 (by rw [c4]; exact h4) (by rw [o1.2 10 3 (by unfold pAr; omega)]; exact h3) (fun j hj => by rw [o1.2 11 j (by unfold pAr; omega)]; exact ta j hj) (fun j hj => by rw [ob1.2 96 j (by unfold pBr; omega)]; exact tb j hj) d16 c16 c17 (by rw [o1.2 22 2 (by unfold pAr; omega)]; exact a2) d6
  have oa3' : zOff pAr a a3 := off_t o1 (off_w oa3 fun k j x => by unfold pLa pRa at x; unfold pAr; omega)
  have od' : zOff pBr b d := off_t ob1 (off_w od fun k j x => by unfold pLb pRc pRb pLn at x; unfold pBr; omega)
  have eC : q_Reader_read E (kL c) a = q_Reader_read_j50 E (kL c) a3 := by
    unfold q_Reader_read
    rw [p1, b1_s, p2, b1_s]
    rcases ea with x | x <;> rw [x] <;> rfl
  have eM : q_Model_read E (kL c) b = q_Model_read_j250 E (kL c) d := by
    unfold q_Model_read
    rw [let_s, let_s, let_s, let_s, let_s, hb1, p3, b1_s]
  rw [eC, eM]
  rcases fin with ⟨ff, x, x1, x2⟩ | ⟨nm, nI, nO, nL, nG, R, U⟩
  · obtain ⟨b4, p4, o4, -⟩ := s_inv (E := E) (c := c) (z := d) x1 x2
    obtain ⟨k, f, f1, f2, f3, f4, f5, f6⟩ := ff
    have g17 : b4.1 94 17 = k := by rw [o4.2 94 17 (by omega)]; exact f5
    refine ⟨a3, b4, ?_, fun {β} K => ?_, oa3', off_t od' (off_w o4 fun k j y => by unfold pBr; omega), Or.inl ⟨k, f, by omega, f3, f4, g17, by rw [o4.2 94 18 (by omega)]; exact f6⟩⟩
    · unfold q_Reader_read_j50 q_Reader_read_j61
      rw [if_neg (by omega), if_neg (by omega)]
    · rw [p4, b1_s, if_neg (by omega)]
  · have g150 := RR_150 R
    obtain ⟨b4, p4, o4, v4⟩ := s_inv (E := E) (c := c) (z := d) g150 R.bg
    have g17 : b4.1 94 17 = 0 := by rw [o4.2 94 17 (by omega)]; exact R.fb
    have o4' : zOff pBr d b4 := off_w o4 fun k j y => by unfold pBr; omega
    -- the reference's first loop does not see the tables
    have m4 : gIter (fun y => q_Model_check_4 E (kL c) y.1 y.2 b4) gN ((-1), 0) = gIter (fun y => q_Model_check_4 E (kL c) y.1 y.2 d) gN ((-1), 0) := by
      have : (fun y : Int × Int => q_Model_check_4 E (kL c) y.1 y.2 b4) = fun y => q_Model_check_4 E (kL c) y.1 y.2 d := by
        funext y
        have e23 : b4.1 94 23 = d.1 94 23 := o4.2 94 23 (by omega)
        have e101 : b4.1 101 = d.1 101 := funext fun j => o4.2 101 j (by omega)
        have e103 : b4.1 103 = d.1 103 := funext fun j => o4.2 103 j (by omega)
        unfold q_Model_check_4 q_Model_check_j35_4 q_Model_check_j36_4 q_Model_check_j56_4
        rw [e23, e101, e103]
      rw [this]
    have e61 : ∀ {β : Type} (K : gZ → Option β), (gB1 (q_Model_read_j250 E (kL c) d) fun s4 => if s4.1 94 17 = 0 then (gB1 (q_Model_check E (kL c) s4) fun s6 => K s6) else K s4) = gB1 (q_Model_check E (kL c) b4) fun s6 => K s6 := fun K => by
      rw [p4, b1_s, if_pos g17]
    rcases s_makers (E := E) R with ⟨i, i1, i2, i3, i4⟩ | ⟨j1, j2⟩
    · rcases s_makersM (E := E) R U with ⟨i', i1', i2', i3', i4', i5'⟩ | ⟨j1', -⟩
      · have : i' = i := by
          rcases Nat.lt_trichotomy i i' with y | y | y
          · exact absurd i2 (i3' i y)
          · exact y.symm
          · exact absurd i2' (i3 i' y)
        subst this
        refine ⟨zPut (zPut a3 22 14 4) 22 15 (a3.1 23 i'), zPut (zPut b4 94 17 4) 94 18 (a3.1 23 i'), ?_, fun {β} K => ?_, off_t oa3' (off_t (off_put (by unfold pAr; omega)) (off_put (by unfold pAr; omega))), off_t od' (off_t o4' (off_t (off_put (by unfold pBr; omega)) (off_put (by unfold pBr; omega)))), Or.inl ⟨4, a3.1 23 i', by decide, rfl, rfl, rfl, rfl⟩⟩
        · unfold q_Reader_read_j50 q_Reader_read_j61
          rw [if_pos R.fa, i4, b1_s]
          have f4 : (zPut (zPut a3 22 14 4) 22 15 (a3.1 23 i')).1 22 14 = 4 := rfl
          rw [f4, if_neg (by decide)]
        · rw [e61]
          unfold q_Model_check
          rw [m4, i4', b1_s, if_neg i5', s_fail g17, b1_s, b1_s]
      · exact absurd i2 (j1' i i1)
    · rcases s_makersM (E := E) R U with ⟨i', i1', i2', -⟩ | ⟨-, j2'⟩
      · exact absurd i2' (j1 i' i1')
      · have RN0 := RN_of R j1 o4 v4
        obtain ⟨a5, b5, p5, p6, o5, o6, fin5⟩ := s_loops (E := E) hk RN0 (fun g hg => by rw [oa3.2 20 g (by unfold pLa pRa; omega)]; exact (cf g hg).2.1)
        refine ⟨a5, b5, ?_, fun {β} K => ?_, off_t oa3' (off_w o5 fun k j y => by unfold pOa at y; unfold pAr; omega), off_t od' (off_t o4' (off_w o6 fun k j y => by unfold pOb at y; unfold pBr; omega)), fin5.imp id fun y => ⟨nm, nI, nO, nL, nG, y⟩⟩
        · unfold q_Reader_read_j50 q_Reader_read_j61
          rw [if_pos R.fa, j2, b1_s, if_pos R.fa, p5, b1_s]
        · rw [e61]
          unfold q_Model_check
          rw [m4, j2', b1_s, if_pos rfl, p6, b1_s]
end
