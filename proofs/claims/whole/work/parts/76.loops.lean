set_option linter.unusedVariables false
-- JD
section
variable {E : gEv} {c : gCf}
section
variable {nm nI nO nL nG : Nat} {a b : gZ}
theorem NBr_step {N g : Nat} (hk : kOk c) (R : RN c nm nI nO nL nG a b) (hN : NBr nG N a b) (hg : g < nG) (hx : nxt a b g) : NBr nG (N + 1) (zPut (zPut a 20 g (N : Int)) 21 N (g : Int)) (zPut (zPut b 116 g 1) 115 N (g : Int)) := by
  obtain ⟨n1, n2, n3, n4⟩ := hN
  have a20 : ∀ j, (zPut (zPut a 20 g (N : Int)) 21 N (g : Int)).1 20 j = if j = g then (N : Int) else a.1 20 j := fun j => rfl
  have a21 : ∀ j, (zPut (zPut a 20 g (N : Int)) 21 N (g : Int)).1 21 j = if j = N then (g : Int) else a.1 21 j := fun j => rfl
  have b116 : ∀ j, (zPut (zPut b 116 g 1) 115 N (g : Int)).1 116 j = if j = g then 1 else b.1 116 j := fun j => rfl
  have b115 : ∀ j, (zPut (zPut b 116 g 1) 115 N (g : Int)).1 115 j = if j = N then (g : Int) else b.1 115 j := fun j => rfl
  have b110 : ∀ j, (zPut (zPut b 116 g 1) 115 N (g : Int)).1 110 j = b.1 110 j := fun j => rfl
  have b111 : ∀ j, (zPut (zPut b 116 g 1) 115 N (g : Int)).1 111 j = b.1 111 j := fun j => rfl
  have b101 : ∀ j, (zPut (zPut b 116 g 1) 115 N (g : Int)).1 101 j = b.1 101 j := fun j => rfl
  have b102 : ∀ j, (zPut (zPut b 116 g 1) 115 N (g : Int)).1 102 j = b.1 102 j := fun j => rfl
  generalize zPut (zPut a 20 g (N : Int)) 21 N (g : Int) = a' at *
  generalize zPut (zPut b 116 g 1) 115 N (g : Int) = b' at *
  have h0 := hx.1
  refine ⟨fun h hh => ?_, fun k hk' => ?_, fun k k' h1 h2 => ?_, ?_⟩
  · by_cases y : h = g
    · exact Or.inr ⟨by rw [a20, if_pos y]; omega, by rw [b116, if_pos y], N, by omega, by rw [b115, if_pos rfl, y]⟩
    · rw [a20, b116, if_neg y, if_neg y]
      rcases n1 h hh with u | ⟨u1, u2, k, u3, u4⟩
      · exact Or.inl u
      · exact Or.inr ⟨u1, u2, k, by omega, by rw [b115, if_neg (by omega)]; exact u4⟩
  · by_cases y : k = N
    · refine ⟨g, hg, by rw [a21, if_pos y], by rw [b115, if_pos y], by rw [b116, if_pos rfl], fun i w hi hw h3 => ?_⟩
      rw [b110] at hi
      rw [b111] at hw
      rw [b101] at h3
      rw [b102]
      obtain ⟨m, v, v1, v2, v3, v4, v5, v6, v7, v8, v9, v12⟩ := R.gat g hg
      have him : i < m := by omega
      obtain ⟨w', w1, w2, w3⟩ := v12 i him
      have ew : w' = w := by omega
      subst ew
      have r1 := hx.2 m v4 i him w' w3 h3
      rcases RR_md hk R w1 with ⟨-, -, x⟩ | ⟨d, d1, d2, d3, d4⟩
      · exact absurd h3 x
      · rw [d4, gtN] at r1
        rcases n1 d d1 with ⟨-, u⟩ | ⟨-, -, k', u1, u2⟩
        · omega
        · exact ⟨k', by omega, by rw [b115, if_neg (by omega), d4]; exact u2⟩
    · obtain ⟨h, h1, h2, h3, h4, h5⟩ := n2 k (by omega)
      have hng : h ≠ g := fun e => by rw [e] at h4; omega
      refine ⟨h, h1, by rw [a21, if_neg y]; exact h2, by rw [b115, if_neg y]; exact h3, by rw [b116, if_neg hng]; exact h4, fun i w hi hw h3' => ?_⟩
      rw [b110] at hi
      rw [b111] at hw
      rw [b101] at h3'
      rw [b102]
      obtain ⟨k', u1, u2⟩ := h5 i w hi hw h3'
      exact ⟨k', u1, by rw [b115, if_neg (by omega)]; exact u2⟩
  · rw [b115, b115]
    by_cases y : k = N
    · rw [if_pos y, if_neg (by omega)]
      intro e
      obtain ⟨h, h1', h2', h3', h4', -⟩ := n2 k' (by omega)
      have : h = g := by omega
      rw [this] at h4'; omega
    · rw [if_neg y, if_neg (by omega)]
      exact n3 k k' h1 (by omega)
  · rw [← n4]
    refine cnb_add hg (decide_eq_false (by omega)) (decide_eq_true (by rw [b116, if_pos rfl])) fun i hi => ?_
    show decide (b'.1 116 i = 1) = decide (b.1 116 i = 1)
    rw [b116, if_neg hi]
def pOa (k j : Nat) : Prop := k = 20 ∨ k = 21
def pOb (k j : Nat) : Prop := k = 115 ∨ k = 116
theorem RN_o {a' b' : gZ} (R : RN c nm nI nO nL nG a b) (oa : zOff pOa a a') (ob : zOff pOb b b') : RN c nm nI nO nL nG a' b' := RN_c R (fun k j hk => oa.2 k j (by unfold nA at hk; unfold pOa; omega)) (fun k j hk => ob.2 k j (by unfold nB at hk; unfold pOb; omega))
/-- both give numbers -/
theorem s_numbers (hk : kOk c) (R : RN c nm nI nO nL nG a b) (hN : NBr nG 0 a b) : ∃ e d, gIter (fun y => q_Gates_giveNumbers_2 E (kL c) 25 y.1 y.2) gN (0, a) = some e ∧ gIter (fun y => q_Model_check_112 E (kL c) y.1 y.2.1 y.2.2) gN (0, 1, b) = some d ∧ ∃ (a' : gZ) (N : Nat), (e = .inl a' ∨ e = .inr a') ∧ NBr nG N a' d ∧ zOff pOa a a' ∧ zOff pOb b d ∧ ∀ g, g < nG → ¬ nxt a' d g := by
  have g150 := RN_150 R
  refine it_two (f := fun y => q_Gates_giveNumbers_2 E (kL c) 25 y.1 y.2) (g := fun y => q_Model_check_112 E (kL c) y.1 y.2.1 y.2.2) (s := (0, a)) (t := (0, 1, b)) (fun i s t => ∃ a1 b1, s = ((i : Int), a1) ∧ t = ((i : Int), 1, b1) ∧ NBr nG i a1 b1 ∧ zOff pOa a a1 ∧ zOff pOb b b1 ∧ i ≤ nG) nG (Q := fun (e : gZ ⊕ gZ) (d : gZ) => ∃ (a' : gZ) (N : Nat), (e = .inl a' ∨ e = .inr a') ∧ NBr nG N a' d ∧ zOff pOa a a' ∧ zOff pOb b d ∧ ∀ g, g < nG → ¬ nxt a' d g) (by omega) ?_ ⟨a, b, rfl, rfl, hN, off_r, off_r, by omega⟩
  rintro i s t hi ⟨a1, b1, rfl, rfl, hN1, oa, ob, iG⟩
  have R1 := RN_o R oa ob
  show (∃ s' t', q_Gates_giveNumbers_2 E (kL c) 25 (i : Int) a1 = some (.inl s') ∧ q_Model_check_112 E (kL c) (i : Int) 1 b1 = some (.inl t') ∧ _) ∨ (∃ e d, q_Gates_giveNumbers_2 E (kL c) 25 (i : Int) a1 = some (.inr e) ∧ q_Model_check_112 E (kL c) (i : Int) 1 b1 = some (.inr d) ∧ _) ∨ ∃ e t' d, q_Gates_giveNumbers_2 E (kL c) 25 (i : Int) a1 = some (.inr e) ∧ q_Model_check_112 E (kL c) (i : Int) 1 b1 = some (.inl t') ∧ q_Model_check_112 E (kL c) t'.1 t'.2.1 t'.2.2 = some (.inr d) ∧ _
  have e0 : ∀ (l2 : Int) (z : gZ), q_Model_check_112 E (kL c) l2 0 z = some (.inr z) := fun l2 z => by
    unfold q_Model_check_112
    rw [if_pos rfl]
  have eM : q_Model_check_112 E (kL c) (i : Int) 1 b1 = gB1 (gIter (fun y => q_Model_check_121 E (kL c) y.1 y.2.1 y.2.2.1 y.2.2.2) gN ((i : Int), 0, 0, b1)) fun e22 => some (.inl (e22.1, e22.2.1, e22.2.2)) := by
    unfold q_Model_check_112
    rw [if_neg (by decide)]
  rw [eM]
  unfold q_Gates_giveNumbers_2
  rw [R1.ag]
  rcases s_next (E := E) hk R1 hN1 (by omega) with ⟨x1, x2, x3⟩ | ⟨g, x0, x1, x2, x3, x4⟩
  · rw [x2, x3, b1_s, b1_s, if_pos rfl]
    by_cases y : nG ≤ i
    · rw [if_pos (by omega)]
      exact Or.inr (Or.inr ⟨_, _, b1, rfl, rfl, e0 _ _, a1, i, Or.inr rfl, hN1, oa, ob, x1⟩)
    · rw [if_neg (by omega)]
      exact Or.inr (Or.inr ⟨_, _, b1, rfl, rfl, e0 _ _, a1, i, Or.inl rfl, hN1, oa, ob, x1⟩)
  · have lt : i < nG := by
      have := cnb_lt (p := fun g => decide (b1.1 116 g = 1)) x0 (decide_eq_false (by have := x2.1; omega))
      have := hN1.2.2.2
      omega
    rw [x3, x4, b1_s, b1_s, if_neg (by omega), if_neg (by omega), kL_20, if_pos (by omega), let_s, kL_21, if_pos (by omega), let_s, let_s, gtN, gtN]
    refine Or.inl ⟨_, _, rfl, rfl, ⟨_, _, ?_, ?_, NBr_step hk R1 hN1 x0 x2, off_t oa (off_t (off_put (Or.inl rfl)) (off_put (Or.inr rfl))), off_t ob (off_t (off_put (Or.inr rfl)) (off_put (Or.inl rfl))), by omega⟩, lt⟩
    · rw [show ((i + 1 : Nat) : Int) = (i : Int) + 1 by omega]
    · rw [show ((i + 1 : Nat) : Int) = (i : Int) + 1 by omega]
/-- what loops are left -/
theorem s_loops (hk : kOk c) (R : RN c nm nI nO nL nG a b) (h20 : ∀ g, g < 150 → a.1 20 g = -1) : ∃ a' b', q_Reader_checkLoops E (kL c) a = some a' ∧ (gB1 (gIter (fun y => q_Model_check_87 E (kL c) y.1 y.2) gN (0, b)) fun e9 => gB1 (gIter (fun y => q_Model_check_112 E (kL c) y.1 y.2.1 y.2.2) gN (0, 1, e9)) fun e26 => gB1 (gIter (fun y => q_Model_check_263 E (kL c) y.1 y.2) gN (0, e26)) fun e32 => some e32) = some b' ∧ zOff (fun k j => pOa k j ∨ (k = 22 ∧ (j = 14 ∨ j = 15))) a a' ∧ zOff (fun k j => pOb k j ∨ (k = 94 ∧ (j = 17 ∨ j = 18))) b b' ∧ (FZ a' b' ∨ (RN c nm nI nO nL nG a' b' ∧ NBr nG nG a' b')) := by
  have g150 := RN_150 R
  have b0 : zBool 0 = 0 := zBool_n 0 (Or.inl rfl)
  -- the reference clears its marks
  obtain ⟨b1, p1, o1, z1⟩ : zOk (gIter (fun y => q_Model_check_87 E (kL c) y.1 y.2) gN (0, b)) (fun s => zOff (fun k _ => k = 116) b s ∧ ∀ g, g < nG → s.1 116 g = 0) := by
    refine it_for (fun (i : Nat) (t : gZ) => ((i : Int), t)) (fun i t => zOff (fun k _ => k = 116) b t ∧ ∀ g, g < i → t.1 116 g = 0) 0 nG rfl ⟨off_r, fun g hg => by omega⟩ (by omega) (by omega) ?_ ?_
    · rintro i t - hi ⟨t1, t2⟩
      show zOk (q_Model_check_87 E (kL c) (i : Int) t) _
      unfold q_Model_check_87
      rw [t1.2 94 32 (by omega), R.bg, if_neg (by omega), kL_116, if_pos (by omega), ok_l, ok_l, gtN, b0]
      refine ok_inl (Or.inl ⟨_, by rw [show ((i + 1 : Nat) : Int) = (i : Int) + 1 by omega], off_t t1 (off_put rfl), fun g hg => ?_⟩)
      show (if g = i then (0 : Int) else t.1 116 g) = 0
      by_cases y : g = i
      · rw [if_pos y]
      · rw [if_neg y]; exact t2 g (by omega)
    · rintro t ⟨t1, t2⟩
      show zOk (q_Model_check_87 E (kL c) (nG : Int) t) _
      unfold q_Model_check_87
      rw [t1.2 94 32 (by omega), R.bg, if_pos (by omega)]
      exact ok_inr ⟨t, rfl, t1, t2⟩
  have ob1 : zOff pOb b b1 := off_w o1 fun k j x => Or.inr x
  have R1 := RN_o R (off_r (z := a)) ob1
  have N1 : NBr nG 0 a b1 := ⟨fun g hg => Or.inl ⟨h20 g (by omega), z1 g hg⟩, fun k hk => by omega, fun k k' h1 h2 => by omega, cnb_0 fun i hi => decide_eq_false (by rw [z1 i hi]; omega)⟩
  obtain ⟨e, d, p2, p3, a2, N, ea, N2, oa2, od, nx⟩ := s_numbers (E := E) hk R1 N1
  have R2 := RN_o R1 oa2 od
  rw [p1, b1_s, p3, b1_s]
  unfold q_Reader_checkLoops q_Gates_giveNumbers
  have eg : gSum e (fun e9 => some e9) (fun e10 => some e10) = some a2 := by
    rcases ea with x | x <;> rw [x] <;> rfl
  rw [p2, b1_s, eg, b1_s]
  -- the first gate without a number
  have F := it_find (f := fun y => q_Gates_firstWithoutNumber_2 E (kL c) y a2) (fun i => a2.1 20 i = -1) (fun i => Sum.inl (i : Int)) 0 nG (e := Sum.inr ()) (s := 0) rfl (by omega) (by omega) (fun i _ hi hp => by
      show q_Gates_firstWithoutNumber_2 E (kL c) (i : Int) a2 = _
      unfold q_Gates_firstWithoutNumber_2
      rw [R2.ag, if_neg (by omega), kL_20, if_pos (by omega), gtN, if_neg hp, let_s]) (fun i _ hi hp => by
      show q_Gates_firstWithoutNumber_2 E (kL c) (i : Int) a2 = _
      unfold q_Gates_firstWithoutNumber_2
      rw [R2.ag, if_neg (by omega), kL_20, if_pos (by omega), gtN, if_pos hp]) (by
      show q_Gates_firstWithoutNumber_2 E (kL c) (nG : Int) a2 = _
      unfold q_Gates_firstWithoutNumber_2
      rw [R2.ag, if_pos (by omega)])
  unfold q_Gates_firstWithoutNumber
  have ob2 : zOff (fun k j => pOb k j ∨ (k = 94 ∧ (j = 17 ∨ j = 18))) b d := off_w (off_t ob1 od) fun k j x => Or.inl x
  have oa2' : zOff (fun k j => pOa k j ∨ (k = 22 ∧ (j = 14 ∨ j = 15))) a a2 := off_w oa2 fun k j x => Or.inl x
  rcases F with ⟨i, -, i1, i2, i3, i4⟩ | ⟨j1, j2⟩
  · rw [i4, b1_s, gs_l, b1_s, if_neg (by omega), kL_14, if_pos (by omega), gtN, s_refuse, b1_s]
    obtain ⟨b3, p4, p5⟩ : zOk (gIter (fun y => q_Model_check_263 E (kL c) y.1 y.2) gN (0, d)) (fun s => s = zPut (zPut d 94 17 5) 94 18 (d.1 109 i)) := by
      refine it_for (fun (j : Nat) (t : gZ) => ((j : Int), t)) (fun j t => (j ≤ i ∧ t = d) ∨ (i < j ∧ t = zPut (zPut d 94 17 5) 94 18 (d.1 109 i))) 0 nG rfl (Or.inl ⟨by omega, rfl⟩) (by omega) (by omega) ?_ ?_
      · rintro j t - hj ht
        show zOk (q_Model_check_263 E (kL c) (j : Int) t) _
        unfold q_Model_check_263
        rcases ht with ⟨t1, rfl⟩ | ⟨t1, rfl⟩
        · rw [R2.bg, if_neg (by omega), kL_116, if_pos (by omega), gtN]
          by_cases y : j = i
          · subst y
            rcases N2.1 j hj with ⟨-, u⟩ | ⟨u, -⟩
            · rw [if_pos u, kL_109, if_pos (by omega), s_fail R2.fb, b1_s, ok_l]
              exact ok_inl (Or.inl ⟨_, by rw [show ((j + 1 : Nat) : Int) = (j : Int) + 1 by omega], Or.inr ⟨by omega, rfl⟩⟩)
            · exact absurd i2 u
          · rcases N2.1 j hj with ⟨u, -⟩ | ⟨-, u, -⟩
            · exact absurd u (i3 j (by omega) (by omega))
            · rw [if_neg (by omega), ok_l]
              exact ok_inl (Or.inl ⟨_, by rw [show ((j + 1 : Nat) : Int) = (j : Int) + 1 by omega], Or.inl ⟨by omega, rfl⟩⟩)
        · have c1 : (zPut (zPut d 94 17 5) 94 18 (d.1 109 i)).1 94 32 = nG := R2.bg
          have c2 : (zPut (zPut d 94 17 5) 94 18 (d.1 109 i)).1 94 17 = 5 := rfl
          rw [c1, if_neg (by omega), kL_116, if_pos (by omega)]
          refine ok_br (fun _ => ?_) fun _ => ?_
          · rw [kL_109, if_pos (by omega), s_fail1 (by rw [c2]; decide), b1_s, ok_l]
            exact ok_inl (Or.inl ⟨_, by rw [show ((j + 1 : Nat) : Int) = (j : Int) + 1 by omega], Or.inr ⟨by omega, rfl⟩⟩)
          · rw [ok_l]
            exact ok_inl (Or.inl ⟨_, by rw [show ((j + 1 : Nat) : Int) = (j : Int) + 1 by omega], Or.inr ⟨by omega, rfl⟩⟩)
      · rintro t ht
        show zOk (q_Model_check_263 E (kL c) (nG : Int) t) _
        unfold q_Model_check_263
        rcases ht with ⟨t1, rfl⟩ | ⟨t1, rfl⟩
        · omega
        · have c1 : (zPut (zPut d 94 17 5) 94 18 (d.1 109 i)).1 94 32 = nG := R2.bg
          rw [c1, if_pos (by omega)]
          exact ok_inr ⟨_, rfl, rfl⟩
    have p5 : b3 = zPut (zPut d 94 17 5) 94 18 (d.1 109 i) := p5
    rw [p4, b1_s]
    obtain ⟨m, v, v1, v2, v3, -⟩ := R2.gat i i1
    refine ⟨_, b3, rfl, rfl, off_t oa2' (off_t (off_put (Or.inr ⟨rfl, Or.inl rfl⟩)) (off_put (Or.inr ⟨rfl, Or.inr rfl⟩))), ?_, Or.inl ⟨5, a2.1 14 i, by decide, rfl, rfl, ?_, ?_⟩⟩
    · rw [p5]
      exact off_t ob2 (off_t (off_put (Or.inr ⟨rfl, Or.inl rfl⟩)) (off_put (Or.inr ⟨rfl, Or.inr rfl⟩)))
    · rw [p5]; rfl
    · rw [p5, v3]; rfl
  · rw [j2, b1_s, gs_r, b1_s, if_pos rfl]
    have p4 : gIter (fun y => q_Model_check_263 E (kL c) y.1 y.2) gN (0, d) = some d := by
      refine it_run (fun i => ((i : Int), d)) nG rfl (fun i hi => ?_) ?_ (by omega)
      · show q_Model_check_263 E (kL c) (i : Int) d = _
        unfold q_Model_check_263
        rw [R2.bg, if_neg (by omega), kL_116, if_pos (by omega), gtN]
        rcases N2.1 i hi with ⟨u, -⟩ | ⟨-, u, -⟩
        · exact absurd u (j1 i (by omega) hi)
        · rw [if_neg (by omega), let_s]; rfl
      · show q_Model_check_263 E (kL c) (nG : Int) d = _
        unfold q_Model_check_263
        rw [R2.bg, if_pos (by omega)]
    rw [p4, b1_s]
    have eN : N = nG := by
      have h1 := N2.2.2.2
      have h2 := cnb_le (fun g => decide (d.1 116 g = 1)) nG
      by_cases y : N < nG
      · have h3 : cnb (fun g => decide (d.1 116 g = 1)) nG = nG := by
          have h4 : cnb (fun _ => true) nG ≤ cnb (fun g => decide (d.1 116 g = 1)) nG := cnb_mono fun i hi _ => by
            rcases N2.1 i hi with ⟨u, -⟩ | ⟨-, u, -⟩
            · exact absurd u (j1 i (by omega) hi)
            · exact decide_eq_true u
          have h5 : ∀ k, cnb (fun _ => true) k = k := fun k => by
            induction k with
            | zero => rfl
            | succ k ih => rw [cnb, ih, if_pos rfl]
          rw [h5] at h4
          omega
        omega
      · omega
    rw [eN] at N2
    exact ⟨a2, d, rfl, rfl, oa2', ob2, Or.inr ⟨R2, N2⟩⟩
end
end
