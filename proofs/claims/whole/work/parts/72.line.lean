set_option linter.unusedVariables false
-- J9
section
variable {E : gEv} {c : gCf}
def pLa (k j : Nat) : Prop := pRa k j ∨ (k = 22 ∧ j = 17)
def pLb (k j : Nat) : Prop := pRc k j ∨ pLn k j
/-- is a cover open? -/
def opn (nG : Nat) (l1 : Int) (a : gZ) : Prop := (a.1 22 16 = -1 ∧ l1 = 0) ∨ ∃ g : Nat, nG = g + 1 ∧ a.1 22 16 = g ∧ l1 = 1
section
variable {T : Nat → Int} {n p m : Nat} {W S : Nat → Nat} {e q nm nI nO nL nG : Nat} {a b : gZ}
theorem eqW_3 {f s i : Nat} (h : eqW T f s i) (hi : i = 0 ∨ i = 1 ∨ i = 2 ∨ i = 4) : ¬ eqW T f s 3 := by
  intro k
  have e1 := h.1
  have e2 := k.1
  have s3 : sN 3 = 6 := rfl
  rcases hi with x | x | x | x
  · subst x
    have : sN 0 = 7 := rfl
    omega
  · subst x
    have : sN 1 = 8 := rfl
    omega
  · subst x
    have h1 := h.2 1 (by decide)
    have k1 := k.2 1 (by decide)
    rw [h1] at k1
    exact absurd k1 (by decide)
  · subst x
    have : sN 4 = 4 := rfl
    omega
theorem eqW_d {f s i : Nat} (h : eqW T f s i) (hi : i ≤ 4) : T f = 46 := by
  have h0 := h.2 0 (by have := (sN_b i).1; omega)
  rw [Nat.add_zero] at h0
  rw [h0]
  rcases (show i = 0 ∨ i = 1 ∨ i = 2 ∨ i = 3 ∨ i = 4 by omega) with x | x | x | x | x <;> subst x <;> rfl
theorem j221_t {l1 l2 l3 l4 : Int} (hS : SE E) (h : LC T n p m W S e a b) (hm : 1 ≤ m) (h3 : eqW T (W 0) (S 0) 3) : q_Model_read_j221_31 E (kL c) l1 l2 l3 l4 b = some (.inl (1, l2, l3, b)) := by
  have bw := h.bw 0 (by omega)
  have hw := LC_w h (i := 0) (by omega)
  have he := LC_e h
  have i3 := s_isWordM (E := E) (c := c) (z := b) (i := 3) (k := 0) hS (by omega) h.n4 (by omega) bw.1 bw.2 (by omega) h.tb
  rw [show ((0 : Nat) : Int) = 0 from rfl] at i3
  unfold q_Model_read_j221_31
  rw [i3, b1_s, dI_t h3, if_neg (by decide)]
theorem j221_f {l1 l2 l3 l4 : Int} (hS : SE E) (h : LC T n p m W S e a b) (hm : 1 ≤ m) (h3 : ¬ eqW T (W 0) (S 0) 3) : q_Model_read_j221_31 E (kL c) l1 l2 l3 l4 b = some (.inl (if l4 = 0 then (if l1 = 0 then 0 else 1) else 0, l2, l3, b)) := by
  have bw := h.bw 0 (by omega)
  have hw := LC_w h (i := 0) (by omega)
  have he := LC_e h
  have i3 := s_isWordM (E := E) (c := c) (z := b) (i := 3) (k := 0) hS (by omega) h.n4 (by omega) bw.1 bw.2 (by omega) h.tb
  rw [show ((0 : Nat) : Int) = 0 from rfl] at i3
  unfold q_Model_read_j221_31
  rw [i3, b1_s, dI_f h3, if_pos rfl]
  by_cases x : l4 = 0
  · rw [if_pos x, if_pos x]
    by_cases y : l1 = 0
    · rw [if_pos y, if_pos y]
    · rw [if_neg y, if_neg y]
  · rw [if_neg x, if_neg x]
/-- how a line ends, on both sides -/
def OL (c : gCf) (T : Nat → Int) (n p e : Nat) (l1 l2 : Int) (a' b' : gZ) : Prop := (FF a' b' ∧ ∃ x : Nat, x ≤ 150 ∧ b'.1 94 32 = x) ∨ ∃ nm nI nO nL nG : Nat, RR c True T n (e + 1) nm nI nO nL nG a' b' ∧ US nm 150 b' ∧ ((a'.1 22 17 = 1 ∧ l2 = 1) ∨ (a'.1 22 17 = 0 ∧ l2 = 0 ∧ opn nG l1 a' ∧ ∃ x : Nat, a'.1 10 4 = x ∧ p ≤ x ∧ x ≤ e))
theorem RR_150 {G : Prop} (R : RR c G T n q nm nI nO nL nG a b) : nG ≤ 150 := by
  have := R.cnt
  have := cnb_le (fun i => decide (b.1 101 i ≠ 0)) nm
  have := R.nb
  omega
/-- one line on both sides -/
theorem s_readLine {l1 : Int} (hS : SE E) (hk : kOk c) (hp : p < n) (n4 : n ≤ 4000) (R : RR c True T n p nm nI nO nL nG a b) (U : US nm 150 b) (h4 : a.1 10 4 = p) (h3 : a.1 10 3 = n) (ta : ∀ j, j < n → a.1 11 j = T j) (tb : ∀ j, j < n → b.1 96 j = T j) (b16 : b.1 94 16 = n) (h17 : a.1 22 17 = 0) (a2 : a.1 22 2 = kD c) (b6 : b.1 94 6 = kD c) (ho : opn nG l1 a) : ∃ (a' b' : gZ) (l1' l2' : Int) (e : Nat), q_Reader_readLine E (kL c) a = some a' ∧ q_Model_read_31 E (kL c) l1 0 (p : Int) b = some (.inl (l1', l2', (e : Int) + 1, b')) ∧ zOff pLa a a' ∧ zOff pLb b b' ∧ p ≤ e ∧ e ≤ n ∧ Fst (fun i => T i = 10) n p e ∧ OL c T n p e l1' l2' a' b' := by
  obtain ⟨⟨r0, b1⟩, hl, m, W, S, e, L, e1, ob1, q20, q19, qw⟩ := s_line (E := E) (c := c) (z := b) (T := T) n4 hp b16 tb
  have e1 : r0 = (e : Int) + 1 := e1
  have ob1 : zOff pLn b b1 := ob1
  subst e1
  have h : LC T n p m W S e a b1 := ⟨n4, hp, L, ta, fun j hj => by rw [ob1.2 96 j (by unfold pLn; omega)]; exact tb j hj, h3, by rw [ob1.2 94 16 (by unfold pLn; omega)]; exact b16, q19, q20, qw⟩
  have R1 : RR c True T n p nm nI nO nL nG a b1 := RR_c R (Nat.le_refl _) (fun _ _ _ => rfl) (fun k j hk => ob1.2 k j (by unfold rB at hk; unfold pLn; omega))
  have U1 : US nm 150 b1 := fun i hi hv h0 => by
    rw [ob1.2 101 i (by unfold pLn; omega)] at h0
    rw [ob1.2 103 i (by unfold pLn; omega)]
    exact U i hi hv h0
  have b61 : b1.1 94 6 = kD c := by rw [ob1.2 94 6 (by unfold pLn; omega)]; exact b6
  have m2 := LC_m h
  have he := LC_e h
  have pe := (LC_p h (i := 0) (by omega)).2
  have pe0 : p ≤ e := h.lin.nl.1
  have g150 := RR_150 R
  have obw : ∀ {b'}, zOff pRb b1 b' → zOff pLb b b' := fun o => off_t (off_w ob1 fun k j x => Or.inr x) (off_w o fun k j x => Or.inl (Or.inl x))
  have e31 : q_Model_read_31 E (kL c) l1 0 (p : Int) b = if b1.1 94 19 ≤ 0 then some (.inl (l1, 0, (e : Int) + 1, b1)) else if 0 ≤ (0 : Int) ∧ (0 : Int) < ((kL c 97 : Nat) : Int) then if 0 ≤ b1.1 97 0 ∧ b1.1 97 0 < ((kL c 96 : Nat) : Int) then if b1.1 96 ((b1.1 97 0).toNat) = 46 then q_Model_read_j84_31 E (kL c) l1 0 ((e : Int) + 1) 1 b1 else q_Model_read_j84_31 E (kL c) l1 0 ((e : Int) + 1) 0 b1 else none else none := by
    unfold q_Model_read_31
    rw [b16, if_neg (by omega), if_pos rfl, if_pos R.fb, hl, b2_p]
  by_cases m0 : m = 0
  · subst m0
    obtain ⟨⟨r, s⟩, hr, r1, ro, r5, r6, r4⟩ := s_nw0 (E := E) (c := c) h h4
    have r1 : r = 0 := r1
    have ro : zOff p46 a s := ro
    have r4 : s.1 10 4 = e := r4
    have os : zOff pRa a s := off_w ro fun k j x => by unfold p46 at x; unfold pRa; omega
    refine ⟨s, b1, l1, 0, e, ?_, by rw [e31, h.bm, if_pos (by omega)], off_w os fun k j x => Or.inl x, obw off_r, pe0, he, h.lin.nl, Or.inr ⟨nm, nI, nO, nL, nG, RR_c R1 (by omega) (fun k j hk => ro.2 k j (by unfold rA at hk; unfold p46; omega)) (fun _ _ _ => rfl), U1, Or.inr ⟨?_, rfl, ?_, e, r4, pe0, Nat.le_refl _⟩⟩⟩
    · unfold q_Reader_readLine
      rw [hr, b2_p, if_pos r1]
    · rw [ro.2 22 17 (by unfold p46; omega)]; exact h17
    · unfold opn
      rw [ro.2 22 16 (by unfold p46; omega)]; exact ho
  obtain ⟨⟨r, s⟩, hr, r1, ro, r5, r6, r4⟩ := s_nw1 (E := E) (c := c) h (i := 0) (by omega) h4
  have r1 : r = 1 := r1
  have ro : zOff p46 a s := ro
  have r5 : s.1 10 5 = W 0 := r5
  have r6 : s.1 10 6 = ((W 0 + S 0 : Nat) : Int) := r6
  have r4 : s.1 10 4 = ((psn p W S (0 + 1) : Nat) : Int) := r4
  have os : zOff pRa a s := off_w ro fun k j x => by unfold p46 at x; unfold pRa; omega
  have h1 := LC_o h os off_r
  have R2 : RR c True T n p nm nI nO nL nG s b1 := RR_c R1 (Nat.le_refl _) (fun k j hk => ro.2 k j (by unfold rA at hk; unfold p46; omega)) (fun _ _ _ => rfl)
  have hw := LC_w h (i := 0) (by omega)
  have bw := h.bw 0 (by omega)
  have s17 : s.1 22 17 = 0 := by rw [ro.2 22 17 (by unfold p46; omega)]; exact h17
  have s2 : s.1 22 2 = kD c := by rw [ro.2 22 2 (by unfold p46; omega)]; exact a2
  have os' : zOff pLa a s := off_w os fun k j x => Or.inl x
  have eC : q_Reader_readLine E (kL c) a = gB1 (q_Text_hasDot E (kL c) s) fun v3 => if v3 = 0 then (gB1 (q_Reader_readCover E (kL c) s) fun s6 => some s6) else gLet (zPut s 22 16 (-1)) fun s7 => gB1 (q_Text_isWord E (kL c) 0 s7) fun v8 => if v8 = 0 then (gB1 (q_Text_isWord E (kL c) 1 s7) fun v10 => if v10 = 0 then (gB1 (q_Text_isWord E (kL c) 2 s7) fun v12 => if v12 = 0 then (gB1 (q_Text_isWord E (kL c) 3 s7) fun v14 => if v14 = 0 then (gB1 (q_Text_isWord E (kL c) 4 s7) fun v16 => if v16 = 0 then (gB1 (q_Reader_refuse E (kL c) 1 (s7.1 10 5) s7) fun s19 => some s19) else gLet (zPut s7 22 17 1) fun s20 => gB1 (q_Reader_refuseMore E (kL c) s20) fun s22 => some s22) else gB1 (q_Reader_readNames E (kL c) s7) fun s24 => some s24) else gB1 (q_Reader_readLatch E (kL c) s7) fun s26 => some s26) else gB1 (q_Reader_readPadNames E (kL c) 0 s7) fun s28 => some s28) else gB1 (q_Reader_readPadNames E (kL c) 1 s7) fun s30 => some s30 := by
    unfold q_Reader_readLine
    rw [hr, b2_p, if_neg (by omega)]
  have tw : b1.1 96 (W 0) = T (W 0) := h.tb (W 0) (by omega)
  have e31' : q_Model_read_31 E (kL c) l1 0 (p : Int) b = if T (W 0) = 46 then q_Model_read_j84_31 E (kL c) l1 0 ((e : Int) + 1) 1 b1 else q_Model_read_j84_31 E (kL c) l1 0 ((e : Int) + 1) 0 b1 := by
    rw [e31, h.bm, if_neg (by omega), kL_97, if_pos (by omega), bw.1, kL_96, if_pos (by omega), gtN, tw]
  rw [eC, s_hasDot n4 r5 r6 (by omega) (by omega) h1.ta, b1_s, e31']
  -- words of the reference
  have iM : ∀ i, i < 7 → q_Model_isWord E (kL c) 0 i b1 = some (dI (eqW T (W 0) (S 0) i)) := fun i hi => by
    have := s_isWordM (E := E) (c := c) (z := b1) (i := i) (k := 0) hS hi n4 (by omega) bw.1 bw.2 (by omega) h.tb
    rw [show ((0 : Nat) : Int) = 0 from rfl] at this
    exact this
  by_cases dot : T (W 0) = 46
  · rw [if_pos dot, if_neg (by decide), if_pos dot, let_s]
    generalize hs7 : zPut s 22 16 (-1) = s7
    have o7 : zOff pRa a s7 := by rw [← hs7]; exact off_t os (off_put (by unfold pRa; omega))
    have o7' : zOff pLa a s7 := off_w o7 fun k j x => Or.inl x
    have h7 := LC_o h o7 off_r
    have R7 : RR c True T n p nm nI nO nL nG s7 b1 := RR_c R2 (Nat.le_refl _) (fun k j hk => by rw [← hs7]; exact zp_n (by unfold rA at hk; omega)) (fun _ _ _ => rfl)
    have c5 : s7.1 10 5 = W 0 := by rw [← hs7]; exact r5
    have c6 : s7.1 10 6 = ((W 0 + S 0 : Nat) : Int) := by rw [← hs7]; exact r6
    have c4 : s7.1 10 4 = ((psn p W S 1 : Nat) : Int) := by rw [← hs7]; exact r4
    have c16 : s7.1 22 16 = -1 := by rw [← hs7]; exact zp_eq _ _ _ _
    have c17 : s7.1 22 17 = 0 := by rw [← hs7]; exact s17
    have c2 : s7.1 22 2 = kD c := by rw [← hs7]; exact s2
    have iC : ∀ i, i < 7 → q_Text_isWord E (kL c) i s7 = some (dI (eqW T (W 0) (S 0) i)) := fun i hi => by
      have := s_isWordC (E := E) (c := c) (z := s7) (T := T) (i := i) hS hi n4 c5 c6 (by omega) (by omega) h7.ta
      rw [show W 0 + S 0 - W 0 = S 0 by omega] at this
      exact this
    have e84 : q_Model_read_j84_31 E (kL c) l1 0 ((e : Int) + 1) 1 b1 = q_Model_read_j102_31 E (kL c) l1 0 ((e : Int) + 1) 1 b1 := by
      unfold q_Model_read_j84_31
      rw [if_neg (by decide)]
    rw [e84]
    unfold q_Model_read_j102_31
    -- what the pad and latch lines leave
    have fin : ∀ (a' b' : gZ) (l2' : Int), LR c T n p e s7 b1 a' b' → a'.1 22 16 = s7.1 22 16 → ¬ eqW T (W 0) (S 0) 3 → ∃ (l1' : Int), q_Model_read_j221_31 E (kL c) l1 0 ((e : Int) + 1) 1 b' = some (.inl (l1', 0, (e : Int) + 1, b')) ∧ zOff pLa a a' ∧ zOff pLb b b' ∧ OL c T n p e l1' 0 a' b' := fun a' b' l2' hL e16 n3 => by
      obtain ⟨oa, ob, x⟩ := hL
      have h8 := LC_o h7 oa ob
      have a17 : a'.1 22 17 = 0 := by rw [oa.2 22 17 (by unfold pRa; omega)]; exact c17
      refine ⟨_, j221_f hS h8 (by omega) n3, off_t o7' (off_w oa fun k j x => Or.inl x), obw ob, ?_⟩
      rcases x with x | ⟨nm', nI', nO', nL', nG', R', U', x⟩
      · exact Or.inl ⟨x, nG, g150, by rw [ob.2 94 32 (by unfold pRb; omega)]; exact R1.bg⟩
      · exact Or.inr ⟨nm', nI', nO', nL', nG', R', U', Or.inr ⟨a17, rfl, Or.inl ⟨e16.trans c16, by rw [if_neg (by decide)]⟩, x⟩⟩
    rw [iC 0 (by omega), iM 0 (by omega), b1_s, b1_s]
    by_cases w0 : eqW T (W 0) (S 0) 0
    · rw [dI_t w0, if_neg (by decide), if_neg (by decide)]
      unfold q_Model_read_j124_31
      rw [iM 0 (by omega), b1_s, dI_t w0]
      obtain ⟨a', b', q1, q2, q3, q4, -⟩ := s_pads (E := E) (l := 1) hk h7 R7 U1 (by omega) c4 c2 b61
      obtain ⟨l1', f1, f2, f3, f4⟩ := fin a' b' 0 q3 q4 (eqW_3 w0 (by omega))
      rw [q1, b1_s, q2, b1_s]
      exact ⟨a', b', l1', 0, e, rfl, f1, f2, f3, pe0, he, h.lin.nl, f4⟩
    rw [dI_f w0, if_pos rfl, if_pos rfl, iC 1 (by omega), iM 1 (by omega), b1_s, b1_s]
    by_cases w1 : eqW T (W 0) (S 0) 1
    · rw [dI_t w1, if_neg (by decide), if_neg (by decide)]
      unfold q_Model_read_j124_31
      rw [iM 0 (by omega), b1_s, dI_f w0]
      obtain ⟨a', b', q1, q2, q3, q4, -⟩ := s_pads (E := E) (l := 0) hk h7 R7 U1 (by omega) c4 c2 b61
      obtain ⟨l1', f1, f2, f3, f4⟩ := fin a' b' 0 q3 q4 (eqW_3 w1 (by omega))
      rw [q1, b1_s, q2, b1_s]
      exact ⟨a', b', l1', 0, e, rfl, f1, f2, f3, pe0, he, h.lin.nl, f4⟩
    rw [dI_f w1, if_pos rfl, if_pos rfl, iC 2 (by omega), iM 2 (by omega), b1_s, b1_s]
    by_cases w2 : eqW T (W 0) (S 0) 2
    · rw [dI_t w2, if_neg (by decide), if_neg (by decide)]
      obtain ⟨a', b', q1, q2, q3, q4⟩ := s_latch (E := E) hS h7 R7 U1 (by omega) c4
      obtain ⟨l1', f1, f2, f3, f4⟩ := fin a' b' 0 q3 q4 (eqW_3 w2 (by omega))
      rw [q1, b1_s, q2, b1_s]
      exact ⟨a', b', l1', 0, e, rfl, f1, f2, f3, pe0, he, h.lin.nl, f4⟩
    rw [dI_f w2, if_pos rfl, if_pos rfl, iC 3 (by omega), iM 3 (by omega), b1_s, b1_s]
    by_cases w3 : eqW T (W 0) (S 0) 3
    · rw [dI_t w3, if_neg (by decide), if_neg (by decide)]
      obtain ⟨a', b', q1, q2, q3, q4⟩ := s_names (E := E) h7 R7 U1 (by omega) c4 c5
      rw [q1, b1_s, q2, b1_s]
      have a17 : a'.1 22 17 = 0 := by rw [q3.2 22 17 (by unfold pRa; omega)]; exact c17
      have oc : zOff pRc b1 b' := q4.elim (fun x => off_w x.1 fun k j y => Or.inl y) fun ⟨_, x, _⟩ => x
      have h8 : LC T n p m W S e a' b' := LC_c h7 (fun k j hk => q3.2 k j (by unfold pRa; omega)) (fun k j hk => oc.2 k j (by unfold pRc pRb; omega))
      refine ⟨a', b', 1, 0, e, rfl, j221_t hS h8 (by omega) w3, off_t o7' (off_w q3 fun k j x => Or.inl x), off_t (off_w ob1 fun k j x => Or.inr x) (off_w oc fun k j x => Or.inl x), pe0, he, h.lin.nl, ?_⟩
      rcases q4 with ⟨x1, x2⟩ | ⟨nm', x1, x2, x3, x4, x5⟩
      · exact Or.inl ⟨x2, nG, g150, by rw [x1.2 94 32 (by unfold pRb; omega)]; exact R1.bg⟩
      · exact Or.inr ⟨nm', nI, nO, nL, nG + 1, x2, x3, Or.inr ⟨a17, rfl, Or.inr ⟨nG, rfl, x4, rfl⟩, e, x5, pe0, Nat.le_refl _⟩⟩
    rw [dI_f w3, if_pos rfl, if_pos rfl, iC 4 (by omega), iM 4 (by omega), b1_s, b1_s]
    by_cases w4 : eqW T (W 0) (S 0) 4
    · rw [dI_t w4, if_neg (by decide), if_neg (by decide), let_s, h.bm]
      unfold q_Reader_refuseMore
      have o20 : zOff pLa s7 (zPut s7 22 17 1) := off_put (Or.inr ⟨rfl, rfl⟩)
      have h20 : LC T n p m W S e (zPut s7 22 17 1) b1 := LC_c h7 (fun k j hk => zp_n (by omega)) (fun _ _ _ => rfl)
      by_cases m1 : m = 1
      · subst m1
        obtain ⟨⟨r, s5⟩, hr', r1', ro', r5', r6', r4'⟩ := s_nw0 (E := E) (c := c) h20 c4
        have r1' : r = 0 := r1'
        have ro' : zOff p46 (zPut s7 22 17 1) s5 := ro'
        rw [hr', b2_p, if_pos r1', b1_s, if_pos (by omega), j221_f hS h7 (by omega) w3]
        refine ⟨s5, b1, _, 1, e, rfl, rfl, off_t o7' (off_t o20 (off_w ro' fun k j x => by unfold p46 at x; unfold pLa pRa; omega)), obw off_r, pe0, he, h.lin.nl, Or.inr ⟨nm, nI, nO, nL, nG, RR_c R7 (by omega) (fun k j hk => ?_) (fun _ _ _ => rfl), U1, Or.inl ⟨?_, rfl⟩⟩⟩
        · rw [ro'.2 k j (by unfold rA at hk; unfold p46; omega), zp_n (by unfold rA at hk; omega)]
        · rw [ro'.2 22 17 (by unfold p46; omega), zp_eq]
      · obtain ⟨⟨r, s5⟩, hr', r1', ro', r5', r6', r4'⟩ := s_nw1 (E := E) (c := c) h20 (i := 1) (by omega) c4
        have r1' : r = 1 := r1'
        have ro' : zOff p46 (zPut s7 22 17 1) s5 := ro'
        have r5' : s5.1 10 5 = W 1 := r5'
        have h21 : LC T n p m W S e s7 (zPut (zPut b1 94 17 1) 94 18 (W 1 : Int)) := LC_o h7 off_r pRb_f
        rw [hr', b2_p, if_neg (by omega), s_refuse, b1_s, r5', b1_s, if_neg (by omega), kL_97, if_pos (by omega), (h.bw 1 (by omega)).1, s_fail R1.fb, b1_s, j221_f hS h21 (by omega) w3]
        exact ⟨_, _, _, 1, e, rfl, rfl, off_t o7' (off_t o20 (off_t (off_w ro' fun k j x => by unfold p46 at x; unfold pLa pRa; omega) (off_w pRa_f fun k j x => Or.inl x))), obw pRb_f, pe0, he, h.lin.nl, Or.inl ⟨FF_put (k := 1) (f := W 1) (by omega), nG, g150, R1.bg⟩⟩
    · have h21 : LC T n p m W S e s7 (zPut (zPut b1 94 17 1) 94 18 (W 0 : Int)) := LC_o h7 off_r pRb_f
      rw [dI_f w4, if_pos rfl, if_pos rfl, s_refuse, b1_s, c5, kL_97, if_pos (by omega), bw.1, s_fail R1.fb, b1_s, j221_f hS h21 (by omega) w3]
      exact ⟨_, _, _, 0, e, rfl, rfl, off_t o7' (off_w pRa_f fun k j x => Or.inl x), obw pRb_f, pe0, he, h.lin.nl, Or.inl ⟨FF_put (k := 1) (f := W 0) (by omega), nG, g150, R1.bg⟩⟩
  · rw [if_neg dot, if_pos rfl, if_neg dot]
    have n3 : ¬ eqW T (W 0) (S 0) 3 := fun x => dot (eqW_d x (by omega))
    unfold q_Model_read_j84_31
    rw [if_pos rfl]
    rcases ho with ⟨o1, o2⟩ | ⟨g, o1, o2, o3⟩
    · rw [if_pos o2]
      unfold q_Model_read_j102_31 q_Reader_readCover q_Reader_readCover_j45
      have s16 : s.1 22 16 = -1 := by rw [ro.2 22 16 (by unfold p46; omega)]; exact o1
      have h21 : LC T n p m W S e s (zPut (zPut b1 94 17 1) 94 18 (W 0 : Int)) := LC_o h1 off_r pRb_f
      rw [s16, if_pos rfl, s_refuse, b1_s, r5, b1_s]
      rw [iM 0 (by omega), b1_s, dI_f (fun x => dot (eqW_d x (by omega))), if_pos rfl, iM 1 (by omega), b1_s, dI_f (fun x => dot (eqW_d x (by omega))), if_pos rfl, iM 2 (by omega), b1_s, dI_f (fun x => dot (eqW_d x (by omega))), if_pos rfl, iM 3 (by omega), b1_s, dI_f n3, if_pos rfl, iM 4 (by omega), b1_s, dI_f (fun x => dot (eqW_d x (by omega))), if_pos rfl, kL_97, if_pos (by omega), bw.1, s_fail R1.fb, b1_s, j221_f hS h21 (by omega) n3]
      exact ⟨_, _, _, 0, e, rfl, rfl, off_t os' (off_w pRa_f fun k j x => Or.inl x), obw pRb_f, pe0, he, h.lin.nl, Or.inl ⟨FF_put (k := 1) (f := W 0) (by omega), nG, g150, R1.bg⟩⟩
    · rw [if_neg (by omega)]
      have s16 : s.1 22 16 = g := by rw [ro.2 22 16 (by unfold p46; omega)]; exact o2
      obtain ⟨a', b', q1, q2, q3, q4, q5⟩ := s_cover (E := E) hS h1 R2 U1 (by omega) o1 s16 r5 r6 r4
      have h8 := LC_o h1 q3 q4
      rw [q1, b1_s, q2, b1_s, j221_f hS h8 (by omega) n3, if_pos rfl, if_neg (by omega)]
      have a17 : a'.1 22 17 = 0 := by rw [q3.2 22 17 (by unfold pRa; omega)]; exact s17
      refine ⟨a', b', 1, 0, e, rfl, rfl, off_t os' (off_w q3 fun k j x => Or.inl x), obw q4, pe0, he, h.lin.nl, ?_⟩
      rcases q5 with x | ⟨x1, x2, x3, x4⟩
      · exact Or.inl ⟨x, nG, g150, by rw [q4.2 94 32 (by unfold pRb; omega)]; exact R1.bg⟩
      · exact Or.inr ⟨nm, nI, nO, nL, nG, x1, x2, Or.inr ⟨a17, rfl, Or.inr ⟨g, o1, x3, rfl⟩, e, x4, pe0, Nat.le_refl _⟩⟩
end
end
