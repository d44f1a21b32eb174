set_option linter.unusedVariables false
-- JA
section
variable {E : gEv} {c : gCf}
theorem rd31_e {l1 l2 l3 : Int} {z : gZ} (h : z.1 94 16 ≤ l3 ∨ l2 ≠ 0 ∨ z.1 94 17 ≠ 0) : q_Model_read_31 E (kL c) l1 l2 l3 z = some (.inr z) := by
  unfold q_Model_read_31
  by_cases x : z.1 94 16 ≤ l3
  · rw [if_pos x]
  · rw [if_neg x]
    by_cases y : l2 = 0
    · rw [if_pos y, if_neg (by omega)]
    · rw [if_neg y]
section
variable {T : Nat → Int} {n : Nat} {a b : gZ}
theorem s_nextLine {p : Nat} {a : gZ} (n4 : n ≤ 4000) (hp : p ≤ 4500) (h3 : a.1 10 3 = n) (h4 : a.1 10 4 = p) (hT : ∀ j, j < n → a.1 11 j = T j) : ∃ (q : Nat) (s : gZ), Fst (fun i => T i = 10) n p q ∧ zOff p4 a s ∧ s.1 10 4 = ((q + 1 : Nat) : Int) ∧ q_Text_nextLine E (kL c) a = some (if n ≤ q + 1 then 0 else 1, s) := by
  obtain ⟨s, hs, q, f, o, h4'⟩ := s_skip (E := E) (c := c) (z := a) (T := T) n4 (by omega) h3 h4 hT
  have hq : q ≤ 5000 := by
    by_cases x : q ≤ p
    · omega
    · have := (f.2.1 (q - 1) (by omega) (by omega)).1; omega
  refine ⟨q, zPut s 10 4 ((q : Int) + 1), f, off_t o (off_put ⟨rfl, rfl⟩), by rw [zp_eq]; omega, ?_⟩
  unfold q_Text_nextLine
  have s3 : s.1 10 3 = n := by rw [o.2 10 3 (by unfold p4; omega)]; exact h3
  rw [hs, b1_s, h4', if_pos (by omega), let_s, zp_eq, show (zPut s 10 4 ((q : Int) + 1)).1 10 3 = n from s3]
  by_cases x : n ≤ q + 1
  · rw [if_pos (by omega), if_pos x]
  · rw [if_neg (by omega), if_neg x]
/-- all lines, on both sides -/
theorem s_lines (hS : SE E) (hk : kOk c) (n4 : n ≤ 4000) (R : RR c True T n 0 0 0 0 0 0 a b) (h4 : a.1 10 4 = 0) (h3 : a.1 10 3 = n) (ta : ∀ j, j < n → a.1 11 j = T j) (tb : ∀ j, j < n → b.1 96 j = T j) (b16 : b.1 94 16 = n) (h16 : a.1 22 16 = -1) (h17 : a.1 22 17 = 0) (a2 : a.1 22 2 = kD c) (b6 : b.1 94 6 = kD c) : ∃ e d, gIter (fun y => q_Reader_read_6 E (kL c) y.1 y.2) gN (0, a) = some e ∧ gIter (fun y => q_Model_read_31 E (kL c) y.1 y.2.1 y.2.2.1 y.2.2.2) gN (0, 0, 0, b) = some d ∧ ∃ a', (e = .inl a' ∨ e = .inr a') ∧ zOff pLa a a' ∧ zOff pLb b d ∧ ((FF a' d ∧ ∃ x : Nat, x ≤ 150 ∧ d.1 94 32 = x) ∨ ∃ nm nI nO nL nG : Nat, RR c True T n (n + 1) nm nI nO nL nG a' d ∧ US nm 150 d) := by
  have U0 : US 0 150 b := fun i hi => by omega
  have p4a : ∀ {s t : gZ}, zOff p4 s t → zOff pLa s t := fun o => off_w o fun k j x => by unfold p4 at x; unfold pLa pRa; omega
  by_cases n0 : n = 0
  · subst n0
    have gn : gN = (gN - 1) + 1 := by unfold gN; omega
    obtain ⟨⟨v, s⟩, hs, f, t, w, o, q5, q6, q4, qv⟩ := s_nextWord (E := E) (c := c) (z := a) (T := T) (n := 0) (p := 0) (by omega) (by omega) h3 h4 ta
    have wl := wdR_le w (Nat.le_refl _)
    have o : zOff p46 a s := o
    have q4 : s.1 10 4 = t := q4
    have qv : v = if f < t then 1 else 0 := qv
    rw [if_neg (by omega)] at qv
    obtain ⟨q, s', f', o', -, hn⟩ := s_nextLine (E := E) (c := c) (a := s) (T := T) (n := 0) (p := t) (by omega) (by omega) (by rw [o.2 10 3 (by unfold p46; omega)]; exact h3) q4 (fun j hj => by omega)
    refine ⟨.inl s', b, ?_, ?_, s', Or.inl rfl, off_t (off_w o fun k j x => by unfold p46 at x; unfold pLa pRa; omega) (p4a o'), off_r, Or.inr ⟨0, 0, 0, 0, 0, RR_c R (by omega) (fun k j hk => ?_) (fun _ _ _ => rfl), U0⟩⟩
    · rw [gn]
      refine it_end ?_
      show q_Reader_read_6 E (kL c) 0 a = _
      unfold q_Reader_read_6 q_Reader_readLine
      have s14 : s.1 22 14 = 0 := by rw [o.2 22 14 (by unfold p46; omega)]; exact R.fa
      have s17 : s.1 22 17 = 0 := by rw [o.2 22 17 (by unfold p46; omega)]; exact h17
      rw [if_neg (by omega), hs, b2_p, if_pos qv, b1_s, if_pos s14, if_pos s17, hn, b2_p, if_pos (by omega)]
    · rw [gn]
      refine it_end ?_
      exact rd31_e (l1 := 0) (l2 := 0) (l3 := 0) (Or.inl (by rw [b16]; omega))
    · rw [o'.2 k j (by unfold rA at hk; unfold p4; omega), o.2 k j (by unfold rA at hk; unfold p46; omega)]
  refine it_two (f := fun y => q_Reader_read_6 E (kL c) y.1 y.2) (g := fun y => q_Model_read_31 E (kL c) y.1 y.2.1 y.2.2.1 y.2.2.2) (s := (0, a)) (t := (0, 0, 0, b)) (fun i s t => ∃ (p nm nI nO nL nG : Nat) (l1 : Int) (a1 b1 : gZ), s = ((i : Int), a1) ∧ t = (l1, 0, (p : Int), b1) ∧ i ≤ p ∧ p < n ∧ RR c True T n p nm nI nO nL nG a1 b1 ∧ US nm 150 b1 ∧ a1.1 10 4 = p ∧ zOff pLa a a1 ∧ zOff pLb b b1 ∧ a1.1 22 17 = 0 ∧ opn nG l1 a1) n (Q := fun (e : gZ ⊕ gZ) (d : gZ) => ∃ a', (e = .inl a' ∨ e = .inr a') ∧ zOff pLa a a' ∧ zOff pLb b d ∧ ((FF a' d ∧ ∃ x : Nat, x ≤ 150 ∧ d.1 94 32 = x) ∨ ∃ nm nI nO nL nG : Nat, RR c True T n (n + 1) nm nI nO nL nG a' d ∧ US nm 150 d)) (by omega) ?_ ⟨0, 0, 0, 0, 0, 0, 0, a, b, rfl, rfl, Nat.le_refl _, by omega, R, U0, h4, off_r, off_r, h17, Or.inl ⟨h16, rfl⟩⟩
  rintro i s t hi ⟨p, nm, nI, nO, nL, nG, l1, a1, b1, rfl, rfl, ip, pn, R1, U1, c4, oa, ob, c17, co⟩
  have ta1 : ∀ j, j < n → a1.1 11 j = T j := fun j hj => by rw [oa.2 11 j (by unfold pLa pRa; omega)]; exact ta j hj
  have tb1 : ∀ j, j < n → b1.1 96 j = T j := fun j hj => by rw [ob.2 96 j (by unfold pLb pRc pRb pLn; omega)]; exact tb j hj
  have c3 : a1.1 10 3 = n := by rw [oa.2 10 3 (by unfold pLa pRa; omega)]; exact h3
  have d16 : b1.1 94 16 = n := by rw [ob.2 94 16 (by unfold pLb pRc pRb pLn; omega)]; exact b16
  have c2 : a1.1 22 2 = kD c := by rw [oa.2 22 2 (by unfold pLa pRa; omega)]; exact a2
  have d6 : b1.1 94 6 = kD c := by rw [ob.2 94 6 (by unfold pLb pRc pRb pLn; omega)]; exact b6
  obtain ⟨a', b', l1', l2', e, q1, q2, oa', ob', pe, en, fe, ol⟩ := s_readLine (E := E) hS hk pn n4 R1 U1 c4 c3 ta1 tb1 d16 c17 c2 d6 co
  have oa2 : zOff pLa a a' := off_t oa oa'
  have ob2 : zOff pLb b b' := off_t ob ob'
  show (∃ s' t', q_Reader_read_6 E (kL c) (i : Int) a1 = some (.inl s') ∧ q_Model_read_31 E (kL c) l1 0 (p : Int) b1 = some (.inl t') ∧ _) ∨ (∃ e d, q_Reader_read_6 E (kL c) (i : Int) a1 = some (.inr e) ∧ q_Model_read_31 E (kL c) l1 0 (p : Int) b1 = some (.inr d) ∧ _) ∨ ∃ e t' d, q_Reader_read_6 E (kL c) (i : Int) a1 = some (.inr e) ∧ q_Model_read_31 E (kL c) l1 0 (p : Int) b1 = some (.inl t') ∧ q_Model_read_31 E (kL c) t'.1 t'.2.1 t'.2.2.1 t'.2.2.2 = some (.inr d) ∧ _
  rw [q2]
  have e6 : q_Reader_read_6 E (kL c) (i : Int) a1 = if a'.1 22 14 = 0 then (if a'.1 22 17 = 0 then (gB2 (q_Text_nextLine E (kL c) a') fun v5 s6 => if v5 = 0 then some (.inr (.inl s6)) else if -2147483648 ≤ (i : Int) + 1 ∧ (i : Int) + 1 < 2147483648 then gLet ((i : Int) + 1) fun x7 => some (.inl (x7, s6)) else none) else some (.inr (.inr a'))) else some (.inr (.inr a')) := by
    unfold q_Reader_read_6
    rw [if_neg (by omega), q1, b1_s]
  rw [e6]
  have d16' : b'.1 94 16 = n := by rw [ob'.2 94 16 (by unfold pLb pRc pRb pLn; omega)]; exact d16
  rcases ol with ⟨ff, x⟩ | ⟨nm', nI', nO', nL', nG', R', U', ⟨x1, x2⟩ | ⟨x1, x2, x3, x, x4, x5, x6⟩⟩
  · obtain ⟨k, f, f1, f2, f3, f4, f5, f6⟩ := ff
    rw [if_neg (by omega)]
    exact Or.inr (Or.inr ⟨_, _, b', rfl, rfl, rd31_e (Or.inr (Or.inr (by show b'.1 94 17 ≠ 0; omega))), a', Or.inr rfl, oa2, ob2, Or.inl ⟨⟨k, f, f1, f2, f3, f4, f5, f6⟩, x⟩⟩)
  · rw [if_pos R'.fa, if_neg (by omega)]
    exact Or.inr (Or.inr ⟨_, _, b', rfl, rfl, rd31_e (Or.inr (Or.inl (by show l2' ≠ 0; omega))), a', Or.inr rfl, oa2, ob2, Or.inr ⟨nm', nI', nO', nL', nG', RR_c R' (by omega) (fun _ _ _ => rfl) (fun _ _ _ => rfl), U'⟩⟩)
  · rw [if_pos R'.fa, if_pos x1]
    obtain ⟨q, s', f', o', g4, hn⟩ := s_nextLine (E := E) (c := c) (a := a') (T := T) (n := n) (p := x) n4 (by omega) (by rw [oa'.2 10 3 (by unfold pLa pRa; omega)]; exact c3) x4 (fun j hj => by rw [oa'.2 11 j (by unfold pLa pRa; omega)]; exact ta1 j hj)
    have qe : q = e := Fst_u f' (Fst_m fe x5 x6)
    subst qe
    rw [hn, b2_p]
    have R2 : RR c True T n (q + 1) nm' nI' nO' nL' nG' s' b' := RR_c R' (Nat.le_refl _) (fun k j hk => o'.2 k j (by unfold rA at hk; unfold p4; omega)) (fun _ _ _ => rfl)
    by_cases nq : n ≤ q + 1
    · rw [if_pos nq, if_pos rfl]
      exact Or.inr (Or.inr ⟨_, _, b', rfl, rfl, rd31_e (Or.inl (by show b'.1 94 16 ≤ (q : Int) + 1; omega)), s', Or.inl rfl, off_t oa2 (p4a o'), ob2, Or.inr ⟨nm', nI', nO', nL', nG', RR_c R2 (by omega) (fun _ _ _ => rfl) (fun _ _ _ => rfl), U'⟩⟩)
    · rw [if_neg nq, if_neg (by decide), if_pos (by omega), let_s]
      refine Or.inl ⟨_, _, rfl, rfl, ⟨q + 1, nm', nI', nO', nL', nG', l1', s', b', ?_, ?_, by omega, by omega, R2, U', g4, off_t oa2 (p4a o'), ob2, ?_, ?_⟩, by omega⟩
      · rw [show ((i + 1 : Nat) : Int) = (i : Int) + 1 by omega]
      · rw [x2, show ((q + 1 : Nat) : Int) = (q : Int) + 1 by omega]
      · rw [o'.2 22 17 (by unfold p4; omega)]; exact x1
      · unfold opn
        rw [o'.2 22 16 (by unfold p4; omega)]; exact x3
end
end
