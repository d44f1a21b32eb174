set_option linter.unusedVariables false
-- J1
section
variable {E : gEv} {c : gCf}
section
variable {G : Prop} {T : Nat → Int} {n p m : Nat} {W S : Nat → Nat} {e q nm nI nO nL nG : Nat} {a b : gZ}
/-- at the line's end there is no more word -/
theorem s_nwE (h : LC T n p m W S e a b) (h4 : a.1 10 4 = e) : zOk (q_Text_nextWord E (kL c) a) (fun r => r.1 = 0 ∧ zOff p46 a r.2 ∧ r.2.1 10 5 = e ∧ r.2.1 10 6 = e ∧ r.2.1 10 4 = e) := by
  have n4 := h.n4
  have he := LC_e h
  refine ok_w (s_nextWord (T := T) n4 (by omega) h.a3 h4 h.ta) ?_
  rintro ⟨v, s⟩ ⟨f, t, w, o, h5, h6, h7, h8⟩
  obtain ⟨u1, u2⟩ := wdR_u w (wd_fin he (Nat.le_refl _) h.lin.nl.2.2 (Or.inl fun i a b => by omega))
  subst u1
  subst u2
  exact ⟨by show v = 0; rw [show v = _ from h8, if_neg (by omega)], o, h5, h6, h7⟩
theorem s_digit {z : gZ} {f t : Nat} (hn : n ≤ 4000) (h5 : z.1 10 5 = f) (h6 : z.1 10 6 = t) (hft : f ≤ t) (ht : t ≤ n) (hT : ∀ j, j < n → z.1 11 j = T j) : (eqW T f (t - f) 5 ∧ ¬ eqW T f (t - f) 6 ∧ q_Text_digit E (kL c) z = some 0) ∨ (¬ eqW T f (t - f) 5 ∧ eqW T f (t - f) 6 ∧ q_Text_digit E (kL c) z = some 1) ∨ (¬ eqW T f (t - f) 5 ∧ ¬ eqW T f (t - f) 6 ∧ q_Text_digit E (kL c) z = some (-1)) := by
  have e5 : eqW T f (t - f) 5 ↔ (t - f = 1 ∧ T f = 48) := by
    unfold eqW
    constructor
    · rintro ⟨x, y⟩; exact ⟨x, y 0 (by decide)⟩
    · rintro ⟨x, y⟩
      refine ⟨x, fun j hj => ?_⟩
      have : j = 0 := by have : sN 5 = 1 := rfl; omega
      subst this; exact y
  have e6 : eqW T f (t - f) 6 ↔ (t - f = 1 ∧ T f = 49) := by
    unfold eqW
    constructor
    · rintro ⟨x, y⟩; exact ⟨x, y 0 (by decide)⟩
    · rintro ⟨x, y⟩
      refine ⟨x, fun j hj => ?_⟩
      have : j = 0 := by have : sN 6 = 1 := rfl; omega
      subst this; exact y
  rw [e5, e6]
  unfold q_Text_digit
  rw [h5, h6, if_pos (by omega)]
  by_cases x : t - f = 1
  · rw [if_pos (by omega), kL_11, if_pos (by omega), gtN, hT f (by omega)]
    by_cases y : T f = 48
    · exact Or.inl ⟨⟨x, y⟩, by omega, by rw [if_pos y]⟩
    · by_cases u : T f = 49
      · exact Or.inr (Or.inl ⟨by omega, ⟨x, u⟩, by rw [if_neg y, if_pos u]⟩)
      · exact Or.inr (Or.inr ⟨by omega, by omega, by rw [if_neg y, if_neg u]⟩)
  · exact Or.inr (Or.inr ⟨by omega, by omega, by rw [if_neg (by omega)]⟩)
/-- the next name, on both sides -/
theorem s_nxB {i : Nat} (h : LC T n p m W S e a b) (R : RR c G T n q nm nI nO nL nG a b) (U : US nm 150 b) (hi : i ≤ m) (hq : q ≤ psn p W S i) (h4 : a.1 10 4 = (psn p W S i : Nat)) : (∃ a' b', q_Reader_nextName E (kL c) a = some (-1, a') ∧ q_Model_name E (kL c) (i : Int) b = some (0, b') ∧ FF a' b' ∧ zOff pRa a a' ∧ zOff pRb b b' ∧ a'.1 22 16 = a.1 22 16) ∨ ∃ (v nm' : Nat) (a' b' : gZ), i < m ∧ v < nm' ∧ nm ≤ nm' ∧ q_Reader_nextName E (kL c) a = some ((v : Int), a') ∧ q_Model_name E (kL c) (i : Int) b = some ((v : Int), b') ∧ RR c G T n (W i + 1) nm' nI nO nL nG a' b' ∧ US nm' v b' ∧ (b'.1 101 v = 0 → b'.1 103 v = -1 → b'.1 99 v = W i) ∧ zOff pRa a a' ∧ zOff pRb b b' ∧ a'.1 10 5 = W i ∧ a'.1 10 4 = (psn p W S (i + 1) : Nat) ∧ a'.1 22 16 = a.1 22 16 := by
  by_cases im : i = m
  · subst im
    obtain ⟨⟨r, s⟩, hr, r1, ro, r5, r6, r4⟩ := s_nw0 (E := E) (c := c) h h4
    have r1 : r = 0 := r1
    have ro : zOff p46 a s := ro
    have r5 : s.1 10 5 = e := r5
    refine Or.inl ⟨zPut (zPut s 22 14 1) 22 15 (e : Int), zPut (zPut b 94 17 1) 94 18 (e : Int), ?_, s_name0 R.fb h.bm (Nat.le_refl _) h.be, FF_put (k := 1) (f := e) (by omega), off_t (off_w ro fun k j x => by unfold p46 at x; unfold pRa; omega) pRa_f, pRb_f, ro.2 22 16 (by unfold p46; omega)⟩
    unfold q_Reader_nextName
    rw [hr, b2_p, if_pos r1, s_refuse, b1_s, r5]
  · obtain ⟨⟨r, s⟩, hr, r1, ro, r5, r6, r4⟩ := s_nw1 (E := E) (c := c) h (i := i) (by omega) h4
    have r1 : r = 1 := r1
    have ro : zOff p46 a s := ro
    have r5 : s.1 10 5 = W i := r5
    have r6 : s.1 10 6 = ((W i + S i : Nat) : Int) := r6
    have r4 : s.1 10 4 = ((psn p W S (i + 1) : Nat) : Int) := r4
    have os : zOff pRa a s := off_w ro fun k j x => by unfold p46 at x; unfold pRa; omega
    have h2 := LC_o h os off_r
    have R2 : RR c G T n q nm nI nO nL nG s b := RR_c R (Nat.le_refl _) (fun k j hk => ro.2 k j (by unfold rA at hk; unfold p46; omega)) (fun _ _ _ => rfl)
    have hw := LC_w h2 (i := i) (by omega)
    have s16 : s.1 22 16 = a.1 22 16 := ro.2 22 16 (by unfold p46; omega)
    rcases s_nmB (E := E) (a := s) (b := b) h2 R2 U (i := i) (by omega) (by omega) r5 r6 with ⟨k, k1, q1, q2⟩ | ⟨v, nm', a', b', v1, v2, q1, q2, R3, U3, ux, oa', ob'⟩
    · refine Or.inl ⟨_, _, ?_, q2, FF_put ⟨k1.1, by omega⟩, off_t os pRa_f, pRb_f, s16⟩
      unfold q_Reader_nextName
      rw [hr, b2_p, if_neg (by omega), q1, b2_p]
    · refine Or.inr ⟨v, nm', a', b', by omega, v1, v2.1, ?_, q2, R3, U3, ux, off_t os (off_w oa' fun k j x => by unfold pNa at x; unfold pRa; omega), off_w ob' fun k j x => by unfold pNb at x; unfold pRb; omega, by rw [oa'.2 10 5 (by unfold pNa; omega)]; exact r5, by rw [oa'.2 10 4 (by unfold pNa; omega)]; exact r4, by rw [oa'.2 22 16 (by unfold pNa; omega)]; exact s16⟩
      unfold q_Reader_nextName
      rw [hr, b2_p, if_neg (by omega), q1, b2_p]
/-- a latch -/
theorem RR_lat {v d : Nat} {x : Int} (R : RR c G T n q nm nI nO nL nG a b) (hv : v < nm) (h0 : b.1 101 v = 0) (hd : d < nm) (hx : b01 x) : RR c G T n q nm nI nO (nL + 1) nG (zPut (zPut (zPut (zPut a 25 v ((200 + nL : Nat) : Int)) 26 nL (d : Int)) 27 nL x) 22 13 ((nL : Int) + 1)) (zPut (zPut (zPut (zPut (zPut (zPut b 101 v 2) 102 v (nL : Int)) 106 nL (d : Int)) 107 nL (v : Int)) 108 nL x) 94 31 ((nL : Int) + 1)) := by
  refine RR_make (src := ((200 + nL : Nat) : Int)) (how := 2) (wh := (nL : Int)) R hv h0 (Or.inr (Or.inl ⟨rfl, rfl, rfl, rfl, rfl, rfl⟩)) (fun k j hk => ?_) (fun k j hk => ?_) (fun j => rfl) (fun j => rfl) (fun j => rfl) R.ai R.bi (by rw [zp_eq]; omega) (by rw [zp_eq]; omega) R.ag R.bg R.io (fun i hi => ?_) (fun g hg hG => ?_) (fun j _ => rfl) (fun h => absurd h (by decide))
  · rw [zp1, zp1, zp1, zp1]
    by_cases x : k = 22
    · rw [if_pos x, if_neg (by omega), if_neg (by omega), if_neg (by omega), if_neg (by omega)]
    · rw [if_neg x, if_neg (by omega), if_neg (by omega), if_neg (by omega)]
  · rw [zp1, zp1, zp1, zp1, zp1, zp1]
    by_cases x : k = 94
    · rw [if_pos x, if_neg (by omega), if_neg (by omega), if_neg (by omega), if_neg (by omega), if_neg (by omega), if_neg (by omega)]
    · rw [if_neg x, if_neg (by omega), if_neg (by omega), if_neg (by omega), if_neg (by omega), if_neg (by omega)]
  · by_cases y : i = nL
    · refine ⟨d, hd, ?_, ?_, ?_, ?_⟩
      · show (if i = nL then (d : Int) else a.1 26 i) = d
        rw [if_pos y]
      · show (if i = nL then (d : Int) else b.1 106 i) = d
        rw [if_pos y]
      · show (if i = nL then x else a.1 27 i) = if i = nL then x else b.1 108 i
        rw [if_pos y, if_pos y]
      · show b01 (if i = nL then x else a.1 27 i)
        rw [if_pos y]; exact hx
    · obtain ⟨w, w1, w2, w3, w4, w5⟩ := R.lat i (by omega)
      refine ⟨w, w1, ?_, ?_, ?_, ?_⟩
      · show (if i = nL then (d : Int) else a.1 26 i) = w
        rw [if_neg y]; exact w2
      · show (if i = nL then (d : Int) else b.1 106 i) = w
        rw [if_neg y]; exact w3
      · show (if i = nL then x else a.1 27 i) = if i = nL then x else b.1 108 i
        rw [if_neg y, if_neg y]; exact w4
      · show b01 (if i = nL then x else a.1 27 i)
        rw [if_neg y]; exact w5
  · obtain ⟨m, w, v1, v2, v3, v4, v5, v6, v7, v8, v9, v10, v11, v12, v13, v14⟩ := R.gat g hg hG
    have hw : w ≠ v := fun x => by rw [x] at v8; omega
    refine ⟨m, w, v1, v2, v3, v4, v5, v6, v7, ?_, ?_, v10, v11, v12, v13, v14⟩
    · show (if w = v then (2 : Int) else b.1 101 w) = 3
      rw [if_neg hw]; exact v8
    · show (if w = v then (nL : Int) else b.1 102 w) = g
      rw [if_neg hw]; exact v9
end
end
-- J2
section
variable {E : gEv} {c : gCf}
theorem zp_c {s t : gZ} {k j x y : Nat} {v : Int} (h : s.1 k j = t.1 k j) : (zPut s x y v).1 k j = (zPut t x y v).1 k j := by
  rw [zp1, zp1, h]
theorem s_fail1 {k v : Int} {z : gZ} (h : z.1 94 17 ≠ 0) : q_Model_fail E (kL c) k v z = some z := by
  unfold q_Model_fail
  rw [if_neg h]
theorem lat_f {d v : Int} {z : gZ} (h : z.1 94 17 ≠ 0) : q_Model_latchLine_j103 E (kL c) d v z = some z := by
  unfold q_Model_latchLine_j103
  have j : q_Model_latchLine_j122 E (kL c) d v z = some z := by
    unfold q_Model_latchLine_j122
    rw [if_neg h]
  by_cases x : z.1 94 19 ≤ 4
  · rw [if_pos x, j]
  · rw [if_neg x, kL_97, if_pos (by omega), s_fail1 h, b1_s, j]
section
variable {T : Nat → Int} {n p m : Nat} {W S : Nat → Nat} {e q nm nI nO nL nG : Nat} {a b : gZ}
theorem s_latch (hS : SE E) (h : LC T n p m W S e a b) (R : RR c True T n p nm nI nO nL nG a b) (U : US nm 150 b) (hm : 1 ≤ m) (h4 : a.1 10 4 = (psn p W S 1 : Nat)) : ∃ a' b', q_Reader_readLatch E (kL c) a = some a' ∧ q_Model_latchLine E (kL c) b = some b' ∧ LR c T n p e a b a' b' ∧ a'.1 22 16 = a.1 22 16 := by
  have m2 := LC_m h
  have n4 := h.n4
  have he := LC_e h
  unfold q_Reader_readLatch q_Model_latchLine
  rcases s_nxB (E := E) h R U (i := 1) hm (LC_p h hm).1 h4 with ⟨a1, b1, x1, x2, ff, oa, ob, o16⟩ | ⟨d, nm1, a1, b1, i1, d1, d2, x1, x2, R1, U1, ux, oa, ob, o5, o4, o16⟩
  · obtain ⟨k, f, f1, f2, f3, f4, f5, f6⟩ := ff
    refine ⟨a1, b1, ?_, ?_, ⟨oa, ob, Or.inl ⟨k, f, f1, f2, f3, f4, f5, f6⟩⟩, o16⟩
    · rw [x1, b2_p, if_pos rfl]
      unfold q_Reader_readLatch_j18
      rw [if_pos rfl]
    · rw [show ((1 : Nat) : Int) = 1 from rfl] at x2
      rw [x2, b2_p, if_neg (by omega)]
  rw [show ((1 : Nat) : Int) = 1 from rfl] at x2
  rw [x1, b2_p, if_neg (by omega), x2, b2_p, if_pos (by have := R1.fb; omega), kL_97, if_pos (by omega)]
  have h1 := LC_o h oa ob
  rw [(h1.bw 1 i1).1]
  obtain ⟨b1', y1, R1', U1', ob1⟩ := s_used (E := E) (f := W 1) R1 d1 U1 ux
  rw [y1, b1_s]
  have ob' : zOff pRb b b1' := off_t ob (off_w ob1 fun k j x => by unfold pRb; omega)
  have h1' := LC_o h oa ob'
  have hw1 := LC_w h1' i1
  have ep2 : psn p W S 2 = W 1 + S 1 := rfl
  rcases s_nxB (E := E) h1' R1' U1' (i := 2) (by omega) (by omega) o4 with ⟨a2, b2, x3, x4, ff, oa2, ob2, o162⟩ | ⟨v, nm2, a2, b2, i2, v1, v2, x3, x4, R2, U2, ux2, oa2, ob2, o52, o42, o162⟩
  · obtain ⟨k, f, f1, f2, f3, f4, f5, f6⟩ := ff
    refine ⟨a2, b2, ?_, ?_, ⟨off_t oa oa2, off_t ob' ob2, Or.inl ⟨k, f, f1, f2, f3, f4, f5, f6⟩⟩, o162.trans o16⟩
    · rw [x3, b2_p]
      unfold q_Reader_readLatch_j18
      rw [if_pos rfl]
    · rw [show ((2 : Nat) : Int) = 2 from rfl] at x4
      rw [x4, b2_p, if_neg (by omega)]
  rw [show ((2 : Nat) : Int) = 2 from rfl] at x4
  have oaa : zOff pRa a a2 := off_t oa oa2
  have obb : zOff pRb b b2 := off_t ob' ob2
  have h2 := LC_o h oaa obb
  have hw2 := LC_w h2 i2
  have ep3 : psn p W S 3 = W 2 + S 2 := rfl
  rw [x3, b2_p, x4, b2_p, if_pos (by have := R2.fb; omega), if_pos (by omega), (h2.bw 2 i2).1, R2.bl]
  unfold q_Reader_readLatch_j18
  rw [if_neg (by omega), R2.al, o52]
  have n3 := R2.nb
  have nLb : nL ≤ 150 := by
    have := R2.cnt
    have := cnb_le (fun i => decide (b2.1 101 i ≠ 0)) nm2
    omega
  rw [if_pos (by omega), show (200 : Int) + (nL : Int) = ((200 + nL : Nat) : Int) by omega]
  rcases (s_mkB (E := E) (f := W 2) (src := ((200 + nL : Nat) : Int)) (how := 2) (wh := (nL : Int)) R2 v1).symm with ⟨y1, y2⟩ | ⟨x0, y1, y2⟩
  · refine ⟨zPut (zPut a2 22 14 3) 22 15 (W 2 : Int), zPut (zPut b2 94 17 3) 94 18 (W 2 : Int), ?_, ?_, ⟨off_t oaa pRa_f, off_t obb pRb_f, Or.inl (FF_put (k := 3) (f := W 2) (by omega))⟩, o162.trans o16⟩
    · rw [y1, b2_p, if_pos rfl]
    · have f3 : (zPut (zPut b2 94 17 3) 94 18 (W 2 : Int)).1 94 17 = 3 := rfl
      rw [y2, b1_s, f3, if_neg (by omega)]
      exact lat_f (by rw [f3]; omega)
  · have lt := RR_lt R2 v1 x0
    generalize ha3 : zPut a2 25 v ((200 + nL : Nat) : Int) = a3 at *
    generalize hb3 : zPut (zPut b2 101 v 2) 102 v (nL : Int) = b3 at *
    have oa3 : zOff pRa a a3 := by rw [← ha3]; exact off_t oaa (off_put (by unfold pRa; omega))
    have ob3 : zOff pRb b b3 := by rw [← hb3]; exact off_t obb (off_t (off_put (by unfold pRb; omega)) (off_put (by unfold pRb; omega)))
    have h3 := LC_o h oa3 ob3
    have a13 : a3.1 22 13 = nL := by rw [← ha3]; exact R2.al
    have a16 : a3.1 22 16 = a.1 22 16 := by rw [← ha3]; exact o162.trans o16
    have a4 : a3.1 10 4 = (psn p W S 3 : Nat) := by rw [← ha3]; exact o42
    have b17 : b3.1 94 17 = 0 := by rw [← hb3]; exact R2.fb
    have b31 : b3.1 94 31 = nL := by rw [← hb3]; exact R2.bl
    have RL : ∀ x : Int, b01 x → RR c True T n (e + 1) nm2 nI nO (nL + 1) nG (zPut (zPut (zPut a3 26 nL (d : Int)) 27 nL x) 22 13 ((nL : Int) + 1)) (zPut (zPut (zPut (zPut b3 106 nL (d : Int)) 107 nL (v : Int)) 108 nL x) 94 31 ((nL : Int) + 1)) := fun x hx => by
      rw [← ha3, ← hb3]
      exact RR_c (RR_lat R2 v1 x0 (by omega) hx) (by omega) (fun _ _ _ => rfl) (fun _ _ _ => rfl)
    have U3 : ∀ x : Int, US nm2 150 (zPut (zPut (zPut (zPut b3 106 nL (d : Int)) 107 nL (v : Int)) 108 nL x) 94 31 ((nL : Int) + 1)) := fun x j j1 j2 j3 => by
      rw [← hb3] at j3 ⊢
      have j3 : (if j = v then (2 : Int) else b2.1 101 j) = 0 := j3
      by_cases y : j = v
      · rw [if_pos y] at j3; omega
      · rw [if_neg y] at j3; exact U2 j j1 y j3
    -- the class's tail
    have C1 : ∀ (s : gZ) (x : Int), b01 x → s.1 22 13 = nL → q_Reader_readLatch_j79 E (kL c) (d : Int) x s = gB1 (q_Reader_refuseMore E (kL c) (zPut (zPut (zPut s 26 nL (d : Int)) 27 nL x) 22 13 ((nL : Int) + 1))) fun s13 => some s13 := fun s x hx hs => by
      unfold q_Reader_readLatch_j79
      rw [if_neg (by unfold b01 at hx; omega), hs, kL_26, if_pos (by omega), let_s, gtN, show (zPut s 26 nL (d : Int)).1 22 13 = nL from hs, kL_27, if_pos (by omega), let_s, gtN, show (zPut (zPut s 26 nL (d : Int)) 27 nL x).1 22 13 = nL from hs, if_pos (by omega), let_s]
    have J181 : ∀ (x : Int), q_Model_latchLine_j181 E (kL c) (nL : Int) x (zPut (zPut b3 106 nL (d : Int)) 107 nL (v : Int)) = some (zPut (zPut (zPut (zPut b3 106 nL (d : Int)) 107 nL (v : Int)) 108 nL x) 94 31 ((nL : Int) + 1)) := fun x => by
      unfold q_Model_latchLine_j181
      rw [kL_108, if_pos (by omega), let_s, gtN, show (zPut (zPut (zPut b3 106 nL (d : Int)) 107 nL (v : Int)) 108 nL x).1 94 31 = nL from b31, if_pos (by omega), let_s]
    -- the end of a good line
    have good : ∀ (s s5 : gZ) (x : Int), b01 x → zOff p46 a3 s → zOff p46 (zPut (zPut (zPut s 26 nL (d : Int)) 27 nL x) 22 13 ((nL : Int) + 1)) s5 → s5.1 10 4 = e → LR c T n p e a b s5 (zPut (zPut (zPut (zPut b3 106 nL (d : Int)) 107 nL (v : Int)) 108 nL x) 94 31 ((nL : Int) + 1)) ∧ s5.1 22 16 = a.1 22 16 := fun s s5 x hx os o5 e4 => by
      refine ⟨⟨off_t oa3 (off_t (off_w os fun k j y => by unfold p46 at y; unfold pRa; omega) (off_t (off_t (off_put (by unfold pRa; omega)) (off_t (off_put (by unfold pRa; omega)) (off_put (by unfold pRa; omega)))) (off_w o5 fun k j y => by unfold p46 at y; unfold pRa; omega))), off_t ob3 (off_t (off_put (by unfold pRb; omega)) (off_t (off_put (by unfold pRb; omega)) (off_t (off_put (by unfold pRb; omega)) (off_put (by unfold pRb; omega))))), Or.inr ⟨nm2, nI, nO, nL + 1, nG, RR_c (RL x hx) (Nat.le_refl _) (fun k j hk => ?_) (fun _ _ _ => rfl), U3 x, e, e4, (LC_p h (i := 0) (by omega)).2, Nat.le_refl _⟩⟩, ?_⟩
      · rw [o5.2 k j (by unfold rA at hk; unfold p46; omega)]
        exact zp_c (zp_c (zp_c (os.2 k j (by unfold rA at hk; unfold p46; omega))))
      · rw [o5.2 22 16 (by unfold p46; omega)]
        show s.1 22 16 = _
        rw [os.2 22 16 (by unfold p46; omega)]; exact a16
    have LCs : ∀ (s : gZ) (x : Int), zOff p46 a3 s → LC T n p m W S e (zPut (zPut (zPut s 26 nL (d : Int)) 27 nL x) 22 13 ((nL : Int) + 1)) b3 := fun s x os => LC_c h3 (fun k j hk => by
      show (zPut (zPut (zPut s 26 nL (d : Int)) 27 nL x) 22 13 ((nL : Int) + 1)).1 k j = _
      rw [zp1, if_neg (by omega), zp1, if_neg (by omega), zp1, if_neg (by omega)]
      exact os.2 k j (by unfold p46; omega)) (fun _ _ _ => rfl)
    have f0 : (1 : Int) ≠ 0 := by decide
    rw [y1, b2_p, if_neg f0, a13, if_pos (by omega), y2, b1_s, b17, if_pos rfl, h3.bm]
    by_cases m3 : m = 3
    · obtain ⟨⟨r, s⟩, hr, r1, ro, r5, r6, r4⟩ := s_nw0 (E := E) (c := c) h3 (by rw [m3]; exact a4)
      have r1 : r = 0 := r1
      have ro : zOff p46 a3 s := ro
      have r4 : s.1 10 4 = e := r4
      have s13 : s.1 22 13 = nL := by rw [ro.2 22 13 (by unfold p46; omega)]; exact a13
      obtain ⟨⟨r', s5⟩, hr', r1', ro', r5', r6', r4'⟩ := s_nwE (E := E) (c := c) (LCs s 0 ro) r4
      have r1' : r' = 0 := r1'
      refine ⟨s5, zPut (zPut (zPut (zPut b3 106 nL (d : Int)) 107 nL (v : Int)) 108 nL 0) 94 31 ((nL : Int) + 1), ?_, ?_, good s s5 0 (Or.inl rfl) ro ro' r4'⟩
      · rw [hr, b2_p, if_pos r1, C1 s 0 (Or.inl rfl) s13]
        unfold q_Reader_refuseMore
        rw [hr', b2_p, if_pos r1', b1_s]
      · rw [if_pos (by omega)]
        unfold q_Model_latchLine_j103
        rw [h3.bm, if_pos (by omega)]
        unfold q_Model_latchLine_j122
        rw [if_pos b17, b31, kL_106, if_pos (by omega), let_s, gtN, show (zPut b3 106 nL (d : Int)).1 94 31 = nL from b31, kL_107, if_pos (by omega), let_s, gtN, show (zPut (zPut b3 106 nL (d : Int)) 107 nL (v : Int)).1 94 19 = m from h3.bm, if_pos (by omega), show (zPut (zPut b3 106 nL (d : Int)) 107 nL (v : Int)).1 94 31 = nL from b31]
        unfold q_Model_latchLine_j180
        exact J181 0
    · obtain ⟨⟨r, s⟩, hr, r1, ro, r5, r6, r4⟩ := s_nw1 (E := E) (c := c) h3 (i := 3) (by omega) a4
      have r1 : r = 1 := r1
      have ro : zOff p46 a3 s := ro
      have r5 : s.1 10 5 = W 3 := r5
      have r6 : s.1 10 6 = ((W 3 + S 3 : Nat) : Int) := r6
      have r4 : s.1 10 4 = ((psn p W S 4 : Nat) : Int) := r4
      have s13 : s.1 22 13 = nL := by rw [ro.2 22 13 (by unfold p46; omega)]; exact a13
      have hw3 := LC_w h3 (i := 3) (by omega)
      have w97 := h3.bw 3 (by omega)
      have i5 := s_isWordM (E := E) (c := c) (z := b3) (i := 5) (k := 3) hS (by omega) n4 (by omega) w97.1 w97.2 (by omega) h3.tb
      have i6 := s_isWordM (E := E) (c := c) (z := b3) (i := 6) (k := 3) hS (by omega) n4 (by omega) w97.1 w97.2 (by omega) h3.tb
      rw [show ((3 : Nat) : Int) = 3 from rfl] at i5 i6
      have os : zOff pRa a s := off_t oa3 (off_w ro fun k j y => by unfold p46 at y; unfold pRa; omega)
      have dg := s_digit (E := E) (c := c) (z := s) (T := T) n4 r5 r6 (by omega) (by omega) (LC_o h os ob3).ta
      rw [show W 3 + S 3 - W 3 = S 3 by omega] at dg
      rw [hr, b2_p, if_neg (by omega), if_neg (by omega), i5, b1_s]
      have rest : ∀ x : Int, b01 x → (x = 1 ↔ eqW T (W 3) (S 3) 6) → ∃ a' b', q_Reader_readLatch_j79 E (kL c) (d : Int) x s = some a' ∧ q_Model_latchLine_j103 E (kL c) (d : Int) (v : Int) b3 = some b' ∧ LR c T n p e a b a' b' ∧ a'.1 22 16 = a.1 22 16 := fun x hx hx6 => by
        rw [C1 s x hx s13]
        unfold q_Reader_refuseMore
        by_cases m4 : m = 4
        · obtain ⟨⟨r', s5⟩, hr', r1', ro', r5', r6', r4'⟩ := s_nw0 (E := E) (c := c) (LCs s x ro) (by rw [m4]; exact r4)
          have r1' : r' = 0 := r1'
          refine ⟨s5, zPut (zPut (zPut (zPut b3 106 nL (d : Int)) 107 nL (v : Int)) 108 nL x) 94 31 ((nL : Int) + 1), ?_, ?_, good s s5 x hx ro ro' r4'⟩
          · rw [hr', b2_p, if_pos r1', b1_s]
          · unfold q_Model_latchLine_j103
            rw [h3.bm, if_pos (by omega)]
            unfold q_Model_latchLine_j122
            have i6' := s_isWordM (E := E) (c := c) (z := zPut (zPut b3 106 nL (d : Int)) 107 nL (v : Int)) (i := 6) (k := 3) hS (by omega) n4 (by omega) w97.1 w97.2 (by omega) h3.tb
            rw [show ((3 : Nat) : Int) = 3 from rfl] at i6'
            rw [if_pos b17, b31, kL_106, if_pos (by omega), let_s, gtN, show (zPut b3 106 nL (d : Int)).1 94 31 = nL from b31, kL_107, if_pos (by omega), let_s, gtN, show (zPut (zPut b3 106 nL (d : Int)) 107 nL (v : Int)).1 94 19 = m from h3.bm, if_neg (by omega), i6', b1_s, show (zPut (zPut b3 106 nL (d : Int)) 107 nL (v : Int)).1 94 31 = nL from b31]
            rcases hx with hx | hx
            · rw [dI_f fun y => by have := hx6.2 y; omega, if_pos rfl]
              unfold q_Model_latchLine_j180
              rw [J181 0, hx]
            · rw [dI_t (hx6.1 hx), if_neg (by omega), J181 1, hx]
        · obtain ⟨⟨r', s5⟩, hr', r1', ro', r5', r6', r4'⟩ := s_nw1 (E := E) (c := c) (LCs s x ro) (i := 4) (by omega) r4
          have r1' : r' = 1 := r1'
          have r5' : s5.1 10 5 = W 4 := r5'
          have ro' : zOff p46 (zPut (zPut (zPut s 26 nL (d : Int)) 27 nL x) 22 13 ((nL : Int) + 1)) s5 := ro'
          refine ⟨zPut (zPut s5 22 14 1) 22 15 (W 4 : Int), zPut (zPut b3 94 17 1) 94 18 (W 4 : Int), ?_, ?_, ⟨off_t os (off_t (off_t (off_t (off_put (by unfold pRa; omega)) (off_t (off_put (by unfold pRa; omega)) (off_put (by unfold pRa; omega)))) (off_w ro' fun k j y => by unfold p46 at y; unfold pRa; omega)) pRa_f), off_t ob3 pRb_f, Or.inl (FF_put (k := 1) (f := W 4) (by omega))⟩, ?_⟩
          · rw [hr', b2_p, if_neg (by omega), s_refuse, b1_s, r5', b1_s]
          · unfold q_Model_latchLine_j103
            rw [h3.bm, if_neg (by omega), kL_97, if_pos (by omega), s_fail b17, b1_s, (h3.bw 4 (by omega)).1]
            unfold q_Model_latchLine_j122
            rw [if_neg (show ¬ ((zPut (zPut b3 94 17 1) 94 18 (W 4 : Int)).1 94 17 = 0) from f0)]
          · show s5.1 22 16 = _
            rw [ro'.2 22 16 (by unfold p46; omega)]
            show s.1 22 16 = _
            rw [ro.2 22 16 (by unfold p46; omega)]; exact a16
      rcases dg with ⟨g5, g6, gd⟩ | ⟨g5, g6, gd⟩ | ⟨g5, g6, gd⟩
      · rw [gd, b1_s, dI_t g5, if_neg f0]
        exact rest 0 (Or.inl rfl) ⟨fun y => by omega, fun y => absurd y g6⟩
      · rw [gd, b1_s, dI_f g5, if_pos rfl, i6, b1_s, dI_t g6, if_neg f0]
        exact rest 1 (Or.inr rfl) ⟨fun _ => g6, fun _ => rfl⟩
      · rw [gd, b1_s, dI_f g5, if_pos rfl, i6, b1_s, dI_f g6, if_pos rfl, if_pos (by omega), w97.1, s_fail b17, b1_s, lat_f (show (zPut (zPut b3 94 17 1) 94 18 (W 3 : Int)).1 94 17 ≠ 0 from f0)]
        refine ⟨zPut (zPut s 22 14 1) 22 15 (W 3 : Int), _, ?_, rfl, ⟨off_t os pRa_f, off_t ob3 pRb_f, Or.inl (FF_put (k := 1) (f := W 3) (by omega))⟩, ?_⟩
        · unfold q_Reader_readLatch_j79
          rw [if_pos rfl, s_refuse, b1_s, r5]
        · show s.1 22 16 = _
          rw [ro.2 22 16 (by unfold p46; omega)]; exact a16
end
end
-- J3
section
variable {E : gEv} {c : gCf}
/-- two loops, step by step, K steps -/
theorem it_pre {σ τ ε δ : Type} {f : σ → Option (σ ⊕ ε)} {g : τ → Option (τ ⊕ δ)} (I : Nat → σ → τ → Prop) (K : Nat) {Q : ε → δ → Prop} (hK : K < 1000000000) (h : ∀ i s t, i < K → I i s t → (∃ s' t', f s = some (.inl s') ∧ g t = some (.inl t') ∧ I (i + 1) s' t') ∨ ∃ e t' d, f s = some (.inr e) ∧ g t = some (.inl t') ∧ g t' = some (.inr d) ∧ Q e d) {s : σ} {t : τ} (h0 : I 0 s t) : (∃ e d, gIter f gN s = some e ∧ gIter g gN t = some d ∧ Q e d) ∨ ∃ s' t' k, I K s' t' ∧ gIter f gN s = gIter f (k + 3) s' ∧ gIter g gN t = gIter g (k + 3) t' := by
  have key : ∀ (d i k : Nat) (s : σ) (t : τ), i + d = K → d + 10 ≤ k → I i s t → (∃ e d, gIter f k s = some e ∧ gIter g k t = some d ∧ Q e d) ∨ ∃ s' t' k', I K s' t' ∧ gIter f k s = gIter f (k' + 3) s' ∧ gIter g k t = gIter g (k' + 3) t' := by
    intro d
    induction d with
    | zero =>
      intro i k s t h1 h2 hI
      have : i = K := by omega
      subst this
      exact Or.inr ⟨s, t, k - 3, hI, by rw [show k - 3 + 3 = k by omega], by rw [show k - 3 + 3 = k by omega]⟩
    | succ d ih =>
      intro i k s t h1 h2 hI
      obtain ⟨k, rfl⟩ : ∃ k', k = k' + 1 := ⟨k - 1, by omega⟩
      rcases h i s t (by omega) hI with ⟨s', t', e1, e2, e3⟩ | ⟨e, t', d', e1, e2, e3, e4⟩
      · rw [it_step e1, it_step e2]
        exact ih (i + 1) k s' t' (by omega) (by omega) e3
      · obtain ⟨k, rfl⟩ : ∃ k', k = k' + 1 := ⟨k - 1, by omega⟩
        exact Or.inl ⟨e, d', it_end e1, by rw [it_step e2]; exact it_end e3, e4⟩
  exact key K 0 gN s t (by omega) (by unfold gN; omega) h0
section
variable {T : Nat → Int} {n p m : Nat} {W S : Nat → Nat} {e q nm nI nO nL nG : Nat} {a b : gZ}
/-- row 111 of the gate that is being read -/
theorem RR_111 {x : Nat} {w : Int} (R : RR c (nG < 150) T n q nm nI nO nL nG a b) (hx : nG < 150 → 8 * nG ≤ x) : RR c (nG < 150) T n q nm nI nO nL nG a (zPut b 111 x w) := by
  obtain ⟨h1, h2, h3, h4, h5, h6, h7, h8, h9, h10, h11, h12, h13, h14, h15, h16, h17, h18, h19, h20, h21, h22, h23, h24⟩ := R
  refine ⟨h1, h2, h3, h4, h5, h6, h7, h8, h9, h10, h11, h12, h13, h14, h15, h16, h17, h18, h19, fun g hg hG => ?_, h21, h22, h23, h24⟩
  obtain ⟨m, v, v1, v2, v3, v4, v5, v6, v7, v8, v9, v10, v11, v12, v13, v14⟩ := h20 g hg hG
  refine ⟨m, v, v1, v2, v3, v4, v5, v6, v7, v8, v9, v10, v11, fun i hi => ?_, v13, v14⟩
  obtain ⟨w', w1, w2, w3⟩ := v12 i hi
  refine ⟨w', w1, w2, ?_⟩
  have := hx hG
  show (if 8 * g + i = x then w else b.1 111 (8 * g + i)) = w'
  rw [if_neg (by omega)]; exact w3
/-- a gate -/
theorem RR_gate {v K f : Nat} {a' b' : gZ} (R : RR c (nG < 150) T n q nm nI nO nL nG a b) (hv : v < nm) (h0 : b.1 101 v = 0) (hK : K ≤ 8) (hin : ∀ j, j < K → ∃ w : Nat, w < nm ∧ a.1 28 j = w ∧ b.1 111 (8 * nG + j) = w)
    (ha : ∀ k j, rA k j → ¬ (k = 25 ∧ j = v) → ¬ ((k = 14 ∨ k = 15 ∨ k = 17) ∧ j = nG) → ¬ (k = 16 ∧ 8 * nG ≤ j ∧ j < 8 * nG + 8) → k ≠ 13 → a'.1 k j = a.1 k j)
    (a25 : a'.1 25 v = ((1000 + nG : Nat) : Int)) (a14 : a'.1 14 nG = f) (a15 : a'.1 15 nG = K) (a16 : ∀ j, j < K → a'.1 16 (8 * nG + j) = a.1 28 j) (a17 : a'.1 17 nG = v) (a13 : a'.1 13 8 = ((nG + 1 : Nat) : Int))
    (hb : ∀ k j, rB k j → ¬ ((k = 101 ∨ k = 102) ∧ j = v) → ¬ ((k = 109 ∨ k = 110 ∨ k = 112 ∨ k = 113) ∧ j = nG) → ¬ (k = 114 ∧ 256 * nG ≤ j ∧ j < 256 * nG + 256) → ¬ (k = 94 ∧ j = 32) → b'.1 k j = b.1 k j)
    (b101 : b'.1 101 v = 3) (b102 : b'.1 102 v = nG) (b109 : b'.1 109 nG = f) (b110 : b'.1 110 nG = K) (b112 : b'.1 112 nG = v) (b113 : b'.1 113 nG = -1) (b114 : ∀ x, x < 256 → b'.1 114 (256 * nG + x) = 0) (b32 : b'.1 94 32 = ((nG + 1 : Nat) : Int)) : RR c True T n q nm nI nO nL (nG + 1) a' b' := by
  have lt := RR_lt R hv h0
  have R' : RR c True T n q nm nI nO nL nG a b := by
    obtain ⟨h1, h2, h3, h4, h5, h6, h7, h8, h9, h10, h11, h12, h13, h14, h15, h16, h17, h18, h19, h20, h21, h22, h23, h24⟩ := R
    exact ⟨h1, h2, h3, h4, h5, h6, h7, h8, h9, h10, h11, h12, h13, h14, h15, h16, h17, h18, h19, fun g hg _ => h20 g hg (by omega), h21, h22, h23, h24⟩
  have c25 : ∀ j, a'.1 25 j = if j = v then ((1000 + nG : Nat) : Int) else a.1 25 j := fun j => by
    by_cases x : j = v
    · rw [if_pos x, x]; exact a25
    · rw [if_neg x]; exact ha 25 j (by unfold rA; omega) (by omega) (by omega) (by omega) (by omega)
  have c101 : ∀ j, b'.1 101 j = if j = v then 3 else b.1 101 j := fun j => by
    by_cases x : j = v
    · rw [if_pos x, x]; exact b101
    · rw [if_neg x]; exact hb 101 j (by unfold rB; omega) (by omega) (by omega) (by omega) (by omega)
  have c102 : ∀ j, b'.1 102 j = if j = v then (nG : Int) else b.1 102 j := fun j => by
    by_cases x : j = v
    · rw [if_pos x, x]; exact b102
    · rw [if_neg x]; exact hb 102 j (by unfold rB; omega) (by omega) (by omega) (by omega) (by omega)
  have r : ∀ k j, (k = 22 ∧ 10 ≤ j ∧ j ≤ 15) ∨ k = 18 ∨ k = 19 ∨ k = 23 ∨ k = 24 ∨ k = 26 ∨ k = 27 ∨ k = 29 → a'.1 k j = a.1 k j := fun k j hk => ha k j (by unfold rA; omega) (by omega) (by omega) (by omega) (by omega)
  have s : ∀ k j, (k = 94 ∧ (j = 17 ∨ j = 18 ∨ j = 23 ∨ (29 ≤ j ∧ j ≤ 31))) ∨ k = 99 ∨ k = 100 ∨ (103 ≤ k ∧ k ≤ 108) ∨ k = 111 → b'.1 k j = b.1 k j := fun k j hk => hb k j (by unfold rB; omega) (by omega) (by omega) (by omega) (by omega)
  refine RR_make (src := ((1000 + nG : Nat) : Int)) (how := 3) (wh := (nG : Int)) R' hv h0 (Or.inr (Or.inr ⟨rfl, rfl, rfl, rfl, rfl, rfl⟩)) (fun k j hk => r k j (by omega)) (fun k j hk => s k j (by omega)) c25 c101 c102 (by rw [r 22 11 (by omega)]; exact R.ai) (by rw [s 94 29 (by omega)]; exact R.bi) (by rw [r 22 13 (by omega)]; exact R.al) (by rw [s 94 31 (by omega)]; exact R.bl) a13 b32 R.io (fun i hi => ?_) (fun g hg _ => ?_) (fun j hj => hb 112 j (by unfold rB; omega) (by omega) (by omega) (by omega) (by omega)) (fun _ => b112)
  · rw [r 26 i (by omega), r 27 i (by omega), s 106 i (by omega), s 108 i (by omega)]
    exact R.lat i hi
  · by_cases y : g = nG
    · subst y
      obtain ⟨f1, f2⟩ := R.fl g (Nat.le_refl _) (by omega)
      refine ⟨K, v, hK, hv, by rw [a14, b109], a15, b110, a17, b112, b101, b102, by rw [r 18 g (by omega), f1, b113], Or.inl (by rw [r 18 g (by omega)]; exact f1), fun i hi => ?_, fun x hx => ?_, fun x hx => ?_⟩
      · obtain ⟨w, w1, w2, w3⟩ := hin i hi
        exact ⟨w, w1, by rw [a16 i hi]; exact w2, by rw [s 111 _ (by omega)]; exact w3⟩
      · rw [b114 x hx, r 19 _ (by omega), f2 (x / 32) (by omega), zB_0]
        exact ⟨Or.inl rfl, by decide⟩
      · rw [r 19 _ (by omega), f2 x hx]
        omega
    · obtain ⟨m, w, v1, v2, v3, v4, v5, v6, v7, v8, v9, v10, v11, v12, v13, v14⟩ := R'.gat g (by omega) trivial
      have hw : w ≠ v := fun x => by rw [x] at v8; omega
      have q : ∀ k j, rA k j → k ≠ 25 → k ≠ 13 → (k ≠ 16 → j = g ∨ 18 ≤ k) → (k = 16 → j < 8 * nG) → a'.1 k j = a.1 k j := fun k j x1 x2 x3 x4 x5 => ha k j x1 (by omega) (by omega) (by omega) x3
      refine ⟨m, w, v1, v2, ?_, ?_, ?_, ?_, ?_, ?_, ?_, ?_, ?_, fun i hi => ?_, fun x hx => ?_, fun x hx => ?_⟩
      · rw [q 14 g (by unfold rA; omega) (by omega) (by omega) (by omega) (by omega), hb 109 g (by unfold rB; omega) (by omega) (by omega) (by omega) (by omega)]; exact v3
      · rw [q 15 g (by unfold rA; omega) (by omega) (by omega) (by omega) (by omega)]; exact v4
      · rw [hb 110 g (by unfold rB; omega) (by omega) (by omega) (by omega) (by omega)]; exact v5
      · rw [q 17 g (by unfold rA; omega) (by omega) (by omega) (by omega) (by omega)]; exact v6
      · rw [hb 112 g (by unfold rB; omega) (by omega) (by omega) (by omega) (by omega)]; exact v7
      · rw [c101, if_neg hw]; exact v8
      · rw [c102, if_neg hw]; exact v9
      · rw [r 18 g (by omega), hb 113 g (by unfold rB; omega) (by omega) (by omega) (by omega) (by omega)]; exact v10
      · rw [r 18 g (by omega)]; exact v11
      · obtain ⟨w', w1, w2, w3⟩ := v12 i hi
        exact ⟨w', w1, by rw [q 16 _ (by unfold rA; omega) (by omega) (by omega) (by omega) (by omega)]; exact w2, by rw [s 111 _ (by omega)]; exact w3⟩
      · rw [r 19 _ (by omega), hb 114 _ (by unfold rB; omega) (by omega) (by omega) (by omega) (by omega)]; exact v13 x hx
      · rw [r 19 _ (by omega)]; exact v14 x hx
end
end
-- J4
section
variable {E : gEv} {c : gCf}
def funC (E : gEv) (c : gCf) (x1 : Int) (e9 : (Int × gZ) ⊕ ((gZ) ⊕ (Int × Int × gZ))) : Option gZ := gSum e9 (fun e25 => gB1 (q_Reader_refuse E (kL c) 2 e25.1 e25.2) fun s13 => some s13) (fun e26 => gSum e26 (fun e27 => some e27) (fun e28 => q_Reader_readNames_j76 E (kL c) x1 e28.1 e28.2.1 e28.2.2))
theorem fun_f {x y : Int} {z : gZ} (h : 0 < z.1 94 17) : q_Model_functionLine_j108 E (kL c) x y z = some z := by
  have j : q_Model_functionLine_j162 E (kL c) x y z = some z := by
    unfold q_Model_functionLine_j162
    rw [if_neg (by omega)]
  unfold q_Model_functionLine_j108
  by_cases e : x ≤ 8
  · rw [if_pos e, j]
  · rw [if_neg e, if_neg (by omega), j]
theorem fun_e {x y k : Int} {z : gZ} (h : x < k ∨ 8 < k ∨ z.1 94 17 ≠ 0) : q_Model_functionLine_32 E (kL c) x y k z = some (.inr z) := by
  unfold q_Model_functionLine_32
  by_cases e : x < k
  · rw [if_pos e]
  · rw [if_neg e]
    by_cases e2 : 8 < k
    · rw [if_pos e2]
    · rw [if_neg e2, if_neg (by omega)]
section
variable {T : Nat → Int} {n p m : Nat} {W S : Nat → Nat} {e q nm nI nO nL nG : Nat} {a b : gZ}
/-- the state in the words of a .names line: i of them were read -/
def FI' (c : gCf) (T : Nat → Int) (n p : Nat) (W S : Nat → Nat) (nI nO nL nG : Nat) (a b : gZ) (i : Nat) (s : Int × Int × gZ) (t : Int × gZ) : Prop := s.1 = W i ∧ s.2.1 = (i : Int) ∧ t.1 = (i : Int) + 1 ∧ ∃ nm : Nat, zOff pRa a s.2.2 ∧ zOff pRb b t.2 ∧ RR c (nG < 150) T n (psn p W S (i + 1)) nm nI nO nL nG s.2.2 t.2 ∧ US nm 150 t.2 ∧ s.2.2.1 10 4 = (psn p W S (i + 1) : Nat) ∧ s.2.2.1 22 16 = a.1 22 16 ∧ ∀ j, j < i → ∃ w : Nat, w < nm ∧ s.2.2.1 28 j = w ∧ (nG < 150 → t.2.1 111 (8 * nG + j) = w)
/-- one word of a .names line: the class takes it, the reference looks it up -/
theorem s_fw {i : Nat} {a1 b1 : gZ} {l : Int} (h : LC T n p m W S e a b) (hi : i + 1 < m) (i8 : i ≤ 8) (oa : zOff pRa a a1) (ob : zOff pRb b b1) (R : RR c (nG < 150) T n (psn p W S (i + 1)) nm nI nO nL nG a1 b1) (U : US nm 150 b1) (h4 : a1.1 10 4 = (psn p W S (i + 1) : Nat)) (x1 : Int) : (∃ k : Nat, (1 ≤ k ∧ k ≤ 2 ∧ (k = 1 ↔ T (W (i + 1)) = 46)) ∧ ∃ a', q_Reader_readNames_12 E (kL c) x1 l (i : Int) a1 = some (.inr (.inr (.inl a'))) ∧ zOff pRa a a' ∧ a'.1 22 14 = k ∧ a'.1 22 15 = W (i + 1) ∧ q_Model_name E (kL c) ((i + 1 : Nat) : Int) b1 = some (0, zPut (zPut b1 94 17 k) 94 18 (W (i + 1)))) ∨ ∃ (v nm' : Nat) (a' b' : gZ), v < nm' ∧ (nm ≤ nm' ∧ T (W (i + 1)) ≠ 46) ∧ q_Reader_readNames_12 E (kL c) x1 l (i : Int) a1 = some (.inl ((W (i + 1) : Int), (i : Int) + 1, a')) ∧ q_Model_name E (kL c) ((i + 1 : Nat) : Int) b1 = some ((v : Int), b') ∧ RR c (nG < 150) T n (W (i + 1) + 1) nm' nI nO nL nG a' b' ∧ US nm' v b' ∧ (b'.1 101 v = 0 → b'.1 103 v = -1 → b'.1 99 v = W (i + 1)) ∧ zOff pRa a a' ∧ zOff pRb b b' ∧ a'.1 10 4 = (psn p W S (i + 1 + 1) : Nat) ∧ a'.1 22 16 = a1.1 22 16 ∧ (∀ j, a'.1 28 j = if j = i then (v : Int) else a1.1 28 j) ∧ ∀ j, b'.1 111 j = b1.1 111 j := by
  have h1 := LC_o h oa ob
  obtain ⟨⟨r, s⟩, hr, r1, ro, r5, r6, r4⟩ := s_nw1 (E := E) (c := c) h1 (i := i + 1) hi h4
  have r1 : r = 1 := r1
  have ro : zOff p46 a1 s := ro
  have r5 : s.1 10 5 = W (i + 1) := r5
  have r6 : s.1 10 6 = ((W (i + 1) + S (i + 1) : Nat) : Int) := r6
  have r4 : s.1 10 4 = ((psn p W S (i + 1 + 1) : Nat) : Int) := r4
  have os : zOff pRa a s := off_t oa (off_w ro fun k j x => by unfold p46 at x; unfold pRa; omega)
  have h2 := LC_o h os ob
  have R2 : RR c (nG < 150) T n (psn p W S (i + 1)) nm nI nO nL nG s b1 := RR_c R (Nat.le_refl _) (fun k j hk => ro.2 k j (by unfold rA at hk; unfold p46; omega)) (fun _ _ _ => rfl)
  have hw := LC_w h2 (i := i + 1) hi
  rcases s_nmB (E := E) (a := s) (b := b1) h2 R2 U (i := i + 1) hi hw.2.1 r5 r6 with ⟨k, k1, q1, q2⟩ | ⟨v, nm', a', b', v1, v2, q1, q2, R3, U3, ux, oa', ob'⟩
  · refine Or.inl ⟨k, k1, zPut (zPut (zPut s 22 14 k) 22 15 (W (i + 1))) 28 i (-1), ?_, off_t (off_t os pRa_f) (off_put (by unfold pRa; omega)), rfl, rfl, q2⟩
    have f : (zPut (zPut (zPut s 22 14 (k : Int)) 22 15 (W (i + 1) : Int)) 28 i (-1)).1 28 i = -1 := zp_eq _ _ _ _
    unfold q_Reader_readNames_12
    rw [if_neg (by omega), hr, b2_p, if_neg (by omega), if_pos (by omega), let_s, q1, b2_p, kL_28, if_pos (by omega), let_s, gtN, f, if_pos rfl]
  · refine Or.inr ⟨v, nm', zPut a' 28 i (v : Int), b', v1, v2, ?_, q2, RR_c R3 (Nat.le_refl _) (fun k j hk => by rw [zp1, if_neg (by unfold rA at hk; omega)]) (fun _ _ _ => rfl), U3, ux, off_t (off_t os (off_w oa' fun k j x => by unfold pNa at x; unfold pRa; omega)) (off_put (by unfold pRa; omega)), off_t ob (off_w ob' fun k j x => by unfold pNb at x; unfold pRb; omega), ?_, ?_, fun j => ?_, fun j => ob'.2 111 j (by unfold pNb; omega)⟩
    · have f : (zPut a' 28 i (v : Int)).1 28 i = v := zp_eq _ _ _ _
      unfold q_Reader_readNames_12
      rw [if_neg (by omega), hr, b2_p, if_neg (by omega), if_pos (by omega), let_s, q1, b2_p, kL_28, if_pos (by omega), let_s, gtN, f, if_neg (by omega), if_pos (by omega), let_s, r5]
    · show a'.1 10 4 = _
      rw [oa'.2 10 4 (by unfold pNa; omega)]; exact r4
    · show a'.1 22 16 = _
      rw [oa'.2 22 16 (by unfold pNa; omega), ro.2 22 16 (by unfold p46; omega)]
    · show (if j = i then (v : Int) else a'.1 28 j) = _
      by_cases x : j = i
      · rw [if_pos x, if_pos x]
      · rw [if_neg x, if_neg x, oa'.2 28 j (by unfold pNa; omega), ro.2 28 j (by unfold p46; omega)]
/-- the first words of a .names line -/
theorem s_fpre {x1 : Int} (h : LC T n p m W S e a b) (R : RR c True T n p nm nI nO nL nG a b) (U : US nm 150 b) (hm : 2 ≤ m) (h4 : a.1 10 4 = (psn p W S 1 : Nat)) (K : Nat) (hK : K ≤ 8) (hKm : K ≤ m - 2) : (∃ x d, gIter (fun y => q_Reader_readNames_12 E (kL c) x1 y.1 y.2.1 y.2.2) gN ((W 0 : Int), 0, a) = some x ∧ gIter (fun y => q_Model_functionLine_32 E (kL c) ((m : Int) - 2) (nG : Int) y.1 y.2) gN (1, b) = some d ∧ ∃ a', funC E c x1 x = some a' ∧ FF a' d ∧ zOff pRa a a' ∧ zOff pRb b d) ∨ ∃ s t k, FI' c T n p W S nI nO nL nG a b K s t ∧ gIter (fun y => q_Reader_readNames_12 E (kL c) x1 y.1 y.2.1 y.2.2) gN ((W 0 : Int), 0, a) = gIter (fun y => q_Reader_readNames_12 E (kL c) x1 y.1 y.2.1 y.2.2) (k + 3) s ∧ gIter (fun y => q_Model_functionLine_32 E (kL c) ((m : Int) - 2) (nG : Int) y.1 y.2) gN (1, b) = gIter (fun y => q_Model_functionLine_32 E (kL c) ((m : Int) - 2) (nG : Int) y.1 y.2) (k + 3) t := by
  have m2 := LC_m h
  have nGb : nG ≤ 150 := by
    have := R.cnt
    have := cnb_le (fun i => decide (b.1 101 i ≠ 0)) nm
    have := R.nb
    omega
  refine it_pre (FI' c T n p W S nI nO nL nG a b) K (Q := fun x d => ∃ a', funC E c x1 x = some a' ∧ FF a' d ∧ zOff pRa a a' ∧ zOff pRb b d) (by omega) ?_ ⟨rfl, rfl, rfl, nm, off_r, off_r, RR_c (RR_g R) (LC_p h (i := 1) (by omega)).1 (fun _ _ _ => rfl) (fun _ _ _ => rfl), U, h4, rfl, fun j hj => by omega⟩
  rintro i ⟨l, i', a1⟩ ⟨t1, b1⟩ hi ⟨e1, e2, e3, nm, oa, ob, R, U, h4, e16, hw⟩
  have e2 : i' = (i : Int) := e2
  have e3 : t1 = (i : Int) + 1 := e3
  subst e2
  subst e3
  have oa : zOff pRa a a1 := oa
  have ob : zOff pRb b b1 := ob
  have R : RR c (nG < 150) T n (psn p W S (i + 1)) nm nI nO nL nG a1 b1 := R
  have h1 := LC_o h oa ob
  have ek : (i : Int) + 1 = ((i + 1 : Nat) : Int) := by omega
  show (∃ s' t', q_Reader_readNames_12 E (kL c) x1 l (i : Int) a1 = some (.inl s') ∧ q_Model_functionLine_32 E (kL c) ((m : Int) - 2) (nG : Int) ((i : Int) + 1) b1 = some (.inl t') ∧ _) ∨ ∃ x t' d, q_Reader_readNames_12 E (kL c) x1 l (i : Int) a1 = some (.inr x) ∧ q_Model_functionLine_32 E (kL c) ((m : Int) - 2) (nG : Int) ((i : Int) + 1) b1 = some (.inl t') ∧ q_Model_functionLine_32 E (kL c) ((m : Int) - 2) (nG : Int) t'.1 t'.2 = some (.inr d) ∧ _
  rcases s_fw (E := E) (l := l) h (i := i) (by omega) (by omega) oa ob R U h4 x1 with ⟨k, k1, a', q1, o1, f1, f2, q2⟩ | ⟨v, nm', a', b', v1, v2, q1, q2, R3, U3, ux, oa', ob', c4, c16, c28, c111⟩
  · have fk : (zPut (zPut b1 94 17 (k : Int)) 94 18 (W (i + 1) : Int)).1 94 17 = k := rfl
    refine Or.inr ⟨_, ((i : Int) + 1 + 1, zPut (zPut b1 94 17 k) 94 18 (W (i + 1) : Int)), zPut (zPut b1 94 17 k) 94 18 (W (i + 1) : Int), q1, ?_, fun_e (Or.inr (Or.inr (by rw [fk]; omega))), a', rfl, ⟨k, W (i + 1), by omega, by omega, f1, f2, rfl, rfl⟩, o1, off_t ob pRb_f⟩
    unfold q_Model_functionLine_32
    rw [if_neg (by omega), if_neg (by omega), if_pos R.fb, ek, q2, b2_p, fk, if_neg (by omega), if_pos (by omega), let_s]
  · obtain ⟨b2, u1, R4, U4, o4⟩ := s_used (E := E) (f := W (i + 1)) R3 v1 U3 ux
    have hw' := LC_w h1 (i := i + 1) (by omega)
    have ep : psn p W S (i + 1 + 1) = W (i + 1) + S (i + 1) := rfl
    let y : Nat := if nG < 150 then nG else 0
    have hy : (y : Nat) ≤ 149 ∧ (nG < 150 → y = nG) := by
      show (if nG < 150 then nG else 0) ≤ 149 ∧ (nG < 150 → (if nG < 150 then nG else 0) = nG)
      by_cases g : nG < 150
      · rw [if_pos g]; exact ⟨by omega, fun _ => rfl⟩
      · rw [if_neg g]; exact ⟨by omega, fun z => absurd z g⟩
    have R5 := RR_111 (x := 8 * y + i) (w := (v : Int)) R4 (fun g => by have := hy.2 g; omega)
    refine Or.inl ⟨((W (i + 1) : Int), (i : Int) + 1, a'), ((i : Int) + 1 + 1, zPut b2 111 (8 * y + i) (v : Int)), q1, ?_, rfl, ek, by show (i : Int) + 1 + 1 = ((i + 1 : Nat) : Int) + 1; omega, nm', oa', off_t (off_t ob' (off_w o4 fun k j x => by unfold pRb; omega)) (off_put (by unfold pRb; omega)), RR_c R5 (by omega) (fun _ _ _ => rfl) (fun _ _ _ => rfl), fun j j1 j2 => U4 j j1 j2, c4, c16.trans e16, fun j hj => ?_⟩
    · have bw : b'.1 97 (i + 1) = W (i + 1) := by rw [ob'.2 97 (i + 1) (by unfold pRb; omega)]; exact (h.bw (i + 1) (by omega)).1
      have J : ∀ yy : Int, yy = (y : Int) → q_Model_functionLine_j94_32 E (kL c) ((m : Int) - 2) (nG : Int) ((i + 1 : Nat) : Int) (v : Int) 8 yy b2 = some (.inl (((i + 1 : Nat) : Int) + 1, zPut b2 111 (8 * y + i) (v : Int))) := fun yy hyy => by
        unfold q_Model_functionLine_j94_32
        rw [hyy, show (8 * (y : Int) + ((i + 1 : Nat) : Int)) - 1 = ((8 * y + i : Nat) : Int) by omega, kL_111, if_pos (by omega), let_s, gtN, if_pos (by omega), let_s]
      unfold q_Model_functionLine_32
      rw [if_neg (by omega), if_neg (by omega), if_pos R.fb, ek, q2, b2_p, if_pos R3.fb, kL_97, if_pos (by omega), gtN, bw, u1, b1_s]
      by_cases g : nG < 150
      · rw [if_neg (by omega), J nG (by have := hy.2 g; omega)]
      · rw [if_pos (by omega), J 0 (by show (0 : Int) = (((if nG < 150 then nG else 0 : Nat)) : Int); rw [if_neg g]; rfl)]
    · by_cases x : j = i
      · refine ⟨v, v1, ?_, fun g => ?_⟩
        · show a'.1 28 j = v
          rw [c28, if_pos x]
        · show (if 8 * nG + j = 8 * y + i then (v : Int) else b2.1 111 (8 * nG + j)) = v
          rw [if_pos (by have := hy.2 g; omega)]
      · obtain ⟨w, w1, w2, w3⟩ := hw j (by omega)
        refine ⟨w, by omega, ?_, fun g => ?_⟩
        · show a'.1 28 j = w
          rw [c28, if_neg x]; exact w2
        · show (if 8 * nG + j = 8 * y + i then (v : Int) else b2.1 111 (8 * nG + j)) = w
          rw [if_neg (by have := hy.2 g; omega), o4.2 111 _ (by omega), c111]; exact w3 g
end
end
