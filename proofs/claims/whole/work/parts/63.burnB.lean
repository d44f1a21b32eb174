set_option linter.unusedVariables false
-- U6
section
variable {E : gEv} {c : gCf}
def pBx (k j : Nat) : Prop := k = 154
/-- what a pin's sink turns on, in the reference -/
def onN (c : gCf) (z : gZ) (nS e p i : Nat) : Prop := ∃ k, k < nS ∧ z.1 131 k = ((4 * e + p : Nat) : Int) ∧ ∃ b, b < 6 ∧ i = bsE c z e + (18 + p * 6) + b ∧ zBit (nmS c z k) b = true
def onO (c : gCf) (z : gZ) (nS p i : Nat) : Prop := ∃ k o, k < nS ∧ z.1 131 k = ((1000 + o : Nat) : Int) ∧ z.1 137 p = ((200 + o : Nat) : Int) ∧ ∃ b, b < 4 ∧ i = pbP c p + 2 + b ∧ zBit (nmS c z k) b = true
section
variable {m nC nN nS nI nO nU nL : Nat} {z : gZ}
theorem s_baseOf {t : gZ} (g : Gr c z) (hN : NJ c m nC nN nS nI nO z) (hE : EJ c m nC nS nU nL z) (hP : PZ c nC nI nO z) (hM : PM c (z.1 68) z) (o : zOff pBx z t) {e : Nat} (he : e < m) : q_Model_tileOf E (kL c) (e : Int) t = some (spE z e : Int) ∧ q_Model_baseOf E (kL c) (e : Int) t = some (bsE c z e : Int) := by
  have hY := kY_b g.1
  have hX := kX_b g.1
  have hPb := kP_b g.1
  have mb := hN.mb
  obtain ⟨-, b1, -⟩ := bs_P g.1 hE hP he
  obtain ⟨-, h6, h7, -, -, h2, h3⟩ := hE.el e he
  obtain ⟨x, x1, x2, x3, x4, x5⟩ := hE.sp hP he
  have mt : PM c (z.1 68) t := PM_o hM o fun k j y => by unfold pBx at y; omega
  have tl := (s_tileOf (E := E) g.1 hP mt (e := e) (x := x) (q := spE z e) (by omega) (by rw [o.2 133 e (by unfold pBx; omega), ← h6]; exact x1) x2 x3).2
  refine ⟨tl, ?_⟩
  have m2 : t.1 94 2 = kE c := by rw [o.2 94 2 (by unfold pBx; omega)]; exact g.2.2.1.2.2.1
  have m9 : t.1 94 9 = kX c := by rw [o.2 94 9 (by unfold pBx; omega)]; exact g.2.2.1.2.2.2.2.2.2.2.2.2.1
  have e57 : t.1 134 e = ((z.1 57 e).toNat : Int) := by rw [o.2 134 e (by unfold pBx; omega), ← h7]; omega
  have ev : ((spE z e : Int) * (kE c : Int) + ((z.1 57 e).toNat : Int)) * (kX c : Int) = (bsE c z e : Int) := by
    unfold bsE; simp only [Int.natCast_mul, Int.natCast_add]
  unfold q_Model_baseOf
  rw [tl, b1_s, kL_134, if_pos (by omega), gtN, m2, m9, e57, ev, if_pos (by omega)]
/-- the reference's elements -/
theorem s_buE {t : gZ} (g : Gr c z) (hN : NJ c m nC nN nS nI nO z) (hE : EJ c m nC nS nU nL z) (hP : PZ c nC nI nO z) (hM : PM c (z.1 68) z) (hen : ∀ k, k < nS → ∃ e : Nat, z.1 79 k = e ∧ e < kW c ∧ kTc c (spK z k) e ∧ z.1 132 k = e) (o : zOff pBx z t) (h0 : Row c (t.1 154) (fun _ => False)) : zOk (gIter (fun y => q_Model_burnBits_25 E (kL c) y.1 y.2) gN (0, t)) (fun s => zOff pBx z s ∧ Row c (s.1 154) (fun i => ∃ e, e < m ∧ (onE c z e i ∨ ∃ p, p < 4 ∧ onN c z nS e p i))) := by
  have hPb := kP_b g.1
  have hY := kY_b g.1
  have hX := kX_b g.1
  have hBb := kB_b g.1
  have hB := kYB c
  have hNN := kN_b g.1
  have hD := kD_b g.1
  have mb := hN.mb
  have sb := hN.sb
  have lb := hE.lb
  obtain ⟨-, -, -, ⟨t1, t2⟩⟩ := id g.1
  refine it_for (fun (i : Nat) (t : gZ) => ((i : Int), t)) (fun k u => zOff pBx z u ∧ Row c (u.1 154) (fun i => ∃ e, e < k ∧ (onE c z e i ∨ ∃ p, p < 4 ∧ onN c z nS e p i))) 0 m rfl ⟨o, Row_c h0 fun i _ => ⟨fun x => x.elim, fun ⟨e, h, _⟩ => by omega⟩⟩ (by omega) (by omega) ?_ ?_
  · rintro e u - he ⟨ou, hu⟩
    obtain ⟨-, b1, -⟩ := bs_P g.1 hE hP he
    have ltb := hE.lt e he
    have h125 : z.1 125 e = z.1 55 e := (hE.el e he).1.symm
    have fresh : ∀ i, bsE c z e ≤ i → i < bsE c z e + 42 → ¬ ∃ e', e' < e ∧ (onE c z e' i ∨ ∃ p, p < 4 ∧ onN c z nS e' p i) := by
      rintro i h1 h2 ⟨e', h3, h4⟩
      have h5 : ∃ o', o' < 42 ∧ i = bsE c z e' + o' := by
        rcases h4 with h4 | ⟨p, p1, k, -, -, b, b1, b2, -⟩
        · obtain ⟨o', a, b⟩ := on_lo g hE hP (show e' < m by omega) h4
          exact ⟨o', by omega, b⟩
        · exact ⟨18 + p * 6 + b, by omega, by omega⟩
      obtain ⟨o', o1, o2⟩ := h5
      have := (bs_i g.1 hE hP (e := e) (e' := e') (o := i - bsE c z e) (o' := o') he (by omega) (by omega) (by omega) (by omega)).1
      omega
    obtain ⟨tl, bo⟩ := s_baseOf (E := E) g hN hE hP hM ou he
    show zOk (q_Model_burnBits_25 E (kL c) (e : Int) u) _
    unfold q_Model_burnBits_25
    rw [ou.2 94 55 (by unfold pBx; omega), hE.e2, kL_127, kL_125]
    (refine ok_neg (by omega) ?_)
    refine ok_v1 bo ?_
    (refine ok_gd (by omega) ?_)
    rw [gtN, ou.2 127 e (by unfold pBx; omega)]
    refine ok_b1 _ (s_num (a := bsE c z e) (w := 16) (v := z.1 127 e) g.1 (by omega) (by omega)) fun s8 ⟨p1, p2⟩ => ?_
    have o8 : zOff pBx z s8 := off_t ou (off_w p1 fun k j y => by unfold pBx; omega)
    have R8 := Row_put (v := z.1 127 e) hu (fun i a b => fresh i a (by omega)) p2 fun i hi => p1.2 154 i (by omega)
    (refine ok_gd (by omega) ?_)
    rw [o8.2 125 e (by unfold pBx; omega), h125]
    -- pins
    have pins : ∀ (s10 : gZ) (Pz : Nat → Prop), zOff pBx z s10 → Row c (s10.1 154) Pz → (∀ i, bsE c z e + 18 ≤ i → i < bsE c z e + 42 → ¬ Pz i) → zOk (gIter (fun y => q_Model_burnBits_117 E (kL c) (e : Int) (bsE c z e : Int) y.1 y.2) gN (0, s10)) (fun s => zOff pBx z s ∧ Row c (s.1 154) (fun i => Pz i ∨ ∃ p, p < 4 ∧ onN c z nS e p i)) := fun s10 Pz o10 R10 fr => by
      refine it_for (fun (i : Nat) (t : gZ) => ((i : Int), t)) (fun k x => zOff pBx z x ∧ Row c (x.1 154) (fun i => Pz i ∨ ∃ p, p < k ∧ onN c z nS e p i)) 0 4 rfl ⟨o10, Row_c R10 fun i _ => ⟨Or.inl, fun y => y.elim id fun ⟨p, h, _⟩ => by omega⟩⟩ (by omega) (by omega) ?_ ?_
      · rintro p x - hp ⟨ox, hx⟩
        obtain ⟨tlx, -⟩ := s_baseOf (E := E) g hN hE hP hM ox he
        have gx : Gr c x := Gr_off ox (fun k j h => by unfold pS at h; unfold pBx; omega) g
        have wr : ∀ (v : Int) (Pn : Nat → Prop), (∀ i, (∃ b, b < 6 ∧ i = bsE c z e + (18 + p * 6) + b ∧ zBit v b = true) ↔ onN c z nS e p i) → zOk (q_Model_burnBits_j184_117 E (kL c) (e : Int) (bsE c z e : Int) (p : Int) ((bsE c z e : Int) + 18 + 6 * (p : Int)) 6 v x) (fun r => (∃ t', r = Sum.inl (((p + 1 : Nat) : Int), t') ∧ zOff pBx z t' ∧ Row c (t'.1 154) (fun i => Pz i ∨ ∃ p', p' < p + 1 ∧ onN c z nS e p' i)) ∨ ∃ s, r = Sum.inr s ∧ zOff pBx z s ∧ Row c (s.1 154) (fun i => Pz i ∨ ∃ p, p < 4 ∧ onN c z nS e p i)) := fun v _ hv => by
          unfold q_Model_burnBits_j184_117
          rw [show (bsE c z e : Int) + 18 + 6 * (p : Int) = ((bsE c z e + (18 + p * 6) : Nat) : Int) by omega]
          refine ok_b1 _ (s_num (a := bsE c z e + (18 + p * 6)) (w := 6) (v := v) g.1 (by omega) (by omega)) fun s12 ⟨q1, q2⟩ => ?_
          have R12 := Row_put (v := v) hx (fun i a b => by
            rintro (h | ⟨p', x1, k, -, -, b', c1, c2, -⟩)
            · exact fr i (by omega) (by omega) h
            · omega) q2 fun i hi => q1.2 154 i (by omega)
          (refine ok_gd (by omega) ?_)
          rw [ok_l]
          refine ok_inl (Or.inl ⟨s12, rfl, off_t ox (off_w q1 fun k j y => by unfold pBx; omega), Row_c R12 fun i _ => ?_⟩)
          constructor
          · rintro ((y | ⟨p', a, b⟩) | y)
            · exact Or.inl y
            · exact Or.inr ⟨p', by omega, b⟩
            · exact Or.inr ⟨p, by omega, (hv i).1 y⟩
          · rintro (y | ⟨p', a, b⟩)
            · exact Or.inl (Or.inl y)
            · by_cases w : p' = p
              · subst w; exact Or.inr ((hv i).2 b)
              · exact Or.inl (Or.inr ⟨p', by omega, b⟩)
        show zOk (q_Model_burnBits_117 E (kL c) (e : Int) (bsE c z e : Int) (p : Int) x) _
        unfold q_Model_burnBits_117
        rw [kL_126, show 4 * (e : Int) + (p : Int) = ((4 * e + p : Nat) : Int) by omega]
        (refine ok_neg (by omega) ?_); (refine ok_gd (by omega) ?_)
        rw [gtN, ox.2 126 _ (by unfold pBx; omega)]
        have none_ : (∀ k, k < nS → z.1 131 k ≠ ((4 * e + p : Nat) : Int)) → zOk (q_Model_burnBits_j149_117 E (kL c) (e : Int) (bsE c z e : Int) (p : Int) (-1) x) (fun r => (∃ t', r = Sum.inl (((p + 1 : Nat) : Int), t') ∧ zOff pBx z t' ∧ Row c (t'.1 154) (fun i => Pz i ∨ ∃ p', p' < p + 1 ∧ onN c z nS e p' i)) ∨ ∃ s, r = Sum.inr s ∧ zOff pBx z s ∧ Row c (s.1 154) (fun i => Pz i ∨ ∃ p, p < 4 ∧ onN c z nS e p i)) := fun hno => by
          unfold q_Model_burnBits_j149_117
          refine ok_pos rfl ?_
          (refine ok_gd (by omega) ?_)
          refine wr 0 (fun _ => True) fun i => ⟨?_, ?_⟩
          · rintro ⟨b, -, -, h⟩; rw [zB_0] at h; cases h
          · rintro ⟨k, k1, k2, -⟩; exact absurd k2 (hno k k1)
        rcases hE.pn (4 * e + p) (by omega) with ⟨a1, a2⟩ | ⟨a1, k, k1, k2⟩
        · exact ok_pos a1 (none_ a2)
        · refine ok_neg a1 ?_
          obtain ⟨w, w1, w2, w3, w4⟩ := hen k k1
          have eo : q_Model_endOf E (kL c) ((4 * e + p : Nat) : Int) x = some (w : Int) := by
            rw [s_endOf (E := E) (c := c) (nS := nS) (k := k) (by rw [ox.2 94 61 (by unfold pBx; omega)]; exact hE.s2) (by omega) k1 (by rw [ox.2 131 k (by unfold pBx; omega)]; exact k2) fun k' h1 h2 => by
              rw [ox.2 131 k' (by unfold pBx; omega)] at h2
              exact hE.su k' k h1 k1 (by rw [h2, k2])]
            rw [ox.2 132 k (by unfold pBx; omega), w4]
          refine ok_v1 eo ?_
          unfold q_Model_burnBits_j149_117
          (refine ok_neg (by omega) ?_)
          refine ok_v1 tlx ?_
          have esk : spK z k = spE z e ∧ spK z k < kN c := by
            rcases snkK hN hE hP k1 with ⟨e', p', d1, d2, d3, -, d5, d6⟩ | ⟨oo, q, -, d2, -⟩
            · have : e' = e := by omega
              subst this; exact ⟨d5, d6⟩
            · omega
          refine ok_v1 (s_placeV gx (by rw [← esk.1]; exact esk.2) (by rw [← esk.1]; exact w3)) ?_
          (refine ok_gd (by omega) ?_)
          refine wr _ (fun _ => True) fun i => ?_
          have enm : nmS c z k = ((1 + rv c (spE z e) w : Nat) : Int) := by unfold nmS; rw [w1, gtN, esk.1]
          constructor
          · rintro ⟨b, c1, c2, c3⟩; exact ⟨k, k1, k2, b, c1, c2, by rw [enm]; exact c3⟩
          · rintro ⟨k', c0, c1, b, c2, c3, c4⟩
            have : k' = k := hE.su k' k c0 k1 (by rw [c1, k2])
            subst this
            exact ⟨b, c2, c3, by rw [← enm]; exact c4⟩
      · rintro x ⟨ox, hx⟩
        show zOk (q_Model_burnBits_117 E (kL c) (e : Int) (bsE c z e : Int) 4 x) _
        unfold q_Model_burnBits_117
        (refine ok_pos (by omega) ?_)
        exact ok_inr ⟨x, rfl, ox, hx⟩
    have endg : ∀ (s10 : gZ) (Pz : Nat → Prop), zOff pBx z s10 → Row c (s10.1 154) Pz → (∀ i, Pz i ↔ ((∃ e', e' < e ∧ (onE c z e' i ∨ ∃ p, p < 4 ∧ onN c z nS e' p i)) ∨ onE c z e i)) → zOk (gB1 (gIter (fun y => q_Model_burnBits_117 E (kL c) (e : Int) (bsE c z e : Int) y.1 y.2) gN (0, s10)) fun e20 => if -2147483648 ≤ (e : Int) + 1 ∧ (e : Int) + 1 < 2147483648 then gLet ((e : Int) + 1) fun x22 => some (.inl (x22, e20)) else none : Option ((Int × gZ) ⊕ gZ)) (fun r => (∃ t', r = Sum.inl (((e + 1 : Nat) : Int), t') ∧ zOff pBx z t' ∧ Row c (t'.1 154) (fun i => ∃ e', e' < e + 1 ∧ (onE c z e' i ∨ ∃ p, p < 4 ∧ onN c z nS e' p i))) ∨ ∃ s, r = Sum.inr s ∧ zOff pBx z s ∧ Row c (s.1 154) (fun i => ∃ e, e < m ∧ (onE c z e i ∨ ∃ p, p < 4 ∧ onN c z nS e p i))) := fun s10 Pz o10 R10 hPz => by
      refine ok_b1 _ (pins s10 Pz o10 R10 fun i a b h => ?_) fun s ⟨q1, q2⟩ => ?_
      · rcases (hPz i).1 h with h | h
        · exact fresh i (by omega) (by omega) h
        · obtain ⟨o', d1, d2⟩ := on_lo g hE hP he h
          omega
      · (refine ok_gd (by omega) ?_)
        rw [ok_l]
        refine ok_inl (Or.inl ⟨s, rfl, q1, Row_c q2 fun i _ => ?_⟩)
        rw [hPz]
        constructor
        · rintro ((⟨e', a, b⟩ | b) | b)
          · exact ⟨e', by omega, b⟩
          · exact ⟨e, by omega, Or.inl b⟩
          · exact ⟨e, by omega, Or.inr b⟩
        · rintro ⟨e', a, b⟩
          by_cases y : e' = e
          · subst y
            rcases b with b | b
            · exact Or.inl (Or.inr b)
            · exact Or.inr b
          · exact Or.inl (Or.inl ⟨e', by omega, b⟩)
    -- bits 16, 17
    have one : ∀ (x : gZ) (a : Nat) (v : Int) (Pz : Nat → Prop), b01 v → Row c (x.1 154) Pz → ¬ Pz a → Row c ((zPut x 154 a v).1 154) (fun i => Pz i ∨ (i = a ∧ v = 1)) := fun x a v Pz hv R hf => by
      have := Row_put (r := x.1 154) (r' := (zPut x 154 a v).1 154) (a := a) (w := 1) (v := v) R (fun i h1 h2 => by rw [show i = a by omega]; exact hf) (fun b hb => by
        rw [show a + b = a by omega, zp1, if_pos rfl, if_pos rfl, show b = 0 by omega]
        rcases hv with y | y <;> rw [y]
        · unfold bitI; rw [zB_0]; rfl
        · rfl) fun i hi => by rw [zp1, if_pos rfl, if_neg (by omega)]
      refine Row_c this fun i _ => or_congr Iff.rfl ?_
      constructor
      · rintro ⟨b, c1, c2, c3⟩
        refine ⟨by omega, ?_⟩
        rcases hv with y | y
        · rw [y, zB_0] at c3; cases c3
        · exact y
      · rintro ⟨c1, c2⟩
        exact ⟨0, by omega, by omega, by rw [c2, zBit_1]⟩
    have f16 : ¬ ((∃ e', e' < e ∧ (onE c z e' (bsE c z e + 16) ∨ ∃ p, p < 4 ∧ onN c z nS e' p (bsE c z e + 16))) ∨ ∃ b, b < 16 ∧ bsE c z e + 16 = bsE c z e + b ∧ zBit (z.1 127 e) b = true) := by
      rintro (h | ⟨b, h1, h2, -⟩)
      · exact fresh _ (by omega) (by omega) h
      · omega
    have f17 : ∀ v : Int, ¬ (((∃ e', e' < e ∧ (onE c z e' (bsE c z e + 17) ∨ ∃ p, p < 4 ∧ onN c z nS e' p (bsE c z e + 17))) ∨ ∃ b, b < 16 ∧ bsE c z e + 17 = bsE c z e + b ∧ zBit (z.1 127 e) b = true) ∨ (bsE c z e + 17 = bsE c z e + 16 ∧ v = 1)) := by
      rintro v ((h | ⟨b, h1, h2, -⟩) | ⟨h, -⟩)
      · exact fresh _ (by omega) (by omega) h
      · omega
      · omega
    have st75 : ∀ v : Int, b01 v → (v = 1 ↔ z.1 55 e ≠ -1) → zOk (q_Model_burnBits_j75_25 E (kL c) (e : Int) (bsE c z e : Int) ((bsE c z e : Int) + 16) v s8) (fun r => (∃ t', r = Sum.inl (((e + 1 : Nat) : Int), t') ∧ zOff pBx z t' ∧ Row c (t'.1 154) (fun i => ∃ e', e' < e + 1 ∧ (onE c z e' i ∨ ∃ p, p < 4 ∧ onN c z nS e' p i))) ∨ ∃ s, r = Sum.inr s ∧ zOff pBx z s ∧ Row c (s.1 154) (fun i => ∃ e, e < m ∧ (onE c z e i ∨ ∃ p, p < 4 ∧ onN c z nS e p i))) := fun v hv1 hv2 => by
      unfold q_Model_burnBits_j75_25
      rw [kL_154, kL_125, kL_108, zBool_n v hv1, show (bsE c z e : Int) + 16 = ((bsE c z e + 16 : Nat) : Int) by omega, gtN, gtN]
      (refine ok_gd (by omega) ?_)
      rw [ok_l]
      have R9 := one s8 (bsE c z e + 16) v _ hv1 R8 f16
      have o9 : zOff pBx z (zPut s8 154 (bsE c z e + 16) v) := off_t o8 (off_put (by unfold pBx; omega))
      generalize zPut s8 154 (bsE c z e + 16) v = s9 at R9 o9 ⊢
      have st114 : ∀ u' : Int, b01 u' → (u' = 1 ↔ (z.1 55 e ≠ -1 ∧ z.1 32 (z.1 55 e).toNat = 1)) → zOk (q_Model_burnBits_j114_25 E (kL c) (e : Int) (bsE c z e : Int) ((bsE c z e : Int) + 17) u' s9) (fun r => (∃ t', r = Sum.inl (((e + 1 : Nat) : Int), t') ∧ zOff pBx z t' ∧ Row c (t'.1 154) (fun i => ∃ e', e' < e + 1 ∧ (onE c z e' i ∨ ∃ p, p < 4 ∧ onN c z nS e' p i))) ∨ ∃ s, r = Sum.inr s ∧ zOff pBx z s ∧ Row c (s.1 154) (fun i => ∃ e, e < m ∧ (onE c z e i ∨ ∃ p, p < 4 ∧ onN c z nS e p i))) := fun u' hu1 hu2 => by
        unfold q_Model_burnBits_j114_25
        rw [kL_154, zBool_n u' hu1, show (bsE c z e : Int) + 17 = ((bsE c z e + 17 : Nat) : Int) by omega, gtN]
        (refine ok_gd (by omega) ?_)
        rw [ok_l]
        have R10 := one s9 (bsE c z e + 17) u' _ hu1 R9 (f17 v)
        have o10 : zOff pBx z (zPut s9 154 (bsE c z e + 17) u') := off_t o9 (off_put (by unfold pBx; omega))
        generalize zPut s9 154 (bsE c z e + 17) u' = s10 at R10 o10 ⊢
        refine endg s10 _ o10 R10 fun i => ?_
        unfold onE
        constructor
        · rintro (((y | y) | ⟨y1, y2⟩) | ⟨y1, y2⟩)
          · exact Or.inl y
          · exact Or.inr (Or.inl y)
          · exact Or.inr (Or.inr (Or.inl ⟨y1, hv2.1 y2⟩))
          · exact Or.inr (Or.inr (Or.inr ⟨y1, (hu2.1 y2).1, (hu2.1 y2).2⟩))
        · rintro (y | y | ⟨y1, y2⟩ | ⟨y1, y2, y3⟩)
          · exact Or.inl (Or.inl (Or.inl y))
          · exact Or.inl (Or.inl (Or.inr y))
          · exact Or.inl (Or.inr ⟨y1, hv2.2 y2⟩)
          · exact Or.inr ⟨y1, hu2.2 ⟨y2, y3⟩⟩
      (refine ok_gd (by omega) ?_)
      rw [o9.2 125 e (by unfold pBx; omega), h125]
      refine ok_br (fun e5 => ?_) fun e5 => ?_
      · (refine ok_gd (by omega) ?_)
        unfold q_Model_burnBits_j113_25
        exact st114 0 (Or.inl rfl) ⟨fun y => by omega, fun y => absurd e5 y.1⟩
      · have lfe := hE.lf (z.1 55 e).toNat (by omega)
        (refine ok_gd (by omega) ?_)
        rw [o9.2 108 _ (by unfold pBx; omega), ← lfe.1]
        refine ok_br (fun e6 => ?_) fun e6 => ?_
        · (refine ok_gd (by omega) ?_)
          exact st114 1 (Or.inr rfl) ⟨fun _ => ⟨e5, e6⟩, fun _ => rfl⟩
        · (refine ok_gd (by omega) ?_)
          unfold q_Model_burnBits_j113_25
          exact st114 0 (Or.inl rfl) ⟨fun y => by omega, fun y => absurd y.2 e6⟩
    refine ok_br (fun e5 => ?_) fun e5 => ?_
    · (refine ok_gd (by omega) ?_)
      exact st75 0 (Or.inl rfl) ⟨fun y => by omega, fun y => absurd e5 y⟩
    · (refine ok_gd (by omega) ?_)
      exact st75 1 (Or.inr rfl) ⟨fun _ => e5, fun _ => rfl⟩
  · rintro u ⟨ou, hu⟩
    show zOk (q_Model_burnBits_25 E (kL c) (m : Int) u) _
    unfold q_Model_burnBits_25
    rw [ou.2 94 55 (by unfold pBx; omega), hE.e2]
    (refine ok_pos (by omega) ?_)
    exact ok_inr ⟨u, rfl, ou, hu⟩
end
end
-- U7
section
variable {E : gEv} {c : gCf}
section
variable {m nC nN nS nI nO nU nL : Nat} {z : gZ}
/-- what lies at a pad -/
theorem padK (hk : kOk c) (hP : PZ c nC nI nO z) (hM : PM c (z.1 68) z) {p : Nat} (hp : p < kD c) : (z.1 137 p = -1 ∧ kdP c z p = 0) ∨ (∃ i : Nat, i < nI ∧ z.1 137 p = i ∧ i < 48 ∧ kdP c z p = 1 ∧ z.1 69 (kN c + i) = ((kN c + p : Nat) : Int)) ∨ ∃ o : Nat, o < nO ∧ z.1 137 p = ((200 + o : Nat) : Int) ∧ kdP c z p = 2 ∧ z.1 69 (kN c + kD c + o) = ((kN c + p : Nat) : Int) := by
  have hD := kD_b hk
  have h7 := hM.p p hp
  have ib := hP.ib
  have ob := hP.ob
  have cb := hP.cb
  unfold kdP
  rcases hP.th (kN c + p) (by omega) with x | ⟨x, x1, x2, x3⟩
  · left
    rw [h7, x]
    refine ⟨?_, ?_⟩
    · unfold cdP; rw [if_pos rfl]
    · rw [if_pos rfl]
  · right
    obtain ⟨q, q1, q2, q3, q4⟩ := hP.sp x x1
    have hq : q = kN c + p := by omega
    have hx : ¬ x < kN c := fun y => by have := q4.2 y; omega
    unfold uT at x1
    rw [h7, x2]
    by_cases e : x < kN c + kD c
    · left
      refine ⟨x - kN c, by omega, ?_, by omega, ?_, ?_⟩
      · unfold cdP; rw [if_neg (by omega), if_pos (by omega)]; omega
      · rw [if_neg (by omega), if_pos (by omega)]
      · rw [show kN c + (x - kN c) = x by omega, x3]
    · right
      refine ⟨x - kN c - kD c, by omega, ?_, ?_, ?_⟩
      · unfold cdP; rw [if_neg (by omega), if_neg (by omega)]; omega
      · rw [if_neg (by omega), if_neg (by omega)]
      · rw [show kN c + kD c + (x - kN c - kD c) = x by omega, x3]
theorem s_buP {t : gZ} (g : Gr c z) (hN : NJ c m nC nN nS nI nO z) (hE : EJ c m nC nS nU nL z) (hP : PZ c nC nI nO z) (hM : PM c (z.1 68) z) (hen : ∀ k, k < nS → ∃ e : Nat, z.1 79 k = e ∧ e < kW c ∧ kTc c (spK z k) e ∧ z.1 132 k = e) {P0 : Nat → Prop} (hP0 : ∀ i, P0 i → i < kY c) (o : zOff pBx z t) (h0 : Row c (t.1 154) P0) : zOk (gIter (fun y => q_Model_burnBits_201 E (kL c) y.1 y.2) gN (0, t)) (fun s => zOff pBx z s ∧ Row c (s.1 154) (fun i => P0 i ∨ ∃ p, p < kD c ∧ (onP c z p i ∨ onO c z nS p i))) := by
  have hPb := kP_b g.1
  have hZb := kZ_b g.1
  have hX := kX_b g.1
  have hBb := kB_b g.1
  have hB := kYB c
  have hNN := kN_b g.1
  have hD := kD_b g.1
  have hW := kW_b g.1
  have sb := hN.sb
  have mb := hN.mb
  have ob := hP.ob
  obtain ⟨-, -, -, ⟨t1, t2⟩⟩ := id g.1
  have m6 : z.1 94 6 = kD c := g.2.2.1.2.2.2.2.2.2.1
  have m3 : z.1 94 3 = kT c := g.2.2.1.2.2.2.1
  have m10 : z.1 94 10 = ((6 + kT c : Nat) : Int) := g.2.2.1.2.2.2.2.2.2.2.2.2.2.1
  have m11 : z.1 94 11 = kY c := g.2.2.1.2.2.2.2.2.2.2.2.2.2.2.1
  refine it_for (fun (i : Nat) (t : gZ) => ((i : Int), t)) (fun k u => zOff pBx z u ∧ Row c (u.1 154) (fun i => P0 i ∨ ∃ p, p < k ∧ (onP c z p i ∨ onO c z nS p i))) 0 (kD c) rfl ⟨o, Row_c h0 fun i _ => ⟨Or.inl, fun x => x.elim id fun ⟨p, h, _⟩ => by omega⟩⟩ (by omega) (by omega) ?_ ?_
  · rintro p u - hp ⟨ou, hu⟩
    have hb := pb_b hp
    have hY0 : kY c ≤ pbP c p := by unfold pbP; omega
    have fresh : ∀ i, pbP c p ≤ i → i < pbP c p + 6 → ¬ (P0 i ∨ ∃ p', p' < p ∧ (onP c z p' i ∨ onO c z nS p' i)) := by
      rintro i h1 h2 (h | ⟨p', h3, h4⟩)
      · have := hP0 i h; omega
      · have h5 : ∃ o', o' < 6 ∧ i = pbP c p' + o' := by
          rcases h4 with ⟨b, b1, b2, -⟩ | ⟨k, oo, -, -, -, b, b1, b2, -⟩
          · exact ⟨b, by omega, b2⟩
          · exact ⟨2 + b, by omega, by omega⟩
        obtain ⟨o', o1, o2⟩ := h5
        have := (pb_i g.1 (p := p) (p' := p') (o := i - pbP c p) (o' := o') (by omega) (by omega) (by omega)).1
        omega
    have ev : (kY c : Int) + (p : Int) * ((6 + kT c : Nat) : Int) = (pbP c p : Int) := by
      unfold pbP; simp only [Int.natCast_mul, Int.natCast_add, Int.cast_ofNat_Int]
    have main : ∀ v : Int, v = kdP c z p → zOk (q_Model_burnBits_j255_201 E (kL c) (p : Int) (pbP c p : Int) (pbP c p : Int) 2 v u) (fun r => (∃ t', r = Sum.inl (((p + 1 : Nat) : Int), t') ∧ zOff pBx z t' ∧ Row c (t'.1 154) (fun i => P0 i ∨ ∃ p', p' < p + 1 ∧ (onP c z p' i ∨ onO c z nS p' i))) ∨ ∃ s, r = Sum.inr s ∧ zOff pBx z s ∧ Row c (s.1 154) (fun i => P0 i ∨ ∃ p, p < kD c ∧ (onP c z p i ∨ onO c z nS p i))) := fun v hv => by
      unfold q_Model_burnBits_j255_201
      refine ok_b1 _ (s_num (a := pbP c p) (w := 2) (v := v) g.1 (by omega) (by omega)) fun s27 ⟨p1, p2⟩ => ?_
      have o27 : zOff pBx z s27 := off_t ou (off_w p1 fun k j y => by unfold pBx; omega)
      have R27 := Row_put (v := v) hu (fun i a b => fresh i a (by omega)) p2 fun i hi => p1.2 154 i (by omega)
      have fin : ∀ (s : gZ) (Q : Nat → Prop), zOff pBx z s → Row c (s.1 154) (fun i => ((P0 i ∨ ∃ p', p' < p ∧ (onP c z p' i ∨ onO c z nS p' i)) ∨ ∃ b, b < 2 ∧ i = pbP c p + b ∧ zBit v b = true) ∨ Q i) → (∀ i, Q i ↔ onO c z nS p i) → zOk (if -2147483648 ≤ (p : Int) + 1 ∧ (p : Int) + 1 < 2147483648 then gLet ((p : Int) + 1) fun x28 => some (.inl (x28, s)) else none : Option ((Int × gZ) ⊕ gZ)) (fun r => (∃ t', r = Sum.inl (((p + 1 : Nat) : Int), t') ∧ zOff pBx z t' ∧ Row c (t'.1 154) (fun i => P0 i ∨ ∃ p', p' < p + 1 ∧ (onP c z p' i ∨ onO c z nS p' i))) ∨ ∃ s, r = Sum.inr s ∧ zOff pBx z s ∧ Row c (s.1 154) (fun i => P0 i ∨ ∃ p, p < kD c ∧ (onP c z p i ∨ onO c z nS p i))) := fun s Q s1 s2 hQ => by
        (refine ok_gd (by omega) ?_)
        rw [ok_l]
        refine ok_inl (Or.inl ⟨s, rfl, s1, Row_c s2 fun i _ => ?_⟩)
        constructor
        · rintro (((x | ⟨p', a, b⟩) | x) | x)
          · exact Or.inl x
          · exact Or.inr ⟨p', by omega, b⟩
          · obtain ⟨b, b1, b2, b3⟩ := x
            exact Or.inr ⟨p, by omega, Or.inl ⟨b, b1, b2, by rw [← hv]; exact b3⟩⟩
          · exact Or.inr ⟨p, by omega, Or.inr ((hQ i).1 x)⟩
        · rintro (x | ⟨p', a, b⟩)
          · exact Or.inl (Or.inl (Or.inl x))
          · by_cases y : p' = p
            · subst y
              rcases b with ⟨b, b1, b2, b3⟩ | b
              · exact Or.inl (Or.inr ⟨b, b1, b2, by rw [hv]; exact b3⟩)
              · exact Or.inr ((hQ i).2 b)
            · exact Or.inl (Or.inl (Or.inr ⟨p', by omega, b⟩))
      rw [kL_137]
      (refine ok_gd (by omega) ?_)
      rw [gtN, o27.2 137 p (by unfold pBx; omega)]
      have noO : z.1 137 p < 200 → zOk (if -2147483648 ≤ (p : Int) + 1 ∧ (p : Int) + 1 < 2147483648 then gLet ((p : Int) + 1) fun x28 => some (.inl (x28, s27)) else none : Option ((Int × gZ) ⊕ gZ)) (fun r => (∃ t', r = Sum.inl (((p + 1 : Nat) : Int), t') ∧ zOff pBx z t' ∧ Row c (t'.1 154) (fun i => P0 i ∨ ∃ p', p' < p + 1 ∧ (onP c z p' i ∨ onO c z nS p' i))) ∨ ∃ s, r = Sum.inr s ∧ zOff pBx z s ∧ Row c (s.1 154) (fun i => P0 i ∨ ∃ p, p < kD c ∧ (onP c z p i ∨ onO c z nS p i))) := fun hlt => fin s27 (fun _ => False) o27 (Row_c R27 fun i _ => ⟨Or.inl, fun x => x.elim id False.elim⟩) fun i => ⟨False.elim, fun ⟨k, oo, _, _, h, _⟩ => by omega⟩
      refine ok_br (fun e1 => noO e1) fun e1 => ?_
      rcases padK g.1 hP hM hp with ⟨a1, -⟩ | ⟨i, -, a1, a2, -⟩ | ⟨oo, a0, a1, -, a3⟩
      · omega
      · omega
      · rw [a1]
        (refine ok_gd (by omega) ?_)
        rw [show (1000 : Int) + ((200 + oo : Nat) : Int) - 200 = ((1000 + oo : Nat) : Int) by omega]
        have g27 : Gr c s27 := Gr_off o27 (fun k j h => by unfold pS at h; unfold pBx; omega) g
        by_cases ek : ∃ k, k < nS ∧ z.1 131 k = ((1000 + oo : Nat) : Int)
        · obtain ⟨k, k1, k2⟩ := ek
          obtain ⟨w, w1, w2, w3, w4⟩ := hen k k1
          have esk : spK z k = kN c + p := by
            rcases snkK hN hE hP k1 with ⟨e', p', d1, d2, d3, -⟩ | ⟨o', q, d1, d2, -, d4, d5, d6⟩
            · omega
            · have : o' = oo := by omega
              subst this
              omega
          rw [esk] at w3
          obtain ⟨a, q1, q2, q3, q4, q5, -⟩ := rv_p (by omega) w3
          have ha : a = kPw c p := by
            unfold tF at q1
            rw [if_neg (by omega), if_pos rfl, show kN c + p - kN c = p by omega] at q1
            omega
          have eo : q_Model_endOf E (kL c) ((1000 + oo : Nat) : Int) s27 = some (w : Int) := by
            rw [s_endOf (E := E) (c := c) (nS := nS) (k := k) (by rw [o27.2 94 61 (by unfold pBx; omega)]; exact hE.s2) (by omega) k1 (by rw [o27.2 131 k (by unfold pBx; omega)]; exact k2) fun k' h1 h2 => by
              rw [o27.2 131 k' (by unfold pBx; omega)] at h2
              exact hE.su k' k h1 k1 (by rw [h2, k2])]
            rw [o27.2 132 k (by unfold pBx; omega), w4]
          refine ok_v1 eo ?_
          have enm : nmS c z k = ((1 + rv c (kN c + p) w : Nat) : Int) := by unfold nmS; rw [w1, gtN, esk]
          refine ok_b1 (fun s => zOff pBx z s ∧ Row c (s.1 154) (fun i => ((P0 i ∨ ∃ p', p' < p ∧ (onP c z p' i ∨ onO c z nS p' i)) ∨ ∃ b, b < 2 ∧ i = pbP c p + b ∧ zBit v b = true) ∨ ∃ b, b < 4 ∧ i = pbP c p + 2 + b ∧ zBit ((1 + rv c (kN c + p) w : Nat) : Int) b = true)) ?_ fun s ⟨s1, s2⟩ => ?_
          · refine it_for (fun (i : Nat) (t : gZ) => ((i : Int), t)) (fun j s => zOff pBx z s ∧ Row c (s.1 154) (fun i => ((P0 i ∨ ∃ p', p' < p ∧ (onP c z p' i ∨ onO c z nS p' i)) ∨ ∃ b, b < 2 ∧ i = pbP c p + b ∧ zBit v b = true) ∨ (rv c (kN c + p) w < j ∧ ∃ b, b < 4 ∧ i = pbP c p + 2 + b ∧ zBit ((1 + rv c (kN c + p) w : Nat) : Int) b = true))) 0 (kT c) rfl ⟨o27, Row_c R27 fun i _ => ⟨Or.inl, fun x => x.elim id fun y => by omega⟩⟩ (by omega) (by omega) ?_ ?_
            · rintro j s - hj ⟨s1, s2⟩
              have gs : Gr c s := Gr_off s1 (fun k j h => by unfold pS at h; unfold pBx; omega) g
              show zOk (q_Model_burnBits_292 E (kL c) (p : Int) (pbP c p : Int) (w : Int) (j : Int) s) _
              unfold q_Model_burnBits_292
              rw [s1.2 94 3 (by unfold pBx; omega), m3, s_padWire gs hp hj, b1_s]
              (refine ok_neg (by omega) ?_)
              refine ok_br (fun e5 => ?_) fun e5 => ?_
              · have hjr : j = rv c (kN c + p) w := by omega
                (refine ok_gd (by omega) ?_); (refine ok_gd (by omega) ?_)
                rw [show (pbP c p : Int) + 2 = ((pbP c p + 2 : Nat) : Int) by omega, show (1 : Int) + (j : Int) = ((1 + rv c (kN c + p) w : Nat) : Int) by omega]
                refine ok_b1 _ (s_num (a := pbP c p + 2) (w := 4) (v := ((1 + rv c (kN c + p) w : Nat) : Int)) g.1 (by omega) (by omega)) fun s34 ⟨r1, r2⟩ => ?_
                have R34 := Row_put (v := ((1 + rv c (kN c + p) w : Nat) : Int)) s2 (fun i a b => by
                  rintro ((h | ⟨b', b1, b2, -⟩) | ⟨h, -⟩)
                  · exact fresh i (by omega) (by omega) h
                  · omega
                  · omega) r2 fun i hi => r1.2 154 i (by omega)
                rw [ok_l]
                refine ok_inl (Or.inl ⟨s34, rfl, off_t s1 (off_w r1 fun k j y => by unfold pBx; omega), Row_c R34 fun i _ => ?_⟩)
                constructor
                · rintro ((x | ⟨x, -⟩) | x)
                  · exact Or.inl x
                  · omega
                  · exact Or.inr ⟨by omega, x⟩
                · rintro (x | ⟨-, x⟩)
                  · exact Or.inl (Or.inl x)
                  · exact Or.inr x
              · rw [ok_l]
                refine ok_inl (Or.inl ⟨s, rfl, s1, Row_c s2 fun i _ => or_congr Iff.rfl ⟨fun x => ⟨by omega, x.2⟩, fun x => ⟨?_, x.2⟩⟩⟩)
                have := x.1
                omega
            · rintro s ⟨s1, s2⟩
              show zOk (q_Model_burnBits_292 E (kL c) (p : Int) (pbP c p : Int) (w : Int) (kT c : Int) s) _
              unfold q_Model_burnBits_292
              rw [s1.2 94 3 (by unfold pBx; omega), m3]
              (refine ok_pos (by omega) ?_)
              exact ok_inr ⟨s, rfl, s1, Row_c s2 fun i _ => or_congr Iff.rfl ⟨fun x => x.2, fun x => ⟨by omega, x⟩⟩⟩
          · refine fin s _ s1 s2 fun i => ?_
            constructor
            · rintro ⟨b, b1, b2, b3⟩
              exact ⟨k, oo, k1, k2, a1, b, b1, b2, by rw [enm]; exact b3⟩
            · rintro ⟨k', o', c0, c1, c2, b, b1, b2, b3⟩
              have : o' = oo := by omega
              subst this
              have : k' = k := hE.su k' k c0 k1 (by rw [c1, k2])
              subst this
              exact ⟨b, b1, b2, by rw [← enm]; exact b3⟩
        · have eo : q_Model_endOf E (kL c) ((1000 + oo : Nat) : Int) s27 = some (-1) := s_endOf0 (nS := nS) (by rw [o27.2 94 61 (by unfold pBx; omega)]; exact hE.s2) (by omega) fun k hk h => ek ⟨k, hk, by rw [o27.2 131 k (by unfold pBx; omega)] at h; exact h⟩
          refine ok_v1 eo ?_
          refine ok_b1 (fun s => s = s27) ?_ fun s hs => ?_
          · refine it_for (fun (i : Nat) (t : gZ) => ((i : Int), t)) (fun j s => s = s27) 0 (kT c) rfl rfl (by omega) (by omega) ?_ ?_
            · rintro j s - hj hs
              subst hs
              show zOk (q_Model_burnBits_292 E (kL c) (p : Int) (pbP c p : Int) (-1) (j : Int) s) _
              unfold q_Model_burnBits_292
              rw [o27.2 94 3 (by unfold pBx; omega), m3, s_padWire g27 hp hj, b1_s]
              (refine ok_neg (by omega) ?_); (refine ok_neg (by omega) ?_)
              rw [ok_l]
              exact ok_inl (Or.inl ⟨s, rfl, rfl⟩)
            · rintro s hs
              subst hs
              show zOk (q_Model_burnBits_292 E (kL c) (p : Int) (pbP c p : Int) (-1) (kT c : Int) s) _
              unfold q_Model_burnBits_292
              rw [o27.2 94 3 (by unfold pBx; omega), m3]
              (refine ok_pos (by omega) ?_)
              exact ok_inr ⟨s, rfl, rfl⟩
          · subst hs
            refine fin s (fun _ => False) o27 (Row_c R27 fun i _ => ⟨Or.inl, fun x => x.elim id False.elim⟩) fun i => ⟨False.elim, ?_⟩
            rintro ⟨k', o', c0, c1, c2, -⟩
            have : o' = oo := by omega
            subst this
            exact ek ⟨k', c0, c1⟩
    show zOk (q_Model_burnBits_201 E (kL c) (p : Int) u) _
    unfold q_Model_burnBits_201
    rw [ou.2 94 6 (by unfold pBx; omega), m6, ou.2 94 11 (by unfold pBx; omega), m11, ou.2 94 10 (by unfold pBx; omega), m10, ev, kL_137]
    (refine ok_neg (by omega) ?_); (refine ok_gd (by omega) ?_)
    rw [ok_l]
    (refine ok_gd (by omega) ?_)
    rw [gtN, ou.2 137 p (by unfold pBx; omega)]
    rcases padK g.1 hP hM hp with ⟨a1, a2⟩ | ⟨i, -, a1, a2, a3, -⟩ | ⟨oo, -, a1, a2, -⟩
    · exact ok_pos a1 (main 0 a2.symm)
    · exact ok_neg (by omega) (ok_neg (by omega) (main 1 a3.symm))
    · exact ok_neg (by omega) (ok_pos (by omega) (main 2 a2.symm))
  · rintro u ⟨ou, hu⟩
    show zOk (q_Model_burnBits_201 E (kL c) (kD c : Int) u) _
    unfold q_Model_burnBits_201
    rw [ou.2 94 6 (by unfold pBx; omega), m6]
    (refine ok_pos (by omega) ?_)
    exact ok_inr ⟨u, rfl, ou, hu⟩
end
end
-- U8
section
variable {E : gEv} {c : gCf}
section
variable {m nC nN nS nI nO nU nL : Nat} {z : gZ}
theorem s_buW {t : gZ} {b : RSt} (g : Gr c z) (hN : NJ c m nC nN nS nI nO z) (hE : EJ c m nC nS nU nL z) (hP : PZ c nC nI nO z) (hM : PM c (z.1 68) z) (hR : RM c nN nN b z) {P0 : Nat → Prop} (o : zOff pBx z t) (h0 : Row c (t.1 154) P0) : zOk (gIter (fun y => q_Model_burnBits_338 E (kL c) y.1 y.2) gN (0, t)) (fun s => zOff pBx z s ∧ Row c (s.1 154) (fun i => P0 i ∨ onW c z nN b.A b.L i)) := by
  have hZb := kZ_b g.1
  have hYb := kY_b g.1
  have hBb := kB_b g.1
  have hB := kYB c
  have hNN := kN_b g.1
  have hD := kD_b g.1
  have hPb := kP_b g.1
  have hW := kW_b g.1
  have mb := hN.mb
  have nb := hN.nb
  have kBv : kB c = kZ c + kJ c := rfl
  obtain ⟨-, -, -, ⟨t1, t2⟩⟩ := id g.1
  have m3 : z.1 94 3 = kT c := g.2.2.1.2.2.2.1
  have m10 : z.1 94 10 = ((6 + kT c : Nat) : Int) := g.2.2.1.2.2.2.2.2.2.2.2.2.2.1
  have m11 : z.1 94 11 = kY c := g.2.2.1.2.2.2.2.2.2.2.2.2.2.2.1
  have one : zBool 1 = 1 := zBool_n 1 (Or.inr rfl)
  let Wn : Nat → Nat → Prop := fun n i => ∃ w, w < kW c ∧ b.A n w = true ∧ ((b.L n w = -1 ∧ i = drA c z n w) ∨ (0 ≤ b.L n w ∧ i = kZ c + (b.L n w).toNat))
  refine it_for (fun (i : Nat) (t : gZ) => ((i : Int), t)) (fun k u => zOff pBx z u ∧ Row c (u.1 154) (fun i => P0 i ∨ ∃ n, n < k ∧ Wn n i)) 0 nN rfl ⟨o, Row_c h0 fun i _ => ⟨Or.inl, fun x => x.elim id fun ⟨n, h, _⟩ => by omega⟩⟩ (by omega) (by omega) ?_ ?_
  · rintro n u - hn ⟨ou, hu⟩
    obtain ⟨⟨jm, dm, er⟩, -⟩ := hR.er n hn
    have djd : jm + dm ≤ 840 := by have := er.jd; have := cnb_le (b.A n) (kW c); omega
    have ddm : dm ≤ 40 := by
      rw [er.dd]
      exact Nat.le_trans (cnb_mono fun i _ hh => by
        rw [tcB_t]
        rw [Bool.and_eq_true] at hh
        exact er.td i hh.1 (of_decide_eq_true hh.2)) (tcB_b g.1 (spN z n) (kW c))
    show zOk (q_Model_burnBits_338 E (kL c) (n : Int) u) _
    unfold q_Model_burnBits_338
    rw [ou.2 94 60 (by unfold pBx; omega), hN.nm, kL_129]
    (refine ok_neg (by omega) ?_); (refine ok_gd (by omega) ?_)
    rw [ok_l, gtN, ou.2 129 n (by unfold pBx; omega)]
    -- driven wires
    refine ok_b1 (fun s => zOff pBx z s ∧ Row c (s.1 154) (fun i => (P0 i ∨ ∃ n', n' < n ∧ Wn n' i) ∨ ∃ w, b.A n w = true ∧ b.L n w = -1 ∧ i = drA c z n w)) ?_ fun s58 ⟨o58, R58⟩ => ?_
    · refine ok_w (it_for (fun (i : Nat) (t : gZ) => ((i : Int), t)) (fun k u => zOff pBx z u ∧ Row c (u.1 154) (fun i => (P0 i ∨ ∃ n', n' < n ∧ Wn n' i) ∨ ∃ d w : Nat, d < k ∧ z.1 144 (50 * n + d) = w ∧ i = drA c z n w)) 0 dm (Q := fun s => zOff pBx z s ∧ Row c (s.1 154) (fun i => (P0 i ∨ ∃ n', n' < n ∧ Wn n' i) ∨ ∃ d w : Nat, d < dm ∧ z.1 144 (50 * n + d) = w ∧ i = drA c z n w)) rfl ⟨ou, Row_c hu fun i _ => ⟨Or.inl, fun x => x.elim id fun ⟨d, w, h, _⟩ => by omega⟩⟩ (by omega) (by omega) ?_ ?_) ?_
      · rintro d u' - hd ⟨ou', hu'⟩
        obtain ⟨w, w1, w2, w3⟩ := er.d1 d hd
        have ht := er.td w w1 w2
        have hwW := er.hW w w1
        have hdb := drA_b g hN hE hP hn ht
        have rvb := rv_b g.1 ht
        have gu : Gr c u' := Gr_off ou' (fun k j h => by unfold pS at h; unfold pBx; omega) g
        have mt : PM c (z.1 68) u' := PM_o hM ou' fun k j y => by unfold pBx at y; omega
        have fin : zOk (gLet (zPut u' 154 (drA c z n w) 1) fun s52 => gLet ((d : Int) + 1) fun x53 => some (.inl (x53, s52)) : Option ((Int × gZ) ⊕ gZ)) (fun r => (∃ t', r = Sum.inl (((d + 1 : Nat) : Int), t') ∧ zOff pBx z t' ∧ Row c (t'.1 154) (fun i => (P0 i ∨ ∃ n', n' < n ∧ Wn n' i) ∨ ∃ d' w : Nat, d' < d + 1 ∧ z.1 144 (50 * n + d') = w ∧ i = drA c z n w)) ∨ ∃ s, r = Sum.inr s ∧ zOff pBx z s ∧ Row c (s.1 154) (fun i => (P0 i ∨ ∃ n', n' < n ∧ Wn n' i) ∨ ∃ d w : Nat, d < dm ∧ z.1 144 (50 * n + d) = w ∧ i = drA c z n w)) := by
          rw [ok_l, ok_l]
          have R := Row_one hu' (r' := (zPut u' 154 (drA c z n w) 1).1 154) (a := drA c z n w) (by (simp only [zp1, zr1, zf1, Nat.reduceEqDiff, Nat.reduceBEq, reduceIte, if_true, if_false, and_true, true_and, and_false, false_and, gtN])) fun i hi => by rw [zp1, if_pos rfl, if_neg hi]
          refine ok_inl (Or.inl ⟨_, rfl, off_t ou' (off_put (by unfold pBx; omega)), Row_c R fun i _ => ?_⟩)
          constructor
          · rintro ((x | ⟨d', w', a1, a2⟩) | x)
            · exact Or.inl x
            · exact Or.inr ⟨d', w', by omega, a2⟩
            · exact Or.inr ⟨d, w, by omega, w3, x⟩
          · rintro (x | ⟨d', w', a1, a2, a3⟩)
            · exact Or.inl (Or.inl x)
            · by_cases y : d' = d
              · subst y
                have : w' = w := by omega
                subst this
                exact Or.inr a3
              · exact Or.inl (Or.inr ⟨d', w', by omega, a2, a3⟩)
        show zOk (q_Model_burnBits_355 E (kL c) (n : Int) (z.1 129 n) (d : Int) u') _
        unfold q_Model_burnBits_355
        rw [kL_145, kL_144, kL_154, one]
        (refine ok_gd (by omega) ?_)
        rw [gtN, ou'.2 145 n (by unfold pBx; omega), er.zd]
        (refine ok_neg (by omega) ?_)
        rw [show 50 * (n : Int) + (d : Int) = ((50 * n + d : Nat) : Int) by omega]
        (refine ok_gd (by omega) ?_)
        rw [ok_l, gtN, ou'.2 144 _ (by unfold pBx; omega), w3]
        obtain ⟨h60, hsrc⟩ := srcK hN hE hP hn
        rcases hsrc with ⟨i, p, i1, i2, p1, p2, p3⟩ | ⟨e, e1, e2, e3, e4, e5, e6⟩
        · have ib := hP.ib
          refine ok_neg (by omega) ?_
          have hu2 : uT c nC nI nO (kN c + i) := by unfold uT; omega
          obtain ⟨q1, q2⟩ := s_padOf (E := E) g.1 hP mt hu2 (by omega) (q := kN c + p) p3
          rw [show cdP c ((kN c + i : Nat) : Int) = (i : Int) by unfold cdP; rw [if_neg (by omega), if_pos (by omega)]; omega, show kN c + p - kN c = p by omega] at q2
          rw [i2]
          refine ok_v1 q2 ?_
          rw [ou'.2 94 3 (by unfold pBx; omega), m3, ou'.2 94 11 (by unfold pBx; omega), m11, ou'.2 94 10 (by unfold pBx; omega), m10]
          (refine ok_gd (by omega) ?_)
          have rm : zRem (w : Int) (kT c : Int) = ((w % kT c : Nat) : Int) := zRem_n w (kT c) (by omega) (by omega)
          have hpb := pb_b p1
          obtain ⟨a, -, -, -, -, -, rvm⟩ := rv_p (by omega) ht
          have ev : (kY c : Int) + (p : Int) * ((6 + kT c : Nat) : Int) + 6 + ((w % kT c : Nat) : Int) = (drA c z n w : Int) := by
            have e0 : (kY c : Int) + (p : Int) * ((6 + kT c : Nat) : Int) = (pbP c p : Int) := by
              unfold pbP; simp only [Int.natCast_mul, Int.natCast_add, Int.cast_ofNat_Int]
            have e1 : drA c z n w = pbP c p + 6 + rv c (spN z n) w := by
              unfold drA; rw [if_neg (by omega), show spN z n - kN c = p by omega]
            rw [e0, e1]; omega
          rw [rm, ev]
          (refine ok_gd (by omega) ?_)
          rw [gtN]; exact fin
        · refine ok_pos e5 ?_
          have el : q_Model_elementOf E (kL c) (z.1 129 n) u' = some (e : Int) := by
            unfold q_Model_elementOf
            rw [kL_128]
            rcases e6 with ⟨a1, a2⟩ | ⟨a1, a2, a3, a4⟩
            · rw [if_neg (by omega), if_pos (by omega), a2]
            · rw [if_pos (by omega), if_neg (by omega), if_pos (by omega), ou'.2 128 _ (by unfold pBx; omega), a2]
          refine ok_v1 el ?_
          obtain ⟨tl, bo⟩ := s_baseOf (E := E) g hN hE hP hM ou' e1
          refine ok_v1 bo ?_
          refine ok_v1 tl ?_
          refine ok_v1 (s_placeV gu (q := spE z e) (w := w) (by rw [← e3]; exact e4) (by rw [← e3]; exact ht)) ?_
          have ev : (bsE c z e : Int) + 42 + ((1 + rv c (spE z e) w : Nat) : Int) - 1 = (drA c z n w : Int) := by
            have e1 : drA c z n w = bsE c z e + 42 + rv c (spN z n) w := by
              unfold drA; rw [if_pos e4, e2]
            rw [e1, e3]; omega
          rw [ev]
          (refine ok_gd (by omega) ?_)
          rw [gtN]; exact fin
      · rintro u' ⟨ou', hu'⟩
        show zOk (q_Model_burnBits_355 E (kL c) (n : Int) (z.1 129 n) (dm : Int) u') _
        unfold q_Model_burnBits_355
        rw [kL_145]
        (refine ok_gd (by omega) ?_)
        rw [gtN, ou'.2 145 n (by unfold pBx; omega), er.zd]
        (refine ok_pos (by omega) ?_)
        exact ok_inr ⟨u', rfl, ou', hu'⟩
      · rintro s ⟨s1, s2⟩
        refine ⟨s1, Row_c s2 fun i _ => or_congr Iff.rfl ?_⟩
        constructor
        · rintro ⟨d, w, a1, a2, a3⟩
          obtain ⟨w', b1, b2, b3⟩ := er.d1 d a1
          have : w' = w := by omega
          subst this
          exact ⟨w', b1, b2, a3⟩
        · rintro ⟨w, a1, a2, a3⟩
          obtain ⟨d, b1, b2⟩ := er.d2 w a1 a2
          exact ⟨d, w, b1, b2, a3⟩
    · -- joined wires
      refine ok_b1 (fun s => zOff pBx z s ∧ Row c (s.1 154) (fun i => ((P0 i ∨ ∃ n', n' < n ∧ Wn n' i) ∨ ∃ w, b.A n w = true ∧ b.L n w = -1 ∧ i = drA c z n w) ∨ ∃ w, b.A n w = true ∧ 0 ≤ b.L n w ∧ i = kZ c + (b.L n w).toNat)) ?_ fun s62 ⟨o62, R62⟩ => ?_
      · refine ok_w (it_for (fun (i : Nat) (t : gZ) => ((i : Int), t)) (fun k u => zOff pBx z u ∧ Row c (u.1 154) (fun i => ((P0 i ∨ ∃ n', n' < n ∧ Wn n' i) ∨ ∃ w, b.A n w = true ∧ b.L n w = -1 ∧ i = drA c z n w) ∨ ∃ d : Nat, d < k ∧ z.1 142 (840 * n + d) = i)) 0 jm (Q := fun s => zOff pBx z s ∧ Row c (s.1 154) (fun i => ((P0 i ∨ ∃ n', n' < n ∧ Wn n' i) ∨ ∃ w, b.A n w = true ∧ b.L n w = -1 ∧ i = drA c z n w) ∨ ∃ d : Nat, d < jm ∧ z.1 142 (840 * n + d) = i)) rfl ⟨o58, Row_c R58 fun i _ => ⟨Or.inl, fun x => x.elim id fun ⟨d, h, _⟩ => by omega⟩⟩ (by omega) (by omega) ?_ ?_) ?_
        · rintro d u' - hd ⟨ou', hu'⟩
          obtain ⟨w, w1, w2, w3⟩ := er.j1 d hd
          have lv := er.lv w w1
          have hl : b.L n w < kJ c := by omega
          show zOk (q_Model_burnBits_469 E (kL c) (n : Int) (d : Int) u') _
          unfold q_Model_burnBits_469
          rw [kL_143, kL_142, kL_154, one]
          (refine ok_gd (by omega) ?_)
          rw [gtN, ou'.2 143 n (by unfold pBx; omega), er.zj]
          (refine ok_neg (by omega) ?_)
          rw [show 840 * (n : Int) + (d : Int) = ((840 * n + d : Nat) : Int) by omega]
          (refine ok_gd (by omega) ?_)
          rw [gtN, ou'.2 142 _ (by unfold pBx; omega), w3, show (kZ c : Int) + b.L n w = ((kZ c + (b.L n w).toNat : Nat) : Int) by omega]
          (refine ok_gd (by omega) ?_)
          rw [ok_l, ok_l, gtN]
          have R := Row_one hu' (r' := (zPut u' 154 (kZ c + (b.L n w).toNat) 1).1 154) (a := kZ c + (b.L n w).toNat) (by (simp only [zp1, zr1, zf1, Nat.reduceEqDiff, Nat.reduceBEq, reduceIte, if_true, if_false, and_true, true_and, and_false, false_and, gtN])) fun i hi => by rw [zp1, if_pos rfl, if_neg hi]
          refine ok_inl (Or.inl ⟨_, rfl, off_t ou' (off_put (by unfold pBx; omega)), Row_c R fun i _ => ?_⟩)
          constructor
          · rintro ((x | ⟨d', a1, a2⟩) | x)
            · exact Or.inl x
            · exact Or.inr ⟨d', by omega, a2⟩
            · exact Or.inr ⟨d, by omega, by omega⟩
          · rintro (x | ⟨d', a1, a2⟩)
            · exact Or.inl (Or.inl x)
            · by_cases y : d' = d
              · subst y
                right; omega
              · exact Or.inl (Or.inr ⟨d', by omega, a2⟩)
        · rintro u' ⟨ou', hu'⟩
          show zOk (q_Model_burnBits_469 E (kL c) (n : Int) (jm : Int) u') _
          unfold q_Model_burnBits_469
          rw [kL_143]
          (refine ok_gd (by omega) ?_)
          rw [gtN, ou'.2 143 n (by unfold pBx; omega), er.zj]
          (refine ok_pos (by omega) ?_)
          exact ok_inr ⟨u', rfl, ou', hu'⟩
        · rintro s ⟨s1, s2⟩
          refine ⟨s1, Row_c s2 fun i _ => or_congr Iff.rfl ?_⟩
          constructor
          · rintro ⟨d, a1, a2⟩
            obtain ⟨w, b1, b2, b3⟩ := er.j1 d a1
            exact ⟨w, b1, b2, by omega⟩
          · rintro ⟨w, a1, a2, a3⟩
            obtain ⟨d, b1, b2⟩ := er.j2 w a1 a2
            exact ⟨d, b1, by omega⟩
      · rw [ok_l]
        refine ok_inl (Or.inl ⟨s62, rfl, o62, Row_c R62 fun i _ => ?_⟩)
        constructor
        · rintro (((x | ⟨n', a1, a2⟩) | ⟨w, a1, a2, a3⟩) | ⟨w, a1, a2, a3⟩)
          · exact Or.inl x
          · exact Or.inr ⟨n', by omega, a2⟩
          · exact Or.inr ⟨n, by omega, w, er.hW w a1, a1, Or.inl ⟨a2, a3⟩⟩
          · exact Or.inr ⟨n, by omega, w, er.hW w a1, a1, Or.inr ⟨a2, a3⟩⟩
        · rintro (x | ⟨n', a1, a2⟩)
          · exact Or.inl (Or.inl (Or.inl x))
          · by_cases y : n' = n
            · subst y
              obtain ⟨w, -, b1, b2 | b2⟩ := a2
              · exact Or.inl (Or.inr ⟨w, b1, b2.1, b2.2⟩)
              · exact Or.inr ⟨w, b1, b2.1, b2.2⟩
            · exact Or.inl (Or.inl (Or.inr ⟨n', by omega, a2⟩))
  · rintro u ⟨ou, hu⟩
    show zOk (q_Model_burnBits_338 E (kL c) (nN : Int) u) _
    unfold q_Model_burnBits_338
    rw [ou.2 94 60 (by unfold pBx; omega), hN.nm]
    (refine ok_pos (by omega) ?_)
    refine ok_inr ⟨u, rfl, ou, Row_c hu fun i _ => or_congr Iff.rfl ?_⟩
    constructor
    · rintro ⟨n, a, w, b1, b2⟩; exact ⟨n, w, a, b1, b2⟩
    · rintro ⟨n, w, a, b1, b2⟩; exact ⟨n, a, w, b1, b2⟩
end
end
-- U9
section
variable {E : gEv} {c : gCf}
section
variable {m nC nN nS nI nO nU nL : Nat} {z : gZ}
theorem on_CR (g : Gr c z) (hN : NJ c m nC nN nS nI nO z) (hE : EJ c m nC nS nU nL z) (hP : PZ c nC nI nO z) (hM : PM c (z.1 68) z) (b : RSt) (i : Nat) : onC c z m nN nS b i ↔ (((∃ e, e < m ∧ (onE c z e i ∨ ∃ p, p < 4 ∧ onN c z nS e p i)) ∨ ∃ p, p < kD c ∧ (onP c z p i ∨ onO c z nS p i)) ∨ onW c z nN b.A b.L i) := by
  have mb := hN.mb
  have hD := kD_b g.1
  have ob := hP.ob
  have hPb := kP_b g.1
  unfold onC
  refine or_congr ?_ Iff.rfl
  constructor
  · rintro ((⟨e, a, h⟩ | ⟨p, a, h⟩) | ⟨k, a, h⟩)
    · exact Or.inl ⟨e, a, Or.inl h⟩
    · exact Or.inr ⟨p, a, Or.inl h⟩
    · rcases snkK hN hE hP a with ⟨e, p, e1, e2, e3, e4, e5, e6⟩ | ⟨o, q, o1, o2, o3, o4, o5, o6⟩
      · rcases h with ⟨-, b', b1, b2, b3⟩ | ⟨h, -⟩
        · rw [e4, gtN, show (4 * e + p) / 4 = e by omega, show (4 * e + p) % 4 = p by omega] at b2
          exact Or.inl ⟨e, e1, Or.inr ⟨p, e2, k, a, e3, b', b1, b2, b3⟩⟩
        · omega
      · rcases h with ⟨h, -⟩ | ⟨-, b', b1, b2, b3⟩
        · omega
        · rw [o5, show kN c + q - kN c = q by omega] at b2
          refine Or.inr ⟨q, o4, Or.inr ⟨k, o, a, o2, ?_, b', b1, b2, b3⟩⟩
          obtain ⟨r, r1, r2, r3, r4⟩ := hP.sp (kN c + kD c + o) (by unfold uT; omega)
          have : r = kN c + q := by omega
          subst this
          rw [hM.p q o4, r3]
          unfold cdP
          rw [if_neg (by omega), if_neg (by omega)]; omega
  · rintro (⟨e, a, h | ⟨p, p1, k, k1, k2, b', b1, b2, b3⟩⟩ | ⟨p, a, h | ⟨k, o, k1, k2, k3, b', b1, b2, b3⟩⟩)
    · exact Or.inl (Or.inl ⟨e, a, h⟩)
    · refine Or.inr ⟨k, k1, ?_⟩
      rcases snkK hN hE hP k1 with ⟨e', p', e1, e2, e3, e4, e5, e6⟩ | ⟨o', q, o1, o2, -⟩
      · have h1 : e' = e := by omega
        have h2 : p' = p := by omega
        subst h1; subst h2
        refine Or.inl ⟨by omega, b', b1, ?_, b3⟩
        rw [e4, gtN, show (4 * e' + p') / 4 = e' by omega, show (4 * e' + p') % 4 = p' by omega]; exact b2
      · omega
    · exact Or.inl (Or.inr ⟨p, a, h⟩)
    · refine Or.inr ⟨k, k1, ?_⟩
      rcases snkK hN hE hP k1 with ⟨e', p', e1, e2, e3, -⟩ | ⟨o', q, o1, o2, o3, o4, o5, o6⟩
      · omega
      · have h1 : o' = o := by omega
        subst h1
        rcases padK g.1 hP hM a with ⟨x, -⟩ | ⟨j, -, x, y, -⟩ | ⟨o'', x1, x2, x3, x4⟩
        · omega
        · omega
        · have : o'' = o' := by omega
          subst this
          have : q = p := by omega
          subst this
          refine Or.inr ⟨by omega, b', b1, ?_, b3⟩
          rw [o5, show kN c + q - kN c = q by omega]; exact b2
end
theorem EJ_o {P : Nat → Nat → Prop} {m nC nS nU nL : Nat} {z s : gZ} (h : EJ c m nC nS nU nL z) (o : zO P z s) (hP : ∀ k j, P k j → k ≠ 32 ∧ k ≠ 36 ∧ ¬ (54 ≤ k ∧ k ≤ 57) ∧ k ≠ 108 ∧ ¬ (125 ≤ k ∧ k ≤ 129) ∧ k ≠ 131 ∧ k ≠ 133 ∧ k ≠ 134 ∧ ¬ (k = 30 ∧ j = 10) ∧ ¬ (k = 53 ∧ (j = 15 ∨ j = 17)) ∧ ¬ (k = 94 ∧ (j = 55 ∨ j = 61))) : EJ c m nC nS nU nL s := by
  have r : ∀ k, k = 32 ∨ k = 36 ∨ (54 ≤ k ∧ k ≤ 57) ∨ k = 108 ∨ (125 ≤ k ∧ k ≤ 129) ∨ k = 131 ∨ k = 133 ∨ k = 134 → s.1 k = z.1 k := fun k hk => funext fun j => o k j fun x => by have := hP _ _ x; omega
  obtain ⟨h1, h2, h3, h4, h5, h6, h7, h8, h9, h10, h11, h12, h13, h14, h15⟩ := h
  exact ⟨by rw [r 55 (by omega), r 125 (by omega), r 56 (by omega), r 133 (by omega), r 57 (by omega), r 134 (by omega)]; exact h1, by rw [r 56 (by omega), r 57 (by omega)]; exact h2, by rw [r 55 (by omega)]; exact h3, by rw [r 32 (by omega), r 108 (by omega)]; exact h4, h5, by rw [r 127 (by omega), r 36 (by omega)]; exact h6, by rw [o 30 10 fun x => by have := hP _ _ x; omega]; exact h7, h8, by rw [o 53 15 fun x => by have := hP _ _ x; omega]; exact h9, by rw [o 94 55 fun x => by have := hP _ _ x; omega]; exact h10, by rw [o 94 61 fun x => by have := hP _ _ x; omega]; exact h11, by rw [r 126 (by omega), r 131 (by omega)]; exact h12, by rw [r 131 (by omega)]; exact h13, by rw [r 54 (by omega), r 128 (by omega)]; exact h14, by rw [r 129 (by omega), o 53 17 fun x => by have := hP _ _ x; omega]; exact h15⟩
theorem EA_o {P : Nat → Nat → Prop} {nN : Nat} {A : Nat → Nat → Bool} {z s : gZ} (h : EA c nN A z) (o : zO P z s) (hP : ∀ k j, P k j → k ≠ 74 ∧ k ≠ 75 ∧ ¬ (k = 70 ∧ j = 4)) : EA c nN A s := by
  have e4 : s.1 74 = z.1 74 := funext fun j => o 74 j fun x => (hP _ _ x).1 rfl
  have e5 : s.1 75 = z.1 75 := funext fun j => o 75 j fun x => (hP _ _ x).2.1 rfl
  refine ⟨by rw [o 70 4 fun x => (hP _ _ x).2.2 ⟨rfl, rfl⟩]; exact h.wd, fun n w a b => ?_, h.hW, by rw [e5]; exact h.cn⟩
  rw [← h.bit n w a b]
  unfold hadB
  rw [e4]
theorem RP_o {P : Nat → Nat → Prop} {nN nS : Nat} {b : RSt} {z s : gZ} (h : RP c z nN nS b) (o : zO P z s) (hP : ∀ k j, P k j → k ≠ 64 ∧ k ≠ 69) : RP c s nN nS b := by
  have e4 : s.1 64 = z.1 64 := funext fun j => o 64 j fun x => (hP _ _ x).1 rfl
  have e5 : s.1 69 = z.1 69 := funext fun j => o 69 j fun x => (hP _ _ x).2 rfl
  refine ⟨h.one, h.lk, fun k hk => ?_⟩
  have := h.en k hk
  unfold spK at *
  rw [e4, e5]; exact this
theorem iRou_o {P : Nat → Nat → Prop} {z s : gZ} (h : iRou c z) (hk : kOk c) (o : zO P z s) (hP : ∀ k j, P k j → ¬ (k = 70 ∧ (j = 4 ∨ j = 15)) ∧ ¬ (k = 94 ∧ (j = 77 ∨ j = 106)) ∧ ¬ (k = 53 ∧ j = 17) ∧ ¬ (74 ≤ k ∧ k ≤ 75) ∧ ¬ (77 ≤ k ∧ k ≤ 79) ∧ k ≠ 132 ∧ ¬ (141 ≤ k ∧ k ≤ 145) ∧ k ≠ 147 ∧ k ≠ 61 ∧ k ≠ 62 ∧ k ≠ 64 ∧ k ≠ 69) : iRou c s := by
  obtain ⟨h0, h⟩ := h
  refine ⟨by rw [o 70 4 fun x => by have := hP _ _ x; omega]; exact h0, ?_⟩
  rcases h with ⟨h1, h2⟩ | ⟨h1, nN, v, b, h2, h3, h4, h5, h6, ⟨h7, h8, h9⟩, h10, h11, nS, h12, h13⟩
  · exact Or.inl ⟨by rw [o 70 15 fun x => by have := hP _ _ x; omega]; exact h1, by rw [o 94 77 fun x => by have := hP _ _ x; omega]; exact h2⟩
  · have r : ∀ k, k = 77 ∨ k = 78 ∨ k = 79 ∨ k = 62 → s.1 k = z.1 k := fun k hk => funext fun j => o k j fun x => by have := hP _ _ x; omega
    exact Or.inr ⟨by rw [o 94 106 fun x => by have := hP _ _ x; omega]; exact h1, nN, v, b, by rw [o 53 17 fun x => by have := hP _ _ x; omega]; exact h2, h3, h4, by rw [o 70 15 fun x => by have := hP _ _ x; omega]; exact h5, by rw [o 94 77 fun x => by have := hP _ _ x; omega]; exact h6, ⟨EA_o h7 o fun k j x => by have := hP _ _ x; omega, by rw [r 77 (by omega)]; exact h8, by rw [r 79 (by omega)]; exact h9⟩, by rw [r 78 (by omega)]; exact h10, RM_o h11 hk o fun k j x => by have := hP _ _ x; omega, nS, by rw [r 62 (by omega)]; exact h12, RP_o h13 o fun k j x => by have := hP _ _ x; omega⟩
/-- all that burning reads -/
abbrev BD (c : gCf) (m nC nN nS nI nO nU nL : Nat) (b : RSt) (z : gZ) : Prop := ∃ _ : (Gr c z), ∃ _ : (NJ c m nC nN nS nI nO z), ∃ _ : (EJ c m nC nS nU nL z), ∃ _ : (PZ c nC nI nO z), ∃ _ : (PM c (z.1 68) z), ∃ _ : (CSt c nN b z), ∃ _ : (∀ w, w < kW c → z.1 78 w = kpR b.A nN w), ∃ _ : (RM c nN nN b z), (RP c z nN nS b)
theorem BD.g {c : gCf} {m nC nN nS nI nO nU nL : Nat} {b : RSt} {z : gZ} (h : BD c m nC nN nS nI nO nU nL b z) : Gr c z := by obtain ⟨x, _⟩ := h; exact x
theorem BD.n {c : gCf} {m nC nN nS nI nO nU nL : Nat} {b : RSt} {z : gZ} (h : BD c m nC nN nS nI nO nU nL b z) : NJ c m nC nN nS nI nO z := by obtain ⟨_, x, _⟩ := h; exact x
theorem BD.e {c : gCf} {m nC nN nS nI nO nU nL : Nat} {b : RSt} {z : gZ} (h : BD c m nC nN nS nI nO nU nL b z) : EJ c m nC nS nU nL z := by obtain ⟨_, _, x, _⟩ := h; exact x
theorem BD.k {c : gCf} {m nC nN nS nI nO nU nL : Nat} {b : RSt} {z : gZ} (h : BD c m nC nN nS nI nO nU nL b z) : PZ c nC nI nO z := by obtain ⟨_, _, _, x, _⟩ := h; exact x
theorem BD.m {c : gCf} {m nC nN nS nI nO nU nL : Nat} {b : RSt} {z : gZ} (h : BD c m nC nN nS nI nO nU nL b z) : PM c (z.1 68) z := by obtain ⟨_, _, _, _, x, _⟩ := h; exact x
theorem BD.s {c : gCf} {m nC nN nS nI nO nU nL : Nat} {b : RSt} {z : gZ} (h : BD c m nC nN nS nI nO nU nL b z) : CSt c nN b z := by obtain ⟨_, _, _, _, _, x, _⟩ := h; exact x
theorem BD.kp {c : gCf} {m nC nN nS nI nO nU nL : Nat} {b : RSt} {z : gZ} (h : BD c m nC nN nS nI nO nU nL b z) : ∀ w, w < kW c → z.1 78 w = kpR b.A nN w := by obtain ⟨_, _, _, _, _, _, x, _⟩ := h; exact x
theorem BD.r {c : gCf} {m nC nN nS nI nO nU nL : Nat} {b : RSt} {z : gZ} (h : BD c m nC nN nS nI nO nU nL b z) : RM c nN nN b z := by obtain ⟨_, _, _, _, _, _, _, x, _⟩ := h; exact x
theorem BD.p {c : gCf} {m nC nN nS nI nO nU nL : Nat} {b : RSt} {z : gZ} (h : BD c m nC nN nS nI nO nU nL b z) : RP c z nN nS b := by obtain ⟨_, _, _, _, _, _, _, _, x⟩ := h; exact x
def pBd (k j : Nat) : Prop := (81 ≤ k ∧ k ≤ 93) ∨ k = 154
section
variable {m nC nN nS nI nO nU nL : Nat} {b : RSt} {z s : gZ}
theorem BD_o (h : BD c m nC nN nS nI nO nU nL b z) (o : zOff pBd z s) : BD c m nC nN nS nI nO nU nL b s := by
  obtain ⟨h1, h2, h3, h4, h5, ⟨h6, h6', h6''⟩, h7, h8, h9⟩ := h
  have e8 : s.1 68 = z.1 68 := funext fun j => o.2 68 j (by unfold pBd; omega)
  exact ⟨Gr_off o (fun k j h => by unfold pS at h; unfold pBd; omega) h1, NJ_o h2 o fun k j h => by unfold pN at h; unfold pBd; omega, EJ_o h3 o.2 fun k j h => by unfold pBd at h; omega, PK_o h4 o fun k j h => by unfold pBd at h; omega, by rw [e8]; exact PM_o h5 o fun k j h => by unfold pBd at h; omega, ⟨EA_o h6 o.2 fun k j h => by unfold pBd at h; omega, by rw [show s.1 77 = z.1 77 from funext fun j => o.2 77 j (by unfold pBd; omega)]; exact h6', by rw [show s.1 79 = z.1 79 from funext fun j => o.2 79 j (by unfold pBd; omega)]; exact h6''⟩, by rw [show s.1 78 = z.1 78 from funext fun j => o.2 78 j (by unfold pBd; omega)]; exact h7, RM_o h8 h1.1 o.2 fun k j h => by unfold pBd at h; omega, RP_o h9 o.2 fun k j h => by unfold pBd at h; omega⟩
theorem onC_c (o : zOff pBd z s) : onC c s m nN nS b = onC c z m nN nS b := by
  have r : ∀ k, k < 81 ∨ (93 < k ∧ k < 154) → s.1 k = z.1 k := fun k hk => funext fun j => o.2 k j (by unfold pBd; omega)
  funext i
  unfold onC onE onP onS onW drA elM nmS bsE kdP spE spN spK
  rw [r 127 (by omega), r 55 (by omega), r 32 (by omega), r 68 (by omega), r 63 (by omega), r 79 (by omega), r 129 (by omega), r 128 (by omega), r 69 (by omega), r 56 (by omega), r 57 (by omega), r 61 (by omega), r 64 (by omega)]
theorem BD_en (h : BD c m nC nN nS nI nO nU nL b z) : ∀ k, k < nS → ∃ e : Nat, z.1 79 k = e ∧ e < kW c ∧ kTc c (spK z k) e ∧ z.1 132 k = e := fun k hk => by
  obtain ⟨e, e1, e2, e3⟩ := h.p.en k hk
  refine ⟨e, by rw [h.s.2.2]; exact e1, e2, e3, ?_⟩
  have : ∃ n, n < nN ∧ z.1 62 n ≤ k ∧ (k : Int) < z.1 62 (n + 1) := by
    have key : ∀ N, N ≤ nN → (k : Int) < z.1 62 N → ∃ n, n < N ∧ z.1 62 n ≤ k ∧ (k : Int) < z.1 62 (n + 1) := by
      intro N
      induction N with
      | zero => intro _ h'; rw [h.n.f0] at h'; omega
      | succ N ih =>
        intro hN' h
        by_cases e : (k : Int) < z.1 62 N
        · obtain ⟨n, a, b⟩ := ih (by omega) e
          exact ⟨n, by omega, b⟩
        · exact ⟨N, by omega, by omega, h⟩
    exact key nN (Nat.le_refl _) (by rw [h.n.fN]; omega)
  obtain ⟨n, n1, n2, n3⟩ := this
  rw [(h.r.er n n1).2 k n2 n3, e1]
theorem BD_lv (h : BD c m nC nN nS nI nO nU nL b z) : ∀ n w, n < nN → b.A n w = true → b.L n w = -1 ∨ (0 ≤ b.L n w ∧ b.L n w < kJ c) := fun n w hn ha => by
  obtain ⟨⟨jm, dm, er⟩, -⟩ := h.r.er n hn
  exact er.lv w ha
theorem BD_td (h : BD c m nC nN nS nI nO nU nL b z) : ∀ n w, n < nN → b.A n w = true → b.L n w = -1 → kTc c (spN z n) w := fun n w hn ha hl => by
  obtain ⟨⟨jm, dm, er⟩, -⟩ := h.r.er n hn
  exact er.td w ha hl
/-- the class writes its bits -/
theorem s_wrAll (h : BD c m nC nN nS nI nO nU nL b z) (h0 : Row c (z.1 82) (fun _ => False)) : zOk (q_Packing_write E (kL c) z) (fun s => zOk (q_Router_write E (kL c) s) (fun t => zOff pBu z t ∧ Row c (t.1 82) (onC c z m nN nS b))) := by
  obtain ⟨g, hN, he, hP, hM, hs, hkp, hr, hp⟩ := id h
  refine ok_w (P := fun s => zOff pBu z s ∧ Row c (s.1 82) (fun i => (∃ e, e < m ∧ onE c z e i) ∨ ∃ p, p < kD c ∧ onP c z p i)) ?_ fun s4 ⟨o4, R4⟩ => ?_
  · unfold q_Packing_write
    refine ok_b1 _ (s_wrE g he hP hN.mb off_r h0) fun s ⟨a, b⟩ => ?_
    exact ok_b1 _ (s_wrP g he hP a b) fun s' hs => ok_so hs
  · unfold q_Router_write
    refine ok_b1 _ (s_wrS g hN he hP (fun k hk => by obtain ⟨e, a, b, d, -⟩ := BD_en h k hk; exact ⟨e, a, b, d⟩) o4 R4) fun s ⟨a, b'⟩ => ?_
    exact ok_b1 _ (s_wrW g hN he hP hkp hs.2.1 hp.one hp.lk (BD_lv h) (BD_td h) a b') fun s' hs => ok_so hs
theorem s_burnBits (h : BD c m nC nN nS nI nO nU nL b z) : zOk (q_Model_burnBits E (kL c) z) (fun s => zOff (fun k j => k = 154 ∨ (k = 94 ∧ j = 97)) z s ∧ s.1 94 97 = 0 ∧ Row c (s.1 154) (onC c z m nN nS b)) := by
  obtain ⟨g, hN, he, hP, hM, hs, hkp, hr, hp⟩ := id h
  have hen := BD_en h
  have hBb := kB_b g.1
  have m13 : z.1 94 13 = kB c := g.2.2.1.2.2.2.2.2.2.2.2.2.2.2.2.2
  have zero : zBool 0 = 0 := zBool_n 0 (Or.inl rfl)
  unfold q_Model_burnBits
  refine ok_b1 (fun s => zOff pBx z s ∧ Row c (s.1 154) (fun _ => False)) ?_ fun e3 ⟨o3, R3⟩ => ?_
  · refine it_for (fun (i : Nat) (t : gZ) => ((i : Int), t)) (fun k s => zOff pBx z s ∧ ∀ i, i < k → s.1 154 i = 0) 0 (kB c) rfl ⟨off_r, fun i hi => by omega⟩ (by omega) (by omega) ?_ ?_
    · rintro i s - hi ⟨a, d⟩
      show zOk (q_Model_burnBits_2 E (kL c) (i : Int) s) _
      unfold q_Model_burnBits_2
      rw [a.2 94 13 (by unfold pBx; omega), m13, kL_154, zero]
      (refine ok_neg (by omega) ?_); (refine ok_gd (by omega) ?_)
      rw [ok_l, ok_l, gtN]
      refine ok_inl (Or.inl ⟨_, rfl, off_t a (off_put rfl), fun j hj => ?_⟩)
      rw [zp1, if_pos rfl]
      by_cases x : j = i
      · rw [if_pos x]
      · rw [if_neg x]; exact d j (by omega)
    · rintro s ⟨a, d⟩
      show zOk (q_Model_burnBits_2 E (kL c) (kB c : Int) s) _
      unfold q_Model_burnBits_2
      rw [a.2 94 13 (by unfold pBx; omega), m13]
      (refine ok_pos (by omega) ?_)
      exact ok_inr ⟨s, rfl, a, fun i hi => ⟨False.elim, fun _ => d i hi⟩⟩
  · refine ok_b1 _ (s_buE g hN he hP hM hen o3 R3) fun e23 ⟨o23, R23⟩ => ?_
    refine ok_b1 _ (s_buP g hN he hP hM hen (P0 := fun i => ∃ e, e < m ∧ (onE c z e i ∨ ∃ p, p < 4 ∧ onN c z nS e p i)) ?_ o23 R23) fun e40 ⟨o40, R40⟩ => ?_
    · rintro i ⟨e, e1, e2⟩
      have hb := (bs_P g.1 he hP e1).2.1
      rcases e2 with e2 | ⟨p, p1, k, -, -, b', b1, b2, -⟩
      · obtain ⟨o', d1, d2⟩ := on_lo g he hP e1 e2
        have := kX_b g.1
        omega
      · have := kX_b g.1
        omega
    · refine ok_b1 _ (s_buW g hN he hP hM hr o40 R40) fun e65 ⟨o65, R65⟩ => ?_
      rw [ok_l]
      refine ok_so ⟨off_t (off_w o65 fun k j x => Or.inl x) (off_put (Or.inr ⟨rfl, rfl⟩)), rfl, ?_⟩
      rw [zp_ne _ _ _ _ _ (by decide)]
      exact Row_c R65 fun i _ => (on_CR g hN he hP hM b i).symm
end
/-- elements, with what burning needs of them -/
def iEl (c : gCf) (z : gZ) : Prop := z.1 94 106 = 0 ∨ ∃ m nC nS nU nL : Nat, EJ c m nC nS nU nL z ∧ z.1 53 16 = nC ∧ z.1 62 (z.1 53 17).toNat = nS ∧ z.1 30 11 = nL
theorem iEle_of {z : gZ} (h : iPla c z) (he : iEl c z) : iEle c z := by
  rcases h with h | ⟨-, h1, m, nC, nN, nS, nI, nO, hp, -, h5, h6⟩
  · exact ⟨0, by omega, h.2.2.2.1, Or.inl ⟨h.2.1, rfl⟩, fun a ha => by omega⟩
  · rcases he with he | ⟨m', nC', nS', nU, nL, he, -⟩
    · omega
    · have : m' = m := by have := he.e1; omega
      subst this
      refine ⟨m', hp.n.mb, h5, Or.inr ⟨h1, h6⟩, fun a ha => ?_⟩
      obtain ⟨a1, a2, a3, -⟩ := he.el a ha
      exact ⟨a1, a2, a3⟩
theorem l_burn {tb : Int} {z : gZ} (g : Gr c z) (hJ : JF c tb z) (h : iPla c z) (hr : iRou c z) (he : iEl c z) : zOk (q_Face_burn E (kL c) z) (fun r => zOk (q_Model_burn E (kL c) r.2) (fun q => r.1 = q.1 ∧ JF c tb q.2 ∧ zOff pF z q.2)) := by
  have hBb := kB_b g.1
  have hB := kYB c
  have hX := kX_b g.1
  unfold q_Face_burn
  obtain ⟨hh, r | ⟨hc, nN, v, b, r1, r2, r3, r4, r5, r6, r7, r8, nS, r9, r10⟩⟩ := hr
  · refine ok_pos r.1 (ok_so ?_)
    show zOk (q_Model_burn E (kL c) z) _
    unfold q_Model_burn
    exact ok_pos r.2 (ok_so ⟨rfl, hJ, off_r⟩)
  rcases h with h | ⟨h0, h1, m, nC, nN', nS', nI, nO, hp, ht, h5, h6⟩
  · have := h.2.1; omega
  have hnn : nN' = nN := by have := hp.n.n; omega
  subst hnn
  have hss : nS' = nS := by have := hp.n.fN; omega
  subst hss
  rcases he with he | ⟨m', nC', nS'', nU, nL, he, e16, e62, e11⟩
  · omega
  have : m' = m := by have := he.e1; omega
  subst this
  have : nC' = nC := by have := hp.n.cn; omega
  subst this
  have : nS'' = nS' := by
    rw [r1, gtN, r9] at e62; omega
  subst this
  obtain ⟨⟨⟨f1, f2, f3, f4⟩, f5⟩, ⟨⟨d1, d2, d3, d4⟩, d5⟩, j3, j4, j5, j6, j7, j8⟩ := hJ
  have D : BD c m' nC' nN' nS'' nI nO nU nL b z := ⟨g, hp.n, he, hp.k, ht, r6, r7, r8, r10⟩
  refine ok_neg (by omega) ?_
  -- the class
  refine ok_b1 (fun s => zOff (fun k j => k = 82 ∨ (k = 81 ∧ j = 14)) z s ∧ Row c (s.1 82) (fun _ => False) ∧ s.1 81 14 = 0) ?_ fun s2 ⟨o2, R2, w2⟩ => ?_
  · unfold q_Field_erase
    rw [s_fillB 82 0 _ (by rw [kL_82]; omega), b1_s, ok_l, kL_82]
    refine ok_so ⟨off_t (off_fill fun j => Or.inl rfl) (off_put (Or.inr ⟨rfl, rfl⟩)), fun i hi => ⟨False.elim, fun _ => ?_⟩, by (simp only [zp1, zr1, zf1, Nat.reduceEqDiff, Nat.reduceBEq, reduceIte, if_true, if_false, and_true, true_and, and_false, false_and, gtN])⟩
    rw [zp_ne _ _ _ _ _ (by decide), zf1, if_pos rfl, if_pos hi]
    exact zByte_s 0 (by omega)
  have D2 := BD_o D (off_w o2 fun k j x => by unfold pBd; omega)
  have hw := s_wrAll (E := E) D2 R2
  refine ok_b1 _ hw fun s4 h4 => ?_
  refine ok_b1 _ h4 fun s6 ⟨o6, R6⟩ => ?_
  have o26 : zOff (fun k j => k = 82 ∨ (k = 81 ∧ j = 14)) z s6 := off_t o2 (off_w o6 fun k j x => Or.inl x)
  have w6 : s6.1 81 14 = 0 := (o6.2 81 14 (by unfold pBu; omega)).trans w2
  have g6 : Gr c s6 := Gr_off o26 (fun k j h => by unfold pS at h; omega) g
  refine ok_v1 (s_begin g6 (Row_b R6)) ?_
  generalize hz8 : zPut (zPut (zFill s6 84 (fun e => s6.1 82 (e * kX c + 17)) (kP c)) 81 13 0) 81 15 0 = s8
  have o8 : zOff (fun k j => k = 84 ∨ (k = 81 ∧ (j = 13 ∨ j = 15))) s6 s8 := by rw [← hz8]; exact off_t (off_fill fun j => by omega) (off_t (off_put (by omega)) (off_put (by omega)))
  have e84 : ∀ e, e < kP c → s8.1 84 e = s6.1 82 (e * kX c + 17) := fun e he => by
    rw [← hz8]
    simp only [zp1, zf1, reduceIte, Nat.reduceEqDiff, he]
  have t13 : s8.1 81 13 = 0 := by rw [← hz8]; rfl
  have t15 : s8.1 81 15 = 0 := by rw [← hz8]; rfl
  refine ok_so ?_
  show zOk (q_Model_burn E (kL c) s8) _
  -- the reference
  have oz8 : zOff (fun k j => k = 82 ∨ k = 84 ∨ (k = 81 ∧ 13 ≤ j ∧ j ≤ 15)) z s8 := off_t (off_w o26 fun k j x => by omega) (off_w o8 fun k j x => by omega)
  have D8 := BD_o D (off_w oz8 fun k j x => by unfold pBd; omega)
  have e8 : onC c s8 m' nN' nS'' b = onC c s2 m' nN' nS'' b := onC_c (off_w (off_t (off_w o6 fun k j x => (Or.inl x : k = 82 ∨ k = 84 ∨ (k = 81 ∧ (j = 13 ∨ j = 15)))) (off_w o8 fun k j x => Or.inr x)) fun k j x => by unfold pBd; omega)
  unfold q_Model_burn
  have m77 : s8.1 94 77 = v := by rw [oz8.2 94 77 (by omega)]; exact r5
  refine ok_neg (by omega) ?_
  refine ok_b1 _ (s_burnBits D8) fun u ⟨ou, u97, Ru⟩ => ?_
  rw [e8] at Ru
  have gu : Gr c u := Gr_off (off_t (off_w oz8 fun k j x => (Or.inl x : (k = 82 ∨ k = 84 ∨ (k = 81 ∧ 13 ≤ j ∧ j ≤ 15)) ∨ k = 154 ∨ (k = 94 ∧ j = 97))) (off_w ou fun k j x => Or.inr x)) (fun k j h => by unfold pS at h; omega) g
  refine ok_v1 (s_startM gu (Row_b Ru)) ?_
  generalize hzz : zPut (zPut (zFill u 155 (fun e => u.1 154 (e * kX c + 17)) (kP c)) 94 99 0) 94 97 0 = y
  have o9 : zOff (fun k j => k = 155 ∨ (k = 94 ∧ (j = 99 ∨ j = 97))) u y := by rw [← hzz]; exact off_t (off_fill fun j => by omega) (off_t (off_put (by omega)) (off_put (by omega)))
  have e155 : ∀ e, e < kP c → y.1 155 e = u.1 154 (e * kX c + 17) := fun e he => by
    rw [← hzz]
    simp only [zp1, zf1, reduceIte, Nat.reduceEqDiff, he]
  have t97 : y.1 94 97 = 0 := by rw [← hzz]; rfl
  have t99 : y.1 94 99 = 0 := by rw [← hzz]; rfl
  have ez : ∀ k j, ¬ (k = 82) → ¬ (k = 84) → ¬ (k = 154) → ¬ (k = 155) → ¬ (k = 81 ∧ 13 ≤ j ∧ j ≤ 15) → ¬ (k = 94 ∧ (j = 99 ∨ j = 97)) → y.1 k j = z.1 k j := fun k j a1 a2 a3 a4 a5 a6 => (o9.2 k j (by omega)).trans ((ou.2 k j (by omega)).trans (oz8.2 k j (by omega)))
  have y82 : ∀ i, y.1 82 i = s6.1 82 i := fun i => (o9.2 82 i (by omega)).trans ((ou.2 82 i (by omega)).trans (o8.2 82 i (by omega)))
  have y154 : ∀ i, y.1 154 i = u.1 154 i := fun i => o9.2 154 i (by omega)
  have y84 : ∀ i, y.1 84 i = s8.1 84 i := fun i => (o9.2 84 i (by omega)).trans (ou.2 84 i (by omega))
  have y81 : ∀ i, y.1 81 i = s8.1 81 i := fun i => (o9.2 81 i (by omega)).trans (ou.2 81 i (by omega))
  have yeq : ∀ i, i < kB c → s6.1 82 i = u.1 154 i := fun i hi => Row_e R6 Ru i hi
  refine ok_so ⟨rfl, ⟨⟨⟨fun i hi => ?_, fun i hi => ?_, fun i hi => ?_, fun i hi => ?_⟩, Or.inl ?_⟩, ⟨⟨fun i hi => ?_, fun i hi => ?_, fun i hi => ?_, fun i hi => ?_⟩, Or.inl t97⟩, fun i hi => ?_, fun i hi => ?_, fun i hi => ?_, ?_, ?_, ?_⟩, ?_⟩
  · rw [y82]; exact Row_b R6 i hi
  · rw [ez _ _ (by omega) (by omega) (by omega) (by omega) (by omega) (by omega)]; exact f2 i hi
  · rw [y84, e84 i hi]; have hy := kY_i (c := c) hi (show 17 < kX c by omega); exact Row_b R6 _ (by omega)
  · rw [ez _ _ (by omega) (by omega) (by omega) (by omega) (by omega) (by omega)]; exact f4 i hi
  · rw [y81, o8.2 81 14 (by omega)]; exact w6
  · rw [y154]; exact Row_b Ru i hi
  · rw [ez _ _ (by omega) (by omega) (by omega) (by omega) (by omega) (by omega)]; exact d2 i hi
  · rw [e155 i hi]; have hy := kY_i (c := c) hi (show 17 < kX c by omega); exact Row_b Ru _ (by omega)
  · rw [ez _ _ (by omega) (by omega) (by omega) (by omega) (by omega) (by omega)]; exact d4 i hi
  · rw [y82, y154]; exact yeq i hi
  · rw [ez _ _ (by omega) (by omega) (by omega) (by omega) (by omega) (by omega), ez _ _ (by omega) (by omega) (by omega) (by omega) (by omega) (by omega)]; exact j4 i hi
  · rw [y84, e84 i hi, e155 i hi]; have hy := kY_i (c := c) hi (show 17 < kX c by omega); exact yeq _ (by omega)
  · rw [y81, t13, t99]
  · rw [y81, t13]; omega
  · rw [y81, t13]; omega
  · exact off_t (off_w oz8 fun k j x => by unfold pF; omega) (off_t (off_w ou fun k j x => by unfold pF; omega) (off_w o9 fun k j x => by unfold pF; omega))
end
