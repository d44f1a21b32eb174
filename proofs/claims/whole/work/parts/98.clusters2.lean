set_option linter.unusedVariables false
-- LM
section
variable {E : gEv} {c : gCf}
/-- clusters, as both have them at the end -/
def CLe (c : gCf) (P l o : Nat → Int) (nU nL nO nC : Nat) (a b : gZ) : Prop := a.1 53 16 = (nC : Int) ∧ b.1 94 66 = (nC : Int) ∧ nC ≤ kN c ∧ (∀ e, e < eCn P l o nU nL nO nL → a.1 56 e = b.1 133 e ∧ a.1 57 e = b.1 134 e ∧ 0 ≤ a.1 56 e ∧ a.1 56 e < nC ∧ 0 ≤ a.1 57 e ∧ a.1 57 e < kE c) ∧ ∀ e e', e < eCn P l o nU nL nO nL → e' < eCn P l o nU nL nO nL → a.1 56 e = a.1 56 e' → a.1 57 e = a.1 57 e' → e = e'
section
variable {nU nL nI nO : Nat} {P l o : Nat → Int} {a0 b0 a b : gZ} {q : Nat → Int}
theorem CSr_end (hk : kOk c) (h : PkS c nU nL nI nO P l o) {g k n f nC : Nat} (S : CSr c P l o nU nL nO q g k n f a0 b0 a b) (hn : n = eCn P l o nU nL nO nL) (hkK : k ≤ kE c) (hC : nC = if k = 0 then g else g + 1) {b' : gZ} (ob' : zOff (fun k j => k = 94 ∧ j = 66) b b') (hb' : b'.1 94 66 = (nC : Int)) : CLe c P l o nU nL nO nC a b' := by
  have hK : 1 ≤ kE c ∧ kE c ≤ 4 := hk.2.2.1
  have mb := h.2.2.2.2
  obtain ⟨⟨oa, ob⟩, ⟨f1, f2⟩, sm, ⟨c16, ml, mk⟩, cnt, asg, inj, hn', c66⟩ := S
  have all : ∀ e, e < eCn P l o nU nL nO nL → a.1 56 e ≠ -1 := fun e he w => by
    have := cnb_lt (p := fun e => decide (a.1 56 e ≠ -1)) he (decide_eq_false fun z => z w)
    omega
  refine ⟨by rw [c16, hC], hb', ?_, fun e he => ?_, fun e e' he he' => inj e e' he he' (all e he)⟩
  · have e1 : kE c * g + k ≤ kE c * kN c := by
      rw [← hn', hn]
      have : kP c = kN c * kE c := rfl
      rw [Nat.mul_comm (kE c) (kN c), ← this]; exact mb
    rw [hC]
    by_cases k0 : k = 0
    · rw [if_pos k0]
      exact Nat.le_of_mul_le_mul_left (show kE c * g ≤ kE c * kN c by omega) (by omega)
    · rw [if_neg k0]
      exact Nat.lt_of_mul_lt_mul_left (a := kE c) (show kE c * g < kE c * kN c by omega)
  · rw [ob'.2 133 _ (by omega), ob'.2 134 _ (by omega)]
    have s := sm e he
    rcases asg e he with u | ⟨g', k', u1, u2, u3, u4⟩
    · exact absurd u (all e he)
    · refine ⟨s.1, s.2 (all e he), by omega, ?_, by omega, by omega⟩
      rw [u1, hC]
      by_cases k0 : k = 0
      · rw [if_pos k0]; omega
      · rw [if_neg k0]; omega
theorem CSr_nx {g n f : Nat} (S : CSr c P l o nU nL nO q g (kE c) n f a0 b0 a b) (hK : 1 ≤ kE c) : CSr c P l o nU nL nO q (g + 1) 0 n f a0 b0 a (zPut b 94 66 ((g : Int) + 1)) := by
  obtain ⟨⟨oa, ob⟩, ⟨f1, f2⟩, sm, ⟨c16, ml, mk⟩, cnt, asg, inj, hn', c66⟩ := S
  rw [if_neg (by omega)] at c16 ml
  refine ⟨⟨oa, off_t ob (off_put (by unfold pKm; omega))⟩, ⟨f1, f2⟩, fun e he => ?_, ⟨c16, ml, fun w => absurd rfl w⟩, cnt, fun e he => ?_, inj, by rw [hn', Nat.mul_add, Nat.mul_one]; rfl, by rw [zp_eq]; omega⟩
  · rw [zp_n (by omega), zp_n (by omega)]; exact sm e he
  · rcases asg e he with u | ⟨g', k', u1, u2, u3, u4⟩
    · exact Or.inl u
    · exact Or.inr ⟨g', k', u1, u2, u3, by omega⟩
theorem rn_0 {σ ε : Type} {F : σ → Option (σ ⊕ ε)} {s : σ} : rn F 0 s s := fun m => rfl
/-- one cluster -/
theorem s_clIn (hk : kOk c) (h : PkS c nU nL nI nO P l o) (h15 : a0.1 53 15 = (eCn P l o nU nL nO nL : Nat)) (h12 : a0.1 1 2 = kE c) (hT : TchI P l o nU nL nO q (5 * eCn P l o nU nL nO nL) (a0.1 65)) (h55 : b0.1 94 55 = (eCn P l o nU nL nO nL : Nat)) (h2 : b0.1 94 2 = kE c) (h60 : b0.1 94 60 = (nK P l o nU nL nO (400 + nU) : Nat)) (hTm : ∀ e n, e < eCn P l o nU nL nO nL → n < nK P l o nU nL nO (400 + nU) → b01 (b0.1 135 (400 * e + n)) ∧ (b0.1 135 (400 * e + n) = 1 ↔ TC P l o nU nL nO q e n)) : ∀ (d : Nat) {g k n f : Nat} {a b : gZ}, k + d = kE c → n ≤ eCn P l o nU nL nO nL → CSr c P l o nU nL nO q g k n f a0 b0 a b → ∃ (j f' k' n' : Nat) (a' b' : gZ), j ≤ d ∧ rn (fun y => q_Model_makeClusters_39 E (kL c) y.1 y.2.1 y.2.2) j ((eCn P l o nU nL nO nL : Int) - (n : Int), (k : Int), b) ((eCn P l o nU nL nO nL : Int) - (n' : Int), (k' : Int), b') ∧ rn (fun y => q_Packing_setClusters_25 E (kL c) y.1 y.2.1 y.2.2) j ((f : Int), (n : Int), a) ((f' : Int), (n' : Int), a') ∧ n' = n + j ∧ n' ≤ eCn P l o nU nL nO nL ∧ k' ≤ kE c ∧ (n' = eCn P l o nU nL nO nL ∨ k' = kE c) ∧ CSr c P l o nU nL nO q g k' n' f' a0 b0 a' b' := by
  intro d
  induction d with
  | zero => exact fun {g k n f a b} hd hn S => ⟨0, f, k, n, a, b, Nat.le_refl _, rn_0, rn_0, rfl, hn, by omega, Or.inr hd, S⟩
  | succ d ih =>
    intro g k n f a b hd hn S
    by_cases e : n = eCn P l o nU nL nO nL
    · exact ⟨0, f, k, n, a, b, by omega, rn_0, rn_0, rfl, hn, by omega, Or.inl e, S⟩
    · obtain ⟨f1, a1, b1, s1, s2, s3⟩ := s_clStep (E := E) hk h h15 h12 hT h55 h2 h60 hTm S (by omega) (by omega)
      obtain ⟨j, f', k', n', a', b', w1, w2, w3, w4, w5⟩ := ih (by omega) (by omega) s3
      refine ⟨j + 1, f', k', n', a', b', by omega, ?_, ?_, by omega, w5⟩
      · exact rn_t (rn_1 s2) w2
      · exact rn_t (rn_1 s1) w3
/-- all clusters -/
theorem s_clOut (hk : kOk c) (h : PkS c nU nL nI nO P l o) (h15 : a0.1 53 15 = (eCn P l o nU nL nO nL : Nat)) (h12 : a0.1 1 2 = kE c) (hT : TchI P l o nU nL nO q (5 * eCn P l o nU nL nO nL) (a0.1 65)) (h55 : b0.1 94 55 = (eCn P l o nU nL nO nL : Nat)) (h2 : b0.1 94 2 = kE c) (h60 : b0.1 94 60 = (nK P l o nU nL nO (400 + nU) : Nat)) (hTm : ∀ e n, e < eCn P l o nU nL nO nL → n < nK P l o nU nL nO (400 + nU) → b01 (b0.1 135 (400 * e + n)) ∧ (b0.1 135 (400 * e + n) = 1 ↔ TC P l o nU nL nO q e n)) : ∀ (d : Nat) {g n f : Nat} {a b : gZ}, n + d = eCn P l o nU nL nO nL → CSr c P l o nU nL nO q g 0 n f a0 b0 a b → ∃ (j nC : Nat) (f' : Int) (a' b' : gZ), j ≤ d ∧ rn (fun y => q_Model_makeClusters_33 E (kL c) y.1 y.2) j ((eCn P l o nU nL nO nL : Int) - (n : Int), b) (0, b') ∧ rn (fun y => q_Packing_setClusters_25 E (kL c) y.1 y.2.1 y.2.2) d ((f : Int), (n : Int), a) (f', (eCn P l o nU nL nO nL : Int), a') ∧ zOff pKc a0 a' ∧ zOff pKm b0 b' ∧ CLe c P l o nU nL nO nC a' b' := by
  have hPb := kP_b hk
  have hK : 1 ≤ kE c ∧ kE c ≤ 4 := hk.2.2.1
  have mb := h.2.2.2.2
  intro d
  induction d using Nat.strongRecOn with
  | ind d ih =>
    intro g n f a b hd S
    by_cases d0 : d = 0
    · refine ⟨0, g, f, a, b, by omega, ?_, ?_, S.1.1, S.1.2, CSr_end hk h S (by omega) (by omega) (by rw [if_pos rfl]) off_r S.2.2.2.2.2.2.2.2⟩
      · rw [show (eCn P l o nU nL nO nL : Int) - (n : Int) = 0 by omega]; exact rn_0
      · rw [d0, show (n : Int) = (eCn P l o nU nL nO nL : Int) by omega]; exact rn_0
    · obtain ⟨j, f', k', n', a', b', w1, w2, w3, w4, w5, w6, w7, w8⟩ := s_clIn (E := E) hk h h15 h12 hT h55 h2 h60 hTm (kE c) (by omega) (by omega) S
      have k1 : n = kE c * g + 0 := S.2.2.2.2.2.2.2.1
      have k2 : n' = kE c * g + k' := w8.2.2.2.2.2.2.2.1
      have c66 : b'.1 94 66 = (g : Int) := w8.2.2.2.2.2.2.2.2
      have gb : g ≤ n' := by rw [k2]; have := Nat.le_mul_of_pos_left g (show 0 < kE c by omega); omega
      have kp : k' ≠ 0 := by omega
      have st : q_Model_makeClusters_33 E (kL c) ((eCn P l o nU nL nO nL : Int) - (n : Int)) b = some (.inl ((eCn P l o nU nL nO nL : Int) - (n' : Int), zPut b' 94 66 ((g : Int) + 1))) := by
        have lst : gIter (fun y => q_Model_makeClusters_39 E (kL c) y.1 y.2.1 y.2.2) gN ((eCn P l o nU nL nO nL : Int) - (n : Int), 0, b) = some ((eCn P l o nU nL nO nL : Int) - (n' : Int), b') := by
          have := w2 (gN - j)
          rw [Nat.sub_add_cancel (by unfold gN; omega)] at this
          rw [show ((0 : Int)) = ((0 : Nat) : Int) from rfl, this]
          rw [show gN - j = gN - j - 1 + 1 by unfold gN; omega]
          refine it_end ?_
          show q_Model_makeClusters_39 E (kL c) ((eCn P l o nU nL nO nL : Int) - (n' : Int)) (k' : Int) b' = _
          unfold q_Model_makeClusters_39
          rw [w8.1.2.2 94 2 (by unfold pKm; omega), h2]
          rcases w7 with x | x
          · by_cases y : (kE c : Int) ≤ (k' : Int)
            · rw [if_pos y]
            · rw [if_neg y, if_pos (by omega)]
          · rw [if_pos (by omega)]
        unfold q_Model_makeClusters_33 q_Model_makeClusters_j157_33
        rw [if_neg (by omega), lst, b1_s]
        show (if -2147483648 ≤ (b'.1 94 66) + 1 ∧ (b'.1 94 66) + 1 < 2147483648 then _ else _) = _
        rw [c66, if_pos (by omega), let_s]
      by_cases e : n' = eCn P l o nU nL nO nL
      · refine ⟨1, g + 1, f', a', zPut b' 94 66 ((g : Int) + 1), by omega, ?_, ?_, w8.1.1, off_t w8.1.2 (off_put (by unfold pKm; omega)), CSr_end hk h w8 e w6 (by rw [if_neg kp]) (off_put ⟨rfl, rfl⟩) (by rw [zp_eq]; omega)⟩
        · have := rn_1 (F := fun y => q_Model_makeClusters_33 E (kL c) y.1 y.2) (s := ((eCn P l o nU nL nO nL : Int) - (n : Int), b)) st
          rw [show (eCn P l o nU nL nO nL : Int) - (n' : Int) = 0 by omega] at this
          exact this
        · rw [show d = j by omega, show (eCn P l o nU nL nO nL : Int) = (n' : Int) by omega]; exact w3
      · have k3 : k' = kE c := w7.resolve_left e
        rw [k3] at w8
        obtain ⟨j2, nC, f2, a2, b2, u1, u2, u3, u4⟩ := ih (d - j) (by omega) (n := n') (by omega) (CSr_nx w8 hK.1)
        refine ⟨j2 + 1, nC, f2, a2, b2, by omega, rn_t (rn_1 (F := fun y => q_Model_makeClusters_33 E (kL c) y.1 y.2) (s := ((eCn P l o nU nL nO nL : Int) - (n : Int), b)) st) u2, ?_, u4⟩
        have := rn_t w3 u3
        rw [show d - j + j = d by omega] at this
        exact this
theorem s_clusters (hk : kOk c) (h : PkS c nU nL nI nO P l o) (h15 : a.1 53 15 = (eCn P l o nU nL nO nL : Nat)) (h12 : a.1 1 2 = kE c) (hT : TchI P l o nU nL nO q (5 * eCn P l o nU nL nO nL) (a.1 65)) (h55 : b.1 94 55 = (eCn P l o nU nL nO nL : Nat)) (h2 : b.1 94 2 = kE c) (h60 : b.1 94 60 = (nK P l o nU nL nO (400 + nU) : Nat)) (hTm : ∀ e n, e < eCn P l o nU nL nO nL → n < nK P l o nU nL nO (400 + nU) → b01 (b.1 135 (400 * e + n)) ∧ (b.1 135 (400 * e + n) = 1 ↔ TC P l o nU nL nO q e n)) : ∃ (a' b' : gZ) (nC : Nat), q_Packing_setClusters E (kL c) a = some a' ∧ q_Model_makeClusters E (kL c) b = some b' ∧ zOff pKc a a' ∧ zOff pKm b b' ∧ CLe c P l o nU nL nO nC a' b' := by
  have hPb := kP_b hk
  have hD := kD_b hk
  have hK : 1 ≤ kE c ∧ kE c ≤ 4 := hk.2.2.1
  have hb := h.1
  have mb := h.2.2.2.2
  have nb := nK_b hk h (400 + nU)
  -- how both begin
  obtain ⟨b1, p1, o1, z1⟩ : zOk (gIter (fun y => q_Model_makeClusters_7 E (kL c) y.1 y.2) gN (0, zPut b 94 66 0)) (fun s => zOff (fun k j => k = 133) (zPut b 94 66 0) s ∧ ∀ e, e < eCn P l o nU nL nO nL → s.1 133 e = -1) := by
    refine it_for (fun (i : Nat) (t : gZ) => ((i : Int), t)) (fun i t => zOff (fun k j => k = 133) (zPut b 94 66 0) t ∧ ∀ e, e < i → t.1 133 e = -1) 0 (eCn P l o nU nL nO nL) rfl ⟨off_r, fun e he => by omega⟩ (by omega) (by omega) ?_ ?_
    · rintro i t - hi ⟨t1, t2⟩
      show zOk (q_Model_makeClusters_7 E (kL c) (i : Int) t) _
      unfold q_Model_makeClusters_7
      rw [t1.2 94 55 (by omega), zp_n (by omega), h55, if_neg (by omega), kL_133, if_pos (by omega), ok_l, ok_l, gtN]
      refine ok_inl (Or.inl ⟨_, by rw [show ((i + 1 : Nat) : Int) = (i : Int) + 1 by omega], off_t t1 (off_put rfl), fun e he => ?_⟩)
      rw [zp1, if_pos rfl]
      by_cases y : e = i
      · rw [if_pos y]
      · rw [if_neg y]; exact t2 e (by omega)
    · rintro t ht
      show zOk (q_Model_makeClusters_7 E (kL c) ((eCn P l o nU nL nO nL : Nat) : Int) t) _
      unfold q_Model_makeClusters_7
      rw [ht.1.2 94 55 (by omega), zp_n (by omega), h55, if_pos (by omega)]
      exact ok_inr ⟨t, rfl, ht⟩
  have ob1 : zOff pKm b b1 := off_t (off_put (by unfold pKm; omega)) (off_w o1 fun k j x => by unfold pKm; omega)
  generalize ha1 : zPut (zFill (zFill a 56 (fun _ => -1) (kP c)) 66 (fun _ => -1) (kD c + kP c)) 53 16 0 = a1
  have oa1 : zOff pKc a a1 := by
    rw [← ha1]
    exact off_t (off_fill fun j => by unfold pKc; omega) (off_t (off_fill fun j => by unfold pKc; omega) (off_put (by unfold pKc; omega)))
  have z56 : ∀ e, e < kP c → a1.1 56 e = -1 := fun e he => by rw [← ha1, zp_n (by omega), zf1, if_neg (by decide), zf1, if_pos rfl, if_pos he]
  have z66 : ∀ n, n < kD c + kP c → a1.1 66 n = -1 := fun n hn => by rw [← ha1, zp_n (by omega), zf1, if_pos rfl, if_pos hn]
  have z16 : a1.1 53 16 = 0 := by rw [← ha1, zp_eq]
  have S0 : CSr c P l o nU nL nO q 0 0 0 0 a b a1 b1 := by
    refine ⟨⟨oa1, ob1⟩, ⟨by omega, fun e he => by omega⟩, fun e he => ?_, ⟨z16, fun n hn => by rw [if_pos rfl, z66 n (by omega)]; omega, fun w => absurd rfl w⟩, ?_, fun e he => Or.inl (z56 e (by omega)), fun e e' he he' w => absurd (z56 e (by omega)) w, rfl, ?_⟩
    · rw [z56 e (by omega), z1 e he]; exact ⟨rfl, fun w => absurd rfl w⟩
    · exact cnb_0 fun e he => decide_eq_false fun w => w (z56 e (by omega))
    · rw [o1.2 94 66 (by omega), zp_eq]; rfl
  obtain ⟨j, nC, f', a', b', u1, u2, u3, u4, u5, u6⟩ := s_clOut (E := E) hk h h15 h12 hT h55 h2 h60 hTm (eCn P l o nU nL nO nL) (by omega) S0
  refine ⟨a', b', nC, ?_, ?_, u4, u5, u6⟩
  · unfold q_Packing_setClusters
    have l1 : kL c 56 = kP c := kL_56 c
    have l2 : kL c 66 = kD c + kP c := kL_66 c
    rw [s_fillI 56 _ _ (by omega), b1_s, s_fillI 66 _ _ (by omega), b1_s, let_s, l1, l2, ha1]
    have := u3 (gN - eCn P l o nU nL nO nL)
    rw [Nat.sub_add_cancel (by unfold gN; omega)] at this
    rw [show ((0 : Int), (0 : Int), a1) = (((0 : Nat) : Int), ((0 : Nat) : Int), a1) from rfl, this, show gN - eCn P l o nU nL nO nL = gN - eCn P l o nU nL nO nL - 1 + 1 by unfold gN; omega, it_end (e := a') (by
      show q_Packing_setClusters_25 E (kL c) f' (eCn P l o nU nL nO nL : Int) a' = _
      unfold q_Packing_setClusters_25
      rw [u4.2 53 15 (by unfold pKc; omega), h15, if_pos (by omega)]), b1_s]
  · unfold q_Model_makeClusters
    rw [let_s, p1, b1_s, let_s, o1.2 94 55 (by omega), zp_n (by omega), h55]
    have := u2 (gN - j)
    rw [Nat.sub_add_cancel (by unfold gN; omega)] at this
    have e0 : (eCn P l o nU nL nO nL : Int) - ((0 : Nat) : Int) = (eCn P l o nU nL nO nL : Int) := by omega
    rw [e0] at this
    rw [this, show gN - j = gN - j - 1 + 1 by unfold gN; omega, it_end (e := b') (by
      show q_Model_makeClusters_33 E (kL c) 0 b' = _
      unfold q_Model_makeClusters_33
      rw [if_pos (by omega)]), b1_s]
end
end
