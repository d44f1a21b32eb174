set_option linter.unusedVariables false
-- LI
section
variable {E : gEv} {c : gCf}
/-- the element that makes a source -/
noncomputable def elO (P l o : Nat → Int) (nU nL nO s : Nat) : Int := if s < 200 then -1 else if s < 400 then (elj P l o nU nL nO (s - 200) : Int) else ((s - 400 : Nat) : Int)
section
variable {nU nL nI nO : Nat} {P l o : Nat → Int} {a b : gZ} {q : Nat → Int}
theorem TC_el (hk : kOk c) (h : PkS c nU nL nI nO P l o) (hq : ∀ e, e < eCn P l o nU nL nO nL → LtE P l o nU nL nO nL e (q e)) {e s : Nat} (he : e < eCn P l o nU nL nO nL) (hs : 0 < snkN P l o nU nL nO (s : Int)) : TC P l o nU nL nO q e (nK P l o nU nL nO s) ↔ (elO P l o nU nL nO s = (e : Int) ∨ ∃ p, p < 4 ∧ psA P l o nU nL nO nL (4 * e + p) = (s : Int)) := by
  have hD := kD_b hk
  have hb := h.1
  have sx := snk_src hk h hs
  have hx := sx.1
  unfold srcO at hx
  have vT : ∀ i, srcT P l o nU nL nO q i = (s : Int) → valT P l o nU nL nO q i = (nK P l o nU nL nO s : Int) := fun i hi => by
    unfold valT ntI
    rw [hi, if_neg (by omega), gtN, if_pos hs]
  have vTi : ∀ i, valT P l o nU nL nO q i = (nK P l o nU nL nO s : Int) → srcT P l o nU nL nO q i = (s : Int) ∨ srcT P l o nU nL nO q i < -1 := fun i hi => by
    unfold valT at hi
    by_cases x : srcT P l o nU nL nO q i = -1
    · rw [if_pos x] at hi; omega
    · rw [if_neg x] at hi
      unfold ntI at hi
      by_cases y : 0 < snkN P l o nU nL nO ((srcT P l o nU nL nO q i).toNat : Int)
      · rw [if_pos y] at hi
        have := nK_i y hs (by omega)
        omega
      · rw [if_neg y] at hi; omega
  have s0 : srcT P l o nU nL nO q (5 * e + 0) = if q e = -1 then ((400 + e : Nat) : Int) else 200 + q e := by
    unfold srcT
    rw [show (5 * e + 0) % 5 = 0 by omega, if_pos rfl, show (5 * e + 0) / 5 = e by omega]
  have sp : ∀ p, p < 4 → srcT P l o nU nL nO q (5 * e + (p + 1)) = psA P l o nU nL nO nL (4 * e + p) := fun p hp => by
    unfold srcT
    rw [if_neg (by omega), show (5 * e + (p + 1)) / 5 = e by omega, show (5 * e + (p + 1)) % 5 - 1 = p by omega]
  have pok := psA_ok (P := P) (o := o) (nO := nO) h.2.2.1 h.2.1 nL (Nat.le_refl _)
  constructor
  · rintro ⟨k, k1, k2⟩
    by_cases k0 : k = 0
    · subst k0
      left
      rcases vTi _ k2 with u | u
      · rw [s0] at u
        unfold elO
        rcases hq e he with ⟨w, -⟩ | ⟨j, j1, j2, j3⟩
        · rw [if_pos w] at u
          rw [if_neg (by omega), if_neg (by omega)]; omega
        · rw [if_neg (by omega), j3] at u
          rw [if_neg (by omega), if_pos (by omega), show s - 200 = j by omega, j2]
      · rw [s0] at u
        rcases hq e he with ⟨w, -⟩ | ⟨j, j1, j2, j3⟩
        · rw [if_pos w] at u; omega
        · rw [if_neg (by omega), j3] at u; omega
    · right
      refine ⟨k - 1, by omega, ?_⟩
      have := sp (k - 1) (by omega)
      rw [show k - 1 + 1 = k by omega] at this
      rw [← this]
      rcases vTi _ k2 with u | u
      · exact u
      · rw [this] at u
        rcases pok (4 * e + (k - 1)) (by omega) with w | w
        · omega
        · unfold srcO at w; omega
  · rintro (u | ⟨p, p1, p2⟩)
    · refine ⟨0, by omega, vT _ ?_⟩
      rw [s0]
      unfold elO at u
      by_cases x : s < 200
      · rw [if_pos x] at u; omega
      · rw [if_neg x] at u
        by_cases y : s < 400
        · rw [if_pos y] at u
          have := LtE_u (P := P) (o := o) (nO := nO) (nI := nI) (by omega) (by omega) h.2.2.1 (Nat.le_refl _) (hq e he) (Or.inr ⟨s - 200, by omega, by omega, rfl⟩)
          rw [this, if_neg (by omega)]; omega
        · rw [if_neg y] at u
          rcases hq e he with ⟨w, -⟩ | ⟨j, j1, j2, j3⟩
          · rw [if_pos w]; omega
          · exfalso
            by_cases z : inL P l o nU nL nO j
            · have z1 := z.1
              rw [elj_t z] at j2
              exact sx.2 ⟨j, j1, z, by omega⟩
            · rw [elj_f z] at j2
              have := eCn_lo (P := P) (l := l) (o := o) (nU := nU) (nL := nL) (nO := nO) j
              omega
    · exact ⟨p + 1, by omega, vT _ (by rw [sp p p1, p2])⟩
/-- the reference: which nets elements touch -/
theorem s_touchM (hk : kOk c) (h : PkS c nU nL nI nO P l o) (hq : ∀ e, e < eCn P l o nU nL nO nL → LtE P l o nU nL nO nL e (q e)) (h55 : b.1 94 55 = (eCn P l o nU nL nO nL : Nat)) (h60 : b.1 94 60 = (nK P l o nU nL nO (400 + nU) : Nat)) (h126 : ∀ k, k < 4 * eCn P l o nU nL nO nL → b.1 126 k = psA P l o nU nL nO nL k) (h128 : ∀ j, j < nL → b.1 128 j = (elj P l o nU nL nO j : Nat)) (h129 : ∀ s' : Nat, s' < 400 + nU → 0 < snkN P l o nU nL nO (s' : Int) → b.1 129 (nK P l o nU nL nO s') = (s' : Int)) : zOk (gIter (fun y => q_Model_makeNets_190 E (kL c) y.1 y.2) gN (0, b)) (fun t => zOff (fun k j => k = 135) b t ∧ ∀ e n, e < eCn P l o nU nL nO nL → n < nK P l o nU nL nO (400 + nU) → b01 (t.1 135 (400 * e + n)) ∧ (t.1 135 (400 * e + n) = 1 ↔ TC P l o nU nL nO q e n)) := by
  have hPb := kP_b hk
  have hD := kD_b hk
  have hb := h.1
  have mb := h.2.2.2.2
  have nb := nK_b hk h (400 + nU)
  refine it_for (fun (i : Nat) (t : gZ) => ((i : Int), t)) (fun i t => zOff (fun k j => k = 135) b t ∧ ∀ e n, e < i → n < nK P l o nU nL nO (400 + nU) → b01 (t.1 135 (400 * e + n)) ∧ (t.1 135 (400 * e + n) = 1 ↔ TC P l o nU nL nO q e n)) 0 (eCn P l o nU nL nO nL) rfl ⟨off_r, fun e n he => by omega⟩ (by omega) (by omega) ?_ ?_
  · rintro e t - he ⟨t1, t2⟩
    show zOk (q_Model_makeNets_190 E (kL c) (e : Int) t) _
    unfold q_Model_makeNets_190
    rw [t1.2 94 55 (by omega), h55, if_neg (by omega)]
    refine ok_b1 (fun u => zOff (fun k j => k = 135 ∧ 400 * e ≤ j) t u ∧ ∀ n, n < nK P l o nU nL nO (400 + nU) → b01 (u.1 135 (400 * e + n)) ∧ (u.1 135 (400 * e + n) = 1 ↔ TC P l o nU nL nO q e n)) ?_ fun u ⟨u1, u2⟩ => ?_
    · refine it_for (fun (i : Nat) (t : gZ) => ((i : Int), t)) (fun i u => zOff (fun k j => k = 135 ∧ 400 * e ≤ j) t u ∧ ∀ n, n < i → b01 (u.1 135 (400 * e + n)) ∧ (u.1 135 (400 * e + n) = 1 ↔ TC P l o nU nL nO q e n)) 0 (nK P l o nU nL nO (400 + nU)) rfl ⟨off_r, fun n hn => by omega⟩ (by omega) (by omega) ?_ ?_
      · rintro n u - hn ⟨u1, u2⟩
        show zOk (q_Model_makeNets_200 E (kL c) (e : Int) (n : Int) u) _
        obtain ⟨s, s1, s2, s3⟩ := nK_ex hn
        have hx := (snk_src hk h s2).1
        unfold srcO at hx
        have e129 : u.1 129 n = (s : Int) := by rw [u1.2 129 n (by omega), t1.2 129 n (by omega), ← s3]; exact h129 s s1 s2
        have eO : q_Model_elementOf E (kL c) (s : Int) u = some (elO P l o nU nL nO s) := by
          unfold q_Model_elementOf elO
          by_cases x : s < 200
          · rw [if_pos (by omega), if_pos (by omega), if_pos x]
          · rw [if_neg x]
            by_cases y : s < 400
            · rw [if_pos (by omega), if_neg (by omega), kL_128, if_pos (by omega), if_pos y, show ((s : Int) - 200).toNat = s - 200 by omega, u1.2 128 _ (by omega), t1.2 128 _ (by omega), h128 _ (by omega)]
            · rw [if_neg (by omega), if_pos (by omega), if_neg y, show (s : Int) - 400 = ((s - 400 : Nat) : Int) by omega]
        -- pins
        have lp : ∀ y0 : Int, b01 y0 → gIter (fun y => q_Model_makeNets_231 E (kL c) (e : Int) (n : Int) y.1 y.2 u) gN (y0, 0) = some (dI (y0 = 1 ∨ ∃ p, p < 4 ∧ psA P l o nU nL nO nL (4 * e + p) = (s : Int))) := fun y0 hy => by
          refine it_acc (fun (i : Nat) (v : Int) => (v, (i : Int))) (fun i => dI (y0 = 1 ∨ ∃ p, p < i ∧ psA P l o nU nL nO nL (4 * e + p) = (s : Int))) 0 4 ?_ (by omega) (by omega) (fun p _ hp => ?_) ?_
          · show (y0, (0 : Int)) = (dI (y0 = 1 ∨ ∃ p, p < 0 ∧ psA P l o nU nL nO nL (4 * e + p) = (s : Int)), ((0 : Nat) : Int))
            rcases hy with w | w
            · rw [dI_f fun z => by rcases z with z | ⟨p, z, -⟩ <;> omega, w]; rfl
            · rw [dI_t (Or.inl w), w]; rfl
          · show q_Model_makeNets_231 E (kL c) (e : Int) (n : Int) (dI (y0 = 1 ∨ ∃ p', p' < p ∧ psA P l o nU nL nO nL (4 * e + p') = (s : Int))) (p : Int) u = some (.inl (dI (y0 = 1 ∨ ∃ p', p' < p + 1 ∧ psA P l o nU nL nO nL (4 * e + p') = (s : Int)), ((p + 1 : Nat) : Int)))
            unfold q_Model_makeNets_231
            rw [if_neg (by omega)]
            by_cases z : y0 = 1 ∨ ∃ p', p' < p ∧ psA P l o nU nL nO nL (4 * e + p') = (s : Int)
            · rw [dI_t z, if_neg (by decide), let_s, dI_t (z.imp id fun ⟨p', w1, w2⟩ => ⟨p', by omega, w2⟩)]; rfl
            · rw [dI_f z, if_pos rfl, kL_126, show (4 * (e : Int) + (p : Int)) = ((4 * e + p : Nat) : Int) by omega, if_pos (by omega), kL_129, if_pos (by omega), gtN, gtN, e129, u1.2 126 _ (by omega), t1.2 126 _ (by omega), h126 _ (by omega)]
              by_cases w : psA P l o nU nL nO nL (4 * e + p) = (s : Int)
              · rw [if_pos w, let_s, dI_t (Or.inr ⟨p, by omega, w⟩)]; rfl
              · rw [if_neg w, let_s, dI_f fun r => z (r.imp id fun ⟨p', w1, w2⟩ => ⟨p', by
                  by_cases v : p' = p
                  · rw [v] at w2; exact absurd w2 w
                  · omega, w2⟩)]
                rfl
          · show q_Model_makeNets_231 E (kL c) (e : Int) (n : Int) (dI (y0 = 1 ∨ ∃ p', p' < 4 ∧ psA P l o nU nL nO nL (4 * e + p') = (s : Int))) ((4 : Nat) : Int) u = _
            unfold q_Model_makeNets_231
            rw [if_pos (by omega)]
        have fin : ∀ y0 : Int, b01 y0 → (y0 = 1 ↔ elO P l o nU nL nO s = (e : Int)) → zOk (q_Model_makeNets_j227_200 E (kL c) (e : Int) (n : Int) y0 u) (fun r => (∃ t', r = .inl (((n + 1 : Nat) : Int), t') ∧ zOff (fun k j => k = 135 ∧ 400 * e ≤ j) t t' ∧ ∀ n', n' < n + 1 → b01 (t'.1 135 (400 * e + n')) ∧ (t'.1 135 (400 * e + n') = 1 ↔ TC P l o nU nL nO q e n')) ∨ ∃ e', r = .inr e' ∧ zOff (fun k j => k = 135 ∧ 400 * e ≤ j) t e' ∧ ∀ n, n < nK P l o nU nL nO (400 + nU) → b01 (e'.1 135 (400 * e + n)) ∧ (e'.1 135 (400 * e + n) = 1 ↔ TC P l o nU nL nO q e n)) := fun y0 hy hy1 => by
          unfold q_Model_makeNets_j227_200
          have tc := TC_el hk h hq he s2
          rw [s3] at tc
          rw [lp y0 hy, b1_s, kL_135, show (400 * (e : Int) + (n : Int)) = ((400 * e + n : Nat) : Int) by omega, if_pos (by omega), ok_l, if_pos (by omega), ok_l, gtN]
          have d01 : b01 (dI (y0 = 1 ∨ ∃ p, p < 4 ∧ psA P l o nU nL nO nL (4 * e + p) = (s : Int))) := by
            by_cases w : y0 = 1 ∨ ∃ p, p < 4 ∧ psA P l o nU nL nO nL (4 * e + p) = (s : Int)
            · rw [dI_t w]; exact Or.inr rfl
            · rw [dI_f w]; exact Or.inl rfl
          rw [zBool_n _ d01]
          refine ok_inl (Or.inl ⟨_, by rw [show ((n + 1 : Nat) : Int) = (n : Int) + 1 by omega], off_t u1 (off_put ⟨rfl, Nat.le_add_right _ _⟩), fun n' hn' => ?_⟩)
          rw [zp1, if_pos rfl]
          by_cases w : n' = n
          · rw [if_pos (by omega), w]
            refine ⟨d01, ?_⟩
            rw [tc, ← hy1]
            by_cases z : y0 = 1 ∨ ∃ p, p < 4 ∧ psA P l o nU nL nO nL (4 * e + p) = (s : Int)
            · rw [dI_t z]; exact ⟨fun _ => z, fun _ => rfl⟩
            · rw [dI_f z]; exact ⟨fun v => by omega, fun v => absurd v z⟩
          · rw [if_neg (by omega)]; exact u2 n' (by omega)
        unfold q_Model_makeNets_200
        rw [u1.2 94 60 (by omega), t1.2 94 60 (by omega), h60, if_neg (by omega), kL_129, if_pos (by omega), gtN, e129, eO, b1_s]
        by_cases x : elO P l o nU nL nO s = (e : Int)
        · rw [if_pos x]; exact fin 1 (Or.inr rfl) ⟨fun _ => x, fun _ => rfl⟩
        · rw [if_neg x]; exact fin 0 (Or.inl rfl) ⟨fun v => by omega, fun v => absurd v x⟩
      · rintro u hu
        show zOk (q_Model_makeNets_200 E (kL c) (e : Int) ((nK P l o nU nL nO (400 + nU) : Nat) : Int) u) _
        unfold q_Model_makeNets_200
        rw [hu.1.2 94 60 (by omega), t1.2 94 60 (by omega), h60, if_pos (by omega)]
        exact ok_inr ⟨u, rfl, hu⟩
    · rw [ok_l]
      refine ok_inl (Or.inl ⟨u, by rw [show ((e + 1 : Nat) : Int) = (e : Int) + 1 by omega], off_t t1 (off_w u1 fun k j x => x.1), fun e' n he' hn => ?_⟩)
      by_cases x : e' = e
      · rw [x]; exact u2 n hn
      · rw [u1.2 135 _ (by omega)]; exact t2 e' n (by omega) hn
  · rintro t ht
    show zOk (q_Model_makeNets_190 E (kL c) ((eCn P l o nU nL nO nL : Nat) : Int) t) _
    unfold q_Model_makeNets_190
    rw [ht.1.2 94 55 (by omega), h55, if_pos (by omega)]
    exact ok_inr ⟨t, rfl, ht⟩
end
end
