set_option linter.unusedVariables false
-- W1
section
variable {E : gEv} {c : gCf}
def pNm (n k j : Nat) : Prop := pSk n k j ∨ k = 150
theorem s_giveM {z : gZ} {n sp : Nat} {k0 : Nat → Nat} {H : Nat → Bool} {l : Nat → Int} (gr : Gr c z) (hn : n < 400) (h : ∀ w, w < kW c → z.1 141 (840 * n + w) = if H w = true then 1 else 0) (hV : HV c k0 H z) (hb : ∀ w, w < kW c → k0 w ≤ 200) : zOk (q_Model_giveUp E (kL c) (n : Int) z) (fun s => zOff (pWm n) z s ∧ ER c n sp (fun _ => false) l s 0 0 ∧ HV c k0 (fun _ => false) s) := by
  have hW := kW_b gr.1
  have m8 : z.1 94 8 = kW c := gr.2.2.1.2.2.2.2.2.2.2.2.1
  have zero : zBool 0 = 0 := zBool_n 0 (Or.inl rfl)
  unfold q_Model_giveUp
  refine ok_b1 (fun s => zOff (pWm n) z s ∧ (∀ w, w < kW c → s.1 141 (840 * n + w) = 0) ∧ ∀ w, w < kW c → s.1 147 w = k0 w) ?_ fun s ⟨s1, s2, s3⟩ => ?_
  · refine it_for (fun (i : Nat) (t : gZ) => ((i : Int), t)) (fun i t => zOff (pWm n) z t ∧ (∀ w, w < kW c → t.1 141 (840 * n + w) = if w < i then 0 else z.1 141 (840 * n + w)) ∧ ∀ w, w < kW c → t.1 147 w = if w < i then (k0 w : Int) else z.1 147 w) 0 (kW c) rfl ⟨off_r, fun w hw => by rw [if_neg (by omega)], fun w hw => by rw [if_neg (by omega)]⟩ (by omega) (by omega) ?_ ?_
    · rintro i t - hi ⟨o, a, b⟩
      have ai := a i hi
      have bi := b i hi
      rw [if_neg (by omega)] at ai bi
      have hki := hb i hi
      have hvi := hV i hi
      have hhi := h i hi
      show zOk (q_Model_giveUp_2 E (kL c) (n : Int) (i : Int) t) _
      unfold q_Model_giveUp_2
      rw [o.2 94 8 (by unfold pWm; omega), m8, kL_147, kL_141, show 840 * (n : Int) + (i : Int) = ((840 * n + i : Nat) : Int) by omega, gtN, gtN, ai, bi, hvi, hhi]
      have main : ∀ d : Int, d = (if H i = true then 1 else 0) → zOk (q_Model_giveUp_j37_2 E (kL c) (n : Int) (i : Int) (i : Int) ((k0 i : Int) + (if H i = true then 1 else 0)) d t) (fun r => (∃ t', r = Sum.inl (((i + 1 : Nat) : Int), t') ∧ zOff (pWm n) z t' ∧ (∀ w, w < kW c → t'.1 141 (840 * n + w) = if w < i + 1 then 0 else z.1 141 (840 * n + w)) ∧ ∀ w, w < kW c → t'.1 147 w = if w < i + 1 then (k0 w : Int) else z.1 147 w) ∨ ∃ e, r = Sum.inr e ∧ zOff (pWm n) z e ∧ (∀ w, w < kW c → e.1 141 (840 * n + w) = 0) ∧ ∀ w, w < kW c → e.1 147 w = k0 w) := fun d hd => by
        unfold q_Model_giveUp_j37_2
        rw [kL_147, kL_141, zero, show 840 * (n : Int) + (i : Int) = ((840 * n + i : Nat) : Int) by omega, ← hd, show (k0 i : Int) + d - d = k0 i by omega]
        (refine ok_gd (by omega) ?_); (refine ok_gd (by omega) ?_)
        rw [ok_l]
        (refine ok_gd (by omega) ?_)
        rw [ok_l]
        (refine ok_gd (by omega) ?_)
        rw [ok_l, gtN, gtN]
        refine ok_inl (Or.inl ⟨_, rfl, off_t o (off_t (off_put (by unfold pWm; omega)) (off_put (by unfold pWm; omega))), fun w hw => ?_, fun w hw => ?_⟩)
        · rw [zp1, if_pos rfl, zp_ne _ _ _ _ _ (by decide)]
          by_cases x : w = i
          · rw [if_pos (by omega), if_pos (by omega)]
          · rw [if_neg (by omega), a w hw]
            by_cases y : w < i
            · rw [if_pos y, if_pos (by omega)]
            · rw [if_neg y, if_neg (by omega)]
        · rw [zp_ne _ _ _ _ _ (by decide), zp1, if_pos rfl]
          by_cases x : w = i
          · rw [if_pos x, if_pos (by omega), x]
          · rw [if_neg x, b w hw]
            by_cases y : w < i
            · rw [if_pos y, if_pos (by omega)]
            · rw [if_neg y, if_neg (by omega)]
      (refine ok_neg (by omega) ?_); (refine ok_gd (by omega) ?_); (refine ok_gd (by omega) ?_)
      by_cases e : H i = true
      · have := main 1 (by rw [if_pos e])
        rw [if_pos e] at this ⊢
        exact ok_neg (by decide) this
      · have := main 0 (by rw [if_neg e])
        rw [if_neg e] at this ⊢
        exact ok_pos rfl this
    · rintro t ⟨o, a, b⟩
      show zOk (q_Model_giveUp_2 E (kL c) (n : Int) (kW c : Int) t) _
      unfold q_Model_giveUp_2
      rw [o.2 94 8 (by unfold pWm; omega), m8]
      (refine ok_pos (by omega) ?_)
      exact ok_inr ⟨t, rfl, o, fun w hw => by rw [a w hw, if_pos hw], fun w hw => by rw [b w hw, if_pos hw]⟩
  · rw [kL_143, kL_145]
    (refine ok_gd (by omega) ?_)
    rw [ok_l]
    (refine ok_gd (by omega) ?_)
    rw [ok_l, gtN]
    have c0 : cnb (fun _ => false) (kW c) = 0 := cnb_0 fun _ _ => rfl
    refine ok_so ⟨off_t s1 (off_t (off_put (by unfold pWm; omega)) (off_put (by unfold pWm; omega))), ⟨fun w hw => ?_, (fun w hw => by cases hw), by (simp only [zp1, zr1, zf1, Nat.reduceEqDiff, Nat.reduceBEq, reduceIte, if_true, if_false, and_true, true_and, and_false, false_and, gtN]); rfl, by (simp only [zp1, zr1, zf1, Nat.reduceEqDiff, Nat.reduceBEq, reduceIte, if_true, if_false, and_true, true_and, and_false, false_and, gtN]); rfl, by rw [c0], ?_, fun i hi => by omega, (fun w hw => by cases hw), fun i hi => by omega, (fun w hw => by cases hw), (fun w hw => by cases hw), (fun w hw => by cases hw)⟩, fun w hw => ?_⟩
    · rw [zp_ne _ _ _ _ _ (by decide), zp_ne _ _ _ _ _ (by decide), if_neg Bool.false_ne_true]; exact s2 w hw
    · exact (cnb_0 fun _ _ => rfl).symm
    · rw [zp_ne _ _ _ _ _ (by decide), zp_ne _ _ _ _ _ (by decide), if_neg Bool.false_ne_true, s3 w hw]; omega
theorem Wlk_f {z : gZ} {g : Gph} {H H' : Nat → Bool} {l l' : Nat → Int} {w : Nat} (h : Wlk c z g H l w H' l') : ∀ v, H' v = true → H v = true ∨ (g.fin v ∧ v < g.W) := by
  induction h using Wlk_ind with
  | stop a => exact fun v h => Or.inl h
  | @drive H l w a b d =>
    intro v h
    by_cases e : v = w
    · rw [e]; exact Or.inr ⟨(dst_p d a).1, rch_W d.1⟩
    · rw [updB_n e] at h; exact Or.inl h
  | @step H l w D v k H' l' a b d e f ih =>
    intro x h
    rcases ih x h with y | y
    · by_cases e2 : x = w
      · rw [e2]; exact Or.inr ⟨(dst_p b a).1, rch_W b.1⟩
      · rw [updB_n e2] at y; exact Or.inl y
    · exact Or.inr y
/-- the reference's bounds of a round -/
abbrev MB (c : gCf) (on : Int) (r : Nat) (pst : Nat → Int) (k0 : Nat → Nat) (n : Nat) (z : gZ) : Prop := ∃ _ : ((on = -1 ∧ 1 ≤ r ∧ r ≤ 20) ∨ (on = n ∧ n < kT c ∧ r = 0)), ∃ _ : (∀ w, w < kW c → pst w = z.1 146 w ∧ 0 ≤ pst w ∧ pst w ≤ 3999), (∀ w, w < kW c → k0 w ≤ 191)
theorem MB.m {c : gCf} {on : Int} {r : Nat} {pst : Nat → Int} {k0 : Nat → Nat} {n : Nat} {z : gZ} (h : MB c on r pst k0 n z) : (on = -1 ∧ 1 ≤ r ∧ r ≤ 20) ∨ (on = n ∧ n < kT c ∧ r = 0) := by obtain ⟨x, _⟩ := h; exact x
theorem MB.p {c : gCf} {on : Int} {r : Nat} {pst : Nat → Int} {k0 : Nat → Nat} {n : Nat} {z : gZ} (h : MB c on r pst k0 n z) : ∀ w, w < kW c → pst w = z.1 146 w ∧ 0 ≤ pst w ∧ pst w ≤ 3999 := by obtain ⟨_, x, _⟩ := h; exact x
theorem MB.k {c : gCf} {on : Int} {r : Nat} {pst : Nat → Int} {k0 : Nat → Nat} {n : Nat} {z : gZ} (h : MB c on r pst k0 n z) : ∀ w, w < kW c → k0 w ≤ 191 := by obtain ⟨_, _, x⟩ := h; exact x
theorem cstP_b {on : Int} {r n : Nat} {rr : Int} {pst : Nat → Int} {k0 : Nat → Nat} {z : gZ} (h : MB c on r pst k0 n z) (hr : on = -1 → rr = r) (w : Nat) : 1 ≤ cstP c on rr pst k0 w ∧ cstP c on rr pst k0 w ≤ 16000000 ∧ (on = -1 → w < kW c → ((cstP c on rr pst k0 w : Nat) : Int) = (1 + pst w) * (1 + ((r : Int) - 1) * k0 w)) := by
  unfold cstP
  by_cases e : on = -1 ∧ w < kW c
  · rw [if_pos e, hr e.1]
    have h1 := h.p w e.2
    have h2 := h.k w e.2
    have h3 : 1 ≤ r ∧ r ≤ 20 := by
      rcases h.m with ⟨-, a⟩ | ⟨a, -⟩
      · exact a
      · omega
    have h4 := mul_b2 (a := (r : Int) - 1) (b := k0 w) (by omega) (by omega)
    have h5 := mul_bd (a := 1 + pst w) (b := 1 + ((r : Int) - 1) * k0 w) (by omega) (by omega)
    refine ⟨by omega, by omega, fun _ _ => by omega⟩
  · rw [if_neg e]
    exact ⟨by omega, by omega, fun a b => absurd ⟨a, b⟩ e⟩
/-- costs and touched wires before the sinks -/
theorem s_netM {m nC nN nS nI nO n r : Nat} {z : gZ} {on rr : Int} {pst : Nat → Int} {k0 : Nat → Nat} {H0 H' : Nat → Bool} {l0 e0 l' e' : Nat → Int} (gr : Gr c z) (hj : Jk c z) (hN : NJ c m nC nN nS nI nO z) (hP : PZ c nC nI nO z) (hM : PM c (z.1 68) z) (hn : n < nN) (hB : MB c on r pst k0 n z) (hr : on = -1 → rr = r) (hh : ∀ w, w < kW c → z.1 141 (840 * n + w) = if H0 w = true then 1 else 0) (hV : HV c k0 H0 z) (hR : NtR c z (spN z n) (finP c on) (cstP c on rr pst k0) (spK z) (z.1 62 (n + 1) - z.1 62 n).toNat (z.1 62 n).toNat (fun _ => false) l0 e0 H' l' e') : zOk (q_Model_routeNet E (kL c) (n : Int) (r : Int) z) (fun s => (∃ jm dm, ER c n (spN z n) H' l' s jm dm) ∧ HV c k0 H' s ∧ (∀ j : Nat, z.1 62 n ≤ (j : Int) → (j : Int) < z.1 62 (n + 1) → s.1 132 j = e' j) ∧ (∀ j : Nat, ¬ (z.1 62 n ≤ (j : Int) ∧ (j : Int) < z.1 62 (n + 1)) → s.1 132 j = z.1 132 j) ∧ zO (pNm n) z s) := by
  have hW := kW_b gr.1
  have hD := kD_b gr.1
  have hPb := kP_b gr.1
  have hNN := kN_b gr.1
  have nb := hN.nb
  have sb := hN.sb
  have mb := hN.mb
  obtain ⟨-, -, -, ⟨tk1, tk2⟩⟩ := id gr.1
  have m8 : z.1 94 8 = kW c := gr.2.2.1.2.2.2.2.2.2.2.2.1
  have m3 : z.1 94 3 = kT c := gr.2.2.1.2.2.2.1
  have zero : zBool 0 = 0 := zBool_n 0 (Or.inl rfl)
  obtain ⟨x, x1, x2⟩ := hN.su hn
  obtain ⟨x3, q, q1, q2⟩ := hP.q x2
  have esp : spN z n = q := by unfold spN; rw [x1, gtN, q1, gtN]
  rw [esp] at hR ⊢
  generalize hcs : cstP c on rr pst k0 = cost at hR
  have hcb : ∀ w, 1 ≤ cost w ∧ cost w ≤ 16000000 := fun w => by rw [← hcs]; exact ⟨(cstP_b hB hr w).1, (cstP_b hB hr w).2.1⟩
  have hk0 : ∀ w, w < kW c → k0 w ≤ 200 := fun w hw => by have := hB.k w hw; omega
  unfold q_Model_routeNet
  refine ok_b1 _ (s_giveM (sp := q) (l := l0) gr (by omega) hh hV hk0) fun s2 ⟨o2, e2, v2⟩ => ?_
  refine ok_b1 (fun s => zO (fun k j => k = 150) s2 s ∧ (∀ w, w < kW c → s.1 150 w = 0) ∧ (∀ w, w < kW c → finP c on w → s.2 148 w = cost w) ∧ ∀ w, w < kW c → ¬ finP c on w → s.2 148 w = NV) ?_ fun e6 ⟨o6, t6, c6, d6⟩ => ?_
  · refine it_for (fun (i : Nat) (t : gZ) => ((i : Int), t)) (fun i t => zO (fun k j => k = 150) s2 t ∧ (∀ w, w < i → t.1 150 w = 0) ∧ (∀ w, w < i → finP c on w → t.2 148 w = cost w) ∧ ∀ w, w < i → ¬ finP c on w → t.2 148 w = NV) 0 (kW c) rfl ⟨o_r, fun w hw => by omega, fun w hw => by omega, fun w hw => by omega⟩ (by omega) (by omega) ?_ ?_
    · rintro i t - hi ⟨a, b, d, f⟩
      have r8 : t.1 94 8 = kW c := by rw [a 94 8 (by omega), o2.2 94 8 (by unfold pWm; omega)]; exact m8
      have r3 : t.1 94 3 = kT c := by rw [a 94 3 (by omega), o2.2 94 3 (by unfold pWm; omega)]; exact m3
      show zOk (q_Model_routeNet_7 E (kL c) (n : Int) (r : Int) (i : Int) t) _
      unfold q_Model_routeNet_7
      rw [r8, kL_150, zero]
      (refine ok_neg (by omega) ?_); (refine ok_gd (by omega) ?_)
      rw [ok_l, gtN]
      have o3 : zO (fun k j => k = 150) t (zPut t 150 i 0) := o_put rfl
      have v3 : ∀ w, (zPut t 150 i 0).1 150 w = if w = i then 0 else t.1 150 w := fun w => by rw [zp1, if_pos rfl]
      have w3 : (zPut t 150 i 0).2 = t.2 := rfl
      generalize zPut t 150 i 0 = u at o3 v3 w3 ⊢
      have fin : ∀ v : Int, (finP c on i → v = cost i) → (¬ finP c on i → v = NV) → zOk (q_Model_routeNet_j75_7 E (kL c) (n : Int) (r : Int) (i : Int) (i : Int) v u) (fun r => (∃ t', r = Sum.inl (((i + 1 : Nat) : Int), t') ∧ zO (fun k j => k = 150) s2 t' ∧ (∀ w, w < i + 1 → t'.1 150 w = 0) ∧ (∀ w, w < i + 1 → finP c on w → t'.2 148 w = cost w) ∧ ∀ w, w < i + 1 → ¬ finP c on w → t'.2 148 w = NV) ∨ ∃ e, r = Sum.inr e ∧ zO (fun k j => k = 150) s2 e ∧ (∀ w, w < kW c → e.1 150 w = 0) ∧ (∀ w, w < kW c → finP c on w → e.2 148 w = cost w) ∧ ∀ w, w < kW c → ¬ finP c on w → e.2 148 w = NV) := fun v h1 h2 => by
        unfold q_Model_routeNet_j75_7
        rw [kL_148]
        (refine ok_gd (by omega) ?_)
        rw [ok_l]
        (refine ok_gd (by omega) ?_)
        rw [ok_l, gtN]
        refine ok_inl (Or.inl ⟨_, rfl, o_t a (o_t o3 fun k j _ => rfl), fun w hw => ?_, fun w hw hf => ?_, fun w hw hf => ?_⟩)
        · rw [zl1, v3]
          by_cases y : w = i
          · rw [if_pos y]
          · rw [if_neg y]; exact b w (by omega)
        · rw [zl2, if_pos rfl]
          by_cases y : w = i
          · rw [if_pos y, y]; rw [y] at hf; exact h1 hf
          · rw [if_neg y, w3]; exact d w (by omega) hf
        · rw [zl2, if_pos rfl]
          by_cases y : w = i
          · rw [if_pos y]; rw [y] at hf; exact h2 hf
          · rw [if_neg y, w3]; exact f w (by omega) hf
      rcases hB.m with ⟨m1, m2, m3'⟩ | ⟨m1, m2, m3'⟩
      · (refine ok_neg (by omega) ?_)
        rw [kL_146, kL_147]
        (refine ok_gd (by omega) ?_); (refine ok_gd (by omega) ?_)
        have hp := hB.p i hi
        have u146 : u.1 146 i = pst i := by rw [o3 146 i (by omega), a 146 i (by omega), o2.2 146 i (by unfold pWm; omega)]; exact hp.1.symm
        have u147 : u.1 147 i = k0 i := by rw [o3 147 i (by omega), a 147 i (by omega), v2 i hi, if_neg Bool.false_ne_true]; omega
        have ce := (cstP_b hB hr i).2.2 m1 hi
        rw [hcs] at ce
        rw [u146, u147, ← ce]
        have := hcb i
        (refine ok_gd (by omega) ?_)
        exact fin _ (fun _ => rfl) fun x => absurd (Or.inl m1) x
      · (refine ok_pos (by omega) ?_)
        rw [o3 94 3 (by omega), r3]
        have rm : zRem (i : Int) (kT c : Int) = ((i % kT c : Nat) : Int) := zRem_n i (kT c) (by omega) (by omega)
        (refine ok_gd (by omega) ?_)
        rw [rm]
        have c1 : cost i = 1 := by rw [← hcs]; unfold cstP; rw [if_neg (by omega)]
        refine ok_br (fun e => fin 1 (fun _ => by rw [c1]; rfl) fun x => absurd (Or.inr (by rw [m1]; exact e)) x) fun e => fin NV (fun x => ?_) fun _ => rfl
        rcases x with x | x
        · omega
        · rw [m1] at x; exact absurd x e
    · rintro t ⟨a, b, d, f⟩
      have r8 : t.1 94 8 = kW c := by rw [a 94 8 (by omega), o2.2 94 8 (by unfold pWm; omega)]; exact m8
      show zOk (q_Model_routeNet_7 E (kL c) (n : Int) (r : Int) (kW c : Int) t) _
      unfold q_Model_routeNet_7
      rw [r8]
      (refine ok_pos (by omega) ?_)
      exact ok_inr ⟨t, rfl, a, b, d, f⟩
  · have oz6 : zO (fun k j => pWm n k j ∨ k = 150) z e6 := o_t (o_w (o_of o2) fun k j x => Or.inl x) (o_w o6 fun k j x => Or.inr x)
    have g6 : Gr c e6 := Gr_o oz6 (fun k j h => by unfold pS at h; unfold pWm; omega) gr
    have p6 : PM c (z.1 68) e6 := ⟨fun t ht => by rw [oz6 136 t (by unfold pWm; omega)]; exact hM.t t ht, fun p hp => by rw [oz6 137 p (by unfold pWm; omega)]; exact hM.p p hp⟩
    rw [kL_129]
    (refine ok_gd (by omega) ?_)
    rw [ok_l, gtN, oz6 129 n (by unfold pWm; omega)]
    obtain ⟨f1, f2, f3⟩ := hN.fs n (by omega)
    obtain ⟨g1, g2, g3⟩ := hN.fs (n + 1) (by omega)
    have mo := hN.mo n hn
    have hw : ∃ lo cnt : Nat, z.1 62 n = lo ∧ z.1 62 (n + 1) = ((lo + cnt : Nat) : Int) := ⟨(z.1 62 n).toNat, (z.1 62 (n + 1) - z.1 62 n).toNat, by omega, by omega⟩
    obtain ⟨lo, cn, w1, w2⟩ := hw
    rw [w1, w2, show (((lo + cn : Nat) : Int) - (lo : Int)).toNat = cn by omega, gtN] at hR
    rw [w1, w2]
    have pos : ∀ w, 1 ≤ cost w := fun w => (hcb w).1
    have ft : ∀ u w, u % kT c = w % kT c → finP c on u → finP c on w := fun u w e f => by
      rcases f with f | f
      · exact Or.inl f
      · exact Or.inr (by rw [← e]; exact f)
    have ex : ∃ t, t < kT c ∧ ∀ w, w % kT c = t → finP c on w := by
      rcases hB.m with ⟨a, -⟩ | ⟨a, b, -⟩
      · exact ⟨0, by omega, fun w _ => Or.inl a⟩
      · exact ⟨n, b, fun w hw => Or.inr (by rw [hw, a])⟩
    have RGm : ∀ H : Nat → Bool, (∀ w, H w = true → w < kW c ∧ finP c on w) → RG c (finP c on) cost (fun w => H w = true) 16000000 := fun H hH => ⟨pos, fun w => (hcb w).2, by omega, ft, hH, ex⟩
    have go : ∀ s14 : gZ, zOff (fun k j => k = 150) e6 s14 → (∀ w, (kTc c q w → s14.1 150 w = 1) ∧ (¬ kTc c q w → s14.1 150 w = e6.1 150 w)) → zOk (q_Model_routeNet_j129 E (kL c) (n : Int) s14) (fun s => (∃ jm dm, ER c n q H' l' s jm dm) ∧ HV c k0 H' s ∧ (∀ j : Nat, (lo : Int) ≤ (j : Int) → (j : Int) < ((lo + cn : Nat) : Int) → s.1 132 j = e' j) ∧ (∀ j : Nat, ¬ ((lo : Int) ≤ (j : Int) ∧ (j : Int) < ((lo + cn : Nat) : Int)) → s.1 132 j = z.1 132 j) ∧ zO (pNm n) z s) := fun s14 o14 t14 => by
      have oz14 : zO (fun k j => pWm n k j ∨ k = 150) z s14 := o_t oz6 (o_w (o_of o14) fun k j x => Or.inr x)
      have o214 : zO (fun k j => k = 150) s2 s14 := o_t o6 (o_of o14)
      have r14 : ∀ k, k ≠ 150 → s14.1 k = s2.1 k := fun k a => funext fun j => o214 k j a
      have E14 : ER c n q (fun _ => false) l0 s14 0 0 := ⟨by rw [r14 141 (by decide)]; exact e2.has, e2.hW, by rw [r14 143 (by decide)]; exact e2.zj, by rw [r14 145 (by decide)]; exact e2.zd, e2.jd, e2.dd, by rw [r14 142 (by decide)]; exact e2.j1, by rw [r14 142 (by decide)]; exact e2.j2, by rw [r14 144 (by decide)]; exact e2.d1, by rw [r14 144 (by decide)]; exact e2.d2, e2.lv, e2.td⟩
      have V14 : HV c k0 (fun _ => false) s14 := by unfold HV; rw [r14 147 (by decide)]; exact v2
      have c14 : s14.2 148 = e6.2 148 := by rw [o14.1]
      unfold q_Model_routeNet_j129
      rw [kL_130]
      (refine ok_gd (by omega) ?_)
      rw [ok_l, gtN, oz14 130 n (by unfold pWm; omega), f3, w1]
      refine ok_b1 (fun s => (∃ jm dm, ER c n q H' l' s jm dm) ∧ HV c k0 H' s ∧ (∀ j : Nat, (lo : Int) ≤ (j : Int) → (j : Int) < ((lo + cn : Nat) : Int) → s.1 132 j = e' j) ∧ (∀ j : Nat, ¬ ((lo : Int) ≤ (j : Int) ∧ (j : Int) < ((lo + cn : Nat) : Int)) → s.1 132 j = z.1 132 j) ∧ zO (pNm n) z s) ?_ fun s hs => ok_so hs
      refine it_for (fun (i : Nat) (t : gZ) => (((lo + i : Nat) : Int), t)) (fun i t => ∃ H l en jm dm, ER c n q H l t jm dm ∧ HV c k0 H t ∧ (∀ v, H v = true → v < kW c ∧ finP c on v) ∧ zO (pNm n) z t ∧ t.2 148 = e6.2 148 ∧ t.1 150 = s14.1 150 ∧ (∀ j, lo ≤ j → j < lo + i → t.1 132 j = en j) ∧ (∀ j, ¬ (lo ≤ j ∧ j < lo + i) → t.1 132 j = z.1 132 j) ∧ NtR c z q (finP c on) cost (spK z) (cn - i) (lo + i) H l en H' l' e') 0 cn rfl ⟨_, l0, e0, 0, 0, E14, V14, (fun v hv => by cases hv), o_w oz14 fun k j x => x.elim (fun y => Or.inl (Or.inl y)) (fun y => Or.inr y), c14, rfl, fun j a b => by omega, fun j _ => oz14 132 j (by unfold pWm; omega), hR⟩ (by omega) (by omega) ?_ ?_
      · rintro i t - hi ⟨H, l, en, jm, dm, k1, k2, k3, k4, k5, k6, k7, k8, k9⟩
        rw [show cn - i = (cn - (i + 1)) + 1 by omega] at k9
        obtain ⟨e, D, H1, l1, b1, b2, b3⟩ := k9
        have rt : ∀ k, k = 7 ∨ k = 8 ∨ k = 9 ∨ k = 64 ∨ k = 68 ∨ k = 69 ∨ k = 130 → t.1 k = z.1 k := fun k hk => funext fun j => k4 k j (by unfold pNm pSk pWm; omega)
        have gt : Gr c t := Gr_o k4 (fun k j h => by unfold pS at h; unfold pNm pSk pWm; omega) gr
        have jt : Jk c t := fun j hj' => by
          unfold jOk
          rw [k4 5 j (by unfold pNm pSk pWm; omega), k4 6 j (by unfold pNm pSk pWm; omega)]; exact hj j hj'
        have nt : NJ c m nC nN nS nI nO t := NJ_1 hN k4 (fun k j h => by unfold pN at h; unfold pNm pSk pWm; omega)
        have pt : PZ c nC nI nO t := by unfold PZ; rw [rt 68 (by omega), rt 69 (by omega)]; exact hP
        have mt : PM c (t.1 68) t := by
          rw [rt 68 (by omega)]
          exact ⟨fun x hx => by rw [k4 136 x (by unfold pNm pSk pWm; omega)]; exact hM.t x hx, fun p hp => by rw [k4 137 p (by unfold pNm pSk pWm; omega)]; exact hM.p p hp⟩
        have DHt : DH c n H (finP c on) cost (kTc c q) t := by
          refine ⟨k1.has, fun w hw hk => ?_, fun w hw hk => ?_, fun w hw hf => ?_, fun w hw hf => ?_, hcb, by omega⟩
          · rw [k6]; exact (t14 w).1 hk
          · rw [k6, (t14 w).2 hk]; exact t6 w hw
          · rw [k5]; exact c6 w hw hf
          · rw [k5]; exact d6 w hw hf
        have R1 := RGm H k3
        have hDb : ∀ w d, Dst (gOf c (finP c on) cost (fun w => H w = true) (kTc c q)) w d → d < 2147483648 := fun w d hd => by
          have := R1.dB gr.1 q2 hd; omega
        have esk : spK t = spK z := by funext k; unfold spK; rw [rt 64 (by omega), rt 69 (by omega)]
        show zOk (q_Model_routeNet_137 E (kL c) (n : Int) ((lo + i : Nat) : Int) t) _
        unfold q_Model_routeNet_137
        rw [kL_130]
        (refine ok_gd (by omega) ?_)
        rw [show ((n : Int) + 1).toNat = n + 1 by omega, rt 130 (by omega), g3, w2]
        (refine ok_neg (by omega) ?_)
        refine ok_b1 _ (s_snkM (k := lo + i) gt jt nt pt mt (by omega) DHt k1 k2 hk0 hDb (by rw [esk]; exact b1) (Wlk_z (rt 7 (by omega)).symm (rt 8 (by omega)).symm (rt 9 (by omega)).symm b2)) fun s ⟨jm', dm', a1, a2, a3, a4, a5⟩ => ?_
        rw [ok_l]
        refine ok_inl (Or.inl ⟨s, rfl, H1, l1, zUpd en (lo + i) e, jm', dm', a1, a2, fun v hv => ?_, o_t k4 (o_w a4 fun k j x => Or.inl x), by rw [a5]; exact k5, ?_, fun j h1 h2 => ?_, fun j h1 => ?_, b3⟩)
        · rcases Wlk_f b2 v hv with y | y
          · exact k3 v y
          · exact ⟨y.2, y.1⟩
        · rw [← k6]; funext j; exact a4 150 j (by unfold pSk pWm; omega)
        · rw [a3]
          by_cases y : j = lo + i
          · rw [if_pos y, y, zUpd_e]
          · rw [if_neg y, zUpd_n y]; exact k7 j h1 (by omega)
        · rw [a3, if_neg (by omega)]; exact k8 j (by omega)
      · rintro t ⟨H, l, en, jm, dm, k1, k2, k3, k4, k5, k6, k7, k8, k9⟩
        show zOk (q_Model_routeNet_137 E (kL c) (n : Int) ((lo + cn : Nat) : Int) t) _
        unfold q_Model_routeNet_137
        rw [kL_130]
        (refine ok_gd (by omega) ?_)
        rw [show ((n : Int) + 1).toNat = n + 1 by omega, k4 130 _ (by unfold pNm pSk pWm; omega), g3, w2]
        (refine ok_pos (by omega) ?_)
        rw [Nat.sub_self] at k9
        obtain ⟨h1, h2, h3⟩ := k9
        subst h1; subst h2; subst h3
        exact ok_inr ⟨t, rfl, ⟨jm, dm, k1⟩, k2, fun j a b => k7 j (by omega) (by omega), fun j a => k8 j (by omega), k4⟩
    rcases (hN.src n hn).2 with ⟨i, i1, i2, i3⟩ | ⟨e, x', e1, e2', e3, e4, e5⟩
    · have ib := hP.ib
      have hxi : x = kN c + i := by omega
      rw [i2]
      (refine ok_neg (by omega) ?_)
      obtain ⟨w1', w2'⟩ := s_padOf (E := E) gr.1 hP p6 x2 (by omega) q1
      rw [hxi, show cdP c ((kN c + i : Nat) : Int) = (i : Int) by unfold cdP; rw [if_neg (by omega), if_pos (by omega)]; omega] at w2'
      refine ok_v1 w2' ?_
      exact ok_b1 _ (s_touchP g6 (Or.inl rfl) w1') fun s14 ⟨a, b⟩ => go s14 a b
    · have hxx : x' = x := by omega
      subst hxx
      have el : q_Model_elementOf E (kL c) (z.1 129 n) e6 = some (e : Int) := by
        unfold q_Model_elementOf
        rw [kL_128]
        rcases e2' with ⟨a1, a2⟩ | ⟨a1, a2, a3⟩
        · rw [if_neg (by omega), if_pos (by omega), a2]
        · rw [if_pos (by omega), if_neg (by omega), if_pos (by omega), oz6 128 _ (by unfold pWm; omega), a3]
      (refine ok_pos (by omega) ?_)
      refine ok_v1 el ?_
      obtain ⟨t1, t2⟩ := s_tileOf (E := E) gr.1 hP p6 (e := e) (x := x') (q := q) (by omega) (by rw [oz6 133 e (by unfold pWm; omega)]; exact e3) e4 q1
      refine ok_v1 t2 ?_
      exact ok_b1 _ (s_touchT g6 (Or.inl rfl) t1) fun s14 ⟨a, b⟩ => go s14 a b
end
-- W2
section
variable {E : gEv} {c : gCf}
theorem ER_o {P : Nat → Nat → Prop} {z s : gZ} {n sp jm dm : Nat} {H : Nat → Bool} {l : Nat → Int} (h : ER c n sp H l z jm dm) (hk : kOk c) (o : zO P z s) (hP : ∀ k j, P k j → ¬ pWm n k j ∨ k = 147) : ER c n sp H l s jm dm := by
  have hW := kW_b hk
  have hj : jm ≤ 840 := by have := h.jd; have := cnb_le H (kW c); omega
  have hd : dm ≤ 40 := by
    rw [h.dd]
    exact Nat.le_trans (cnb_mono fun i _ hh => by
      rw [tcB_t]
      rw [Bool.and_eq_true] at hh
      exact h.td i hh.1 (of_decide_eq_true hh.2)) (tcB_b hk sp (kW c))
  have q : ∀ k j, pWm n k j → k ≠ 147 → s.1 k j = z.1 k j := fun k j a b => o k j fun x => by
    rcases hP k j x with y | y
    · exact y a
    · exact b y
  refine ⟨fun w hw => ?_, h.hW, ?_, ?_, h.jd, h.dd, fun i hi => ?_, fun w a b => ?_, fun i hi => ?_, fun w a b => ?_, h.lv, h.td⟩
  · rw [q 141 _ (by unfold pWm; omega) (by decide)]; exact h.has w hw
  · rw [q 143 _ (by unfold pWm; omega) (by decide)]; exact h.zj
  · rw [q 145 _ (by unfold pWm; omega) (by decide)]; exact h.zd
  · rw [q 142 _ (by unfold pWm; omega) (by decide)]; exact h.j1 i hi
  · obtain ⟨i, i1, i2⟩ := h.j2 w a b
    exact ⟨i, i1, by rw [q 142 _ (by unfold pWm; omega) (by decide)]; exact i2⟩
  · rw [q 144 _ (by unfold pWm; omega) (by decide)]; exact h.d1 i hi
  · obtain ⟨i, i1, i2⟩ := h.d2 w a b
    exact ⟨i, i1, by rw [q 144 _ (by unfold pWm; omega) (by decide)]; exact i2⟩
/-- the reference stands for a state of routing: of nets below i all -/
abbrev RM (c : gCf) (nN i : Nat) (a : RSt) (t : gZ) : Prop := ∃ _ : (∀ n w, n < nN → w < kW c → t.1 141 (840 * n + w) = if a.A n w = true then 1 else 0), ∃ _ : (∀ w, w < kW c → t.1 147 w = (cnA' a.A nN w : Nat)), (∀ n, n < i → (∃ jm dm, ER c n (spN t n) (a.A n) (a.L n) t jm dm) ∧ ∀ k : Nat, t.1 62 n ≤ (k : Int) → (k : Int) < t.1 62 (n + 1) → t.1 132 k = a.e k)
theorem RM.has {c : gCf} {nN i : Nat} {a : RSt} {t : gZ} (h : RM c nN i a t) : ∀ n w, n < nN → w < kW c → t.1 141 (840 * n + w) = if a.A n w = true then 1 else 0 := by obtain ⟨x, _⟩ := h; exact x
theorem RM.hv {c : gCf} {nN i : Nat} {a : RSt} {t : gZ} (h : RM c nN i a t) : ∀ w, w < kW c → t.1 147 w = (cnA' a.A nN w : Nat) := by obtain ⟨_, x, _⟩ := h; exact x
theorem RM.er {c : gCf} {nN i : Nat} {a : RSt} {t : gZ} (h : RM c nN i a t) : ∀ n, n < i → (∃ jm dm, ER c n (spN t n) (a.A n) (a.L n) t jm dm) ∧ ∀ k : Nat, t.1 62 n ≤ (k : Int) → (k : Int) < t.1 62 (n + 1) → t.1 132 k = a.e k := by obtain ⟨_, _, x⟩ := h; exact x
theorem fs_mono {m nC nN nS nI nO : Nat} {z : gZ} (h : NJ c m nC nN nS nI nO z) : ∀ d n, n + d ≤ nN → z.1 62 n ≤ z.1 62 (n + d) := by
  intro d
  induction d with
  | zero => intro n _; exact Int.le_refl _
  | succ d ih =>
    intro n hn
    have h1 := ih n (by omega)
    have h2 := h.mo (n + d) (by omega)
    rw [show n + (d + 1) = n + d + 1 by omega]; omega
abbrev RD (c : gCf) (m nC nN nS nI nO : Nat) (z : gZ) : Prop := ∃ _ : (RC c m nC nN nS nI nO z), (PM c (z.1 68) z)
theorem RD.toRC {c : gCf} {m nC nN nS nI nO : Nat} {z : gZ} (h : RD c m nC nN nS nI nO z) : RC c m nC nN nS nI nO z := by obtain ⟨x, _⟩ := h; exact x
theorem RD.mm {c : gCf} {m nC nN nS nI nO : Nat} {z : gZ} (h : RD c m nC nN nS nI nO z) : PM c (z.1 68) z := by obtain ⟨_, x⟩ := h; exact x
theorem RD.g {c : gCf} {m nC nN nS nI nO : Nat} {z : gZ} (h : RD c m nC nN nS nI nO z) : Gr c z := h.toRC.g
theorem RD.j {c : gCf} {m nC nN nS nI nO : Nat} {z : gZ} (h : RD c m nC nN nS nI nO z) : Jk c z := h.toRC.j
theorem RD.n {c : gCf} {m nC nN nS nI nO : Nat} {z : gZ} (h : RD c m nC nN nS nI nO z) : NJ c m nC nN nS nI nO z := h.toRC.n
theorem RD.p {c : gCf} {m nC nN nS nI nO : Nat} {z : gZ} (h : RD c m nC nN nS nI nO z) : PZ c nC nI nO z := h.toRC.p
theorem RD_o {P : Nat → Nat → Prop} {m nC nN nS nI nO : Nat} {z s : gZ} (h : RD c m nC nN nS nI nO z) (o : zO P z s) (hP : ∀ k j, P k j → ¬ pS k j ∧ ¬ pN k j ∧ k ≠ 68 ∧ k ≠ 69 ∧ k ≠ 136 ∧ k ≠ 137) : RD c m nC nN nS nI nO s := by
  refine ⟨RC_o h.toRC o fun k j x => ⟨(hP k j x).1, (hP k j x).2.1, (hP k j x).2.2.1, (hP k j x).2.2.2.1⟩, ?_⟩
  rw [show s.1 68 = z.1 68 from funext fun j => o 68 j fun x => (hP _ _ x).2.2.1 rfl]
  exact ⟨fun t ht => by rw [o 136 t fun x => (hP _ _ x).2.2.2.2.1 rfl]; exact h.mm.t t ht, fun p hp => by rw [o 137 p fun x => (hP _ _ x).2.2.2.2.2 rfl]; exact h.mm.p p hp⟩
def pRm (k j : Nat) : Prop := k = 132 ∨ (141 ≤ k ∧ k ≤ 153)
theorem pNm_r {n k j : Nat} (h : pNm n k j) : pRm k j := by
  unfold pNm pSk pWm at h; unfold pRm; omega
theorem pRm_c {k j : Nat} (h : pRm k j) : ¬ pS k j ∧ ¬ pN k j ∧ k ≠ 68 ∧ k ≠ 69 ∧ k ≠ 136 ∧ k ≠ 137 := by
  unfold pRm at h; unfold pS pN; omega
theorem s_stepM {m nC nN nS nI nO n r : Nat} {t : gZ} {on rr : Int} {pst : Nat → Int} {a : RSt} {H : Nat → Bool} {l1 e1 : Nat → Int} (R : RD c m nC nN nS nI nO t) (h : RM c nN n a t) (hn : n < nN) (hB : MB c on r pst (k0A a.A nN n) n t) (hr : on = -1 → rr = r) (hR : NtR c t (spN t n) (finP c on) (cstP c on rr pst (k0A a.A nN n)) (spK t) (t.1 62 (n + 1) - t.1 62 n).toNat (t.1 62 n).toNat (fun _ => false) a.l a.e H l1 e1) : zOk (q_Model_routeNet E (kL c) (n : Int) (r : Int) t) (fun s => RM c nN (n + 1) ⟨updA a.A n H, updA a.L n l1, l1, e1⟩ s ∧ zO (pNm n) t s) := by
  have hV : HV c (k0A a.A nN n) (a.A n) t := fun w hw => by rw [h.hv w hw, cnA_k hn]; split <;> simp
  refine ok_w (s_netM R.g R.j R.n R.p R.mm hn hB hr (fun w hw => h.has n w hn hw) hV hR) fun s ⟨k1, k2, k3, k4, k5⟩ => ⟨⟨fun n' w hn' hw => ?_, fun w hw => ?_, fun n' hn' => ?_⟩, k5⟩
  · by_cases x : n' = n
    · rw [x]
      show s.1 141 (840 * n + w) = if updA a.A n H n w = true then 1 else 0
      rw [updA_e]
      obtain ⟨jm, dm, k⟩ := k1
      exact k.has w hw
    · show s.1 141 (840 * n' + w) = if updA a.A n H n' w = true then 1 else 0
      have hW := kW_b R.g.1
      rw [updA_n x, k5 141 _ (by unfold pNm pSk pWm; omega)]
      exact h.has n' w hn' hw
  · show s.1 147 w = (cnA' (updA a.A n H) nN w : Nat)
    rw [k2 w hw, cnA_k hn, k0A_u, updA_e]; split <;> simp
  · have e62 : s.1 62 = t.1 62 := funext fun j => k5 62 j (by unfold pNm pSk pWm; omega)
    have esp : ∀ x, spN s x = spN t x := fun x => by unfold spN; rw [k5 61 _ (by unfold pNm pSk pWm; omega), k5 69 _ (by unfold pNm pSk pWm; omega)]
    rw [esp, e62]
    by_cases x : n' = n
    · rw [x]
      refine ⟨?_, k3⟩
      show ∃ jm dm, ER c n (spN t n) (updA a.A n H n) (updA a.L n l1 n) s jm dm
      rw [updA_e, updA_e]; exact k1
    · obtain ⟨⟨jm, dm, q1⟩, q2⟩ := h.er n' (by omega)
      have hlow : t.1 62 (n' + 1) ≤ t.1 62 n := by
        have := fs_mono R.n (n - (n' + 1)) (n' + 1) (by omega)
        rw [show n' + 1 + (n - (n' + 1)) = n by omega] at this
        exact this
      refine ⟨⟨jm, dm, ?_⟩, fun k a1 a2 => ?_⟩
      · show ER c n' (spN t n') (updA a.A n H n') (updA a.L n l1 n') s jm dm
        rw [updA_n x, updA_n x]
        refine ER_o q1 R.g.1 k5 fun k j y => ?_
        unfold pNm pSk pWm at y
        unfold pWm
        omega
      · show s.1 132 k = e1 k
        obtain ⟨f1, f2, f3⟩ := R.n.fs n (by omega)
        obtain ⟨g1, g2, g3⟩ := R.n.fs (n + 1) (by omega)
        have := R.n.mo n hn
        rw [k4 k (by omega), (NtR_l _ _ _ _ _ _ _ _ hR).2.2 k (by omega)]
        exact q2 k a1 a2
theorem NtR_z {z s : gZ} (h7 : s.1 7 = z.1 7) (h8 : s.1 8 = z.1 8) (h9 : s.1 9 = z.1 9) {sp : Nat} {fin : Nat → Prop} {cost : Nat → Nat} {sk : Nat → Nat} : ∀ (n k : Nat) (H : Nat → Bool) (l en : Nat → Int) (H' : Nat → Bool) (l' en' : Nat → Int), NtR c s sp fin cost sk n k H l en H' l' en' → NtR c z sp fin cost sk n k H l en H' l' en' := by
  intro n
  induction n with
  | zero => intro k H l en H' l' en' x; exact x
  | succ n ih =>
    rintro k H l en H' l' en' ⟨e, D, H1, l1, h1, h2, h3⟩
    exact ⟨e, D, H1, l1, h1, Wlk_z h7 h8 h9 h2, ih _ _ _ _ _ _ _ h3⟩
theorem cstP_c {on r : Int} {p p' : Nat → Int} {k0 : Nat → Nat} (h : ∀ w, w < kW c → p w = p' w) : cstP c on r p k0 = cstP c on r p' k0 := by
  funext w
  unfold cstP
  by_cases e : on = -1 ∧ w < kW c
  · rw [if_pos e, if_pos e, h w e.2]
  · rw [if_neg e, if_neg e]
/-- a step of the state, as the reference sees it from another state of memory -/
theorem stp_z {m nC nN nS nI nO n : Nat} {z t : gZ} {on rr : Int} {pst : Nat → Int} {k0 : Nat → Nat} {l e l1 e1 : Nat → Int} {H : Nat → Bool} (rr' : ∀ k, k = 7 ∨ k = 8 ∨ k = 9 ∨ k = 61 ∨ k = 62 ∨ k = 64 ∨ k = 69 → t.1 k = z.1 k) (hR : NtR c z (spN z n) (finP c on) (cstP c on rr pst k0) (spK z) (z.1 62 (n + 1) - z.1 62 n).toNat (z.1 62 n).toNat (fun _ => false) l e H l1 e1) : NtR c t (spN t n) (finP c on) (cstP c on rr pst k0) (spK t) (t.1 62 (n + 1) - t.1 62 n).toNat (t.1 62 n).toNat (fun _ => false) l e H l1 e1 := by
  have e1' : spN t n = spN z n := by unfold spN; rw [rr' 69 (by omega), rr' 61 (by omega)]
  have e2' : spK t = spK z := by funext k; unfold spK; rw [rr' 69 (by omega), rr' 64 (by omega)]
  rw [e1', e2', rr' 62 (by omega)]
  exact NtR_z (rr' 7 (by omega)).symm (rr' 8 (by omega)).symm (rr' 9 (by omega)).symm _ _ _ _ _ _ _ _ hR
/-- a round of the reference -/
theorem s_roundM {m nC nN nS nI nO r most : Nat} {z : gZ} {pst : Nat → Int} {a b : RSt} (R : RD c m nC nN nS nI nO z) (hr : 1 ≤ r ∧ r ≤ 20) (hp : ∀ w, w < kW c → pst w = z.1 146 w ∧ 0 ≤ pst w ∧ pst w ≤ 3999) (h : RM c nN 0 a z) (hR : RdS c z nN (fun _ => -1) (r : Int) pst nN 0 a b) : zOk (gIter (fun y => q_Model_routeAll_63 E (kL c) (most : Int) (r : Int) y.1 y.2) gN (0, z)) (fun s => RM c nN nN b s ∧ zO pRm z s ∧ s.1 146 = z.1 146) := by
  have hP := kP_b R.g.1
  have hD := kD_b R.g.1
  have nb := R.n.nb
  refine it_for (fun (i : Nat) (t : gZ) => ((i : Int), t)) (fun i t => zO pRm z t ∧ t.1 146 = z.1 146 ∧ ∃ s, RM c nN i s t ∧ RdS c z nN (fun _ => -1) (r : Int) pst (nN - i) i s b) 0 nN rfl ⟨o_r, rfl, a, h, hR⟩ (by omega) (by omega) ?_ ?_
  · rintro i t - hi ⟨o, o6, s, s1, s2⟩
    rw [show nN - i = (nN - (i + 1)) + 1 by omega] at s2
    obtain ⟨H, l1, e1, q1, q2⟩ := s2
    have Rt := RD_o R o fun k j x => pRm_c x
    show zOk (q_Model_routeAll_63 E (kL c) (most : Int) (r : Int) (i : Int) t) _
    unfold q_Model_routeAll_63
    rw [Rt.n.nm]
    (refine ok_neg (by omega) ?_)
    refine ok_b1 _ (s_stepM (r := r) (on := -1) Rt s1 hi ⟨Or.inl ⟨rfl, hr⟩, fun w hw => by rw [o6]; exact hp w hw, fun w hw => by have := k0A_b (A := s.A) (w := w) hi; omega⟩ (fun _ => rfl) (stp_z (m := m) (nC := nC) (nN := nN) (nS := nS) (nI := nI) (nO := nO) (fun k hk => funext fun j => o k j (by unfold pRm; omega)) q1)) fun u ⟨u1, u2⟩ => ?_
    rw [ok_l]
    refine ok_inl (Or.inl ⟨u, rfl, o_t o (o_w u2 fun k j x => pNm_r x), ?_, _, u1, q2⟩)
    rw [← o6]; funext j; exact u2 146 j (by unfold pNm pSk pWm; omega)
  · rintro t ⟨o, o6, s, s1, s2⟩
    have Rt := RD_o R o fun k j x => pRm_c x
    show zOk (q_Model_routeAll_63 E (kL c) (most : Int) (r : Int) (nN : Int) t) _
    unfold q_Model_routeAll_63
    rw [Rt.n.nm]
    (refine ok_pos (by omega) ?_)
    rw [Nat.sub_self] at s2
    have s2 : b = s := s2
    rw [s2]
    exact ok_inr ⟨t, rfl, s1, o, o6⟩
theorem s_roundMO {m nC nN nS nI nO most : Nat} {z : gZ} {rr : Int} {pst : Nat → Int} {a b : RSt} (R : RD c m nC nN nS nI nO z) (hT : nN ≤ kT c) (h : RM c nN 0 a z) (hp : ∀ w, w < kW c → 0 ≤ z.1 146 w ∧ z.1 146 w ≤ 3999) (hR : RdS c z nN (fun n => (n : Int)) rr pst nN 0 a b) : zOk (gIter (fun y => q_Model_routeAll_134 E (kL c) (most : Int) y.1 y.2) gN (0, z)) (fun s => RM c nN nN b s ∧ zO pRm z s) := by
  have hP := kP_b R.g.1
  have hD := kD_b R.g.1
  have nb := R.n.nb
  refine it_for (fun (i : Nat) (t : gZ) => ((i : Int), t)) (fun i t => zO pRm z t ∧ t.1 146 = z.1 146 ∧ ∃ s, RM c nN i s t ∧ RdS c z nN (fun n => (n : Int)) rr pst (nN - i) i s b) 0 nN rfl ⟨o_r, rfl, a, h, hR⟩ (by omega) (by omega) ?_ ?_
  · rintro i t - hi ⟨o, o6, s, s1, s2⟩
    rw [show nN - i = (nN - (i + 1)) + 1 by omega] at s2
    obtain ⟨H, l1, e1, q1, q2⟩ := s2
    have Rt := RD_o R o fun k j x => pRm_c x
    show zOk (q_Model_routeAll_134 E (kL c) (most : Int) (i : Int) t) _
    unfold q_Model_routeAll_134
    rw [Rt.n.nm]
    (refine ok_neg (by omega) ?_)
    have cc : cstP c (i : Int) rr pst (k0A s.A nN i) = cstP c (i : Int) 0 (t.1 146) (k0A s.A nN i) := by
      funext w; unfold cstP; rw [if_neg (by omega), if_neg (by omega)]
    rw [cc] at q1
    refine ok_b1 _ (s_stepM (r := 0) (on := (i : Int)) Rt s1 hi ⟨Or.inr ⟨rfl, by omega, rfl⟩, fun w hw => ⟨rfl, by rw [o6]; exact hp w hw⟩, fun w hw => by have := k0A_b (A := s.A) (w := w) hi; omega⟩ (fun x => by omega) (stp_z (m := m) (nC := nC) (nN := nN) (nS := nS) (nI := nI) (nO := nO) (fun k hk => funext fun j => o k j (by unfold pRm; omega)) q1)) fun u ⟨u1, u2⟩ => ?_
    rw [ok_l]
    refine ok_inl (Or.inl ⟨u, rfl, o_t o (o_w u2 fun k j x => pNm_r x), ?_, _, u1, q2⟩)
    rw [← o6]; funext j; exact u2 146 j (by unfold pNm pSk pWm; omega)
  · rintro t ⟨o, o6, s, s1, s2⟩
    have Rt := RD_o R o fun k j x => pRm_c x
    show zOk (q_Model_routeAll_134 E (kL c) (most : Int) (nN : Int) t) _
    unfold q_Model_routeAll_134
    rw [Rt.n.nm]
    (refine ok_pos (by omega) ?_)
    rw [Nat.sub_self] at s2
    have s2 : b = s := s2
    rw [s2]
    exact ok_inr ⟨t, rfl, s1, o⟩
theorem s_goes {nN : Nat} {A : Nat → Nat → Bool} {z : gZ} (g : Gr c z) (h : ∀ w, w < kW c → z.1 147 w = (cnA' A nN w : Nat)) (hN : nN ≤ 192) (hp : ∀ w, w < kW c → 0 ≤ z.1 146 w ∧ z.1 146 w ≤ 10000) : zOk (q_Model_goesTogether E (kL c) z) (fun r => zO (fun k j => k = 146) z r.2 ∧ (∀ w, w < kW c → r.2.1 146 w = pstN nN A (z.1 146) w) ∧ ((r.1 = 1 ∧ aOne c nN A) ∨ (r.1 = 0 ∧ ¬ aOne c nN A))) := by
  have hW := kW_b g.1
  have m8 : z.1 94 8 = kW c := g.2.2.1.2.2.2.2.2.2.2.2.1
  unfold q_Model_goesTogether
  refine ok_b1 (fun r => zO (fun k j => k = 146) z r.2 ∧ (∀ w, w < kW c → r.2.1 146 w = pstN nN A (z.1 146) w) ∧ ((r.1 = 1 ∧ aOne c nN A) ∨ (r.1 = 0 ∧ ¬ aOne c nN A))) ?_ fun r ⟨r1, r2, r3⟩ => ?_
  · refine it_for (fun (i : Nat) (t : Int × gZ) => (t.1, (i : Int), t.2)) (fun i t => zO (fun k j => k = 146) z t.2 ∧ (∀ w, w < kW c → t.2.1 146 w = if w < i then pstN nN A (z.1 146) w else z.1 146 w) ∧ ((t.1 = 1 ∧ ∀ w, w < i → cnA' A nN w ≤ 1) ∨ (t.1 = 0 ∧ ¬ ∀ w, w < i → cnA' A nN w ≤ 1))) 0 (kW c) (t := (1, z)) rfl ⟨o_r, fun w hw => by rw [if_neg (by omega)], Or.inl ⟨rfl, fun w hw => by omega⟩⟩ (by omega) (by omega) ?_ ?_
    · rintro i ⟨d, t⟩ - hi ⟨o, t1, t2⟩
      have o : zO (fun k j => k = 146) z t := o
      have t1 : ∀ w, w < kW c → t.1 146 w = if w < i then pstN nN A (z.1 146) w else z.1 146 w := t1
      have t2 : (d = 1 ∧ ∀ w, w < i → cnA' A nN w ≤ 1) ∨ (d = 0 ∧ ¬ ∀ w, w < i → cnA' A nN w ≤ 1) := t2
      have hc : t.1 147 i = (cnA' A nN i : Nat) := by rw [o 147 i (by omega)]; exact h i hi
      have hv := t1 i hi
      rw [if_neg (by omega)] at hv
      have hpi := hp i hi
      have hcl : cnA' A nN i ≤ nN := cnb_le _ _
      have main : ∀ y : Int, y = (if 1 < cnA' A nN i then (cnA' A nN i : Int) - 1 else 0) → zOk (q_Model_goesTogether_j41_4 E (kL c) d (i : Int) (i : Int) (z.1 146 i) y t) (fun r => (∃ t' : Int × gZ, r = Sum.inl (t'.1, ((i + 1 : Nat) : Int), t'.2) ∧ zO (fun k j => k = 146) z t'.2 ∧ (∀ w, w < kW c → t'.2.1 146 w = if w < i + 1 then pstN nN A (z.1 146) w else z.1 146 w) ∧ ((t'.1 = 1 ∧ ∀ w, w < i + 1 → cnA' A nN w ≤ 1) ∨ (t'.1 = 0 ∧ ¬ ∀ w, w < i + 1 → cnA' A nN w ≤ 1))) ∨ ∃ e : Int × gZ, r = Sum.inr e ∧ zO (fun k j => k = 146) z e.2 ∧ (∀ w, w < kW c → e.2.1 146 w = pstN nN A (z.1 146) w) ∧ ((e.1 = 1 ∧ aOne c nN A) ∨ (e.1 = 0 ∧ ¬ aOne c nN A))) := fun y hy => by
        have yb : 0 ≤ y ∧ y ≤ 192 := by rw [hy]; split <;> omega
        unfold q_Model_goesTogether_j41_4
        rw [kL_146, kL_147]
        (refine ok_gd (by omega) ?_); (refine ok_gd (by omega) ?_)
        rw [ok_l, gtN]
        have op : zO (fun k j => k = 146) z (zPut t 146 i (z.1 146 i + y)) := o_t o (o_put rfl)
        have vp : ∀ w, w < kW c → (zPut t 146 i (z.1 146 i + y)).1 146 w = if w < i + 1 then pstN nN A (z.1 146) w else z.1 146 w := fun w hw => by
          rw [zp1, if_pos rfl]
          by_cases x2 : w = i
          · rw [if_pos x2, if_pos (by omega), x2, hy]; unfold pstN; split <;> omega
          · rw [if_neg x2, t1 w hw]
            by_cases x : w < i
            · rw [if_pos x, if_pos (by omega)]
            · rw [if_neg x, if_neg (by omega)]
        have c147 : (zPut t 146 i (z.1 146 i + y)).1 147 i = (cnA' A nN i : Nat) := by rw [zp_ne _ _ _ _ _ (by decide)]; exact hc
        generalize zPut t 146 i (z.1 146 i + y) = u at op vp c147 ⊢
        refine ok_br (fun e => ?_) fun e => ?_
        · (refine ok_gd (by omega) ?_)
          rw [ok_l]
          refine ok_inl (Or.inl ⟨(0, u), rfl, op, vp, Or.inr ⟨rfl, fun x => ?_⟩⟩)
          rcases t2 with ⟨a, -⟩ | ⟨-, b⟩
          · omega
          · exact b fun w hw => x w (by omega)
        · have t3 : ∀ w, w < i → cnA' A nN w ≤ 1 := by
            rcases t2 with ⟨-, b⟩ | ⟨a, -⟩
            · exact b
            · exact absurd a e
          (refine ok_gd (by omega) ?_)
          rw [c147]
          refine ok_br (fun e2 => ?_) fun e2 => ?_
          · (refine ok_gd (by omega) ?_)
            rw [ok_l]
            refine ok_inl (Or.inl ⟨(0, u), rfl, op, vp, Or.inr ⟨rfl, fun x => ?_⟩⟩)
            have := x i (by omega); omega
          · (refine ok_gd (by omega) ?_)
            rw [ok_l]
            refine ok_inl (Or.inl ⟨(1, u), rfl, op, vp, Or.inl ⟨rfl, fun w hw => ?_⟩⟩)
            by_cases x2 : w = i
            · rw [x2]; omega
            · exact t3 w (by omega)
      show zOk (q_Model_goesTogether_4 E (kL c) d (i : Int) t) _
      unfold q_Model_goesTogether_4
      rw [o 94 8 (by omega), m8, kL_146, kL_147, gtN, hc, hv]
      (refine ok_neg (by omega) ?_); (refine ok_gd (by omega) ?_); (refine ok_gd (by omega) ?_)
      refine ok_br (fun e => main 0 (by rw [if_neg (by omega)])) fun e => ?_
      (refine ok_gd (by omega) ?_)
      exact main _ (by rw [if_pos (by omega)])
    · rintro ⟨d, t⟩ ⟨o, t1, t2⟩
      have o : zO (fun k j => k = 146) z t := o
      show zOk (q_Model_goesTogether_4 E (kL c) d (kW c : Int) t) _
      unfold q_Model_goesTogether_4
      rw [o 94 8 (by omega), m8]
      (refine ok_pos (by omega) ?_)
      exact ok_inr ⟨(d, t), rfl, o, fun w hw => by have := t1 w hw; rw [if_pos hw] at this; exact this, t2⟩
  · refine ok_gd ?_ (ok_so ⟨r1, r2, r3⟩)
    rcases r3 with ⟨a, -⟩ | ⟨a, -⟩
    · exact Or.inr a
    · exact Or.inl a
end
-- W3
section
variable {E : gEv} {c : gCf}
theorem RM_o {P : Nat → Nat → Prop} {nN i : Nat} {a : RSt} {z s : gZ} (h : RM c nN i a z) (hk : kOk c) (o : zO P z s) (hP : ∀ k j, P k j → k ≠ 132 ∧ ¬ (141 ≤ k ∧ k ≤ 145) ∧ k ≠ 147 ∧ k ≠ 61 ∧ k ≠ 62 ∧ k ≠ 69) : RM c nN i a s := by
  have r : ∀ k, k = 132 ∨ k = 141 ∨ k = 147 ∨ k = 61 ∨ k = 62 ∨ k = 69 → s.1 k = z.1 k := fun k hk => funext fun j => o k j fun x => by have := hP _ _ x; omega
  have esp : ∀ x, spN s x = spN z x := fun x => by unfold spN; rw [r 61 (by omega), r 69 (by omega)]
  refine ⟨by rw [r 141 (by omega)]; exact h.has, by rw [r 147 (by omega)]; exact h.hv, fun n hn => ?_⟩
  rw [esp, r 62 (by omega), r 132 (by omega)]
  obtain ⟨⟨jm, dm, e⟩, f⟩ := h.er n hn
  exact ⟨⟨jm, dm, ER_o e hk o fun k j x => Or.inl fun y => by have := hP _ _ x; unfold pWm at y; omega⟩, f⟩
theorem s_routeAll {m nC nN nS nI nO most v : Nat} {z : gZ} {b : RSt} (R : RD c m nC nN nS nI nO z) (h1 : 1 ≤ most ∧ most ≤ 20) (hW' : WkR c z nN most v b) : zOk (q_Model_routeAll E (kL c) (most : Int) z) (fun r => r.1 = v ∧ zO pRm z r.2 ∧ (0 < v → RM c nN nN b r.2)) := by
  have hW := kW_b R.g.1
  have hD := kD_b R.g.1
  have hP := kP_b R.g.1
  have nb := R.n.nb
  have m8 : z.1 94 8 = kW c := R.g.2.2.1.2.2.2.2.2.2.2.2.1
  have zero : zBool 0 = 0 := zBool_n 0 (Or.inl rfl)
  obtain ⟨p, a, p0, a0, hWk⟩ := hW'
  unfold q_Model_routeAll
  refine ok_b1 (fun s => zO (fun k j => k = 146 ∨ k = 147) z s ∧ (∀ w, w < kW c → s.1 146 w = 0) ∧ ∀ w, w < kW c → s.1 147 w = 0) ?_ fun e4 ⟨o4, p4, q4⟩ => ?_
  · refine it_for (fun (i : Nat) (t : gZ) => ((i : Int), t)) (fun i t => zO (fun k j => k = 146 ∨ k = 147) z t ∧ (∀ w, w < i → t.1 146 w = 0) ∧ ∀ w, w < i → t.1 147 w = 0) 0 (kW c) rfl ⟨o_r, fun w hw => by omega, fun w hw => by omega⟩ (by omega) (by omega) ?_ ?_
    · rintro i t - hi ⟨o, x, y⟩
      show zOk (q_Model_routeAll_2 E (kL c) (most : Int) (i : Int) t) _
      unfold q_Model_routeAll_2
      rw [o 94 8 (by omega), m8, kL_146, kL_147]
      (refine ok_neg (by omega) ?_); (refine ok_gd (by omega) ?_)
      rw [ok_l]
      (refine ok_gd (by omega) ?_)
      rw [ok_l, ok_l, gtN]
      refine ok_inl (Or.inl ⟨_, rfl, o_t o (o_t (o_put (by omega)) (o_put (by omega))), fun w hw => ?_, fun w hw => ?_⟩)
      · rw [zp_ne _ _ _ _ _ (by decide), zp1, if_pos rfl]
        by_cases e : w = i
        · rw [if_pos e]
        · rw [if_neg e]; exact x w (by omega)
      · rw [zp1, if_pos rfl, zp_ne _ _ _ _ _ (by decide)]
        by_cases e : w = i
        · rw [if_pos e]
        · rw [if_neg e]; exact y w (by omega)
    · rintro t ⟨o, x, y⟩
      show zOk (q_Model_routeAll_2 E (kL c) (most : Int) (kW c : Int) t) _
      unfold q_Model_routeAll_2
      rw [o 94 8 (by omega), m8]
      (refine ok_pos (by omega) ?_)
      exact ok_inr ⟨t, rfl, o, x, y⟩
  refine ok_b1 (fun s => zO pRm z s ∧ (∀ w, w < kW c → s.1 146 w = 0) ∧ (∀ w, w < kW c → s.1 147 w = 0) ∧ ∀ j, j < 336000 → s.1 141 j = 0) ?_ fun e8 ⟨o8, p8, q8, h8⟩ => ?_
  · have l141 : kL c 141 = 336000 := kL_141 c
    refine it_for (fun (i : Nat) (t : gZ) => ((i : Int), t)) (fun i t => zO (fun k j => k = 141) e4 t ∧ ∀ w, w < i → t.1 141 w = 0) 0 336000 rfl ⟨o_r, fun w hw => by omega⟩ (by omega) (by omega) ?_ ?_
    · rintro i t - hi ⟨o, x⟩
      show zOk (q_Model_routeAll_32 E (kL c) (most : Int) (i : Int) t) _
      unfold q_Model_routeAll_32
      rw [l141, zero]
      (refine ok_neg (by omega) ?_); (refine ok_gd (by omega) ?_)
      rw [ok_l, ok_l, gtN]
      refine ok_inl (Or.inl ⟨_, rfl, o_t o (o_put rfl), fun w hw => ?_⟩)
      rw [zp1, if_pos rfl]
      by_cases e : w = i
      · rw [if_pos e]
      · rw [if_neg e]; exact x w (by omega)
    · rintro t ⟨o, x⟩
      show zOk (q_Model_routeAll_32 E (kL c) (most : Int) ((336000 : Nat) : Int) t) _
      unfold q_Model_routeAll_32
      rw [l141]
      (refine ok_pos (by omega) ?_)
      exact ok_inr ⟨t, rfl, o_t (o_w o4 fun k j y => by unfold pRm; omega) (o_w o fun k j y => by unfold pRm; omega), fun w hw => by rw [o 146 w (by omega)]; exact p4 w hw, fun w hw => by rw [o 147 w (by omega)]; exact q4 w hw, x⟩
  have rz : ∀ {t : gZ}, zO pRm z t → ∀ k, k = 7 ∨ k = 8 ∨ k = 9 ∨ k = 61 ∨ k = 62 ∨ k = 64 ∨ k = 69 → z.1 k = t.1 k := fun {t} o k hk => funext fun j => (o k j (by unfold pRm; omega)).symm
  have fr0 : ∀ {a : RSt} {t : gZ}, (∀ n w, a.A n w = false) → (∀ n w, n < nN → w < kW c → t.1 141 (840 * n + w) = 0) → (∀ w, w < kW c → t.1 147 w = 0) → RM c nN 0 a t := fun {a t} ha hh hv => ⟨fun n w hn hw => by rw [hh n w hn hw, ha, if_neg Bool.false_ne_true], fun w hw => by
    rw [hv w hw]
    have : cnA' a.A nN w = 0 := cnb_0 fun i _ => ha i w
    rw [this]; rfl, fun n hn => by omega⟩
  -- the rounds
  have rounds : ∀ out, RsR c z nN most 1 p a out → zOk (gIter (fun y => q_Model_routeAll_56 E (kL c) (most : Int) y.1 y.2) gN (1, e8)) (fun e => ∃ s : gZ, zO pRm z s ∧ ((∃ (r : Nat) (b : RSt), out = some (r, b) ∧ e = .inl ((r : Int), s) ∧ RM c nN nN b s) ∨ (out = none ∧ e = .inr s ∧ (∃ a', RM c nN 0 a' s) ∧ ∀ w, w < kW c → 0 ≤ s.1 146 w ∧ s.1 146 w ≤ 3999))) := fun out hO => by
    refine it_for (fun (i : Nat) (t : gZ) => (((i + 1 : Nat) : Int), t)) (fun i t => ∃ (p : Nat → Int) (a : RSt), RM c nN 0 a t ∧ zO pRm z t ∧ (∀ w, w < kW c → p w = t.1 146 w ∧ 0 ≤ t.1 146 w ∧ t.1 146 w ≤ i * 191) ∧ RsR c z nN (most - i) (i + 1) p a out) 0 most rfl ⟨p, a, fr0 a0 (fun n w hn hw => h8 _ (by omega)) q8, o8, fun w hw => ⟨by rw [p0 w hw, p8 w hw], by rw [p8 w hw]; omega⟩, hO⟩ (by omega) (by omega) ?_ ?_
    · rintro i t - hi ⟨p, a, t1, t2, t3, t4⟩
      rw [show most - i = (most - (i + 1)) + 1 by omega] at t4
      obtain ⟨b, b1, b2⟩ := t4
      have Rt := RD_o R t2 fun k j x => pRm_c x
      show zOk (q_Model_routeAll_56 E (kL c) (most : Int) ((i + 1 : Nat) : Int) t) _
      unfold q_Model_routeAll_56
      (refine ok_neg (by omega) ?_)
      refine ok_b1 _ (s_roundM (r := i + 1) Rt (by omega) (fun w hw => by have := t3 w hw; omega) t1 (RdS_z (rz t2) _ _ _ _ b1)) fun e13 ⟨d1, d2, d3⟩ => ?_
      have o13 : zO pRm z e13 := o_t t2 d2
      have R13 := RD_o R o13 fun k j x => pRm_c x
      refine ok_b2 _ (s_goes R13.g d1.hv (by omega) (fun w hw => by rw [d3]; have := t3 w hw; omega)) fun v15 s16 ⟨f1, f2, f3⟩ => ?_
      have f1 : zO (fun k j => k = 146) e13 s16 := f1
      have f2 : ∀ w, w < kW c → s16.1 146 w = pstN nN b.A (e13.1 146) w := f2
      have o16 : zO pRm z s16 := o_t o13 (o_w f1 fun k j x => by unfold pRm; omega)
      have M16 : RM c nN nN b s16 := RM_o d1 R.g.1 f1 fun k j x => by omega
      refine ok_br (fun e => ?_) fun e => ?_
      · have na : ¬ aOne c nN b.A := by
          rcases f3 with ⟨x, -⟩ | ⟨-, x⟩
          · have x : v15 = 1 := x
            omega
          · exact x
        rcases b2 with ⟨x, -⟩ | ⟨-, p', b3, b4⟩
        · exact absurd x na
        · (refine ok_gd (by omega) ?_)
          rw [ok_l]
          refine ok_inl (Or.inl ⟨s16, rfl, p', b, ⟨M16.has, M16.hv, fun n hn => by omega⟩, o16, fun w hw => ?_, b4⟩)
          have h3 := t3 w hw
          have hcl : cnA' b.A nN w ≤ nN := cnb_le _ _
          rw [f2 w hw, d3, b3 w hw]
          unfold pstN
          rw [h3.1]
          refine ⟨rfl, ?_⟩
          split <;> omega
      · have ya : aOne c nN b.A := by
          rcases f3 with ⟨-, x⟩ | ⟨x, -⟩
          · exact x
          · exact absurd x e
        rcases b2 with ⟨-, x⟩ | ⟨x, -⟩
        · exact ok_inr (Or.inr ⟨_, rfl, s16, o16, Or.inl ⟨i + 1, b, x, rfl, M16⟩⟩)
        · exact absurd ya x
    · rintro t ⟨p, a, t1, t2, t3, t4⟩
      show zOk (q_Model_routeAll_56 E (kL c) (most : Int) ((most + 1 : Nat) : Int) t) _
      unfold q_Model_routeAll_56
      (refine ok_pos (by omega) ?_)
      rw [Nat.sub_self] at t4
      exact ok_inr ⟨_, rfl, t, t2, Or.inr ⟨t4, rfl, ⟨a, t1⟩, fun w hw => by have := t3 w hw; omega⟩⟩
  rcases hWk with hS | ⟨hS, hL⟩
  · refine ok_b1 _ (rounds _ hS) fun e ⟨s, s1, s2⟩ => ?_
    rcases s2 with ⟨r, b', q1, q2, q3⟩ | ⟨q1, -⟩
    · have q1 := Option.some.inj q1
      have e1 := (Prod.mk.inj q1).1
      have e2 := (Prod.mk.inj q1).2
      subst e1; subst e2; subst q2
      rw [gs_l]
      exact ok_so ⟨rfl, s1, fun _ => q3⟩
    · cases q1
  · refine ok_b1 _ (rounds _ hS) fun e ⟨s, s1, s2⟩ => ?_
    rcases s2 with ⟨r, b', q1, -⟩ | ⟨-, q2, ⟨a', q3⟩, q4⟩
    · cases q1
    · subst q2
      have Rs := RD_o R s1 fun k j x => pRm_c x
      rw [gs_r, Rs.n.nm, show s.1 94 3 = kT c from Rs.g.2.2.1.2.2.2.1]
      rcases hL with ⟨l1, l2⟩ | ⟨l1, l2, a1, rr, p1, l3, l4⟩
      · (refine ok_neg (by omega) ?_)
        exact ok_so ⟨by rw [l2]; rfl, s1, fun x => by omega⟩
      · (refine ok_pos (by omega) ?_)
        refine ok_b1 (fun u => zO pRm z u ∧ RM c nN 0 a1 u ∧ u.1 146 = s.1 146) ?_ fun u ⟨u1, u2, u3⟩ => ?_
        · -- all is given up
          refine it_for (fun (i : Nat) (t : gZ) => ((i : Int), t)) (fun i t => zO pRm z t ∧ t.1 146 = s.1 146 ∧ RM c nN 0 ⟨fun n => if n < i then (fun _ => false) else a'.A n, a'.L, a'.l, a'.e⟩ t) 0 nN rfl ⟨s1, rfl, q3⟩ (by omega) (by omega) ?_ ?_
          · rintro i t - hi ⟨o, o6, M⟩
            have Rt := RD_o R o fun k j x => pRm_c x
            let A : Nat → Nat → Bool := fun n => if n < i then (fun _ => false) else a'.A n
            have hV : HV c (k0A A nN i) (A i) t := fun w hw => by rw [M.hv w hw]; show ((cnA' A nN w : Nat) : Int) = _; rw [cnA_k hi]; split <;> simp
            show zOk (q_Model_routeAll_113 E (kL c) (most : Int) (i : Int) t) _
            unfold q_Model_routeAll_113
            rw [Rt.n.nm]
            (refine ok_neg (by omega) ?_)
            refine ok_b1 _ (s_giveM (sp := 0) (l := fun _ => 0) Rt.g (by omega) (fun w hw => M.has i w hi hw) hV (fun w hw => by have := k0A_b (A := A) (w := w) hi; omega)) fun u ⟨g1, g2, g3⟩ => ?_
            rw [ok_l]
            have AA : (fun n => if n < i + 1 then (fun _ => false) else a'.A n) = updA A i (fun _ => false) := by
              funext n
              unfold updA
              by_cases x : n = i
              · rw [if_pos (by omega), if_pos x]
              · rw [if_neg x]
                show _ = if n < i then (fun _ => false) else a'.A n
                by_cases y : n < i
                · rw [if_pos y, if_pos (by omega)]
                · rw [if_neg y, if_neg (by omega)]
            refine ok_inl (Or.inl ⟨u, rfl, o_t o (o_w (o_of g1) fun k j x => by unfold pWm at x; unfold pRm; omega), by rw [← o6]; funext j; exact g1.2 146 j (by unfold pWm; omega), ?_⟩)
            rw [AA]
            refine ⟨fun n w hn hw => ?_, fun w hw => ?_, fun n hn => by omega⟩
            · show u.1 141 (840 * n + w) = if updA A i (fun _ => false) n w = true then 1 else 0
              by_cases x : n = i
              · rw [x, updA_e]; exact g2.has w hw
              · rw [updA_n x, g1.2 141 _ (by unfold pWm; omega)]; exact M.has n w hn hw
            · show u.1 147 w = (cnA' (updA A i (fun _ => false)) nN w : Nat)
              rw [g3 w hw, cnA_k hi, k0A_u, updA_e]; simp
          · rintro t ⟨o, o6, M⟩
            have Rt := RD_o R o fun k j x => pRm_c x
            show zOk (q_Model_routeAll_113 E (kL c) (most : Int) (nN : Int) t) _
            unfold q_Model_routeAll_113
            rw [Rt.n.nm]
            (refine ok_pos (by omega) ?_)
            refine ok_inr ⟨t, rfl, o, fr0 l3 (fun n w hn hw => ?_) (fun w hw => ?_), o6⟩
            · have := M.has n w hn hw
              rw [this]
              show (if (if n < nN then (fun _ => false) else a'.A n) w = true then (1 : Int) else 0) = 0
              rw [if_pos hn, if_neg Bool.false_ne_true]
            · have := M.hv w hw
              rw [this]
              have : cnA' (fun n => if n < nN then (fun _ => false) else a'.A n) nN w = 0 := cnb_0 fun n hn => by
                show (if n < nN then (fun _ => false) else a'.A n) w = false
                rw [if_pos hn]
              rw [this]; rfl
        · have Ru := RD_o R u1 fun k j x => pRm_c x
          refine ok_b1 _ (s_roundMO Ru l1 u2 (by rw [u3]; exact q4) (RdS_z (rz u1) _ _ _ _ l4)) fun e30 ⟨d1, d2⟩ => ?_
          (refine ok_gd (by omega) ?_)
          exact ok_so ⟨by rw [l2]; rfl, o_t u1 d2, fun _ => d1⟩
end
-- W4
section
variable {E : gEv} {c : gCf}
theorem NtR_e {z : gZ} {sp : Nat} {fin : Nat → Prop} {cost : Nat → Nat} {sk : Nat → Nat} : ∀ (n k : Nat) (H : Nat → Bool) (l en : Nat → Int) (H' : Nat → Bool) (l' en' : Nat → Int), NtR c z sp fin cost sk n k H l en H' l' en' → (∀ j, k ≤ j → j < k + n → ∃ e : Nat, en' j = e ∧ e < kW c ∧ kTc c (sk j) e) ∧ (∀ v, H' v = true → H v = true ∨ (fin v ∧ v < kW c)) := by
  intro n
  induction n with
  | zero => rintro k H l en H' l' en' ⟨h1, h2, h3⟩; subst h1; exact ⟨fun j a b => by omega, fun v h => Or.inl h⟩
  | succ n ih =>
    rintro k H l en H' l' en' ⟨e, D, H1, l1, h1, h2, h3⟩
    obtain ⟨i1, i2⟩ := ih _ _ _ _ _ _ _ h3
    refine ⟨fun j a b => ?_, fun v hv => ?_⟩
    · by_cases x : j = k
      · have := (NtR_l _ _ _ _ _ _ _ _ h3).2.2 j (by omega)
        rw [this, x, zUpd_e]
        exact ⟨e, rfl, h1.1, h1.2.1⟩
      · exact i1 j (by omega) (by omega)
    · rcases i2 v hv with y | y
      · exact Wlk_f h2 v y
      · exact Or.inr y
theorem RdS_p {z : gZ} {nN : Nat} {on : Nat → Int} {r : Int} {pst : Nat → Int} (fs : ∀ n, n ≤ nN → 0 ≤ z.1 62 n) (mo : ∀ n, n < nN → z.1 62 n ≤ z.1 62 (n + 1)) : ∀ (n i : Nat) (a b : RSt), i + n ≤ nN → RdS c z nN on r pst n i a b → (∀ n', n' < i ∨ i + n ≤ n' → b.A n' = a.A n' ∧ b.L n' = a.L n') ∧ (∀ w, (∀ m, i ≤ m → m < i + n → b.A m w = false) → b.l w = a.l w) ∧ (∀ n' w, i ≤ n' → n' < i + n → b.A n' w = true → b.l w = b.L n' w ∨ ∃ m, n' < m ∧ m < i + n ∧ b.A m w = true) ∧ (∀ n' w, i ≤ n' → n' < i + n → b.A n' w = true → finP c (on n') w) ∧ (∀ n' (k : Nat), i ≤ n' → n' < i + n → z.1 62 n' ≤ k → (k : Int) < z.1 62 (n' + 1) → ∃ e : Nat, b.e k = e ∧ e < kW c ∧ kTc c (spK z k) e) ∧ ∀ k : Nat, ((k : Int) < z.1 62 i ∨ z.1 62 (i + n) ≤ k) → b.e k = a.e k := by
  intro n
  induction n with
  | zero =>
    intro i a b hi h
    have h : b = a := h
    subst h
    exact ⟨fun n' _ => ⟨rfl, rfl⟩, fun w _ => rfl, fun n' w a b => by omega, fun n' w a b => by omega, fun n' k a b => by omega, fun k _ => rfl⟩
  | succ n ih =>
    rintro i a b hi ⟨H, l1, e1, h1, h2⟩
    obtain ⟨j1, j2, j3, j4, j5, j6⟩ := ih (i + 1) _ b (by omega) h2
    obtain ⟨k1, k2, k3⟩ := NtR_l _ _ _ _ _ _ _ _ h1
    obtain ⟨k4, k5⟩ := NtR_e _ _ _ _ _ _ _ _ h1
    have bA : b.A i = H := by rw [(j1 i (by omega)).1]; exact updA_e _ _ _
    have bL : b.L i = l1 := by rw [(j1 i (by omega)).2]; exact updA_e _ _ _
    have f1 := fs i (by omega)
    have f2 := fs (i + 1) (by omega)
    have f3 := mo i (by omega)
    have fN : z.1 62 (i + 1) ≤ z.1 62 (i + (n + 1)) := by
      have : ∀ d, i + 1 + d ≤ nN → z.1 62 (i + 1) ≤ z.1 62 (i + 1 + d) := by
        intro d
        induction d with
        | zero => intro _; exact Int.le_refl _
        | succ d ihd =>
          intro hd
          have := ihd (by omega)
          have := mo (i + 1 + d) (by omega)
          rw [show i + 1 + (d + 1) = i + 1 + d + 1 by omega]; omega
      have := this n (by omega)
      rw [show i + 1 + n = i + (n + 1) by omega] at this
      exact this
    rw [show i + 1 + n = i + (n + 1) by omega] at j1 j2 j3 j4 j5 j6
    refine ⟨fun n' hn' => ?_, fun w hw => ?_, fun n' w a1 a2 a3 => ?_, fun n' w a1 a2 a3 => ?_, fun n' k a1 a2 a3 a4 => ?_, fun k hk => ?_⟩
    · obtain ⟨x, y⟩ := j1 n' (by omega)
      rw [x, y]
      exact ⟨updA_n (by omega), updA_n (by omega)⟩
    · rw [j2 w fun m b1 b2 => hw m (by omega) b2]
      show l1 w = a.l w
      have := hw i (by omega) (by omega)
      rw [bA] at this
      exact k2 w this
    · by_cases x : n' = i
      · subst x
        by_cases y : ∃ m, n' < m ∧ m < n' + (n + 1) ∧ b.A m w = true
        · exact Or.inr y
        · left
          rw [bL]
          refine j2 w fun m b1 b2 => ?_
          cases g : b.A m w
          · rfl
          · exact absurd ⟨m, by omega, b2, g⟩ y
      · exact j3 n' w (by omega) a2 a3
    · by_cases x : n' = i
      · subst x
        rw [bA] at a3
        rcases k5 w a3 with y | y
        · cases y
        · exact y.1
      · exact j4 n' w (by omega) a2 a3
    · by_cases x : n' = i
      · subst x
        rw [j6 k (Or.inl a4)]
        exact k4 k (by omega) (by omega)
      · exact j5 n' k (by omega) a2 a3 a4
    · rw [j6 k (by omega)]
      exact k3 k (by omega)
theorem cnb_two {p : Nat → Bool} {n m N : Nat} (h : n < m) (hm : m < N) (hp : p n = true) (hq : p m = true) : 2 ≤ cnb p N := by
  induction N with
  | zero => omega
  | succ N ih =>
    rw [cnb]
    by_cases e : m = N
    · subst e
      have := cnb_pos h hp
      rw [hq]; simp; omega
    · have := ih (by omega); omega
/-- what a call of route leaves -/
abbrev RP (c : gCf) (z : gZ) (nN nS : Nat) (b : RSt) : Prop := ∃ _ : (aOne c nN b.A), ∃ _ : (∀ n w, n < nN → w < kW c → b.A n w = true → b.l w = b.L n w), (∀ k, k < nS → ∃ e : Nat, b.e k = e ∧ e < kW c ∧ kTc c (spK z k) e)
theorem RP.one {c : gCf} {z : gZ} {nN nS : Nat} {b : RSt} (h : RP c z nN nS b) : aOne c nN b.A := by obtain ⟨x, _⟩ := h; exact x
theorem RP.lk {c : gCf} {z : gZ} {nN nS : Nat} {b : RSt} (h : RP c z nN nS b) : ∀ n w, n < nN → w < kW c → b.A n w = true → b.l w = b.L n w := by obtain ⟨_, x, _⟩ := h; exact x
theorem RP.en {c : gCf} {z : gZ} {nN nS : Nat} {b : RSt} (h : RP c z nN nS b) : ∀ k, k < nS → ∃ e : Nat, b.e k = e ∧ e < kW c ∧ kTc c (spK z k) e := by obtain ⟨_, _, x⟩ := h; exact x
theorem RP_of {m nC nN nS nI nO : Nat} {z : gZ} {on : Nat → Int} {r : Int} {pst : Nat → Int} {a b : RSt} (hN : NJ c m nC nN nS nI nO z) (hR : RdS c z nN on r pst nN 0 a b) (h1 : aOne c nN b.A) : RP c z nN nS b := by
  obtain ⟨j1, j2, j3, j4, j5, j6⟩ := RdS_p (fun n hn => (hN.fs n hn).1) hN.mo nN 0 a b (by omega) hR
  refine ⟨h1, fun n w hn hw ha => ?_, fun k hk => ?_⟩
  · rcases j3 n w (by omega) (by omega) ha with x | ⟨m, m1, m2, m3⟩
    · exact x
    · have h2 : 2 ≤ cnA' b.A nN w := cnb_two (p := fun m => b.A m w) m1 (by omega) ha m3
      have := h1 w hw
      omega
  · -- the net of sink k
    have : ∃ n, n < nN ∧ z.1 62 n ≤ k ∧ (k : Int) < z.1 62 (n + 1) := by
      have key : ∀ N, N ≤ nN → (k : Int) < z.1 62 N → ∃ n, n < N ∧ z.1 62 n ≤ k ∧ (k : Int) < z.1 62 (n + 1) := by
        intro N
        induction N with
        | zero => intro _ h; rw [hN.f0] at h; omega
        | succ N ih =>
          intro hN' h
          by_cases e : (k : Int) < z.1 62 N
          · obtain ⟨n, a, b⟩ := ih (by omega) e
            exact ⟨n, by omega, b⟩
          · exact ⟨N, by omega, by omega, h⟩
      exact key nN (Nat.le_refl _) (by rw [hN.fN]; omega)
    obtain ⟨n, n1, n2, n3⟩ := this
    exact j5 n k (by omega) (by omega) n2 n3
theorem RsR_d {z : gZ} {nN : Nat} : ∀ (f r : Nat) (p : Nat → Int) (a : RSt) (v : Nat) (b : RSt), RsR c z nN f r p a (some (v, b)) → ∃ (r : Int) (p : Nat → Int) (a : RSt), RdS c z nN (fun _ => -1) r p nN 0 a b ∧ aOne c nN b.A := by
  intro f
  induction f with
  | zero => intro r p a v b h; cases h
  | succ f ih =>
    rintro r p a v b ⟨b', h1, h2⟩
    rcases h2 with ⟨h2, h3⟩ | ⟨-, p', -, h4⟩
    · have e2 := (Prod.mk.inj (Option.some.inj h3)).2
      rw [e2]
      exact ⟨_, _, _, h1, h2⟩
    · exact ih _ _ _ _ _ h4
theorem WkR_p {m nC nN nS nI nO most v : Nat} {z : gZ} {b : RSt} (hk : kOk c) (hN : NJ c m nC nN nS nI nO z) (h : WkR c z nN most v b) (hv : 0 < v) : RP c z nN nS b := by
  obtain ⟨p, a, -, -, h⟩ := h
  rcases h with h | ⟨-, h⟩
  · obtain ⟨r, p', a', h1, h2⟩ := RsR_d _ _ _ _ _ _ h
    exact RP_of hN h1 h2
  · rcases h with ⟨-, h⟩ | ⟨hT, -, a1, r, p1, h1, h2⟩
    · omega
    · refine RP_of hN h2 fun w hw => ?_
      obtain ⟨-, -, -, j4, -, -⟩ := RdS_p (fun n hn => (hN.fs n hn).1) hN.mo nN 0 a1 b (by omega) h2
      have : cnA' b.A nN w ≤ cnb (fun m => decide (w % kT c ≤ m ∧ m < w % kT c + 1)) nN := cnb_mono fun i hi ha => by
        have := j4 i w (by omega) (by omega) ha
        rcases this with x | x
        · omega
        · exact decide_eq_true (by omega)
      have := cnb_iv (w % kT c) 1 nN
      omega
/-- both routers: nothing is routed, or both have the same -/
def iRou (c : gCf) (z : gZ) : Prop := z.1 70 4 = kH c ∧ ((z.1 70 15 = 0 ∧ z.1 94 77 = 0) ∨ (z.1 94 106 = 1 ∧ ∃ (nN v : Nat) (b : RSt), z.1 53 17 = nN ∧ 0 < v ∧ v ≤ 21 ∧ z.1 70 15 = v ∧ z.1 94 77 = v ∧ CSt c nN b z ∧ (∀ w, w < kW c → z.1 78 w = kpR b.A nN w) ∧ RM c nN nN b z ∧ ∃ nS : Nat, z.1 62 nN = nS ∧ RP c z nN nS b))
def pRt' (k j : Nat) : Prop := pWr k j ∨ pRm k j ∨ (k = 94 ∧ j = 77)
theorem iPla_o {P : Nat → Nat → Prop} {z s : gZ} (h : iPla c z) (o : zO P z s) (hP : ∀ k j, P k j → ¬ pN k j ∧ ¬ pS k j ∧ k ≠ 0 ∧ k ≠ 68 ∧ k ≠ 69 ∧ ¬ (k = 67 ∧ j = 4) ∧ k ≠ 136 ∧ k ≠ 137 ∧ ¬ (k = 94 ∧ (j = 106 ∨ j = 55)) ∧ ¬ (k = 53 ∧ j = 15)) : iPla c s := by
  rcases h with ⟨h0, h1, h2, h3, h4, h5⟩ | ⟨h0, h1, m, nC, nN, nS, nI, nO, hc, ht, h5⟩
  · exact Or.inl ⟨by rw [o 0 10 fun x => (hP _ _ x).2.2.1 rfl]; exact h0, by rw [o 94 106 fun x => (hP _ _ x).2.2.2.2.2.2.2.2.1 ⟨rfl, Or.inl rfl⟩]; exact h1, fun q hq => by rw [o 68 q fun x => (hP _ _ x).2.2.2.1 rfl]; exact h2 q hq, by rw [o 53 15 fun x => (hP _ _ x).2.2.2.2.2.2.2.2.2 ⟨rfl, rfl⟩]; exact h3, by rw [o 53 16 fun x => (hP _ _ x).1 (by unfold pN; omega)]; exact h4, by rw [o 53 17 fun x => (hP _ _ x).1 (by unfold pN; omega)]; exact h5⟩
  · have e8 : s.1 68 = z.1 68 := funext fun j => o 68 j fun x => (hP _ _ x).2.2.2.1 rfl
    have e9 : s.1 69 = z.1 69 := funext fun j => o 69 j fun x => (hP _ _ x).2.2.2.2.1 rfl
    refine Or.inr ⟨by rw [o 0 10 fun x => (hP _ _ x).2.2.1 rfl]; exact h0, by rw [o 94 106 fun x => (hP _ _ x).2.2.2.2.2.2.2.2.1 ⟨rfl, Or.inl rfl⟩]; exact h1, m, nC, nN, nS, nI, nO, ⟨NJ_1 hc.n o fun k j a b => (hP k j b).1 a, by unfold PZ; rw [e8, e9]; exact hc.k, ?_⟩, ?_, by rw [o 53 15 fun x => (hP _ _ x).2.2.2.2.2.2.2.2.2 ⟨rfl, rfl⟩]; exact h5.1, by rw [o 94 55 fun x => (hP _ _ x).2.2.2.2.2.2.2.2.1 ⟨rfl, Or.inr rfl⟩]; exact h5.2⟩
    · rw [o 67 4 fun x => (hP _ _ x).2.2.2.2.2.1 ⟨rfl, rfl⟩, hc.l, e9]
      exact (lam_c hc.n (fun _ _ => rfl) (fun k hk => funext fun j => o k j fun x => by have a := (hP _ _ x).1; have b := (hP _ _ x).2.1; unfold pN at a; unfold pS at b; omega) nN (Nat.le_refl _)).symm
    · rw [e8]
      exact ⟨fun t ht' => by rw [o 136 t fun x => (hP _ _ x).2.2.2.2.2.2.1 rfl]; exact ht.t t ht', fun p hp => by rw [o 137 p fun x => (hP _ _ x).2.2.2.2.2.2.2.1 rfl]; exact ht.p p hp⟩
theorem l_route {z : gZ} (g : Gr c z) (hj : Jk c z) (h : iPla c z) (hr : iRou c z) (a : Int) : zOk (q_Face_route E (kL c) a z) (fun r => zOk (q_Model_route E (kL c) a r.2) (fun q => r.1 = q.1 ∧ iPla c q.2 ∧ iRou c q.2 ∧ zO pRt' z q.2)) := by
  have keep : (z.1 94 106 = 0 ∨ a < 1 ∨ 20 < a) → zOk (some ((-1 : Int), z)) (fun r => zOk (q_Model_route E (kL c) a r.2) (fun q => r.1 = q.1 ∧ iPla c q.2 ∧ iRou c q.2 ∧ zO pRt' z q.2)) := fun n => by
    refine ok_so ?_
    show zOk (q_Model_route E (kL c) a z) _
    unfold q_Model_route
    have fin : zOk (some ((-1 : Int), z)) (fun q => (-1 : Int) = q.1 ∧ iPla c q.2 ∧ iRou c q.2 ∧ zO pRt' z q.2) := ok_so ⟨rfl, h, hr, o_r⟩
    refine ok_br (fun _ => fin) fun e1 => ok_br (fun _ => fin) fun e2 => ?_
    exact ok_neg (by omega) fin
  unfold q_Face_route
  refine ok_br (fun e => keep ?_) fun e => ?_
  · rcases h with h | h
    · exact Or.inl h.2.1
    · have := h.1; omega
  refine ok_br (fun e => keep (by omega)) fun e1 => ok_br (fun e2 => ?_) fun e => keep (by omega)
  have h' := h
  rcases h with h | ⟨h0, h1, m, nC, nN, nS, nI, nO, hc, ht, h5⟩
  · exact absurd h.1 e
  have hw : ∃ n : Nat, a = n ∧ 1 ≤ n ∧ n ≤ 20 := ⟨a.toNat, by omega, by omega, by omega⟩
  obtain ⟨most, rfl, hm⟩ := hw
  have R : RC c m nC nN nS nI nO z := ⟨g, hj, hc.n, hc.k⟩
  refine ok_b2 _ (s_work R hr.1 hm) fun v1 s ⟨v, b, q1, q2, q3, q4, q5, q6⟩ => ?_
  have q1 : v1 = v := q1
  subst q1
  have q4 : zO pWr z s := q4
  have q5 : s.1 70 15 = v := q5
  refine ok_so ?_
  show zOk (q_Model_route E (kL c) (most : Int) s) _
  have RDs : RD c m nC nN nS nI nO s := RD_o ⟨R, ht⟩ q4 fun k j x => by unfold pWr at x; unfold pS pN; omega
  have q3' : WkR c s nN most v b := by
    have rr : ∀ k, k = 7 ∨ k = 8 ∨ k = 9 ∨ k = 61 ∨ k = 62 ∨ k = 64 ∨ k = 69 → z.1 k = s.1 k := fun k hk => funext fun j => (q4 k j (by unfold pWr; omega)).symm
    obtain ⟨p, a, p0, a0, w⟩ := q3
    refine ⟨p, a, p0, a0, ?_⟩
    rcases w with w | ⟨w, x | ⟨x1, x2, a1, r, p1, x3, x4⟩⟩
    · exact Or.inl (RsR_z rr _ _ _ _ _ w)
    · exact Or.inr ⟨RsR_z rr _ _ _ _ _ w, Or.inl x⟩
    · exact Or.inr ⟨RsR_z rr _ _ _ _ _ w, Or.inr ⟨x1, x2, a1, r, p1, x3, RdS_z rr _ _ _ _ x4⟩⟩
  unfold q_Model_route
  have m106 : s.1 94 106 = 1 := by rw [q4 94 106 (by unfold pWr; omega)]; exact h1
  (refine ok_neg (by omega) ?_); (refine ok_neg (by omega) ?_); (refine ok_pos (by omega) ?_)
  refine ok_b2 _ (s_routeAll RDs hm q3') fun v2 t ⟨t1, t2, t3⟩ => ?_
  have t1 : v2 = v := t1
  have t2 : zO pRm s t := t2
  subst t1
  rw [ok_l]
  have ou : zO (fun k j => k = 94 ∧ j = 77) t (zPut t 94 77 (v : Int)) := o_put ⟨rfl, rfl⟩
  have vu : (zPut t 94 77 (v : Int)).1 94 77 = v := by (simp only [zp1, zr1, zf1, Nat.reduceEqDiff, Nat.reduceBEq, reduceIte, if_true, if_false, and_true, true_and, and_false, false_and, gtN])
  generalize zPut t 94 77 (v : Int) = u at ou vu ⊢
  rw [vu]
  have os : zO (fun k j => pRm k j ∨ (k = 94 ∧ j = 77)) s u := o_t (o_w t2 fun k j x => Or.inl x) (o_w ou fun k j x => Or.inr x)
  have oz : zO pRt' z u := o_t (o_w q4 fun k j x => Or.inl x) (o_w os fun k j x => Or.inr x)
  refine ok_so ⟨rfl, iPla_o h' oz fun k j x => by unfold pRt' pWr pRm at x; unfold pN pS; omega, ⟨by rw [oz 70 4 (by unfold pRt' pWr pRm; omega)]; exact hr.1, ?_⟩, oz⟩
  by_cases hv : 0 < v
  · right
    obtain ⟨c1, c2⟩ := q6 hv
    refine ⟨by rw [os 94 106 (by unfold pRm; omega)]; exact m106, nN, v, b, by rw [oz 53 17 (by unfold pRt' pWr pRm; omega)]; exact hc.n.n, hv, q2, by rw [os 70 15 (by unfold pRm; omega)]; exact q5, vu, ?_, fun w hw => by rw [os 78 w (by unfold pRm; omega)]; exact c2 w hw, RM_o (t3 hv) g.1 ou (by omega), nS, by rw [oz 62 nN (by unfold pRt' pWr pRm; omega)]; exact hc.n.fN, ?_⟩
    · obtain ⟨⟨a1, a2, a3, a4⟩, b1, b2⟩ := c1
      refine ⟨⟨by rw [os 70 4 (by unfold pRm; omega)]; exact a1, fun n w hn hw => ?_, a3, fun w hw => by rw [os 75 w (by unfold pRm; omega)]; exact a4 w hw⟩, by rw [← b1]; funext j; exact os 77 j (by unfold pRm; omega), by rw [← b2]; funext j; exact os 79 j (by unfold pRm; omega)⟩
      rw [had_o os (by unfold pRm; omega)]; exact a2 n w hn hw
    · have rp := WkR_p g.1 RDs.n q3' hv
      refine ⟨rp.one, rp.lk, fun k hk => ?_⟩
      have : spK u k = spK s k := by unfold spK; rw [os 64 _ (by unfold pRm; omega), os 69 _ (by unfold pRm; omega)]
      rw [this]; exact rp.en k hk
  · left
    have hv : v = 0 := by omega
    exact ⟨by rw [os 70 15 (by unfold pRm; omega), q5, hv]; rfl, by rw [vu, hv]; rfl⟩
end
-- V1
section
variable {E : gEv} {c : gCf}
/-- a word without its sign -/
def uN (x : Int) : Nat := (Int32.ofInt x).toBitVec.toNat
theorem uN_lt (x : Int) : uN x < 4294967296 := (Int32.ofInt x).toBitVec.isLt
theorem uN_bit (x : Int) (i : Nat) : zBit x i = (uN x).testBit i := rfl
theorem uN_and (a b : Int) : uN (zAnd a b) = uN a &&& uN b := by
  unfold uN zAnd; rw [n_oI]; exact BitVec.toNat_and _ _
theorem uN_n (a : Nat) (h : a < 4294967296) : uN (a : Int) = a := by
  unfold uN; rw [n_ofI, BitVec.toNat_ofNat]; omega
theorem uN_ushr (a : Int) (j : Nat) (hj : j < 32) : uN (zUshr a (j : Int)) = uN a / 2 ^ j := by
  apply Nat.eq_of_testBit_eq
  intro i
  rw [← uN_bit, zB_ushr a j i hj, uN_bit, Nat.testBit_div_two_pow]
theorem uN_wr (x : Int) : uN (zWr x) = uN x := by
  unfold uN zWr; rw [n_oI]
theorem uN_add (a b : Int) (h : uN a + uN b < 4294967296) : uN (a + b) = uN a + uN b := by
  unfold uN at *
  rw [Int32.ofInt_add]
  show ((Int32.ofInt a).toBitVec + (Int32.ofInt b).toBitVec).toNat = _
  rw [BitVec.toNat_add]
  exact Nat.mod_eq_of_lt h
theorem uN_sub (a b : Int) (h : uN b ≤ uN a) : uN (a - b) = uN a - uN b := by
  have h1 := uN_lt a
  unfold uN at *
  rw [Int32.ofInt_sub]
  show ((Int32.ofInt a).toBitVec - (Int32.ofInt b).toBitVec).toNat = _
  rw [BitVec.toNat_sub]
  omega
theorem uN_i {x : Int} (h : uN x < 2147483648) : (Int32.ofInt x).toInt = uN x := by
  unfold uN at *
  exact n_toI _ h
theorem and_by (a b m M : Nat) (ha : a < 256) (hm : m < 256) : (a + 256 * b) &&& (m + 256 * M) = (a &&& m) + 256 * (b &&& M) := by
  have e1 : a + 256 * b = 2 ^ 8 * b + a := by omega
  have e2 : m + 256 * M = 2 ^ 8 * M + m := by omega
  have l : a &&& m < 2 ^ 8 := Nat.lt_of_le_of_lt Nat.and_le_left ha
  have e3 : (a &&& m) + 256 * (b &&& M) = 2 ^ 8 * (b &&& M) + (a &&& m) := by
    generalize a &&& m = p; generalize b &&& M = q; omega
  rw [e1, e2, e3]
  apply Nat.eq_of_testBit_eq
  intro i
  rw [Nat.testBit_and, Nat.testBit_two_pow_mul_add _ ha, Nat.testBit_two_pow_mul_add _ hm, Nat.testBit_two_pow_mul_add _ l]
  split
  · rw [Nat.testBit_and]
  · rw [Nat.testBit_and]
/-- the same byte k times -/
def mkB (m : Nat) : Nat → Nat
  | 0 => 0
  | k + 1 => m + 256 * mkB m k
def g1 (k n : Nat) : Nat := n - (n / 2 &&& mkB 85 k)
def g2 (k n : Nat) : Nat := (n &&& mkB 51 k) + (n / 4 &&& mkB 51 k)
def g3 (k n : Nat) : Nat := n + n / 16 &&& mkB 15 k
theorem d1 : ∀ a, a < 256 → ∀ t, t < 2 → (a / 2 + 128 * t) &&& 85 = a / 2 &&& 85 := by decide +kernel
theorem d2 : ∀ a, a < 256 → ∀ t, t < 4 → (a / 4 + 64 * t) &&& 51 = a / 4 &&& 51 := by decide +kernel
theorem d3 : ∀ a, a < 256 → a / 2 &&& 85 ≤ a := by decide +kernel
theorem d4 : ∀ a, a < 256 → a - (a / 2 &&& 85) < 256 ∧ (let x := a - (a / 2 &&& 85); let y := (x &&& 51) + (x / 4 &&& 51); y < 69 ∧ y % 16 ≤ 4 ∧ (y + y / 16 &&& 15) = cnb (fun i => a.testBit i) 8) := by decide +kernel
theorem g1_s (k a b : Nat) (ha : a < 256) : g1 (k + 1) (a + 256 * b) = g1 1 a + 256 * g1 k b := by
  unfold g1
  have e : (a + 256 * b) / 2 = (a / 2 + 128 * (b % 2)) + 256 * (b / 2) := by omega
  have l : a / 2 + 128 * (b % 2) < 256 := by omega
  have m1 : mkB 85 (k + 1) = 85 + 256 * mkB 85 k := rfl
  have m2 : mkB 85 1 = 85 := rfl
  rw [e, m1, and_by _ _ _ _ l (by omega), d1 a ha (b % 2) (by omega), m2]
  have h1 := d3 a ha
  have h2 : b / 2 &&& mkB 85 k ≤ b / 2 := Nat.and_le_left
  generalize a / 2 &&& 85 = p at *
  generalize b / 2 &&& mkB 85 k = q at *
  omega
theorem g2_s (k a b : Nat) (ha : a < 256) : g2 (k + 1) (a + 256 * b) = g2 1 a + 256 * g2 k b := by
  unfold g2
  have e : (a + 256 * b) / 4 = (a / 4 + 64 * (b % 4)) + 256 * (b / 4) := by omega
  have l : a / 4 + 64 * (b % 4) < 256 := by omega
  have m1 : mkB 51 (k + 1) = 51 + 256 * mkB 51 k := rfl
  have m2 : mkB 51 1 = 51 := rfl
  rw [e, m1, and_by _ _ _ _ ha (by omega), and_by _ _ _ _ l (by omega), d2 a ha (b % 4) (by omega), m2]
  generalize a / 4 &&& 51 = p
  generalize b / 4 &&& mkB 51 k = q
  generalize a &&& 51 = r
  generalize b &&& mkB 51 k = s
  omega
theorem g12_4 (k n : Nat) : g2 k (g1 k n) % 16 ≤ 4 := by
  cases k with
  | zero =>
    show ((g1 0 n &&& 0) + (g1 0 n / 4 &&& 0)) % 16 ≤ 4
    rw [Nat.and_zero, Nat.and_zero]; omega
  | succ k =>
    have e : n = n % 256 + 256 * (n / 256) := by omega
    have ha : n % 256 < 256 := Nat.mod_lt _ (by omega)
    obtain ⟨q1, q2⟩ := d4 (n % 256) ha
    have q2 : g2 1 (g1 1 (n % 256)) < 69 ∧ g2 1 (g1 1 (n % 256)) % 16 ≤ 4 ∧ _ := q2
    have q1 : g1 1 (n % 256) < 256 := q1
    rw [show g1 (k + 1) n = g1 1 (n % 256) + 256 * g1 k (n / 256) by rw [← g1_s k _ _ ha, ← e], g2_s k _ _ q1]
    omega
theorem g3_s (k a b : Nat) (ha : a < 69) (hb : b % 16 ≤ 4) : g3 (k + 1) (a + 256 * b) = g3 1 a + 256 * g3 k b := by
  unfold g3
  have e : (a + 256 * b) + (a + 256 * b) / 16 = (a + a / 16 + 16 * (b % 16)) + 256 * (b + b / 16) := by omega
  have m1 : mkB 15 (k + 1) = 15 + 256 * mkB 15 k := rfl
  have m2 : mkB 15 1 = 15 := rfl
  have n15 : ∀ x, x &&& 15 = x % 16 := fun x => Nat.and_two_pow_sub_one_eq_mod x 4
  rw [e, m1, and_by _ _ _ _ (by omega) (by omega), m2, n15, n15]
  generalize (b + b / 16) &&& mkB 15 k = q
  omega
/-- ones in a byte, byte by byte -/
def pcB : Nat → Nat → Nat
  | 0, _ => 0
  | k + 1, n => cnb (fun i => (n % 256).testBit i) 8 + 256 * pcB k (n / 256)
theorem g_all : ∀ k n, n < 256 ^ k → g3 k (g2 k (g1 k n)) = pcB k n := by
  intro k
  induction k with
  | zero =>
    intro n hn
    have : n = 0 := by simpa using hn
    subst this
    rfl
  | succ k ih =>
    intro n hn
    have hb : n / 256 < 256 ^ k := by
      apply Nat.div_lt_of_lt_mul
      rw [Nat.pow_succ] at hn; omega
    have hi := ih (n / 256) hb
    have e : n = n % 256 + 256 * (n / 256) := by omega
    have ha : n % 256 < 256 := Nat.mod_lt _ (by omega)
    obtain ⟨q1, q2⟩ := d4 (n % 256) ha
    have q2 : g2 1 (g1 1 (n % 256)) < 69 ∧ g2 1 (g1 1 (n % 256)) % 16 ≤ 4 ∧ (g2 1 (g1 1 (n % 256)) + g2 1 (g1 1 (n % 256)) / 16 &&& 15) = cnb (fun i => (n % 256).testBit i) 8 := q2
    have q1 : g1 1 (n % 256) < 256 := q1
    rw [pcB]
    rw [show g1 (k + 1) n = g1 1 (n % 256) + 256 * g1 k (n / 256) by rw [← g1_s k _ _ ha, ← e], g2_s k _ _ q1, g3_s k _ _ q2.1 (g12_4 k _), hi]
    have : g3 1 (g2 1 (g1 1 (n % 256))) = cnb (fun i => (n % 256).testBit i) 8 := q2.2.2
    rw [this]
theorem cnb_add' (p : Nat → Bool) (a b : Nat) : cnb p (a + b) = cnb p a + cnb (fun i => p (a + i)) b := by
  induction b with
  | zero => rfl
  | succ b ih => rw [← Nat.add_assoc, cnb, cnb, ih]; omega
theorem cnb_by (n k : Nat) : cnb (fun i => n.testBit i) (8 + k) = cnb (fun i => (n % 256).testBit i) 8 + cnb (fun i => (n / 256).testBit i) k := by
  rw [cnb_add']
  congr 1
  · refine cnb_c fun i hi => ?_
    rw [show (256 : Nat) = 2 ^ 8 from rfl, Nat.testBit_mod_two_pow]
    simp [hi]
  · refine cnb_c fun i _ => ?_
    rw [show (256 : Nat) = 2 ^ 8 from rfl, Nat.testBit_div_two_pow, Nat.add_comm]
theorem s_bitCount (a : Int) (L : Nat → Nat) (z : gZ) : q_Integer_bitCount E L a z = some ((cnb (fun i => zBit a i) 32 : Nat) : Int) := by
  have h0 := uN_lt a
  generalize hn : uN a = n at h0
  have hall := g_all 4 n (by omega)
  unfold q_Integer_bitCount
  have l1 : n / 2 &&& 1431655765 ≤ n / 2 := Nat.and_le_left
  have x1 : uN (zWr (a - zAnd (zUshr a 1) 1431655765)) = g1 4 n := by
    have e1 : uN (zAnd (zUshr a 1) 1431655765) = n / 2 &&& 1431655765 := by
      rw [uN_and, show (1 : Int) = ((1 : Nat) : Int) from rfl, uN_ushr a 1 (by omega), hn, show uN (1431655765 : Int) = 1431655765 from uN_n 1431655765 (by omega)]
    rw [uN_wr, uN_sub _ _ (by rw [e1, hn]; omega), e1, hn]; rfl
  rw [let_s]
  generalize zWr (a - zAnd (zUshr a 1) 1431655765) = X1 at x1 ⊢
  have b1 := uN_lt X1
  rw [x1] at b1
  have c1 : g1 4 n &&& 858993459 ≤ 858993459 := Nat.and_le_right
  have c2 : g1 4 n / 4 &&& 858993459 ≤ 858993459 := Nat.and_le_right
  have x2 : uN (zWr (zAnd X1 858993459 + zAnd (zUshr X1 2) 858993459)) = g2 4 (g1 4 n) := by
    have k0 : uN (858993459 : Int) = 858993459 := uN_n 858993459 (by omega)
    have e1 : uN (zAnd X1 858993459) = g1 4 n &&& 858993459 := by rw [uN_and, x1, k0]
    have e2 : uN (zAnd (zUshr X1 2) 858993459) = g1 4 n / 4 &&& 858993459 := by
      rw [uN_and, show (2 : Int) = ((2 : Nat) : Int) from rfl, uN_ushr X1 2 (by omega), x1, k0]
    rw [uN_wr, uN_add _ _ (by rw [e1, e2]; omega), e1, e2]; rfl
  rw [let_s]
  generalize zWr (zAnd X1 858993459 + zAnd (zUshr X1 2) 858993459) = X2 at x2 ⊢
  have b2 : g2 4 (g1 4 n) ≤ 1717986918 := by
    show (g1 4 n &&& 858993459) + (g1 4 n / 4 &&& 858993459) ≤ _
    omega
  have x3 : uN (zAnd (zWr (X2 + zUshr X2 4)) 252645135) = pcB 4 n := by
    rw [← hall, uN_and, uN_wr]
    have e2 : uN (zUshr X2 4) = g2 4 (g1 4 n) / 16 := by
      rw [show (4 : Int) = ((4 : Nat) : Int) from rfl, uN_ushr X2 4 (by omega), x2]
    rw [uN_add _ _ (by rw [x2, e2]; omega), x2, e2]
    show _ &&& uN (252645135 : Int) = g3 4 _
    rw [show uN (252645135 : Int) = 252645135 from uN_n 252645135 (by omega)]; rfl
  rw [let_s]
  generalize zAnd (zWr (X2 + zUshr X2 4)) 252645135 = X3 at x3 ⊢
  have cb : ∀ x : Nat, cnb (fun i => x.testBit i) 8 ≤ 8 := fun x => cnb_le _ _
  have p4 : pcB 4 n = cnb (fun i => (n % 256).testBit i) 8 + 256 * (cnb (fun i => (n / 256 % 256).testBit i) 8 + 256 * (cnb (fun i => (n / 256 / 256 % 256).testBit i) 8 + 256 * cnb (fun i => (n / 256 / 256 / 256 % 256).testBit i) 8)) := rfl
  have tot : cnb (fun i => zBit a i) 32 = cnb (fun i => (n % 256).testBit i) 8 + (cnb (fun i => (n / 256 % 256).testBit i) 8 + (cnb (fun i => (n / 256 / 256 % 256).testBit i) 8 + cnb (fun i => (n / 256 / 256 / 256 % 256).testBit i) 8)) := by
    have e0 : cnb (fun i => zBit a i) 32 = cnb (fun i => n.testBit i) (8 + 24) := cnb_c fun i _ => by rw [uN_bit, hn]
    rw [e0, cnb_by n 24, cnb_by (n / 256) 16, cnb_by (n / 256 / 256) 8]
    rw [show n / 256 / 256 / 256 % 256 = n / 256 / 256 / 256 from Nat.mod_eq_of_lt (by omega)]
  have a0 := cb (n % 256)
  have a1 := cb (n / 256 % 256)
  have a2 := cb (n / 256 / 256 % 256)
  have a3 := cb (n / 256 / 256 / 256 % 256)
  rw [tot]
  rw [p4] at x3
  generalize cnb (fun i => (n % 256).testBit i) 8 = t0 at *
  generalize cnb (fun i => (n / 256 % 256).testBit i) 8 = t1 at *
  generalize cnb (fun i => (n / 256 / 256 % 256).testBit i) 8 = t2 at *
  generalize cnb (fun i => (n / 256 / 256 / 256 % 256).testBit i) 8 = t3 at *
  have x4 : uN (zWr (X3 + zUshr X3 8)) = (t0 + 256 * (t1 + 256 * (t2 + 256 * t3))) + (t0 + 256 * (t1 + 256 * (t2 + 256 * t3))) / 256 := by
    have e2 : uN (zUshr X3 8) = (t0 + 256 * (t1 + 256 * (t2 + 256 * t3))) / 256 := by
      rw [show (8 : Int) = ((8 : Nat) : Int) from rfl, uN_ushr X3 8 (by omega), x3]
    rw [uN_wr, uN_add _ _ (by rw [x3, e2]; omega), x3, e2]
  rw [let_s]
  generalize zWr (X3 + zUshr X3 8) = X4 at x4 ⊢
  have x5 : uN (zWr (X4 + zUshr X4 16)) = uN X4 + uN X4 / 65536 := by
    have e2 : uN (zUshr X4 16) = uN X4 / 65536 := by
      rw [show (16 : Int) = ((16 : Nat) : Int) from rfl, uN_ushr X4 16 (by omega)]
    rw [uN_wr, uN_add _ _ (by rw [x4, e2, x4]; omega), e2]
  rw [let_s]
  generalize zWr (X4 + zUshr X4 16) = X5 at x5 ⊢
  have x6 : uN (zAnd X5 63) = t0 + (t1 + (t2 + t3)) := by
    rw [uN_and, show uN (63 : Int) = 63 from uN_n 63 (by omega), x5, x4]
    have := Nat.and_two_pow_sub_one_eq_mod ((t0 + 256 * (t1 + 256 * (t2 + 256 * t3))) + (t0 + 256 * (t1 + 256 * (t2 + 256 * t3))) / 256 + ((t0 + 256 * (t1 + 256 * (t2 + 256 * t3))) + (t0 + 256 * (t1 + 256 * (t2 + 256 * t3))) / 256) / 65536) 6
    have e : (2 : Nat) ^ 6 - 1 = 63 := by decide
    rw [e] at this
    have q1 : (t0 + 256 * (t1 + 256 * (t2 + 256 * t3))) / 256 = t1 + 256 * (t2 + 256 * t3) := by omega
    rw [q1] at this ⊢
    have q2 : (t0 + 256 * (t1 + 256 * (t2 + 256 * t3)) + (t1 + 256 * (t2 + 256 * t3))) / 65536 = t2 + t3 + 256 * t3 := by omega
    rw [q2] at this ⊢
    rw [this]
    have q3 : t0 + 256 * (t1 + 256 * (t2 + 256 * t3)) + (t1 + 256 * (t2 + 256 * t3)) + (t2 + t3 + 256 * t3) = (t0 + (t1 + (t2 + t3))) + 64 * (4 * (t1 + t2 + t3) + 1024 * (t2 + t3) + 262144 * t3) := by omega
    rw [show (2 : Nat) ^ 6 = 64 from rfl, q3, Nat.add_mul_mod_self_left]
    exact Nat.mod_eq_of_lt (by omega)
  have r := zAnd_r X5 63
  have i1 := uN_i (x := zAnd X5 63) (by rw [x6]; omega)
  rw [n_i32 _ r, x6] at i1
  rw [i1]
end
-- V2
section
variable {E : gEv} {c : gCf}
theorem s_wiresOf {nN n : Nat} {A : Nat → Nat → Bool} {z : gZ} (hk : kOk c) (h : EA c nN A z) (hn : n < nN) (hN : nN ≤ kD c + kP c) (hv : 0 < z.1 70 15) : q_Router_wiresOf E (kL c) (n : Int) z = some ((cnb (A n) (kW c) : Nat) : Int) := by
  have hW := kW_b hk
  have hD := kD_b hk
  have hP := kP_b hk
  have hH27 : kH c ≤ 27 := by unfold kH; omega
  have hKW : kW c ≤ kH c * 32 := by unfold kH; omega
  have hNx : n * kH c + kH c ≤ (kD c + kP c) * kH c := by
    have := Nat.mul_le_mul_right (kH c) (show n + 1 ≤ kD c + kP c by omega)
    rw [Nat.add_mul] at this
    omega
  have hNb : (kD c + kP c) * kH c ≤ 192 * 27 := Nat.mul_le_mul (by omega) hH27
  have e1 : (n : Int) * (kH c : Int) = ((n * kH c : Nat) : Int) := by rw [Int.natCast_mul]
  have e2 : ((n : Int) + 1) * (kH c : Int) = ((n * kH c + kH c : Nat) : Int) := by
    rw [Int.add_mul, e1]; omega
  have tot : cnb (A n) (kH c * 32) = cnb (A n) (kW c) := by
    have := cnb_add' (A n) (kW c) (kH c * 32 - kW c)
    rw [show kW c + (kH c * 32 - kW c) = kH c * 32 by omega] at this
    have z0 : cnb (fun i => A n (kW c + i)) (kH c * 32 - kW c) = 0 := cnb_0 fun i hi => by
      cases g : A n (kW c + i)
      · rfl
      · have := h.hW n _ hn g; omega
    rw [this, z0]; omega
  unfold q_Router_wiresOf
  rw [h.wd, e1, if_pos (by omega), let_s]
  rw [it_acc (fun (i : Nat) (v : Int) => (v, ((n * kH c + i : Nat) : Int))) (fun i => ((cnb (A n) (i * 32) : Nat) : Int)) 0 (kH c) (s := (0, ((n * kH c : Nat) : Int))) (e := ((cnb (A n) (kH c * 32) : Nat) : Int)) (by rw [Nat.zero_mul]; rfl) (by omega) (by omega)]
  · rw [b1_s, tot]
  · intro i _ hi
    show q_Router_wiresOf_9 E (kL c) (n : Int) ((cnb (A n) (i * 32) : Nat) : Int) ((n * kH c + i : Nat) : Int) z = _
    unfold q_Router_wiresOf_9
    have cb : cnb (fun j => zBit (z.1 74 (n * kH c + i)) j) 32 = cnb (fun j => A n (i * 32 + j)) 32 := cnb_c fun j hj => by
      have := h.bit n (i * 32 + j) hn (by omega)
      unfold hadB at this
      rw [show (i * 32 + j) / 32 = i by omega, show (i * 32 + j) % 32 = j by omega] at this
      exact this
    have l1 := cnb_le (A n) (i * 32)
    have l2 := cnb_le (fun j => A n (i * 32 + j)) 32
    have ad := cnb_add' (A n) (i * 32) 32
    rw [h.wd, e2, kL_74, if_neg (by omega), if_pos (by omega), if_neg (by omega), if_pos (by omega), gtN, s_bitCount, b1_s, cb, if_pos (by omega), let_s, let_s, show (i + 1) * 32 = i * 32 + 32 by omega, ad]
    rfl
  · show q_Router_wiresOf_9 E (kL c) (n : Int) ((cnb (A n) (kH c * 32) : Nat) : Int) ((n * kH c + kH c : Nat) : Int) z = _
    unfold q_Router_wiresOf_9
    rw [h.wd, e2, if_neg (by omega), if_pos (by omega), if_pos (by omega)]
theorem s_wiresOf0 {n : Nat} {z : gZ} (hk : kOk c) (hw : z.1 70 4 = kH c) (hn : n < 1000) (hv : z.1 70 15 = 0) : q_Router_wiresOf E (kL c) (n : Int) z = some 0 := by
  have hW := kW_b hk
  have hH27 : kH c ≤ 27 := by unfold kH; omega
  have hb : n * kH c ≤ 1000 * 27 := Nat.mul_le_mul (by omega) hH27
  have e1 : (n : Int) * (kH c : Int) = ((n * kH c : Nat) : Int) := by rw [Int.natCast_mul]
  unfold q_Router_wiresOf
  rw [hw, e1, if_pos (by omega), let_s]
  rw [it_acc (fun (i : Nat) (v : Int) => (v, ((n * kH c + i : Nat) : Int))) (fun i => 0) 0 0 (s := (0, ((n * kH c : Nat) : Int))) (e := 0) rfl (by omega) (by omega)]
  · rfl
  · intro i _ hi; omega
  · show q_Router_wiresOf_9 E (kL c) (n : Int) 0 ((n * kH c + 0 : Nat) : Int) z = _
    unfold q_Router_wiresOf_9
    rw [if_pos (by omega)]
theorem smN_add (f g : Nat → Nat) (n : Nat) : smN (fun i => f i + g i) n = smN f n + smN g n := by
  induction n with
  | zero => rfl
  | succ n ih => rw [smN, smN, smN, ih]; omega
theorem smN_cnb (p : Nat → Bool) (n : Nat) : smN (fun i => if p i then 1 else 0) n = cnb p n := by
  induction n with
  | zero => rfl
  | succ n ih => rw [smN, cnb, ih]
/-- counted by nets or by wires -/
theorem dbl (A : Nat → Nat → Bool) (W N : Nat) : smN (fun n => cnb (A n) W) N = smN (fun w => cnb (fun n => A n w) N) W := by
  induction N with
  | zero =>
    have : smN (fun w => cnb (fun n => A n w) 0) W = 0 := by
      induction W with
      | zero => rfl
      | succ W ih => rw [smN, ih]; rfl
    rw [this]; rfl
  | succ N ih =>
    rw [smN, ih, ← smN_cnb (A N) W, ← smN_add]
    rfl
theorem kpR_n {A : Nat → Nat → Bool} {w : Nat} : ∀ n, (∀ m, m < n → A m w = false) → kpR A n w = -1 := by
  intro n
  induction n with
  | zero => intro _; rfl
  | succ n ih => intro h; rw [kpR, h n (by omega), if_neg Bool.false_ne_true]; exact ih fun m hm => h m (by omega)
theorem kpR_s {A : Nat → Nat → Bool} {w m : Nat} (ha : A m w = true) : ∀ n, m < n → (∀ m', m' < n → A m' w = true → m' = m) → kpR A n w = m := by
  intro n
  induction n with
  | zero => intro h; omega
  | succ n ih =>
    intro h hu
    rw [kpR]
    by_cases e : A n w = true
    · rw [if_pos e, hu n (by omega) e]
    · rw [if_neg e]
      refine ih ?_ fun m' h1 h2 => hu m' (by omega) h2
      by_cases x : m = n
      · subst x; exact absurd ha e
      · omega
theorem one_u {nN w m m' : Nat} {A : Nat → Nat → Bool} (h : aOne c nN A) (hw : w < kW c) (h1 : m < nN) (h2 : m' < nN) (a : A m w = true) (b : A m' w = true) : m = m' := by
  have := h w hw
  rcases Nat.lt_trichotomy m m' with x | x | x
  · have : 2 ≤ cnA' A nN w := cnb_two (p := fun m => A m w) x h2 a b
    omega
  · exact x
  · have : 2 ≤ cnA' A nN w := cnb_two (p := fun m => A m w) x h1 b a
    omega
theorem l_owner {z : gZ} (g : Gr c z) (h : iPla c z) (hr : iRou c z) (a : Int) : zOk (q_Face_owner E (kL c) a z) (fun v => zOk (q_Model_owner E (kL c) a z) (fun q => v = q)) := by
  have hW := kW_b g.1
  have o7 : z.1 1 7 = kW c := g.2.1.2.2.2.2.2.2.2.1
  have m8 : z.1 94 8 = kW c := g.2.2.1.2.2.2.2.2.2.2.2.1
  have keep : (a < 0 ∨ (kW c : Int) ≤ a ∨ z.1 94 77 = 0) → zOk (q_Model_owner E (kL c) a z) (fun q => (-1 : Int) = q) := fun n => by
    unfold q_Model_owner
    rw [m8]
    refine ok_br (fun _ => ok_so rfl) fun e1 => ok_br (fun _ => ok_so rfl) fun e2 => ?_
    exact ok_neg (by omega) (ok_so rfl)
  unfold q_Face_owner
  rw [o7]
  refine ok_br (fun e => ok_so (keep (by omega))) fun e1 => ok_br (fun e2 => ?_) fun e => ok_so (keep (by omega))
  have hw : ∃ w : Nat, a = w ∧ w < kW c := ⟨a.toNat, by omega, by omega⟩
  obtain ⟨w, rfl, hw⟩ := hw
  unfold q_Router_keeperOf
  rw [kL_78]
  obtain ⟨hh, r | ⟨hc, nN, v, b, r1, r2, r3, r4, r5, r6, r7, r8, nS, r9, r10⟩⟩ := hr
  · refine ok_b1 (fun v => v = -1) ?_ fun v hv => ?_
    · exact ok_pos (by omega) (ok_so rfl)
    · rw [hv]; exact ok_so (keep (by omega))
  · refine ok_b1 (fun v => v = kpR b.A nN w) ?_ fun v hv => ?_
    · refine ok_neg (by omega) ?_
      (refine ok_gd (by omega) ?_)
      rw [gtN]
      exact ok_so (r7 w hw)
    · rw [hv]
      refine ok_so ?_
      have hn : z.1 94 60 = nN ∧ nN ≤ 192 := by
        rcases h with h | ⟨-, -, m, nC, nN', nS', nI, nO, hp, -, -⟩
        · have := h.2.1; omega
        · have h1 := hp.n.n
          have h2 := hp.n.nm
          have h3 := hp.n.nb
          have := kD_b g.1
          have := kP_b g.1
          omega
      unfold q_Model_owner
      rw [m8]
      (refine ok_neg (by omega) ?_); (refine ok_neg (by omega) ?_); (refine ok_pos (by omega) ?_)
      have st : ∀ n : Nat, n < nN → q_Model_owner_23 E (kL c) (w : Int) (n : Int) z = if b.A n w = true then some (.inr (.inl (n : Int))) else some (.inl ((n : Int) + 1)) := fun n hn' => by
        unfold q_Model_owner_23
        rw [hn.1, kL_141, if_neg (by omega), if_pos (by omega), show (840 * (n : Int) + (w : Int)).toNat = 840 * n + w by omega, r8.has n w hn' hw]
        by_cases x : b.A n w = true
        · rw [if_pos x, if_pos x, if_neg (by decide)]
        · rw [if_neg x, if_neg x, if_pos rfl, let_s]
      rcases it_find (f := fun y => q_Model_owner_23 E (kL c) (w : Int) y z) (fun n => b.A n w = true) (fun n => Sum.inl (n : Int)) 0 nN (e := Sum.inr ()) (s := 0) rfl (by omega) (by omega) (fun i _ hi hp => by rw [st i hi, if_neg hp]) (fun i _ hi hp => by rw [st i hi, if_pos hp]) (by show q_Model_owner_23 E (kL c) (w : Int) (nN : Int) z = _; unfold q_Model_owner_23; rw [hn.1, if_pos (by omega)]) with ⟨i, -, i1, i2, i3, i4⟩ | ⟨i1, i2⟩
      · rw [i4, b1_s, gs_l]
        exact ok_so (kpR_s i2 nN i1 fun m' h1 h2 => one_u r10.one hw h1 i1 h2 i2)
      · rw [i2, b1_s, gs_r]
        refine ok_so (kpR_n nN fun m hm => ?_)
        cases x : b.A m w
        · rfl
        · exact absurd x (i1 m (by omega) hm)
theorem l_net {z : gZ} (g : Gr c z) (h : iPla c z) (hr : iRou c z) (a d : Int) (hd : -2147483648 ≤ d ∧ d < 2147483648) : zOk (q_Face_net E (kL c) a d z) (fun v => zOk (q_Model_net E (kL c) a d z) (fun q => v = q)) := by
  have hW := kW_b g.1
  have hD := kD_b g.1
  have hP := kP_b g.1
  have m8 : z.1 94 8 = kW c := g.2.2.1.2.2.2.2.2.2.2.2.1
  have keepU : z.1 94 106 = 0 → zOk (q_Model_net E (kL c) a d z) (fun q => (-1 : Int) = q) := fun n => by
    unfold q_Model_net
    (refine ok_pos (by omega) ?_)
    exact ok_so rfl
  unfold q_Face_net
  rcases h with h | ⟨h0, h1, m, nC, nN, nS, nI, nO, hp, -, -⟩
  · rw [h.2.2.2.2.2]
    refine ok_br (fun e => ok_so (keepU h.2.1)) fun e => ?_
    (refine ok_pos (by omega) ?_)
    exact ok_so (keepU h.2.1)
  · have nb := hp.n.nb
    have sb := hp.n.sb
    have keep : (a < 0 ∨ (nN : Int) ≤ a ∨ d < 0) → zOk (q_Model_net E (kL c) a d z) (fun q => (-1 : Int) = q) := fun n => by
      unfold q_Model_net
      rw [hp.n.nm]
      (refine ok_neg (by omega) ?_)
      refine ok_br (fun _ => ok_so rfl) fun e1 => ok_br (fun _ => ok_so rfl) fun e2 => ?_
      exact ok_neg (by omega) (ok_so rfl)
    rw [hp.n.n]
    refine ok_br (fun e => ok_so (keep (by omega))) fun e1 => ok_br (fun e => ok_so (keep (by omega))) fun e2 => ok_br (fun e3 => ?_) fun e => ok_so (keep (by omega))
    have hw : ∃ n : Nat, a = n ∧ n < nN := ⟨a.toNat, by omega, by omega⟩
    obtain ⟨n, rfl, hn⟩ := hw
    obtain ⟨f1, f2, f3⟩ := hp.n.fs n (by omega)
    obtain ⟨g1, g2, g3⟩ := hp.n.fs (n + 1) (by omega)
    have mo := hp.n.mo n hn
    have t1 : ((n : Int) + 1).toNat = n + 1 := by omega
    rw [kL_62, kL_60]
    (refine ok_gd (by omega) ?_)
    rw [ok_l]
    (refine ok_gd (by omega) ?_)
    rw [gtN, t1]
    (refine ok_gd (by omega) ?_)
    rw [ok_l]
    have mod : zOk (q_Model_net E (kL c) (n : Int) d z) = zOk (q_Model_net E (kL c) (n : Int) d z) := rfl
    have M : ∀ (v : Int), zOk (if d = 0 then (if 0 ≤ (n : Int) ∧ (n : Int) < ((kL c 129 : Nat) : Int) then some (z.1 129 n) else none) else if d = 1 then some (z.1 62 (n + 1) - z.1 62 n) else if d = 2 then (gB1 (gIter (fun y => q_Model_net_70 E (kL c) (n : Int) y.1 y.2 z) gN (0, 0)) fun e6 => some e6) else if -2147483648 ≤ d - 3 ∧ d - 3 < 2147483648 then if z.1 62 (n + 1) - z.1 62 n ≤ d - 3 then some (-1) else if z.1 94 77 ≤ 0 then some (-1) else if 0 ≤ ((z.1 62 n) + d) - 3 ∧ ((z.1 62 n) + d) - 3 < ((kL c 132 : Nat) : Int) then some (z.1 132 ((((z.1 62 n) + d) - 3).toNat)) else none else none) (fun q => v = q) → zOk (q_Model_net E (kL c) (n : Int) d z) (fun q => v = q) := fun v hv => by
      unfold q_Model_net
      rw [hp.n.nm, kL_130]
      (refine ok_neg (by omega) ?_); (refine ok_neg (by omega) ?_); (refine ok_neg (by omega) ?_); (refine ok_pos (by omega) ?_); (refine ok_gd (by omega) ?_); (refine ok_gd (by omega) ?_)
      rw [t1, gtN, f3, g3]
      (refine ok_gd (by omega) ?_)
      rw [ok_l]
      exact hv
    refine ok_br (fun d0 => ?_) fun d0 => ok_br (fun d1 => ?_) fun d1 => ok_br (fun d2 => ?_) fun d2 => ?_
    · (refine ok_gd (by omega) ?_)
      refine ok_so (M _ ?_)
      rw [kL_129]
      refine ok_pos d0 ?_
      (refine ok_gd (by omega) ?_)
      exact ok_so (hp.n.src n hn).1
    · refine ok_so (M _ ?_)
      exact ok_neg d0 (ok_pos d1 (ok_so rfl))
    · obtain ⟨hh, r | ⟨hc, nN', v, b, r1, r2, r3, r4, r5, r6, r7, r8, nS', r9, r10⟩⟩ := hr
      · refine ok_v1 (s_wiresOf0 g.1 hh (by omega) r.1) ?_
        refine ok_so (M _ ?_)
        refine ok_neg d0 (ok_neg d1 (ok_pos d2 ?_))
        rw [it_acc (fun (i : Nat) (v : Int) => (v, (i : Int))) (fun i => 0) 0 0 (s := (0, 0)) (e := 0) rfl (by omega) (by omega)]
        · exact ok_so rfl
        · intro i _ hi; omega
        · show q_Model_net_70 E (kL c) (n : Int) 0 0 z = _
          unfold q_Model_net_70
          rw [m8, if_neg (by omega), if_pos (by omega)]
      · have hnn : nN' = nN := by have := hp.n.n; omega
        subst hnn
        refine ok_v1 (s_wiresOf g.1 r6.1 hn nb (by omega)) ?_
        refine ok_so (M _ ?_)
        refine ok_neg d0 (ok_neg d1 (ok_pos d2 ?_))
        rw [it_acc (fun (i : Nat) (v : Int) => (v, (i : Int))) (fun i => ((cnb (b.A n) i : Nat) : Int)) 0 (kW c) (s := (0, 0)) (e := ((cnb (b.A n) (kW c) : Nat) : Int)) rfl (by omega) (by omega)]
        · exact ok_so rfl
        · intro i _ hi
          show q_Model_net_70 E (kL c) (n : Int) ((cnb (b.A n) i : Nat) : Int) (i : Int) z = _
          have l1 := cnb_le (b.A n) i
          unfold q_Model_net_70
          rw [m8, if_neg (by omega), if_neg (by omega), kL_141, if_pos (by omega), show (840 * (n : Int) + (i : Int)).toNat = 840 * n + i by omega, r8.has n i hn hi, cnb]
          by_cases x : b.A n i = true
          · rw [if_pos x, if_pos x, if_neg (by decide), if_pos (by omega), let_s, let_s]; rfl
          · rw [if_neg x, if_neg x, if_pos rfl, if_pos (by omega), let_s, let_s]; rfl
        · show q_Model_net_70 E (kL c) (n : Int) ((cnb (b.A n) (kW c) : Nat) : Int) (kW c : Int) z = _
          unfold q_Model_net_70
          rw [m8, if_pos (by omega)]
    · (refine ok_gd (by omega) ?_)
      refine ok_br (fun d3 => ?_) fun d3 => ?_
      · refine ok_so (M _ (ok_neg d0 (ok_neg d1 (ok_neg d2 ?_))))
        (refine ok_gd (by omega) ?_)
        exact ok_pos d3 (ok_so rfl)
      · (refine ok_gd (by omega) ?_)
        unfold q_Router_endOf
        obtain ⟨hh, r | ⟨hc, nN', v, b, r1, r2, r3, r4, r5, r6, r7, r8, nS', r9, r10⟩⟩ := hr
        · rw [if_pos (show z.1 70 15 ≤ 0 by omega), b1_s]
          refine ok_so (M _ (ok_neg d0 (ok_neg d1 (ok_neg d2 ?_))))
          (refine ok_gd (by omega) ?_)
          exact ok_neg d3 (ok_pos (by omega) (ok_so rfl))
        · have hnn : nN' = nN := by have := hp.n.n; omega
          subst hnn
          rw [if_neg (show ¬ z.1 70 15 ≤ 0 by omega), kL_79, if_pos (by omega), b1_s]
          refine ok_so (M _ (ok_neg d0 (ok_neg d1 (ok_neg d2 ?_))))
          (refine ok_gd (by omega) ?_)
          refine ok_neg d3 (ok_neg (by omega) ?_)
          rw [kL_132]
          (refine ok_gd (by omega) ?_)
          refine ok_so ?_
          have := (r8.er n hn).2 (z.1 62 n + d - 3).toNat (by omega) (by omega)
          rw [this, ← r6.2.2]
end
-- V3
section
variable {E : gEv} {c : gCf}
theorem iLut_of {cb : Int} {z : gZ} (h : iCir c cb z) : iLut c z := by
  rcases h with ⟨h0, h1, h2, -⟩ | ⟨h0, h1, nU, nL, nI, nO, nF, h⟩
  · exact ⟨0, by omega, h2, Or.inl ⟨h1, rfl⟩, fun a ha => by omega, fun a ha => by omega⟩
  · exact ⟨nU, h.k.ub, h.k.u, Or.inr ⟨h1, h.r.u⟩, h.tab, h.pin⟩
theorem iTil_of {z : gZ} (h : iPla c z) : iTil c z := by
  rcases h with ⟨h0, h1, h2, -⟩ | ⟨h0, h1, m, nC, nN, nS, nI, nO, hc, ht, -⟩
  · exact ⟨fun t ht _ => h2 t (by omega), fun x => absurd h1 x⟩
  · exact ⟨fun t _ x => by omega, fun _ t h => (ht.t t h).symm⟩
theorem iPad_of {z : gZ} (h : iPla c z) : iPad c z := by
  rcases h with ⟨h0, h1, h2, -⟩ | ⟨h0, h1, m, nC, nN, nS, nI, nO, hc, ht, -⟩
  · exact ⟨fun _ p hp => h2 _ (by omega), fun x => absurd h1 x⟩
  · refine ⟨fun x => by omega, fun _ p hp => ?_⟩
    have hp' := ht.p p hp
    rcases hc.k.th (kN c + p) (by omega) with x | ⟨x, x1, x2, x3⟩
    · left
      refine ⟨x, ?_⟩
      rw [hp', x]; unfold cdP; rw [if_pos rfl]
    · right
      obtain ⟨q, q1, q2, q3, q4⟩ := hc.k.sp x x1
      have hq : q = kN c + p := by omega
      have hx : ¬ x < kN c := fun y => by have := q4.2 y; omega
      have hx2 := (hc.k.q x1).1
      refine ⟨x - kN c, by omega, by rw [x2]; omega, ?_⟩
      rw [hp', x2]
      unfold cdP
      rw [if_neg (by omega)]
      by_cases e : kD c ≤ x - kN c
      · rw [if_neg (by omega), if_pos e]; omega
      · rw [if_pos (by omega), if_neg e]; omega
theorem s_wiresHad {z : gZ} (g : Gr c z) (h : iPla c z) (hr : iRou c z) : ∃ v : Int, q_Router_wiresHad E (kL c) z = some v ∧ gIter (fun y => q_Model_look_197 E (kL c) y.1 y.2 z) gN (0, 0) = some v := by
  have hW := kW_b g.1
  have hD := kD_b g.1
  have hP := kP_b g.1
  have m8 : z.1 94 8 = kW c := g.2.2.1.2.2.2.2.2.2.2.2.1
  obtain ⟨hh, r | ⟨hc, nN, v, b, r1, r2, r3, r4, r5, r6, r7, r8, nS, r9, r10⟩⟩ := hr
  · have hn : ∃ nN : Nat, z.1 53 17 = nN ∧ nN ≤ 192 := by
      rcases h with h | ⟨-, -, m, nC, nN', nS', nI, nO, hp, -, -⟩
      · exact ⟨0, h.2.2.2.2.2, by omega⟩
      · have h1 := hp.n.n
        have h3 := hp.n.nb
        exact ⟨nN', h1, by omega⟩
    obtain ⟨nN, n1, n2⟩ := hn
    refine ⟨0, ?_, ?_⟩
    · unfold q_Router_wiresHad
      rw [it_acc (fun (i : Nat) (v : Int) => (v, (i : Int))) (fun i => 0) 0 nN (s := (0, 0)) (e := 0) rfl (by omega) (by omega)]
      · rfl
      · intro i _ hi
        show q_Router_wiresHad_4 E (kL c) 0 (i : Int) z = _
        unfold q_Router_wiresHad_4
        rw [n1, if_neg (by omega), s_wiresOf0 g.1 hh (by omega) r.1, b1_s, if_pos (by omega), let_s, let_s]; rfl
      · show q_Router_wiresHad_4 E (kL c) 0 (nN : Int) z = _
        unfold q_Router_wiresHad_4
        rw [n1, if_pos (by omega)]
    · refine it_acc (fun (i : Nat) (v : Int) => (v, (i : Int))) (fun i => 0) 0 0 rfl (by omega) (by omega) (fun i _ hi => by omega) ?_
      show q_Model_look_197 E (kL c) 0 0 z = _
      unfold q_Model_look_197
      rw [m8, if_neg (by omega), if_pos (by omega)]
  · have hn : nN ≤ kD c + kP c := by
      rcases h with h | ⟨-, -, m, nC, nN', nS', nI, nO, hp, -, -⟩
      · have := h.2.1; omega
      · have h1 := hp.n.n
        have h3 := hp.n.nb
        omega
    have b1 : ∀ i, i ≤ nN → smN (fun n => cnb (b.A n) (kW c)) i ≤ i * 840 := fun i _ => smN_le fun j _ => Nat.le_trans (cnb_le _ _) hW.2
    have b2 : ∀ i, i ≤ kW c → smN (fun w => cnb (fun n => b.A n w) nN) i ≤ i * 192 := fun i _ => smN_le fun j _ => Nat.le_trans (cnb_le _ _) (by omega)
    refine ⟨((smN (fun n => cnb (b.A n) (kW c)) nN : Nat) : Int), ?_, ?_⟩
    · unfold q_Router_wiresHad
      rw [it_acc (fun (i : Nat) (v : Int) => (v, (i : Int))) (fun i => ((smN (fun n => cnb (b.A n) (kW c)) i : Nat) : Int)) 0 nN (s := (0, 0)) (e := ((smN (fun n => cnb (b.A n) (kW c)) nN : Nat) : Int)) rfl (by omega) (by omega)]
      · rfl
      · intro i _ hi
        show q_Router_wiresHad_4 E (kL c) ((smN (fun n => cnb (b.A n) (kW c)) i : Nat) : Int) (i : Int) z = _
        unfold q_Router_wiresHad_4
        have h1 := b1 i (by omega)
        have h2 := cnb_le (b.A i) (kW c)
        rw [r1, if_neg (by omega), s_wiresOf g.1 r6.1 hi hn (by omega), b1_s, if_pos (by omega), let_s, let_s, smN]; rfl
      · show q_Router_wiresHad_4 E (kL c) _ (nN : Int) z = _
        unfold q_Router_wiresHad_4
        rw [r1, if_pos (by omega)]
    · rw [dbl]
      refine it_acc (fun (i : Nat) (v : Int) => (v, (i : Int))) (fun i => ((smN (fun w => cnb (fun n => b.A n w) nN) i : Nat) : Int)) 0 (kW c) rfl (by omega) (by omega) ?_ ?_
      · intro i _ hi
        show q_Model_look_197 E (kL c) ((smN (fun w => cnb (fun n => b.A n w) nN) i : Nat) : Int) (i : Int) z = _
        unfold q_Model_look_197
        have h1 := b2 i (by omega)
        have h2 : cnb (fun n => b.A n i) nN ≤ nN := cnb_le _ _
        have hv := r8.hv i hi
        unfold cnA' at hv
        rw [m8, if_neg (by omega), if_neg (by omega), kL_147, if_pos (by omega), gtN, hv, if_pos (by omega), let_s, let_s, smN]; rfl
      · show q_Model_look_197 E (kL c) _ (kW c : Int) z = _
        unfold q_Model_look_197
        rw [m8, if_pos (by omega)]
theorem l_look {cb : Int} {z : gZ} (g : Gr c z) (hc : iCir c cb z) (h : iPla c z) (hr : iRou c z) (h11 : z.1 0 11 = z.1 94 18) (h13 : z.1 81 13 = z.1 94 99) (a : Int) : zOk (q_Face_look E (kL c) a z) (fun v => zOk (q_Model_look E (kL c) a z) (fun q => v = q.1 ∧ zOff pPt z q.2)) := by
  have o5 : z.1 1 5 = kD c := g.2.1.2.2.2.2.2.1
  have o7 : z.1 1 7 = kW c := g.2.1.2.2.2.2.2.2.2.1
  have o8 : z.1 1 8 = kB c := g.2.1.2.2.2.2.2.2.2.2.1
  have m6 : z.1 94 6 = kD c := g.2.2.1.2.2.2.2.2.2.1
  have m8 : z.1 94 8 = kW c := g.2.2.1.2.2.2.2.2.2.2.2.1
  have m13 : z.1 94 13 = kB c := g.2.2.1.2.2.2.2.2.2.2.2.2.2.2.2.2
  have s1 : ∀ {x y : Int}, x = y → zOk (some x) (fun v => zOk (some (y, z)) (fun q => v = q.1 ∧ zOff pPt z q.2)) := fun {x y} e => ok_so (ok_so ⟨e, off_r⟩)
  have cmp : z.1 0 10 = z.1 94 106 := by
    rcases h with h | h
    · rw [h.1, h.2.1]
    · rw [h.1, h.2.1]
  have rnd : z.1 70 15 = z.1 94 77 := by
    obtain ⟨-, r | ⟨-, nN, v, b, r1, r2, r3, r4, r5, -⟩⟩ := hr
    · rw [r.1, r.2]
    · rw [r4, r5]
  have clk : z.1 30 14 = z.1 94 105 := by
    rcases hc with hc | ⟨-, -, nU, nL, nI, nO, nF, hc⟩
    · rw [hc.2.2.2.2.2.2.1, hc.2.2.2.2.2.2.2.1]
    · exact hc.ck.1
  have out : (a < 1 ∨ 8 < a) → zOk (q_Face_look_j28 E (kL c) a z) (fun v => zOk (q_Model_look_j19 E (kL c) a z) (fun q => v = q.1 ∧ zOff pPt z q.2)) := fun n => by
    unfold q_Face_look_j28 q_Model_look_j19
    by_cases a0 : a = 0
    · rw [if_pos a0, if_pos a0]; exact s1 h11
    rw [if_neg a0, if_neg (show ¬ a = 1 by omega), if_neg (show ¬ a = 2 by omega), if_neg (show ¬ a = 3 by omega), if_neg (show ¬ a = 4 by omega), if_neg (show ¬ a = 5 by omega), if_neg (show ¬ a = 6 by omega), if_neg (show ¬ a = 7 by omega), if_neg (show ¬ a = 8 by omega), if_neg a0, if_neg (show ¬ a = 1 by omega), if_neg (show ¬ a = 2 by omega), if_neg (show ¬ a = 3 by omega), if_neg (show ¬ a = 4 by omega), if_neg (show ¬ a = 5 by omega), if_neg (show ¬ a = 6 by omega), if_neg (show ¬ a = 7 by omega), if_neg (show ¬ a = 8 by omega)]
    by_cases a9 : a = 9
    · rw [if_pos a9, if_pos a9]; exact s1 (by rw [o5, m6])
    rw [if_neg a9, if_neg a9]
    by_cases a10 : a = 10
    · rw [if_pos a10, if_pos a10]; exact s1 (by rw [o7, m8])
    rw [if_neg a10, if_neg a10]
    by_cases a11 : a = 11
    · rw [if_pos a11, if_pos a11]; exact s1 (by rw [o8, m13])
    rw [if_neg a11, if_neg a11]
    by_cases a12 : a = 12
    · rw [if_pos a12, if_pos a12, cmp, rnd]
      by_cases x : z.1 94 106 = 0
      · rw [if_pos x, if_pos x]; exact s1 rfl
      · rw [if_neg x, if_neg x]
        by_cases y : z.1 94 77 = 0
        · rw [if_pos y, if_pos y]; exact s1 rfl
        · rw [if_neg y, if_neg y]; exact s1 rfl
    rw [if_neg a12, if_neg a12]
    by_cases a13 : a = 13
    · rw [if_pos a13, if_pos a13]; exact s1 rnd
    rw [if_neg a13, if_neg a13]
    by_cases a14 : a = 14
    · rw [if_pos a14, if_pos a14]
      obtain ⟨v, v1, v2⟩ := s_wiresHad (E := E) g h hr
      rw [v1, v2, b1_s, b1_s]; exact s1 rfl
    rw [if_neg a14, if_neg a14]
    by_cases a15 : a = 15
    · rw [if_pos a15, if_pos a15]; exact s1 clk
    rw [if_neg a15, if_neg a15]
    by_cases a16 : a = 16
    · rw [if_pos a16, if_pos a16]; exact s1 h13
    rw [if_neg a16, if_neg a16]; exact s1 rfl
  unfold q_Face_look q_Model_look
  by_cases e1 : a < 1
  · rw [if_pos e1, if_pos (show a ≤ 0 by omega)]; exact out (by omega)
  rw [if_neg e1, if_neg (show ¬ a ≤ 0 by omega)]
  by_cases e2 : 8 < a
  · rw [if_pos e2, if_pos (show 9 ≤ a by omega)]; exact out (by omega)
  rw [if_neg e2, if_neg (show ¬ 9 ≤ a by omega), cmp]
  by_cases e3 : z.1 94 106 = 0
  · rw [if_pos e3, if_pos e3]; exact s1 rfl
  rw [if_neg e3, if_neg e3]
  rcases hc with hc | ⟨-, -, nU, nL, nI, nO, nF, hc⟩
  · exact absurd hc.2.1 e3
  rcases h with h | ⟨-, -, m, nC, nN, nS, nI', nO', hp, ht, h5⟩
  · exact absurd h.2.1 e3
  unfold q_Face_lookCompiled q_Model_look_j19
  rw [if_neg (show ¬ a = 0 by omega)]
  by_cases a1 : a = 1
  · rw [if_pos a1, if_pos a1, b1_s]; exact s1 (by rw [hc.k.i, hc.r.i])
  rw [if_neg a1, if_neg a1]
  by_cases a2 : a = 2
  · rw [if_pos a2, if_pos a2, b1_s]; exact s1 (by rw [hc.k.l, hc.r.l])
  rw [if_neg a2, if_neg a2]
  by_cases a3 : a = 3
  · rw [if_pos a3, if_pos a3, b1_s]; exact s1 (by rw [hc.k.u, hc.r.u])
  rw [if_neg a3, if_neg a3]
  by_cases a4 : a = 4
  · rw [if_pos a4, if_pos a4, b1_s]; exact s1 (by rw [hc.o, hc.om])
  rw [if_neg a4, if_neg a4]
  by_cases a5 : a = 5
  · rw [if_pos a5, if_pos a5, b1_s]; exact s1 (by rw [h5.1, h5.2])
  rw [if_neg a5, if_neg a5]
  by_cases a6 : a = 6
  · rw [if_pos a6, if_pos a6, b1_s]; exact s1 (by rw [hp.n.cn, hp.n.cm])
  rw [if_neg a6, if_neg a6]
  by_cases a7 : a = 7
  · rw [if_pos a7, if_pos a7, b1_s]; exact s1 (by rw [hp.n.n, hp.n.nm])
  rw [if_neg a7, if_neg a7, if_pos (show a = 8 by omega), b1_s]
  refine ok_so ?_
  refine ok_b2 _ (s_lenM g hp.n hp.k ht) fun v s ⟨e1, o⟩ => ok_so ⟨?_, o⟩
  rw [hp.l]; exact e1.symm
end
