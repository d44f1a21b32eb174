set_option linter.unusedVariables false
-- LF
section
variable {E : gEv} {c : gCf}
noncomputable def posP (P l o : Nat → Int) (nU nL nO k : Nat) : Nat := fS P l o nU nL nO (psA P l o nU nL nO nL k).toNat + cn (psA P l o nU nL nO nL) k (psA P l o nU nL nO nL k)
noncomputable def posO (P l o : Nat → Int) (nU nL nO i : Nat) : Nat := fS P l o nU nL nO (o i).toNat + (cn (psA P l o nU nL nO nL) (4 * eCn P l o nU nL nO nL) (o i) + cn o i (o i))
section
variable {nU nL nI nO : Nat} {P l o : Nat → Int} {a b : gZ}
theorem fS_i {s t r q : Nat} (hr : r < snkN P l o nU nL nO (s : Int)) (hq : q < snkN P l o nU nL nO (t : Int)) (h : fS P l o nU nL nO s + r = fS P l o nU nL nO t + q) : s = t ∧ r = q := by
  have st : ∀ s t : Nat, s < t → fS P l o nU nL nO s + snkN P l o nU nL nO (s : Int) ≤ fS P l o nU nL nO t := fun s t h => by
    have : fS P l o nU nL nO (s + 1) ≤ fS P l o nU nL nO t := sum_m h
    rw [fS_s] at this
    exact this
  rcases Nat.lt_trichotomy s t with u | u | u
  · have := st s t u; omega
  · subst u; exact ⟨rfl, by omega⟩
  · have := st t s u; omega
/-- sources of pins of elements that are no look-up tables -/
theorem psA_el : ∀ J e, nU ≤ e → e < eCn P l o nU nL nO J → ∃ j, j < J ∧ ¬ inL P l o nU nL nO j ∧ elj P l o nU nL nO j = e ∧ psA P l o nU nL nO J (4 * e) = l j ∧ ∀ p, 1 ≤ p → p < 4 → psA P l o nU nL nO J (4 * e + p) = -1 := by
  intro J
  induction J with
  | zero => intro e h1 h2; have h2 : e < nU := h2; omega
  | succ J ih =>
    intro e h1 h2
    by_cases x : inL P l o nU nL nO J
    · rw [eCn_t x] at h2
      rw [psA_t x]
      obtain ⟨j, q1, q2⟩ := ih e h1 h2
      exact ⟨j, by omega, q2⟩
    · rw [eCn_f x] at h2
      by_cases y : e = eCn P l o nU nL nO J
      · refine ⟨J, by omega, x, by rw [elj_f x, y], by rw [psA_f x, y, if_pos rfl], fun p p1 p2 => ?_⟩
        rw [psA_f x, y, if_neg (by omega), if_pos (by omega)]
      · obtain ⟨j, q1, q2, q3, q4, q5⟩ := ih e h1 (by omega)
        refine ⟨j, by omega, q2, q3, ?_, fun p p1 p2 => ?_⟩
        · rw [psA_f x, if_neg (by omega), if_neg (by omega)]; exact q4
        · rw [psA_f x, if_neg (by omega), if_neg (by omega)]; exact q5 p p1 p2
theorem psA_lo : ∀ J k, k < 4 * nU → psA P l o nU nL nO J k = P k := by
  intro J
  induction J with
  | zero => intro k hk; rfl
  | succ J ih =>
    intro k hk
    have lo := eCn_lo (P := P) (l := l) (o := o) (nU := nU) (nL := nL) (nO := nO) J
    by_cases x : inL P l o nU nL nO J
    · rw [psA_t x]; exact ih k hk
    · rw [psA_f x, if_neg (by omega), if_neg (by omega)]; exact ih k hk
/-- the class: the source of a pin -/
theorem s_pinSrc (hk : kOk c) (h : PkS c nU nL nI nO P l o) (hC : PkC c nU nL nI nO P l o a) (h55 : ∀ e, e < kP c → LtE P l o nU nL nO nL e (a.1 55 e)) {e p : Nat} (he : e < eCn P l o nU nL nO nL) (hp : p < 4) : q_Packing_pinSource E (kL c) (e : Int) (p : Int) a = some (psA P l o nU nL nO nL (4 * e + p)) := by
  have hPb := kP_b hk
  have hD := kD_b hk
  have hb := h.1
  have mb := h.2.2.2.2
  obtain ⟨h1, ⟨h2, h3, h4, h5⟩, h6, h7, h8⟩ := hC
  unfold q_Packing_pinSource
  rw [h2]
  by_cases x : e < nU
  · rw [if_neg (by omega), kL_35, show ((e : Int) * 4 + (p : Int)) = ((4 * e + p : Nat) : Int) by omega, if_pos (by omega), gtN, h6 _ (by omega), psA_lo nL _ (by omega)]
  · rw [if_pos (by omega)]
    obtain ⟨j, j1, j2, j3, j4, j5⟩ := psA_el (P := P) (l := l) (o := o) (nU := nU) (nL := nL) (nO := nO) nL e (by omega) he
    by_cases y : p = 0
    · subst y
      have lt : a.1 55 e = j := LtE_u (P := P) (o := o) (nO := nO) (nI := nI) (by omega) (by omega) h.2.2.1 (Nat.le_refl _) (h55 e (by omega)) (Or.inr ⟨j, j1, j3, rfl⟩)
      rw [if_pos (by omega), kL_55, if_pos (by omega), gtN, lt, if_neg (by omega), kL_31, if_pos (by omega), gtN, h7 j j1, Nat.add_zero, j4]
    · rw [if_neg (by omega), j5 p (by omega) hp]
/-- a sink of net s -/
theorem s_addSink (hk : kOk c) (h : PkS c nU nL nI nO P l o) {s r : Nat} {code : Int} (h59 : ∀ s' : Nat, s' < 400 + kP c → a.1 59 s' = (if 0 < snkN P l o nU nL nO (s' : Int) then (nK P l o nU nL nO s' : Int) else -1) ∧ (0 < snkN P l o nU nL nO (s' : Int) → a.1 62 (nK P l o nU nL nO s') = (fS P l o nU nL nO s' : Nat))) (h58 : a.1 58 s = (r : Int)) (hr : r < snkN P l o nU nL nO (s : Int)) : q_Packing_addSink E (kL c) (s : Int) code a = some (zPut (zPut a 63 (fS P l o nU nL nO s + r) code) 58 s ((r : Int) + 1)) := by
  have hPb := kP_b hk
  have hD := kD_b hk
  have hb := h.1
  have mb := h.2.2.2.2
  have hs : 0 < snkN P l o nU nL nO (s : Int) := by omega
  have hx := (snk_src hk h hs).1
  have sl : s < 400 + kP c := by unfold srcO at hx; omega
  have nb := nK_b hk h s
  have sb := fS_b (P := P) (l := l) (o := o) (nU := nU) (nL := nL) (nO := nO) (s + 1)
  rw [fS_s] at sb
  unfold q_Packing_addSink
  rw [kL_59, if_pos (by omega), gtN, (h59 s sl).1, if_pos hs, kL_62, if_pos (by omega), kL_58, if_pos (by omega), gtN, (h59 s sl).2 hs, h58, kL_63, show ((fS P l o nU nL nO s : Nat) : Int) + (r : Int) = ((fS P l o nU nL nO s + r : Nat) : Int) by omega, if_pos (by omega), let_s, gtN, zp_n (k' := 58) (by omega), h58, if_pos (by omega), let_s]
/-- the class's sinks -/
theorem s_sinks (hk : kOk c) (h : PkS c nU nL nI nO P l o) (hC : PkC c nU nL nI nO P l o a) (h55 : ∀ e, e < kP c → LtE P l o nU nL nO nL e (a.1 55 e)) (h15 : a.1 53 15 = (eCn P l o nU nL nO nL : Nat)) (h16 : a.1 1 6 = kP c) (h59 : ∀ s' : Nat, s' < 400 + kP c → a.1 59 s' = (if 0 < snkN P l o nU nL nO (s' : Int) then (nK P l o nU nL nO s' : Int) else -1) ∧ (0 < snkN P l o nU nL nO (s' : Int) → a.1 62 (nK P l o nU nL nO s') = (fS P l o nU nL nO s' : Nat))) : zOk (q_Packing_setSinks E (kL c) a) (fun s => zOff (fun k j => k = 58 ∨ k = 63) a s ∧ (∀ k, k < 4 * eCn P l o nU nL nO nL → psA P l o nU nL nO nL k ≠ -1 → s.1 63 (posP P l o nU nL nO k) = (k : Int)) ∧ ∀ i, i < nO → s.1 63 (posO P l o nU nL nO i) = ((4 * kP c + i : Nat) : Int)) := by
  have hPb := kP_b hk
  have hD := kD_b hk
  have hb := h.1
  have mb := h.2.2.2.2
  have pok := psA_ok (P := P) (o := o) (nO := nO) h.2.2.1 h.2.1 nL (Nat.le_refl _)
  have rk : ∀ k, k < 4 * eCn P l o nU nL nO nL → psA P l o nU nL nO nL k ≠ -1 → ∃ s : Nat, psA P l o nU nL nO nL k = s ∧ s < 400 + kP c ∧ cn (psA P l o nU nL nO nL) k (s : Int) < snkN P l o nU nL nO (s : Int) := fun k hk' hx => by
    have q := (pok k hk').elim (fun y => absurd y hx) id
    unfold srcO at q
    obtain ⟨s, hs⟩ : ∃ s : Nat, psA P l o nU nL nO nL k = s := ⟨(psA P l o nU nL nO nL k).toNat, by omega⟩
    refine ⟨s, hs, by omega, ?_⟩
    have := cn_lt (f := psA P l o nU nL nO nL) (s := (s : Int)) hk' hs
    unfold snkN; omega
  have ro : ∀ i, i < nO → ∃ s : Nat, o i = s ∧ s < 400 + kP c ∧ cn (psA P l o nU nL nO nL) (4 * eCn P l o nU nL nO nL) (s : Int) + cn o i (s : Int) < snkN P l o nU nL nO (s : Int) := fun i hi => by
    have q := h.2.2.2.1 i hi
    unfold srcO at q
    obtain ⟨s, hs⟩ : ∃ s : Nat, o i = s := ⟨(o i).toNat, by omega⟩
    refine ⟨s, hs, by omega, ?_⟩
    have := cn_lt (f := o) (s := (s : Int)) hi hs
    unfold snkN; omega
  unfold q_Packing_setSinks
  rw [s_fillI (E := E) (L := kL c) 58 0 a (by rw [kL_58]; omega), b1_s, kL_58]
  have z0 : ∀ s' : Nat, s' < 400 + kP c → (zFill a 58 (fun _ => 0) (400 + kP c)).1 58 s' = 0 := fun s' hs => by rw [zf1, if_pos rfl, if_pos hs]
  have oz : zOff (fun k j => k = 58 ∨ k = 63) a (zFill a 58 (fun _ => 0) (400 + kP c)) := off_fill fun j => Or.inl rfl
  generalize zFill a 58 (fun _ => 0) (400 + kP c) = a0 at *
  have c59 : ∀ t : gZ, zOff (fun k j => k = 58 ∨ k = 63) a t → ∀ s' : Nat, s' < 400 + kP c → t.1 59 s' = (if 0 < snkN P l o nU nL nO (s' : Int) then (nK P l o nU nL nO s' : Int) else -1) ∧ (0 < snkN P l o nU nL nO (s' : Int) → t.1 62 (nK P l o nU nL nO s') = (fS P l o nU nL nO s' : Nat)) := fun t o s' hs => by
    rw [o.2 59 s' (by omega), o.2 62 _ (by omega)]; exact h59 s' hs
  refine ok_b1 (fun t => zOff (fun k j => k = 58 ∨ k = 63) a t ∧ (∀ s' : Nat, s' < 400 + kP c → t.1 58 s' = (cn (psA P l o nU nL nO nL) (4 * eCn P l o nU nL nO nL) (s' : Int) : Nat)) ∧ ∀ k, k < 4 * eCn P l o nU nL nO nL → psA P l o nU nL nO nL k ≠ -1 → t.1 63 (posP P l o nU nL nO k) = (k : Int)) ?_ fun t ⟨t1, t2, t3⟩ => ?_
  · refine it_for (fun (i : Nat) (t : gZ) => ((i : Int), t)) (fun i t => zOff (fun k j => k = 58 ∨ k = 63) a t ∧ (∀ s' : Nat, s' < 400 + kP c → t.1 58 s' = (cn (psA P l o nU nL nO nL) i (s' : Int) : Nat)) ∧ ∀ k, k < i → psA P l o nU nL nO nL k ≠ -1 → t.1 63 (posP P l o nU nL nO k) = (k : Int)) 0 (4 * eCn P l o nU nL nO nL) rfl ⟨oz, fun s' hs => z0 s' hs, fun k hk => by omega⟩ (by omega) (by omega) ?_ ?_
    · rintro i t - hi ⟨t1, t2, t3⟩
      show zOk (q_Packing_setSinks_10 E (kL c) (i : Int) t) _
      have hCt : PkC c nU nL nI nO P l o t := PkC_c hC fun k j x => t1.2 k j (by unfold rPc at x; omega)
      have d4 := zDiv_n i 4 (by omega) (by omega)
      have r4 := zRem_n i 4 (by omega) (by omega)
      rw [show ((4 : Nat) : Int) = 4 from rfl] at d4 r4
      have ps := s_pinSrc (E := E) hk h hCt (fun e he => by rw [t1.2 55 e (by omega)]; exact h55 e he) (e := i / 4) (p := i % 4) (by omega) (by omega)
      rw [show 4 * (i / 4) + i % 4 = i by omega] at ps
      unfold q_Packing_setSinks_10
      rw [t1.2 53 15 (by omega), h15, if_pos (by omega), if_neg (by omega), d4, r4, ps, b1_s]
      by_cases x : psA P l o nU nL nO nL i = -1
      · rw [if_pos x, ok_l]
        refine ok_inl (Or.inl ⟨t, by rw [show ((i + 1 : Nat) : Int) = (i : Int) + 1 by omega], t1, fun s' hs => ?_, fun k hk' hx => ?_⟩)
        · rw [t2 s' hs, cn_s, if_neg (by omega)]; rfl
        · by_cases y : k = i
          · rw [y] at hx; exact absurd x hx
          · exact t3 k (by omega) hx
      · obtain ⟨s, s1, s2, s3⟩ := rk i hi x
        rw [if_neg x, s1, s_addSink hk h (c59 t t1) (t2 s s2) s3, b1_s, ok_l]
        have e58 : ∀ s' : Nat, (zPut (zPut t 63 (fS P l o nU nL nO s + cn (psA P l o nU nL nO nL) i (s : Int)) (i : Int)) 58 s (((cn (psA P l o nU nL nO nL) i (s : Int) : Nat) : Int) + 1)).1 58 s' = if s' = s then ((cn (psA P l o nU nL nO nL) i (s : Int) : Nat) : Int) + 1 else t.1 58 s' := fun s' => by
          rw [zp1, if_pos rfl]
          by_cases y : s' = s
          · rw [if_pos y, if_pos y]
          · rw [if_neg y, if_neg y, zp_n (by omega)]
        have pe : posP P l o nU nL nO i = fS P l o nU nL nO s + cn (psA P l o nU nL nO nL) i (s : Int) := by unfold posP; rw [s1, gtN]
        refine ok_inl (Or.inl ⟨_, by rw [show ((i + 1 : Nat) : Int) = (i : Int) + 1 by omega], off_t t1 (off_t (off_put (Or.inr rfl)) (off_put (Or.inl rfl))), fun s' hs => ?_, fun k hk' hx => ?_⟩)
        · rw [e58, cn_s, s1]
          by_cases y : s' = s
          · rw [if_pos y, if_pos (by omega), y]; omega
          · rw [if_neg y, if_neg (by omega), t2 s' hs]; rfl
        · rw [zp_n (k' := 63) (by omega), zp1, if_pos rfl]
          by_cases y : k = i
          · rw [y, pe, if_pos rfl]
          · obtain ⟨s', q1, q2, q3⟩ := rk k (by omega) hx
            have pk : posP P l o nU nL nO k = fS P l o nU nL nO s' + cn (psA P l o nU nL nO nL) k (s' : Int) := by unfold posP; rw [q1, gtN]
            rw [if_neg fun e => ?_]
            · exact t3 k (by omega) hx
            · rw [pk] at e
              obtain ⟨e1, e2⟩ := fS_i q3 s3 e
              subst e1
              have := cn_lt (f := psA P l o nU nL nO nL) (n := k) (m := i) (s := (s' : Int)) (by omega) q1
              omega
    · rintro t ht
      show zOk (q_Packing_setSinks_10 E (kL c) ((4 * eCn P l o nU nL nO nL : Nat) : Int) t) _
      unfold q_Packing_setSinks_10
      rw [ht.1.2 53 15 (by omega), h15, if_pos (by omega), if_pos (by omega)]
      exact ok_inr ⟨t, rfl, ht⟩
  · refine ok_b1 (fun u => zOff (fun k j => k = 58 ∨ k = 63) a u ∧ (∀ k, k < 4 * eCn P l o nU nL nO nL → psA P l o nU nL nO nL k ≠ -1 → u.1 63 (posP P l o nU nL nO k) = (k : Int)) ∧ ∀ i, i < nO → u.1 63 (posO P l o nU nL nO i) = ((4 * kP c + i : Nat) : Int)) ?_ fun u hu => ok_so hu
    refine it_for (fun (i : Nat) (t : gZ) => ((i : Int), t)) (fun i t => zOff (fun k j => k = 58 ∨ k = 63) a t ∧ (∀ s' : Nat, s' < 400 + kP c → t.1 58 s' = (cn (psA P l o nU nL nO nL) (4 * eCn P l o nU nL nO nL) (s' : Int) + cn o i (s' : Int) : Nat)) ∧ (∀ k, k < 4 * eCn P l o nU nL nO nL → psA P l o nU nL nO nL k ≠ -1 → t.1 63 (posP P l o nU nL nO k) = (k : Int)) ∧ ∀ i', i' < i → t.1 63 (posO P l o nU nL nO i') = ((4 * kP c + i' : Nat) : Int)) 0 nO rfl ⟨t1, fun s' hs => t2 s' hs, t3, fun i hi => by omega⟩ (by omega) (by omega) ?_ ?_
    · rintro i t - hi ⟨t1, t2, t3, t4⟩
      show zOk (q_Packing_setSinks_50 E (kL c) (i : Int) t) _
      obtain ⟨s, s1, s2, s3⟩ := ro i hi
      have e39 : t.1 39 i = o i := by rw [t1.2 39 i (by omega)]; exact hC.2.2.2.2 i hi
      unfold q_Packing_setSinks_50
      rw [t1.2 30 13 (by omega), hC.2.1.2.2.2, if_neg (by omega), kL_39, if_pos (by omega), t1.2 1 6 (by omega), h16, if_pos (by omega), gtN, e39, s1, s_addSink hk h (c59 t t1) (t2 s s2) s3, b1_s, ok_l]
      have pe : posO P l o nU nL nO i = fS P l o nU nL nO s + (cn (psA P l o nU nL nO nL) (4 * eCn P l o nU nL nO nL) (s : Int) + cn o i (s : Int)) := by unfold posO; rw [s1, gtN]
      refine ok_inl (Or.inl ⟨_, by rw [show ((i + 1 : Nat) : Int) = (i : Int) + 1 by omega], off_t t1 (off_t (off_put (Or.inr rfl)) (off_put (Or.inl rfl))), fun s' hs => ?_, fun k hk' hx => ?_, fun i' hi' => ?_⟩)
      · rw [zp1, if_pos rfl, cn_s, s1]
        by_cases y : s' = s
        · rw [if_pos y, if_pos (by omega), y]; omega
        · rw [if_neg y, if_neg (by omega), zp_n (by omega), t2 s' hs]; rfl
      · obtain ⟨s', q1, q2, q3⟩ := rk k hk' hx
        have pk : posP P l o nU nL nO k = fS P l o nU nL nO s' + cn (psA P l o nU nL nO nL) k (s' : Int) := by unfold posP; rw [q1, gtN]
        rw [zp_n (k' := 63) (by omega), zp1, if_pos rfl, if_neg fun e => ?_]
        · exact t3 k hk' hx
        · rw [pk] at e
          obtain ⟨e1, e2⟩ := fS_i q3 s3 e
          subst e1
          have := cn_lt (f := psA P l o nU nL nO nL) (n := k) (m := 4 * eCn P l o nU nL nO nL) (s := (s' : Int)) hk' q1
          omega
      · rw [zp_n (k' := 63) (by omega), zp1, if_pos rfl]
        by_cases y : i' = i
        · rw [y, pe, if_pos rfl]; omega
        · obtain ⟨s', q1, q2, q3⟩ := ro i' (by omega)
          have pk : posO P l o nU nL nO i' = fS P l o nU nL nO s' + (cn (psA P l o nU nL nO nL) (4 * eCn P l o nU nL nO nL) (s' : Int) + cn o i' (s' : Int)) := by unfold posO; rw [q1, gtN]
          rw [if_neg fun e => ?_]
          · exact t4 i' (by omega)
          · rw [pk] at e
            obtain ⟨e1, e2⟩ := fS_i q3 s3 e
            subst e1
            have := cn_lt (f := o) (n := i') (m := i) (s := (s' : Int)) (by omega) q1
            omega
    · rintro t ⟨t1, t2, t3, t4⟩
      show zOk (q_Packing_setSinks_50 E (kL c) (nO : Int) t) _
      unfold q_Packing_setSinks_50
      rw [t1.2 30 13 (by omega), hC.2.1.2.2.2, if_pos (by omega)]
      exact ok_inr ⟨t, rfl, t1, t3, t4⟩
end
end
