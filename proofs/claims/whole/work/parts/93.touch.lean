set_option linter.unusedVariables false
-- LH
section
variable {E : gEv} {c : gCf}
noncomputable def ntI (P l o : Nat → Int) (nU nL nO s : Nat) : Int := if 0 < snkN P l o nU nL nO (s : Int) then (nK P l o nU nL nO s : Int) else -1
/-- what an element makes, and then the sources of its pins -/
noncomputable def srcT (P l o : Nat → Int) (nU nL nO : Nat) (q : Nat → Int) (i : Nat) : Int := if i % 5 = 0 then (if q (i / 5) = -1 then ((400 + i / 5 : Nat) : Int) else 200 + q (i / 5)) else psA P l o nU nL nO nL (4 * (i / 5) + (i % 5 - 1))
noncomputable def valT (P l o : Nat → Int) (nU nL nO : Nat) (q : Nat → Int) (i : Nat) : Int := if srcT P l o nU nL nO q i = -1 then -1 else ntI P l o nU nL nO (srcT P l o nU nL nO q i).toNat
/-- element e touches net n -/
def TC (P l o : Nat → Int) (nU nL nO : Nat) (q : Nat → Int) (e n : Nat) : Prop := ∃ k, k < 5 ∧ valT P l o nU nL nO q (5 * e + k) = (n : Int)
section
variable {nU nL nI nO : Nat} {P l o : Nat → Int} {a b : gZ} {q : Nat → Int}
theorem ntI_b (hk : kOk c) (h : PkS c nU nL nI nO P l o) (s : Nat) : ntI P l o nU nL nO s = -1 ∨ ∃ n : Nat, ntI P l o nU nL nO s = n ∧ n < nK P l o nU nL nO (400 + nU) := by
  have hD := kD_b hk
  have hb := h.1
  unfold ntI
  by_cases x : 0 < snkN P l o nU nL nO (s : Int)
  · rw [if_pos x]
    have hx := (snk_src hk h x).1
    have := nK_m (P := P) (l := l) (o := o) (nU := nU) (nL := nL) (nO := nO) (i := s + 1) (j := 400 + nU) (by unfold srcO at hx; omega)
    rw [nK_s, if_pos x] at this
    exact Or.inr ⟨_, rfl, by omega⟩
  · rw [if_neg x]; exact Or.inl rfl
theorem valT_b (hk : kOk c) (h : PkS c nU nL nI nO P l o) (i : Nat) : valT P l o nU nL nO q i = -1 ∨ ∃ n : Nat, valT P l o nU nL nO q i = n ∧ n < nK P l o nU nL nO (400 + nU) := by
  unfold valT
  split
  · exact Or.inl rfl
  · exact ntI_b hk h _
theorem srcT_b (hk : kOk c) (h : PkS c nU nL nI nO P l o) (hq : ∀ e, e < eCn P l o nU nL nO nL → LtE P l o nU nL nO nL e (q e)) {i : Nat} (hi : i < 5 * eCn P l o nU nL nO nL) : srcT P l o nU nL nO q i = -1 ∨ (0 ≤ srcT P l o nU nL nO q i ∧ srcT P l o nU nL nO q i < ((400 + kP c : Nat) : Int)) := by
  have hD := kD_b hk
  have hb := h.1
  have mb := h.2.2.2.2
  unfold srcT
  by_cases x : i % 5 = 0
  · rw [if_pos x]
    rcases hq (i / 5) (by omega) with ⟨u, -⟩ | ⟨j, j1, -, j2⟩
    · rw [if_pos u]; exact Or.inr ⟨by omega, by omega⟩
    · rw [if_neg (by omega), j2]; exact Or.inr ⟨by omega, by omega⟩
  · rw [if_neg x]
    rcases psA_ok (P := P) (o := o) (nO := nO) h.2.2.1 h.2.1 nL (Nat.le_refl _) (4 * (i / 5) + (i % 5 - 1)) (by omega) with u | u
    · exact Or.inl u
    · unfold srcO at u; exact Or.inr ⟨by omega, by omega⟩
/-- what the class keeps of the nets that elements touch, below i -/
def TchI (P l o : Nat → Int) (nU nL nO : Nat) (q : Nat → Int) (n : Nat) (f : Nat → Int) : Prop := ∀ i, i < n → (f i = -1 ∨ f i = valT P l o nU nL nO q i) ∧ (valT P l o nU nL nO q i ≠ -1 → ∃ h, i - i % 5 ≤ h ∧ h ≤ i ∧ f h = valT P l o nU nL nO q i) ∧ (f i ≠ -1 → ∀ h, i - i % 5 ≤ h → h < i → f h ≠ f i)
theorem s_touch (hk : kOk c) (h : PkS c nU nL nI nO P l o) (hC : PkC c nU nL nI nO P l o a) (h55 : ∀ e, e < kP c → LtE P l o nU nL nO nL e (a.1 55 e)) (h15 : a.1 53 15 = (eCn P l o nU nL nO nL : Nat)) (h59 : ∀ s' : Nat, s' < 400 + kP c → a.1 59 s' = ntI P l o nU nL nO s') : zOk (q_Packing_setTouched E (kL c) a) (fun s => zOff (fun k j => k = 65) a s ∧ TchI P l o nU nL nO (a.1 55) (5 * eCn P l o nU nL nO nL) (s.1 65)) := by
  have hPb := kP_b hk
  have hD := kD_b hk
  have hb := h.1
  have mb := h.2.2.2.2
  unfold q_Packing_setTouched
  refine ok_b1 (fun s => zOff (fun k j => k = 65) a s ∧ TchI P l o nU nL nO (a.1 55) (5 * eCn P l o nU nL nO nL) (s.1 65)) ?_ fun s hs => ok_so hs
  refine it_for (fun (i : Nat) (t : gZ) => ((i : Int), t)) (fun i s => zOff (fun k j => k = 65) a s ∧ TchI P l o nU nL nO (a.1 55) i (s.1 65)) 0 (5 * eCn P l o nU nL nO nL) rfl ⟨off_r, fun i hi => absurd hi (Nat.not_lt_zero i)⟩ (by omega) (by omega) ?_ ?_
  · rintro i t - hi ⟨t1, t2⟩
    show zOk (q_Packing_setTouched_2 E (kL c) (i : Int) t) _
    have hCt : PkC c nU nL nI nO P l o t := PkC_c hC fun k j x => t1.2 k j (by unfold rPc at x; omega)
    have d5 := zDiv_n i 5 (by omega) (by omega)
    have r5 := zRem_n i 5 (by omega) (by omega)
    rw [show ((5 : Nat) : Int) = 5 from rfl] at d5 r5
    have q55 : ∀ e, e < kP c → LtE P l o nU nL nO nL e (t.1 55 e) := fun e he => by rw [t1.2 55 e (by omega)]; exact h55 e he
    -- the value is put there
    have j59 : ∀ v : Int, v = valT P l o nU nL nO (a.1 55) i → zOk (q_Packing_setTouched_j59_2 E (kL c) (i : Int) ((i % 5 : Nat) : Int) v t) (fun r => (∃ t', r = .inl (((i + 1 : Nat) : Int), t') ∧ zOff (fun k j => k = 65) a t' ∧ TchI P l o nU nL nO (a.1 55) (i + 1) (t'.1 65)) ∨ ∃ e, r = .inr e ∧ zOff (fun k j => k = 65) a e ∧ TchI P l o nU nL nO (a.1 55) (5 * eCn P l o nU nL nO nL) (e.1 65)) := fun v hv => by
      unfold q_Packing_setTouched_j59_2
      rw [if_pos (by omega), ok_l, show (i : Int) - ((i % 5 : Nat) : Int) = ((i - i % 5 : Nat) : Int) by omega]
      refine ok_b1 (fun r => (r = -1 ∧ (v = -1 ∨ ∃ h, i - i % 5 ≤ h ∧ h < i ∧ t.1 65 h = v)) ∨ (r = v ∧ ∀ h, i - i % 5 ≤ h → h < i → t.1 65 h ≠ v)) ?_ fun r hr => ?_
      · refine it_for (fun (h : Nat) (n : Int) => (n, (h : Int))) (fun h' r => (r = -1 ∧ (v = -1 ∨ ∃ h, i - i % 5 ≤ h ∧ h < h' ∧ t.1 65 h = v)) ∨ (r = v ∧ ∀ h, i - i % 5 ≤ h → h < h' → t.1 65 h ≠ v)) (i - i % 5) i rfl (Or.inr ⟨rfl, fun h h1 h2 => by omega⟩) (by omega) (by omega) ?_ ?_
        · rintro h' r h1 h2 hr
          show zOk (q_Packing_setTouched_66 E (kL c) (i : Int) r (h' : Int) t) _
          unfold q_Packing_setTouched_66
          rw [if_neg (by omega), kL_65, if_pos (by omega), gtN]
          refine ok_br (fun y => ?_) fun y => ?_
          · rw [ok_l]
            refine ok_inl (Or.inl ⟨-1, by rw [show ((h' + 1 : Nat) : Int) = (h' : Int) + 1 by omega], Or.inl ⟨rfl, ?_⟩⟩)
            rcases hr with ⟨u1, u2⟩ | ⟨u1, u2⟩
            · exact u2.imp id fun ⟨h, w1, w2, w3⟩ => ⟨h, w1, by omega, w3⟩
            · exact Or.inr ⟨h', h1, by omega, by rw [y, u1]⟩
          · rw [ok_l]
            refine ok_inl (Or.inl ⟨r, by rw [show ((h' + 1 : Nat) : Int) = (h' : Int) + 1 by omega], ?_⟩)
            rcases hr with ⟨u1, u2⟩ | ⟨u1, u2⟩
            · exact Or.inl ⟨u1, u2.imp id fun ⟨h, w1, w2, w3⟩ => ⟨h, w1, by omega, w3⟩⟩
            · refine Or.inr ⟨u1, fun h w1 w2 => ?_⟩
              by_cases z : h = h'
              · rw [z, ← u1]; exact y
              · exact u2 h w1 (by omega)
        · rintro r hr
          show zOk (q_Packing_setTouched_66 E (kL c) (i : Int) r (i : Int) t) _
          unfold q_Packing_setTouched_66
          rw [if_pos (by omega)]
          exact ok_inr ⟨r, rfl, hr⟩
      · rw [kL_65, if_pos (by omega), ok_l, if_pos (by omega), ok_l, gtN]
        have f : ∀ j, (zPut t 65 i r).1 65 j = if j = i then r else t.1 65 j := fun j => rfl
        refine ok_inl (Or.inl ⟨_, by rw [show ((i + 1 : Nat) : Int) = (i : Int) + 1 by omega], off_t t1 (off_put rfl), fun j hj => ?_⟩)
        by_cases y : j = i
        · subst y
          rw [f, if_pos rfl, ← hv]
          refine ⟨?_, fun w => ?_, fun w h w1 w2 => ?_⟩
          · rcases hr with ⟨u1, -⟩ | ⟨u1, -⟩
            · exact Or.inl u1
            · exact Or.inr u1
          · rcases hr with ⟨u1, u2 | ⟨h, u2, u3, u4⟩⟩ | ⟨u1, -⟩
            · exact absurd u2 w
            · exact ⟨h, u2, by omega, by rw [f, if_neg (by omega)]; exact u4⟩
            · exact ⟨j, by omega, by omega, by rw [f, if_pos rfl]; exact u1⟩
          · rw [f, if_neg (by omega)]
            rcases hr with ⟨u1, -⟩ | ⟨u1, u2⟩
            · exact absurd u1 w
            · rw [u1]; exact u2 h w1 w2
        · have ji : j < i := by omega
          obtain ⟨u1, u2, u3⟩ := t2 j ji
          rw [f, if_neg y]
          refine ⟨u1, fun w => ?_, fun w h w1 w2 => ?_⟩
          · obtain ⟨h, w1, w2, w3⟩ := u2 w
            exact ⟨h, w1, w2, by rw [f, if_neg (Nat.ne_of_lt (Nat.lt_of_le_of_lt w2 ji))]; exact w3⟩
          · rw [f, if_neg (Nat.ne_of_lt (Nat.lt_trans w2 ji))]; exact u3 w h w1 w2
    have j40 : ∀ s : Int, s = srcT P l o nU nL nO (a.1 55) i → zOk (q_Packing_setTouched_j40_2 E (kL c) (i : Int) ((i % 5 : Nat) : Int) s t) (fun r => (∃ t', r = .inl (((i + 1 : Nat) : Int), t') ∧ zOff (fun k j => k = 65) a t' ∧ TchI P l o nU nL nO (a.1 55) (i + 1) (t'.1 65)) ∨ ∃ e, r = .inr e ∧ zOff (fun k j => k = 65) a e ∧ TchI P l o nU nL nO (a.1 55) (5 * eCn P l o nU nL nO nL) (e.1 65)) := fun s hs => by
      have sb := srcT_b hk h (q := a.1 55) (fun e he => h55 e (by omega)) hi
      rw [← hs] at sb
      unfold q_Packing_setTouched_j40_2
      by_cases y : s = -1
      · rw [if_pos y]
        exact j59 _ (by unfold valT; rw [← hs, if_pos y])
      · rw [if_neg y, kL_59, if_pos (by omega), t1.2 59 _ (by omega), h59 _ (by omega)]
        exact j59 _ (by unfold valT; rw [← hs, if_neg y])
    unfold q_Packing_setTouched_2
    rw [t1.2 53 15 (by omega), h15, if_pos (by omega), if_neg (by omega), ok_l, ok_l, d5, r5]
    by_cases x : i % 5 = 0
    · rw [if_pos (by omega)]
      unfold q_Packing_madeSource
      have t55 : t.1 55 (i / 5) = a.1 55 (i / 5) := t1.2 55 _ (by omega)
      rw [kL_55, if_pos (by omega), gtN, t55]
      have sT : srcT P l o nU nL nO (a.1 55) i = if a.1 55 (i / 5) = -1 then ((400 + i / 5 : Nat) : Int) else 200 + a.1 55 (i / 5) := by unfold srcT; rw [if_pos x]
      by_cases y : a.1 55 (i / 5) = -1
      · rw [if_pos y] at sT
        rw [if_pos y, if_pos (by omega), b1_s]
        exact j40 _ (by rw [sT]; omega)
      · rw [if_neg y] at sT
        rcases h55 (i / 5) (by omega) with ⟨u, -⟩ | ⟨j, j1, -, j2⟩
        · exact absurd u y
        · rw [if_neg y, if_pos (by omega), b1_s]
          exact j40 _ sT.symm
    · rw [if_neg (by omega), if_pos (by omega), show ((i % 5 : Nat) : Int) - 1 = ((i % 5 - 1 : Nat) : Int) by omega, s_pinSrc hk h hCt q55 (by omega) (by omega), b1_s]
      exact j40 _ (by unfold srcT; rw [if_neg x])
  · rintro t ht
    show zOk (q_Packing_setTouched_2 E (kL c) ((5 * eCn P l o nU nL nO nL : Nat) : Int) t) _
    unfold q_Packing_setTouched_2
    rw [ht.1.2 53 15 (by omega), h15, if_pos (by omega), if_pos (by omega)]
    exact ok_inr ⟨t, rfl, ht⟩
theorem TchI_t {f : Nat → Int} {e n : Nat} (he : e < eCn P l o nU nL nO nL) (h : TchI P l o nU nL nO q (5 * eCn P l o nU nL nO nL) f) : TC P l o nU nL nO q e n ↔ ∃ k, k < 5 ∧ f (5 * e + k) = (n : Int) := by
  constructor
  · rintro ⟨k, k1, k2⟩
    obtain ⟨h', w1, w2, w3⟩ := (h (5 * e + k) (by omega)).2.1 (by omega)
    exact ⟨h' - 5 * e, by omega, by rw [show 5 * e + (h' - 5 * e) = h' by omega, w3, k2]⟩
  · rintro ⟨k, k1, k2⟩
    rcases (h (5 * e + k) (by omega)).1 with u | u
    · omega
    · exact ⟨k, k1, by rw [← u, k2]⟩
theorem TchI_d {f : Nat → Int} {e k k' : Nat} (he : e < eCn P l o nU nL nO nL) (h : TchI P l o nU nL nO q (5 * eCn P l o nU nL nO nL) f) (hk : k < 5) (hk' : k' < 5) (hf : f (5 * e + k) ≠ -1) (e' : f (5 * e + k) = f (5 * e + k')) : k = k' := by
  rcases Nat.lt_trichotomy k k' with u | u | u
  · exact absurd e' ((h (5 * e + k') (by omega)).2.2 (by rw [← e']; exact hf) (5 * e + k) (by omega) (by omega))
  · exact u
  · exact absurd e'.symm ((h (5 * e + k) (by omega)).2.2 hf (5 * e + k') (by omega) (by omega))
end
end
