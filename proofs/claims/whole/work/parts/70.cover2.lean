set_option linter.unusedVariables false
-- J7
section
variable {E : gEv} {c : gCf}
section
variable {z : gZ} {T : Nat → Int} {n : Nat}
theorem cov_s {T : Nat → Int} {f K x : Nat} : cov T f (K + 1) x ↔ (cov T f K x ∧ (T (f + K) = 45 ∨ T (f + K) = 48 + (if x.testBit K then 1 else 0))) := by
  constructor
  · intro h
    exact ⟨fun i hi => h i (by omega), h K (by omega)⟩
  · rintro ⟨h1, h2⟩ i hi
    by_cases y : i = K
    · subst y; exact h2
    · exact h1 i (by omega)
/-- the reference: does a line cover x? -/
theorem s_covI {f K x : Nat} {l1 : Int} (hn : n ≤ 4000) (hK : K ≤ 8) (hx : x < 256) (h0 : z.1 97 0 = f) (hf : f + K ≤ n) (hT : ∀ j, j < n → z.1 96 j = T j) (hs : ∀ i, i < K → sgn T (f + i)) : gIter (fun y => q_Model_coverLine_292 E (kL c) l1 (K : Int) (x : Int) y.1 y.2 z) gN (1, 0) = some (dI (cov T f K x)) := by
  refine it_acc (fun (i : Nat) (s : Int) => (s, (i : Int))) (fun i => dI (cov T f i x)) 0 K ?_ (by omega) (by omega) (fun i _ hi => ?_) ?_
  · show ((1 : Int), (0 : Int)) = (dI (cov T f 0 x), ((0 : Nat) : Int))
    rw [dI_t (P := cov T f 0 x) fun i hi => by omega]; rfl
  · show q_Model_coverLine_292 E (kL c) l1 (K : Int) (x : Int) (dI (cov T f i x)) (i : Int) z = some (.inl (dI (cov T f (i + 1) x), ((i + 1 : Nat) : Int)))
    have hb := zBit_atS (x : Int) i (by omega)
    rw [zB_n x i (by omega)] at hb
    have hg := hs i hi
    unfold q_Model_coverLine_292
    rw [if_neg (by omega), kL_97, if_pos (by omega), h0, kL_96, if_pos (by omega), let_s, show ((f : Int) + (i : Int)).toNat = f + i by omega, hT _ (by omega)]
    by_cases y : cov T f i x
    · rw [dI_t y, if_neg (by decide)]
      by_cases u : T (f + i) = 45
      · rw [if_pos u, let_s, dI_t (cov_s.2 ⟨y, Or.inl u⟩)]; rfl
      · rw [if_neg u, if_pos (by unfold sgn at hg; omega), hb]
        by_cases w : T (f + i) - 48 = if x.testBit i = true then 1 else 0
        · rw [if_pos w, let_s, dI_t (cov_s.2 ⟨y, Or.inr (by omega)⟩)]; rfl
        · rw [if_neg w, let_s, dI_f]
          · rfl
          · intro q
            rcases (cov_s.1 q).2 with r | r
            · exact u r
            · exact w (by omega)
    · rw [dI_f y, if_pos rfl, let_s, dI_f fun q => y (cov_s.1 q).1]; rfl
  · show q_Model_coverLine_292 E (kL c) l1 (K : Int) (x : Int) (dI (cov T f K x)) (K : Int) z = _
    unfold q_Model_coverLine_292
    rw [if_pos (by omega)]
/-- the reference's row of a gate with a line more -/
theorem s_covM {f K g : Nat} (hn : n ≤ 4000) (hg : g < 150) (hK : K ≤ 8) (h0 : z.1 97 0 = f) (hf : f + K ≤ n) (hT : ∀ j, j < n → z.1 96 j = T j) (hs : ∀ i, i < K → sgn T (f + i)) (hb : ∀ x, x < 256 → b01 (z.1 114 (256 * g + x))) : zOk (gIter (fun y => q_Model_coverLine_278 E (kL c) (g : Int) (K : Int) y.1 y.2) gN (0, z)) (fun s => zOff (fun k j => k = 114 ∧ 256 * g ≤ j ∧ j < 256 * g + 256) z s ∧ ∀ x, x < 256 → b01 (s.1 114 (256 * g + x)) ∧ (s.1 114 (256 * g + x) = 1 ↔ (z.1 114 (256 * g + x) = 1 ∨ (x < 2 ^ K ∧ cov T f K x)))) := by
  have h2 : 2 ^ K ≤ 2 ^ 8 := Nat.pow_le_pow_right (by omega) hK
  have h3 : (2 : Nat) ^ 8 = 256 := by decide
  have hsh := zShl_n 1 K (by omega) (by omega)
  rw [show ((1 : Nat) : Int) = 1 from rfl, Nat.one_mul] at hsh
  have b0 : zBool 0 = 0 := zBool_n 0 (Or.inl rfl)
  have b1 : zBool 1 = 1 := zBool_n 1 (Or.inr rfl)
  refine it_for (fun (i : Nat) (t : gZ) => ((i : Int), t)) (fun i t => zOff (fun k j => k = 114 ∧ 256 * g ≤ j ∧ j < 256 * g + 256) z t ∧ ∀ x, x < 256 → b01 (t.1 114 (256 * g + x)) ∧ (t.1 114 (256 * g + x) = 1 ↔ (z.1 114 (256 * g + x) = 1 ∨ (x < i ∧ cov T f K x)))) 0 (2 ^ K) rfl ⟨off_r, fun x hx => ⟨hb x hx, ⟨Or.inl, fun q => q.elim id fun r => by omega⟩⟩⟩ (Nat.zero_le _) (by omega) ?_ ?_
  · rintro i t - hi ⟨o, ht⟩
    show zOk (q_Model_coverLine_278 E (kL c) (g : Int) (K : Int) (i : Int) t) _
    have t0 : t.1 97 0 = f := by rw [o.2 97 0 (by omega)]; exact h0
    have tT : ∀ j, j < n → t.1 96 j = T j := fun j hj => by rw [o.2 96 j (by omega)]; exact hT j hj
    obtain ⟨hi1, hi2⟩ := ht i (by omega)
    have key : ∀ v : Int, b01 v → (v = 1 ↔ (t.1 114 (256 * g + i) = 1 ∨ cov T f K i)) → zOk (q_Model_coverLine_j392_278 E (kL c) (g : Int) (K : Int) (i : Int) ((256 * g + i : Nat) : Int) v t) (fun r => (∃ t', r = .inl (((i + 1 : Nat) : Int), t') ∧ zOff (fun k j => k = 114 ∧ 256 * g ≤ j ∧ j < 256 * g + 256) z t' ∧ ∀ x, x < 256 → b01 (t'.1 114 (256 * g + x)) ∧ (t'.1 114 (256 * g + x) = 1 ↔ (z.1 114 (256 * g + x) = 1 ∨ (x < i + 1 ∧ cov T f K x)))) ∨ ∃ e, r = .inr e ∧ zOff (fun k j => k = 114 ∧ 256 * g ≤ j ∧ j < 256 * g + 256) z e ∧ ∀ x, x < 256 → b01 (e.1 114 (256 * g + x)) ∧ (e.1 114 (256 * g + x) = 1 ↔ (z.1 114 (256 * g + x) = 1 ∨ (x < 2 ^ K ∧ cov T f K x)))) := fun v hv hv1 => by
      have ev : zBool v = v := zBool_n v hv
      unfold q_Model_coverLine_j392_278
      rw [kL_114, if_pos (by omega), ok_l, if_pos (by omega), ok_l, gtN, ev]
      refine ok_inl (Or.inl ⟨_, rfl, off_t o (off_put (by omega)), fun x hx => ?_⟩)
      show b01 (if 256 * g + x = 256 * g + i then v else t.1 114 (256 * g + x)) ∧ ((if 256 * g + x = 256 * g + i then v else t.1 114 (256 * g + x)) = 1 ↔ _)
      by_cases y : x = i
      · subst y
        rw [if_pos rfl]
        refine ⟨hv, hv1.trans ?_⟩
        rw [hi2]
        constructor
        · rintro ((q | q) | q)
          · exact Or.inl q
          · omega
          · exact Or.inr ⟨by omega, q⟩
        · rintro (q | q)
          · exact Or.inl (Or.inl q)
          · exact Or.inr q.2
      · rw [if_neg (by omega)]
        refine ⟨(ht x hx).1, (ht x hx).2.trans ?_⟩
        constructor
        · rintro (q | q)
          · exact Or.inl q
          · exact Or.inr ⟨by omega, q.2⟩
        · rintro (q | q)
          · exact Or.inl q
          · exact Or.inr ⟨by omega, q.2⟩
    unfold q_Model_coverLine_278
    rw [hsh, if_neg (by omega), s_covI hn hK (by omega) t0 hf tT hs, b1_s, kL_114, show (256 * (g : Int) + (i : Int)) = ((256 * g + i : Nat) : Int) by omega, if_pos (by omega), gtN]
    by_cases u : t.1 114 (256 * g + i) = 0
    · rw [if_pos u]
      by_cases w : cov T f K i
      · rw [dI_t w, if_neg (by decide)]
        exact key 1 (Or.inr rfl) ⟨fun _ => Or.inr w, fun _ => rfl⟩
      · rw [dI_f w, if_pos rfl]
        exact key 0 (Or.inl rfl) ⟨fun q => by omega, fun q => q.elim (fun r => by omega) fun r => absurd r w⟩
    · rw [if_neg u]
      exact key 1 (Or.inr rfl) ⟨fun _ => Or.inl (by unfold b01 at hi1; omega), fun _ => rfl⟩
  · rintro t ht
    show zOk (q_Model_coverLine_278 E (kL c) (g : Int) (K : Int) ((2 ^ K : Nat) : Int) t) _
    unfold q_Model_coverLine_278
    rw [hsh, if_pos (by omega)]
    exact ok_inr ⟨t, rfl, ht⟩
/-- the reference: is a word one of signs? -/
theorem s_sigM {f s K : Nat} {l1 l2 l3 y0 : Int} (hn : n ≤ 4000) (h0 : z.1 97 0 = f) (h1 : z.1 98 0 = s) (hf : f + s ≤ n) (hT : ∀ j, j < n → z.1 96 j = T j) (hy : y0 = dI (s = K)) : gIter (fun y => q_Model_coverLine_48 E (kL c) l1 l2 l3 y.1 y.2 z) gN (y0, 0) = some (dI (s = K ∧ ∀ j, j < K → sgn T (f + j))) := by
  have F : gIter (fun y => q_Model_coverLine_48 E (kL c) l1 l2 l3 y.1 y.2 z) gN (y0, 0) = some (dI (s = K ∧ ∀ j, j < s → sgn T (f + j))) := by
    refine it_acc (fun (i : Nat) (v : Int) => (v, (i : Int))) (fun i => dI (s = K ∧ ∀ j, j < i → sgn T (f + j))) 0 s ?_ (by omega) (by omega) (fun i _ hi => ?_) ?_
    · show (y0, (0 : Int)) = (dI (s = K ∧ ∀ j, j < 0 → sgn T (f + j)), ((0 : Nat) : Int))
      rw [hy]
      by_cases x : s = K
      · rw [dI_t x, dI_t ⟨x, fun j hj => by omega⟩]; rfl
      · rw [dI_f x, dI_f fun q => x q.1]; rfl
    · show q_Model_coverLine_48 E (kL c) l1 l2 l3 (dI (s = K ∧ ∀ j, j < i → sgn T (f + j))) (i : Int) z = some (.inl (dI (s = K ∧ ∀ j, j < i + 1 → sgn T (f + j)), ((i + 1 : Nat) : Int)))
      unfold q_Model_coverLine_48
      rw [kL_98, if_pos (by omega), h1, if_neg (by omega), kL_97, if_pos (by omega), h0, kL_96, if_pos (by omega), let_s, show ((f : Int) + (i : Int)).toNat = f + i by omega, hT _ (by omega)]
      by_cases x : s = K ∧ ∀ j, j < i → sgn T (f + j)
      · rw [dI_t x, if_neg (by decide)]
        have up : sgn T (f + i) → s = K ∧ ∀ j, j < i + 1 → sgn T (f + j) := fun q => ⟨x.1, fun j hj => by
          by_cases y : j = i
          · subst y; exact q
          · exact x.2 j (by omega)⟩
        by_cases u : T (f + i) = 48
        · rw [if_pos u, let_s, dI_t (up (Or.inl u))]; rfl
        · by_cases w : T (f + i) = 49
          · rw [if_neg u, if_pos w, let_s, dI_t (up (Or.inr (Or.inl w)))]; rfl
          · by_cases q : T (f + i) = 45
            · rw [if_neg u, if_neg w, if_pos q, let_s, dI_t (up (Or.inr (Or.inr q)))]; rfl
            · rw [if_neg u, if_neg w, if_neg q, let_s, dI_f]
              · rfl
              · intro r
                have := r.2 i (by omega)
                unfold sgn at this; omega
      · rw [dI_f x, if_pos rfl, let_s, dI_f fun q => x ⟨q.1, fun j hj => q.2 j (by omega)⟩]; rfl
    · show q_Model_coverLine_48 E (kL c) l1 l2 l3 (dI (s = K ∧ ∀ j, j < s → sgn T (f + j))) (s : Int) z = _
      unfold q_Model_coverLine_48
      rw [kL_98, if_pos (by omega), h1, if_pos (by omega)]
  rw [F]
  by_cases x : s = K
  · subst x; rfl
  · rw [dI_f fun q => x q.1, dI_f fun q => x q.1]
theorem s_agree {g : Nat} {d : Int} (hg : g < 150) : (z.1 18 g ≠ -1 ∧ z.1 18 g ≠ d ∧ q_Gates_agree E (kL c) (g : Int) d z = some (0, z)) ∨ ((z.1 18 g = -1 ∨ z.1 18 g = d) ∧ ∃ s, q_Gates_agree E (kL c) (g : Int) d z = some (1, s) ∧ s.1 18 g = d ∧ zOff (fun k j => k = 18 ∧ j = g) z s) := by
  unfold q_Gates_agree
  rw [kL_18, if_pos (by omega), gtN]
  by_cases x : z.1 18 g = -1
  · refine Or.inr ⟨Or.inl x, zPut z 18 g d, ?_, zp_eq _ _ _ _, off_put ⟨rfl, rfl⟩⟩
    rw [if_pos x, let_s]
    unfold q_Gates_agree_j17
    rw [kL_18, if_pos (by omega), gtN, zp_eq, if_pos rfl]
  · rw [if_neg x]
    unfold q_Gates_agree_j17
    rw [kL_18, if_pos (by omega), gtN]
    by_cases y : z.1 18 g = d
    · exact Or.inr ⟨Or.inr y, z, by rw [if_pos y], y, off_r⟩
    · exact Or.inl ⟨x, y, by rw [if_neg y]⟩
end
section
variable {G : Prop} {T : Nat → Int} {n p m : Nat} {W S : Nat → Nat} {e q nm nI nO nL nG : Nat} {a b : gZ}
/-- the last gate's rows change -/
theorem RR_cov {g : Nat} {a' b' : gZ} (R : RR c True T n q nm nI nO nL nG a b) (hg : nG = g + 1) (g15 : nG ≤ 150)
    (ha : ∀ k j, rA k j → ¬ (k = 18 ∧ j = g) → ¬ (k = 19 ∧ 8 * g ≤ j ∧ j < 8 * g + 8) → a'.1 k j = a.1 k j)
    (hb : ∀ k j, rB k j → ¬ (k = 113 ∧ j = g) → ¬ (k = 114 ∧ 256 * g ≤ j ∧ j < 256 * g + 256) → b'.1 k j = b.1 k j)
    (h18 : a'.1 18 g = b'.1 113 g) (h01 : b01 (a'.1 18 g))
    (hc : ∀ x, x < 256 → b01 (b'.1 114 (256 * g + x)) ∧ zBit (a'.1 19 (8 * g + x / 32)) (x % 32) = decide (b'.1 114 (256 * g + x) = 1))
    (hr : ∀ x, x < 8 → -2147483648 ≤ a'.1 19 (8 * g + x) ∧ a'.1 19 (8 * g + x) < 2147483648) : RR c True T n q nm nI nO nL nG a' b' := by
  obtain ⟨h1, h2, h3, h4, h5, h6, h7, h8, h9, h10, h11, h12, h13, h14, h15, h16, h17, h18', h19, h20, h21, h22, h23, h24⟩ := R
  have r : ∀ k j, (k = 22 ∧ 10 ≤ j ∧ j ≤ 15) ∨ (k = 13 ∧ j = 8) ∨ (14 ≤ k ∧ k ≤ 17) ∨ (23 ≤ k ∧ k ≤ 27) ∨ k = 29 → a'.1 k j = a.1 k j := fun k j hk => ha k j (by unfold rA; omega) (by omega) (by omega)
  have s : ∀ k j, (k = 94 ∧ (j = 17 ∨ j = 18 ∨ j = 23 ∨ (29 ≤ j ∧ j ≤ 32))) ∨ (99 ≤ k ∧ k ≤ 112) → b'.1 k j = b.1 k j := fun k j hk => hb k j (by unfold rB; omega) (by omega) (by omega)
  have r' : ∀ k, (14 ≤ k ∧ k ≤ 17) ∨ (23 ≤ k ∧ k ≤ 27) ∨ k = 29 → a'.1 k = a.1 k := fun k hk => funext fun j => r k j (by omega)
  have s' : ∀ k, (99 ≤ k ∧ k ≤ 112) → b'.1 k = b.1 k := fun k hk => funext fun j => s k j (by omega)
  refine ⟨by rw [r 22 10 (by omega)]; exact h1, by rw [s 94 23 (by omega)]; exact h2, h3, by rw [r' 23 (by omega), r' 24 (by omega), s' 99 (by omega), s' 100 (by omega)]; exact h4, by rw [s' 99 (by omega)]; exact h5, by rw [r' 25 (by omega), s' 101 (by omega), s' 102 (by omega), s' 103 (by omega), s' 99 (by omega), s' 112 (by omega)]; exact h6, by rw [r' 25 (by omega)]; exact h7, by rw [s' 101 (by omega)]; exact h8, by rw [r 22 11 (by omega)]; exact h9, by rw [s 94 29 (by omega)]; exact h10, by rw [r 22 12 (by omega)]; exact h11, by rw [s 94 30 (by omega)]; exact h12, h13, by rw [r 22 13 (by omega)]; exact h14, by rw [s 94 31 (by omega)]; exact h15, by rw [r 13 8 (by omega)]; exact h16, by rw [s 94 32 (by omega)]; exact h17, by rw [r' 29 (by omega), s' 105 (by omega)]; exact h18', by rw [r' 26 (by omega), r' 27 (by omega), s' 106 (by omega), s' 108 (by omega)]; exact h19, fun g' hg' _ => ?_, fun g' g1 g2 => ?_, by rw [r 22 14 (by omega)]; exact h22, by rw [s 94 17 (by omega)]; exact h23, by rw [r 22 15 (by omega), s 94 18 (by omega)]; exact h24⟩
  · obtain ⟨m, v, v1, v2, v3, v4, v5, v6, v7, v8, v9, v10, v11, v12, v13, v14⟩ := h20 g' hg' trivial
    rw [r' 14 (by omega), r' 15 (by omega), r' 16 (by omega), r' 17 (by omega), s' 101 (by omega), s' 102 (by omega), s' 109 (by omega), s' 110 (by omega), s' 111 (by omega), s' 112 (by omega)]
    by_cases x : g' = g
    · subst x
      exact ⟨m, v, v1, v2, v3, v4, v5, v6, v7, v8, v9, h18, Or.inr h01, v12, hc, hr⟩
    · refine ⟨m, v, v1, v2, v3, v4, v5, v6, v7, v8, v9, ?_, ?_, v12, fun y hy => ?_, fun y hy => ?_⟩
      · rw [ha 18 g' (by unfold rA; omega) (by omega) (by omega), hb 113 g' (by unfold rB; omega) (by omega) (by omega)]; exact v10
      · rw [ha 18 g' (by unfold rA; omega) (by omega) (by omega)]; exact v11
      · rw [ha 19 _ (by unfold rA; omega) (by omega) (by omega), hb 114 _ (by unfold rB; omega) (by omega) (by omega)]; exact v13 y hy
      · rw [ha 19 _ (by unfold rA; omega) (by omega) (by omega)]; exact v14 y hy
  · refine ⟨?_, fun x hx => ?_⟩
    · rw [ha 18 g' (by unfold rA; omega) (by omega) (by omega)]; exact (h21 g' g1 g2).1
    · rw [ha 19 _ (by unfold rA; omega) (by omega) (by omega)]; exact (h21 g' g1 g2).2 x hx
end
end
