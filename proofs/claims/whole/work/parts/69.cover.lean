set_option linter.unusedVariables false
-- J6
section
variable {E : gEv} {c : gCf}
/-- a sign of a cover -/
def sgn (T : Nat → Int) (i : Nat) : Prop := T i = 48 ∨ T i = 49 ∨ T i = 45
def mskT (T : Nat → Int) (f : Nat) (s : Int) : Nat → Nat
  | 0 => 0
  | n + 1 => if T (f + n) = s then mskT T f s n ||| 2 ^ n else mskT T f s n
theorem msk_b (T : Nat → Int) (f : Nat) (s : Int) (n : Nat) : mskT T f s n < 2 ^ n := by
  induction n with
  | zero => exact Nat.one_pos
  | succ n ih =>
    unfold mskT
    have h1 : 2 ^ n < 2 ^ (n + 1) := Nat.pow_lt_pow_right (by omega) (by omega)
    by_cases x : T (f + n) = s
    · rw [if_pos x]; exact Nat.or_lt_two_pow (by omega) h1
    · rw [if_neg x]; omega
theorem msk_t (T : Nat → Int) (f : Nat) (s : Int) (n j : Nat) : (mskT T f s n).testBit j = decide (j < n ∧ T (f + j) = s) := by
  induction n with
  | zero =>
    unfold mskT
    rw [Nat.zero_testBit]
    exact (decide_eq_false (by omega)).symm
  | succ n ih =>
    unfold mskT
    by_cases x : T (f + n) = s
    · rw [if_pos x, Nat.testBit_or, ih, Nat.testBit_two_pow]
      by_cases y : j = n
      · subst y
        rw [decide_eq_true (p := j = j) rfl, Bool.or_true]
        exact (decide_eq_true ⟨by omega, x⟩).symm
      · rw [decide_eq_false (p := n = j) (by omega), Bool.or_false]
        exact decide_eq_decide.2 ⟨fun h => ⟨by omega, h.2⟩, fun h => ⟨by omega, h.2⟩⟩
    · rw [if_neg x, ih]
      refine decide_eq_decide.2 ⟨fun h => ⟨by omega, h.2⟩, fun h => ⟨?_, h.2⟩⟩
      by_cases y : j = n
      · subst y; exact absurd h.2 x
      · omega
/-- a line covers x -/
def cov (T : Nat → Int) (f K x : Nat) : Prop := ∀ i, i < K → T (f + i) = 45 ∨ T (f + i) = 48 + (if x.testBit i then 1 else 0)
theorem cov_iff {T : Nat → Int} {f K x : Nat} (h : ∀ i, i < K → sgn T (f + i)) : (x &&& (mskT T f 49 K ||| mskT T f 48 K) = mskT T f 49 K) ↔ cov T f K x := by
  constructor
  · intro e i hi
    have e := congrArg (fun y => Nat.testBit y i) e
    have e : (x &&& (mskT T f 49 K ||| mskT T f 48 K)).testBit i = (mskT T f 49 K).testBit i := e
    rw [Nat.testBit_and, Nat.testBit_or, msk_t, msk_t] at e
    rcases h i hi with y | y | y
    · rw [decide_eq_false (p := i < K ∧ T (f + i) = 49) (by omega), decide_eq_true (p := i < K ∧ T (f + i) = 48) ⟨hi, y⟩, Bool.false_or, Bool.and_true] at e
      right; rw [e, y]; rfl
    · rw [decide_eq_true (p := i < K ∧ T (f + i) = 49) ⟨hi, y⟩, Bool.true_or, Bool.and_true] at e
      right; rw [e, y]; rfl
    · exact Or.inl y
  · intro e
    apply Nat.eq_of_testBit_eq
    intro i
    rw [Nat.testBit_and, Nat.testBit_or, msk_t, msk_t]
    by_cases hi : i < K
    · rcases e i hi with y | y
      · rw [decide_eq_false (p := i < K ∧ T (f + i) = 49) (by omega), decide_eq_false (p := i < K ∧ T (f + i) = 48) (by omega), Bool.false_or, Bool.and_false]
      · cases g : x.testBit i
        · rw [g] at y
          have y : T (f + i) = 48 := y
          rw [decide_eq_false (p := i < K ∧ T (f + i) = 49) (by omega), Bool.false_and]
        · rw [g] at y
          have y : T (f + i) = 49 := y
          rw [decide_eq_true (p := i < K ∧ T (f + i) = 49) ⟨hi, y⟩, Bool.true_or, Bool.and_true]
    · rw [decide_eq_false (p := i < K ∧ T (f + i) = 49) (by omega), decide_eq_false (p := i < K ∧ T (f + i) = 48) (by omega), Bool.false_or, Bool.and_false]
section
variable {z : gZ} {T : Nat → Int} {n : Nat}
theorem s_signs {f t K : Nat} (hn : n ≤ 4000) (h5 : z.1 10 5 = f) (h6 : z.1 10 6 = t) (hft : f ≤ t) (ht : t ≤ n) (hT : ∀ j, j < n → z.1 11 j = T j) : q_Text_isSigns E (kL c) (K : Int) z = some (dI (t - f = K ∧ ∀ j, j < K → sgn T (f + j))) := by
  unfold q_Text_isSigns
  rw [h5, h6, if_pos (by omega)]
  by_cases e : t - f = K
  · rw [if_pos (by omega), let_s]
    have F := it_find (f := fun y => q_Text_isSigns_20 E (kL c) y z) (fun i => ¬ sgn T i) (fun _ => Sum.inl ()) f t (e := Sum.inr ()) (s := (f : Int)) rfl hft (by omega) (fun j _ hj hp => by
        show q_Text_isSigns_20 E (kL c) (j : Int) z = _
        unfold q_Text_isSigns_20
        rw [h6, if_neg (by omega), kL_11, if_pos (by omega), gtN, hT _ (by omega)]
        rcases Classical.not_not.1 hp with y | y | y
        · rw [if_pos y, let_s]
        · rw [if_neg (by omega), if_pos y, let_s]
        · rw [if_neg (by omega), if_neg (by omega), if_pos y, let_s]) (fun j _ hj hp => by
        show q_Text_isSigns_20 E (kL c) (j : Int) z = _
        unfold q_Text_isSigns_20
        unfold sgn at hp
        rw [h6, if_neg (by omega), kL_11, if_pos (by omega), gtN, hT _ (by omega), if_neg (by omega), if_neg (by omega), if_neg (by omega)]) (by
        show q_Text_isSigns_20 E (kL c) (t : Int) z = _
        unfold q_Text_isSigns_20
        rw [h6, if_pos (by omega)])
    rcases F with ⟨j, j0, j1, j2, -, j3⟩ | ⟨j1, j2⟩
    · rw [j3, b1_s, gs_l, dI_f]
      intro x
      have := x.2 (j - f) (by omega)
      rw [show f + (j - f) = j by omega] at this
      exact j2 this
    · rw [j2, b1_s, gs_r, dI_t]
      exact ⟨e, fun j hj => Classical.not_not.1 (j1 (f + j) (by omega) (by omega))⟩
  · rw [if_neg (by omega), dI_f fun x => e x.1]
theorem s_mask {f t : Nat} {v : Int} (hn : n ≤ 4000) (h5 : z.1 10 5 = f) (h6 : z.1 10 6 = t) (hft : f ≤ t) (h8 : t - f ≤ 8) (ht : t ≤ n) (hT : ∀ j, j < n → z.1 11 j = T j) : q_Text_maskOf E (kL c) v z = some ((mskT T f v (t - f) : Nat) : Int) := by
  unfold q_Text_maskOf
  have F : gIter (fun y => q_Text_maskOf_4 E (kL c) v y.1 y.2 z) gN (0, 0) = some ((mskT T f v (t - f) : Nat) : Int) := by
    refine it_acc (fun (i : Nat) (s : Nat) => ((s : Int), (i : Int))) (fun i => mskT T f v i) 0 (t - f) rfl (by omega) (by omega) (fun i _ hi => ?_) ?_
    · show q_Text_maskOf_4 E (kL c) v (mskT T f v i : Int) (i : Int) z = some (.inl ((mskT T f v (i + 1) : Nat), ((i + 1 : Nat) : Int)))
      have hb := msk_b T f v i
      have h2 : 2 ^ i ≤ 2 ^ 8 := Nat.pow_le_pow_right (by omega) (by omega)
      have h3 : (2 : Nat) ^ 8 = 256 := by decide
      unfold q_Text_maskOf_4
      rw [if_neg (by omega), h5, h6, if_pos (by omega), if_neg (by omega), kL_11, if_pos (by omega), show ((f : Int) + (i : Int)).toNat = f + i by omega, hT _ (by omega)]
      have hs := zShl_n 1 i (by omega) (by omega)
      rw [show ((1 : Nat) : Int) = 1 from rfl] at hs
      rw [show mskT T f v (i + 1) = if T (f + i) = v then mskT T f v i ||| 2 ^ i else mskT T f v i from rfl]
      by_cases x : T (f + i) = v
      · rw [if_pos x, if_pos x, let_s, let_s, hs, zOr_n _ _ (by omega) (by omega), Nat.one_mul]
        rfl
      · rw [if_neg x, if_neg x, let_s]
        rfl
    · show q_Text_maskOf_4 E (kL c) v (mskT T f v (t - f) : Int) ((t - f : Nat) : Int) z = _
      unfold q_Text_maskOf_4
      by_cases x : t - f = 8
      · rw [if_pos (by omega)]
      · rw [if_neg (by omega), h5, h6, if_pos (by omega), if_pos (by omega)]
  rw [F, b1_s]
end
/-- a bit of row 19 is set -/
theorem zb_set {w : Int} {i j : Nat} (hi : i < 32) (hj : j < 32) : zBit (zOr w (zShl 1 (i : Int))) j = (zBit w j || decide (j = i)) := by
  rw [zB_or, zB_shl _ _ _ hi, zB_1]
  by_cases x : j = i
  · subst x
    rw [decide_eq_true hj, decide_eq_true (Nat.le_refl j), decide_eq_true (show j - j = 0 by omega), decide_eq_true (p := j = j) rfl]
    rfl
  · rw [decide_eq_false x]
    by_cases y : i ≤ j
    · rw [decide_eq_false (p := j - i = 0) (by omega), Bool.and_false]
    · rw [decide_eq_false (p := i ≤ j) y, Bool.and_false, Bool.false_and]
section
variable {T : Nat → Int} {n : Nat}
noncomputable def dcd (P : Prop) : Bool := @decide P (Classical.propDecidable P)
theorem dcd_t {P : Prop} (h : P) : dcd P = true := by unfold dcd; exact @decide_eq_true P (Classical.propDecidable P) h
theorem dcd_f {P : Prop} (h : ¬ P) : dcd P = false := by unfold dcd; exact @decide_eq_false P (Classical.propDecidable P) h
/-- the class's row of a gate with a line more -/
theorem s_addLine {z : gZ} {g K f : Nat} (hg : g < 150) (hK : K ≤ 8) (h15 : z.1 15 g = K) (hs : ∀ i, i < K → sgn T (f + i)) : zOk (q_Gates_addLine E (kL c) (g : Int) ((mskT T f 49 K ||| mskT T f 48 K : Nat) : Int) (mskT T f 49 K : Nat) z) (fun s => zOff (fun k j => k = 19 ∧ 8 * g ≤ j ∧ j < 8 * g + 8) z s ∧ (∀ x, x < 256 → zBit (s.1 19 (8 * g + x / 32)) (x % 32) = (zBit (z.1 19 (8 * g + x / 32)) (x % 32) || dcd (x < 2 ^ K ∧ cov T f K x))) ∧ ∀ x, x < 8 → s.1 19 (8 * g + x) = z.1 19 (8 * g + x) ∨ (-2147483648 ≤ s.1 19 (8 * g + x) ∧ s.1 19 (8 * g + x) < 2147483648)) := by
  have h2 : 2 ^ K ≤ 2 ^ 8 := Nat.pow_le_pow_right (by omega) hK
  have h3 : (2 : Nat) ^ 8 = 256 := by decide
  have b1 := msk_b T f 49 K
  have b2 := msk_b T f 48 K
  have b3 : mskT T f 49 K ||| mskT T f 48 K < 2 ^ K := Nat.or_lt_two_pow b1 b2
  have hsh := zShl_n 1 K (by omega) (by omega)
  rw [show ((1 : Nat) : Int) = 1 from rfl, Nat.one_mul] at hsh
  unfold q_Gates_addLine
  rw [kL_15, if_pos (by omega), ok_l, gtN, h15, hsh]
  refine ok_b1 _ (it_for (fun (i : Nat) (t : gZ) => ((i : Int), t)) (fun i t => zOff (fun k j => k = 19 ∧ 8 * g ≤ j ∧ j < 8 * g + 8) z t ∧ (∀ x, x < 256 → zBit (t.1 19 (8 * g + x / 32)) (x % 32) = (zBit (z.1 19 (8 * g + x / 32)) (x % 32) || dcd (x < i ∧ cov T f K x))) ∧ ∀ x, x < 8 → t.1 19 (8 * g + x) = z.1 19 (8 * g + x) ∨ (-2147483648 ≤ t.1 19 (8 * g + x) ∧ t.1 19 (8 * g + x) < 2147483648)) 0 (2 ^ K) (Q := fun s => zOff (fun k j => k = 19 ∧ 8 * g ≤ j ∧ j < 8 * g + 8) z s ∧ (∀ x, x < 256 → zBit (s.1 19 (8 * g + x / 32)) (x % 32) = (zBit (z.1 19 (8 * g + x / 32)) (x % 32) || dcd (x < 2 ^ K ∧ cov T f K x))) ∧ ∀ x, x < 8 → s.1 19 (8 * g + x) = z.1 19 (8 * g + x) ∨ (-2147483648 ≤ s.1 19 (8 * g + x) ∧ s.1 19 (8 * g + x) < 2147483648)) rfl ⟨off_r, fun x hx => by rw [dcd_f (by omega), Bool.or_false], fun x hx => Or.inl rfl⟩ (by omega) (by omega) ?_ ?_) fun s hs => ok_so hs
  · rintro i t - hi ⟨o, ht, hr⟩
    show zOk (q_Gates_addLine_13 E (kL c) (g : Int) ((mskT T f 49 K ||| mskT T f 48 K : Nat) : Int) (mskT T f 49 K : Nat) ((2 ^ K : Nat) : Int) (i : Int) t) _
    have zu := zUshr_n i 5 (by omega) (by omega)
    rw [show ((5 : Nat) : Int) = 5 from rfl, show (2 : Nat) ^ 5 = 32 by decide] at zu
    have za := zAnd_n i 31 (by omega) (by omega)
    rw [show ((31 : Nat) : Int) = 31 from rfl] at za
    have e31 : i &&& 31 = i % 32 := Nat.and_two_pow_sub_one_eq_mod i 5
    rw [e31] at za
    unfold q_Gates_addLine_13
    rw [if_neg (by omega), zAnd_n _ _ (by omega) (by omega), zu, za]
    refine ok_br (fun y => ?_) fun y => ?_
    · have cv : cov T f K i := (cov_iff hs).1 (by omega)
      rw [kL_19, show ((g : Int) * 8 + ((i / 32 : Nat) : Int)) = ((8 * g + i / 32 : Nat) : Int) by omega, if_pos (by omega), ok_l, ok_l, gtN]
      refine ok_inl (Or.inl ⟨_, rfl, off_t o (off_put (by omega)), fun x hx => ?_, fun x hx => ?_⟩)
      · show zBit (if 8 * g + x / 32 = 8 * g + i / 32 then zOr (t.1 19 (8 * g + i / 32)) (zShl 1 ((i % 32 : Nat) : Int)) else t.1 19 (8 * g + x / 32)) (x % 32) = _
        by_cases u : x / 32 = i / 32
        · rw [if_pos (by omega), zb_set (by omega) (by omega), ← u, ht x hx, Bool.or_assoc]
          congr 1
          by_cases w : x = i
          · subst w
            rw [dcd_f (P := x < x ∧ cov T f K x) (by omega), decide_eq_true rfl, dcd_t ⟨by omega, cv⟩]
            rfl
          · rw [decide_eq_false (by omega), Bool.or_false]
            by_cases q : x < i ∧ cov T f K x
            · rw [dcd_t q, dcd_t ⟨by omega, q.2⟩]
            · rw [dcd_f q, dcd_f fun r => q ⟨by omega, r.2⟩]
        · rw [if_neg (by omega), ht x hx]
          congr 1
          by_cases q : x < i ∧ cov T f K x
          · rw [dcd_t q, dcd_t ⟨by omega, q.2⟩]
          · rw [dcd_f q, dcd_f fun r => q ⟨by omega, r.2⟩]
      · show (if 8 * g + x = 8 * g + i / 32 then zOr (t.1 19 (8 * g + i / 32)) (zShl 1 ((i % 32 : Nat) : Int)) else t.1 19 (8 * g + x)) = _ ∨ (_ ≤ (if 8 * g + x = 8 * g + i / 32 then zOr (t.1 19 (8 * g + i / 32)) (zShl 1 ((i % 32 : Nat) : Int)) else t.1 19 (8 * g + x)) ∧ (if 8 * g + x = 8 * g + i / 32 then zOr (t.1 19 (8 * g + i / 32)) (zShl 1 ((i % 32 : Nat) : Int)) else t.1 19 (8 * g + x)) < _)
        by_cases u : x = i / 32
        · rw [if_pos (by omega)]; exact Or.inr (zOr_r _ _)
        · rw [if_neg (by omega)]; exact hr x hx
    · have cv : ¬ cov T f K i := fun q => y (by rw [(cov_iff hs).2 q])
      rw [ok_l]
      refine ok_inl (Or.inl ⟨t, rfl, o, fun x hx => ?_, hr⟩)
      rw [ht x hx]
      congr 1
      by_cases q : x < i ∧ cov T f K x
      · rw [dcd_t q, dcd_t ⟨by omega, q.2⟩]
      · rw [dcd_f q, dcd_f fun r => ?_]
        by_cases w : x = i
        · subst w; exact cv r.2
        · exact q ⟨by omega, r.2⟩
  · rintro t ht
    show zOk (q_Gates_addLine_13 E (kL c) (g : Int) ((mskT T f 49 K ||| mskT T f 48 K : Nat) : Int) (mskT T f 49 K : Nat) ((2 ^ K : Nat) : Int) ((2 ^ K : Nat) : Int) t) _
    unfold q_Gates_addLine_13
    rw [if_pos (by omega)]
    exact ok_inr ⟨t, rfl, ht⟩
end
end
