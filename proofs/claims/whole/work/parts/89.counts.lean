set_option linter.unusedVariables false
-- LD
section
theorem cn_c {f g : Nat → Int} {n : Nat} {s : Int} (h : ∀ i, i < n → f i = g i) : cn f n s = cn g n s := by
  unfold cn
  exact cnb_c fun i hi => by show decide (f i = s) = decide (g i = s); rw [h i hi]
theorem cn_pos {f : Nat → Int} {n : Nat} {s : Int} (h : 0 < cn f n s) : ∃ i, i < n ∧ f i = s := by
  obtain ⟨i, i1, i2⟩ := cnb_ex h
  exact ⟨i, i1, of_decide_eq_true i2⟩
theorem cn_ge {f : Nat → Int} {n i : Nat} {s : Int} (hi : i < n) (h : f i = s) : 0 < cn f n s := cnb_pos hi (decide_eq_true h)
theorem cn_mono {f : Nat → Int} {n m : Nat} {s : Int} (h : n ≤ m) : cn f n s ≤ cn f m s := by
  obtain ⟨d, rfl⟩ : ∃ d, m = n + d := ⟨m - n, by omega⟩
  induction d with
  | zero => exact Nat.le_refl _
  | succ d ih =>
    have := ih (by omega)
    rw [← Nat.add_assoc, cn_s]
    omega
theorem cn_lt {f : Nat → Int} {n m : Nat} {s : Int} (h : n < m) (hf : f n = s) : cn f n s < cn f m s := by
  have h1 : cn f (n + 1) s ≤ cn f m s := cn_mono h
  rw [cn_s, if_pos hf] at h1
  omega
theorem cnb_one {p : Nat → Bool} {N : Nat} (h : ∀ s t, s < N → t < N → p s = true → p t = true → s = t) : cnb p N ≤ 1 := by
  induction N with
  | zero => exact Nat.zero_le _
  | succ N ih =>
    rw [cnb]
    cases g : p N
    · have := ih fun s t hs ht => h s t (by omega) (by omega)
      simp only [Bool.false_eq_true, if_false]
      omega
    · have : cnb p N = 0 := cnb_0 fun i hi => by
        cases q : p i
        · rfl
        · have := h i N (by omega) (by omega) q g; omega
      rw [this]; exact Nat.le_refl _
/-- no more than there are codes -/
theorem cnb_pg : ∀ (m : Nat) {p : Nat → Bool} {N : Nat} (f : Nat → Nat), (∀ s, s < N → p s = true → f s < m) → (∀ s t, s < N → t < N → p s = true → p t = true → f s = f t → s = t) → cnb p N ≤ m := by
  intro m
  induction m with
  | zero =>
    intro p N f h1 h2
    rw [cnb_0 fun i hi => by
      cases q : p i
      · rfl
      · have := h1 i hi q; omega]
    exact Nat.le_refl _
  | succ m ih =>
    intro p N f h1 h2
    have a := ih (p := fun s => p s && decide (f s ≠ m)) (N := N) f (fun s hs hp => by
      have hp : (p s && decide (f s ≠ m)) = true := hp
      rw [Bool.and_eq_true] at hp
      have := h1 s hs hp.1
      have := of_decide_eq_true hp.2
      omega) (fun s t hs ht hp hq e => by
      have hp : (p s && decide (f s ≠ m)) = true := hp
      have hq : (p t && decide (f t ≠ m)) = true := hq
      rw [Bool.and_eq_true] at hp hq
      exact h2 s t hs ht hp.1 hq.1 e)
    have b : cnb (fun s => p s && decide (f s = m)) N ≤ 1 := cnb_one fun s t hs ht hp hq => by
      have hp : (p s && decide (f s = m)) = true := hp
      have hq : (p t && decide (f t = m)) = true := hq
      rw [Bool.and_eq_true] at hp hq
      exact h2 s t hs ht hp.1 hq.1 (by rw [of_decide_eq_true hp.2, of_decide_eq_true hq.2])
    have d := cnb_or (p := fun s => p s && decide (f s ≠ m)) (q := fun s => p s && decide (f s = m)) (r := p) (n := N) fun i hi hp => by
      by_cases x : f i = m
      · right; show (p i && decide (f i = m)) = true; rw [hp, decide_eq_true x]; rfl
      · left; show (p i && decide (f i ≠ m)) = true; rw [hp, decide_eq_true x]; rfl
    omega
def sumN (g : Nat → Nat) : Nat → Nat
  | 0 => 0
  | n + 1 => sumN g n + g n
theorem sum_c {g h : Nat → Nat} {n : Nat} (e : ∀ i, i < n → g i = h i) : sumN g n = sumN h n := by
  induction n with
  | zero => rfl
  | succ n ih => rw [sumN, sumN, ih fun i hi => e i (by omega), e n (by omega)]
theorem sum_a (g h : Nat → Nat) (n : Nat) : sumN (fun s => g s + h s) n = sumN g n + sumN h n := by
  induction n with
  | zero => rfl
  | succ n ih => rw [sumN, sumN, sumN, ih]; omega
theorem sum_m {g : Nat → Nat} {i j : Nat} (h : i ≤ j) : sumN g i ≤ sumN g j := by
  obtain ⟨d, rfl⟩ : ∃ d, j = i + d := ⟨j - i, by omega⟩
  induction d with
  | zero => exact Nat.le_refl _
  | succ d ih =>
    have := ih (by omega)
    rw [← Nat.add_assoc, sumN]; omega
theorem sum_1 (v : Int) (N : Nat) : sumN (fun s => if v = (s : Int) then 1 else 0) N ≤ 1 ∧ ((N : Int) ≤ v ∨ v < 0 → sumN (fun s => if v = (s : Int) then 1 else 0) N = 0) := by
  induction N with
  | zero => exact ⟨Nat.zero_le _, fun _ => rfl⟩
  | succ N ih =>
    rw [sumN]
    by_cases x : v = (N : Int)
    · rw [ih.2 (by omega), if_pos x]
      exact ⟨by omega, fun y => by omega⟩
    · rw [if_neg x]
      exact ⟨by omega, fun y => by rw [ih.2 (by omega)]⟩
theorem sum_cn (f : Nat → Int) (n N : Nat) : sumN (fun s => cn f n (s : Int)) N ≤ n := by
  induction n with
  | zero =>
    have : ∀ N, sumN (fun s => cn f 0 (s : Int)) N = 0 := fun N => by
      induction N with
      | zero => rfl
      | succ N ih => rw [sumN, ih]; rfl
    rw [this]; exact Nat.le_refl _
  | succ n ih =>
    have e : sumN (fun s => cn f (n + 1) (s : Int)) N = sumN (fun s => cn f n (s : Int) + if f n = (s : Int) then 1 else 0) N := sum_c fun i hi => cn_s f n (i : Int)
    rw [e, sum_a]
    have := (sum_1 (f n) N).1
    omega
section
variable {nU nL nI nO : Nat} {P l o : Nat → Int}
/-- how many sinks a source has -/
noncomputable def snkN (P l o : Nat → Int) (nU nL nO : Nat) (s : Int) : Nat := cn (psA P l o nU nL nO nL) (4 * eCn P l o nU nL nO nL) s + cn o nO s
theorem psA_cn {s : Int} (hs : s ≠ -1) (j : Nat) : cn (psA P l o nU nL nO j) (4 * eCn P l o nU nL nO j) s = cn P (4 * nU) s + cnb (fun i => decide (l i = s) && !dcd (inL P l o nU nL nO i)) j := by
  induction j with
  | zero => rfl
  | succ j ih =>
    rw [cnb]
    by_cases x : inL P l o nU nL nO j
    · rw [psA_t x, eCn_t x, ih, dcd_t x, Bool.not_true, Bool.and_false]
      rfl
    · rw [eCn_f x, show 4 * (eCn P l o nU nL nO j + 1) = 4 * eCn P l o nU nL nO j + 1 + 1 + 1 + 1 by omega, cn_s, cn_s, cn_s, cn_s]
      have e0 : psA P l o nU nL nO (j + 1) (4 * eCn P l o nU nL nO j) = l j := by rw [psA_f x, if_pos rfl]
      have e1 : psA P l o nU nL nO (j + 1) (4 * eCn P l o nU nL nO j + 1) = -1 := by rw [psA_f x, if_neg (by omega), if_pos (by omega)]
      have e2 : psA P l o nU nL nO (j + 1) (4 * eCn P l o nU nL nO j + 1 + 1) = -1 := by rw [psA_f x, if_neg (by omega), if_pos (by omega)]
      have e3 : psA P l o nU nL nO (j + 1) (4 * eCn P l o nU nL nO j + 1 + 1 + 1) = -1 := by rw [psA_f x, if_neg (by omega), if_pos (by omega)]
      have ec : cn (psA P l o nU nL nO (j + 1)) (4 * eCn P l o nU nL nO j) s = cn (psA P l o nU nL nO j) (4 * eCn P l o nU nL nO j) s := cn_c fun i hi => by rw [psA_f x, if_neg (by omega), if_neg (by omega)]
      have hs' : ¬ ((-1 : Int) = s) := fun q => hs q.symm
      rw [e0, e1, e2, e3, ec, ih, dcd_f x, Bool.not_false, Bool.and_true, if_neg hs']
      by_cases y : l j = s
      · rw [if_pos y, decide_eq_true y, if_pos rfl]; omega
      · rw [if_neg y, decide_eq_false y, if_neg (by decide)]; omega
/-- a look-up table that a latch lies behind -/
def hid (P l o : Nat → Int) (nU nL nO : Nat) (n : Nat) (s : Int) : Prop := ∃ j, j < n ∧ inL P l o nU nL nO j ∧ l j = s
theorem snk_h {s : Int} (h : hid P l o nU nL nO nL s) : snkN P l o nU nL nO s = 0 := by
  obtain ⟨j, hj, h1, h2⟩ := h
  have hs : s ≠ -1 := by have := h1.1; omega
  have hu := h1.2
  rw [h2] at hu
  have c1 := cn_ge hj h2
  unfold us at hu
  unfold snkN
  rw [psA_cn hs]
  have : cnb (fun i => decide (l i = s) && !dcd (inL P l o nU nL nO i)) nL = 0 := cnb_0 fun i hi => by
    by_cases x : l i = s
    · have e : i = j := by
        by_cases y : i = j
        · exact y
        · have : 2 ≤ cn l nL s := by
            rcases Nat.lt_or_gt_of_ne y with u | u
            · exact cn_two u hj x h2
            · exact cn_two u hi h2 x
          omega
      rw [e, dcd_t h1, Bool.not_true, Bool.and_false]
    · rw [decide_eq_false x, Bool.false_and]
  rw [this]
  omega
theorem snk_n {s : Int} (hs : s ≠ -1) (h : ¬ hid P l o nU nL nO nL s) : snkN P l o nU nL nO s = us P l o nU nL nO s := by
  unfold snkN us
  rw [psA_cn hs]
  have : cnb (fun i => decide (l i = s) && !dcd (inL P l o nU nL nO i)) nL = cn l nL s := cnb_c fun i hi => by
    show (decide (l i = s) && !dcd (inL P l o nU nL nO i)) = decide (l i = s)
    by_cases x : l i = s
    · rw [dcd_f fun q => h ⟨i, hi, q, x⟩, Bool.not_false, Bool.and_true]
    · rw [decide_eq_false x, Bool.false_and]
  rw [this]
/-- nets below a source, sinks below it -/
noncomputable def nK (P l o : Nat → Int) (nU nL nO s : Nat) : Nat := cnb (fun s => decide (0 < snkN P l o nU nL nO (s : Int))) s
noncomputable def fS (P l o : Nat → Int) (nU nL nO s : Nat) : Nat := sumN (fun s => snkN P l o nU nL nO (s : Int)) s
theorem nK_s (s : Nat) : nK P l o nU nL nO (s + 1) = nK P l o nU nL nO s + if 0 < snkN P l o nU nL nO (s : Int) then 1 else 0 := by
  unfold nK
  rw [cnb]
  by_cases x : 0 < snkN P l o nU nL nO (s : Int)
  · rw [decide_eq_true x, if_pos rfl, if_pos x]
  · rw [decide_eq_false x, if_neg (by decide), if_neg x]
theorem fS_s (s : Nat) : fS P l o nU nL nO (s + 1) = fS P l o nU nL nO s + snkN P l o nU nL nO (s : Int) := rfl
theorem nK_m {i j : Nat} (h : i ≤ j) : nK P l o nU nL nO i ≤ nK P l o nU nL nO j := by
  obtain ⟨d, rfl⟩ : ∃ d, j = i + d := ⟨j - i, by omega⟩
  induction d with
  | zero => exact Nat.le_refl _
  | succ d ih =>
    have := ih (by omega)
    rw [← Nat.add_assoc, nK_s]; omega
/-- the source of net n -/
theorem nK_ex {N n : Nat} (h : n < nK P l o nU nL nO N) : ∃ s, s < N ∧ 0 < snkN P l o nU nL nO (s : Int) ∧ nK P l o nU nL nO s = n := by
  induction N with
  | zero => exact absurd h (Nat.not_lt_zero n)
  | succ N ih =>
    by_cases x : n < nK P l o nU nL nO N
    · obtain ⟨s, s1, s2⟩ := ih x
      exact ⟨s, by omega, s2⟩
    · rw [nK_s] at h
      by_cases y : 0 < snkN P l o nU nL nO (N : Int)
      · rw [if_pos y] at h
        exact ⟨N, by omega, y, by omega⟩
      · rw [if_neg y] at h; omega
theorem nK_i {s t : Nat} (hs : 0 < snkN P l o nU nL nO (s : Int)) (ht : 0 < snkN P l o nU nL nO (t : Int)) (h : nK P l o nU nL nO s = nK P l o nU nL nO t) : s = t := by
  have st : ∀ s t : Nat, s < t → 0 < snkN P l o nU nL nO (s : Int) → nK P l o nU nL nO s < nK P l o nU nL nO t := fun s t h q => by
    have := nK_m (P := P) (l := l) (o := o) (nU := nU) (nL := nL) (nO := nO) (i := s + 1) (j := t) h
    rw [nK_s, if_pos q] at this
    omega
  rcases Nat.lt_trichotomy s t with u | u | u
  · have := st s t u hs; omega
  · exact u
  · have := st t s u ht; omega
end
end
