set_option linter.unusedVariables false
-- KA
section
/-- bit i, a 0, is put into n -/
def insB (i n : Nat) : Nat := 2 ^ (i + 1) * (n / 2 ^ i) + n % 2 ^ i
theorem ins_t (i n j : Nat) : (insB i n).testBit j = if j < i then n.testBit j else if j = i then false else n.testBit (j - 1) := by
  unfold insB
  have h1 : 2 ^ i < 2 ^ (i + 1) := Nat.pow_lt_pow_right (by omega) (by omega)
  have h2 : n % 2 ^ i < 2 ^ i := Nat.mod_lt _ (Nat.two_pow_pos i)
  rw [Nat.testBit_two_pow_mul_add _ (by omega : n % 2 ^ i < 2 ^ (i + 1))]
  by_cases a : j < i
  · rw [if_pos (by omega), if_pos a, Nat.testBit_mod_two_pow, decide_eq_true a, Bool.true_and]
  · rw [if_neg a]
    by_cases b : j = i
    · rw [if_pos (by omega), if_pos b, Nat.testBit_mod_two_pow, decide_eq_false a, Bool.false_and]
    · rw [if_neg (by omega), if_neg b, Nat.testBit_div_two_pow]
      congr 1
      omega
theorem ins_b {i n w : Nat} (hi : i < w) (hn : n < 2 ^ (w - 1)) : insB i n < 2 ^ w := by
  apply Nat.lt_pow_two_of_testBit
  intro j hj
  rw [ins_t, if_neg (by omega), if_neg (by omega)]
  exact Nat.testBit_lt_two_pow (Nat.lt_of_lt_of_le hn (Nat.pow_le_pow_right (by omega) (by omega)))
theorem ins_le (i n : Nat) : n ≤ insB i n := by
  unfold insB
  have h := Nat.div_add_mod n (2 ^ i)
  have h2 : 2 ^ (i + 1) = 2 ^ i + 2 ^ i := by rw [Nat.pow_succ]; omega
  rw [h2, Nat.add_mul]
  omega
theorem ins_lt {i n : Nat} (h : n < 2 ^ i) : insB i n = n := by
  unfold insB
  rw [Nat.div_eq_of_lt h, Nat.mod_eq_of_lt h]; omega
theorem ins_gt {i n : Nat} (h : 2 ^ i ≤ n) : n < insB i n := by
  unfold insB
  have h1 := Nat.div_add_mod n (2 ^ i)
  have h2 : 2 ^ (i + 1) = 2 ^ i + 2 ^ i := by rw [Nat.pow_succ]; omega
  have h3 : 1 ≤ n / 2 ^ i := (Nat.one_le_div_iff (Nat.two_pow_pos i)).2 h
  have h4 : 2 ^ i * 1 ≤ 2 ^ i * (n / 2 ^ i) := Nat.mul_le_mul_left _ h3
  have h5 := Nat.two_pow_pos i
  rw [h2, Nat.add_mul]
  omega
theorem xor_or {n i : Nat} (h : n.testBit i = false) : n ^^^ 2 ^ i = n ||| 2 ^ i := by
  apply Nat.eq_of_testBit_eq
  intro j
  rw [Nat.testBit_xor, Nat.testBit_or, Nat.testBit_two_pow]
  by_cases x : i = j
  · subst x; rw [h, decide_eq_true rfl]; rfl
  · rw [decide_eq_false x, Bool.xor_false, Bool.or_false]
theorem or_self' {n i : Nat} (h : n.testBit i = true) : n ||| 2 ^ i = n := by
  apply Nat.eq_of_testBit_eq
  intro j
  rw [Nat.testBit_or, Nat.testBit_two_pow]
  by_cases x : i = j
  · subst x; rw [h]; rfl
  · rw [decide_eq_false x, Bool.or_false]
theorem xor_b {n i w : Nat} (hi : i < w) (hn : n < 2 ^ w) : n ^^^ 2 ^ i < 2 ^ w := Nat.xor_lt_two_pow hn (Nat.pow_lt_pow_right (by omega) hi)
theorem or_b {n i w : Nat} (hi : i < w) (hn : n < 2 ^ w) : n ||| 2 ^ i < 2 ^ w := Nat.or_lt_two_pow hn (Nat.pow_lt_pow_right (by omega) hi)
/-- the function depends on in i -/
def dep (t : Nat → Int) (w i : Nat) : Prop := ∃ n, n < 2 ^ w ∧ t n ≠ t (n ^^^ 2 ^ i)
theorem dep_or {t : Nat → Int} {w i : Nat} (hi : i < w) : dep t w i ↔ ∃ n, n < 2 ^ w ∧ t n ≠ t (n ||| 2 ^ i) := by
  constructor
  · rintro ⟨n, h1, h2⟩
    cases e : n.testBit i
    · exact ⟨n, h1, by rw [← xor_or e]; exact h2⟩
    · refine ⟨n ^^^ 2 ^ i, xor_b hi h1, ?_⟩
      have e1 : (n ^^^ 2 ^ i).testBit i = false := by rw [Nat.testBit_xor, e, Nat.testBit_two_pow, decide_eq_true rfl]; rfl
      have e2 : (n ^^^ 2 ^ i) ||| 2 ^ i = n := by rw [← xor_or e1, Nat.xor_assoc, Nat.xor_self, Nat.xor_zero]
      rw [e2]; exact fun x => h2 x.symm
  · rintro ⟨n, h1, h2⟩
    cases e : n.testBit i
    · exact ⟨n, h1, by rw [xor_or e]; exact h2⟩
    · rw [or_self' e] at h2; exact absurd rfl h2
/-- how many numbers below n have bit i as v -/
def rk (i v : Nat) : Nat → Nat
  | 0 => 0
  | n + 1 => rk i v n + if n / 2 ^ i % 2 = v then 1 else 0
theorem rk_f {i v : Nat} (hi : i < 8) (hv : v < 2) (n : Nat) : rk i v n = 2 ^ i * (n / 2 ^ (i + 1)) + if v = 0 then (if n % 2 ^ (i + 1) < 2 ^ i then n % 2 ^ (i + 1) else 2 ^ i) else n % 2 ^ (i + 1) - 2 ^ i := by
  induction n with
  | zero =>
    unfold rk
    rw [Nat.zero_div, Nat.zero_mod]
    have := Nat.two_pow_pos i
    rw [Nat.mul_zero, Nat.zero_sub, Nat.zero_add]
    split
    · first | rfl | rw [if_pos this]
    · rfl
  | succ n ih =>
    rw [rk, ih]
    rcases (show i = 0 ∨ i = 1 ∨ i = 2 ∨ i = 3 ∨ i = 4 ∨ i = 5 ∨ i = 6 ∨ i = 7 by omega) with x | x | x | x | x | x | x | x <;> subst x <;> simp only [Nat.reducePow, Nat.reduceAdd] <;> rcases (show v = 0 ∨ v = 1 by omega) with y | y <;> subst y <;> simp only [if_true, if_false, Nat.reduceEqDiff, reduceIte] <;> (repeat' split) <;> omega
theorem rk_le {i v : Nat} (n : Nat) : rk i v n ≤ n := by
  induction n with
  | zero => exact Nat.le_refl _
  | succ n ih => rw [rk]; split <;> omega
theorem rk_ins {i v n : Nat} (hi : i < 8) (hv : v < 2) (h : n / 2 ^ i % 2 = v) : insB i (rk i v n) + v * 2 ^ i = n := by
  rw [rk_f hi hv]
  unfold insB
  rcases (show i = 0 ∨ i = 1 ∨ i = 2 ∨ i = 3 ∨ i = 4 ∨ i = 5 ∨ i = 6 ∨ i = 7 by omega) with x | x | x | x | x | x | x | x <;> subst x <;> simp only [Nat.reducePow, Nat.reduceAdd] at h ⊢ <;> rcases (show v = 0 ∨ v = 1 by omega) with y | y <;> subst y <;> simp only [if_true, if_false, Nat.reduceEqDiff, reduceIte] <;> (repeat' split) <;> omega
theorem rk_end {i v w : Nat} (hi : i < w) (hw : w ≤ 8) (hv : v < 2) : rk i v (2 ^ w) = 2 ^ (w - 1) := by
  rw [rk_f (by omega) hv]
  have key : ∀ w, w < 9 → ∀ i, i < w → ∀ v, v < 2 → (2 ^ i * (2 ^ w / 2 ^ (i + 1)) + if v = 0 then (if 2 ^ w % 2 ^ (i + 1) < 2 ^ i then 2 ^ w % 2 ^ (i + 1) else 2 ^ i) else 2 ^ w % 2 ^ (i + 1) - 2 ^ i) = 2 ^ (w - 1) := by decide
  exact key w (by omega) i hi v hv
theorem pw_le {w : Nat} (h : w ≤ 8) : 1 ≤ 2 ^ w ∧ 2 ^ w ≤ 256 := by
  have h1 : 2 ^ w ≤ 2 ^ 8 := Nat.pow_le_pow_right (by omega) h
  have h2 : (2 : Nat) ^ 8 = 256 := by decide
  have h3 := Nat.two_pow_pos w
  omega
theorem pw_h {w : Nat} (h : 0 < w) : 2 ^ w = 2 ^ (w - 1) + 2 ^ (w - 1) := by
  obtain ⟨v, rfl⟩ : ∃ v, w = v + 1 := ⟨w - 1, by omega⟩
  rw [Nat.add_sub_cancel, Nat.pow_succ]; omega
theorem zShl_1 {w : Nat} (h : w ≤ 8) : zShl 1 (w : Int) = ((2 ^ w : Nat) : Int) := by
  have := pw_le h
  have e := zShl_n 1 w (by omega) (by omega)
  rw [show ((1 : Nat) : Int) = 1 from rfl, Nat.one_mul] at e
  exact e
/-- the place that a value moves down from -/
theorem ins_z {i n : Nat} (hi : i < 8) (hn : n < 256) : zOr (zShl (zAnd (n : Int) (zXor (((2 ^ i : Nat) : Int) - 1) (-1))) 1) (zAnd (n : Int) (((2 ^ i : Nat) : Int) - 1)) = (insB i n : Int) := by
  have p := pw_le (w := i) (by omega)
  have e1 : ((2 ^ i : Nat) : Int) - 1 = ((2 ^ i - 1 : Nat) : Int) := by omega
  have hb : insB i n < 2 ^ 9 := by
    apply Nat.lt_pow_two_of_testBit
    intro j hj
    rw [ins_t, if_neg (by omega), if_neg (by omega)]
    exact Nat.testBit_lt_two_pow (Nat.lt_of_lt_of_le hn (Nat.pow_le_pow_right (n := 2) (by omega) (show 8 ≤ j - 1 by omega)))
  have h9 : (2 : Nat) ^ 9 = 512 := by decide
  rw [e1]
  apply zB_ext (zOr_r _ _) (by omega)
  intro j hj
  rw [zB_or, show (1 : Int) = ((1 : Nat) : Int) from rfl, zB_shl _ _ _ (by omega), zB_and, zB_and, zB_xor, zB_n _ _ (by omega), zB_n _ _ (by omega), zB_n _ _ (by omega), zB_n _ _ (by omega), zB_n _ _ (by omega), ins_t, Nat.testBit_two_pow_sub_one, Nat.testBit_two_pow_sub_one, decide_eq_true hj, Bool.true_and]
  have m1 : ∀ k, k < 32 → zBit (-((1 : Nat) : Int)) k = true := by decide
  by_cases a : j < i
  · rw [if_pos a, decide_eq_true a, Bool.and_true]
    by_cases b : 1 ≤ j
    · rw [decide_eq_true b, Bool.true_and, m1 _ (by omega), decide_eq_true (show j - 1 < i by omega)]
      cases n.testBit (j - 1) <;> rfl
    · rw [decide_eq_false b, Bool.false_and, Bool.false_or]
  · rw [if_neg a, decide_eq_false a, Bool.and_false, Bool.or_false]
    by_cases b : j = i
    · rw [if_pos b]
      by_cases d : 1 ≤ j
      · rw [decide_eq_true d, Bool.true_and, m1 _ (by omega), decide_eq_true (show j - 1 < i by omega)]
        cases n.testBit (j - 1) <;> rfl
      · rw [decide_eq_false d, Bool.false_and]
    · rw [if_neg b, decide_eq_true (show 1 ≤ j by omega), Bool.true_and, m1 _ (by omega), decide_eq_false (show ¬ j - 1 < i by omega)]
      cases n.testBit (j - 1) <;> rfl
end
