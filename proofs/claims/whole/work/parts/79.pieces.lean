set_option linter.unusedVariables false
-- KB
section
/-- a piece: its table, its sources, how many they are -/
abbrev Pc : Type := (Nat → Int) × (Nat → Int) × Nat
/-- look-up tables: pins, tables, how many they are -/
abbrev Ut : Type := (Nat → Int) × (Nat → Int) × Nat
def drp (P : Pc) (i : Nat) : Pc := (fun n => P.1 (insB i n), fun j => if j < i then P.2.1 j else P.2.1 (j + 1), P.2.2 - 1)
noncomputable def lo1 (P : Pc) (i : Nat) : Pc := @ite Pc (dep P.1 P.2.2 i) (Classical.propDecidable _) P (drp P i)
noncomputable def lo : Nat → Pc → Pc
  | 0, P => P
  | i + 1, P => lo i (lo1 P i)
def adL (U : Ut) (p : Nat → Int) (tb : Int) : Ut := (fun j => if 4 * U.2.2 ≤ j ∧ j < 4 * U.2.2 + 4 then p (j - 4 * U.2.2) else U.1 j, fun l => if l = U.2.2 then tb else U.2.1 l, U.2.2 + 1)
def smP (P : Pc) : Nat → Int := fun p => if p < P.2.2 then P.2.1 p else -1
def smT (P : Pc) : Int := nb (fun n => P.1 (n % 2 ^ P.2.2)) 0 16
def sml (P : Pc) (U : Ut) : Int × Ut := (((400 + U.2.2 : Nat) : Int), adL U (smP P) (smT P))
def hlf (v : Nat) (P : Pc) : Pc := (fun n => P.1 (n + v * 2 ^ (P.2.2 - 1)), P.2.1, P.2.2 - 1)
def chP (r1 r2 s : Int) : Nat → Int := fun p => if p = 0 then r1 else if p = 1 then r2 else if p = 2 then s else -1
def k51 : Int := 51914
def chs (P : Pc) (a b : Int × Ut) : Int × Ut := (((400 + b.2.2.2 : Nat) : Int), adL b.2 (chP a.1 b.1 (P.2.1 (P.2.2 - 1))) k51)
noncomputable def mp : Nat → Pc → Ut → Int × Ut
  | 0, P, U => sml (lo P.2.2 P) U
  | f + 1, P, U => if (lo P.2.2 P).2.2 ≤ 4 then sml (lo P.2.2 P) U else chs (lo P.2.2 P) (mp f (hlf 0 (lo P.2.2 P)) U) (mp f (hlf 1 (lo P.2.2 P)) (mp f (hlf 0 (lo P.2.2 P)) U).2)
/-- the number that sources' levels make -/
def adr (L : Int → Int) (P : Pc) : Nat := mskT (fun j => L (P.2.1 j)) 0 1 P.2.2
theorem adr_t (L : Int → Int) (P : Pc) (j : Nat) : (adr L P).testBit j = decide (j < P.2.2 ∧ L (P.2.1 j) = 1) := by
  unfold adr
  rw [msk_t, Nat.zero_add]
theorem adr_b (L : Int → Int) (P : Pc) : adr L P < 2 ^ P.2.2 := msk_b _ _ _ _
theorem lo1_w (P : Pc) (i : Nat) : (lo1 P i).2.2 = P.2.2 ∨ (lo1 P i).2.2 = P.2.2 - 1 := by
  unfold lo1
  by_cases x : dep P.1 P.2.2 i
  · rw [if_pos x]; exact Or.inl rfl
  · rw [if_neg x]; exact Or.inr rfl
theorem lo1_t {P : Pc} {i : Nat} (h : dep P.1 P.2.2 i) : lo1 P i = P := by unfold lo1; rw [if_pos h]
theorem lo1_f {P : Pc} {i : Nat} (h : ¬ dep P.1 P.2.2 i) : lo1 P i = drp P i := by unfold lo1; rw [if_neg h]
/-- what a property of tables and sources says of a piece -/
def PcO (A : Int → Prop) (P : Pc) : Prop := (∀ n, n < 2 ^ P.2.2 → b01 (P.1 n)) ∧ ∀ j, j < P.2.2 → A (P.2.1 j)
theorem drp_o {A : Int → Prop} {P : Pc} {i : Nat} (hi : i < P.2.2) (h : PcO A P) : PcO A (drp P i) := by
  refine ⟨fun n hn => h.1 _ (ins_b hi hn), fun j hj => ?_⟩
  have hj : j < P.2.2 - 1 := hj
  show A (if j < i then P.2.1 j else P.2.1 (j + 1))
  split
  · exact h.2 j (by omega)
  · exact h.2 (j + 1) (by omega)
theorem lo1_o {A : Int → Prop} {P : Pc} {i : Nat} (hi : i < P.2.2) (h : PcO A P) : PcO A (lo1 P i) := by
  by_cases x : dep P.1 P.2.2 i
  · rw [lo1_t x]; exact h
  · rw [lo1_f x]; exact drp_o hi h
theorem lo_o {A : Int → Prop} : ∀ (i : Nat) (P : Pc), i ≤ P.2.2 → PcO A P → PcO A (lo i P) ∧ (lo i P).2.2 ≤ P.2.2 := by
  intro i
  induction i with
  | zero => exact fun P _ h => ⟨h, Nat.le_refl _⟩
  | succ i ih =>
    intro P hi h
    have hw := lo1_w P i
    have := ih (lo1 P i) (by omega) (lo1_o hi h)
    exact ⟨this.1, Nat.le_trans this.2 (by omega)⟩
theorem drp_s (L : Int → Int) {P : Pc} {i : Nat} (hi : i < P.2.2) (h : ¬ dep P.1 P.2.2 i) : (drp P i).1 (adr L (drp P i)) = P.1 (adr L P) := by
  have e : ∀ j, j ≠ i → (insB i (adr L (drp P i))).testBit j = (adr L P).testBit j := fun j hj => by
    rw [ins_t, adr_t, adr_t, adr_t]
    by_cases x : j < i
    · rw [if_pos x]
      refine decide_eq_decide.2 ?_
      show (j < P.2.2 - 1 ∧ L (if j < i then P.2.1 j else P.2.1 (j + 1)) = 1) ↔ _
      rw [if_pos x]
      exact ⟨fun q => ⟨by omega, q.2⟩, fun q => ⟨by omega, q.2⟩⟩
    · rw [if_neg x, if_neg hj]
      refine decide_eq_decide.2 ?_
      show (j - 1 < P.2.2 - 1 ∧ L (if j - 1 < i then P.2.1 (j - 1) else P.2.1 (j - 1 + 1)) = 1) ↔ _
      rw [if_neg (by omega), show j - 1 + 1 = j by omega]
      exact ⟨fun q => ⟨by omega, q.2⟩, fun q => ⟨by omega, q.2⟩⟩
  have e0 : (insB i (adr L (drp P i))).testBit i = false := by rw [ins_t, if_neg (by omega), if_pos rfl]
  have b0 : insB i (adr L (drp P i)) < 2 ^ P.2.2 := ins_b hi (adr_b L (drp P i))
  show P.1 (insB i (adr L (drp P i))) = _
  cases g : (adr L P).testBit i
  · have e1 : insB i (adr L (drp P i)) = adr L P := by
      apply Nat.eq_of_testBit_eq
      intro j
      by_cases x : j = i
      · rw [x, e0, g]
      · exact e j x
    rw [e1]
  · have e1 : adr L P = insB i (adr L (drp P i)) ^^^ 2 ^ i := by
      apply Nat.eq_of_testBit_eq
      intro j
      rw [Nat.testBit_xor, Nat.testBit_two_pow]
      by_cases x : j = i
      · rw [x, e0, g, decide_eq_true rfl]; rfl
      · rw [decide_eq_false (fun y => x y.symm), Bool.xor_false]; exact (e j x).symm
    rw [e1]
    exact Classical.not_not.1 fun q => h ⟨_, b0, q⟩
theorem lo_s (L : Int → Int) : ∀ (i : Nat) (P : Pc), i ≤ P.2.2 → (lo i P).1 (adr L (lo i P)) = P.1 (adr L P) := by
  intro i
  induction i with
  | zero => exact fun P _ => rfl
  | succ i ih =>
    intro P hi
    have hw := lo1_w P i
    show (lo i (lo1 P i)).1 (adr L (lo i (lo1 P i))) = _
    rw [ih (lo1 P i) (by omega)]
    by_cases x : dep P.1 P.2.2 i
    · rw [lo1_t x]
    · rw [lo1_f x]; exact drp_s L hi x
/-- the halves of a piece -/
theorem hlf_s (L : Int → Int) {P : Pc} (h : 0 < P.2.2) : P.1 (adr L P) = if L (P.2.1 (P.2.2 - 1)) = 1 then (hlf 1 P).1 (adr L (hlf 1 P)) else (hlf 0 P).1 (adr L (hlf 0 P)) := by
  have e : adr L P = if L (P.2.1 (P.2.2 - 1)) = 1 then adr L (hlf 1 P) + 1 * 2 ^ (P.2.2 - 1) else adr L (hlf 0 P) + 0 * 2 ^ (P.2.2 - 1) := by
    have b1 : mskT (fun j => L (P.2.1 j)) 0 1 (P.2.2 - 1) < 2 ^ (P.2.2 - 1) := msk_b _ _ _ _
    show mskT (fun j => L (P.2.1 j)) 0 1 P.2.2 = if L (P.2.1 (P.2.2 - 1)) = 1 then mskT (fun j => L (P.2.1 j)) 0 1 (P.2.2 - 1) + 1 * 2 ^ (P.2.2 - 1) else mskT (fun j => L (P.2.1 j)) 0 1 (P.2.2 - 1) + 0 * 2 ^ (P.2.2 - 1)
    obtain ⟨v, hv⟩ : ∃ v, P.2.2 = v + 1 := ⟨P.2.2 - 1, by omega⟩
    rw [hv] at b1 ⊢
    rw [Nat.add_sub_cancel] at b1 ⊢
    rw [mskT, Nat.zero_add, Nat.one_mul, Nat.zero_mul, Nat.add_zero]
    by_cases x : L (P.2.1 v) = 1
    · rw [if_pos x, if_pos x, Nat.or_comm]
      have := Nat.two_pow_add_eq_or_of_lt b1 1
      rw [Nat.mul_one] at this
      rw [← this, Nat.add_comm]
    · rw [if_neg x, if_neg x]
  rw [e]
  split
  · rfl
  · rfl
theorem hlf_o {A : Int → Prop} {P : Pc} {v : Nat} (hv : v < 2) (h0 : 0 < P.2.2) (h : PcO A P) : PcO A (hlf v P) := by
  have e := pw_h h0
  refine ⟨fun n hn => h.1 _ ?_, fun j hj => h.2 j ?_⟩
  · have hn : n < 2 ^ (P.2.2 - 1) := hn
    rcases (show v = 0 ∨ v = 1 by omega) with y | y <;> subst y <;> omega
  · have hj : j < P.2.2 - 1 := hj
    omega
section
variable {nI nL : Nat}
/-- U' goes on from U -/
def exU (U U' : Ut) : Prop := U.2.2 ≤ U'.2.2 ∧ (∀ j, j < 4 * U.2.2 → U'.1 j = U.1 j) ∧ ∀ l, l < U.2.2 → U'.2.1 l = U.2.1 l
theorem exU_r {U : Ut} : exU U U := ⟨Nat.le_refl _, fun _ _ => rfl, fun _ _ => rfl⟩
theorem exU_t {U V X : Ut} (h : exU U V) (k : exU V X) : exU U X := ⟨Nat.le_trans h.1 k.1, fun j hj => (k.2.1 j (by have := h.1; omega)).trans (h.2.1 j hj), fun l hl => (k.2.2 l (by have := h.1; omega)).trans (h.2.2 l hl)⟩
theorem adL_x (U : Ut) (p : Nat → Int) (tb : Int) : exU U (adL U p tb) := by
  refine ⟨Nat.le_succ _, fun j hj => ?_, fun l hl => ?_⟩
  · show (if 4 * U.2.2 ≤ j ∧ j < 4 * U.2.2 + 4 then p (j - 4 * U.2.2) else U.1 j) = _
    rw [if_neg (by omega)]
  · show (if l = U.2.2 then tb else U.2.1 l) = _
    rw [if_neg (by omega)]
def wfU (nI nL : Nat) (U : Ut) : Prop := pinO nI nL U.2.2 U.1
theorem adL_w {U : Ut} {p : Nat → Int} {tb : Int} (h : wfU nI nL U) (hp : ∀ i, i < 4 → okS nI nL U.2.2 (p i)) : wfU nI nL (adL U p tb) := by
  intro l i hl hi
  have hl : l < U.2.2 + 1 := hl
  show okS nI nL l (if 4 * U.2.2 ≤ l * 4 + i ∧ l * 4 + i < 4 * U.2.2 + 4 then p (l * 4 + i - 4 * U.2.2) else U.1 (l * 4 + i))
  by_cases x : l = U.2.2
  · rw [if_pos (by omega), show l * 4 + i - 4 * U.2.2 = i by omega, x]
    exact hp i hi
  · rw [if_neg (by omega)]
    exact h l i (by omega) hi
def evU (x y : Nat → Int) (U : Ut) : Nat → Int := evT U.1 U.2.1 x y U.2.2
theorem evU_x {x y : Nat → Int} {U V : Ut} (hI : nI ≤ 200) (hL : nL ≤ 200) (h : wfU nI nL U) (k : exU U V) {l : Nat} (hl : l < U.2.2) : evU x y V l = evU x y U l := by
  unfold evU
  rw [evT_le hl k.1]
  exact (evT_c (nI := nI) (nL := nL) hI hL (fun _ _ => rfl) (fun _ _ => rfl) h (fun j hj => (k.2.1 j (by omega)).symm) (fun l hl => (k.2.2 l hl).symm) l hl).symm
theorem lev_x {x y : Nat → Int} {U V : Ut} (hI : nI ≤ 200) (hL : nL ≤ 200) (h : wfU nI nL U) (k : exU U V) {s : Int} (hs : okS nI nL U.2.2 s) : lev x y (evU x y V) s = lev x y (evU x y U) s := lev_c (nI := nI) (nL := nL) (n := U.2.2) hI hL (fun _ _ => rfl) (fun _ _ => rfl) (fun i hi => evU_x hI hL h k hi) hs
/-- the level of a table that is added -/
theorem adL_v {x y : Nat → Int} {U : Ut} {p : Nat → Int} {tb : Int} (hI : nI ≤ 200) (hL : nL ≤ 200) (h : wfU nI nL U) (hp : ∀ i, i < 4 → okS nI nL U.2.2 (p i)) : evU x y (adL U p tb) U.2.2 = zAnd (zUshr tb (nb (fun i => lev x y (evU x y U) (p i)) 0 4)) 1 := by
  have ht : (adL U p tb).2.1 U.2.2 = tb := if_pos rfl
  unfold evU
  show evT (adL U p tb).1 (adL U p tb).2.1 x y (U.2.2 + 1) U.2.2 = _
  rw [evT, if_pos rfl, ht]
  congr 2
  refine nb_c fun i hi => ?_
  have e : (adL U p tb).1 (U.2.2 * 4 + (0 + i)) = p (0 + i) := by
    show (if 4 * U.2.2 ≤ U.2.2 * 4 + (0 + i) ∧ U.2.2 * 4 + (0 + i) < 4 * U.2.2 + 4 then p (U.2.2 * 4 + (0 + i) - 4 * U.2.2) else U.1 (U.2.2 * 4 + (0 + i))) = p (0 + i)
    rw [if_pos (by omega)]
    congr 1
    omega
  show lev x y (evT (adL U p tb).1 (adL U p tb).2.1 x y U.2.2) ((adL U p tb).1 (U.2.2 * 4 + (0 + i))) = lev x y (evT U.1 U.2.1 x y U.2.2) (p (0 + i))
  rw [e]
  refine lev_c (nI := nI) (nL := nL) (n := U.2.2) hI hL (fun _ _ => rfl) (fun _ _ => rfl) (fun l hl => ?_) (hp _ (by omega))
  exact (evT_c (nI := nI) (nL := nL) hI hL (fun _ _ => rfl) (fun _ _ => rfl) h (fun j hj => ((adL_x U p tb).2.1 j (by omega)).symm) (fun l hl => ((adL_x U p tb).2.2 l hl).symm) l hl).symm
/-- what mapping leaves -/
def mpO (nI nL : Nat) (P : Pc) (U : Ut) (r : Int × Ut) (B : Nat) : Prop := exU U r.2 ∧ wfU nI nL r.2 ∧ (400 ≤ r.1 ∧ r.1 < ((400 + r.2.2.2 : Nat) : Int)) ∧ r.2.2.2 ≤ U.2.2 + B ∧ ∀ x y, b1s x nI → b1s y nL → evU x y r.2 (r.1 - 400).toNat = P.1 (adr (lev x y (evU x y U)) P)
theorem sml_o {P : Pc} {U : Ut} (hI : nI ≤ 200) (hL : nL ≤ 200) (hU : wfU nI nL U) (hw : P.2.2 ≤ 4) (hP : PcO (srcO nI nL U.2.2) P) : mpO nI nL P U (sml P U) 1 := by
  have hp : ∀ i, i < 4 → okS nI nL U.2.2 (smP P i) := fun i hi => by
    unfold smP
    split
    · rename_i q; exact Or.inr (hP.2 i q)
    · exact Or.inl rfl
  refine ⟨adL_x _ _ _, adL_w hU hp, ⟨by show (400 : Int) ≤ ((400 + U.2.2 : Nat) : Int); omega, by show ((400 + U.2.2 : Nat) : Int) < ((400 + (U.2.2 + 1) : Nat) : Int); omega⟩, Nat.le_refl _, fun x y hx hy => ?_⟩
  have er : (((400 + U.2.2 : Nat) : Int) - 400).toNat = U.2.2 := by omega
  show evU x y (adL U (smP P) (smT P)) (((400 + U.2.2 : Nat) : Int) - 400).toNat = _
  rw [er, adL_v hI hL hU hp]
  have lb : ∀ i, i < 4 → b01 (lev x y (evU x y U) (smP P i)) := fun i hi => lev_b (nI := nI) (nL := nL) (n := U.2.2) hI hL hx hy (fun _ _ => evT_b _ _) (hp i hi)
  obtain ⟨m, m1, m2, m3⟩ := nb_n (b := fun i => lev x y (evU x y U) (smP P i)) (a := 0) (n := 4) (by omega) fun i hi => by rw [Nat.zero_add]; exact lb i hi
  have hpw : 2 ^ P.2.2 ≤ 2 ^ 4 := Nat.pow_le_pow_right (by omega) hw
  have h16 : (2 : Nat) ^ 4 = 16 := by decide
  obtain ⟨M, M1, M2, M3⟩ := nb_n (b := fun n => P.1 (n % 2 ^ P.2.2)) (a := 0) (n := 16) (by omega) fun i hi => hP.1 _ (Nat.mod_lt _ (Nat.two_pow_pos _))
  rw [m2]
  have M1' : M < 65536 := M1
  have em : m = adr (lev x y (evU x y U)) P := by
    apply Nat.eq_of_testBit_eq
    intro j
    rw [adr_t]
    by_cases j4 : j < 4
    · have := m3 j j4
      rw [Nat.zero_add] at this
      by_cases jw : j < P.2.2
      · have e1 : smP P j = P.2.1 j := if_pos jw
        rw [e1] at this
        by_cases q : lev x y (evU x y U) (P.2.1 j) = 1
        · rw [this.2 q, decide_eq_true ⟨jw, q⟩]
        · rw [decide_eq_false fun u => q u.2]
          cases g : m.testBit j
          · rfl
          · exact absurd (this.1 g) q
      · have e1 : smP P j = -1 := if_neg jw
        rw [e1, lev_n] at this
        rw [decide_eq_false fun u => jw u.1]
        cases g : m.testBit j
        · rfl
        · exact absurd (this.1 g) (by decide)
    · rw [decide_eq_false (by omega)]
      exact Nat.testBit_lt_two_pow (Nat.lt_of_lt_of_le m1 (Nat.pow_le_pow_right (by omega) (by omega)))
  have hb := adr_b (lev x y (evU x y U)) P
  rw [← em] at hb
  have hM := M3 m (by omega)
  rw [Nat.zero_add] at hM
  have hM : M.testBit m = true ↔ P.1 (m % 2 ^ P.2.2) = 1 := hM
  rw [Nat.mod_eq_of_lt hb] at hM
  have t01 := hP.1 m hb
  rw [show smT P = (M : Int) from M2, zBit_at _ m (by omega), zB_n M m (by omega), ← em]
  rcases t01 with q | q
  · rw [if_neg (by rw [hM, q]; decide), q]
  · rw [if_pos (hM.2 q), q]
theorem cac {a b d : Int} (ha : b01 a) (hb : b01 b) (hd : b01 d) : zAnd (zUshr k51 (nb (fun i => if i = 0 then a else if i = 1 then b else if i = 2 then d else 0) 0 4)) 1 = if d = 1 then b else a := by
  rcases ha with x | x <;> rcases hb with y | y <;> rcases hd with u | u <;> subst x <;> subst y <;> subst u <;> decide +kernel
theorem adr_x {x y : Nat → Int} {U V : Ut} {P : Pc} (hI : nI ≤ 200) (hL : nL ≤ 200) (hU : wfU nI nL U) (k : exU U V) (hP : PcO (srcO nI nL U.2.2) P) : adr (lev x y (evU x y V)) P = adr (lev x y (evU x y U)) P := by
  apply Nat.eq_of_testBit_eq
  intro j
  rw [adr_t, adr_t]
  by_cases h : j < P.2.2
  · rw [lev_x hI hL hU k (Or.inr (hP.2 j h))]
  · rw [decide_eq_false fun q => h q.1, decide_eq_false fun q => h q.1]
theorem chs_o {Q : Pc} {U : Ut} {A B : Int × Ut} {b : Nat} (hI : nI ≤ 200) (hL : nL ≤ 200) (hU : wfU nI nL U) (hw : 0 < Q.2.2) (hQ : PcO (srcO nI nL U.2.2) Q) (hA : mpO nI nL (hlf 0 Q) U A b) (hB : mpO nI nL (hlf 1 Q) A.2 B b) : mpO nI nL Q U (chs Q A B) (b + b + 1) := by
  obtain ⟨a1, a2, a3, a4, a5⟩ := hA
  obtain ⟨b1, b2, b3, b4, b5⟩ := hB
  have e0 := hlf_o (v := 0) (by omega) hw hQ
  have e1 := hlf_o (v := 1) (by omega) hw hQ
  have hs : srcO nI nL U.2.2 (Q.2.1 (Q.2.2 - 1)) := hQ.2 _ (by omega)
  have xU := exU_t a1 b1
  have hp : ∀ i, i < 4 → okS nI nL B.2.2.2 (chP A.1 B.1 (Q.2.1 (Q.2.2 - 1)) i) := fun i hi => by
    unfold chP
    split
    · exact Or.inr (Or.inr (Or.inr ⟨a3.1, by have := a3.2; have := b1.1; omega⟩))
    · split
      · exact Or.inr (Or.inr (Or.inr ⟨b3.1, by have := b3.2; omega⟩))
      · split
        · exact Or.inr (srcO_m hs xU.1)
        · exact Or.inl rfl
  refine ⟨exU_t xU (adL_x _ _ _), adL_w b2 hp, ⟨?_, ?_⟩, ?_, fun x y hx hy => ?_⟩
  · show (400 : Int) ≤ ((400 + B.2.2.2 : Nat) : Int)
    omega
  · show ((400 + B.2.2.2 : Nat) : Int) < ((400 + (B.2.2.2 + 1) : Nat) : Int)
    omega
  · show B.2.2.2 + 1 ≤ _
    omega
  have er : (((400 + B.2.2.2 : Nat) : Int) - 400).toNat = B.2.2.2 := by omega
  have l1 : lev x y (evU x y B.2) A.1 = (hlf 0 Q).1 (adr (lev x y (evU x y U)) (hlf 0 Q)) := by
    rw [lev_u a3.1, evU_x hI hL a2 b1 (by have := a3.2; omega)]
    exact a5 x y hx hy
  have l2 : lev x y (evU x y B.2) B.1 = (hlf 1 Q).1 (adr (lev x y (evU x y U)) (hlf 1 Q)) := by
    rw [lev_u b3.1, b5 x y hx hy, adr_x hI hL hU a1 e1]
  have l3 : lev x y (evU x y B.2) (Q.2.1 (Q.2.2 - 1)) = lev x y (evU x y U) (Q.2.1 (Q.2.2 - 1)) := lev_x hI hL hU xU (Or.inr hs)
  have c1 : b01 ((hlf 0 Q).1 (adr (lev x y (evU x y U)) (hlf 0 Q))) := e0.1 _ (adr_b _ _)
  have c2 : b01 ((hlf 1 Q).1 (adr (lev x y (evU x y U)) (hlf 1 Q))) := e1.1 _ (adr_b _ _)
  have c3 : b01 (lev x y (evU x y U) (Q.2.1 (Q.2.2 - 1))) := lev_b (nI := nI) (nL := nL) (n := U.2.2) hI hL hx hy (fun _ _ => evT_b _ _) (Or.inr hs)
  have e4 : nb (fun i => lev x y (evU x y B.2) (chP A.1 B.1 (Q.2.1 (Q.2.2 - 1)) i)) 0 4 = nb (fun i => if i = 0 then (hlf 0 Q).1 (adr (lev x y (evU x y U)) (hlf 0 Q)) else if i = 1 then (hlf 1 Q).1 (adr (lev x y (evU x y U)) (hlf 1 Q)) else if i = 2 then lev x y (evU x y U) (Q.2.1 (Q.2.2 - 1)) else 0) 0 4 := by
    refine nb_c fun i hi => ?_
    rw [Nat.zero_add]
    unfold chP
    by_cases i0 : i = 0
    · rw [if_pos i0, if_pos i0]; exact l1
    · rw [if_neg i0, if_neg i0]
      by_cases i1 : i = 1
      · rw [if_pos i1, if_pos i1]; exact l2
      · rw [if_neg i1, if_neg i1]
        by_cases i2 : i = 2
        · rw [if_pos i2, if_pos i2]; exact l3
        · rw [if_neg i2, if_neg i2]; exact lev_n _
  have e5 : evU x y (adL B.2 (chP A.1 B.1 (Q.2.1 (Q.2.2 - 1))) k51) B.2.2.2 = Q.1 (adr (lev x y (evU x y U)) Q) := by
    rw [adL_v hI hL b2 hp, e4, cac c1 c2 c3]
    exact (hlf_s (lev x y (evU x y U)) hw).symm
  rw [← er] at e5
  exact e5
theorem mpO_lo {P : Pc} {U : Ut} {r : Int × Ut} {b b' : Nat} (h : mpO nI nL (lo P.2.2 P) U r b) (hb : b ≤ b') : mpO nI nL P U r b' := by
  obtain ⟨q1, q2, q3, q4, q5⟩ := h
  exact ⟨q1, q2, q3, by omega, fun x y hx hy => by rw [q5 x y hx hy, lo_s _ _ _ (Nat.le_refl _)]⟩
theorem mp_o (hI : nI ≤ 200) (hL : nL ≤ 200) : ∀ (f : Nat) (P : Pc) (U : Ut), P.2.2 ≤ 4 + f → wfU nI nL U → PcO (srcO nI nL U.2.2) P → mpO nI nL P U (mp f P U) (2 ^ (f + 1) - 1) := by
  intro f
  induction f with
  | zero =>
    intro P U hw hU hP
    have h1 := lo_o P.2.2 P (Nat.le_refl _) hP
    exact mpO_lo (sml_o hI hL hU (by omega) h1.1) (by decide)
  | succ f ih =>
    intro P U hw hU hP
    have h1 := lo_o P.2.2 P (Nat.le_refl _) hP
    have hp2 : 2 ^ (f + 1 + 1) = 2 ^ (f + 1) + 2 ^ (f + 1) := by rw [Nat.pow_succ]; omega
    have hp1 := Nat.two_pow_pos (f + 1)
    unfold mp
    by_cases x : (lo P.2.2 P).2.2 ≤ 4
    · rw [if_pos x]
      exact mpO_lo (sml_o hI hL hU x h1.1) (by omega)
    · rw [if_neg x]
      have q1 := ih (hlf 0 (lo P.2.2 P)) U (by show (lo P.2.2 P).2.2 - 1 ≤ _; omega) hU (hlf_o (by omega) (by omega) h1.1)
      have e1 := hlf_o (v := 1) (by omega) (by omega) h1.1
      have q2 := ih (hlf 1 (lo P.2.2 P)) (mp f (hlf 0 (lo P.2.2 P)) U).2 (by show (lo P.2.2 P).2.2 - 1 ≤ _; omega) q1.2.1 ⟨e1.1, fun j hj => srcO_m (e1.2 j hj) q1.1.1⟩
      exact mpO_lo (chs_o hI hL hU (by omega) h1.1 q1 q2) (by omega)
end
end
