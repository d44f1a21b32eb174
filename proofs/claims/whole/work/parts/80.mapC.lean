set_option linter.unusedVariables false
-- KC
section
variable {E : gEv} {c : gCf}
theorem kL_tb {q : Nat} (h : q < 5) : kL c (42 + q) = 256 := by
  rcases (show q = 0 ∨ q = 1 ∨ q = 2 ∨ q = 3 ∨ q = 4 by omega) with x | x | x | x | x <;> subst x <;> rfl
theorem kL_sr {q : Nat} (h : q < 5) : kL c (48 + q) = 8 := by
  rcases (show q = 0 ∨ q = 1 ∨ q = 2 ∨ q = 3 ∨ q = 4 by omega) with x | x | x | x | x <;> subst x <;> rfl
/-- level q of the class's mapper holds a piece -/
def PcC (q : Nat) (P : Pc) (a : gZ) : Prop := (∀ n, n < 2 ^ P.2.2 → a.1 (42 + q) n = P.1 n) ∧ ∀ j, j < P.2.2 → a.1 (48 + q) j = P.2.1 j
def pM (q k j : Nat) : Prop := k = 42 + q ∨ k = 48 + q
def bPc (P : Pc) : Prop := ∀ n, n < 2 ^ P.2.2 → b01 (P.1 n)
section
variable {q w i : Nat} {P : Pc} {a : gZ}
theorem s_dependsC (hq : q < 5) (hw : P.2.2 ≤ 8) (hi : i < P.2.2) (h : PcC q P a) : q_Mapper_depends E (kL c) (q : Int) (P.2.2 : Int) (i : Int) a = some (dI (dep P.1 P.2.2 i)) := by
  have pw := pw_le hw
  have e2 := zShl_1 (w := i) (by omega)
  have p2 := pw_le (w := i) (by omega)
  unfold q_Mapper_depends
  rw [if_pos (by omega), let_s, gtN]
  have F := it_find (f := fun y => q_Mapper_depends_11 E (kL c) (42 + q) (P.2.2 : Int) (i : Int) y a) (fun n => P.1 n ≠ P.1 (n ||| 2 ^ i)) (fun _ => Sum.inl ()) 0 (2 ^ P.2.2) (e := Sum.inr ()) (s := 0) rfl (Nat.zero_le _) (by omega) (fun n _ hn hp => by
      show q_Mapper_depends_11 E (kL c) (42 + q) (P.2.2 : Int) (i : Int) (n : Int) a = _
      have ob := or_b hi hn
      unfold q_Mapper_depends_11
      rw [zShl_1 hw, if_neg (by omega), kL_tb hq, if_pos (by omega), e2, zOr_n _ _ (by omega) (by omega), if_pos (by omega), gtN, gtN, h.1 n hn, h.1 _ ob, if_pos (Classical.not_not.1 hp), let_s]) (fun n _ hn hp => by
      show q_Mapper_depends_11 E (kL c) (42 + q) (P.2.2 : Int) (i : Int) (n : Int) a = _
      have ob := or_b hi hn
      unfold q_Mapper_depends_11
      rw [zShl_1 hw, if_neg (by omega), kL_tb hq, if_pos (by omega), e2, zOr_n _ _ (by omega) (by omega), if_pos (by omega), gtN, gtN, h.1 n hn, h.1 _ ob, if_neg hp]) (by
      show q_Mapper_depends_11 E (kL c) (42 + q) (P.2.2 : Int) (i : Int) ((2 ^ P.2.2 : Nat) : Int) a = _
      unfold q_Mapper_depends_11
      rw [zShl_1 hw, if_pos (by omega)])
  rcases F with ⟨n, -, n1, n2, -, n3⟩ | ⟨j1, j2⟩
  · rw [n3, b1_s, gs_l, dI_t ((dep_or hi).2 ⟨n, n1, n2⟩)]
  · rw [j2, b1_s, gs_r, dI_f]
    intro x
    obtain ⟨n, n1, n2⟩ := (dep_or hi).1 x
    exact j1 n (by omega) n1 n2
theorem s_removeC (hq : q < 5) (hw : P.2.2 ≤ 8) (hi : i < P.2.2) (h : PcC q P a) (hb : bPc P) : zOk (q_Mapper_remove E (kL c) (q : Int) (P.2.2 : Int) (i : Int) a) (fun s => PcC q (drp P i) s ∧ zOff (pM q) a s) := by
  have pw := pw_le hw
  have e2 := zShl_1 (w := i) (by omega)
  have p2 := pw_le (w := i) (by omega)
  have ph := pw_h (w := P.2.2) (by omega)
  have e3 := zShl_1 (w := P.2.2 - 1) (by omega)
  unfold q_Mapper_remove
  rw [if_pos (by omega), ok_l, e2, if_pos (by omega), ok_l, gtN]
  refine ok_b1 (fun s => zOff (fun k _ => k = 42 + q) a s ∧ ∀ n, n < 2 ^ (P.2.2 - 1) → s.1 (42 + q) n = P.1 (insB i n)) ?_ fun s ⟨s1, s2⟩ => ?_
  · refine it_for (fun (n : Nat) (t : gZ) => ((n : Int), t)) (fun n t => zOff (fun k _ => k = 42 + q) a t ∧ (∀ m, m < n → t.1 (42 + q) m = P.1 (insB i m)) ∧ ∀ m, n ≤ m → m < 2 ^ P.2.2 → t.1 (42 + q) m = P.1 m) 0 (2 ^ (P.2.2 - 1)) rfl ⟨off_r, fun m hm => by omega, fun m _ hm => h.1 m hm⟩ (Nat.zero_le _) (by omega) ?_ ?_
    · rintro n t - hn ⟨t1, t2, t3⟩
      show zOk (q_Mapper_remove_18 E (kL c) (42 + q) (q : Int) (P.2.2 : Int) (i : Int) (((2 ^ i : Nat) : Int) - 1) (n : Int) t) _
      have ib := ins_b hi hn
      have il := ins_le i n
      unfold q_Mapper_remove_18
      rw [if_pos (by omega), show (P.2.2 : Int) - 1 = ((P.2.2 - 1 : Nat) : Int) by omega, e3, if_neg (by omega), ins_z (by omega) (by omega), kL_tb hq, if_pos (by omega), if_pos (by omega), ok_l, ok_l, gtN, gtN, t3 _ il ib]
      have b := hb _ ib
      rw [zByte_s _ (by unfold b01 at b; omega)]
      refine ok_inl (Or.inl ⟨_, by rw [show ((n + 1 : Nat) : Int) = (n : Int) + 1 by omega], off_t t1 (off_put rfl), fun m hm => ?_, fun m m1 m2 => ?_⟩)
      · rw [zp1, if_pos rfl]
        by_cases y : m = n
        · rw [if_pos y, y]
        · rw [if_neg y]; exact t2 m (by omega)
      · rw [zp_n (by omega)]; exact t3 m (by omega) m2
    · rintro t ⟨t1, t2, -⟩
      show zOk (q_Mapper_remove_18 E (kL c) (42 + q) (q : Int) (P.2.2 : Int) (i : Int) (((2 ^ i : Nat) : Int) - 1) ((2 ^ (P.2.2 - 1) : Nat) : Int) t) _
      unfold q_Mapper_remove_18
      rw [if_pos (by omega), show (P.2.2 : Int) - 1 = ((P.2.2 - 1 : Nat) : Int) by omega, e3, if_pos (by omega)]
      exact ok_inr ⟨t, rfl, t1, t2⟩
  · rw [ok_l, ok_l, if_pos (by omega), if_pos (by omega), kL_sr hq, if_pos (by omega), ok_l]
    refine ok_so ⟨⟨fun n hn => ?_, fun j hj => ?_⟩, off_t (off_w s1 fun k j x => Or.inl x) (off_row fun j => Or.inr rfl)⟩
    · rw [zr_ne _ _ _ _ (by omega)]; exact s2 n hn
    · have hj : j < P.2.2 - 1 := hj
      rw [zr_eq]
      show zCpy _ _ _ _ _ j = if j < i then P.2.1 j else P.2.1 (j + 1)
      unfold zCpy
      by_cases y : j < i
      · rw [if_neg (by omega), if_pos y, s1.2 _ _ (by omega)]; exact h.2 j (by omega)
      · rw [if_pos (by omega), if_neg y, show ((i : Int) + 1).toNat + (j - ((i : Int)).toNat) = j + 1 by omega, s1.2 _ _ (by omega)]; exact h.2 (j + 1) (by omega)
theorem s_leaveC (hq : q < 5) : ∀ (i : Nat) (P : Pc) (a : gZ) (k : Nat), i ≤ P.2.2 → P.2.2 ≤ 8 → PcC q P a → bPc P → i < k → zOk (gIter (fun y => q_Mapper_leaveOut_7 E (kL c) (q : Int) y.1 y.2.1 y.2.2) k ((P.2.2 : Int), (i : Int) - 1, a)) (fun r => r.1 = ((lo i P).2.2 : Nat) ∧ PcC q (lo i P) r.2 ∧ zOff (pM q) a r.2) := by
  intro i
  induction i with
  | zero =>
    intro P a k h1 h2 h3 h4 hk
    obtain ⟨k, rfl⟩ : ∃ k', k = k' + 1 := ⟨k - 1, by omega⟩
    refine ⟨((P.2.2 : Int), a), it_end ?_, rfl, h3, off_r⟩
    show q_Mapper_leaveOut_7 E (kL c) (q : Int) (P.2.2 : Int) (((0 : Nat) : Int) - 1) a = _
    unfold q_Mapper_leaveOut_7
    rw [if_pos (by omega)]
  | succ i ih =>
    intro P a k h1 h2 h3 h4 hk
    obtain ⟨k, rfl⟩ : ∃ k', k = k' + 1 := ⟨k - 1, by omega⟩
    rw [show ((i + 1 : Nat) : Int) - 1 = (i : Int) by omega]
    by_cases x : dep P.1 P.2.2 i
    · have st : q_Mapper_leaveOut_7 E (kL c) (q : Int) (P.2.2 : Int) (i : Int) a = some (.inl ((P.2.2 : Int), (i : Int) - 1, a)) := by
        unfold q_Mapper_leaveOut_7
        rw [if_neg (by omega), s_dependsC hq h2 h1 h3, b1_s, dI_t x, if_neg (by decide), if_pos (by omega), let_s, show (i : Int) + -1 = (i : Int) - 1 by omega]
      rw [it_step st]
      have := ih P a k (by omega) h2 h3 h4 (by omega)
      rw [lo, lo1_t x]; exact this
    · obtain ⟨s, hs, s1, s2⟩ := s_removeC (E := E) (c := c) hq h2 h1 h3 h4
      have st : q_Mapper_leaveOut_7 E (kL c) (q : Int) (P.2.2 : Int) (i : Int) a = some (.inl (((P.2.2 - 1 : Nat) : Int), (i : Int) - 1, s)) := by
        unfold q_Mapper_leaveOut_7
        rw [if_neg (by omega), s_dependsC hq h2 h1 h3, b1_s, dI_f x, if_pos rfl, hs, b1_s, if_pos (by omega), let_s, if_pos (by omega), let_s, show (i : Int) + -1 = (i : Int) - 1 by omega, show (P.2.2 : Int) + -1 = ((P.2.2 - 1 : Nat) : Int) by omega]
      rw [it_step st]
      have := ih (drp P i) s k (by show i ≤ P.2.2 - 1; omega) (by show P.2.2 - 1 ≤ 8; omega) s1 (fun n hn => h4 _ (ins_b h1 hn)) (by omega)
      rw [lo, lo1_f x]
      exact ok_w this fun r ⟨r1, r2, r3⟩ => ⟨r1, r2, off_t s2 r3⟩
theorem s_loC (hq : q < 5) (hw : P.2.2 ≤ 8) (h : PcC q P a) (hb : bPc P) : zOk (q_Mapper_leaveOut E (kL c) (q : Int) (P.2.2 : Int) a) (fun r => r.1 = ((lo P.2.2 P).2.2 : Nat) ∧ PcC q (lo P.2.2 P) r.2 ∧ zOff (pM q) a r.2) := by
  unfold q_Mapper_leaveOut
  rw [if_pos (by omega), ok_l]
  refine ok_b1 _ (s_leaveC hq P.2.2 P a gN (Nat.le_refl _) hw h hb (by unfold gN; omega)) fun r hr => ok_so hr
/-- the class's look-up tables -/
def UC (c : gCf) (U : Ut) (a : gZ) : Prop := a.1 30 10 = U.2.2 ∧ a.1 30 0 = kP c ∧ (∀ j, j < 4 * U.2.2 → j < 4 * kP c → a.1 35 j = U.1 j) ∧ ∀ l, l < U.2.2 → l < kP c → a.1 36 l = U.2.1 l
def pU (k j : Nat) : Prop := (k = 30 ∧ j = 10) ∨ k = 35 ∨ k = 36
theorem UC_o {U : Ut} {a s : gZ} {Q : Nat → Nat → Prop} (h : UC c U a) (o : zOff Q a s) (hQ : ∀ k j, Q k j → k ≠ 30 ∧ k ≠ 35 ∧ k ≠ 36) : UC c U s := by
  obtain ⟨h1, h2, h3, h4⟩ := h
  exact ⟨by rw [o.2 30 10 fun x => (hQ _ _ x).1 rfl]; exact h1, by rw [o.2 30 0 fun x => (hQ _ _ x).1 rfl]; exact h2, fun j a b => by rw [o.2 35 j fun x => (hQ _ _ x).2.1 rfl]; exact h3 j a b, fun l a b => by rw [o.2 36 l fun x => (hQ _ _ x).2.2 rfl]; exact h4 l a b⟩
theorem s_addLut {U : Ut} {p : Nat → Int} {tb : Int} {k0 w : Nat} (hk : kOk c) (hL : kL c k0 = 8) (hk0 : ¬ pU k0 0 ∧ k0 ≠ 30) (hw : w ≤ 4) (h : UC c U a) (hu : U.2.2 ≤ 100000) (hp : ∀ i, i < 4 → p i = if i < w then a.1 k0 i else -1) : zOk (q_Circuit_addLut E (kL c) k0 (w : Int) tb a) (fun r => r.1 = ((400 + U.2.2 : Nat) : Int) ∧ UC c (adL U p tb) r.2 ∧ zOff pU a r.2) := by
  obtain ⟨h1, h2, h3, h4⟩ := h
  have hP := kP_b hk
  have j64 : ∀ s : gZ, zOff pU a s → s.1 30 10 = U.2.2 → s.1 30 0 = kP c → (∀ j, j < 4 * (U.2.2 + 1) → j < 4 * kP c → s.1 35 j = (adL U p tb).1 j) → (∀ l, l < U.2.2 + 1 → l < kP c → s.1 36 l = (adL U p tb).2.1 l) → zOk (q_Circuit_addLut_j64 E (kL c) k0 s) (fun r => r.1 = ((400 + U.2.2 : Nat) : Int) ∧ UC c (adL U p tb) r.2 ∧ zOff pU a r.2) := fun s o s1 s2 s3 s4 => by
    unfold q_Circuit_addLut_j64
    rw [s1, if_pos (by omega), ok_l, zp_eq, if_pos (by omega)]
    refine ok_so ⟨?_, ⟨?_, ?_, ?_, ?_⟩, off_t o (off_put (Or.inl ⟨rfl, rfl⟩))⟩
    · show (400 : Int) + ((U.2.2 : Int) + 1) - 1 = _
      omega
    · rw [zp_eq]; show (U.2.2 : Int) + 1 = ((U.2.2 + 1 : Nat) : Int); omega
    · rw [zp_n (by omega)]; exact s2
    · intro j a b; rw [zp_n (by omega)]; exact s3 j a b
    · intro l a b; rw [zp_n (by omega)]; exact s4 l a b
  unfold q_Circuit_addLut
  rw [h2, h1]
  by_cases x : kP c ≤ U.2.2
  · rw [if_pos (by omega)]
    refine j64 a off_r h1 h2 (fun j _ b => ?_) fun l _ b => ?_
    · rw [h3 j (by omega) b, (adL_x U p tb).2.1 j (by omega)]
    · rw [h4 l (by omega) b, (adL_x U p tb).2.2 l (by omega)]
  · rw [if_neg (by omega)]
    refine ok_b1 (fun s => zOff (fun k j => k = 35 ∧ 4 * U.2.2 ≤ j ∧ j < 4 * U.2.2 + 4) a s ∧ ∀ i, i < 4 → s.1 35 (4 * U.2.2 + i) = p i) ?_ fun s ⟨s1, s2⟩ => ?_
    · refine it_for (fun (i : Nat) (t : gZ) => ((i : Int), t)) (fun i t => zOff (fun k j => k = 35 ∧ 4 * U.2.2 ≤ j ∧ j < 4 * U.2.2 + 4) a t ∧ ∀ j, j < i → t.1 35 (4 * U.2.2 + j) = p j) 0 4 rfl ⟨off_r, fun j hj => by omega⟩ (by omega) (by omega) ?_ ?_
      · rintro i t - hi ⟨t1, t2⟩
        show zOk (q_Circuit_addLut_14 E (kL c) k0 (w : Int) tb (i : Int) t) _
        have fin : zOk (q_Circuit_addLut_j47_14 E (kL c) k0 (w : Int) tb (i : Int) ((4 * U.2.2 + i : Nat) : Int) (p i) t) (fun r => (∃ t', r = .inl (((i + 1 : Nat) : Int), t') ∧ zOff (fun k j => k = 35 ∧ 4 * U.2.2 ≤ j ∧ j < 4 * U.2.2 + 4) a t' ∧ ∀ j, j < i + 1 → t'.1 35 (4 * U.2.2 + j) = p j) ∨ ∃ e, r = .inr e ∧ zOff (fun k j => k = 35 ∧ 4 * U.2.2 ≤ j ∧ j < 4 * U.2.2 + 4) a e ∧ ∀ i, i < 4 → e.1 35 (4 * U.2.2 + i) = p i) := by
          unfold q_Circuit_addLut_j47_14
          rw [kL_35, if_pos (by omega), ok_l, if_pos (by omega), ok_l, gtN]
          refine ok_inl (Or.inl ⟨_, by rw [show ((i + 1 : Nat) : Int) = (i : Int) + 1 by omega], off_t t1 (off_put (by omega)), fun j hj => ?_⟩)
          rw [zp1, if_pos rfl]
          by_cases y : j = i
          · rw [if_pos (by omega), y]
          · rw [if_neg (by omega)]; exact t2 j (by omega)
        have t10 : t.1 30 10 = U.2.2 := by rw [t1.2 30 10 (by omega)]; exact h1
        unfold q_Circuit_addLut_14
        rw [if_neg (by omega), t10, show (U.2.2 : Int) * 4 + (i : Int) = ((4 * U.2.2 + i : Nat) : Int) by omega]
        have pe := hp i hi
        by_cases y : i < w
        · rw [if_pos y] at pe
          rw [if_neg (by omega), hL, if_pos (by omega), if_pos (by omega), gtN, t1.2 k0 i (by unfold pU at hk0; omega), ← pe]
          exact fin
        · rw [if_neg y] at pe
          rw [if_pos (by omega), if_pos (by omega), ← pe]
          exact fin
      · rintro t ⟨t1, t2⟩
        show zOk (q_Circuit_addLut_14 E (kL c) k0 (w : Int) tb ((4 : Nat) : Int) t) _
        unfold q_Circuit_addLut_14
        rw [if_pos (by omega)]
        exact ok_inr ⟨t, rfl, t1, t2⟩
    · have s10 : s.1 30 10 = U.2.2 := by rw [s1.2 30 10 (by omega)]; exact h1
      rw [s10, kL_36, if_pos (by omega), ok_l, gtN]
      refine j64 _ (off_t (off_w s1 fun k j y => Or.inr (Or.inl y.1)) (off_put (Or.inr (Or.inr rfl)))) (by rw [zp_n (by omega)]; exact s10) (by rw [zp_n (by omega), s1.2 30 0 (by omega)]; exact h2) (fun j b1 b2 => ?_) fun l b1 b2 => ?_
      · rw [zp_n (by omega)]
        show _ = if 4 * U.2.2 ≤ j ∧ j < 4 * U.2.2 + 4 then p (j - 4 * U.2.2) else U.1 j
        by_cases y : 4 * U.2.2 ≤ j
        · rw [if_pos (by omega), ← s2 _ (by omega), show 4 * U.2.2 + (j - 4 * U.2.2) = j by omega]
        · rw [if_neg (by omega), s1.2 35 j (by omega)]; exact h3 j (by omega) b2
      · rw [zp1, if_pos rfl]
        show _ = if l = U.2.2 then tb else U.2.1 l
        by_cases y : l = U.2.2
        · rw [if_pos y, if_pos y]
        · rw [if_neg y, if_neg y, s1.2 36 l (by omega)]; exact h4 l (by omega) b2
end
end
