set_option linter.unusedVariables false
-- KE
section
variable {E : gEv} {c : gCf}
/-- level q of the reference's pieces -/
def PcM (q : Nat) (P : Pc) (b : gZ) : Prop := (∀ n, n < 2 ^ P.2.2 → b.1 120 (256 * q + n) = P.1 n) ∧ (∀ j, j < P.2.2 → b.1 121 (8 * q + j) = P.2.1 j) ∧ b.1 122 q = P.2.2
def pR (q k j : Nat) : Prop := (k = 120 ∧ 256 * q ≤ j ∧ j < 256 * q + 256) ∨ (k = 121 ∧ 8 * q ≤ j ∧ j < 8 * q + 8) ∨ (k = 122 ∧ j = q)
def hld (P : Pc) (i v : Nat) : Pc := (fun n => P.1 (insB i n + v * 2 ^ i), fun j => if j < i then P.2.1 j else P.2.1 (j + 1), P.2.2 - 1)
theorem hld_0 (P : Pc) (i : Nat) : hld P i 0 = drp P i := by
  unfold hld drp
  have : (fun n => P.1 (insB i n + 0 * 2 ^ i)) = fun n => P.1 (insB i n) := funext fun n => by rw [Nat.zero_mul, Nat.add_zero]
  rw [this]
theorem tb_dm (n i : Nat) : n.testBit i = decide (n / 2 ^ i % 2 = 1) := Nat.testBit_eq_decide_div_mod_eq
theorem ins_v {i n v w : Nat} (hi : i < w) (hv : v < 2) (hn : n < 2 ^ (w - 1)) : insB i n + v * 2 ^ i < 2 ^ w := by
  have h1 := ins_b hi hn
  rcases (show v = 0 ∨ v = 1 by omega) with y | y
  · subst y; omega
  · subst y
    rw [Nat.one_mul]
    have e : insB i n + 2 ^ i = insB i n ||| 2 ^ i := by
      have hb : (insB i n).testBit i = false := by rw [ins_t, if_neg (by omega), if_pos rfl]
      have h2 : 2 ^ (i + 1) = 2 ^ i + 2 ^ i := by rw [Nat.pow_succ]; omega
      have hm : n % 2 ^ i < 2 ^ i := Nat.mod_lt _ (Nat.two_pow_pos i)
      apply Nat.eq_of_testBit_eq
      intro j
      rw [Nat.testBit_or, Nat.testBit_two_pow]
      unfold insB at hb ⊢
      rw [show 2 ^ (i + 1) * (n / 2 ^ i) + n % 2 ^ i + 2 ^ i = 2 ^ (i + 1) * (n / 2 ^ i) + (2 ^ i + n % 2 ^ i) by omega, Nat.testBit_two_pow_mul_add _ (by omega), Nat.testBit_two_pow_mul_add _ (by omega)]
      have o := Nat.two_pow_add_eq_or_of_lt hm 1
      rw [Nat.mul_one] at o
      rw [o, Nat.testBit_or, Nat.testBit_two_pow]
      by_cases x : j < i + 1
      · rw [if_pos x, if_pos x, Bool.or_comm]
      · rw [if_neg x, if_neg x, decide_eq_false (by omega), Bool.or_false]
    rw [e]
    exact or_b hi h1
section
variable {q i v : Nat} {P : Pc} {b : gZ}
theorem s_dependsM (hq : q < 10) (hw : P.2.2 ≤ 8) (hi : i < P.2.2) (h : PcM q P b) : q_Model_depends E (kL c) (q : Int) (i : Int) b = some (dI (dep P.1 P.2.2 i)) := by
  have pw := pw_le hw
  have e2 := zShl_1 (w := i) (by omega)
  have p2 := pw_le (w := i) (by omega)
  unfold q_Model_depends
  have st : ∀ n : Nat, n < 2 ^ P.2.2 → q_Model_depends_2 E (kL c) (q : Int) (i : Int) (n : Int) b = if P.1 n = P.1 (n ^^^ 2 ^ i) then some (.inl ((n : Int) + 1)) else some (.inr (.inl ())) := fun n hn => by
    have ob := xor_b hi hn
    unfold q_Model_depends_2
    rw [kL_122, if_pos (by omega), gtN, h.2.2, zShl_1 hw, if_neg (by omega), kL_120, show (256 * (q : Int) + (n : Int)) = ((256 * q + n : Nat) : Int) by omega, if_pos (by omega), e2, zXor_n _ _ (by omega) (by omega), show (256 * (q : Int) + ((n ^^^ 2 ^ i : Nat) : Int)) = ((256 * q + (n ^^^ 2 ^ i) : Nat) : Int) by omega, if_pos (by omega), gtN, gtN, h.1 n hn, h.1 _ ob, let_s]
  have F := it_find (f := fun y => q_Model_depends_2 E (kL c) (q : Int) (i : Int) y b) (fun n => P.1 n ≠ P.1 (n ^^^ 2 ^ i)) (fun _ => Sum.inl ()) 0 (2 ^ P.2.2) (e := Sum.inr ()) (s := 0) rfl (Nat.zero_le _) (by omega) (fun n _ hn hp => by
      show q_Model_depends_2 E (kL c) (q : Int) (i : Int) (n : Int) b = _
      rw [st n hn, if_pos (Classical.not_not.1 hp)]) (fun n _ hn hp => by
      show q_Model_depends_2 E (kL c) (q : Int) (i : Int) (n : Int) b = _
      rw [st n hn, if_neg hp]) (by
      show q_Model_depends_2 E (kL c) (q : Int) (i : Int) ((2 ^ P.2.2 : Nat) : Int) b = _
      unfold q_Model_depends_2
      rw [kL_122, if_pos (by omega), gtN, h.2.2, zShl_1 hw, if_pos (by omega)])
  rcases F with ⟨n, -, n1, n2, -, n3⟩ | ⟨j1, j2⟩
  · rw [n3, b1_s, gs_l, dI_t ⟨n, n1, n2⟩]
  · rw [j2, b1_s, gs_r, dI_f]
    rintro ⟨n, n1, n2⟩
    exact j1 n (by omega) n1 n2
theorem s_holdM (hq : q < 10) (hv : v < 2) (hw : P.2.2 ≤ 8) (hi : i < P.2.2) (h : PcM q P b) (hb : bPc P) : zOk (q_Model_hold E (kL c) (q : Int) (i : Int) (v : Int) b) (fun s => PcM q (hld P i v) s ∧ zOff (pR q) b s) := by
  have pw := pw_le hw
  have ph := pw_h (w := P.2.2) (by omega)
  unfold q_Model_hold
  rw [kL_122, if_pos (by omega), ok_l, gtN, h.2.2]
  refine ok_b1 (fun s => zOff (fun k j => k = 120 ∧ 256 * q ≤ j ∧ j < 256 * q + 256) b s ∧ ∀ n, n < 2 ^ (P.2.2 - 1) → s.1 120 (256 * q + n) = P.1 (insB i n + v * 2 ^ i)) ?_ fun s ⟨s1, s2⟩ => ?_
  · refine it_for (fun (n : Nat) (t : gZ) => ((rk i v n : Int), (n : Int), t)) (fun n t => zOff (fun k j => k = 120 ∧ 256 * q ≤ j ∧ j < 256 * q + 256) b t ∧ (∀ m, m < rk i v n → t.1 120 (256 * q + m) = P.1 (insB i m + v * 2 ^ i)) ∧ ∀ m, rk i v n ≤ m → m < 2 ^ P.2.2 → t.1 120 (256 * q + m) = P.1 m) 0 (2 ^ P.2.2) rfl ⟨off_r, fun m hm => by rw [rk] at hm; omega, fun m _ hm => h.1 m hm⟩ (Nat.zero_le _) (by omega) ?_ ?_
    · rintro n t - hn ⟨t1, t2, t3⟩
      show zOk (q_Model_hold_14 E (kL c) (q : Int) (i : Int) (v : Int) (P.2.2 : Int) (rk i v n : Int) (n : Int) t) _
      have rl := rk_le (i := i) (v := v) n
      have hbit := zBit_atS (n : Int) i (by omega)
      rw [zB_n _ _ (by omega), tb_dm] at hbit
      have hlt : n / 2 ^ i % 2 < 2 := Nat.mod_lt _ (by omega)
      have hz : zAnd (zShr (n : Int) (i : Int)) 1 = ((n / 2 ^ i % 2 : Nat) : Int) := by
        rw [hbit]
        by_cases y : n / 2 ^ i % 2 = 1
        · rw [decide_eq_true y, if_pos rfl, y]; rfl
        · rw [decide_eq_false y, if_neg (by decide)]; omega
      unfold q_Model_hold_14
      rw [zShl_1 hw, if_neg (by omega), hz]
      refine ok_br (fun y => ?_) fun y => ?_
      · have y : n / 2 ^ i % 2 = v := by omega
        have ri := rk_ins (i := i) (by omega) hv y
        have bn := hb n hn
        have rs : rk i v (n + 1) = rk i v n + 1 := by rw [rk, if_pos y]
        rw [kL_120, show (256 * (q : Int) + (n : Int)) = ((256 * q + n : Nat) : Int) by omega, if_pos (by omega), show (256 * (q : Int) + (rk i v n : Int)) = ((256 * q + rk i v n : Nat) : Int) by omega, if_pos (by omega), ok_l, if_pos (by omega), ok_l, ok_l, gtN, gtN, t3 n rl hn, zBool_n _ bn]
        refine ok_inl (Or.inl ⟨_, by rw [rs, show ((n + 1 : Nat) : Int) = (n : Int) + 1 by omega, show ((rk i v n + 1 : Nat) : Int) = (rk i v n : Int) + 1 by omega], off_t t1 (off_put (by omega)), fun m hm => ?_, fun m m1 m2 => ?_⟩)
        · rw [zp1, if_pos rfl]
          by_cases u : m = rk i v n
          · rw [if_pos (by omega), u, ri]
          · rw [if_neg (by omega)]; exact t2 m (by omega)
        · rw [zp_n (by omega)]; exact t3 m (by omega) m2
      · have y : ¬ n / 2 ^ i % 2 = v := by omega
        have rs : rk i v (n + 1) = rk i v n := by rw [rk, if_neg y]; rfl
        rw [ok_l]
        refine ok_inl (Or.inl ⟨t, by rw [rs, show ((n + 1 : Nat) : Int) = (n : Int) + 1 by omega], t1, ?_, ?_⟩)
        · rw [rs]; exact t2
        · rw [rs]; exact t3
    · rintro t ⟨t1, t2, -⟩
      show zOk (q_Model_hold_14 E (kL c) (q : Int) (i : Int) (v : Int) (P.2.2 : Int) (rk i v (2 ^ P.2.2) : Int) ((2 ^ P.2.2 : Nat) : Int) t) _
      unfold q_Model_hold_14
      rw [zShl_1 hw, if_pos (by omega)]
      rw [rk_end hi hw hv] at t2
      exact ok_inr ⟨t, rfl, t1, t2⟩
  · refine ok_b1 (fun t => zOff (fun k j => k = 121 ∧ 8 * q ≤ j ∧ j < 8 * q + 8) s t ∧ ∀ j, j < P.2.2 - 1 → t.1 121 (8 * q + j) = if j < i then P.2.1 j else P.2.1 (j + 1)) ?_ fun t ⟨t1, t2⟩ => ?_
    · refine it_for (fun (j : Nat) (t : gZ) => ((j : Int), t)) (fun k t => zOff (fun k j => k = 121 ∧ 8 * q ≤ j ∧ j < 8 * q + 8) s t ∧ ∀ j, j < P.2.2 → t.1 121 (8 * q + j) = if j < i ∨ k ≤ j then P.2.1 j else P.2.1 (j + 1)) i (P.2.2 - 1) rfl ⟨off_r, fun j hj => by rw [if_pos (by omega), s1.2 121 _ (by omega)]; exact h.2.1 j hj⟩ (by omega) (by omega) ?_ ?_
      · rintro k t hk1 hk2 ⟨t1, t2⟩
        show zOk (q_Model_hold_71 E (kL c) (q : Int) (P.2.2 : Int) (k : Int) t) _
        unfold q_Model_hold_71
        rw [if_pos (by omega), if_neg (by omega), kL_121, show (8 * (q : Int) + (k : Int)) + 1 = ((8 * q + (k + 1) : Nat) : Int) by omega, if_pos (by omega), show (8 * (q : Int) + (k : Int)) = ((8 * q + k : Nat) : Int) by omega, if_pos (by omega), ok_l, ok_l, gtN, gtN, t2 (k + 1) (by omega), if_pos (by omega)]
        refine ok_inl (Or.inl ⟨_, by rw [show ((k + 1 : Nat) : Int) = (k : Int) + 1 by omega], off_t t1 (off_put (by omega)), fun j hj => ?_⟩)
        rw [zp1, if_pos rfl]
        by_cases u : j = k
        · rw [if_pos (by omega), if_neg (by omega), u]
        · rw [if_neg (by omega), t2 j hj]
          by_cases w : j < i ∨ k ≤ j
          · rw [if_pos w, if_pos (by omega)]
          · rw [if_neg w, if_neg (by omega)]
      · rintro t ⟨t1, t2⟩
        show zOk (q_Model_hold_71 E (kL c) (q : Int) (P.2.2 : Int) ((P.2.2 - 1 : Nat) : Int) t) _
        unfold q_Model_hold_71
        rw [if_pos (by omega), if_pos (by omega)]
        refine ok_inr ⟨t, rfl, t1, fun j hj => ?_⟩
        rw [t2 j (by omega)]
        by_cases w : j < i
        · rw [if_pos (Or.inl w), if_pos w]
        · rw [if_neg (by omega), if_neg w]
    · have t122 : t.1 122 q = P.2.2 := by rw [t1.2 122 q (by omega), s1.2 122 q (by omega)]; exact h.2.2
      rw [t122, if_pos (by omega), ok_l]
      refine ok_so ⟨⟨fun n hn => ?_, fun j hj => ?_, ?_⟩, off_t (off_w s1 fun k j x => Or.inl x) (off_t (off_w t1 fun k j x => Or.inr (Or.inl x)) (off_put (Or.inr (Or.inr ⟨rfl, rfl⟩))))⟩
      · rw [zp_n (by omega), t1.2 120 _ (by omega)]; exact s2 n hn
      · rw [zp_n (by omega)]; exact t2 j hj
      · rw [zp_eq]; show (P.2.2 : Int) - 1 = ((P.2.2 - 1 : Nat) : Int); omega
theorem s_leaveM {l3 : Int} (hq : q < 10) : ∀ (i : Nat) (P : Pc) (b : gZ) (k : Nat), i ≤ P.2.2 → P.2.2 ≤ 8 → PcM q P b → bPc P → i < k → zOk (gIter (fun y => q_Model_map_118 E (kL c) (q : Int) l3 y.1 y.2) k ((i : Int) - 1, b)) (fun s => PcM q (lo i P) s ∧ zOff (pR q) b s) := by
  intro i
  induction i with
  | zero =>
    intro P b k h1 h2 h3 h4 hk
    obtain ⟨k, rfl⟩ : ∃ k', k = k' + 1 := ⟨k - 1, by omega⟩
    refine ⟨b, it_end ?_, h3, off_r⟩
    show q_Model_map_118 E (kL c) (q : Int) l3 (((0 : Nat) : Int) - 1) b = _
    unfold q_Model_map_118
    rw [if_pos (by omega)]
  | succ i ih =>
    intro P b k h1 h2 h3 h4 hk
    obtain ⟨k, rfl⟩ : ∃ k', k = k' + 1 := ⟨k - 1, by omega⟩
    rw [show ((i + 1 : Nat) : Int) - 1 = (i : Int) by omega]
    by_cases x : dep P.1 P.2.2 i
    · have st : q_Model_map_118 E (kL c) (q : Int) l3 (i : Int) b = some (.inl ((i : Int) - 1, b)) := by
        unfold q_Model_map_118
        rw [if_neg (by omega), s_dependsM hq h2 h1 h3, b1_s, dI_t x, if_neg (by decide), if_pos (by omega), let_s, show (i : Int) + -1 = (i : Int) - 1 by omega]
      rw [it_step st]
      have := ih P b k (by omega) h2 h3 h4 (by omega)
      rw [lo, lo1_t x]; exact this
    · obtain ⟨s, hs, s1, s2⟩ := s_holdM (E := E) (c := c) (v := 0) hq (by omega) h2 h1 h3 h4
      rw [hld_0] at s1
      rw [show ((0 : Nat) : Int) = 0 from rfl] at hs
      have st : q_Model_map_118 E (kL c) (q : Int) l3 (i : Int) b = some (.inl ((i : Int) - 1, s)) := by
        unfold q_Model_map_118
        rw [if_neg (by omega), s_dependsM hq h2 h1 h3, b1_s, dI_f x, if_pos rfl, hs, b1_s, if_pos (by omega), let_s, show (i : Int) + -1 = (i : Int) - 1 by omega]
      rw [it_step st]
      have := ih (drp P i) s k (by show i ≤ P.2.2 - 1; omega) (by show P.2.2 - 1 ≤ 8; omega) s1 (fun n hn => h4 _ (ins_b h1 hn)) (by omega)
      rw [lo, lo1_f x]
      exact ok_w this fun r ⟨r2, r3⟩ => ⟨r2, off_t s2 r3⟩
/-- the reference's look-up tables -/
def UM (U : Ut) (b : gZ) : Prop := b.1 94 46 = U.2.2 ∧ (∀ j, j < 4 * U.2.2 → b.1 117 j = U.1 j) ∧ ∀ l, l < U.2.2 → b.1 118 l = U.2.1 l
def pUm (k j : Nat) : Prop := (k = 94 ∧ j = 46) ∨ k = 117 ∨ k = 118
theorem UM_o {U : Ut} {a s : gZ} {Q : Nat → Nat → Prop} (h : UM U a) (o : zOff Q a s) (hQ : ∀ k j, Q k j → k ≠ 94 ∧ k ≠ 117 ∧ k ≠ 118) : UM U s := by
  obtain ⟨h1, h3, h4⟩ := h
  exact ⟨by rw [o.2 94 46 fun x => (hQ _ _ x).1 rfl]; exact h1, fun j a => by rw [o.2 117 j fun x => (hQ _ _ x).2.1 rfl]; exact h3 j a, fun l a => by rw [o.2 118 l fun x => (hQ _ _ x).2.2 rfl]; exact h4 l a⟩
theorem s_newLut {U : Ut} {p : Nat → Int} {tb : Int} (h : UM U b) (hu : U.2.2 < 5000) : zOk (q_Model_newLut E (kL c) (p 0) (p 1) (p 2) (p 3) tb b) (fun r => r.1 = ((400 + U.2.2 : Nat) : Int) ∧ UM (adL U p tb) r.2 ∧ zOff pUm b r.2) := by
  obtain ⟨h1, h2, h3⟩ := h
  unfold q_Model_newLut
  rw [h1, show 4 * (U.2.2 : Int) = ((4 * U.2.2 : Nat) : Int) by omega, kL_117, if_pos (by omega), ok_l, gtN]
  generalize hs1 : zPut b 117 (4 * U.2.2) (p 0) = s1
  have g1 : s1.1 94 46 = U.2.2 := by rw [← hs1]; exact h1
  rw [g1, show 4 * (U.2.2 : Int) + 1 = ((4 * U.2.2 + 1 : Nat) : Int) by omega, if_pos (by omega), ok_l, gtN]
  generalize hs2 : zPut s1 117 (4 * U.2.2 + 1) (p 1) = s2
  have g2 : s2.1 94 46 = U.2.2 := by rw [← hs2]; exact g1
  rw [g2, show 4 * (U.2.2 : Int) + 2 = ((4 * U.2.2 + 2 : Nat) : Int) by omega, if_pos (by omega), ok_l, gtN]
  generalize hs3 : zPut s2 117 (4 * U.2.2 + 2) (p 2) = s3
  have g3 : s3.1 94 46 = U.2.2 := by rw [← hs3]; exact g2
  rw [g3, show 4 * (U.2.2 : Int) + 3 = ((4 * U.2.2 + 3 : Nat) : Int) by omega, if_pos (by omega), ok_l, gtN]
  generalize hs4 : zPut s3 117 (4 * U.2.2 + 3) (p 3) = s4
  have g4 : s4.1 94 46 = U.2.2 := by rw [← hs4]; exact g3
  rw [g4, kL_118, if_pos (by omega), ok_l, gtN]
  generalize hs5 : zPut s4 118 U.2.2 tb = s5
  have g5 : s5.1 94 46 = U.2.2 := by rw [← hs5]; exact g4
  rw [g5, if_pos (by omega), ok_l, zp_eq, if_pos (by omega)]
  have o : zOff pUm b s5 := by
    rw [← hs5, ← hs4, ← hs3, ← hs2, ← hs1]
    exact off_t (off_put (Or.inr (Or.inl rfl))) (off_t (off_put (Or.inr (Or.inl rfl))) (off_t (off_put (Or.inr (Or.inl rfl))) (off_t (off_put (Or.inr (Or.inl rfl))) (off_put (Or.inr (Or.inr rfl))))))
  refine ok_so ⟨?_, ⟨?_, fun j hj => ?_, fun l hl => ?_⟩, off_t o (off_put (Or.inl ⟨rfl, rfl⟩))⟩
  · show (400 : Int) + ((U.2.2 : Int) + 1) - 1 = _
    omega
  · rw [zp_eq]; show (U.2.2 : Int) + 1 = ((U.2.2 + 1 : Nat) : Int); omega
  · have hj : j < 4 * (U.2.2 + 1) := hj
    show (zPut s5 94 46 ((U.2.2 : Int) + 1)).1 117 j = if 4 * U.2.2 ≤ j ∧ j < 4 * U.2.2 + 4 then p (j - 4 * U.2.2) else U.1 j
    rw [zp_n (by omega), ← hs5, zp_n (by omega), ← hs4, ← hs3, ← hs2, ← hs1]
    by_cases y : 4 * U.2.2 ≤ j
    · rw [if_pos (by omega)]
      rcases (show j = 4 * U.2.2 ∨ j = 4 * U.2.2 + 1 ∨ j = 4 * U.2.2 + 2 ∨ j = 4 * U.2.2 + 3 by omega) with u | u | u | u
      · rw [zp_n (by omega), zp_n (by omega), zp_n (by omega), u, zp_eq, show 4 * U.2.2 - 4 * U.2.2 = 0 by omega]
      · rw [zp_n (by omega), zp_n (by omega), u, zp_eq, show 4 * U.2.2 + 1 - 4 * U.2.2 = 1 by omega]
      · rw [zp_n (by omega), u, zp_eq, show 4 * U.2.2 + 2 - 4 * U.2.2 = 2 by omega]
      · rw [u, zp_eq, show 4 * U.2.2 + 3 - 4 * U.2.2 = 3 by omega]
    · rw [if_neg (by omega), zp_n (by omega), zp_n (by omega), zp_n (by omega), zp_n (by omega)]
      exact h2 j (by omega)
  · have hl : l < U.2.2 + 1 := hl
    show (zPut s5 94 46 ((U.2.2 : Int) + 1)).1 118 l = if l = U.2.2 then tb else U.2.1 l
    rw [zp_n (by omega), ← hs5, zp1, if_pos rfl]
    by_cases y : l = U.2.2
    · rw [if_pos y, if_pos y]
    · rw [if_neg y, if_neg y, ← hs4, ← hs3, ← hs2, ← hs1, zp_n (by omega), zp_n (by omega), zp_n (by omega), zp_n (by omega)]
      exact h3 l (by omega)
end
end
