set_option linter.unusedVariables false
-- X0
section
/-- how many below n -/
def cnb (p : Nat → Bool) : Nat → Nat
  | 0 => 0
  | n + 1 => cnb p n + if p n then 1 else 0
theorem cnb_le (p : Nat → Bool) (n : Nat) : cnb p n ≤ n := by
  induction n with
  | zero => exact Nat.le_refl _
  | succ n ih => rw [cnb]; split <;> omega
theorem cnb_c {p q : Nat → Bool} {n : Nat} (h : ∀ i, i < n → p i = q i) : cnb p n = cnb q n := by
  induction n with
  | zero => rfl
  | succ n ih => rw [cnb, cnb, ih fun i hi => h i (by omega), h n (by omega)]
theorem cnb_lt {p : Nat → Bool} {n w : Nat} (hw : w < n) (h : p w = false) : cnb p n < n := by
  induction n with
  | zero => omega
  | succ n ih =>
    rw [cnb]
    by_cases e : w = n
    · subst e
      have := cnb_le p w
      rw [h]; simp; omega
    · have := ih (by omega)
      split <;> omega
theorem cnb_add {p q : Nat → Bool} {n w : Nat} (hw : w < n) (h1 : p w = false) (h2 : q w = true) (h : ∀ i, i ≠ w → q i = p i) : cnb q n = cnb p n + 1 := by
  induction n with
  | zero => omega
  | succ n ih =>
    rw [cnb, cnb]
    by_cases e : w = n
    · subst e
      rw [cnb_c (p := q) (q := p) fun i hi => h i (by omega), h1, h2]; simp
    · rw [ih (by omega), h n (by omega)]; omega
theorem cnb_mono {p q : Nat → Bool} {n : Nat} (h : ∀ i, i < n → p i = true → q i = true) : cnb p n ≤ cnb q n := by
  induction n with
  | zero => exact Nat.le_refl _
  | succ n ih =>
    have := ih fun i hi => h i (by omega)
    rw [cnb, cnb]
    by_cases e : p n = true
    · rw [e, h n (by omega) e]; simp; omega
    · have e : p n = false := by cases hp : p n; rfl; exact absurd hp e
      rw [e]; simp; split <;> omega
theorem cnb_0 {p : Nat → Bool} {n : Nat} (h : ∀ i, i < n → p i = false) : cnb p n = 0 := by
  induction n with
  | zero => rfl
  | succ n ih => rw [cnb, ih fun i hi => h i (by omega), h n (by omega)]; simp
theorem cnb_or {p q r : Nat → Bool} {n : Nat} (h : ∀ i, i < n → r i = true → p i = true ∨ q i = true) : cnb r n ≤ cnb p n + cnb q n := by
  induction n with
  | zero => exact Nat.le_refl _
  | succ n ih =>
    have := ih fun i hi => h i (by omega)
    rw [cnb, cnb, cnb]
    by_cases e : r n = true
    · rw [e]; simp
      rcases h n (by omega) e with k | k
      · rw [k]; simp; split <;> omega
      · rw [k]; simp; split <;> omega
    · have e : r n = false := by cases hp : r n; rfl; exact absurd hp e
      rw [e]; simp; split <;> split <;> omega
theorem cnb_iv (a T n : Nat) : cnb (fun w => decide (a ≤ w ∧ w < a + T)) n ≤ T := by
  have key : ∀ n, cnb (fun w => decide (a ≤ w ∧ w < a + T)) n ≤ min T (n - a) := by
    intro n
    induction n with
    | zero => simp [cnb]
    | succ n ih =>
      rw [cnb]
      by_cases e : a ≤ n ∧ n < a + T
      · rw [show (decide (a ≤ n ∧ n < a + T)) = true from decide_eq_true e, if_pos rfl]; omega
      · rw [show (decide (a ≤ n ∧ n < a + T)) = false from decide_eq_false e, if_neg (by decide)]; omega
  have := key n
  omega
/-- words of 64 bits -/
theorem j_ofI (a : Nat) : (Int64.ofInt (a : Int)).toBitVec = BitVec.ofNat 64 a := by
  show BitVec.ofInt 64 (a : Int) = _
  exact BitVec.ofInt_natCast 64 a
theorem j_toI (x : BitVec 64) (h : x.toNat < 9223372036854775808) : x.toInt = (x.toNat : Int) := by
  rw [BitVec.toInt_eq_toNat_cond, if_pos (by omega)]
theorem j_sm (a : Nat) (h : a < 9223372036854775808) : (BitVec.ofNat 64 a).toNat = a := by
  rw [BitVec.toNat_ofNat]; omega
theorem zAndJ_n (a b : Nat) (ha : a < 9223372036854775808) (hb : b < 9223372036854775808) : zAndJ (a : Int) (b : Int) = ((a &&& b : Nat) : Int) := by
  unfold zAndJ
  show ((Int64.ofInt (a : Int)).toBitVec &&& (Int64.ofInt (b : Int)).toBitVec).toInt = _
  rw [j_ofI, j_ofI]
  have h1 : (BitVec.ofNat 64 a &&& BitVec.ofNat 64 b).toNat = a &&& b := by rw [BitVec.toNat_and, j_sm a ha, j_sm b hb]
  have h2 : a &&& b ≤ a := Nat.and_le_left
  rw [j_toI _ (by omega), h1]
theorem zOrJ_n (a b : Nat) (ha : a < 9223372036854775808) (hb : b < 9223372036854775808) : zOrJ (a : Int) (b : Int) = ((a ||| b : Nat) : Int) := by
  unfold zOrJ
  show ((Int64.ofInt (a : Int)).toBitVec ||| (Int64.ofInt (b : Int)).toBitVec).toInt = _
  rw [j_ofI, j_ofI]
  have h1 : (BitVec.ofNat 64 a ||| BitVec.ofNat 64 b).toNat = a ||| b := by rw [BitVec.toNat_or, j_sm a ha, j_sm b hb]
  have h2 : a ||| b < 2 ^ 63 := Nat.or_lt_two_pow (by omega) (by omega)
  rw [j_toI _ (by omega), h1]
theorem zShlJ_10 (a : Nat) (ha : a < 2147483648) : zShlJ (a : Int) 10 = ((a * 1024 : Nat) : Int) := by
  unfold zShlJ
  have e : (Int64.ofInt (10 : Int) &&& 63) = 10 := by decide
  rw [e]
  show (Int64.ofInt (a : Int) <<< (10 : Int64)).toBitVec.toInt = _
  rw [Int64.toBitVec_shiftLeft]
  show ((Int64.ofInt (a : Int)).toBitVec <<< ((10 : Int64).toBitVec.smod 64)).toInt = _
  have e2 : ((10 : Int64).toBitVec.smod 64) = 10#64 := by decide
  rw [e2, j_ofI, BitVec.shiftLeft_eq']
  have h1 : (BitVec.ofNat 64 a <<< (10#64).toNat).toNat = a * 1024 := by
    rw [BitVec.toNat_shiftLeft, j_sm a (by omega)]
    show a <<< 10 % 2 ^ 64 = _
    rw [Nat.shiftLeft_eq]; omega
  rw [j_toI _ (by omega), h1]
theorem key_v (d w : Nat) (hd : d < 2147483648) (hw : w < 1024) : zOrJ (zShlJ (d : Int) 10) (w : Int) = ((d * 1024 + w : Nat) : Int) := by
  rw [zShlJ_10 d hd, zOrJ_n _ _ (by omega) (by omega)]
  congr 1
  have : d * 1024 = 2 ^ 10 * d := by omega
  rw [this]
  exact (Nat.two_pow_add_eq_or_of_lt (i := 10) (by omega) d).symm
theorem zInt_n (a : Nat) (h : a < 2147483648) : zInt (a : Int) = a := by
  unfold zInt
  rw [Int64.toInt_toInt32]
  have : (Int64.ofInt (a : Int)).toInt = a := Int64.toInt_ofInt_of_le (by simpa using (by omega : (-9223372036854775808 : Int) ≤ a)) (by simpa using (by omega : (a : Int) < 9223372036854775808))
  rw [this]
  exact Int.bmod_eq_of_le (by omega) (by omega)
theorem key_w (d w : Nat) (hd : d < 2147483648) (hw : w < 1024) : zInt (zAndJ ((d * 1024 + w : Nat) : Int) 1023) = (w : Int) := by
  have h : zAndJ ((d * 1024 + w : Nat) : Int) 1023 = (((d * 1024 + w) &&& 1023 : Nat) : Int) := zAndJ_n _ 1023 (by omega) (by omega)
  have h2 : (d * 1024 + w) &&& 1023 = w := by
    have := Nat.and_two_pow_sub_one_eq_mod (d * 1024 + w) 10
    have e : (2 : Nat) ^ 10 - 1 = 1023 := by decide
    rw [e] at this
    rw [this]; omega
  rw [h, h2]
  exact zInt_n w (by omega)
end
-- X1
section
/-- a graph of wires: what lies beside what, which can be gone to, at which cost; what is owned, what the source touches -/
abbrev Gph : Type := Nat × (Nat → Nat → Prop) × (Nat → Prop) × (Nat → Nat) × (Nat → Prop) × (Nat → Prop)
abbrev Gph.W (g : Gph) : Nat := g.1
abbrev Gph.adj (g : Gph) : Nat → Nat → Prop := g.2.1
abbrev Gph.fin (g : Gph) : Nat → Prop := g.2.2.1
abbrev Gph.cost (g : Gph) : Nat → Nat := g.2.2.2.1
abbrev Gph.own (g : Gph) : Nat → Prop := g.2.2.2.2.1
abbrev Gph.tch (g : Gph) : Nat → Prop := g.2.2.2.2.2
/-- wire w can be come to at length d -/
def Rch (g : Gph) (w d : Nat) : Prop := ∀ P : Nat → Nat → Prop, (∀ w, w < g.W → g.own w → P w 0) → (∀ w, w < g.W → ¬ g.own w → g.fin w → g.tch w → P w (g.cost w)) → (∀ u w d, P u d → g.adj u w → w < g.W → ¬ g.own w → g.fin w → P w (d + g.cost w)) → P w d
theorem Rch.o {g : Gph} {w : Nat} (a : w < g.W) (b : g.own w) : Rch g w 0 := fun P h1 h2 h3 => h1 w a b
theorem Rch.t {g : Gph} {w : Nat} (a : w < g.W) (b : ¬ g.own w) (d : g.fin w) (e : g.tch w) : Rch g w (g.cost w) := fun P h1 h2 h3 => h2 w a b d e
theorem Rch.s {g : Gph} {u w d : Nat} (a : Rch g u d) (b : g.adj u w) (e : w < g.W) (f : ¬ g.own w) (h : g.fin w) : Rch g w (d + g.cost w) := fun P h1 h2 h3 => h3 u w d (a P h1 h2 h3) b e f h
theorem Rch_inv {g : Gph} {w d : Nat} (h : Rch g w d) : w < g.W ∧ ((g.own w ∧ d = 0) ∨ (¬ g.own w ∧ g.fin w ∧ g.tch w ∧ d = g.cost w) ∨ (¬ g.own w ∧ g.fin w ∧ ∃ u d', Rch g u d' ∧ g.adj u w ∧ d = d' + g.cost w)) :=
  (h (fun w d => Rch g w d ∧ w < g.W ∧ ((g.own w ∧ d = 0) ∨ (¬ g.own w ∧ g.fin w ∧ g.tch w ∧ d = g.cost w) ∨ (¬ g.own w ∧ g.fin w ∧ ∃ u d', Rch g u d' ∧ g.adj u w ∧ d = d' + g.cost w)))
    (fun w a b => ⟨Rch.o a b, a, Or.inl ⟨b, rfl⟩⟩)
    (fun w a b d e => ⟨Rch.t a b d e, a, Or.inr (Or.inl ⟨b, d, e, rfl⟩)⟩)
    (fun u w d x b e f k => ⟨Rch.s x.1 b e f k, e, Or.inr (Or.inr ⟨f, k, u, d, x.1, b, rfl⟩)⟩)).2
def Dst (g : Gph) (w d : Nat) : Prop := Rch g w d ∧ ∀ d', Rch g w d' → d ≤ d'
section
variable {g : Gph}
theorem dst_ex {w d : Nat} (h : Rch g w d) : ∃ m, Dst g w m ∧ m ≤ d := by
  induction d using Nat.strongRecOn with
  | ind d ih =>
    by_cases e : ∃ d', d' < d ∧ Rch g w d'
    · obtain ⟨d', h1, h2⟩ := e
      obtain ⟨m, h3, h4⟩ := ih d' h1 h2
      exact ⟨m, h3, by omega⟩
    · refine ⟨d, ⟨h, fun d' h' => ?_⟩, Nat.le_refl _⟩
      by_cases e2 : d ≤ d'
      · exact e2
      · exact absurd ⟨d', by omega, h'⟩ e
theorem dst_u {w a b : Nat} (h : Dst g w a) (k : Dst g w b) : a = b := Nat.le_antisymm (h.2 b k.1) (k.2 a h.1)
theorem rch_W {w d : Nat} (h : Rch g w d) : w < g.W := (Rch_inv h).1
theorem rch_o {w d : Nat} (h : Rch g w d) (ho : g.own w) : d = 0 := by
  rcases (Rch_inv h).2 with a | a | a
  · exact a.2
  · exact absurd ho a.1
  · exact absurd ho a.1
theorem dst_o {w : Nat} (hw : w < g.W) (ho : g.own w) : Dst g w 0 := ⟨.o hw ho, fun _ _ => Nat.zero_le _⟩
theorem dst_p {w d : Nat} (h : Dst g w d) (ho : ¬ g.own w) : g.fin w ∧ ((g.tch w ∧ d = g.cost w) ∨ ∃ u m, g.adj u w ∧ Dst g u m ∧ d = m + g.cost w) := by
  obtain ⟨h1, h2⟩ := h
  have h3 := (Rch_inv h1).1
  rcases (Rch_inv h1).2 with k | k | ⟨k4, k5, u, d', k1, k2, k6⟩
  · exact absurd k.1 ho
  · exact ⟨k.2.1, Or.inl ⟨k.2.2.1, k.2.2.2⟩⟩
  · obtain ⟨m, m1, m2⟩ := dst_ex k1
    have := h2 _ (Rch.s m1.1 k2 h3 k4 k5)
    exact ⟨k5, Or.inr ⟨u, m, k2, m1, by omega⟩⟩
theorem dst_s {u w m : Nat} (h : Dst g u m) (ha : g.adj u w) (hw : w < g.W) (ho : ¬ g.own w) (hf : g.fin w) : ∃ d, Dst g w d ∧ d ≤ m + g.cost w := dst_ex (.s h.1 ha hw ho hf)
theorem dst_t {w : Nat} (hw : w < g.W) (ho : ¬ g.own w) (hf : g.fin w) (ht : g.tch w) : ∃ d, Dst g w d ∧ d ≤ g.cost w := dst_ex (.t hw ho hf ht)
/-- distances of other wires are positive -/
theorem dst_pos (hc : ∀ w, 1 ≤ g.cost w) {w d : Nat} (h : Dst g w d) (ho : ¬ g.own w) : 1 ≤ d := by
  have := hc w
  rcases (dst_p h ho).2 with ⟨-, k⟩ | ⟨u, m, -, -, k⟩ <;> omega
/-- P: popped; S: pushed. What lies outside of P is no nearer than any pushed one is, if it is the nearest pushed -/
theorem dst_min (hc : ∀ w, 1 ≤ g.cost w) {S P : Nat → Prop} (hO : ∀ w, w < g.W → g.own w → S w) (hT : ∀ w, w < g.W → g.fin w → g.tch w → S w) (hN : ∀ u w, P u → g.adj u w → w < g.W → g.fin w → S w) {D : Nat} (hm : ∀ w d, S w → ¬ P w → Dst g w d → D ≤ d) : ∀ d w, ¬ P w → Dst g w d → D ≤ d := by
  intro d
  induction d using Nat.strongRecOn with
  | ind d ih =>
    intro w hp hd
    by_cases hS : S w
    · exact hm w d hS hp hd
    · have hW := rch_W hd.1
      have ho : ¬ g.own w := fun o => hS (hO w hW o)
      obtain ⟨hf, h | ⟨u, m, h1, h2, h3⟩⟩ := dst_p hd ho
      · exact absurd (hT w hW hf h.1) hS
      · have hu : ¬ P u := fun pu => hS (hN u w pu h1 hW hf)
        have := hc w
        have := ih m (by omega) u hu h2
        omega
/-- a wire that is come to behind the nearest one, first from there -/
theorem dst_next (hc : ∀ w, 1 ≤ g.cost w) {S P : Nat → Prop} (hO : ∀ w, w < g.W → g.own w → S w) (hT : ∀ w, w < g.W → g.fin w → g.tch w → S w) (hN : ∀ u w, P u → g.adj u w → w < g.W → g.fin w → S w) {m D : Nat} (hD : Dst g m D) (hm : ∀ w d, S w → ¬ P w → Dst g w d → D ≤ d) {v : Nat} (hv : v < g.W) (hf : g.fin v) (ha : g.adj m v) (hs : ¬ S v) : Dst g v (D + g.cost v) := by
  have ho : ¬ g.own v := fun o => hs (hO v hv o)
  obtain ⟨d, h1, h2⟩ := dst_s hD ha hv ho hf
  obtain ⟨-, h | ⟨u, e, k1, k2, k3⟩⟩ := dst_p h1 ho
  · exact absurd (hT v hv hf h.1) hs
  · have hu : ¬ P u := fun pu => hs (hN u v pu k1 hv hf)
    have := dst_min hc hO hT hN hm e u hu k2
    have e : d = D + g.cost v := by omega
    rw [← e]; exact h1
/-- nearest pushed wires come in the order of their numbers too -/
theorem dst_first (hc : ∀ w, 1 ≤ g.cost w) {S P : Nat → Prop} (hO : ∀ w, w < g.W → g.own w → S w) (hT : ∀ w, w < g.W → g.fin w → g.tch w → S w) (hN : ∀ u w, P u → g.adj u w → w < g.W → g.fin w → S w) {m D : Nat} (hm : ∀ w d, S w → ¬ P w → Dst g w d → D < d ∨ (D = d ∧ m ≤ w)) {w d : Nat} (hp : ¬ P w) (hd : Dst g w d) : D < d ∨ (D = d ∧ m ≤ w) := by
  have hm' : ∀ w d, S w → ¬ P w → Dst g w d → D ≤ d := fun w d a b c => by have := hm w d a b c; omega
  by_cases hS : S w
  · exact hm w d hS hp hd
  · have hW := rch_W hd.1
    have ho : ¬ g.own w := fun o => hS (hO w hW o)
    obtain ⟨hf, h | ⟨u, e, k1, k2, k3⟩⟩ := dst_p hd ho
    · exact absurd (hT w hW hf h.1) hS
    · have hu : ¬ P u := fun pu => hS (hN u w pu k1 hW hf)
      have := dst_min hc hO hT hN hm' e u hu k2
      have := hc w
      omega
end
end
-- X2
section
variable {E : gEv} {c : gCf}
def kAdj (c : gCf) (u w : Nat) : Prop := ∃ j, j < kJ c ∧ ((kJa c j = u ∧ kJb c j = w) ∨ (kJa c j = w ∧ kJb c j = u))
theorem kAdj_s {u w : Nat} (h : kAdj c u w) : kAdj c w u := by
  obtain ⟨j, h1, h2⟩ := h
  exact ⟨j, h1, h2.symm⟩
theorem kAdj_t (hk : kOk c) {u w : Nat} (h : kAdj c u w) : u < kW c ∧ w < kW c ∧ u ≠ w ∧ u % kT c = w % kT c := by
  obtain ⟨j, h1, h2⟩ := h
  rcases j_ends hk j with ⟨e1, e2⟩ | ⟨a, b, e1, e2, e3, e4, e5, e6⟩
  · omega
  · rcases h2 with ⟨g1, g2⟩ | ⟨g1, g2⟩
    · have : a = u := by omega
      have : b = w := by omega
      subst a; subst b; exact ⟨e3, e4, e5, e6⟩
    · have : a = w := by omega
      have : b = u := by omega
      subst a; subst b; exact ⟨e4, e3, fun x => e5 x.symm, e6.symm⟩
def Jk (c : gCf) (z : gZ) : Prop := ∀ j, j < kJ c → jOk c z j
/-- rows of the grid are this graph -/
theorem adj_z {z : gZ} (g : Gr c z) (hj : Jk c z) {u : Nat} (hu : u < kW c) : ∃ d : Nat, d ≤ 6 ∧ z.1 7 u = d ∧ z.1 140 u = d ∧ (∀ k, k < d → ∃ v j : Nat, v < kW c ∧ j < kJ c ∧ kAdj c u v ∧ z.1 8 (u * 6 + k) = v ∧ z.1 138 (u * 6 + k) = v ∧ z.1 9 (u * 6 + k) = j ∧ z.1 139 (u * 6 + k) = ((kZ c + j : Nat) : Int)) ∧ ∀ v, kAdj c u v → ∃ k, k < d ∧ z.1 8 (u * 6 + k) = v := by
  obtain ⟨d, d1, d2, d3, d4, d5⟩ := g.2.2.2.2.2.1 u hu
  refine ⟨d, d1, d2, d3, fun k hk => ?_, fun v hv => ?_⟩
  · obtain ⟨v, j, v1, v2, v3, v4, v5, v6, v7⟩ := d4 k hk
    refine ⟨v, j, v1, v2, ⟨j, v2, ?_⟩, v3, v4, v5, v6⟩
    obtain ⟨j1, j2⟩ := hj j v2
    rw [← j1, ← j2]; exact v7
  · obtain ⟨j, h1, h2⟩ := hv
    obtain ⟨j1, j2⟩ := hj j h1
    rw [← j1, ← j2] at h2
    obtain ⟨k, k1, k2, -⟩ := d5 j v h1 h2
    exact ⟨k, k1, k2⟩
theorem adj_arm (hk : kOk c) {x y t p q : Nat} (hx : x ≤ kC c) (hy : y ≤ kR c) (ht : t < kT c) (hp : p < 3) (hq : q < 4) (hpq : p < q) {u w : Nat} (hu : kArm c x y p ≠ -1) (hw : kArm c x y q ≠ -1) (eu : kArm c x y p + t = u) (ew : kArm c x y q + t = w) : kAdj c u w := by
  obtain ⟨k1, k2, k3⟩ := kb_q p hp q hq hpq
  have jj := j_of hk hx ht k3 (y := y)
  have := kJ_le c hx hy ht
  refine ⟨((y * (kC c + 1) + x) * kT c + t) * 6 + (kb p + (q - (p + 1))), by omega, Or.inl ⟨?_, ?_⟩⟩
  · rw [jj.1, k1, k2]
    unfold jV
    rw [if_neg (by omega)]; exact eu
  · rw [jj.2, k1, k2]
    unfold jV
    rw [if_neg (by omega)]; exact ew
def wF (c : gCf) (x y t : Nat) : Nat := (y * kC c + x) * kT c + t
def wU (c : gCf) (x y t : Nat) : Nat := kF c + (y * (kC c + 1) + x) * kT c + t
theorem ac_v {x y : Nat} (hx : x < kC c) (hy : y ≤ kR c) (t : Nat) : kAc c x y ≠ -1 ∧ kAc c x y + t = (wF c x y t : Int) := by
  unfold kAc wF
  rw [if_pos (by omega)]
  have : ((y : Int) * (kC c : Int) + (x : Int)) * (kT c : Int) = (((y * kC c + x) * kT c : Nat) : Int) := by simp only [Int.natCast_mul, Int.natCast_add]
  rw [this]
  generalize (y * kC c + x) * kT c = m
  omega
theorem up_v {x y : Nat} (hx : x ≤ kC c) (hy : y < kR c) (t : Nat) : kUp c x y ≠ -1 ∧ kUp c x y + t = (wU c x y t : Int) := by
  unfold kUp wU
  rw [if_pos (by omega)]
  have : ((y : Int) * ((kC c : Int) + 1) + (x : Int)) * (kT c : Int) = (((y * (kC c + 1) + x) * kT c : Nat) : Int) := by simp only [Int.natCast_mul, Int.natCast_add, Int.cast_ofNat_Int]
  rw [this]
  generalize (y * (kC c + 1) + x) * kT c = m
  omega
theorem arm0 (x y : Int) : kArm c x y 0 = kAc c (x - 1) y := rfl
theorem arm1 (x y : Int) : kArm c x y 1 = kAc c x y := rfl
theorem arm2 (x y : Int) : kArm c x y 2 = kUp c x (y - 1) := rfl
theorem arm3 (x y : Int) : kArm c x y 3 = kUp c x y := rfl
theorem mv1 (hk : kOk c) {x y t : Nat} (hx : x + 1 < kC c) (hy : y ≤ kR c) (ht : t < kT c) : kAdj c (wF c (x + 1) y t) (wF c x y t) := by
  obtain ⟨a1, a2⟩ := ac_v (c := c) (x := x) (by omega) hy t
  obtain ⟨b1, b2⟩ := ac_v (c := c) hx hy t
  refine kAdj_s (adj_arm hk (x := x + 1) (y := y) (p := 0) (q := 1) (by omega) hy ht (by omega) (by omega) (by omega) ?_ ?_ ?_ ?_)
  · rw [arm0, show ((x + 1 : Nat) : Int) - 1 = (x : Int) by omega]; exact a1
  · rw [arm1]; exact b1
  · rw [arm0, show ((x + 1 : Nat) : Int) - 1 = (x : Int) by omega]; exact a2
  · rw [arm1]; exact b2
theorem mv2 (hk : kOk c) {x y t : Nat} (hx : x ≤ kC c) (hy : y + 1 < kR c) (ht : t < kT c) : kAdj c (wU c x (y + 1) t) (wU c x y t) := by
  obtain ⟨a1, a2⟩ := up_v (c := c) hx (y := y) (by omega) t
  obtain ⟨b1, b2⟩ := up_v (c := c) hx hy t
  refine kAdj_s (adj_arm hk (x := x) (y := y + 1) (p := 2) (q := 3) hx (by omega) ht (by omega) (by omega) (by omega) ?_ ?_ ?_ ?_)
  · rw [arm2, show ((y + 1 : Nat) : Int) - 1 = (y : Int) by omega]; exact a1
  · rw [arm3]; exact b1
  · rw [arm2, show ((y + 1 : Nat) : Int) - 1 = (y : Int) by omega]; exact a2
  · rw [arm3]; exact b2
theorem mv3 (hk : kOk c) {y t : Nat} (hy : y + 1 ≤ kR c) (ht : t < kT c) : kAdj c (wF c 0 (y + 1) t) (wU c 0 y t) := by
  obtain ⟨⟨c1, c2⟩, -⟩ := id hk
  obtain ⟨a1, a2⟩ := ac_v (c := c) (x := 0) (by omega) hy t
  obtain ⟨b1, b2⟩ := up_v (c := c) (x := 0) (by omega) (y := y) (by omega) t
  refine adj_arm hk (x := 0) (y := y + 1) (p := 1) (q := 2) (by omega) hy ht (by omega) (by omega) (by omega) ?_ ?_ ?_ ?_
  · rw [arm1]; exact a1
  · rw [arm2, show ((y + 1 : Nat) : Int) - 1 = (y : Int) by omega]; exact b1
  · rw [arm1]; exact a2
  · rw [arm2, show ((y + 1 : Nat) : Int) - 1 = (y : Int) by omega]; exact b2
theorem mv4 (hk : kOk c) {x y t : Nat} (hx : x < kC c) (hy : y < kR c) (ht : t < kT c) : kAdj c (wU c x y t) (wF c x y t) := by
  obtain ⟨a1, a2⟩ := ac_v (c := c) hx (y := y) (by omega) t
  obtain ⟨b1, b2⟩ := up_v (c := c) (x := x) (by omega) hy t
  refine kAdj_s (adj_arm hk (x := x) (y := y) (p := 1) (q := 3) (by omega) (by omega) ht (by omega) (by omega) (by omega) ?_ ?_ ?_ ?_)
  · rw [arm1]; exact a1
  · rw [arm3]; exact b1
  · rw [arm1]; exact a2
  · rw [arm3]; exact b2
theorem mv5 (hk : kOk c) {y t : Nat} (hy : y < kR c) (ht : t < kT c) : kAdj c (wU c (kC c) y t) (wF c (kC c - 1) y t) := by
  obtain ⟨⟨c1, c2⟩, -⟩ := id hk
  obtain ⟨a1, a2⟩ := ac_v (c := c) (x := kC c - 1) (by omega) (y := y) (by omega) t
  obtain ⟨b1, b2⟩ := up_v (c := c) (x := kC c) (by omega) hy t
  refine kAdj_s (adj_arm hk (x := kC c) (y := y) (p := 0) (q := 3) (by omega) (by omega) ht (by omega) (by omega) (by omega) ?_ ?_ ?_ ?_)
  · rw [arm0, show ((kC c : Nat) : Int) - 1 = ((kC c - 1 : Nat) : Int) by omega]; exact a1
  · rw [arm3]; exact b1
  · rw [arm0, show ((kC c : Nat) : Int) - 1 = ((kC c - 1 : Nat) : Int) by omega]; exact a2
  · rw [arm3]; exact b2
/-- n steps along -/
def Hop (c : gCf) : Nat → Nat → Nat → Prop
  | 0, u, w => u = w
  | n + 1, u, w => ∃ v, kAdj c u v ∧ Hop c n v w
theorem hop_t {n m u v w : Nat} (h : Hop c n u v) (k : Hop c m v w) : Hop c (n + m) u w := by
  induction n generalizing u with
  | zero => have h : u = v := h; subst h; rw [Nat.zero_add]; exact k
  | succ n ih =>
    obtain ⟨x, x1, x2⟩ := h
    rw [Nat.succ_add]
    exact ⟨x, x1, ih x2⟩
theorem hop_1 {u w : Nat} (h : kAdj c u w) : Hop c 1 u w := ⟨w, h, rfl⟩
theorem hop_s {n u w : Nat} (h : Hop c n u w) : Hop c n w u := by
  induction n generalizing u with
  | zero => exact Eq.symm h
  | succ n ih =>
    obtain ⟨x, x1, x2⟩ := h
    exact hop_t (ih x2) (hop_1 (kAdj_s x1))
theorem hop_x (hk : kOk c) {y t : Nat} (hy : y ≤ kR c) (ht : t < kT c) : ∀ x, x < kC c → Hop c x (wF c x y t) (wF c 0 y t) := by
  intro x
  induction x with
  | zero => intro _; rfl
  | succ x ih => intro hx; exact ⟨_, mv1 hk hx hy ht, ih (by omega)⟩
theorem hop_y (hk : kOk c) {t : Nat} (ht : t < kT c) : ∀ y, y < kR c → Hop c y (wU c 0 y t) (wU c 0 0 t) := by
  intro y
  induction y with
  | zero => intro _; rfl
  | succ y ih => intro hy; exact ⟨_, mv2 hk (by omega) hy ht, ih (by omega)⟩
theorem hop_f (hk : kOk c) {x y t : Nat} (hx : x < kC c) (hy : y ≤ kR c) (ht : t < kT c) : ∃ n, n ≤ 12 ∧ Hop c n (wF c x y t) t := by
  obtain ⟨⟨c1, c2⟩, ⟨r1, r2⟩, -⟩ := id hk
  have h0 : wF c 0 0 t = t := by unfold wF; simp
  cases y with
  | zero =>
    have h := hop_x hk hy ht x hx
    rw [h0] at h
    exact ⟨x, by omega, h⟩
  | succ y =>
    have h := hop_t (hop_x hk hy ht x hx) (hop_t (hop_1 (mv3 hk hy ht)) (hop_t (hop_y hk ht y (by omega)) (hop_1 (mv4 hk (x := 0) (y := 0) (by omega) (by omega) ht))))
    rw [h0] at h
    exact ⟨_, by omega, h⟩
theorem w_parts (hk : kOk c) {w : Nat} (hw : w < kW c) : (∃ x y t, x < kC c ∧ y ≤ kR c ∧ t < kT c ∧ w = wF c x y t ∧ w % kT c = t) ∨ ∃ x y t, x ≤ kC c ∧ y < kR c ∧ t < kT c ∧ w = wU c x y t ∧ w % kT c = t := by
  obtain ⟨⟨c1, c2⟩, ⟨r1, r2⟩, -, ⟨t1, t2⟩⟩ := id hk
  by_cases e : w < kF c
  · left
    have h1 := Nat.div_add_mod w (kT c)
    have h2 := Nat.div_add_mod (w / kT c) (kC c)
    have h3 : w / kT c < kC c * (kR c + 1) := by
      apply Nat.div_lt_of_lt_mul
      rw [Nat.mul_comm]; exact e
    have h4 : w / kT c / kC c < kR c + 1 := Nat.div_lt_of_lt_mul h3
    refine ⟨w / kT c % kC c, w / kT c / kC c, w % kT c, Nat.mod_lt _ (by omega), by omega, Nat.mod_lt _ (by omega), ?_, rfl⟩
    unfold wF
    rw [Nat.mul_comm (w / kT c / kC c), h2, Nat.mul_comm (w / kT c)]; exact h1.symm
  · right
    have hW : kW c = kF c + (kC c + 1) * kR c * kT c := by unfold kW kF; rw [Nat.add_mul]
    have h1 := Nat.div_add_mod (w - kF c) (kT c)
    have h2 := Nat.div_add_mod ((w - kF c) / kT c) (kC c + 1)
    have h3 : (w - kF c) / kT c < (kC c + 1) * kR c := by
      apply Nat.div_lt_of_lt_mul
      rw [Nat.mul_comm]; omega
    have h4 : (w - kF c) / kT c / (kC c + 1) < kR c := Nat.div_lt_of_lt_mul h3
    have h5 : (w - kF c) / kT c % (kC c + 1) < kC c + 1 := Nat.mod_lt _ (by omega)
    refine ⟨(w - kF c) / kT c % (kC c + 1), (w - kF c) / kT c / (kC c + 1), (w - kF c) % kT c, by omega, h4, Nat.mod_lt _ (by omega), ?_, ?_⟩
    · unfold wU
      rw [Nat.mul_comm ((w - kF c) / kT c / (kC c + 1)), h2, Nat.mul_comm ((w - kF c) / kT c)]
      omega
    · have : w = kF c + (w - kF c) := by omega
      rw [this, Nat.add_mod, kF_m, Nat.zero_add, Nat.mod_mod]
      congr 1; omega
theorem hop_hub (hk : kOk c) {w : Nat} (hw : w < kW c) : ∃ n, n ≤ 13 ∧ Hop c n w (w % kT c) := by
  rcases w_parts hk hw with ⟨x, y, t, hx, hy, ht, e1, e2⟩ | ⟨x, y, t, hx, hy, ht, e1, e2⟩
  · obtain ⟨n, n1, n2⟩ := hop_f hk hx hy ht
    rw [e2, e1]; exact ⟨n, by omega, n2⟩
  · rw [e2, e1]
    by_cases e : x < kC c
    · obtain ⟨n, n1, n2⟩ := hop_f hk e (y := y) (by omega) ht
      exact ⟨1 + n, by omega, hop_t (hop_1 (mv4 hk e hy ht)) n2⟩
    · have : x = kC c := by omega
      subst this
      obtain ⟨⟨c1, c2⟩, -⟩ := id hk
      obtain ⟨n, n1, n2⟩ := hop_f hk (x := kC c - 1) (by omega) (y := y) (by omega) ht
      exact ⟨1 + n, by omega, hop_t (hop_1 (mv5 hk hy ht)) n2⟩
/-- two wires of one track -/
theorem hop_all (hk : kOk c) {u w : Nat} (hu : u < kW c) (hw : w < kW c) (h : u % kT c = w % kT c) : ∃ n, n ≤ 26 ∧ Hop c n u w := by
  obtain ⟨n, n1, n2⟩ := hop_hub hk hu
  obtain ⟨m, m1, m2⟩ := hop_hub hk hw
  rw [h] at n2
  exact ⟨n + m, by omega, hop_t n2 (hop_s m2)⟩
/-- the graph of a field -/
def gOf (c : gCf) (fin : Nat → Prop) (cost : Nat → Nat) (own tch : Nat → Prop) : Gph := ⟨kW c, kAdj c, fin, cost, own, tch⟩
theorem rch_hop (hk : kOk c) {fin own tch : Nat → Prop} {cost : Nat → Nat} {B : Nat} (hb : ∀ w, cost w ≤ B) (hf : ∀ u w, kAdj c u w → fin u → fin w) {n u w : Nat} (h : Hop c n u w) : ∀ d, fin u → Rch (gOf c fin cost own tch) u d → ∃ d', d' ≤ d + n * B ∧ Rch (gOf c fin cost own tch) w d' := by
  induction n generalizing u with
  | zero => intro d _ hd; have h : u = w := h; subst h; exact ⟨d, by omega, hd⟩
  | succ n ih =>
    intro d fu hd
    obtain ⟨v, v1, v2⟩ := h
    have fv := hf u v v1 fu
    have hv : v < kW c := (kAdj_t hk v1).2.1
    have step : ∃ e, e ≤ d + B ∧ Rch (gOf c fin cost own tch) v e := by
      by_cases o : own v
      · exact ⟨0, by omega, .o hv o⟩
      · exact ⟨d + cost v, by have := hb v; omega, .s hd v1 hv o fv⟩
    obtain ⟨e, e1, e2⟩ := step
    obtain ⟨d', d1, d2⟩ := ih v2 e fv e2
    exact ⟨d', by rw [Nat.succ_mul]; omega, d2⟩
/-- every wire of a track that can be gone to, and that the source touches somewhere, is near -/
theorem dst_all (hk : kOk c) {fin own tch : Nat → Prop} {cost : Nat → Nat} {B : Nat} (hb : ∀ w, cost w ≤ B) (hf : ∀ u w, kAdj c u w → fin u → fin w) {s w : Nat} (hs : s < kW c) (hw : w < kW c) (ht : tch s) (fs : fin s) (h : s % kT c = w % kT c) : ∃ d, d ≤ 27 * B ∧ Dst (gOf c fin cost own tch) w d := by
  obtain ⟨n, n1, n2⟩ := hop_all hk hs hw h
  have st : ∃ e, e ≤ B ∧ Rch (gOf c fin cost own tch) s e := by
    by_cases o : own s
    · exact ⟨0, by omega, .o hs o⟩
    · exact ⟨cost s, hb s, .t hs o fs ht⟩
  obtain ⟨e, e1, e2⟩ := st
  obtain ⟨d, d1, d2⟩ := rch_hop hk hb hf n2 e fs e2
  obtain ⟨m, m1, m2⟩ := dst_ex d2
  have := Nat.mul_le_mul_right B n1
  exact ⟨m, by omega, m1⟩
end
-- X3
section
variable {E : gEv} {c : gCf}
def zO (P : Nat → Nat → Prop) (z s : gZ) : Prop := ∀ k j, ¬ P k j → s.1 k j = z.1 k j
theorem o_r {P : Nat → Nat → Prop} {z : gZ} : zO P z z := fun _ _ _ => rfl
theorem o_t {P : Nat → Nat → Prop} {z s t : gZ} (h : zO P z s) (k : zO P s t) : zO P z t := fun a b n => (k a b n).trans (h a b n)
theorem o_w {P Q : Nat → Nat → Prop} {z s : gZ} (h : zO P z s) (k : ∀ a b, P a b → Q a b) : zO Q z s := fun a b n => h a b fun x => n (k a b x)
theorem o_of {P : Nat → Nat → Prop} {z s : gZ} (h : zOff P z s) : zO P z s := h.2
theorem o_put {P : Nat → Nat → Prop} {z : gZ} {k j : Nat} {v : Int} (h : P k j) : zO P z (zPut z k j v) := (off_put h).2
theorem zl1 (z : gZ) (k j : Nat) (v : Int) : (zPutL z k j v).1 = z.1 := rfl
theorem zl2 (z : gZ) (k j : Nat) (v : Int) (k' j' : Nat) : (zPutL z k j v).2 k' j' = if k' = k then (if j' = j then v else z.2 k' j') else z.2 k' j' := rfl
/-- a heap of n keys, that are S -/
abbrev Hpq (h : Nat → Int) (n : Nat) (S : Int → Prop) : Prop := ∃ _ : (∀ i, 0 < i → i < n → h ((i - 1) / 2) ≤ h i), ∃ _ : (∀ i j, i < n → j < n → h i = h j → i = j), (∀ x, (∃ i, i < n ∧ h i = x) ↔ S x)
theorem Hpq.hp {h : Nat → Int} {n : Nat} {S : Int → Prop} (s_ : Hpq h n S) : ∀ i, 0 < i → i < n → h ((i - 1) / 2) ≤ h i := by obtain ⟨x, _⟩ := s_; exact x
theorem Hpq.inj {h : Nat → Int} {n : Nat} {S : Int → Prop} (s_ : Hpq h n S) : ∀ i j, i < n → j < n → h i = h j → i = j := by obtain ⟨_, x, _⟩ := s_; exact x
theorem Hpq.mem {h : Nat → Int} {n : Nat} {S : Int → Prop} (s_ : Hpq h n S) : ∀ x, (∃ i, i < n ∧ h i = x) ↔ S x := by obtain ⟨_, _, x⟩ := s_; exact x
theorem Hpq.top {h : Nat → Int} {n : Nat} {S : Int → Prop} (H : Hpq h n S) : ∀ i, i < n → h 0 ≤ h i := by
  intro i
  induction i using Nat.strongRecOn with
  | ind i ih =>
    intro hi
    by_cases e : i = 0
    · rw [e]; exact Int.le_refl _
    · have h1 := H.hp i (by omega) hi
      have h2 := ih ((i - 1) / 2) (by omega) (by omega)
      omega
/-- a hole that goes up -/
abbrev HUp (h : Nat → Int) (n i : Nat) (key : Int) (S : Int → Prop) : Prop := ∃ _ : (i ≤ n), ∃ _ : (∀ j, 0 < j → j ≤ n → j ≠ i → (j - 1) / 2 ≠ i → h ((j - 1) / 2) ≤ h j), ∃ _ : (∀ j, 0 < j → j ≤ n → j ≠ i → (j - 1) / 2 = i → key ≤ h j), ∃ _ : (∀ j, 0 < j → j ≤ n → j ≠ i → (j - 1) / 2 = i → 0 < i → h ((i - 1) / 2) ≤ h j), ∃ _ : (∀ j k, j ≤ n → k ≤ n → j ≠ i → k ≠ i → h j = h k → j = k), (∀ x, (∃ j, j ≤ n ∧ j ≠ i ∧ h j = x) ↔ S x)
theorem HUp.le {h : Nat → Int} {n i : Nat} {key : Int} {S : Int → Prop} (s_ : HUp h n i key S) : i ≤ n := by obtain ⟨x, _⟩ := s_; exact x
theorem HUp.a {h : Nat → Int} {n i : Nat} {key : Int} {S : Int → Prop} (s_ : HUp h n i key S) : ∀ j, 0 < j → j ≤ n → j ≠ i → (j - 1) / 2 ≠ i → h ((j - 1) / 2) ≤ h j := by obtain ⟨_, x, _⟩ := s_; exact x
theorem HUp.b {h : Nat → Int} {n i : Nat} {key : Int} {S : Int → Prop} (s_ : HUp h n i key S) : ∀ j, 0 < j → j ≤ n → j ≠ i → (j - 1) / 2 = i → key ≤ h j := by obtain ⟨_, _, x, _⟩ := s_; exact x
theorem HUp.d {h : Nat → Int} {n i : Nat} {key : Int} {S : Int → Prop} (s_ : HUp h n i key S) : ∀ j, 0 < j → j ≤ n → j ≠ i → (j - 1) / 2 = i → 0 < i → h ((i - 1) / 2) ≤ h j := by obtain ⟨_, _, _, x, _⟩ := s_; exact x
theorem HUp.inj {h : Nat → Int} {n i : Nat} {key : Int} {S : Int → Prop} (s_ : HUp h n i key S) : ∀ j k, j ≤ n → k ≤ n → j ≠ i → k ≠ i → h j = h k → j = k := by obtain ⟨_, _, _, _, x, _⟩ := s_; exact x
theorem HUp.mem {h : Nat → Int} {n i : Nat} {key : Int} {S : Int → Prop} (s_ : HUp h n i key S) : ∀ x, (∃ j, j ≤ n ∧ j ≠ i ∧ h j = x) ↔ S x := by obtain ⟨_, _, _, _, _, x⟩ := s_; exact x
def zUpd (h : Nat → Int) (i : Nat) (v : Int) : Nat → Int := fun j => if j = i then v else h j
theorem zUpd_e (h : Nat → Int) (i : Nat) (v : Int) : zUpd h i v i = v := if_pos rfl
theorem zUpd_n {h : Nat → Int} {i j : Nat} {v : Int} (e : j ≠ i) : zUpd h i v j = h j := if_neg e
theorem HUp.move {h : Nat → Int} {n i : Nat} {key : Int} {S : Int → Prop} (H : HUp h n i key S) (hi : 0 < i) (hk : key < h ((i - 1) / 2)) : HUp (zUpd h i (h ((i - 1) / 2))) n ((i - 1) / 2) key S := by
  have hl := H.le
  have hne : (i - 1) / 2 ≠ i := by omega
  refine ⟨by omega, fun j j0 j1 j2 j3 => ?_, fun j j0 j1 j2 j3 => ?_, fun j j0 j1 j2 j3 p0 => ?_, fun j k j1 k1 j2 k2 e => ?_, fun x => ?_⟩
  · by_cases e : j = i
    · subst e; exact absurd rfl j3
    · rw [zUpd_n e]
      by_cases e2 : (j - 1) / 2 = i
      · rw [e2, zUpd_e]; exact H.d j j0 j1 e e2 hi
      · rw [zUpd_n e2]; exact H.a j j0 j1 e e2
  · by_cases e : j = i
    · subst e; rw [zUpd_e]; omega
    · rw [zUpd_n e]
      have := H.a j j0 j1 e (by omega)
      rw [j3] at this; omega
  · have hp := H.a ((i - 1) / 2) (by omega) (by omega) hne (by omega)
    rw [zUpd_n (show ((i - 1) / 2 - 1) / 2 ≠ i by omega)]
    by_cases e : j = i
    · subst e; rw [zUpd_e]; exact hp
    · rw [zUpd_n e]
      have := H.a j j0 j1 e (by omega)
      rw [j3] at this; omega
  · by_cases ej : j = i
    · by_cases ek : k = i
      · omega
      · rw [ej, zUpd_e, zUpd_n ek] at e
        have := H.inj _ _ (by omega) k1 hne ek e
        omega
    · by_cases ek : k = i
      · rw [ek, zUpd_e, zUpd_n ej] at e
        have := H.inj _ _ j1 (by omega) ej hne e
        omega
      · rw [zUpd_n ej, zUpd_n ek] at e
        exact H.inj _ _ j1 k1 ej ek e
  · rw [← H.mem x]
    constructor
    · rintro ⟨j, j1, j2, j3⟩
      by_cases ej : j = i
      · rw [ej, zUpd_e] at j3; exact ⟨_, by omega, hne, j3⟩
      · rw [zUpd_n ej] at j3; exact ⟨j, j1, ej, j3⟩
    · rintro ⟨j, j1, j2, j3⟩
      by_cases ej : j = (i - 1) / 2
      · exact ⟨i, hl, fun x => hne x.symm, by rw [zUpd_e, ← ej]; exact j3⟩
      · exact ⟨j, j1, ej, by rw [zUpd_n j2]; exact j3⟩
theorem HUp.fin {h : Nat → Int} {n i : Nat} {key : Int} {S : Int → Prop} (H : HUp h n i key S) (hk : i = 0 ∨ h ((i - 1) / 2) ≤ key) (hn : ¬ S key) : Hpq (zUpd h i key) (n + 1) (fun x => x = key ∨ S x) := by
  have hl := H.le
  refine ⟨fun j j0 j1 => ?_, fun j k j1 k1 e => ?_, fun x => ?_⟩
  · by_cases ej : j = i
    · subst ej
      rw [zUpd_e, zUpd_n (by omega)]
      omega
    · rw [zUpd_n ej]
      by_cases e2 : (j - 1) / 2 = i
      · rw [e2, zUpd_e]; exact H.b j j0 (by omega) ej e2
      · rw [zUpd_n e2]; exact H.a j j0 (by omega) ej e2
  · by_cases ej : j = i
    · by_cases ek : k = i
      · omega
      · rw [ej, zUpd_e, zUpd_n ek] at e
        exact absurd ((H.mem key).1 ⟨k, by omega, ek, e.symm⟩) hn
    · by_cases ek : k = i
      · rw [ek, zUpd_e, zUpd_n ej] at e
        exact absurd ((H.mem key).1 ⟨j, by omega, ej, e⟩) hn
      · rw [zUpd_n ej, zUpd_n ek] at e
        exact H.inj _ _ (by omega) (by omega) ej ek e
  · constructor
    · rintro ⟨j, j1, j2⟩
      by_cases ej : j = i
      · rw [ej, zUpd_e] at j2; exact Or.inl j2.symm
      · rw [zUpd_n ej] at j2; exact Or.inr ((H.mem x).1 ⟨j, by omega, ej, j2⟩)
    · rintro (e | e)
      · exact ⟨i, by omega, by rw [zUpd_e, e]⟩
      · obtain ⟨j, j1, j2, j3⟩ := (H.mem x).2 e
        exact ⟨j, by omega, by rw [zUpd_n j2]; exact j3⟩
theorem HUp.ini {h : Nat → Int} {n : Nat} {key : Int} {S : Int → Prop} (H : Hpq h n S) : HUp h n n key S := by
  refine ⟨Nat.le_refl _, fun j j0 j1 j2 j3 => H.hp j j0 (by omega), fun j j0 j1 j2 j3 => by omega, fun j j0 j1 j2 j3 => by omega, fun j k j1 k1 j2 k2 e => H.inj j k (by omega) (by omega) e, fun x => ?_⟩
  rw [← H.mem x]
  constructor
  · rintro ⟨j, j1, j2, j3⟩; exact ⟨j, by omega, j3⟩
  · rintro ⟨j, j1, j2⟩; exact ⟨j, by omega, by omega, j2⟩
/-- a hole that goes down -/
abbrev HDn (h : Nat → Int) (n i : Nat) (key : Int) (S : Int → Prop) : Prop := ∃ _ : (i < n ∨ i = 0), ∃ _ : (∀ j, 0 < j → j < n → j ≠ i → (j - 1) / 2 ≠ i → h ((j - 1) / 2) ≤ h j), ∃ _ : (0 < i → h ((i - 1) / 2) ≤ key), ∃ _ : (∀ j, 0 < j → j < n → j ≠ i → (j - 1) / 2 = i → 0 < i → h ((i - 1) / 2) ≤ h j), ∃ _ : (∀ j k, j < n → k < n → j ≠ i → k ≠ i → h j = h k → j = k), (∀ x, (∃ j, j < n ∧ j ≠ i ∧ h j = x) ↔ S x)
theorem HDn.le {h : Nat → Int} {n i : Nat} {key : Int} {S : Int → Prop} (s_ : HDn h n i key S) : i < n ∨ i = 0 := by obtain ⟨x, _⟩ := s_; exact x
theorem HDn.a {h : Nat → Int} {n i : Nat} {key : Int} {S : Int → Prop} (s_ : HDn h n i key S) : ∀ j, 0 < j → j < n → j ≠ i → (j - 1) / 2 ≠ i → h ((j - 1) / 2) ≤ h j := by obtain ⟨_, x, _⟩ := s_; exact x
theorem HDn.b {h : Nat → Int} {n i : Nat} {key : Int} {S : Int → Prop} (s_ : HDn h n i key S) : 0 < i → h ((i - 1) / 2) ≤ key := by obtain ⟨_, _, x, _⟩ := s_; exact x
theorem HDn.d {h : Nat → Int} {n i : Nat} {key : Int} {S : Int → Prop} (s_ : HDn h n i key S) : ∀ j, 0 < j → j < n → j ≠ i → (j - 1) / 2 = i → 0 < i → h ((i - 1) / 2) ≤ h j := by obtain ⟨_, _, _, x, _⟩ := s_; exact x
theorem HDn.inj {h : Nat → Int} {n i : Nat} {key : Int} {S : Int → Prop} (s_ : HDn h n i key S) : ∀ j k, j < n → k < n → j ≠ i → k ≠ i → h j = h k → j = k := by obtain ⟨_, _, _, _, x, _⟩ := s_; exact x
theorem HDn.mem {h : Nat → Int} {n i : Nat} {key : Int} {S : Int → Prop} (s_ : HDn h n i key S) : ∀ x, (∃ j, j < n ∧ j ≠ i ∧ h j = x) ↔ S x := by obtain ⟨_, _, _, _, _, x⟩ := s_; exact x
theorem HDn.move {h : Nat → Int} {n i m : Nat} {key : Int} {S : Int → Prop} (H : HDn h n i key S) (hm : m = 2 * i + 1 ∨ m = 2 * i + 2) (hn : m < n) (hs : ∀ j, 0 < j → j < n → (j - 1) / 2 = i → j ≠ i → h m ≤ h j) (hk : h m < key) : HDn (zUpd h i (h m)) n m key S := by
  have hne : m ≠ i := by omega
  have hpm : (m - 1) / 2 = i := by omega
  refine ⟨Or.inl hn, fun j j0 j1 j2 j3 => ?_, fun _ => ?_, fun j j0 j1 j2 j3 _ => ?_, fun j k j1 k1 j2 k2 e => ?_, fun x => ?_⟩
  · by_cases e : j = i
    · subst e
      rw [zUpd_e, zUpd_n (by omega)]
      exact H.d m (by omega) hn hne hpm j0
    · rw [zUpd_n e]
      by_cases e2 : (j - 1) / 2 = i
      · rw [e2, zUpd_e]; exact hs j j0 j1 e2 e
      · rw [zUpd_n e2]; exact H.a j j0 j1 e e2
  · rw [hpm, zUpd_e]; omega
  · rw [hpm, zUpd_e, zUpd_n (by omega)]
    have := H.a j j0 j1 (by omega) (by omega)
    rw [j3] at this; exact this
  · by_cases ej : j = i
    · by_cases ek : k = i
      · omega
      · rw [ej, zUpd_e, zUpd_n ek] at e
        have := H.inj _ _ hn k1 hne ek e
        omega
    · by_cases ek : k = i
      · rw [ek, zUpd_e, zUpd_n ej] at e
        have := H.inj _ _ j1 hn ej hne e
        omega
      · rw [zUpd_n ej, zUpd_n ek] at e
        exact H.inj _ _ j1 k1 ej ek e
  · rw [← H.mem x]
    constructor
    · rintro ⟨j, j1, j2, j3⟩
      by_cases ej : j = i
      · rw [ej, zUpd_e] at j3; exact ⟨m, hn, hne, j3⟩
      · rw [zUpd_n ej] at j3; exact ⟨j, j1, ej, j3⟩
    · rintro ⟨j, j1, j2, j3⟩
      by_cases ej : j = m
      · exact ⟨i, by omega, fun x => hne x.symm, by rw [zUpd_e, ← ej]; exact j3⟩
      · exact ⟨j, j1, ej, by rw [zUpd_n j2]; exact j3⟩
theorem HDn.fin {h : Nat → Int} {n i : Nat} {key : Int} {S : Int → Prop} (H : HDn h n i key S) (hn : 0 < n) (hs : ∀ j, 0 < j → j < n → (j - 1) / 2 = i → j ≠ i → key ≤ h j) (hk : ¬ S key) : Hpq (zUpd h i key) n (fun x => x = key ∨ S x) := by
  have hl := H.le
  refine ⟨fun j j0 j1 => ?_, fun j k j1 k1 e => ?_, fun x => ?_⟩
  · by_cases ej : j = i
    · subst ej
      rw [zUpd_e, zUpd_n (by omega)]
      exact H.b j0
    · rw [zUpd_n ej]
      by_cases e2 : (j - 1) / 2 = i
      · rw [e2, zUpd_e]; exact hs j j0 j1 e2 ej
      · rw [zUpd_n e2]; exact H.a j j0 j1 ej e2
  · by_cases ej : j = i
    · by_cases ek : k = i
      · omega
      · rw [ej, zUpd_e, zUpd_n ek] at e
        exact absurd ((H.mem key).1 ⟨k, k1, ek, e.symm⟩) hk
    · by_cases ek : k = i
      · rw [ek, zUpd_e, zUpd_n ej] at e
        exact absurd ((H.mem key).1 ⟨j, j1, ej, e⟩) hk
      · rw [zUpd_n ej, zUpd_n ek] at e
        exact H.inj _ _ j1 k1 ej ek e
  · constructor
    · rintro ⟨j, j1, j2⟩
      by_cases ej : j = i
      · rw [ej, zUpd_e] at j2; exact Or.inl j2.symm
      · rw [zUpd_n ej] at j2; exact Or.inr ((H.mem x).1 ⟨j, j1, ej, j2⟩)
    · rintro (e | e)
      · exact ⟨i, by omega, by rw [zUpd_e, e]⟩
      · obtain ⟨j, j1, j2, j3⟩ := (H.mem x).2 e
        exact ⟨j, j1, by rw [zUpd_n j2]; exact j3⟩
theorem HDn.ini {h : Nat → Int} {n : Nat} {S : Int → Prop} (H : Hpq h (n + 1) S) : HDn h n 0 (h n) (fun x => S x ∧ x ≠ h 0 ∧ x ≠ h n) := by
  refine ⟨Or.inr rfl, fun j j0 j1 j2 j3 => H.hp j j0 (by omega), fun x => by omega, fun j j0 j1 j2 j3 x => by omega, fun j k j1 k1 j2 k2 e => H.inj j k (by omega) (by omega) e, fun x => ?_⟩
  dsimp only; rw [← H.mem x]
  constructor
  · rintro ⟨j, j1, j2, j3⟩
    refine ⟨⟨j, by omega, j3⟩, fun e => ?_, fun e => ?_⟩
    · have := H.inj j 0 (by omega) (by omega) (j3.trans e); omega
    · have := H.inj j n (by omega) (by omega) (j3.trans e); omega
  · rintro ⟨⟨j, j1, j2⟩, e0, en⟩
    refine ⟨j, ?_, fun e => e0 (by rw [← j2, e]), j2⟩
    by_cases ej : j = n
    · exact absurd (by rw [← j2, ej]) en
    · omega
theorem kW_b' (hk : kOk c) : kW c ≤ 840 := by
  have := kW_b hk; omega
/-- what the front's calls may change -/
def pFr (k j : Nat) : Prop := k = 73 ∨ (k = 71 ∧ j = 2)
theorem s_push {z : gZ} {w d n : Nat} {S : Int → Prop} (hk : kOk c) (hw : w < kW c) (hd : d < 2147483648) (h73 : z.1 73 w = -1) (hn : z.1 71 2 = n) (hnW : n < kW c) (H : Hpq (z.2 72) n S) (hS : ¬ S ((d * 1024 + w : Nat) : Int)) : zOk (q_Front_push E (kL c) (w : Int) (d : Int) z) (fun s => zO pFr z s ∧ (∀ v, s.1 73 v = if v = w then (d : Int) else z.1 73 v) ∧ s.1 71 2 = ((n + 1 : Nat) : Int) ∧ Hpq (s.2 72) (n + 1) (fun x => x = ((d * 1024 + w : Nat) : Int) ∨ S x)) := by
  have hW := kW_b' hk
  unfold q_Front_push
  rw [kL_73, kL_72, gtN]
  (refine ok_gd (by omega) ?_)
  refine ok_pos h73 ?_
  rw [hn]
  (refine ok_pos (by omega) ?_)
  rw [ok_l, key_v d w hd (by omega), ok_l, ok_l]
  generalize hz1 : zPut z 73 w (d : Int) = z1
  have e73 : ∀ v, z1.1 73 v = if v = w then (d : Int) else z.1 73 v := fun v => by rw [← hz1]; (simp only [zp1, zr1, zf1, Nat.reduceEqDiff, Nat.reduceBEq, reduceIte, if_true, if_false, and_true, true_and, and_false, false_and, gtN])
  have e2 : z1.1 71 2 = n := by rw [← hz1]; (simp only [zp1, zr1, zf1, Nat.reduceEqDiff, Nat.reduceBEq, reduceIte, if_true, if_false, and_true, true_and, and_false, false_and, gtN]); exact hn
  have eo : zO pFr z z1 := by rw [← hz1]; exact o_put (Or.inl rfl)
  have eh : z1.2 = z.2 := by rw [← hz1]; rfl
  rw [e2]
  generalize ((d * 1024 + w : Nat) : Int) = key at hS ⊢
  refine ok_b1 (fun r => ∃ (i : Nat) (t : gZ), r = ((i : Int), t) ∧ t.1 = z1.1 ∧ HUp (t.2 72) n i key S ∧ (i = 0 ∨ t.2 72 ((i - 1) / 2) ≤ key)) ?_ fun r ⟨i, t, e, t1, t2, t3⟩ => ?_
  · refine it_inv (fun r => ∃ (i : Nat) (t : gZ), r = ((i : Int), t) ∧ t.1 = z1.1 ∧ HUp (t.2 72) n i key S) _ (fun r => r.1.toNat) ⟨n, z1, rfl, rfl, by rw [eh]; exact HUp.ini H⟩ (by show ((n : Int)).toNat < _; omega) ?_
    rintro r ⟨i, t, rfl, t1, t2⟩
    have hl := t2.le
    show (∃ s', q_Front_push_45 E (kL c) key (i : Int) t = some (Sum.inl s') ∧ _) ∨ _
    unfold q_Front_push_45
    by_cases e : i = 0
    · right
      refine ⟨((i : Int), t), by rw [if_pos (by omega)], i, t, rfl, t1, t2, Or.inl e⟩
    · have dv : zDiv ((i : Int) - 1) 2 = (((i - 1) / 2 : Nat) : Int) := by
        have := zDiv_n (i - 1) 2 (by omega) (by omega)
        rw [show ((i - 1 : Nat) : Int) = (i : Int) - 1 by omega] at this
        exact this
      rw [if_neg (by omega), if_pos (by omega), dv, kL_72, if_pos (by omega), gtN]
      by_cases e2 : t.2 72 ((i - 1) / 2) ≤ key
      · right
        exact ⟨((i : Int), t), by rw [if_pos e2], i, t, rfl, t1, t2, Or.inr e2⟩
      · left
        rw [if_neg e2, if_pos (by omega), let_s, let_s, gtN]
        refine ⟨_, rfl, ⟨(i - 1) / 2, _, rfl, t1, ?_⟩, ?_⟩
        · have : (zPutL t 72 i (t.2 72 ((i - 1) / 2))).2 72 = zUpd (t.2 72) i (t.2 72 ((i - 1) / 2)) := funext fun j => by rw [zl2, if_pos rfl]; rfl
          rw [this]
          exact t2.move (by omega) (by omega)
        · show ((((i - 1) / 2 : Nat)) : Int).toNat < ((i : Int)).toNat
          omega
  · subst e
    have hl := t2.le
    show zOk (q_Front_push_j95 E (kL c) key (i : Int) t) _
    unfold q_Front_push_j95
    rw [kL_72]
    (refine ok_gd (by omega) ?_)
    rw [ok_l, gtN, show (zPutL t 72 i key).1 71 2 = n by rw [zl1, t1]; exact e2]
    (refine ok_gd (by omega) ?_)
    rw [ok_l]
    refine ok_so ⟨?_, fun v => ?_, by (simp only [zp1, zr1, zf1, Nat.reduceEqDiff, Nat.reduceBEq, reduceIte, if_true, if_false, and_true, true_and, and_false, false_and, gtN]); rfl, ?_⟩
    · refine o_t eo (o_t (s := zPutL t 72 i key) ?_ (o_put (Or.inr ⟨rfl, rfl⟩)))
      intro k j _; rw [zl1, t1]
    · (simp only [zp1, zr1, zf1, Nat.reduceEqDiff, Nat.reduceBEq, reduceIte, if_true, if_false, and_true, true_and, and_false, false_and, gtN]); rw [zl1, t1]; exact e73 v
    · have : (zPut (zPutL t 72 i key) 71 2 ((n : Int) + 1)).2 72 = zUpd (t.2 72) i key := funext fun j => by
        rw [zp2, zl2, if_pos rfl]; rfl
      rw [this]
      exact t2.fin t3 hS
theorem s_push0 {z : gZ} {w : Nat} {d : Int} (hk : kOk c) (hw : w < kW c) (h73 : z.1 73 w ≠ -1) : q_Front_push E (kL c) (w : Int) d z = some z := by
  unfold q_Front_push
  rw [kL_73, gtN, if_pos (by omega), if_neg h73]
theorem s_pop0 {z : gZ} (h : z.1 71 2 = 0) : q_Front_pop E (kL c) z = some (-1, z) := by
  unfold q_Front_pop
  rw [if_pos h]
theorem s_pop {z : gZ} {n : Nat} {S : Int → Prop} (hk : kOk c) (hn : z.1 71 2 = ((n + 1 : Nat) : Int)) (hnW : n < kW c) (H : Hpq (z.2 72) (n + 1) S) : zOk (q_Front_pop E (kL c) z) (fun r => r.1 = zInt (zAndJ (z.2 72 0) 1023) ∧ zO pFr z r.2 ∧ (∀ v, r.2.1 73 v = z.1 73 v) ∧ r.2.1 71 2 = n ∧ Hpq (r.2.2 72) n (fun x => S x ∧ x ≠ z.2 72 0)) := by
  have hW := kW_b' hk
  unfold q_Front_pop
  rw [kL_72, hn]
  (refine ok_neg (by omega) ?_); (refine ok_gd (by omega) ?_)
  rw [ok_l]
  (refine ok_gd (by omega) ?_)
  rw [ok_l]
  generalize hz1 : zPut z 71 2 (((n + 1 : Nat) : Int) - 1) = z1
  have e73 : ∀ v, z1.1 73 v = z.1 73 v := fun v => by rw [← hz1]; (simp only [zp1, zr1, zf1, Nat.reduceEqDiff, Nat.reduceBEq, reduceIte, if_true, if_false, and_true, true_and, and_false, false_and, gtN])
  have e2 : z1.1 71 2 = n := by rw [← hz1]; (simp only [zp1, zr1, zf1, Nat.reduceEqDiff, Nat.reduceBEq, reduceIte, if_true, if_false, and_true, true_and, and_false, false_and, gtN]); omega
  have eo : zO pFr z z1 := by rw [← hz1]; exact o_put (Or.inr ⟨rfl, rfl⟩)
  have eh : z1.2 = z.2 := by rw [← hz1]; rfl
  rw [e2]
  (refine ok_gd (by omega) ?_)
  rw [ok_l, gtN, eh]
  generalize hkey : z.2 72 n = key
  generalize hlst : z.2 72 0 = lst
  have Hd : HDn (z.2 72) n 0 key (fun x => S x ∧ x ≠ lst ∧ x ≠ key) := by rw [← hkey, ← hlst]; exact HDn.ini H
  have fin : ∀ (i : Nat) (t : gZ), t.1 = z1.1 → HDn (t.2 72) n i key (fun x => S x ∧ x ≠ lst ∧ x ≠ key) → (∀ j, 0 < j → j < n → (j - 1) / 2 = i → j ≠ i → key ≤ t.2 72 j) → zOk (q_Front_pop_j130 E (kL c) lst key (i : Int) t) (fun r => r.1 = zInt (zAndJ lst 1023) ∧ zO pFr z r.2 ∧ (∀ v, r.2.1 73 v = z.1 73 v) ∧ r.2.1 71 2 = n ∧ Hpq (r.2.2 72) n (fun x => S x ∧ x ≠ lst)) := fun i t t1 t2 t3 => by
    have hl := t2.le
    unfold q_Front_pop_j130
    rw [kL_72]
    (refine ok_gd (by omega) ?_)
    rw [ok_l, gtN]
    refine ok_so ⟨rfl, ?_, fun v => ?_, ?_, ?_⟩
    · intro k j hh
      show (zPutL t 72 i key).1 k j = _
      rw [zl1, t1]; exact eo k j hh
    · show (zPutL t 72 i key).1 73 v = _
      rw [zl1, t1]; exact e73 v
    · show (zPutL t 72 i key).1 71 2 = _
      rw [zl1, t1]; exact e2
    · show Hpq ((zPutL t 72 i key).2 72) n _
      have : (zPutL t 72 i key).2 72 = zUpd (t.2 72) i key := funext fun j => by rw [zl2, if_pos rfl]; rfl
      rw [this]
      by_cases e0 : n = 0
      · subst e0
        refine ⟨fun i _ h => by omega, fun i j h => by omega, fun x => ⟨fun ⟨i, h, _⟩ => by omega, fun ⟨h1, h2⟩ => ?_⟩⟩
        obtain ⟨i, i1, i2⟩ := (H.mem x).2 h1
        have : i = 0 := by omega
        subst this
        exact absurd (i2.symm.trans hlst) h2
      · have F := t2.fin (by omega) t3 (fun x => x.2.2 rfl)
        refine ⟨F.hp, F.inj, fun x => ?_⟩
        rw [F.mem x]
        constructor
        · rintro (e | e)
          · subst e
            refine ⟨(H.mem x).1 ⟨n, by omega, hkey⟩, fun e => ?_⟩
            have := H.inj n 0 (by omega) (by omega) (by rw [hkey, hlst, e])
            omega
          · exact ⟨e.1, e.2.1⟩
        · rintro ⟨e1, e2⟩
          by_cases e3 : x = key
          · exact Or.inl e3
          · exact Or.inr ⟨e1, e2, e3⟩
  refine ok_b1 (fun r => ∃ (i : Nat) (t : gZ), (r = .inl ((i : Int), t) ∨ r = .inr ((i : Int), t)) ∧ t.1 = z1.1 ∧ HDn (t.2 72) n i key (fun x => S x ∧ x ≠ lst ∧ x ≠ key) ∧ (∀ j, 0 < j → j < n → (j - 1) / 2 = i → j ≠ i → key ≤ t.2 72 j)) ?_ fun r ⟨i, t, e, t1, t2, t3⟩ => ?_
  · refine it_inv (fun r => ∃ (i : Nat) (t : gZ), r = ((i : Int), t) ∧ i < 1000 ∧ t.1 = z1.1 ∧ HDn (t.2 72) n i key (fun x => S x ∧ x ≠ lst ∧ x ≠ key)) _ (fun r => 1000 - r.1.toNat) ⟨0, z1, rfl, by omega, rfl, by rw [eh]; exact Hd⟩ (by show 1000 - _ < _; omega) ?_
    rintro r ⟨i, t, rfl, hi, t1, t2⟩
    have hl := t2.le
    have t712 : t.1 71 2 = n := by rw [t1]; exact e2
    show (∃ s', q_Front_pop_39 E (kL c) lst key (i : Int) t = some (Sum.inl s') ∧ _) ∨ _
    unfold q_Front_pop_39
    rw [t712, if_pos (by omega), kL_72]
    by_cases e : n ≤ 2 * i + 1
    · right
      exact ⟨_, by rw [if_pos (by omega)], i, t, Or.inr rfl, t1, t2, fun j j0 j1 j2 j3 => by omega⟩
    · rw [if_neg (by omega), let_s, if_pos (by omega)]
      have go : ∀ m : Nat, (m = 2 * i + 1 ∨ m = 2 * i + 2) → m < n → (∀ j, 0 < j → j < n → (j - 1) / 2 = i → j ≠ i → t.2 72 m ≤ t.2 72 j) → (∃ s', q_Front_pop_j94_39 E (kL c) lst key (i : Int) (m : Int) t = some (Sum.inl s') ∧ (∃ (i : Nat) (t : gZ), s' = ((i : Int), t) ∧ i < 1000 ∧ t.1 = z1.1 ∧ HDn (t.2 72) n i key (fun x => S x ∧ x ≠ lst ∧ x ≠ key)) ∧ 1000 - s'.1.toNat < 1000 - ((i : Int)).toNat) ∨ (∃ e, q_Front_pop_j94_39 E (kL c) lst key (i : Int) (m : Int) t = some (Sum.inr e) ∧ ∃ (i : Nat) (t : gZ), (e = .inl ((i : Int), t) ∨ e = .inr ((i : Int), t)) ∧ t.1 = z1.1 ∧ HDn (t.2 72) n i key (fun x => S x ∧ x ≠ lst ∧ x ≠ key) ∧ (∀ j, 0 < j → j < n → (j - 1) / 2 = i → j ≠ i → key ≤ t.2 72 j)) := fun m hm hmn hs => by
        unfold q_Front_pop_j94_39
        rw [kL_72, if_pos (by omega), gtN]
        by_cases e3 : t.2 72 m < key
        · left
          rw [if_pos e3, if_pos (by omega), let_s, gtN]
          refine ⟨_, rfl, ⟨m, _, rfl, by omega, t1, ?_⟩, ?_⟩
          · have : (zPutL t 72 i (t.2 72 m)).2 72 = zUpd (t.2 72) i (t.2 72 m) := funext fun j => by rw [zl2, if_pos rfl]; rfl
            rw [this]
            exact t2.move hm hmn hs e3
          · show 1000 - ((m : Int)).toNat < _
            omega
        · right
          rw [if_neg e3]
          exact ⟨_, rfl, i, t, Or.inl rfl, t1, t2, fun j j0 j1 j2 j3 => by have := hs j j0 j1 j2 j3; omega⟩
      by_cases e4 : n ≤ 2 * i + 2
      · rw [if_pos (by omega), show 2 * (i : Int) + 1 = ((2 * i + 1 : Nat) : Int) by omega]
        exact go (2 * i + 1) (Or.inl rfl) (by omega) fun j j0 j1 j2 j3 => by
          have : j = 2 * i + 1 := by omega
          rw [this]; exact Int.le_refl _
      · rw [if_neg (by omega), if_pos (by omega), if_pos (by omega), show (2 * (i : Int) + 1).toNat = 2 * i + 1 by omega, show (2 * (i : Int) + 1 + 1).toNat = 2 * i + 2 by omega]
        by_cases e5 : t.2 72 (2 * i + 1) ≤ t.2 72 (2 * i + 2)
        · rw [if_pos e5, show 2 * (i : Int) + 1 = ((2 * i + 1 : Nat) : Int) by omega]
          exact go (2 * i + 1) (Or.inl rfl) (by omega) fun j j0 j1 j2 j3 => by
            have : j = 2 * i + 1 ∨ j = 2 * i + 2 := by omega
            rcases this with h | h <;> rw [h]
            · exact Int.le_refl _
            · exact e5
        · rw [if_neg e5, let_s, show 2 * (i : Int) + 1 + 1 = ((2 * i + 2 : Nat) : Int) by omega]
          exact go (2 * i + 2) (Or.inr rfl) (by omega) fun j j0 j1 j2 j3 => by
            have : j = 2 * i + 1 ∨ j = 2 * i + 2 := by omega
            rcases this with h | h <;> rw [h]
            · omega
            · exact Int.le_refl _
  · rcases e with e | e <;> subst e
    · rw [gs_l]; exact fin i t t1 t2 t3
    · rw [gs_r]; exact fin i t t1 t2 t3
end
-- X4
section
variable {E : gEv} {c : gCf}
/-- the first of the wires that a spot touches at a side -/
def tF (c : gCf) (sp s : Nat) : Int := if sp < kN c then (kTw c sp s : Int) else if s = 0 then (kPw c (sp - kN c) : Int) else -1
def kTc (c : gCf) (sp w : Nat) : Prop := ∃ s, s < 4 ∧ 0 ≤ tF c sp s ∧ tF c sp s ≤ w ∧ (w : Int) < tF c sp s + kT c
theorem tF_z {z : gZ} (g : Gr c z) {sp s : Nat} (hs : sp < kN c + kD c) (h4 : s < 4) : z.1 4 (sp * 4 + s) = tF c sp s := by
  obtain ⟨g1, g2, g3⟩ := g.2.2.2.1
  unfold tF
  by_cases e : sp < kN c
  · rw [if_pos e]; exact g1 sp s e h4
  · rw [if_neg e]
    by_cases e0 : s = 0
    · rw [if_pos e0, e0]
      have := g2 (sp - kN c) (by omega)
      rw [show (kN c + (sp - kN c)) * 4 = sp * 4 + 0 by omega] at this
      exact this
    · rw [if_neg e0]
      have := g3 (sp - kN c) s (by omega) (by omega) h4
      rw [show (kN c + (sp - kN c)) * 4 + s = sp * 4 + s by omega] at this
      exact this
theorem kTw_m (c : gCf) (t s : Nat) : kTw c t s % kT c = 0 := by
  have hF := kF_m c
  unfold kTw
  split
  · exact Nat.mul_mod_left _ _
  · split
    · exact Nat.mul_mod_left _ _
    · split
      · rw [Nat.add_mod, hF, Nat.mul_mod_left, Nat.zero_add, Nat.zero_mod]
      · rw [Nat.add_mod, hF, Nat.mul_mod_left, Nat.zero_add, Nat.zero_mod]
theorem kPw_m (c : gCf) (p : Nat) : kPw c p % kT c = 0 := by
  have hF := kF_m c
  unfold kPw
  split
  · exact Nat.mul_mod_left _ _
  · split
    · exact Nat.mul_mod_left _ _
    · split
      · rw [Nat.add_mod, hF, Nat.mul_mod_left, Nat.zero_add, Nat.zero_mod]
      · rw [Nat.add_mod, hF, Nat.mul_mod_left, Nat.zero_add, Nat.zero_mod]
theorem tF_n (hk : kOk c) {sp s : Nat} (hs : sp < kN c + kD c) : tF c sp s = -1 ∨ ∃ a : Nat, tF c sp s = a ∧ a % kT c = 0 ∧ ∀ t, t < kT c → a + t < kW c := by
  unfold tF
  by_cases e : sp < kN c
  · rw [if_pos e]; exact Or.inr ⟨_, rfl, kTw_m c sp s, fun t ht => kTw_lt hk e ht⟩
  · rw [if_neg e]
    by_cases e0 : s = 0
    · rw [if_pos e0]; exact Or.inr ⟨_, rfl, kPw_m c _, fun t ht => kPw_lt hk (by omega) ht⟩
    · rw [if_neg e0]; exact Or.inl rfl
theorem tF_0 (c : gCf) (sp : Nat) : 0 ≤ tF c sp 0 := by
  unfold tF
  split
  · omega
  · rw [if_pos rfl]; omega
theorem mod_at {a t T : Nat} (h : a % T = 0) (ht : t < T) : (a + t) % T = t := by
  rw [Nat.add_mod, h, Nat.zero_add, Nat.mod_mod, Nat.mod_eq_of_lt ht]
theorem kTc_W (hk : kOk c) {sp w : Nat} (hs : sp < kN c + kD c) (h : kTc c sp w) : w < kW c := by
  obtain ⟨s, s1, s2, s3, s4⟩ := h
  rcases tF_n (s := s) hk hs with e | ⟨a, a1, a2, a3⟩
  · omega
  · have := a3 (w - a) (by omega)
    omega
/-- in each track a spot touches a wire -/
theorem kTc_t (hk : kOk c) {sp t : Nat} (hs : sp < kN c + kD c) (ht : t < kT c) : ∃ w, w < kW c ∧ kTc c sp w ∧ w % kT c = t := by
  have h0 := tF_0 c sp
  rcases tF_n (s := 0) hk hs with e | ⟨a, a1, a2, a3⟩
  · omega
  · exact ⟨a + t, a3 t ht, ⟨0, by omega, by omega, by omega, by omega⟩, mod_at a2 ht⟩
/-- the first side by which a spot touches a wire, and its number there -/
theorem s_reach {z : gZ} (g : Gr c z) {sp w : Nat} (hs : sp < kN c + kD c) (hw : w < kW c) : (∃ s a : Nat, s < 4 ∧ tF c sp s = a ∧ a ≤ w ∧ w < a + kT c ∧ (∀ s', s' < s → ¬ (0 ≤ tF c sp s' ∧ tF c sp s' ≤ w ∧ (w : Int) < tF c sp s' + kT c)) ∧ q_Grid_reach E (kL c) (sp : Int) (w : Int) z = some ((s * kT c + (w - a) : Nat) : Int)) ∨ (¬ kTc c sp w ∧ q_Grid_reach E (kL c) (sp : Int) (w : Int) z = some (-1)) := by
  have hN := kN_b g.1
  have hD := kD_b g.1
  have hW := kW_b g.1
  obtain ⟨-, -, -, ⟨t1, t2⟩⟩ := id g.1
  have o3 : z.1 1 3 = kT c := g.2.1.2.2.2.1
  have st : ∀ s : Nat, s < 4 → q_Grid_reach_2 E (kL c) (sp : Int) (w : Int) (s : Int) z = if 0 ≤ tF c sp s ∧ tF c sp s ≤ w ∧ (w : Int) < tF c sp s + kT c then some (.inr (.inl ((s : Int), tF c sp s))) else some (.inl ((s : Int) + 1)) := fun s h4 => by
    unfold q_Grid_reach_2
    rw [kL_4, o3, if_neg (by omega), if_pos (by omega), let_s, show ((sp : Int) * 4 + (s : Int)).toNat = sp * 4 + s by omega, tF_z g hs h4]
    rcases tF_n (s := s) g.1 hs with e | ⟨a, a1, a2, a3⟩
    · rw [if_pos e, let_s, if_neg (by omega)]
    · have := a3 0 (by omega)
      rw [a1, if_neg (by omega)]
      by_cases e1 : (w : Int) < a
      · rw [if_pos e1, let_s, if_neg (by omega)]
      · rw [if_neg e1, if_pos (by omega)]
        by_cases e2 : (a : Int) + kT c ≤ w
        · rw [if_pos e2, let_s, if_neg (by omega)]
        · rw [if_neg e2, if_pos (by omega)]
  unfold q_Grid_reach
  rcases it_find (f := fun y => q_Grid_reach_2 E (kL c) (sp : Int) (w : Int) y z) (fun s => 0 ≤ tF c sp s ∧ tF c sp s ≤ w ∧ (w : Int) < tF c sp s + kT c) (fun s => Sum.inl ((s : Int), tF c sp s)) 0 4 (e := Sum.inr ()) (s := 0) rfl (by omega) (by omega) (fun i _ hi hp => by rw [st i hi, if_neg hp]) (fun i _ hi hp => by rw [st i hi, if_pos hp]) (by show q_Grid_reach_2 E (kL c) (sp : Int) (w : Int) 4 z = _; unfold q_Grid_reach_2; rw [if_pos (by omega)]) with ⟨s, -, s1, s2, s3, s4⟩ | ⟨s1, s2⟩
  · left
    have ha : ∃ a : Nat, tF c sp s = a := ⟨(tF c sp s).toNat, by omega⟩
    obtain ⟨a, ha⟩ := ha
    refine ⟨s, a, s1, ha, by omega, by omega, fun s' hs' => s3 s' (by omega) hs', ?_⟩
    rw [s4, b1_s, gs_l]
    dsimp only
    rw [ha, o3]
    have h5 : s * kT c ≤ 3 * 10 := Nat.mul_le_mul (by omega) t2
    have e : ((s : Int) * (kT c : Int)) + (w : Int) - (a : Int) = ((s * kT c + (w - a) : Nat) : Int) := by
      rw [← Int.natCast_mul]
      generalize s * kT c = m at *
      omega
    rw [e]
    generalize s * kT c = m at *
    rw [if_pos (by omega)]
  · right
    refine ⟨fun ⟨s, h1, h2⟩ => s1 s (by omega) h1 h2, ?_⟩
    rw [s2, b1_s, gs_r]
theorem s_reach0 {z : gZ} (g : Gr c z) {sp w : Nat} (hs : sp < kN c + kD c) (hw : w < kW c) : ∃ v : Int, q_Grid_reach E (kL c) (sp : Int) (w : Int) z = some v ∧ (v = -1 ↔ ¬ kTc c sp w) := by
  rcases s_reach (E := E) g hs hw with ⟨s, a, h1, h2, h3, h4, -, h5⟩ | ⟨h1, h2⟩
  · refine ⟨_, h5, ?_⟩
    constructor
    · intro e; omega
    · intro e; exact absurd ⟨s, h1, by omega, by omega, by omega⟩ e
  · exact ⟨-1, h2, ⟨fun _ => h1, fun _ => rfl⟩⟩
/-- costs in the class: of wires that the net has not -/
def CsO (c : gCf) (own : Nat → Prop) (cost : Nat → Nat) (z : gZ) : Prop := (z.1 70 14 = -1 ∧ ∀ w, w < kW c → (-2147483648 ≤ (1 + z.1 76 w) * (1 + (z.1 70 13 - 1) * z.1 75 w) ∧ (1 + z.1 76 w) * (1 + (z.1 70 13 - 1) * z.1 75 w) < 2147483648) ∧ (¬ own w → (1 + z.1 76 w) * (1 + (z.1 70 13 - 1) * z.1 75 w) = cost w)) ∨ (∃ t : Nat, z.1 70 14 = t) ∧ ∀ w, cost w = 1
theorem s_costOf {z : gZ} {own : Nat → Prop} {cost : Nat → Nat} (hk : kOk c) (h : CsO c own cost z) {w : Nat} (hw : w < kW c) : ∃ v : Int, q_Router_costOf E (kL c) (w : Int) z = some v ∧ (¬ own w → v = cost w) := by
  unfold q_Router_costOf
  rw [kL_76, kL_75]
  rcases h with ⟨h1, h2⟩ | ⟨⟨t, h1⟩, h2⟩
  · obtain ⟨h3, h4⟩ := h2 w hw
    rw [if_pos h1, if_pos (by omega), if_pos (by omega), gtN, if_pos h3]
    exact ⟨_, rfl, h4⟩
  · rw [if_neg (by omega)]
    exact ⟨1, rfl, fun _ => by rw [h2]; rfl⟩
theorem CsO_o {P : Nat → Nat → Prop} {z s : gZ} {own : Nat → Prop} {cost : Nat → Nat} (h : CsO c own cost z) (o : zO P z s) (hP : ∀ k j, P k j → k ≠ 75 ∧ k ≠ 76 ∧ ¬ (k = 70 ∧ (j = 13 ∨ j = 14))) : CsO c own cost s := by
  have e5 : s.1 75 = z.1 75 := funext fun j => o 75 j fun x => (hP _ _ x).1 rfl
  have e6 : s.1 76 = z.1 76 := funext fun j => o 76 j fun x => (hP _ _ x).2.1 rfl
  have e3 : s.1 70 13 = z.1 70 13 := o 70 13 fun x => (hP _ _ x).2.2 ⟨rfl, Or.inl rfl⟩
  have e4 : s.1 70 14 = z.1 70 14 := o 70 14 fun x => (hP _ _ x).2.2 ⟨rfl, Or.inr rfl⟩
  unfold CsO
  rw [e5, e6, e3, e4]; exact h
theorem Gr_o {P : Nat → Nat → Prop} {z z' : gZ} (h : zO P z z') (hP : ∀ k j, pS k j → ¬ P k j) (g : Gr c z) : Gr c z' := Gr_c (fun k j hk => h k j (hP k j hk)) g
/-- the front in a search -/
abbrev SrI (c : gCf) (g : Gph) (z0 z : gZ) (P : Nat → Bool) : Prop := ∃ _ : (zO pFr z0 z), ∃ _ : (z.1 71 2 = (cnb (fun w => decide (z.1 73 w ≠ -1) && !P w) (kW c) : Nat)), ∃ _ : (Hpq (z.2 72) (cnb (fun w => decide (z.1 73 w ≠ -1) && !P w) (kW c)) (fun x => ∃ w d : Nat, w < kW c ∧ z.1 73 w = d ∧ P w = false ∧ x = ((d * 1024 + w : Nat) : Int))), ∃ _ : (∀ w, w < kW c → z.1 73 w = -1 ∨ ∃ d : Nat, z.1 73 w = d ∧ Dst g w d), (∀ w, w < kW c → P w = true → z.1 73 w ≠ -1)
theorem SrI.o {c : gCf} {g : Gph} {z0 z : gZ} {P : Nat → Bool} (h : SrI c g z0 z P) : zO pFr z0 z := by obtain ⟨x, _⟩ := h; exact x
theorem SrI.n {c : gCf} {g : Gph} {z0 z : gZ} {P : Nat → Bool} (h : SrI c g z0 z P) : z.1 71 2 = (cnb (fun w => decide (z.1 73 w ≠ -1) && !P w) (kW c) : Nat) := by obtain ⟨_, x, _⟩ := h; exact x
theorem SrI.h {c : gCf} {g : Gph} {z0 z : gZ} {P : Nat → Bool} (h : SrI c g z0 z P) : Hpq (z.2 72) (cnb (fun w => decide (z.1 73 w ≠ -1) && !P w) (kW c)) (fun x => ∃ w d : Nat, w < kW c ∧ z.1 73 w = d ∧ P w = false ∧ x = ((d * 1024 + w : Nat) : Int)) := by obtain ⟨_, _, x, _⟩ := h; exact x
theorem SrI.d {c : gCf} {g : Gph} {z0 z : gZ} {P : Nat → Bool} (h : SrI c g z0 z P) : ∀ w, w < kW c → z.1 73 w = -1 ∨ ∃ d : Nat, z.1 73 w = d ∧ Dst g w d := by obtain ⟨_, _, _, x, _⟩ := h; exact x
theorem SrI.p {c : gCf} {g : Gph} {z0 z : gZ} {P : Nat → Bool} (h : SrI c g z0 z P) : ∀ w, w < kW c → P w = true → z.1 73 w ≠ -1 := by obtain ⟨_, _, _, _, x⟩ := h; exact x
theorem SrI_push {g : Gph} {z0 z : gZ} {P : Nat → Bool} (hk : kOk c) (H : SrI c g z0 z P) (hB : ∀ w d, Dst g w d → d < 2147483648) {w d : Nat} (hw : w < kW c) (hd : z.1 73 w = -1 → Dst g w d) : zOk (q_Front_push E (kL c) (w : Int) (d : Int) z) (fun s => SrI c g z0 s P ∧ s.1 73 w ≠ -1 ∧ (∀ v, v ≠ w → s.1 73 v = z.1 73 v) ∧ (z.1 73 w ≠ -1 → s.1 73 w = z.1 73 w) ∧ (z.1 73 w = -1 → s.1 73 w = d)) := by
  have hW := kW_b' hk
  by_cases e : z.1 73 w = -1
  · have hP : P w = false := by
      cases hp : P w
      · rfl
      · exact absurd e (H.p w hw hp)
    have hD := hd e
    have hlt := hB w d hD
    have nS : ¬ (∃ w' d' : Nat, w' < kW c ∧ z.1 73 w' = d' ∧ P w' = false ∧ ((d * 1024 + w : Nat) : Int) = ((d' * 1024 + w' : Nat) : Int)) := by
      rintro ⟨w', d', h1, h2, h3, h4⟩
      have : w' = w := by omega
      subst this; omega
    refine ok_w (s_push hk hw hlt e H.n (cnb_lt hw (by rw [e]; simp)) H.h nS) fun s ⟨s1, s2, s3, s4⟩ => ?_
    have cn : cnb (fun v => decide (s.1 73 v ≠ -1) && !P v) (kW c) = cnb (fun v => decide (z.1 73 v ≠ -1) && !P v) (kW c) + 1 := by
      refine cnb_add hw (by rw [e]; simp) ?_ fun i hi => ?_
      · show (decide (s.1 73 w ≠ -1) && !P w) = true
        rw [s2, if_pos rfl, hP]
        have : decide ((d : Int) ≠ -1) = true := decide_eq_true (by omega)
        rw [this]; rfl
      · show (decide (s.1 73 i ≠ -1) && !P i) = _
        rw [s2, if_neg hi]
    refine ⟨⟨o_t H.o s1, by rw [cn]; exact s3, ?_, fun v hv => ?_, fun v hv pv => ?_⟩, by rw [s2, if_pos rfl]; omega, fun v hv => by rw [s2, if_neg hv], fun x => absurd e x, fun _ => by rw [s2, if_pos rfl]⟩
    · rw [cn]
      refine ⟨s4.hp, s4.inj, fun x => ?_⟩
      rw [s4.mem x]
      constructor
      · rintro (h | ⟨w', d', h1, h2, h3, h4⟩)
        · exact ⟨w, d, hw, by rw [s2, if_pos rfl], hP, h⟩
        · refine ⟨w', d', h1, ?_, h3, h4⟩
          rw [s2, if_neg (fun x => by subst x; omega)]; exact h2
      · rintro ⟨w', d', h1, h2, h3, h4⟩
        rw [s2] at h2
        by_cases e2 : w' = w
        · rw [if_pos e2] at h2
          left
          have : d' = d := by omega
          rw [h4, this, e2]
        · rw [if_neg e2] at h2
          exact Or.inr ⟨w', d', h1, h2, h3, h4⟩
    · rw [s2]
      by_cases e2 : v = w
      · rw [if_pos e2]; exact Or.inr ⟨d, rfl, by rw [e2]; exact hD⟩
      · rw [if_neg e2]; exact H.d v hv
    · rw [s2]
      by_cases e2 : v = w
      · rw [if_pos e2]; omega
      · rw [if_neg e2]; exact H.p v hv pv
  · exact ok_e (s_push0 hk hw e) ⟨H, e, fun _ _ => rfl, fun _ => rfl, fun x => absurd x e⟩
end
-- X5
section
variable {E : gEv} {c : gCf}
theorem cnb_ex {p : Nat → Bool} {n : Nat} (h : 0 < cnb p n) : ∃ w, w < n ∧ p w = true := by
  induction n with
  | zero => have : cnb p 0 = 0 := rfl; omega
  | succ n ih =>
    by_cases e : p n = true
    · exact ⟨n, by omega, e⟩
    · rw [cnb, if_neg e] at h
      obtain ⟨w, w1, w2⟩ := ih (by omega)
      exact ⟨w, by omega, w2⟩
theorem cnb_pos {p : Nat → Bool} {n w : Nat} (hw : w < n) (h : p w = true) : 0 < cnb p n := by
  induction n with
  | zero => omega
  | succ n ih =>
    rw [cnb]
    by_cases e : w = n
    · rw [← e, h]; simp
    · have := ih (by omega); omega
theorem SrI_pop {g : Gph} {z0 z : gZ} {P : Nat → Bool} (hk : kOk c) (H : SrI c g z0 z P) (hB : ∀ w d, Dst g w d → d < 2147483648) : zOk (q_Front_pop E (kL c) z) (fun r => (r.1 = -1 ∧ r.2 = z ∧ ∀ w, w < kW c → z.1 73 w ≠ -1 → P w = true) ∨ ∃ m D : Nat, r.1 = m ∧ m < kW c ∧ P m = false ∧ z.1 73 m = D ∧ Dst g m D ∧ (∀ w d : Nat, w < kW c → z.1 73 w = d → P w = false → D < d ∨ (D = d ∧ m ≤ w)) ∧ (∀ v, r.2.1 73 v = z.1 73 v) ∧ SrI c g z0 r.2 (fun w => P w || decide (w = m))) := by
  have hW := kW_b' hk
  by_cases e : cnb (fun w => decide (z.1 73 w ≠ -1) && !P w) (kW c) = 0
  · refine ok_e (s_pop0 (by rw [H.n, e]; rfl)) (Or.inl ⟨rfl, rfl, fun w hw h => ?_⟩)
    cases hp : P w
    · have := cnb_pos (p := fun w => decide (z.1 73 w ≠ -1) && !P w) hw (by show (decide (z.1 73 w ≠ -1) && !P w) = true; rw [hp, decide_eq_true h]; rfl)
      omega
    · rfl
  · have hn : ∃ n, cnb (fun w => decide (z.1 73 w ≠ -1) && !P w) (kW c) = n + 1 := ⟨cnb (fun w => decide (z.1 73 w ≠ -1) && !P w) (kW c) - 1, by omega⟩
    obtain ⟨n, hn⟩ := hn
    have h := H.h
    have hle := cnb_le (fun w => decide (z.1 73 w ≠ -1) && !P w) (kW c)
    rw [hn] at h hle
    obtain ⟨m, D, m1, m2, m3, m4⟩ := (h.mem (z.2 72 0)).1 ⟨0, by omega, rfl⟩
    have hDm : Dst g m D := by
      rcases H.d m m1 with x | ⟨d, x1, x2⟩
      · omega
      · have : d = D := by omega
        subst this; exact x2
    refine ok_w (s_pop hk (by rw [H.n, hn]) (by omega) h) fun r ⟨r1, r2, r3, r4, r5⟩ => Or.inr ⟨m, D, ?_, m1, m3, m2, hDm, fun w d hw hd hp => ?_, r3, ?_⟩
    · rw [r1, m4]; exact key_w D m (hB _ _ hDm) (by omega)
    · obtain ⟨i, i1, i2⟩ := (h.mem ((d * 1024 + w : Nat) : Int)).2 ⟨w, d, hw, hd, hp, rfl⟩
      have := h.top i i1
      rw [i2, m4] at this
      omega
    · have cn : cnb (fun w => decide (z.1 73 w ≠ -1) && !P w) (kW c) = cnb (fun w => decide (r.2.1 73 w ≠ -1) && !(P w || decide (w = m))) (kW c) + 1 := by
        refine cnb_add m1 ?_ ?_ fun i hi => ?_
        · simp
        · show (decide (z.1 73 m ≠ -1) && !P m) = true
          rw [m3, decide_eq_true (show z.1 73 m ≠ -1 by omega)]; rfl
        · show (decide (z.1 73 i ≠ -1) && !P i) = (decide (r.2.1 73 i ≠ -1) && !(P i || decide (i = m)))
          rw [r3, decide_eq_false hi, Bool.or_false]
      have cn' : cnb (fun w => decide (r.2.1 73 w ≠ -1) && !(P w || decide (w = m))) (kW c) = n := by omega
      refine ⟨o_t H.o r2, by rw [cn']; exact r4, ?_, fun w hw => by rw [r3]; exact H.d w hw, fun w hw hp => ?_⟩
      · rw [cn']
        refine ⟨r5.hp, r5.inj, fun x => ?_⟩
        rw [r5.mem x]
        constructor
        · rintro ⟨⟨w, d, w1, w2, w3, w4⟩, w5⟩
          refine ⟨w, d, w1, by rw [r3]; exact w2, ?_, w4⟩
          have : w ≠ m := fun x => by
            subst x
            have : d = D := by omega
            subst this
            exact w5 (w4.trans m4.symm)
          dsimp only; rw [w3, decide_eq_false this]; rfl
        · rintro ⟨w, d, w1, w2, w3, w4⟩
          rw [r3] at w2
          rw [Bool.or_eq_false_iff] at w3
          have hne : w ≠ m := of_decide_eq_false w3.2
          refine ⟨⟨w, d, w1, w2, w3.1, w4⟩, fun x => ?_⟩
          rw [w4, m4] at x
          have := hB _ _ hDm
          omega
      · rw [r3]
        rw [Bool.or_eq_true] at hp
        rcases hp with hp | hp
        · exact H.p w hw hp
        · have : w = m := of_decide_eq_true hp
          subst this; omega
/-- what a search of a net needs -/
abbrev RG (c : gCf) (fin : Nat → Prop) (cost : Nat → Nat) (own : Nat → Prop) (B : Nat) : Prop := ∃ _ : (∀ w, 1 ≤ cost w), ∃ _ : (∀ w, cost w ≤ B), ∃ _ : (27 * B < 2147483648), ∃ _ : (∀ u w, u % kT c = w % kT c → fin u → fin w), ∃ _ : (∀ w, own w → w < kW c ∧ fin w), (∃ t, t < kT c ∧ ∀ w, w % kT c = t → fin w)
theorem RG.pos {c : gCf} {fin : Nat → Prop} {cost : Nat → Nat} {own : Nat → Prop} {B : Nat} (h : RG c fin cost own B) : ∀ w, 1 ≤ cost w := by obtain ⟨x, _⟩ := h; exact x
theorem RG.cb {c : gCf} {fin : Nat → Prop} {cost : Nat → Nat} {own : Nat → Prop} {B : Nat} (h : RG c fin cost own B) : ∀ w, cost w ≤ B := by obtain ⟨_, x, _⟩ := h; exact x
theorem RG.bb {c : gCf} {fin : Nat → Prop} {cost : Nat → Nat} {own : Nat → Prop} {B : Nat} (h : RG c fin cost own B) : 27 * B < 2147483648 := by obtain ⟨_, _, x, _⟩ := h; exact x
theorem RG.ft {c : gCf} {fin : Nat → Prop} {cost : Nat → Nat} {own : Nat → Prop} {B : Nat} (h : RG c fin cost own B) : ∀ u w, u % kT c = w % kT c → fin u → fin w := by obtain ⟨_, _, _, x, _⟩ := h; exact x
theorem RG.of {c : gCf} {fin : Nat → Prop} {cost : Nat → Nat} {own : Nat → Prop} {B : Nat} (h : RG c fin cost own B) : ∀ w, own w → w < kW c ∧ fin w := by obtain ⟨_, _, _, _, x, _⟩ := h; exact x
theorem RG.ex {c : gCf} {fin : Nat → Prop} {cost : Nat → Nat} {own : Nat → Prop} {B : Nat} (h : RG c fin cost own B) : ∃ t, t < kT c ∧ ∀ w, w % kT c = t → fin w := by obtain ⟨_, _, _, _, _, x⟩ := h; exact x
section
variable {fin own : Nat → Prop} {cost : Nat → Nat} {B : Nat}
theorem RG.adj (hk : kOk c) (R : RG c fin cost own B) {u w : Nat} (h : kAdj c u w) (f : fin u) : fin w := R.ft u w (kAdj_t hk h).2.2.2 f
theorem RG.df (R : RG c fin cost own B) {sp w d : Nat} (h : Dst (gOf c fin cost own (kTc c sp)) w d) : fin w := by
  by_cases o : own w
  · exact (R.of w o).2
  · exact (dst_p h o).1
theorem RG.dB (hk : kOk c) (R : RG c fin cost own B) {sp w d : Nat} (hs : sp < kN c + kD c) (h : Dst (gOf c fin cost own (kTc c sp)) w d) : d ≤ 27 * B := by
  have hw : w < kW c := rch_W h.1
  obtain ⟨-, -, -, ⟨t1, t2⟩⟩ := id hk
  obtain ⟨s, s1, s2, s3⟩ := kTc_t hk hs (Nat.mod_lt w (show kT c > 0 by omega))
  obtain ⟨d', d1, d2⟩ := dst_all hk (own := own) (tch := kTc c sp) R.cb (fun u w a b => R.adj hk a b) s1 hw s2 (R.ft w s s3.symm (R.df h)) s3
  have := dst_u h d2
  omega
theorem RG.rc (hk : kOk c) (R : RG c fin cost own B) {sp sk : Nat} (hs : sp < kN c + kD c) (hk' : sk < kN c + kD c) : ∃ w d, w < kW c ∧ kTc c sk w ∧ Dst (gOf c fin cost own (kTc c sp)) w d := by
  obtain ⟨t, t1, t2⟩ := R.ex
  obtain ⟨s, s1, s2, s3⟩ := kTc_t hk hs t1
  obtain ⟨w, w1, w2, w3⟩ := kTc_t hk hk' t1
  obtain ⟨d, -, d2⟩ := dst_all hk (own := own) (tch := kTc c sp) R.cb (fun u w a b => R.adj hk a b) s1 w1 s2 (t2 s s3) (s3.trans w3.symm)
  exact ⟨w, d, w1, w2, d2⟩
/-- the wire at which a sink is come to -/
def BstE (c : gCf) (g : Gph) (sk e D : Nat) : Prop := e < kW c ∧ kTc c sk e ∧ Dst g e D ∧ ∀ w d, w < kW c → kTc c sk w → Dst g w d → D < d ∨ (D = d ∧ e ≤ w)
theorem bst_u {g : Gph} {sk e D e' D' : Nat} (h : BstE c g sk e D) (k : BstE c g sk e' D') : e = e' ∧ D = D' := by
  have h1 := h.2.2.2 e' D' k.1 k.2.1 k.2.2.1
  have h2 := k.2.2.2 e D h.1 h.2.1 h.2.2.1
  omega
/-- which wires can be gone to, in the class -/
def FnO (c : gCf) (fin : Nat → Prop) (z : gZ) : Prop := (z.1 70 14 = -1 ∧ ∀ w, fin w) ∨ ∃ t : Nat, t < kT c ∧ z.1 70 14 = t ∧ ∀ w, fin w ↔ w % kT c = t
def OwL (c : gCf) (own : Nat → Prop) (z : gZ) : Prop := ∃ no : Nat, z.1 70 12 = no ∧ no ≤ kW c ∧ (∀ i, i < no → ∃ w, w < kW c ∧ z.1 80 i = (w : Nat) ∧ own w) ∧ ∀ w, own w → ∃ i, i < no ∧ z.1 80 i = (w : Nat)
theorem s_search {z : gZ} {sp sk : Nat} (g : Gr c z) (hj : Jk c z) (R : RG c fin cost own B) (hsp : sp < kN c + kD c) (hsk : sk < kN c + kD c) (hC : CsO c own cost z) (hF : FnO c fin z) (hO : OwL c own z) : zOk (q_Router_search E (kL c) (sp : Int) (sk : Int) z) (fun r => ∃ e D : Nat, r.1 = e ∧ BstE c (gOf c fin cost own (kTc c sp)) sk e D ∧ zO pFr z r.2 ∧ (∀ w, w < kW c → r.2.1 73 w = -1 ∨ ∃ d : Nat, r.2.1 73 w = d ∧ Dst (gOf c fin cost own (kTc c sp)) w d) ∧ (∀ w d, Dst (gOf c fin cost own (kTc c sp)) w d → d < D → r.2.1 73 w = d) ∧ r.2.1 73 e = D) := by
  have hW := kW_b g.1
  have hN := kN_b g.1
  have hD := kD_b g.1
  obtain ⟨-, -, -, ⟨t1, t2⟩⟩ := id g.1
  have o3 : z.1 1 3 = kT c := g.2.1.2.2.2.1
  have o7 : z.1 1 7 = kW c := g.2.1.2.2.2.2.2.2.2.1
  generalize hG : gOf c fin cost own (kTc c sp) = G
  have hB : ∀ w d, Dst G w d → d < 2147483648 := fun w d h => by
    have := R.dB g.1 hsp (by rw [hG]; exact h); have := R.bb; omega
  have GW : G.W = kW c := by rw [← hG]; rfl
  have Ga : G.adj = kAdj c := by rw [← hG]; rfl
  have Gf : G.fin = fin := by rw [← hG]; rfl
  have Gc : G.cost = cost := by rw [← hG]; rfl
  have Go : G.own = own := by rw [← hG]; rfl
  have Gt : G.tch = kTc c sp := by rw [← hG]; rfl
  have hc : ∀ w, 1 ≤ G.cost w := by rw [Gc]; exact R.pos
  obtain ⟨no, no1, no2, no3, no4⟩ := hO
  have gz : ∀ {s}, zO pFr z s → Gr c s ∧ Jk c s ∧ CsO c own cost s ∧ s.1 1 3 = kT c ∧ s.1 1 7 = kW c ∧ s.1 70 = z.1 70 ∧ s.1 80 = z.1 80 := fun {s} o => by
    have gs := Gr_o o (fun k j h => by unfold pS at h; unfold pFr; omega) g
    refine ⟨gs, fun j hj' => ?_, CsO_o hC o (fun k j h => by unfold pFr at h; omega), gs.2.1.2.2.2.1, gs.2.1.2.2.2.2.2.2.2.1, funext fun j => o 70 j (by unfold pFr; omega), funext fun j => o 80 j (by unfold pFr; omega)⟩
    unfold jOk
    rw [o 5 j (by unfold pFr; omega), o 6 j (by unfold pFr; omega)]; exact hj j hj'
  unfold q_Router_search
  -- clear
  refine ok_b1 (fun s => SrI c G z s (fun _ => false) ∧ ∀ w, w < kW c → s.1 73 w = -1) ?_ fun s2 ⟨I2, m2⟩ => ?_
  · unfold q_Front_clear
    (refine ok_ll ?_)
    refine ok_b1 (fun s => s.1 71 2 = 0 ∧ zO pFr z s ∧ ∀ w, w < kW c → s.1 73 w = -1) ?_ fun s ⟨h1, h2, h3⟩ => ok_so ⟨⟨h2, ?_, ?_, fun w hw => Or.inl (h3 w hw), fun w hw hp => by cases hp⟩, h3⟩
    · rw [s_fillI 73 (-1) _ (by rw [kL_73]; omega), kL_73]
      refine ok_so ⟨by (simp only [zp1, zr1, zf1, Nat.reduceEqDiff, Nat.reduceBEq, reduceIte, if_true, if_false, and_true, true_and, and_false, false_and, gtN]), o_t (s := zPut z 71 2 0) (o_put (Or.inr ⟨rfl, rfl⟩)) (fun k j h => ?_), fun w hw => ?_⟩
      · rw [zf1, if_neg (fun x => h (Or.inl x))]
      · rw [zf1, if_pos rfl, if_pos hw]
    · have c0 : cnb (fun w => decide (s.1 73 w ≠ -1) && !false) (kW c) = 0 := cnb_0 fun i hi => by show (decide (s.1 73 i ≠ -1) && !false) = false; rw [h3 i hi]; rfl
      rw [c0]; exact h1
    · have c0 : cnb (fun w => decide (s.1 73 w ≠ -1) && !false) (kW c) = 0 := cnb_0 fun i hi => by show (decide (s.1 73 i ≠ -1) && !false) = false; rw [h3 i hi]; rfl
      rw [c0]
      refine ⟨fun i _ h => by omega, fun i j h => by omega, fun x => ⟨fun ⟨i, h, _⟩ => by omega, fun ⟨w, d, w1, w2, w3, w4⟩ => ?_⟩⟩
      have := h3 w w1; omega
  -- own
  refine ok_b1 (fun s => SrI c G z s (fun _ => false) ∧ ∀ w, own w → s.1 73 w ≠ -1) ?_ fun s6 ⟨I6, m6⟩ => ?_
  · refine it_for (fun (i : Nat) (t : gZ) => ((i : Int), t)) (fun i t => SrI c G z t (fun _ => false) ∧ ∀ i', i' < i → ∀ w : Nat, z.1 80 i' = w → t.1 73 w ≠ -1) 0 no rfl ⟨I2, fun i' hi => by omega⟩ (by omega) (by omega) ?_ ?_
    · intro i t _ hi ⟨I, m⟩
      obtain ⟨-, -, -, -, -, e70, e80⟩ := gz I.o
      obtain ⟨w, w1, w2, w3⟩ := no3 i hi
      show zOk (q_Router_search_9 E (kL c) (sp : Int) (sk : Int) (i : Int) t) _
      unfold q_Router_search_9
      rw [e70, no1, kL_80, gtN, e80, w2]
      (refine ok_neg (by omega) ?_); (refine ok_gd (by omega) ?_)
      have hd0 : Dst G w 0 := dst_o (by rw [GW]; exact w1) (by rw [Go]; exact w3)
      refine ok_b1 _ (SrI_push (d := 0) g.1 I hB w1 fun _ => hd0) fun s ⟨k1, k2, k3, k4, _⟩ => ?_
      (refine ok_ll ?_)
      refine ok_inl (Or.inl ⟨s, rfl, k1, fun i' hi' v hv => ?_⟩)
      by_cases e : v = w
      · rw [e]; exact k2
      · rw [k3 v e]
        refine m i' ?_ v hv
        by_cases e2 : i' = i
        · subst e2; rw [w2] at hv; omega
        · omega
    · intro t ⟨I, m⟩
      obtain ⟨-, -, -, -, -, e70, e80⟩ := gz I.o
      show zOk (q_Router_search_9 E (kL c) (sp : Int) (sk : Int) (no : Int) t) _
      unfold q_Router_search_9
      rw [e70, no1]
      (refine ok_pos (by omega) ?_)
      refine ok_inr ⟨_, rfl, I, fun w hw => ?_⟩
      obtain ⟨i, i1, i2⟩ := no4 w hw
      exact m i i1 w i2
  -- touched
  have tcd : ∀ w, w < kW c → kTc c sp w → fin w → ¬ own w → Dst G w (cost w) := fun w hw ht hf ho => by
    obtain ⟨d, d1, d2⟩ := dst_t (g := G) (w := w) (by rw [GW]; exact hw) (by rw [Go]; exact ho) (by rw [Gf]; exact hf) (by rw [Gt]; exact ht)
    rw [Gc] at d2
    have e : d = cost w := by
      rcases (dst_p d1 (by rw [Go]; exact ho)).2 with ⟨-, h⟩ | ⟨u, m, -, -, h⟩
      · rw [Gc] at h; exact h
      · rw [Gc] at h; omega
    rw [← e]; exact d1
  refine ok_b1 (fun s => SrI c G z s (fun _ => false) ∧ (∀ w, own w → s.1 73 w ≠ -1) ∧ ∀ w, w < kW c → fin w → kTc c sp w → s.1 73 w ≠ -1) ?_ fun s9 ⟨I9, m9, n9⟩ => ?_
  · unfold q_Router_pushTouched
    refine ok_b1 (fun s => SrI c G z s (fun _ => false) ∧ (∀ w, own w → s.1 73 w ≠ -1) ∧ ∀ w, w < kW c → fin w → kTc c sp w → s.1 73 w ≠ -1) ?_ fun s hs => ok_so hs
    refine it_for (fun (i : Nat) (t : gZ) => ((i : Int), t)) (fun i t => SrI c G z t (fun _ => false) ∧ (∀ w, own w → t.1 73 w ≠ -1) ∧ ∀ s w : Nat, s < i → fin w → 0 ≤ tF c sp s → tF c sp s ≤ w → (w : Int) < tF c sp s + kT c → t.1 73 w ≠ -1) 0 4 rfl ⟨I6, m6, fun s w hs => by omega⟩ (by omega) (by omega) ?_ ?_
    · intro s t _ h4 ⟨I, m, n⟩
      obtain ⟨gt, -, -, e13, -, -, -⟩ := gz I.o
      show zOk (q_Router_pushTouched_2 E (kL c) (sp : Int) (s : Int) t) _
      unfold q_Router_pushTouched_2
      rw [kL_4]
      (refine ok_neg (by omega) ?_); (refine ok_gd (by omega) ?_)
      rw [show ((sp : Int) * 4 + (s : Int)).toNat = sp * 4 + s by omega, tF_z gt hsp h4, ok_l]
      rcases tF_n (s := s) g.1 hsp with e | ⟨a, a1, a2, a3⟩
      · refine ok_b1 (fun u => u = t) ?_ fun u hu => ?_
        · refine it_for (fun (i : Nat) (t : gZ) => ((i : Int), t)) (fun i u => u = t) 0 0 rfl rfl (by omega) (by omega) (fun i u _ hi => by omega) fun u hu => ?_
          show zOk (q_Router_pushTouched_24 E (kL c) (sp : Int) (s : Int) (tF c sp s) 0 u) _
          unfold q_Router_pushTouched_24
          rw [hu, e13, e]
          (refine ok_neg (by omega) ?_)
          exact ok_pos rfl (ok_inr ⟨t, rfl, rfl⟩)
        · subst hu
          (refine ok_ll ?_)
          refine ok_inl (Or.inl ⟨_, rfl, I, m, fun s' w hs' hf h0 h1 h2 => n s' w ?_ hf h0 h1 h2⟩)
          by_cases e2 : s' = s
          · subst e2; omega
          · omega
      · rw [a1]
        refine ok_b1 (fun u => SrI c G z u (fun _ => false) ∧ (∀ w, t.1 73 w ≠ -1 → u.1 73 w ≠ -1) ∧ ∀ i, i < kT c → fin (a + i) → u.1 73 (a + i) ≠ -1) ?_ fun u ⟨u1, u2, u3⟩ => ?_
        · refine it_for (fun (i : Nat) (t : gZ) => ((i : Int), t)) (fun i u => SrI c G z u (fun _ => false) ∧ (∀ w, t.1 73 w ≠ -1 → u.1 73 w ≠ -1) ∧ ∀ i', i' < i → fin (a + i') → u.1 73 (a + i') ≠ -1) 0 (kT c) rfl ⟨I, fun w h => h, fun i hi => by omega⟩ (by omega) (by omega) ?_ ?_
          · intro i u _ hi ⟨u1, u2, u3⟩
            obtain ⟨gu, -, cu, e13, -, e70, -⟩ := gz u1.o
            have hw := a3 i hi
            show zOk (q_Router_pushTouched_24 E (kL c) (sp : Int) (s : Int) (a : Int) (i : Int) u) _
            unfold q_Router_pushTouched_24
            rw [e13, e70]
            (refine ok_neg (by omega) ?_); (refine ok_neg (by omega) ?_)
            have go : fin (a + i) → zOk (q_Router_pushTouched_j58_24 E (kL c) (sp : Int) (s : Int) (a : Int) (i : Int) u) (fun r => (∃ t', r = Sum.inl (((i + 1 : Nat) : Int), t') ∧ SrI c G z t' (fun _ => false) ∧ (∀ w, t.1 73 w ≠ -1 → t'.1 73 w ≠ -1) ∧ ∀ i', i' < i + 1 → fin (a + i') → t'.1 73 (a + i') ≠ -1) ∨ ∃ e, r = Sum.inr e ∧ SrI c G z e (fun _ => false) ∧ (∀ w, t.1 73 w ≠ -1 → e.1 73 w ≠ -1) ∧ ∀ i, i < kT c → fin (a + i) → e.1 73 (a + i) ≠ -1) := fun hf => by
              unfold q_Router_pushTouched_j58_24
              (refine ok_gd (by omega) ?_)
              rw [← Int.natCast_add]
              obtain ⟨v, v1, v2⟩ := s_costOf (E := E) g.1 cu hw
              refine ok_v1 v1 ?_
              have cont : ∀ s, (SrI c G z s (fun _ => false) ∧ s.1 73 (a + i) ≠ -1 ∧ (∀ v, v ≠ a + i → s.1 73 v = u.1 73 v)) → zOk (if -2147483648 ≤ (i : Int) + 1 ∧ (i : Int) + 1 < 2147483648 then gLet ((i : Int) + 1) fun x6 => some (.inl (x6, s)) else none) (fun r => (∃ t', r = Sum.inl (((i + 1 : Nat) : Int), t') ∧ SrI c G z t' (fun _ => false) ∧ (∀ w, t.1 73 w ≠ -1 → t'.1 73 w ≠ -1) ∧ ∀ i', i' < i + 1 → fin (a + i') → t'.1 73 (a + i') ≠ -1) ∨ ∃ e, r = Sum.inr e ∧ SrI c G z e (fun _ => false) ∧ (∀ w, t.1 73 w ≠ -1 → e.1 73 w ≠ -1) ∧ ∀ i, i < kT c → fin (a + i) → e.1 73 (a + i) ≠ -1) := fun s ⟨k1, k2, k3⟩ => by
                (refine ok_gd (by omega) ?_); (refine ok_ll ?_)
                refine ok_inl (Or.inl ⟨s, rfl, k1, fun w hw' => ?_, fun i' hi' hf' => ?_⟩)
                · by_cases e : w = a + i
                  · rw [e]; exact k2
                  · rw [k3 w e]; exact u2 w hw'
                · by_cases e : i' = i
                  · rw [e]; exact k2
                  · rw [k3 _ (by omega)]; exact u3 i' (by omega) hf'
              by_cases ep : u.1 73 (a + i) = -1
              · have ho : ¬ own (a + i) := fun o => u2 _ (m _ o) ep
                rw [v2 ho]
                refine ok_b1 _ (SrI_push g.1 u1 hB hw fun _ => tcd _ hw ⟨s, h4, by omega, by omega, by omega⟩ hf ho) fun s ⟨k1, k2, k3, _, _⟩ => cont s ⟨k1, k2, k3⟩
              · refine ok_v1 (s_push0 g.1 hw ep) (cont u ⟨u1, ep, fun _ _ => rfl⟩)
            have no : ¬ fin (a + i) → zOk (gLet ((i : Int) + 1) fun x7 => some (.inl (x7, u))) (fun r => (∃ t', r = Sum.inl (((i + 1 : Nat) : Int), t') ∧ SrI c G z t' (fun _ => false) ∧ (∀ w, t.1 73 w ≠ -1 → t'.1 73 w ≠ -1) ∧ ∀ i', i' < i + 1 → fin (a + i') → t'.1 73 (a + i') ≠ -1) ∨ ∃ e, r = Sum.inr e ∧ SrI c G z e (fun _ => false) ∧ (∀ w, t.1 73 w ≠ -1 → e.1 73 w ≠ -1) ∧ ∀ i, i < kT c → fin (a + i) → e.1 73 (a + i) ≠ -1) := fun hf => by
              (refine ok_ll ?_)
              refine ok_inl (Or.inl ⟨u, rfl, u1, u2, fun i' hi' hf' => ?_⟩)
              by_cases e : i' = i
              · rw [e] at hf'; exact absurd hf' hf
              · exact u3 i' (by omega) hf'
            have md : (a + i) % kT c = i := mod_at a2 hi
            rcases hF with ⟨f1, f2⟩ | ⟨tr, f1, f2, f3⟩
            · exact ok_pos f1 (go (f2 _))
            · rw [f2]
              (refine ok_neg (by omega) ?_)
              refine ok_br (fun e => go ?_) fun e => no ?_
              · rw [f3, md]; omega
              · rw [f3, md]; omega
          · intro u ⟨u1, u2, u3⟩
            obtain ⟨gu, -, cu, e13, -, e70, -⟩ := gz u1.o
            show zOk (q_Router_pushTouched_24 E (kL c) (sp : Int) (s : Int) (a : Int) (kT c : Int) u) _
            unfold q_Router_pushTouched_24
            rw [e13]
            (refine ok_pos (by omega) ?_)
            exact ok_inr ⟨_, rfl, u1, u2, u3⟩
        · (refine ok_ll ?_)
          refine ok_inl (Or.inl ⟨_, rfl, u1, fun w hw => u2 w (m w hw), fun s' w hs' hf h0 h1 h2 => ?_⟩)
          by_cases e2 : s' = s
          · subst e2
            have := u3 (w - a) (by omega)
            rw [show a + (w - a) = w by omega] at this
            exact this hf
          · exact u2 w (n s' w (by omega) hf h0 h1 h2)
    · intro t ⟨I, m, n⟩
      show zOk (q_Router_pushTouched_2 E (kL c) (sp : Int) 4 t) _
      unfold q_Router_pushTouched_2
      (refine ok_pos (by omega) ?_)
      exact ok_inr ⟨_, rfl, I, m, fun w hw hf ⟨s, s1, s2, s3, s4⟩ => n s w s1 hf s2 s3 s4⟩
  -- nearest first
  let J : (Nat → Bool) → gZ → Prop := fun P t => SrI c G z t P ∧ (∀ w, own w → t.1 73 w ≠ -1) ∧ (∀ w, w < kW c → fin w → kTc c sp w → t.1 73 w ≠ -1) ∧ (∀ u w, u < kW c → P u = true → kAdj c u w → fin w → t.1 73 w ≠ -1) ∧ ∀ u, u < kW c → P u = true → ¬ kTc c sk u
  refine ok_b1 (fun r => ∃ (e D : Nat) (t : gZ), r = .inl ((e : Int), t) ∧ BstE c G sk e D ∧ zO pFr z t ∧ (∀ w, w < kW c → t.1 73 w = -1 ∨ ∃ d : Nat, t.1 73 w = d ∧ Dst G w d) ∧ (∀ w d, Dst G w d → d < D → t.1 73 w = d) ∧ t.1 73 e = D) ?_ fun r ⟨e, D, t, he, h1, h2, h3, h4, h5⟩ => ?_
  · refine it_for (fun (i : Nat) (t : gZ) => ((i : Int), t)) (fun i t => ∃ P, J P t ∧ cnb P (kW c) = i) 0 (kW c) rfl ⟨fun _ => false, ⟨I9, m9, n9, (fun u w _ h => by cases h), (fun u _ h => by cases h)⟩, cnb_0 fun _ _ => rfl⟩ (by omega) (by omega) ?_ ?_
    · rintro i t - hi ⟨P, ⟨I, j1, j2, j3, j4⟩, jc⟩
      obtain ⟨gt, jt, ct, e13, e17, e70, e80⟩ := gz I.o
      have hO' : ∀ w, w < G.W → G.own w → (w < kW c ∧ t.1 73 w ≠ -1) := fun w hw ho => ⟨by rw [← GW]; exact hw, j1 w (by rw [← Go]; exact ho)⟩
      have hT' : ∀ w, w < G.W → G.fin w → G.tch w → (w < kW c ∧ t.1 73 w ≠ -1) := fun w hw hf ht => by
        rw [GW] at hw; rw [Gf] at hf; rw [Gt] at ht; exact ⟨hw, j2 w hw hf ht⟩
      have hN' : ∀ u w, (u < kW c ∧ P u = true) → G.adj u w → w < G.W → G.fin w → (w < kW c ∧ t.1 73 w ≠ -1) := fun u w hu ha hw hf => by
        rw [GW] at hw; rw [Gf] at hf; rw [Ga] at ha; exact ⟨hw, j3 u w hu.1 hu.2 ha hf⟩
      show zOk (q_Router_search_44 E (kL c) (sk : Int) (i : Int) t) _
      unfold q_Router_search_44
      rw [e17]
      (refine ok_neg (by omega) ?_)
      refine ok_b2 _ (SrI_pop g.1 I hB) fun v10 s11 h => ?_
      rcases h with ⟨h1, h2, h3⟩ | ⟨m, D, h1, h2, h3, h4, h5, h6, h7, h8⟩
      · exfalso
        obtain ⟨w, d, w1, w2, w3⟩ := R.rc g.1 hsp hsk
        rw [hG] at w3
        have hp : ¬ (w < kW c ∧ P w = true) := fun x => j4 w x.1 x.2 w2
        have := dst_min (S := fun w => w < kW c ∧ t.1 73 w ≠ -1) (P := fun u => u < kW c ∧ P u = true) hc hO' hT' hN' (D := d + 1) (fun w' d' a b _ => absurd ⟨a.1, h3 w' a.1 a.2⟩ b) d w hp w3
        omega
      · have h1 : v10 = m := h1
        subst h1
        have h7 : ∀ v, s11.1 73 v = t.1 73 v := h7
        have h8 : SrI c G z s11 (fun w => P w || decide (w = m)) := h8
        obtain ⟨gs, js, cs, -, -, es70, -⟩ := gz h8.o
        have hmin : ∀ w d, (w < kW c ∧ t.1 73 w ≠ -1) → ¬ (w < kW c ∧ P w = true) → Dst G w d → D < d ∨ (D = d ∧ m ≤ w) := fun w d a b hd => by
          rcases I.d w a.1 with x | ⟨d', x1, x2⟩
          · exact absurd x a.2
          · have : d' = d := dst_u x2 hd
            subst this
            refine h6 w d' a.1 x1 ?_
            cases hp : P w
            · rfl
            · exact absurd ⟨a.1, hp⟩ b
        have hmin' : ∀ w d, (w < kW c ∧ t.1 73 w ≠ -1) → ¬ (w < kW c ∧ P w = true) → Dst G w d → D ≤ d := fun w d a b hd => by have := hmin w d a b hd; omega
        (refine ok_neg (by omega) ?_)
        obtain ⟨v, v1, v2⟩ := s_reach0 (E := E) gs hsk h2
        refine ok_v1 v1 ?_
        refine ok_br (fun e => ?_) fun e => ?_
        · have nk := v2.1 e
          obtain ⟨dg, g1, g2, -, g4, g5⟩ := adj_z gs js h2
          have finm : fin m := R.df (by rw [hG]; exact h5)
          rw [kL_73, kL_7]
          (refine ok_gd (by omega) ?_)
          rw [ok_l, gtN, h7, h4]
          (refine ok_gd (by omega) ?_)
          rw [g2]
          (refine ok_gd (by omega) ?_)
          rw [ok_l]
          (refine ok_gd (by omega) ?_)
          rw [ok_l]
          refine ok_b1 (fun u => SrI c G z u (fun w => P w || decide (w = m)) ∧ (∀ v, t.1 73 v ≠ -1 → u.1 73 v ≠ -1) ∧ ∀ k v : Nat, k < dg → s11.1 8 (m * 6 + k) = v → u.1 73 v ≠ -1) ?_ fun u ⟨u1, u2, u3⟩ => ?_
          · refine it_for (fun (i : Nat) (t : gZ) => (((m * 6 + i : Nat) : Int), t)) (fun i u => SrI c G z u (fun w => P w || decide (w = m)) ∧ (∀ v, t.1 73 v ≠ -1 → u.1 73 v ≠ -1) ∧ (∀ k v : Nat, k < i → s11.1 8 (m * 6 + k) = v → u.1 73 v ≠ -1) ∧ ∀ w d : Nat, w < kW c → u.1 73 w = d → P w = false → D ≤ d) 0 dg rfl ⟨h8, fun v hv => by rw [h7]; exact hv, fun k v hk => by omega, fun w d a b e => by rw [h7] at b; have := h6 w d a b e; omega⟩ (by omega) (by omega) ?_ ?_
            · rintro k u - hk ⟨u1, u2, u3, u4⟩
              obtain ⟨gu, -, cu, -, -, -, -⟩ := gz u1.o
              obtain ⟨v', j', a1, a2, a3, a4, -, -, -⟩ := g4 k hk
              have e8 : u.1 8 (m * 6 + k) = v' := by rw [u1.o 8 _ (by unfold pFr; omega), ← h8.o 8 _ (by unfold pFr; omega)]; exact a4
              show zOk (q_Router_search_124 E (kL c) (sk : Int) (i : Int) (D : Int) ((m : Int) * 6 + (dg : Int)) ((m * 6 + k : Nat) : Int) u) _
              unfold q_Router_search_124
              rw [kL_8, kL_73]
              (refine ok_neg (by omega) ?_); (refine ok_gd (by omega) ?_)
              rw [gtN, e8, ok_l]
              (refine ok_gd (by omega) ?_)
              rw [gtN]
              refine ok_br (fun ep => ?_) fun ep => ?_
              · have ho : ¬ own v' := fun o => u2 _ (j1 _ o) ep
                obtain ⟨cv, c1, c2⟩ := s_costOf (E := E) g.1 cu a1
                refine ok_v1 c1 ?_
                rw [c2 ho]
                have hd := dst_next (S := fun w => w < kW c ∧ u.1 73 w ≠ -1) (P := fun u => u < kW c ∧ P u = true) (m := m) (D := D) (v := v') hc (fun w a b => ⟨(hO' w a b).1, u2 w (hO' w a b).2⟩) (fun w a b d => ⟨(hT' w a b d).1, u2 w (hT' w a b d).2⟩) (fun u w a b d e => ⟨(hN' u w a b d e).1, u2 w (hN' u w a b d e).2⟩) h5 (fun w d a b hd => by
                  rcases u1.d w a.1 with x | ⟨d', x1, x2⟩
                  · exact absurd x a.2
                  · have : d' = d := dst_u x2 hd
                    subst this
                    refine u4 w d' a.1 x1 ?_
                    cases hp : P w
                    · rfl
                    · exact absurd ⟨a.1, hp⟩ b) (by rw [GW]; exact a1) (by rw [Gf]; exact R.adj g.1 a3 finm) (by rw [Ga]; exact a3) (fun x => x.2 ep)
                rw [Gc] at hd
                have := hB _ _ hd
                (refine ok_gd (by omega) ?_)
                rw [← Int.natCast_add]
                refine ok_b1 _ (SrI_push g.1 u1 hB a1 fun _ => hd) fun s ⟨k1, k2, k3, _, k5⟩ => ?_
                (refine ok_ll ?_)
                refine ok_inl (Or.inl ⟨s, rfl, k1, fun w hw => ?_, fun k' w hk' hw => ?_, fun w d a b e => ?_⟩)
                · by_cases e : w = v'
                  · rw [e]; exact k2
                  · rw [k3 w e]; exact u2 w hw
                · by_cases e : w = v'
                  · rw [e]; exact k2
                  · rw [k3 w e]
                    refine u3 k' w ?_ hw
                    by_cases e2 : k' = k
                    · subst e2; rw [a4] at hw; omega
                    · omega
                · by_cases e2 : w = v'
                  · subst e2
                    have := k5 ep
                    omega
                  · rw [k3 w e2] at b
                    exact u4 w d a b e
              · (refine ok_ll ?_)
                refine ok_inl (Or.inl ⟨u, rfl, u1, u2, fun k' w hk' hw => ?_, u4⟩)
                by_cases e2 : k' = k
                · subst e2
                  rw [a4] at hw
                  have : w = v' := by omega
                  rw [this]; exact ep
                · exact u3 k' w (by omega) hw
            · rintro u ⟨u1, u2, u3, u4⟩
              show zOk (q_Router_search_124 E (kL c) (sk : Int) (i : Int) (D : Int) ((m : Int) * 6 + (dg : Int)) ((m * 6 + dg : Nat) : Int) u) _
              unfold q_Router_search_124
              (refine ok_pos (by omega) ?_)
              exact ok_inr ⟨_, rfl, u1, u2, u3⟩
          · (refine ok_ll ?_)
            refine ok_inl (Or.inl ⟨u, rfl, _, ⟨u1, fun w hw => u2 w (j1 w hw), fun w a b d => u2 w (j2 w a b d), fun x w hx hp ha hf => ?_, fun x hx hp => ?_⟩, ?_⟩)
            · rw [Bool.or_eq_true] at hp
              rcases hp with hp | hp
              · exact u2 w (j3 x w hx hp ha hf)
              · have : x = m := of_decide_eq_true hp
                subst this
                obtain ⟨k, k1, k2⟩ := g5 w ha
                exact u3 k w k1 k2
            · rw [Bool.or_eq_true] at hp
              rcases hp with hp | hp
              · exact j4 x hx hp
              · have : x = m := of_decide_eq_true hp
                subst this; exact nk
            · rw [← jc]
              refine cnb_add h2 h3 ?_ fun i hi => ?_
              · show (P m || decide (m = m)) = true
                rw [decide_eq_true rfl, Bool.or_true]
              · show (P i || decide (i = m)) = P i
                rw [decide_eq_false hi, Bool.or_false]
        · have hk' : kTc c sk m := Classical.byContradiction fun x => e (v2.2 x)
          refine ok_inr (Or.inr ⟨_, rfl, m, D, s11, rfl, ⟨h2, hk', h5, fun w d a b hd => ?_⟩, h8.o, h8.d, fun w d hd hlt => ?_, by rw [h7]; exact h4⟩)
          · exact dst_first (S := fun w => w < kW c ∧ t.1 73 w ≠ -1) (P := fun u => u < kW c ∧ P u = true) hc hO' hT' hN' hmin (fun x => j4 w x.1 x.2 b) hd
          · have hp : (w < kW c ∧ P w = true) := Classical.byContradiction fun x => by
              have := dst_min (S := fun w => w < kW c ∧ t.1 73 w ≠ -1) (P := fun u => u < kW c ∧ P u = true) hc hO' hT' hN' hmin' d w x hd
              omega
            rcases I.d w hp.1 with x | ⟨d', x1, x2⟩
            · exact absurd x (I.p w hp.1 hp.2)
            · have : d' = d := dst_u x2 hd
              subst this
              rw [h7]; exact x1
    · rintro t ⟨P, ⟨I, j1, j2, j3, j4⟩, jc⟩
      exfalso
      obtain ⟨w, d, w1, w2, w3⟩ := R.rc g.1 hsp hsk
      refine j4 w w1 ?_ w2
      cases hp : P w
      · have := cnb_lt w1 hp; omega
      · rfl
  · subst he
    rw [gs_l]
    exact ok_so ⟨e, D, rfl, h1, h2, h3, h4, h5⟩
end
end
