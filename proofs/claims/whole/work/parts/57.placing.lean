set_option linter.unusedVariables false
-- P1
section
variable {E : gEv} {c : gCf}
/-- a thing that is to be placed -/
def uT (c : gCf) (nC nI nO x : Nat) : Prop := x < nC ∨ (kN c ≤ x ∧ x < kN c + nI) ∨ (kN c + kD c ≤ x ∧ x < kN c + kD c + nO)
abbrev PK (c : gCf) (nC nI nO : Nat) (y w : Nat → Int) : Prop := ∃ _ : (nC ≤ kN c), ∃ _ : (nI ≤ kD c), ∃ _ : (nO ≤ kD c), ∃ _ : (∀ x, uT c nC nI nO x → ∃ q : Nat, w x = q ∧ q < kN c + kD c ∧ y q = x ∧ (q < kN c ↔ x < kN c)), (∀ q, q < kN c + kD c → y q = -1 ∨ ∃ x : Nat, uT c nC nI nO x ∧ y q = x ∧ w x = q)
theorem PK.cb {c : gCf} {nC nI nO : Nat} {y w : Nat → Int} (h : PK c nC nI nO y w) : nC ≤ kN c := by obtain ⟨x, _⟩ := h; exact x
theorem PK.ib {c : gCf} {nC nI nO : Nat} {y w : Nat → Int} (h : PK c nC nI nO y w) : nI ≤ kD c := by obtain ⟨_, x, _⟩ := h; exact x
theorem PK.ob {c : gCf} {nC nI nO : Nat} {y w : Nat → Int} (h : PK c nC nI nO y w) : nO ≤ kD c := by obtain ⟨_, _, x, _⟩ := h; exact x
theorem PK.sp {c : gCf} {nC nI nO : Nat} {y w : Nat → Int} (h : PK c nC nI nO y w) : ∀ x, uT c nC nI nO x → ∃ q : Nat, w x = q ∧ q < kN c + kD c ∧ y q = x ∧ (q < kN c ↔ x < kN c) := by obtain ⟨_, _, _, x, _⟩ := h; exact x
theorem PK.th {c : gCf} {nC nI nO : Nat} {y w : Nat → Int} (h : PK c nC nI nO y w) : ∀ q, q < kN c + kD c → y q = -1 ∨ ∃ x : Nat, uT c nC nI nO x ∧ y q = x ∧ w x = q := by obtain ⟨_, _, _, _, x⟩ := h; exact x
abbrev PZ (c : gCf) (nC nI nO : Nat) (z : gZ) : Prop := PK c nC nI nO (z.1 68) (z.1 69)
/-- how the reference calls a thing at a pad -/
def cdP (c : gCf) (v : Int) : Int := if v = -1 then -1 else if v < kN c + kD c then v - kN c else 200 + (v - kN c - kD c)
abbrev PM (c : gCf) (y : Nat → Int) (z : gZ) : Prop := ∃ _ : (∀ t, t < kN c → z.1 136 t = y t), (∀ p, p < kD c → z.1 137 p = cdP c (y (kN c + p)))
theorem PM.t {c : gCf} {y : Nat → Int} {z : gZ} (h : PM c y z) : ∀ t, t < kN c → z.1 136 t = y t := by obtain ⟨x, _⟩ := h; exact x
theorem PM.p {c : gCf} {y : Nat → Int} {z : gZ} (h : PM c y z) : ∀ p, p < kD c → z.1 137 p = cdP c (y (kN c + p)) := by obtain ⟨_, x⟩ := h; exact x
/-- the nets of both sides -/
abbrev NJ (c : gCf) (m nC nN nS nI nO : Nat) (z : gZ) : Prop := ∃ _ : (z.1 53 17 = nN), ∃ _ : (z.1 94 60 = nN), ∃ _ : (nN ≤ kD c + kP c), ∃ _ : (z.1 53 16 = nC), ∃ _ : (z.1 94 66 = nC), ∃ _ : (m ≤ kP c), ∃ _ : (nS ≤ kP c * 4 + kD c), ∃ _ : (∀ n, n ≤ nN → 0 ≤ z.1 62 n ∧ z.1 62 n ≤ nS ∧ z.1 130 n = z.1 62 n), ∃ _ : (∀ n, n < nN → z.1 62 n ≤ z.1 62 (n + 1)), ∃ _ : (z.1 62 0 = 0), ∃ _ : (z.1 62 nN = nS), ∃ _ : (∀ n, n < nN → z.1 60 n = z.1 129 n ∧ ((∃ i : Nat, i < nI ∧ z.1 129 n = i ∧ z.1 61 n = ((kN c + i : Nat) : Int)) ∨ ∃ e x : Nat, e < m ∧ ((400 ≤ z.1 129 n ∧ z.1 129 n - 400 = e) ∨ (200 ≤ z.1 129 n ∧ z.1 129 n < 350 ∧ z.1 128 (z.1 129 n - 200).toNat = e)) ∧ z.1 133 e = x ∧ x < nC ∧ z.1 61 n = x)), (∀ k, k < nS → (∃ e p x : Nat, e < m ∧ p < 4 ∧ z.1 131 k = ((4 * e + p : Nat) : Int) ∧ z.1 63 k = ((4 * e + p : Nat) : Int) ∧ z.1 133 e = x ∧ x < nC ∧ z.1 64 k = x) ∨ ∃ o : Nat, o < nO ∧ z.1 131 k = ((1000 + o : Nat) : Int) ∧ z.1 63 k = ((4 * kP c + o : Nat) : Int) ∧ z.1 64 k = ((kN c + kD c + o : Nat) : Int))
theorem NJ.n {c : gCf} {m nC nN nS nI nO : Nat} {z : gZ} (h : NJ c m nC nN nS nI nO z) : z.1 53 17 = nN := by obtain ⟨x, _⟩ := h; exact x
theorem NJ.nm {c : gCf} {m nC nN nS nI nO : Nat} {z : gZ} (h : NJ c m nC nN nS nI nO z) : z.1 94 60 = nN := by obtain ⟨_, x, _⟩ := h; exact x
theorem NJ.nb {c : gCf} {m nC nN nS nI nO : Nat} {z : gZ} (h : NJ c m nC nN nS nI nO z) : nN ≤ kD c + kP c := by obtain ⟨_, _, x, _⟩ := h; exact x
theorem NJ.cn {c : gCf} {m nC nN nS nI nO : Nat} {z : gZ} (h : NJ c m nC nN nS nI nO z) : z.1 53 16 = nC := by obtain ⟨_, _, _, x, _⟩ := h; exact x
theorem NJ.cm {c : gCf} {m nC nN nS nI nO : Nat} {z : gZ} (h : NJ c m nC nN nS nI nO z) : z.1 94 66 = nC := by obtain ⟨_, _, _, _, x, _⟩ := h; exact x
theorem NJ.mb {c : gCf} {m nC nN nS nI nO : Nat} {z : gZ} (h : NJ c m nC nN nS nI nO z) : m ≤ kP c := by obtain ⟨_, _, _, _, _, x, _⟩ := h; exact x
theorem NJ.sb {c : gCf} {m nC nN nS nI nO : Nat} {z : gZ} (h : NJ c m nC nN nS nI nO z) : nS ≤ kP c * 4 + kD c := by obtain ⟨_, _, _, _, _, _, x, _⟩ := h; exact x
theorem NJ.fs {c : gCf} {m nC nN nS nI nO : Nat} {z : gZ} (h : NJ c m nC nN nS nI nO z) : ∀ n, n ≤ nN → 0 ≤ z.1 62 n ∧ z.1 62 n ≤ nS ∧ z.1 130 n = z.1 62 n := by obtain ⟨_, _, _, _, _, _, _, x, _⟩ := h; exact x
theorem NJ.mo {c : gCf} {m nC nN nS nI nO : Nat} {z : gZ} (h : NJ c m nC nN nS nI nO z) : ∀ n, n < nN → z.1 62 n ≤ z.1 62 (n + 1) := by obtain ⟨_, _, _, _, _, _, _, _, x, _⟩ := h; exact x
theorem NJ.f0 {c : gCf} {m nC nN nS nI nO : Nat} {z : gZ} (h : NJ c m nC nN nS nI nO z) : z.1 62 0 = 0 := by obtain ⟨_, _, _, _, _, _, _, _, _, x, _⟩ := h; exact x
theorem NJ.fN {c : gCf} {m nC nN nS nI nO : Nat} {z : gZ} (h : NJ c m nC nN nS nI nO z) : z.1 62 nN = nS := by obtain ⟨_, _, _, _, _, _, _, _, _, _, x, _⟩ := h; exact x
theorem NJ.src {c : gCf} {m nC nN nS nI nO : Nat} {z : gZ} (h : NJ c m nC nN nS nI nO z) : ∀ n, n < nN → z.1 60 n = z.1 129 n ∧ ((∃ i : Nat, i < nI ∧ z.1 129 n = i ∧ z.1 61 n = ((kN c + i : Nat) : Int)) ∨ ∃ e x : Nat, e < m ∧ ((400 ≤ z.1 129 n ∧ z.1 129 n - 400 = e) ∨ (200 ≤ z.1 129 n ∧ z.1 129 n < 350 ∧ z.1 128 (z.1 129 n - 200).toNat = e)) ∧ z.1 133 e = x ∧ x < nC ∧ z.1 61 n = x) := by obtain ⟨_, _, _, _, _, _, _, _, _, _, _, x, _⟩ := h; exact x
theorem NJ.snk {c : gCf} {m nC nN nS nI nO : Nat} {z : gZ} (h : NJ c m nC nN nS nI nO z) : ∀ k, k < nS → (∃ e p x : Nat, e < m ∧ p < 4 ∧ z.1 131 k = ((4 * e + p : Nat) : Int) ∧ z.1 63 k = ((4 * e + p : Nat) : Int) ∧ z.1 133 e = x ∧ x < nC ∧ z.1 64 k = x) ∨ ∃ o : Nat, o < nO ∧ z.1 131 k = ((1000 + o : Nat) : Int) ∧ z.1 63 k = ((4 * kP c + o : Nat) : Int) ∧ z.1 64 k = ((kN c + kD c + o : Nat) : Int) := by obtain ⟨_, _, _, _, _, _, _, _, _, _, _, _, x⟩ := h; exact x
theorem PK_o {P : Nat → Nat → Prop} {nC nI nO : Nat} {z s : gZ} (h : PZ c nC nI nO z) (o : zOff P z s) (hP : ∀ k j, P k j → k ≠ 68 ∧ k ≠ 69) : PZ c nC nI nO s := by
  have e8 : s.1 68 = z.1 68 := funext fun j => o.2 68 j fun x => (hP _ _ x).1 rfl
  have e9 : s.1 69 = z.1 69 := funext fun j => o.2 69 j fun x => (hP _ _ x).2 rfl
  unfold PZ
  rw [e8, e9]; exact h
theorem PM_o {P : Nat → Nat → Prop} {y : Nat → Int} {z s : gZ} (h : PM c y z) (o : zOff P z s) (hP : ∀ k j, P k j → k ≠ 136 ∧ k ≠ 137) : PM c y s := by
  have e6 : s.1 136 = z.1 136 := funext fun j => o.2 136 j fun x => (hP _ _ x).1 rfl
  have e7 : s.1 137 = z.1 137 := funext fun j => o.2 137 j fun x => (hP _ _ x).2 rfl
  exact ⟨by rw [e6]; exact h.t, by rw [e7]; exact h.p⟩
def pN (k j : Nat) : Prop := (k = 53 ∧ (j = 16 ∨ j = 17)) ∨ (k = 94 ∧ (j = 60 ∨ j = 66)) ∨ (60 ≤ k ∧ k ≤ 64) ∨ (128 ≤ k ∧ k ≤ 131) ∨ k = 133
theorem NJ_o {P : Nat → Nat → Prop} {m nC nN nS nI nO : Nat} {z s : gZ} (h : NJ c m nC nN nS nI nO z) (o : zOff P z s) (hP : ∀ k j, pN k j → ¬ P k j) : NJ c m nC nN nS nI nO s := by
  have r : ∀ k, ((60 ≤ k ∧ k ≤ 64) ∨ (128 ≤ k ∧ k ≤ 131) ∨ k = 133) → s.1 k = z.1 k := fun k hk => funext fun j => o.2 k j (hP _ _ (by unfold pN; omega))
  exact ⟨by rw [o.2 53 17 (hP _ _ (by unfold pN; omega))]; exact h.n, by rw [o.2 94 60 (hP _ _ (by unfold pN; omega))]; exact h.nm, h.nb, by rw [o.2 53 16 (hP _ _ (by unfold pN; omega))]; exact h.cn, by rw [o.2 94 66 (hP _ _ (by unfold pN; omega))]; exact h.cm, h.mb, h.sb, by rw [r 62 (by omega), r 130 (by omega)]; exact h.fs, by rw [r 62 (by omega)]; exact h.mo, by rw [r 62 (by omega)]; exact h.f0, by rw [r 62 (by omega)]; exact h.fN, by rw [r 60 (by omega), r 61 (by omega), r 129 (by omega), r 128 (by omega), r 133 (by omega)]; exact h.src, by rw [r 131 (by omega), r 63 (by omega), r 133 (by omega), r 64 (by omega)]; exact h.snk⟩
/-- least and greatest of a and f from lo on -/
def mnf (f : Nat → Int) (a : Int) (lo : Nat) : Nat → Int
  | 0 => a
  | n + 1 => if f (lo + n) < mnf f a lo n then f (lo + n) else mnf f a lo n
def mxf (f : Nat → Int) (a : Int) (lo : Nat) : Nat → Int
  | 0 => a
  | n + 1 => if mxf f a lo n < f (lo + n) then f (lo + n) else mxf f a lo n
theorem mnf_b {f : Nat → Int} {a : Int} {lo n : Nat} (ha : 0 ≤ a ∧ a ≤ 7) (h : ∀ i, i < n → 0 ≤ f (lo + i) ∧ f (lo + i) ≤ 7) : 0 ≤ mnf f a lo n ∧ mnf f a lo n ≤ a := by
  induction n with
  | zero => exact ⟨ha.1, Int.le_refl _⟩
  | succ n ih =>
    have := ih fun i hi => h i (by omega)
    have := h n (by omega)
    rw [mnf]; split <;> omega
theorem mxf_b {f : Nat → Int} {a : Int} {lo n : Nat} (ha : 0 ≤ a ∧ a ≤ 7) (h : ∀ i, i < n → 0 ≤ f (lo + i) ∧ f (lo + i) ≤ 7) : a ≤ mxf f a lo n ∧ mxf f a lo n ≤ 7 := by
  induction n with
  | zero => exact ⟨Int.le_refl _, ha.2⟩
  | succ n ih =>
    have := ih fun i hi => h i (by omega)
    have := h n (by omega)
    rw [mxf]; split <;> omega
theorem mnf_c {f g : Nat → Int} {a : Int} {lo n : Nat} (h : ∀ i, i < n → f (lo + i) = g (lo + i)) : mnf f a lo n = mnf g a lo n := by
  induction n with
  | zero => rfl
  | succ n ih => rw [mnf, mnf, ih fun i hi => h i (by omega), h n (by omega)]
theorem mxf_c {f g : Nat → Int} {a : Int} {lo n : Nat} (h : ∀ i, i < n → f (lo + i) = g (lo + i)) : mxf f a lo n = mxf g a lo n := by
  induction n with
  | zero => rfl
  | succ n ih => rw [mxf, mxf, ih fun i hi => h i (by omega), h n (by omega)]
/-- the points of a net's source and of a sink -/
def gX (z : gZ) (w : Nat → Int) (a : Nat) (r : Nat) (n : Nat) : Int := z.1 a (w (z.1 r n).toNat).toNat
def hpz (z : gZ) (w : Nat → Int) (n : Nat) : Int := ((mxf (gX z w 2 64) (gX z w 2 61 n) (z.1 62 n).toNat (z.1 62 (n + 1) - z.1 62 n).toNat - mnf (gX z w 2 64) (gX z w 2 61 n) (z.1 62 n).toNat (z.1 62 (n + 1) - z.1 62 n).toNat) + mxf (gX z w 3 64) (gX z w 3 61 n) (z.1 62 n).toNat (z.1 62 (n + 1) - z.1 62 n).toNat) - mnf (gX z w 3 64) (gX z w 3 61 n) (z.1 62 n).toNat (z.1 62 (n + 1) - z.1 62 n).toNat
def lam (z : gZ) (w : Nat → Int) : Nat → Int
  | 0 => 0
  | n + 1 => lam z w n + hpz z w n
/-- points are on the field's rim at most -/
theorem gr_pt {z : gZ} (g : Gr c z) {q : Nat} (hq : q < kN c + kD c) : (0 ≤ z.1 2 q ∧ z.1 2 q ≤ 7) ∧ (0 ≤ z.1 3 q ∧ z.1 3 q ≤ 7) := by
  have g6 := g.2.2.2.2.2.2
  obtain ⟨⟨c1, c2⟩, ⟨r1, r2⟩, -⟩ := g.1
  by_cases e : q < kN c
  · obtain ⟨a, b⟩ := g6.1 q e
    rw [a, b]
    have h1 : q % kC c < kC c := Nat.mod_lt _ (by omega)
    have h2 : q / kC c < kR c := Nat.div_lt_of_lt_mul e
    generalize q % kC c = u at *
    generalize q / kC c = w at *
    omega
  · obtain ⟨a, b⟩ := g6.2 (q - kN c) (by omega)
    rw [show kN c + (q - kN c) = q by omega] at a b
    rw [a, b]
    unfold kPx kPy
    have hd : kD c = 4 * (kC c + kR c) := rfl
    constructor <;> (split; omega; split; omega; split; omega; omega)
/-- a source's and a sink's thing is used -/
theorem NJ.su {m nC nN nS nI nO : Nat} {z : gZ} (h : NJ c m nC nN nS nI nO z) {n : Nat} (hn : n < nN) : ∃ x : Nat, z.1 61 n = x ∧ uT c nC nI nO x := by
  rcases (h.src n hn).2 with ⟨i, i1, i2, i3⟩ | ⟨e, x, e1, e2, e3, e4, e5⟩
  · exact ⟨kN c + i, i3, by unfold uT; omega⟩
  · exact ⟨x, e5, by unfold uT; omega⟩
theorem NJ.ku {m nC nN nS nI nO : Nat} {z : gZ} (h : NJ c m nC nN nS nI nO z) {k : Nat} (hk : k < nS) : ∃ x : Nat, z.1 64 k = x ∧ uT c nC nI nO x := by
  rcases h.snk k hk with ⟨e, p, x, e1, e2, e3, e4, e5, e6, e7⟩ | ⟨o, o1, o2, o3, o4⟩
  · exact ⟨x, e7, by unfold uT; omega⟩
  · exact ⟨kN c + kD c + o, o4, by unfold uT; omega⟩
theorem PK.q {nC nI nO x : Nat} {y w : Nat → Int} (h : PK c nC nI nO y w) (hx : uT c nC nI nO x) : x < kN c + 2 * kD c ∧ ∃ q : Nat, w x = q ∧ q < kN c + kD c := by
  obtain ⟨q, q1, q2, -⟩ := h.sp x hx
  have := h.cb
  have := h.ib
  have := h.ob
  unfold uT at hx
  exact ⟨by omega, q, q1, q2⟩
theorem hpz_b {m nC nN nS nI nO n : Nat} {z : gZ} {v w : Nat → Int} (g : Gr c z) (h : NJ c m nC nN nS nI nO z) (p : PK c nC nI nO v w) (hn : n < nN) : (0 ≤ hpz z w n ∧ hpz z w n ≤ 14) ∧ ((∀ j, w j = z.1 69 j) → q_Placing_lengthOf E (kL c) (n : Int) z = some (hpz z w n)) := by
  have hP := kP_b g.1
  have hD := kD_b g.1
  have hN := kN_b g.1
  have b1 := h.nb
  have b2 := h.sb
  obtain ⟨x, x1, x2⟩ := h.su hn
  obtain ⟨x3, q, q1, q2⟩ := p.q x2
  obtain ⟨f1, f2, f3⟩ := h.fs n (by omega)
  obtain ⟨g1, g2, g3⟩ := h.fs (n + 1) (by omega)
  have mo := h.mo n hn
  have sx : gX z w 2 61 n = z.1 2 q := by unfold gX; rw [x1, gtN, q1, gtN]
  have sy : gX z w 3 61 n = z.1 3 q := by unfold gX; rw [x1, gtN, q1, gtN]
  have hw : ∃ lo cnt : Nat, z.1 62 n = lo ∧ z.1 62 (n + 1) = ((lo + cnt : Nat) : Int) := ⟨(z.1 62 n).toNat, (z.1 62 (n + 1) - z.1 62 n).toNat, by omega, by omega⟩
  obtain ⟨lo, cnt, w1, w2⟩ := hw
  have pt := gr_pt g q2
  have kp : ∀ i, i < cnt → ((0 ≤ gX z w 2 64 (lo + i) ∧ gX z w 2 64 (lo + i) ≤ 7) ∧ (0 ≤ gX z w 3 64 (lo + i) ∧ gX z w 3 64 (lo + i) ≤ 7)) := fun i hi => by
    obtain ⟨y, y1, y2⟩ := h.ku (k := lo + i) (by omega)
    obtain ⟨y3, r, r1, r2⟩ := p.q y2
    unfold gX
    rw [y1, gtN, r1, gtN]
    exact gr_pt g r2
  have a1 := mnf_b (f := gX z w 2 64) (a := z.1 2 q) (lo := lo) (n := cnt) pt.1 fun i hi => (kp i hi).1
  have a2 := mxf_b (f := gX z w 2 64) (a := z.1 2 q) (lo := lo) (n := cnt) pt.1 fun i hi => (kp i hi).1
  have a3 := mnf_b (f := gX z w 3 64) (a := z.1 3 q) (lo := lo) (n := cnt) pt.2 fun i hi => (kp i hi).2
  have a4 := mxf_b (f := gX z w 3 64) (a := z.1 3 q) (lo := lo) (n := cnt) pt.2 fun i hi => (kp i hi).2
  have hh : hpz z w n = ((mxf (gX z w 2 64) (z.1 2 q) lo cnt - mnf (gX z w 2 64) (z.1 2 q) lo cnt) + mxf (gX z w 3 64) (z.1 3 q) lo cnt) - mnf (gX z w 3 64) (z.1 3 q) lo cnt := by
    unfold hpz
    rw [sx, sy, w1, w2, show (((lo + cnt : Nat) : Int) - (lo : Int)).toNat = cnt by omega, gtN]
  refine ⟨⟨by rw [hh]; omega, by rw [hh]; omega⟩, fun hw => ?_⟩
  rw [hh]
  unfold q_Placing_lengthOf
  rw [kL_61, kL_69, kL_2, kL_3, kL_62, if_pos (by omega), gtN, x1, if_pos (by omega), let_s, gtN, ← hw x, q1, if_pos (by omega), let_s, if_pos (by omega), let_s, if_pos (by omega), let_s, gtN, w1]
  have key : gIter (fun y => q_Placing_lengthOf_54 E (kL c) (n : Int) y.1 y.2.1 y.2.2.1 y.2.2.2.1 y.2.2.2.2 z) gN (z.1 2 q, z.1 2 q, z.1 3 q, z.1 3 q, (lo : Int)) = some (mnf (gX z w 2 64) (z.1 2 q) lo cnt, mxf (gX z w 2 64) (z.1 2 q) lo cnt, mnf (gX z w 3 64) (z.1 3 q) lo cnt, mxf (gX z w 3 64) (z.1 3 q) lo cnt) := by
    refine it_acc (fun (i : Nat) (t : Int × Int × Int × Int) => (t.1, t.2.1, t.2.2.1, t.2.2.2, ((lo + i : Nat) : Int))) (fun i => (mnf (gX z w 2 64) (z.1 2 q) lo i, mxf (gX z w 2 64) (z.1 2 q) lo i, mnf (gX z w 3 64) (z.1 3 q) lo i, mxf (gX z w 3 64) (z.1 3 q) lo i)) 0 cnt rfl (by omega) (by omega) ?_ ?_
    · intro i _ hi
      obtain ⟨y, y1, y2⟩ := h.ku (k := lo + i) (by omega)
      obtain ⟨y3, r, r1, r2⟩ := p.q y2
      have v2 : gX z w 2 64 (lo + i) = z.1 2 r := by unfold gX; rw [y1, gtN, r1, gtN]
      have v3 : gX z w 3 64 (lo + i) = z.1 3 r := by unfold gX; rw [y1, gtN, r1, gtN]
      show q_Placing_lengthOf_54 E (kL c) (n : Int) (mnf (gX z w 2 64) (z.1 2 q) lo i) (mxf (gX z w 2 64) (z.1 2 q) lo i) (mnf (gX z w 3 64) (z.1 3 q) lo i) (mxf (gX z w 3 64) (z.1 3 q) lo i) ((lo + i : Nat) : Int) z = some (Sum.inl (mnf (gX z w 2 64) (z.1 2 q) lo (i + 1), mxf (gX z w 2 64) (z.1 2 q) lo (i + 1), mnf (gX z w 3 64) (z.1 3 q) lo (i + 1), mxf (gX z w 3 64) (z.1 3 q) lo (i + 1), ((lo + (i + 1) : Nat) : Int)))
      unfold q_Placing_lengthOf_54
      rw [kL_62, kL_64, kL_69, kL_2, kL_3, if_pos (by omega), show ((n : Int) + 1).toNat = n + 1 by omega, w2, if_neg (by omega), if_pos (by omega), gtN, y1, if_pos (by omega), let_s, gtN, ← hw y, r1, if_pos (by omega), let_s, let_s, if_pos (by omega), let_s, let_s, let_s, gtN, mnf, mxf, mnf, mxf, v2, v3]
      rfl
    · show q_Placing_lengthOf_54 E (kL c) (n : Int) (mnf (gX z w 2 64) (z.1 2 q) lo cnt) (mxf (gX z w 2 64) (z.1 2 q) lo cnt) (mnf (gX z w 3 64) (z.1 3 q) lo cnt) (mxf (gX z w 3 64) (z.1 3 q) lo cnt) ((lo + cnt : Nat) : Int) z = _
      unfold q_Placing_lengthOf_54
      rw [kL_62, if_pos (by omega), show ((n : Int) + 1).toNat = n + 1 by omega, w2, if_pos (by omega)]
  rw [key, b1_s]
  dsimp only
  rw [if_pos (by omega)]
theorem s_lengthOf {m nC nN nS nI nO n : Nat} {z : gZ} (g : Gr c z) (h : NJ c m nC nN nS nI nO z) (p : PZ c nC nI nO z) (hn : n < nN) : q_Placing_lengthOf E (kL c) (n : Int) z = some (hpz z (z.1 69) n) := (hpz_b g h p hn).2 fun _ => rfl
theorem lam_b {m nC nN nS nI nO : Nat} {z : gZ} {v w : Nat → Int} (g : Gr c z) (h : NJ c m nC nN nS nI nO z) (p : PK c nC nI nO v w) : ∀ n, n ≤ nN → 0 ≤ lam z w n ∧ lam z w n ≤ 14 * n := by
  intro n
  induction n with
  | zero => intro _; exact ⟨Int.le_refl _, by show (0 : Int) ≤ _; omega⟩
  | succ n ih =>
    intro hn
    have a := ih (by omega)
    have b := (hpz_b (E := fun _ => (0, fun _ => 0)) g h p (n := n) (by omega)).1
    rw [lam]; omega
theorem s_measure {m nC nN nS nI nO : Nat} {z : gZ} (g : Gr c z) (h : NJ c m nC nN nS nI nO z) (p : PZ c nC nI nO z) : q_Placing_measure E (kL c) z = some (lam z (z.1 69) nN) := by
  have hP := kP_b g.1
  have hD := kD_b g.1
  have b1 := h.nb
  unfold q_Placing_measure
  rw [it_acc (fun (i : Nat) (v : Int) => (v, (i : Int))) (fun i => lam z (z.1 69) i) 0 nN (s := (0, 0)) (e := lam z (z.1 69) nN) rfl (by omega) (by omega)]
  · rfl
  · intro i _ hi
    show q_Placing_measure_4 E (kL c) (lam z (z.1 69) i) (i : Int) z = _
    unfold q_Placing_measure_4
    have a := lam_b g h p i (by omega)
    have l1 := s_lengthOf (E := E) g h p hi
    have l2 := (hpz_b (E := E) g h p hi).1
    rw [h.n, if_neg (by omega), l1, b1_s, if_pos (by omega), let_s, let_s]
    rfl
  · show q_Placing_measure_4 E (kL c) (lam z (z.1 69) nN) (nN : Int) z = _
    unfold q_Placing_measure_4
    rw [h.n, if_pos (by omega)]
end
-- P2
section
variable {E : gEv} {c : gCf}
theorem it_c0 {ε : Type} {f : Int → Option (Int ⊕ ε)} (N : Nat) {e : ε} (hN : N < 1000000000) (h : ∀ i : Nat, i < N → f (i : Int) = some (.inl ((i : Int) + 1))) (he : f (N : Int) = some (.inr e)) : gIter f gN 0 = some e := it_cnt 0 N hN (by omega) (fun i _ hi => h i hi) he
theorem cdP_i {x y : Nat} (hk : kOk c) (hx : kN c ≤ x) (hy : kN c ≤ y) (h : cdP c x = cdP c y) : x = y := by
  have hD := kD_b hk
  unfold cdP at h
  rw [if_neg (show ¬ (x : Int) = -1 by omega), if_neg (show ¬ (y : Int) = -1 by omega)] at h
  by_cases e1 : (x : Int) < kN c + kD c
  · rw [if_pos e1] at h
    by_cases e2 : (y : Int) < kN c + kD c
    · rw [if_pos e2] at h; omega
    · rw [if_neg e2] at h; omega
  · rw [if_neg e1] at h
    by_cases e2 : (y : Int) < kN c + kD c
    · rw [if_pos e2] at h; omega
    · rw [if_neg e2] at h; omega
theorem s_tileOf {nC nI nO e x q : Nat} {z : gZ} {y w : Nat → Int} (hk : kOk c) (p : PK c nC nI nO y w) (t : PM c y z) (he : e < 144) (hx : z.1 133 e = x) (hc : x < nC) (hq : w x = q) : q < kN c ∧ q_Model_tileOf E (kL c) (e : Int) z = some (q : Int) := by
  have hN := kN_b hk
  have hD := kD_b hk
  have cb := p.cb
  obtain ⟨q', q1, q2, q3, q4⟩ := p.sp x (Or.inl hc)
  have : q' = q := by omega
  subst this
  have hqN : q' < kN c := q4.2 (by omega)
  refine ⟨hqN, ?_⟩
  unfold q_Model_tileOf
  rw [it_c0 q' (e := (q' : Int)) (by omega)]
  · rfl
  · intro i hi
    unfold q_Model_tileOf_2
    rw [kL_136, kL_133, if_pos (by omega), if_pos (by omega), gtN, gtN, t.t i (by omega), hx]
    have ne : ¬ y i = x := fun e1 => by
      rcases p.th i (by omega) with h | ⟨x', h1, h2, h3⟩
      · omega
      · have : x' = x := by omega
        subst this
        omega
    rw [if_neg ne, if_pos (by omega), let_s]
  · unfold q_Model_tileOf_2
    rw [kL_136, kL_133, if_pos (by omega), if_pos (by omega), gtN, gtN, t.t q' hqN, hx, if_pos q3]
theorem s_padOf {nC nI nO x q : Nat} {z : gZ} {y w : Nat → Int} (hk : kOk c) (p : PK c nC nI nO y w) (t : PM c y z) (hx : uT c nC nI nO x) (hc : kN c ≤ x) (hq : w x = q) : (kN c ≤ q ∧ q < kN c + kD c) ∧ q_Model_padOf E (kL c) (cdP c x) z = some ((q - kN c : Nat) : Int) := by
  have hN := kN_b hk
  have hD := kD_b hk
  have cb := p.cb
  have ib := p.ib
  have ob := p.ob
  obtain ⟨q', q1, q2, q3, q4⟩ := p.sp x hx
  have : q' = q := by omega
  subst this
  have hqN : ¬ q' < kN c := fun h => by have := q4.1 h; omega
  have hx2 : x < kN c + 2 * kD c := by unfold uT at hx; omega
  refine ⟨by omega, ?_⟩
  unfold q_Model_padOf
  rw [it_c0 (q' - kN c) (e := ((q' - kN c : Nat) : Int)) (by omega)]
  · rfl
  · intro i hi
    unfold q_Model_padOf_2
    rw [kL_137, if_pos (by omega), gtN, t.p i (by omega)]
    have ne : ¬ cdP c (y (kN c + i)) = cdP c x := fun e1 => by
      rcases p.th (kN c + i) (by omega) with h | ⟨x', h1, h2, h3⟩
      · rw [h] at e1
        unfold cdP at e1
        rw [if_pos rfl, if_neg (by omega)] at e1
        split at e1 <;> omega
      · obtain ⟨r, r1, r2, r3, r4⟩ := p.sp x' h1
        have hx' : x' < kN c + 2 * kD c := by unfold uT at h1; omega
        have : ¬ x' < kN c := fun h => by have := r4.2 h; omega
        rw [h2] at e1
        have : x' = x := cdP_i hk (by omega) hc e1
        subst this
        omega
    rw [if_neg ne, if_pos (by omega), let_s]
  · unfold q_Model_padOf_2
    rw [kL_137, if_pos (by omega), gtN, t.p _ (by omega), show kN c + (q' - kN c) = q' by omega, q3, if_pos rfl]
theorem s_padXY {z : gZ} (g : Gr c z) {p : Nat} (hp : p < kD c) : q_Model_padX E (kL c) (p : Int) z = some (z.1 2 (kN c + p)) ∧ q_Model_padY E (kL c) (p : Int) z = some (z.1 3 (kN c + p)) := by
  have hD := kD_b g.1
  obtain ⟨⟨c1, c2⟩, ⟨r1, r2⟩, -⟩ := g.1
  have hd : kD c = 4 * (kC c + kR c) := rfl
  have m0 : z.1 94 0 = kC c := g.2.2.1.1
  have m1 : z.1 94 1 = kR c := g.2.2.1.2.1
  obtain ⟨a, b⟩ := g.2.2.2.2.2.2.2 p hp
  have dv : zDiv (p : Int) 2 = ((p / 2 : Nat) : Int) := zDiv_n p 2 (by omega) (by omega)
  constructor
  · unfold q_Model_padX
    rw [dv, let_s, m0, m1, a]
    unfold kPx
    by_cases h1 : p / 2 < kC c
    · rw [if_neg (by omega), if_pos h1]; rfl
    rw [if_pos (by omega), if_pos (by omega), if_neg h1]
    by_cases h2 : p / 2 < 2 * kC c
    · rw [if_neg (by omega), if_pos (by omega), if_pos h2, show ((p / 2 : Nat) : Int) - (kC c : Int) + 1 = ((p / 2 - kC c + 1 : Nat) : Int) by omega]
    rw [if_pos (by omega), if_pos (by omega), if_neg h2]
    by_cases h3 : p / 2 < 2 * kC c + kR c
    · rw [if_neg (by omega), if_pos h3]; rfl
    · rw [if_pos (by omega), if_pos (by omega), if_neg h3]; rfl
  · unfold q_Model_padY
    rw [dv, let_s, m0, m1, b]
    unfold kPy
    by_cases h1 : p / 2 < kC c
    · rw [if_neg (by omega), if_pos h1]; rfl
    rw [if_pos (by omega), if_pos (by omega), if_neg h1]
    by_cases h2 : p / 2 < 2 * kC c
    · rw [if_neg (by omega), if_pos (by omega), if_pos h2]; rfl
    rw [if_pos (by omega), if_pos (by omega), if_neg h2]
    by_cases h3 : p / 2 < 2 * kC c + kR c
    · rw [if_neg (by omega), if_pos (by omega), if_pos h3, show ((p / 2 : Nat) : Int) - 2 * (kC c : Int) + 1 = ((p / 2 - 2 * kC c + 1 : Nat) : Int) by omega]
    · rw [if_pos (by omega), if_pos (by omega), if_neg h3, show ((p / 2 : Nat) : Int) - 2 * (kC c : Int) - (kR c : Int) + 1 = ((p / 2 - 2 * kC c - kR c + 1 : Nat) : Int) by omega]
def pPt (k j : Nat) : Prop := k = 94 ∧ (j = 72 ∨ j = 73)
/-- a point is set -/
def atP (z : gZ) (x y : Int) (s : gZ) : Prop := zOff pPt z s ∧ s.1 94 72 = x ∧ s.1 94 73 = y
theorem s_ptPad {z : gZ} (g : Gr c z) {p : Nat} (hp : p < kD c) : zOk (q_Model_pointOfPad E (kL c) (p : Int) z) (atP z (z.1 2 (kN c + p)) (z.1 3 (kN c + p))) := by
  unfold q_Model_pointOfPad
  rw [(s_padXY g hp).1, b1_s]
  (refine ok_ll ?_)
  have g' : Gr c (zPut z 94 72 (z.1 2 (kN c + p))) := Gr_off (off_put (P := pPt) (by unfold pPt; omega)) (fun k j h => by unfold pS at h; unfold pPt; omega) g
  rw [(s_padXY g' hp).2, b1_s]
  (refine ok_ll ?_)
  refine ok_so ⟨off_t (off_put (by unfold pPt; omega)) (off_put (by unfold pPt; omega)), by (simp only [zp1, zr1, zf1, Nat.reduceEqDiff, Nat.reduceBEq, reduceIte, if_true, if_false, and_true, true_and, and_false, false_and, gtN]), by (simp only [zp1, zr1, zf1, Nat.reduceEqDiff, Nat.reduceBEq, reduceIte, if_true, if_false, and_true, true_and, and_false, false_and, gtN])⟩
theorem s_ptEl {nC nI nO e x q : Nat} {z : gZ} {y w : Nat → Int} (g : Gr c z) (p : PK c nC nI nO y w) (t : PM c y z) (he : e < 144) (hx : z.1 133 e = x) (hc : x < nC) (hq : w x = q) : zOk (q_Model_pointOfElement E (kL c) (e : Int) z) (atP z (z.1 2 q) (z.1 3 q)) := by
  have hN := kN_b g.1
  obtain ⟨⟨c1, c2⟩, ⟨r1, r2⟩, -⟩ := g.1
  have m0 : z.1 94 0 = kC c := g.2.2.1.1
  obtain ⟨h1, h2⟩ := s_tileOf (E := E) g.1 p t he hx hc hq
  obtain ⟨a, b⟩ := g.2.2.2.2.2.2.1 q h1
  have l1 : q % kC c < kC c := Nat.mod_lt _ (by omega)
  have l2 : q / kC c < kR c := Nat.div_lt_of_lt_mul h1
  have d1 : zRem (q : Int) (kC c : Int) = ((q % kC c : Nat) : Int) := zRem_n q _ (by omega) (by omega)
  have d2 : zDiv (q : Int) (kC c : Int) = ((q / kC c : Nat) : Int) := zDiv_n q _ (by omega) (by omega)
  unfold q_Model_pointOfElement
  rw [h2, b1_s, m0, d1]
  generalize q % kC c = u at *
  generalize q / kC c = w' at *
  (refine ok_gd (by omega) ?_); (refine ok_gd (by omega) ?_); (refine ok_ll ?_)
  rw [show (zPut z 94 72 ((u : Int) + 1)).1 94 0 = kC c by (simp only [zp1, zr1, zf1, Nat.reduceEqDiff, Nat.reduceBEq, reduceIte, if_true, if_false, and_true, true_and, and_false, false_and, gtN]); exact m0, d2]
  (refine ok_gd (by omega) ?_); (refine ok_gd (by omega) ?_); (refine ok_ll ?_)
  exact ok_so ⟨off_t (off_put (by unfold pPt; omega)) (off_put (by unfold pPt; omega)), by (simp only [zp1, zr1, zf1, Nat.reduceEqDiff, Nat.reduceBEq, reduceIte, if_true, if_false, and_true, true_and, and_false, false_and, gtN]); rw [a]; rfl, by (simp only [zp1, zr1, zf1, Nat.reduceEqDiff, Nat.reduceBEq, reduceIte, if_true, if_false, and_true, true_and, and_false, false_and, gtN]); rw [b]; rfl⟩
theorem s_ptSrc {m nC nN nS nI nO n : Nat} {z : gZ} {y w : Nat → Int} (g : Gr c z) (h : NJ c m nC nN nS nI nO z) (p : PK c nC nI nO y w) (t : PM c y z) (hn : n < nN) : zOk (q_Model_pointOfSource E (kL c) (z.1 129 n) z) (atP z (gX z w 2 61 n) (gX z w 3 61 n)) := by
  have hN := kN_b g.1
  have hD := kD_b g.1
  have hP := kP_b g.1
  have mb := h.mb
  have ib := p.ib
  unfold q_Model_pointOfSource gX
  rcases (h.src n hn).2 with ⟨i, i1, i2, i3⟩ | ⟨e, x, e1, e2, e3, e4, e5⟩
  · rw [i2, i3, gtN]
    (refine ok_neg (by omega) ?_)
    have hu : uT c nC nI nO (kN c + i) := by unfold uT; omega
    obtain ⟨-, q, q1, q2⟩ := p.q hu
    obtain ⟨w1, w2⟩ := s_padOf (E := E) g.1 p t hu (by omega) q1
    rw [show cdP c ((kN c + i : Nat) : Int) = (i : Int) by unfold cdP; rw [if_neg (by omega), if_pos (by omega)]; omega] at w2
    rw [w2, b1_s, q1, gtN]
    refine ok_b1 _ (s_ptPad g (p := q - kN c) (by omega)) fun s hs => ?_
    rw [show kN c + (q - kN c) = q by omega] at hs
    exact ok_so hs
  · obtain ⟨-, q, q1, q2⟩ := p.q (nO := nO) (nI := nI) (x := x) (Or.inl e4)
    rw [e5, gtN, q1, gtN]
    have el : q_Model_elementOf E (kL c) (z.1 129 n) z = some (e : Int) := by
      unfold q_Model_elementOf
      rw [kL_128]
      rcases e2 with ⟨a1, a2⟩ | ⟨a1, a2, a3⟩
      · rw [if_neg (by omega), if_pos (by omega), a2]
      · rw [if_pos (by omega), if_neg (by omega), if_pos (by omega), a3]
    (refine ok_pos (by omega) ?_)
    rw [el, b1_s]
    refine ok_b1 _ (s_ptEl g p t (by omega) e3 e4 q1) fun s hs => ?_
    exact ok_so hs
theorem s_ptSnk {m nC nN nS nI nO k : Nat} {z : gZ} {y w : Nat → Int} (g : Gr c z) (h : NJ c m nC nN nS nI nO z) (p : PK c nC nI nO y w) (t : PM c y z) (hn : k < nS) : zOk (q_Model_pointOfSink E (kL c) (k : Int) z) (atP z (gX z w 2 64 k) (gX z w 3 64 k)) := by
  have hN := kN_b g.1
  have hD := kD_b g.1
  have hP := kP_b g.1
  have mb := h.mb
  have ib := p.ib
  have ob := p.ob
  have sb := h.sb
  unfold q_Model_pointOfSink gX
  rw [kL_131]
  (refine ok_gd (by omega) ?_)
  rw [gtN]
  rcases h.snk k hn with ⟨e, p', x, e1, e2, e3, e4, e5, e6, e7⟩ | ⟨o, o1, o2, o3, o4⟩
  · obtain ⟨-, q, q1, q2⟩ := p.q (nO := nO) (nI := nI) (x := x) (Or.inl e6)
    rw [e3, e7, gtN, q1, gtN]
    (refine ok_pos (by omega) ?_)
    have dv : zDiv ((4 * e + p' : Nat) : Int) 4 = ((e : Nat) : Int) := by
      have := zDiv_n (4 * e + p') 4 (by omega) (by omega)
      rw [show (4 * e + p') / 4 = e by omega] at this
      exact this
    rw [dv]
    refine ok_b1 _ (s_ptEl g p t (by omega) e5 e6 q1) fun s hs => ?_
    exact ok_so hs
  · have hu : uT c nC nI nO (kN c + kD c + o) := by unfold uT; omega
    obtain ⟨-, q, q1, q2⟩ := p.q hu
    rw [o2, o4, gtN, q1, gtN]
    (refine ok_neg (by omega) ?_); (refine ok_gd (by omega) ?_)
    obtain ⟨w1, w2⟩ := s_padOf (E := E) g.1 p t hu (by omega) q1
    rw [show cdP c ((kN c + kD c + o : Nat) : Int) = 200 + ((1000 + o : Nat) : Int) - 1000 by unfold cdP; rw [if_neg (by omega), if_neg (by omega)]; omega] at w2
    rw [w2, b1_s]
    refine ok_b1 _ (s_ptPad g (p := q - kN c) (by omega)) fun s hs => ?_
    rw [show kN c + (q - kN c) = q by omega] at hs
    exact ok_so hs
end
-- P3
section
variable {E : gEv} {c : gCf}
theorem gX_o {z t : gZ} {w : Nat → Int} {a r : Nat} (o : zOff pPt z t) (ha : a ≠ 94) (hr : r ≠ 94) : gX t w a r = gX z w a r := by
  funext n
  unfold gX
  rw [o.2 r n (by unfold pPt; omega), o.2 a _ (by unfold pPt; omega)]
def lnE (lo i : Nat) (t : (Int × Int × Int × Int) × gZ) : Int × Int × Int × Int × Int × gZ := (t.1.1, t.1.2.1, t.1.2.2.1, t.1.2.2.2, ((lo + i : Nat) : Int), t.2)
def lnI (z : gZ) (w : Nat → Int) (n lo i : Nat) (t : (Int × Int × Int × Int) × gZ) : Prop := zOff pPt z t.2 ∧ t.1.1 = mnf (gX z w 2 64) (gX z w 2 61 n) lo i ∧ t.1.2.1 = mxf (gX z w 2 64) (gX z w 2 61 n) lo i ∧ t.1.2.2.1 = mnf (gX z w 3 64) (gX z w 3 61 n) lo i ∧ t.1.2.2.2 = mxf (gX z w 3 64) (gX z w 3 61 n) lo i
def lnQ (z : gZ) (w : Nat → Int) (n lo i : Nat) (e : Int × Int × Int × Int × gZ) : Prop := zOff pPt z e.2.2.2.2 ∧ e.1 = mnf (gX z w 2 64) (gX z w 2 61 n) lo i ∧ e.2.1 = mxf (gX z w 2 64) (gX z w 2 61 n) lo i ∧ e.2.2.1 = mnf (gX z w 3 64) (gX z w 3 61 n) lo i ∧ e.2.2.2.1 = mxf (gX z w 3 64) (gX z w 3 61 n) lo i
theorem ln_fin {z s' : gZ} {w : Nat → Int} {n lo i cnt : Nat} {v0 v1 v2 v3 : Int} (o : zOff pPt z s') (h0 : v0 = mnf (gX z w 2 64) (gX z w 2 61 n) lo (i + 1)) (h1 : v1 = mxf (gX z w 2 64) (gX z w 2 61 n) lo (i + 1)) (h2 : v2 = mnf (gX z w 3 64) (gX z w 3 61 n) lo (i + 1)) (h3 : v3 = mxf (gX z w 3 64) (gX z w 3 61 n) lo (i + 1)) : zOk (some (Sum.inl (v0, v1, v2, v3, ((lo + i : Nat) : Int) + 1, s')) : Option ((Int × Int × Int × Int × Int × gZ) ⊕ (Int × Int × Int × Int × gZ))) (fun r => (∃ t', r = .inl (lnE lo (i + 1) t') ∧ lnI z w n lo (i + 1) t') ∨ ∃ e, r = .inr e ∧ lnQ z w n lo cnt e) :=
  ok_inl (Or.inl ⟨((v0, v1, v2, v3), s'), rfl, o, h0, h1, h2, h3⟩)
theorem s_lenM {m nC nN nS nI nO : Nat} {z : gZ} {y w : Nat → Int} (g : Gr c z) (h : NJ c m nC nN nS nI nO z) (p : PK c nC nI nO y w) (t : PM c y z) : zOk (q_Model_length E (kL c) z) (fun r => r.1 = lam z w nN ∧ zOff pPt z r.2) := by
  have hP := kP_b g.1
  have hD := kD_b g.1
  have hN := kN_b g.1
  have b1 := h.nb
  have b2 := h.sb
  unfold q_Model_length
  refine ok_b1 (fun r => r.1 = lam z w nN ∧ zOff pPt z r.2) ?_ fun s hs => ok_so hs
  have fr : ∀ {t' : gZ}, zOff pPt z t' → Gr c t' ∧ NJ c m nC nN nS nI nO t' ∧ PM c y t' := fun {t'} o => ⟨Gr_off o (fun k j h => by unfold pS at h; unfold pPt; omega) g, NJ_o h o (fun k j h => by unfold pN at h; unfold pPt; omega), PM_o t o (fun k j h => by unfold pPt at h; omega)⟩
  refine it_for (fun (i : Nat) (t : Int × gZ) => (t.1, (i : Int), t.2)) (fun i t => t.1 = lam z w i ∧ zOff pPt z t.2) 0 nN (t := (0, z)) rfl ⟨rfl, off_r⟩ (by omega) (by omega) ?_ ?_
  · intro n ⟨v, t'⟩ _ hn ⟨k1, k2⟩
    obtain ⟨g', h', m'⟩ := fr k2
    have k1 : v = lam z w n := k1
    have k2 : zOff pPt z t' := k2
    subst k1
    obtain ⟨f1, f2, f3⟩ := h.fs n (by omega)
    obtain ⟨g1, g2, g3⟩ := h.fs (n + 1) (by omega)
    have mo := h.mo n hn
    have hw : ∃ lo cnt : Nat, z.1 62 n = lo ∧ z.1 62 (n + 1) = ((lo + cnt : Nat) : Int) := ⟨(z.1 62 n).toNat, (z.1 62 (n + 1) - z.1 62 n).toNat, by omega, by omega⟩
    obtain ⟨lo, cnt, w1, w2⟩ := hw
    show zOk (q_Model_length_4 E (kL c) (lam z w n) (n : Int) t') _
    unfold q_Model_length_4
    rw [h'.nm, kL_129, kL_130]
    (refine ok_neg (by omega) ?_); (refine ok_gd (by omega) ?_)
    rw [gtN]
    refine ok_b1 _ (s_ptSrc g' h' p m' hn) fun s ⟨o, s1, s2⟩ => ?_
    rw [gX_o k2 (by decide) (by decide)] at s1 s2
    (refine ok_ll ?_); (refine ok_ll ?_); (refine ok_ll ?_); (refine ok_ll ?_); (refine ok_gd (by omega) ?_); (refine ok_ll ?_)
    have os : zOff pPt z s := off_t k2 o
    rw [s1, s2, os.2 130 n (by unfold pPt; omega), f3, w1]
    refine ok_b1 (lnQ z w n lo cnt) ?_ fun e ⟨e1, e2, e3, e4, e5⟩ => ?_
    · refine it_for (lnE lo) (lnI z w n lo) 0 cnt (t := ((gX z w 2 61 n, gX z w 2 61 n, gX z w 3 61 n, gX z w 3 61 n), s)) rfl ⟨os, rfl, rfl, rfl, rfl⟩ (by omega) (by omega) ?_ ?_
      · rintro i ⟨⟨x0, x1, y0, y1⟩, u⟩ _ hi ⟨q0, q1, q2, q3, q4⟩
        have q0 : zOff pPt z u := q0
        have q1 : x0 = _ := q1
        have q2 : x1 = _ := q2
        have q3 : y0 = _ := q3
        have q4 : y1 = _ := q4
        obtain ⟨gu, hu, mu⟩ := fr q0
        show zOk (q_Model_length_53 E (kL c) (lam z w n) (n : Int) x0 x1 y0 y1 ((lo + i : Nat) : Int) u) _
        unfold q_Model_length_53
        rw [kL_130]
        (refine ok_gd (by omega) ?_)
        rw [show ((n : Int) + 1).toNat = n + 1 by omega, q0.2 130 _ (by unfold pPt; omega), g3, w2]
        (refine ok_neg (by omega) ?_)
        refine ok_b1 _ (s_ptSnk gu hu p mu (k := lo + i) (by omega)) fun s' ⟨o', r1, r2⟩ => ?_
        rw [gX_o q0 (by decide) (by decide)] at r1 r2
        refine ok_br (fun a1 => ?_) fun a1 => ?_ <;> (unfold q_Model_length_j88_53; refine ok_br (fun a2 => ?_) fun a2 => ?_) <;> (unfold q_Model_length_j107_53; refine ok_br (fun a3 => ?_) fun a3 => ?_) <;> (unfold q_Model_length_j127_53; refine ok_br (fun a4 => ?_) fun a4 => ?_) <;> (try rw [ok_l]) <;> (refine ok_gd (by omega) ?_) <;> rw [ok_l] <;>
          exact ln_fin (off_t q0 o') (by rw [mnf, ← q1, ← r1]; split <;> omega) (by rw [mxf, ← q2, ← r1]; split <;> omega) (by rw [mnf, ← q3, ← r2]; split <;> omega) (by rw [mxf, ← q4, ← r2]; split <;> omega)
      · rintro ⟨⟨x0, x1, y0, y1⟩, u⟩ ⟨q0, q1, q2, q3, q4⟩
        have q0 : zOff pPt z u := q0
        show zOk (q_Model_length_53 E (kL c) (lam z w n) (n : Int) x0 x1 y0 y1 ((lo + cnt : Nat) : Int) u) _
        unfold q_Model_length_53
        rw [kL_130]
        (refine ok_gd (by omega) ?_)
        rw [show ((n : Int) + 1).toNat = n + 1 by omega, q0.2 130 _ (by unfold pPt; omega), g3, w2]
        (refine ok_pos (by omega) ?_)
        exact ok_inr ⟨_, rfl, q0, q1, q2, q3, q4⟩
    · have hh := (hpz_b (E := E) g h p hn).1
      have hl := lam_b g h p n (by omega)
      have hz : hpz z w n = ((e.2.1 - e.1) + e.2.2.2.1) - e.2.2.1 := by
        unfold hpz
        rw [e2, e3, e4, e5, w1, w2, show (((lo + cnt : Nat) : Int) - (lo : Int)).toNat = cnt by omega, gtN]
      rw [← hz]
      (refine ok_gd (by omega) ?_); (refine ok_ll ?_); (refine ok_ll ?_)
      exact ok_inl (Or.inl ⟨(lam z w (n + 1), e.2.2.2.2), rfl, rfl, e1⟩)
  · rintro ⟨v, t'⟩ ⟨k1, k2⟩
    have k2 : zOff pPt z t' := k2
    show zOk (q_Model_length_4 E (kL c) v (nN : Int) t') _
    unfold q_Model_length_4
    rw [k2.2 94 60 (by unfold pPt; omega), h.nm]
    (refine ok_pos (by omega) ?_)
    exact ok_inr ⟨_, rfl, k1, k2⟩
end
-- P4
section
variable {E : gEv} {c : gCf}
/-- two spots of one kind -/
def same (c : gCf) (a b : Nat) : Prop := a < kN c + kD c ∧ b < kN c + kD c ∧ (a < kN c ↔ b < kN c)
def swp (f : Nat → Int) (a b q : Nat) : Int := if q = a then f b else if q = b then f a else f q
def pPl (k j : Nat) : Prop := k = 68 ∨ k = 69
theorem s_set {z : gZ} {a : Nat} {v : Int} (hk : kOk c) (ha : a < kN c + kD c) (hv : v = -1 ∨ (0 ≤ v ∧ v < kN c + 2 * kD c)) : zOk (q_Placing_set E (kL c) (a : Int) v z) (fun s => zOff pPl z s ∧ (∀ q, s.1 68 q = if q = a then v else z.1 68 q) ∧ ∀ x : Nat, s.1 69 x = if v = x then (a : Int) else z.1 69 x) := by
  have hN := kN_b hk
  have hD := kD_b hk
  unfold q_Placing_set
  rw [kL_68, kL_69]
  (refine ok_gd (by omega) ?_); (refine ok_ll ?_)
  rw [gtN]
  refine ok_br (fun e => ?_) fun e => ?_
  · refine ok_so ⟨off_put (Or.inl rfl), fun q => by (simp only [zp1, zr1, zf1, Nat.reduceEqDiff, Nat.reduceBEq, reduceIte, if_true, if_false, and_true, true_and, and_false, false_and, gtN]), fun x => ?_⟩
    rw [if_neg (by omega)]; (simp only [zp1, zr1, zf1, Nat.reduceEqDiff, Nat.reduceBEq, reduceIte, if_true, if_false, and_true, true_and, and_false, false_and, gtN])
  · have hv : 0 ≤ v ∧ v < kN c + 2 * kD c := by omega
    (refine ok_gd (by omega) ?_); (refine ok_ll ?_)
    refine ok_so ⟨off_t (off_put (Or.inl rfl)) (off_put (Or.inr rfl)), fun q => by (simp only [zp1, zr1, zf1, Nat.reduceEqDiff, Nat.reduceBEq, reduceIte, if_true, if_false, and_true, true_and, and_false, false_and, gtN]), fun x => ?_⟩
    (simp only [zp1, zr1, zf1, Nat.reduceEqDiff, Nat.reduceBEq, reduceIte, if_true, if_false, and_true, true_and, and_false, false_and, gtN])
    by_cases e1 : x = v.toNat
    · rw [if_pos e1, if_pos (by omega)]
    · rw [if_neg e1, if_neg (by omega)]
theorem PK.v' {nC nI nO q : Nat} {z : gZ} (h : PZ c nC nI nO z) (hq : q < kN c + kD c) : z.1 68 q = -1 ∨ (0 ≤ z.1 68 q ∧ z.1 68 q < kN c + 2 * kD c) := by
  rcases h.th q hq with e | ⟨x, x1, x2, x3⟩
  · exact Or.inl e
  · have := (h.q x1).1
    right; omega
theorem s_turn {nC nI nO a b : Nat} {z : gZ} (hk : kOk c) (h : PZ c nC nI nO z) (hs : same c a b) (hd : z.1 68 a ≠ z.1 68 b) : zOk (q_Placing_turn E (kL c) (a : Int) (b : Int) z) (fun s => zOff pPl z s ∧ PZ c nC nI nO s ∧ ∀ q, s.1 68 q = swp (z.1 68) a b q) := by
  have hN := kN_b hk
  have hD := kD_b hk
  obtain ⟨ha, hb, hs⟩ := hs
  have hab : a ≠ b := fun e => hd (by rw [e])
  unfold q_Placing_turn
  rw [kL_68]
  (refine ok_gd (by omega) ?_); (refine ok_ll ?_); (refine ok_gd (by omega) ?_)
  rw [gtN, gtN]
  refine ok_b1 _ (s_set hk ha (PK.v' h hb)) fun s ⟨o1, s1, s2⟩ => ?_
  refine ok_b1 _ (s_set hk hb (PK.v' h ha)) fun t ⟨o2, t1, t2⟩ => ?_
  have e8 : ∀ q, t.1 68 q = swp (z.1 68) a b q := fun q => by
    rw [t1, s1]
    unfold swp
    by_cases e : q = b
    · rw [if_pos e, if_neg (by omega), if_pos e]
    · rw [if_neg e]
      by_cases e' : q = a
      · rw [if_pos e', if_pos e']
      · rw [if_neg e', if_neg e', if_neg e]
  have e9 : ∀ x : Nat, t.1 69 x = if z.1 68 a = x then (b : Int) else if z.1 68 b = x then (a : Int) else z.1 69 x := fun x => by rw [t2, s2]
  refine ok_so ⟨off_t o1 o2, ⟨h.cb, h.ib, h.ob, fun x hx => ?_, fun q hq => ?_⟩, e8⟩
  · obtain ⟨q, q1, q2, q3, q4⟩ := h.sp x hx
    rw [e9]
    by_cases ea : z.1 68 a = x
    · rw [if_pos ea]
      rcases h.th a ha with w | ⟨x', w1, w2, w3⟩
      · omega
      · have : x' = x := by omega
        subst this
        have : q = a := by omega
        subst this
        exact ⟨b, rfl, hb, by rw [e8]; unfold swp; rw [if_neg (by omega), if_pos rfl]; exact ea, by omega⟩
    · rw [if_neg ea]
      by_cases eb : z.1 68 b = x
      · rw [if_pos eb]
        rcases h.th b hb with w | ⟨x', w1, w2, w3⟩
        · omega
        · have : x' = x := by omega
          subst this
          have : q = b := by omega
          subst this
          exact ⟨a, rfl, ha, by rw [e8]; unfold swp; rw [if_pos rfl]; exact eb, by omega⟩
      · rw [if_neg eb]
        refine ⟨q, q1, q2, ?_, q4⟩
        rw [e8]; unfold swp
        rw [if_neg fun e => ea (by rw [← e]; exact q3), if_neg fun e => eb (by rw [← e]; exact q3)]; exact q3
  · rw [e8]; unfold swp
    by_cases ea : q = a
    · rw [if_pos ea]
      rcases h.th b hb with w | ⟨x, w1, w2, w3⟩
      · exact Or.inl w
      · refine Or.inr ⟨x, w1, w2, ?_⟩
        rw [e9, if_neg (by omega), if_pos w2, ea]
    · rw [if_neg ea]
      by_cases eb : q = b
      · rw [if_pos eb]
        rcases h.th a ha with w | ⟨x, w1, w2, w3⟩
        · exact Or.inl w
        · refine Or.inr ⟨x, w1, w2, ?_⟩
          rw [e9, if_pos w2, eb]
      · rw [if_neg eb]
        rcases h.th q hq with w | ⟨x, w1, w2, w3⟩
        · exact Or.inl w
        · refine Or.inr ⟨x, w1, w2, ?_⟩
          rw [e9, if_neg fun e => ?_, if_neg fun e => ?_]
          · exact w3
          · rcases h.th b hb with w | ⟨x', u1, u2, u3⟩
            · omega
            · have : x' = x := by omega
              subst this; omega
          · rcases h.th a ha with w | ⟨x', u1, u2, u3⟩
            · omega
            · have : x' = x := by omega
              subst this; omega
/-- lengths are of the spots alone -/
theorem lam_c {z s : gZ} {w w' : Nat → Int} {m nC nN nS nI nO : Nat} (h : NJ c m nC nN nS nI nO z) (h9 : ∀ x, uT c nC nI nO x → w' x = w x) (hr : ∀ k, k = 2 ∨ k = 3 ∨ k = 61 ∨ k = 62 ∨ k = 64 → s.1 k = z.1 k) : ∀ n, n ≤ nN → lam s w' n = lam z w n := by
  intro n
  induction n with
  | zero => intro _; rfl
  | succ n ih =>
    intro hn
    rw [lam, lam, ih (by omega)]
    congr 1
    obtain ⟨x, x1, x2⟩ := h.su (n := n) (by omega)
    obtain ⟨f1, f2, f3⟩ := h.fs n (by omega)
    obtain ⟨g1, g2, g3⟩ := h.fs (n + 1) (by omega)
    have mo := h.mo n (by omega)
    have e1 : ∀ a, a = 2 ∨ a = 3 → gX s w' a 61 n = gX z w a 61 n := fun a ha => by
      unfold gX
      rw [hr 61 (by omega), hr a (by omega), x1, gtN, h9 x x2]
    have e2 : ∀ a, a = 2 ∨ a = 3 → ∀ i, i < (z.1 62 (n + 1) - z.1 62 n).toNat → gX s w' a 64 ((z.1 62 n).toNat + i) = gX z w a 64 ((z.1 62 n).toNat + i) := fun a ha i hi => by
      obtain ⟨y, y1, y2⟩ := h.ku (k := (z.1 62 n).toNat + i) (by omega)
      unfold gX
      rw [hr 64 (by omega), hr a (by omega), y1, gtN, h9 y y2]
    unfold hpz
    rw [hr 62 (by omega), e1 2 (by omega), e1 3 (by omega), mxf_c (e2 2 (by omega)), mnf_c (e2 2 (by omega)), mxf_c (e2 3 (by omega)), mnf_c (e2 3 (by omega))]
theorem PK_69 {z s : gZ} {nC nI nO : Nat} (h : PZ c nC nI nO z) (h' : PZ c nC nI nO s) (e : ∀ q, s.1 68 q = z.1 68 q) : ∀ x, uT c nC nI nO x → s.1 69 x = z.1 69 x := by
  intro x hx
  obtain ⟨q, q1, q2, q3, q4⟩ := h'.sp x hx
  rw [e] at q3
  rcases h.th q q2 with w | ⟨x', w1, w2, w3⟩
  · omega
  · have : x' = x := by omega
    subst this
    omega
/-- both sides' nets and spots -/
abbrev PC (c : gCf) (m nC nN nS nI nO : Nat) (z : gZ) : Prop := ∃ _ : (NJ c m nC nN nS nI nO z), ∃ _ : (PZ c nC nI nO z), (z.1 67 4 = lam z (z.1 69) nN)
theorem PC.n {c : gCf} {m nC nN nS nI nO : Nat} {z : gZ} (h : PC c m nC nN nS nI nO z) : NJ c m nC nN nS nI nO z := by obtain ⟨x, _⟩ := h; exact x
theorem PC.k {c : gCf} {m nC nN nS nI nO : Nat} {z : gZ} (h : PC c m nC nN nS nI nO z) : PZ c nC nI nO z := by obtain ⟨_, x, _⟩ := h; exact x
theorem PC.l {c : gCf} {m nC nN nS nI nO : Nat} {z : gZ} (h : PC c m nC nN nS nI nO z) : z.1 67 4 = lam z (z.1 69) nN := by obtain ⟨_, _, x⟩ := h; exact x
def pEx (k j : Nat) : Prop := k = 68 ∨ k = 69 ∨ (k = 67 ∧ j = 4)
/-- what the class does to two spots; the reference does it too -/
theorem s_exch {m nC nN nS nI nO a b : Nat} {d : Int} {z : gZ} (g : Gr c z) (h : PC c m nC nN nS nI nO z) (hs : same c a b) : zOk (q_Placing_exchange E (kL c) (a : Int) (b : Int) d z) (fun s => zOff pEx z s ∧ PZ c nC nI nO s ∧ s.1 67 4 = lam s (s.1 69) nN ∧ ((z.1 68 a = z.1 68 b ∧ s = z) ∨ ∃ s' : gZ, zOff pPl z s' ∧ PZ c nC nI nO s' ∧ (∀ q, s'.1 68 q = swp (z.1 68) a b q) ∧ z.1 68 a ≠ z.1 68 b ∧ ((lam s' (s'.1 69) nN - lam z (z.1 69) nN ≤ d ∧ s = zPut s' 67 4 (lam s' (s'.1 69) nN)) ∨ (¬ lam s' (s'.1 69) nN - lam z (z.1 69) nN ≤ d ∧ (∀ q, s.1 68 q = z.1 68 q))))) := by
  have hP := kP_b g.1
  have hN := kN_b g.1
  have hD := kD_b g.1
  obtain ⟨ha, hb, hab⟩ := hs
  unfold q_Placing_exchange
  rw [kL_68]
  (refine ok_gd (by omega) ?_); (refine ok_gd (by omega) ?_)
  rw [gtN, gtN]
  refine ok_br (fun e => ok_so ⟨off_r, h.k, h.l, Or.inl ⟨e, rfl⟩⟩) fun e => ?_
  refine ok_b1 _ (s_turn g.1 h.k ⟨ha, hb, hab⟩ e) fun s ⟨o1, k1, e1⟩ => ?_
  have g1 : Gr c s := Gr_off o1 (fun k j h => by unfold pS at h; unfold pPl; omega) g
  have n1 : NJ c m nC nN nS nI nO s := NJ_o h.n o1 (fun k j h => by unfold pN at h; unfold pPl; omega)
  have l1 := lam_b g1 n1 k1 nN (Nat.le_refl _)
  have l0 := lam_b g h.n h.k nN (Nat.le_refl _)
  have nb := h.n.nb
  refine ok_v1 (s_measure g1 n1 k1) ?_
  have e67 : s.1 67 4 = lam z (z.1 69) nN := by rw [o1.2 67 4 (by unfold pPl; omega)]; exact h.l
  rw [e67]
  (refine ok_gd (by omega) ?_)
  refine ok_br (fun e2 => ?_) fun e2 => ?_
  · (refine ok_ll ?_)
    have o2 : zOff (fun k j => k = 67 ∧ j = 4) s (zPut s 67 4 (lam s (s.1 69) nN)) := off_put ⟨rfl, rfl⟩
    have k2 : PZ c nC nI nO (zPut s 67 4 (lam s (s.1 69) nN)) := PK_o k1 o2 (by omega)
    refine ok_so ⟨off_t (off_w o1 fun k j x => by unfold pPl at x; unfold pEx; omega) (off_w o2 fun k j x => by unfold pEx; omega), k2, ?_, Or.inr ⟨s, o1, k1, e1, e, Or.inl ⟨e2, rfl⟩⟩⟩
    rw [lam_c (w := s.1 69) (s := zPut s 67 4 (lam s (s.1 69) nN)) n1 (fun x _ => by (simp only [zp1, zr1, zf1, Nat.reduceEqDiff, Nat.reduceBEq, reduceIte, if_true, if_false, and_true, true_and, and_false, false_and, gtN])) (fun k hk => funext fun j => o2.2 k j (by omega)) nN (Nat.le_refl _)]
    (simp only [zp1, zr1, zf1, Nat.reduceEqDiff, Nat.reduceBEq, reduceIte, if_true, if_false, and_true, true_and, and_false, false_and, gtN])
  · have ne : s.1 68 a ≠ s.1 68 b := by
      rw [e1, e1]; unfold swp
      rw [if_pos rfl]
      by_cases w : b = a
      · exact absurd (by rw [w]) e
      · rw [if_neg w, if_pos rfl]; exact fun x => e x.symm
    refine ok_b1 _ (s_turn g1.1 k1 ⟨ha, hb, hab⟩ ne) fun t ⟨o2, k2, e3⟩ => ?_
    have back : ∀ q, t.1 68 q = z.1 68 q := fun q => by
      rw [e3]; unfold swp
      by_cases w1 : q = a
      · rw [if_pos w1, e1]; unfold swp
        rw [w1]
        by_cases w2 : b = a
        · exact absurd (by rw [w2]) e
        · rw [if_neg w2, if_pos rfl]
      · rw [if_neg w1]
        by_cases w2 : q = b
        · rw [if_pos w2, e1]; unfold swp; rw [if_pos rfl, w2]
        · rw [if_neg w2, e1]; unfold swp; rw [if_neg w1, if_neg w2]
    have oz : zOff pPl z t := off_t o1 o2
    refine ok_so ⟨off_w oz fun k j x => by unfold pPl at x; unfold pEx; omega, k2, ?_, Or.inr ⟨s, o1, k1, e1, e, Or.inr ⟨e2, back⟩⟩⟩
    rw [oz.2 67 4 (by unfold pPl; omega), h.l]
    exact (lam_c h.n (PK_69 h.k k2 back) (fun k hk => funext fun j => oz.2 k j (by unfold pPl; omega)) nN (Nat.le_refl _)).symm
/-- the reference's exchange -/
def pXc (k j : Nat) : Prop := k = 136 ∨ k = 137
theorem s_xchM {z : gZ} {f a b : Nat} {pa : Int} (hk : kOk c) (hp : (pa = 0 ∧ a < kN c ∧ b < kN c ∧ f = 0) ∨ (pa = 1 ∧ a < kD c ∧ b < kD c ∧ f = kN c)) (y : Nat → Int) (ht : ∀ t, t < kN c → z.1 136 t = y t) (hq : ∀ p, p < kD c → z.1 137 p = cdP c (y (kN c + p))) : zOk (q_Model_exchange E (kL c) pa (a : Int) (b : Int) z) (fun s => zOff pXc z s ∧ (∀ t, t < kN c → s.1 136 t = swp y (f + a) (f + b) t) ∧ ∀ p, p < kD c → s.1 137 p = cdP c (swp y (f + a) (f + b) (kN c + p))) := by
  have hN := kN_b hk
  have hD := kD_b hk
  unfold q_Model_exchange
  rw [kL_136, kL_137]
  rcases hp with ⟨h0, ha, hb, hf⟩ | ⟨h0, ha, hb, hf⟩
  · (refine ok_pos (by omega) ?_); (refine ok_gd (by omega) ?_)
    unfold q_Model_exchange_j19
    rw [kL_136, gtN]
    (refine ok_pos (by omega) ?_); (refine ok_gd (by omega) ?_); (refine ok_gd (by omega) ?_); (refine ok_ll ?_); (refine ok_ll ?_)
    subst hf
    refine ok_so ⟨off_t (off_put (Or.inl rfl)) (off_put (Or.inl rfl)), fun t h1 => ?_, fun p h1 => ?_⟩
    · (simp only [zp1, zr1, zf1, Nat.reduceEqDiff, Nat.reduceBEq, reduceIte, if_true, if_false, and_true, true_and, and_false, false_and, gtN])
      unfold swp
      rw [Nat.zero_add, Nat.zero_add]
      by_cases e1 : t = b
      · rw [if_pos e1]
        by_cases e2 : t = a
        · rw [if_pos e2, ← e1, e2]; exact ht a ha
        · rw [if_neg e2, if_pos e1]; exact ht a ha
      · rw [if_neg e1]
        by_cases e2 : t = a
        · rw [if_pos e2, if_pos e2]; exact ht b hb
        · rw [if_neg e2, if_neg e2, if_neg e1]; exact ht t h1
    · (simp only [zp1, zr1, zf1, Nat.reduceEqDiff, Nat.reduceBEq, reduceIte, if_true, if_false, and_true, true_and, and_false, false_and, gtN])
      unfold swp
      rw [if_neg (by omega), if_neg (by omega)]; exact hq p h1
  · (refine ok_neg (by omega) ?_); (refine ok_gd (by omega) ?_)
    unfold q_Model_exchange_j19
    rw [kL_137, gtN]
    (refine ok_neg (by omega) ?_); (refine ok_gd (by omega) ?_); (refine ok_gd (by omega) ?_); (refine ok_ll ?_); (refine ok_ll ?_)
    subst hf
    refine ok_so ⟨off_t (off_put (Or.inr rfl)) (off_put (Or.inr rfl)), fun t h1 => ?_, fun p h1 => ?_⟩
    · (simp only [zp1, zr1, zf1, Nat.reduceEqDiff, Nat.reduceBEq, reduceIte, if_true, if_false, and_true, true_and, and_false, false_and, gtN])
      unfold swp
      rw [if_neg (by omega), if_neg (by omega)]; exact ht t h1
    · (simp only [zp1, zr1, zf1, Nat.reduceEqDiff, Nat.reduceBEq, reduceIte, if_true, if_false, and_true, true_and, and_false, false_and, gtN])
      unfold swp
      by_cases e1 : p = b
      · rw [if_pos e1]
        by_cases e2 : p = a
        · rw [if_pos (by omega), show kN c + b = kN c + a by omega]; exact hq a ha
        · rw [if_neg (by omega), if_pos (by omega)]; exact hq a ha
      · rw [if_neg e1]
        by_cases e2 : p = a
        · rw [if_pos e2, if_pos (by omega)]; exact hq b hb
        · rw [if_neg e2, if_neg (by omega), if_neg (by omega)]; exact hq p h1
end
-- P5
section
variable {E : gEv} {c : gCf}
def pSp (k j : Nat) : Prop := k = 136 ∨ k = 137 ∨ (k = 94 ∧ (j = 72 ∨ j = 73))
theorem swp_swp (f : Nat → Int) (a b q : Nat) : swp (swp f a b) a b q = f q := by
  unfold swp
  by_cases h1 : q = a
  · subst h1
    rw [if_pos rfl]
    by_cases h2 : b = q
    · rw [if_pos h2, h2]
    · rw [if_neg h2, if_pos rfl]
  · rw [if_neg h1]
    by_cases h2 : q = b
    · subst h2; rw [if_pos rfl, if_pos rfl]
    · rw [if_neg h2, if_neg h1, if_neg h2]
/-- the reference's one exchange, seen with any spots of the things y before and y' behind -/
theorem s_swapOnce {m nC nN nS nI nO f a b : Nat} {pa d : Int} {z : gZ} {y w y' w' : Nat → Int} (g : Gr c z) (h : NJ c m nC nN nS nI nO z) (p : PK c nC nI nO y w) (t : PM c y z) (p' : PK c nC nI nO y' w') (hy : ∀ q, y' q = swp y (f + a) (f + b) q) (hp : (pa = 0 ∧ a < kN c ∧ b < kN c ∧ f = 0) ∨ (pa = 1 ∧ a < kD c ∧ b < kD c ∧ f = kN c)) (hd : -2147483648 ≤ d ∧ d < 2147483648) : zOk (q_Model_swapOnce E (kL c) pa (a : Int) (b : Int) d z) (fun s => zOff pSp z s ∧ ((lam z w' nN - lam z w nN ≤ d ∧ PM c y' s) ∨ (¬ lam z w' nN - lam z w nN ≤ d ∧ PM c y s))) := by
  have hP := kP_b g.1
  have hD := kD_b g.1
  have nb := h.nb
  unfold q_Model_swapOnce
  refine ok_b2 _ (s_lenM g h p t) fun v1 s2 ⟨e1, o1⟩ => ?_
  have e1 : v1 = lam z w nN := e1
  have o1 : zOff pPt z s2 := o1
  have t2 : PM c y s2 := PM_o t o1 (fun k j h => by unfold pPt at h; omega)
  refine ok_b1 _ (s_xchM g.1 hp y t2.t t2.p) fun s4 ⟨o2, x1, x2⟩ => ?_
  have o3 : zOff pSp z s4 := off_t (off_w o1 fun k j x => by unfold pPt at x; unfold pSp; omega) (off_w o2 fun k j x => by unfold pXc at x; unfold pSp; omega)
  have t4 : PM c y' s4 := ⟨fun t ht => by rw [x1 t ht, hy], fun p hp => by rw [x2 p hp, hy]⟩
  have g4 : Gr c s4 := Gr_off o3 (fun k j h => by unfold pS at h; unfold pSp; omega) g
  have h4 : NJ c m nC nN nS nI nO s4 := NJ_o h o3 (fun k j h => by unfold pN at h; unfold pSp; omega)
  refine ok_b2 _ (s_lenM g4 h4 p' t4) fun v5 s6 ⟨e2, o4⟩ => ?_
  have e2 : v5 = lam s4 w' nN := e2
  have o4 : zOff pPt s4 s6 := o4
  have e3 : lam s4 w' nN = lam z w' nN := lam_c h (fun _ _ => rfl) (fun k hk => funext fun j => o3.2 k j (by unfold pSp; omega)) nN (Nat.le_refl _)
  have b1 := lam_b g h p nN (Nat.le_refl _)
  have b2 := lam_b g h p' nN (Nat.le_refl _)
  have o5 : zOff pSp z s6 := off_t o3 (off_w o4 fun k j x => by unfold pPt at x; unfold pSp; omega)
  have t6 : PM c y' s6 := PM_o t4 o4 (fun k j h => by unfold pPt at h; omega)
  (refine ok_gd (by omega) ?_)
  refine ok_br (fun e => ok_so ⟨o5, Or.inl ⟨by omega, t6⟩⟩) fun e => ?_
  refine ok_b1 _ (s_xchM g.1 hp y' t6.t t6.p) fun s8 ⟨o6, x3, x4⟩ => ?_
  have ey : y' = swp y (f + a) (f + b) := funext hy
  refine ok_so ⟨off_t o5 (off_w o6 fun k j x => by unfold pXc at x; unfold pSp; omega), Or.inr ⟨by omega, ?_⟩⟩
  exact ⟨fun t ht => by rw [x3 t ht, ey, swp_swp], fun p hp => by rw [x4 p hp, ey, swp_swp]⟩
/-- what one exchange makes of the things y -/
def stY (c : gCf) (z : gZ) (nC nI nO nN f a b : Nat) (d : Int) (y y' : Nat → Int) : Prop := ∃ w, PK c nC nI nO y w ∧ ((y (f + a) = y (f + b) ∧ y' = y) ∨ ∃ y1 w1, PK c nC nI nO y1 w1 ∧ (∀ q, y1 q = swp y (f + a) (f + b) q) ∧ ((lam z w1 nN - lam z w nN ≤ d ∧ y' = y1) ∨ (¬ lam z w1 nN - lam z w nN ≤ d ∧ y' = y)))
def eqS (z u : gZ) : Prop := ∀ k, k = 2 ∨ k = 3 ∨ k = 61 ∨ k = 62 ∨ k = 64 → u.1 k = z.1 k
def spot2 (c : gCf) (pa : Int) (f a b : Nat) : Prop := (pa = 0 ∧ a < kN c ∧ b < kN c ∧ f = 0) ∨ (pa = 1 ∧ a < kD c ∧ b < kD c ∧ f = kN c)
theorem s_swC {m nC nN nS nI nO f a b : Nat} {pa d : Int} {z0 z : gZ} (g : Gr c z) (h : PC c m nC nN nS nI nO z) (hz : eqS z0 z) (hp : spot2 c pa f a b) : zOk (q_Placing_exchange E (kL c) ((f + a : Nat) : Int) ((f + b : Nat) : Int) d z) (fun s => zOff pEx z s ∧ PC c m nC nN nS nI nO s ∧ stY c z0 nC nI nO nN f a b d (z.1 68) (s.1 68)) := by
  have hs : same c (f + a) (f + b) := by
    unfold spot2 at hp; unfold same; omega
  have l0 : ∀ w, lam z w nN = lam z0 w nN := fun w => (lam_c h.n (s := z0) (fun _ _ => rfl) (fun k hk => (hz k hk).symm) nN (Nat.le_refl _)).symm
  refine ok_w (s_exch g h hs) fun s ⟨o, k, l, x⟩ => ⟨o, ⟨NJ_o h.n o (fun k j h => by unfold pN at h; unfold pEx; omega), k, l⟩, z.1 69, h.k, ?_⟩
  rcases x with ⟨x1, x2⟩ | ⟨s', o1, k1, e1, ne, x⟩
  · exact Or.inl ⟨x1, by rw [x2]⟩
  · have ls' : lam s' (s'.1 69) nN = lam z (s'.1 69) nN := lam_c h.n (fun _ _ => rfl) (fun k hk => funext fun j => o1.2 k j (by unfold pPl; omega)) nN (Nat.le_refl _)
    rw [ls', l0, l0] at x
    refine Or.inr ⟨s'.1 68, s'.1 69, k1, e1, ?_⟩
    rcases x with ⟨x1, x2⟩ | ⟨x1, x2⟩
    · exact Or.inl ⟨x1, by rw [x2, zp_ne _ _ _ _ _ (by decide)]⟩
    · exact Or.inr ⟨x1, funext x2⟩
theorem s_swR {m nC nN nS nI nO f a b : Nat} {pa d : Int} {z0 u : gZ} {y y' : Nat → Int} (g : Gr c u) (h : NJ c m nC nN nS nI nO u) (hz : eqS z0 u) (t : PM c y u) (hp : spot2 c pa f a b) (hd : -2147483648 ≤ d ∧ d < 2147483648) (hR : stY c z0 nC nI nO nN f a b d y y') : zOk (q_Model_swapOnce E (kL c) pa (a : Int) (b : Int) d u) (fun q => zOff pSp u q ∧ PM c y' q) := by
  have l0 : ∀ w, lam u w nN = lam z0 w nN := fun w => (lam_c h (s := z0) (fun _ _ => rfl) (fun k hk => (hz k hk).symm) nN (Nat.le_refl _)).symm
  obtain ⟨w, k, x⟩ := hR
  rcases x with ⟨x1, x2⟩ | ⟨y1, w1, k1, e1, x⟩
  · have hy : ∀ q, y q = swp y (f + a) (f + b) q := fun q => by
      unfold swp
      by_cases e1 : q = f + a
      · rw [if_pos e1, e1]; exact x1
      · rw [if_neg e1]
        by_cases e2 : q = f + b
        · rw [if_pos e2, e2]; exact x1.symm
        · rw [if_neg e2]
    refine ok_w (s_swapOnce g h k t k hy hp hd) fun q ⟨q1, q2⟩ => ⟨q1, ?_⟩
    rw [x2]
    rcases q2 with ⟨-, q2⟩ | ⟨-, q2⟩ <;> exact q2
  · refine ok_w (s_swapOnce g h k t k1 e1 hp hd) fun q ⟨q1, q2⟩ => ⟨q1, ?_⟩
    rw [l0, l0] at q2
    rcases x with ⟨x1, x2⟩ | ⟨x1, x2⟩ <;> rcases q2 with ⟨q2, q3⟩ | ⟨q2, q3⟩
    · rw [x2]; exact q3
    · exact absurd x1 q2
    · exact absurd q2 x1
    · rw [x2]; exact q3
/-- where things are, on both sides; nothing without a circuit -/
def iPla (c : gCf) (z : gZ) : Prop := (z.1 0 10 = 0 ∧ z.1 94 106 = 0 ∧ (∀ q, q < kN c + kD c → z.1 68 q = -1) ∧ z.1 53 15 = 0 ∧ z.1 53 16 = 0 ∧ z.1 53 17 = 0) ∨ (z.1 0 10 = 1 ∧ z.1 94 106 = 1 ∧ ∃ m nC nN nS nI nO, PC c m nC nN nS nI nO z ∧ PM c (z.1 68) z ∧ z.1 53 15 = m ∧ z.1 94 55 = m)
def pPa (k j : Nat) : Prop := k = 68 ∨ k = 69 ∨ (k = 67 ∧ j = 4) ∨ (k = 70 ∧ j = 15) ∨ k = 136 ∨ k = 137 ∨ (k = 94 ∧ (j = 72 ∨ j = 73 ∨ j = 77))
theorem s_drop {z : gZ} : q_Router_drop E (kL c) z = some (zPut z 70 15 0) := by
  unfold q_Router_drop
  rfl
theorem pl_end {m nC nN nS nI nO : Nat} {z s q : gZ} (o1 : zOff (fun k j => pEx k j ∨ (k = 70 ∧ j = 15)) z s) (o2 : zOff (fun k j => pSp k j ∨ (k = 94 ∧ j = 77)) s q) (h0 : z.1 0 10 = 1) (h1 : z.1 94 106 = 1) (h5 : z.1 53 15 = m ∧ z.1 94 55 = m) (k : PC c m nC nN nS nI nO s) (t : PM c (s.1 68) q) : iPla c q ∧ zOff pPa z q := by
  have oA : zOff pPa z q := off_t (off_w o1 fun k j x => by unfold pEx at x; unfold pPa; omega) (off_w o2 fun k j x => by unfold pSp at x; unfold pPa; omega)
  refine ⟨Or.inr ⟨by rw [oA.2 0 10 (by unfold pPa; omega)]; exact h0, by rw [oA.2 94 106 (by unfold pPa; omega)]; exact h1, m, nC, nN, nS, nI, nO, ⟨NJ_o k.n o2 (fun k j h => by unfold pN at h; unfold pSp; omega), PK_o k.k o2 (fun k j x => by unfold pSp at x; omega), ?_⟩, ?_, by rw [oA.2 53 15 (by unfold pPa; omega)]; exact h5.1, by rw [oA.2 94 55 (by unfold pPa; omega)]; exact h5.2⟩, oA⟩
  · rw [o2.2 67 4 (by unfold pSp; omega), k.l]
    exact (lam_c k.n (fun x _ => by rw [o2.2 69 x (by unfold pSp; omega)]) (fun k hk => funext fun j => o2.2 k j (by unfold pSp; omega)) nN (Nat.le_refl _)).symm
  · rw [show q.1 68 = s.1 68 from funext fun j => o2.2 68 j (by unfold pSp; omega)]; exact t
theorem l_swap {z : gZ} (g : Gr c z) (h : iPla c z) (pa a b d : Int) (hpa : pa = 0 ∨ pa = 1) (hd : -2147483648 ≤ d ∧ d < 2147483648) : zOk (q_Face_swap E (kL c) pa a b d z) (fun r => zOk (q_Model_swap E (kL c) pa a b d r.2) (fun q => r.1 = q.1 ∧ iPla c q.2 ∧ zOff pPa z q.2 ∧ (q.2 = z ∨ (q.2.1 70 15 = 0 ∧ q.2.1 94 77 = 0)))) := by
  have hN := kN_b g.1
  have hD := kD_b g.1
  have o4 : z.1 1 4 = kN c := g.2.1.2.2.2.2.1
  have o5 : z.1 1 5 = kD c := g.2.1.2.2.2.2.2.1
  have m4 : z.1 94 4 = kN c := g.2.2.1.2.2.2.2.1
  have m6 : z.1 94 6 = kD c := g.2.2.1.2.2.2.2.2.2.1
  have main : ∀ f cnt : Nat, (pa = 0 ∧ f = 0 ∧ cnt = kN c) ∨ (pa = 1 ∧ f = kN c ∧ cnt = kD c) → zOk (q_Face_swap_j38 E (kL c) a b d (f : Int) (cnt : Int) z) (fun r => r.2.1 94 4 = z.1 94 4 ∧ r.2.1 94 6 = z.1 94 6 ∧ zOk (q_Model_swap_j15 E (kL c) pa a b d (cnt : Int) r.2) (fun q => r.1 = q.1 ∧ iPla c q.2 ∧ zOff pPa z q.2 ∧ (q.2 = z ∨ (q.2.1 70 15 = 0 ∧ q.2.1 94 77 = 0)))) := fun f cnt hf => by
    have keep : (z.1 94 106 = 0 ∨ a < 0 ∨ (cnt : Int) ≤ a ∨ b < 0 ∨ (cnt : Int) ≤ b) → zOk (some ((-1 : Int), z)) (fun r => r.2.1 94 4 = z.1 94 4 ∧ r.2.1 94 6 = z.1 94 6 ∧ zOk (q_Model_swap_j15 E (kL c) pa a b d (cnt : Int) r.2) (fun q => r.1 = q.1 ∧ iPla c q.2 ∧ zOff pPa z q.2 ∧ (q.2 = z ∨ (q.2.1 70 15 = 0 ∧ q.2.1 94 77 = 0)))) := fun n => by
      refine ok_so ⟨rfl, rfl, ?_⟩
      show zOk (q_Model_swap_j15 E (kL c) pa a b d (cnt : Int) z) _
      unfold q_Model_swap_j15
      have fin : zOk (some ((-1 : Int), z)) (fun q => (-1 : Int) = q.1 ∧ iPla c q.2 ∧ zOff pPa z q.2 ∧ (q.2 = z ∨ (q.2.1 70 15 = 0 ∧ q.2.1 94 77 = 0))) := ok_so ⟨rfl, h, off_r, Or.inl rfl⟩
      refine ok_br (fun _ => fin) fun e1 => ok_br (fun _ => fin) fun e2 => ok_br (fun _ => fin) fun e3 => ok_br (fun _ => fin) fun e4 => ?_
      refine ok_neg (by omega) fin
    unfold q_Face_swap_j38
    refine ok_br (fun e => keep ?_) fun e => ?_
    · rcases h with h | h
      · exact Or.inl h.2.1
      · have := h.1; omega
    refine ok_br (fun e => keep (by omega)) fun e1 => ok_br (fun e => keep (by omega)) fun e2 => ok_br (fun e => keep (by omega)) fun e3 => ok_br (fun e4 => ?_) fun e => keep (by omega)
    rcases h with h | ⟨h0, h1, m, nC, nN, nS, nI, nO, hc, ht, h5⟩
    · exact absurd h.1 e
    have hw : ∃ a' b' : Nat, a = a' ∧ b = b' := ⟨a.toNat, b.toNat, by omega, by omega⟩
    obtain ⟨a, b, rfl, rfl⟩ := hw
    have hp : spot2 c pa f a b := by unfold spot2; omega
    rw [s_drop, b1_s]
    have od : zOff (fun k j => k = 70 ∧ j = 15) z (zPut z 70 15 0) := off_put ⟨rfl, rfl⟩
    have vd : (zPut z 70 15 0).1 70 15 = 0 := by (simp only [zp1, zr1, zf1, Nat.reduceEqDiff, Nat.reduceBEq, reduceIte, if_true, if_false, and_true, true_and, and_false, false_and, gtN])
    generalize zPut z 70 15 0 = z1 at od vd ⊢
    have g1 : Gr c z1 := Gr_off od (fun k j h => by unfold pS at h; omega) g
    have eq1 : eqS z z1 := fun k hk => funext fun j => od.2 k j (by omega)
    have c1 : PC c m nC nN nS nI nO z1 := ⟨NJ_o hc.n od (fun k j h => by unfold pN at h; omega), PK_o hc.k od (by omega), by
      rw [od.2 67 4 (by omega), hc.l]
      exact (lam_c hc.n (fun x _ => by rw [od.2 69 x (by omega)]) eq1 nN (Nat.le_refl _)).symm⟩
    (refine ok_gd (by omega) ?_); (refine ok_gd (by omega) ?_)
    rw [← Int.natCast_add, ← Int.natCast_add]
    refine ok_b1 _ (s_swC (d := d) g1 c1 eq1 hp) fun s ⟨o, k, x⟩ => ?_
    have oz : zOff (fun k j => pEx k j ∨ (k = 70 ∧ j = 15)) z s := off_t (off_w od fun k j x => Or.inr x) (off_w o fun k j x => Or.inl x)
    refine ok_so ⟨oz.2 94 4 (by unfold pEx; omega), oz.2 94 6 (by unfold pEx; omega), ?_⟩
    show zOk (q_Model_swap_j15 E (kL c) pa (a : Int) (b : Int) d (cnt : Int) s) _
    have m106 : s.1 94 106 = 1 := by rw [oz.2 94 106 (by unfold pEx; omega)]; exact h1
    unfold q_Model_swap_j15
    (refine ok_neg (by omega) ?_); (refine ok_neg (by omega) ?_); (refine ok_neg (by omega) ?_); (refine ok_neg (by omega) ?_); (refine ok_pos (by omega) ?_); (refine ok_ll ?_)
    have ou : zOff (fun k j => k = 94 ∧ j = 77) s (zPut s 94 77 0) := off_put ⟨rfl, rfl⟩
    have vu : (zPut s 94 77 0).1 94 77 = 0 := by (simp only [zp1, zr1, zf1, Nat.reduceEqDiff, Nat.reduceBEq, reduceIte, if_true, if_false, and_true, true_and, and_false, false_and, gtN])
    generalize zPut s 94 77 0 = u at ou vu ⊢
    have ozu : zOff (fun k j => (pEx k j ∨ (k = 70 ∧ j = 15)) ∨ (k = 94 ∧ j = 77)) z u := off_t (off_w oz fun k j x => Or.inl x) (off_w ou fun k j x => Or.inr x)
    have gu : Gr c u := Gr_off ozu (fun k j h => by unfold pS at h; unfold pEx; omega) g
    have nu : NJ c m nC nN nS nI nO u := NJ_o hc.n ozu (fun k j h => by unfold pN at h; unfold pEx; omega)
    have equ : eqS z u := fun k hk => funext fun j => ozu.2 k j (by unfold pEx; omega)
    have tu : PM c (z1.1 68) u := by
      rw [show z1.1 68 = z.1 68 from funext fun j => od.2 68 j (by omega)]
      exact PM_o ht ozu (fun k j x => by unfold pEx at x; omega)
    refine ok_b1 _ (s_swR gu nu equ tu hp hd x) fun q ⟨oq, tq⟩ => ?_
    have osq : zOff (fun k j => pSp k j ∨ (k = 94 ∧ j = 77)) s q := off_t (off_w ou fun k j x => Or.inr x) (off_w oq fun k j x => Or.inl x)
    have gq : Gr c q := Gr_off oq (fun k j h => by unfold pS at h; unfold pSp; omega) gu
    have nq : NJ c m nC nN nS nI nO q := NJ_o nu oq (fun k j h => by unfold pN at h; unfold pSp; omega)
    have kq : PZ c nC nI nO q := PK_o k.k osq (fun k j x => by unfold pSp at x; omega)
    have tq' : PM c (q.1 68) q := by rw [show q.1 68 = s.1 68 from funext fun j => osq.2 68 j (by unfold pSp; omega)]; exact tq
    refine ok_b2 _ (s_lenM gq nq kq tq') fun v r ⟨e1, o1⟩ => ?_
    have o1 : zOff pPt q r := o1
    have osr : zOff (fun k j => pSp k j ∨ (k = 94 ∧ j = 77)) s r := off_t osq (off_w o1 fun k j x => by unfold pPt at x; unfold pSp; omega)
    obtain ⟨fin1, fin2⟩ := pl_end oz osr h0 h1 h5 k (PM_o tq o1 (fun k j x => by unfold pPt at x; omega))
    refine ok_so ⟨?_, fin1, fin2, Or.inr ⟨?_, ?_⟩⟩
    · show s.1 67 4 = v
      rw [k.l, show v = _ from e1]
      exact (lam_c k.n (fun x _ => by rw [osq.2 69 x (by unfold pSp; omega)]) (fun k hk => funext fun j => osq.2 k j (by unfold pSp; omega)) nN (Nat.le_refl _)).symm
    · show r.1 70 15 = 0
      rw [osr.2 70 15 (by unfold pSp; omega), o.2 70 15 (by unfold pEx; omega)]; exact vd
    · show r.1 94 77 = 0
      rw [o1.2 94 77 (by unfold pPt; omega), oq.2 94 77 (by unfold pSp; omega)]; exact vu
  unfold q_Face_swap q_Face_swap_j15 q_Model_swap
  rcases hpa with e | e
  · (refine ok_pos (by omega) ?_); (refine ok_pos (by omega) ?_)
    rw [o4]
    refine ok_w (main 0 (kN c) (Or.inl ⟨e, rfl, rfl⟩)) fun r ⟨r1, r2, hr⟩ => ?_
    rw [r1, m4, if_pos e]; exact hr
  · (refine ok_neg (by omega) ?_); (refine ok_neg (by omega) ?_)
    rw [o5, o4]
    refine ok_w (main (kN c) (kD c) (Or.inr ⟨e, rfl, rfl⟩)) fun r ⟨r1, r2, hr⟩ => ?_
    rw [r2, m6, if_neg (by omega)]; exact hr
end
-- P6
section
variable {E : gEv} {c : gCf}
def cnA (coin : Int) (s cnt : Nat) : Nat := (zAnd (zUshr coin (s : Int)) 255).toNat % cnt
/-- one coin -/
def cnR (c : gCf) (z : gZ) (nC nI nO nN : Nat) (coin : Int) (y y' : Nat → Int) : Prop := if zAnd coin 1 = 1 then stY c z nC nI nO nN (kN c) (cnA coin 1 (kD c)) (cnA coin 9 (kD c)) (zAnd (zUshr coin 17) 7) y y' else stY c z nC nI nO nN 0 (cnA coin 1 (kN c)) (cnA coin 9 (kN c)) (zAnd (zUshr coin 17) 7) y y'
def cnN (coin : Int) : Int := zWr ((coin * 1103515245) + 12345)
def shR (c : gCf) (z : gZ) (nC nI nO nN : Nat) : Nat → Int → (Nat → Int) → (Nat → Int) → Prop
  | 0, _, y, y' => y' = y
  | n + 1, coin, y, y' => ∃ y1, cnR c z nC nI nO nN coin y y1 ∧ shR c z nC nI nO nN n (cnN coin) y1 y'
theorem cn_rem (coin : Int) (s cnt : Nat) (h : 1 ≤ cnt ∧ cnt ≤ 48) : zRem (zAnd (zUshr coin (s : Int)) 255) (cnt : Int) = (cnA coin s cnt : Int) ∧ cnA coin s cnt < cnt := by
  have h1 := n_and255 (zUshr coin (s : Int))
  have h2 := zRem_n (zAnd (zUshr coin (s : Int)) 255).toNat cnt (by omega) (by omega)
  rw [show (((zAnd (zUshr coin (s : Int)) 255).toNat : Nat) : Int) = zAnd (zUshr coin (s : Int)) 255 by omega] at h2
  exact ⟨h2, Nat.mod_lt _ (by omega)⟩
theorem s_coinC {m nC nN nS nI nO : Nat} {coin : Int} {z0 z : gZ} (g : Gr c z) (h : PC c m nC nN nS nI nO z) (hz : eqS z0 z) : zOk (q_Placing_throwCoin E (kL c) coin z) (fun s => zOff pEx z s ∧ PC c m nC nN nS nI nO s ∧ cnR c z0 nC nI nO nN coin (z.1 68) (s.1 68)) := by
  have hN := kN_b g.1
  have hD := kD_b g.1
  have o4 : z.1 1 4 = kN c := g.2.1.2.2.2.2.1
  have o5 : z.1 1 5 = kD c := g.2.1.2.2.2.2.2.1
  unfold q_Placing_throwCoin cnR
  refine ok_br (fun e => ?_) fun e => ?_
  · simp only [if_pos e]
    unfold q_Placing_throwCoin_j12 q_Placing_throwCoin_j28 q_Placing_throwCoin_j50
    (refine ok_neg (by omega) ?_); (refine ok_neg (by omega) ?_)
    rw [o4, o5]
    obtain ⟨r1, r2⟩ := cn_rem coin 1 (kD c) (by omega)
    obtain ⟨q1, q2⟩ := cn_rem coin 9 (kD c) (by omega)
    have r1 : zRem (zAnd (zUshr coin 1) 255) (kD c : Int) = _ := r1
    have q1 : zRem (zAnd (zUshr coin 9) 255) (kD c : Int) = _ := q1
    (refine ok_gd (by omega) ?_)
    rw [ok_l, r1]
    (refine ok_gd (by omega) ?_)
    rw [ok_l, q1]
    (refine ok_gd (by omega) ?_); (refine ok_gd (by omega) ?_)
    rw [← Int.natCast_add, ← Int.natCast_add]
    exact ok_b1 _ (s_swC (d := zAnd (zUshr coin 17) 7) g h hz (pa := 1) (Or.inr ⟨rfl, r2, q2, rfl⟩)) fun s hs => ok_so hs
  · simp only [if_neg e]
    unfold q_Placing_throwCoin_j12 q_Placing_throwCoin_j28 q_Placing_throwCoin_j50
    (refine ok_pos (by omega) ?_); (refine ok_pos (by omega) ?_)
    rw [o4]
    obtain ⟨r1, r2⟩ := cn_rem coin 1 (kN c) (by omega)
    obtain ⟨q1, q2⟩ := cn_rem coin 9 (kN c) (by omega)
    have r1 : zRem (zAnd (zUshr coin 1) 255) (kN c : Int) = _ := r1
    have q1 : zRem (zAnd (zUshr coin 9) 255) (kN c : Int) = _ := q1
    (refine ok_gd (by omega) ?_)
    rw [ok_l, r1]
    (refine ok_gd (by omega) ?_)
    rw [ok_l, q1]
    (refine ok_gd (by omega) ?_); (refine ok_gd (by omega) ?_)
    rw [show (0 : Int) + (cnA coin 1 (kN c) : Int) = ((0 + cnA coin 1 (kN c) : Nat) : Int) by omega, show (0 : Int) + (cnA coin 9 (kN c) : Int) = ((0 + cnA coin 9 (kN c) : Nat) : Int) by omega]
    exact ok_b1 _ (s_swC (d := zAnd (zUshr coin 17) 7) g h hz (pa := 0) (Or.inl ⟨rfl, r2, q2, rfl⟩)) fun s hs => ok_so hs
def shE (i : Nat) (t : Int × gZ) : Int × Int × gZ := (t.1, (i : Int), t.2)
theorem s_shakeC {m nC nN nS nI nO n : Nat} {coin : Int} {z : gZ} (g : Gr c z) (h : PC c m nC nN nS nI nO z) (hn : n ≤ 1000) : zOk (gIter (fun y => q_Face_shake_36 E (kL c) (n : Int) y.1 y.2.1 y.2.2) gN (coin, 0, z)) (fun s => zOff pEx z s ∧ PC c m nC nN nS nI nO s ∧ shR c z nC nI nO nN n coin (z.1 68) (s.1 68) ∧ (n = 0 → s = z)) := by
  refine it_for shE (fun i t => zOff pEx z t.2 ∧ PC c m nC nN nS nI nO t.2 ∧ (i = 0 → t.2 = z) ∧ ∀ y', shR c z nC nI nO nN (n - i) t.1 (t.2.1 68) y' → shR c z nC nI nO nN n coin (z.1 68) y') 0 n (t := (coin, z)) rfl ⟨off_r, h, fun _ => rfl, fun y' hy => hy⟩ (by omega) (by omega) ?_ ?_
  · rintro i ⟨cn, t⟩ _ hi ⟨k1, k2, -, k3⟩
    have k1 : zOff pEx z t := k1
    have gt : Gr c t := Gr_off k1 (fun k j h => by unfold pS at h; unfold pEx; omega) g
    show zOk (q_Face_shake_36 E (kL c) (n : Int) cn (i : Int) t) _
    unfold q_Face_shake_36
    (refine ok_neg (by omega) ?_)
    refine ok_b1 _ (s_coinC (coin := cn) (z0 := z) gt k2 (fun k hk => funext fun j => k1.2 k j (by unfold pEx; omega))) fun s ⟨o, p, r⟩ => ?_
    (refine ok_ll ?_); (refine ok_ll ?_)
    refine ok_inl (Or.inl ⟨(cnN cn, s), rfl, off_t k1 o, p, fun x => by omega, fun y' hy => k3 y' ?_⟩)
    rw [show n - i = (n - (i + 1)) + 1 by omega]
    exact ⟨s.1 68, r, hy⟩
  · rintro ⟨cn, t⟩ ⟨k1, k2, k4, k3⟩
    show zOk (q_Face_shake_36 E (kL c) (n : Int) cn (n : Int) t) _
    unfold q_Face_shake_36
    (refine ok_pos (by omega) ?_)
    refine ok_inr ⟨t, rfl, k1, k2, k3 _ ?_, k4⟩
    rw [Nat.sub_self]; rfl
theorem s_shakeM {m nC nN nS nI nO n : Nat} {coin : Int} {z0 u : gZ} {y y' : Nat → Int} (g : Gr c u) (h : NJ c m nC nN nS nI nO u) (hz : eqS z0 u) (t : PM c y u) (hn : n ≤ 1000) (hR : shR c z0 nC nI nO nN n coin y y') : zOk (gIter (fun y => q_Model_shake_25 E (kL c) (n : Int) y.1 y.2.1 y.2.2) gN (coin, 0, u)) (fun q => zOff (fun k j => pSp k j ∨ (k = 94 ∧ j = 77)) u q ∧ PM c y' q ∧ (0 < n → q.1 94 77 = 0) ∧ (n = 0 → q = u)) := by
  have hN := kN_b g.1
  have hD := kD_b g.1
  refine it_for shE (fun i t => zOff (fun k j => pSp k j ∨ (k = 94 ∧ j = 77)) u t.2 ∧ ((0 < i → t.2.1 94 77 = 0) ∧ (i = 0 → t.2 = u)) ∧ ∃ y1, PM c y1 t.2 ∧ shR c z0 nC nI nO nN (n - i) t.1 y1 y') 0 n (t := (coin, u)) rfl ⟨off_r, ⟨fun x => by omega, fun _ => rfl⟩, y, t, hR⟩ (by omega) (by omega) ?_ ?_
  · rintro i ⟨cn, v⟩ _ hi ⟨k1, -, y1, k2, k3⟩
    have k1 : zOff (fun k j => pSp k j ∨ (k = 94 ∧ j = 77)) u v := k1
    have k2 : PM c y1 v := k2
    rw [show n - i = (n - (i + 1)) + 1 by omega] at k3
    obtain ⟨y2, r1, r2⟩ := k3
    have r1 : cnR c z0 nC nI nO nN cn y1 y2 := r1
    show zOk (q_Model_shake_25 E (kL c) (n : Int) cn (i : Int) v) _
    unfold q_Model_shake_25
    (refine ok_neg (by omega) ?_); (refine ok_ll ?_)
    have ov : zOff (fun k j => k = 94 ∧ j = 77) v (zPut v 94 77 0) := off_put ⟨rfl, rfl⟩
    have vv : (zPut v 94 77 0).1 94 77 = 0 := by (simp only [zp1, zr1, zf1, Nat.reduceEqDiff, Nat.reduceBEq, reduceIte, if_true, if_false, and_true, true_and, and_false, false_and, gtN])
    generalize zPut v 94 77 0 = v1 at ov vv ⊢
    have o1 : zOff (fun k j => pSp k j ∨ (k = 94 ∧ j = 77)) u v1 := off_t k1 (off_w ov fun k j x => Or.inr x)
    have g1 : Gr c v1 := Gr_off o1 (fun k j h => by unfold pS at h; unfold pSp; omega) g
    have n1 : NJ c m nC nN nS nI nO v1 := NJ_o h o1 (fun k j h => by unfold pN at h; unfold pSp; omega)
    have e1 : eqS z0 v1 := fun k hk => (funext fun j => o1.2 k j (by unfold pSp; omega)).trans (hz k hk)
    have t1 : PM c y1 v1 := PM_o k2 ov (by omega)
    have m4 : v1.1 94 4 = kN c := g1.2.2.1.2.2.2.2.1
    have m6 : v1.1 94 6 = kD c := g1.2.2.1.2.2.2.2.2.2.1
    have go : ∀ (pa : Int) (f cnt : Nat), (1 ≤ cnt ∧ cnt ≤ 48) → ((pa = 0 ∧ f = 0 ∧ cnt = kN c) ∨ (pa = 1 ∧ f = kN c ∧ cnt = kD c)) → stY c z0 nC nI nO nN f (cnA cn 1 cnt) (cnA cn 9 cnt) (zAnd (zUshr cn 17) 7) y1 y2 → zOk (q_Model_shake_j66_25 E (kL c) (n : Int) cn (i : Int) pa (cnt : Int) v1) (fun r => (∃ t', r = Sum.inl (shE (i + 1) t') ∧ zOff (fun k j => pSp k j ∨ (k = 94 ∧ j = 77)) u t'.2 ∧ ((0 < i + 1 → t'.2.1 94 77 = 0) ∧ (i + 1 = 0 → t'.2 = u)) ∧ ∃ y1, PM c y1 t'.2 ∧ shR c z0 nC nI nO nN (n - (i + 1)) t'.1 y1 y') ∨ ∃ e, r = Sum.inr e ∧ zOff (fun k j => pSp k j ∨ (k = 94 ∧ j = 77)) u e ∧ PM c y' e ∧ (0 < n → e.1 94 77 = 0) ∧ (n = 0 → e = u)) := fun pa f cnt hc hf hR => by
      unfold q_Model_shake_j66_25
      obtain ⟨r1, r2'⟩ := cn_rem cn 1 cnt hc
      obtain ⟨q1, q2'⟩ := cn_rem cn 9 cnt hc
      have r1 : zRem (zAnd (zUshr cn 1) 255) (cnt : Int) = _ := r1
      have q1 : zRem (zAnd (zUshr cn 9) 255) (cnt : Int) = _ := q1
      (refine ok_gd (by omega) ?_); (refine ok_gd (by omega) ?_)
      rw [r1, q1]
      refine ok_b1 _ (s_swR g1 n1 e1 t1 (pa := pa) (f := f) (by unfold spot2; omega) (zAnd_r _ _) hR) fun q ⟨oq, tq⟩ => ?_
      (refine ok_ll ?_); (refine ok_gd (by omega) ?_); (refine ok_ll ?_)
      refine ok_inl (Or.inl ⟨(cnN cn, q), rfl, off_t o1 (off_w oq fun k j x => Or.inl x), ⟨fun _ => ?_, fun x => by omega⟩, y2, tq, r2⟩)
      show q.1 94 77 = 0
      rw [oq.2 94 77 (by unfold pSp; omega)]; exact vv
    unfold cnR at r1
    refine ok_br (fun e => ?_) fun e => ?_
    · rw [if_pos e] at r1
      unfold q_Model_shake_j48_25
      (refine ok_neg (by omega) ?_)
      rw [m6]
      exact go 1 (kN c) (kD c) (by omega) (Or.inr ⟨rfl, rfl, rfl⟩) r1
    · rw [if_neg e] at r1
      unfold q_Model_shake_j48_25
      (refine ok_pos (by omega) ?_)
      rw [m4]
      exact go 0 0 (kN c) (by omega) (Or.inl ⟨rfl, rfl, rfl⟩) r1
  · rintro ⟨cn, v⟩ ⟨k1, k0, y1, k2, k3⟩
    show zOk (q_Model_shake_25 E (kL c) (n : Int) cn (n : Int) v) _
    unfold q_Model_shake_25
    (refine ok_pos (by omega) ?_)
    rw [Nat.sub_self] at k3
    have k3 : y' = y1 := k3
    rw [k3]
    exact ok_inr ⟨v, rfl, k1, k2, k0.1, k0.2⟩
theorem l_shake {z : gZ} (g : Gr c z) (h : iPla c z) (a b : Int) : zOk (q_Face_shake E (kL c) a b z) (fun r => zOk (q_Model_shake E (kL c) a b r.2) (fun q => r.1 = q.1 ∧ iPla c q.2 ∧ zOff pPa z q.2 ∧ (zOff pPt z q.2 ∨ (q.2.1 70 15 = 0 ∧ q.2.1 94 77 = 0)))) := by
  have keep : (z.1 94 106 = 0 ∨ b < 0 ∨ 1000 < b) → zOk (some ((-1 : Int), z)) (fun r => zOk (q_Model_shake E (kL c) a b r.2) (fun q => r.1 = q.1 ∧ iPla c q.2 ∧ zOff pPa z q.2 ∧ (zOff pPt z q.2 ∨ (q.2.1 70 15 = 0 ∧ q.2.1 94 77 = 0)))) := fun n => by
    refine ok_so ?_
    show zOk (q_Model_shake E (kL c) a b z) _
    unfold q_Model_shake
    have fin : zOk (some ((-1 : Int), z)) (fun q => (-1 : Int) = q.1 ∧ iPla c q.2 ∧ zOff pPa z q.2 ∧ (zOff pPt z q.2 ∨ (q.2.1 70 15 = 0 ∧ q.2.1 94 77 = 0))) := ok_so ⟨rfl, h, off_r, Or.inl off_r⟩
    refine ok_br (fun _ => fin) fun e1 => ok_br (fun _ => fin) fun e2 => ?_
    exact ok_neg (by omega) fin
  unfold q_Face_shake
  refine ok_br (fun e => keep ?_) fun e => ?_
  · rcases h with h | h
    · exact Or.inl h.2.1
    · have := h.1; omega
  refine ok_br (fun e => keep (by omega)) fun e1 => ok_br (fun e2 => ?_) fun e => keep (by omega)
  rcases h with h | ⟨h0, h1, m, nC, nN, nS, nI, nO, hc, ht, h5⟩
  · exact absurd h.1 e
  have hw : ∃ n : Nat, b = n ∧ n ≤ 1000 := ⟨b.toNat, by omega, by omega⟩
  obtain ⟨n, rfl, hn⟩ := hw
  have main : ∀ z1 : gZ, zOff (fun k j => k = 70 ∧ j = 15) z z1 → ((n = 0 ∧ z1 = z) ∨ (0 < n ∧ z1.1 70 15 = 0)) → zOk (q_Face_shake_j31 E (kL c) a (n : Int) z1) (fun r => zOk (q_Model_shake E (kL c) a (n : Int) r.2) (fun q => r.1 = q.1 ∧ iPla c q.2 ∧ zOff pPa z q.2 ∧ (zOff pPt z q.2 ∨ (q.2.1 70 15 = 0 ∧ q.2.1 94 77 = 0)))) := fun z1 od vd => by
    have g1 : Gr c z1 := Gr_off od (fun k j h => by unfold pS at h; omega) g
    have eq1 : eqS z z1 := fun k hk => funext fun j => od.2 k j (by omega)
    have c1 : PC c m nC nN nS nI nO z1 := ⟨NJ_o hc.n od (fun k j h => by unfold pN at h; omega), PK_o hc.k od (by omega), by
      rw [od.2 67 4 (by omega), hc.l]
      exact (lam_c hc.n (fun x _ => by rw [od.2 69 x (by omega)]) eq1 nN (Nat.le_refl _)).symm⟩
    unfold q_Face_shake_j31
    refine ok_b1 _ (s_shakeC (coin := a) g1 c1 hn) fun s ⟨o, k, x, s0⟩ => ?_
    refine ok_so ?_
    show zOk (q_Model_shake E (kL c) a (n : Int) s) _
    have oz : zOff (fun k j => pEx k j ∨ (k = 70 ∧ j = 15)) z s := off_t (off_w od fun k j x => Or.inr x) (off_w o fun k j x => Or.inl x)
    have m106 : s.1 94 106 = 1 := by rw [oz.2 94 106 (by unfold pEx; omega)]; exact h1
    have gs : Gr c s := Gr_off oz (fun k j h => by unfold pS at h; unfold pEx; omega) g
    have eqs : eqS z1 s := fun k hk => funext fun j => o.2 k j (by unfold pEx; omega)
    have tu : PM c (z1.1 68) s := by
      rw [show z1.1 68 = z.1 68 from funext fun j => od.2 68 j (by omega)]
      exact PM_o ht oz (fun k j x => by unfold pEx at x; omega)
    unfold q_Model_shake
    (refine ok_neg (by omega) ?_); (refine ok_neg (by omega) ?_); (refine ok_pos (by omega) ?_)
    refine ok_b1 _ (s_shakeM gs k.n eqs tu hn x) fun q ⟨osq, tq, q77, q0⟩ => ?_
    have gq : Gr c q := Gr_off osq (fun k j h => by unfold pS at h; unfold pSp; omega) gs
    have nq : NJ c m nC nN nS nI nO q := NJ_o k.n osq (fun k j h => by unfold pN at h; unfold pSp; omega)
    have kq : PZ c nC nI nO q := PK_o k.k osq (fun k j x => by unfold pSp at x; omega)
    have tq' : PM c (q.1 68) q := by rw [show q.1 68 = s.1 68 from funext fun j => osq.2 68 j (by unfold pSp; omega)]; exact tq
    refine ok_b2 _ (s_lenM gq nq kq tq') fun v r ⟨e1, o1⟩ => ?_
    have o1 : zOff pPt q r := o1
    have osr : zOff (fun k j => pSp k j ∨ (k = 94 ∧ j = 77)) s r := off_t osq (off_w o1 fun k j x => by unfold pPt at x; unfold pSp; omega)
    obtain ⟨fin1, fin2⟩ := pl_end oz osr h0 h1 h5 k (PM_o tq o1 (fun k j x => by unfold pPt at x; omega))
    refine ok_so ⟨?_, fin1, fin2, ?_⟩
    · show s.1 67 4 = v
      rw [k.l, show v = _ from e1]
      exact (lam_c k.n (fun x _ => by rw [osq.2 69 x (by unfold pSp; omega)]) (fun k hk => funext fun j => osq.2 k j (by unfold pSp; omega)) nN (Nat.le_refl _)).symm
    · rcases vd with ⟨v0, v1⟩ | ⟨v0, v1⟩
      · left
        rw [q0 v0, s0 v0, v1] at o1
        exact o1
      · right
        refine ⟨?_, ?_⟩
        · show r.1 70 15 = 0
          rw [osr.2 70 15 (by unfold pSp; omega), o.2 70 15 (by unfold pEx; omega)]; exact v1
        · show r.1 94 77 = 0
          rw [o1.2 94 77 (by unfold pPt; omega)]; exact q77 v0
  refine ok_br (fun e3 => ?_) fun e3 => ?_
  · exact main z off_r (Or.inl ⟨by omega, rfl⟩)
  · rw [s_drop, b1_s]
    exact main _ (off_put ⟨rfl, rfl⟩) (Or.inr ⟨by omega, by (simp only [zp1, zr1, zf1, Nat.reduceEqDiff, Nat.reduceBEq, reduceIte, if_true, if_false, and_true, true_and, and_false, false_and, gtN])⟩)
end
