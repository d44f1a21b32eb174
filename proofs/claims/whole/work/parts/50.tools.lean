set_option linter.unusedVariables false
-- B
section
theorem it_step {σ ε : Type} {f : σ → Option (σ ⊕ ε)} {n : Nat} {s s' : σ} (h : f s = some (.inl s')) : gIter f (n + 1) s = gIter f n s' := by
  rw [gIter, h]
theorem it_end {σ ε : Type} {f : σ → Option (σ ⊕ ε)} {n : Nat} {s : σ} {e : ε} (h : f s = some (.inr e)) : gIter f (n + 1) s = some e := by
  rw [gIter, h]
/-- a run along a given sequence of states -/
theorem it_seq {σ ε : Type} {f : σ → Option (σ ⊕ ε)} (S : Nat → σ) (N : Nat) {e : ε} (h : ∀ i, i < N → f (S i) = some (.inl (S (i + 1)))) (he : f (S N) = some (.inr e)) : ∀ (n i : Nat), N < n + i → i ≤ N → gIter f n (S i) = some e := by
  intro n
  induction n with
  | zero => intro i h1 h2; omega
  | succ n ih =>
    intro i h1 h2
    by_cases hi : i = N
    · subst hi; exact it_end he
    · rw [it_step (h i (by omega))]; exact ih (i + 1) (by omega) (by omega)
theorem it_run {σ ε : Type} {f : σ → Option (σ ⊕ ε)} (S : Nat → σ) (N : Nat) {e : ε} {s : σ} (h0 : S 0 = s) (h : ∀ i, i < N → f (S i) = some (.inl (S (i + 1)))) (he : f (S N) = some (.inr e)) (hN : N < 1000000000) : gIter f gN s = some e := by
  rw [← h0]; exact it_seq S N h he gN 0 (by unfold gN; omega) (by omega)
/-- a run that keeps a property, while a measure sinks -/
theorem it_inv0 {σ ε : Type} {f : σ → Option (σ ⊕ ε)} (I : σ → Prop) (Q : ε → Prop) (m : σ → Nat) (h : ∀ s, I s → (∃ s', f s = some (.inl s') ∧ I s' ∧ m s' < m s) ∨ (∃ e, f s = some (.inr e) ∧ Q e)) : ∀ (n : Nat) (s : σ), I s → m s < n → ∃ e, gIter f n s = some e ∧ Q e := by
  intro n
  induction n with
  | zero => intro s _ h; omega
  | succ n ih =>
    intro s hs hm
    rcases h s hs with ⟨s', h1, h2, h3⟩ | ⟨e, h1, h2⟩
    · rw [it_step h1]; exact ih s' h2 (by omega)
    · exact ⟨e, it_end h1, h2⟩
theorem it_inv {σ ε : Type} {f : σ → Option (σ ⊕ ε)} (I : σ → Prop) (Q : ε → Prop) (m : σ → Nat) {s : σ} (hs : I s) (hm : m s < 1000000000000000000000000000000000000000) (h : ∀ s, I s → (∃ s', f s = some (.inl s') ∧ I s' ∧ m s' < m s) ∨ (∃ e, f s = some (.inr e) ∧ Q e)) : ∃ e, gIter f gN s = some e ∧ Q e :=
  it_inv0 I Q m h gN s hs (by unfold gN; omega)
theorem zp1 (z : gZ) (k j : Nat) (v : Int) (k' j' : Nat) : (zPut z k j v).1 k' j' = if k' = k then (if j' = j then v else z.1 k' j') else z.1 k' j' := rfl
theorem zp2 (z : gZ) (k j : Nat) (v : Int) : (zPut z k j v).2 = z.2 := rfl
theorem zr1 (z : gZ) (k : Nat) (f : Nat → Int) (k' j' : Nat) : (zRow z k f).1 k' j' = if k' = k then f j' else z.1 k' j' := by
  show (if k' = k then f else z.1 k') j' = _
  split <;> rfl
theorem zr2 (z : gZ) (k : Nat) (f : Nat → Int) : (zRow z k f).2 = z.2 := rfl
theorem zp_row (z : gZ) (k j : Nat) (v : Int) : zPut z k j v = zRow z k (fun i => if i = j then v else z.1 k i) := by
  refine Prod.ext (funext fun k' => funext fun j' => ?_) rfl
  rw [zp1, zr1]
  by_cases h : k' = k
  · subst h; rfl
  · rw [if_neg h, if_neg h]
theorem zr_row (z : gZ) (k : Nat) (f g : Nat → Int) : zRow (zRow z k f) k g = zRow z k g := by
  refine Prod.ext (funext fun k' => funext fun j' => ?_) rfl
  rw [zr1, zr1, zr1]
  by_cases h : k' = k <;> simp [h]
theorem zr_self (z : gZ) (k : Nat) : zRow z k (z.1 k) = z := by
  refine Prod.ext (funext fun k' => funext fun j' => ?_) rfl
  rw [zr1]
  by_cases h : k' = k <;> simp [h]
theorem zr_congr {z : gZ} {k : Nat} {f g : Nat → Int} (h : ∀ j, f j = g j) : zRow z k f = zRow z k g := by rw [funext h]
/-- row k filled below i -/
def zFill (z : gZ) (k : Nat) (g : Nat → Int) (i : Nat) : gZ := zRow z k (fun j => if j < i then g j else z.1 k j)
theorem zf_0 (z : gZ) (k : Nat) (g : Nat → Int) : zFill z k g 0 = z := by
  unfold zFill
  have : (fun j => if j < 0 then g j else z.1 k j) = z.1 k := by funext j; simp
  rw [this, zr_self]
theorem zf_put (z : gZ) (k : Nat) (g : Nat → Int) (i : Nat) (v : Int) (h : v = g i) : zPut (zFill z k g i) k i v = zFill z k g (i + 1) := by
  subst h
  rw [zp_row]; unfold zFill; rw [zr_row]
  apply zr_congr; intro j
  rw [zr1]; simp only [if_true]
  by_cases h1 : j = i
  · subst h1; simp
  · by_cases h2 : j < i
    · simp [h1, h2, Nat.lt_succ_of_lt h2]
    · have : ¬ j < i + 1 := by omega
      simp [h1, h2, this]
theorem zf1 (z : gZ) (k : Nat) (g : Nat → Int) (i k' j' : Nat) : (zFill z k g i).1 k' j' = if k' = k then (if j' < i then g j' else z.1 k j') else z.1 k' j' := by
  unfold zFill; rw [zr1]
theorem zf_ne (z : gZ) (k : Nat) (g : Nat → Int) (i k' : Nat) (h : k' ≠ k) : (zFill z k g i).1 k' = z.1 k' := by
  funext j; rw [zf1, if_neg h]
theorem zp_ne (z : gZ) (k j : Nat) (v : Int) (k' : Nat) (h : k' ≠ k) : (zPut z k j v).1 k' = z.1 k' := by
  funext j; rw [zp1, if_neg h]
theorem zr_ne (z : gZ) (k : Nat) (f : Nat → Int) (k' : Nat) (h : k' ≠ k) : (zRow z k f).1 k' = z.1 k' := by
  funext j; rw [zr1, if_neg h]
theorem zr_eq (z : gZ) (k : Nat) (f : Nat → Int) : (zRow z k f).1 k = f := by
  funext j; rw [zr1, if_pos rfl]
/-- for i = 0 .. N - 1 : row k at i becomes g i -/
theorem it_fill {ε : Type} {f : Int × gZ → Option ((Int × gZ) ⊕ ε)} {z : gZ} (k : Nat) (g : Nat → Int) (N : Nat) {e : ε} (hN : N < 1000000000)
    (h : ∀ i : Nat, i < N → f ((i : Int), zFill z k g i) = some (.inl ((i : Int) + 1, zPut (zFill z k g i) k i (g i)))) (he : f ((N : Int), zFill z k g N) = some (.inr e)) : gIter f gN (0, z) = some e := by
  refine it_run (fun i => ((i : Int), zFill z k g i)) N (by rw [zf_0]; rfl) (fun i hi => ?_) he hN
  rw [h i hi, zf_put _ _ _ _ _ rfl]; rfl
/-- an int result out of a loop without state: for i = a .. -/
theorem it_cnt {ε : Type} {f : Int → Option (Int ⊕ ε)} (a N : Nat) {e : ε} (hN : N < 1000000000) (ha : a ≤ N)
    (h : ∀ i : Nat, a ≤ i → i < N → f (i : Int) = some (.inl ((i : Int) + 1))) (he : f (N : Int) = some (.inr e)) : gIter f gN (a : Int) = some e := by
  refine it_run (fun i => ((a + i : Nat) : Int)) (N - a) (by simp) (fun i hi => ?_) ?_ (by omega)
  · rw [h (a + i) (by omega) (by omega)]; congr 2
  · rw [show a + (N - a) = N by omega]; exact he
theorem gtN (i : Nat) : ((i : Int)).toNat = i := Int.toNat_natCast i
/-- it ends, with a result of this kind -/
def zOk {α : Type} (o : Option α) (Q : α → Prop) : Prop := ∃ r, o = some r ∧ Q r
theorem ok_s {α : Type} (x : α) (Q : α → Prop) : zOk (some x) Q ↔ Q x := ⟨fun ⟨_, h, q⟩ => by cases h; exact q, fun h => ⟨x, rfl, h⟩⟩
theorem ok_n {α : Type} (Q : α → Prop) : zOk none Q ↔ False := ⟨fun ⟨_, h, _⟩ => (nomatch h), False.elim⟩
theorem ok_g {α : Type} {c : Prop} [Decidable c] (a : Option α) (Q : α → Prop) : zOk (if c then a else none) Q ↔ (c ∧ zOk a Q) := by
  by_cases h : c
  · rw [if_pos h]; exact ⟨fun x => ⟨h, x⟩, fun x => x.2⟩
  · rw [if_neg h, ok_n]; exact ⟨False.elim, fun x => h x.1⟩
theorem ok_i {α : Type} {c : Prop} [Decidable c] (a b : Option α) (Q : α → Prop) : zOk (if c then a else b) Q ↔ ((c → zOk a Q) ∧ (¬ c → zOk b Q)) := by
  by_cases h : c
  · rw [if_pos h]; exact ⟨fun x => ⟨fun _ => x, fun n => absurd h n⟩, fun x => x.1 h⟩
  · rw [if_neg h]; exact ⟨fun x => ⟨fun n => absurd n h, fun _ => x⟩, fun x => x.2 h⟩
theorem ok_l {α β : Type} (x : α) (f : α → Option β) (Q : β → Prop) : zOk (gLet x f) Q ↔ zOk (f x) Q := Iff.rfl
theorem ok_1 {α β : Type} (x : Option α) (f : α → Option β) (Q : β → Prop) : zOk (gB1 x f) Q ↔ zOk x (fun a => zOk (f a) Q) := by
  cases x with
  | none => exact ⟨fun ⟨_, h, _⟩ => (nomatch h), fun ⟨_, h, _⟩ => (nomatch h)⟩
  | some a => rw [ok_s]; exact Iff.rfl
theorem ok_2 {α β γ : Type} (x : Option (α × β)) (f : α → β → Option γ) (Q : γ → Prop) : zOk (gB2 x f) Q ↔ zOk x (fun a => zOk (f a.1 a.2) Q) := by
  cases x with
  | none => exact ⟨fun ⟨_, h, _⟩ => (nomatch h), fun ⟨_, h, _⟩ => (nomatch h)⟩
  | some a => rw [ok_s]; exact Iff.rfl
theorem ok_w {α : Type} {o : Option α} {P Q : α → Prop} (h : zOk o P) (k : ∀ x, P x → Q x) : zOk o Q := h.elim fun x ⟨a, b⟩ => ⟨x, a, k x b⟩
theorem ok_e {α : Type} {o : Option α} {x : α} {Q : α → Prop} (h : o = some x) (k : Q x) : zOk o Q := ⟨x, h, k⟩
theorem ok_is {α : Type} {o : Option α} {x : α} (h : zOk o (fun y => y = x)) : o = some x := h.elim fun y ⟨a, b⟩ => b ▸ a
theorem gs_l {α β γ : Type} (a : α) (f : α → γ) (g : β → γ) : gSum (.inl a) f g = f a := rfl
theorem gs_r {α β γ : Type} (a : β) (f : α → γ) (g : β → γ) : gSum (.inr a) f g = g a := rfl
theorem b1_s {α β : Type} (a : α) (f : α → Option β) : gB1 (some a) f = f a := rfl
theorem b2_s {α β γ : Type} (a : α × β) (f : α → β → Option γ) : gB2 (some a) f = f a.1 a.2 := rfl
theorem let_s {α β : Type} (a : α) (f : α → β) : gLet a f = f a := rfl
/-- for i = a .. N - 1, with exits -/
theorem it_for {σ τ ε : Type} {f : σ → Option (σ ⊕ ε)} (enc : Nat → τ → σ) (I : Nat → τ → Prop) (a N : Nat) {Q : ε → Prop} {s : σ} {t : τ} (hs : s = enc a t) (ht : I a t) (ha : a ≤ N) (hN : N < 1000000000)
    (h : ∀ i t, a ≤ i → i < N → I i t → zOk (f (enc i t)) (fun r => (∃ t', r = .inl (enc (i + 1) t') ∧ I (i + 1) t') ∨ ∃ e, r = .inr e ∧ Q e))
    (he : ∀ t, I N t → zOk (f (enc N t)) (fun r => ∃ e, r = .inr e ∧ Q e)) : zOk (gIter f gN s) Q := by
  subst hs
  have key : ∀ (n i : Nat) (t : τ), a ≤ i → i ≤ N → N < n + i → I i t → zOk (gIter f n (enc i t)) Q := by
    intro n
    induction n with
    | zero => intro i t h1 h2 h3 h4; omega
    | succ n ih =>
      intro i t h1 h2 h3 h4
      by_cases hi : i = N
      · subst hi
        obtain ⟨r, hr, e, he1, he2⟩ := he t h4
        subst he1
        exact ⟨e, it_end hr, he2⟩
      · obtain ⟨r, hr, hx⟩ := h i t h1 (by omega) h4
        rcases hx with ⟨t', h5, h6⟩ | ⟨e, h5, h6⟩
        · subst h5
          rw [it_step hr]
          exact ih (i + 1) t' (by omega) (by omega) (by omega) h6
        · subst h5
          exact ⟨e, it_end hr, h6⟩
  exact key gN a t (Nat.le_refl _) ha (by unfold gN; omega) ht
theorem ok_inl {σ ε : Type} {x : σ} {P : σ ⊕ ε → Prop} (h : P (.inl x)) : zOk (some (Sum.inl x : σ ⊕ ε)) P := ⟨_, rfl, h⟩
theorem ok_inr {σ ε : Type} {x : ε} {P : σ ⊕ ε → Prop} (h : P (.inr x)) : zOk (some (Sum.inr x : σ ⊕ ε)) P := ⟨_, rfl, h⟩
/-- a search: for i = a .. N - 1, the first that P holds of -/
theorem it_find {ε : Type} {f : Int → Option (Int ⊕ ε)} (P : Nat → Prop) (g : Nat → ε) (a N : Nat) {e : ε} {s : Int} (hs : s = (a : Int)) (ha : a ≤ N) (hN : N < 1000000000)
    (h1 : ∀ i : Nat, a ≤ i → i < N → ¬ P i → f (i : Int) = some (.inl ((i : Int) + 1))) (h2 : ∀ i : Nat, a ≤ i → i < N → P i → f (i : Int) = some (.inr (g i))) (he : f (N : Int) = some (.inr e)) :
    (∃ i, a ≤ i ∧ i < N ∧ P i ∧ (∀ j, a ≤ j → j < i → ¬ P j) ∧ gIter f gN s = some (g i)) ∨ ((∀ i, a ≤ i → i < N → ¬ P i) ∧ gIter f gN s = some e) := by
  subst hs
  have key : ∀ (n i : Nat), a ≤ i → i ≤ N → N < n + i → (∀ j, a ≤ j → j < i → ¬ P j) → (∃ i, a ≤ i ∧ i < N ∧ P i ∧ (∀ j, a ≤ j → j < i → ¬ P j) ∧ gIter f n (i : Int) = some (g i) ∧ True) ∨ True := fun _ _ _ _ _ _ => Or.inr trivial
  have key : ∀ (n i : Nat), a ≤ i → i ≤ N → N < n + i → (∀ j, a ≤ j → j < i → ¬ P j) → (∃ i', a ≤ i' ∧ i' < N ∧ P i' ∧ (∀ j, a ≤ j → j < i' → ¬ P j) ∧ gIter f n (i : Int) = some (g i')) ∨ ((∀ i, a ≤ i → i < N → ¬ P i) ∧ gIter f n (i : Int) = some e) := by
    intro n
    induction n with
    | zero => intro i _ _ _ _; omega
    | succ n ih =>
      intro i k1 k2 k3 k4
      by_cases hi : i = N
      · subst hi
        exact Or.inr ⟨k4, it_end he⟩
      · by_cases hp : P i
        · exact Or.inl ⟨i, k1, by omega, hp, k4, it_end (h2 i k1 (by omega) hp)⟩
        · rw [it_step (h1 i k1 (by omega) hp)]
          exact ih (i + 1) (by omega) (by omega) (by omega) fun j j1 j2 => by
            by_cases e : j = i
            · subst e; exact hp
            · exact k4 j j1 (by omega)
  exact key gN a (Nat.le_refl _) ha (by unfold gN; omega) fun j j1 j2 => by omega
/-- an accumulator: for i = a .. N - 1 -/
theorem it_acc {σ τ ε : Type} {f : σ → Option (σ ⊕ ε)} (enc : Nat → τ → σ) (S : Nat → τ) (a N : Nat) {e : ε} {s : σ} (hs : s = enc a (S a)) (ha : a ≤ N) (hN : N < 1000000000)
    (h : ∀ i : Nat, a ≤ i → i < N → f (enc i (S i)) = some (.inl (enc (i + 1) (S (i + 1))))) (he : f (enc N (S N)) = some (.inr e)) : gIter f gN s = some e := by
  refine it_run (fun i => enc (a + i) (S (a + i))) (N - a) hs.symm (fun i hi => h (a + i) (by omega) (by omega)) ?_ (by omega)
  rw [show a + (N - a) = N by omega]; exact he
end
-- K
section
abbrev gCf : Type := Nat × Nat × Nat × Nat
def kC (c : gCf) : Nat := c.1
def kR (c : gCf) : Nat := c.2.1
def kE (c : gCf) : Nat := c.2.2.1
def kT (c : gCf) : Nat := c.2.2.2
def kN (c : gCf) : Nat := kC c * kR c
def kD (c : gCf) : Nat := 4 * (kC c + kR c)
def kP (c : gCf) : Nat := kN c * kE c
def kF (c : gCf) : Nat := kC c * (kR c + 1) * kT c
def kW (c : gCf) : Nat := (kC c * (kR c + 1) + (kC c + 1) * kR c) * kT c
def kJ (c : gCf) : Nat := (kC c + 1) * (kR c + 1) * kT c * 6
def kX (c : gCf) : Nat := 42 + 4 * kT c
def kY (c : gCf) : Nat := kP c * kX c
def kZ (c : gCf) : Nat := kY c + kD c * (6 + kT c)
def kB (c : gCf) : Nat := kZ c + kJ c
def kH (c : gCf) : Nat := (kW c + 31) / 32
def kOk (c : gCf) : Prop := (1 ≤ kC c ∧ kC c ≤ 6) ∧ (1 ≤ kR c ∧ kR c ≤ 6) ∧ (1 ≤ kE c ∧ kE c ≤ 4) ∧ (1 ≤ kT c ∧ kT c ≤ 10)
def kL (c : gCf) : Nat → Nat
  | 0 => 12
  | 1 => 20
  | 2 => kN c + kD c
  | 3 => kN c + kD c
  | 4 => (kN c + kD c) * 4
  | 5 => kJ c
  | 6 => kJ c
  | 7 => kW c
  | 8 => kW c * 6
  | 9 => kW c * 6
  | 10 => 7
  | 11 => 4000
  | 12 => 20
  | 13 => 9
  | 14 => 150
  | 15 => 150
  | 16 => 1200
  | 17 => 150
  | 18 => 150
  | 19 => 1200
  | 20 => 150
  | 21 => 150
  | 22 => 18
  | 23 => 150
  | 24 => 150
  | 25 => 150
  | 26 => 150
  | 27 => 150
  | 28 => 9
  | 29 => kD c
  | 30 => 16
  | 31 => 150
  | 32 => 150
  | 33 => 150
  | 34 => 150
  | 35 => kP c * 4
  | 36 => kP c
  | 37 => kP c
  | 38 => kD c
  | 39 => kD c
  | 40 => 3
  | 41 => 5
  | 42 => 256
  | 43 => 256
  | 44 => 256
  | 45 => 256
  | 46 => 256
  | 47 => 5
  | 48 => 8
  | 49 => 8
  | 50 => 8
  | 51 => 8
  | 52 => 8
  | 53 => 18
  | 54 => 150
  | 55 => kP c
  | 56 => kP c
  | 57 => kP c
  | 58 => 400 + kP c
  | 59 => 400 + kP c
  | 60 => kD c + kP c
  | 61 => kD c + kP c
  | 62 => kD c + kP c + 1
  | 63 => kP c * 4 + kD c
  | 64 => kP c * 4 + kD c
  | 65 => kP c * 5
  | 66 => kD c + kP c
  | 67 => 5
  | 68 => kN c + kD c
  | 69 => kN c + 2 * kD c
  | 70 => 16
  | 71 => 3
  | 72 => kW c
  | 73 => kW c
  | 74 => (kD c + kP c) * kH c
  | 75 => kW c
  | 76 => kW c
  | 77 => kW c
  | 78 => kW c
  | 79 => kP c * 4 + kD c
  | 80 => kW c
  | 81 => 17
  | 82 => kB c
  | 83 => kD c
  | 84 => kP c
  | 85 => kP c
  | 86 => kP c
  | 87 => kW c
  | 88 => kW c
  | 89 => kW c
  | 90 => kP c
  | 91 => kP c * 4
  | 92 => kP c + 1
  | 93 => kP c * 4 * kT c
  | 94 => 107
  | 95 => 20
  | 96 => 4000
  | 97 => 2100
  | 98 => 2100
  | 99 => 150
  | 100 => 150
  | 101 => 150
  | 102 => 150
  | 103 => 150
  | 104 => 48
  | 105 => 48
  | 106 => 150
  | 107 => 150
  | 108 => 150
  | 109 => 150
  | 110 => 150
  | 111 => 1200
  | 112 => 150
  | 113 => 150
  | 114 => 38400
  | 115 => 150
  | 116 => 150
  | 117 => 20000
  | 118 => 5000
  | 119 => 150
  | 120 => 2560
  | 121 => 80
  | 122 => 10
  | 123 => 10
  | 124 => 10
  | 125 => 144
  | 126 => 576
  | 127 => 144
  | 128 => 150
  | 129 => 400
  | 130 => 401
  | 131 => 700
  | 132 => 700
  | 133 => 144
  | 134 => 144
  | 135 => 57600
  | 136 => 36
  | 137 => 48
  | 138 => 5040
  | 139 => 5040
  | 140 => 840
  | 141 => 336000
  | 142 => 336000
  | 143 => 400
  | 144 => 20000
  | 145 => 400
  | 146 => 840
  | 147 => 840
  | 148 => 840
  | 149 => 840
  | 150 => 840
  | 151 => 840
  | 152 => 841
  | 153 => 840
  | 154 => 15600
  | 155 => 144
  | 156 => 144
  | 157 => 144
  | 158 => 48
  | 159 => 840
  | 160 => 48
  | 161 => 150
  | 162 => 150
  | 163 => 150
  | 164 => 5000
  | _ => 0
theorem kL_0 (c : gCf) : kL c 0 = 12 := id rfl
theorem kL_1 (c : gCf) : kL c 1 = 20 := id rfl
theorem kL_2 (c : gCf) : kL c 2 = kN c + kD c := id rfl
theorem kL_3 (c : gCf) : kL c 3 = kN c + kD c := id rfl
theorem kL_4 (c : gCf) : kL c 4 = (kN c + kD c) * 4 := id rfl
theorem kL_5 (c : gCf) : kL c 5 = kJ c := id rfl
theorem kL_6 (c : gCf) : kL c 6 = kJ c := id rfl
theorem kL_7 (c : gCf) : kL c 7 = kW c := id rfl
theorem kL_8 (c : gCf) : kL c 8 = kW c * 6 := id rfl
theorem kL_9 (c : gCf) : kL c 9 = kW c * 6 := id rfl
theorem kL_10 (c : gCf) : kL c 10 = 7 := id rfl
theorem kL_11 (c : gCf) : kL c 11 = 4000 := id rfl
theorem kL_12 (c : gCf) : kL c 12 = 20 := id rfl
theorem kL_13 (c : gCf) : kL c 13 = 9 := id rfl
theorem kL_14 (c : gCf) : kL c 14 = 150 := id rfl
theorem kL_15 (c : gCf) : kL c 15 = 150 := id rfl
theorem kL_16 (c : gCf) : kL c 16 = 1200 := id rfl
theorem kL_17 (c : gCf) : kL c 17 = 150 := id rfl
theorem kL_18 (c : gCf) : kL c 18 = 150 := id rfl
theorem kL_19 (c : gCf) : kL c 19 = 1200 := id rfl
theorem kL_20 (c : gCf) : kL c 20 = 150 := id rfl
theorem kL_21 (c : gCf) : kL c 21 = 150 := id rfl
theorem kL_22 (c : gCf) : kL c 22 = 18 := id rfl
theorem kL_23 (c : gCf) : kL c 23 = 150 := id rfl
theorem kL_24 (c : gCf) : kL c 24 = 150 := id rfl
theorem kL_25 (c : gCf) : kL c 25 = 150 := id rfl
theorem kL_26 (c : gCf) : kL c 26 = 150 := id rfl
theorem kL_27 (c : gCf) : kL c 27 = 150 := id rfl
theorem kL_28 (c : gCf) : kL c 28 = 9 := id rfl
theorem kL_29 (c : gCf) : kL c 29 = kD c := id rfl
theorem kL_30 (c : gCf) : kL c 30 = 16 := id rfl
theorem kL_31 (c : gCf) : kL c 31 = 150 := id rfl
theorem kL_32 (c : gCf) : kL c 32 = 150 := id rfl
theorem kL_33 (c : gCf) : kL c 33 = 150 := id rfl
theorem kL_34 (c : gCf) : kL c 34 = 150 := id rfl
theorem kL_35 (c : gCf) : kL c 35 = kP c * 4 := id rfl
theorem kL_36 (c : gCf) : kL c 36 = kP c := id rfl
theorem kL_37 (c : gCf) : kL c 37 = kP c := id rfl
theorem kL_38 (c : gCf) : kL c 38 = kD c := id rfl
theorem kL_39 (c : gCf) : kL c 39 = kD c := id rfl
theorem kL_40 (c : gCf) : kL c 40 = 3 := id rfl
theorem kL_41 (c : gCf) : kL c 41 = 5 := id rfl
theorem kL_42 (c : gCf) : kL c 42 = 256 := id rfl
theorem kL_43 (c : gCf) : kL c 43 = 256 := id rfl
theorem kL_44 (c : gCf) : kL c 44 = 256 := id rfl
theorem kL_45 (c : gCf) : kL c 45 = 256 := id rfl
theorem kL_46 (c : gCf) : kL c 46 = 256 := id rfl
theorem kL_47 (c : gCf) : kL c 47 = 5 := id rfl
theorem kL_48 (c : gCf) : kL c 48 = 8 := id rfl
theorem kL_49 (c : gCf) : kL c 49 = 8 := id rfl
theorem kL_50 (c : gCf) : kL c 50 = 8 := id rfl
theorem kL_51 (c : gCf) : kL c 51 = 8 := id rfl
theorem kL_52 (c : gCf) : kL c 52 = 8 := id rfl
theorem kL_53 (c : gCf) : kL c 53 = 18 := id rfl
theorem kL_54 (c : gCf) : kL c 54 = 150 := id rfl
theorem kL_55 (c : gCf) : kL c 55 = kP c := id rfl
theorem kL_56 (c : gCf) : kL c 56 = kP c := id rfl
theorem kL_57 (c : gCf) : kL c 57 = kP c := id rfl
theorem kL_58 (c : gCf) : kL c 58 = 400 + kP c := id rfl
theorem kL_59 (c : gCf) : kL c 59 = 400 + kP c := id rfl
theorem kL_60 (c : gCf) : kL c 60 = kD c + kP c := id rfl
theorem kL_61 (c : gCf) : kL c 61 = kD c + kP c := id rfl
theorem kL_62 (c : gCf) : kL c 62 = kD c + kP c + 1 := id rfl
theorem kL_63 (c : gCf) : kL c 63 = kP c * 4 + kD c := id rfl
theorem kL_64 (c : gCf) : kL c 64 = kP c * 4 + kD c := id rfl
theorem kL_65 (c : gCf) : kL c 65 = kP c * 5 := id rfl
theorem kL_66 (c : gCf) : kL c 66 = kD c + kP c := id rfl
theorem kL_67 (c : gCf) : kL c 67 = 5 := id rfl
theorem kL_68 (c : gCf) : kL c 68 = kN c + kD c := id rfl
theorem kL_69 (c : gCf) : kL c 69 = kN c + 2 * kD c := id rfl
theorem kL_70 (c : gCf) : kL c 70 = 16 := id rfl
theorem kL_71 (c : gCf) : kL c 71 = 3 := id rfl
theorem kL_72 (c : gCf) : kL c 72 = kW c := id rfl
theorem kL_73 (c : gCf) : kL c 73 = kW c := id rfl
theorem kL_74 (c : gCf) : kL c 74 = (kD c + kP c) * kH c := id rfl
theorem kL_75 (c : gCf) : kL c 75 = kW c := id rfl
theorem kL_76 (c : gCf) : kL c 76 = kW c := id rfl
theorem kL_77 (c : gCf) : kL c 77 = kW c := id rfl
theorem kL_78 (c : gCf) : kL c 78 = kW c := id rfl
theorem kL_79 (c : gCf) : kL c 79 = kP c * 4 + kD c := id rfl
theorem kL_80 (c : gCf) : kL c 80 = kW c := id rfl
theorem kL_81 (c : gCf) : kL c 81 = 17 := id rfl
theorem kL_82 (c : gCf) : kL c 82 = kB c := id rfl
theorem kL_83 (c : gCf) : kL c 83 = kD c := id rfl
theorem kL_84 (c : gCf) : kL c 84 = kP c := id rfl
theorem kL_85 (c : gCf) : kL c 85 = kP c := id rfl
theorem kL_86 (c : gCf) : kL c 86 = kP c := id rfl
theorem kL_87 (c : gCf) : kL c 87 = kW c := id rfl
theorem kL_88 (c : gCf) : kL c 88 = kW c := id rfl
theorem kL_89 (c : gCf) : kL c 89 = kW c := id rfl
theorem kL_90 (c : gCf) : kL c 90 = kP c := id rfl
theorem kL_91 (c : gCf) : kL c 91 = kP c * 4 := id rfl
theorem kL_92 (c : gCf) : kL c 92 = kP c + 1 := id rfl
theorem kL_93 (c : gCf) : kL c 93 = kP c * 4 * kT c := id rfl
theorem kL_94 (c : gCf) : kL c 94 = 107 := id rfl
theorem kL_95 (c : gCf) : kL c 95 = 20 := id rfl
theorem kL_96 (c : gCf) : kL c 96 = 4000 := id rfl
theorem kL_97 (c : gCf) : kL c 97 = 2100 := id rfl
theorem kL_98 (c : gCf) : kL c 98 = 2100 := id rfl
theorem kL_99 (c : gCf) : kL c 99 = 150 := id rfl
theorem kL_100 (c : gCf) : kL c 100 = 150 := id rfl
theorem kL_101 (c : gCf) : kL c 101 = 150 := id rfl
theorem kL_102 (c : gCf) : kL c 102 = 150 := id rfl
theorem kL_103 (c : gCf) : kL c 103 = 150 := id rfl
theorem kL_104 (c : gCf) : kL c 104 = 48 := id rfl
theorem kL_105 (c : gCf) : kL c 105 = 48 := id rfl
theorem kL_106 (c : gCf) : kL c 106 = 150 := id rfl
theorem kL_107 (c : gCf) : kL c 107 = 150 := id rfl
theorem kL_108 (c : gCf) : kL c 108 = 150 := id rfl
theorem kL_109 (c : gCf) : kL c 109 = 150 := id rfl
theorem kL_110 (c : gCf) : kL c 110 = 150 := id rfl
theorem kL_111 (c : gCf) : kL c 111 = 1200 := id rfl
theorem kL_112 (c : gCf) : kL c 112 = 150 := id rfl
theorem kL_113 (c : gCf) : kL c 113 = 150 := id rfl
theorem kL_114 (c : gCf) : kL c 114 = 38400 := id rfl
theorem kL_115 (c : gCf) : kL c 115 = 150 := id rfl
theorem kL_116 (c : gCf) : kL c 116 = 150 := id rfl
theorem kL_117 (c : gCf) : kL c 117 = 20000 := id rfl
theorem kL_118 (c : gCf) : kL c 118 = 5000 := id rfl
theorem kL_119 (c : gCf) : kL c 119 = 150 := id rfl
theorem kL_120 (c : gCf) : kL c 120 = 2560 := id rfl
theorem kL_121 (c : gCf) : kL c 121 = 80 := id rfl
theorem kL_122 (c : gCf) : kL c 122 = 10 := id rfl
theorem kL_123 (c : gCf) : kL c 123 = 10 := id rfl
theorem kL_124 (c : gCf) : kL c 124 = 10 := id rfl
theorem kL_125 (c : gCf) : kL c 125 = 144 := id rfl
theorem kL_126 (c : gCf) : kL c 126 = 576 := id rfl
theorem kL_127 (c : gCf) : kL c 127 = 144 := id rfl
theorem kL_128 (c : gCf) : kL c 128 = 150 := id rfl
theorem kL_129 (c : gCf) : kL c 129 = 400 := id rfl
theorem kL_130 (c : gCf) : kL c 130 = 401 := id rfl
theorem kL_131 (c : gCf) : kL c 131 = 700 := id rfl
theorem kL_132 (c : gCf) : kL c 132 = 700 := id rfl
theorem kL_133 (c : gCf) : kL c 133 = 144 := id rfl
theorem kL_134 (c : gCf) : kL c 134 = 144 := id rfl
theorem kL_135 (c : gCf) : kL c 135 = 57600 := id rfl
theorem kL_136 (c : gCf) : kL c 136 = 36 := id rfl
theorem kL_137 (c : gCf) : kL c 137 = 48 := id rfl
theorem kL_138 (c : gCf) : kL c 138 = 5040 := id rfl
theorem kL_139 (c : gCf) : kL c 139 = 5040 := id rfl
theorem kL_140 (c : gCf) : kL c 140 = 840 := id rfl
theorem kL_141 (c : gCf) : kL c 141 = 336000 := id rfl
theorem kL_142 (c : gCf) : kL c 142 = 336000 := id rfl
theorem kL_143 (c : gCf) : kL c 143 = 400 := id rfl
theorem kL_144 (c : gCf) : kL c 144 = 20000 := id rfl
theorem kL_145 (c : gCf) : kL c 145 = 400 := id rfl
theorem kL_146 (c : gCf) : kL c 146 = 840 := id rfl
theorem kL_147 (c : gCf) : kL c 147 = 840 := id rfl
theorem kL_148 (c : gCf) : kL c 148 = 840 := id rfl
theorem kL_149 (c : gCf) : kL c 149 = 840 := id rfl
theorem kL_150 (c : gCf) : kL c 150 = 840 := id rfl
theorem kL_151 (c : gCf) : kL c 151 = 840 := id rfl
theorem kL_152 (c : gCf) : kL c 152 = 841 := id rfl
theorem kL_153 (c : gCf) : kL c 153 = 840 := id rfl
theorem kL_154 (c : gCf) : kL c 154 = 15600 := id rfl
theorem kL_155 (c : gCf) : kL c 155 = 144 := id rfl
theorem kL_156 (c : gCf) : kL c 156 = 144 := id rfl
theorem kL_157 (c : gCf) : kL c 157 = 144 := id rfl
theorem kL_158 (c : gCf) : kL c 158 = 48 := id rfl
theorem kL_159 (c : gCf) : kL c 159 = 840 := id rfl
theorem kL_160 (c : gCf) : kL c 160 = 48 := id rfl
theorem kL_161 (c : gCf) : kL c 161 = 150 := id rfl
theorem kL_162 (c : gCf) : kL c 162 = 150 := id rfl
theorem kL_163 (c : gCf) : kL c 163 = 150 := id rfl
theorem kL_164 (c : gCf) : kL c 164 = 5000 := id rfl
theorem gidx {e P w j : Nat} (h : e < P) (h' : j < w) : e * w + j < P * w := by
  have : (e + 1) * w ≤ P * w := Nat.mul_le_mul_right w h
  rw [Nat.add_mul] at this; omega
theorem kN_b {c : gCf} (h : kOk c) : 1 ≤ kN c ∧ kN c ≤ 36 := by
  unfold kN
  exact ⟨Nat.mul_le_mul h.1.1 h.2.1.1, Nat.mul_le_mul h.1.2 h.2.1.2⟩
theorem kD_b {c : gCf} (h : kOk c) : 8 ≤ kD c ∧ kD c ≤ 48 := by
  unfold kD; have := h.1; have := h.2.1; omega
theorem kP_b {c : gCf} (h : kOk c) : 1 ≤ kP c ∧ kP c ≤ 144 := by
  unfold kP
  exact ⟨Nat.mul_le_mul (kN_b h).1 h.2.2.1.1, Nat.mul_le_mul (kN_b h).2 h.2.2.1.2⟩
theorem kF_b {c : gCf} (h : kOk c) : 2 ≤ kF c ∧ kF c ≤ 420 := by
  unfold kF
  exact ⟨Nat.mul_le_mul (Nat.mul_le_mul h.1.1 (Nat.succ_le_succ h.2.1.1)) h.2.2.2.1, Nat.mul_le_mul (Nat.mul_le_mul h.1.2 (Nat.succ_le_succ h.2.1.2)) h.2.2.2.2⟩
theorem kW_b {c : gCf} (h : kOk c) : 4 ≤ kW c ∧ kW c ≤ 840 := by
  unfold kW
  exact ⟨Nat.mul_le_mul (Nat.add_le_add (Nat.mul_le_mul h.1.1 (Nat.succ_le_succ h.2.1.1)) (Nat.mul_le_mul (Nat.succ_le_succ h.1.1) h.2.1.1)) h.2.2.2.1, Nat.mul_le_mul (Nat.add_le_add (Nat.mul_le_mul h.1.2 (Nat.succ_le_succ h.2.1.2)) (Nat.mul_le_mul (Nat.succ_le_succ h.1.2) h.2.1.2)) h.2.2.2.2⟩
theorem kJ_b {c : gCf} (h : kOk c) : kJ c ≤ 2940 := by
  unfold kJ
  exact Nat.mul_le_mul_right 6 (Nat.mul_le_mul (Nat.mul_le_mul (Nat.succ_le_succ h.1.2) (Nat.succ_le_succ h.2.1.2)) h.2.2.2.2)
theorem kX_b {c : gCf} (h : kOk c) : 46 ≤ kX c ∧ kX c ≤ 82 := by
  unfold kX; have := h.2.2.2; omega
theorem kY_b {c : gCf} (h : kOk c) : kY c ≤ 11808 := by
  unfold kY; exact Nat.mul_le_mul (kP_b h).2 (kX_b h).2
theorem kZ_b {c : gCf} (h : kOk c) : kZ c ≤ 12576 := by
  unfold kZ
  have := Nat.mul_le_mul (kD_b h).2 (Nat.add_le_add_left h.2.2.2.2 6)
  have := kY_b h
  omega
theorem kB_b {c : gCf} (h : kOk c) : kB c ≤ 15516 := by
  unfold kB; have := kZ_b h; have := kJ_b h; omega
set_option maxRecDepth 4000 in
theorem kL_lt {c : gCf} (h : kOk c) : ∀ k, kL c k < 2147483648 := by
  intro k
  have h1 := kN_b h
  have h2 := kD_b h
  have h3 := kP_b h
  have h4 := kW_b h
  have h5 := kJ_b h
  have h6 := kB_b h
  have h7 : kH c ≤ 27 := by unfold kH; omega
  have h8 : (kD c + kP c) * kH c ≤ 192 * 27 := Nat.mul_le_mul (by omega) h7
  have h9 : kP c * 4 * kT c ≤ 576 * 10 := Nat.mul_le_mul (by omega) h.2.2.2.2
  unfold kL
  split <;> omega
end
-- N
section
theorem n_ofI (a : Nat) : (Int32.ofInt (a : Int)).toBitVec = BitVec.ofNat 32 a := by
  show BitVec.ofInt 32 (a : Int) = _
  exact BitVec.ofInt_natCast 32 a
theorem n_toI (x : BitVec 32) (h : x.toNat < 2147483648) : x.toInt = (x.toNat : Int) := by
  rw [BitVec.toInt_eq_toNat_cond, if_pos (by omega)]
theorem n_sm (a : Nat) (h : a < 2147483648) : (BitVec.ofNat 32 a).toNat = a := by
  rw [BitVec.toNat_ofNat]; omega
theorem zAnd_n (a b : Nat) (ha : a < 2147483648) (hb : b < 2147483648) : zAnd (a : Int) (b : Int) = ((a &&& b : Nat) : Int) := by
  unfold zAnd
  show ((Int32.ofInt (a : Int)).toBitVec &&& (Int32.ofInt (b : Int)).toBitVec).toInt = _
  rw [n_ofI, n_ofI]
  have h1 : (BitVec.ofNat 32 a &&& BitVec.ofNat 32 b).toNat = a &&& b := by rw [BitVec.toNat_and, n_sm a ha, n_sm b hb]
  have h2 : a &&& b ≤ a := Nat.and_le_left
  rw [n_toI _ (by omega), h1]
theorem zOr_n (a b : Nat) (ha : a < 2147483648) (hb : b < 2147483648) : zOr (a : Int) (b : Int) = ((a ||| b : Nat) : Int) := by
  unfold zOr
  show ((Int32.ofInt (a : Int)).toBitVec ||| (Int32.ofInt (b : Int)).toBitVec).toInt = _
  rw [n_ofI, n_ofI]
  have h1 : (BitVec.ofNat 32 a ||| BitVec.ofNat 32 b).toNat = a ||| b := by rw [BitVec.toNat_or, n_sm a ha, n_sm b hb]
  have h2 : a ||| b < 2 ^ 31 := Nat.or_lt_two_pow (by omega) (by omega)
  rw [n_toI _ (by omega), h1]
theorem zXor_n (a b : Nat) (ha : a < 2147483648) (hb : b < 2147483648) : zXor (a : Int) (b : Int) = ((a ^^^ b : Nat) : Int) := by
  unfold zXor
  show ((Int32.ofInt (a : Int)).toBitVec ^^^ (Int32.ofInt (b : Int)).toBitVec).toInt = _
  rw [n_ofI, n_ofI]
  have h1 : (BitVec.ofNat 32 a ^^^ BitVec.ofNat 32 b).toNat = a ^^^ b := by rw [BitVec.toNat_xor, n_sm a ha, n_sm b hb]
  have h2 : a ^^^ b < 2 ^ 31 := Nat.xor_lt_two_pow (by omega) (by omega)
  rw [n_toI _ (by omega), h1]
theorem n_sh31 (b : Nat) (hb : b < 32) : (BitVec.ofNat 32 b &&& 31#32).toNat = b := by
  rw [BitVec.toNat_and, n_sm b (by omega)]
  show b &&& 31 = b
  have : b &&& 2 ^ 5 - 1 = b % 2 ^ 5 := Nat.and_two_pow_sub_one_eq_mod b 5
  have h2 : (2 : Nat) ^ 5 - 1 = 31 := by decide
  rw [h2] at this; rw [this]; omega
theorem n_smod (b : Nat) (hb : b < 32) : ((BitVec.ofNat 32 b &&& 31#32).smod 32#32).toNat = b := by
  have h1 : BitVec.ofNat 32 b &&& 31#32 = BitVec.ofNat 32 b := by
    apply BitVec.eq_of_toNat_eq; rw [n_sh31 b hb, n_sm b (by omega)]
  rw [h1]
  have h2 : (BitVec.ofNat 32 b).msb = false := by
    rw [BitVec.msb_eq_decide, n_sm b (by omega)]; simp; omega
  rw [BitVec.smod, h2]
  show ((BitVec.ofNat 32 b).umod 32#32).toNat = b
  rw [BitVec.umod_eq, BitVec.toNat_umod, n_sm b (by omega)]
  exact Nat.mod_eq_of_lt hb
def zBit (x : Int) (i : Nat) : Bool := (Int32.ofInt x).toBitVec.getLsbD i
theorem zB_n (a i : Nat) (ha : a < 2147483648) : zBit (a : Int) i = a.testBit i := by
  unfold zBit
  rw [n_ofI, BitVec.getLsbD, n_sm a ha]
theorem n_oI (x : Int32) : Int32.ofInt x.toInt = x := Int32.ofInt_toInt x
theorem zB_or (a b : Int) (i : Nat) : zBit (zOr a b) i = (zBit a i || zBit b i) := by
  unfold zBit zOr; rw [n_oI]; exact BitVec.getLsbD_or
theorem zB_and (a b : Int) (i : Nat) : zBit (zAnd a b) i = (zBit a i && zBit b i) := by
  unfold zBit zAnd; rw [n_oI]; exact BitVec.getLsbD_and
theorem zB_xor (a b : Int) (i : Nat) : zBit (zXor a b) i = (zBit a i ^^ zBit b i) := by
  unfold zBit zXor; rw [n_oI]; exact BitVec.getLsbD_xor
theorem n_31 (j : Nat) : (Int32.ofInt (j : Int) &&& 31).toBitVec = BitVec.ofNat 32 j &&& 31#32 := by
  rw [← n_ofI]; rfl
theorem zB_shl (a : Int) (j i : Nat) (hj : j < 32) : zBit (zShl a (j : Int)) i = (decide (i < 32) && decide (j ≤ i) && zBit a (i - j)) := by
  unfold zBit zShl; rw [n_oI]
  rw [Int32.toBitVec_shiftLeft, n_31]
  show ((Int32.ofInt a).toBitVec <<< ((BitVec.ofNat 32 j &&& 31#32).smod 32#32)).getLsbD i = _
  rw [BitVec.shiftLeft_eq', n_smod j hj, BitVec.getLsbD_shiftLeft]
  congr 2
  by_cases h : i < j
  · simp [h, Nat.not_le.2 h]
  · simp [h, Nat.not_lt.1 h]
theorem zB_shr (a : Int) (j i : Nat) (hj : j < 32) (h : i + j < 32) : zBit (zShr a (j : Int)) i = zBit a (i + j) := by
  unfold zBit zShr; rw [n_oI]
  rw [Int32.toBitVec_shiftRight, n_31]
  show ((Int32.ofInt a).toBitVec.sshiftRight' ((BitVec.ofNat 32 j &&& 31#32).smod 32#32)).getLsbD i = _
  rw [BitVec.sshiftRight_eq', n_smod j hj, BitVec.getLsbD_sshiftRight]
  have : ¬ 32 ≤ i := by omega
  have h3 : j + i < 32 := by omega
  simp [this, h3, Nat.add_comm]
theorem zB_ushr (a : Int) (j i : Nat) (hj : j < 32) : zBit (zUshr a (j : Int)) i = zBit a (i + j) := by
  unfold zBit zUshr; rw [n_oI]
  show ((Int32.ofInt a).toUInt32 >>> ((Int32.ofInt (j : Int)).toUInt32 &&& Int32.toUInt32 31)).toBitVec.getLsbD i = _
  rw [UInt32.toBitVec_shiftRight]
  show ((Int32.ofInt a).toBitVec >>> (((Int32.ofInt (j : Int)).toBitVec &&& 31#32) % 32#32)).getLsbD i = _
  rw [n_ofI, BitVec.ushiftRight_eq', BitVec.toNat_umod, n_sh31 j hj, BitVec.getLsbD_ushiftRight]
  rw [show j % (32#32).toNat = j from Nat.mod_eq_of_lt hj, Nat.add_comm]
theorem zB_ext {a b : Int} (ha : -2147483648 ≤ a ∧ a < 2147483648) (hb : -2147483648 ≤ b ∧ b < 2147483648) (h : ∀ i, i < 32 → zBit a i = zBit b i) : a = b := by
  have h1 : Int32.ofInt a = Int32.ofInt b := by
    apply Int32.toBitVec_inj.1
    apply BitVec.eq_of_getLsbD_eq
    exact h
  have h2 : (Int32.ofInt a).toInt = a := Int32.toInt_ofInt_of_le (by simpa using ha.1) (by simpa using ha.2)
  have h3 : (Int32.ofInt b).toInt = b := Int32.toInt_ofInt_of_le (by simpa using hb.1) (by simpa using hb.2)
  rw [← h2, h1, h3]
theorem n_rng (x : Int32) : -2147483648 ≤ x.toInt ∧ x.toInt < 2147483648 := ⟨x.le_toInt, x.toInt_lt⟩
theorem zOr_r (a b : Int) : -2147483648 ≤ zOr a b ∧ zOr a b < 2147483648 := n_rng _
theorem zAnd_r (a b : Int) : -2147483648 ≤ zAnd a b ∧ zAnd a b < 2147483648 := n_rng _
theorem zXor_r (a b : Int) : -2147483648 ≤ zXor a b ∧ zXor a b < 2147483648 := n_rng _
theorem zShl_r (a b : Int) : -2147483648 ≤ zShl a b ∧ zShl a b < 2147483648 := n_rng _
theorem zShr_r (a b : Int) : -2147483648 ≤ zShr a b ∧ zShr a b < 2147483648 := n_rng _
theorem zUshr_r (a b : Int) : -2147483648 ≤ zUshr a b ∧ zUshr a b < 2147483648 := n_rng _
theorem zB_0 (i : Nat) : zBit 0 i = false := by
  have := zB_n 0 i (by omega); rw [Nat.zero_testBit] at this; exact this
theorem zB_1 (i : Nat) : zBit 1 i = decide (i = 0) := by
  have := zB_n 1 i (by omega)
  refine this.trans ?_
  cases i with
  | zero => decide
  | succ i => rw [Nat.testBit_succ]; simp
theorem zB_hi (a : Int) (i : Nat) (h : 32 ≤ i) : zBit a i = false := BitVec.getLsbD_of_ge _ _ h
/-- a bit taken out -/
theorem zBit_at (a : Int) (j : Nat) (hj : j < 32) : zAnd (zUshr a (j : Int)) 1 = if zBit a j then 1 else 0 := by
  apply zB_ext (zAnd_r _ _) (by split <;> omega)
  intro i hi
  rw [zB_and, zB_ushr a j i hj, zB_1]
  by_cases h : i = 0
  · subst h; rw [Nat.zero_add]; cases zBit a j <;> simp [zB_1, zB_0]
  · have : decide (i = 0) = false := by simp [h]
    rw [this, Bool.and_false]; split
    · rw [zB_1, this]
    · rw [zB_0]
theorem zBit_atS (a : Int) (j : Nat) (hj : j < 32) : zAnd (zShr a (j : Int)) 1 = if zBit a j then 1 else 0 := by
  apply zB_ext (zAnd_r _ _) (by split <;> omega)
  intro i hi
  rw [zB_and, zB_1]
  by_cases h : i = 0
  · subst h; rw [zB_shr a j 0 hj (by omega), Nat.zero_add]; cases zBit a j <;> simp [zB_1, zB_0]
  · have : decide (i = 0) = false := by simp [h]
    rw [this, Bool.and_false]; split
    · rw [zB_1, this]
    · rw [zB_0]
theorem zShl_n (a j : Nat) (hj : j < 32) (h : a * 2 ^ j < 2147483648) : zShl (a : Int) (j : Int) = ((a * 2 ^ j : Nat) : Int) := by
  have h2 : a ≤ a * 2 ^ j := Nat.le_mul_of_pos_right a (Nat.two_pow_pos j)
  apply zB_ext (zShl_r _ _) (by omega)
  intro i hi
  rw [zB_shl _ _ _ hj, zB_n _ _ h, zB_n _ _ (by omega), ← Nat.shiftLeft_eq, Nat.testBit_shiftLeft]
  simp [hi]
theorem zUshr_n (a j : Nat) (hj : j < 32) (h : a < 2147483648) : zUshr (a : Int) (j : Int) = ((a / 2 ^ j : Nat) : Int) := by
  have h2 : a / 2 ^ j ≤ a := Nat.div_le_self a _
  apply zB_ext (zUshr_r _ _) (by generalize a / 2 ^ j = q at *; omega)
  intro i hi
  rw [zB_ushr _ _ _ hj, zB_n _ _ h, zB_n _ _ (by omega), Nat.testBit_div_two_pow]
theorem zShr_n (a j : Nat) (hj : j < 32) (h : a < 2147483648) : zShr (a : Int) (j : Int) = ((a / 2 ^ j : Nat) : Int) := by
  have h2 : a / 2 ^ j ≤ a := Nat.div_le_self a _
  unfold zShr
  show ((Int32.ofInt (a : Int)) >>> (Int32.ofInt (j : Int) &&& 31)).toBitVec.toInt = _
  rw [Int32.toBitVec_shiftRight, n_31, n_ofI]
  show ((BitVec.ofNat 32 a).sshiftRight' ((BitVec.ofNat 32 j &&& 31#32).smod 32#32)).toInt = _
  rw [BitVec.sshiftRight_eq', n_smod j hj, BitVec.toInt_sshiftRight, n_toI _ (by rw [n_sm a h]; exact h), n_sm a h, Int.shiftRight_eq_div_pow]
  rfl
theorem zDiv_n (a b : Nat) (ha : a < 2147483648) (hb : b < 2147483648) : zDiv (a : Int) (b : Int) = ((a / b : Nat) : Int) := by
  have h2 : a / b ≤ a := Nat.div_le_self a b
  have g1 : (Int32.ofInt (a : Int)).toInt = a := Int32.toInt_ofInt_of_le (by simpa using (by omega : (-2147483648 : Int) ≤ a)) (by simpa using (by omega : (a : Int) < 2147483648))
  have g2 : (Int32.ofInt (b : Int)).toInt = b := Int32.toInt_ofInt_of_le (by simpa using (by omega : (-2147483648 : Int) ≤ b)) (by simpa using (by omega : (b : Int) < 2147483648))
  unfold zDiv
  rw [Int32.toInt_div, g1, g2, Int.tdiv_eq_ediv_of_nonneg (by omega)]
  show Int.bmod (((a / b : Nat)) : Int) (2 ^ 32) = _
  generalize a / b = q at *
  rw [Int.bmod_eq_of_le] <;> omega
theorem zRem_n (a b : Nat) (ha : a < 2147483648) (hb : b < 2147483648) : zRem (a : Int) (b : Int) = ((a % b : Nat) : Int) := by
  have h1 := zDiv_n a b ha hb
  unfold zDiv at h1
  have h2 : Int32.ofInt (a : Int) / Int32.ofInt (b : Int) = Int32.ofInt ((a / b : Nat) : Int) := by rw [← h1, n_oI]
  unfold zRem
  rw [h2, ← Int32.ofInt_mul, ← Int32.ofInt_sub]
  have h3 : (a : Int) - ((a / b : Nat) : Int) * (b : Int) = ((a % b : Nat) : Int) := by
    have := Nat.div_add_mod a b
    rw [Nat.mul_comm] at this
    have h4 : ((a / b * b + a % b : Nat) : Int) = a := by rw [this]
    rw [Int.natCast_add, Int.natCast_mul] at h4
    omega
  rw [h3]
  have h5 : a % b ≤ a := Nat.mod_le a b
  generalize a % b = q at *
  exact Int32.toInt_ofInt_of_le (by simpa using (by omega : (-2147483648 : Int) ≤ q)) (by simpa using (by omega : (q : Int) < 2147483648))
theorem zByte_c {a b : Int} (h : ∀ i, i < 8 → zBit a i = zBit b i) : zByte a = zByte b := by
  unfold zByte
  have : (Int32.ofInt a).toInt8 = (Int32.ofInt b).toInt8 := by
    apply Int8.toBitVec_inj.1
    show (Int32.ofInt a).toBitVec.signExtend 8 = (Int32.ofInt b).toBitVec.signExtend 8
    apply BitVec.eq_of_getLsbD_eq
    intro i hi
    rw [BitVec.getLsbD_signExtend, BitVec.getLsbD_signExtend]
    have := h i hi
    unfold zBit at this
    have h3 : i < 32 := by omega
    simp only [this, h3, if_true]
  rw [this]
theorem n_i32 (a : Int) (h : -2147483648 ≤ a ∧ a < 2147483648) : (Int32.ofInt a).toInt = a := Int32.toInt_ofInt_of_le (by simpa using h.1) (by simpa using h.2)
theorem zByte_v (a : Int) : zByte a = (Int32.ofInt a).toInt.bmod 256 := by
  unfold zByte
  rw [Int8.toInt_toInt32, Int32.toInt_toInt8]
theorem zByte_s (a : Int) (h : -128 ≤ a ∧ a < 128) : zByte a = a := by
  rw [zByte_v, n_i32 a (by omega), Int.bmod_eq_of_le] <;> omega
theorem zByte_r (a : Int) : -128 ≤ zByte a ∧ zByte a < 128 := by
  rw [zByte_v]
  have h1 := Int.le_bmod (x := (Int32.ofInt a).toInt) (m := 256) (by omega)
  have h2 := Int.bmod_lt (x := (Int32.ofInt a).toInt) (m := 256) (by omega)
  omega
theorem zByte_b (a : Int) : zByte (zByte a) = zByte a := zByte_s _ (zByte_r a)
theorem zByte_h (a : Int) (h : 128 ≤ a ∧ a < 256) : zByte a = a - 256 := by
  rw [zByte_v, n_i32 a (by omega), Int.bmod_def]
  omega
theorem zBool_n (a : Int) (h : a = 0 ∨ a = 1) : zBool a = a := by
  rcases h with h | h <;> subst h <;> decide
theorem zB_255 (i : Nat) (h : i < 8) : zBit 255 i = true := by
  have : zBit ((255 : Nat) : Int) i = Nat.testBit 255 i := zB_n 255 i (by omega)
  refine this.trans ?_
  have h2 : (255 : Nat) = 2 ^ 8 - 1 := by decide
  rw [h2, Nat.testBit_two_pow_sub_one]; simp [h]
theorem n_feed (v : Int) (s : Nat) (hs : s ≤ 24) : zByte (zUshr v (s : Int)) = zByte (zAnd (zShr v (s : Int)) 255) := by
  apply zByte_c
  intro i hi
  rw [zB_ushr v s i (by omega), zB_and, zB_shr v s i (by omega) (by omega), zB_255 i hi, Bool.and_true]
theorem n_and255 (v : Int) : 0 ≤ zAnd v 255 ∧ zAnd v 255 < 256 := by
  have h1 : zAnd v 255 = (((Int32.ofInt v).toBitVec &&& 255#32).toNat : Int) := by
    have h2 : ((Int32.ofInt v).toBitVec &&& 255#32).toNat ≤ 255 := by
      rw [BitVec.toNat_and]; exact Nat.and_le_right
    rw [← n_toI _ (by omega)]; rfl
  have h2 : ((Int32.ofInt v).toBitVec &&& 255#32).toNat ≤ 255 := by
    rw [BitVec.toNat_and]; exact Nat.and_le_right
  omega
end
-- S1
section
variable {E : gEv} {c : gCf}
theorem s_fillI {L : Nat → Nat} (k : Nat) (v : Int) (z : gZ) (hL : L k < 1000000) : q_Arrays_fillI E L k v z = some (zFill z k (fun _ => v) (L k)) := by
  unfold q_Arrays_fillI
  rw [let_s, it_fill k (fun _ => v) (L k) (e := zFill z k (fun _ => v) (L k)) (by omega)]
  · rfl
  · intro i hi
    simp only [q_Arrays_fillI_5, let_s, gtN]
    rw [if_neg (by omega), if_pos (by omega)]
  · simp only [q_Arrays_fillI_5]
    rw [if_pos (by omega)]
theorem s_fillB {L : Nat → Nat} (k : Nat) (v : Int) (z : gZ) (hL : L k < 1000000) : q_Arrays_fillB E L k v z = some (zFill z k (fun _ => zByte v) (L k)) := by
  unfold q_Arrays_fillB
  rw [let_s, it_fill k (fun _ => zByte v) (L k) (e := zFill z k (fun _ => zByte v) (L k)) (by omega)]
  · rfl
  · intro i hi
    simp only [q_Arrays_fillB_5, let_s, gtN]
    rw [if_neg (by omega), if_pos (by omega)]
  · simp only [q_Arrays_fillB_5]
    rw [if_pos (by omega)]
theorem s_putReady (a : Nat) (v : Int) (z : gZ) (ha : a ≤ 16) : q_Text_putReady E (kL c) a v z = some (zRow z 12 (fun j => if a ≤ j ∧ j < a + 4 then zByte (zByte (zUshr v (24 - 8 * ((j : Int) - a)))) else z.1 12 j)) := by
  unfold q_Text_putReady
  rw [it_run (fun i => ((i : Int), zRow z 12 (fun j => if a ≤ j ∧ j < a + i then zByte (zByte (zUshr v (24 - 8 * ((j : Int) - a)))) else z.1 12 j))) 4 (e := zRow z 12 (fun j => if a ≤ j ∧ j < a + 4 then zByte (zByte (zUshr v (24 - 8 * ((j : Int) - a)))) else z.1 12 j))]
  · rfl
  · refine Prod.ext rfl ?_
    show zRow z 12 _ = z
    rw [← zr_self z 12, zr_row]; apply zr_congr; intro j
    rw [if_neg (by omega), zr_self]
  · intro i hi
    simp only [q_Text_putReady_2, let_s, kL_12]
    rw [if_neg (by omega), if_pos (by omega), if_pos (by omega), show ((a : Int) + (i : Int)).toNat = a + i by omega, zp_row, zr_row]
    congr 3
    apply zr_congr; intro j
    rw [zr_eq]
    by_cases h1 : j = a + i
    · subst h1
      rw [if_pos rfl, if_pos (by omega)]
      congr 4; omega
    · rw [if_neg h1]
      by_cases h2 : a ≤ j ∧ j < a + i
      · rw [if_pos h2, if_pos (by omega)]
      · rw [if_neg h2, if_neg (by omega)]
  · simp only [q_Text_putReady_2]
    rw [if_pos (by omega)]
  · omega
theorem s_word (a : Nat) (v : Int) (z : gZ) (ha : a ≤ 16) : q_Model_word E (kL c) a v z = some (zRow z 95 (fun j => if a ≤ j ∧ j < a + 4 then zAnd (zShr v (24 - 8 * ((j : Int) - a))) 255 else z.1 95 j)) := by
  unfold q_Model_word
  rw [it_run (fun i => ((i : Int), zRow z 95 (fun j => if a ≤ j ∧ j < a + i then zAnd (zShr v (24 - 8 * ((j : Int) - a))) 255 else z.1 95 j))) 4 (e := zRow z 95 (fun j => if a ≤ j ∧ j < a + 4 then zAnd (zShr v (24 - 8 * ((j : Int) - a))) 255 else z.1 95 j))]
  · rfl
  · refine Prod.ext rfl ?_
    show zRow z 95 _ = z
    rw [← zr_self z 95, zr_row]; apply zr_congr; intro j
    rw [if_neg (by omega), zr_self]
  · intro i hi
    simp only [q_Model_word_2, let_s, kL_95]
    rw [if_neg (by omega), if_pos (by omega), if_pos (by omega), show ((a : Int) + (i : Int)).toNat = a + i by omega, zp_row, zr_row]
    congr 3
    apply zr_congr; intro j
    rw [zr_eq]
    by_cases h1 : j = a + i
    · subst h1
      rw [if_pos rfl, if_pos (by omega)]
      congr 3; omega
    · rw [if_neg h1]
      by_cases h2 : a ≤ j ∧ j < a + i
      · rw [if_pos h2, if_pos (by omega)]
      · rw [if_neg h2, if_neg (by omega)]
  · simp only [q_Model_word_2]
    rw [if_pos (by omega)]
  · omega
/-- the same but for the cells of a kind -/
def zOff (P : Nat → Nat → Prop) (z z' : gZ) : Prop := z'.2 = z.2 ∧ ∀ k j, ¬ P k j → z'.1 k j = z.1 k j
theorem off_r {P : Nat → Nat → Prop} {z : gZ} : zOff P z z := ⟨rfl, fun _ _ _ => rfl⟩
theorem off_t {P : Nat → Nat → Prop} {z z' z'' : gZ} (h : zOff P z z') (k : zOff P z' z'') : zOff P z z'' := ⟨k.1.trans h.1, fun a b n => (k.2 a b n).trans (h.2 a b n)⟩
theorem off_w {P Q : Nat → Nat → Prop} {z z' : gZ} (h : zOff P z z') (k : ∀ a b, P a b → Q a b) : zOff Q z z' := ⟨h.1, fun a b n => h.2 a b fun x => n (k a b x)⟩
theorem off_row {P : Nat → Nat → Prop} {z : gZ} {k : Nat} {f : Nat → Int} (h : ∀ j, P k j) : zOff P z (zRow z k f) := ⟨rfl, fun a b n => by
  rw [zr1]; split
  · rename_i h1; subst h1; exact absurd (h b) n
  · rfl⟩
theorem off_put {P : Nat → Nat → Prop} {z : gZ} {k j : Nat} {v : Int} (h : P k j) : zOff P z (zPut z k j v) := ⟨rfl, fun a b n => by
  rw [zp1]; split
  · split
    · rename_i h1 h2; subst h1; subst h2; exact absurd h n
    · rfl
  · rfl⟩
theorem off_fill {P : Nat → Nat → Prop} {z : gZ} {k i : Nat} {f : Nat → Int} (h : ∀ j, P k j) : zOff P z (zFill z k f i) := off_row h
def okb (b : Int) : Prop := b = 9 ∨ b = 10 ∨ (32 ≤ b ∧ b ≤ 126)
/-- the tapes and what is ready, in both -/
def iT (n : Nat) (z : gZ) : Prop := n ≤ 4000 ∧ z.1 10 2 = n ∧ z.1 94 16 = n ∧ (∀ j, j < n → z.1 11 j = z.1 96 j ∧ okb (z.1 96 j)) ∧ (∀ j, j < 20 → (0 ≤ z.1 95 j ∧ z.1 95 j < 256) ∧ z.1 12 j = zByte (z.1 95 j))
def pT (k j : Nat) : Prop := (k = 10 ∧ j = 2) ∨ k = 11 ∨ k = 12 ∨ (k = 94 ∧ j = 16) ∨ k = 95 ∨ k = 96
theorem iT_feed1 {n : Nat} {z : gZ} (a : Nat) (v : Int) (ha : a ≤ 16) (h : iT n z) : iT n (zRow (zRow z 12 (fun j => if a ≤ j ∧ j < a + 4 then zByte (zByte (zUshr v (24 - 8 * ((j : Int) - a)))) else z.1 12 j)) 95 (fun j => if a ≤ j ∧ j < a + 4 then zAnd (zShr v (24 - 8 * ((j : Int) - a))) 255 else z.1 95 j)) := by
  obtain ⟨h1, h2, h3, h4, h5⟩ := h
  refine ⟨h1, h2, h3, h4, fun j hj => ?_⟩
  simp only [zr1, reduceIte, Nat.reduceEqDiff]
  by_cases h : a ≤ j ∧ j < a + 4
  · rw [if_pos h, if_pos h]
    refine ⟨n_and255 _, ?_⟩
    rw [zByte_b, show (24 - 8 * ((j : Int) - a)) = ((24 - 8 * (j - a) : Nat) : Int) by omega]
    exact n_feed v _ (by omega)
  · rw [if_neg h, if_neg h]
    exact h5 j hj
theorem zr_comm (z : gZ) (k k' : Nat) (f g : Nat → Int) (h : k ≠ k') : zRow (zRow z k f) k' g = zRow (zRow z k' g) k f := by
  refine Prod.ext (funext fun a => funext fun b => ?_) rfl
  simp only [zr1]
  by_cases h1 : a = k
  · subst h1; rw [if_neg h, if_pos rfl, if_pos rfl]
  · rw [if_neg h1, if_neg h1]
/-- one step of feeding, in both -/
def fd1 (a : Nat) (v : Int) (z : gZ) : gZ := zRow z 12 (fun j => if a ≤ j ∧ j < a + 4 then zByte (zByte (zUshr v (24 - 8 * ((j : Int) - a)))) else z.1 12 j)
def fd2 (a : Nat) (v : Int) (z : gZ) : gZ := zRow z 95 (fun j => if a ≤ j ∧ j < a + 4 then zAnd (zShr v (24 - 8 * ((j : Int) - a))) 255 else z.1 95 j)
theorem fd_c (a b : Nat) (v w : Int) (z : gZ) : fd2 a v (fd1 b w z) = fd1 b w (fd2 a v z) := by
  unfold fd1 fd2
  rw [zr_comm _ _ _ _ _ (by decide)]; rfl
theorem l_feed {n : Nat} {z : gZ} (a0 a1 a2 a3 a4 : Int) (h : iT n z) : zOk (q_Face_feed E (kL c) a0 a1 a2 a3 a4 z) (fun z1 => zOk (q_Model_feed E (kL c) a0 a1 a2 a3 a4 z1) (fun z2 => iT n z2 ∧ zOff pT z z2)) := by
  have p1 : ∀ (a : Nat) (v : Int) (z : gZ), a ≤ 16 → q_Text_putReady E (kL c) a v z = some (fd1 a v z) := fun a v z ha => s_putReady a v z ha
  have p2 : ∀ (a : Nat) (v : Int) (z : gZ), a ≤ 16 → q_Model_word E (kL c) a v z = some (fd2 a v z) := fun a v z ha => s_word a v z ha
  have e1 := p1 0 a0 z (by omega)
  have e2 := p1 4 a1 (fd1 0 a0 z) (by omega)
  have e3 := p1 8 a2 (fd1 4 a1 (fd1 0 a0 z)) (by omega)
  have e4 := p1 12 a3 (fd1 8 a2 (fd1 4 a1 (fd1 0 a0 z))) (by omega)
  have e5 := p1 16 a4 (fd1 12 a3 (fd1 8 a2 (fd1 4 a1 (fd1 0 a0 z)))) (by omega)
  have f0 : q_Face_feed E (kL c) a0 a1 a2 a3 a4 z = some (fd1 16 a4 (fd1 12 a3 (fd1 8 a2 (fd1 4 a1 (fd1 0 a0 z))))) := by
    unfold q_Face_feed
    rw [show (0 : Int) = ((0 : Nat) : Int) from rfl, e1, b1_s, show (4 : Int) = ((4 : Nat) : Int) from rfl, e2, b1_s, show (8 : Int) = ((8 : Nat) : Int) from rfl, e3, b1_s, show (12 : Int) = ((12 : Nat) : Int) from rfl, e4, b1_s, show (16 : Int) = ((16 : Nat) : Int) from rfl, e5, b1_s]
  refine ok_e f0 ?_
  have f1 : ∀ z, q_Model_feed E (kL c) a0 a1 a2 a3 a4 z = some (fd2 16 a4 (fd2 12 a3 (fd2 8 a2 (fd2 4 a1 (fd2 0 a0 z))))) := by
    intro z
    unfold q_Model_feed
    rw [show (0 : Int) = ((0 : Nat) : Int) from rfl, p2 0 _ _ (by omega), b1_s, show (4 : Int) = ((4 : Nat) : Int) from rfl, p2 4 _ _ (by omega), b1_s, show (8 : Int) = ((8 : Nat) : Int) from rfl, p2 8 _ _ (by omega), b1_s, show (12 : Int) = ((12 : Nat) : Int) from rfl, p2 12 _ _ (by omega), b1_s, show (16 : Int) = ((16 : Nat) : Int) from rfl, p2 16 _ _ (by omega), b1_s]
  refine ok_e (f1 _) ⟨?_, ?_⟩
  · have : ∀ (a : Nat) (v : Int) (z : gZ), a ≤ 16 → iT n z → iT n (fd2 a v (fd1 a v z)) := fun a v z ha h => iT_feed1 a v ha h
    rw [fd_c 0, fd_c 0, fd_c 0, fd_c 0, fd_c 4, fd_c 4, fd_c 4, fd_c 8, fd_c 8, fd_c 12]
    exact this 16 _ _ (by omega) (this 12 _ _ (by omega) (this 8 _ _ (by omega) (this 4 _ _ (by omega) (this 0 _ _ (by omega) h))))
  · have g1 : ∀ (a : Nat) (v : Int) (z : gZ), zOff pT z (fd1 a v z) := fun a v z => off_row fun j => Or.inr (Or.inr (Or.inl rfl))
    have g2 : ∀ (a : Nat) (v : Int) (z : gZ), zOff pT z (fd2 a v z) := fun a v z => off_row fun j => Or.inr (Or.inr (Or.inr (Or.inr (Or.inl rfl))))
    exact off_t (off_t (off_t (off_t (off_t (off_t (off_t (off_t (off_t (g1 _ _ _) (g1 _ _ _)) (g1 _ _ _)) (g1 _ _ _)) (g1 _ _ _)) (g2 _ _ _)) (g2 _ _ _)) (g2 _ _ _)) (g2 _ _ _)) (g2 _ _ _)
end
-- S2
section
variable {E : gEv} {c : gCf}
theorem okb_b {b : Int} (h : 0 ≤ b ∧ b < 256) : okb (zByte b) ↔ okb b := by
  by_cases h1 : b < 128
  · rw [zByte_s b (by omega)]
  · rw [zByte_h b (by omega)]; unfold okb; omega
theorem s_ready26 {z : gZ} (m : Nat) (hm : m ≤ 20) : gIter (fun y => q_Text_takeReady_26 E (kL c) (m : Int) y z) gN 0 = some (.inr ()) ∧ (∀ j, j < m → okb (z.1 12 j)) ∨ gIter (fun y => q_Text_takeReady_26 E (kL c) (m : Int) y z) gN 0 = some (.inl ()) ∧ ¬ (∀ j, j < m → okb (z.1 12 j)) := by
  refine (it_find (f := fun y => q_Text_takeReady_26 E (kL c) (m : Int) y z) (fun i => ¬ okb (z.1 12 i)) (fun _ => .inl ()) 0 m (e := .inr ()) rfl (by omega) (by omega) ?_ ?_ ?_).elim (fun ⟨i, h1, h2, h3, h4, h5⟩ => Or.inr ⟨h5, fun h => h3 (h i h2)⟩) (fun ⟨h1, h2⟩ => Or.inl ⟨h2, fun j hj => Classical.byContradiction fun h => h1 j (Nat.zero_le j) hj h⟩)
  · intro i _ hi hp
    have hp : okb (z.1 12 i) := Classical.byContradiction hp
    unfold okb at hp
    simp only [q_Text_takeReady_26, kL_12, let_s, gtN]
    rw [if_neg (by omega), if_pos (by omega)]
    repeat' split
    all_goals first | rfl | omega
  · intro i _ hi hp
    unfold okb at hp
    simp only [q_Text_takeReady_26, kL_12, let_s, gtN]
    rw [if_neg (by omega), if_pos (by omega)]
    repeat' split
    all_goals first | rfl | omega
  · simp only [q_Text_takeReady_26]
    rw [if_pos (by omega)]
theorem s_end26 {z : gZ} (m : Nat) (hm : m ≤ 20) : gIter (fun y => q_Model_end_26 E (kL c) (m : Int) y z) gN 0 = some (.inr ()) ∧ (∀ j, j < m → okb (z.1 95 j)) ∨ gIter (fun y => q_Model_end_26 E (kL c) (m : Int) y z) gN 0 = some (.inl ()) ∧ ¬ (∀ j, j < m → okb (z.1 95 j)) := by
  refine (it_find (f := fun y => q_Model_end_26 E (kL c) (m : Int) y z) (fun i => ¬ okb (z.1 95 i)) (fun _ => .inl ()) 0 m (e := .inr ()) rfl (by omega) (by omega) ?_ ?_ ?_).elim (fun ⟨i, h1, h2, h3, h4, h5⟩ => Or.inr ⟨h5, fun h => h3 (h i h2)⟩) (fun ⟨h1, h2⟩ => Or.inl ⟨h2, fun j hj => Classical.byContradiction fun h => h1 j (Nat.zero_le j) hj h⟩)
  · intro i _ hi hp
    have hp : okb (z.1 95 i) := Classical.byContradiction hp
    unfold okb at hp
    simp only [q_Model_end_26, kL_95, let_s, gtN]
    rw [if_neg (by omega), if_pos (by omega)]
    repeat' split
    all_goals first | rfl | omega
  · intro i _ hi hp
    unfold okb at hp
    simp only [q_Model_end_26, kL_95, let_s, gtN]
    rw [if_neg (by omega), if_pos (by omega)]
    repeat' split
    all_goals first | rfl | omega
  · simp only [q_Model_end_26]
    rw [if_pos (by omega)]
theorem s_end85 {z : gZ} (n m : Nat) (hm : m ≤ 20) (hn : n + m ≤ 4000) (hz : z.1 94 16 = n) : gIter (fun y => q_Model_end_85 E (kL c) (m : Int) y.1 y.2) gN (0, z) = some (zRow z 96 (fun j => if n ≤ j ∧ j < n + m then z.1 95 (j - n) else z.1 96 j)) := by
  refine it_run (fun i => ((i : Int), zRow z 96 (fun j => if n ≤ j ∧ j < n + i then z.1 95 (j - n) else z.1 96 j))) m ?_ ?_ ?_ (by omega)
  · refine Prod.ext rfl ?_
    show zRow z 96 _ = z
    rw [← zr_self z 96, zr_row]; apply zr_congr; intro j
    rw [if_neg (by omega), zr_self]
  · intro i hi
    simp only [q_Model_end_85, let_s, kL_95, kL_96, zr1, reduceIte, Nat.reduceEqDiff, hz, gtN]
    rw [if_neg (by omega), if_pos (by omega), if_pos (by omega), show ((n : Int) + (i : Int)).toNat = n + i by omega, zp_row, zr_row]
    congr 3
    apply zr_congr; intro j
    rw [zr_eq]
    by_cases h1 : j = n + i
    · subst h1
      rw [if_pos rfl, if_pos (by omega)]
      rw [show n + i - n = i by omega]
    · rw [if_neg h1]
      by_cases h2 : n ≤ j ∧ j < n + i
      · rw [if_pos h2, if_pos (by omega)]
      · rw [if_neg h2, if_neg (by omega)]
  · simp only [q_Model_end_85]
    rw [if_pos (by omega)]
theorem s_end125 {z : gZ} : gIter (fun y => q_Model_end_125 E (kL c) y.1 y.2) gN (0, z) = some (zFill z 95 (fun _ => 0) 20) := by
  refine it_fill 95 (fun _ => 0) 20 (by omega) ?_ ?_
  · intro i hi
    simp only [q_Model_end_125, let_s, kL_95, gtN]
    rw [if_neg (by omega), if_pos (by omega)]
  · simp only [q_Model_end_125]
    rw [if_pos (by omega)]
theorem l_end {n : Nat} {z : gZ} (a : Int) (h : iT n z) : zOk (q_Face_end E (kL c) a z) (fun r1 => zOk (q_Model_end E (kL c) a r1.2) (fun r2 => r1.1 = r2.1 ∧ (∃ n', iT n' r2.2) ∧ zOff pT z r2.2)) := by
  have hT := h
  obtain ⟨h1, h2, h3, h4, h5⟩ := h
  unfold q_Face_end q_Text_takeReady
  have no : ∀ (z1 : gZ), z1 = z → (a < 0 ∨ 20 < a ∨ (n : Int) + a > 4000) → q_Model_end E (kL c) a z1 = some (-1, z1) := by
    intro z1 e hh
    subst e
    unfold q_Model_end
    by_cases g1 : a < 0
    · rw [if_pos g1]
    · rw [if_neg g1]
      by_cases g2 : 20 < a
      · rw [if_pos g2]
      · rw [if_neg g2, h3, if_pos (by omega), if_neg (by omega)]
  by_cases g1 : a < 0
  · rw [if_pos g1, b2_s, ok_s]
    refine ok_e (no z rfl (Or.inl g1)) ⟨rfl, ⟨n, hT⟩, off_r⟩
  · by_cases g2 : 20 < a
    · rw [if_neg g1, if_pos g2, b2_s, ok_s]
      refine ok_e (no z rfl (Or.inr (Or.inl g2))) ⟨rfl, ⟨n, hT⟩, off_r⟩
    · rw [if_neg g1, if_neg g2, h2, if_pos (by omega)]
      by_cases g3 : (n : Int) + a ≤ 4000
      · rw [if_pos g3]
        obtain ⟨m, rfl⟩ : ∃ m : Nat, a = m := ⟨a.toNat, by omega⟩
        have hbb : (∀ j, j < m → okb (z.1 12 j)) ↔ (∀ j, j < m → okb (z.1 95 j)) := by
          refine forall_congr' fun j => ?_
          by_cases hj : j < m
          · have := h5 j (by omega)
            rw [this.2, okb_b this.1]
          · exact ⟨fun _ h => absurd h hj, fun _ h => absurd h hj⟩
        rcases s_ready26 (E := E) (c := c) (z := z) m (by omega) with ⟨he, hall⟩ | ⟨he, hall⟩
        · rw [he, b1_s, gs_r]
          have hall' := hbb.1 hall
          rw [if_pos ?_, let_s]
          rotate_left
          · rw [kL_12, kL_11]
            refine ⟨⟨by omega, by omega, by omega, by omega, by omega⟩, fun i hi => ?_⟩
            have := (h5 i (by omega)).2
            rw [Nat.zero_add, this]; exact zByte_r _
          have e1 : (zRow z 11 (zCpy (z.1 12) (z.1 11) 0 ((n : Int).toNat) (m : Int).toNat)).1 10 2 = n := h2
          rw [e1, if_pos (by omega), let_s, s_fillB 12 0 _ (by rw [kL_12]; omega), b1_s, b2_s, ok_s, kL_12]
          have hq : ∀ z1 : gZ, (∀ j, z1.1 95 j = z.1 95 j) → z1.1 94 16 = n → q_Model_end E (kL c) m z1 = some ((n : Int) + m, zFill (zPut (zRow z1 96 (fun j => if n ≤ j ∧ j < n + m then z1.1 95 (j - n) else z1.1 96 j)) 94 16 ((n : Int) + m)) 95 (fun _ => 0) 20) := by
            intro z1 k1 k2
            unfold q_Model_end
            rw [if_neg g1, if_neg g2, k2, if_pos (by omega), if_pos g3]
            have k3 : ∀ j, j < m → okb (z1.1 95 j) := fun j hj => by rw [k1]; exact hall' j hj
            rcases s_end26 (E := E) (c := c) (z := z1) m (by omega) with ⟨he', _⟩ | ⟨_, hx⟩
            · rw [he', b1_s, gs_r, s_end85 n m (by omega) (by omega) k2, b1_s]
              have k4 : (zRow z1 96 (fun j => if n ≤ j ∧ j < n + m then z1.1 95 (j - n) else z1.1 96 j)).1 94 16 = n := k2
              rw [k4, if_pos (by omega), let_s, s_end125, b1_s]
              rfl
            · exact absurd k3 hx
          refine ok_e (hq _ (fun j => rfl) h3) ⟨rfl, ⟨n + m, ?_⟩, ?_⟩
          · refine ⟨by omega, by simp only [zf1, zp1, zr1, reduceIte, Nat.reduceEqDiff]; omega, by simp only [zf1, zp1, zr1, reduceIte, Nat.reduceEqDiff]; omega, ?_, ?_⟩
            · intro j hj
              simp only [zf1, zp1, zr1, reduceIte, Nat.reduceEqDiff, zCpy, gtN]
              by_cases g : n ≤ j ∧ j < n + m
              · rw [if_pos g, if_pos g, Nat.zero_add]
                have g4 := h5 (j - n) (by omega)
                have g5 := hall' (j - n) (by omega)
                refine ⟨?_, g5⟩
                rw [g4.2, zByte_s]; unfold okb at g5; omega
              · rw [if_neg g, if_neg g]
                exact h4 j (by omega)
            · intro j hj
              simp only [zf1, zp1, zr1, reduceIte, Nat.reduceEqDiff, hj]
              decide
          · refine off_t (off_row (k := 11) fun j => Or.inr (Or.inl rfl)) (off_t (off_put (k := 10) (j := 2) (Or.inl ⟨rfl, rfl⟩)) (off_t (off_fill (k := 12) fun j => Or.inr (Or.inr (Or.inl rfl))) (off_t (off_row (k := 96) fun j => ?_) (off_t (off_put (k := 94) (j := 16) ?_) (off_fill (k := 95) fun j => ?_)))))
            · unfold pT; omega
            · unfold pT; omega
            · unfold pT; omega
        · rw [he, b1_s, gs_l, b2_s, ok_s]
          have hall' : ¬ ∀ j, j < m → okb (z.1 95 j) := fun h => hall (hbb.2 h)
          rcases s_end26 (E := E) (c := c) (z := z) m (by omega) with ⟨_, hx⟩ | ⟨he', _⟩
          · exact absurd hx hall'
          · have : q_Model_end E (kL c) m z = some (-1, z) := by
              unfold q_Model_end
              rw [if_neg g1, if_neg g2, h3, if_pos (by omega), if_pos g3, he', b1_s, gs_l]
            exact ok_e this ⟨rfl, ⟨n, hT⟩, off_r⟩
      · rw [if_neg g3, b2_s, ok_s]
        refine ok_e (no z rfl (Or.inr (Or.inr (by omega)))) ⟨rfl, ⟨n, hT⟩, off_r⟩
end
-- G
section
variable {E : gEv} {c : gCf}
/-- first wire at a side of a tile; first wire at a pad -/
def kTw (c : gCf) (t s : Nat) : Nat := if s = 0 then (t / kC c * kC c + t % kC c) * kT c else if s = 1 then ((t / kC c + 1) * kC c + t % kC c) * kT c else if s = 2 then kF c + (t / kC c * (kC c + 1) + t % kC c) * kT c else kF c + (t / kC c * (kC c + 1) + (t % kC c + 1)) * kT c
def kPw (c : gCf) (p : Nat) : Nat := if p / 2 < kC c then (0 * kC c + p / 2) * kT c else if p / 2 < 2 * kC c then (kR c * kC c + (p / 2 - kC c)) * kT c else if p / 2 < 2 * kC c + kR c then kF c + ((p / 2 - 2 * kC c) * (kC c + 1) + 0) * kT c else kF c + ((p / 2 - 2 * kC c - kR c) * (kC c + 1) + kC c) * kT c
def kPx (c : gCf) (p : Nat) : Nat := if p / 2 < kC c then p / 2 + 1 else if p / 2 < 2 * kC c then p / 2 - kC c + 1 else if p / 2 < 2 * kC c + kR c then 0 else kC c + 1
def kPy (c : gCf) (p : Nat) : Nat := if p / 2 < kC c then 0 else if p / 2 < 2 * kC c then kR c + 1 else if p / 2 < 2 * kC c + kR c then p / 2 - 2 * kC c + 1 else p / 2 - 2 * kC c - kR c + 1
theorem kW_e (c : gCf) : kW c = kF c + kR c * (kC c + 1) * kT c := by
  unfold kW kF; rw [Nat.add_mul, Nat.mul_comm (kC c + 1) (kR c)]
theorem kW_H {x y t : Nat} (hx : x < kC c) (hy : y < kR c + 1) (ht : t < kT c) : (y * kC c + x) * kT c + t < kF c := by
  have h1 : y * kC c + x < (kR c + 1) * kC c := gidx hy hx
  have h2 := gidx h1 ht
  unfold kF; rw [Nat.mul_comm (kC c)]; exact h2
theorem kW_V {x y t : Nat} (hx : x < kC c + 1) (hy : y < kR c) (ht : t < kT c) : kF c + (y * (kC c + 1) + x) * kT c + t < kW c := by
  have h1 : y * (kC c + 1) + x < kR c * (kC c + 1) := gidx hy hx
  have h2 := gidx h1 ht
  rw [kW_e]; omega
theorem kFW (c : gCf) : kF c ≤ kW c := by rw [kW_e]; omega
theorem kN_dm {t : Nat} (h : kOk c) (ht : t < kN c) : t / kC c < kR c ∧ t % kC c < kC c := by
  unfold kN at ht
  exact ⟨Nat.div_lt_of_lt_mul ht, Nat.mod_lt _ h.1.1⟩
theorem kTw_lt {t s r : Nat} (h : kOk c) (ht : t < kN c) (hr : r < kT c) : kTw c t s + r < kW c := by
  have ⟨h1, h2⟩ := kN_dm h ht
  have hF := kFW c
  unfold kTw
  split
  · have := kW_H (c := c) h2 (show t / kC c < kR c + 1 by omega) hr; omega
  · split
    · have := kW_H (c := c) h2 (show t / kC c + 1 < kR c + 1 by omega) hr; omega
    · split
      · have := kW_V (c := c) (show t % kC c < kC c + 1 by omega) h1 hr; omega
      · have := kW_V (c := c) (show t % kC c + 1 < kC c + 1 by omega) h1 hr; omega
theorem kPw_lt {p r : Nat} (h : kOk c) (hp : p < kD c) (hr : r < kT c) : kPw c p + r < kW c := by
  have hF := kFW c
  have h1 := h.1
  have h2 := h.2.1
  unfold kD at hp
  unfold kPw
  split
  · have := kW_H (c := c) (show p / 2 < kC c by omega) (show 0 < kR c + 1 by omega) hr; omega
  · split
    · have := kW_H (c := c) (show p / 2 - kC c < kC c by omega) (show kR c < kR c + 1 by omega) hr; omega
    · split
      · have := kW_V (c := c) (show 0 < kC c + 1 by omega) (show p / 2 - 2 * kC c < kR c by omega) hr; omega
      · have := kW_V (c := c) (show kC c < kC c + 1 by omega) (show p / 2 - 2 * kC c - kR c < kR c by omega) hr; omega
/-- what the constructors leave and nothing changes -/
def gr1 (c : gCf) (z : gZ) : Prop := z.1 1 0 = kC c ∧ z.1 1 1 = kR c ∧ z.1 1 2 = kE c ∧ z.1 1 3 = kT c ∧ z.1 1 4 = kN c ∧ z.1 1 5 = kD c ∧ z.1 1 6 = kP c ∧ z.1 1 7 = kW c ∧ z.1 1 8 = kB c ∧ z.1 1 9 = kX c ∧ z.1 1 10 = kY c ∧ z.1 1 11 = kZ c
def gr2 (c : gCf) (z : gZ) : Prop := z.1 94 0 = kC c ∧ z.1 94 1 = kR c ∧ z.1 94 2 = kE c ∧ z.1 94 3 = kT c ∧ z.1 94 4 = kN c ∧ z.1 94 5 = kP c ∧ z.1 94 6 = kD c ∧ z.1 94 7 = kF c ∧ z.1 94 8 = kW c ∧ z.1 94 9 = kX c ∧ z.1 94 10 = ((6 + kT c : Nat) : Int) ∧ z.1 94 11 = kY c ∧ z.1 94 12 = kZ c ∧ z.1 94 13 = kB c
def gr3 (c : gCf) (z : gZ) : Prop := (∀ t s, t < kN c → s < 4 → z.1 4 (t * 4 + s) = kTw c t s) ∧ (∀ p, p < kD c → z.1 4 ((kN c + p) * 4) = kPw c p) ∧ (∀ p s, p < kD c → 1 ≤ s → s < 4 → z.1 4 ((kN c + p) * 4 + s) = -1)
def gr4 (c : gCf) (z : gZ) : Prop := ∀ j, j < kJ c → (z.1 5 j = -1 ∧ z.1 6 j = -1) ∨ ∃ a b : Nat, a < kW c ∧ b < kW c ∧ a ≠ b ∧ z.1 5 j = a ∧ z.1 6 j = b ∧ a % kT c = b % kT c
def gr5 (c : gCf) (z : gZ) : Prop := ∀ w, w < kW c → ∃ d : Nat, d ≤ 6 ∧ z.1 7 w = d ∧ z.1 140 w = d ∧ (∀ k, k < d → ∃ v j : Nat, v < kW c ∧ j < kJ c ∧ z.1 8 (w * 6 + k) = v ∧ z.1 138 (w * 6 + k) = v ∧ z.1 9 (w * 6 + k) = j ∧ z.1 139 (w * 6 + k) = ((kZ c + j : Nat) : Int) ∧ ((z.1 5 j = w ∧ z.1 6 j = v) ∨ (z.1 5 j = v ∧ z.1 6 j = w))) ∧ (∀ j v : Nat, j < kJ c → ((z.1 5 j = w ∧ z.1 6 j = v) ∨ (z.1 5 j = v ∧ z.1 6 j = w)) → ∃ k, k < d ∧ z.1 8 (w * 6 + k) = v ∧ z.1 9 (w * 6 + k) = j)
def gr6 (c : gCf) (z : gZ) : Prop := (∀ t, t < kN c → z.1 2 t = ((t % kC c + 1 : Nat) : Int) ∧ z.1 3 t = ((t / kC c + 1 : Nat) : Int)) ∧ (∀ p, p < kD c → z.1 2 (kN c + p) = kPx c p ∧ z.1 3 (kN c + p) = kPy c p)
def Gr (c : gCf) (z : gZ) : Prop := kOk c ∧ gr1 c z ∧ gr2 c z ∧ gr3 c z ∧ gr4 c z ∧ gr5 c z ∧ gr6 c z
def pS (k j : Nat) : Prop := (1 ≤ k ∧ k ≤ 9) ∨ (k = 94 ∧ j ≤ 13) ∨ (138 ≤ k ∧ k ≤ 140)
theorem Gr_c {z z' : gZ} (h : ∀ k j, pS k j → z'.1 k j = z.1 k j) (g : Gr c z) : Gr c z' := by
  have h1 : ∀ j, z'.1 1 j = z.1 1 j := fun j => h _ _ (by unfold pS; omega)
  have h2 : ∀ j, z'.1 2 j = z.1 2 j := fun j => h _ _ (by unfold pS; omega)
  have h3 : ∀ j, z'.1 3 j = z.1 3 j := fun j => h _ _ (by unfold pS; omega)
  have h4 : ∀ j, z'.1 4 j = z.1 4 j := fun j => h _ _ (by unfold pS; omega)
  have h5 : ∀ j, z'.1 5 j = z.1 5 j := fun j => h _ _ (by unfold pS; omega)
  have h6 : ∀ j, z'.1 6 j = z.1 6 j := fun j => h _ _ (by unfold pS; omega)
  have h7 : ∀ j, z'.1 7 j = z.1 7 j := fun j => h _ _ (by unfold pS; omega)
  have h8 : ∀ j, z'.1 8 j = z.1 8 j := fun j => h _ _ (by unfold pS; omega)
  have h9 : ∀ j, z'.1 9 j = z.1 9 j := fun j => h _ _ (by unfold pS; omega)
  have h10 : ∀ j, j ≤ 13 → z'.1 94 j = z.1 94 j := fun j hj => h _ _ (by unfold pS; omega)
  have h11 : ∀ j, z'.1 138 j = z.1 138 j := fun j => h _ _ (by unfold pS; omega)
  have h12 : ∀ j, z'.1 139 j = z.1 139 j := fun j => h _ _ (by unfold pS; omega)
  have h13 : ∀ j, z'.1 140 j = z.1 140 j := fun j => h _ _ (by unfold pS; omega)
  obtain ⟨g0, g1, g2, g3, g4, g5, g6⟩ := g
  refine ⟨g0, ?_, ?_, ?_, ?_, ?_, ?_⟩
  · unfold gr1; simp only [h1]; exact g1
  · unfold gr2; rw [h10 0 (by omega), h10 1 (by omega), h10 2 (by omega), h10 3 (by omega), h10 4 (by omega), h10 5 (by omega), h10 6 (by omega), h10 7 (by omega), h10 8 (by omega), h10 9 (by omega), h10 10 (by omega), h10 11 (by omega), h10 12 (by omega), h10 13 (by omega)]; exact g2
  · unfold gr3; simp only [h4]; exact g3
  · unfold gr4; simp only [h5, h6]; exact g4
  · unfold gr5; simp only [h5, h6, h7, h8, h9, h11, h12, h13]; exact g5
  · unfold gr6; simp only [h2, h3]; exact g6
theorem Gr_off {P : Nat → Nat → Prop} {z z' : gZ} (h : zOff P z z') (hP : ∀ k j, pS k j → ¬ P k j) (g : Gr c z) : Gr c z' := Gr_c (fun k j hk => h.2 k j (hP k j hk)) g
end
