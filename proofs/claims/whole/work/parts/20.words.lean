/-! Words that the decompiled functions use; rows for runs of steps. -/
def gLet {α β : Type} (a : α) (f : α → β) : β := f a
def gB1 {α β : Type} (x : Option α) (f : α → Option β) : Option β := match x with
  | some a => f a
  | none => none
def gB2 {α β γ : Type} (x : Option (α × β)) (f : α → β → Option γ) : Option γ := match x with
  | some a => f a.1 a.2
  | none => none
def gSum {α β γ : Type} (e : α ⊕ β) (f : α → γ) (g : β → γ) : γ := match e with
  | .inl a => f a
  | .inr b => g b
def gIter {σ ε : Type} (f : σ → Option (σ ⊕ ε)) : Nat → σ → Option ε
  | 0, _ => none
  | n + 1, s => match f s with
    | none => none
    | some (.inl s') => gIter f n s'
    | some (.inr e) => some e
def gN : Nat := 1000000000000000000000000000000000000000000000000000000000000
theorem g_let {α β : Type} {a : α} {f : α → Option β} {z : β} (h : gLet a f = some z) : ∃ x, x = a ∧ f x = some z := ⟨a, rfl, h⟩
theorem g_if {c : Prop} [Decidable c] {β : Type} {x : Option β} {z : β} (h : (if c then x else none) = some z) : c ∧ x = some z := by
  split at h
  · exact ⟨by assumption, h⟩
  · cases h
theorem g_ite {c : Prop} [Decidable c] {β : Type} {x y : Option β} {z : β} (h : (if c then x else y) = some z) : (c ∧ x = some z) ∨ (¬ c ∧ y = some z) := by
  split at h
  · exact Or.inl ⟨by assumption, h⟩
  · exact Or.inr ⟨by assumption, h⟩
theorem g_b1 {α β : Type} {x : Option α} {f : α → Option β} {z : β} (h : gB1 x f = some z) : ∃ a, x = some a ∧ f a = some z := by
  cases x with
  | none => cases h
  | some a => exact ⟨a, rfl, h⟩
theorem g_b2 {α β γ : Type} {x : Option (α × β)} {f : α → β → Option γ} {z : γ} (h : gB2 x f = some z) : ∃ a b, x = some (a, b) ∧ f a b = some z := by
  cases x with
  | none => cases h
  | some a => exact ⟨a.1, a.2, rfl, h⟩
theorem g_iter {σ ε : Type} {f : σ → Option (σ ⊕ ε)} {n : Nat} {s : σ} {e : ε} (h : gIter f (n + 1) s = some e) : (∃ s', f s = some (.inl s') ∧ gIter f n s' = some e) ∨ f s = some (.inr e) := by
  simp only [gIter] at h
  split at h
  · cases h
  · exact Or.inl ⟨_, by assumption, h⟩
  · cases h; exact Or.inr (by assumption)
def gRunN (E : gEv) (T : gT) (ins : List (Nat × Instr)) : Nat → gFr → Option gFr
  | 0, f => some f
  | n + 1, f => match ins.lookup f.1 with
    | some i => (match gStep E T i f with
      | some f' => gRunN E T ins n f'
      | none => none)
    | none => none
theorem gRunN_ok {E : gEv} {T : gT} {ins : List (Nat × Instr)} {G : gFr → Prop} (h : gCl1 E T ins G) : ∀ (n : Nat) (f f' : gFr), gRunN E T ins n f = some f' → G f' → G f
  | 0, f, f', hr, hg => by cases hr; exact hg
  | n + 1, f, f', hr, hg => by
    simp only [gRunN] at hr
    split at hr
    · rename_i i hi
      split at hr
      · rename_i f1 h1
        exact h _ _ _ hi h1 (gRunN_ok h n f1 f' hr hg)
      · cases hr
    · cases hr
theorem gS_gfv {E : gEv} {T : gT} {ix ci j pc i : Nat} {L : List (Option Value)} {r : List Value} {hs : gHS} (hi : i < 7) (hT : T.1.lookup ix = some (ci, j, 10)) : gStep E T (.getfield ix) (pc, L, .retAddr i :: r, hs) = some (pc + 3, L, .retAddr (100 + i) :: r, hs) := by
  simp [gStep, gGet, hT, hi]
theorem gS_gfc {E : gEv} {T : gT} {ix ci j pc i : Nat} {L : List (Option Value)} {r : List Value} {hs : gHS} (hi : i < 7) (hT : T.1.lookup ix = some (ci, j, 11)) : gStep E T (.getfield ix) (pc, L, .retAddr i :: r, hs) = some (pc + 3, L, .int 0 :: r, hs) := by
  simp [gStep, gGet, hT, hi]
theorem gS_alc {E : gEv} {T : gT} {pc k : Nat} {L : List (Option Value)} {r : List Value} {hs : gHS} (h : 100 ≤ k ∧ k < 107) : gStep E T .arraylength (pc, L, .retAddr k :: r, hs) = some (pc + 1, L, .int (Int32.ofNat (E k).1) :: r, hs) := by
  have h1 : k = 100 ∨ k = 101 ∨ k = 102 ∨ k = 103 ∨ k = 104 ∨ k = 105 ∨ k = 106 := by omega
  rcases h1 with rfl | rfl | rfl | rfl | rfl | rfl | rfl <;> rfl
theorem gS_blc {E : gEv} {T : gT} {pc k : Nat} {i : Int32} {L : List (Option Value)} {r : List Value} {hs : gHS} (h : 100 ≤ k ∧ k < 107) (hc : gIn i (E k).1) : gStep E T .baload (pc, L, .int i :: .retAddr k :: r, hs) = some (pc + 1, L, .int ((E k).2 i.toNatClampNeg) :: r, hs) := by
  have h1 : k = 100 ∨ k = 101 ∨ k = 102 ∨ k = 103 ∨ k = 104 ∨ k = 105 ∨ k = 106 := by omega
  rcases h1 with rfl | rfl | rfl | rfl | rfl | rfl | rfl <;> exact if_pos hc
def gCpc (σ : gS) (a d : Nat) (sp dp n : Int32) : Prop := ¬ sp < 0 ∧ ¬ dp < 0 ∧ ¬ n < 0 ∧ sp.toNatClampNeg + n.toNatClampNeg ≤ σ.2.1 a ∧ dp.toNatClampNeg + n.toNatClampNeg ≤ σ.2.1 d
theorem gCopy_I {E : gEv} {T : gT} {ix n9 k9 pc a d u : Nat} {L : List (Option Value)} {r : List Value} {sh : List gD} {σ : gS} {n dp sp : Int32} (hT : T.2.1.lookup ix = some (9003, n9, k9)) (ha : sh[a]? = some (.inl (.int, none))) (hd : sh[d]? = some (.inl (.int, none))) (hr : decide (gCat r ≤ 8) = true) (hc : ¬ sp < 0 ∧ ¬ dp < 0 ∧ ¬ n < 0 ∧ sp.toNatClampNeg + n.toNatClampNeg ≤ σ.2.1 a ∧ dp.toNatClampNeg + n.toNatClampNeg ≤ σ.2.1 d) :
    gStep E T (.invokestatic ix) (pc, L, .int n :: .int dp :: .ref d :: .int sp :: .ref a :: r, (sh, σ, u)) = some (pc + 3, L, r, (sh, gRow σ d (va_cpy (σ.1 a) (σ.1 d) sp.toNatClampNeg dp.toNatClampNeg n.toNatClampNeg), u)) := by
  simp only [gStep, hT, gCopy, ha, hd, hr]
  exact if_pos hc
theorem gCopy_B {E : gEv} {T : gT} {ix n9 k9 pc a d u : Nat} {L : List (Option Value)} {r : List Value} {sh : List gD} {σ : gS} {n dp sp : Int32} (hT : T.2.1.lookup ix = some (9003, n9, k9)) (ha : sh[a]? = some (.inl (.byte, none))) (hd : sh[d]? = some (.inl (.byte, none))) (hr : decide (gCat r ≤ 8) = true) (hc : (¬ sp < 0 ∧ ¬ dp < 0 ∧ ¬ n < 0 ∧ sp.toNatClampNeg + n.toNatClampNeg ≤ σ.2.1 a ∧ dp.toNatClampNeg + n.toNatClampNeg ≤ σ.2.1 d) ∧ ∀ i, i < n.toNatClampNeg → fits .byte (.int (σ.1 a (sp.toNatClampNeg + i))) = true) :
    gStep E T (.invokestatic ix) (pc, L, .int n :: .int dp :: .ref d :: .int sp :: .ref a :: r, (sh, σ, u)) = some (pc + 3, L, r, (sh, gRow σ d (va_cpy (σ.1 a) (σ.1 d) sp.toNatClampNeg dp.toNatClampNeg n.toNatClampNeg), u)) := by
  simp only [gStep, hT, gCopy, ha, hd, hr]
  exact if_pos hc
theorem g5 {i : Int32} (hc : gIn i 5) : i.toNatClampNeg = 0 ∨ i.toNatClampNeg = 1 ∨ i.toNatClampNeg = 2 ∨ i.toNatClampNeg = 3 ∨ i.toNatClampNeg = 4 := by
  have h : i.toNatClampNeg < 5 := Nat.not_le.mp fun z => hc (Or.inr z)
  omega
def gSh : List gD := [.inr (0, [some (some 1), some (some 10), some (some 13), some (some 22), some (some 30), some (some 40), some (some 53), some (some 67), some (some 70), some (some 81), none, none]), .inr (5, [none, none, none, none, none, none, none, none, none, none, none, none, some (some 2), some (some 3), some (some 4), some (some 5), some (some 6), some (some 7), some (some 8), some (some 9)]), .inl (.int, none), .inl (.int, none), .inl (.int, none), .inl (.int, none), .inl (.int, none), .inl (.int, none), .inl (.int, none), .inl (.int, none), .inr (11, [some (some 11), some (some 12), none, none, none, none, none]), .inl (.byte, none), .inl (.byte, none), .inr (4, [some (some 14), some (some 15), some (some 16), some (some 17), some (some 18), some (some 19), some (some 20), some (some 21), none]), .inl (.int, none), .inl (.int, none), .inl (.int, none), .inl (.int, none), .inl (.int, none), .inl (.int, none), .inl (.int, none), .inl (.int, none), .inr (9, [some (some 10), some (some 13), none, some (some 23), some (some 24), some (some 25), some (some 29), some (some 26), some (some 27), some (some 28), none, none, none, none, none, none, none, none]), .inl (.int, none), .inl (.int, none), .inl (.int, none), .inl (.int, none), .inl (.int, none), .inl (.int, none), .inl (.int, none), .inr (1, [none, some (some 35), some (some 36), some (some 37), some (some 38), some (some 39), some (some 31), some (some 32), some (some 33), some (some 34), none, none, none, none, none, none]), .inl (.int, none), .inl (.int, none), .inl (.int, none), .inl (.int, none), .inl (.int, none), .inl (.int, none), .inl (.int, none), .inl (.int, none), .inl (.int, none), .inr (6, [some (some 30), some (some 41), some (some 47)]), .inl (.array .byte, some [some 42, some 43, some 44, some 45, some 46]), .inl (.byte, none), .inl (.byte, none), .inl (.byte, none), .inl (.byte, none), .inl (.byte, none), .inl (.array .int, some [some 48, some 49, some 50, some 51, some 52]), .inl (.int, none), .inl (.int, none), .inl (.int, none), .inl (.int, none), .inl (.int, none), .inr (7, [some (some 1), some (some 30), some (some 55), some (some 54), some (some 56), some (some 57), some (some 58), some (some 59), some (some 60), some (some 61), some (some 62), some (some 63), some (some 64), some (some 65), some (some 66), none, none, none]), .inl (.int, none), .inl (.int, none), .inl (.int, none), .inl (.int, none), .inl (.int, none), .inl (.int, none), .inl (.int, none), .inl (.int, none), .inl (.int, none), .inl (.int, none), .inl (.int, none), .inl (.int, none), .inl (.int, none), .inr (8, [some (some 1), some (some 53), some (some 68), some (some 69), none]), .inl (.int, none), .inl (.int, none), .inr (10, [some (some 1), some (some 53), some (some 67), some (some 71), none, some (some 74), some (some 75), some (some 76), some (some 77), some (some 78), some (some 79), some (some 80), none, none, none, none]), .inr (3, [some (some 72), some (some 73), none]), .inl (.long, none), .inl (.int, none), .inl (.int, none), .inl (.int, none), .inl (.int, none), .inl (.int, none), .inl (.int, none), .inl (.int, none), .inl (.int, none), .inr (2, [some (some 1), some (some 82), some (some 83), some (some 84), some (some 85), some (some 86), some (some 87), some (some 88), some (some 89), some (some 90), some (some 91), some (some 92), some (some 93), none, none, none, none]), .inl (.byte, none), .inl (.byte, none), .inl (.byte, none), .inl (.byte, none), .inl (.byte, none), .inl (.byte, none), .inl (.byte, none), .inl (.int, none), .inl (.int, none), .inl (.int, none), .inl (.int, none), .inl (.int, none), .inr (12, [none, none, none, none, none, none, none, none, none, none, none, none, none, none, some (some 95), some (some 96), none, none, none, none, none, some (some 97), some (some 98), none, some (some 99), some (some 100), some (some 101), some (some 102), some (some 103), none, none, none, none, some (some 104), some (some 105), some (some 106), some (some 107), some (some 108), some (some 109), some (some 110), some (some 111), some (some 112), some (some 113), some (some 114), some (some 115), some (some 116), none, some (some 117), some (some 118), some (some 119), some (some 120), some (some 121), some (some 122), some (some 123), some (some 124), none, some (some 125), some (some 126), some (some 127), some (some 128), none, none, some (some 129), some (some 130), some (some 131), some (some 132), none, some (some 133), some (some 134), some (some 135), some (some 136), some (some 137), none, none, some (some 138), some (some 139), some (some 140), none, some (some 141), some (some 142), some (some 143), some (some 144), some (some 145), some (some 146), some (some 147), some (some 148), some (some 149), some (some 150), some (some 151), some (some 152), some (some 153), some (some 154), some (some 155), some (some 156), some (some 157), some (some 158), some (some 159), none, none, none, some (some 160), some (some 161), some (some 162), some (some 163), some (some 164), none, none]), .inl (.int, none), .inl (.int, none), .inl (.int, none), .inl (.int, none), .inl (.int, none), .inl (.int, none), .inl (.int, none), .inl (.int, none), .inl (.int, none), .inl (.int, none), .inl (.int, none), .inl (.int, none), .inl (.int, none), .inl (.int, none), .inl (.int, none), .inl (.int, none), .inl (.int, none), .inl (.int, none), .inl (.int, none), .inl (.boolean, none), .inl (.int, none), .inl (.boolean, none), .inl (.int, none), .inl (.int, none), .inl (.int, none), .inl (.boolean, none), .inl (.int, none), .inl (.int, none), .inl (.int, none), .inl (.int, none), .inl (.int, none), .inl (.int, none), .inl (.int, none), .inl (.int, none), .inl (.int, none), .inl (.int, none), .inl (.int, none), .inl (.int, none), .inl (.int, none), .inl (.int, none), .inl (.boolean, none), .inl (.int, none), .inl (.int, none), .inl (.int, none), .inl (.int, none), .inl (.int, none), .inl (.boolean, none), .inl (.int, none), .inl (.int, none), .inl (.int, none), .inl (.int, none), .inl (.int, none), .inl (.int, none), .inl (.long, none), .inl (.long, none), .inl (.boolean, none), .inl (.boolean, none), .inl (.int, none), .inl (.boolean, none), .inl (.boolean, none), .inl (.boolean, none), .inl (.boolean, none), .inl (.boolean, none), .inl (.boolean, none), .inl (.boolean, none), .inl (.boolean, none), .inl (.boolean, none), .inl (.boolean, none), .inl (.boolean, none), .inl (.boolean, none)]
/-- the shapes while the grid is made -/
def gShG : List gD := [.inr (0, [some none, some none, some none, some none, some none, some none, some none, some none, some none, some none, none, none]), .inr (5, [none, none, none, none, none, none, none, none, none, none, none, none, some (some 2), some (some 3), some (some 4), some (some 5), some (some 6), some (some 7), some (some 8), some (some 9)]), .inl (.int, none), .inl (.int, none), .inl (.int, none), .inl (.int, none), .inl (.int, none), .inl (.int, none), .inl (.int, none), .inl (.int, none)]
theorem gSh_41 {i : Int32} (hc : gIn i 5) : gSh[42 + i.toNatClampNeg]? = some (.inl (.byte, none)) := by
  rcases g5 hc with h | h | h | h | h <;> rw [h] <;> rfl
theorem gAa_41 {E : gEv} {T : gT} {pc u : Nat} {L : List (Option Value)} {r : List Value} {σ : gS} {i : Int32} (hc : gIn i 5) : gStep E T .aaload (pc, L, .int i :: .ref 41 :: r, (gSh, σ, u)) = some (pc + 1, L, .ref (42 + i.toNatClampNeg) :: r, (gSh, σ, u)) := by
  show (if gIn i 5 then (match [some 42, some 43, some 44, some 45, some 46].getD i.toNatClampNeg none with
      | some q => some (pc + 1, L, .ref q :: r, (gSh, σ, u))
      | none => none) else none) = _
  rw [if_pos hc]
  rcases g5 hc with h | h | h | h | h <;> rw [h] <;> rfl
theorem gSh_47 {i : Int32} (hc : gIn i 5) : gSh[48 + i.toNatClampNeg]? = some (.inl (.int, none)) := by
  rcases g5 hc with h | h | h | h | h <;> rw [h] <;> rfl
theorem gAa_47 {E : gEv} {T : gT} {pc u : Nat} {L : List (Option Value)} {r : List Value} {σ : gS} {i : Int32} (hc : gIn i 5) : gStep E T .aaload (pc, L, .int i :: .ref 47 :: r, (gSh, σ, u)) = some (pc + 1, L, .ref (48 + i.toNatClampNeg) :: r, (gSh, σ, u)) := by
  show (if gIn i 5 then (match [some 48, some 49, some 50, some 51, some 52].getD i.toNatClampNeg none with
      | some q => some (pc + 1, L, .ref q :: r, (gSh, σ, u))
      | none => none) else none) = _
  rw [if_pos hc]
  rcases g5 hc with h | h | h | h | h <;> rw [h] <;> rfl
