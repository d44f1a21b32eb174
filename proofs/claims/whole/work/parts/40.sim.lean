abbrev gZ : Type := (Nat → Nat → Int) × (Nat → Nat → Int)
def zRow (z : gZ) (k : Nat) (f : Nat → Int) : gZ := (fun k' => if k' = k then f else z.1 k', z.2)
def zPut (z : gZ) (k j : Nat) (v : Int) : gZ := (fun k' j' => if k' = k then (if j' = j then v else z.1 k' j') else z.1 k' j', z.2)
def zPutL (z : gZ) (k j : Nat) (v : Int) : gZ := (z.1, fun k' j' => if k' = k then (if j' = j then v else z.2 k' j') else z.2 k' j')
def zCpy (f g : Nat → Int) (sp dp n : Nat) : Nat → Int := fun k => if dp ≤ k ∧ k < dp + n then f (sp + (k - dp)) else g k
def zWr (a : Int) : Int := (Int32.ofInt a).toInt
def zRem (a b : Int) : Int := (Int32.ofInt a - Int32.ofInt a / Int32.ofInt b * Int32.ofInt b).toInt
def zDiv (a b : Int) : Int := (Int32.ofInt a / Int32.ofInt b).toInt
def zAnd (a b : Int) : Int := (Int32.ofInt a &&& Int32.ofInt b).toInt
def zOr (a b : Int) : Int := (Int32.ofInt a ||| Int32.ofInt b).toInt
def zXor (a b : Int) : Int := (Int32.ofInt a ^^^ Int32.ofInt b).toInt
def zShl (a b : Int) : Int := (Int32.ofInt a <<< (Int32.ofInt b &&& 31)).toInt
def zShr (a b : Int) : Int := (Int32.ofInt a >>> (Int32.ofInt b &&& 31)).toInt
def zUshr (a b : Int) : Int := (((Int32.ofInt a).toUInt32 >>> ((Int32.ofInt b).toUInt32 &&& Int32.toUInt32 31)).toInt32).toInt
def zByte (a : Int) : Int := ((Int32.ofInt a).toInt8.toInt32).toInt
def zBool (a : Int) : Int := (Int32.ofInt a &&& 1).toInt
def zChar (a : Int) : Int := (((Int32.ofInt a).toUInt32 % 65536).toInt32).toInt
def zOf (n : Nat) : Int := (Int32.ofNat n).toInt
def zInt (a : Int) : Int := ((Int64.ofInt a).toInt32).toInt
def zAndJ (a b : Int) : Int := (Int64.ofInt a &&& Int64.ofInt b).toInt
def zOrJ (a b : Int) : Int := (Int64.ofInt a ||| Int64.ofInt b).toInt
def zShlJ (a b : Int) : Int := (Int64.ofInt a <<< (Int64.ofInt b &&& 63)).toInt
def zZr (z : gZ) (k : Nat) : gZ := (fun k' => if k' = k then fun _ => 0 else z.1 k', fun k' => if k' = k then fun _ => 0 else z.2 k')
def zZrL (L : Nat → Nat) (k n : Nat) : Nat → Nat := fun k' => if k' = k then n else L k'
def zZm (z : gZ) (k n : Nat) : gZ := (fun k' => if k ≤ k' ∧ k' ≤ k + n then fun _ => 0 else z.1 k', fun k' => if k ≤ k' ∧ k' ≤ k + n then fun _ => 0 else z.2 k')
def zZmL (L : Nat → Nat) (k n m : Nat) : Nat → Nat := fun k' => if k' = k then n else if k < k' ∧ k' ≤ k + n then m else L k'
def rI (x : Int32) (a : Int) : Prop := x.toInt = a
def rJ (x : Int64) (a : Int) : Prop := x.toInt = a
def rU (_ _ : Unit) : Prop := True
def rS (L : Nat → Nat) (σ : gS) (z : gZ) : Prop := (∀ k, σ.2.1 k = L k) ∧ (∀ k j, (σ.1 k j).toInt = z.1 k j) ∧ (∀ k j, (σ.2.2 k j).toInt = z.2 k j)
def rP {α β α' β' : Type} (A : α → α' → Prop) (B : β → β' → Prop) (x : α × β) (y : α' × β') : Prop := A x.1 y.1 ∧ B x.2 y.2
def rE {α β α' β' : Type} (A : α → α' → Prop) (B : β → β' → Prop) : α ⊕ β → α' ⊕ β' → Prop
  | .inl a, .inl a' => A a a'
  | .inr b, .inr b' => B b b'
  | _, _ => False
def gSim {α α' : Type} (R : α → α' → Prop) (p : Option α) (q : Option α') : Prop := ∀ y, q = some y → ∃ x, p = some x ∧ R x y
section
variable {α β γ δ α' β' γ' δ' : Type}
theorem rPi {A : α → α' → Prop} {B : β → β' → Prop} {a : α} {a' : α'} {b : β} {b' : β'} (h : A a a') (k : B b b') : rP A B (a, b) (a', b') := ⟨h, k⟩
theorem rEl {A : α → α' → Prop} {B : β → β' → Prop} {a : α} {a' : α'} (h : A a a') : rE A B (.inl a) (.inl a') := h
theorem rEr {A : α → α' → Prop} {B : β → β' → Prop} {a : β} {a' : β'} (h : B a a') : rE A B (.inr a) (.inr a') := h
theorem sim_n {R : α → α' → Prop} {p : Option α} : gSim R p none := fun _ h => nomatch h
theorem sim_s {R : α → α' → Prop} {x : α} {y : α'} (h : R x y) : gSim R (some x) (some y) := fun _ e => ⟨x, rfl, by cases e; exact h⟩
theorem sim_g {R : α → α' → Prop} {p : Option α} {q : Option α'} {c : Prop} [Decidable c] (h : c → gSim R p q) : gSim R p (if c then q else none) := fun y e => by
  by_cases hc : c
  · rw [if_pos hc] at e; exact h hc y e
  · rw [if_neg hc] at e; cases e
theorem sim_p {R : α → α' → Prop} {p : Option α} {q : Option α'} {c : Prop} [Decidable c] (hc : c) (h : gSim R p q) : gSim R (if c then p else none) q := fun y e => by
  rw [if_pos hc]; exact h y e
theorem sim_ite {R : α → α' → Prop} {p p' : Option α} {q q' : Option α'} {c d : Prop} [Decidable c] [Decidable d] (hc : c ↔ d) (h : d → gSim R p q) (h' : ¬ d → gSim R p' q') : gSim R (if c then p else p') (if d then q else q') := fun y e => by
  by_cases hd : d
  · rw [if_pos hd] at e; rw [if_pos (hc.2 hd)]; exact h hd y e
  · rw [if_neg hd] at e; rw [if_neg (fun x => hd (hc.1 x))]; exact h' hd y e
theorem sim_l {R : α → α' → Prop} (A : β → β' → Prop) {x : β} {x' : β'} {f : β → Option α} {f' : β' → Option α'} (h : A x x') (k : ∀ y y', A y y' → gSim R (f y) (f' y')) : gSim R (gLet x f) (gLet x' f') := k x x' h
theorem sim_ln {R : α → α' → Prop} {x x' : Nat} {f : Nat → Option α} {f' : Nat → Option α'} (h : x = x') (k : ∀ y, gSim R (f y) (f' y)) : gSim R (gLet x f) (gLet x' f') := by cases h; exact k x
theorem sim_b1 {R : α → α' → Prop} {A : β → β' → Prop} {x : Option β} {x' : Option β'} {f : β → Option α} {f' : β' → Option α'} (h : gSim A x x') (k : ∀ y y', A y y' → gSim R (f y) (f' y')) : gSim R (gB1 x f) (gB1 x' f') := fun r e => by
  cases x' with
  | none => cases e
  | some y' =>
    obtain ⟨y, hy, ha⟩ := h y' rfl
    subst hy
    exact k y y' ha r e
theorem sim_b2 {R : α → α' → Prop} {A : β → β' → Prop} {B : γ → γ' → Prop} {x : Option (β × γ)} {x' : Option (β' × γ')} {f : β → γ → Option α} {f' : β' → γ' → Option α'} (h : gSim (rP A B) x x') (k : ∀ y y', A y y' → ∀ w w', B w w' → gSim R (f y w) (f' y' w')) : gSim R (gB2 x f) (gB2 x' f') := fun r e => by
  cases x' with
  | none => cases e
  | some y' =>
    obtain ⟨y, hy, ha⟩ := h y' rfl
    subst hy
    exact k y.1 y'.1 ha.1 y.2 y'.2 ha.2 r e
theorem sim_sum {R : α → α' → Prop} {A : β → β' → Prop} {B : γ → γ' → Prop} {e : β ⊕ γ} {e' : β' ⊕ γ'} {f : β → Option α} {f' : β' → Option α'} {g : γ → Option α} {g' : γ' → Option α'} (h : rE A B e e') (k : ∀ y y', A y y' → gSim R (f y) (f' y')) (m : ∀ y y', B y y' → gSim R (g y) (g' y')) : gSim R (gSum e f g) (gSum e' f' g') := by
  cases e <;> cases e'
  · exact k _ _ h
  · exact h.elim
  · exact h.elim
  · exact m _ _ h
theorem sim_it {A : α → α' → Prop} {B : β → β' → Prop} {f : α → Option (α ⊕ β)} {f' : α' → Option (α' ⊕ β')} {n : Nat} {s : α} {s' : α'} (h : ∀ y y', A y y' → gSim (rE A B) (f y) (f' y')) (hs : A s s') : gSim B (gIter f n s) (gIter f' n s') := by
  induction n generalizing s s' with
  | zero => exact sim_n
  | succ n ih =>
    intro r e
    have hk := h s s' hs
    unfold gIter at e ⊢
    revert hk
    cases hq : f' s' with
    | none => rw [hq] at e; cases e
    | some y' =>
      intro hk
      obtain ⟨y, hy, ha⟩ := hk y' rfl
      rw [hq] at e
      rw [hy]
      cases y <;> cases y'
      · exact ih ha r e
      · exact ha.elim
      · exact ha.elim
      · cases e; exact ⟨_, rfl, ha⟩
end
theorem nadd {a a' b b' : Nat} (h : a = a') (k : b = b') : a + b = a' + b' := by rw [h, k]
theorem rN {x : Int32} {a : Int} (h : rI x a) : x.toNatClampNeg = a.toNat := by cases h; rfl
theorem rLn {L : Nat → Nat} {σ : gS} {z : gZ} {k k' : Nat} (h : rS L σ z) (hk : k = k') : σ.2.1 k = L k' := by cases hk; exact h.1 k
theorem rEn {E : gEv} {k k' : Nat} (hk : k = k') : (E k).1 = (E k').1 := by cases hk; rfl
theorem rEi {E : gEv} {k k' j j' : Nat} (hk : k = k') (hj : j = j') : rI ((E k).2 j) ((E k').2 j').toInt := by cases hk; cases hj; rfl
theorem rRd {L : Nat → Nat} {σ : gS} {z : gZ} {k k' j j' : Nat} (h : rS L σ z) (hk : k = k') (hj : j = j') : rI (σ.1 k j) (z.1 k' j') := by cases hk; cases hj; exact h.2.1 k j
theorem rRdJ {L : Nat → Nat} {σ : gS} {z : gZ} {k k' j j' : Nat} (h : rS L σ z) (hk : k = k') (hj : j = j') : rJ (σ.2.2 k j) (z.2 k' j') := by cases hk; cases hj; exact h.2.2 k j
theorem rRw {L : Nat → Nat} {σ : gS} {z : gZ} {k k' : Nat} (h : rS L σ z) (hk : k = k') : ∀ j, rI (σ.1 k j) (z.1 k' j) := by cases hk; exact h.2.1 k
theorem rPut {L : Nat → Nat} {σ : gS} {z : gZ} {k k' j j' : Nat} {x : Int32} {a : Int} (h : rS L σ z) (hk : k = k') (hj : j = j') (hx : rI x a) : rS L (gPut σ k j x) (zPut z k' j' a) := by
  cases hk; cases hj
  refine ⟨h.1, fun k2 j2 => ?_, h.2.2⟩
  show ((if k2 = k then upd (σ.1 k) j x else σ.1 k2) j2).toInt = (if k2 = k then (if j2 = j then a else z.1 k2 j2) else z.1 k2 j2)
  by_cases h1 : k2 = k
  · rw [if_pos h1, if_pos h1]; cases h1
    show (if j2 = j then x else σ.1 k j2).toInt = _
    by_cases h2 : j2 = j
    · rw [if_pos h2, if_pos h2]; exact hx
    · rw [if_neg h2, if_neg h2]; exact h.2.1 _ _
  · rw [if_neg h1, if_neg h1]; exact h.2.1 _ _
theorem rPutL {L : Nat → Nat} {σ : gS} {z : gZ} {k k' j j' : Nat} {x : Int64} {a : Int} (h : rS L σ z) (hk : k = k') (hj : j = j') (hx : rJ x a) : rS L (gPutL σ k j x) (zPutL z k' j' a) := by
  cases hk; cases hj
  refine ⟨h.1, h.2.1, fun k2 j2 => ?_⟩
  show ((if k2 = k then vp_updL (σ.2.2 k) j x else σ.2.2 k2) j2).toInt = (if k2 = k then (if j2 = j then a else z.2 k2 j2) else z.2 k2 j2)
  by_cases h1 : k2 = k
  · rw [if_pos h1, if_pos h1]; cases h1
    show (if j2 = j then x else σ.2.2 k j2).toInt = _
    by_cases h2 : j2 = j
    · rw [if_pos h2, if_pos h2]; exact hx
    · rw [if_neg h2, if_neg h2]; exact h.2.2 _ _
  · rw [if_neg h1, if_neg h1]; exact h.2.2 _ _
theorem rCpy {L : Nat → Nat} {σ : gS} {z : gZ} {k k' sp sp' dp dp' n n' : Nat} {f g : Nat → Int32} {f' g' : Nat → Int} (h : rS L σ z) (hk : k = k') (hf : ∀ j, rI (f j) (f' j)) (hg : ∀ j, rI (g j) (g' j)) (h1 : sp = sp') (h2 : dp = dp') (h3 : n = n') : rS L (gRow σ k (va_cpy f g sp dp n)) (zRow z k' (zCpy f' g' sp' dp' n')) := by
  cases hk; cases h1; cases h2; cases h3
  refine ⟨h.1, fun k2 j2 => ?_, h.2.2⟩
  show ((if k2 = k then va_cpy f g sp dp n else σ.1 k2) j2).toInt = (if k2 = k then zCpy f' g' sp dp n else z.1 k2) j2
  by_cases h1 : k2 = k
  · rw [if_pos h1, if_pos h1]
    show (if dp ≤ j2 ∧ j2 < dp + n then f (sp + (j2 - dp)) else g j2).toInt = (if dp ≤ j2 ∧ j2 < dp + n then f' (sp + (j2 - dp)) else g' j2)
    by_cases h2 : dp ≤ j2 ∧ j2 < dp + n
    · rw [if_pos h2, if_pos h2]; exact hf _
    · rw [if_neg h2, if_neg h2]; exact hg _
  · rw [if_neg h1, if_neg h1]; exact h.2.1 _ _
theorem rIH {x : Int32} {a : Int} (h : rI x a) : x = Int32.ofInt a := by cases h; exact (Int32.ofInt_toInt x).symm
theorem rIHJ {x : Int64} {a : Int} (h : rJ x a) : x = Int64.ofInt a := by cases h; exact (Int64.ofInt_toInt x).symm
theorem hadd {x y : Int32} {a b : Int} (h : x = Int32.ofInt a) (k : y = Int32.ofInt b) : x + y = Int32.ofInt (a + b) := by rw [h, k, Int32.ofInt_add]
theorem hsub {x y : Int32} {a b : Int} (h : x = Int32.ofInt a) (k : y = Int32.ofInt b) : x - y = Int32.ofInt (a - b) := by rw [h, k, Int32.ofInt_sub]
theorem hmul {x y : Int32} {a b : Int} (h : x = Int32.ofInt a) (k : y = Int32.ofInt b) : x * y = Int32.ofInt (a * b) := by rw [h, k, Int32.ofInt_mul]
theorem haddJ {x y : Int64} {a b : Int} (h : x = Int64.ofInt a) (k : y = Int64.ofInt b) : x + y = Int64.ofInt (a + b) := by rw [h, k, Int64.ofInt_add]
theorem hsubJ {x y : Int64} {a b : Int} (h : x = Int64.ofInt a) (k : y = Int64.ofInt b) : x - y = Int64.ofInt (a - b) := by rw [h, k, Int64.ofInt_sub]
theorem hmulJ {x y : Int64} {a b : Int} (h : x = Int64.ofInt a) (k : y = Int64.ofInt b) : x * y = Int64.ofInt (a * b) := by rw [h, k, Int64.ofInt_mul]
theorem rHI {x : Int32} {a : Int} (h : x = Int32.ofInt a) (g : -2147483648 ≤ a ∧ a < 2147483648) : rI x a := by
  cases h; exact Int32.toInt_ofInt_of_le (by simpa using g.1) (by simpa using g.2)
theorem rHIJ {x : Int64} {a : Int} (h : x = Int64.ofInt a) (g : -9223372036854775808 ≤ a ∧ a < 9223372036854775808) : rJ x a := by
  cases h; exact Int64.toInt_ofInt_of_le (by simpa using g.1) (by simpa using g.2)
theorem rIlt {x : Int32} {a : Int} (h : rI x a) : -2147483648 ≤ a ∧ a < 2147483648 := by
  cases h; exact ⟨x.le_toInt, x.toInt_lt⟩
theorem rInc {x y : Int32} {a b : Int} (h : rI x a) (k : rI y b) (hl : a < b) : rI (x + 1) (a + 1) := by
  have h1 := rIlt h
  have h2 := rIlt k
  exact rHI (hadd (rIH h) rfl) (by omega)
theorem rIte {c d : Prop} [Decidable c] [Decidable d] {x y : Int32} {a b : Int} (hc : c ↔ d) (h : rI x a) (k : rI y b) : rI (if c then x else y) (if d then a else b) := by
  by_cases hd : d
  · rw [if_pos hd, if_pos (hc.2 hd)]; exact h
  · rw [if_neg hd, if_neg (fun x => hd (hc.1 x))]; exact k
theorem gRin {a : Int} {n : Nat} (h : 0 ≤ a ∧ a < (n : Int)) (hn : n < 2147483648) : -2147483648 ≤ a ∧ a < 2147483648 := by omega
theorem cIn {x : Int32} {a : Int} {n n' : Nat} (h : rI x a) (hn : n = n') : gIn x n ↔ (0 ≤ a ∧ a < (n' : Int)) := by
  cases hn
  have h1 : x < 0 ↔ a < 0 := by rw [Int32.lt_iff_toInt_lt, h]; exact Iff.rfl
  have h2 : x.toNatClampNeg = a.toNat := rN h
  show ¬ (x < 0 ∨ n ≤ x.toNatClampNeg) ↔ _
  rw [h1, h2]
  omega
theorem sim_in {α α' : Type} {R : α → α' → Prop} {p : Option α} {q : Option α'} {x : Int32} {a : Int} {n n' : Nat} (h : rI x a) (hn : n = n') (k : (0 ≤ a ∧ a < (n' : Int)) → gSim R p q) : gSim R (if gIn x n then p else none) (if 0 ≤ a ∧ a < (n' : Int) then q else none) := sim_ite (cIn h hn) k (fun _ => sim_n)
theorem sim_ih {α α' : Type} {R : α → α' → Prop} {p : Option α} {q : Option α'} {x : Int32} {a : Int} {n n' : Nat} (h : x = Int32.ofInt a) (hn : n = n') (hb : n' < 2147483648) (k : (0 ≤ a ∧ a < (n' : Int)) → gSim R p q) : gSim R (if gIn x n then p else none) (if 0 ≤ a ∧ a < (n' : Int) then q else none) := sim_g fun g => sim_p ((cIn (rHI h (gRin g hb)) hn).2 g) (k g)
theorem cL {x y : Int32} {a b : Int} (h : rI x a) (k : rI y b) : x < y ↔ a < b := by rw [Int32.lt_iff_toInt_lt, h, k]
theorem cM {x y : Int32} {a b : Int} (h : rI x a) (k : rI y b) : x ≤ y ↔ a ≤ b := by rw [Int32.le_iff_toInt_le, h, k]
theorem cE {x y : Int32} {a b : Int} (h : rI x a) (k : rI y b) : x = y ↔ a = b := by rw [← Int32.toInt_inj, h, k]
theorem cNl {x y a b : Nat} (h : x = a) (k : y = b) : x < y ↔ a < b := by rw [h, k]
theorem cNm {x y a b : Nat} (h : x = a) (k : y = b) : x ≤ y ↔ a ≤ b := by rw [h, k]
theorem lgl {x y : Int64} {a b : Int} (h : rJ x a) (k : rJ y b) : (x < y ↔ a < b) ∧ (x = y ↔ a = b) := by
  rw [Int64.lt_iff_toInt_lt, ← Int64.toInt_inj, h, k]; exact ⟨Iff.rfl, Iff.rfl⟩
theorem lgc {x y : Int64} {a b : Int} (h : rJ x a) (k : rJ y b) : lg_cmp x y = if b < a then 1 else if a = b then 0 else -1 := by
  unfold lg_cmp
  have h1 := (lgl k h).1
  have h2 := (lgl h k).2
  by_cases g : b < a
  · rw [if_pos g, if_pos (h1.2 g)]
  · rw [if_neg g, if_neg (fun x => g (h1.1 x))]
    by_cases g2 : a = b
    · rw [if_pos g2, if_pos (h2.2 g2)]
    · rw [if_neg g2, if_neg (fun x => g2 (h2.1 x))]
theorem cLge {x y : Int64} {a b : Int} (h : rJ x a) (k : rJ y b) : lg_cmp x y = 0 ↔ a = b := by
  rw [lgc h k]; split
  · exact ⟨fun h => absurd h (by decide), fun h => by omega⟩
  · split
    · exact ⟨fun _ => by assumption, fun _ => rfl⟩
    · exact ⟨fun h => absurd h (by decide), fun h => by omega⟩
theorem cLgl {x y : Int64} {a b : Int} (h : rJ x a) (k : rJ y b) : lg_cmp x y < 0 ↔ a < b := by
  rw [lgc h k]; split
  · exact ⟨fun h => absurd h (by decide), fun h => by omega⟩
  · split
    · exact ⟨fun h => absurd h (by decide), fun h => by omega⟩
    · exact ⟨fun _ => by omega, fun _ => by decide⟩
theorem cLgm {x y : Int64} {a b : Int} (h : rJ x a) (k : rJ y b) : lg_cmp x y ≤ 0 ↔ a ≤ b := by
  rw [lgc h k]; split
  · exact ⟨fun h => absurd h (by decide), fun h => by omega⟩
  · split
    · exact ⟨fun _ => by omega, fun _ => by decide⟩
    · exact ⟨fun _ => by omega, fun _ => by decide⟩
theorem cLgg {x y : Int64} {a b : Int} (h : rJ x a) (k : rJ y b) : 0 ≤ lg_cmp x y ↔ b ≤ a := by
  rw [lgc h k]; split
  · exact ⟨fun _ => by omega, fun _ => by decide⟩
  · split
    · exact ⟨fun _ => by omega, fun _ => by decide⟩
    · exact ⟨fun h => absurd h (by decide), fun h => by omega⟩
theorem eRem {x y : Int32} {a b : Int} (h : rI x a) (k : rI y b) : rI (x - x / y * y) (zRem a b) := by rw [rIH h, rIH k]; rfl
theorem eDiv {x y : Int32} {a b : Int} (h : rI x a) (k : rI y b) : rI (x / y) (zDiv a b) := by rw [rIH h, rIH k]; rfl
theorem eAnd {x y : Int32} {a b : Int} (h : rI x a) (k : rI y b) : rI (x &&& y) (zAnd a b) := by rw [rIH h, rIH k]; rfl
theorem eOr {x y : Int32} {a b : Int} (h : rI x a) (k : rI y b) : rI (x ||| y) (zOr a b) := by rw [rIH h, rIH k]; rfl
theorem eXor {x y : Int32} {a b : Int} (h : rI x a) (k : rI y b) : rI (x ^^^ y) (zXor a b) := by rw [rIH h, rIH k]; rfl
theorem eShl {x y : Int32} {a b : Int} (h : rI x a) (k : rI y b) : rI (x <<< (y &&& 31)) (zShl a b) := by rw [rIH h, rIH k]; rfl
theorem eShr {x y : Int32} {a b : Int} (h : rI x a) (k : rI y b) : rI (x >>> (y &&& 31)) (zShr a b) := by rw [rIH h, rIH k]; rfl
theorem eUshr {x y : Int32} {a b : Int} (h : rI x a) (k : rI y b) : rI ((x.toUInt32 >>> (y.toUInt32 &&& Int32.toUInt32 31)).toInt32) (zUshr a b) := by rw [rIH h, rIH k]; rfl
theorem eByte {x : Int32} {a : Int} (h : rI x a) : rI (x.toInt8.toInt32) (zByte a) := by rw [rIH h]; rfl
theorem eNByte {x : Int32} {a : Int} (h : rI x a) : rI (vp_nar .byte x) (zByte a) := by rw [rIH h]; rfl
theorem eNBool {x : Int32} {a : Int} (h : rI x a) : rI (vp_nar .boolean x) (zBool a) := by rw [rIH h]; rfl
theorem eChar {x : Int32} {a : Int} (h : rI x a) : rI ((x.toUInt32 % 65536).toInt32) (zChar a) := by rw [rIH h]; rfl
theorem eOf {n n' : Nat} (h : n = n') : rI (Int32.ofNat n) (zOf n') := by cases h; rfl
theorem eLen {L : Nat → Nat} {n k : Nat} (hL : ∀ k, L k < 2147483648) (h : n = L k) : rI (Int32.ofNat n) ((L k : Nat) : Int) := by
  cases h
  exact rHI (by simp [Int32.ofInt_eq_ofNat]) (by have := hL k; omega)
theorem eWr {x : Int32} {a : Int} (h : x = Int32.ofInt a) : rI x (zWr a) := by rw [h]; rfl
theorem eInt {x : Int64} {a : Int} (h : rJ x a) : rI x.toInt32 (zInt a) := by rw [rIHJ h]; rfl
theorem eToJ {x : Int32} {a : Int} (h : rI x a) : rJ x.toInt64 a := by cases h; exact Int32.toInt_toInt64 x
theorem eAndJ {x y : Int64} {a b : Int} (h : rJ x a) (k : rJ y b) : rJ (x &&& y) (zAndJ a b) := by rw [rIHJ h, rIHJ k]; rfl
theorem eOrJ {x y : Int64} {a b : Int} (h : rJ x a) (k : rJ y b) : rJ (x ||| y) (zOrJ a b) := by rw [rIHJ h, rIHJ k]; rfl
theorem eShlJ {x y : Int64} {a b : Int} (h : rJ x a) (k : rJ y b) : rJ (x <<< (y &&& 63)) (zShlJ a b) := by rw [rIHJ h, rIHJ k]; rfl
theorem cFits {x : Int32} {a : Int} (h : rI x a) : fits .byte (.int x) = true ↔ (-128 ≤ a ∧ a < 128) := by
  show (decide (-128 ≤ x) && decide (x ≤ 127)) = true ↔ _
  rw [Bool.and_eq_true, decide_eq_true_iff, decide_eq_true_iff, Int32.le_iff_toInt_le, Int32.le_iff_toInt_le, h]
  show ((-128 : Int) ≤ a ∧ a ≤ 127) ↔ _
  omega
theorem cChar {x : Int32} {a : Int} (h : rI x a) : narrow .char (.int x) = .int x ↔ (0 ≤ a ∧ a < 65536) := by
  cases h
  have e : (narrow .char (.int x) = .int x) ↔ x.toUInt32.toUInt16.toUInt32.toInt32 = x := ⟨fun h => Value.int.inj h, fun h => congrArg Value.int h⟩
  rw [e, ← Int32.toBitVec_inj, ← BitVec.toNat_inj]
  have h1 : x.toUInt32.toUInt16.toUInt32.toInt32.toBitVec.toNat = x.toBitVec.toNat % 65536 := by
    show ((x.toBitVec.setWidth 16).setWidth 32).toNat = _
    rw [BitVec.toNat_setWidth, BitVec.toNat_setWidth]
    omega
  rw [h1]
  show _ ↔ (0 ≤ x.toBitVec.toInt ∧ x.toBitVec.toInt < 65536)
  rw [BitVec.toInt_eq_toNat_cond]
  have := x.toBitVec.isLt
  split <;> omega
def rT (σ : gS) (y : (Nat → Nat) × gZ) : Prop := rS y.1 σ y.2 ∧ ∀ k, y.1 k < 2147483648
theorem rNlt {x : Int32} {a : Int} (h : rI x a) : a.toNat < 2147483648 := by have := rIlt h; omega
theorem sim_bT {α α' : Type} {R : α → α' → Prop} {x : Option gS} {x' : Option ((Nat → Nat) × gZ)} {f : gS → Option α} {f' : (Nat → Nat) → gZ → Option α'} (h : gSim rT x x') (k : ∀ s L z, rS L s z → (∀ k, L k < 2147483648) → gSim R (f s) (f' L z)) : gSim R (gB1 x f) (gB2 x' f') := fun r e => by
  cases x' with
  | none => cases e
  | some y' =>
    obtain ⟨y, hy, ha⟩ := h y' rfl
    subst hy
    exact k y y'.1 y'.2 ha.1 ha.2 r e
theorem rZr {L : Nat → Nat} {σ : gS} {z : gZ} (h : rS L σ z) (k n : Nat) : rS (zZrL L k n) (gZr σ k n) (zZr z k) := by
  refine ⟨fun k' => ?_, fun k' j => ?_, fun k' j => ?_⟩
  · show (if k' = k then n else σ.2.1 k') = (if k' = k then n else L k')
    rw [h.1 k']
  · show ((if k' = k then fun _ => (0 : Int32) else σ.1 k') j).toInt = (if k' = k then fun _ => (0 : Int) else z.1 k') j
    by_cases e : k' = k
    · rw [if_pos e, if_pos e]; rfl
    · rw [if_neg e, if_neg e]; exact h.2.1 _ _
  · show ((if k' = k then fun _ => (0 : Int64) else σ.2.2 k') j).toInt = (if k' = k then fun _ => (0 : Int) else z.2 k') j
    by_cases e : k' = k
    · rw [if_pos e, if_pos e]; rfl
    · rw [if_neg e, if_neg e]; exact h.2.2 _ _
theorem zZrL_lt {L : Nat → Nat} (h : ∀ k, L k < 2147483648) {k n : Nat} (hn : n < 2147483648) : ∀ i, zZrL L k n i < 2147483648 := fun i => by
  unfold zZrL; split
  · exact hn
  · exact h i
theorem sim_Zr {α α' : Type} {R : α → α' → Prop} {L : Nat → Nat} {σ : gS} {z : gZ} {k k' n n' : Nat} {f : gS → Option α} {f' : (Nat → Nat) → gZ → Option α'} (h : rS L σ z) (hL : ∀ k, L k < 2147483648) (hk : k = k') (hn : n = n') (hb : n' < 2147483648) (g : ∀ s L z, rS L s z → (∀ k, L k < 2147483648) → gSim R (f s) (f' L z)) : gSim R (gLet (gZr σ k n) f) (gLet (zZrL L k' n') fun L1 => gLet (zZr z k') fun s => f' L1 s) := by
  cases hk; cases hn
  exact g _ _ _ (rZr h k n) (zZrL_lt hL hb)
theorem gZrs_at (σ : gS) (k n : Nat) : ∀ m k', ((gZrs σ k n m).2.1 k' = if k ≤ k' ∧ k' < k + m then n else σ.2.1 k') ∧ ((gZrs σ k n m).1 k' = if k ≤ k' ∧ k' < k + m then fun _ => 0 else σ.1 k') ∧ ((gZrs σ k n m).2.2 k' = if k ≤ k' ∧ k' < k + m then fun _ => 0 else σ.2.2 k') := by
  intro m
  induction m with
  | zero => intro k'; rw [if_neg (by omega), if_neg (by omega), if_neg (by omega)]; exact ⟨rfl, rfl, rfl⟩
  | succ m ih =>
    intro k'
    have h := ih k'
    show ((if k' = k + m then n else (gZrs σ k n m).2.1 k') = _) ∧ ((if k' = k + m then fun _ => (0 : Int32) else (gZrs σ k n m).1 k') = _) ∧ ((if k' = k + m then fun _ => (0 : Int64) else (gZrs σ k n m).2.2 k') = _)
    by_cases e : k' = k + m
    · rw [if_pos e, if_pos e, if_pos e, if_pos (by omega), if_pos (by omega), if_pos (by omega)]; exact ⟨rfl, rfl, rfl⟩
    · rw [if_neg e, if_neg e, if_neg e, h.1, h.2.1, h.2.2]
      by_cases e2 : k ≤ k' ∧ k' < k + m
      · rw [if_pos e2, if_pos e2, if_pos e2, if_pos (by omega), if_pos (by omega), if_pos (by omega)]; exact ⟨rfl, rfl, rfl⟩
      · rw [if_neg e2, if_neg e2, if_neg e2, if_neg (by omega), if_neg (by omega), if_neg (by omega)]; exact ⟨rfl, rfl, rfl⟩
theorem rZm {L : Nat → Nat} {σ : gS} {z : gZ} (h : rS L σ z) (k n m : Nat) : rS (zZmL L k n m) (gZm σ k n m) (zZm z k n) := by
  have h0 := rZr h k n
  refine ⟨fun k' => ?_, fun k' j => ?_, fun k' j => ?_⟩
  · show (gZrs (gZr σ k n) (k + 1) m n).2.1 k' = (if k' = k then n else if k < k' ∧ k' ≤ k + n then m else L k')
    rw [(gZrs_at _ _ _ _ _).1, h0.1 k']
    unfold zZrL
    by_cases e : k' = k
    · rw [if_neg (by omega), if_pos e, if_pos e]
    · rw [if_neg e, if_neg e]
      by_cases e2 : k < k' ∧ k' ≤ k + n
      · rw [if_pos e2, if_pos (by omega)]
      · rw [if_neg e2, if_neg (by omega)]
  · show ((gZrs (gZr σ k n) (k + 1) m n).1 k' j).toInt = (if k ≤ k' ∧ k' ≤ k + n then fun _ => (0 : Int) else z.1 k') j
    rw [(gZrs_at _ _ _ _ _).2.1]
    by_cases e : k ≤ k' ∧ k' ≤ k + n
    · rw [if_pos e]
      by_cases e2 : k' = k
      · rw [if_neg (by omega)]
        have := h0.2.1 k' j
        rw [this]
        show (if k' = k then fun _ => (0 : Int) else z.1 k') j = _
        rw [if_pos e2]
      · rw [if_pos (by omega)]; rfl
    · rw [if_neg e, if_neg (by omega)]
      have := h0.2.1 k' j
      rw [this]
      show (if k' = k then fun _ => (0 : Int) else z.1 k') j = _
      rw [if_neg (by omega)]
  · show ((gZrs (gZr σ k n) (k + 1) m n).2.2 k' j).toInt = (if k ≤ k' ∧ k' ≤ k + n then fun _ => (0 : Int) else z.2 k') j
    rw [(gZrs_at _ _ _ _ _).2.2]
    by_cases e : k ≤ k' ∧ k' ≤ k + n
    · rw [if_pos e]
      by_cases e2 : k' = k
      · rw [if_neg (by omega)]
        have := h0.2.2 k' j
        rw [this]
        show (if k' = k then fun _ => (0 : Int) else z.2 k') j = _
        rw [if_pos e2]
      · rw [if_pos (by omega)]; rfl
    · rw [if_neg e, if_neg (by omega)]
      have := h0.2.2 k' j
      rw [this]
      show (if k' = k then fun _ => (0 : Int) else z.2 k') j = _
      rw [if_neg (by omega)]
theorem zZmL_lt {L : Nat → Nat} (h : ∀ k, L k < 2147483648) {k n m : Nat} (hn : n < 2147483648) (hm : m < 2147483648) : ∀ i, zZmL L k n m i < 2147483648 := fun i => by
  unfold zZmL; split
  · exact hn
  · split
    · exact hm
    · exact h i
theorem sim_Zm {α α' : Type} {R : α → α' → Prop} {L : Nat → Nat} {σ : gS} {z : gZ} {k k' n n' m m' : Nat} {f : gS → Option α} {f' : (Nat → Nat) → gZ → Option α'} (h : rS L σ z) (hL : ∀ k, L k < 2147483648) (hk : k = k') (hn : n = n') (hm : m = m') (hb : n' < 2147483648) (hb' : m' < 2147483648) (g : ∀ s L z, rS L s z → (∀ k, L k < 2147483648) → gSim R (f s) (f' L z)) : gSim R (gLet (gZm σ k n m) f) (gLet (zZmL L k' n' m') fun L1 => gLet (zZm z k' n') fun s => f' L1 s) := by
  cases hk; cases hn; cases hm
  exact g _ _ _ (rZm h k n m) (zZmL_lt hL hb hb')
