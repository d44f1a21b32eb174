/-! From the law over Int to the law over words. -/
theorem gPure_of (h : ∀ (L : Nat) (xs : Nat → Int32), L ≤ 3076 → ∃ y, q_Law_law (gSE L xs) (fun _ => 0) (fun _ _ => 0, fun _ _ => 0) = some (1, y)) : ∀ (L : Nat) (xs : Nat → Int32), L ≤ 3076 → ∃ sr, p_Law_law (gSE L xs) gZ0 = some (1, sr) := fun L xs hL => by
  obtain ⟨y, hy⟩ := h L xs hL
  obtain ⟨⟨v, sr⟩, hx, h1, -⟩ := t_Law_law (E := gSE L xs) (L := fun _ => 0) (fun _ => by decide) (by have e : ((gSE L xs) 1000).1 = L := rfl; omega) (σ := gZ0) (z := (fun _ _ => 0, fun _ _ => 0)) ⟨fun _ => rfl, fun _ _ => rfl, fun _ _ => rfl⟩ _ hy
  have h2 : v = 1 := Int32.toInt_inj.1 h1
  exact ⟨sr, h2 ▸ hx⟩
