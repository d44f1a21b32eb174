set_option linter.unusedVariables false
-- H5
section
variable {E : gEv} {c : gCf}
/-- what both sides have read so far: a is the class's state, b the reference's -/
abbrev RR (c : gCf) (G : Prop) (T : Nat → Int) (n q nm nI nO nL nG : Nat) (a b : gZ) : Prop := ∃ _ : (a.1 22 10 = nm), ∃ _ : (b.1 94 23 = nm), ∃ _ : (nm ≤ 150), ∃ _ : (∀ i, i < nm → ∃ p l : Nat, a.1 23 i = p ∧ b.1 99 i = p ∧ a.1 24 i = l ∧ b.1 100 i = l ∧ p + l ≤ n ∧ p < q), ∃ _ : (∀ i j, i < j → j < nm → b.1 99 i < b.1 99 j), ∃ _ : (∀ i, i < nm → (a.1 25 i = -1 ∧ b.1 101 i = 0 ∧ (b.1 103 i = -1 ∨ b.1 103 i = b.1 99 i)) ∨ (∃ k : Nat, k < nI ∧ a.1 25 i = k ∧ b.1 101 i = 1 ∧ b.1 102 i = k) ∨ (∃ k : Nat, k < nL ∧ a.1 25 i = ((200 + k : Nat) : Int) ∧ b.1 101 i = 2 ∧ b.1 102 i = k) ∨ ∃ k : Nat, k < nG ∧ a.1 25 i = ((1000 + k : Nat) : Int) ∧ b.1 101 i = 3 ∧ b.1 102 i = k ∧ b.1 112 k = i), ∃ _ : (∀ i, nm ≤ i → i < 150 → a.1 25 i = -1), ∃ _ : (cnb (fun i => decide (b.1 101 i ≠ 0)) nm = nI + nL + nG), ∃ _ : (a.1 22 11 = nI), ∃ _ : (b.1 94 29 = nI), ∃ _ : (a.1 22 12 = nO), ∃ _ : (b.1 94 30 = nO), ∃ _ : (nI + nO ≤ kD c), ∃ _ : (a.1 22 13 = nL), ∃ _ : (b.1 94 31 = nL), ∃ _ : (a.1 13 8 = nG), ∃ _ : (b.1 94 32 = nG), ∃ _ : (∀ i, i < nO → ∃ v : Nat, v < nm ∧ a.1 29 i = v ∧ b.1 105 i = v), ∃ _ : (∀ i, i < nL → ∃ v : Nat, v < nm ∧ a.1 26 i = v ∧ b.1 106 i = v ∧ a.1 27 i = b.1 108 i ∧ b01 (a.1 27 i)), ∃ _ : (∀ g, g < nG → G → ∃ m v : Nat, m ≤ 8 ∧ v < nm ∧ a.1 14 g = b.1 109 g ∧ a.1 15 g = m ∧ b.1 110 g = m ∧ a.1 17 g = v ∧ b.1 112 g = v ∧ b.1 101 v = 3 ∧ b.1 102 v = g ∧ a.1 18 g = b.1 113 g ∧ (a.1 18 g = -1 ∨ b01 (a.1 18 g)) ∧ (∀ i, i < m → ∃ w : Nat, w < nm ∧ a.1 16 (8 * g + i) = w ∧ b.1 111 (8 * g + i) = w) ∧ (∀ x, x < 256 → b01 (b.1 114 (256 * g + x)) ∧ zBit (a.1 19 (8 * g + x / 32)) (x % 32) = decide (b.1 114 (256 * g + x) = 1)) ∧ ∀ x, x < 8 → -2147483648 ≤ a.1 19 (8 * g + x) ∧ a.1 19 (8 * g + x) < 2147483648), ∃ _ : (∀ g, nG ≤ g → g < 150 → a.1 18 g = -1 ∧ ∀ x, x < 8 → a.1 19 (8 * g + x) = 0), ∃ _ : (a.1 22 14 = 0), ∃ _ : (b.1 94 17 = 0), (a.1 22 15 = -1 ∧ b.1 94 18 = -1)
theorem RR.an {c : gCf} {G : Prop} {T : Nat → Int} {n q nm nI nO nL nG : Nat} {a b : gZ} (h : RR c G T n q nm nI nO nL nG a b) : a.1 22 10 = nm := by obtain ⟨x, _⟩ := h; exact x
theorem RR.bn {c : gCf} {G : Prop} {T : Nat → Int} {n q nm nI nO nL nG : Nat} {a b : gZ} (h : RR c G T n q nm nI nO nL nG a b) : b.1 94 23 = nm := by obtain ⟨_, x, _⟩ := h; exact x
theorem RR.nb {c : gCf} {G : Prop} {T : Nat → Int} {n q nm nI nO nL nG : Nat} {a b : gZ} (h : RR c G T n q nm nI nO nL nG a b) : nm ≤ 150 := by obtain ⟨_, _, x, _⟩ := h; exact x
theorem RR.nam {c : gCf} {G : Prop} {T : Nat → Int} {n q nm nI nO nL nG : Nat} {a b : gZ} (h : RR c G T n q nm nI nO nL nG a b) : ∀ i, i < nm → ∃ p l : Nat, a.1 23 i = p ∧ b.1 99 i = p ∧ a.1 24 i = l ∧ b.1 100 i = l ∧ p + l ≤ n ∧ p < q := by obtain ⟨_, _, _, x, _⟩ := h; exact x
theorem RR.inc {c : gCf} {G : Prop} {T : Nat → Int} {n q nm nI nO nL nG : Nat} {a b : gZ} (h : RR c G T n q nm nI nO nL nG a b) : ∀ i j, i < j → j < nm → b.1 99 i < b.1 99 j := by obtain ⟨_, _, _, _, x, _⟩ := h; exact x
theorem RR.mak {c : gCf} {G : Prop} {T : Nat → Int} {n q nm nI nO nL nG : Nat} {a b : gZ} (h : RR c G T n q nm nI nO nL nG a b) : ∀ i, i < nm → (a.1 25 i = -1 ∧ b.1 101 i = 0 ∧ (b.1 103 i = -1 ∨ b.1 103 i = b.1 99 i)) ∨ (∃ k : Nat, k < nI ∧ a.1 25 i = k ∧ b.1 101 i = 1 ∧ b.1 102 i = k) ∨ (∃ k : Nat, k < nL ∧ a.1 25 i = ((200 + k : Nat) : Int) ∧ b.1 101 i = 2 ∧ b.1 102 i = k) ∨ ∃ k : Nat, k < nG ∧ a.1 25 i = ((1000 + k : Nat) : Int) ∧ b.1 101 i = 3 ∧ b.1 102 i = k ∧ b.1 112 k = i := by obtain ⟨_, _, _, _, _, x, _⟩ := h; exact x
theorem RR.mf {c : gCf} {G : Prop} {T : Nat → Int} {n q nm nI nO nL nG : Nat} {a b : gZ} (h : RR c G T n q nm nI nO nL nG a b) : ∀ i, nm ≤ i → i < 150 → a.1 25 i = -1 := by obtain ⟨_, _, _, _, _, _, x, _⟩ := h; exact x
theorem RR.cnt {c : gCf} {G : Prop} {T : Nat → Int} {n q nm nI nO nL nG : Nat} {a b : gZ} (h : RR c G T n q nm nI nO nL nG a b) : cnb (fun i => decide (b.1 101 i ≠ 0)) nm = nI + nL + nG := by obtain ⟨_, _, _, _, _, _, _, x, _⟩ := h; exact x
theorem RR.ai {c : gCf} {G : Prop} {T : Nat → Int} {n q nm nI nO nL nG : Nat} {a b : gZ} (h : RR c G T n q nm nI nO nL nG a b) : a.1 22 11 = nI := by obtain ⟨_, _, _, _, _, _, _, _, x, _⟩ := h; exact x
theorem RR.bi {c : gCf} {G : Prop} {T : Nat → Int} {n q nm nI nO nL nG : Nat} {a b : gZ} (h : RR c G T n q nm nI nO nL nG a b) : b.1 94 29 = nI := by obtain ⟨_, _, _, _, _, _, _, _, _, x, _⟩ := h; exact x
theorem RR.ao {c : gCf} {G : Prop} {T : Nat → Int} {n q nm nI nO nL nG : Nat} {a b : gZ} (h : RR c G T n q nm nI nO nL nG a b) : a.1 22 12 = nO := by obtain ⟨_, _, _, _, _, _, _, _, _, _, x, _⟩ := h; exact x
theorem RR.bo {c : gCf} {G : Prop} {T : Nat → Int} {n q nm nI nO nL nG : Nat} {a b : gZ} (h : RR c G T n q nm nI nO nL nG a b) : b.1 94 30 = nO := by obtain ⟨_, _, _, _, _, _, _, _, _, _, _, x, _⟩ := h; exact x
theorem RR.io {c : gCf} {G : Prop} {T : Nat → Int} {n q nm nI nO nL nG : Nat} {a b : gZ} (h : RR c G T n q nm nI nO nL nG a b) : nI + nO ≤ kD c := by obtain ⟨_, _, _, _, _, _, _, _, _, _, _, _, x, _⟩ := h; exact x
theorem RR.al {c : gCf} {G : Prop} {T : Nat → Int} {n q nm nI nO nL nG : Nat} {a b : gZ} (h : RR c G T n q nm nI nO nL nG a b) : a.1 22 13 = nL := by obtain ⟨_, _, _, _, _, _, _, _, _, _, _, _, _, x, _⟩ := h; exact x
theorem RR.bl {c : gCf} {G : Prop} {T : Nat → Int} {n q nm nI nO nL nG : Nat} {a b : gZ} (h : RR c G T n q nm nI nO nL nG a b) : b.1 94 31 = nL := by obtain ⟨_, _, _, _, _, _, _, _, _, _, _, _, _, _, x, _⟩ := h; exact x
theorem RR.ag {c : gCf} {G : Prop} {T : Nat → Int} {n q nm nI nO nL nG : Nat} {a b : gZ} (h : RR c G T n q nm nI nO nL nG a b) : a.1 13 8 = nG := by obtain ⟨_, _, _, _, _, _, _, _, _, _, _, _, _, _, _, x, _⟩ := h; exact x
theorem RR.bg {c : gCf} {G : Prop} {T : Nat → Int} {n q nm nI nO nL nG : Nat} {a b : gZ} (h : RR c G T n q nm nI nO nL nG a b) : b.1 94 32 = nG := by obtain ⟨_, _, _, _, _, _, _, _, _, _, _, _, _, _, _, _, x, _⟩ := h; exact x
theorem RR.out {c : gCf} {G : Prop} {T : Nat → Int} {n q nm nI nO nL nG : Nat} {a b : gZ} (h : RR c G T n q nm nI nO nL nG a b) : ∀ i, i < nO → ∃ v : Nat, v < nm ∧ a.1 29 i = v ∧ b.1 105 i = v := by obtain ⟨_, _, _, _, _, _, _, _, _, _, _, _, _, _, _, _, _, x, _⟩ := h; exact x
theorem RR.lat {c : gCf} {G : Prop} {T : Nat → Int} {n q nm nI nO nL nG : Nat} {a b : gZ} (h : RR c G T n q nm nI nO nL nG a b) : ∀ i, i < nL → ∃ v : Nat, v < nm ∧ a.1 26 i = v ∧ b.1 106 i = v ∧ a.1 27 i = b.1 108 i ∧ b01 (a.1 27 i) := by obtain ⟨_, _, _, _, _, _, _, _, _, _, _, _, _, _, _, _, _, _, x, _⟩ := h; exact x
theorem RR.gat {c : gCf} {G : Prop} {T : Nat → Int} {n q nm nI nO nL nG : Nat} {a b : gZ} (h : RR c G T n q nm nI nO nL nG a b) : ∀ g, g < nG → G → ∃ m v : Nat, m ≤ 8 ∧ v < nm ∧ a.1 14 g = b.1 109 g ∧ a.1 15 g = m ∧ b.1 110 g = m ∧ a.1 17 g = v ∧ b.1 112 g = v ∧ b.1 101 v = 3 ∧ b.1 102 v = g ∧ a.1 18 g = b.1 113 g ∧ (a.1 18 g = -1 ∨ b01 (a.1 18 g)) ∧ (∀ i, i < m → ∃ w : Nat, w < nm ∧ a.1 16 (8 * g + i) = w ∧ b.1 111 (8 * g + i) = w) ∧ (∀ x, x < 256 → b01 (b.1 114 (256 * g + x)) ∧ zBit (a.1 19 (8 * g + x / 32)) (x % 32) = decide (b.1 114 (256 * g + x) = 1)) ∧ ∀ x, x < 8 → -2147483648 ≤ a.1 19 (8 * g + x) ∧ a.1 19 (8 * g + x) < 2147483648 := by obtain ⟨_, _, _, _, _, _, _, _, _, _, _, _, _, _, _, _, _, _, _, x, _⟩ := h; exact x
theorem RR.fl {c : gCf} {G : Prop} {T : Nat → Int} {n q nm nI nO nL nG : Nat} {a b : gZ} (h : RR c G T n q nm nI nO nL nG a b) : ∀ g, nG ≤ g → g < 150 → a.1 18 g = -1 ∧ ∀ x, x < 8 → a.1 19 (8 * g + x) = 0 := by obtain ⟨_, _, _, _, _, _, _, _, _, _, _, _, _, _, _, _, _, _, _, _, x, _⟩ := h; exact x
theorem RR.fa {c : gCf} {G : Prop} {T : Nat → Int} {n q nm nI nO nL nG : Nat} {a b : gZ} (h : RR c G T n q nm nI nO nL nG a b) : a.1 22 14 = 0 := by obtain ⟨_, _, _, _, _, _, _, _, _, _, _, _, _, _, _, _, _, _, _, _, _, x, _⟩ := h; exact x
theorem RR.fb {c : gCf} {G : Prop} {T : Nat → Int} {n q nm nI nO nL nG : Nat} {a b : gZ} (h : RR c G T n q nm nI nO nL nG a b) : b.1 94 17 = 0 := by obtain ⟨_, _, _, _, _, _, _, _, _, _, _, _, _, _, _, _, _, _, _, _, _, _, x, _⟩ := h; exact x
theorem RR.pl {c : gCf} {G : Prop} {T : Nat → Int} {n q nm nI nO nL nG : Nat} {a b : gZ} (h : RR c G T n q nm nI nO nL nG a b) : a.1 22 15 = -1 ∧ b.1 94 18 = -1 := by obtain ⟨_, _, _, _, _, _, _, _, _, _, _, _, _, _, _, _, _, _, _, _, _, _, _, x⟩ := h; exact x
def rA (k j : Nat) : Prop := (k = 22 ∧ 10 ≤ j ∧ j ≤ 15) ∨ (k = 13 ∧ j = 8) ∨ (14 ≤ k ∧ k ≤ 19) ∨ (23 ≤ k ∧ k ≤ 27) ∨ k = 29
def rB (k j : Nat) : Prop := (k = 94 ∧ (j = 17 ∨ j = 18 ∨ j = 23 ∨ (29 ≤ j ∧ j ≤ 32))) ∨ (99 ≤ k ∧ k ≤ 114)
theorem RR_c {G : Prop} {T : Nat → Int} {n q q' nm nI nO nL nG : Nat} {a b a' b' : gZ} (h : RR c G T n q nm nI nO nL nG a b) (hq : q ≤ q') (ha : ∀ k j, rA k j → a'.1 k j = a.1 k j) (hb : ∀ k j, rB k j → b'.1 k j = b.1 k j) : RR c G T n q' nm nI nO nL nG a' b' := by
  have r : ∀ k, (14 ≤ k ∧ k ≤ 19) ∨ (23 ≤ k ∧ k ≤ 27) ∨ k = 29 → a'.1 k = a.1 k := fun k hk => funext fun j => ha k j (by unfold rA; omega)
  have s : ∀ k, (99 ≤ k ∧ k ≤ 114) → b'.1 k = b.1 k := fun k hk => funext fun j => hb k j (by unfold rB; omega)
  obtain ⟨h1, h2, h3, h4, h5, h6, h7, h8, h9, h10, h11, h12, h13, h14, h15, h16, h17, h18, h19, h20, h21, h22, h23, h24⟩ := h
  refine ⟨by rw [ha 22 10 (by unfold rA; omega)]; exact h1, by rw [hb 94 23 (by unfold rB; omega)]; exact h2, h3, ?_, by rw [s 99 (by omega)]; exact h5, by rw [r 25 (by omega), s 101 (by omega), s 102 (by omega), s 103 (by omega), s 99 (by omega), s 112 (by omega)]; exact h6, by rw [r 25 (by omega)]; exact h7, by rw [s 101 (by omega)]; exact h8, by rw [ha 22 11 (by unfold rA; omega)]; exact h9, by rw [hb 94 29 (by unfold rB; omega)]; exact h10, by rw [ha 22 12 (by unfold rA; omega)]; exact h11, by rw [hb 94 30 (by unfold rB; omega)]; exact h12, h13, by rw [ha 22 13 (by unfold rA; omega)]; exact h14, by rw [hb 94 31 (by unfold rB; omega)]; exact h15, by rw [ha 13 8 (by unfold rA; omega)]; exact h16, by rw [hb 94 32 (by unfold rB; omega)]; exact h17, by rw [r 29 (by omega), s 105 (by omega)]; exact h18, by rw [r 26 (by omega), r 27 (by omega), s 106 (by omega), s 108 (by omega)]; exact h19, ?_, by rw [r 18 (by omega), r 19 (by omega)]; exact h21, by rw [ha 22 14 (by unfold rA; omega)]; exact h22, by rw [hb 94 17 (by unfold rB; omega)]; exact h23, by rw [ha 22 15 (by unfold rA; omega), hb 94 18 (by unfold rB; omega)]; exact h24⟩
  · rw [r 23 (by omega), r 24 (by omega), s 99 (by omega), s 100 (by omega)]
    intro i hi
    obtain ⟨p, l, x1, x2, x3, x4, x5, x6⟩ := h4 i hi
    exact ⟨p, l, x1, x2, x3, x4, x5, by omega⟩
  · rw [r 14 (by omega), r 15 (by omega), r 16 (by omega), r 17 (by omega), r 18 (by omega), r 19 (by omega), s 101 (by omega), s 102 (by omega), s 109 (by omega), s 110 (by omega), s 111 (by omega), s 112 (by omega), s 113 (by omega), s 114 (by omega)]
    exact h20
/-- less is asked of the gates -/
theorem RR_g {G : Prop} {T : Nat → Int} {n q nm nI nO nL nG : Nat} {a b : gZ} (h : RR c True T n q nm nI nO nL nG a b) : RR c G T n q nm nI nO nL nG a b := by
  obtain ⟨h1, h2, h3, h4, h5, h6, h7, h8, h9, h10, h11, h12, h13, h14, h15, h16, h17, h18, h19, h20, h21, h22, h23, h24⟩ := h
  exact ⟨h1, h2, h3, h4, h5, h6, h7, h8, h9, h10, h11, h12, h13, h14, h15, h16, h17, h18, h19, fun g hg _ => h20 g hg trivial, h21, h22, h23, h24⟩
/-- all names but v are made or used -/
def US (nm v : Nat) (b : gZ) : Prop := ∀ i, i < nm → i ≠ v → b.1 101 i = 0 → b.1 103 i ≠ -1
/-- one line, as both sides see it -/
abbrev LC (T : Nat → Int) (n p m : Nat) (W S : Nat → Nat) (e : Nat) (a b : gZ) : Prop := ∃ _ : (n ≤ 4000), ∃ _ : (p < n), ∃ _ : (Lin T n p m W S e), ∃ _ : (∀ j, j < n → a.1 11 j = T j), ∃ _ : (∀ j, j < n → b.1 96 j = T j), ∃ _ : (a.1 10 3 = n), ∃ _ : (b.1 94 16 = n), ∃ _ : (b.1 94 19 = m), ∃ _ : (b.1 94 20 = e), (∀ i, i < m → b.1 97 i = W i ∧ b.1 98 i = S i)
theorem LC.n4 {T : Nat → Int} {n p m : Nat} {W S : Nat → Nat} {e : Nat} {a b : gZ} (h : LC T n p m W S e a b) : n ≤ 4000 := by obtain ⟨x, _⟩ := h; exact x
theorem LC.hp {T : Nat → Int} {n p m : Nat} {W S : Nat → Nat} {e : Nat} {a b : gZ} (h : LC T n p m W S e a b) : p < n := by obtain ⟨_, x, _⟩ := h; exact x
theorem LC.lin {T : Nat → Int} {n p m : Nat} {W S : Nat → Nat} {e : Nat} {a b : gZ} (h : LC T n p m W S e a b) : Lin T n p m W S e := by obtain ⟨_, _, x, _⟩ := h; exact x
theorem LC.ta {T : Nat → Int} {n p m : Nat} {W S : Nat → Nat} {e : Nat} {a b : gZ} (h : LC T n p m W S e a b) : ∀ j, j < n → a.1 11 j = T j := by obtain ⟨_, _, _, x, _⟩ := h; exact x
theorem LC.tb {T : Nat → Int} {n p m : Nat} {W S : Nat → Nat} {e : Nat} {a b : gZ} (h : LC T n p m W S e a b) : ∀ j, j < n → b.1 96 j = T j := by obtain ⟨_, _, _, _, x, _⟩ := h; exact x
theorem LC.a3 {T : Nat → Int} {n p m : Nat} {W S : Nat → Nat} {e : Nat} {a b : gZ} (h : LC T n p m W S e a b) : a.1 10 3 = n := by obtain ⟨_, _, _, _, _, x, _⟩ := h; exact x
theorem LC.b16 {T : Nat → Int} {n p m : Nat} {W S : Nat → Nat} {e : Nat} {a b : gZ} (h : LC T n p m W S e a b) : b.1 94 16 = n := by obtain ⟨_, _, _, _, _, _, x, _⟩ := h; exact x
theorem LC.bm {T : Nat → Int} {n p m : Nat} {W S : Nat → Nat} {e : Nat} {a b : gZ} (h : LC T n p m W S e a b) : b.1 94 19 = m := by obtain ⟨_, _, _, _, _, _, _, x, _⟩ := h; exact x
theorem LC.be {T : Nat → Int} {n p m : Nat} {W S : Nat → Nat} {e : Nat} {a b : gZ} (h : LC T n p m W S e a b) : b.1 94 20 = e := by obtain ⟨_, _, _, _, _, _, _, _, x, _⟩ := h; exact x
theorem LC.bw {T : Nat → Int} {n p m : Nat} {W S : Nat → Nat} {e : Nat} {a b : gZ} (h : LC T n p m W S e a b) : ∀ i, i < m → b.1 97 i = W i ∧ b.1 98 i = S i := by obtain ⟨_, _, _, _, _, _, _, _, _, x⟩ := h; exact x
section
variable {G : Prop} {T : Nat → Int} {n p m : Nat} {W S : Nat → Nat} {e : Nat} {a b : gZ}
theorem LC_c {a' b' : gZ} (h : LC T n p m W S e a b) (ha : ∀ k j, k = 11 ∨ (k = 10 ∧ j = 3) → a'.1 k j = a.1 k j) (hb : ∀ k j, (96 ≤ k ∧ k ≤ 98) ∨ (k = 94 ∧ (j = 16 ∨ j = 19 ∨ j = 20)) → b'.1 k j = b.1 k j) : LC T n p m W S e a' b' := by
  obtain ⟨h1, h2, h3, h4, h5, h6, h7, h8, h9, h10⟩ := h
  exact ⟨h1, h2, h3, fun j hj => by rw [ha 11 j (by omega)]; exact h4 j hj, fun j hj => by rw [hb 96 j (by omega)]; exact h5 j hj, by rw [ha 10 3 (by omega)]; exact h6, by rw [hb 94 16 (by omega)]; exact h7, by rw [hb 94 19 (by omega)]; exact h8, by rw [hb 94 20 (by omega)]; exact h9, fun i hi => by rw [hb 97 i (by omega), hb 98 i (by omega)]; exact h10 i hi⟩
theorem LC_m (h : LC T n p m W S e a b) : m ≤ 2001 := by have := h.lin.mb; have := h.n4; omega
theorem LC_e (h : LC T n p m W S e a b) : e ≤ n := Fst_le h.lin.nl (by have := h.hp; omega)
theorem LC_p (h : LC T n p m W S e a b) {i : Nat} (hi : i ≤ m) : p ≤ psn p W S i ∧ psn p W S i ≤ e := by
  have h1 := wds_le h.lin.w i hi
  have h2 := wdR_mo h.lin.en
  omega
theorem LC_w (h : LC T n p m W S e a b) {i : Nat} (hi : i < m) : 0 < S i ∧ psn p W S i ≤ W i ∧ W i + S i ≤ e := by
  have h1 := LC_p h (i := i + 1) (by omega)
  have h2 := h.lin.w i hi
  have h3 := wdR_mo h2.2
  have e1 : psn p W S (i + 1) = W i + S i := rfl
  exact ⟨h2.1, h3.1, by omega⟩
/-- the class's next word: word i of the line -/
theorem s_nw1 (h : LC T n p m W S e a b) {i : Nat} (hi : i < m) (h4 : a.1 10 4 = (psn p W S i : Nat)) : zOk (q_Text_nextWord E (kL c) a) (fun r => r.1 = 1 ∧ zOff p46 a r.2 ∧ r.2.1 10 5 = W i ∧ r.2.1 10 6 = ((W i + S i : Nat) : Int) ∧ r.2.1 10 4 = ((psn p W S (i + 1) : Nat) : Int)) := by
  have n4 := h.n4
  have he := LC_e h
  have hp := LC_p h (i := i) (by omega)
  refine ok_w (s_nextWord (T := T) n4 (by omega) h.a3 h4 h.ta) ?_
  rintro ⟨v, s⟩ ⟨f, t, w, o, h5, h6, h7, h8⟩
  have hw := h.lin.w i hi
  obtain ⟨u1, u2⟩ := wdR_u w hw.2
  refine ⟨?_, o, h5.trans (by omega), h6.trans (by omega), h7.trans ?_⟩
  · show v = 1
    rw [show v = _ from h8, if_pos (by omega)]
  · show (t : Int) = ((W i + S i : Nat) : Int)
    omega
theorem s_nw0 (h : LC T n p m W S e a b) (h4 : a.1 10 4 = (psn p W S m : Nat)) : zOk (q_Text_nextWord E (kL c) a) (fun r => r.1 = 0 ∧ zOff p46 a r.2 ∧ r.2.1 10 5 = e ∧ r.2.1 10 6 = e ∧ r.2.1 10 4 = e) := by
  have n4 := h.n4
  have he := LC_e h
  have hp := LC_p h (i := m) (by omega)
  refine ok_w (s_nextWord (T := T) n4 (by omega) h.a3 h4 h.ta) ?_
  rintro ⟨v, s⟩ ⟨f, t, w, o, h5, h6, h7, h8⟩
  obtain ⟨u1, u2⟩ := wdR_u w h.lin.en
  subst u1
  subst u2
  exact ⟨by show v = 0; rw [show v = _ from h8, if_neg (by omega)], o, h5, h6, h7⟩
end
end
-- H6
section
variable {E : gEv} {c : gCf}
def pNa (k j : Nat) : Prop := k = 23 ∨ k = 24 ∨ (k = 22 ∧ j = 10)
def pNb (k j : Nat) : Prop := (99 ≤ k ∧ k ≤ 101) ∨ k = 103 ∨ (k = 94 ∧ j = 23)
section
variable {G : Prop} {T : Nat → Int} {n p m : Nat} {W S : Nat → Nat} {e q nm nI nO nL nG : Nat} {a b : gZ}
/-- a name is new to both -/
theorem RR_new {f s : Nat} (R : RR c G T n q nm nI nO nL nG a b) (hf : q ≤ f) (hs : f + s ≤ n) (hnm : nm < 150) : RR c G T n (f + 1) (nm + 1) nI nO nL nG (tkC a nm f s NmO.new).2 (tkM b nm f s NmO.new).2 := by
  obtain ⟨h1, h2, h3, h4, h5, h6, h7, h8, h9, h10, h11, h12, h13, h14, h15, h16, h17, h18, h19, h20, h21, h22, h23, h24⟩ := R
  generalize ha' : (tkC a nm f s NmO.new).2 = a'
  generalize hb' : (tkM b nm f s NmO.new).2 = b'
  have ea : a' = zPut (zPut (zPut a 23 nm f) 24 nm (s : Int)) 22 10 ((nm : Int) + 1) := ha'.symm
  have eb : b' = zPut (zPut (zPut (zPut (zPut b 99 nm f) 100 nm s) 101 nm 0) 103 nm (-1)) 94 23 ((nm : Int) + 1) := hb'.symm
  have oa : zOff pNa a a' := by
    rw [ea]
    exact off_t (off_put (Or.inl rfl)) (off_t (off_put (Or.inr (Or.inl rfl))) (off_put (Or.inr (Or.inr ⟨rfl, rfl⟩))))
  have ob : zOff pNb b b' := by
    rw [eb]
    exact off_t (off_put (by unfold pNb; omega)) (off_t (off_put (by unfold pNb; omega)) (off_t (off_put (by unfold pNb; omega)) (off_t (off_put (by unfold pNb; omega)) (off_put (by unfold pNb; omega)))))
  have r : ∀ k j, ¬ pNa k j → a'.1 k j = a.1 k j := oa.2
  have t : ∀ k j, ¬ pNb k j → b'.1 k j = b.1 k j := ob.2
  have a23 : ∀ j, a'.1 23 j = if j = nm then (f : Int) else a.1 23 j := fun j => by rw [ea]; rfl
  have a24 : ∀ j, a'.1 24 j = if j = nm then (s : Int) else a.1 24 j := fun j => by rw [ea]; rfl
  have b99 : ∀ j, b'.1 99 j = if j = nm then (f : Int) else b.1 99 j := fun j => by rw [eb]; rfl
  have b100 : ∀ j, b'.1 100 j = if j = nm then (s : Int) else b.1 100 j := fun j => by rw [eb]; rfl
  have b101 : ∀ j, b'.1 101 j = if j = nm then 0 else b.1 101 j := fun j => by rw [eb]; rfl
  have b103 : ∀ j, b'.1 103 j = if j = nm then -1 else b.1 103 j := fun j => by rw [eb]; rfl
  refine ⟨by rw [ea, zp_eq]; omega, by rw [eb, zp_eq]; omega, by omega, fun i hi => ?_, fun i j hij hj => ?_, fun i hi => ?_, fun i h1' h2' => ?_, ?_, by rw [r 22 11 (by unfold pNa; omega)]; exact h9, by rw [t 94 29 (by unfold pNb; omega)]; exact h10, by rw [r 22 12 (by unfold pNa; omega)]; exact h11, by rw [t 94 30 (by unfold pNb; omega)]; exact h12, h13, by rw [r 22 13 (by unfold pNa; omega)]; exact h14, by rw [t 94 31 (by unfold pNb; omega)]; exact h15, by rw [r 13 8 (by unfold pNa; omega)]; exact h16, by rw [t 94 32 (by unfold pNb; omega)]; exact h17, fun i hi => ?_, fun i hi => ?_, fun g hg hG => ?_, fun g g1 g2 => ?_, by rw [r 22 14 (by unfold pNa; omega)]; exact h22, by rw [t 94 17 (by unfold pNb; omega)]; exact h23, by rw [r 22 15 (by unfold pNa; omega), t 94 18 (by unfold pNb; omega)]; exact h24⟩
  · rw [a23, a24, b99, b100]
    by_cases x : i = nm
    · rw [if_pos x, if_pos x, if_pos x, if_pos x]
      exact ⟨f, s, rfl, rfl, rfl, rfl, hs, by omega⟩
    · rw [if_neg x, if_neg x, if_neg x, if_neg x]
      obtain ⟨p, l, x1, x2, x3, x4, x5, x6⟩ := h4 i (by omega)
      exact ⟨p, l, x1, x2, x3, x4, x5, by omega⟩
  · rw [b99, b99, if_neg (show i ≠ nm by omega)]
    by_cases x : j = nm
    · rw [if_pos x]
      obtain ⟨p, l, x1, x2, x3, x4, x5, x6⟩ := h4 i (by omega)
      omega
    · rw [if_neg x]; exact h5 i j hij (by omega)
  · rw [r 25 i (by unfold pNa; omega), b101, b103, b99, t 102 i (by unfold pNb; omega)]
    by_cases x : i = nm
    · rw [if_pos x, if_pos x, if_pos x]
      exact Or.inl ⟨by rw [x]; exact h7 nm (by omega) hnm, rfl, Or.inl rfl⟩
    · rw [if_neg x, if_neg x, if_neg x]
      rcases h6 i (by omega) with y | y | y | ⟨k, k1, k2, k3, k4, k5⟩
      · exact Or.inl y
      · exact Or.inr (Or.inl y)
      · exact Or.inr (Or.inr (Or.inl y))
      · exact Or.inr (Or.inr (Or.inr ⟨k, k1, k2, k3, k4, by rw [t 112 k (by unfold pNb; omega)]; exact k5⟩))
  · rw [r 25 i (by unfold pNa; omega)]; exact h7 i (by omega) h2'
  · rw [cnb, b101, if_pos rfl, ← h8]
    rw [cnb_c (q := fun i => decide (b.1 101 i ≠ 0)) fun i hi => by
      show decide (b'.1 101 i ≠ 0) = decide (b.1 101 i ≠ 0)
      rw [b101, if_neg (by omega)]]
    simp
  · rw [r 29 i (by unfold pNa; omega), t 105 i (by unfold pNb; omega)]
    obtain ⟨v, v1, v2⟩ := h18 i hi
    exact ⟨v, by omega, v2⟩
  · rw [r 26 i (by unfold pNa; omega), r 27 i (by unfold pNa; omega), t 106 i (by unfold pNb; omega), t 108 i (by unfold pNb; omega)]
    obtain ⟨v, v1, v2⟩ := h19 i hi
    exact ⟨v, by omega, v2⟩
  · obtain ⟨m, v, v1, v2, v3, v4, v5, v6, v7, v8, v9, v10, v11, v12, v13, v14⟩ := h20 g hg hG
    refine ⟨m, v, v1, by omega, ?_, ?_, ?_, ?_, ?_, ?_, ?_, ?_, ?_, fun i hi => ?_, fun x hx => ?_, fun x hx => ?_⟩
    · rw [r 14 g (by unfold pNa; omega), t 109 g (by unfold pNb; omega)]; exact v3
    · rw [r 15 g (by unfold pNa; omega)]; exact v4
    · rw [t 110 g (by unfold pNb; omega)]; exact v5
    · rw [r 17 g (by unfold pNa; omega)]; exact v6
    · rw [t 112 g (by unfold pNb; omega)]; exact v7
    · rw [b101, if_neg (by omega)]; exact v8
    · rw [t 102 v (by unfold pNb; omega)]; exact v9
    · rw [r 18 g (by unfold pNa; omega), t 113 g (by unfold pNb; omega)]; exact v10
    · rw [r 18 g (by unfold pNa; omega)]; exact v11
    · rw [r 16 _ (by unfold pNa; omega), t 111 _ (by unfold pNb; omega)]
      obtain ⟨w, w1, w2⟩ := v12 i hi
      exact ⟨w, by omega, w2⟩
    · rw [r 19 _ (by unfold pNa; omega), t 114 _ (by unfold pNb; omega)]; exact v13 x hx
    · rw [r 19 _ (by unfold pNa; omega)]; exact v14 x hx
  · rw [r 18 g (by unfold pNa; omega)]
    refine ⟨(h21 g g1 g2).1, fun x hx => ?_⟩
    rw [r 19 _ (by unfold pNa; omega)]; exact (h21 g g1 g2).2 x hx
/-- both look word i up -/
theorem s_nmB {i : Nat} (h : LC T n p m W S e a b) (R : RR c G T n q nm nI nO nL nG a b) (U : US nm 150 b) (hi : i < m) (hq : q ≤ W i) (h5 : a.1 10 5 = W i) (h6 : a.1 10 6 = ((W i + S i : Nat) : Int)) : (∃ k : Nat, (1 ≤ k ∧ k ≤ 2 ∧ (k = 1 ↔ T (W i) = 46)) ∧ q_Reader_takeName E (kL c) a = some (-1, zPut (zPut a 22 14 k) 22 15 (W i)) ∧ q_Model_name E (kL c) (i : Int) b = some (0, zPut (zPut b 94 17 k) 94 18 (W i))) ∨ ∃ (v nm' : Nat) (a' b' : gZ), v < nm' ∧ (nm ≤ nm' ∧ T (W i) ≠ 46) ∧ q_Reader_takeName E (kL c) a = some ((v : Int), a') ∧ q_Model_name E (kL c) (i : Int) b = some ((v : Int), b') ∧ RR c G T n (W i + 1) nm' nI nO nL nG a' b' ∧ US nm' v b' ∧ (b'.1 101 v = 0 → b'.1 103 v = -1 → b'.1 99 v = W i) ∧ zOff pNa a a' ∧ zOff pNb b b' := by
  have n4 := h.n4
  have he := LC_e h
  have hw := LC_w h hi
  have hm := LC_m h
  have hb := h.bw i hi
  let A : Nat → Nat := fun i => (b.1 99 i).toNat
  let B : Nat → Nat := fun i => (b.1 100 i).toNat
  have hA : ∀ i, i < nm → a.1 23 i = A i ∧ a.1 24 i = B i ∧ b.1 99 i = A i ∧ b.1 100 i = B i ∧ A i + B i ≤ n := fun i hi => by
    obtain ⟨p, l, x1, x2, x3, x4, x5, x6⟩ := R.nam i hi
    have e1 : A i = p := by show (b.1 99 i).toNat = p; omega
    have e2 : B i = l := by show (b.1 100 i).toNat = l; omega
    rw [e1, e2]
    exact ⟨x1, x3, x2, x4, x5⟩
  obtain ⟨x, hx⟩ := nm_ex T A B (W i) (S i) R.nb
  have e1 := s_takeName (E := E) (c := c) (z := a) (T := T) (n := n) (A := A) (B := B) (f := W i) (t := W i + S i) (x := x) n4 R.nb R.an h5 h6 (by omega) (by omega) h.ta (fun i hi => by obtain ⟨a1, a2, a3, a4, a5⟩ := hA i hi; exact ⟨a1, a2, a5⟩) (by rw [show W i + S i - W i = S i by omega]; exact hx)
  have e2 := s_name (E := E) (c := c) (z := b) (T := T) (n := n) (A := A) (B := B) (f := W i) (s := S i) (x := x) (k := i) n4 R.nb R.fb R.bn h.bm hi (by omega) hb.1 hb.2 hw.1 (by omega) h.tb (fun i hi => by obtain ⟨a1, a2, a3, a4, a5⟩ := hA i hi; exact ⟨a3, a4, a5⟩) hx
  rw [show W i + S i - W i = S i by omega] at e1
  cases x using NmO_cases with
  | bad k =>
    refine Or.inl ⟨k, ?_, e1, e2⟩
    rcases hx with y | y
    · omega
    · have := y.1; have := y.2.1; omega
  | old v =>
    obtain ⟨x1, x2, x3, x4, x5⟩ := hx
    refine Or.inr ⟨v, nm, a, b, x3, ⟨Nat.le_refl _, x1⟩, e1, e2, RR_c R (by omega) (fun _ _ _ => rfl) (fun _ _ _ => rfl), fun j j1 j2 => U j j1 (by have := R.nb; omega), fun y1 y2 => ?_, off_r, off_r⟩
    exact absurd y2 (U v x3 (by have := R.nb; omega) y1)
  | new =>
    obtain ⟨x1, x2, x3, x4⟩ := hx
    have b101 : ∀ j, (tkM b nm (W i) (S i) NmO.new).2.1 101 j = if j = nm then 0 else b.1 101 j := fun j => rfl
    have b103 : ∀ j, (tkM b nm (W i) (S i) NmO.new).2.1 103 j = if j = nm then -1 else b.1 103 j := fun j => rfl
    have b99 : ∀ j, (tkM b nm (W i) (S i) NmO.new).2.1 99 j = if j = nm then (W i : Int) else b.1 99 j := fun j => rfl
    refine Or.inr ⟨nm, nm + 1, (tkC a nm (W i) (S i) NmO.new).2, (tkM b nm (W i) (S i) NmO.new).2, by omega, ⟨by omega, x1⟩, e1, e2, RR_new R hq (by omega) x3, fun j j1 j2 => ?_, fun _ _ => by rw [b99, if_pos rfl], ?_, ?_⟩
    · rw [b101, b103, if_neg j2, if_neg j2]
      exact U j (by omega) (by omega)
    · exact off_t (off_put (Or.inl rfl)) (off_t (off_put (Or.inr (Or.inl rfl))) (off_put (Or.inr (Or.inr ⟨rfl, rfl⟩))))
    · exact off_t (off_put (by unfold pNb; omega)) (off_t (off_put (by unfold pNb; omega)) (off_t (off_put (by unfold pNb; omega)) (off_t (off_put (by unfold pNb; omega)) (off_put (by unfold pNb; omega)))))
end
end
-- H7
section
variable {E : gEv} {c : gCf}
section
variable {G : Prop} {T : Nat → Int} {n : Nat} {q nm nI nO nL nG : Nat} {a b : gZ}
/-- a name is used -/
theorem s_used {v f : Nat} (R : RR c G T n q nm nI nO nL nG a b) (hv : v < nm) (U : US nm v b) (hx : b.1 101 v = 0 → b.1 103 v = -1 → b.1 99 v = f) : ∃ b', q_Model_isUsed E (kL c) (v : Int) (f : Int) b = some b' ∧ RR c G T n q nm nI nO nL nG a b' ∧ US nm 150 b' ∧ zOff (fun k _ => k = 103) b b' := by
  have nb := R.nb
  unfold q_Model_isUsed
  rw [kL_103, if_pos (by omega), gtN]
  by_cases e : b.1 103 v = -1
  · rw [if_pos e, let_s]
    have b103 : ∀ j, (zPut b 103 v (f : Int)).1 103 j = if j = v then (f : Int) else b.1 103 j := fun j => rfl
    have o : zOff (fun k _ => k = 103) b (zPut b 103 v (f : Int)) := off_put rfl
    refine ⟨_, rfl, ?_, fun i hi _ h1 => ?_, o⟩
    · generalize hb' : zPut b 103 v (f : Int) = b' at *
      have t : ∀ k, k ≠ 103 → b'.1 k = b.1 k := fun k hk => funext fun j => o.2 k j hk
      obtain ⟨h1, h2, h3, h4, h5, h6, h7, h8, h9, h10, h11, h12, h13, h14, h15, h16, h17, h18, h19, h20, h21, h22, h23, h24⟩ := R
      refine ⟨h1, by rw [t 94 (by decide)]; exact h2, h3, by rw [t 99 (by decide), t 100 (by decide)]; exact h4, by rw [t 99 (by decide)]; exact h5, fun i hi => ?_, h7, by rw [t 101 (by decide)]; exact h8, h9, by rw [t 94 (by decide)]; exact h10, h11, by rw [t 94 (by decide)]; exact h12, h13, h14, by rw [t 94 (by decide)]; exact h15, h16, by rw [t 94 (by decide)]; exact h17, by rw [t 105 (by decide)]; exact h18, by rw [t 106 (by decide), t 108 (by decide)]; exact h19, by rw [t 101 (by decide), t 102 (by decide), t 109 (by decide), t 110 (by decide), t 111 (by decide), t 112 (by decide), t 113 (by decide), t 114 (by decide)]; exact h20, h21, h22, by rw [t 94 (by decide)]; exact h23, by rw [t 94 (by decide)]; exact h24⟩
      rw [t 101 (by decide), t 102 (by decide), t 99 (by decide), t 112 (by decide), b103]
      by_cases x : i = v
      · rw [if_pos x]
        rcases h6 i hi with ⟨y1, y2, y3⟩ | y
        · exact Or.inl ⟨y1, y2, Or.inr (by rw [x]; rw [x] at y2; exact (hx y2 e).symm)⟩
        · exact Or.inr y
      · rw [if_neg x]; exact h6 i hi
    · show (zPut b 103 v (f : Int)).1 103 i ≠ -1
      rw [b103]
      by_cases x : i = v
      · rw [if_pos x]; omega
      · rw [if_neg x]; exact U i hi x h1
  · rw [if_neg e]
    refine ⟨b, rfl, R, fun i hi _ h1 => ?_, off_r⟩
    by_cases x : i = v
    · rw [x]; exact e
    · exact U i hi x h1
/-- there is room for what makes a name -/
theorem RR_lt {v : Nat} (R : RR c G T n q nm nI nO nL nG a b) (hv : v < nm) (h : b.1 101 v = 0) : nI + nL + nG < 150 := by
  have := cnb_lt (p := fun i => decide (b.1 101 i ≠ 0)) hv (by show decide (b.1 101 v ≠ 0) = false; rw [h]; rfl)
  have := R.cnt
  have := R.nb
  omega
/-- a name is made: what is left to be shown is of latches and gates -/
theorem RR_make {v nI' nL' nG' : Nat} {src how wh : Int} {a' b' : gZ} (R : RR c G T n q nm nI nO nL nG a b) (hv : v < nm) (h0 : b.1 101 v = 0) (hk : (nI' = nI + 1 ∧ nL' = nL ∧ nG' = nG ∧ src = nI ∧ how = 1 ∧ wh = nI) ∨ (nI' = nI ∧ nL' = nL + 1 ∧ nG' = nG ∧ src = ((200 + nL : Nat) : Int) ∧ how = 2 ∧ wh = nL) ∨ (nI' = nI ∧ nL' = nL ∧ nG' = nG + 1 ∧ src = ((1000 + nG : Nat) : Int) ∧ how = 3 ∧ wh = nG))
    (ha : ∀ k j, (k = 22 ∧ (j = 10 ∨ j = 12 ∨ j = 14 ∨ j = 15)) ∨ k = 18 ∨ k = 19 ∨ k = 23 ∨ k = 24 ∨ k = 29 → a'.1 k j = a.1 k j) (hb : ∀ k j, (k = 94 ∧ (j = 17 ∨ j = 18 ∨ j = 23 ∨ j = 30)) ∨ k = 99 ∨ k = 100 ∨ k = 103 ∨ k = 105 → b'.1 k j = b.1 k j)
    (a25 : ∀ j, a'.1 25 j = if j = v then src else a.1 25 j) (b101 : ∀ j, b'.1 101 j = if j = v then how else b.1 101 j) (b102 : ∀ j, b'.1 102 j = if j = v then wh else b.1 102 j)
    (ai : a'.1 22 11 = nI') (bi : b'.1 94 29 = nI') (al : a'.1 22 13 = nL') (bl : b'.1 94 31 = nL') (ag : a'.1 13 8 = nG') (bg : b'.1 94 32 = nG') (io : nI' + nO ≤ kD c)
    (lat : ∀ i, i < nL' → ∃ v : Nat, v < nm ∧ a'.1 26 i = v ∧ b'.1 106 i = v ∧ a'.1 27 i = b'.1 108 i ∧ b01 (a'.1 27 i))
    (gat : ∀ g, g < nG' → G → ∃ m v : Nat, m ≤ 8 ∧ v < nm ∧ a'.1 14 g = b'.1 109 g ∧ a'.1 15 g = m ∧ b'.1 110 g = m ∧ a'.1 17 g = v ∧ b'.1 112 g = v ∧ b'.1 101 v = 3 ∧ b'.1 102 v = g ∧ a'.1 18 g = b'.1 113 g ∧ (a'.1 18 g = -1 ∨ b01 (a'.1 18 g)) ∧ (∀ i, i < m → ∃ w : Nat, w < nm ∧ a'.1 16 (8 * g + i) = w ∧ b'.1 111 (8 * g + i) = w) ∧ (∀ x, x < 256 → b01 (b'.1 114 (256 * g + x)) ∧ zBit (a'.1 19 (8 * g + x / 32)) (x % 32) = decide (b'.1 114 (256 * g + x) = 1)) ∧ ∀ x, x < 8 → -2147483648 ≤ a'.1 19 (8 * g + x) ∧ a'.1 19 (8 * g + x) < 2147483648) (h112 : ∀ j, j < nG → b'.1 112 j = b.1 112 j) (h112' : how = 3 → b'.1 112 nG = v) :
    RR c G T n q nm nI' nO nL' nG' a' b' := by
  have nI_ : nI ≤ nI' ∧ nL ≤ nL' ∧ nG ≤ nG' ∧ nI' + nL' + nG' = nI + nL + nG + 1 := by omega
  obtain ⟨h1, h2, h3, h4, h5, h6, h7, h8, h9, h10, h11, h12, h13, h14, h15, h16, h17, h18, h19, h20, h21, h22, h23, h24⟩ := R
  have r : ∀ k, k = 18 ∨ k = 19 ∨ k = 23 ∨ k = 24 ∨ k = 29 → a'.1 k = a.1 k := fun k hk => funext fun j => ha k j (by omega)
  have s : ∀ k, k = 99 ∨ k = 100 ∨ k = 103 ∨ k = 105 → b'.1 k = b.1 k := fun k hk => funext fun j => hb k j (by omega)
  refine ⟨by rw [ha 22 10 (by omega)]; exact h1, by rw [hb 94 23 (by omega)]; exact h2, h3, by rw [r 23 (by omega), r 24 (by omega), s 99 (by omega), s 100 (by omega)]; exact h4, by rw [s 99 (by omega)]; exact h5, fun i hi => ?_, fun i i1 i2 => ?_, ?_, ai, bi, by rw [ha 22 12 (by omega)]; exact h11, by rw [hb 94 30 (by omega)]; exact h12, io, al, bl, ag, bg, by rw [r 29 (by omega), s 105 (by omega)]; exact h18, lat, gat, fun g g1 g2 => ?_, by rw [ha 22 14 (by omega)]; exact h22, by rw [hb 94 17 (by omega)]; exact h23, by rw [ha 22 15 (by omega), hb 94 18 (by omega)]; exact h24⟩
  · rw [a25, b101, b102, s 103 (by omega), s 99 (by omega)]
    by_cases x : i = v
    · rw [if_pos x, if_pos x, if_pos x]
      rcases hk with ⟨k1, k2, k3, k4, k5, k6⟩ | ⟨k1, k2, k3, k4, k5, k6⟩ | ⟨k1, k2, k3, k4, k5, k6⟩
      · exact Or.inr (Or.inl ⟨nI, by omega, k4, k5, k6⟩)
      · exact Or.inr (Or.inr (Or.inl ⟨nL, by omega, k4, k5, k6⟩))
      · exact Or.inr (Or.inr (Or.inr ⟨nG, by omega, k4, k5, k6, by rw [h112' k5, x]⟩))
    · rw [if_neg x, if_neg x, if_neg x]
      rcases h6 i hi with y | ⟨k, k1, k2⟩ | ⟨k, k1, k2⟩ | ⟨k, k1, k2⟩
      · exact Or.inl y
      · exact Or.inr (Or.inl ⟨k, by omega, k2⟩)
      · exact Or.inr (Or.inr (Or.inl ⟨k, by omega, k2⟩))
      · exact Or.inr (Or.inr (Or.inr ⟨k, by omega, k2.1, k2.2.1, k2.2.2.1, by rw [h112 k k1]; exact k2.2.2.2⟩))
  · rw [a25, if_neg (by omega)]; exact h7 i i1 i2
  · have hn : how ≠ 0 := by omega
    rw [nI_.2.2.2, ← h8]
    refine cnb_add hv ?_ ?_ fun i hi => ?_
    · show decide (b.1 101 v ≠ 0) = false
      rw [h0]; rfl
    · show decide (b'.1 101 v ≠ 0) = true
      rw [b101, if_pos rfl]; exact decide_eq_true hn
    · show decide (b'.1 101 i ≠ 0) = decide (b.1 101 i ≠ 0)
      rw [b101, if_neg hi]
  · rw [r 18 (by omega), r 19 (by omega)]
    exact h21 g (by omega) g2
/-- an unmade name, or both refuse -/
theorem s_mkB {v f : Nat} {src how wh : Int} (R : RR c G T n q nm nI nO nL nG a b) (hv : v < nm) : (b.1 101 v = 0 ∧ q_Reader_make E (kL c) (v : Int) src (f : Int) a = some (1, zPut a 25 v src) ∧ q_Model_makes E (kL c) (v : Int) how wh (f : Int) b = some (zPut (zPut b 101 v how) 102 v wh)) ∨ (q_Reader_make E (kL c) (v : Int) src (f : Int) a = some (0, zPut (zPut a 22 14 3) 22 15 (f : Int)) ∧ q_Model_makes E (kL c) (v : Int) how wh (f : Int) b = some (zPut (zPut b 94 17 3) 94 18 (f : Int))) := by
  have nb := R.nb
  have hv' : 0 ≤ (v : Int) ∧ (v : Int) < ((150 : Nat) : Int) := by omega
  have hm : (a.1 25 v = -1 ∧ b.1 101 v = 0) ∨ (a.1 25 v ≠ -1 ∧ b.1 101 v ≠ 0) := by
    rcases R.mak v hv with ⟨y1, y2, -⟩ | ⟨k, -, y1, y2, -⟩ | ⟨k, -, y1, y2, -⟩ | ⟨k, -, y1, y2, -⟩
    · exact Or.inl ⟨y1, y2⟩
    · exact Or.inr ⟨by omega, by omega⟩
    · exact Or.inr ⟨by omega, by omega⟩
    · exact Or.inr ⟨by omega, by omega⟩
  rcases hm with ⟨m1, m2⟩ | ⟨m1, m2⟩
  · refine Or.inl ⟨m2, ?_, ?_⟩
    · unfold q_Reader_make
      rw [kL_25, if_pos hv', gtN, if_pos m1, let_s]
    · unfold q_Model_makes
      rw [kL_101, kL_102, if_pos hv', gtN, if_pos m2, let_s, if_pos hv', let_s]
  · refine Or.inr ⟨?_, ?_⟩
    · unfold q_Reader_make q_Reader_refuse
      rw [kL_25, if_pos hv', gtN, if_neg m1, let_s, let_s, b1_s]
    · unfold q_Model_makes
      rw [kL_101, kL_102, if_pos hv', gtN, if_neg m2, s_fail R.fb, b1_s]
end
theorem b2_p {α β γ : Type} (x : α) (y : β) (f : α → β → Option γ) : gB2 (some (x, y)) f = f x y := rfl
/-- two loops, step by step -/
theorem it_two {σ τ ε δ : Type} {f : σ → Option (σ ⊕ ε)} {g : τ → Option (τ ⊕ δ)} (I : Nat → σ → τ → Prop) (N : Nat) {Q : ε → δ → Prop} (hN : N < 1000000000) (h : ∀ i s t, i ≤ N → I i s t → (∃ s' t', f s = some (.inl s') ∧ g t = some (.inl t') ∧ I (i + 1) s' t' ∧ i < N) ∨ (∃ e d, f s = some (.inr e) ∧ g t = some (.inr d) ∧ Q e d) ∨ ∃ e t' d, f s = some (.inr e) ∧ g t = some (.inl t') ∧ g t' = some (.inr d) ∧ Q e d) {s : σ} {t : τ} (h0 : I 0 s t) : ∃ e d, gIter f gN s = some e ∧ gIter g gN t = some d ∧ Q e d := by
  have key : ∀ (k i : Nat) (s : σ) (t : τ), i ≤ N → N + 2 < k + i → I i s t → ∃ e d, gIter f k s = some e ∧ gIter g k t = some d ∧ Q e d := by
    intro k
    induction k with
    | zero => intro i s t h1 h2; omega
    | succ k ih =>
      intro i s t h1 h2 hI
      rcases h i s t h1 hI with ⟨s', t', e1, e2, e3, e4⟩ | ⟨e, d, e1, e2, e3⟩ | ⟨e, t', d, e1, e2, e3, e4⟩
      · rw [it_step e1, it_step e2]
        exact ih (i + 1) s' t' (by omega) (by omega) e3
      · exact ⟨e, d, it_end e1, it_end e2, e3⟩
      · obtain ⟨k', rfl⟩ : ∃ k', k = k' + 1 := ⟨k - 1, by omega⟩
        exact ⟨e, d, it_end e1, by rw [it_step e2]; exact it_end e3, e4⟩
  exact key gN 0 s t (by omega) (by unfold gN; omega) h0
end
-- H8
section
variable {E : gEv} {c : gCf}
def pRa (k j : Nat) : Prop := (k = 10 ∧ 4 ≤ j ∧ j ≤ 6) ∨ (k = 22 ∧ 10 ≤ j ∧ j ≤ 16) ∨ (k = 13 ∧ j = 8) ∨ (14 ≤ k ∧ k ≤ 19) ∨ (23 ≤ k ∧ k ≤ 29)
def pRb (k j : Nat) : Prop := (k = 94 ∧ (j = 17 ∨ j = 18 ∨ j = 23 ∨ (29 ≤ j ∧ j ≤ 31))) ∨ (99 ≤ k ∧ k ≤ 114)
def pRc (k j : Nat) : Prop := pRb k j ∨ (k = 94 ∧ j = 32)
/-- both refuse, alike -/
def FF (a b : gZ) : Prop := ∃ k f : Nat, 1 ≤ k ∧ k ≤ 5 ∧ a.1 22 14 = k ∧ a.1 22 15 = f ∧ b.1 94 17 = k ∧ b.1 94 18 = f
/-- both went through a line -/
def LR (c : gCf) (T : Nat → Int) (n p e : Nat) (a b a' b' : gZ) : Prop := zOff pRa a a' ∧ zOff pRb b b' ∧ (FF a' b' ∨ ∃ nm nI nO nL nG : Nat, RR c True T n (e + 1) nm nI nO nL nG a' b' ∧ US nm 150 b' ∧ ∃ x : Nat, a'.1 10 4 = x ∧ p ≤ x ∧ x ≤ e)
section
variable {G : Prop} {T : Nat → Int} {n p m : Nat} {W S : Nat → Nat} {e q nm nI nO nL nG : Nat} {a b : gZ}
theorem FF_put {k f : Nat} {a b : gZ} (h : 1 ≤ k ∧ k ≤ 5) : FF (zPut (zPut a 22 14 k) 22 15 f) (zPut (zPut b 94 17 k) 94 18 f) := ⟨k, f, h.1, h.2, rfl, rfl, rfl, rfl⟩
/-- an input -/
theorem RR_in {v : Nat} (R : RR c G T n q nm nI nO nL nG a b) (hv : v < nm) (h0 : b.1 101 v = 0) (io : nI + 1 + nO ≤ kD c) : RR c G T n q nm (nI + 1) nO nL nG (zPut (zPut a 25 v (nI : Int)) 22 11 ((nI : Int) + 1)) (zPut (zPut (zPut (zPut b 101 v 1) 102 v (nI : Int)) 104 nI (v : Int)) 94 29 ((nI : Int) + 1)) := by
  refine RR_make (src := (nI : Int)) (how := 1) (wh := (nI : Int)) R hv h0 (Or.inl ⟨rfl, rfl, rfl, rfl, rfl, rfl⟩) (fun k j hk => ?_) (fun k j hk => ?_) (fun j => rfl) (fun j => rfl) (fun j => rfl) (by rw [zp_eq]; omega) (by rw [zp_eq]; omega) R.al R.bl R.ag R.bg io R.lat (fun g hg hG => ?_) (fun j _ => rfl) (fun h => absurd h (by decide))
  · rw [zp1, zp1]
    by_cases x : k = 22
    · rw [if_pos x, if_neg (by omega), if_neg (by omega)]
    · rw [if_neg x, if_neg (by omega)]
  · rw [zp1, zp1, zp1, zp1]
    by_cases x : k = 94
    · rw [if_pos x, if_neg (by omega), if_neg (by omega), if_neg (by omega), if_neg (by omega)]
    · rw [if_neg x, if_neg (by omega), if_neg (by omega), if_neg (by omega)]
  · obtain ⟨m, w, v1, v2, v3, v4, v5, v6, v7, v8, v9, v10, v11, v12, v13, v14⟩ := R.gat g hg hG
    have hw : w ≠ v := fun x => by rw [x] at v8; omega
    refine ⟨m, w, v1, v2, v3, v4, v5, v6, v7, ?_, ?_, v10, v11, v12, v13, v14⟩
    · show (if w = v then (1 : Int) else b.1 101 w) = 3
      rw [if_neg hw]; exact v8
    · show (if w = v then (nI : Int) else b.1 102 w) = g
      rw [if_neg hw]; exact v9
/-- an output -/
theorem RR_out {v : Nat} (R : RR c G T n q nm nI nO nL nG a b) (hv : v < nm) (io : nI + (nO + 1) ≤ kD c) : RR c G T n q nm nI (nO + 1) nL nG (zPut (zPut a 22 12 ((nO : Int) + 1)) 29 nO (v : Int)) (zPut (zPut b 105 nO (v : Int)) 94 30 ((nO : Int) + 1)) := by
  obtain ⟨h1, h2, h3, h4, h5, h6, h7, h8, h9, h10, h11, h12, h13, h14, h15, h16, h17, h18, h19, h20, h21, h22, h23, h24⟩ := R
  refine ⟨h1, h2, h3, h4, h5, h6, h7, h8, h9, h10, ?_, ?_, io, h14, h15, h16, h17, fun i hi => ?_, h19, h20, h21, h22, h23, h24⟩
  · show (nO : Int) + 1 = _
    omega
  · show (nO : Int) + 1 = _
    omega
  · by_cases x : i = nO
    · refine ⟨v, hv, ?_, ?_⟩
      · show (if i = nO then (v : Int) else a.1 29 i) = v
        rw [if_pos x]
      · show (if i = nO then (v : Int) else b.1 105 i) = v
        rw [if_pos x]
    · obtain ⟨w, w1, w2, w3⟩ := h18 i (by omega)
      refine ⟨w, w1, ?_, ?_⟩
      · show (if i = nO then (v : Int) else a.1 29 i) = w
        rw [if_neg x]; exact w2
      · show (if i = nO then (v : Int) else b.1 105 i) = w
        rw [if_neg x]; exact w3
end
end
-- H9
section
variable {E : gEv} {c : gCf}
section
variable {T : Nat → Int} {n p m : Nat} {W S : Nat → Nat} {e nL nG : Nat} {a b : gZ}
theorem LC_o {a' b' : gZ} (h : LC T n p m W S e a b) (oa : zOff pRa a a') (ob : zOff pRb b b') : LC T n p m W S e a' b' :=
  LC_c h (fun k j hk => oa.2 k j (by unfold pRa; omega)) (fun k j hk => ob.2 k j (by unfold pRb; omega))
def padF (E : gEv) (c : gCf) (e12 : (Int × gZ) ⊕ ((gZ) ⊕ ((gZ) ⊕ ((gZ) ⊕ (gZ))))) : Option gZ := gSum e12 (fun e23 => if e23.1 = 0 then (gB1 (q_Reader_refuse E (kL c) 1 (e23.2.1 10 5) e23.2) fun s16 => some s16) else some e23.2) (fun e24 => gSum e24 (fun e25 => some e25) (fun e26 => gSum e26 (fun e27 => gB1 (q_Reader_refuse E (kL c) 2 (e27.1 10 5) e27) fun s20 => some s20) (fun e28 => gSum e28 (fun e29 => some e29) (fun e30 => some e30))))
theorem s_refuse {k v : Int} {z : gZ} : q_Reader_refuse E (kL c) k v z = some (zPut (zPut z 22 14 k) 22 15 v) := by
  unfold q_Reader_refuse
  rw [let_s, let_s]
theorem pRa_f {k v : Int} {z : gZ} : zOff pRa z (zPut (zPut z 22 14 k) 22 15 v) := off_t (off_put (by unfold pRa; omega)) (off_put (by unfold pRa; omega))
theorem pRb_f {k v : Int} {z : gZ} : zOff pRb z (zPut (zPut z 94 17 k) 94 18 v) := off_t (off_put (by unfold pRb; omega)) (off_put (by unfold pRb; omega))
/-- a loop of the reference that has a fault ends at its next step -/
theorem pad_end {l : Int} {k : Int} {z : gZ} (h : z.1 94 17 ≠ 0) : q_Model_padLine_19 E (kL c) l k z = some (.inr z) := by
  unfold q_Model_padLine_19
  by_cases x : z.1 94 19 ≤ k
  · rw [if_pos x]
  · rw [if_neg x, if_neg h]
theorem pad_skip {l v : Int} {k : Nat} {z : gZ} (hk : k < 3000) (h : z.1 94 17 ≠ 0) : q_Model_padLine_j74_19 E (kL c) l (k : Int) v z = some (.inl ((k : Int) + 1, z)) := by
  unfold q_Model_padLine_j74_19 q_Model_padLine_j137_19
  rw [if_neg h, if_neg h, if_pos (by omega), let_s]
theorem s_pads {l : Int} {nm nI nO : Nat} (hk : kOk c) (h : LC T n p m W S e a b) (R : RR c True T n p nm nI nO nL nG a b) (U : US nm 150 b) (hm : 1 ≤ m) (h4 : a.1 10 4 = (psn p W S 1 : Nat)) (a2 : a.1 22 2 = kD c) (b6 : b.1 94 6 = kD c) : ∃ a' b', q_Reader_readPadNames E (kL c) l a = some a' ∧ q_Model_padLine E (kL c) l b = some b' ∧ LR c T n p e a b a' b' ∧ a'.1 22 16 = a.1 22 16 ∧ a'.1 13 8 = a.1 13 8 := by
  have hD := kD_b hk
  have m2 := LC_m h
  have n4 := h.n4
  have he := LC_e h
  by_cases m1 : m = 1
  · subst m1
    obtain ⟨⟨r, s⟩, hr, r1, ro, r5, r6, r4⟩ := s_nw0 (E := E) (c := c) h h4
    have r1 : r = 0 := r1
    have ro : zOff p46 a s := ro
    have r5 : s.1 10 5 = e := r5
    have lp : gIter (fun y => q_Reader_readPadNames_2 E (kL c) l y.1 y.2) gN (0, a) = some (Sum.inl (0, s)) := by
      refine it_run (fun _ => ((0 : Int), a)) 0 rfl (fun i hi => by omega) ?_ (by omega)
      show q_Reader_readPadNames_2 E (kL c) l 0 a = _
      unfold q_Reader_readPadNames_2
      rw [if_neg (by omega), hr, b2_p, if_pos r1]
    have lm : gIter (fun y => q_Model_padLine_19 E (kL c) l y.1 y.2) gN (1, zPut (zPut b 94 17 1) 94 18 (e : Int)) = some (zPut (zPut b 94 17 1) 94 18 (e : Int)) := by
      refine it_run (fun _ => ((1 : Int), zPut (zPut b 94 17 1) 94 18 (e : Int))) 0 rfl (fun i hi => by omega) ?_ (by omega)
      exact pad_end (by show (1 : Int) ≠ 0; decide)
    refine ⟨zPut (zPut s 22 14 1) 22 15 (e : Int), zPut (zPut b 94 17 1) 94 18 (e : Int), ?_, ?_, ⟨off_t (off_w ro fun k j x => by unfold p46 at x; unfold pRa; omega) pRa_f, pRb_f, Or.inl (FF_put (k := 1) (f := e) (by omega))⟩, ro.2 22 16 (by unfold p46; omega), ro.2 13 8 (by unfold p46; omega)⟩
    · unfold q_Reader_readPadNames
      rw [lp, b1_s, gs_l, if_pos (show ((0 : Int), s).1 = 0 from rfl), show ((0 : Int), s).2 = s from rfl, s_refuse, b1_s, r5]
    · unfold q_Model_padLine q_Model_padLine_j17
      rw [h.bm, if_pos (show ((1 : Nat) : Int) = 1 from rfl), s_fail R.fb, b1_s, h.be, lm, b1_s]
  · -- two words or more
    have key := it_two (f := fun y => q_Reader_readPadNames_2 E (kL c) l y.1 y.2) (g := fun y => q_Model_padLine_19 E (kL c) l y.1 y.2) (fun i s t => s.1 = (i : Int) ∧ t.1 = (i : Int) + 1 ∧ i + 1 ≤ m ∧ ∃ nm nI nO : Nat, zOff pRa a s.2 ∧ zOff pRb b t.2 ∧ RR c True T n (psn p W S (i + 1)) nm nI nO nL nG s.2 t.2 ∧ US nm 150 t.2 ∧ s.2.1 10 4 = (psn p W S (i + 1) : Nat) ∧ s.2.1 22 16 = a.1 22 16 ∧ s.2.1 13 8 = a.1 13 8) (m - 1) (Q := fun x d => ∃ a', padF E c x = some a' ∧ LR c T n p e a b a' d ∧ a'.1 22 16 = a.1 22 16 ∧ a'.1 13 8 = a.1 13 8) (by omega) ?_ (s := (0, a)) (t := (1, b)) ⟨rfl, rfl, hm, nm, nI, nO, off_r, off_r, RR_c R (LC_p h hm).1 (fun _ _ _ => rfl) (fun _ _ _ => rfl), U, h4, rfl, rfl⟩
    · obtain ⟨x, d, k1, k2, a', k3, k4⟩ := key
      refine ⟨a', d, ?_, ?_, k4⟩
      · unfold q_Reader_readPadNames
        rw [k1, b1_s]; exact k3
      · unfold q_Model_padLine q_Model_padLine_j17
        rw [h.bm, if_neg (by omega), k2, b1_s]
    · rintro i ⟨s1, a1⟩ ⟨t1, b1⟩ hi ⟨e1, e2, e3, nm, nI, nO, oa, ob, R, U, h4, e16, e8⟩
      have e1 : s1 = (i : Int) := e1
      have e2 : t1 = (i : Int) + 1 := e2
      have oa : zOff pRa a a1 := oa
      have ob : zOff pRb b b1 := ob
      have R : RR c True T n (psn p W S (i + 1)) nm nI nO nL nG a1 b1 := R
      have U : US nm 150 b1 := U
      have h4 : a1.1 10 4 = (psn p W S (i + 1) : Nat) := h4
      have e16 : a1.1 22 16 = a.1 22 16 := e16
      have e8 : a1.1 13 8 = a.1 13 8 := e8
      subst e1 e2
      have h1 := LC_o h oa ob
      show (∃ s' t', q_Reader_readPadNames_2 E (kL c) l (i : Int) a1 = some (.inl s') ∧ q_Model_padLine_19 E (kL c) l ((i : Int) + 1) b1 = some (.inl t') ∧ _) ∨ (∃ x d, q_Reader_readPadNames_2 E (kL c) l (i : Int) a1 = some (.inr x) ∧ q_Model_padLine_19 E (kL c) l ((i : Int) + 1) b1 = some (.inr d) ∧ _) ∨ ∃ x t' d, q_Reader_readPadNames_2 E (kL c) l (i : Int) a1 = some (.inr x) ∧ q_Model_padLine_19 E (kL c) l ((i : Int) + 1) b1 = some (.inl t') ∧ q_Model_padLine_19 E (kL c) l t'.1 t'.2 = some (.inr d) ∧ _
      by_cases im : i + 1 = m
      · -- no more words
        obtain ⟨⟨r, s⟩, hr, r1, ro, r5, r6, r4⟩ := s_nw0 (E := E) (c := c) h1 (by rw [← im]; exact h4)
        have r1 : r = 0 := r1
        have ro : zOff p46 a1 s := ro
        have r4 : s.1 10 4 = e := r4
        have os : zOff pRa a s := off_t oa (off_w ro fun k j x => by unfold p46 at x; unfold pRa; omega)
        refine Or.inr (Or.inl ⟨Sum.inl ((i : Int), s), b1, ?_, ?_, s, ?_, ⟨os, ob, Or.inr ⟨nm, nI, nO, nL, nG, RR_c R (by have := (LC_p h1 e3).2; omega) (fun k j hk => ro.2 k j (by unfold rA at hk; unfold p46; omega)) (fun _ _ _ => rfl), U, e, r4, (LC_p h1 (i := 0) (by omega)).2, Nat.le_refl _⟩⟩, (ro.2 22 16 (by unfold p46; omega)).trans e16, (ro.2 13 8 (by unfold p46; omega)).trans e8⟩)
        · unfold q_Reader_readPadNames_2
          rw [if_neg (by omega), hr, b2_p, if_pos r1]
        · unfold q_Model_padLine_19
          rw [h1.bm, if_pos (by omega)]
        · unfold padF
          rw [gs_l, if_neg (show ¬ ((i : Int) = 0) by omega)]
      · obtain ⟨⟨r, s⟩, hr, r1, ro, r5, r6, r4⟩ := s_nw1 (E := E) (c := c) h1 (i := i + 1) (by omega) h4
        have r1 : r = 1 := r1
        have ro : zOff p46 a1 s := ro
        have r5 : s.1 10 5 = W (i + 1) := r5
        have r6 : s.1 10 6 = ((W (i + 1) + S (i + 1) : Nat) : Int) := r6
        have r4 : s.1 10 4 = ((psn p W S (i + 1 + 1) : Nat) : Int) := r4
        have os : zOff pRa a s := off_t oa (off_w ro fun k j x => by unfold p46 at x; unfold pRa; omega)
        have h2 := LC_o h os ob
        have R2 : RR c True T n (psn p W S (i + 1)) nm nI nO nL nG s b1 := RR_c R (Nat.le_refl _) (fun k j hk => ro.2 k j (by unfold rA at hk; unfold p46; omega)) (fun _ _ _ => rfl)
        have hw := LC_w h2 (i := i + 1) (by omega)
        have ep : psn p W S (i + 1 + 1) = W (i + 1) + S (i + 1) := rfl
        have bw := (h2.bw (i + 1) (by omega)).1
        have s16 : s.1 22 16 = a.1 22 16 := (ro.2 22 16 (by unfold p46; omega)).trans e16
        have s8 : s.1 13 8 = a.1 13 8 := (ro.2 13 8 (by unfold p46; omega)).trans e8
        have ek : (i : Int) + 1 = ((i + 1 : Nat) : Int) := by omega
        rw [ek]
        rcases s_nmB (E := E) (a := s) (b := b1) h2 R2 U (i := i + 1) (by omega) hw.2.1 r5 r6 with ⟨k, k1, q1, q2⟩ | ⟨v, nm', a', b', v1, v2, q1, q2, R3, U3, ux, oa', ob'⟩
        · have k5 : k ≤ 5 := by omega
          have k1 : 1 ≤ k := k1.1
          refine Or.inr (Or.inr ⟨Sum.inr (Sum.inl (zPut (zPut s 22 14 k) 22 15 (W (i + 1)))), (((i + 1 : Nat) : Int) + 1, zPut (zPut b1 94 17 k) 94 18 (W (i + 1))), zPut (zPut b1 94 17 k) 94 18 (W (i + 1)), ?_, ?_, ?_, zPut (zPut s 22 14 k) 22 15 (W (i + 1)), ?_, ⟨off_t os pRa_f, off_t ob pRb_f, Or.inl (FF_put ⟨k1, k5⟩)⟩, s16, s8⟩)
          · unfold q_Reader_readPadNames_2
            rw [if_neg (by omega), hr, b2_p, if_neg (by omega), q1, b2_p, if_pos rfl]
          · unfold q_Model_padLine_19
            have fk : (zPut (zPut b1 94 17 (k : Int)) 94 18 (W (i + 1) : Int)).1 94 17 = k := rfl
            rw [h1.bm, if_neg (by omega), if_pos R.fb, q2, b2_p, fk, if_neg (show ¬ ((k : Int) = 0) by omega), pad_skip (by omega) (by rw [fk]; omega)]
          · exact pad_end (show (k : Int) ≠ 0 by omega)
          · rfl
        · have na : zOff pRa a a' := off_t os (off_w oa' fun k j x => by unfold pNa at x; unfold pRa; omega)
          have nb' : zOff pRb b b' := off_t ob (off_w ob' fun k j x => by unfold pNb at x; unfold pRb; omega)
          have c2 : a'.1 22 2 = kD c := by rw [na.2 22 2 (by unfold pRa; omega)]; exact a2
          have c6 : b'.1 94 6 = kD c := by rw [nb'.2 94 6 (by unfold pRb; omega)]; exact b6
          have c5 : a'.1 10 5 = W (i + 1) := by rw [oa'.2 10 5 (by unfold pNa; omega)]; exact r5
          have c4 : a'.1 10 4 = ((psn p W S (i + 1 + 1) : Nat) : Int) := by rw [oa'.2 10 4 (by unfold pNa; omega)]; exact r4
          have c97 : b'.1 97 (i + 1) = W (i + 1) := by rw [ob'.2 97 (i + 1) (by unfold pNb; omega)]; exact bw
          have c16 : a'.1 22 16 = a.1 22 16 := by rw [oa'.2 22 16 (by unfold pNa; omega)]; exact s16
          have c8 : a'.1 13 8 = a.1 13 8 := by rw [oa'.2 13 8 (by unfold pNa; omega)]; exact s8
          have io := R3.io
          have n3 := R3.nb
          have hgt : ((i + 1 : Nat) : Int).toNat = i + 1 := gtN (i + 1)
          -- the class and the reference as far as the count of pads
          have C0 : q_Reader_readPadNames_2 E (kL c) l (i : Int) a1 = if (nI : Int) + (nO : Int) < kD c then (if l = 0 then gLet (zPut a' 22 12 ((nO : Int) + 1)) (fun s5 => if 0 ≤ (nO : Int) ∧ (nO : Int) < ((kL c 29 : Nat) : Int) then gLet (zPut s5 29 nO (v : Int)) fun s6 => gLet ((i : Int) + 1) fun x7 => some (.inl (x7, s6)) else none) else gB2 (q_Reader_make E (kL c) (v : Int) (nI : Int) (W (i + 1) : Int) a') fun v8 s9 => if v8 = 0 then some (.inr (.inr (.inr (.inr (.inl s9))))) else if -2147483648 ≤ (s9.1 22 11) + 1 ∧ (s9.1 22 11) + 1 < 2147483648 then gLet (zPut s9 22 11 ((s9.1 22 11) + 1)) fun s10 => gLet ((i : Int) + 1) fun x11 => some (.inl (x11, s10)) else none) else some (.inr (.inr (.inr (.inl a')))) := by
            unfold q_Reader_readPadNames_2
            rw [if_neg (by omega), hr, b2_p, if_neg (by omega), q1, b2_p, if_neg (by omega), R3.ai, R3.ao, c2, c5, if_pos (by omega), gtN]
            by_cases x : (nI : Int) + (nO : Int) < kD c
            · rw [if_pos x, if_pos x]
              by_cases y : l = 0
              · rw [if_pos y, if_pos y, if_pos (by omega)]
              · rw [if_neg y, if_neg y]
            · rw [if_neg x, if_neg x]
          have M0 : q_Model_padLine_19 E (kL c) l ((i + 1 : Nat) : Int) b1 = if (nI : Int) + (nO : Int) = kD c then gB1 (q_Model_fail E (kL c) 2 (W (i + 1) : Int) b') (fun s6 => q_Model_padLine_j74_19 E (kL c) l ((i + 1 : Nat) : Int) (v : Int) s6) else q_Model_padLine_j74_19 E (kL c) l ((i + 1 : Nat) : Int) (v : Int) b' := by
            unfold q_Model_padLine_19
            rw [h1.bm, if_neg (by omega), if_pos R.fb, q2, b2_p, if_pos R3.fb, R3.bi, R3.bo, c6, if_pos (by omega), kL_97, hgt, c97]
            by_cases x : (nI : Int) + (nO : Int) = kD c
            · rw [if_pos x, if_pos x, if_pos (by omega)]
            · rw [if_neg x, if_neg x]
          by_cases full : nI + nO = kD c
          · -- no pad is left
            refine Or.inr (Or.inr ⟨Sum.inr (Sum.inr (Sum.inl a')), (((i + 1 : Nat) : Int) + 1, zPut (zPut b' 94 17 2) 94 18 (W (i + 1) : Int)), zPut (zPut b' 94 17 2) 94 18 (W (i + 1) : Int), ?_, ?_, ?_, zPut (zPut a' 22 14 2) 22 15 (W (i + 1) : Int), ?_, ⟨off_t na pRa_f, off_t nb' pRb_f, Or.inl (FF_put (k := 2) (f := W (i + 1)) (by omega))⟩, c16, c8⟩)
            · rw [C0, if_neg (by omega)]
            · rw [M0, if_pos (by omega), s_fail R3.fb, b1_s]
              exact pad_skip (by omega) (show (2 : Int) ≠ 0 by decide)
            · exact pad_end (show (2 : Int) ≠ 0 by decide)
            · show gB1 (q_Reader_refuse E (kL c) 2 (a'.1 10 5) a') (fun s20 => some s20) = _
              rw [s_refuse, b1_s, c5]
          · have hW1 : W (i + 1) + 1 ≤ psn p W S (i + 1 + 1) := by omega
            by_cases l0 : l = 0
            · -- an output
              obtain ⟨b2, u1, R4, U4, o4⟩ := s_used (E := E) (f := W (i + 1)) R3 v1 U3 ux
              have R5 := RR_out R4 v1 (by omega)
              refine Or.inl ⟨((i : Int) + 1, zPut (zPut a' 22 12 ((nO : Int) + 1)) 29 nO (v : Int)), (((i + 1 : Nat) : Int) + 1, zPut (zPut b2 105 nO (v : Int)) 94 30 ((nO : Int) + 1)), ?_, ?_, ⟨ek, rfl, by omega, nm', nI, nO + 1, off_t na (off_t (off_put (by unfold pRa; omega)) (off_put (by unfold pRa; omega))), off_t (off_t nb' (off_w o4 fun k j x => by unfold pRb; omega)) (off_t (off_put (by unfold pRb; omega)) (off_put (by unfold pRb; omega))), RR_c R5 hW1 (fun _ _ _ => rfl) (fun _ _ _ => rfl), fun j j1 j2 => U4 j j1 j2, c4, c16, c8⟩, by omega⟩
              · rw [C0, if_pos (by omega), if_pos l0, let_s, kL_29, if_pos (by omega), let_s, let_s]
              · have f4 : b2.1 94 30 = nO := R4.bo
                rw [M0, if_neg (by omega)]
                unfold q_Model_padLine_j74_19
                rw [if_pos R3.fb, if_pos l0]
                unfold q_Model_padLine_j137_19
                rw [if_pos R3.fb, kL_97, if_pos (by omega), hgt, c97, u1, b1_s, f4, kL_105, if_pos (by omega), let_s, gtN, show (zPut b2 105 nO (v : Int)).1 94 30 = nO from f4, if_pos (by omega), let_s, if_pos (by omega), let_s]
            · -- an input
              have J : ∀ s14 : gZ, s14.1 94 29 = nI → (if 48 ≤ s14.1 94 29 then q_Model_padLine_j122_19 E (kL c) l ((i + 1 : Nat) : Int) (v : Int) 0 s14 else q_Model_padLine_j122_19 E (kL c) l ((i + 1 : Nat) : Int) (v : Int) (s14.1 94 29) s14) = some (.inl (((i + 1 : Nat) : Int) + 1, zPut (zPut s14 104 nI (v : Int)) 94 29 ((nI : Int) + 1))) := fun s14 hs => by
                rw [hs, if_neg (by omega)]
                unfold q_Model_padLine_j122_19
                rw [kL_104, if_pos (by omega), let_s, gtN, show (zPut s14 104 nI (v : Int)).1 94 29 = nI from hs, if_pos (by omega), let_s, if_pos (by omega), let_s]
              have M1 : ∀ s14 : gZ, q_Model_makes E (kL c) (v : Int) 1 (nI : Int) (W (i + 1) : Int) b' = some s14 → s14.1 94 29 = nI → q_Model_padLine_19 E (kL c) l ((i + 1 : Nat) : Int) b1 = some (.inl (((i + 1 : Nat) : Int) + 1, zPut (zPut s14 104 nI (v : Int)) 94 29 ((nI : Int) + 1))) := fun s14 h14 hs => by
                rw [M0, if_neg (by omega)]
                unfold q_Model_padLine_j74_19
                rw [if_pos R3.fb, if_neg l0, kL_97, if_pos (by omega), R3.bi, hgt, c97, h14, b1_s]
                exact J s14 hs
              rcases s_mkB (E := E) (f := W (i + 1)) (src := (nI : Int)) (how := 1) (wh := (nI : Int)) R3 v1 with ⟨x0, x1, x2⟩ | ⟨x1, x2⟩
              · have R5 := RR_in R3 v1 x0 (by omega)
                refine Or.inl ⟨((i : Int) + 1, zPut (zPut a' 25 v (nI : Int)) 22 11 ((nI : Int) + 1)), (((i + 1 : Nat) : Int) + 1, zPut (zPut (zPut (zPut b' 101 v 1) 102 v (nI : Int)) 104 nI (v : Int)) 94 29 ((nI : Int) + 1)), ?_, ?_, ⟨ek, rfl, by omega, nm', nI + 1, nO, off_t na (off_t (off_put (by unfold pRa; omega)) (off_put (by unfold pRa; omega))), off_t nb' (off_t (off_put (by unfold pRb; omega)) (off_t (off_put (by unfold pRb; omega)) (off_t (off_put (by unfold pRb; omega)) (off_put (by unfold pRb; omega))))), RR_c R5 hW1 (fun _ _ _ => rfl) (fun _ _ _ => rfl), fun j j1 j2 j3 => ?_, c4, c16, c8⟩, by omega⟩
                · have f4 : (zPut a' 25 v (nI : Int)).1 22 11 = nI := R3.ai
                  rw [C0, if_pos (by omega), if_neg l0, x1, b2_p, if_neg (by omega), f4, if_pos (by omega), let_s, let_s]
                · exact M1 _ x2 R3.bi
                · have j3 : (if j = v then (1 : Int) else b'.1 101 j) = 0 := j3
                  by_cases y : j = v
                  · rw [if_pos y] at j3; omega
                  · rw [if_neg y] at j3; exact U3 j j1 y j3
              · refine Or.inr (Or.inr ⟨Sum.inr (Sum.inr (Sum.inr (Sum.inl (zPut (zPut a' 22 14 3) 22 15 (W (i + 1) : Int))))), (((i + 1 : Nat) : Int) + 1, zPut (zPut (zPut (zPut b' 94 17 3) 94 18 (W (i + 1) : Int)) 104 nI (v : Int)) 94 29 ((nI : Int) + 1)), zPut (zPut (zPut (zPut b' 94 17 3) 94 18 (W (i + 1) : Int)) 104 nI (v : Int)) 94 29 ((nI : Int) + 1), ?_, M1 _ x2 R3.bi, pad_end (show (3 : Int) ≠ 0 by decide), zPut (zPut a' 22 14 3) 22 15 (W (i + 1) : Int), rfl, ⟨off_t na pRa_f, off_t (off_t nb' pRb_f) (off_t (off_put (by unfold pRb; omega)) (off_put (by unfold pRb; omega))), Or.inl ⟨3, W (i + 1), by omega, by omega, rfl, rfl, rfl, rfl⟩⟩, c16, c8⟩)
                rw [C0, if_pos (by omega), if_neg l0, x1, b2_p, if_pos rfl]
end
end
