set_option linter.unusedVariables false
-- JC
section
variable {E : gEv} {c : gCf}
/-- what both have read, all names made, tables turned -/
abbrev RN (c : gCf) (nm nI nO nL nG : Nat) (a b : gZ) : Prop := ∃ _ : (a.1 22 10 = nm), ∃ _ : (b.1 94 23 = nm), ∃ _ : (nm ≤ 150), ∃ _ : (∀ i, i < nm → (∃ k : Nat, k < nI ∧ a.1 25 i = k ∧ b.1 101 i = 1 ∧ b.1 102 i = k) ∨ (∃ k : Nat, k < nL ∧ a.1 25 i = ((200 + k : Nat) : Int) ∧ b.1 101 i = 2 ∧ b.1 102 i = k) ∨ ∃ k : Nat, k < nG ∧ a.1 25 i = ((1000 + k : Nat) : Int) ∧ b.1 101 i = 3 ∧ b.1 102 i = k ∧ b.1 112 k = i), ∃ _ : (nI + nL + nG ≤ 150), ∃ _ : (a.1 22 11 = nI), ∃ _ : (b.1 94 29 = nI), ∃ _ : (a.1 22 12 = nO), ∃ _ : (b.1 94 30 = nO), ∃ _ : (nI + nO ≤ kD c), ∃ _ : (a.1 22 13 = nL), ∃ _ : (b.1 94 31 = nL), ∃ _ : (a.1 13 8 = nG), ∃ _ : (b.1 94 32 = nG), ∃ _ : (∀ i, i < nO → ∃ v : Nat, v < nm ∧ a.1 29 i = v ∧ b.1 105 i = v), ∃ _ : (∀ i, i < nL → ∃ v : Nat, v < nm ∧ a.1 26 i = v ∧ b.1 106 i = v ∧ a.1 27 i = b.1 108 i ∧ b01 (a.1 27 i)), ∃ _ : (∀ g, g < nG → ∃ m v : Nat, m ≤ 8 ∧ v < nm ∧ a.1 14 g = b.1 109 g ∧ a.1 15 g = m ∧ b.1 110 g = m ∧ a.1 17 g = v ∧ b.1 112 g = v ∧ b.1 101 v = 3 ∧ b.1 102 v = g ∧ ∀ i, i < m → ∃ w : Nat, w < nm ∧ a.1 16 (8 * g + i) = w ∧ b.1 111 (8 * g + i) = w), ∃ _ : (∀ g, g < nG → ∀ x, x < 256 → b.1 114 (256 * g + x) = if a.1 18 g = 0 then (if zBit (a.1 19 (8 * g + x / 32)) (x % 32) then 0 else 1) else if zBit (a.1 19 (8 * g + x / 32)) (x % 32) then 1 else 0), ∃ _ : (a.1 22 14 = 0), ∃ _ : (b.1 94 17 = 0), (a.1 22 15 = -1 ∧ b.1 94 18 = -1)
theorem RN.an {c : gCf} {nm nI nO nL nG : Nat} {a b : gZ} (h : RN c nm nI nO nL nG a b) : a.1 22 10 = nm := by obtain ⟨x, _⟩ := h; exact x
theorem RN.bn {c : gCf} {nm nI nO nL nG : Nat} {a b : gZ} (h : RN c nm nI nO nL nG a b) : b.1 94 23 = nm := by obtain ⟨_, x, _⟩ := h; exact x
theorem RN.nb {c : gCf} {nm nI nO nL nG : Nat} {a b : gZ} (h : RN c nm nI nO nL nG a b) : nm ≤ 150 := by obtain ⟨_, _, x, _⟩ := h; exact x
theorem RN.mak {c : gCf} {nm nI nO nL nG : Nat} {a b : gZ} (h : RN c nm nI nO nL nG a b) : ∀ i, i < nm → (∃ k : Nat, k < nI ∧ a.1 25 i = k ∧ b.1 101 i = 1 ∧ b.1 102 i = k) ∨ (∃ k : Nat, k < nL ∧ a.1 25 i = ((200 + k : Nat) : Int) ∧ b.1 101 i = 2 ∧ b.1 102 i = k) ∨ ∃ k : Nat, k < nG ∧ a.1 25 i = ((1000 + k : Nat) : Int) ∧ b.1 101 i = 3 ∧ b.1 102 i = k ∧ b.1 112 k = i := by obtain ⟨_, _, _, x, _⟩ := h; exact x
theorem RN.cnt {c : gCf} {nm nI nO nL nG : Nat} {a b : gZ} (h : RN c nm nI nO nL nG a b) : nI + nL + nG ≤ 150 := by obtain ⟨_, _, _, _, x, _⟩ := h; exact x
theorem RN.ai {c : gCf} {nm nI nO nL nG : Nat} {a b : gZ} (h : RN c nm nI nO nL nG a b) : a.1 22 11 = nI := by obtain ⟨_, _, _, _, _, x, _⟩ := h; exact x
theorem RN.bi {c : gCf} {nm nI nO nL nG : Nat} {a b : gZ} (h : RN c nm nI nO nL nG a b) : b.1 94 29 = nI := by obtain ⟨_, _, _, _, _, _, x, _⟩ := h; exact x
theorem RN.ao {c : gCf} {nm nI nO nL nG : Nat} {a b : gZ} (h : RN c nm nI nO nL nG a b) : a.1 22 12 = nO := by obtain ⟨_, _, _, _, _, _, _, x, _⟩ := h; exact x
theorem RN.bo {c : gCf} {nm nI nO nL nG : Nat} {a b : gZ} (h : RN c nm nI nO nL nG a b) : b.1 94 30 = nO := by obtain ⟨_, _, _, _, _, _, _, _, x, _⟩ := h; exact x
theorem RN.io {c : gCf} {nm nI nO nL nG : Nat} {a b : gZ} (h : RN c nm nI nO nL nG a b) : nI + nO ≤ kD c := by obtain ⟨_, _, _, _, _, _, _, _, _, x, _⟩ := h; exact x
theorem RN.al {c : gCf} {nm nI nO nL nG : Nat} {a b : gZ} (h : RN c nm nI nO nL nG a b) : a.1 22 13 = nL := by obtain ⟨_, _, _, _, _, _, _, _, _, _, x, _⟩ := h; exact x
theorem RN.bl {c : gCf} {nm nI nO nL nG : Nat} {a b : gZ} (h : RN c nm nI nO nL nG a b) : b.1 94 31 = nL := by obtain ⟨_, _, _, _, _, _, _, _, _, _, _, x, _⟩ := h; exact x
theorem RN.ag {c : gCf} {nm nI nO nL nG : Nat} {a b : gZ} (h : RN c nm nI nO nL nG a b) : a.1 13 8 = nG := by obtain ⟨_, _, _, _, _, _, _, _, _, _, _, _, x, _⟩ := h; exact x
theorem RN.bg {c : gCf} {nm nI nO nL nG : Nat} {a b : gZ} (h : RN c nm nI nO nL nG a b) : b.1 94 32 = nG := by obtain ⟨_, _, _, _, _, _, _, _, _, _, _, _, _, x, _⟩ := h; exact x
theorem RN.out {c : gCf} {nm nI nO nL nG : Nat} {a b : gZ} (h : RN c nm nI nO nL nG a b) : ∀ i, i < nO → ∃ v : Nat, v < nm ∧ a.1 29 i = v ∧ b.1 105 i = v := by obtain ⟨_, _, _, _, _, _, _, _, _, _, _, _, _, _, x, _⟩ := h; exact x
theorem RN.lat {c : gCf} {nm nI nO nL nG : Nat} {a b : gZ} (h : RN c nm nI nO nL nG a b) : ∀ i, i < nL → ∃ v : Nat, v < nm ∧ a.1 26 i = v ∧ b.1 106 i = v ∧ a.1 27 i = b.1 108 i ∧ b01 (a.1 27 i) := by obtain ⟨_, _, _, _, _, _, _, _, _, _, _, _, _, _, _, x, _⟩ := h; exact x
theorem RN.gat {c : gCf} {nm nI nO nL nG : Nat} {a b : gZ} (h : RN c nm nI nO nL nG a b) : ∀ g, g < nG → ∃ m v : Nat, m ≤ 8 ∧ v < nm ∧ a.1 14 g = b.1 109 g ∧ a.1 15 g = m ∧ b.1 110 g = m ∧ a.1 17 g = v ∧ b.1 112 g = v ∧ b.1 101 v = 3 ∧ b.1 102 v = g ∧ ∀ i, i < m → ∃ w : Nat, w < nm ∧ a.1 16 (8 * g + i) = w ∧ b.1 111 (8 * g + i) = w := by obtain ⟨_, _, _, _, _, _, _, _, _, _, _, _, _, _, _, _, x, _⟩ := h; exact x
theorem RN.val {c : gCf} {nm nI nO nL nG : Nat} {a b : gZ} (h : RN c nm nI nO nL nG a b) : ∀ g, g < nG → ∀ x, x < 256 → b.1 114 (256 * g + x) = if a.1 18 g = 0 then (if zBit (a.1 19 (8 * g + x / 32)) (x % 32) then 0 else 1) else if zBit (a.1 19 (8 * g + x / 32)) (x % 32) then 1 else 0 := by obtain ⟨_, _, _, _, _, _, _, _, _, _, _, _, _, _, _, _, _, x, _⟩ := h; exact x
theorem RN.fa {c : gCf} {nm nI nO nL nG : Nat} {a b : gZ} (h : RN c nm nI nO nL nG a b) : a.1 22 14 = 0 := by obtain ⟨_, _, _, _, _, _, _, _, _, _, _, _, _, _, _, _, _, _, x, _⟩ := h; exact x
theorem RN.fb {c : gCf} {nm nI nO nL nG : Nat} {a b : gZ} (h : RN c nm nI nO nL nG a b) : b.1 94 17 = 0 := by obtain ⟨_, _, _, _, _, _, _, _, _, _, _, _, _, _, _, _, _, _, _, x, _⟩ := h; exact x
theorem RN.pl {c : gCf} {nm nI nO nL nG : Nat} {a b : gZ} (h : RN c nm nI nO nL nG a b) : a.1 22 15 = -1 ∧ b.1 94 18 = -1 := by obtain ⟨_, _, _, _, _, _, _, _, _, _, _, _, _, _, _, _, _, _, _, _, x⟩ := h; exact x
theorem RN_150 {c : gCf} {nm nI nO nL nG : Nat} {a b : gZ} (h : RN c nm nI nO nL nG a b) : nG ≤ 150 := by have := h.cnt; omega
/-- what RN speaks of -/
def nA (k j : Nat) : Prop := (k = 22 ∧ 10 ≤ j ∧ j ≤ 15) ∨ (k = 13 ∧ j = 8) ∨ (14 ≤ k ∧ k ≤ 19) ∨ (25 ≤ k ∧ k ≤ 27) ∨ k = 29
def nB (k j : Nat) : Prop := (k = 94 ∧ (j = 17 ∨ j = 18 ∨ j = 23 ∨ (29 ≤ j ∧ j ≤ 32))) ∨ (101 ≤ k ∧ k ≤ 114)
theorem RN_c {c : gCf} {nm nI nO nL nG : Nat} {a b a' b' : gZ} (h : RN c nm nI nO nL nG a b) (ha : ∀ k j, nA k j → a'.1 k j = a.1 k j) (hb : ∀ k j, nB k j → b'.1 k j = b.1 k j) : RN c nm nI nO nL nG a' b' := by
  have r : ∀ k, (14 ≤ k ∧ k ≤ 19) ∨ (25 ≤ k ∧ k ≤ 27) ∨ k = 29 → a'.1 k = a.1 k := fun k hk => funext fun j => ha k j (by unfold nA; omega)
  have s : ∀ k, (101 ≤ k ∧ k ≤ 114) → b'.1 k = b.1 k := fun k hk => funext fun j => hb k j (by unfold nB; omega)
  obtain ⟨h1, h2, h3, h4, h5, h6, h7, h8, h9, h10, h11, h12, h13, h14, h15, h16, h17, h18, h19, h20, h21⟩ := h
  exact ⟨by rw [ha 22 10 (by unfold nA; omega)]; exact h1, by rw [hb 94 23 (by unfold nB; omega)]; exact h2, h3, by rw [r 25 (by omega), s 101 (by omega), s 102 (by omega), s 112 (by omega)]; exact h4, h5, by rw [ha 22 11 (by unfold nA; omega)]; exact h6, by rw [hb 94 29 (by unfold nB; omega)]; exact h7, by rw [ha 22 12 (by unfold nA; omega)]; exact h8, by rw [hb 94 30 (by unfold nB; omega)]; exact h9, h10, by rw [ha 22 13 (by unfold nA; omega)]; exact h11, by rw [hb 94 31 (by unfold nB; omega)]; exact h12, by rw [ha 13 8 (by unfold nA; omega)]; exact h13, by rw [hb 94 32 (by unfold nB; omega)]; exact h14, by rw [r 29 (by omega), s 105 (by omega)]; exact h15, by rw [r 26 (by omega), r 27 (by omega), s 106 (by omega), s 108 (by omega)]; exact h16, by rw [r 14 (by omega), r 15 (by omega), r 16 (by omega), r 17 (by omega), s 101 (by omega), s 102 (by omega), s 109 (by omega), s 110 (by omega), s 111 (by omega), s 112 (by omega)]; exact h17, by rw [r 18 (by omega), r 19 (by omega), s 114 (by omega)]; exact h18, by rw [ha 22 14 (by unfold nA; omega)]; exact h19, by rw [hb 94 17 (by unfold nB; omega)]; exact h20, by rw [ha 22 15 (by unfold nA; omega), hb 94 18 (by unfold nB; omega)]; exact h21⟩
/-- out of what was read -/
theorem RN_of {c : gCf} {T : Nat → Int} {n q nm nI nO nL nG : Nat} {a b b' : gZ} (R : RR c True T n q nm nI nO nL nG a b) (hm : ∀ i, i < nm → a.1 25 i ≠ -1) (o : zOff (fun k _ => k = 114) b b') (hv : ∀ f, f < nG → ∀ y, y < 256 → (b.1 113 f = 0 → b'.1 114 (256 * f + y) = if b.1 114 (256 * f + y) = 0 then 1 else 0) ∧ (b.1 113 f ≠ 0 → b'.1 114 (256 * f + y) = b.1 114 (256 * f + y))) : RN c nm nI nO nL nG a b' := by
  have s : ∀ k, k ≠ 114 → b'.1 k = b.1 k := fun k hk => funext fun j => o.2 k j hk
  have cn : nI + nL + nG ≤ 150 := by
    have := R.cnt
    have := cnb_le (fun i => decide (b.1 101 i ≠ 0)) nm
    have := R.nb
    omega
  obtain ⟨h1, h2, h3, h4, h5, h6, h7, h8, h9, h10, h11, h12, h13, h14, h15, h16, h17, h18, h19, h20, h21, h22, h23, h24⟩ := R
  refine ⟨h1, by rw [s 94 (by decide)]; exact h2, h3, fun i hi => ?_, cn, h9, by rw [s 94 (by decide)]; exact h10, h11, by rw [s 94 (by decide)]; exact h12, h13, h14, by rw [s 94 (by decide)]; exact h15, h16, by rw [s 94 (by decide)]; exact h17, by rw [s 105 (by decide)]; exact h18, by rw [s 106 (by decide), s 108 (by decide)]; exact h19, fun g hg => ?_, fun g hg x hx => ?_, h22, by rw [s 94 (by decide)]; exact h23, by rw [s 94 (by decide)]; exact h24⟩
  · rw [s 101 (by decide), s 102 (by decide), s 112 (by decide)]
    rcases h6 i hi with ⟨y1, -⟩ | y
    · exact absurd y1 (hm i hi)
    · exact y
  · obtain ⟨m, v, v1, v2, v3, v4, v5, v6, v7, v8, v9, v10, v11, v12, v13, v14⟩ := h20 g hg trivial
    rw [s 109 (by decide), s 110 (by decide), s 111 (by decide), s 112 (by decide), s 101 (by decide), s 102 (by decide)]
    exact ⟨m, v, v1, v2, v3, v4, v5, v6, v7, v8, v9, v12⟩
  · obtain ⟨m, v, v1, v2, v3, v4, v5, v6, v7, v8, v9, v10, v11, v12, v13, v14⟩ := h20 g hg trivial
    obtain ⟨u1, u2⟩ := v13 x hx
    obtain ⟨w1, w2⟩ := hv g hg x hx
    rw [u2, v10]
    unfold b01 at u1
    by_cases y : b.1 113 g = 0
    · rw [if_pos y, w1 y]
      by_cases z : b.1 114 (256 * g + x) = 0
      · rw [if_pos z, decide_eq_false (by omega), if_neg (by decide)]
      · rw [if_neg z, decide_eq_true (by omega), if_pos rfl]
    · rw [if_neg y, w2 y]
      by_cases z : b.1 114 (256 * g + x) = 0
      · rw [decide_eq_false (by omega), if_neg (by decide)]; exact z
      · rw [decide_eq_true (by omega), if_pos rfl]; omega
/-- input i of gate g is there, by row 116 -/
def rdyI (b : gZ) (g i : Nat) : Prop := ∀ w : Nat, b.1 111 (8 * g + i) = w → b.1 101 w = 3 → b.1 116 (b.1 102 w).toNat = 1
/-- all inputs of gate g are there -/
def rdy (b : gZ) (g m : Nat) : Prop := ∀ i, i < m → rdyI b g i
/-- gates that have got a number -/
def NBr (nG n : Nat) (a b : gZ) : Prop := (∀ g, g < nG → (a.1 20 g = -1 ∧ b.1 116 g = 0) ∨ (a.1 20 g ≠ -1 ∧ b.1 116 g = 1 ∧ ∃ k, k < n ∧ b.1 115 k = g)) ∧ (∀ k, k < n → ∃ g : Nat, g < nG ∧ a.1 21 k = g ∧ b.1 115 k = g ∧ b.1 116 g = 1 ∧ ∀ i w : Nat, (i : Int) < b.1 110 g → b.1 111 (8 * g + i) = w → b.1 101 w = 3 → ∃ k', k' < k ∧ b.1 115 k' = b.1 102 w) ∧ (∀ k k', k' < k → k < n → b.1 115 k' ≠ b.1 115 k) ∧ cnb (fun g => decide (b.1 116 g = 1)) nG = n
section
variable {nm nI nO nL nG : Nat} {a b : gZ}
/-- what a made name is -/
theorem RR_md (hk : kOk c) (R : RN c nm nI nO nL nG a b) {w : Nat} (hw : w < nm) : (0 ≤ a.1 25 w ∧ a.1 25 w < 1000 ∧ b.1 101 w ≠ 3) ∨ ∃ k : Nat, k < nG ∧ a.1 25 w = ((1000 + k : Nat) : Int) ∧ b.1 101 w = 3 ∧ b.1 102 w = k := by
  have hD := kD_b hk
  have io := R.io
  have cn := R.cnt
  rcases R.mak w hw with ⟨k, y0, y1, y2, -⟩ | ⟨k, y0, y1, y2, -⟩ | ⟨k, y0, y1, y2, y3⟩
  · exact Or.inl ⟨by omega, by omega, by omega⟩
  · exact Or.inl ⟨by omega, by omega, by omega⟩
  · exact Or.inr ⟨k, y0, y1, y2, y3.1⟩
/-- the class: is a gate ready? -/
theorem s_ready {N g m : Nat} (hk : kOk c) (R : RN c nm nI nO nL nG a b) (hN : NBr nG N a b) (hg : g < nG) (h15 : a.1 15 g = m) : q_Gates_isReady E (kL c) (g : Int) 25 a = some (dI (rdy b g m)) := by
  obtain ⟨m', v, v1, v2, v3, v4, v5, v6, v7, v8, v9, v12⟩ := R.gat g hg
  have em : m' = m := by omega
  subst em
  have g150 := RN_150 R
  have F := it_find (f := fun y => q_Gates_isReady_2 E (kL c) 25 (g : Int) y a) (fun i => ¬ rdyI b g i) (fun i => Sum.inl ()) 0 m' (e := Sum.inr ()) (s := 0) rfl (by omega) (by omega) (fun i _ hi hp => by
      show q_Gates_isReady_2 E (kL c) 25 (g : Int) (i : Int) a = _
      obtain ⟨w, w1, w2, w3⟩ := v12 i hi
      have nb := R.nb
      unfold q_Gates_isReady_2
      rw [kL_15, if_pos (by omega), gtN, v4, if_neg (by omega), kL_16, show ((g : Int) * 8 + (i : Int)) = ((8 * g + i : Nat) : Int) by omega, if_pos (by omega), gtN, w2, kL_25, if_pos (by omega), let_s, gtN]
      rcases RR_md hk R w1 with ⟨x1, x2, x3⟩ | ⟨k, x1, x2, x3, x4⟩
      · rw [if_pos x2, let_s]
      · have hr := Classical.not_not.1 hp w w3 x3
        rw [x4, gtN] at hr
        rw [x2, if_neg (by omega), kL_20, show ((1000 + k : Nat) : Int) - 1000 = (k : Int) by omega, if_pos (by omega), gtN]
        rcases hN.1 k x1 with ⟨u1, u2⟩ | ⟨u1, -⟩
        · omega
        · rw [if_neg u1, let_s]) (fun i _ hi hp => by
      show q_Gates_isReady_2 E (kL c) 25 (g : Int) (i : Int) a = _
      obtain ⟨w, w1, w2, w3⟩ := v12 i hi
      have nb := R.nb
      unfold q_Gates_isReady_2
      rw [kL_15, if_pos (by omega), gtN, v4, if_neg (by omega), kL_16, show ((g : Int) * 8 + (i : Int)) = ((8 * g + i : Nat) : Int) by omega, if_pos (by omega), gtN, w2, kL_25, if_pos (by omega), let_s, gtN]
      rcases RR_md hk R w1 with ⟨x1, x2, x3⟩ | ⟨k, x1, x2, x3, x4⟩
      · refine absurd (fun w' y1 y2 => ?_) hp
        have : w' = w := by omega
        subst this
        exact absurd y2 x3
      · rw [x2, if_neg (by omega), kL_20, show ((1000 + k : Nat) : Int) - 1000 = (k : Int) by omega, if_pos (by omega), gtN]
        rcases hN.1 k x1 with ⟨u1, u2⟩ | ⟨u1, u2, -⟩
        · rw [if_pos u1]
        · refine absurd (fun w' y1 y2 => ?_) hp
          have : w' = w := by omega
          subst this
          rw [x4, gtN]; exact u2) (by
      show q_Gates_isReady_2 E (kL c) 25 (g : Int) (m' : Int) a = _
      unfold q_Gates_isReady_2
      rw [kL_15, if_pos (by omega), gtN, v4, if_pos (by omega)])
  unfold q_Gates_isReady
  rcases F with ⟨i, -, i1, i2, -, i4⟩ | ⟨j1, j2⟩
  · rw [i4, b1_s, gs_l, dI_f fun y => i2 (y i i1)]
  · rw [j2, b1_s, gs_r, dI_t (P := rdy b g m') fun i hi => Classical.not_not.1 (j1 i (by omega) hi)]
/-- the reference: is a gate ready? -/
theorem s_readyM {N g m : Nat} {l2 l3 : Int} (hk : kOk c) (R : RN c nm nI nO nL nG a b) (hN : NBr nG N a b) (hg : g < nG) (h110 : b.1 110 g = m) : gIter (fun y => q_Model_check_154 E (kL c) l2 l3 (g : Int) y.1 y.2 b) gN (1, 0) = some (dI (rdy b g m)) := by
  obtain ⟨m', v, v1, v2, v3, v4, v5, v6, v7, v8, v9, v12⟩ := R.gat g hg
  have em : m' = m := by omega
  subst em
  have g150 := RN_150 R
  have nb := R.nb
  refine ok_is ?_
  refine it_for (fun (i : Nat) (t : Int) => (t, (i : Int))) (fun i t => (t = 1 ∧ ∀ j, j < i → rdyI b g j) ∨ (t = 0 ∧ ¬ rdy b g m')) 0 (m' + 1) rfl (Or.inl ⟨rfl, fun j hj => by omega⟩) (by omega) (by omega) ?_ ?_
  · rintro i t - hi ht
    show zOk (q_Model_check_154 E (kL c) l2 l3 (g : Int) t (i : Int) b) _
    unfold q_Model_check_154
    rcases ht with ⟨rfl, ht⟩ | ⟨rfl, ht⟩
    · rw [if_neg (by decide), kL_110, if_pos (by omega), gtN, v5]
      by_cases x : i < m'
      · obtain ⟨w, w1, w2, w3⟩ := v12 i x
        rw [if_neg (by omega), kL_111, show (8 * (g : Int) + (i : Int)) = ((8 * g + i : Nat) : Int) by omega, if_pos (by omega), gtN, w3, ok_l, kL_101, if_pos (by omega), gtN]
        have up : rdyI b g i → ∀ j, j < i + 1 → rdyI b g j := fun y j hj => by
          by_cases u : j = i
          · subst u; exact y
          · exact ht j (by omega)
        rcases RR_md hk R w1 with ⟨x1, x2, x3⟩ | ⟨k, x1, x2, x3, x4⟩
        · rw [if_neg x3, ok_l]
          refine ok_inl (Or.inl ⟨1, by rw [show ((i + 1 : Nat) : Int) = (i : Int) + 1 by omega], Or.inl ⟨rfl, up fun w' y1 y2 => ?_⟩⟩)
          have : w' = w := by omega
          subst this
          exact absurd y2 x3
        · rw [if_pos x3, kL_102, if_pos (by omega), x4, kL_116, if_pos (by omega), gtN]
          rcases hN.1 k x1 with ⟨u1, u2⟩ | ⟨u1, u2, -⟩
          · rw [if_pos u2, ok_l]
            refine ok_inl (Or.inl ⟨0, by rw [show ((i + 1 : Nat) : Int) = (i : Int) + 1 by omega], Or.inr ⟨rfl, fun y => ?_⟩⟩)
            have := y i x w w3 x3
            rw [x4, gtN] at this
            omega
          · rw [if_neg (by omega), ok_l]
            refine ok_inl (Or.inl ⟨1, by rw [show ((i + 1 : Nat) : Int) = (i : Int) + 1 by omega], Or.inl ⟨rfl, up fun w' y1 y2 => ?_⟩⟩)
            have : w' = w := by omega
            subst this
            rw [x4, gtN]; exact u2
      · rw [if_pos (by omega)]
        exact ok_inr (Or.inr ⟨1, rfl, (dI_t fun j hj => ht j (by omega)).symm⟩)
    · rw [if_pos rfl]
      exact ok_inr (Or.inr ⟨0, rfl, (dI_f ht).symm⟩)
  · rintro t ht
    show zOk (q_Model_check_154 E (kL c) l2 l3 (g : Int) t ((m' + 1 : Nat) : Int) b) _
    unfold q_Model_check_154
    rcases ht with ⟨rfl, ht⟩ | ⟨rfl, ht⟩
    · rw [if_neg (by decide), kL_110, if_pos (by omega), gtN, v5, if_pos (by omega)]
      exact ok_inr ⟨1, rfl, (dI_t fun j hj => ht j (by omega)).symm⟩
    · rw [if_pos rfl]
      exact ok_inr ⟨0, rfl, (dI_f ht).symm⟩
/-- a gate that comes next -/
def nxt (a b : gZ) (g : Nat) : Prop := b.1 116 g = 0 ∧ ∀ m : Nat, a.1 15 g = m → rdy b g m
/-- both look for the next gate -/
theorem s_next {N : Nat} (hk : kOk c) (R : RN c nm nI nO nL nG a b) (hN : NBr nG N a b) (N1 : N ≤ 150) : ((∀ g, g < nG → ¬ nxt a b g) ∧ q_Gates_firstReady E (kL c) 25 a = some (-1) ∧ gIter (fun y => q_Model_check_121 E (kL c) y.1 y.2.1 y.2.2.1 y.2.2.2) gN ((N : Int), 0, 0, b) = some ((N : Int), 0, b)) ∨ ∃ g, g < nG ∧ N < 150 ∧ nxt a b g ∧ q_Gates_firstReady E (kL c) 25 a = some (g : Int) ∧ gIter (fun y => q_Model_check_121 E (kL c) y.1 y.2.1 y.2.2.1 y.2.2.2) gN ((N : Int), 0, 0, b) = some ((N : Int) + 1, 1, zPut (zPut b 116 g 1) 115 N (g : Int)) := by
  have g150 := RN_150 R
  have one : zBool 1 = 1 := zBool_n 1 (Or.inr rfl)
  have st : ∀ g, g < nG → (nxt a b g ∧ N < 150 ∧ q_Gates_firstReady_2 E (kL c) 25 (g : Int) a = some (.inr (.inl (g : Int))) ∧ q_Model_check_121 E (kL c) (N : Int) 0 (g : Int) b = some (.inl ((N : Int) + 1, 1, (g : Int) + 1, zPut (zPut b 116 g 1) 115 N (g : Int)))) ∨ (¬ nxt a b g ∧ q_Gates_firstReady_2 E (kL c) 25 (g : Int) a = some (.inl ((g : Int) + 1)) ∧ q_Model_check_121 E (kL c) (N : Int) 0 (g : Int) b = some (.inl ((N : Int), 0, (g : Int) + 1, b))) := fun g hg => by
    obtain ⟨m, v, v1, v2, v3, v4, v5, v6, v7, v8, v9, v12⟩ := R.gat g hg
    have hr := s_ready (E := E) hk R hN hg v4
    have hrM := fun l2 l3 => s_readyM (E := E) (l2 := l2) (l3 := l3) hk R hN hg v5
    have eC : q_Gates_firstReady_2 E (kL c) 25 (g : Int) a = if a.1 20 g = (-1) then (gB1 (q_Gates_isReady E (kL c) (g : Int) 25 a) fun v1 => if v1 = 0 then (gLet ((g : Int) + 1) fun x3 => some (.inl x3)) else some (.inr (.inl (g : Int)))) else gLet ((g : Int) + 1) fun x4 => some (.inl x4) := by
      unfold q_Gates_firstReady_2
      rw [R.ag, if_neg (by omega), kL_20, if_pos (by omega), gtN]
    have eM : q_Model_check_121 E (kL c) (N : Int) 0 (g : Int) b = if b.1 116 g = 0 then q_Model_check_j149_121 E (kL c) (N : Int) 0 (g : Int) 1 b else q_Model_check_j149_121 E (kL c) (N : Int) 0 (g : Int) 0 b := by
      unfold q_Model_check_121
      rw [R.bg, if_neg (by omega), if_pos rfl, kL_116, if_pos (by omega), gtN]
    rw [eC, eM]
    unfold q_Model_check_j149_121
    rcases hN.1 g hg with ⟨u1, u2⟩ | ⟨u1, u2, -⟩
    · rw [if_pos u1, if_pos u2, hr, b1_s, hrM, b1_s]
      by_cases y : rdy b g m
      · have lt : N < 150 := by
          have := cnb_lt (p := fun g => decide (b.1 116 g = 1)) hg (decide_eq_false (by omega))
          have := hN.2.2.2
          omega
        rw [dI_t y, if_neg (by decide)]
        unfold q_Model_check_j225_121
        rw [if_neg (by decide), kL_116, if_pos (by omega), let_s, kL_115, if_pos (by omega), let_s, if_pos (by omega), let_s, if_pos (by omega), let_s, gtN, gtN, one]
        refine Or.inl ⟨⟨u2, fun m' hm' => ?_⟩, lt, rfl, rfl⟩
        have : m' = m := by omega
        subst this; exact y
      · rw [dI_f y, if_pos rfl, let_s]
        unfold q_Model_check_j225_121
        rw [if_pos rfl, if_pos (by omega), let_s]
        exact Or.inr ⟨fun z => y (z.2 m v4), rfl, rfl⟩
    · rw [if_neg u1, if_neg (by omega), let_s]
      have e0 : gIter (fun y => q_Model_check_154 E (kL c) (N : Int) 0 (g : Int) y.1 y.2 b) gN (0, 0) = some 0 := by
        have gn : gN = (gN - 1) + 1 := by unfold gN; omega
        rw [gn]
        refine it_end ?_
        show q_Model_check_154 E (kL c) (N : Int) 0 (g : Int) 0 0 b = _
        unfold q_Model_check_154
        rw [if_pos rfl]
      rw [e0, b1_s]
      unfold q_Model_check_j225_121
      rw [if_pos rfl, if_pos (by omega), let_s]
      exact Or.inr ⟨fun z => by have := z.1; omega, rfl, rfl⟩
  have F := it_find (f := fun y => q_Gates_firstReady_2 E (kL c) 25 y a) (fun g => nxt a b g) (fun i => Sum.inl (i : Int)) 0 nG (e := Sum.inr ()) (s := 0) rfl (by omega) (by omega) (fun g _ hg hp => by
      rcases st g hg with ⟨x, -⟩ | ⟨-, x, -⟩
      · exact absurd x hp
      · exact x) (fun g _ hg hp => by
      rcases st g hg with ⟨-, -, x, -⟩ | ⟨x, -⟩
      · exact x
      · exact absurd hp x) (by
      show q_Gates_firstReady_2 E (kL c) 25 (nG : Int) a = _
      unfold q_Gates_firstReady_2
      rw [R.ag, if_pos (by omega)])
  have mex : ∀ (l2 l3 l4 : Int) (z : gZ), z.1 94 32 ≤ l4 ∨ l3 ≠ 0 → q_Model_check_121 E (kL c) l2 l3 l4 z = some (.inr (l2, l3, z)) := fun l2 l3 l4 z h => by
    unfold q_Model_check_121
    by_cases x : z.1 94 32 ≤ l4
    · rw [if_pos x]
    · rw [if_neg x, if_neg (by omega)]
  unfold q_Gates_firstReady
  rcases F with ⟨g, -, g1, g2, g3, g4⟩ | ⟨j1, j2⟩
  · right
    rcases st g g1 with ⟨-, x0, -, x⟩ | ⟨x, -⟩
    · refine ⟨g, g1, x0, g2, by rw [g4, b1_s, gs_l], ?_⟩
      refine it_run (fun i => if i ≤ g then ((N : Int), 0, (i : Int), b) else ((N : Int) + 1, 1, (g : Int) + 1, zPut (zPut b 116 g 1) 115 N (g : Int))) (g + 1) (by rw [if_pos (by omega)]; rfl) (fun i hi => ?_) ?_ (by omega)
      · rw [if_pos (by omega)]
        by_cases u : i = g
        · subst u
          rw [if_neg (by omega)]; exact x
        · rw [if_pos (by omega)]
          rcases st i (by omega) with ⟨y, -⟩ | ⟨-, -, y⟩
          · exact absurd y (g3 i (by omega) (by omega))
          · rw [show ((i + 1 : Nat) : Int) = (i : Int) + 1 by omega]; exact y
      · rw [if_neg (by omega)]
        exact mex _ _ _ _ (Or.inr (show (1 : Int) ≠ 0 by decide))
    · exact absurd g2 x
  · left
    refine ⟨fun g hg => j1 g (by omega) hg, by rw [j2, b1_s, gs_r], ?_⟩
    refine it_run (fun i => ((N : Int), 0, (i : Int), b)) nG rfl (fun i hi => ?_) ?_ (by omega)
    · rcases st i hi with ⟨y, -⟩ | ⟨-, -, y⟩
      · exact absurd y (j1 i (by omega) hi)
      · rw [show ((i + 1 : Nat) : Int) = (i : Int) + 1 by omega]; exact y
    · exact mex (N : Int) 0 (nG : Int) b (Or.inl (by rw [R.bg]; omega))
end
end
