/-! The machine's steps are the kit's. Locals first. -/
def gPr (b : Nat) (K : Nat → Nat) : Nat → List (Option Value) → List (Nat × Value)
  | _, [] => []
  | i, none :: L => gPr b K (i + 1) L
  | i, some v :: L => (i, gc b K v) :: gPr b K (i + 1) L
theorem gPr_of {b : Nat} {K : Nat → Nat} : ∀ (L : List (Option Value)) (n : Nat) (q : Nat × Value), q ∈ gPr b K n L → ∃ (j : Nat) (w : Value), L[j]? = some (some w) ∧ q.1 = n + j ∧ q.2 = gc b K w
  | [], n, q, h => by simp [gPr] at h
  | none :: L, n, q, h => by
    obtain ⟨j, w, h1, h2, h3⟩ := gPr_of L (n + 1) q h
    exact ⟨j + 1, w, by simpa using h1, by omega, h3⟩
  | some v :: L, n, q, h => by
    rcases List.mem_cons.mp h with h | h
    · exact ⟨0, v, rfl, by rw [h]; rfl, by rw [h]⟩
    · obtain ⟨j, w, h1, h2, h3⟩ := gPr_of L (n + 1) q h
      exact ⟨j + 1, w, by simpa using h1, by omega, h3⟩
theorem gPr_in {b : Nat} {K : Nat → Nat} : ∀ (L : List (Option Value)) (n j : Nat) (w : Value), L[j]? = some (some w) → (n + j, gc b K w) ∈ gPr b K n L
  | [], n, j, w, h => by simp at h
  | none :: L, n, 0, w, h => by simp at h
  | none :: L, n, j + 1, w, h => by
    have h1 := gPr_in (b := b) (K := K) L (n + 1) j w (by simpa using h)
    rw [show n + (j + 1) = n + 1 + j by omega]
    exact h1
  | some v :: L, n, 0, w, h => by
    have h1 : v = w := by simpa using h
    subst h1
    exact List.mem_cons_self
  | some v :: L, n, j + 1, w, h => by
    have h1 := gPr_in (b := b) (K := K) L (n + 1) j w (by simpa using h)
    rw [show n + (j + 1) = n + 1 + j by omega]
    exact List.mem_cons_of_mem _ h1
def gLs (b : Nat) (K : Nat → Nat) (ls : Array Slot) (L : List (Option Value)) : Prop := lv_has ls L.length (gPr b K 0 L)
theorem gLd_some {L : List (Option Value)} {n : Nat} {v : Value} (h : gLd L n = some v) : L[n]? = some (some v) := by
  unfold gLd at h
  split at h
  · rename_i w hw; cases h; exact hw
  · cases h
theorem gLs_get {b : Nat} {K : Nat → Nat} {ls : Array Slot} {L : List (Option Value)} {n : Nat} {v : Value} (hl : gLs b K ls L) (h : gLd L n = some v) : ls[n]? = some (.val (gc b K v)) := by
  have h1 := gPr_in (b := b) (K := K) L 0 n v (gLd_some h)
  rw [Nat.zero_add] at h1
  exact hl.2.2 (n, gc b K v) h1
theorem gNL_ok {L : List (Option Value)} {n j : Nat} {w : Value} (h : gNL L n = true) (hj : L[j]? = some (some w)) (hn : j + 1 = n) : ¬ w.category = 2 := by
  subst hn
  have h2 : gLd L j = some w := by unfold gLd; rw [hj]
  unfold gNL at h
  simp only [h2] at h
  intro hc
  cases w <;> simp_all [Value.category]
theorem gLs_set {b : Nat} {K : Nat → Nat} {ls : Array Slot} {L L' : List (Option Value)} {n : Nat} {v : Value} (h : gSt L n v = some L')
    (hl : lv_has ls L.length ((n, gc b K v) :: (gPr b K 0 L).filter (fun q => !(q.1 == n) && !(q.1 + 1 == n && q.2.category == 2)))) : gLs b K ls L' := by
  unfold gSt at h
  split at h
  · rename_i hc
    simp only [Bool.and_eq_true, decide_eq_true_eq] at hc
    cases h
    refine ⟨by simpa using hl.1, hl.2.1, fun q hq => hl.2.2 q ?_⟩
    obtain ⟨j, w, h1, h2, h3⟩ := gPr_of _ _ _ hq
    rw [Nat.zero_add] at h2
    by_cases hj : j = n
    · subst hj
      rw [List.getElem?_set_self hc.1] at h1
      cases h1
      rw [show q = (j, gc b K v) from Prod.ext h2 h3]
      exact List.mem_cons_self
    · rw [List.getElem?_set_ne (Ne.symm hj)] at h1
      refine List.mem_cons_of_mem _ (List.mem_filter.mpr ⟨?_, ?_⟩)
      · rw [show q = (j, gc b K w) from Prod.ext h2 h3]
        have := gPr_in (b := b) (K := K) L 0 j w h1
        rwa [Nat.zero_add] at this
      · have h4 := gNL_ok hc.2 h1
        simp only [Bool.and_eq_true, Bool.not_eq_true', beq_eq_false_iff_ne, ne_eq, Bool.and_eq_false_imp, beq_iff_eq, h2, h3, gc_cat]
        exact ⟨hj, fun e => h4 e⟩
  · cases h
theorem gSt_len {L L' : List (Option Value)} {n : Nat} {v : Value} (h : gSt L n v = some L') : n < L.length ∧ L'.length = L.length := by
  unfold gSt at h
  split at h
  · rename_i hc
    simp only [Bool.and_eq_true, decide_eq_true_eq] at hc
    cases h
    exact ⟨hc.1, by simp⟩
  · cases h
theorem gLs_setL {b : Nat} {K : Nat → Nat} {ls : Array Slot} {L L' : List (Option Value)} {n : Nat} {v : Value} (h : gStL L n v = some L')
    (hl : lv_has ls L.length ((n, gc b K v) :: (gPr b K 0 L).filter (fun q => !(q.1 == n) && (!(q.1 == n + 1) && !(q.1 + 1 == n && q.2.category == 2))))) : gLs b K ls L' := by
  unfold gStL at h
  split at h
  · rename_i hc
    simp only [Bool.and_eq_true, decide_eq_true_eq] at hc
    cases h
    refine ⟨by simpa using hl.1, hl.2.1, fun q hq => hl.2.2 q ?_⟩
    obtain ⟨j, w, h1, h2, h3⟩ := gPr_of _ _ _ hq
    rw [Nat.zero_add] at h2
    by_cases hj1 : j = n + 1
    · subst hj1
      rw [List.getElem?_set_self (by simp; exact hc.1)] at h1
      cases h1
    · rw [List.getElem?_set_ne (Ne.symm hj1)] at h1
      by_cases hj : j = n
      · subst hj
        rw [List.getElem?_set_self (by omega)] at h1
        cases h1
        rw [show q = (j, gc b K v) from Prod.ext h2 h3]
        exact List.mem_cons_self
      · rw [List.getElem?_set_ne (Ne.symm hj)] at h1
        refine List.mem_cons_of_mem _ (List.mem_filter.mpr ⟨?_, ?_⟩)
        · rw [show q = (j, gc b K w) from Prod.ext h2 h3]
          have := gPr_in (b := b) (K := K) L 0 j w h1
          rwa [Nat.zero_add] at this
        · have h4 := gNL_ok hc.2 h1
          simp only [Bool.and_eq_true, Bool.not_eq_true', beq_eq_false_iff_ne, ne_eq, Bool.and_eq_false_imp, beq_iff_eq, h2, h3, gc_cat]
          exact ⟨hj, hj1, fun e => h4 e⟩
  · cases h
theorem gStL_len {L L' : List (Option Value)} {n : Nat} {v : Value} (h : gStL L n v = some L') : n + 1 < L.length ∧ L'.length = L.length := by
  unfold gStL at h
  split at h
  · rename_i hc
    simp only [Bool.and_eq_true, decide_eq_true_eq] at hc
    cases h
    exact ⟨hc.1, by simp⟩
  · cases h
