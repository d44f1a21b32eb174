set_option linter.unusedVariables false
-- H1
section
variable {E : gEv} {c : gCf}
theorem zp_eq (z : gZ) (k j : Nat) (v : Int) : (zPut z k j v).1 k j = v := by rw [zp1, if_pos rfl, if_pos rfl]
/-- the first place from p on that Q holds of, or the text's end -/
def Fst (Q : Nat → Prop) (n p q : Nat) : Prop := p ≤ q ∧ (∀ i, p ≤ i → i < q → i < n ∧ ¬ Q i) ∧ (q < n → Q q)
theorem Fst_u {Q : Nat → Prop} {n p q r : Nat} (h : Fst Q n p q) (k : Fst Q n p r) : q = r := by
  obtain ⟨h1, h2, h3⟩ := h
  obtain ⟨k1, k2, k3⟩ := k
  rcases Nat.lt_trichotomy q r with x | x | x
  · have := k2 q h1 x
    exact absurd (h3 this.1) this.2
  · exact x
  · have := h2 r k1 x
    exact absurd (k3 this.1) this.2
theorem Fst_m {Q : Nat → Prop} {n p q r : Nat} (h : Fst Q n p q) (h1 : p ≤ r) (h2 : r ≤ q) : Fst Q n r q := ⟨h2, fun i a b => h.2.1 i (by omega) b, h.2.2⟩
theorem Fst_le {Q : Nat → Prop} {n p q : Nat} (h : Fst Q n p q) (hp : p ≤ n) : q ≤ n := by
  by_cases e : q = p
  · omega
  · have := (h.2.1 (q - 1) (by have := h.1; omega) (by have := h.1; omega)).1
    omega
def bl (T : Nat → Int) (i : Nat) : Prop := T i = 32 ∨ T i = 9
def sp (T : Nat → Int) (i : Nat) : Prop := bl T i ∨ T i = 35 ∨ T i = 10
/-- the next word from p on -/
def wdR (T : Nat → Int) (n p f t : Nat) : Prop := ∃ b, Fst (fun i => ¬ bl T i) n p b ∧ ((b < n ∧ T b = 35 ∧ Fst (fun i => T i = 10) n b f) ∨ (¬ (b < n ∧ T b = 35) ∧ f = b)) ∧ Fst (sp T) n f t
theorem wdR_u {T : Nat → Int} {n p f t f' t' : Nat} (h : wdR T n p f t) (k : wdR T n p f' t') : f = f' ∧ t = t' := by
  obtain ⟨b, h1, h2, h3⟩ := h
  obtain ⟨d, k1, k2, k3⟩ := k
  have := Fst_u h1 k1
  subst this
  have : f = f' := by
    rcases h2 with ⟨a1, a2, a3⟩ | ⟨a1, a2⟩
    · rcases k2 with ⟨b1, b2, b3⟩ | ⟨b1, b2⟩
      · exact Fst_u a3 b3
      · exact absurd ⟨a1, a2⟩ b1
    · rcases k2 with ⟨b1, b2, b3⟩ | ⟨b1, b2⟩
      · exact absurd ⟨b1, b2⟩ a1
      · omega
  subst this
  exact ⟨rfl, Fst_u h3 k3⟩
theorem wdR_le {T : Nat → Int} {n p f t : Nat} (h : wdR T n p f t) (hp : p ≤ n) : p ≤ f ∧ f ≤ t ∧ t ≤ n := by
  obtain ⟨b, h1, h2, h3⟩ := h
  have h4 := Fst_le h1 hp
  have h5 := h1.1
  have h6 := h3.1
  rcases h2 with ⟨a1, a2, a3⟩ | ⟨a1, a2⟩
  · have := a3.1
    have h7 := Fst_le a3 h4
    exact ⟨by omega, h6, Fst_le h3 h7⟩
  · subst a2
    exact ⟨by omega, h6, Fst_le h3 h4⟩
def p4 (k j : Nat) : Prop := k = 10 ∧ j = 4
def p46 (k j : Nat) : Prop := k = 10 ∧ 4 ≤ j ∧ j ≤ 6
theorem s_scan {f : gZ → Option (gZ ⊕ gZ)} {Q : Nat → Prop} {z : gZ} {n p : Nat} (hn : n ≤ 4000) (hp : p ≤ 5000) (h4 : z.1 10 4 = p) (h1 : ∀ (s : gZ) (i : Nat), zOff p4 z s → s.1 10 4 = i → i < n → ¬ Q i → f s = some (.inl (zPut s 10 4 ((i : Int) + 1)))) (h2 : ∀ (s : gZ) (i : Nat), zOff p4 z s → s.1 10 4 = i → (i < n → Q i) → f s = some (.inr s)) : zOk (gIter f gN z) (fun s => ∃ q : Nat, Fst Q n p q ∧ zOff p4 z s ∧ s.1 10 4 = q) := by
  refine it_for (fun (i : Nat) (t : gZ) => t) (fun i t => zOff p4 z t ∧ t.1 10 4 = i ∧ ∀ k, p ≤ k → k < i → k < n ∧ ¬ Q k) p (n + p) rfl ⟨off_r, h4, fun k a b => by omega⟩ (by omega) (by omega) ?_ ?_
  · rintro i t hi hN ⟨o, e4, hq⟩
    show zOk (f t) _
    by_cases x : i < n → Q i
    · rw [h2 t i o e4 x]
      exact ok_inr (Or.inr ⟨t, rfl, i, ⟨hi, hq, x⟩, o, e4⟩)
    · obtain ⟨x1, x2⟩ := Classical.not_imp.1 x
      rw [h1 t i o e4 x1 x2]
      refine ok_inl (Or.inl ⟨_, rfl, off_t o (off_put ⟨rfl, rfl⟩), by rw [zp_eq]; omega, fun k a b => ?_⟩)
      by_cases e : k = i
      · subst e; exact ⟨x1, x2⟩
      · exact hq k a (by omega)
  · rintro t ⟨o, e4, hq⟩
    show zOk (f t) _
    rw [h2 t (n + p) o e4 (by omega)]
    exact ok_inr ⟨t, rfl, n + p, ⟨by omega, hq, by omega⟩, o, e4⟩
section
variable {z : gZ} {n p : Nat} {T : Nat → Int}
theorem s_blank {v : Int} {z : gZ} : q_Text_isBlank E (kL c) v z = some (if v = 32 ∨ v = 9 then 1 else 0) := by
  unfold q_Text_isBlank
  by_cases h : v = 32
  · rw [if_pos h, if_pos (Or.inl h)]
  · rw [if_neg h]
    by_cases k : v = 9
    · rw [if_pos k, if_pos (Or.inr k)]
    · rw [if_neg k, if_neg (by omega)]
theorem s_skip (hn : n ≤ 4000) (hp : p ≤ 5000) (h3 : z.1 10 3 = n) (h4 : z.1 10 4 = p) (hT : ∀ j, j < n → z.1 11 j = T j) : zOk (q_Text_skipLine E (kL c) z) (fun s => ∃ q : Nat, Fst (fun i => T i = 10) n p q ∧ zOff p4 z s ∧ s.1 10 4 = q) := by
  unfold q_Text_skipLine
  refine ok_b1 _ (s_scan (Q := fun i => T i = 10) hn hp h4 ?_ ?_) fun s hs => ok_so hs
  · intro s i o e4 hi hq
    have e := o.2 11 i (by unfold p4; omega)
    unfold q_Text_skipLine_0
    rw [o.2 10 3 (by unfold p4; omega), h3, e4, kL_11, if_neg (by omega), if_pos (by omega), gtN, e, hT i hi, if_neg hq, if_pos (by omega), let_s]
  · intro s i o e4 hq
    unfold q_Text_skipLine_0
    rw [o.2 10 3 (by unfold p4; omega), h3, e4, kL_11]
    by_cases hi : i < n
    · have e := o.2 11 i (by unfold p4; omega)
      rw [if_neg (by omega), if_pos (by omega), gtN, e, hT i hi, if_pos (hq hi)]
    · rw [if_pos (by omega)]
theorem s_nextWord (hn : n ≤ 4000) (hp : p ≤ 4500) (h3 : z.1 10 3 = n) (h4 : z.1 10 4 = p) (hT : ∀ j, j < n → z.1 11 j = T j) : zOk (q_Text_nextWord E (kL c) z) (fun r => ∃ f t : Nat, wdR T n p f t ∧ zOff p46 z r.2 ∧ r.2.1 10 5 = f ∧ r.2.1 10 6 = t ∧ r.2.1 10 4 = t ∧ r.1 = if f < t then 1 else 0) := by
  unfold q_Text_nextWord
  refine ok_b1 _ (s_scan (Q := fun i => ¬ bl T i) hn (by omega) h4 ?_ ?_) fun s1 ⟨b, hb, o1, e1⟩ => ?_
  · intro s i o e4 hi hq
    have e := o.2 11 i (by unfold p4; omega)
    have hq : bl T i := Classical.not_not.1 hq
    unfold q_Text_nextWord_0
    rw [o.2 10 3 (by unfold p4; omega), h3, e4, kL_11, if_neg (by omega), if_pos (by omega), gtN, e, hT i hi, s_blank, b1_s, if_pos (show T i = 32 ∨ T i = 9 from hq), if_neg (by omega), if_pos (by omega), let_s]
  · intro s i o e4 hq
    unfold q_Text_nextWord_0
    rw [o.2 10 3 (by unfold p4; omega), h3, e4, kL_11]
    by_cases hi : i < n
    · have e := o.2 11 i (by unfold p4; omega)
      rw [if_neg (by omega), if_pos (by omega), gtN, e, hT i hi, s_blank, b1_s, if_neg (show ¬ (T i = 32 ∨ T i = 9) from hq hi), if_pos rfl]
    · rw [if_pos (by omega)]
  have hb2 : b ≤ 5000 := by
    by_cases x : p ≤ n
    · have := Fst_le hb x; omega
    · by_cases e : b = p
      · omega
      · have := hb.2.1 p (Nat.le_refl _) (by have := hb.1; omega); omega
  -- behind the blanks
  have tail : ∀ (s : gZ) (f : Nat), zOff p4 z s → s.1 10 4 = f → f ≤ 5000 → ((b < n ∧ T b = 35 ∧ Fst (fun i => T i = 10) n b f) ∨ (¬ (b < n ∧ T b = 35) ∧ f = b)) → zOk (q_Text_nextWord_j68 E (kL c) s) (fun r => ∃ f t : Nat, wdR T n p f t ∧ zOff p46 z r.2 ∧ r.2.1 10 5 = f ∧ r.2.1 10 6 = t ∧ r.2.1 10 4 = t ∧ r.1 = if f < t then 1 else 0) := by
    intro s f o e4 hf hd
    unfold q_Text_nextWord_j68
    rw [ok_l, e4]
    have o5 : zOff p46 z (zPut s 10 5 (f : Int)) := off_t (off_w o fun k j x => by unfold p4 at x; unfold p46; omega) (off_put ⟨rfl, by omega, by omega⟩)
    refine ok_b1 _ (s_scan (Q := sp T) (z := zPut s 10 5 (f : Int)) hn hf (by rw [zp1, if_pos rfl, if_neg (by decide)]; exact e4) ?_ ?_) fun s2 ⟨t, ht, o2, e2⟩ => ?_
    · intro s' i o' e' hi hq
      unfold sp bl at hq
      have e := (o'.2 11 i (by unfold p4; omega)).trans (o5.2 11 i (by unfold p46; omega))
      unfold q_Text_nextWord_76
      rw [(o'.2 10 3 (by unfold p4; omega)).trans (o5.2 10 3 (by unfold p46; omega)), h3, e', kL_11, if_neg (by omega), if_pos (by omega), gtN, e, hT i hi, s_blank, b1_s, if_neg (show ¬ (T i = 32 ∨ T i = 9) by omega), if_pos rfl, if_neg (by omega), if_neg (by omega), if_pos (by omega), let_s]
    · intro s' i o' e' hq
      unfold q_Text_nextWord_76
      rw [(o'.2 10 3 (by unfold p4; omega)).trans (o5.2 10 3 (by unfold p46; omega)), h3, e', kL_11]
      by_cases hi : i < n
      · have e := (o'.2 11 i (by unfold p4; omega)).trans (o5.2 11 i (by unfold p46; omega))
        have hq := hq hi
        unfold sp bl at hq
        rw [if_neg (by omega), if_pos (by omega), gtN, e, hT i hi, s_blank, b1_s]
        by_cases x : T i = 32 ∨ T i = 9
        · rw [if_pos x, if_neg (by omega)]
        · rw [if_neg x, if_pos rfl]
          by_cases y : T i = 35
          · rw [if_pos y]
          · rw [if_neg y, if_pos (by omega)]
      · rw [if_pos (by omega)]
    · unfold q_Text_nextWord_j143
      rw [ok_l, e2]
      have e5 : (zPut s2 10 6 (t : Int)).1 10 5 = f := by
        rw [zp1, if_pos rfl, if_neg (by decide), o2.2 10 5 (by unfold p4; omega), zp_eq]
      rw [e5, zp_eq]
      have oo : zOff p46 z (zPut s2 10 6 (t : Int)) := off_t o5 (off_t (off_w o2 fun k j x => by unfold p4 at x; unfold p46; omega) (off_put ⟨rfl, by omega, by omega⟩))
      have e4' : (zPut s2 10 6 (t : Int)).1 10 4 = t := by rw [zp1, if_pos rfl, if_neg (by decide), e2]
      have hw : wdR T n p f t := ⟨b, hb, hd, ht⟩
      refine ok_br (fun x => ok_so ⟨f, t, hw, oo, e5, zp_eq _ _ _ _, e4', ?_⟩) fun x => ok_so ⟨f, t, hw, oo, e5, zp_eq _ _ _ _, e4', ?_⟩
      · rw [if_neg (by omega)]
      · rw [if_pos (by omega)]
  unfold q_Text_nextWord_j39
  rw [o1.2 10 3 (by unfold p4; omega), h3, e1, kL_11]
  refine ok_br (fun x => tail s1 b o1 e1 hb2 (Or.inr ⟨by omega, rfl⟩)) fun x => ?_
  (refine ok_gd (by omega) ?_)
  rw [gtN, o1.2 11 b (by unfold p4; omega), hT b (by omega)]
  refine ok_br (fun y => ?_) fun y => tail s1 b o1 e1 hb2 (Or.inr ⟨by omega, rfl⟩)
  refine ok_b1 _ (s_skip (T := T) hn hb2 (by rw [o1.2 10 3 (by unfold p4; omega)]; exact h3) e1 (fun j hj => by rw [o1.2 11 j (by unfold p4; omega)]; exact hT j hj)) fun s2 ⟨q, hq, o2, e2⟩ => ?_
  have := Fst_le hq (by omega)
  exact tail s2 q (off_t o1 o2) e2 (by omega) (Or.inl ⟨by omega, y, hq⟩)
end
end
-- H2
section
variable {E : gEv} {c : gCf}
theorem wdR_mo {T : Nat → Int} {n p f t : Nat} (h : wdR T n p f t) : p ≤ f ∧ f ≤ t := by
  obtain ⟨b, h1, h2, h3⟩ := h
  have := h1.1
  have := h3.1
  rcases h2 with ⟨a1, a2, a3⟩ | ⟨a1, a2⟩
  · have := a3.1; omega
  · omega
/-- where word i is looked for -/
def psn (p : Nat) (W S : Nat → Nat) : Nat → Nat
  | 0 => p
  | i + 1 => W i + S i
theorem psn_c {p m : Nat} {W S W' S' : Nat → Nat} (h : ∀ i, i < m → W i = W' i ∧ S i = S' i) {i : Nat} (hi : i ≤ m) : psn p W S i = psn p W' S' i := by
  cases i with
  | zero => rfl
  | succ i => rw [psn, psn, (h i (by omega)).1, (h i (by omega)).2]
def wds (T : Nat → Int) (n p m : Nat) (W S : Nat → Nat) : Prop := ∀ i, i < m → 0 < S i ∧ wdR T n (psn p W S i) (W i) (W i + S i)
theorem wds_c {T : Nat → Int} {n p m : Nat} {W S W' S' : Nat → Nat} (h : ∀ i, i < m → W i = W' i ∧ S i = S' i) (k : wds T n p m W S) : wds T n p m W' S' := fun i hi => by
  have := k i hi
  rw [psn_c h (by omega), (h i hi).1, (h i hi).2] at this
  exact this
theorem wds_le {T : Nat → Int} {n p m : Nat} {W S : Nat → Nat} (k : wds T n p m W S) : ∀ i, i ≤ m → p ≤ psn p W S i ∧ psn p W S i ≤ psn p W S m := by
  have lo : ∀ i, i ≤ m → p ≤ psn p W S i := by
    intro i
    induction i with
    | zero => intro _; exact Nat.le_refl _
    | succ i ih =>
      intro hi
      have := ih (by omega)
      have := wdR_mo (k i (by omega)).2
      show p ≤ W i + S i
      omega
  have hi : ∀ d i, i + d = m → psn p W S i ≤ psn p W S m := by
    intro d
    induction d with
    | zero => intro i h; rw [show i = m by omega]; exact Nat.le_refl _
    | succ d ih =>
      intro i h
      have := ih (i + 1) (by omega)
      have := wdR_mo (k i (by omega)).2
      have e : psn p W S (i + 1) = W i + S i := rfl
      omega
  exact fun i h => ⟨lo i h, hi (m - i) i (by omega)⟩
/-- a line's words -/
abbrev Lin (T : Nat → Int) (n p m : Nat) (W S : Nat → Nat) (e : Nat) : Prop := ∃ _ : (wds T n p m W S), ∃ _ : (wdR T n (psn p W S m) e e), ∃ _ : (Fst (fun i => T i = 10) n p e), (2 * m ≤ n - p + 1)
theorem Lin.w {T : Nat → Int} {n p m : Nat} {W S : Nat → Nat} {e : Nat} (h : Lin T n p m W S e) : wds T n p m W S := by obtain ⟨x, _⟩ := h; exact x
theorem Lin.en {T : Nat → Int} {n p m : Nat} {W S : Nat → Nat} {e : Nat} (h : Lin T n p m W S e) : wdR T n (psn p W S m) e e := by obtain ⟨_, x, _⟩ := h; exact x
theorem Lin.nl {T : Nat → Int} {n p m : Nat} {W S : Nat → Nat} {e : Nat} (h : Lin T n p m W S e) : Fst (fun i => T i = 10) n p e := by obtain ⟨_, _, x, _⟩ := h; exact x
theorem Lin.mb {T : Nat → Int} {n p m : Nat} {W S : Nat → Nat} {e : Nat} (h : Lin T n p m W S e) : 2 * m ≤ n - p + 1 := by obtain ⟨_, _, _, x⟩ := h; exact x
def pLn (k j : Nat) : Prop := k = 97 ∨ k = 98 ∨ (k = 94 ∧ (j = 19 ∨ j = 20))
def LI (T : Nat → Int) (n p : Nat) (z : gZ) (k : Nat) (cm inn : Int) (s : gZ) : Prop := zOff pLn z s ∧ (∀ i, p ≤ i → i < k → T i ≠ 10) ∧ p ≤ k ∧ ∃ (m : Nat) (W S : Nat → Nat), s.1 94 19 = m ∧ (∀ i, i < m → s.1 97 i = W i ∧ s.1 98 i = S i) ∧ psn p W S m ≤ k ∧
  ((cm = 0 ∧ inn = 0 ∧ wds T n p m W S ∧ 2 * m ≤ k - p ∧ ∀ i, psn p W S m ≤ i → i < k → bl T i) ∨
  (cm = 0 ∧ inn = 1 ∧ ∃ m', m = m' + 1 ∧ wds T n p m' W S ∧ 2 * m ≤ k - p + 1 ∧ psn p W S m' ≤ W m' ∧ W m' + S m' = k ∧ 0 < S m' ∧ (∀ i, psn p W S m' ≤ i → i < W m' → bl T i) ∧ ∀ i, W m' ≤ i → i < k → ¬ sp T i) ∨
  (cm = 1 ∧ inn = 0 ∧ wds T n p m W S ∧ 2 * m ≤ k - p ∧ ∃ b, psn p W S m ≤ b ∧ b < k ∧ T b = 35 ∧ ∀ i, psn p W S m ≤ i → i < b → bl T i))
section
variable {T : Nat → Int} {n p : Nat} {z : gZ}
/-- a word that goes on to k ends there -/
theorem wd_end {k m : Nat} {W S : Nat → Nat} (hk : k ≤ n) (w : wds T n p m W S) (h1 : psn p W S m ≤ W m) (h2 : W m + S m = k) (h3 : 0 < S m) (h4 : ∀ i, psn p W S m ≤ i → i < W m → bl T i) (h5 : ∀ i, W m ≤ i → i < k → ¬ sp T i) (h6 : k < n → sp T k) : wds T n p (m + 1) W S := fun i hi => by
  by_cases e : i = m
  · subst e
    have h7 := h5 (W i) (Nat.le_refl _) (by omega)
    unfold sp bl at h7
    refine ⟨h3, W i, ⟨h1, fun j a b => ⟨by omega, fun x => x (h4 j a b)⟩, fun _ x => by unfold bl at x; omega⟩, Or.inr ⟨fun x => by omega, rfl⟩, ⟨by omega, fun j a b => ⟨by omega, h5 j a (by omega)⟩, fun x => by rw [h2]; exact h6 (by omega)⟩⟩
  · exact w i (by omega)
/-- the line's end -/
theorem wd_fin {k q : Nat} (hk : k ≤ n) (hq : q ≤ k) (he : k < n → T k = 10) (h : (∀ i, q ≤ i → i < k → bl T i) ∨ ∃ b, q ≤ b ∧ b < k ∧ T b = 35 ∧ (∀ i, q ≤ i → i < b → bl T i) ∧ ∀ i, b ≤ i → i < k → T i ≠ 10) : wdR T n q k k := by
  have last : Fst (sp T) n k k := ⟨Nat.le_refl _, fun i a b => by omega, fun x => Or.inr (Or.inr (he x))⟩
  rcases h with h | ⟨b, h1, h2, h3, h4, h5⟩
  · refine ⟨k, ⟨hq, fun i a b => ⟨by omega, fun x => x (h i a b)⟩, fun x y => ?_⟩, Or.inr ⟨fun x => ?_, rfl⟩, last⟩
    · have := he x; unfold bl at y; omega
    · have := he x.1; omega
  · refine ⟨b, ⟨h1, fun i a d => ⟨by omega, fun x => x (h4 i a d)⟩, fun _ x => by unfold bl at x; omega⟩, Or.inl ⟨by omega, h3, by omega, fun i a d => ⟨by omega, h5 i a d⟩, he⟩, last⟩
theorem LI_end {k : Nat} {cm inn : Int} {s : gZ} (hk : k ≤ n) (he : k < n → T k = 10) (h : LI T n p z k cm inn s) : ∃ (m : Nat) (W S : Nat → Nat), Lin T n p m W S k ∧ zOff pLn z s ∧ s.1 94 19 = m ∧ ∀ i, i < m → s.1 97 i = W i ∧ s.1 98 i = S i := by
  obtain ⟨o, hn, hp, m, W, S, h1, h2, h3, h4⟩ := h
  have nl : Fst (fun i => T i = 10) n p k := ⟨hp, fun i a b => ⟨by omega, hn i a b⟩, he⟩
  refine ⟨m, W, S, ?_, o, h1, h2⟩
  rcases h4 with ⟨-, -, a1, a2, a3⟩ | ⟨-, -, m', a0, a1, a2, a3, a4, a5, a6, a7⟩ | ⟨-, -, a1, a2, b, b1, b2, b3, b4⟩
  · exact ⟨a1, wd_fin hk h3 he (Or.inl a3), nl, by omega⟩
  · subst a0
    have w := wd_end hk a1 a3 a4 a5 a6 a7 fun x => Or.inr (Or.inr (he x))
    refine ⟨w, ?_, nl, by omega⟩
    have e : psn p W S (m' + 1) = k := a4
    rw [e]
    exact wd_fin hk (Nat.le_refl _) he (Or.inl fun i a b => by omega)
  · exact ⟨a1, wd_fin hk h3 he (Or.inr ⟨b, b1, b2, b3, b4, fun i a d => hn i (by have := (wds_le a1 m (Nat.le_refl _)).1; omega) d⟩), nl, by omega⟩
/-- no part of a word -/
theorem LI_no {k : Nat} {cm inn cm' : Int} {s : gZ} (hk : k < n) (h10 : T k ≠ 10) (h : LI T n p z k cm inn s) (hc : (cm' = 0 ∧ cm = 0 ∧ bl T k) ∨ (cm' = 1 ∧ (cm = 1 ∨ (cm = 0 ∧ T k = 35)))) : LI T n p z (k + 1) cm' 0 s := by
  obtain ⟨o, hn, hp, m, W, S, h1, h2, h3, h4⟩ := h
  refine ⟨o, fun i a b => ?_, by omega, m, W, S, h1, h2, by omega, ?_⟩
  · by_cases e : i = k
    · rw [e]; exact h10
    · exact hn i a (by omega)
  have hsp : cm = 0 → sp T k := fun x => by
    rcases hc with ⟨-, -, y⟩ | ⟨-, y | ⟨-, y⟩⟩
    · exact Or.inl y
    · omega
    · exact Or.inr (Or.inl y)
  rcases h4 with ⟨c0, -, a1, a2, a3⟩ | ⟨c0, -, m', a0, a1, a2, a3, a4, a5, a6, a7⟩ | ⟨c0, -, a1, a2, b, b1, b2, b3, b4⟩
  · rcases hc with ⟨x, -, y⟩ | ⟨x, y⟩
    · refine Or.inl ⟨x, rfl, a1, by omega, fun i a b => ?_⟩
      by_cases e : i = k
      · rw [e]; exact y
      · exact a3 i a (by omega)
    · exact Or.inr (Or.inr ⟨x, rfl, a1, by omega, k, h3, by omega, by omega, a3⟩)
  · subst a0
    have w := wd_end (by omega) a1 a3 a4 a5 a6 a7 fun x => hsp c0
    have e : psn p W S (m' + 1) = k := a4
    rcases hc with ⟨x, -, y⟩ | ⟨x, y⟩
    · exact Or.inl ⟨x, rfl, w, by omega, fun i a b => by rw [show i = k by omega]; exact y⟩
    · exact Or.inr (Or.inr ⟨x, rfl, w, by omega, k, by omega, by omega, by omega, fun i a b => by omega⟩)
  · rcases hc with ⟨x, y, -⟩ | ⟨x, y⟩
    · omega
    · exact Or.inr (Or.inr ⟨x, rfl, a1, by omega, b, b1, by omega, b3, b4⟩)
theorem s_line (hn : n ≤ 4000) (hp : p < n) (h16 : z.1 94 16 = n) (hT : ∀ j, j < n → z.1 96 j = T j) : zOk (q_Model_line E (kL c) (p : Int) z) (fun r => ∃ (m : Nat) (W S : Nat → Nat) (e : Nat), Lin T n p m W S e ∧ r.1 = (e : Int) + 1 ∧ zOff pLn z r.2 ∧ r.2.1 94 20 = e ∧ r.2.1 94 19 = m ∧ ∀ i, i < m → r.2.1 97 i = W i ∧ r.2.1 98 i = S i) := by
  unfold q_Model_line
  rw [ok_l]
  refine ok_b1 (fun r => ∃ (m : Nat) (W S : Nat → Nat) (e : Nat), Lin T n p m W S e ∧ r.1 = (e : Int) ∧ zOff pLn z r.2 ∧ r.2.1 94 19 = m ∧ ∀ i, i < m → r.2.1 97 i = W i ∧ r.2.1 98 i = S i) ?_ fun r ⟨m, W, S, e, h1, h2, h3, h4, h5⟩ => ?_
  · refine it_for (fun (i : Nat) (t : Int × Int × gZ) => ((i : Int), t)) (fun i t => LI T n p z i t.1 t.2.1 t.2.2) p n rfl ?_ (by omega) (by omega) ?_ ?_
    · exact ⟨off_put (Or.inr (Or.inr ⟨rfl, Or.inl rfl⟩)), fun i a b => by omega, Nat.le_refl _, 0, fun _ => 0, fun _ => 0, by rw [zp_eq]; rfl, fun i hi => by omega, Nat.le_refl _, Or.inl ⟨rfl, rfl, fun i hi => by omega, by omega, fun i a b => by have e : psn p (fun _ => 0) (fun _ => 0) 0 = p := rfl; omega⟩⟩
    · rintro k ⟨cm, inn, s⟩ - hk h
      have h : LI T n p z k cm inn s := h
      have o := h.1
      show zOk (q_Model_line_12 E (kL c) (k : Int) cm inn s) _
      unfold q_Model_line_12
      rw [o.2 94 16 (by unfold pLn; omega), h16]
      (refine ok_neg (by omega) ?_); (refine ok_neg (by omega) ?_)
      unfold q_Model_line_j36_12
      rw [kL_96, gtN, o.2 96 k (by unfold pLn; omega), hT k hk]
      (refine ok_gd (by omega) ?_)
      refine ok_br (fun e => ?_) fun e => ?_
      · obtain ⟨m, W, S, a, b, d, f⟩ := LI_end (by omega) (fun _ => e) h
        exact ok_inr (Or.inr ⟨_, rfl, m, W, S, k, a, rfl, b, d, f⟩)
      (refine ok_gd (by omega) ?_)
      rw [ok_l]
      have comm : LI T n p z (k + 1) 1 0 s → zOk (q_Model_line_j61_12 E (kL c) (k : Int) inn (T k) s) (fun r => (∃ t', r = Sum.inl (((k + 1 : Nat) : Int), t') ∧ LI T n p z (k + 1) t'.1 t'.2.1 t'.2.2) ∨ ∃ r', r = Sum.inr r' ∧ ∃ (m : Nat) (W S : Nat → Nat) (e : Nat), Lin T n p m W S e ∧ r'.1 = (e : Int) ∧ zOff pLn z r'.2 ∧ r'.2.1 94 19 = m ∧ ∀ i, i < m → r'.2.1 97 i = W i ∧ r'.2.1 98 i = S i) := fun hl => by
        unfold q_Model_line_j61_12 q_Model_line_j66_12 q_Model_line_j89_12 q_Model_line_j90_12 q_Model_line_j132_12
        (refine ok_neg (by omega) ?_); (refine ok_pos (by omega) ?_); (refine ok_pos (by omega) ?_); (refine ok_gd (by omega) ?_)
        rw [ok_l]
        exact ok_inl (Or.inl ⟨(1, 0, s), rfl, hl⟩)
      have hcm : cm = 0 ∨ cm = 1 := by
        obtain ⟨-, -, -, m, W, S, -, -, -, x⟩ := h
        rcases x with x | x | x
        · exact Or.inl x.1
        · exact Or.inl x.1
        · exact Or.inr x.1
      refine ok_br (fun c0 => ?_) fun c0 => comm (LI_no hk e h (Or.inr ⟨rfl, Or.inl (by omega)⟩))
      refine ok_br (fun e5 => comm (LI_no hk e h (Or.inr ⟨rfl, Or.inr ⟨c0, e5⟩⟩))) fun e5 => ?_
      unfold q_Model_line_j66_12
      refine ok_pos rfl ?_
      have blank : bl T k → zOk (q_Model_line_j89_12 E (kL c) (k : Int) 0 inn s) (fun r => (∃ t', r = Sum.inl (((k + 1 : Nat) : Int), t') ∧ LI T n p z (k + 1) t'.1 t'.2.1 t'.2.2) ∨ ∃ r', r = Sum.inr r' ∧ ∃ (m : Nat) (W S : Nat → Nat) (e : Nat), Lin T n p m W S e ∧ r'.1 = (e : Int) ∧ zOff pLn z r'.2 ∧ r'.2.1 94 19 = m ∧ ∀ i, i < m → r'.2.1 97 i = W i ∧ r'.2.1 98 i = S i) := fun hl => by
        unfold q_Model_line_j89_12 q_Model_line_j90_12 q_Model_line_j132_12
        (refine ok_pos (by omega) ?_); (refine ok_pos (by omega) ?_); (refine ok_gd (by omega) ?_)
        rw [ok_l]
        exact ok_inl (Or.inl ⟨(0, 0, s), rfl, LI_no hk e h (Or.inl ⟨rfl, c0, hl⟩)⟩)
      refine ok_br (fun e6 => blank (Or.inl e6)) fun e6 => ok_br (fun e7 => blank (Or.inr e7)) fun e7 => ?_
      have nsp : ¬ sp T k := fun x => by unfold sp bl at x; omega
      obtain ⟨-, hnl, hpk, m, W, S, h1, h2, h3, h4⟩ := h
      have hnl' : ∀ i, p ≤ i → i < k + 1 → T i ≠ 10 := fun i a b => by
        by_cases y : i = k
        · rw [y]; exact e
        · exact hnl i a (by omega)
      unfold q_Model_line_j90_12
      (refine ok_neg (by omega) ?_)
      rcases h4 with ⟨-, i0, a1, a2, a3⟩ | ⟨-, i0, m', a0, a1, a2, a3, a4, a5, a6, a7⟩ | ⟨x, -⟩
      · refine ok_pos i0 ?_
        rw [h1, kL_97, kL_98]
        (refine ok_gd (by omega) ?_)
        rw [ok_l, show (zPut s 97 ((m : Int)).toNat (k : Int)).1 94 19 = m from h1, gtN]
        (refine ok_gd (by omega) ?_)
        rw [ok_l, show (zPut (zPut s 97 m (k : Int)) 98 m 0).1 94 19 = m from h1]
        (refine ok_gd (by omega) ?_)
        rw [ok_l]
        unfold q_Model_line_j132_12
        (refine ok_neg (by omega) ?_)
        rw [kL_98, zp_eq, show ((m : Int) + 1 - 1).toNat = m by omega, show (zPut (zPut (zPut s 97 m (k : Int)) 98 m 0) 94 19 ((m : Int) + 1)).1 98 m = 0 by rw [zp1, if_neg (by decide), zp_eq]]
        (refine ok_gd (by omega) ?_); (refine ok_gd (by omega) ?_)
        rw [ok_l]
        (refine ok_gd (by omega) ?_)
        rw [ok_l]
        refine ok_inl (Or.inl ⟨(0, 1, _), rfl, ?_⟩)
        have hWe : ∀ i, i < m → W i = (fun i => if i = m then k else W i) i ∧ S i = (fun i => if i = m then 1 else S i) i := fun i hi => by
          constructor
          · show W i = if i = m then k else W i
            rw [if_neg (by omega)]
          · show S i = if i = m then 1 else S i
            rw [if_neg (by omega)]
        refine ⟨off_t o (off_t (off_put (Or.inl rfl)) (off_t (off_put (Or.inr (Or.inl rfl))) (off_t (off_put (Or.inr (Or.inr ⟨rfl, Or.inl rfl⟩))) (off_put (Or.inr (Or.inl rfl)))))), hnl', by omega, m + 1, fun i => if i = m then k else W i, fun i => if i = m then 1 else S i, ?_, ?_, ?_, Or.inr (Or.inl ⟨rfl, rfl, m, rfl, wds_c hWe a1, by omega, ?_, ?_, ?_, ?_, ?_⟩)⟩
        · show (zPut _ 98 m _).1 94 19 = _
          rw [zp1, if_neg (by decide), zp_eq]; omega
        · intro i hi
          constructor
          · show (zPut (zPut (zPut (zPut s 97 m (k : Int)) 98 m 0) 94 19 ((m : Int) + 1)) 98 m (0 + 1)).1 97 i = ((if i = m then k else W i : Nat) : Int)
            rw [zp1, if_neg (by decide), zp1, if_neg (by decide), zp1, if_neg (by decide), zp1, if_pos rfl]
            by_cases y : i = m
            · rw [if_pos y, if_pos y]
            · rw [if_neg y, if_neg y]; exact (h2 i (by omega)).1
          · show (zPut (zPut (zPut (zPut s 97 m (k : Int)) 98 m 0) 94 19 ((m : Int) + 1)) 98 m (0 + 1)).1 98 i = ((if i = m then 1 else S i : Nat) : Int)
            rw [zp1, if_pos rfl]
            by_cases y : i = m
            · rw [if_pos y, if_pos y]; rfl
            · rw [if_neg y, if_neg y, zp1, if_neg (by decide), zp1, if_pos rfl, if_neg y, zp1, if_neg (by decide)]; exact (h2 i (by omega)).2
        · show (if m = m then k else W m) + (if m = m then 1 else S m) ≤ k + 1
          rw [if_pos rfl, if_pos rfl]; omega
        · rw [← psn_c hWe (Nat.le_refl _)]
          show _ ≤ if m = m then k else W m
          rw [if_pos rfl]; exact h3
        · show (if m = m then k else W m) + (if m = m then 1 else S m) = k + 1
          rw [if_pos rfl, if_pos rfl]
        · show 0 < if m = m then 1 else S m
          rw [if_pos rfl]; omega
        · rw [← psn_c hWe (Nat.le_refl _)]
          show ∀ i, _ → i < (if m = m then k else W m) → _
          rw [if_pos rfl]; exact a3
        · show ∀ i, (if m = m then k else W m) ≤ i → _
          rw [if_pos rfl]
          intro i a b
          rw [show i = k by omega]; exact nsp
      · refine ok_neg (by omega) ?_
        unfold q_Model_line_j132_12
        (refine ok_neg (by omega) ?_)
        rw [h1, kL_98, show ((m : Int) - 1).toNat = m' by omega, (h2 m' (by omega)).2]
        (refine ok_gd (by omega) ?_); (refine ok_gd (by omega) ?_)
        rw [ok_l]
        (refine ok_gd (by omega) ?_)
        rw [ok_l]
        refine ok_inl (Or.inl ⟨(0, 1, _), rfl, ?_⟩)
        have hWe : ∀ i, i < m' → W i = W i ∧ S i = (fun i => if i = m' then S m' + 1 else S i) i := fun i hi => by
          refine ⟨rfl, ?_⟩
          show S i = if i = m' then S m' + 1 else S i
          rw [if_neg (by omega)]
        refine ⟨off_t o (off_put (Or.inr (Or.inl rfl))), hnl', by omega, m, W, fun i => if i = m' then S m' + 1 else S i, ?_, ?_, ?_, Or.inr (Or.inl ⟨rfl, rfl, m', a0, wds_c hWe a1, by omega, ?_, ?_, ?_, ?_, ?_⟩)⟩
        · show (zPut _ 98 m' _).1 94 19 = _
          rw [zp1, if_neg (by decide)]; exact h1
        · intro i hi
          constructor
          · show (zPut _ 98 m' _).1 97 i = _
            rw [zp1, if_neg (by decide)]; exact (h2 i hi).1
          · show (zPut s 98 m' ((S m' : Int) + 1)).1 98 i = ((if i = m' then S m' + 1 else S i : Nat) : Int)
            rw [zp1, if_pos rfl]
            by_cases y : i = m'
            · rw [if_pos y, if_pos y]; rfl
            · rw [if_neg y, if_neg y]; exact (h2 i hi).2
        · subst a0
          show W m' + (if m' = m' then S m' + 1 else S m') ≤ k + 1
          rw [if_pos rfl]; omega
        · rw [← psn_c hWe (Nat.le_refl _)]; exact a3
        · show W m' + (if m' = m' then S m' + 1 else S m') = k + 1
          rw [if_pos rfl]; omega
        · show 0 < if m' = m' then S m' + 1 else S m'
          rw [if_pos rfl]; omega
        · rw [← psn_c hWe (Nat.le_refl _)]; exact a6
        · intro i a b
          by_cases y : i = k
          · rw [y]; exact nsp
          · exact a7 i a (by omega)
      · omega
    · rintro ⟨cm, inn, s⟩ h
      have h : LI T n p z n cm inn s := h
      have o := h.1
      show zOk (q_Model_line_12 E (kL c) (n : Int) cm inn s) _
      unfold q_Model_line_12
      rw [o.2 94 16 (by unfold pLn; omega), h16]
      (refine ok_pos (by omega) ?_)
      obtain ⟨m, W, S, a, b, d, f⟩ := LI_end (by omega) (fun x => by omega) h
      exact ok_inr ⟨_, rfl, m, W, S, n, a, rfl, b, d, f⟩
  · unfold q_Model_line_j162
    rw [ok_l, h2]
    have he := Fst_le h1.nl (by omega)
    (refine ok_gd (by omega) ?_)
    refine ok_so ⟨m, W, S, e, h1, rfl, off_t h3 (off_put (Or.inr (Or.inr ⟨rfl, Or.inr rfl⟩))), zp_eq _ _ _ _, ?_, fun i hi => ?_⟩
    · show (zPut r.2 94 20 (e : Int)).1 94 19 = m
      rw [zp1, if_pos rfl, if_neg (by decide)]; exact h4
    · exact h5 i hi
end
end
-- H3
section
variable {E : gEv} {c : gCf}
/-- 1 or 0, as P holds -/
noncomputable def dI (P : Prop) : Int := @ite _ P (Classical.propDecidable P) 1 0
theorem dI_t {P : Prop} (h : P) : dI P = 1 := by unfold dI; rw [if_pos h]
theorem dI_f {P : Prop} (h : ¬ P) : dI P = 0 := by unfold dI; rw [if_neg h]
/-- the words that lines begin with, and the digits -/
def sL : Nat → List Int
  | 0 => [46, 105, 110, 112, 117, 116, 115]
  | 1 => [46, 111, 117, 116, 112, 117, 116, 115]
  | 2 => [46, 108, 97, 116, 99, 104]
  | 3 => [46, 110, 97, 109, 101, 115]
  | 4 => [46, 101, 110, 100]
  | 5 => [48]
  | _ => [49]
def sN (i : Nat) : Nat := (sL i).length
def sC (i j : Nat) : Int := (sL i).getD j 0
/-- the environment's strings are these -/
def SE (E : gEv) : Prop := ∀ i, i < 7 → (E (100 + i)).1 = sN i ∧ ∀ j, j < sN i → ((E (100 + i)).2 j).toInt = sC i j
theorem sN_b (i : Nat) : 1 ≤ sN i ∧ sN i ≤ 8 := by
  unfold sN sL
  split <;> decide
theorem sC_b {i j : Nat} (h : j < sN i) : ∃ v : Nat, sC i j = v ∧ v < 128 := by
  have key : ∀ x ∈ sL i, 0 ≤ x ∧ x < 128 := by
    unfold sL
    split <;> decide
  have e : sC i j = (sL i)[j] := by
    unfold sC
    rw [List.getD_eq_getElem?_getD, List.getElem?_eq_getElem h]; rfl
  have := key _ (List.getElem_mem h)
  exact ⟨(sC i j).toNat, by rw [e]; omega, by rw [e]; omega⟩
def eqW (T : Nat → Int) (a s i : Nat) : Prop := s = sN i ∧ ∀ j, j < sN i → T (a + j) = sC i j
theorem zOf_n (m : Nat) (h : m < 2147483648) : zOf m = (m : Int) := by
  unfold zOf
  have := n_i32 (m : Int) (by omega)
  rw [← this]
  congr 1
section
variable {z : gZ} {T : Nat → Int} {n : Nat}
theorem s_len (hS : SE E) {i : Nat} (hi : i < 7) : q_String_length E (kL c) i z = some (sN i : Int) := by
  unfold q_String_length q_String_coder
  have := sN_b i
  rw [b1_s, (hS i hi).1, zOf_n _ (by omega)]
  congr 1
  have := zShr_n (sN i) 0 (by omega) (by omega)
  rw [show ((0 : Nat) : Int) = 0 from rfl] at this
  rw [this]; simp
theorem zChar_n (v : Nat) (h : v < 128) : zChar (zAnd (v : Int) 255) = v := by
  have h1 : zAnd (v : Int) 255 = v := by
    have := zAnd_n v 255 (by omega) (by omega)
    rw [show ((255 : Nat) : Int) = 255 from rfl] at this
    rw [this]
    have : v &&& 255 = v := by
      rw [show (255 : Nat) = 2 ^ 8 - 1 from rfl, Nat.and_two_pow_sub_one_eq_mod]
      exact Nat.mod_eq_of_lt (by omega)
    rw [this]
  rw [h1]
  have key : ∀ v : Fin 128, zChar ((v.val : Nat) : Int) = ((v.val : Nat) : Int) := by decide
  exact key ⟨v, h⟩
theorem s_char (hS : SE E) {i j : Nat} (hi : i < 7) (hj : j < sN i) : q_String_charAt E (kL c) i (j : Int) z = some (sC i j) := by
  obtain ⟨v, v1, v2⟩ := sC_b hj
  have := sN_b i
  unfold q_String_charAt q_String_isLatin1 q_StringLatin1_charAt q_String_checkIndex q_Preconditions_checkIndex
  rw [b1_s, if_neg (by omega), (hS i hi).1, zOf_n _ (by omega), if_neg (by omega), if_pos (by omega), b1_s, b1_s, if_pos (by omega), gtN, (hS i hi).2 j hj, v1, zChar_n v v2, if_pos (by omega), b1_s, if_pos (by omega)]
theorem s_isWordC (hS : SE E) {i f t : Nat} (hi : i < 7) (hn : n ≤ 4000) (h5 : z.1 10 5 = f) (h6 : z.1 10 6 = t) (hft : f ≤ t) (ht : t ≤ n) (hT : ∀ j, j < n → z.1 11 j = T j) : q_Text_isWord E (kL c) i z = some (dI (eqW T f (t - f) i)) := by
  unfold q_Text_isWord
  rw [s_len hS hi, b1_s, h5, h6, if_pos (by omega)]
  by_cases e : t - f = sN i
  · rw [if_pos (by omega)]
    have F := it_find (f := fun y => q_Text_isWord_20 E (kL c) i y z) (fun j => T (f + j) ≠ sC i j) (fun _ => Sum.inl ()) 0 (sN i) (e := Sum.inr ()) (s := 0) rfl (by omega) (by have := sN_b i; omega) (fun j _ hj hp => by
        show q_Text_isWord_20 E (kL c) i (j : Int) z = _
        unfold q_Text_isWord_20
        rw [s_len hS hi, b1_s, if_neg (by omega), h5, kL_11, if_pos (by omega), s_char hS hi hj, b1_s, show ((f : Int) + (j : Int)).toNat = f + j by omega, hT _ (by omega), if_pos (Classical.not_not.1 hp), let_s]) (fun j _ hj hp => by
        show q_Text_isWord_20 E (kL c) i (j : Int) z = _
        unfold q_Text_isWord_20
        rw [s_len hS hi, b1_s, if_neg (by omega), h5, kL_11, if_pos (by omega), s_char hS hi hj, b1_s, show ((f : Int) + (j : Int)).toNat = f + j by omega, hT _ (by omega), if_neg hp]) (by
        show q_Text_isWord_20 E (kL c) i (sN i : Int) z = _
        unfold q_Text_isWord_20
        rw [s_len hS hi, b1_s, if_pos (by omega)])
    rcases F with ⟨j, -, j1, j2, -, j3⟩ | ⟨j1, j2⟩
    · rw [j3, b1_s, gs_l, dI_f]
      exact fun x => j2 (x.2 j j1)
    · rw [j2, b1_s, gs_r, dI_t]
      exact ⟨e, fun j hj => Classical.not_not.1 (j1 j (by omega) hj)⟩
  · rw [if_neg (by omega), dI_f fun x => e x.1]
theorem s_isWordM (hS : SE E) {i k W S : Nat} (hi : i < 7) (hn : n ≤ 4000) (hk : k < 2100) (h5 : z.1 97 k = W) (h6 : z.1 98 k = S) (ht : W + S ≤ n) (hT : ∀ j, j < n → z.1 96 j = T j) : q_Model_isWord E (kL c) (k : Int) i z = some (dI (eqW T W S i)) := by
  have hb := sN_b i
  unfold q_Model_isWord
  rw [kL_98, if_pos (by omega), s_len hS hi, b1_s, gtN, h6]
  -- from the start: a flag, and it stays 0
  have stop : q_Model_isWord_22 E (kL c) i (k : Int) 0 0 z = some (.inr 0) := by
    unfold q_Model_isWord_22; rw [if_pos rfl]
  by_cases e : S = sN i
  · rw [if_pos (by omega)]
    unfold q_Model_isWord_j18
    have step : ∀ j, j < sN i → q_Model_isWord_22 E (kL c) i (k : Int) 1 (j : Int) z = some (.inl ((if T (W + j) = sC i j then 1 else 0), (j : Int) + 1)) := fun j hj => by
      unfold q_Model_isWord_22
      rw [if_neg (by omega), s_len hS hi, b1_s, if_neg (by omega), kL_97, if_pos (by omega), gtN, h5, kL_96, if_pos (by omega), s_char hS hi hj, b1_s, show ((W : Int) + (j : Int)).toNat = W + j by omega, hT _ (by omega)]
      by_cases x : T (W + j) = sC i j
      · rw [if_pos x, if_pos x, let_s]
      · rw [if_neg x, if_neg x, let_s]
    have main : zOk (gIter (fun y => q_Model_isWord_22 E (kL c) i (k : Int) y.1 y.2 z) gN (1, 0)) (fun v => v = dI (eqW T W S i)) := by
      refine it_for (fun (j : Nat) (t : Int) => (t, (j : Int))) (fun j t => (t = 1 ∧ ∀ j', j' < j → T (W + j') = sC i j') ∨ (t = 0 ∧ ¬ eqW T W S i)) 0 (sN i + 1) rfl (Or.inl ⟨rfl, fun j hj => by omega⟩) (by omega) (by omega) ?_ ?_
      · rintro j t - hj ht
        show zOk (q_Model_isWord_22 E (kL c) i (k : Int) t (j : Int) z) _
        rcases ht with ⟨rfl, h⟩ | ⟨rfl, h⟩
        · by_cases x : j < sN i
          · rw [step j x]
            refine ok_inl (Or.inl ⟨_, rfl, ?_⟩)
            by_cases y : T (W + j) = sC i j
            · refine Or.inl ⟨if_pos y, fun j' hj' => ?_⟩
              by_cases u : j' = j
              · rw [u]; exact y
              · exact h j' (by omega)
            · exact Or.inr ⟨if_neg y, fun u => y (u.2 j x)⟩
          · unfold q_Model_isWord_22
            rw [if_neg (by omega), s_len hS hi, b1_s, if_pos (by omega)]
            exact ok_inr (Or.inr ⟨1, rfl, (dI_t ⟨e, fun j' hj' => h j' (by omega)⟩).symm⟩)
        · unfold q_Model_isWord_22
          rw [if_pos rfl]
          exact ok_inr (Or.inr ⟨0, rfl, (dI_f h).symm⟩)
      · rintro t ht
        show zOk (q_Model_isWord_22 E (kL c) i (k : Int) t ((sN i + 1 : Nat) : Int) z) _
        unfold q_Model_isWord_22
        rcases ht with ⟨rfl, h⟩ | ⟨rfl, h⟩
        · rw [if_neg (by omega), s_len hS hi, b1_s, if_pos (by omega)]
          exact ok_inr ⟨1, rfl, (dI_t ⟨e, fun j' hj' => h j' (by omega)⟩).symm⟩
        · rw [if_pos rfl]
          exact ok_inr ⟨0, rfl, (dI_f h).symm⟩
    rw [ok_is main, b1_s]
    by_cases x : eqW T W S i
    · rw [dI_t x, if_pos (by omega)]
    · rw [dI_f x, if_pos (by omega)]
  · rw [if_neg (by omega)]
    unfold q_Model_isWord_j18
    have : gIter (fun y => q_Model_isWord_22 E (kL c) i (k : Int) y.1 y.2 z) gN (0, 0) = some 0 := it_run (fun _ => ((0 : Int), (0 : Int))) 0 rfl (fun i hi => by omega) stop (by omega)
    rw [this, b1_s, if_pos (by omega), dI_f fun x => e x.1]
end
end
-- H4
section
variable {E : gEv} {c : gCf}
/-- the letters from a on, l of them, are those from f on, s of them -/
def smW (T : Nat → Int) (a l f s : Nat) : Prop := l = s ∧ ∀ j, j < l → T (a + j) = T (f + j)
section
variable {z : gZ} {T : Nat → Int} {n : Nat}
theorem s_isSame {a l f t : Nat} (hn : n ≤ 4000) (h5 : z.1 10 5 = f) (h6 : z.1 10 6 = t) (hft : f ≤ t) (ht : t ≤ n) (ha : a + l ≤ n) (hT : ∀ j, j < n → z.1 11 j = T j) : q_Text_isSame E (kL c) (a : Int) (l : Int) z = some (dI (smW T a l f (t - f))) := by
  unfold q_Text_isSame
  rw [h5, h6, if_pos (by omega)]
  by_cases e : l = t - f
  · rw [if_pos (by omega)]
    have F := it_find (f := fun y => q_Text_isSame_17 E (kL c) (a : Int) (l : Int) y z) (fun j => T (a + j) ≠ T (f + j)) (fun _ => Sum.inl ()) 0 l (e := Sum.inr ()) (s := 0) rfl (by omega) (by omega) (fun j _ hj hp => by
        show q_Text_isSame_17 E (kL c) (a : Int) (l : Int) (j : Int) z = _
        unfold q_Text_isSame_17
        rw [if_neg (by omega), h5, kL_11, if_pos (by omega), if_pos (by omega), show ((f : Int) + (j : Int)).toNat = f + j by omega, show ((a : Int) + (j : Int)).toNat = a + j by omega, hT _ (by omega), hT _ (by omega), if_pos (Classical.not_not.1 hp), let_s]) (fun j _ hj hp => by
        show q_Text_isSame_17 E (kL c) (a : Int) (l : Int) (j : Int) z = _
        unfold q_Text_isSame_17
        rw [if_neg (by omega), h5, kL_11, if_pos (by omega), if_pos (by omega), show ((f : Int) + (j : Int)).toNat = f + j by omega, show ((a : Int) + (j : Int)).toNat = a + j by omega, hT _ (by omega), hT _ (by omega), if_neg hp]) (by
        show q_Text_isSame_17 E (kL c) (a : Int) (l : Int) (l : Int) z = _
        unfold q_Text_isSame_17
        rw [if_pos (by omega)])
    rcases F with ⟨j, -, j1, j2, -, j3⟩ | ⟨j1, j2⟩
    · rw [j3, b1_s, gs_l, dI_f]
      exact fun x => j2 (x.2 j j1)
    · rw [j2, b1_s, gs_r, dI_t]
      exact ⟨e, fun j hj => Classical.not_not.1 (j1 j (by omega) hj)⟩
  · rw [if_neg (by omega), dI_f fun x => e x.1]
theorem s_hasDot {f t : Nat} (hn : n ≤ 4000) (h5 : z.1 10 5 = f) (h6 : z.1 10 6 = t) (hft : f < t) (ht : t ≤ n) (hT : ∀ j, j < n → z.1 11 j = T j) : q_Text_hasDot E (kL c) z = some (if T f = 46 then 1 else 0) := by
  unfold q_Text_hasDot
  rw [h5, h6, if_neg (by omega), kL_11, if_pos (by omega), gtN, hT f (by omega)]
  by_cases e : T f = 46
  · rw [if_pos e, if_pos e]
  · rw [if_neg e, if_neg e]
/-- what a word is, as a name -/
abbrev NmO : Type := Nat ⊕ Option Nat
abbrev NmO.bad (k : Nat) : NmO := Sum.inl k
abbrev NmO.old (i : Nat) : NmO := Sum.inr (some i)
abbrev NmO.new : NmO := Sum.inr none
theorem NmO_cases {motive : NmO → Prop} (bad : ∀ k, motive (NmO.bad k)) (old : ∀ i, motive (NmO.old i)) (new : motive NmO.new) (x : NmO) : motive x := by
  rcases x with k | _ | i
  · exact bad k
  · exact new
  · exact old i
def nmQ (T : Nat → Int) (nm : Nat) (A B : Nat → Nat) (f s : Nat) : NmO → Prop
  | .inl k => (T f = 46 ∧ k = 1) ∨ (T f ≠ 46 ∧ k = 2 ∧ (12 < s ∨ (s ≤ 12 ∧ nm = 150 ∧ ∀ i, i < nm → ¬ smW T (A i) (B i) f s)))
  | .inr (some i) => T f ≠ 46 ∧ s ≤ 12 ∧ i < nm ∧ smW T (A i) (B i) f s ∧ ∀ j, j < i → ¬ smW T (A j) (B j) f s
  | .inr none => T f ≠ 46 ∧ s ≤ 12 ∧ nm < 150 ∧ ∀ i, i < nm → ¬ smW T (A i) (B i) f s
/-- what looking a name up makes of each side's state -/
def tkC (z : gZ) (nm f s : Nat) : NmO → Int × gZ
  | .inl k => (-1, zPut (zPut z 22 14 k) 22 15 f)
  | .inr (some i) => ((i : Int), z)
  | .inr none => ((nm : Int), zPut (zPut (zPut z 23 nm f) 24 nm (s : Int)) 22 10 ((nm : Int) + 1))
def tkM (z : gZ) (nm f s : Nat) : NmO → Int × gZ
  | .inl k => (0, zPut (zPut z 94 17 k) 94 18 f)
  | .inr (some i) => ((i : Int), z)
  | .inr none => ((nm : Int), zPut (zPut (zPut (zPut (zPut z 99 nm f) 100 nm s) 101 nm 0) 103 nm (-1)) 94 23 ((nm : Int) + 1))
theorem nm_ex (T : Nat → Int) {nm : Nat} (A B : Nat → Nat) (f s : Nat) (h : nm ≤ 150) : ∃ x, nmQ T nm A B f s x := by
  by_cases e : T f = 46
  · exact ⟨NmO.bad 1, Or.inl ⟨e, rfl⟩⟩
  by_cases e2 : 12 < s
  · exact ⟨NmO.bad 2, Or.inr ⟨e, rfl, Or.inl e2⟩⟩
  have key : ∀ m, m ≤ nm → (∀ i, i < m → ¬ smW T (A i) (B i) f s) ∨ ∃ i, i < m ∧ smW T (A i) (B i) f s ∧ ∀ j, j < i → ¬ smW T (A j) (B j) f s := by
    intro m
    induction m with
    | zero => intro _; exact Or.inl fun i hi => by omega
    | succ m ih =>
      intro hm
      rcases ih (by omega) with h | ⟨i, a, b⟩
      · by_cases x : smW T (A m) (B m) f s
        · exact Or.inr ⟨m, by omega, x, h⟩
        · refine Or.inl fun i hi => ?_
          by_cases y : i = m
          · rw [y]; exact x
          · exact h i (by omega)
      · exact Or.inr ⟨i, by omega, b⟩
  rcases key nm (Nat.le_refl _) with h' | ⟨i, a, b, d⟩
  · by_cases x : nm = 150
    · exact ⟨NmO.bad 2, Or.inr ⟨e, rfl, Or.inr ⟨by omega, x, h'⟩⟩⟩
    · exact ⟨NmO.new, e, by omega, by omega, h'⟩
  · exact ⟨NmO.old i, e, by omega, a, b, d⟩
/-- the class looks a name up -/
theorem s_takeName {nm f t : Nat} {A B : Nat → Nat} {x : NmO} (hn : n ≤ 4000) (hnm : nm ≤ 150) (h10 : z.1 22 10 = nm) (h5 : z.1 10 5 = f) (h6 : z.1 10 6 = t) (hft : f < t) (ht : t ≤ n) (hT : ∀ j, j < n → z.1 11 j = T j) (hA : ∀ i, i < nm → z.1 23 i = A i ∧ z.1 24 i = B i ∧ A i + B i ≤ n) (hx : nmQ T nm A B f (t - f) x) : q_Reader_takeName E (kL c) z = some (tkC z nm f (t - f) x) := by
  unfold q_Reader_takeName
  rw [s_hasDot hn h5 h6 hft ht hT, b1_s]
  have ref : ∀ (k : Int), q_Reader_refuse E (kL c) k (z.1 10 5) z = some (zPut (zPut z 22 14 k) 22 15 f) := fun k => by
    unfold q_Reader_refuse
    rw [let_s, let_s, h5]
  have ref' : ∀ (k : Int), q_Reader_refuse E (kL c) k (f : Int) z = some (zPut (zPut z 22 14 k) 22 15 f) := fun k => by rw [← h5]; rw [ref, h5]
  -- the search
  have F := it_find (f := fun y => q_Reader_takeName_62 E (kL c) ((t : Int) - (f : Int)) y z) (fun i => smW T (A i) (B i) f (t - f)) (fun i => Sum.inl (i : Int)) 0 nm (e := Sum.inr ()) (s := 0) rfl (by omega) (by omega) (fun i _ hi hp => by
        obtain ⟨a1, a2, a3⟩ := hA i hi
        show q_Reader_takeName_62 E (kL c) ((t : Int) - (f : Int)) (i : Int) z = _
        unfold q_Reader_takeName_62
        rw [h10, if_neg (by omega), kL_23, if_pos (by omega), kL_24, if_pos (by omega), gtN, a1, a2, s_isSame hn h5 h6 (by omega) ht a3 hT, b1_s, dI_f hp, if_pos rfl, let_s]) (fun i _ hi hp => by
        obtain ⟨a1, a2, a3⟩ := hA i hi
        show q_Reader_takeName_62 E (kL c) ((t : Int) - (f : Int)) (i : Int) z = _
        unfold q_Reader_takeName_62
        rw [h10, if_neg (by omega), kL_23, if_pos (by omega), kL_24, if_pos (by omega), gtN, a1, a2, s_isSame hn h5 h6 (by omega) ht a3 hT, b1_s, dI_t hp, if_neg (by omega)]) (by
        show q_Reader_takeName_62 E (kL c) ((t : Int) - (f : Int)) (nm : Int) z = _
        unfold q_Reader_takeName_62
        rw [h10, if_pos (by omega)])
  cases x using NmO_cases with
  | bad k =>
    rcases hx with ⟨a, b⟩ | ⟨a, b, d⟩
    · subst b; rw [if_pos a, if_neg (by omega), ref, b1_s]; rfl
    · subst b
      rw [if_neg a, if_pos rfl, h6, show z.1 10 5 = f from h5, if_pos (by omega), let_s]
      rcases d with d | ⟨d1, d2, d3⟩
      · rw [if_neg (by omega), ref', b1_s]; rfl
      · rcases F with ⟨i, -, i1, i2, -⟩ | ⟨-, j2⟩
        · exact absurd i2 (d3 i i1)
        · rw [if_pos (by omega), j2, b1_s, gs_r, h10, if_neg (by omega), ref', b1_s]; rfl
  | old i =>
    obtain ⟨a1, a2, a3, a4, a5⟩ := hx
    rw [if_neg a1, if_pos rfl, h5, h6, if_pos (by omega), let_s, if_pos (by omega)]
    rcases F with ⟨j, -, i1, i2, i3, i4⟩ | ⟨j1, -⟩
    · have : j = i := by
        rcases Nat.lt_trichotomy i j with y | y | y
        · exact absurd a4 (i3 i (by omega) y)
        · exact y.symm
        · exact absurd i2 (a5 j y)
      subst this
      rw [i4, b1_s, gs_l]; rfl
    · exact absurd a4 (j1 i (by omega) a3)
  | new =>
    obtain ⟨a1, a2, a3, a4⟩ := hx
    rw [if_neg a1, if_pos rfl, h5, h6, if_pos (by omega), let_s, if_pos (by omega)]
    rcases F with ⟨i, -, i1, i2, -⟩ | ⟨-, j2⟩
    · exact absurd i2 (a4 i i1)
    · rw [j2, b1_s, gs_r, h10, if_pos (by omega), kL_23, if_pos (by omega), let_s, gtN, show (zPut z 23 nm (f : Int)).1 22 10 = nm from h10, kL_24, if_pos (by omega), let_s, gtN, show (zPut (zPut z 23 nm (f : Int)) 24 nm ((t : Int) - (f : Int))).1 22 10 = nm from h10, if_pos (by omega), let_s, show (t : Int) - (f : Int) = ((t - f : Nat) : Int) by omega]; rfl
theorem s_fail {k v : Int} (h : z.1 94 17 = 0) : q_Model_fail E (kL c) k v z = some (zPut (zPut z 94 17 k) 94 18 v) := by
  unfold q_Model_fail
  rw [if_pos h, let_s, let_s]
/-- the reference looks a name up -/
theorem s_name {nm k f s : Nat} {A B : Nat → Nat} {x : NmO} {m : Nat} (hn : n ≤ 4000) (hnm : nm ≤ 150) (h17 : z.1 94 17 = 0) (h23 : z.1 94 23 = nm) (h19 : z.1 94 19 = m) (hk : k < m) (hm : m ≤ 2100) (h7 : z.1 97 k = f) (h8 : z.1 98 k = s) (hs : 0 < s) (ht : f + s ≤ n) (hT : ∀ j, j < n → z.1 96 j = T j) (hA : ∀ i, i < nm → z.1 99 i = A i ∧ z.1 100 i = B i ∧ A i + B i ≤ n) (hx : nmQ T nm A B f s x) : q_Model_name E (kL c) (k : Int) z = some (tkM z nm f s x) := by
  -- one name against the word
  have one : ∀ i, i < nm → ∀ y0 : Int, y0 = (if B i = s then 1 else 0) → gIter (fun y => q_Model_name_99 E (kL c) (f : Int) (s : Int) (i : Int) y.1 y.2 z) gN (y0, 0) = some (dI (smW T (A i) (B i) f s)) := fun i hi y0 hy => by
    obtain ⟨a1, a2, a3⟩ := hA i hi
    refine ok_is ?_
    refine it_for (fun (j : Nat) (t : Int) => (t, (j : Int))) (fun j t => (t = 1 ∧ B i = s ∧ ∀ j', j' < j → T (A i + j') = T (f + j')) ∨ (t = 0 ∧ ¬ smW T (A i) (B i) f s)) 0 (s + 1) rfl ?_ (by omega) (by omega) ?_ ?_
    · by_cases e : B i = s
      · rw [if_pos e] at hy
        exact Or.inl ⟨hy, e, fun j hj => by omega⟩
      · rw [if_neg e] at hy
        exact Or.inr ⟨hy, fun u => e u.1⟩
    · rintro j t - hj ht
      show zOk (q_Model_name_99 E (kL c) (f : Int) (s : Int) (i : Int) t (j : Int) z) _
      unfold q_Model_name_99
      rcases ht with ⟨rfl, h0, h⟩ | ⟨rfl, h⟩
      · rw [if_neg (by omega)]
        by_cases x : j < s
        · rw [if_neg (by omega), kL_99, if_pos (by omega), gtN, a1, kL_96, if_pos (by omega), if_pos (by omega), show ((A i : Int) + (j : Int)).toNat = A i + j by omega, show ((f : Int) + (j : Int)).toNat = f + j by omega, hT _ (by omega), hT _ (by omega)]
          refine ok_br (fun y => ?_) fun y => ?_
          · rw [ok_l]
            refine ok_inl (Or.inl ⟨1, rfl, Or.inl ⟨rfl, h0, fun j' hj' => ?_⟩⟩)
            by_cases u : j' = j
            · rw [u]; exact y
            · exact h j' (by omega)
          · rw [ok_l]
            exact ok_inl (Or.inl ⟨0, rfl, Or.inr ⟨rfl, fun u => y (u.2 j (by omega))⟩⟩)
        · rw [if_pos (by omega)]
          exact ok_inr (Or.inr ⟨1, rfl, (dI_t ⟨h0, fun j' hj' => h j' (by omega)⟩).symm⟩)
      · rw [if_pos rfl]
        exact ok_inr (Or.inr ⟨0, rfl, (dI_f h).symm⟩)
    · rintro t ht
      show zOk (q_Model_name_99 E (kL c) (f : Int) (s : Int) (i : Int) t ((s + 1 : Nat) : Int) z) _
      unfold q_Model_name_99
      rcases ht with ⟨rfl, h0, h⟩ | ⟨rfl, h⟩
      · rw [if_neg (by omega), if_pos (by omega)]
        exact ok_inr ⟨1, rfl, (dI_t ⟨h0, fun j' hj' => h j' (by omega)⟩).symm⟩
      · rw [if_pos rfl]
        exact ok_inr ⟨0, rfl, (dI_f h).symm⟩
  have st : ∀ i, i < nm → q_Model_name_69 E (kL c) (f : Int) (s : Int) (i : Int) z = q_Model_name_j150_69 E (kL c) (f : Int) (s : Int) (i : Int) (dI (smW T (A i) (B i) f s)) z := fun i hi => by
    obtain ⟨a1, a2, a3⟩ := hA i hi
    unfold q_Model_name_69
    rw [h23, if_neg (by omega), kL_100, if_pos (by omega), gtN, a2]
    unfold q_Model_name_j94_69
    by_cases e : B i = s
    · rw [if_pos (by omega), one i hi 1 (by rw [if_pos e]), b1_s]
    · rw [if_neg (by omega), one i hi 0 (by rw [if_neg e]), b1_s]
  have F := it_find (f := fun y => q_Model_name_69 E (kL c) (f : Int) (s : Int) y z) (fun i => smW T (A i) (B i) f s) (fun i => Sum.inl (i : Int)) 0 nm (e := Sum.inr ()) (s := 0) rfl (by omega) (by omega) (fun i _ hi hp => by
        show q_Model_name_69 E (kL c) (f : Int) (s : Int) (i : Int) z = _
        rw [st i hi, dI_f hp]
        unfold q_Model_name_j150_69
        rw [if_pos rfl, if_pos (by omega), let_s]) (fun i _ hi hp => by
        show q_Model_name_69 E (kL c) (f : Int) (s : Int) (i : Int) z = _
        rw [st i hi, dI_t hp]
        unfold q_Model_name_j150_69
        rw [if_neg (by omega)]) (by
        show q_Model_name_69 E (kL c) (f : Int) (s : Int) (nm : Int) z = _
        unfold q_Model_name_69
        rw [h23, if_pos (by omega)])
  unfold q_Model_name
  rw [h19, if_pos (by omega), kL_97, if_pos (by omega), let_s, kL_98, if_pos (by omega), let_s, gtN, h7, h8, kL_96, if_pos (by omega), gtN, hT f (by omega)]
  cases x using NmO_cases with
  | bad k =>
    rcases hx with ⟨a, b⟩ | ⟨a, b, d⟩
    · subst b; rw [if_pos a, s_fail h17, b1_s]; rfl
    · subst b
      rw [if_neg a]
      rcases d with d | ⟨d1, d2, d3⟩
      · rw [if_neg (by omega), s_fail h17, b1_s]; rfl
      · rcases F with ⟨i, -, i1, i2, -⟩ | ⟨-, j2⟩
        · exact absurd i2 (d3 i i1)
        · rw [if_pos (by omega), j2, b1_s, gs_r, h23, if_pos (by omega), s_fail h17, b1_s]; rfl
  | old i =>
    obtain ⟨a1, a2, a3, a4, a5⟩ := hx
    rw [if_neg a1, if_pos (by omega)]
    rcases F with ⟨j, -, i1, i2, i3, i4⟩ | ⟨j1, -⟩
    · have : j = i := by
        rcases Nat.lt_trichotomy i j with y | y | y
        · exact absurd a4 (i3 i (by omega) y)
        · exact y.symm
        · exact absurd i2 (a5 j y)
      subst this
      rw [i4, b1_s, gs_l]; rfl
    · exact absurd a4 (j1 i (by omega) a3)
  | new =>
    obtain ⟨a1, a2, a3, a4⟩ := hx
    rw [if_neg a1, if_pos (by omega)]
    rcases F with ⟨i, -, i1, i2, -⟩ | ⟨-, j2⟩
    · exact absurd i2 (a4 i i1)
    · rw [j2, b1_s, gs_r, h23, if_neg (by omega), kL_99, if_pos (by omega), let_s, gtN, show (zPut z 99 nm (f : Int)).1 94 23 = nm from h23, kL_100, if_pos (by omega), let_s, gtN, show (zPut (zPut z 99 nm (f : Int)) 100 nm (s : Int)).1 94 23 = nm from h23, kL_101, if_pos (by omega), let_s, gtN, show (zPut (zPut (zPut z 99 nm (f : Int)) 100 nm (s : Int)) 101 nm 0).1 94 23 = nm from h23, kL_103, if_pos (by omega), let_s, gtN, show (zPut (zPut (zPut (zPut z 99 nm (f : Int)) 100 nm (s : Int)) 101 nm 0) 103 nm (-1)).1 94 23 = nm from h23, if_pos (by omega), let_s, zp_eq, if_pos (by omega), show (nm : Int) + 1 - 1 = (nm : Int) by omega]; rfl
theorem s_name0 {k m e : Nat} (h17 : z.1 94 17 = 0) (h19 : z.1 94 19 = m) (hk : m ≤ k) (h20 : z.1 94 20 = e) : q_Model_name E (kL c) (k : Int) z = some (0, zPut (zPut z 94 17 1) 94 18 e) := by
  unfold q_Model_name
  rw [h19, if_neg (by omega), s_fail h17, b1_s, h20]
end
end
