set_option linter.unusedVariables false
-- D1
section
variable {E : gEv} {c : gCf}
/-- the level of a source: x of inputs, y of latches, v of look-up tables -/
def lev (x y v : Nat → Int) (s : Int) : Int := if s = -1 then 0 else if s < 200 then x s.toNat else if s < 400 then y (s - 200).toNat else v (s - 400).toNat
/-- the levels of the first n look-up tables -/
def evT (pin tab x y : Nat → Int) : Nat → Nat → Int
  | 0, _ => 0
  | n + 1, l => if l = n then zAnd (zUshr (tab n) (nb (fun p => lev x y (evT pin tab x y n) (pin (n * 4 + p))) 0 4)) 1 else evT pin tab x y n l
/-- a source: input, latch, or one of the first n look-up tables -/
def srcO (nI nL n : Nat) (s : Int) : Prop := (0 ≤ s ∧ s < nI) ∨ (200 ≤ s ∧ s < 200 + nL) ∨ (400 ≤ s ∧ s < 400 + n)
def okS (nI nL n : Nat) (s : Int) : Prop := s = -1 ∨ srcO nI nL n s
def b1s (x : Nat → Int) (n : Nat) : Prop := ∀ i, i < n → b01 (x i)
section
variable {pin tab x y pin' tab' x' y' : Nat → Int} {nI nL : Nat}
theorem evT_st : ∀ (d n l : Nat), l < n → evT pin tab x y (n + d) l = evT pin tab x y n l := by
  intro d
  induction d with
  | zero => intro n l h; rfl
  | succ d ih =>
    intro n l h
    rw [show n + (d + 1) = n + d + 1 by omega, evT, if_neg (by omega)]
    exact ih n l h
theorem evT_le {n m l : Nat} (h : l < n) (hm : n ≤ m) : evT pin tab x y m l = evT pin tab x y n l := by
  have := evT_st (pin := pin) (tab := tab) (x := x) (y := y) (m - n) n l h
  rwa [show n + (m - n) = m by omega] at this
theorem bit01 (a b : Int) : b01 (zAnd (zUshr a b) 1) := by
  have h1 : zAnd (zUshr a b) 1 = (((Int32.ofInt (zUshr a b)).toBitVec &&& 1#32).toNat : Int) := by
    have h2 : ((Int32.ofInt (zUshr a b)).toBitVec &&& 1#32).toNat ≤ 1 := by
      rw [BitVec.toNat_and]; exact Nat.and_le_right
    rw [← n_toI _ (by omega)]; rfl
  have h2 : ((Int32.ofInt (zUshr a b)).toBitVec &&& 1#32).toNat ≤ 1 := by
    rw [BitVec.toNat_and]; exact Nat.and_le_right
  unfold b01
  omega
theorem evT_b (n l : Nat) : b01 (evT pin tab x y n l) := by
  induction n with
  | zero => exact Or.inl rfl
  | succ n ih =>
    rw [evT]
    split
    · exact bit01 _ _
    · exact ih
theorem lev_n (v : Nat → Int) : lev x y v (-1) = 0 := by unfold lev; rw [if_pos rfl]
theorem lev_i {v : Nat → Int} {s : Int} (h : 0 ≤ s ∧ s < 200) : lev x y v s = x s.toNat := by unfold lev; rw [if_neg (by omega), if_pos (by omega)]
theorem lev_l {v : Nat → Int} {s : Int} (h : 200 ≤ s ∧ s < 400) : lev x y v s = y (s - 200).toNat := by unfold lev; rw [if_neg (by omega), if_neg (by omega), if_pos (by omega)]
theorem lev_u {v : Nat → Int} {s : Int} (h : 400 ≤ s) : lev x y v s = v (s - 400).toNat := by unfold lev; rw [if_neg (by omega), if_neg (by omega), if_neg (by omega)]
theorem lev_b {v : Nat → Int} {s : Int} {n : Nat} (hI : nI ≤ 200) (hL : nL ≤ 200) (hx : b1s x nI) (hy : b1s y nL) (hv : b1s v n) (h : okS nI nL n s) : b01 (lev x y v s) := by
  rcases h with h | h | h | h
  · rw [h, lev_n]; exact Or.inl rfl
  · rw [lev_i (by omega)]; exact hx _ (by omega)
  · rw [lev_l (by omega)]; exact hy _ (by omega)
  · rw [lev_u (by omega)]; exact hv _ (by omega)
theorem lev_c {v v' : Nat → Int} {s : Int} {n : Nat} (hI : nI ≤ 200) (hL : nL ≤ 200) (hx : ∀ i, i < nI → x i = x' i) (hy : ∀ i, i < nL → y i = y' i) (hv : ∀ i, i < n → v i = v' i) (h : okS nI nL n s) : lev x y v s = lev x' y' v' s := by
  rcases h with h | h | h | h
  · rw [h, lev_n, lev_n]
  · rw [lev_i (by omega), lev_i (by omega)]; exact hx _ (by omega)
  · rw [lev_l (by omega), lev_l (by omega)]; exact hy _ (by omega)
  · rw [lev_u (by omega), lev_u (by omega)]; exact hv _ (by omega)
theorem okS_m {n m : Nat} {s : Int} (h : okS nI nL n s) (hm : n ≤ m) : okS nI nL m s := by
  unfold okS srcO at *; omega
theorem srcO_m {n m : Nat} {s : Int} (h : srcO nI nL n s) (hm : n ≤ m) : srcO nI nL m s := by
  unfold srcO at *; omega
/-- pins of the first n tables are of lower ones -/
def pinO (nI nL n : Nat) (pin : Nat → Int) : Prop := ∀ l p, l < n → p < 4 → okS nI nL l (pin (l * 4 + p))
theorem evT_c {n : Nat} (hI : nI ≤ 200) (hL : nL ≤ 200) (hx : ∀ i, i < nI → x i = x' i) (hy : ∀ i, i < nL → y i = y' i) (hp : pinO nI nL n pin) (h1 : ∀ j, j < n * 4 → pin j = pin' j) (h2 : ∀ l, l < n → tab l = tab' l) : ∀ l, l < n → evT pin tab x y n l = evT pin' tab' x' y' n l := by
  induction n with
  | zero => intro l h; omega
  | succ n ih =>
    intro l h
    have ih := ih (fun l p a b => hp l p (by omega) b) (fun j hj => h1 j (by omega)) (fun l hl => h2 l (by omega))
    rw [evT, evT]
    by_cases e : l = n
    · rw [if_pos e, if_pos e, h2 n (by omega)]
      congr 2
      apply nb_c
      intro i hi
      show lev x y (evT pin tab x y n) (pin (n * 4 + (0 + i))) = lev x' y' (evT pin' tab' x' y' n) (pin' (n * 4 + (0 + i)))
      rw [← h1 _ (by omega)]
      exact lev_c hI hL hx hy ih (hp n _ (by omega) (by omega))
    · rw [if_neg e, if_neg e]
      exact ih l (by omega)
end
/-- what the class's circuit is, of nU tables, nL latches, nI inputs -/
abbrev CK (c : gCf) (nU nL nI : Nat) (z : gZ) : Prop := ∃ _ : (z.1 30 10 = nU), ∃ _ : (z.1 30 11 = nL), ∃ _ : (z.1 30 12 = nI), ∃ _ : (nU ≤ kP c), ∃ _ : (nL ≤ 150), ∃ _ : (nI ≤ kD c), ∃ _ : (pinO nI nL nU (z.1 35)), ∃ _ : (b1s (z.1 38) nI), (b1s (z.1 33) nL)
theorem CK.u {c : gCf} {nU nL nI : Nat} {z : gZ} (h : CK c nU nL nI z) : z.1 30 10 = nU := by obtain ⟨x, _⟩ := h; exact x
theorem CK.l {c : gCf} {nU nL nI : Nat} {z : gZ} (h : CK c nU nL nI z) : z.1 30 11 = nL := by obtain ⟨_, x, _⟩ := h; exact x
theorem CK.i {c : gCf} {nU nL nI : Nat} {z : gZ} (h : CK c nU nL nI z) : z.1 30 12 = nI := by obtain ⟨_, _, x, _⟩ := h; exact x
theorem CK.ub {c : gCf} {nU nL nI : Nat} {z : gZ} (h : CK c nU nL nI z) : nU ≤ kP c := by obtain ⟨_, _, _, x, _⟩ := h; exact x
theorem CK.lb {c : gCf} {nU nL nI : Nat} {z : gZ} (h : CK c nU nL nI z) : nL ≤ 150 := by obtain ⟨_, _, _, _, x, _⟩ := h; exact x
theorem CK.ib {c : gCf} {nU nL nI : Nat} {z : gZ} (h : CK c nU nL nI z) : nI ≤ kD c := by obtain ⟨_, _, _, _, _, x, _⟩ := h; exact x
theorem CK.pin {c : gCf} {nU nL nI : Nat} {z : gZ} (h : CK c nU nL nI z) : pinO nI nL nU (z.1 35) := by obtain ⟨_, _, _, _, _, _, x, _⟩ := h; exact x
theorem CK.x {c : gCf} {nU nL nI : Nat} {z : gZ} (h : CK c nU nL nI z) : b1s (z.1 38) nI := by obtain ⟨_, _, _, _, _, _, _, x, _⟩ := h; exact x
theorem CK.y {c : gCf} {nU nL nI : Nat} {z : gZ} (h : CK c nU nL nI z) : b1s (z.1 33) nL := by obtain ⟨_, _, _, _, _, _, _, _, x⟩ := h; exact x
def evC (z : gZ) (n : Nat) : Nat → Int := evT (z.1 35) (z.1 36) (z.1 38) (z.1 33) n
/-- tables are worked out, if they are called fresh -/
def frC (nU : Nat) (z : gZ) : Prop := z.1 30 15 = 0 ∨ (z.1 30 15 = 1 ∧ ∀ l, l < nU → z.1 37 l = evC z nU l)
theorem s_levelOf {z : gZ} {nU nL nI n : Nat} {s : Int} (hk : kOk c) (h : CK c nU nL nI z) (hn : n ≤ nU) (hs : srcO nI nL n s) : q_Circuit_levelOf E (kL c) s z = some (lev (z.1 38) (z.1 33) (z.1 37) s) := by
  have hP := kP_b hk
  have hD := kD_b hk
  have b1 := h.ub
  have b2 := h.lb
  have b3 := h.ib
  unfold q_Circuit_levelOf
  rw [kL_37, kL_38, kL_33]
  rcases hs with hs | hs | hs
  · rw [if_neg (by omega), if_pos (by omega), lev_i (by omega)]
  · rw [if_pos (by omega), if_neg (by omega), if_pos (by omega), lev_l (by omega)]
  · rw [if_pos (by omega), if_pos (by omega), if_pos (by omega), lev_u (by omega)]
theorem zOr_z (a : Nat) (h : a < 2147483648) : zOr (a : Int) 0 = a := by
  have := zOr_n a 0 h (by omega)
  rw [Nat.or_zero] at this; exact this
theorem s_refresh {z : gZ} {nU nL nI : Nat} (hk : kOk c) (h : CK c nU nL nI z) (hf : frC nU z) : zOk (q_Circuit_refresh E (kL c) z) (fun s => zOff (fun k j => k = 37 ∨ (k = 30 ∧ j = 15)) z s ∧ s.1 30 15 = 1 ∧ ∀ l, l < nU → s.1 37 l = evC z nU l) := by
  have hP := kP_b hk
  have hD := kD_b hk
  have b1 := h.ub
  have b2 := h.lb
  have b3 := h.ib
  unfold q_Circuit_refresh
  refine ok_br (fun e => ?_) (fun e => ?_)
  · refine ok_ll ?_
    refine ok_b1 (fun s => zOff (fun k j => k = 37 ∨ (k = 30 ∧ j = 15)) z s ∧ s.1 30 15 = 1 ∧ ∀ l, l < nU → s.1 37 l = evC z nU l) ?_ fun s hs => ok_so hs
    refine it_for (fun (i : Nat) (t : gZ) => ((i : Int), t)) (fun i t => zOff (fun k j => k = 37 ∨ (k = 30 ∧ j = 15)) z t ∧ t.1 30 15 = 1 ∧ ∀ l, l < i → t.1 37 l = evC z nU l) 0 nU rfl ⟨off_put (by omega), by (simp only [zp1, zr1, zf1, Nat.reduceEqDiff, Nat.reduceBEq, reduceIte, if_true, if_false, and_true, true_and, and_false, false_and, gtN]), fun l hl => by omega⟩ (by omega) (by omega) ?_ ?_
    · intro i t _ hi ⟨o, o15, ht⟩
      have e35 : t.1 35 = z.1 35 := funext fun j => o.2 35 j (by omega)
      have e38 : t.1 38 = z.1 38 := funext fun j => o.2 38 j (by omega)
      have e33 : t.1 33 = z.1 33 := funext fun j => o.2 33 j (by omega)
      have e36 : t.1 36 = z.1 36 := funext fun j => o.2 36 j (by omega)
      have e30 : ∀ j, j ≠ 15 → t.1 30 j = z.1 30 j := fun j hj => o.2 30 j (by omega)
      have ht' : CK c nU nL nI t := ⟨by rw [e30 10 (by decide)]; exact h.u, by rw [e30 11 (by decide)]; exact h.l, by rw [e30 12 (by decide)]; exact h.i, h.ub, h.lb, h.ib, by rw [e35]; exact h.pin, by rw [e38]; exact h.x, by rw [e33]; exact h.y⟩
      have hu := ht'.u
      have hv : b1s (t.1 37) i := fun l hl => by rw [ht l hl]; exact evT_b _ _
      let f : Nat → Int := fun p => lev (z.1 38) (z.1 33) (evC z i) (z.1 35 (i * 4 + p))
      have hb : ∀ p, p < 4 → b01 (f p) := fun p hp => lev_b (by omega) (by omega) h.x h.y (fun l hl => evT_b _ _) (h.pin i p (by omega) hp)
      show zOk (q_Circuit_refresh_15 E (kL c) (i : Int) t) _
      unfold q_Circuit_refresh_15
      (refine ok_neg (by omega) ?_)
      have key : gIter (fun y => q_Circuit_refresh_27 E (kL c) (i : Int) y.1 y.2 t) gN (0, 0) = some (nb f 0 4) := by
        refine it_acc (fun (p : Nat) (v : Int) => (v, (p : Int))) (fun p => nb f 0 p) 0 4 rfl (by omega) (by omega) ?_ ?_
        · intro p _ hp
          show q_Circuit_refresh_27 E (kL c) (i : Int) (nb f 0 p) (p : Int) t = _
          unfold q_Circuit_refresh_27
          rw [kL_35, if_neg (by omega), if_pos (by omega), let_s, show ((i : Int) * 4 + (p : Int)).toNat = i * 4 + p by omega, e35]
          have hok := h.pin i p (by omega) hp
          obtain ⟨m, m1, m2, -⟩ := nb_n (b := f) (a := 0) (n := p) (by omega) fun j hj => by rw [Nat.zero_add]; exact hb j (by omega)
          have m3 : (2 : Nat) ^ p ≤ 2 ^ 4 := Nat.pow_le_pow_right (by decide) (by omega)
          by_cases e1 : z.1 35 (i * 4 + p) = -1
          · rw [if_pos e1, let_s]
            rw [nb, Nat.zero_add]
            show _ = some (Sum.inl (zOr (nb f 0 p) (zShl (lev (z.1 38) (z.1 33) (evC z i) (z.1 35 (i * 4 + p))) (p : Int)), _))
            rw [e1, lev_n, zShl_0 p (by omega), m2, zOr_z m (by omega)]
            rfl
          · have hs : srcO nI nL i (z.1 35 (i * 4 + p)) := by
              rcases hok with g | g
              · exact absurd g e1
              · exact g
            rw [if_neg e1, s_levelOf hk ht' (by omega) hs, b1_s, let_s, let_s, nb, Nat.zero_add]
            show some (Sum.inl (zOr (nb f 0 p) (zShl (lev (t.1 38) (t.1 33) (t.1 37) (z.1 35 (i * 4 + p))) (p : Int)), (p : Int) + 1)) = some (Sum.inl (zOr (nb f 0 p) (zShl (lev (z.1 38) (z.1 33) (evC z i) (z.1 35 (i * 4 + p))) (p : Int)), _))
            rw [e38, e33, lev_c (x := z.1 38) (y := z.1 33) (v := t.1 37) (v' := evC z i) (by omega) (by omega) (fun _ _ => rfl) (fun _ _ => rfl) (fun l hl => by rw [ht l hl]; exact evT_le hl (by omega)) hok]
            rfl
        · show q_Circuit_refresh_27 E (kL c) (i : Int) (nb f 0 4) (4 : Int) t = _
          unfold q_Circuit_refresh_27
          rw [if_pos (by omega)]
      refine ok_v1 key ?_
      rw [kL_36, kL_37]
      (refine ok_gd (by omega) ?_); (refine ok_gd (by omega) ?_); (refine ok_ll ?_); (refine ok_ll ?_)
      refine ok_inl (Or.inl ⟨_, rfl, off_t o (off_put (Or.inl rfl)), ?_, fun l hl => ?_⟩)
      · (simp only [zp1, zr1, zf1, Nat.reduceEqDiff, Nat.reduceBEq, reduceIte, if_true, if_false, and_true, true_and, and_false, false_and, gtN]); exact o15
      · (simp only [zp1, zr1, zf1, Nat.reduceEqDiff, Nat.reduceBEq, reduceIte, if_true, if_false, and_true, true_and, and_false, false_and, gtN])
        by_cases e1 : l = i
        · rw [if_pos e1, e36, e1]
          show _ = evT _ _ _ _ nU i
          rw [evT_le (n := i + 1) (by omega) (by omega), evT, if_pos rfl]
          rfl
        · rw [if_neg e1]; exact ht l (by omega)
    · intro t ⟨o, o15, ht⟩
      have hu : t.1 30 10 = nU := by rw [o.2 30 10 (by omega)]; exact h.u
      show zOk (q_Circuit_refresh_15 E (kL c) (nU : Int) t) _
      unfold q_Circuit_refresh_15
      (refine ok_pos (by omega) ?_)
      exact ok_inr ⟨_, rfl, o, o15, ht⟩
  · rcases hf with g | ⟨g1, g2⟩
    · exact absurd g e
    · exact ok_so ⟨off_r, g1, g2⟩
end
-- D2
section
variable {E : gEv} {c : gCf}
/-- one clock of the latches y, whose sources are ls -/
def stp (pin tab x ls : Nat → Int) (n : Nat) (y : Nat → Int) : Nat → Int := fun j => lev x y (evT pin tab x y n) (ls j)
def stN (pin tab x ls : Nat → Int) (n : Nat) (y : Nat → Int) : Nat → Nat → Int
  | 0 => y
  | k + 1 => stp pin tab x ls n (stN pin tab x ls n y k)
def lsO (nI nL nU : Nat) (ls : Nat → Int) : Prop := ∀ j, j < nL → srcO nI nL nU (ls j)
section
variable {pin tab x ls y y' pin' tab' x' ls' : Nat → Int} {nI nL n : Nat}
theorem stp_c (hI : nI ≤ 200) (hL : nL ≤ 200) (hp : pinO nI nL n pin) (h1 : ∀ j, j < n * 4 → pin j = pin' j) (h2 : ∀ l, l < n → tab l = tab' l) (hx : ∀ i, i < nI → x i = x' i) (hs : lsO nI nL n ls) (hls : ∀ j, j < nL → ls j = ls' j) (hy : ∀ j, j < nL → y j = y' j) (j : Nat) (hj : j < nL) : stp pin tab x ls n y j = stp pin' tab' x' ls' n y' j := by
  unfold stp
  rw [← hls j hj]
  exact lev_c hI hL hx hy (evT_c hI hL hx hy hp h1 h2) (Or.inr (hs j hj))
theorem stN_c (hI : nI ≤ 200) (hL : nL ≤ 200) (hp : pinO nI nL n pin) (h1 : ∀ j, j < n * 4 → pin j = pin' j) (h2 : ∀ l, l < n → tab l = tab' l) (hx : ∀ i, i < nI → x i = x' i) (hs : lsO nI nL n ls) (hls : ∀ j, j < nL → ls j = ls' j) (hy : ∀ j, j < nL → y j = y' j) (k : Nat) : ∀ (j : Nat) (hj : j < nL), stN pin tab x ls n y k j = stN pin' tab' x' ls' n y' k j := by
  induction k with
  | zero => exact hy
  | succ k ih => exact fun j hj => stp_c hI hL hp h1 h2 hx hs hls ih j hj
theorem stN_s (hI : nI ≤ 200) (hL : nL ≤ 200) (hp : pinO nI nL n pin) (hs : lsO nI nL n ls) (h : ∀ j, j < nL → stp pin tab x ls n y j = y j) (k : Nat) : ∀ j, j < nL → stN pin tab x ls n y k j = y j := by
  induction k with
  | zero => exact fun _ _ => rfl
  | succ k ih =>
    intro j hj
    show stp pin tab x ls n (stN pin tab x ls n y k) j = y j
    rw [← h j hj]
    exact stp_c hI hL hp (fun _ _ => rfl) (fun _ _ => rfl) (fun _ _ => rfl) hs (fun _ _ => rfl) ih j hj
theorem stN_a (a b : Nat) : stN pin tab x ls n y (a + b) = stN pin tab x ls n (stN pin tab x ls n y a) b := by
  induction b with
  | zero => rfl
  | succ b ih => show stp pin tab x ls n (stN pin tab x ls n y (a + b)) = _; rw [ih]; rfl
end
def pRo (k j : Nat) : Prop := k = 37 ∨ k = 34 ∨ k = 33 ∨ (k = 30 ∧ j = 15)
theorem CK_o {P : Nat → Nat → Prop} {z s : gZ} {nU nL nI : Nat} (h : CK c nU nL nI z) (o : zOff P z s) (hP : ∀ k j, P k j → k ≠ 35 ∧ k ≠ 38 ∧ k ≠ 33 ∧ ¬ (k = 30 ∧ 10 ≤ j ∧ j ≤ 12)) : CK c nU nL nI s := by
  have e35 : s.1 35 = z.1 35 := funext fun j => o.2 35 j fun x => (hP _ _ x).1 rfl
  have e38 : s.1 38 = z.1 38 := funext fun j => o.2 38 j fun x => (hP _ _ x).2.1 rfl
  have e33 : s.1 33 = z.1 33 := funext fun j => o.2 33 j fun x => (hP _ _ x).2.2.1 rfl
  have e30 : ∀ j, 10 ≤ j ∧ j ≤ 12 → s.1 30 j = z.1 30 j := fun j hj => o.2 30 j fun x => (hP _ _ x).2.2.2 ⟨rfl, hj⟩
  exact ⟨by rw [e30 10 (by decide)]; exact h.u, by rw [e30 11 (by decide)]; exact h.l, by rw [e30 12 (by decide)]; exact h.i, h.ub, h.lb, h.ib, by rw [e35]; exact h.pin, by rw [e38]; exact h.x, by rw [e33]; exact h.y⟩
def nxC (z : gZ) (nU : Nat) : Nat → Int := stp (z.1 35) (z.1 36) (z.1 38) (z.1 31) nU (z.1 33)
theorem zOr_01 {a b : Int} (ha : b01 a) (hb : b01 b) : b01 (zOr a b) ∧ (zOr a b = 0 ↔ a = 0 ∧ b = 0) := by
  rcases ha with h | h <;> rcases hb with k | k <;> subst h <;> subst k <;> exact ⟨by unfold b01; decide, by decide⟩
theorem s_runOnce {z : gZ} {nU nL nI : Nat} (hk : kOk c) (h : CK c nU nL nI z) (hf : frC nU z) (hs : lsO nI nL nU (z.1 31)) : zOk (q_Circuit_runOnce E (kL c) z) (fun r => zOff pRo z r.2 ∧ CK c nU nL nI r.2 ∧ frC nU r.2 ∧ (∀ j, j < nL → r.2.1 33 j = nxC z nU j) ∧ ((r.1 = 0 ∧ ∀ j, j < nL → nxC z nU j = z.1 33 j) ∨ r.1 = 1)) := by
  have hP := kP_b hk
  have hD := kD_b hk
  have b1 := h.ub
  have b2 := h.lb
  have b3 := h.ib
  unfold q_Circuit_runOnce
  refine ok_b1 _ (s_refresh hk h hf) fun s ⟨o1, f1, f2⟩ => ?_
  have hc : CK c nU nL nI s := CK_o h o1 (by omega)
  have e31 : s.1 31 = z.1 31 := funext fun j => o1.2 31 j (by omega)
  have e33 : s.1 33 = z.1 33 := funext fun j => o1.2 33 j (by omega)
  have e38 : s.1 38 = z.1 38 := funext fun j => o1.2 38 j (by omega)
  refine ok_b1 (fun e => b01 e.1 ∧ zOff (fun k j => k = 34) s e.2 ∧ (∀ j, j < nL → e.2.1 34 j = nxC z nU j) ∧ (e.1 = 0 ↔ ∀ j, j < nL → nxC z nU j = z.1 33 j)) ?_ fun e ⟨g0, g1, g2, g3⟩ => ?_
  · refine it_for (fun (i : Nat) (t : Int × gZ) => (t.1, (i : Int), t.2)) (fun i t => b01 t.1 ∧ zOff (fun k j => k = 34) s t.2 ∧ (∀ j, j < i → t.2.1 34 j = nxC z nU j) ∧ (t.1 = 0 ↔ ∀ j, j < i → nxC z nU j = z.1 33 j)) 0 nL (t := (0, s)) rfl ⟨Or.inl rfl, off_r, fun j hj => by omega, by constructor <;> intro _ <;> first | rfl | (intro j hj; omega)⟩ (by omega) (by omega) ?_ ?_
    · intro i ⟨a, t⟩ _ hi ⟨k0, k1, k2, k3⟩
      have ct : CK c nU nL nI t := CK_o hc k1 (by omega)
      have ul := ct.l
      have t31 : t.1 31 = z.1 31 := (funext fun j => k1.2 31 j (by omega)).trans e31
      have t33 : t.1 33 = z.1 33 := (funext fun j => k1.2 33 j (by omega)).trans e33
      have t38 : t.1 38 = z.1 38 := (funext fun j => k1.2 38 j (by omega)).trans e38
      have t37 : ∀ l, l < nU → t.1 37 l = evC z nU l := fun l hl => by rw [k1.2 37 l (by omega)]; exact f2 l hl
      show zOk (q_Circuit_runOnce_8 E (kL c) a (i : Int) t) _
      unfold q_Circuit_runOnce_8
      rw [kL_31, kL_33, kL_34]
      (refine ok_neg (by omega) ?_); (refine ok_gd (by omega) ?_)
      rw [gtN, t31]
      refine ok_v1 (s_levelOf hk ct (Nat.le_refl _) (hs i hi)) ?_
      have ev : lev (t.1 38) (t.1 33) (t.1 37) (z.1 31 i) = nxC z nU i := by
        rw [t38, t33]
        exact lev_c (by omega) (by omega) (fun _ _ => rfl) (fun _ _ => rfl) t37 (Or.inr (hs i hi))
      rw [ev]
      (refine ok_gd (by omega) ?_); (refine ok_ll ?_); (refine ok_gd (by omega) ?_)
      have r34 : (zPut t 34 i (nxC z nU i)).1 34 i = nxC z nU i := by (simp only [zp1, zr1, zf1, Nat.reduceEqDiff, Nat.reduceBEq, reduceIte, if_true, if_false, and_true, true_and, and_false, false_and, gtN])
      have r33 : (zPut t 34 i (nxC z nU i)).1 33 i = z.1 33 i := by (simp only [zp1, zr1, zf1, Nat.reduceEqDiff, Nat.reduceBEq, reduceIte, if_true, if_false, and_true, true_and, and_false, false_and, gtN]); rw [t33]
      have oo : zOff (fun k j => k = 34) s (zPut t 34 i (nxC z nU i)) := off_t k1 (off_put rfl)
      have rr : ∀ j, j < i + 1 → (zPut t 34 i (nxC z nU i)).1 34 j = nxC z nU j := fun j hj => by
        (simp only [zp1, zr1, zf1, Nat.reduceEqDiff, Nat.reduceBEq, reduceIte, if_true, if_false, and_true, true_and, and_false, false_and, gtN])
        by_cases e1 : j = i
        · rw [if_pos e1, e1]
        · rw [if_neg e1]; exact k2 j (by omega)
      have k0 : b01 a := k0
      have k3 : a = 0 ↔ ∀ j, j < i → nxC z nU j = z.1 33 j := k3
      rw [r34, r33]
      refine ok_br (fun e1 => ?_) (fun e1 => ?_)
      · (refine ok_ll ?_); (refine ok_ll ?_)
        refine ok_inl (Or.inl ⟨(zOr a 0, _), rfl, (zOr_01 k0 (Or.inl rfl)).1, oo, rr, ?_⟩)
        rw [(zOr_01 k0 (Or.inl rfl)).2, k3]
        exact ⟨fun g j hj => by
          by_cases e2 : j = i
          · rw [e2]; exact e1
          · exact g.1 j (by omega), fun g => ⟨fun j hj => g j (by omega), rfl⟩⟩
      · (refine ok_ll ?_); (refine ok_ll ?_)
        refine ok_inl (Or.inl ⟨(zOr a 1, _), rfl, (zOr_01 k0 (Or.inr rfl)).1, oo, rr, ?_⟩)
        rw [(zOr_01 k0 (Or.inr rfl)).2]
        exact ⟨fun g => by omega, fun g => absurd (g i (by omega)) e1⟩
    · intro ⟨a, t⟩ ⟨k0, k1, k2, k3⟩
      have ct : CK c nU nL nI t := CK_o hc k1 (by omega)
      have ul := ct.l
      show zOk (q_Circuit_runOnce_8 E (kL c) a (nL : Int) t) _
      unfold q_Circuit_runOnce_8
      (refine ok_pos (by omega) ?_)
      exact ok_inr ⟨_, rfl, k0, k1, k2, k3⟩
  · have ct : CK c nU nL nI e.2 := CK_o hc g1 (by omega)
    have ul := ct.l
    have x33 : e.2.1 33 = z.1 33 := (funext fun j => g1.2 33 j (by omega)).trans e33
    have oa : zOff pRo z e.2 := off_t (off_w o1 fun k j x => by unfold pRo; omega) (off_w g1 fun k j x => by unfold pRo; omega)
    have hnb : b1s (nxC z nU) nL := fun j hj => lev_b (by omega) (by omega) h.x h.y (fun l hl => evT_b _ _) (Or.inr (hs j hj))
    refine ok_br (fun e1 => ?_) (fun e1 => ?_)
    · refine ok_gd (Or.inl e1) ?_
      refine ok_so ⟨oa, ct, ?_, fun j hj => ?_, Or.inl ⟨e1, g3.1 e1⟩⟩
      · refine Or.inr ⟨by rw [g1.2 30 15 (by omega)]; exact f1, fun l hl => ?_⟩
        show e.2.1 37 l = evC e.2 nU l
        rw [g1.2 37 l (by omega), f2 l hl]
        show evC z nU l = evT _ _ _ _ nU l
        have y35 : e.2.1 35 = z.1 35 := (funext fun j => g1.2 35 j (by omega)).trans (funext fun j => o1.2 35 j (by omega))
        have y36 : e.2.1 36 = z.1 36 := (funext fun j => g1.2 36 j (by omega)).trans (funext fun j => o1.2 36 j (by omega))
        have y38 : e.2.1 38 = z.1 38 := (funext fun j => g1.2 38 j (by omega)).trans e38
        rw [y35, y36, y38, x33]; rfl
      · show e.2.1 33 j = _
        rw [x33]; exact (g3.1 e1 j hj).symm
    · rw [kL_33, kL_34]
      refine ok_pos ⟨by omega, by omega, by omega, by omega, by omega⟩ ?_
      (refine ok_ll ?_); (refine ok_ll ?_)
      refine ok_gd g0 ?_
      have e1' : e.1 = 1 := by rcases g0 with g | g; exact absurd g e1; exact g
      have row : ∀ j, (zPut (zRow e.2 33 (zCpy (e.2.1 34) (e.2.1 33) 0 0 (e.2.1 30 11).toNat)) 30 15 0).1 33 j = if j < nL then nxC z nU j else z.1 33 j := fun j => by
        (simp only [zp1, zr1, zf1, Nat.reduceEqDiff, Nat.reduceBEq, reduceIte, if_true, if_false, and_true, true_and, and_false, false_and, gtN])
        unfold zCpy
        rw [ul, gtN, x33]
        by_cases e2 : j < nL
        · rw [if_pos (by omega), if_pos e2, show 0 + (j - 0) = j by omega]; exact g2 j e2
        · rw [if_neg (by omega), if_neg e2]
      refine ok_so ⟨off_t oa (off_t (off_row fun j => by unfold pRo; omega) (off_put (by unfold pRo; omega))), ?_, Or.inl (by (simp only [zp1, zr1, zf1, Nat.reduceEqDiff, Nat.reduceBEq, reduceIte, if_true, if_false, and_true, true_and, and_false, false_and, gtN])), fun j hj => by rw [row, if_pos hj], Or.inr e1'⟩
      refine ⟨?_, ?_, ?_, h.ub, h.lb, h.ib, ?_, ?_, fun j hj => ?_⟩
      · (simp only [zp1, zr1, zf1, Nat.reduceEqDiff, Nat.reduceBEq, reduceIte, if_true, if_false, and_true, true_and, and_false, false_and, gtN]); exact ct.u
      · (simp only [zp1, zr1, zf1, Nat.reduceEqDiff, Nat.reduceBEq, reduceIte, if_true, if_false, and_true, true_and, and_false, false_and, gtN]); exact ct.l
      · (simp only [zp1, zr1, zf1, Nat.reduceEqDiff, Nat.reduceBEq, reduceIte, if_true, if_false, and_true, true_and, and_false, false_and, gtN]); exact ct.i
      · rw [zp_ne _ _ _ _ _ (by decide), zr_ne _ _ _ _ (by decide)]; exact ct.pin
      · rw [zp_ne _ _ _ _ _ (by decide), zr_ne _ _ _ _ (by decide)]; exact ct.x
      · rw [row, if_pos hj]; exact hnb j hj
end
-- D3
section
variable {E : gEv} {c : gCf}
def pRn (k j : Nat) : Prop := pRo k j ∨ (k = 30 ∧ j = 14)
def stC (z : gZ) (nU : Nat) (k : Nat) : Nat → Int := stN (z.1 35) (z.1 36) (z.1 38) (z.1 31) nU (z.1 33) k
theorem s_runC {z : gZ} {nU nL nI n : Nat} (hk : kOk c) (h : CK c nU nL nI z) (hf : frC nU z) (hs : lsO nI nL nU (z.1 31)) (hn : n ≤ 1000) (h14 : 0 ≤ z.1 30 14 ∧ z.1 30 14 ≤ 1000000) : zOk (q_Circuit_run E (kL c) (n : Int) z) (fun s => zOff pRn z s ∧ CK c nU nL nI s ∧ frC nU s ∧ s.1 30 14 = z.1 30 14 + n ∧ ∀ j, j < nL → s.1 33 j = stC z nU n j) := by
  have b2 := h.lb
  have b3 := h.ib
  have hD := kD_b hk
  unfold q_Circuit_run
  (refine ok_gd (by omega) ?_); (refine ok_ll ?_)
  have o0 : zOff (fun k j => k = 30 ∧ j = 14) z (zPut z 30 14 (z.1 30 14 + n)) := off_put ⟨rfl, rfl⟩
  generalize hz1 : zPut z 30 14 (z.1 30 14 + n) = z1 at o0 ⊢
  have v14 : z1.1 30 14 = z.1 30 14 + n := by rw [← hz1]; (simp only [zp1, zr1, zf1, Nat.reduceEqDiff, Nat.reduceBEq, reduceIte, if_true, if_false, and_true, true_and, and_false, false_and, gtN])
  have hc : CK c nU nL nI z1 := CK_o h o0 (by omega)
  have r31 : ∀ k, k ≠ 30 → z1.1 k = z.1 k := fun k hk => funext fun j => o0.2 k j (by omega)
  have hf1 : frC nU z1 := by
    unfold frC evC at *
    rw [o0.2 30 15 (by omega), r31 37 (by decide), r31 35 (by decide), r31 36 (by decide), r31 38 (by decide), r31 33 (by decide)]; exact hf
  let J : gZ → Prop := fun s => zOff pRo z1 s ∧ CK c nU nL nI s ∧ frC nU s
  have rows : ∀ {s}, zOff pRo z1 s → s.1 35 = z.1 35 ∧ s.1 36 = z.1 36 ∧ s.1 38 = z.1 38 ∧ s.1 31 = z.1 31 := fun {s} o => ⟨(funext fun j => o.2 35 j (by unfold pRo; omega)).trans (r31 35 (by decide)), (funext fun j => o.2 36 j (by unfold pRo; omega)).trans (r31 36 (by decide)), (funext fun j => o.2 38 j (by unfold pRo; omega)).trans (r31 38 (by decide)), (funext fun j => o.2 31 j (by unfold pRo; omega)).trans (r31 31 (by decide))⟩
  refine ok_b1 (fun e => (∃ s, (e = .inl s ∨ e = .inr s) ∧ J s ∧ ∀ j, j < nL → s.1 33 j = stC z nU n j)) ?_ fun e ⟨s, he, ⟨j1, j2, j3⟩, j4⟩ => ?_
  · refine it_for (fun (i : Nat) (t : gZ) => ((i : Int), t)) (fun i t => J t ∧ ∀ j, j < nL → t.1 33 j = stC z nU i j) 0 n rfl ⟨⟨off_r, hc, hf1⟩, fun j hj => by rw [r31 33 (by decide)]; rfl⟩ (by omega) (by omega) ?_ ?_
    · intro i t _ hi ⟨⟨k1, k2, k3⟩, k4⟩
      obtain ⟨q1, q2, q3, q4⟩ := rows k1
      show zOk (q_Circuit_run_12 E (kL c) (n : Int) (i : Int) t) _
      unfold q_Circuit_run_12
      (refine ok_neg (by omega) ?_)
      refine ok_b2 _ (s_runOnce hk k2 k3 (by rw [q4]; exact hs)) fun v s ⟨g1, g2, g3, g4, g5⟩ => ?_
      have g1 : zOff pRo t s := g1
      have nx : ∀ j, j < nL → nxC t nU j = stC z nU (i + 1) j := fun j hj => by
        unfold nxC
        rw [q1, q2, q3, q4]
        have hp := h.pin
        exact stp_c (by omega) (by omega) hp (fun _ _ => rfl) (fun _ _ => rfl) (fun _ _ => rfl) hs (fun _ _ => rfl) k4 j hj
      have g4 : ∀ j, j < nL → s.1 33 j = stC z nU (i + 1) j := fun j hj => (g4 j hj).trans (nx j hj)
      refine ok_br (fun e1 => ?_) (fun e1 => ?_)
      · rcases g5 with ⟨e2, e3⟩ | e2
        · refine ok_inr (Or.inr ⟨_, rfl, s, Or.inl rfl, ⟨off_t k1 g1, g2, g3⟩, fun j hj => ?_⟩)
          rw [g4 j hj]
          have st : ∀ j, j < nL → stp (z.1 35) (z.1 36) (z.1 38) (z.1 31) nU (stC z nU i) j = stC z nU i j := fun j hj => by
            have : stC z nU (i + 1) j = stC z nU i j := by rw [← nx j hj, e3 j hj, k4 j hj]
            exact this
          have := stN_s (tab := z.1 36) (x := z.1 38) (by omega) (by omega) h.pin hs st (n - i) j hj
          rw [← st j hj] at this
          have e5 := stN_a (pin := z.1 35) (tab := z.1 36) (x := z.1 38) (ls := z.1 31) (n := nU) (y := z.1 33) i (n - i)
          rw [show i + (n - i) = n by omega] at e5
          show _ = stN _ _ _ _ _ _ n j
          rw [e5]; exact this.symm
        · have e2 : v = 1 := e2
          omega
      · (refine ok_ll ?_)
        exact ok_inl (Or.inl ⟨s, rfl, ⟨off_t k1 g1, g2, g3⟩, g4⟩)
    · intro t ⟨k1, k4⟩
      show zOk (q_Circuit_run_12 E (kL c) (n : Int) (n : Int) t) _
      unfold q_Circuit_run_12
      (refine ok_pos (by omega) ?_)
      exact ok_inr ⟨_, rfl, t, Or.inr rfl, k1, k4⟩
  · have fin : zOff pRn z s ∧ CK c nU nL nI s ∧ frC nU s ∧ s.1 30 14 = z.1 30 14 + n ∧ ∀ j, j < nL → s.1 33 j = stC z nU n j := ⟨off_t (off_w o0 fun k j x => Or.inr x) (off_w j1 fun k j x => Or.inl x), j2, j3, by rw [j1.2 30 14 (by unfold pRo; omega)]; exact v14, j4⟩
    rcases he with he | he <;> subst he
    · rw [gs_l]; exact ok_so fin
    · rw [gs_r]; exact ok_so fin
/-- the value of a source, in the class -/
theorem s_valueOf {z : gZ} {nU nL nI : Nat} {a : Int} (hk : kOk c) (h : CK c nU nL nI z) (hf : frC nU z) : zOk (q_Circuit_valueOf E (kL c) a z) (fun r => zOff (fun k j => k = 37 ∨ (k = 30 ∧ j = 15)) z r.2 ∧ frC nU r.2 ∧ ((srcO nI nL nU a ∧ r.1 = lev (z.1 38) (z.1 33) (evC z nU) a) ∨ (¬ srcO nI nL nU a ∧ r.1 = -1))) := by
  have hP := kP_b hk
  have hD := kD_b hk
  have b1 := h.ub
  have b2 := h.lb
  have b3 := h.ib
  have hu := h.u
  have hl := h.l
  have hi := h.i
  have j49 : ¬ (0 ≤ a ∧ a < nI) → ¬ (200 ≤ a ∧ a < 200 + nL) → zOk (q_Circuit_valueOf_j49 E (kL c) a z) (fun r => zOff (fun k j => k = 37 ∨ (k = 30 ∧ j = 15)) z r.2 ∧ frC nU r.2 ∧ ((srcO nI nL nU a ∧ r.1 = lev (z.1 38) (z.1 33) (evC z nU) a) ∨ (¬ srcO nI nL nU a ∧ r.1 = -1))) := fun n1 n2 => by
    unfold q_Circuit_valueOf_j49
    refine ok_br (fun e => ok_so ⟨off_r, hf, Or.inr ⟨by unfold srcO; omega, rfl⟩⟩) fun e => ?_
    rw [hu]
    (refine ok_gd (by omega) ?_)
    refine ok_br (fun e => ok_so ⟨off_r, hf, Or.inr ⟨by unfold srcO; omega, rfl⟩⟩) fun e2 => ?_
    refine ok_b1 _ (s_refresh hk h hf) fun s ⟨o1, f1, f2⟩ => ?_
    rw [kL_37]
    (refine ok_gd (by omega) ?_)
    refine ok_so ⟨o1, Or.inr ⟨f1, fun l hl => ?_⟩, Or.inl ⟨by unfold srcO; omega, ?_⟩⟩
    · show s.1 37 l = evC s nU l
      unfold evC
      have r : ∀ k, k ≠ 37 ∧ k ≠ 30 → s.1 k = z.1 k := fun k hk => funext fun j => o1.2 k j (by omega)
      rw [r 35 (by decide), r 36 (by decide), r 38 (by decide), r 33 (by decide)]; exact f2 l hl
    · rw [lev_u (by omega)]; exact f2 _ (by omega)
  have j19 : ¬ (0 ≤ a ∧ a < nI) → zOk (q_Circuit_valueOf_j19 E (kL c) a z) (fun r => zOff (fun k j => k = 37 ∨ (k = 30 ∧ j = 15)) z r.2 ∧ frC nU r.2 ∧ ((srcO nI nL nU a ∧ r.1 = lev (z.1 38) (z.1 33) (evC z nU) a) ∨ (¬ srcO nI nL nU a ∧ r.1 = -1))) := fun n1 => by
    unfold q_Circuit_valueOf_j19
    refine ok_br (fun e => j49 n1 (by omega)) fun e => ?_
    rw [hl]
    (refine ok_gd (by omega) ?_)
    refine ok_br (fun e => j49 n1 (by omega)) fun e2 => ?_
    rw [kL_33]
    (refine ok_gd (by omega) ?_)
    exact ok_so ⟨off_r, hf, Or.inl ⟨by unfold srcO; omega, by rw [lev_l (by omega)]⟩⟩
  unfold q_Circuit_valueOf
  refine ok_br (fun e => j19 (by omega)) fun e => ?_
  rw [hi]
  refine ok_br (fun e => j19 (by omega)) fun e2 => ?_
  rw [kL_38]
  (refine ok_gd (by omega) ?_)
  exact ok_so ⟨off_r, hf, Or.inl ⟨by unfold srcO; omega, by rw [lev_i (by omega)]⟩⟩
end
-- D4
section
variable {E : gEv} {c : gCf}
/-- the reference's source of a name -/
def srcF (z : gZ) (v : Nat) : Int := if z.1 101 v = 1 then z.1 102 v else if z.1 101 v = 2 then 200 + z.1 102 v else z.1 119 v
def okV (nU nL nI nF : Nat) (z : gZ) (v : Nat) : Prop := v < 150 ∧ ((z.1 101 v = 1 ∧ 0 ≤ z.1 102 v ∧ z.1 102 v < nI) ∨ (z.1 101 v = 2 ∧ 0 ≤ z.1 102 v ∧ z.1 102 v < nL) ∨ (z.1 101 v = 3 ∧ 400 ≤ z.1 119 v ∧ z.1 119 v < 400 + nU ∧ ∃ f : Nat, f < nF ∧ z.1 102 v = f ∧ z.1 112 f = v))
def evR (z : gZ) (n : Nat) : Nat → Int := evT (z.1 117) (z.1 118) (z.1 160) (z.1 161) n
/-- the table that makes function f -/
def lutF (z : gZ) (f : Nat) : Nat := (z.1 119 (z.1 112 f).toNat - 400).toNat
/-- the address that the ins of function f, m of them, make -/
def adrF (z : gZ) (x y v : Nat → Int) (f m : Nat) : Int := nb (fun i => lev x y v (srcF z (z.1 111 (8 * f + i)).toNat)) 0 m
abbrev CR (c : gCf) (nU nL nI nF : Nat) (z : gZ) : Prop := ∃ _ : (z.1 94 46 = nU), ∃ _ : (z.1 94 31 = nL), ∃ _ : (z.1 94 29 = nI), ∃ _ : (z.1 94 32 = nF), ∃ _ : (nU ≤ kP c), ∃ _ : (nL ≤ 150), ∃ _ : (nI ≤ kD c), ∃ _ : (nF ≤ 150), ∃ _ : (pinO nI nL nU (z.1 117)), ∃ _ : (b1s (z.1 160) nI), ∃ _ : (b1s (z.1 161) nL), ∃ _ : (∀ k, k < nF → ∃ f m : Nat, f < nF ∧ m ≤ 8 ∧ z.1 115 k = f ∧ z.1 110 f = m ∧ ∀ i, i < m → ∃ v : Nat, z.1 111 (8 * f + i) = v ∧ okV nU nL nI nF z v ∧ (z.1 101 v = 3 → ∃ k', k' < k ∧ z.1 115 k' = z.1 102 v)), ∃ _ : (∀ f, f < nF → ∀ n, n < 256 → b01 (z.1 114 (256 * f + n))), ∃ _ : (∀ f, f < nF → ∃ k, k < nF ∧ z.1 115 k = f), (∀ x y, b1s x nI → b1s y nL → ∀ f, f < nF → evT (z.1 117) (z.1 118) x y nU (lutF z f) = z.1 114 (256 * f + (adrF z x y (evT (z.1 117) (z.1 118) x y nU) f (z.1 110 f).toNat).toNat))
theorem CR.u {c : gCf} {nU nL nI nF : Nat} {z : gZ} (h : CR c nU nL nI nF z) : z.1 94 46 = nU := by obtain ⟨x, _⟩ := h; exact x
theorem CR.l {c : gCf} {nU nL nI nF : Nat} {z : gZ} (h : CR c nU nL nI nF z) : z.1 94 31 = nL := by obtain ⟨_, x, _⟩ := h; exact x
theorem CR.i {c : gCf} {nU nL nI nF : Nat} {z : gZ} (h : CR c nU nL nI nF z) : z.1 94 29 = nI := by obtain ⟨_, _, x, _⟩ := h; exact x
theorem CR.f {c : gCf} {nU nL nI nF : Nat} {z : gZ} (h : CR c nU nL nI nF z) : z.1 94 32 = nF := by obtain ⟨_, _, _, x, _⟩ := h; exact x
theorem CR.ub {c : gCf} {nU nL nI nF : Nat} {z : gZ} (h : CR c nU nL nI nF z) : nU ≤ kP c := by obtain ⟨_, _, _, _, x, _⟩ := h; exact x
theorem CR.lb {c : gCf} {nU nL nI nF : Nat} {z : gZ} (h : CR c nU nL nI nF z) : nL ≤ 150 := by obtain ⟨_, _, _, _, _, x, _⟩ := h; exact x
theorem CR.ib {c : gCf} {nU nL nI nF : Nat} {z : gZ} (h : CR c nU nL nI nF z) : nI ≤ kD c := by obtain ⟨_, _, _, _, _, _, x, _⟩ := h; exact x
theorem CR.fb {c : gCf} {nU nL nI nF : Nat} {z : gZ} (h : CR c nU nL nI nF z) : nF ≤ 150 := by obtain ⟨_, _, _, _, _, _, _, x, _⟩ := h; exact x
theorem CR.pin {c : gCf} {nU nL nI nF : Nat} {z : gZ} (h : CR c nU nL nI nF z) : pinO nI nL nU (z.1 117) := by obtain ⟨_, _, _, _, _, _, _, _, x, _⟩ := h; exact x
theorem CR.x {c : gCf} {nU nL nI nF : Nat} {z : gZ} (h : CR c nU nL nI nF z) : b1s (z.1 160) nI := by obtain ⟨_, _, _, _, _, _, _, _, _, x, _⟩ := h; exact x
theorem CR.y {c : gCf} {nU nL nI nF : Nat} {z : gZ} (h : CR c nU nL nI nF z) : b1s (z.1 161) nL := by obtain ⟨_, _, _, _, _, _, _, _, _, _, x, _⟩ := h; exact x
theorem CR.ord {c : gCf} {nU nL nI nF : Nat} {z : gZ} (h : CR c nU nL nI nF z) : ∀ k, k < nF → ∃ f m : Nat, f < nF ∧ m ≤ 8 ∧ z.1 115 k = f ∧ z.1 110 f = m ∧ ∀ i, i < m → ∃ v : Nat, z.1 111 (8 * f + i) = v ∧ okV nU nL nI nF z v ∧ (z.1 101 v = 3 → ∃ k', k' < k ∧ z.1 115 k' = z.1 102 v) := by obtain ⟨_, _, _, _, _, _, _, _, _, _, _, x, _⟩ := h; exact x
theorem CR.val {c : gCf} {nU nL nI nF : Nat} {z : gZ} (h : CR c nU nL nI nF z) : ∀ f, f < nF → ∀ n, n < 256 → b01 (z.1 114 (256 * f + n)) := by obtain ⟨_, _, _, _, _, _, _, _, _, _, _, _, x, _⟩ := h; exact x
theorem CR.all {c : gCf} {nU nL nI nF : Nat} {z : gZ} (h : CR c nU nL nI nF z) : ∀ f, f < nF → ∃ k, k < nF ∧ z.1 115 k = f := by obtain ⟨_, _, _, _, _, _, _, _, _, _, _, _, _, x, _⟩ := h; exact x
theorem CR.sem {c : gCf} {nU nL nI nF : Nat} {z : gZ} (h : CR c nU nL nI nF z) : ∀ x y, b1s x nI → b1s y nL → ∀ f, f < nF → evT (z.1 117) (z.1 118) x y nU (lutF z f) = z.1 114 (256 * f + (adrF z x y (evT (z.1 117) (z.1 118) x y nU) f (z.1 110 f).toNat).toNat) := by obtain ⟨_, _, _, _, _, _, _, _, _, _, _, _, _, _, x⟩ := h; exact x
theorem okV_s {nU nL nI nF v : Nat} {z : gZ} (h : okV nU nL nI nF z v) : srcO nI nL nU (srcF z v) := by
  unfold srcF srcO
  rcases h.2 with ⟨h1, h2⟩ | ⟨h1, h2⟩ | ⟨h1, h2, h3, h4⟩
  · rw [if_pos h1]; omega
  · rw [if_neg (by omega), if_pos h1]; omega
  · rw [if_neg (by omega), if_neg (by omega)]; omega
theorem if01 {α : Type} {x : Int} {a b : α} (h : b01 x) : (if (x = 0) ∨ (x = 1) then a else b) = a := if_pos h
theorem s_levelOfM {t : gZ} {nU nL nI nF v : Nat} {ev : Nat → Int} (hk : kOk c) (hI : nI ≤ kD c) (hL : nL ≤ 150) (hF : nF ≤ 150) (h : okV nU nL nI nF t v) (hx : b1s (t.1 160) nI) (hy : b1s (t.1 161) nL) (hv : b1s ev nU) (h3 : t.1 101 v = 3 → t.1 163 (t.1 102 v).toNat = ev (t.1 119 v - 400).toNat) : q_Model_levelOf E (kL c) (v : Int) t = some (lev (t.1 160) (t.1 161) ev (srcF t v)) := by
  have hD := kD_b hk
  have hv1 := h.1
  unfold q_Model_levelOf srcF
  rw [kL_101, kL_102, kL_160, kL_161, kL_163, if_pos (by omega), gtN]
  rcases h.2 with ⟨h1, h2⟩ | ⟨h1, h2⟩ | ⟨h1, h2, h4, f, f1, f2, f3⟩
  · rw [if_pos h1, if_pos (by omega), if_pos (by omega), if01 (hx _ (by omega)), if_pos h1, lev_i (by omega)]
  · rw [if_neg (by omega), if_pos h1, if_pos (by omega), if_pos (by omega), if01 (hy _ (by omega)), if_neg (by omega), if_pos h1, lev_l (by omega), show (200 + t.1 102 v - 200).toNat = (t.1 102 v).toNat by omega]
  · rw [if_neg (by omega), if_neg (by omega), if_pos (by omega), if_pos (by omega), h3 h1, if01 (hv _ (by omega)), if_neg (by omega), if_neg (by omega), lev_u (by omega)]
theorem nb_acc {f : Nat → Int} {p : Nat} {v : Int} (hp : p < 16) (hb : ∀ j, j < p → b01 (f j)) (hv : b01 v) (e : v = f p) : (if v = 0 then zOr (nb f 0 p) 0 else zOr (nb f 0 p) (zShl 1 (p : Int))) = nb f 0 (p + 1) := by
  obtain ⟨m, m1, m2, -⟩ := nb_n (b := f) (a := 0) (n := p) (by omega) fun j hj => by rw [Nat.zero_add]; exact hb j (by omega)
  rw [nb, Nat.zero_add, ← e]
  rcases hv with h | h
  · rw [if_pos h, h, zShl_0 p (by omega)]
  · rw [if_neg (by omega), h]
theorem CR_o {P : Nat → Nat → Prop} {z s : gZ} {nU nL nI nF : Nat} (h : CR c nU nL nI nF z) (o : zOff P z s) (hP : ∀ k j, P k j → (k < 94 ∨ k = 97 ∨ k = 98 ∨ (120 ≤ k ∧ k ≤ 159) ∨ 162 ≤ k) ∨ (k = 94 ∧ j ≠ 46 ∧ j ≠ 31 ∧ j ≠ 29 ∧ j ≠ 32)) : CR c nU nL nI nF s := by
  have r : ∀ k, (k = 101 ∨ k = 102 ∨ k = 119 ∨ k = 112 ∨ k = 111 ∨ k = 115 ∨ k = 110 ∨ k = 114 ∨ k = 117 ∨ k = 118 ∨ k = 160 ∨ k = 161) → s.1 k = z.1 k := fun k hk => funext fun j => o.2 k j fun x => by have := hP _ _ x; omega
  have n : ∀ j, (j = 46 ∨ j = 31 ∨ j = 29 ∨ j = 32) → s.1 94 j = z.1 94 j := fun j hj => o.2 94 j fun x => by have := hP _ _ x; omega
  refine ⟨by rw [n 46 (by omega)]; exact h.u, by rw [n 31 (by omega)]; exact h.l, by rw [n 29 (by omega)]; exact h.i, by rw [n 32 (by omega)]; exact h.f, h.ub, h.lb, h.ib, h.fb, by rw [r 117 (by omega)]; exact h.pin, by rw [r 160 (by omega)]; exact h.x, by rw [r 161 (by omega)]; exact h.y, ?_, by rw [r 114 (by omega)]; exact h.val, by rw [r 115 (by omega)]; exact h.all, ?_⟩
  · unfold okV
    rw [r 115 (by omega), r 110 (by omega), r 111 (by omega), r 101 (by omega), r 102 (by omega), r 119 (by omega), r 112 (by omega)]
    exact h.ord
  · unfold lutF adrF srcF
    rw [r 117 (by omega), r 118 (by omega), r 119 (by omega), r 112 (by omega), r 114 (by omega), r 111 (by omega), r 101 (by omega), r 102 (by omega), r 110 (by omega)]
    exact h.sem
theorem s_mean {z : gZ} {nU nL nI nF : Nat} (hk : kOk c) (h : CR c nU nL nI nF z) : zOk (q_Model_mean E (kL c) z) (fun s => zOff (fun k j => k = 163) z s ∧ ∀ f, f < nF → s.1 163 f = evR z nU (lutF z f)) := by
  have hD := kD_b hk
  have b2 := h.lb
  have b3 := h.ib
  have b4 := h.fb
  unfold q_Model_mean
  refine ok_b1 (fun s => zOff (fun k j => k = 163) z s ∧ ∀ f, f < nF → s.1 163 f = evR z nU (lutF z f)) ?_ fun s hs => ok_so hs
  refine it_for (fun (i : Nat) (t : gZ) => ((i : Int), t)) (fun i t => zOff (fun k j => k = 163) z t ∧ ∀ k f : Nat, k < i → z.1 115 k = f → t.1 163 f = evR z nU (lutF z f)) 0 nF rfl ⟨off_r, fun k f hk => by omega⟩ (by omega) (by omega) ?_ ?_
  · intro k t _ hi ⟨o, ht⟩
    have r : ∀ a, a ≠ 163 → t.1 a = z.1 a := fun a ha => funext fun j => o.2 a j (by omega)
    obtain ⟨f, m, f1, m1, f2, m2, hv⟩ := h.ord k hi
    show zOk (q_Model_mean_2 E (kL c) (k : Int) t) _
    unfold q_Model_mean_2
    rw [r 94 (by decide), h.f, kL_115, kL_114, kL_163, gtN, r 115 (by decide), f2]
    (refine ok_neg (by omega) ?_); (refine ok_gd (by omega) ?_); (refine ok_ll ?_)
    let g : Nat → Int := fun i => lev (z.1 160) (z.1 161) (evR z nU) (srcF z (z.1 111 (8 * f + i)).toNat)
    have hg : ∀ i, i < m → b01 (g i) := fun i hi => by
      obtain ⟨v, v1, v2, -⟩ := hv i hi
      show b01 (lev _ _ _ (srcF z (z.1 111 (8 * f + i)).toNat))
      rw [v1, gtN]
      exact lev_b (by omega) (by omega) h.x h.y (fun l _ => evT_b _ _) (Or.inr (okV_s v2))
    have key : gIter (fun y => q_Model_mean_22 E (kL c) (k : Int) (f : Int) y.1 y.2 t) gN (0, 0) = some (nb g 0 m) := by
      refine it_acc (fun (p : Nat) (v : Int) => (v, (p : Int))) (fun p => nb g 0 p) 0 m rfl (by omega) (by omega) ?_ ?_
      · intro p _ hp
        obtain ⟨v, v1, v2, v3⟩ := hv p hp
        show q_Model_mean_22 E (kL c) (k : Int) (f : Int) (nb g 0 p) (p : Int) t = _
        unfold q_Model_mean_22
        have hl : q_Model_levelOf E (kL c) (v : Int) t = some (g p) := by
          have e1 : okV nU nL nI nF t v := by
            unfold okV
            rw [r 101 (by decide), r 102 (by decide), r 119 (by decide), r 112 (by decide)]; exact v2
          have := s_levelOfM (E := E) (ev := evR z nU) hk b3 b2 b4 e1 (by rw [r 160 (by decide)]; exact h.x) (by rw [r 161 (by decide)]; exact h.y) (fun l _ => evT_b _ _) (fun e => by
            rw [r 101 (by decide)] at e
            rw [r 102 (by decide), r 119 (by decide)]
            obtain ⟨k', k1, k2⟩ := v3 e
            rcases v2.2 with w | w | ⟨-, -, -, f', f1', f2', f3'⟩
            · omega
            · omega
            · rw [f2', gtN, ht k' f' k1 (by rw [k2, f2'])]
              unfold lutF
              rw [f3', gtN])
          rw [this]
          show some _ = some (lev _ _ _ (srcF z (z.1 111 (8 * f + p)).toNat))
          rw [v1, gtN]
          unfold srcF
          rw [r 101 (by decide), r 102 (by decide), r 119 (by decide), r 160 (by decide), r 161 (by decide)]
        rw [kL_110, kL_111, if_pos (by omega), gtN, r 110 (by decide), m2, if_neg (by omega), if_pos (by omega), show (8 * (f : Int) + (p : Int)).toNat = 8 * f + p by omega, r 111 (by decide), v1, hl, b1_s]
        have ac := nb_acc (f := g) (p := p) (v := g p) (by omega) (fun j hj => hg j (by omega)) (hg p hp) rfl
        by_cases e1 : g p = 0
        · rw [if_pos e1] at ac
          rw [if_pos e1, let_s, let_s, ac]; rfl
        · rw [if_neg e1] at ac
          rw [if_neg e1, let_s, let_s, ac]; rfl
      · show q_Model_mean_22 E (kL c) (k : Int) (f : Int) (nb g 0 m) (m : Int) t = _
        unfold q_Model_mean_22
        rw [kL_110, if_pos (by omega), gtN, r 110 (by decide), m2, if_pos (by omega)]
    refine ok_v1 key ?_
    obtain ⟨a, a1, a2, -⟩ := nb_n (b := g) (a := 0) (n := m) (by omega) fun j hj => by rw [Nat.zero_add]; exact hg j (by omega)
    have a3 : (2 : Nat) ^ m ≤ 2 ^ 8 := Nat.pow_le_pow_right (by decide) (by omega)
    rw [a2]
    (refine ok_gd (by omega) ?_); (refine ok_gd (by omega) ?_)
    have e114 : t.1 114 ((256 * (f : Int) + (a : Int)).toNat) = evR z nU (lutF z f) := by
      rw [r 114 (by decide), show (256 * (f : Int) + (a : Int)).toNat = 256 * f + a by omega]
      show _ = evT _ _ _ _ nU _
      rw [h.sem (z.1 160) (z.1 161) h.x h.y f f1, m2, gtN]
      unfold adrF
      show _ = z.1 114 (256 * f + (nb g 0 m).toNat)
      rw [a2, gtN]
    rw [e114, zBool_n (evR z nU (lutF z f)) (evT_b _ _), gtN]
    (refine ok_ll ?_); (refine ok_ll ?_)
    refine ok_inl (Or.inl ⟨_, rfl, off_t o (off_put rfl), fun k' f' hk' hf' => ?_⟩)
    (simp only [zp1, zr1, zf1, Nat.reduceEqDiff, Nat.reduceBEq, reduceIte, if_true, if_false, and_true, true_and, and_false, false_and, gtN])
    by_cases e1 : f' = f
    · rw [if_pos e1, e1]
    · rw [if_neg e1]
      refine ht k' f' ?_ hf'
      by_cases e2 : k' = k
      · subst e2; rw [f2] at hf'; omega
      · omega
  · intro t ⟨o, ht⟩
    show zOk (q_Model_mean_2 E (kL c) (nF : Int) t) _
    unfold q_Model_mean_2
    rw [o.2 94 32 (by omega), h.f]
    (refine ok_pos (by omega) ?_)
    refine ok_inr ⟨_, rfl, o, fun f hf => ?_⟩
    obtain ⟨k, k1, k2⟩ := h.all f hf
    exact ht k f k1 k2
end
-- D5
section
variable {E : gEv} {c : gCf}
theorem s_sourceLevel {t : gZ} {nL nI n : Nat} {s : Int} {v : Nat → Int} (hk : kOk c) (hI : nI ≤ kD c) (hL : nL ≤ 150) (hn : n ≤ 5000) (h : okS nI nL n s) (hx : b1s (t.1 160) nI) (hy : b1s (t.1 161) nL) (hv : ∀ l, l < n → b01 (v l) ∧ t.1 164 l = v l) : q_Model_sourceLevel E (kL c) s t = some (lev (t.1 160) (t.1 161) v s) := by
  have hD := kD_b hk
  unfold q_Model_sourceLevel
  rw [kL_160, kL_161, kL_164]
  rcases h with h | h | h | h
  · rw [if_pos h, h, lev_n]
  · rw [if_neg (by omega), if_neg (by omega), if_pos (by omega), if01 (hx _ (by omega)), lev_i (by omega)]
  · rw [if_neg (by omega), if_pos (by omega), if_neg (by omega), if_pos (by omega), if01 (hy _ (by omega)), lev_l (by omega)]
  · obtain ⟨w1, w2⟩ := hv (s - 400).toNat (by omega)
    rw [if_neg (by omega), if_pos (by omega), if_pos (by omega), if_pos (by omega), w2, if01 w1, lev_u (by omega)]
/-- the value of a source that is there, in the reference -/
theorem s_value62 {z : gZ} {nU nL nI nF : Nat} {a : Int} (hk : kOk c) (h : CR c nU nL nI nF z) (ha : srcO nI nL nU a) : zOk (q_Model_value_j62 E (kL c) a 1 z) (fun r => zOff (fun k j => k = 164) z r.2 ∧ r.1 = lev (z.1 160) (z.1 161) (evR z nU) a) := by
  have hP := kP_b hk
  have hD := kD_b hk
  have b1 := h.ub
  have b2 := h.lb
  have b3 := h.ib
  unfold q_Model_value_j62
  (refine ok_neg (by omega) ?_)
  refine ok_b1 (fun s => zOff (fun k j => k = 164) z s ∧ ∀ l, l < nU → s.1 164 l = evR z nU l) ?_ fun s ⟨o, hs⟩ => ?_
  · refine it_for (fun (i : Nat) (t : gZ) => ((i : Int), t)) (fun i t => zOff (fun k j => k = 164) z t ∧ ∀ l, l < i → t.1 164 l = evR z nU l) 0 nU rfl ⟨off_r, fun l hl => by omega⟩ (by omega) (by omega) ?_ ?_
    · intro i t _ hi ⟨o, ht⟩
      have r : ∀ a, a ≠ 164 → t.1 a = z.1 a := fun a ha => funext fun j => o.2 a j (by omega)
      let f : Nat → Int := fun p => lev (z.1 160) (z.1 161) (evR z i) (z.1 117 (i * 4 + p))
      have hb : ∀ p, p < 4 → b01 (f p) := fun p hp => lev_b (by omega) (by omega) h.x h.y (fun l hl => evT_b _ _) (h.pin i p (by omega) hp)
      show zOk (q_Model_value_71 E (kL c) a (i : Int) t) _
      unfold q_Model_value_71
      rw [r 94 (by decide), h.u]
      (refine ok_neg (by omega) ?_)
      have key : gIter (fun y => q_Model_value_85 E (kL c) a (i : Int) y.1 y.2 t) gN (0, 0) = some (nb f 0 4) := by
        refine it_acc (fun (p : Nat) (v : Int) => (v, (p : Int))) (fun p => nb f 0 p) 0 4 rfl (by omega) (by omega) ?_ ?_
        · intro p _ hp
          show q_Model_value_85 E (kL c) a (i : Int) (nb f 0 p) (p : Int) t = _
          unfold q_Model_value_85
          have hok := h.pin i p (by omega) hp
          have hl := s_sourceLevel (E := E) (t := t) (v := evR z i) hk b3 b2 (n := i) (by omega) hok (by rw [r 160 (by decide)]; exact h.x) (by rw [r 161 (by decide)]; exact h.y) fun l hl => ⟨evT_b _ _, by rw [ht l hl]; exact evT_le hl (by omega)⟩
          rw [r 160 (by decide), r 161 (by decide)] at hl
          have hl : q_Model_sourceLevel E (kL c) (z.1 117 (i * 4 + p)) t = some (f p) := hl
          rw [kL_117, if_neg (by omega), if_pos (by omega), show (4 * (i : Int) + (p : Int)).toNat = i * 4 + p by omega, r 117 (by decide), hl, b1_s]
          have ac := nb_acc (f := f) (p := p) (v := f p) (by omega) (fun j hj => hb j (by omega)) (hb p hp) rfl
          by_cases e1 : f p = 0
          · rw [if_pos e1] at ac
            rw [if_pos e1, let_s, let_s, ac]; rfl
          · rw [if_neg e1] at ac
            rw [if_neg e1, let_s, let_s, ac]; rfl
        · show q_Model_value_85 E (kL c) a (i : Int) (nb f 0 4) (4 : Int) t = _
          unfold q_Model_value_85
          rw [if_pos (by omega)]
      refine ok_v1 key ?_
      obtain ⟨m, m1, m2, -⟩ := nb_n (b := f) (a := 0) (n := 4) (by omega) fun j hj => by rw [Nat.zero_add]; exact hb j (by omega)
      have ev : evR z nU i = if zBit (z.1 118 i) m then 1 else 0 := by
        show evT _ _ _ _ nU i = _
        rw [evT_le (n := i + 1) (by omega) (by omega), evT, if_pos rfl]
        show zAnd (zUshr (z.1 118 i) (nb f 0 4)) 1 = _
        rw [m2]; exact zBit_at _ _ (by omega)
      rw [kL_118, m2]
      (refine ok_gd (by omega) ?_)
      rw [gtN, r 118 (by decide), zBit_atS _ _ (by omega)]
      have fin : ∀ v : Int, b01 v → v = evR z nU i → zOk (q_Model_value_j153_71 E (kL c) a (i : Int) (i : Int) v t) (fun r => (∃ t', r = Sum.inl ((((i + 1 : Nat)) : Int), t') ∧ zOff (fun k j => k = 164) z t' ∧ ∀ l, l < i + 1 → t'.1 164 l = evR z nU l) ∨ ∃ e, r = Sum.inr e ∧ zOff (fun k j => k = 164) z e ∧ ∀ l, l < nU → e.1 164 l = evR z nU l) := fun v v1 v2 => by
        unfold q_Model_value_j153_71
        rw [kL_164, zBool_n v v1, gtN]
        (refine ok_gd (by omega) ?_); (refine ok_ll ?_); (refine ok_gd (by omega) ?_); (refine ok_ll ?_)
        refine ok_inl (Or.inl ⟨_, rfl, off_t o (off_put rfl), fun l hl => ?_⟩)
        (simp only [zp1, zr1, zf1, Nat.reduceEqDiff, Nat.reduceBEq, reduceIte, if_true, if_false, and_true, true_and, and_false, false_and, gtN])
        by_cases e1 : l = i
        · rw [if_pos e1, e1]; exact v2
        · rw [if_neg e1]; exact ht l (by omega)
      cases hbb : zBit (z.1 118 i) m
      · rw [hbb] at ev
        exact ok_neg (by decide) (fin 0 (Or.inl rfl) ev.symm)
      · rw [hbb] at ev
        exact ok_pos (by decide) (fin 1 (Or.inr rfl) ev.symm)
    · intro t ⟨o, ht⟩
      show zOk (q_Model_value_71 E (kL c) a (nU : Int) t) _
      unfold q_Model_value_71
      rw [o.2 94 46 (by omega), h.u]
      (refine ok_pos (by omega) ?_)
      exact ok_inr ⟨_, rfl, o, ht⟩
  · have hl := s_sourceLevel (E := E) (t := s) (v := evR z nU) hk b3 b2 (n := nU) (by omega) (Or.inr ha) (by rw [funext fun j => o.2 160 j (by omega)]; exact h.x) (by rw [funext fun j => o.2 161 j (by omega)]; exact h.y) fun l hl => ⟨evT_b _ _, hs l hl⟩
    rw [show s.1 160 = z.1 160 from funext fun j => o.2 160 j (by omega), show s.1 161 = z.1 161 from funext fun j => o.2 161 j (by omega)] at hl
    refine ok_v1 hl ?_
    have hb : b01 (lev (z.1 160) (z.1 161) (evR z nU) a) := lev_b (by omega) (by omega) h.x h.y (fun l hl => evT_b _ _) (Or.inr ha)
    refine ok_br (fun e => ok_so ⟨o, e.symm⟩) (fun e => ok_so ⟨o, ?_⟩)
    rcases hb with g | g
    · exact absurd g e
    · exact g.symm
theorem s_valueM {z : gZ} {nU nL nI nF : Nat} {a : Int} (hk : kOk c) (hc : z.1 94 106 = 1) (h : CR c nU nL nI nF z) : zOk (q_Model_value E (kL c) a z) (fun r => zOff (fun k j => k = 164) z r.2 ∧ ((srcO nI nL nU a ∧ r.1 = lev (z.1 160) (z.1 161) (evR z nU) a) ∨ (¬ srcO nI nL nU a ∧ r.1 = -1))) := by
  have hP := kP_b hk
  have hD := kD_b hk
  have b1 := h.ub
  have b2 := h.lb
  have b3 := h.ib
  have no : ¬ srcO nI nL nU a → zOk (q_Model_value_j61 E (kL c) a z) (fun r => zOff (fun k j => k = 164) z r.2 ∧ ((srcO nI nL nU a ∧ r.1 = lev (z.1 160) (z.1 161) (evR z nU) a) ∨ (¬ srcO nI nL nU a ∧ r.1 = -1))) := fun n => by
    unfold q_Model_value_j61 q_Model_value_j62
    (refine ok_pos (by omega) ?_)
    exact ok_so ⟨off_r, Or.inr ⟨n, rfl⟩⟩
  have ye : srcO nI nL nU a → zOk (q_Model_value_j57 E (kL c) a z) (fun r => zOff (fun k j => k = 164) z r.2 ∧ ((srcO nI nL nU a ∧ r.1 = lev (z.1 160) (z.1 161) (evR z nU) a) ∨ (¬ srcO nI nL nU a ∧ r.1 = -1))) := fun n => by
    unfold q_Model_value_j57
    exact ok_w (s_value62 hk h n) fun r ⟨r1, r2⟩ => ⟨r1, Or.inl ⟨n, r2⟩⟩
  have j38 : ¬ (0 ≤ a ∧ a < nI) → ¬ (200 ≤ a ∧ a < 200 + nL) → zOk (q_Model_value_j38 E (kL c) a z) (fun r => zOff (fun k j => k = 164) z r.2 ∧ ((srcO nI nL nU a ∧ r.1 = lev (z.1 160) (z.1 161) (evR z nU) a) ∨ (¬ srcO nI nL nU a ∧ r.1 = -1))) := fun n1 n2 => by
    unfold q_Model_value_j38
    rw [h.u]
    refine ok_br (fun e => no (by unfold srcO; omega)) fun e => ?_
    (refine ok_gd (by omega) ?_)
    exact ok_br (fun e => no (by unfold srcO; omega)) fun e => ye (by unfold srcO; omega)
  have j19 : ¬ (0 ≤ a ∧ a < nI) → zOk (q_Model_value_j19 E (kL c) a z) (fun r => zOff (fun k j => k = 164) z r.2 ∧ ((srcO nI nL nU a ∧ r.1 = lev (z.1 160) (z.1 161) (evR z nU) a) ∨ (¬ srcO nI nL nU a ∧ r.1 = -1))) := fun n1 => by
    unfold q_Model_value_j19
    rw [h.l]
    refine ok_br (fun e => j38 n1 (by omega)) fun e => ?_
    (refine ok_gd (by omega) ?_)
    exact ok_br (fun e => ye (by unfold srcO; omega)) fun e => j38 n1 (by omega)
  unfold q_Model_value
  rw [h.i]
  (refine ok_neg (by omega) ?_)
  refine ok_br (fun e => j19 (by omega)) fun e => ?_
  exact ok_br (fun e => ye (by unfold srcO; omega)) fun e => j19 (by omega)
end
-- D6
section
variable {E : gEv} {c : gCf}
/-- both circuits -/
abbrev CJ (c : gCf) (cb : Int) (nU nL nI nO nF : Nat) (z : gZ) : Prop := ∃ _ : (CK c nU nL nI z), ∃ _ : (CR c nU nL nI nF z), ∃ _ : (frC nU z), ∃ _ : (∀ j, j < nU * 4 → z.1 35 j = z.1 117 j), ∃ _ : (∀ l, l < nU → z.1 36 l = z.1 118 l), ∃ _ : (∀ i, i < nI → z.1 38 i = z.1 160 i), ∃ _ : (∀ j, j < nL → z.1 33 j = z.1 161 j), ∃ _ : (∀ j, j < nL → ∃ v : Nat, z.1 106 j = v ∧ okV nU nL nI nF z v ∧ z.1 31 j = srcF z v), ∃ _ : (z.1 30 13 = nO), ∃ _ : (z.1 94 30 = nO), ∃ _ : (nO ≤ kD c), ∃ _ : (∀ j, j < nO → ∃ v : Nat, z.1 105 j = v ∧ okV nU nL nI nF z v ∧ z.1 39 j = srcF z v), (z.1 30 14 = z.1 94 105 ∧ 0 ≤ z.1 30 14 ∧ z.1 30 14 ≤ cb)
theorem CJ.k {c : gCf} {cb : Int} {nU nL nI nO nF : Nat} {z : gZ} (h : CJ c cb nU nL nI nO nF z) : CK c nU nL nI z := by obtain ⟨x, _⟩ := h; exact x
theorem CJ.r {c : gCf} {cb : Int} {nU nL nI nO nF : Nat} {z : gZ} (h : CJ c cb nU nL nI nO nF z) : CR c nU nL nI nF z := by obtain ⟨_, x, _⟩ := h; exact x
theorem CJ.fr {c : gCf} {cb : Int} {nU nL nI nO nF : Nat} {z : gZ} (h : CJ c cb nU nL nI nO nF z) : frC nU z := by obtain ⟨_, _, x, _⟩ := h; exact x
theorem CJ.pin {c : gCf} {cb : Int} {nU nL nI nO nF : Nat} {z : gZ} (h : CJ c cb nU nL nI nO nF z) : ∀ j, j < nU * 4 → z.1 35 j = z.1 117 j := by obtain ⟨_, _, _, x, _⟩ := h; exact x
theorem CJ.tab {c : gCf} {cb : Int} {nU nL nI nO nF : Nat} {z : gZ} (h : CJ c cb nU nL nI nO nF z) : ∀ l, l < nU → z.1 36 l = z.1 118 l := by obtain ⟨_, _, _, _, x, _⟩ := h; exact x
theorem CJ.x {c : gCf} {cb : Int} {nU nL nI nO nF : Nat} {z : gZ} (h : CJ c cb nU nL nI nO nF z) : ∀ i, i < nI → z.1 38 i = z.1 160 i := by obtain ⟨_, _, _, _, _, x, _⟩ := h; exact x
theorem CJ.y {c : gCf} {cb : Int} {nU nL nI nO nF : Nat} {z : gZ} (h : CJ c cb nU nL nI nO nF z) : ∀ j, j < nL → z.1 33 j = z.1 161 j := by obtain ⟨_, _, _, _, _, _, x, _⟩ := h; exact x
theorem CJ.lat {c : gCf} {cb : Int} {nU nL nI nO nF : Nat} {z : gZ} (h : CJ c cb nU nL nI nO nF z) : ∀ j, j < nL → ∃ v : Nat, z.1 106 j = v ∧ okV nU nL nI nF z v ∧ z.1 31 j = srcF z v := by obtain ⟨_, _, _, _, _, _, _, x, _⟩ := h; exact x
theorem CJ.o {c : gCf} {cb : Int} {nU nL nI nO nF : Nat} {z : gZ} (h : CJ c cb nU nL nI nO nF z) : z.1 30 13 = nO := by obtain ⟨_, _, _, _, _, _, _, _, x, _⟩ := h; exact x
theorem CJ.om {c : gCf} {cb : Int} {nU nL nI nO nF : Nat} {z : gZ} (h : CJ c cb nU nL nI nO nF z) : z.1 94 30 = nO := by obtain ⟨_, _, _, _, _, _, _, _, _, x, _⟩ := h; exact x
theorem CJ.ob {c : gCf} {cb : Int} {nU nL nI nO nF : Nat} {z : gZ} (h : CJ c cb nU nL nI nO nF z) : nO ≤ kD c := by obtain ⟨_, _, _, _, _, _, _, _, _, _, x, _⟩ := h; exact x
theorem CJ.out {c : gCf} {cb : Int} {nU nL nI nO nF : Nat} {z : gZ} (h : CJ c cb nU nL nI nO nF z) : ∀ j, j < nO → ∃ v : Nat, z.1 105 j = v ∧ okV nU nL nI nF z v ∧ z.1 39 j = srcF z v := by obtain ⟨_, _, _, _, _, _, _, _, _, _, _, x, _⟩ := h; exact x
theorem CJ.ck {c : gCf} {cb : Int} {nU nL nI nO nF : Nat} {z : gZ} (h : CJ c cb nU nL nI nO nF z) : z.1 30 14 = z.1 94 105 ∧ 0 ≤ z.1 30 14 ∧ z.1 30 14 ≤ cb := by obtain ⟨_, _, _, _, _, _, _, _, _, _, _, _, x⟩ := h; exact x
def iCir (c : gCf) (cb : Int) (z : gZ) : Prop := (z.1 0 10 = 0 ∧ z.1 94 106 = 0 ∧ z.1 30 10 = 0 ∧ z.1 30 11 = 0 ∧ z.1 30 12 = 0 ∧ z.1 30 13 = 0 ∧ z.1 30 14 = 0 ∧ z.1 94 105 = 0 ∧ 0 ≤ cb ∧ frC 0 z) ∨ (z.1 0 10 = 1 ∧ z.1 94 106 = 1 ∧ ∃ nU nL nI nO nF, CJ c cb nU nL nI nO nF z)
def pCi (k j : Nat) : Prop := k = 33 ∨ k = 34 ∨ k = 37 ∨ k = 38 ∨ (k = 30 ∧ (j = 14 ∨ j = 15)) ∨ (160 ≤ k ∧ k ≤ 164) ∨ (k = 94 ∧ j = 105)
theorem CJ.ev {cb : Int} {nU nL nI nO nF : Nat} {z : gZ} (hk : kOk c) (h : CJ c cb nU nL nI nO nF z) : ∀ l, l < nU → evC z nU l = evR z nU l := by
  have hD := kD_b hk
  have b2 := h.k.lb
  have b3 := h.k.ib
  exact evT_c (by omega) (by omega) h.x h.y h.k.pin h.pin h.tab
theorem CJ.lv {cb : Int} {nU nL nI nO nF : Nat} {z : gZ} {s : Int} (hk : kOk c) (h : CJ c cb nU nL nI nO nF z) (hs : srcO nI nL nU s) : lev (z.1 38) (z.1 33) (evC z nU) s = lev (z.1 160) (z.1 161) (evR z nU) s := by
  have hD := kD_b hk
  have b2 := h.k.lb
  have b3 := h.k.ib
  exact lev_c (by omega) (by omega) h.x h.y (h.ev hk) (Or.inr hs)
theorem okV_c {nU nL nI nF v : Nat} {z s : gZ} (h : ∀ k, (k = 101 ∨ k = 102 ∨ k = 119 ∨ k = 112) → s.1 k = z.1 k) : (okV nU nL nI nF s v ↔ okV nU nL nI nF z v) ∧ srcF s v = srcF z v := by
  unfold okV srcF
  rw [h 101 (by omega), h 102 (by omega), h 119 (by omega), h 112 (by omega)]
  exact ⟨Iff.rfl, rfl⟩
/-- what keeps both circuits -/
theorem CJ_o {P : Nat → Nat → Prop} {cb cb' : Int} {nU nL nI nO nF : Nat} {z s : gZ} (h : CJ c cb nU nL nI nO nF z) (o : zOff P z s) (hP : ∀ k j, P k j → k = 34 ∨ k = 37 ∨ (k = 30 ∧ j = 15) ∨ k = 162 ∨ k = 163 ∨ k = 164) (hf : frC nU s) (hb : cb ≤ cb') : CJ c cb' nU nL nI nO nF s := by
  have r : ∀ k, (k = 31 ∨ k = 33 ∨ k = 35 ∨ k = 36 ∨ k = 38 ∨ k = 39 ∨ k = 105 ∨ k = 106 ∨ k = 160 ∨ k = 161 ∨ k = 117 ∨ k = 118 ∨ k = 101 ∨ k = 102 ∨ k = 119 ∨ k = 112) → s.1 k = z.1 k := fun k hk => funext fun j => o.2 k j fun x => by have := hP _ _ x; omega
  have n : ∀ k j, k = 94 ∨ (k = 30 ∧ j ≠ 15) → s.1 k j = z.1 k j := fun k j hj => o.2 k j fun x => by have := hP _ _ x; omega
  have w := fun v => okV_c (nU := nU) (nL := nL) (nI := nI) (nF := nF) (v := v) (z := z) (s := s) fun k hk => r k (by omega)
  refine ⟨CK_o h.k o fun k j x => by have := hP _ _ x; omega, CR_o h.r o fun k j x => by have := hP _ _ x; omega, hf, ?_, ?_, ?_, ?_, ?_, ?_, ?_, h.ob, ?_, ?_⟩
  · rw [r 35 (by omega), r 117 (by omega)]; exact h.pin
  · rw [r 36 (by omega), r 118 (by omega)]; exact h.tab
  · rw [r 38 (by omega), r 160 (by omega)]; exact h.x
  · rw [r 33 (by omega), r 161 (by omega)]; exact h.y
  · rw [r 106 (by omega), r 31 (by omega)]
    intro j hj
    obtain ⟨v, v1, v2, v3⟩ := h.lat j hj
    exact ⟨v, v1, (w v).1.2 v2, v3.trans (w v).2.symm⟩
  · rw [n 30 13 (by omega)]; exact h.o
  · rw [n 94 30 (by omega)]; exact h.om
  · rw [r 105 (by omega), r 39 (by omega)]
    intro j hj
    obtain ⟨v, v1, v2, v3⟩ := h.out j hj
    exact ⟨v, v1, (w v).1.2 v2, v3.trans (w v).2.symm⟩
  · rw [n 30 14 (by omega), n 94 105 (by omega)]
    exact ⟨h.ck.1, h.ck.2.1, by have := h.ck.2.2; omega⟩
theorem l_value {cb : Int} {z : gZ} (hk : kOk c) (h : iCir c cb z) (a : Int) : zOk (q_Face_value E (kL c) a z) (fun r => zOk (q_Model_value E (kL c) a r.2) (fun q => r.1 = q.1 ∧ iCir c cb q.2 ∧ zOff pCi z q.2)) := by
  unfold q_Face_value
  rcases h with h | ⟨h0, h1, nU, nL, nI, nO, nF, h⟩
  · obtain ⟨h0, h1, h2, h3, h4, h5, h6, h7, h8, h9⟩ := h
    have ck : CK c 0 0 0 z := ⟨h2, h3, h4, by omega, by omega, by omega, fun l p hl => by omega, fun l hl => by omega, fun l hl => by omega⟩
    refine ok_b2 _ (s_valueOf hk ck h9) fun v s ⟨o, f, g⟩ => ?_
    refine ok_so ?_
    have o : zOff (fun k j => k = 37 ∨ (k = 30 ∧ j = 15)) z s := o
    have g : v = -1 := by
      rcases g with g | g
      · have := g.1; unfold srcO at this; omega
      · exact g.2
    show zOk (q_Model_value E (kL c) a s) _
    unfold q_Model_value q_Model_value_j61 q_Model_value_j62
    rw [o.2 94 106 (by omega)]
    (refine ok_pos (by omega) ?_); (refine ok_pos (by omega) ?_)
    have n : ∀ k j, (k = 0 ∨ k = 94 ∨ (k = 30 ∧ j ≠ 15)) → s.1 k j = z.1 k j := fun k j hj => o.2 k j (by omega)
    refine ok_so ⟨g, Or.inl ⟨?_, ?_, ?_, ?_, ?_, ?_, ?_, ?_, h8, f⟩, off_w o fun k j x => by unfold pCi; omega⟩
    · rw [n 0 10 (by omega)]; exact h0
    · rw [n 94 106 (by omega)]; exact h1
    · rw [n 30 10 (by omega)]; exact h2
    · rw [n 30 11 (by omega)]; exact h3
    · rw [n 30 12 (by omega)]; exact h4
    · rw [n 30 13 (by omega)]; exact h5
    · rw [n 30 14 (by omega)]; exact h6
    · rw [n 94 105 (by omega)]; exact h7
  · refine ok_b2 _ (s_valueOf hk h.k h.fr) fun v s ⟨o, f, g⟩ => ?_
    refine ok_so ?_
    have o : zOff (fun k j => k = 37 ∨ (k = 30 ∧ j = 15)) z s := o
    have hs : CJ c cb nU nL nI nO nF s := CJ_o h o (by omega) f (by omega)
    show zOk (q_Model_value E (kL c) a s) _
    refine ok_w (s_valueM hk (by rw [o.2 94 106 (by omega)]; exact h1) hs.r) fun q ⟨o2, q2⟩ => ?_
    have e : evR s nU = evR z nU := by
      unfold evR
      rw [show s.1 117 = z.1 117 from funext fun j => o.2 117 j (by omega), show s.1 118 = z.1 118 from funext fun j => o.2 118 j (by omega), show s.1 160 = z.1 160 from funext fun j => o.2 160 j (by omega), show s.1 161 = z.1 161 from funext fun j => o.2 161 j (by omega)]
    rw [e, show s.1 160 = z.1 160 from funext fun j => o.2 160 j (by omega), show s.1 161 = z.1 161 from funext fun j => o.2 161 j (by omega)] at q2
    refine ⟨?_, ?_, off_t (off_w o fun k j x => by unfold pCi; omega) (off_w o2 fun k j x => by unfold pCi; omega)⟩
    · have g : (srcO nI nL nU a ∧ v = lev (z.1 38) (z.1 33) (evC z nU) a) ∨ (¬ srcO nI nL nU a ∧ v = -1) := g
      show v = q.1
      rcases g with ⟨g1, g2⟩ | ⟨g1, g2⟩ <;> rcases q2 with ⟨w1, w2⟩ | ⟨w1, w2⟩
      · rw [g2, w2]; exact h.lv hk g1
      · exact absurd g1 w1
      · exact absurd w1 g1
      · rw [g2, w2]
    · refine Or.inr ⟨by rw [o2.2 0 10 (by omega), o.2 0 10 (by omega)]; exact h0, by rw [o2.2 94 106 (by omega), o.2 94 106 (by omega)]; exact h1, nU, nL, nI, nO, nF, CJ_o hs o2 (by omega) ?_ (by omega)⟩
      unfold frC evC
      have r : ∀ k, k ≠ 164 → q.2.1 k = s.1 k := fun k hk => funext fun j => o2.2 k j (by omega)
      rw [r 30 (by decide), r 37 (by decide), r 35 (by decide), r 36 (by decide), r 38 (by decide), r 33 (by decide)]
      exact f
theorem l_drive {cb : Int} {z : gZ} (hk : kOk c) (h : iCir c cb z) (a v : Int) (hv : v = 0 ∨ v = 1) : zOk (q_Face_drive E (kL c) a v z) (fun r => zOk (q_Model_drive E (kL c) a v r.2) (fun q => r.1 = q.1 ∧ iCir c cb q.2 ∧ zOff pCi z q.2)) := by
  have hD := kD_b hk
  have keep : zOk (some ((0 : Int), z)) (fun r => zOk (some ((0 : Int), r.2)) (fun q => r.1 = q.1 ∧ iCir c cb q.2 ∧ zOff pCi z q.2)) := ok_so (ok_so ⟨rfl, h, off_r⟩)
  unfold q_Face_drive q_Model_drive
  rcases h with h' | ⟨h0, h1, nU, nL, nI, nO, nF, h⟩
  · obtain ⟨h0, h1, h2, h3, h4, h5, h6, h7, h8, h9⟩ := h'
    rw [h4]
    refine ok_br (fun e => ok_so ?_) fun e => ?_
    · show zOk (if z.1 94 106 = 0 then _ else _) _
      (refine ok_pos (by omega) ?_)
      exact ok_so ⟨rfl, Or.inl ⟨h0, h1, h2, h3, h4, h5, h6, h7, h8, h9⟩, off_r⟩
    · (refine ok_neg (by omega) ?_)
      refine ok_so ?_
      show zOk (if z.1 94 106 = 0 then _ else _) _
      (refine ok_pos (by omega) ?_)
      exact ok_so ⟨rfl, Or.inl ⟨h0, h1, h2, h3, h4, h5, h6, h7, h8, h9⟩, off_r⟩
  · have b3 := h.k.ib
    rw [h.k.i]
    have no : ¬ (0 ≤ a ∧ a < nI) → zOk (some ((0 : Int), z)) (fun r => zOk (if r.2.1 94 106 = 0 then some (0, r.2) else if a < 0 then some (0, r.2) else if a < r.2.1 94 29 then (if 0 ≤ a ∧ a < ((kL c 160 : Nat) : Int) then gLet (zPut r.2 160 a.toNat (zBool v)) fun s1 => some (1, s1) else none) else some (0, r.2)) (fun q => r.1 = q.1 ∧ iCir c cb q.2 ∧ zOff pCi z q.2)) := fun n => by
      refine ok_so ?_
      show zOk (if z.1 94 106 = 0 then _ else _) _
      have fin : zOk (some ((0 : Int), z)) (fun q => (0 : Int) = q.1 ∧ iCir c cb q.2 ∧ zOff pCi z q.2) := ok_so ⟨rfl, Or.inr ⟨h0, h1, nU, nL, nI, nO, nF, h⟩, off_r⟩
      (refine ok_neg (by omega) ?_)
      refine ok_br (fun e => fin) fun e => ?_
      show zOk (if a < z.1 94 29 then _ else _) _
      rw [h.r.i]
      (refine ok_neg (by omega) ?_)
      exact fin
    refine ok_br (fun e => no (by omega)) fun e => ?_
    refine ok_br (fun e2 => ?_) fun e2 => no (by omega)
    have main : zOk (q_Face_drive_j31 E (kL c) a v z) (fun r => zOk (if r.2.1 94 106 = 0 then some (0, r.2) else if a < 0 then some (0, r.2) else if a < r.2.1 94 29 then (if 0 ≤ a ∧ a < ((kL c 160 : Nat) : Int) then gLet (zPut r.2 160 a.toNat (zBool v)) fun s1 => some (1, s1) else none) else some (0, r.2)) (fun q => r.1 = q.1 ∧ iCir c cb q.2 ∧ zOff pCi z q.2)) := by
      unfold q_Face_drive_j31 q_Circuit_setInput
      rw [kL_38, kL_160, zBool_n v hv]
      refine ok_b1 (fun s => s = zPut (zPut z 38 a.toNat v) 30 15 0) ?_ fun s hs => ?_
      · (refine ok_gd (by omega) ?_); (refine ok_ll ?_); (refine ok_ll ?_); exact ok_so rfl
      · refine ok_so ?_
        subst hs
        show zOk (if (zPut (zPut z 38 a.toNat v) 30 15 0).1 94 106 = 0 then _ else _) _
        have o1 : zOff (fun k j => (k = 38 ∧ j = a.toNat) ∨ (k = 30 ∧ j = 15)) z (zPut (zPut z 38 a.toNat v) 30 15 0) := off_t (off_put (by omega)) (off_put (by omega))
        have e38 : ∀ i, (zPut (zPut z 38 a.toNat v) 30 15 0).1 38 i = if i = a.toNat then v else z.1 38 i := fun i => by (simp only [zp1, zr1, zf1, Nat.reduceEqDiff, Nat.reduceBEq, reduceIte, if_true, if_false, and_true, true_and, and_false, false_and, gtN])
        have e15 : (zPut (zPut z 38 a.toNat v) 30 15 0).1 30 15 = 0 := by (simp only [zp1, zr1, zf1, Nat.reduceEqDiff, Nat.reduceBEq, reduceIte, if_true, if_false, and_true, true_and, and_false, false_and, gtN])
        generalize zPut (zPut z 38 a.toNat v) 30 15 0 = s at o1 e38 e15 ⊢
        have m29 : s.1 94 29 = nI := by rw [o1.2 94 29 (by omega)]; exact h.r.i
        have m106 : s.1 94 106 = 1 := by rw [o1.2 94 106 (by omega)]; exact h1
        show zOk (if s.1 94 106 = 0 then some ((0 : Int), s) else if a < 0 then some (0, s) else if a < s.1 94 29 then (if 0 ≤ a ∧ a < ((48 : Nat) : Int) then gLet (zPut s 160 a.toNat v) fun s1 => some (1, s1) else none) else some (0, s)) _
        (refine ok_neg (by omega) ?_); (refine ok_neg (by omega) ?_); (refine ok_pos (by omega) ?_); (refine ok_gd (by omega) ?_); (refine ok_ll ?_)
        have o2 : zOff (fun k j => k = 160 ∧ j = a.toNat) s (zPut s 160 a.toNat v) := off_put ⟨rfl, rfl⟩
        have f160 : ∀ i, (zPut s 160 a.toNat v).1 160 i = if i = a.toNat then v else z.1 160 i := fun i => by
          (simp only [zp1, zr1, zf1, Nat.reduceEqDiff, Nat.reduceBEq, reduceIte, if_true, if_false, and_true, true_and, and_false, false_and, gtN]); rw [o1.2 160 i (by omega)]
        generalize zPut s 160 a.toNat v = t at o2 f160 ⊢
        have o : zOff (fun k j => (k = 38 ∧ j = a.toNat) ∨ (k = 30 ∧ j = 15) ∨ (k = 160 ∧ j = a.toNat)) z t := off_t (off_w o1 fun k j x => by omega) (off_w o2 fun k j x => by omega)
        have r : ∀ k, k ≠ 38 → k ≠ 30 → k ≠ 160 → t.1 k = z.1 k := fun k h1 h2 h3 => funext fun j => o.2 k j (by omega)
        have n : ∀ j, j ≠ 15 → t.1 30 j = z.1 30 j := fun j hj => o.2 30 j (by omega)
        have t38 : ∀ i, t.1 38 i = if i = a.toNat then v else z.1 38 i := fun i => by rw [o2.2 38 i (by omega)]; exact e38 i
        have w := fun v => okV_c (nU := nU) (nL := nL) (nI := nI) (nF := nF) (v := v) (z := z) (s := t) fun k hk => r k (by omega) (by omega) (by omega)
        have q94 : t.1 94 = z.1 94 := r 94 (by omega) (by omega) (by omega)
        refine ok_so ⟨rfl, Or.inr ⟨by rw [r 0 (by omega) (by omega) (by omega)]; exact h0, by rw [q94]; exact h1, nU, nL, nI, nO, nF, ?_⟩, off_w o fun k j x => by unfold pCi; omega⟩
        refine ⟨⟨by rw [n 10 (by omega)]; exact h.k.u, by rw [n 11 (by omega)]; exact h.k.l, by rw [n 12 (by omega)]; exact h.k.i, h.k.ub, h.k.lb, h.k.ib, by rw [r 35 (by omega) (by omega) (by omega)]; exact h.k.pin, fun i hi => ?_, by rw [r 33 (by omega) (by omega) (by omega)]; exact h.k.y⟩, ?_, Or.inl (by rw [o2.2 30 15 (by omega)]; exact e15), ?_, ?_, fun i hi => ?_, ?_, ?_, ?_, ?_, h.ob, ?_, ?_⟩
        · rw [t38]; split
          · exact hv
          · exact h.k.x i hi
        · refine ⟨by rw [q94]; exact h.r.u, by rw [q94]; exact h.r.l, by rw [q94]; exact h.r.i, by rw [q94]; exact h.r.f, h.r.ub, h.r.lb, h.r.ib, h.r.fb, by rw [r 117 (by omega) (by omega) (by omega)]; exact h.r.pin, fun i hi => ?_, by rw [r 161 (by omega) (by omega) (by omega)]; exact h.r.y, ?_, by rw [r 114 (by omega) (by omega) (by omega)]; exact h.r.val, by rw [r 115 (by omega) (by omega) (by omega)]; exact h.r.all, ?_⟩
          · rw [f160]; split
            · exact hv
            · exact h.r.x i hi
          · unfold okV
            rw [r 115 (by omega) (by omega) (by omega), r 110 (by omega) (by omega) (by omega), r 111 (by omega) (by omega) (by omega), r 101 (by omega) (by omega) (by omega), r 102 (by omega) (by omega) (by omega), r 119 (by omega) (by omega) (by omega), r 112 (by omega) (by omega) (by omega)]
            exact h.r.ord
          · unfold lutF adrF srcF
            rw [r 117 (by omega) (by omega) (by omega), r 118 (by omega) (by omega) (by omega), r 119 (by omega) (by omega) (by omega), r 112 (by omega) (by omega) (by omega), r 114 (by omega) (by omega) (by omega), r 111 (by omega) (by omega) (by omega), r 101 (by omega) (by omega) (by omega), r 102 (by omega) (by omega) (by omega), r 110 (by omega) (by omega) (by omega)]
            exact h.r.sem
        · rw [r 35 (by omega) (by omega) (by omega), r 117 (by omega) (by omega) (by omega)]; exact h.pin
        · rw [r 36 (by omega) (by omega) (by omega), r 118 (by omega) (by omega) (by omega)]; exact h.tab
        · rw [t38, f160]; split
          · rfl
          · exact h.x i hi
        · rw [r 33 (by omega) (by omega) (by omega), r 161 (by omega) (by omega) (by omega)]; exact h.y
        · rw [r 106 (by omega) (by omega) (by omega), r 31 (by omega) (by omega) (by omega)]
          intro j hj
          obtain ⟨v, v1, v2, v3⟩ := h.lat j hj
          exact ⟨v, v1, (w v).1.2 v2, v3.trans (w v).2.symm⟩
        · rw [n 13 (by omega)]; exact h.o
        · rw [q94]; exact h.om
        · rw [r 105 (by omega) (by omega) (by omega), r 39 (by omega) (by omega) (by omega)]
          intro j hj
          obtain ⟨v, v1, v2, v3⟩ := h.out j hj
          exact ⟨v, v1, (w v).1.2 v2, v3.trans (w v).2.symm⟩
        · rw [n 14 (by omega), q94]; exact h.ck
    refine ok_br (fun e3 => ?_) fun e3 => ?_
    · subst e3; exact main
    · have : v = 1 := by omega
      subst this; exact main
end
-- D7
section
variable {E : gEv} {c : gCf}
theorem CR_n {P : Nat → Nat → Prop} {z t : gZ} {nU nL nI nF : Nat} (h : CR c nU nL nI nF z) (o : zOff P z t) (hP : ∀ k j, P k j → pCi k j) (hx : b1s (t.1 160) nI) (hy : b1s (t.1 161) nL) : CR c nU nL nI nF t := by
  have r : ∀ k, (k = 101 ∨ k = 102 ∨ k = 119 ∨ k = 112 ∨ k = 111 ∨ k = 115 ∨ k = 110 ∨ k = 114 ∨ k = 117 ∨ k = 118) → t.1 k = z.1 k := fun k hk => funext fun j => o.2 k j fun x => by have := hP _ _ x; unfold pCi at this; omega
  have n : ∀ j, (j = 46 ∨ j = 31 ∨ j = 29 ∨ j = 32) → t.1 94 j = z.1 94 j := fun j hj => o.2 94 j fun x => by have := hP _ _ x; unfold pCi at this; omega
  refine ⟨by rw [n 46 (by omega)]; exact h.u, by rw [n 31 (by omega)]; exact h.l, by rw [n 29 (by omega)]; exact h.i, by rw [n 32 (by omega)]; exact h.f, h.ub, h.lb, h.ib, h.fb, by rw [r 117 (by omega)]; exact h.pin, hx, hy, ?_, by rw [r 114 (by omega)]; exact h.val, by rw [r 115 (by omega)]; exact h.all, ?_⟩
  · unfold okV
    rw [r 115 (by omega), r 110 (by omega), r 111 (by omega), r 101 (by omega), r 102 (by omega), r 119 (by omega), r 112 (by omega)]
    exact h.ord
  · unfold lutF adrF srcF
    rw [r 117 (by omega), r 118 (by omega), r 119 (by omega), r 112 (by omega), r 114 (by omega), r 111 (by omega), r 101 (by omega), r 102 (by omega), r 110 (by omega)]
    exact h.sem
theorem CJ_n {P : Nat → Nat → Prop} {cb cb' : Int} {nU nL nI nO nF : Nat} {z t : gZ} (h : CJ c cb nU nL nI nO nF z) (o : zOff P z t) (hP : ∀ k j, P k j → pCi k j) (hk : CK c nU nL nI t) (hf : frC nU t) (hx : b1s (t.1 160) nI) (hy : b1s (t.1 161) nL) (ex : ∀ i, i < nI → t.1 38 i = t.1 160 i) (ey : ∀ j, j < nL → t.1 33 j = t.1 161 j) (ck : t.1 30 14 = t.1 94 105 ∧ 0 ≤ t.1 30 14 ∧ t.1 30 14 ≤ cb') : CJ c cb' nU nL nI nO nF t := by
  have r : ∀ k, (k = 31 ∨ k = 35 ∨ k = 36 ∨ k = 39 ∨ k = 105 ∨ k = 106 ∨ k = 117 ∨ k = 118 ∨ k = 101 ∨ k = 102 ∨ k = 119 ∨ k = 112) → t.1 k = z.1 k := fun k hk => funext fun j => o.2 k j fun x => by have := hP _ _ x; unfold pCi at this; omega
  have n : ∀ k j, (k = 94 ∧ j ≠ 105) ∨ (k = 30 ∧ j ≠ 15 ∧ j ≠ 14) → t.1 k j = z.1 k j := fun k j hj => o.2 k j fun x => by have := hP _ _ x; unfold pCi at this; omega
  have w := fun v => okV_c (nU := nU) (nL := nL) (nI := nI) (nF := nF) (v := v) (z := z) (s := t) fun k hk => r k (by omega)
  refine ⟨hk, CR_n h.r o hP hx hy, hf, ?_, ?_, ex, ey, ?_, ?_, ?_, h.ob, ?_, ck⟩
  · rw [r 35 (by omega), r 117 (by omega)]; exact h.pin
  · rw [r 36 (by omega), r 118 (by omega)]; exact h.tab
  · rw [r 106 (by omega), r 31 (by omega)]
    intro j hj
    obtain ⟨v, v1, v2, v3⟩ := h.lat j hj
    exact ⟨v, v1, (w v).1.2 v2, v3.trans (w v).2.symm⟩
  · rw [n 30 13 (by omega)]; exact h.o
  · rw [n 94 30 (by omega)]; exact h.om
  · rw [r 105 (by omega), r 39 (by omega)]
    intro j hj
    obtain ⟨v, v1, v2, v3⟩ := h.out j hj
    exact ⟨v, v1, (w v).1.2 v2, v3.trans (w v).2.symm⟩
/-- a name's level behind mean -/
theorem s_levM {z s : gZ} {nU nL nI nF v : Nat} (hk : kOk c) (h : CR c nU nL nI nF z) (o : zOff (fun k j => k = 163) z s) (hs : ∀ f, f < nF → s.1 163 f = evR z nU (lutF z f)) (hv : okV nU nL nI nF z v) : q_Model_levelOf E (kL c) (v : Int) s = some (lev (z.1 160) (z.1 161) (evR z nU) (srcF z v)) := by
  have r : ∀ a, a ≠ 163 → s.1 a = z.1 a := fun a ha => funext fun j => o.2 a j (by omega)
  have w := okV_c (nU := nU) (nL := nL) (nI := nI) (nF := nF) (v := v) (z := z) (s := s) fun k hk => r k (by omega)
  have := s_levelOfM (E := E) (t := s) (ev := evR z nU) hk h.ib h.lb h.fb (w.1.2 hv) (by rw [r 160 (by decide)]; exact h.x) (by rw [r 161 (by decide)]; exact h.y) (fun l _ => evT_b _ _) fun e => by
    rw [r 101 (by decide)] at e
    rw [r 102 (by decide), r 119 (by decide)]
    rcases hv.2 with w | w | ⟨-, -, -, f', f1', f2', f3'⟩
    · omega
    · omega
    · rw [f2', gtN, hs f' f1']
      unfold lutF
      rw [f3', gtN]
  rw [this, w.2, r 160 (by decide), r 161 (by decide)]
theorem l_out {cb : Int} {z : gZ} (hk : kOk c) (h : iCir c cb z) (a : Int) : zOk (q_Face_out E (kL c) a z) (fun r => zOk (q_Model_out E (kL c) a r.2) (fun q => r.1 = q.1 ∧ iCir c cb q.2 ∧ zOff pCi z q.2)) := by
  have hD := kD_b hk
  rcases h with h' | ⟨h0, h1, nU, nL, nI, nO, nF, h⟩
  · have fin : zOk (some ((-1 : Int), z)) (fun r => zOk (q_Model_out E (kL c) a r.2) (fun q => r.1 = q.1 ∧ iCir c cb q.2 ∧ zOff pCi z q.2)) := by
      refine ok_so ?_
      show zOk (q_Model_out E (kL c) a z) _
      unfold q_Model_out
      have := h'.2.1
      (refine ok_pos (by omega) ?_)
      exact ok_so ⟨rfl, Or.inl h', off_r⟩
    obtain ⟨h0, h1, h2, h3, h4, h5, h6, h7, h8, h9⟩ := h'
    unfold q_Face_out
    rw [h5]
    refine ok_br (fun e => fin) fun e => ?_
    (refine ok_neg (by omega) ?_)
    exact fin
  · have b3 := h.ob
    have fin : ¬ (0 ≤ a ∧ a < nO) → zOk (some ((-1 : Int), z)) (fun r => zOk (q_Model_out E (kL c) a r.2) (fun q => r.1 = q.1 ∧ iCir c cb q.2 ∧ zOff pCi z q.2)) := fun n => by
      refine ok_so ?_
      show zOk (q_Model_out E (kL c) a z) _
      unfold q_Model_out
      rw [h.om]
      have := h1
      (refine ok_neg (by omega) ?_)
      refine ok_br (fun e => ok_so ⟨rfl, Or.inr ⟨h0, h1, nU, nL, nI, nO, nF, h⟩, off_r⟩) fun e => ?_
      (refine ok_neg (by omega) ?_)
      exact ok_so ⟨rfl, Or.inr ⟨h0, h1, nU, nL, nI, nO, nF, h⟩, off_r⟩
    unfold q_Face_out
    rw [h.o]
    refine ok_br (fun e => fin (by omega)) fun e => ?_
    refine ok_br (fun e2 => ?_) fun e2 => fin (by omega)
    rw [kL_39]
    (refine ok_gd (by omega) ?_)
    obtain ⟨v, v1, v2, v3⟩ := h.out a.toNat (by omega)
    rw [v3]
    refine ok_b2 _ (s_valueOf hk h.k h.fr) fun u s ⟨o, f, g⟩ => ?_
    refine ok_so ?_
    have o : zOff (fun k j => k = 37 ∨ (k = 30 ∧ j = 15)) z s := o
    have hs : CJ c cb nU nL nI nO nF s := CJ_o h o (by omega) f (by omega)
    have sv := okV_s v2
    have g : u = lev (z.1 38) (z.1 33) (evC z nU) (srcF z v) := by
      rcases g with g | g
      · exact g.2
      · exact absurd sv g.1
    show zOk (q_Model_out E (kL c) a s) _
    unfold q_Model_out
    have m106 : s.1 94 106 = 1 := by rw [o.2 94 106 (by omega)]; exact h1
    rw [hs.om, kL_105]
    (refine ok_neg (by omega) ?_); (refine ok_neg (by omega) ?_); (refine ok_pos (by omega) ?_)
    refine ok_b1 _ (s_mean hk hs.r) fun t ⟨o2, ht⟩ => ?_
    (refine ok_gd (by omega) ?_)
    have r : ∀ k, k ≠ 37 → k ≠ 30 → s.1 k = z.1 k := fun k h1 h2 => funext fun j => o.2 k j (by omega)
    have w := okV_c (nU := nU) (nL := nL) (nI := nI) (nF := nF) (v := v) (z := z) (s := s) fun k hk => r k (by omega) (by omega)
    rw [o2.2 105 _ (by omega), o.2 105 _ (by omega), v1]
    refine ok_v1 (s_levM hk hs.r o2 ht (w.1.2 v2)) ?_
    have e5 : lev (s.1 160) (s.1 161) (evR s nU) (srcF s v) = u := by
      unfold evR
      rw [g, w.2, r 160 (by omega) (by omega), r 161 (by omega) (by omega), r 117 (by omega) (by omega), r 118 (by omega) (by omega)]
      exact (h.lv hk sv).symm
    rw [e5]
    have b2 := h.k.lb
    have b4 := h.k.ib
    have hb : b01 u := by rw [g]; exact lev_b (by omega) (by omega) h.k.x h.k.y (fun l hl => evT_b _ _) (Or.inr sv)
    have oA : zOff pCi z t := off_t (off_w o fun k j x => by unfold pCi; omega) (off_w o2 fun k j x => by unfold pCi; omega)
    have jn : iCir c cb t := by
      refine Or.inr ⟨by rw [o2.2 0 10 (by omega), o.2 0 10 (by omega)]; exact h0, by rw [o2.2 94 106 (by omega)]; exact m106, nU, nL, nI, nO, nF, CJ_o hs o2 (by omega) ?_ (by omega)⟩
      unfold frC evC
      have r : ∀ k, k ≠ 163 → t.1 k = s.1 k := fun k hk => funext fun j => o2.2 k j (by omega)
      rw [r 30 (by decide), r 37 (by decide), r 35 (by decide), r 36 (by decide), r 38 (by decide), r 33 (by decide)]
      exact f
    refine ok_br (fun e3 => ok_so ⟨e3, jn, oA⟩) (fun e3 => ok_so ⟨?_, jn, oA⟩)
    rcases hb with x | x
    · exact absurd x e3
    · exact x
end
-- D8
section
variable {E : gEv} {c : gCf}
def pCk (k j : Nat) : Prop := k = 161 ∨ k = 162 ∨ k = 163 ∨ (k = 94 ∧ j = 105)
def lsF (z : gZ) (j : Nat) : Int := srcF z (z.1 106 j).toNat
def stR (z : gZ) (nU k : Nat) : Nat → Int := stN (z.1 117) (z.1 118) (z.1 160) (lsF z) nU (z.1 161) k
theorem s_clockM {z : gZ} {nU nL nI nF n : Nat} (hk : kOk c) (h : CR c nU nL nI nF z) (hl : ∀ j, j < nL → ∃ v : Nat, z.1 106 j = v ∧ okV nU nL nI nF z v) (hn : n ≤ 1000) (h5 : 0 ≤ z.1 94 105 ∧ z.1 94 105 ≤ 1000000) : zOk (gIter (fun y => q_Model_clock_22 E (kL c) (n : Int) y.1 y.2) gN (0, z)) (fun s => zOff pCk z s ∧ CR c nU nL nI nF s ∧ s.1 94 105 = z.1 94 105 + n ∧ ∀ j, j < nL → s.1 161 j = stR z nU n j) := by
  have hD := kD_b hk
  have b2 := h.lb
  have b3 := h.ib
  have hls : lsO nI nL nU (lsF z) := fun j hj => by
    obtain ⟨v, v1, v2⟩ := hl j hj
    unfold lsF
    rw [v1, gtN]; exact okV_s v2
  refine it_for (fun (i : Nat) (t : gZ) => ((i : Int), t)) (fun i t => zOff pCk z t ∧ CR c nU nL nI nF t ∧ t.1 94 105 = z.1 94 105 + i ∧ ∀ j, j < nL → t.1 161 j = stR z nU i j) 0 n rfl ⟨off_r, h, by omega, fun j hj => rfl⟩ (by omega) (by omega) ?_ ?_
  · intro i t _ hi ⟨o, ct, ci, cy⟩
    have q : ∀ k, k = 117 ∨ k = 118 ∨ k = 160 ∨ k = 106 ∨ k = 101 ∨ k = 102 ∨ k = 119 ∨ k = 112 → t.1 k = z.1 k := fun k hk => funext fun j => o.2 k j (by unfold pCk; omega)
    have w := fun v => okV_c (nU := nU) (nL := nL) (nI := nI) (nF := nF) (v := v) (z := z) (s := t) fun k hk => q k (by omega)
    show zOk (q_Model_clock_22 E (kL c) (n : Int) (i : Int) t) _
    unfold q_Model_clock_22
    (refine ok_neg (by omega) ?_)
    refine ok_b1 _ (s_mean hk ct) fun s ⟨o1, hs⟩ => ?_
    have nxt : ∀ j, j < nL → lev (t.1 160) (t.1 161) (evR t nU) (lsF z j) = stR z nU (i + 1) j := fun j hj => by
      unfold evR
      rw [q 117 (by omega), q 118 (by omega), q 160 (by omega)]
      have hp : pinO nI nL nU (z.1 117) := h.pin
      exact stp_c (ls := lsF z) (by omega) (by omega) hp (fun _ _ => rfl) (fun _ _ => rfl) (fun _ _ => rfl) hls (fun _ _ => rfl) cy j hj
    have nxb : ∀ j, j < nL → b01 (stR z nU (i + 1) j) := fun j hj => by
      rw [← nxt j hj]
      exact lev_b (by omega) (by omega) ct.x ct.y (fun l hl => evT_b _ _) (Or.inr (hls j hj))
    refine ok_b1 (fun s' => zOff (fun k j => k = 162) s s' ∧ ∀ j, j < nL → s'.1 162 j = stR z nU (i + 1) j) ?_ fun s' ⟨o2, hs'⟩ => ?_
    · refine it_for (fun (i : Nat) (t : gZ) => ((i : Int), t)) (fun j u => zOff (fun k j => k = 162) s u ∧ ∀ j', j' < j → u.1 162 j' = stR z nU (i + 1) j') 0 nL rfl ⟨off_r, fun j hj => by omega⟩ (by omega) (by omega) ?_ ?_
      · intro j u _ hj ⟨ou, hu⟩
        obtain ⟨v, v1, v2⟩ := hl j hj
        have e94 : u.1 94 31 = nL := by rw [ou.2 94 31 (by omega), o1.2 94 31 (by omega)]; exact ct.l
        have e106 : u.1 106 j = v := by rw [ou.2 106 j (by omega), o1.2 106 j (by omega), q 106 (by omega)]; exact v1
        show zOk (q_Model_clock_33 E (kL c) (n : Int) (i : Int) (j : Int) u) _
        unfold q_Model_clock_33
        rw [kL_106, kL_162, gtN, e94, e106]
        (refine ok_neg (by omega) ?_); (refine ok_gd (by omega) ?_)
        have lu : q_Model_levelOf E (kL c) (v : Int) u = some (lev (t.1 160) (t.1 161) (evR t nU) (srcF t v)) := by
          have r : ∀ a, a ≠ 163 → a ≠ 162 → u.1 a = t.1 a := fun a ha hb => (funext fun j => ou.2 a j (by omega)).trans (funext fun j => o1.2 a j (by omega))
          have w2 := okV_c (nU := nU) (nL := nL) (nI := nI) (nF := nF) (v := v) (z := t) (s := u) fun k hk => r k (by omega) (by omega)
          have := s_levelOfM (E := E) (t := u) (ev := evR t nU) hk ct.ib ct.lb ct.fb (w2.1.2 ((w v).1.2 v2)) (by rw [r 160 (by decide) (by decide)]; exact ct.x) (by rw [r 161 (by decide) (by decide)]; exact ct.y) (fun l _ => evT_b _ _) fun e => by
            rw [r 101 (by decide) (by decide)] at e
            rw [r 102 (by decide) (by decide), r 119 (by decide) (by decide)]
            have v2t := (w v).1.2 v2
            rcases v2t.2 with w | w | ⟨-, -, -, f', f1', f2', f3'⟩
            · omega
            · omega
            · rw [f2', gtN, ou.2 163 f' (by omega), hs f' f1']
              unfold lutF
              rw [f3', gtN]
          rw [this, w2.2, r 160 (by decide) (by decide), r 161 (by decide) (by decide)]
        have e7 : lev (t.1 160) (t.1 161) (evR t nU) (srcF t v) = stR z nU (i + 1) j := by
          rw [← nxt j hj, (w v).2]
          unfold lsF
          rw [v1, gtN]
        rw [e7] at lu
        refine ok_v1 lu ?_
        (refine ok_gd (by omega) ?_); (refine ok_ll ?_); (refine ok_ll ?_)
        refine ok_inl (Or.inl ⟨_, rfl, off_t ou (off_put rfl), fun j' hj' => ?_⟩)
        rw [zBool_n _ (nxb j hj)]
        (simp only [zp1, zr1, zf1, Nat.reduceEqDiff, Nat.reduceBEq, reduceIte, if_true, if_false, and_true, true_and, and_false, false_and, gtN])
        by_cases e1 : j' = j
        · rw [if_pos e1, e1]
        · rw [if_neg e1]; exact hu j' (by omega)
      · intro u ⟨ou, hu⟩
        have e94 : u.1 94 31 = nL := by rw [ou.2 94 31 (by omega), o1.2 94 31 (by omega)]; exact ct.l
        show zOk (q_Model_clock_33 E (kL c) (n : Int) (i : Int) (nL : Int) u) _
        unfold q_Model_clock_33
        (refine ok_pos (by omega) ?_)
        exact ok_inr ⟨_, rfl, ou, hu⟩
    · have e94' : s'.1 94 31 = nL := by rw [o2.2 94 31 (by omega), o1.2 94 31 (by omega)]; exact ct.l
      refine ok_b1 (fun s'' => zOff (fun k j => k = 161) s' s'' ∧ ∀ j, j < nL → s''.1 161 j = stR z nU (i + 1) j) ?_ fun s'' ⟨o3, hs''⟩ => ?_
      · refine it_for (fun (i : Nat) (t : gZ) => ((i : Int), t)) (fun j u => zOff (fun k j => k = 161) s' u ∧ ∀ j', j' < j → u.1 161 j' = stR z nU (i + 1) j') 0 nL rfl ⟨off_r, fun j hj => by omega⟩ (by omega) (by omega) ?_ ?_
        · intro j u _ hj ⟨ou, hu⟩
          have e94 : u.1 94 31 = nL := by rw [ou.2 94 31 (by omega)]; exact e94'
          show zOk (q_Model_clock_65 E (kL c) (n : Int) (i : Int) (j : Int) u) _
          unfold q_Model_clock_65
          rw [kL_161, kL_162, gtN, e94, ou.2 162 j (by omega), hs' j hj, zBool_n _ (nxb j hj)]
          (refine ok_neg (by omega) ?_); (refine ok_gd (by omega) ?_); (refine ok_gd (by omega) ?_); (refine ok_ll ?_); (refine ok_ll ?_)
          refine ok_inl (Or.inl ⟨_, rfl, off_t ou (off_put rfl), fun j' hj' => ?_⟩)
          (simp only [zp1, zr1, zf1, Nat.reduceEqDiff, Nat.reduceBEq, reduceIte, if_true, if_false, and_true, true_and, and_false, false_and, gtN])
          by_cases e1 : j' = j
          · rw [if_pos e1, e1]
          · rw [if_neg e1]; exact hu j' (by omega)
        · intro u ⟨ou, hu⟩
          have e94 : u.1 94 31 = nL := by rw [ou.2 94 31 (by omega)]; exact e94'
          show zOk (q_Model_clock_65 E (kL c) (n : Int) (i : Int) (nL : Int) u) _
          unfold q_Model_clock_65
          (refine ok_pos (by omega) ?_)
          exact ok_inr ⟨_, rfl, ou, hu⟩
      · have e5 : s''.1 94 105 = z.1 94 105 + i := by rw [o3.2 94 105 (by omega), o2.2 94 105 (by omega), o1.2 94 105 (by omega)]; exact ci
        rw [e5]
        (refine ok_gd (by omega) ?_); (refine ok_ll ?_); (refine ok_ll ?_)
        have o4 : zOff pCk t (zPut s'' 94 105 (z.1 94 105 + i + 1)) := off_t (off_w o1 fun k j x => by unfold pCk; omega) (off_t (off_w o2 fun k j x => by unfold pCk; omega) (off_t (off_w o3 fun k j x => by unfold pCk; omega) (off_put (by unfold pCk; omega))))
        have y4 : ∀ j, j < nL → (zPut s'' 94 105 (z.1 94 105 + i + 1)).1 161 j = stR z nU (i + 1) j := fun j hj => by (simp only [zp1, zr1, zf1, Nat.reduceEqDiff, Nat.reduceBEq, reduceIte, if_true, if_false, and_true, true_and, and_false, false_and, gtN]); exact hs'' j hj
        have v4 : (zPut s'' 94 105 (z.1 94 105 + i + 1)).1 94 105 = z.1 94 105 + i + 1 := by (simp only [zp1, zr1, zf1, Nat.reduceEqDiff, Nat.reduceBEq, reduceIte, if_true, if_false, and_true, true_and, and_false, false_and, gtN])
        generalize zPut s'' 94 105 (z.1 94 105 + i + 1) = u at o4 y4 v4 ⊢
        refine ok_inl (Or.inl ⟨u, rfl, off_t o o4, ?_, by rw [v4]; omega, y4⟩)
        refine CR_n ct o4 (fun k j x => by unfold pCk at x; unfold pCi; omega) ?_ (fun j hj => by rw [y4 j hj]; exact nxb j hj)
        rw [show u.1 160 = t.1 160 from funext fun j => o4.2 160 j (by unfold pCk; omega)]; exact ct.x
  · intro t ht
    show zOk (q_Model_clock_22 E (kL c) (n : Int) (n : Int) t) _
    unfold q_Model_clock_22
    (refine ok_pos (by omega) ?_)
    exact ok_inr ⟨_, rfl, ht⟩
theorem l_clock {cb : Int} {z : gZ} (hk : kOk c) (h : iCir c cb z) (hcb : cb ≤ 1000000) (a : Int) : zOk (q_Face_clock E (kL c) a z) (fun r => zOk (q_Model_clock E (kL c) a r.2) (fun q => r.1 = q.1 ∧ iCir c (cb + 1000) q.2 ∧ zOff pCi z q.2)) := by
  have hD := kD_b hk
  have up : iCir c (cb + 1000) z := by
    rcases h with ⟨h0, h1, h2, h3, h4, h5, h6, h7, h8, h9⟩ | ⟨h0, h1, nU, nL, nI, nO, nF, h⟩
    · exact Or.inl ⟨h0, h1, h2, h3, h4, h5, h6, h7, by omega, h9⟩
    · exact Or.inr ⟨h0, h1, nU, nL, nI, nO, nF, CJ_o h (off_r (P := fun _ _ => False)) (fun k j x => x.elim) h.fr (by omega)⟩
  rcases h with h' | ⟨h0, h1, nU, nL, nI, nO, nF, h⟩
  · have e0 := h'.1
    have e1 := h'.2.1
    unfold q_Face_clock
    (refine ok_pos (by omega) ?_)
    refine ok_so ?_
    show zOk (q_Model_clock E (kL c) a z) _
    unfold q_Model_clock
    (refine ok_pos (by omega) ?_)
    exact ok_so ⟨rfl, up, off_r⟩
  · have fin : (a < 0 ∨ 1000 < a) → zOk (some ((0 : Int), z)) (fun r => zOk (q_Model_clock E (kL c) a r.2) (fun q => r.1 = q.1 ∧ iCir c (cb + 1000) q.2 ∧ zOff pCi z q.2)) := fun n => by
      refine ok_so ?_
      show zOk (q_Model_clock E (kL c) a z) _
      unfold q_Model_clock
      (refine ok_neg (by omega) ?_)
      refine ok_br (fun e => ok_so ⟨rfl, up, off_r⟩) fun e => ?_
      (refine ok_neg (by omega) ?_)
      exact ok_so ⟨rfl, up, off_r⟩
    unfold q_Face_clock
    (refine ok_neg (by omega) ?_)
    refine ok_br (fun e => fin (by omega)) fun e => ?_
    refine ok_br (fun e2 => ?_) fun e2 => fin (by omega)
    have hw : ∃ n : Nat, a = n ∧ n ≤ 1000 := ⟨a.toNat, by omega, by omega⟩
    obtain ⟨n, rfl, hn⟩ := hw
    have b2 := h.k.lb
    have b3 := h.k.ib
    have ck := h.ck
    have hls : lsO nI nL nU (z.1 31) := fun j hj => by
      obtain ⟨v, v1, v2, v3⟩ := h.lat j hj
      rw [v3]; exact okV_s v2
    refine ok_b1 _ (s_runC hk h.k h.fr hls hn (by omega)) fun s ⟨o, s1, s2, s3, s4⟩ => ?_
    refine ok_so ?_
    show zOk (q_Model_clock E (kL c) (n : Int) s) _
    have r : ∀ k, 94 ≤ k → s.1 k = z.1 k := fun k hk => funext fun j => o.2 k j (by unfold pRn pRo; omega)
    have cr : CR c nU nL nI nF s := CR_o h.r o fun k j x => by unfold pRn pRo at x; omega
    have w := fun v => okV_c (nU := nU) (nL := nL) (nI := nI) (nF := nF) (v := v) (z := z) (s := s) fun k hk => r k (by omega)
    unfold q_Model_clock
    have m106 : s.1 94 106 = 1 := by rw [r 94 (by omega)]; exact h1
    (refine ok_neg (by omega) ?_); (refine ok_neg (by omega) ?_); (refine ok_pos (by omega) ?_)
    refine ok_b1 _ (s_clockM hk cr (fun j hj => by
      obtain ⟨v, v1, v2, v3⟩ := h.lat j hj
      exact ⟨v, by rw [r 106 (by omega)]; exact v1, (w v).1.2 v2⟩) hn (by rw [r 94 (by omega)]; omega)) fun t ⟨o2, t1, t2, t3⟩ => ?_
    have oA : zOff pCi z t := off_t (off_w o fun k j x => by unfold pRn pRo at x; unfold pCi; omega) (off_w o2 fun k j x => by unfold pCk at x; unfold pCi; omega)
    have rt : ∀ k, k < 94 → t.1 k = s.1 k := fun k hk => funext fun j => o2.2 k j (by unfold pCk; omega)
    refine ok_so ⟨rfl, Or.inr ⟨by rw [rt 0 (by omega), o.2 0 10 (by unfold pRn pRo; omega)]; exact h0, by rw [o2.2 94 106 (by unfold pCk; omega)]; exact m106, nU, nL, nI, nO, nF, ?_⟩, oA⟩
    refine CJ_n h oA (fun k j x => x) (CK_o s1 o2 fun k j x => by unfold pCk at x; omega) ?_ t1.x t1.y (fun i hi => ?_) (fun j hj => ?_) ?_
    · unfold frC evC
      rw [rt 30 (by omega), rt 37 (by omega), rt 35 (by omega), rt 36 (by omega), rt 38 (by omega), rt 33 (by omega)]; exact s2
    · rw [rt 38 (by omega), o.2 38 i (by unfold pRn pRo; omega), o2.2 160 i (by unfold pCk; omega), r 160 (by omega)]; exact h.x i hi
    · rw [rt 33 (by omega), s4 j hj, t3 j hj]
      unfold stR stC
      rw [r 117 (by omega), r 118 (by omega), r 160 (by omega), r 161 (by omega)]
      refine stN_c (by omega) (by omega) h.k.pin h.pin h.tab h.x hls (fun j hj => ?_) h.y n j hj
      obtain ⟨v, v1, v2, v3⟩ := h.lat j hj
      unfold lsF
      rw [v3, r 106 (by omega), v1, gtN, (w v).2]
    · rw [rt 30 (by omega), s3, t2, r 94 (by omega)]; omega
end
