set_option linter.unusedVariables false
-- X6
section
variable {E : gEv} {c : gCf}
/-- neighbour and joint k of a wire, as the grid has them -/
def nbZ' (z : gZ) (w k : Nat) : Nat := (z.1 8 (w * 6 + k)).toNat
def jnZ (z : gZ) (w k : Nat) : Nat := (z.1 9 (w * 6 + k)).toNat
def dgZ (z : gZ) (w : Nat) : Nat := (z.1 7 w).toNat
/-- the least neighbour of a kind, at its first place -/
def Pick (z : gZ) (w : Nat) (A : Nat → Prop) (n v k : Nat) : Prop := k < n ∧ nbZ' z w k = v ∧ A v ∧ (∀ k', k' < n → A (nbZ' z w k') → v ≤ nbZ' z w k') ∧ ∀ k', k' < k → nbZ' z w k' ≠ v
theorem pick_u {z : gZ} {w n v k v' k' : Nat} {A : Nat → Prop} (h : Pick z w A n v k) (h' : Pick z w A n v' k') : v = v' ∧ k = k' := by
  obtain ⟨a1, a2, a3, a4, a5⟩ := h
  obtain ⟨b1, b2, b3, b4, b5⟩ := h'
  have e1 := a4 k' b1 (by rw [b2]; exact b3)
  have e2 := b4 k a1 (by rw [a2]; exact a3)
  have e : v = v' := by omega
  refine ⟨e, ?_⟩
  rcases Nat.lt_trichotomy k k' with x | x | x
  · exact absurd (by rw [a2]; exact e) (b5 k x)
  · exact x
  · exact absurd (by rw [b2]; exact e.symm) (a5 k' x)
/-- one more place looked at -/
theorem pick_s {z : gZ} {w n v k : Nat} {A : Nat → Prop} (h : Pick z w A n v k) (e : A (nbZ' z w n) → v ≤ nbZ' z w n) : Pick z w A (n + 1) v k := by
  obtain ⟨a1, a2, a3, a4, a5⟩ := h
  refine ⟨by omega, a2, a3, fun k' hk' hA => ?_, a5⟩
  by_cases x : k' = n
  · subst x; exact e hA
  · exact a4 k' (by omega) hA
theorem pick_n {z : gZ} {w n : Nat} {A : Nat → Prop} (hA : A (nbZ' z w n)) (h : (∀ k', k' < n → ¬ A (nbZ' z w k')) ∨ ∃ v k, Pick z w A n v k ∧ nbZ' z w n < v) : Pick z w A (n + 1) (nbZ' z w n) n := by
  refine ⟨by omega, rfl, hA, fun k' hk' hA' => ?_, fun k' hk' e => ?_⟩
  · by_cases x : k' = n
    · rw [x]; exact Nat.le_refl _
    · rcases h with h | ⟨v, k, h1, h2⟩
      · exact absurd hA' (h k' (by omega))
      · have := h1.2.2.2.1 k' (by omega) hA'; omega
  · rcases h with h | ⟨v, k, h1, h2⟩
    · exact h k' hk' (by rw [e]; exact hA)
    · have := h1.2.2.2.1 k' hk' (by rw [e]; exact hA)
      omega
def updB (H : Nat → Bool) (w : Nat) : Nat → Bool := fun v => if v = w then true else H v
theorem updB_e (H : Nat → Bool) (w : Nat) : updB H w w = true := if_pos rfl
theorem updB_n {H : Nat → Bool} {w v : Nat} (h : v ≠ w) : updB H w v = H v := if_neg h
/-- the way back from a wire: which wires are gained, how they are linked -/
def Wlk (c : gCf) (z : gZ) (g : Gph) (H : Nat → Bool) (l : Nat → Int) (w : Nat) (H' : Nat → Bool) (l' : Nat → Int) : Prop := ∀ P : (Nat → Bool) → (Nat → Int) → Nat → (Nat → Bool) → (Nat → Int) → Prop, (∀ H l w, g.own w → P H l w H l) → (∀ H l w, ¬ g.own w → g.tch w → Dst g w (g.cost w) → P H l w (updB H w) (zUpd l w (-1))) → (∀ H l w D v k H' l', ¬ g.own w → Dst g w D → ¬ (g.tch w ∧ D = g.cost w) → Pick z w (fun v => ∃ m, Dst g v m ∧ m + g.cost w = D) (dgZ z w) v k → P (updB H w) (zUpd l w (jnZ z w k)) v H' l' → P H l w H' l') → P H l w H' l'
theorem Wlk.stop {z : gZ} {g : Gph} {H : Nat → Bool} {l : Nat → Int} {w : Nat} (a : g.own w) : Wlk c z g H l w H l := fun P h1 h2 h3 => h1 H l w a
theorem Wlk.drive {z : gZ} {g : Gph} {H : Nat → Bool} {l : Nat → Int} {w : Nat} (a : ¬ g.own w) (b : g.tch w) (d : Dst g w (g.cost w)) : Wlk c z g H l w (updB H w) (zUpd l w (-1)) := fun P h1 h2 h3 => h2 H l w a b d
theorem Wlk.step {z : gZ} {g : Gph} {H : Nat → Bool} {l : Nat → Int} {w D v k : Nat} {H' : Nat → Bool} {l' : Nat → Int} (a : ¬ g.own w) (b : Dst g w D) (d : ¬ (g.tch w ∧ D = g.cost w)) (e : Pick z w (fun v => ∃ m, Dst g v m ∧ m + g.cost w = D) (dgZ z w) v k) (f : Wlk c z g (updB H w) (zUpd l w (jnZ z w k)) v H' l') : Wlk c z g H l w H' l' := fun P h1 h2 h3 => h3 H l w D v k H' l' a b d e (f P h1 h2 h3)
theorem Wlk_ind {z : gZ} {g : Gph} {motive : (H : Nat → Bool) → (l : Nat → Int) → (w : Nat) → (H' : Nat → Bool) → (l' : Nat → Int) → Wlk c z g H l w H' l' → Prop} (stop : ∀ {H : Nat → Bool} {l : Nat → Int} {w : Nat} (a : g.own w), motive H l w H l (Wlk.stop a)) (drive : ∀ {H : Nat → Bool} {l : Nat → Int} {w : Nat} (a : ¬ g.own w) (b : g.tch w) (d : Dst g w (g.cost w)), motive H l w (updB H w) (zUpd l w (-1)) (Wlk.drive a b d)) (step : ∀ {H : Nat → Bool} {l : Nat → Int} {w D v k : Nat} {H' : Nat → Bool} {l' : Nat → Int} (a : ¬ g.own w) (b : Dst g w D) (d : ¬ (g.tch w ∧ D = g.cost w)) (e : Pick z w (fun v => ∃ m, Dst g v m ∧ m + g.cost w = D) (dgZ z w) v k) (f : Wlk c z g (updB H w) (zUpd l w (jnZ z w k)) v H' l'), motive (updB H w) (zUpd l w (jnZ z w k)) v H' l' f → motive H l w H' l' (Wlk.step a b d e f)) {H : Nat → Bool} {l : Nat → Int} {w : Nat} {H' : Nat → Bool} {l' : Nat → Int} (t : Wlk c z g H l w H' l') : motive H l w H' l' t := by
  obtain ⟨_, h⟩ := t (fun H l w H' l' => ∃ t : Wlk c z g H l w H' l', motive H l w H' l' t) (fun H l w a => ⟨_, stop a⟩) (fun H l w a b d => ⟨_, drive a b d⟩) (fun H l w D v k H' l' a b d e f => by obtain ⟨f1, f2⟩ := f; exact ⟨_, step a b d e f1 f2⟩)
  exact h
theorem Wlk_inv {z : gZ} {g : Gph} {H : Nat → Bool} {l : Nat → Int} {w : Nat} {H' : Nat → Bool} {l' : Nat → Int} (t : Wlk c z g H l w H' l') : (g.own w ∧ H' = H ∧ l' = l) ∨ (¬ g.own w ∧ g.tch w ∧ Dst g w (g.cost w) ∧ H' = updB H w ∧ l' = zUpd l w (-1)) ∨ (∃ D v k, ¬ g.own w ∧ Dst g w D ∧ ¬ (g.tch w ∧ D = g.cost w) ∧ Pick z w (fun v => ∃ m, Dst g v m ∧ m + g.cost w = D) (dgZ z w) v k ∧ Wlk c z g (updB H w) (zUpd l w (jnZ z w k)) v H' l') := by
  induction t using Wlk_ind with
  | stop a => exact Or.inl ⟨a, rfl, rfl⟩
  | drive a b d => exact Or.inr (Or.inl ⟨a, b, d, rfl, rfl⟩)
  | step a b d e f _ => exact Or.inr (Or.inr ⟨_, _, _, a, b, d, e, f⟩)
/-- joins a wire with its next one -/
theorem s_joinNext {z : gZ} {g : Gph} {w D : Nat} (gr : Gr c z) (hj : Jk c z) (hw : w < kW c) (hGa : g.adj = kAdj c) (hGW : g.W = kW c) (hc : ∀ w, 1 ≤ g.cost w) (hd : ∀ w, w < kW c → z.1 73 w = -1 ∨ ∃ d : Nat, z.1 73 w = d ∧ Dst g w d) (hl : ∀ w d, Dst g w d → d < D → z.1 73 w = d) (hD : Dst g w D) (ho : ¬ g.own w) (ht : ¬ (g.tch w ∧ D = g.cost w)) (f : Int) (hf : f = (D : Int) - g.cost w) : zOk (q_Router_joinNext E (kL c) (w : Int) f z) (fun r => ∃ v k : Nat, r.1 = v ∧ v < kW c ∧ Pick z w (fun v => ∃ m, Dst g v m ∧ m + g.cost w = D) (dgZ z w) v k ∧ (∃ m, Dst g v m ∧ m + g.cost w = D) ∧ r.2 = zPut z 77 w (jnZ z w k)) := by
  have hW := kW_b gr.1
  obtain ⟨d, d1, d2, d3, d4, d5⟩ := adj_z gr hj hw
  have hdg : dgZ z w = d := by unfold dgZ; rw [d2, gtN]
  rw [hdg]
  have hcw := hc w
  have nbv : ∀ k, k < d → nbZ' z w k < kW c ∧ z.1 8 (w * 6 + k) = (nbZ' z w k : Int) ∧ z.1 9 (w * 6 + k) = (jnZ z w k : Int) := fun k hk => by
    obtain ⟨v, j, v1, v2, v3, v4, v5, v6, v7⟩ := d4 k hk
    unfold nbZ' jnZ
    rw [v4, v6]
    refine ⟨?_, ?_, ?_⟩ <;> omega
  have cand : ∀ v, v < kW c → (z.1 73 v = f ↔ ∃ m, Dst g v m ∧ m + g.cost w = D) := fun v hv => by
    constructor
    · intro e
      rcases hd v hv with x | ⟨m, x1, x2⟩
      · have : D < g.cost w := by omega
        exfalso
        rcases (dst_p hD ho).2 with ⟨-, y⟩ | ⟨u, m, -, -, y⟩ <;> omega
      · exact ⟨m, x2, by omega⟩
    · rintro ⟨m, m1, m2⟩
      rw [hl v m m1 (by omega)]; omega
  obtain ⟨u, mu, u1, u2, u3⟩ : ∃ u m, g.adj u w ∧ Dst g u m ∧ D = m + g.cost w := by
    rcases (dst_p hD ho).2 with x | x
    · exact absurd x ht
    · exact x
  rw [hGa] at u1
  obtain ⟨ku, ku1, ku2⟩ := d5 u (kAdj_s u1)
  have hku : nbZ' z w ku = u := by unfold nbZ'; rw [ku2, gtN]
  unfold q_Router_joinNext
  rw [kL_7]
  (refine ok_gd (by omega) ?_)
  rw [gtN, d2]
  (refine ok_gd (by omega) ?_)
  rw [ok_l]
  (refine ok_gd (by omega) ?_)
  rw [ok_l]
  generalize hA : (fun v => ∃ m, Dst g v m ∧ m + g.cost w = D) = A
  have hA' : ∀ v, A v ↔ ∃ m, Dst g v m ∧ m + g.cost w = D := fun v => by rw [← hA]
  refine ok_b1 (fun r => ∃ v k : Nat, r.1 = v ∧ Pick z w A d v k ∧ r.2 = zPut z 77 w (jnZ z w k)) ?_ fun r ⟨v, k, r1, r2, r3⟩ => ?_
  · refine it_for (fun (i : Nat) (t : Int × gZ) => (t.1, ((w * 6 + i : Nat) : Int), t.2)) (fun i t => (t.1 = -1 ∧ t.2 = z ∧ ∀ k', k' < i → ¬ A (nbZ' z w k')) ∨ ∃ v k : Nat, t.1 = v ∧ Pick z w A i v k ∧ t.2 = zPut z 77 w (jnZ z w k)) 0 d (t := (-1, z)) rfl (Or.inl ⟨rfl, rfl, fun k hk => by omega⟩) (by omega) (by omega) ?_ ?_
    · rintro i ⟨nx, t⟩ - hi h
      obtain ⟨n1, n2, n3⟩ := nbv i hi
      have tz : ∀ k j, k ≠ 77 → t.1 k j = z.1 k j := fun k j hk => by
        rcases h with ⟨-, h, -⟩ | ⟨v, k', -, -, h⟩
        · have h : t = z := h
          rw [h]
        · have h : t = zPut z 77 w (jnZ z w k') := h
          rw [h, zp_ne _ _ _ _ _ hk]
      show zOk (q_Router_joinNext_24 E (kL c) (w : Int) f ((w : Int) * 6 + (d : Int)) nx ((w * 6 + i : Nat) : Int) t) _
      unfold q_Router_joinNext_24
      rw [kL_8, kL_73]
      (refine ok_neg (by omega) ?_); (refine ok_gd (by omega) ?_)
      rw [gtN, tz 8 _ (by decide), n2, ok_l]
      (refine ok_gd (by omega) ?_)
      rw [gtN, tz 73 _ (by decide)]
      have put : A (nbZ' z w i) → ((∀ k', k' < i → ¬ A (nbZ' z w k')) ∨ ∃ v k, Pick z w A i v k ∧ nbZ' z w i < v) → zOk (q_Router_joinNext_j68_24 E (kL c) (w : Int) f ((w : Int) * 6 + (d : Int)) ((w * 6 + i : Nat) : Int) (nbZ' z w i : Int) t) (fun r => (∃ t' : Int × gZ, r = Sum.inl (t'.1, ((w * 6 + (i + 1) : Nat) : Int), t'.2) ∧ ((t'.1 = -1 ∧ t'.2 = z ∧ ∀ k', k' < i + 1 → ¬ A (nbZ' z w k')) ∨ ∃ v k : Nat, t'.1 = v ∧ Pick z w A (i + 1) v k ∧ t'.2 = zPut z 77 w (jnZ z w k))) ∨ ∃ e, r = Sum.inr e ∧ ∃ v k : Nat, e.1 = v ∧ Pick z w A d v k ∧ e.2 = zPut z 77 w (jnZ z w k)) := fun a b => by
        unfold q_Router_joinNext_j68_24
        rw [kL_9, kL_77]
        (refine ok_gd (by omega) ?_); (refine ok_gd (by omega) ?_)
        rw [ok_l]
        (refine ok_gd (by omega) ?_)
        rw [ok_l]
        refine ok_inl (Or.inl ⟨((nbZ' z w i : Int), zPut z 77 w (jnZ z w i)), ?_, Or.inr ⟨nbZ' z w i, i, rfl, pick_n a b, rfl⟩⟩)
        rw [gtN, gtN, tz 9 _ (by decide), n3]
        have : zPut t 77 w (jnZ z w i : Int) = zPut z 77 w (jnZ z w i : Int) := by
          rcases h with ⟨-, h, -⟩ | ⟨v, k', -, -, h⟩
          · have h : t = z := h
            rw [h]
          · have h : t = zPut z 77 w (jnZ z w k') := h
            rw [h, zp_row, zp_row, zr_row, zp_row]
            apply zr_congr
            intro j
            rw [zr1, if_pos rfl]
            by_cases e : j = w
            · rw [if_pos e, if_pos e]
            · rw [if_neg e, if_neg e, if_neg e]
        rw [this]
        rfl
      have skip : (A (nbZ' z w i) → ∃ v k : Nat, nx = v ∧ Pick z w A i v k ∧ t = zPut z 77 w (jnZ z w k) ∧ v ≤ nbZ' z w i) → zOk (gLet (((w * 6 + i : Nat) : Int) + 1) fun x6 => some (.inl (nx, x6, t)) : Option ((Int × Int × gZ) ⊕ (Int × gZ))) (fun r => (∃ t' : Int × gZ, r = Sum.inl (t'.1, ((w * 6 + (i + 1) : Nat) : Int), t'.2) ∧ ((t'.1 = -1 ∧ t'.2 = z ∧ ∀ k', k' < i + 1 → ¬ A (nbZ' z w k')) ∨ ∃ v k : Nat, t'.1 = v ∧ Pick z w A (i + 1) v k ∧ t'.2 = zPut z 77 w (jnZ z w k))) ∨ ∃ e, r = Sum.inr e ∧ ∃ v k : Nat, e.1 = v ∧ Pick z w A d v k ∧ e.2 = zPut z 77 w (jnZ z w k)) := fun a => by
        (refine ok_ll ?_)
        refine ok_inl (Or.inl ⟨(nx, t), rfl, ?_⟩)
        by_cases e : A (nbZ' z w i)
        · obtain ⟨v, k, a1, a2, a3, a4⟩ := a e
          exact Or.inr ⟨v, k, a1, pick_s a2 fun _ => a4, a3⟩
        · rcases h with ⟨h1, h2, h3⟩ | ⟨v, k', h1, h2, h3⟩
          · refine Or.inl ⟨h1, h2, fun k' hk' => ?_⟩
            by_cases x : k' = i
            · rw [x]; exact e
            · exact h3 k' (by omega)
          · exact Or.inr ⟨v, k', h1, pick_s h2 fun x => absurd x e, h3⟩
      refine ok_br (fun e => ?_) fun e => skip fun x => absurd ((cand _ n1).2 ((hA' _).1 x)) e
      have a : A (nbZ' z w i) := (hA' _).2 ((cand _ n1).1 e)
      refine ok_br (fun e1 => ?_) fun e1 => ?_
      · rcases h with ⟨h1, h2, h3⟩ | ⟨v, k', h1, h2, h3⟩
        · exact put a (Or.inl h3)
        · have h1 : nx = v := h1
          omega
      · rcases h with ⟨h1, h2, h3⟩ | ⟨v, k', h1, h2, h3⟩
        · exact absurd h1 e1
        · have h1 : nx = v := h1
          exact ok_br (fun e2 => skip fun _ => ⟨v, k', h1, h2, h3, by omega⟩) fun e2 => put a (Or.inr ⟨v, k', h2, by omega⟩)
    · rintro ⟨nx, t⟩ h
      show zOk (q_Router_joinNext_24 E (kL c) (w : Int) f ((w : Int) * 6 + (d : Int)) nx ((w * 6 + d : Nat) : Int) t) _
      unfold q_Router_joinNext_24
      (refine ok_pos (by omega) ?_)
      rcases h with ⟨h1, h2, h3⟩ | ⟨v, k', h1, h2, h3⟩
      · exact absurd ((hA' _).2 (by rw [hku]; exact ⟨mu, u2, u3.symm⟩)) (h3 ku ku1)
      · exact ok_inr ⟨_, rfl, v, k', h1, h2, h3⟩
  · have hv := nbv k r2.1
    rw [r2.2.1] at hv
    exact ok_so ⟨v, k, r1, hv.1, r2, (hA' v).1 r2.2.2.1, r3⟩
end
-- X7
section
variable {E : gEv} {c : gCf}
def hadB (c : gCf) (z : gZ) (n w : Nat) : Bool := zBit (z.1 74 (n * kH c + w / 32)) (w % 32)
/-- what the class has of a net: its wires H, of which others have k0 -/
abbrev EC (c : gCf) (n : Nat) (k0 : Nat → Nat) (H : Nat → Bool) (z : gZ) : Prop := ∃ _ : (z.1 70 4 = kH c), ∃ _ : (∀ w, w < kH c * 32 → hadB c z n w = H w), ∃ _ : (∀ w, H w = true → w < kW c), ∃ _ : (∀ w, w < kW c → z.1 75 w = k0 w + (if H w = true then 1 else 0)), ∃ _ : (z.1 70 12 = (cnb H (kW c) : Nat)), ∃ _ : (∀ i, i < cnb H (kW c) → ∃ w, w < kW c ∧ z.1 80 i = (w : Nat) ∧ H w = true), (∀ w, H w = true → ∃ i, i < cnb H (kW c) ∧ z.1 80 i = (w : Nat))
theorem EC.wd {c : gCf} {n : Nat} {k0 : Nat → Nat} {H : Nat → Bool} {z : gZ} (h : EC c n k0 H z) : z.1 70 4 = kH c := by obtain ⟨x, _⟩ := h; exact x
theorem EC.bit {c : gCf} {n : Nat} {k0 : Nat → Nat} {H : Nat → Bool} {z : gZ} (h : EC c n k0 H z) : ∀ w, w < kH c * 32 → hadB c z n w = H w := by obtain ⟨_, x, _⟩ := h; exact x
theorem EC.hW {c : gCf} {n : Nat} {k0 : Nat → Nat} {H : Nat → Bool} {z : gZ} (h : EC c n k0 H z) : ∀ w, H w = true → w < kW c := by obtain ⟨_, _, x, _⟩ := h; exact x
theorem EC.cn {c : gCf} {n : Nat} {k0 : Nat → Nat} {H : Nat → Bool} {z : gZ} (h : EC c n k0 H z) : ∀ w, w < kW c → z.1 75 w = k0 w + (if H w = true then 1 else 0) := by obtain ⟨_, _, _, x, _⟩ := h; exact x
theorem EC.no {c : gCf} {n : Nat} {k0 : Nat → Nat} {H : Nat → Bool} {z : gZ} (h : EC c n k0 H z) : z.1 70 12 = (cnb H (kW c) : Nat) := by obtain ⟨_, _, _, _, x, _⟩ := h; exact x
theorem EC.o1 {c : gCf} {n : Nat} {k0 : Nat → Nat} {H : Nat → Bool} {z : gZ} (h : EC c n k0 H z) : ∀ i, i < cnb H (kW c) → ∃ w, w < kW c ∧ z.1 80 i = (w : Nat) ∧ H w = true := by obtain ⟨_, _, _, _, _, x, _⟩ := h; exact x
theorem EC.o2 {c : gCf} {n : Nat} {k0 : Nat → Nat} {H : Nat → Bool} {z : gZ} (h : EC c n k0 H z) : ∀ w, H w = true → ∃ i, i < cnb H (kW c) ∧ z.1 80 i = (w : Nat) := by obtain ⟨_, _, _, _, _, _, x⟩ := h; exact x
def pGn (c : gCf) (n k j : Nat) : Prop := (k = 74 ∧ n * kH c ≤ j ∧ j < n * kH c + kH c) ∨ k = 75 ∨ k = 80 ∨ (k = 70 ∧ j = 12)
theorem kH_w {w : Nat} (h : w < kW c) : w / 32 < kH c := by unfold kH; omega
theorem had_o {P : Nat → Nat → Prop} {z s : gZ} (o : zO P z s) {m w : Nat} (hP : ¬ P 74 (m * kH c + w / 32)) : hadB c s m w = hadB c z m w := by
  unfold hadB
  rw [o 74 _ hP]
theorem ix_ne {n m a b K : Nat} (h : n ≠ m) (ha : a < K) (hb : b < K) : n * K + a ≠ m * K + b := by
  intro e
  rcases Nat.lt_or_gt_of_ne h with x | x
  · have := Nat.mul_le_mul_right K (show n + 1 ≤ m from x)
    rw [Nat.add_mul] at this
    omega
  · have := Nat.mul_le_mul_right K (show m + 1 ≤ n from x)
    rw [Nat.add_mul] at this
    omega
theorem bit_set (a : Int) (i j : Nat) (hi : i < 32) (hj : j < 32) : zBit (zOr a (zShl 1 (j : Int))) i = if i = j then true else zBit a i := by
  rw [zB_or, zB_shl 1 j i hj, zB_1]
  by_cases e : i = j
  · subst e; simp [hi]
  · rw [if_neg e]
    by_cases e2 : j ≤ i
    · have : ¬ (i - j = 0) := by omega
      simp [this]
    · simp [e2]
theorem s_gain {z : gZ} {n w : Nat} {k0 : Nat → Nat} {H : Nat → Bool} (hk : kOk c) (hn : n < kD c + kP c) (hw : w < kW c) (h : EC c n k0 H z) (hH : H w = false) (hb : k0 w ≤ 200) : zOk (q_Router_gain E (kL c) (n : Int) (w : Int) z) (fun s => EC c n k0 (updB H w) s ∧ zO (pGn c n) z s) := by
  have hW := kW_b hk
  have hD := kD_b hk
  have hP := kP_b hk
  have hc := cnb_lt hw hH
  have hcn := h.cn w hw
  rw [hH, if_neg (by decide)] at hcn
  have hq := kH_w hw
  have hH27 : kH c ≤ 27 := by unfold kH; omega
  have hix : n * kH c + w / 32 < (kD c + kP c) * kH c := by
    have := Nat.mul_le_mul_right (kH c) (show n + 1 ≤ kD c + kP c from hn)
    rw [Nat.add_mul] at this
    omega
  have u5 : zUshr (w : Int) 5 = ((w / 32 : Nat) : Int) := zUshr_n w 5 (by omega) (by omega)
  have a31 : zAnd (w : Int) 31 = ((w % 32 : Nat) : Int) := by
    have := zAnd_n w 31 (by omega) (by omega)
    have e := Nat.and_two_pow_sub_one_eq_mod w 5
    have e2 : (2 : Nat) ^ 5 - 1 = 31 := by decide
    rw [e2] at e
    rw [e] at this; exact this
  unfold q_Router_gain
  rw [h.no, kL_80, kL_74, kL_75, u5, a31]
  (refine ok_gd (by omega) ?_)
  rw [ok_l]
  (refine ok_gd (by omega) ?_)
  rw [ok_l, gtN]
  generalize hs2 : zPut (zPut z 70 12 (((cnb H (kW c) : Nat) : Int) + 1)) 80 (cnb H (kW c)) (w : Int) = s2
  have e4 : s2.1 70 4 = kH c := by rw [← hs2]; (simp only [zp1, zr1, zf1, Nat.reduceEqDiff, Nat.reduceBEq, reduceIte, if_true, if_false, and_true, true_and, and_false, false_and, gtN]); exact h.wd
  have ei : ((n : Int) * (kH c : Int)) + ((w / 32 : Nat) : Int) = ((n * kH c + w / 32 : Nat) : Int) := by simp only [Int.natCast_mul, Int.natCast_add]
  rw [e4, ei]
  generalize hN : n * kH c + w / 32 = ix at *
  (refine ok_gd (by omega) ?_)
  rw [ok_l, gtN]
  (refine ok_gd (by omega) ?_)
  have e74 : s2.1 74 = z.1 74 := by rw [← hs2, zp_ne _ _ _ _ _ (by decide), zp_ne _ _ _ _ _ (by decide)]
  have e75 : s2.1 75 = z.1 75 := by rw [← hs2, zp_ne _ _ _ _ _ (by decide), zp_ne _ _ _ _ _ (by decide)]
  rw [gtN, zp_ne _ _ _ _ _ (show 75 ≠ 74 by decide), e74, e75, hcn]
  (refine ok_gd (by omega) ?_)
  rw [ok_l]
  generalize hs4 : zPut (zPut s2 74 ix (zOr (z.1 74 ix) (zShl 1 ((w % 32 : Nat) : Int)))) 75 w ((k0 w : Int) + 0 + 1) = s4
  have f74 : ∀ j, s4.1 74 j = if j = ix then zOr (z.1 74 ix) (zShl 1 ((w % 32 : Nat) : Int)) else z.1 74 j := fun j => by rw [← hs4, zp_ne _ _ _ _ _ (by decide), zp1, if_pos rfl, e74]
  have f75 : ∀ j, s4.1 75 j = if j = w then (k0 w : Int) + 0 + 1 else z.1 75 j := fun j => by rw [← hs4, zp1, if_pos rfl, zp_ne _ _ _ _ _ (by decide), e75]
  have f80 : ∀ j, s4.1 80 j = if j = cnb H (kW c) then (w : Int) else z.1 80 j := fun j => by rw [← hs4, zp_ne _ _ _ _ _ (by decide), zp_ne _ _ _ _ _ (by decide), ← hs2]; (simp only [zp1, zr1, zf1, Nat.reduceEqDiff, Nat.reduceBEq, reduceIte, if_true, if_false, and_true, true_and, and_false, false_and, gtN])
  have f70 : ∀ j, s4.1 70 j = if j = 12 then ((cnb H (kW c) : Nat) : Int) + 1 else z.1 70 j := fun j => by rw [← hs4, zp_ne _ _ _ _ _ (by decide), zp_ne _ _ _ _ _ (by decide), ← hs2]; (simp only [zp1, zr1, zf1, Nat.reduceEqDiff, Nat.reduceBEq, reduceIte, if_true, if_false, and_true, true_and, and_false, false_and, gtN])
  have fr : zO (pGn c n) z s4 := by
    rw [← hs4, ← hs2]
    refine o_t (o_put (Or.inr (Or.inr (Or.inr ⟨rfl, rfl⟩)))) (o_t (o_put (Or.inr (Or.inr (Or.inl rfl)))) (o_t (o_put (Or.inl ⟨rfl, ?_⟩)) (o_put (Or.inr (Or.inl rfl)))))
    omega
  have cn' : cnb (updB H w) (kW c) = cnb H (kW c) + 1 := cnb_add hw hH (updB_e H w) fun i hi => updB_n hi
  refine ok_so ⟨⟨by rw [f70, if_neg (by decide)]; exact h.wd, fun v hv => ?_, fun v hv => ?_, fun v hv => ?_, by rw [f70, if_pos rfl, cn']; rfl, fun i hi => ?_, fun v hv => ?_⟩, fr⟩
  · have hb := h.bit v hv
    unfold hadB at hb ⊢
    rw [f74]
    by_cases e : v = w
    · subst e
      rw [if_pos hN, bit_set _ _ _ (by omega) (by omega), if_pos rfl, updB_e]
    · rw [updB_n e]
      by_cases e2 : n * kH c + v / 32 = ix
      · rw [if_pos e2, bit_set _ _ _ (by omega) (by omega), if_neg (by omega), ← e2]; exact hb
      · rw [if_neg e2]; exact hb
  · by_cases e : v = w
    · rw [e]; exact hw
    · rw [updB_n e] at hv; exact h.hW v hv
  · rw [f75]
    by_cases e : v = w
    · rw [if_pos e, e, updB_e, if_pos rfl]; omega
    · rw [if_neg e, updB_n e]; exact h.cn v hv
  · rw [cn'] at hi
    rw [f80]
    by_cases e : i = cnb H (kW c)
    · rw [if_pos e]; exact ⟨w, hw, rfl, updB_e H w⟩
    · rw [if_neg e]
      obtain ⟨v, v1, v2, v3⟩ := h.o1 i (by omega)
      refine ⟨v, v1, v2, ?_⟩
      unfold updB; split
      · rfl
      · exact v3
  · rw [cn']
    by_cases e : v = w
    · exact ⟨cnb H (kW c), by omega, by rw [f80, if_pos rfl, e]⟩
    · rw [updB_n e] at hv
      obtain ⟨i, i1, i2⟩ := h.o2 v hv
      exact ⟨i, by omega, by rw [f80, if_neg (by omega)]; exact i2⟩
/-- the class's costs -/
def cstN (c : gCf) (z : gZ) (k0 : Nat → Nat) (w : Nat) : Nat := if z.1 70 14 = -1 ∧ w < kW c then ((1 + z.1 76 w) * (1 + (z.1 70 13 - 1) * k0 w)).toNat else 1
abbrev CsB (c : gCf) (k0 : Nat → Nat) (z : gZ) : Prop := ∃ _ : (1 ≤ z.1 70 13 ∧ z.1 70 13 ≤ 21), ∃ _ : (∀ w, w < kW c → 0 ≤ z.1 76 w ∧ z.1 76 w ≤ 3999), ∃ _ : (∀ w, w < kW c → k0 w ≤ 191), (z.1 70 14 = -1 ∨ ∃ t : Nat, t < kT c ∧ z.1 70 14 = t)
theorem CsB.r {c : gCf} {k0 : Nat → Nat} {z : gZ} (h : CsB c k0 z) : 1 ≤ z.1 70 13 ∧ z.1 70 13 ≤ 21 := by obtain ⟨x, _⟩ := h; exact x
theorem CsB.p {c : gCf} {k0 : Nat → Nat} {z : gZ} (h : CsB c k0 z) : ∀ w, w < kW c → 0 ≤ z.1 76 w ∧ z.1 76 w ≤ 3999 := by obtain ⟨_, x, _⟩ := h; exact x
theorem CsB.k {c : gCf} {k0 : Nat → Nat} {z : gZ} (h : CsB c k0 z) : ∀ w, w < kW c → k0 w ≤ 191 := by obtain ⟨_, _, x, _⟩ := h; exact x
theorem CsB.o {c : gCf} {k0 : Nat → Nat} {z : gZ} (h : CsB c k0 z) : z.1 70 14 = -1 ∨ ∃ t : Nat, t < kT c ∧ z.1 70 14 = t := by obtain ⟨_, _, _, x⟩ := h; exact x
theorem mul_bd {a b : Int} (ha : 1 ≤ a ∧ a ≤ 4000) (hb : 1 ≤ b ∧ b ≤ 4000) : 1 ≤ a * b ∧ a * b ≤ 16000000 := by
  constructor
  · have := Int.mul_le_mul ha.1 hb.1 (by omega) (by omega)
    omega
  · have := Int.mul_le_mul ha.2 hb.2 (by omega) (by omega)
    omega
theorem mul_b2 {a b : Int} (ha : 0 ≤ a ∧ a ≤ 20) (hb : 0 ≤ b ∧ b ≤ 192) : 0 ≤ a * b ∧ a * b ≤ 3840 := by
  constructor
  · exact Int.mul_nonneg ha.1 hb.1
  · have := Int.mul_le_mul ha.2 hb.2 (by omega) (by omega)
    omega
theorem CsB.v {k0 : Nat → Nat} {z : gZ} (h : CsB c k0 z) {w : Nat} (hw : w < kW c) {x : Int} (hx : 0 ≤ x ∧ x ≤ 192) : 1 ≤ (1 + z.1 76 w) * (1 + (z.1 70 13 - 1) * x) ∧ (1 + z.1 76 w) * (1 + (z.1 70 13 - 1) * x) ≤ 16000000 := by
  have h1 := h.p w hw
  have h2 := h.r
  have h3 := mul_b2 (a := z.1 70 13 - 1) (b := x) (by omega) hx
  exact mul_bd (by omega) (by omega)
theorem cst_b {k0 : Nat → Nat} {z : gZ} (h : CsB c k0 z) (w : Nat) : 1 ≤ cstN c z k0 w ∧ cstN c z k0 w ≤ 16000000 := by
  unfold cstN
  by_cases e : z.1 70 14 = -1 ∧ w < kW c
  · rw [if_pos e]
    have := h.v e.2 (x := k0 w) (by have := h.k w e.2; omega)
    omega
  · rw [if_neg e]; omega
theorem cso_of {n : Nat} {k0 : Nat → Nat} {H : Nat → Bool} {z : gZ} (h : CsB c k0 z) (e : EC c n k0 H z) : CsO c (fun w => H w = true) (cstN c z k0) z := by
  rcases h.o with ho | ⟨t, t1, ho⟩
  · refine Or.inl ⟨ho, fun w hw => ?_⟩
    have hc := e.cn w hw
    have hk := h.k w hw
    have b := h.v hw (x := z.1 75 w) (by rw [hc]; split <;> omega)
    refine ⟨by omega, fun hh => ?_⟩
    unfold cstN
    rw [if_pos ⟨ho, hw⟩]
    have hc : z.1 75 w = k0 w := by rw [hc, if_neg hh]; omega
    rw [hc] at b ⊢
    omega
  · refine Or.inr ⟨⟨t, ho⟩, fun w => ?_⟩
    unfold cstN
    rw [if_neg (by omega)]
theorem cst_o {P : Nat → Nat → Prop} {z s : gZ} {k0 : Nat → Nat} (o : zO P z s) (hP : ∀ k j, P k j → k ≠ 76 ∧ ¬ (k = 70 ∧ (j = 13 ∨ j = 14))) : cstN c s k0 = cstN c z k0 ∧ (CsB c k0 z → CsB c k0 s) := by
  have e6 : s.1 76 = z.1 76 := funext fun j => o 76 j fun x => (hP _ _ x).1 rfl
  have e3 : s.1 70 13 = z.1 70 13 := o 70 13 fun x => (hP _ _ x).2 ⟨rfl, Or.inl rfl⟩
  have e4 : s.1 70 14 = z.1 70 14 := o 70 14 fun x => (hP _ _ x).2 ⟨rfl, Or.inr rfl⟩
  refine ⟨?_, fun h => ⟨by rw [e3]; exact h.r, by rw [e6]; exact h.p, h.k, by rw [e4]; exact h.o⟩⟩
  funext w
  unfold cstN
  rw [e6, e3, e4]
end
-- X8
section
variable {E : gEv} {c : gCf}
def pWk (c : gCf) (n k j : Nat) : Prop := pGn c n k j ∨ k = 77
theorem EC_o {P : Nat → Nat → Prop} {z s : gZ} {n : Nat} {k0 : Nat → Nat} {H : Nat → Bool} (h : EC c n k0 H z) (o : zO P z s) (hP : ∀ k j, P k j → k ≠ 75 ∧ k ≠ 80 ∧ ¬ (k = 70 ∧ (j = 4 ∨ j = 12)) ∧ ¬ (k = 74 ∧ n * kH c ≤ j ∧ j < n * kH c + kH c)) : EC c n k0 H s := by
  have e5 : s.1 75 = z.1 75 := funext fun j => o 75 j fun x => (hP _ _ x).1 rfl
  have e8 : s.1 80 = z.1 80 := funext fun j => o 80 j fun x => (hP _ _ x).2.1 rfl
  have e4 : s.1 70 4 = z.1 70 4 := o 70 4 fun x => (hP _ _ x).2.2.1 ⟨rfl, Or.inl rfl⟩
  have e12 : s.1 70 12 = z.1 70 12 := o 70 12 fun x => (hP _ _ x).2.2.1 ⟨rfl, Or.inr rfl⟩
  refine ⟨by rw [e4]; exact h.wd, fun w hw => ?_, h.hW, by rw [e5]; exact h.cn, by rw [e12]; exact h.no, by rw [e8]; exact h.o1, by rw [e8]; exact h.o2⟩
  rw [had_o o fun x => (hP _ _ x).2.2.2 ⟨rfl, by omega, by omega⟩]; exact h.bit w hw
theorem pick_z {z s : gZ} {w n v k : Nat} {A : Nat → Prop} (h8 : s.1 8 = z.1 8) (h : Pick s w A n v k) : Pick z w A n v k := by
  unfold Pick nbZ' at *
  rw [← h8]; exact h
/-- the walk's loop: state at step i -/
abbrev WI (c : gCf) (z : gZ) (g : Gph) (n e : Nat) (k0 : Nat → Nat) (H0 : Nat → Bool) (i w D : Nat) (H : Nat → Bool) (t : gZ) : Prop := ∃ _ : (w < kW c), ∃ _ : (Dst g w D), ∃ _ : (t.1 73 w = D), ∃ _ : (∀ v d, Dst g v d → d < D → t.1 73 v = d), ∃ _ : (∀ v, v < kW c → t.1 73 v = -1 ∨ ∃ d : Nat, t.1 73 v = d ∧ Dst g v d), ∃ _ : (EC c n k0 H t), ∃ _ : (zO (pWk c n) z t), ∃ _ : (∀ v, H v = true → H0 v = true ∨ ∃ d, Dst g v d ∧ D < d), ∃ _ : (∀ v, H0 v = true → H v = true), ∃ _ : (cnb H (kW c) = cnb H0 (kW c) + i), (∀ H' l', Wlk c z g H (t.1 77) w H' l' → Wlk c z g H0 (z.1 77) e H' l')
theorem WI.ww {c : gCf} {z : gZ} {g : Gph} {n e : Nat} {k0 : Nat → Nat} {H0 : Nat → Bool} {i w D : Nat} {H : Nat → Bool} {t : gZ} (h : WI c z g n e k0 H0 i w D H t) : w < kW c := by obtain ⟨x, _⟩ := h; exact x
theorem WI.d {c : gCf} {z : gZ} {g : Gph} {n e : Nat} {k0 : Nat → Nat} {H0 : Nat → Bool} {i w D : Nat} {H : Nat → Bool} {t : gZ} (h : WI c z g n e k0 H0 i w D H t) : Dst g w D := by obtain ⟨_, x, _⟩ := h; exact x
theorem WI.dw {c : gCf} {z : gZ} {g : Gph} {n e : Nat} {k0 : Nat → Nat} {H0 : Nat → Bool} {i w D : Nat} {H : Nat → Bool} {t : gZ} (h : WI c z g n e k0 H0 i w D H t) : t.1 73 w = D := by obtain ⟨_, _, x, _⟩ := h; exact x
theorem WI.l {c : gCf} {z : gZ} {g : Gph} {n e : Nat} {k0 : Nat → Nat} {H0 : Nat → Bool} {i w D : Nat} {H : Nat → Bool} {t : gZ} (h : WI c z g n e k0 H0 i w D H t) : ∀ v d, Dst g v d → d < D → t.1 73 v = d := by obtain ⟨_, _, _, x, _⟩ := h; exact x
theorem WI.a {c : gCf} {z : gZ} {g : Gph} {n e : Nat} {k0 : Nat → Nat} {H0 : Nat → Bool} {i w D : Nat} {H : Nat → Bool} {t : gZ} (h : WI c z g n e k0 H0 i w D H t) : ∀ v, v < kW c → t.1 73 v = -1 ∨ ∃ d : Nat, t.1 73 v = d ∧ Dst g v d := by obtain ⟨_, _, _, _, x, _⟩ := h; exact x
theorem WI.ee {c : gCf} {z : gZ} {g : Gph} {n e : Nat} {k0 : Nat → Nat} {H0 : Nat → Bool} {i w D : Nat} {H : Nat → Bool} {t : gZ} (h : WI c z g n e k0 H0 i w D H t) : EC c n k0 H t := by obtain ⟨_, _, _, _, _, x, _⟩ := h; exact x
theorem WI.o {c : gCf} {z : gZ} {g : Gph} {n e : Nat} {k0 : Nat → Nat} {H0 : Nat → Bool} {i w D : Nat} {H : Nat → Bool} {t : gZ} (h : WI c z g n e k0 H0 i w D H t) : zO (pWk c n) z t := by obtain ⟨_, _, _, _, _, _, x, _⟩ := h; exact x
theorem WI.m {c : gCf} {z : gZ} {g : Gph} {n e : Nat} {k0 : Nat → Nat} {H0 : Nat → Bool} {i w D : Nat} {H : Nat → Bool} {t : gZ} (h : WI c z g n e k0 H0 i w D H t) : ∀ v, H v = true → H0 v = true ∨ ∃ d, Dst g v d ∧ D < d := by obtain ⟨_, _, _, _, _, _, _, x, _⟩ := h; exact x
theorem WI.s {c : gCf} {z : gZ} {g : Gph} {n e : Nat} {k0 : Nat → Nat} {H0 : Nat → Bool} {i w D : Nat} {H : Nat → Bool} {t : gZ} (h : WI c z g n e k0 H0 i w D H t) : ∀ v, H0 v = true → H v = true := by obtain ⟨_, _, _, _, _, _, _, _, x, _⟩ := h; exact x
theorem WI.cc {c : gCf} {z : gZ} {g : Gph} {n e : Nat} {k0 : Nat → Nat} {H0 : Nat → Bool} {i w D : Nat} {H : Nat → Bool} {t : gZ} (h : WI c z g n e k0 H0 i w D H t) : cnb H (kW c) = cnb H0 (kW c) + i := by obtain ⟨_, _, _, _, _, _, _, _, _, x, _⟩ := h; exact x
theorem WI.r {c : gCf} {z : gZ} {g : Gph} {n e : Nat} {k0 : Nat → Nat} {H0 : Nat → Bool} {i w D : Nat} {H : Nat → Bool} {t : gZ} (h : WI c z g n e k0 H0 i w D H t) : ∀ H' l', Wlk c z g H (t.1 77) w H' l' → Wlk c z g H0 (z.1 77) e H' l' := by obtain ⟨_, _, _, _, _, _, _, _, _, _, x⟩ := h; exact x
theorem s_walk {z : gZ} {fin : Nat → Prop} {n sp e D B : Nat} {k0 : Nat → Nat} {H0 : Nat → Bool} (gr : Gr c z) (hj : Jk c z) (hn : n < kD c + kP c) (hsp : sp < kN c + kD c) (R : RG c fin (cstN c z k0) (fun w => H0 w = true) B) (hC : CsB c k0 z) (hE : EC c n k0 H0 z) (he : e < kW c) (hD : Dst (gOf c fin (cstN c z k0) (fun w => H0 w = true) (kTc c sp)) e D) (h73 : z.1 73 e = D) (hl : ∀ v d, Dst (gOf c fin (cstN c z k0) (fun w => H0 w = true) (kTc c sp)) v d → d < D → z.1 73 v = d) (ha : ∀ v, v < kW c → z.1 73 v = -1 ∨ ∃ d : Nat, z.1 73 v = d ∧ Dst (gOf c fin (cstN c z k0) (fun w => H0 w = true) (kTc c sp)) v d) : zOk (q_Router_walkBack E (kL c) (n : Int) (sp : Int) (e : Int) z) (fun s => ∃ H', Wlk c z (gOf c fin (cstN c z k0) (fun w => H0 w = true) (kTc c sp)) H0 (z.1 77) e H' (s.1 77) ∧ EC c n k0 H' s ∧ zO (pWk c n) z s ∧ (∀ v, H' v = true → fin v)) := by
  have hW := kW_b gr.1
  generalize hG : gOf c fin (cstN c z k0) (fun w => H0 w = true) (kTc c sp) = G at hD hl ha ⊢
  have GW : G.W = kW c := by rw [← hG]; rfl
  have Ga : G.adj = kAdj c := by rw [← hG]; rfl
  have Gc : G.cost = cstN c z k0 := by rw [← hG]; rfl
  have Go : ∀ w, G.own w ↔ H0 w = true := fun w => by rw [← hG]; exact Iff.rfl
  have Gt : G.tch = kTc c sp := by rw [← hG]; rfl
  have hc : ∀ w, 1 ≤ G.cost w := by rw [Gc]; exact R.pos
  have hfin : ∀ v, (H0 v = true ∨ ∃ d, Dst G v d) → fin v := fun v h => by
    rcases h with h | ⟨d, h⟩
    · exact (R.of v h).2
    · rw [← hG] at h; exact R.df h
  unfold q_Router_walkBack
  have gz : ∀ {s}, zO (pWk c n) z s → Gr c s ∧ Jk c s ∧ s.1 1 7 = kW c ∧ cstN c s k0 = cstN c z k0 ∧ CsB c k0 s ∧ s.1 8 = z.1 8 ∧ s.1 9 = z.1 9 ∧ s.1 7 = z.1 7 := fun {s} o => by
    have gs := Gr_o o (fun k j h => by unfold pS at h; unfold pWk pGn; omega) gr
    have cc := cst_o (c := c) (k0 := k0) o (fun k j h => by unfold pWk pGn at h; omega)
    refine ⟨gs, fun j hj' => ?_, gs.2.1.2.2.2.2.2.2.2.1, cc.1, cc.2 hC, funext fun j => o 8 j (by unfold pWk pGn; omega), funext fun j => o 9 j (by unfold pWk pGn; omega), funext fun j => o 7 j (by unfold pWk pGn; omega)⟩
    unfold jOk
    rw [o 5 j (by unfold pWk pGn; omega), o 6 j (by unfold pWk pGn; omega)]; exact hj j hj'
  refine ok_b1 (fun r => ∃ (s : gZ) (H' : Nat → Bool), ((r = .inl s ∧ Wlk c z G H0 (z.1 77) e H' (s.1 77)) ∨ ∃ w : Nat, r = .inr (.inl ((w : Int), s)) ∧ w < kW c ∧ Wlk c z G H0 (z.1 77) e H' (zUpd (s.1 77) w (-1))) ∧ EC c n k0 H' s ∧ zO (pWk c n) z s ∧ (∀ v, H' v = true → fin v)) ?_ fun r ⟨s, H', h1, h2, h3, h4⟩ => ?_
  · refine it_for (fun (i : Nat) (t : Int × gZ) => (t.1, (i : Int), t.2)) (fun i t => ∃ (w D : Nat) (H : Nat → Bool), t.1 = w ∧ WI c z G n e k0 H0 i w D H t.2) 0 (kW c) (t := ((e : Int), z)) rfl ⟨e, D, H0, rfl, ⟨he, hD, h73, hl, ha, hE, o_r, fun v h => Or.inl h, fun v h => h, by omega, fun H' l' h => h⟩⟩ (by omega) (by omega) ?_ ?_
    · rintro i ⟨wi, t⟩ - hi ⟨w, D, H, hw, I⟩
      have hw : wi = w := hw
      subst hw
      have I : WI c z G n e k0 H0 i w D H t := I
      obtain ⟨gt, jt, e17, ecc, ecb, e8, e9, e7⟩ := gz I.o
      have hw := I.ww
      show zOk (q_Router_walkBack_6 E (kL c) (n : Int) (sp : Int) (w : Int) (i : Int) t) _
      unfold q_Router_walkBack_6
      rw [e17, kL_73]
      (refine ok_neg (by omega) ?_); (refine ok_neg (by omega) ?_); (refine ok_gd (by omega) ?_)
      rw [ok_l, gtN, I.dw]
      refine ok_br (fun e0 => ?_) fun e0 => ?_
      · have ho : G.own w := Classical.byContradiction fun x => by have := dst_pos hc I.d x; omega
        refine ok_inr (Or.inr ⟨_, rfl, t, H, Or.inl ⟨rfl, I.r _ _ (.stop ho)⟩, I.ee, I.o, fun v hv => hfin v ?_⟩)
        rcases I.m v hv with x | ⟨d, x, -⟩
        · exact Or.inl x
        · exact Or.inr ⟨d, x⟩
      · have ho : ¬ G.own w := fun x => by
          have := dst_u I.d (dst_o (by rw [GW]; exact hw) x); omega
        have hH : H w = false := by
          cases hh : H w
          · rfl
          · rcases I.m w hh with x | ⟨d, x1, x2⟩
            · exact absurd ((Go w).2 x) ho
            · have := dst_u I.d x1; omega
        obtain ⟨v2, c1, c2⟩ := s_costOf (E := E) gr.1 (cso_of ecb I.ee) hw
        refine ok_v1 c1 ?_
        have c2 : v2 = G.cost w := by rw [c2 (by rw [hH]; decide), ecc, Gc]
        rw [c2]
        have hk0 := hC.k w hw
        refine ok_b1 _ (s_gain gr.1 hn hw I.ee hH (by omega)) fun s5 ⟨g1, g2⟩ => ?_
        have o5 : zO (pWk c n) z s5 := o_t I.o (o_w g2 fun k j x => Or.inl x)
        obtain ⟨gs, js, -, -, -, es8, es9, es7⟩ := gz o5
        have s73 : s5.1 73 = t.1 73 := funext fun j => g2 73 j (by unfold pGn; omega)
        have s77 : s5.1 77 = t.1 77 := funext fun j => g2 77 j (by unfold pGn; omega)
        have hfinH : ∀ v, updB H w v = true → fin v := fun v hv => by
          by_cases x : v = w
          · rw [x]; exact hfin w (Or.inr ⟨D, I.d⟩)
          · rw [updB_n x] at hv
            rcases I.m v hv with y | ⟨d, y, -⟩
            · exact hfin v (Or.inl y)
            · exact hfin v (Or.inr ⟨d, y⟩)
        have jn : ¬ (G.tch w ∧ D = G.cost w) → zOk (q_Router_walkBack_j87_6 E (kL c) (n : Int) (sp : Int) (w : Int) (i : Int) (D : Int) (G.cost w : Int) s5) (fun r => (∃ t' : Int × gZ, r = Sum.inl (t'.1, ((i + 1 : Nat) : Int), t'.2) ∧ ∃ (w D : Nat) (H : Nat → Bool), t'.1 = w ∧ WI c z G n e k0 H0 (i + 1) w D H t'.2) ∨ ∃ e', r = Sum.inr e' ∧ ∃ (s : gZ) (H' : Nat → Bool), ((e' = .inl s ∧ Wlk c z G H0 (z.1 77) e H' (s.1 77)) ∨ ∃ w : Nat, e' = .inr (.inl ((w : Int), s)) ∧ w < kW c ∧ Wlk c z G H0 (z.1 77) e H' (zUpd (s.1 77) w (-1))) ∧ EC c n k0 H' s ∧ zO (pWk c n) z s ∧ (∀ v, H' v = true → fin v)) := fun nt => by
          unfold q_Router_walkBack_j87_6
          have hDl : D < 2147483648 := by
            have := I.d; rw [← hG] at this
            have := R.dB gr.1 hsp this; have := R.bb; omega
          have hcl : G.cost w ≤ 16000000 := by rw [Gc]; exact (cst_b hC w).2
          (refine ok_gd (by omega) ?_)
          refine ok_b2 _ (s_joinNext (g := G) (D := D) gs js hw Ga GW hc (by rw [s73]; exact I.a) (by rw [s73]; exact I.l) I.d ho nt _ rfl) fun v8 s9 ⟨v, k, q1, q2, q3, q4, q5⟩ => ?_
          have q1 : v8 = v := q1
          subst q1
          have q6 : s9 = zPut s5 77 w (jnZ s5 w k) := q5
          (refine ok_gd (by omega) ?_)
          rw [ok_l]
          obtain ⟨m', m1, m2⟩ := q4
          have hcw := hc w
          have o9 : zO (pWk c n) s5 s9 := by rw [q6]; exact o_put (Or.inr rfl)
          have o77 : zO (fun k j => k = 77) s5 s9 := by rw [q6]; exact o_put rfl
          have e73 : s9.1 73 = t.1 73 := (funext fun j => o77 73 j (by omega)).trans s73
          refine ok_inl (Or.inl ⟨((v : Int), s9), rfl, v, m', updB H w, rfl, ⟨q2, m1, ?_, ?_, ?_, EC_o g1 o77 (by omega), o_t o5 o9, ?_, ?_, ?_, ?_⟩⟩)
          · show s9.1 73 v = m'
            rw [e73]; exact I.l v m' m1 (by omega)
          · show ∀ v d, Dst G v d → d < m' → s9.1 73 v = d
            rw [e73]; exact fun v d a b => I.l v d a (by omega)
          · show ∀ v, v < kW c → s9.1 73 v = -1 ∨ ∃ d : Nat, s9.1 73 v = d ∧ Dst G v d
            rw [e73]; exact I.a
          · intro x hx
            by_cases y : x = w
            · rw [y]; exact Or.inr ⟨D, I.d, by omega⟩
            · rw [updB_n y] at hx
              rcases I.m x hx with y | ⟨d, y1, y2⟩
              · exact Or.inl y
              · exact Or.inr ⟨d, y1, by omega⟩
          · intro x hx
            unfold updB; split
            · rfl
            · exact I.s x hx
          · rw [cnb_add hw hH (updB_e H w) fun i hi => updB_n hi, I.cc]; omega
          · intro H' l' hh
            refine I.r H' l' (.step ho I.d nt (v := v) (k := k) ?_ ?_)
            · have : dgZ s5 w = dgZ z w := by unfold dgZ; rw [es7]
              rw [this] at q3
              exact pick_z es8 q3
            · have hl : s9.1 77 = zUpd (t.1 77) w (jnZ z w k) := funext fun j => by
                rw [q6, zp1, if_pos rfl, s77]
                unfold zUpd jnZ
                rw [es9]
              have hh : Wlk c z G (updB H w) (s9.1 77) v H' l' := hh
              rw [hl] at hh
              exact hh
        refine ok_br (fun e1 => ?_) fun e1 => jn fun x => by omega
        obtain ⟨v6, r1, r2⟩ := s_reach0 (E := E) gs hsp hw
        refine ok_v1 r1 ?_
        refine ok_br (fun e2 => jn fun x => r2.1 e2 (by rw [← Gt]; exact x.1)) fun e2 => ?_
        have ht : G.tch w := by rw [Gt]; exact Classical.byContradiction fun x => e2 (r2.2 x)
        have hdd : Dst G w (G.cost w) := by
          have : D = G.cost w := by omega
          rw [← this]; exact I.d
        refine ok_inr (Or.inr ⟨_, rfl, s5, updB H w, Or.inr ⟨w, rfl, hw, ?_⟩, g1, o5, hfinH⟩)
        rw [s77]
        exact I.r _ _ (.drive ho ht hdd)
    · rintro ⟨wi, t⟩ ⟨w, D, H, hw, I⟩
      have I : WI c z G n e k0 H0 (kW c) w D H t := I
      exfalso
      have h1 := cnb_le H (kW c)
      have h2 := I.cc
      have hw := I.ww
      have hH : H w = true := by
        cases hh : H w
        · have := cnb_lt hw hh; omega
        · rfl
      rcases I.m w hH with x | ⟨d, x1, x2⟩
      · have := cnb_pos hw x; omega
      · have := dst_u I.d x1; omega
  · rcases h1 with ⟨rfl, h1⟩ | ⟨w, rfl, hw, h1⟩
    · rw [gs_l]
      exact ok_so ⟨H', h1, h2, h3, h4⟩
    · rw [gs_r, gs_l, kL_77]
      dsimp only
      (refine ok_gd (by omega) ?_)
      rw [ok_l, gtN]
      have o9 : zO (fun k j => k = 77) s (zPut s 77 w (-1)) := o_put rfl
      refine ok_so ⟨H', ?_, EC_o h2 o9 (by omega), o_t h3 (o_w o9 fun k j x => Or.inr x), h4⟩
      have : (zPut s 77 w (-1)).1 77 = zUpd (s.1 77) w (-1) := funext fun j => by rw [zp1, if_pos rfl]; rfl
      rw [this]; exact h1
end
-- X9
section
variable {E : gEv} {c : gCf}
theorem bit_0 (a : Int) : zAnd a 1 = if zBit a 0 then 1 else 0 := by
  apply zB_ext (zAnd_r _ _) (by split <;> omega)
  intro i hi
  rw [zB_and, zB_1]
  by_cases h : i = 0
  · subst h; cases zBit a 0 <;> simp [zB_1, zB_0]
  · have : decide (i = 0) = false := by simp [h]
    rw [this, Bool.and_false]; split
    · rw [zB_1, this]
    · rw [zB_0]
/-- what the class has of a net before it gives all up -/
abbrev EG (c : gCf) (n : Nat) (k0 : Nat → Nat) (H : Nat → Bool) (z : gZ) : Prop := ∃ _ : (z.1 70 4 = kH c), ∃ _ : (∀ w, w < kH c * 32 → hadB c z n w = H w), ∃ _ : (∀ w, H w = true → w < kW c), (∀ w, w < kW c → z.1 75 w = k0 w + (if H w = true then 1 else 0))
theorem EG.wd {c : gCf} {n : Nat} {k0 : Nat → Nat} {H : Nat → Bool} {z : gZ} (h : EG c n k0 H z) : z.1 70 4 = kH c := by obtain ⟨x, _⟩ := h; exact x
theorem EG.bit {c : gCf} {n : Nat} {k0 : Nat → Nat} {H : Nat → Bool} {z : gZ} (h : EG c n k0 H z) : ∀ w, w < kH c * 32 → hadB c z n w = H w := by obtain ⟨_, x, _⟩ := h; exact x
theorem EG.hW {c : gCf} {n : Nat} {k0 : Nat → Nat} {H : Nat → Bool} {z : gZ} (h : EG c n k0 H z) : ∀ w, H w = true → w < kW c := by obtain ⟨_, _, x, _⟩ := h; exact x
theorem EG.cn {c : gCf} {n : Nat} {k0 : Nat → Nat} {H : Nat → Bool} {z : gZ} (h : EG c n k0 H z) : ∀ w, w < kW c → z.1 75 w = k0 w + (if H w = true then 1 else 0) := by obtain ⟨_, _, _, x⟩ := h; exact x
theorem s_giveUp {z : gZ} {n : Nat} {k0 : Nat → Nat} {H : Nat → Bool} (hk : kOk c) (hn : n < kD c + kP c) (h : EG c n k0 H z) (hb : ∀ w, w < kW c → k0 w ≤ 200) : zOk (q_Router_giveUp E (kL c) (n : Int) z) (fun s => EC c n k0 (fun _ => false) s ∧ zO (pGn c n) z s) := by
  have hW := kW_b hk
  have hD := kD_b hk
  have hP := kP_b hk
  have hH27 : kH c ≤ 27 := by unfold kH; omega
  have hKW : kW c ≤ kH c * 32 := by unfold kH; omega
  have hNx : n * kH c + kH c ≤ (kD c + kP c) * kH c := by
    have := Nat.mul_le_mul_right (kH c) (show n + 1 ≤ kD c + kP c from hn)
    rw [Nat.add_mul] at this
    omega
  have hNb : (kD c + kP c) * kH c ≤ 192 * 27 := Nat.mul_le_mul (by omega) hH27
  unfold q_Router_giveUp
  refine ok_b1 (fun s => zO (pGn c n) z s ∧ (∀ q, q < kH c → s.1 74 (n * kH c + q) = 0) ∧ ∀ w, w < kW c → s.1 75 w = k0 w) ?_ fun s ⟨s1, s2, s3⟩ => ?_
  · refine it_for (fun (i : Nat) (t : gZ) => ((i : Int), t)) (fun i t => zO (fun k j => (k = 74 ∧ n * kH c ≤ j ∧ j < n * kH c + kH c) ∨ k = 75) z t ∧ (∀ q, q < kH c → t.1 74 (n * kH c + q) = if q < i then 0 else z.1 74 (n * kH c + q)) ∧ ∀ w, w < kW c → t.1 75 w = k0 w + (if H w = true ∧ i ≤ w / 32 then 1 else 0)) 0 (kH c) rfl ⟨o_r, fun q hq => by rw [if_neg (by omega)], fun w hw => ?_⟩ (by omega) (by omega) ?_ ?_
    · rw [h.cn w hw]
      by_cases e : H w = true
      · rw [if_pos e, if_pos ⟨e, by omega⟩]
      · rw [if_neg e, if_neg fun x => e x.1]
    · rintro i t - hi ⟨o, t1, t2⟩
      have e4 : t.1 70 4 = kH c := by rw [o 70 4 (by omega)]; exact h.wd
      show zOk (q_Router_giveUp_2 E (kL c) (n : Int) (i : Int) t) _
      unfold q_Router_giveUp_2
      rw [e4, kL_74, show ((n : Int) * (kH c : Int)) + (i : Int) = ((n * kH c + i : Nat) : Int) by simp only [Int.natCast_mul, Int.natCast_add]]
      (refine ok_neg (by omega) ?_); (refine ok_gd (by omega) ?_)
      rw [gtN, t1 i hi, if_neg (by omega), ok_l, ok_l]
      generalize hx : z.1 74 (n * kH c + i) = x
      have xb : ∀ b, b < 32 → zBit x b = H (i * 32 + b) := fun b hb' => by
        have := h.bit (i * 32 + b) (by omega)
        unfold hadB at this
        rw [show (i * 32 + b) / 32 = i by omega, show (i * 32 + b) % 32 = b by omega, hx] at this
        exact this
      have o1 : zO (fun k j => k = 74 ∧ j = n * kH c + i) t (zPut t 74 (n * kH c + i) 0) := o_put ⟨rfl, rfl⟩
      have v1 : (zPut t 74 (n * kH c + i) 0).1 74 (n * kH c + i) = 0 := by (simp only [zp1, zr1, zf1, Nat.reduceEqDiff, Nat.reduceBEq, reduceIte, if_true, if_false, and_true, true_and, and_false, false_and, gtN])
      generalize zPut t 74 (n * kH c + i) 0 = t1' at o1 v1 ⊢
      refine ok_b1 (fun u => zO (fun k j => k = 75) t1' u ∧ ∀ w, w < kW c → u.1 75 w = k0 w + (if H w = true ∧ i + 1 ≤ w / 32 then 1 else 0)) ?_ fun u ⟨u1, u2⟩ => ?_
      · refine it_for (fun (b : Nat) (t : Int × gZ) => (t.1, (b : Int), t.2)) (fun b u => (∀ j, zBit u.1 j = zBit x (b + j)) ∧ zO (fun k j => k = 75) t1' u.2 ∧ ∀ w, w < kW c → u.2.1 75 w = k0 w + (if H w = true ∧ i * 32 + b ≤ w then 1 else 0)) 0 32 (t := (x, t1')) rfl ⟨fun j => by rw [Nat.zero_add], o_r, fun w hw => ?_⟩ (by omega) (by omega) ?_ ?_
        · show t1'.1 75 w = _
          rw [o1 75 w (by omega), t2 w hw]
          congr 1
          by_cases e : H w = true ∧ i ≤ w / 32
          · rw [if_pos e, if_pos ⟨e.1, by omega⟩]
          · rw [if_neg e, if_neg fun y => e ⟨y.1, by omega⟩]
        · rintro b ⟨cur, u⟩ - hb' ⟨u1, u2, u3⟩
          have u1 : ∀ j, zBit cur j = zBit x (b + j) := u1
          have u3 : ∀ w, w < kW c → u.1 75 w = k0 w + (if H w = true ∧ i * 32 + b ≤ w then 1 else 0) := u3
          show zOk (q_Router_giveUp_41 E (kL c) (n : Int) (i : Int) cur (b : Int) u) _
          unfold q_Router_giveUp_41
          (refine ok_neg (by omega) ?_)
          have nxt : ∀ j, zBit (zUshr cur 1) j = zBit x (b + 1 + j) := fun j => by
            have := zB_ushr cur 1 j (by omega)
            rw [show b + 1 + j = b + (j + 1) by omega, ← u1]
            exact this
          refine ok_br (fun e => ?_) fun e => ?_
          · refine ok_inr (Or.inr ⟨u, rfl, u2, fun w hw => ?_⟩)
            rw [u3 w hw]
            congr 1
            by_cases y : H w = true ∧ i * 32 + b ≤ w
            · rw [if_pos y]
              by_cases y2 : i + 1 ≤ w / 32
              · rw [if_pos ⟨y.1, y2⟩]
              · exfalso
                have h1 := xb (w - i * 32) (by omega)
                rw [show i * 32 + (w - i * 32) = w by omega, y.1] at h1
                have h2 := u1 (w - i * 32 - b)
                rw [e, zB_0, show b + (w - i * 32 - b) = w - i * 32 by omega, h1] at h2
                cases h2
            · rw [if_neg y, if_neg fun y2 => y ⟨y2.1, by omega⟩]
          · rw [bit_0, u1 0, Nat.add_zero, xb b hb']
            by_cases hh : H (i * 32 + b) = true
            · have hw := h.hW _ hh
              have hv := u3 _ hw
              rw [if_pos ⟨hh, Nat.le_refl _⟩] at hv
              have hkb := hb _ hw
              rw [hh, if_pos rfl, kL_75, show ((i : Int) * 32) + (b : Int) = ((i * 32 + b : Nat) : Int) by omega, gtN, hv]
              refine ok_pos rfl ?_
              (refine ok_gd (by omega) ?_); (refine ok_gd (by omega) ?_)
              rw [ok_l, ok_l, ok_l]
              refine ok_inl (Or.inl ⟨(zUshr cur 1, _), rfl, nxt, o_t u2 (o_put rfl), fun w hw' => ?_⟩)
              show (zPut u 75 (i * 32 + b) _).1 75 w = _
              rw [zp1, if_pos rfl]
              by_cases y : w = i * 32 + b
              · rw [if_pos y, if_neg (by omega), y]; omega
              · rw [if_neg y, u3 w hw']
                congr 1
                by_cases y2 : H w = true ∧ i * 32 + b ≤ w
                · rw [if_pos y2, if_pos ⟨y2.1, by omega⟩]
                · rw [if_neg y2, if_neg fun y3 => y2 ⟨y3.1, by omega⟩]
            · have hf : H (i * 32 + b) = false := by cases g : H (i * 32 + b); rfl; exact absurd g hh
              rw [hf, if_neg Bool.false_ne_true]
              refine ok_neg (by decide) ?_
              rw [ok_l, ok_l]
              refine ok_inl (Or.inl ⟨(zUshr cur 1, u), rfl, nxt, u2, fun w hw' => ?_⟩)
              rw [u3 w hw']
              congr 1
              by_cases y2 : H w = true ∧ i * 32 + b ≤ w
              · have : w ≠ i * 32 + b := fun y => by rw [y, hf] at y2; exact absurd y2.1 (by decide)
                rw [if_pos y2, if_pos ⟨y2.1, by omega⟩]
              · rw [if_neg y2, if_neg fun y3 => y2 ⟨y3.1, by omega⟩]
        · rintro ⟨cur, u⟩ ⟨u1, u2, u3⟩
          show zOk (q_Router_giveUp_41 E (kL c) (n : Int) (i : Int) cur 32 u) _
          unfold q_Router_giveUp_41
          (refine ok_pos (by omega) ?_)
          refine ok_inr ⟨u, rfl, u2, fun w hw => ?_⟩
          have u3 : u.1 75 w = k0 w + (if H w = true ∧ i * 32 + 32 ≤ w then 1 else 0) := u3 w hw
          rw [u3]
          congr 1
          by_cases y : H w = true ∧ i * 32 + 32 ≤ w
          · rw [if_pos y, if_pos ⟨y.1, by omega⟩]
          · rw [if_neg y, if_neg fun y2 => y ⟨y2.1, by omega⟩]
      · rw [ok_l]
        refine ok_inl (Or.inl ⟨u, rfl, o_t o (o_t (o_w o1 fun k j y => Or.inl ?_) (o_w u1 fun k j y => Or.inr y)), fun q hq => ?_, u2⟩)
        · omega
        · rw [u1 74 _ (by omega)]
          by_cases y : q = i
          · rw [if_pos (by omega), y]; exact v1
          · rw [o1 74 _ (by omega), t1 q hq]
            by_cases y2 : q < i
            · rw [if_pos y2, if_pos (by omega)]
            · rw [if_neg y2, if_neg (by omega)]
    · rintro t ⟨o, t1, t2⟩
      have e4 : t.1 70 4 = kH c := by rw [o 70 4 (by omega)]; exact h.wd
      show zOk (q_Router_giveUp_2 E (kL c) (n : Int) (kH c : Int) t) _
      unfold q_Router_giveUp_2
      rw [e4]
      (refine ok_pos (by omega) ?_)
      refine ok_inr ⟨t, rfl, o_w o fun k j x => ?_, fun q hq => by rw [t1 q hq, if_pos hq], fun w hw => ?_⟩
      · unfold pGn; omega
      · rw [t2 w hw, if_neg fun x => ?_]
        · omega
        · have := kH_w hw; omega
  · rw [ok_l]
    have o1 : zO (fun k j => k = 70 ∧ j = 12) s (zPut s 70 12 0) := o_put ⟨rfl, rfl⟩
    have v1 : (zPut s 70 12 0).1 70 12 = 0 := by (simp only [zp1, zr1, zf1, Nat.reduceEqDiff, Nat.reduceBEq, reduceIte, if_true, if_false, and_true, true_and, and_false, false_and, gtN])
    generalize zPut s 70 12 0 = t at o1 v1 ⊢
    have c0 : cnb (fun _ => false) (kW c) = 0 := cnb_0 fun _ _ => rfl
    refine ok_so ⟨⟨?_, fun w hw => ?_, (fun w hw => by cases hw), fun w hw => ?_, by rw [v1, c0]; rfl, fun i hi => by omega, (fun w hw => by cases hw)⟩, o_t s1 (o_w o1 fun k j x => by unfold pGn; omega)⟩
    · rw [o1 70 4 (by omega), s1 70 4 (by unfold pGn; omega)]; exact h.wd
    · unfold hadB
      rw [o1 74 _ (by omega), s2 _ (by omega), zB_0]
    · rw [o1 75 w (by omega), s3 w hw, if_neg Bool.false_ne_true]; omega
/-- routes of a net, sink behind sink: wires, links and ends -/
def NtR (c : gCf) (z : gZ) (sp : Nat) (fin : Nat → Prop) (cost : Nat → Nat) (sk : Nat → Nat) : Nat → Nat → (Nat → Bool) → (Nat → Int) → (Nat → Int) → (Nat → Bool) → (Nat → Int) → (Nat → Int) → Prop
  | 0, _, H, l, en, H', l', en' => H' = H ∧ l' = l ∧ en' = en
  | n + 1, k, H, l, en, H', l', en' => ∃ (e D : Nat) (H1 : Nat → Bool) (l1 : Nat → Int), BstE c (gOf c fin cost (fun w => H w = true) (kTc c sp)) (sk k) e D ∧ Wlk c z (gOf c fin cost (fun w => H w = true) (kTc c sp)) H l e H1 l1 ∧ NtR c z sp fin cost sk n (k + 1) H1 l1 (zUpd en k e) H' l' en'
def pNt (c : gCf) (n k j : Nat) : Prop := pWk c n k j ∨ pFr k j ∨ k = 79
/-- the spot of a net's source, of a sink -/
def spN (z : gZ) (n : Nat) : Nat := (z.1 69 (z.1 61 n).toNat).toNat
def spK (z : gZ) (k : Nat) : Nat := (z.1 69 (z.1 64 k).toNat).toNat
theorem Wlk_z {z s : gZ} {g : Gph} (h7 : s.1 7 = z.1 7) (h8 : s.1 8 = z.1 8) (h9 : s.1 9 = z.1 9) {H H' : Nat → Bool} {l l' : Nat → Int} {w : Nat} (h : Wlk c s g H l w H' l') : Wlk c z g H l w H' l' := by
  induction h using Wlk_ind with
  | stop a => exact .stop a
  | drive a b d => exact .drive a b d
  | @step H l w D v k H' l' a b d e f ih =>
    have e7 : dgZ s w = dgZ z w := by unfold dgZ; rw [h7]
    have e9 : jnZ s w k = jnZ z w k := by unfold jnZ; rw [h9]
    rw [e7] at e
    rw [e9] at ih
    exact .step a b d (pick_z h8 e) ih
theorem s_routeNet {m nC nN nS nI nO n B : Nat} {fin : Nat → Prop} {k0 : Nat → Nat} {H : Nat → Bool} {z : gZ} (gr : Gr c z) (hj : Jk c z) (hN : NJ c m nC nN nS nI nO z) (hPK : PZ c nC nI nO z) (hn : n < nN) (hC : CsB c k0 z) (hF : FnO c fin z) (hB : ∀ w, cstN c z k0 w ≤ B) (hBb : 27 * B < 2147483648) (h : EG c n k0 H z) : zOk (q_Router_routeNet E (kL c) (n : Int) z) (fun s => ∃ H', NtR c z (spN z n) fin (cstN c z k0) (spK z) (z.1 62 (n + 1) - z.1 62 n).toNat (z.1 62 n).toNat (fun _ => false) (z.1 77) (z.1 79) H' (s.1 77) (s.1 79) ∧ EC c n k0 H' s ∧ zO (pNt c n) z s ∧ (∀ v, H' v = true → fin v)) := by
  have hW := kW_b gr.1
  have hD := kD_b gr.1
  have hP := kP_b gr.1
  have hNN := kN_b gr.1
  have nb := hN.nb
  have sb := hN.sb
  obtain ⟨x, x1, x2⟩ := hN.su hn
  obtain ⟨x3, q, q1, q2⟩ := hPK.q x2
  obtain ⟨f1, f2, f3⟩ := hN.fs n (by omega)
  obtain ⟨g1, g2, g3⟩ := hN.fs (n + 1) (by omega)
  have mo := hN.mo n hn
  have hw : ∃ lo cnt : Nat, z.1 62 n = lo ∧ z.1 62 (n + 1) = ((lo + cnt : Nat) : Int) := ⟨(z.1 62 n).toNat, (z.1 62 (n + 1) - z.1 62 n).toNat, by omega, by omega⟩
  obtain ⟨lo, cn, w1, w2⟩ := hw
  have esp : spN z n = q := by unfold spN; rw [x1, gtN, q1, gtN]
  rw [esp, w1, w2, show (((lo + cn : Nat) : Int) - (lo : Int)).toNat = cn by omega, gtN]
  have pos : ∀ w, 1 ≤ cstN c z k0 w := fun w => (cst_b hC w).1
  have ft : ∀ u w, u % kT c = w % kT c → fin u → fin w := fun u w e f => by
    rcases hF with ⟨-, a⟩ | ⟨t, -, -, a⟩
    · exact a w
    · rw [a] at f ⊢; omega
  have ex : ∃ t, t < kT c ∧ ∀ w, w % kT c = t → fin w := by
    obtain ⟨-, -, -, ⟨t1, t2⟩⟩ := id gr.1
    rcases hF with ⟨-, a⟩ | ⟨t, b, -, a⟩
    · exact ⟨0, by omega, fun w _ => a w⟩
    · exact ⟨t, b, fun w hw => (a w).2 hw⟩
  have RGm : ∀ H : Nat → Bool, (∀ w, H w = true → w < kW c ∧ fin w) → RG c fin (cstN c z k0) (fun w => H w = true) B := fun H hH => ⟨pos, hB, hBb, ft, hH, ex⟩
  have gz : ∀ {s}, zO (pNt c n) z s → Gr c s ∧ Jk c s ∧ cstN c s k0 = cstN c z k0 ∧ CsB c k0 s ∧ FnO c fin s ∧ (∀ k, k = 7 ∨ k = 8 ∨ k = 9 ∨ k = 61 ∨ k = 62 ∨ k = 64 ∨ k = 69 → s.1 k = z.1 k) := fun {s} o => by
    have gs := Gr_o o (fun k j h => by unfold pS at h; unfold pNt pWk pGn pFr; omega) gr
    have cc := cst_o (c := c) (k0 := k0) o (fun k j h => by unfold pNt pWk pGn pFr at h; omega)
    refine ⟨gs, fun j hj' => ?_, cc.1, cc.2 hC, ?_, fun k hk => funext fun j => o k j (by unfold pNt pWk pGn pFr; omega)⟩
    · unfold jOk
      rw [o 5 j (by unfold pNt pWk pGn pFr; omega), o 6 j (by unfold pNt pWk pGn pFr; omega)]; exact hj j hj'
    · unfold FnO
      rw [o 70 14 (by unfold pNt pWk pGn pFr; omega)]; exact hF
  unfold q_Router_routeNet
  refine ok_b1 _ (s_giveUp gr.1 (by omega) h (fun w hw => by have := hC.k w hw; omega)) fun s2 ⟨c2, o2⟩ => ?_
  have oz2 : zO (pNt c n) z s2 := o_w o2 fun k j x => Or.inl (Or.inl x)
  obtain ⟨-, -, -, -, -, r2⟩ := gz oz2
  rw [kL_61, kL_69, kL_62, gtN, r2 61 (by omega), x1]
  (refine ok_gd (by omega) ?_); (refine ok_gd (by omega) ?_)
  rw [ok_l]
  (refine ok_gd (by omega) ?_)
  rw [ok_l, gtN, r2 69 (by omega), q1, r2 62 (by omega), w1]
  have r77 : s2.1 77 = z.1 77 := funext fun j => o2 77 j (by unfold pGn; omega)
  have r79 : s2.1 79 = z.1 79 := funext fun j => o2 79 j (by unfold pGn; omega)
  refine ok_b1 (fun s => ∃ H', NtR c z q fin (cstN c z k0) (spK z) cn lo (fun _ => false) (z.1 77) (z.1 79) H' (s.1 77) (s.1 79) ∧ EC c n k0 H' s ∧ zO (pNt c n) z s ∧ (∀ v, H' v = true → fin v)) ?_ fun s hs => ok_so hs
  refine it_for (fun (i : Nat) (t : gZ) => (((lo + i : Nat) : Int), t)) (fun i t => ∃ H1, EC c n k0 H1 t ∧ zO (pNt c n) z t ∧ (∀ v, H1 v = true → fin v) ∧ ∀ H' l' en', NtR c z q fin (cstN c z k0) (spK z) (cn - i) (lo + i) H1 (t.1 77) (t.1 79) H' l' en' → NtR c z q fin (cstN c z k0) (spK z) cn lo (fun _ => false) (z.1 77) (z.1 79) H' l' en') 0 cn rfl ⟨_, c2, oz2, (fun v hv => by cases hv), fun H' l' en' hh => by rw [r77, r79] at hh; exact hh⟩ (by omega) (by omega) ?_ ?_
  · rintro i t - hi ⟨H1, e1, o1, n1, k1⟩
    obtain ⟨gt, jt, ecc, cb, fo, rt⟩ := gz o1
    obtain ⟨y, y1, y2⟩ := hN.ku (k := lo + i) (by omega)
    obtain ⟨y3, p, p1, p2⟩ := hPK.q y2
    have esk : spK z (lo + i) = p := by unfold spK; rw [y1, gtN, p1, gtN]
    show zOk (q_Router_routeNet_33 E (kL c) (n : Int) (q : Int) ((lo + i : Nat) : Int) t) _
    unfold q_Router_routeNet_33
    rw [kL_62, kL_64, kL_69, kL_79]
    (refine ok_gd (by omega) ?_)
    rw [show ((n : Int) + 1).toNat = n + 1 by omega, rt 62 (by omega), w2]
    (refine ok_neg (by omega) ?_); (refine ok_gd (by omega) ?_)
    rw [gtN, rt 64 (by omega), y1]
    (refine ok_gd (by omega) ?_)
    rw [gtN, rt 69 (by omega), p1]
    have R1 := RGm H1 fun w hw => ⟨e1.hW w hw, n1 w hw⟩
    have cso : CsO c (fun w => H1 w = true) (cstN c z k0) t := by have := cso_of cb e1; rw [ecc] at this; exact this
    have owl : OwL c (fun w => H1 w = true) t := ⟨_, e1.no, cnb_le _ _, e1.o1, e1.o2⟩
    refine ok_b2 _ (s_search (sp := q) (sk := p) gt jt R1 q2 p2 cso fo owl) fun v5 s6 ⟨e, D, v1, v2, v3, v4, v5', v6⟩ => ?_
    have v1 : v5 = e := v1
    subst v1
    have v3 : zO pFr t s6 := v3
    (refine ok_gd (by omega) ?_)
    rw [ok_l, show (zPut s6 79 (lo + i) (e : Int)).1 79 (lo + i) = e by (simp only [zp1, zr1, zf1, Nat.reduceEqDiff, Nat.reduceBEq, reduceIte, if_true, if_false, and_true, true_and, and_false, false_and, gtN])]
    have o7 : zO (fun k j => k = 79 ∧ j = lo + i) s6 (zPut s6 79 (lo + i) (e : Int)) := o_put ⟨rfl, rfl⟩
    have v7 : ∀ j, (zPut s6 79 (lo + i) (e : Int)).1 79 j = if j = lo + i then (e : Int) else s6.1 79 j := fun j => by (simp only [zp1, zr1, zf1, Nat.reduceEqDiff, Nat.reduceBEq, reduceIte, if_true, if_false, and_true, true_and, and_false, false_and, gtN])
    generalize zPut s6 79 (lo + i) (e : Int) = s7 at o7 v7 ⊢
    have ot7 : zO (fun k j => pFr k j ∨ (k = 79 ∧ j = lo + i)) t s7 := o_t (o_w v3 fun k j x => Or.inl x) (o_w o7 fun k j x => Or.inr x)
    have oz7 : zO (pNt c n) z s7 := o_t o1 (o_w ot7 fun k j x => x.elim (fun y => Or.inr (Or.inl y)) (fun y => Or.inr (Or.inr y.1)))
    obtain ⟨g7, j7, ecc7, cb7, -, rt7⟩ := gz oz7
    have e7 : EC c n k0 H1 s7 := EC_o e1 ot7 fun k j x => by unfold pFr at x; omega
    have r73 : s7.1 73 = s6.1 73 := funext fun j => o7 73 j (by omega)
    have v4 : ∀ w, w < kW c → s6.1 73 w = -1 ∨ ∃ d : Nat, s6.1 73 w = d ∧ Dst (gOf c fin (cstN c z k0) (fun w => H1 w = true) (kTc c q)) w d := v4
    have v5' : ∀ w d, Dst (gOf c fin (cstN c z k0) (fun w => H1 w = true) (kTc c q)) w d → d < D → s6.1 73 w = d := v5'
    have v6 : s6.1 73 e = D := v6
    have hwk := s_walk (E := E) (z := s7) (fin := fin) (n := n) (sp := q) (e := e) (D := D) (B := B) (k0 := k0) (H0 := H1) g7 j7 (by omega) q2 (by rw [ecc7]; exact R1) cb7 e7 v2.1 (by rw [ecc7]; exact v2.2.2.1) (by rw [r73]; exact v6) (by rw [ecc7, r73]; exact v5') (by rw [ecc7, r73]; exact v4)
    rw [ecc7] at hwk
    refine ok_b1 _ hwk fun s9 ⟨H', h1, h2, h3, h4⟩ => ?_
    rw [ok_l]
    have r77' : s7.1 77 = t.1 77 := funext fun j => ot7 77 j (by unfold pFr; omega)
    have r79' : s9.1 79 = zUpd (t.1 79) (lo + i) e := funext fun j => by
      rw [h3 79 j (by unfold pWk pGn; omega), v7, v3 79 j (by unfold pFr; omega)]; rfl
    refine ok_inl (Or.inl ⟨s9, rfl, H', h2, o_t oz7 (o_w h3 fun k j x => Or.inl x), h4, fun H'' l'' en'' hh => k1 H'' l'' en'' ?_⟩)
    rw [show cn - i = (cn - (i + 1)) + 1 by omega]
    refine ⟨e, D, H', s9.1 77, by rw [esk]; exact v2, ?_, ?_⟩
    · rw [← r77']
      refine Wlk_z ?_ ?_ ?_ h1
      · rw [rt7 7 (by omega)]
      · rw [rt7 8 (by omega)]
      · rw [rt7 9 (by omega)]
    · rw [← r79']; exact hh
  · rintro t ⟨H1, e1, o1, n1, k1⟩
    obtain ⟨gt, jt, ecc, cb, fo, rt⟩ := gz o1
    show zOk (q_Router_routeNet_33 E (kL c) (n : Int) (q : Int) ((lo + cn : Nat) : Int) t) _
    unfold q_Router_routeNet_33
    rw [kL_62]
    (refine ok_gd (by omega) ?_)
    rw [show ((n : Int) + 1).toNat = n + 1 by omega, rt 62 (by omega), w2]
    (refine ok_pos (by omega) ?_)
    refine ok_inr ⟨t, rfl, H1, k1 _ _ _ ?_, e1, o1, n1⟩
    rw [Nat.sub_self]
    exact ⟨rfl, rfl, rfl⟩
end
-- Y1
section
variable {E : gEv} {c : gCf}
theorem Wlk_l {z : gZ} {g : Gph} {H H' : Nat → Bool} {l l' : Nat → Int} {w : Nat} (h : Wlk c z g H l w H' l') : (∀ v, H v = true → H' v = true) ∧ (∀ v, H' v = false → l' v = l v) := by
  induction h using Wlk_ind with
  | stop a => exact ⟨fun v h => h, fun v h => rfl⟩
  | @drive H l w a b d =>
    refine ⟨fun v h => ?_, fun v h => ?_⟩
    · unfold updB; split
      · rfl
      · exact h
    · by_cases e : v = w
      · rw [e, updB_e] at h; cases h
      · rw [zUpd_n e]
  | @step H l w D v k H' l' a b d e f ih =>
    obtain ⟨i1, i2⟩ := ih
    refine ⟨fun x h => i1 x ?_, fun x h => ?_⟩
    · unfold updB; split
      · rfl
      · exact h
    · rw [i2 x h]
      by_cases e2 : x = w
      · have := i1 x (by rw [e2]; exact updB_e H w)
        rw [h] at this; cases this
      · rw [zUpd_n e2]
theorem NtR_l {z : gZ} {sp : Nat} {fin : Nat → Prop} {cost : Nat → Nat} {sk : Nat → Nat} : ∀ (n k : Nat) (H : Nat → Bool) (l en : Nat → Int) (H' : Nat → Bool) (l' en' : Nat → Int), NtR c z sp fin cost sk n k H l en H' l' en' → (∀ v, H v = true → H' v = true) ∧ (∀ v, H' v = false → l' v = l v) ∧ (∀ j, j < k ∨ k + n ≤ j → en' j = en j) := by
  intro n
  induction n with
  | zero => rintro k H l en H' l' en' ⟨h1, h2, h3⟩; subst h1; subst h2; subst h3; exact ⟨fun v h => h, fun v h => rfl, fun j h => rfl⟩
  | succ n ih =>
    rintro k H l en H' l' en' ⟨e, D, H1, l1, h1, h2, h3⟩
    obtain ⟨i1, i2, i3⟩ := ih _ _ _ _ _ _ _ h3
    obtain ⟨j1, j2⟩ := Wlk_l h2
    refine ⟨fun v h => i1 v (j1 v h), fun v h => ?_, fun j hj => ?_⟩
    · rw [i2 v h]
      refine j2 v ?_
      cases hh : H1 v
      · rfl
      · have := i1 v hh; rw [h] at this; cases this
    · rw [i3 j (by omega), zUpd_n (by omega)]
/-- costs, and where one may go -/
def cstP (c : gCf) (on r : Int) (pst : Nat → Int) (k0 : Nat → Nat) (w : Nat) : Nat := if on = -1 ∧ w < kW c then ((1 + pst w) * (1 + (r - 1) * k0 w)).toNat else 1
def finP (c : gCf) (on : Int) (w : Nat) : Prop := on = -1 ∨ ((w % kT c : Nat) : Int) = on
theorem cst_P (z : gZ) (k0 : Nat → Nat) : cstN c z k0 = cstP c (z.1 70 14) (z.1 70 13) (z.1 76) k0 := rfl
/-- how many other nets have a wire; how many have it -/
def k0A (A : Nat → Nat → Bool) (nN n w : Nat) : Nat := cnb (fun m => A m w && decide (m ≠ n)) nN
def cnA' (A : Nat → Nat → Bool) (nN w : Nat) : Nat := cnb (fun m => A m w) nN
theorem cnA_k {A : Nat → Nat → Bool} {nN n w : Nat} (hn : n < nN) : cnA' A nN w = k0A A nN n w + (if A n w = true then 1 else 0) := by
  unfold cnA' k0A
  by_cases e : A n w = true
  · rw [if_pos e]
    refine cnb_add hn ?_ e fun i hi => ?_
    · show (A n w && decide (n ≠ n)) = false
      rw [decide_eq_false (fun x => x rfl), Bool.and_false]
    · show A i w = (A i w && decide (i ≠ n))
      rw [decide_eq_true hi, Bool.and_true]
  · rw [if_neg e]
    refine cnb_c fun i hi => ?_
    by_cases x : i = n
    · rw [x]
      cases h : A n w
      · rfl
      · exact absurd h e
    · rw [decide_eq_true x, Bool.and_true]
theorem k0A_b {A : Nat → Nat → Bool} {nN n w : Nat} (hn : n < nN) : k0A A nN n w < nN := cnb_lt hn (by rw [decide_eq_false (fun x => x rfl), Bool.and_false])
def updA {α : Type} (A : Nat → α) (n : Nat) (H : α) : Nat → α := fun m => if m = n then H else A m
theorem updA_e {α : Type} (A : Nat → α) (n : Nat) (H : α) : updA A n H n = H := if_pos rfl
theorem updA_n {α : Type} {A : Nat → α} {n m : Nat} {H : α} (h : m ≠ n) : updA A n H m = A m := if_neg h
theorem k0A_u {A : Nat → Nat → Bool} {nN n w : Nat} {H : Nat → Bool} : k0A (updA A n H) nN n w = k0A A nN n w := by
  unfold k0A
  refine cnb_c fun i hi => ?_
  by_cases x : i = n
  · rw [decide_eq_false (fun y => y x), Bool.and_false, Bool.and_false]
  · rw [updA_n x]
/-- a state of routing: wires of nets, their links when they were routed, links now, ends -/
abbrev RSt : Type := (Nat → Nat → Bool) × (Nat → Nat → Int) × (Nat → Int) × (Nat → Int)
abbrev RSt.A (s : RSt) : Nat → Nat → Bool := s.1
abbrev RSt.L (s : RSt) : Nat → Nat → Int := s.2.1
abbrev RSt.l (s : RSt) : Nat → Int := s.2.2.1
abbrev RSt.e (s : RSt) : Nat → Int := s.2.2.2
theorem RSt_inj {A A' : Nat → Nat → Bool} {L L' : Nat → Nat → Int} {l l' e e' : Nat → Int} (h : ((A, L, l, e) : RSt) = (A', L', l', e')) : A = A' ∧ L = L' ∧ l = l' ∧ e = e' := by
  have h1 := Prod.mk.inj h
  have h2 := Prod.mk.inj h1.2
  have h3 := Prod.mk.inj h2.2
  exact ⟨h1.1, h2.1, h3.1, h3.2⟩
/-- nets i, i + 1 .. are routed one behind the other; on n: the track that a net must keep to, -1 for any -/
def RdS (c : gCf) (z : gZ) (nN : Nat) (on : Nat → Int) (r : Int) (pst : Nat → Int) : Nat → Nat → RSt → RSt → Prop
  | 0, _, s, s' => s' = s
  | n + 1, i, s, s' => ∃ (H : Nat → Bool) (l1 e1 : Nat → Int), NtR c z (spN z i) (finP c (on i)) (cstP c (on i) r pst (k0A s.A nN i)) (spK z) (z.1 62 (i + 1) - z.1 62 i).toNat (z.1 62 i).toNat (fun _ => false) s.l s.e H l1 e1 ∧ RdS c z nN on r pst n (i + 1) ⟨updA s.A i H, updA s.L i l1, l1, e1⟩ s'
/-- the class has what the nets have -/
abbrev EA (c : gCf) (nN : Nat) (A : Nat → Nat → Bool) (z : gZ) : Prop := ∃ _ : (z.1 70 4 = kH c), ∃ _ : (∀ n w, n < nN → w < kH c * 32 → hadB c z n w = A n w), ∃ _ : (∀ n w, n < nN → A n w = true → w < kW c), (∀ w, w < kW c → z.1 75 w = (cnA' A nN w : Nat))
theorem EA.wd {c : gCf} {nN : Nat} {A : Nat → Nat → Bool} {z : gZ} (h : EA c nN A z) : z.1 70 4 = kH c := by obtain ⟨x, _⟩ := h; exact x
theorem EA.bit {c : gCf} {nN : Nat} {A : Nat → Nat → Bool} {z : gZ} (h : EA c nN A z) : ∀ n w, n < nN → w < kH c * 32 → hadB c z n w = A n w := by obtain ⟨_, x, _⟩ := h; exact x
theorem EA.hW {c : gCf} {nN : Nat} {A : Nat → Nat → Bool} {z : gZ} (h : EA c nN A z) : ∀ n w, n < nN → A n w = true → w < kW c := by obtain ⟨_, _, x, _⟩ := h; exact x
theorem EA.cn {c : gCf} {nN : Nat} {A : Nat → Nat → Bool} {z : gZ} (h : EA c nN A z) : ∀ w, w < kW c → z.1 75 w = (cnA' A nN w : Nat) := by obtain ⟨_, _, _, x⟩ := h; exact x
theorem EA_g {nN n : Nat} {A : Nat → Nat → Bool} {z : gZ} (h : EA c nN A z) (hn : n < nN) : EG c n (k0A A nN n) (A n) z :=
  ⟨h.wd, fun w hw => h.bit n w hn hw, fun w hw => h.hW n w hn hw, fun w hw => by rw [h.cn w hw, cnA_k hn]; split <;> simp⟩
theorem EA_c {nN n : Nat} {A : Nat → Nat → Bool} {H : Nat → Bool} {z s : gZ} (h : EA c nN A z) (hn : n < nN) (o : zO (pNt c n) z s) (e : EC c n (k0A A nN n) H s) : EA c nN (updA A n H) s := by
  refine ⟨e.wd, fun m w hm hw => ?_, fun m w hm hA => ?_, fun w hw => ?_⟩
  · by_cases x : m = n
    · rw [x, updA_e]; exact e.bit w hw
    · rw [updA_n x, had_o o fun y => ?_]
      · exact h.bit m w hm hw
      · have hq : w / 32 < kH c := by omega
        have h0 : m * kH c + w / 32 ≠ n * kH c + w / 32 := ix_ne x hq hq
        have : n * kH c ≤ m * kH c + w / 32 ∧ m * kH c + w / 32 < n * kH c + kH c := by
          unfold pNt pWk pGn pFr at y; omega
        exact ix_ne (a := w / 32) (b := m * kH c + w / 32 - n * kH c) x hq (by omega) (by omega)
  · by_cases x : m = n
    · rw [x, updA_e] at hA; exact e.hW w hA
    · rw [updA_n x] at hA; exact h.hW m w hm hA
  · rw [e.cn w hw, cnA_k hn, k0A_u, updA_e]; split <;> simp
def pRd (k j : Nat) : Prop := k = 73 ∨ (k = 71 ∧ j = 2) ∨ k = 74 ∨ k = 75 ∨ k = 77 ∨ k = 79 ∨ k = 80 ∨ (k = 70 ∧ (j = 12 ∨ j = 14))
/-- what stays in a round -/
abbrev RC (c : gCf) (m nC nN nS nI nO : Nat) (z : gZ) : Prop := ∃ _ : (Gr c z), ∃ _ : (Jk c z), ∃ _ : (NJ c m nC nN nS nI nO z), (PZ c nC nI nO z)
theorem RC.g {c : gCf} {m nC nN nS nI nO : Nat} {z : gZ} (h : RC c m nC nN nS nI nO z) : Gr c z := by obtain ⟨x, _⟩ := h; exact x
theorem RC.j {c : gCf} {m nC nN nS nI nO : Nat} {z : gZ} (h : RC c m nC nN nS nI nO z) : Jk c z := by obtain ⟨_, x, _⟩ := h; exact x
theorem RC.n {c : gCf} {m nC nN nS nI nO : Nat} {z : gZ} (h : RC c m nC nN nS nI nO z) : NJ c m nC nN nS nI nO z := by obtain ⟨_, _, x, _⟩ := h; exact x
theorem RC.p {c : gCf} {m nC nN nS nI nO : Nat} {z : gZ} (h : RC c m nC nN nS nI nO z) : PZ c nC nI nO z := by obtain ⟨_, _, _, x⟩ := h; exact x
theorem NJ_1 {P : Nat → Nat → Prop} {m nC nN nS nI nO : Nat} {z s : gZ} (h : NJ c m nC nN nS nI nO z) (o : zO P z s) (hP : ∀ k j, pN k j → ¬ P k j) : NJ c m nC nN nS nI nO s := by
  have r : ∀ k, ((60 ≤ k ∧ k ≤ 64) ∨ (128 ≤ k ∧ k ≤ 131) ∨ k = 133) → s.1 k = z.1 k := fun k hk => funext fun j => o k j (hP _ _ (by unfold pN; omega))
  exact ⟨by rw [o 53 17 (hP _ _ (by unfold pN; omega))]; exact h.n, by rw [o 94 60 (hP _ _ (by unfold pN; omega))]; exact h.nm, h.nb, by rw [o 53 16 (hP _ _ (by unfold pN; omega))]; exact h.cn, by rw [o 94 66 (hP _ _ (by unfold pN; omega))]; exact h.cm, h.mb, h.sb, by rw [r 62 (by omega), r 130 (by omega)]; exact h.fs, by rw [r 62 (by omega)]; exact h.mo, by rw [r 62 (by omega)]; exact h.f0, by rw [r 62 (by omega)]; exact h.fN, by rw [r 60 (by omega), r 61 (by omega), r 129 (by omega), r 128 (by omega), r 133 (by omega)]; exact h.src, by rw [r 131 (by omega), r 63 (by omega), r 133 (by omega), r 64 (by omega)]; exact h.snk⟩
theorem RC_o {P : Nat → Nat → Prop} {m nC nN nS nI nO : Nat} {z s : gZ} (h : RC c m nC nN nS nI nO z) (o : zO P z s) (hP : ∀ k j, P k j → ¬ pS k j ∧ ¬ pN k j ∧ k ≠ 68 ∧ k ≠ 69) : RC c m nC nN nS nI nO s := by
  have e8 : s.1 68 = z.1 68 := funext fun j => o 68 j fun x => (hP _ _ x).2.2.1 rfl
  have e9 : s.1 69 = z.1 69 := funext fun j => o 69 j fun x => (hP _ _ x).2.2.2 rfl
  refine ⟨Gr_o o (fun k j a b => (hP k j b).1 a) h.g, fun j hj => ?_, NJ_1 h.n o fun k j a b => (hP k j b).2.1 a, by unfold PZ; rw [e8, e9]; exact h.p⟩
  unfold jOk
  rw [o 5 j (fun b => (hP _ _ b).1 (by unfold pS; omega)), o 6 j (fun b => (hP _ _ b).1 (by unfold pS; omega))]; exact h.j j hj
theorem RdS_z {z s : gZ} (h : ∀ k, k = 7 ∨ k = 8 ∨ k = 9 ∨ k = 61 ∨ k = 62 ∨ k = 64 ∨ k = 69 → s.1 k = z.1 k) {nN : Nat} {on : Nat → Int} {r : Int} {pst : Nat → Int} : ∀ (n i : Nat) (a b : RSt), RdS c s nN on r pst n i a b → RdS c z nN on r pst n i a b := by
  have nt : ∀ {sp : Nat} {fin : Nat → Prop} {cost : Nat → Nat} {sk : Nat → Nat} (n k : Nat) (H : Nat → Bool) (l en : Nat → Int) (H' : Nat → Bool) (l' en' : Nat → Int), NtR c s sp fin cost sk n k H l en H' l' en' → NtR c z sp fin cost sk n k H l en H' l' en' := by
    intro sp fin cost sk n
    induction n with
    | zero => intro k H l en H' l' en' x; exact x
    | succ n ih =>
      rintro k H l en H' l' en' ⟨e, D, H1, l1, h1, h2, h3⟩
      exact ⟨e, D, H1, l1, h1, Wlk_z (h 7 (by omega)) (h 8 (by omega)) (h 9 (by omega)) h2, ih _ _ _ _ _ _ _ h3⟩
  intro n
  induction n with
  | zero => intro i a b x; exact x
  | succ n ih =>
    rintro i a b ⟨H, l1, e1, h1, h2⟩
    have e1' : spN s i = spN z i := by unfold spN; rw [h 69 (by omega), h 61 (by omega)]
    have e2' : spK s = spK z := by funext k; unfold spK; rw [h 69 (by omega), h 64 (by omega)]
    rw [e1', e2', h 62 (by omega)] at h1
    exact ⟨H, l1, e1, nt _ _ _ _ _ _ _ _ h1, ih _ _ _ h2⟩
end
-- Y2
section
variable {E : gEv} {c : gCf}
/-- the class's router stands for a state -/
def CSt (c : gCf) (nN : Nat) (a : RSt) (z : gZ) : Prop := EA c nN a.A z ∧ z.1 77 = a.l ∧ z.1 79 = a.e
abbrev PB (c : gCf) (z : gZ) : Prop := ∃ _ : (1 ≤ z.1 70 13 ∧ z.1 70 13 ≤ 21), (∀ w, w < kW c → 0 ≤ z.1 76 w ∧ z.1 76 w ≤ 3999)
theorem PB.r {c : gCf} {z : gZ} (h : PB c z) : 1 ≤ z.1 70 13 ∧ z.1 70 13 ≤ 21 := by obtain ⟨x, _⟩ := h; exact x
theorem PB.p {c : gCf} {z : gZ} (h : PB c z) : ∀ w, w < kW c → 0 ≤ z.1 76 w ∧ z.1 76 w ≤ 3999 := by obtain ⟨_, x⟩ := h; exact x
theorem s_step1 {m nC nN nS nI nO n : Nat} {z : gZ} {a : RSt} (R : RC c m nC nN nS nI nO z) (hb : PB c z) (ho : z.1 70 14 = -1 ∨ ∃ t : Nat, t < kT c ∧ z.1 70 14 = t) (hn : n < nN) (h : CSt c nN a z) : zOk (q_Router_routeNet E (kL c) (n : Int) z) (fun s => ∃ H l1 e1, NtR c z (spN z n) (finP c (z.1 70 14)) (cstP c (z.1 70 14) (z.1 70 13) (z.1 76) (k0A a.A nN n)) (spK z) (z.1 62 (n + 1) - z.1 62 n).toNat (z.1 62 n).toNat (fun _ => false) a.l a.e H l1 e1 ∧ CSt c nN ⟨updA a.A n H, updA a.L n l1, l1, e1⟩ s ∧ zO (pNt c n) z s) := by
  have hP := kP_b R.g.1
  have hD := kD_b R.g.1
  have nb := R.n.nb
  obtain ⟨h1, h2, h3⟩ := h
  have cb : CsB c (k0A a.A nN n) z := ⟨hb.r, hb.p, fun w hw => by have := k0A_b (A := a.A) (w := w) hn; omega, ho⟩
  have fo : FnO c (finP c (z.1 70 14)) z := by
    rcases ho with e | ⟨t, t1, t2⟩
    · exact Or.inl ⟨e, fun w => Or.inl e⟩
    · refine Or.inr ⟨t, t1, t2, fun w => ?_⟩
      unfold finP
      constructor
      · rintro (x | x) <;> omega
      · intro x; right; omega
  refine ok_w (s_routeNet R.g R.j R.n R.p hn cb fo (B := 16000000) (fun w => (cst_b cb w).2) (by omega) (EA_g h1 hn)) fun s ⟨H, k1, k2, k3, k4⟩ => ?_
  rw [cst_P, h2, h3] at k1
  exact ⟨H, _, _, k1, ⟨EA_c h1 hn k3 k2, rfl, rfl⟩, k3⟩
theorem pNt_r {n k j : Nat} (h : pNt c n k j) : pRd k j := by
  unfold pNt pWk pGn pFr at h
  unfold pRd
  omega
theorem pRd_c {k j : Nat} (h : pRd k j) : ¬ pS k j ∧ ¬ pN k j ∧ k ≠ 68 ∧ k ≠ 69 := by
  unfold pRd at h
  unfold pS pN
  omega
/-- a round of the class -/
theorem s_roundC {m nC nN nS nI nO most : Nat} {z : gZ} {a : RSt} (R : RC c m nC nN nS nI nO z) (hb : PB c z) (ho : z.1 70 14 = -1) (h : CSt c nN a z) : zOk (gIter (fun y => q_Router_work_37 E (kL c) (most : Int) y.1 y.2) gN (0, z)) (fun s => ∃ b, RdS c z nN (fun _ => -1) (z.1 70 13) (z.1 76) nN 0 a b ∧ CSt c nN b s ∧ zO pRd z s ∧ s.1 70 14 = -1) := by
  have hP := kP_b R.g.1
  have hD := kD_b R.g.1
  have nb := R.n.nb
  refine it_for (fun (i : Nat) (t : gZ) => ((i : Int), t)) (fun i t => ∃ s, CSt c nN s t ∧ zO pRd z t ∧ t.1 70 14 = -1 ∧ ∀ b, RdS c z nN (fun _ => -1) (z.1 70 13) (z.1 76) (nN - i) i s b → RdS c z nN (fun _ => -1) (z.1 70 13) (z.1 76) nN 0 a b) 0 nN rfl ⟨a, h, o_r, ho, fun b x => x⟩ (by omega) (by omega) ?_ ?_
  · rintro i t - hi ⟨s, s1, s2, s3, s4⟩
    have Rt : RC c m nC nN nS nI nO t := RC_o R s2 fun k j x => pRd_c x
    have rr : ∀ k, k = 7 ∨ k = 8 ∨ k = 9 ∨ k = 61 ∨ k = 62 ∨ k = 64 ∨ k = 69 → t.1 k = z.1 k := fun k hk => funext fun j => s2 k j (by unfold pRd; omega)
    have r13 : t.1 70 13 = z.1 70 13 := s2 70 13 (by unfold pRd; omega)
    have r76 : t.1 76 = z.1 76 := funext fun j => s2 76 j (by unfold pRd; omega)
    have hbt : PB c t := ⟨by rw [r13]; exact hb.r, by rw [r76]; exact hb.p⟩
    show zOk (q_Router_work_37 E (kL c) (most : Int) (i : Int) t) _
    unfold q_Router_work_37
    rw [Rt.n.n]
    (refine ok_neg (by omega) ?_)
    refine ok_b1 _ (s_step1 Rt hbt (Or.inl s3) hi s1) fun u ⟨H, l1, e1, u1, u2, u3⟩ => ?_
    rw [ok_l]
    refine ok_inl (Or.inl ⟨u, rfl, _, u2, o_t s2 (o_w u3 fun k j x => pNt_r x), ?_, fun b hb' => s4 b ?_⟩)
    · rw [u3 70 14 (by unfold pNt pWk pGn pFr; omega)]; exact s3
    · rw [show nN - i = (nN - (i + 1)) + 1 by omega]
      rw [s3, r13, r76] at u1
      have one : RdS c t nN (fun _ => -1) (z.1 70 13) (z.1 76) 1 i s ⟨updA s.A i H, updA s.L i l1, l1, e1⟩ := ⟨H, l1, e1, u1, rfl⟩
      obtain ⟨H', l1', e1', q1, q2⟩ := RdS_z rr _ _ _ _ one
      have q2 := RSt_inj q2
      have hH : H' = H := by
        have := congrFun q2.1 i
        rw [updA_e, updA_e] at this; exact this.symm
      obtain ⟨-, -, q3, q4⟩ := q2
      subst hH; subst q3; subst q4
      exact ⟨H', _, _, q1, hb'⟩
  · rintro t ⟨s, s1, s2, s3, s4⟩
    have Rt : RC c m nC nN nS nI nO t := RC_o R s2 fun k j x => pRd_c x
    show zOk (q_Router_work_37 E (kL c) (most : Int) (nN : Int) t) _
    unfold q_Router_work_37
    rw [Rt.n.n]
    (refine ok_pos (by omega) ?_)
    refine ok_inr ⟨t, rfl, s, s4 s ?_, s1, s2, s3⟩
    rw [Nat.sub_self]; rfl
/-- the last round: a track for each net -/
theorem s_roundO {m nC nN nS nI nO most : Nat} {z : gZ} {a : RSt} (R : RC c m nC nN nS nI nO z) (hb : PB c z) (hT : nN ≤ kT c) (h : CSt c nN a z) : zOk (gIter (fun y => q_Router_work_113 E (kL c) (most : Int) y.1 y.2) gN (0, z)) (fun s => ∃ b, RdS c z nN (fun n => (n : Int)) (z.1 70 13) (z.1 76) nN 0 a b ∧ CSt c nN b s ∧ zO pRd z s) := by
  have hP := kP_b R.g.1
  have hD := kD_b R.g.1
  have nb := R.n.nb
  refine it_for (fun (i : Nat) (t : gZ) => ((i : Int), t)) (fun i t => ∃ s, CSt c nN s t ∧ zO pRd z t ∧ ∀ b, RdS c z nN (fun n => (n : Int)) (z.1 70 13) (z.1 76) (nN - i) i s b → RdS c z nN (fun n => (n : Int)) (z.1 70 13) (z.1 76) nN 0 a b) 0 nN rfl ⟨a, h, o_r, fun b x => x⟩ (by omega) (by omega) ?_ ?_
  · rintro i t0 - hi ⟨s, s1, s2, s4⟩
    have Rt0 : RC c m nC nN nS nI nO t0 := RC_o R s2 fun k j x => pRd_c x
    show zOk (q_Router_work_113 E (kL c) (most : Int) (i : Int) t0) _
    unfold q_Router_work_113
    rw [Rt0.n.n]
    (refine ok_neg (by omega) ?_)
    rw [ok_l]
    have ot : zO (fun k j => k = 70 ∧ j = 14) t0 (zPut t0 70 14 (i : Int)) := o_put ⟨rfl, rfl⟩
    have vt : (zPut t0 70 14 (i : Int)).1 70 14 = i := by (simp only [zp1, zr1, zf1, Nat.reduceEqDiff, Nat.reduceBEq, reduceIte, if_true, if_false, and_true, true_and, and_false, false_and, gtN])
    generalize zPut t0 70 14 (i : Int) = t at ot vt ⊢
    have o1 : zO pRd z t := o_t s2 (o_w ot fun k j x => by unfold pRd; omega)
    have Rt : RC c m nC nN nS nI nO t := RC_o R o1 fun k j x => pRd_c x
    have rr : ∀ k, k = 7 ∨ k = 8 ∨ k = 9 ∨ k = 61 ∨ k = 62 ∨ k = 64 ∨ k = 69 → t.1 k = z.1 k := fun k hk => funext fun j => o1 k j (by unfold pRd; omega)
    have r13 : t.1 70 13 = z.1 70 13 := o1 70 13 (by unfold pRd; omega)
    have r76 : t.1 76 = z.1 76 := funext fun j => o1 76 j (by unfold pRd; omega)
    have hbt : PB c t := ⟨by rw [r13]; exact hb.r, by rw [r76]; exact hb.p⟩
    have st : CSt c nN s t := by
      obtain ⟨⟨a1, a2, a3, a4⟩, b1, b2⟩ := s1
      refine ⟨⟨by rw [ot 70 4 (by omega)]; exact a1, fun n w hn hw => ?_, a3, fun w hw => by rw [ot 75 w (by omega)]; exact a4 w hw⟩, by rw [← b1]; funext j; exact ot 77 j (by omega), by rw [← b2]; funext j; exact ot 79 j (by omega)⟩
      rw [had_o ot (by omega)]; exact a2 n w hn hw
    refine ok_b1 _ (s_step1 Rt hbt (Or.inr ⟨i, by omega, vt⟩) hi st) fun u ⟨H, l1, e1, u1, u2, u3⟩ => ?_
    rw [ok_l]
    refine ok_inl (Or.inl ⟨u, rfl, _, u2, o_t o1 (o_w u3 fun k j x => pNt_r x), fun b hb' => s4 b ?_⟩)
    rw [show nN - i = (nN - (i + 1)) + 1 by omega]
    rw [vt, r13, r76] at u1
    have one : RdS c t nN (fun n => (n : Int)) (z.1 70 13) (z.1 76) 1 i s ⟨updA s.A i H, updA s.L i l1, l1, e1⟩ := ⟨H, l1, e1, u1, rfl⟩
    obtain ⟨H', l1', e1', q1, q2⟩ := RdS_z rr _ _ _ _ one
    have q2 := RSt_inj q2
    have hH : H' = H := by
      have := congrFun q2.1 i
      rw [updA_e, updA_e] at this; exact this.symm
    obtain ⟨-, -, q3, q4⟩ := q2
    subst hH; subst q3; subst q4
    exact ⟨H', _, _, q1, hb'⟩
  · rintro t ⟨s, s1, s2, s4⟩
    have Rt : RC c m nC nN nS nI nO t := RC_o R s2 fun k j x => pRd_c x
    show zOk (q_Router_work_113 E (kL c) (most : Int) (nN : Int) t) _
    unfold q_Router_work_113
    rw [Rt.n.n]
    (refine ok_pos (by omega) ?_)
    refine ok_inr ⟨t, rfl, s, s4 s ?_, s1, s2⟩
    rw [Nat.sub_self]; rfl
/-- no wire is had twice -/
def aOne (c : gCf) (nN : Nat) (A : Nat → Nat → Bool) : Prop := ∀ w, w < kW c → cnA' A nN w ≤ 1
def pstN (nN : Nat) (A : Nat → Nat → Bool) (p : Nat → Int) (w : Nat) : Int := if 1 < cnA' A nN w then p w + ((cnA' A nN w : Int) - 1) else p w
theorem s_isDone {nN : Nat} {A : Nat → Nat → Bool} {z : gZ} (g : Gr c z) (h : EA c nN A z) (hN : nN ≤ 192) (hp : ∀ w, w < kW c → 0 ≤ z.1 76 w ∧ z.1 76 w ≤ 10000) : zOk (q_Router_isDone E (kL c) z) (fun r => zO (fun k j => k = 76) z r.2 ∧ (∀ w, w < kW c → r.2.1 76 w = pstN nN A (z.1 76) w) ∧ ((r.1 = 1 ∧ aOne c nN A) ∨ (r.1 = 0 ∧ ¬ aOne c nN A))) := by
  have hW := kW_b g.1
  have o7 : z.1 1 7 = kW c := g.2.1.2.2.2.2.2.2.2.1
  unfold q_Router_isDone
  refine ok_b1 (fun r => zO (fun k j => k = 76) z r.2 ∧ (∀ w, w < kW c → r.2.1 76 w = pstN nN A (z.1 76) w) ∧ ((r.1 = 1 ∧ aOne c nN A) ∨ (r.1 = 0 ∧ ¬ aOne c nN A))) ?_ fun r ⟨r1, r2, r3⟩ => ?_
  · refine it_for (fun (i : Nat) (t : Int × gZ) => (t.1, (i : Int), t.2)) (fun i t => zO (fun k j => k = 76) z t.2 ∧ (∀ w, w < kW c → t.2.1 76 w = if w < i then pstN nN A (z.1 76) w else z.1 76 w) ∧ ((t.1 = 1 ∧ ∀ w, w < i → cnA' A nN w ≤ 1) ∨ (t.1 = 0 ∧ ¬ ∀ w, w < i → cnA' A nN w ≤ 1))) 0 (kW c) (t := (1, z)) rfl ⟨o_r, fun w hw => by rw [if_neg (by omega)], Or.inl ⟨rfl, fun w hw => by omega⟩⟩ (by omega) (by omega) ?_ ?_
    · rintro i ⟨d, t⟩ - hi ⟨o, t1, t2⟩
      have o : zO (fun k j => k = 76) z t := o
      have t1 : ∀ w, w < kW c → t.1 76 w = if w < i then pstN nN A (z.1 76) w else z.1 76 w := t1
      have t2 : (d = 1 ∧ ∀ w, w < i → cnA' A nN w ≤ 1) ∨ (d = 0 ∧ ¬ ∀ w, w < i → cnA' A nN w ≤ 1) := t2
      have hc : t.1 75 i = (cnA' A nN i : Nat) := by rw [o 75 i (by omega)]; exact h.cn i hi
      have hv := t1 i hi
      rw [if_neg (by omega)] at hv
      have hpi := hp i hi
      have hcl : cnA' A nN i ≤ nN := cnb_le _ _
      show zOk (q_Router_isDone_4 E (kL c) d (i : Int) t) _
      unfold q_Router_isDone_4
      rw [o 1 7 (by omega), o7, kL_75, kL_76, gtN, hc, hv]
      (refine ok_neg (by omega) ?_); (refine ok_gd (by omega) ?_)
      refine ok_br (fun e => ?_) fun e => ?_
      · rw [ok_l]
        refine ok_inl (Or.inl ⟨(d, t), rfl, o, fun w hw => ?_, ?_⟩)
        · show t.1 76 w = _
          rw [t1 w hw]
          by_cases x : w < i
          · rw [if_pos x, if_pos (by omega)]
          · rw [if_neg x]
            by_cases x2 : w = i
            · rw [if_pos (by omega), x2]; unfold pstN; rw [if_neg (by omega)]
            · rw [if_neg (by omega)]
        · rcases t2 with ⟨a, b⟩ | ⟨a, b⟩
          · refine Or.inl ⟨a, fun w hw => ?_⟩
            by_cases x2 : w = i
            · rw [x2]; omega
            · exact b w (by omega)
          · exact Or.inr ⟨a, fun x => b fun w hw => x w (by omega)⟩
      · (refine ok_gd (by omega) ?_); (refine ok_gd (by omega) ?_)
        rw [ok_l, ok_l]
        refine ok_inl (Or.inl ⟨(0, _), rfl, o_t o (o_put rfl), fun w hw => ?_, Or.inr ⟨rfl, fun x => ?_⟩⟩)
        · show (zPut t 76 i _).1 76 w = _
          rw [zp1, if_pos rfl]
          by_cases x2 : w = i
          · rw [if_pos x2, if_pos (by omega), x2]; unfold pstN; rw [if_pos (by omega)]
          · rw [if_neg x2, t1 w hw]
            by_cases x : w < i
            · rw [if_pos x, if_pos (by omega)]
            · rw [if_neg x, if_neg (by omega)]
        · have := x i (by omega); omega
    · rintro ⟨d, t⟩ ⟨o, t1, t2⟩
      have o : zO (fun k j => k = 76) z t := o
      show zOk (q_Router_isDone_4 E (kL c) d (kW c : Int) t) _
      unfold q_Router_isDone_4
      rw [o 1 7 (by omega), o7]
      (refine ok_pos (by omega) ?_)
      exact ok_inr ⟨(d, t), rfl, o, fun w hw => by have := t1 w hw; rw [if_pos hw] at this; exact this, t2⟩
  · refine ok_gd ?_ (ok_so ⟨r1, r2, r3⟩)
    rcases r3 with ⟨a, -⟩ | ⟨a, -⟩
    · exact Or.inr a
    · exact Or.inl a
end
-- Y3
section
variable {E : gEv} {c : gCf}
/-- rounds of routing: the round that was done, and what it left -/
def RsR (c : gCf) (z : gZ) (nN : Nat) : Nat → Nat → (Nat → Int) → RSt → Option (Nat × RSt) → Prop
  | 0, _, _, _, out => out = none
  | f + 1, r, p, a, out => ∃ b, RdS c z nN (fun _ => -1) (r : Int) p nN 0 a b ∧ ((aOne c nN b.A ∧ out = some (r, b)) ∨ (¬ aOne c nN b.A ∧ ∃ p', (∀ w, w < kW c → p' w = pstN nN b.A p w) ∧ RsR c z nN f (r + 1) p' b out))
/-- all of a call of route: what it answers, and what it leaves where that is not 0 -/
def WkR (c : gCf) (z : gZ) (nN most v : Nat) (b : RSt) : Prop := ∃ (p : Nat → Int) (a : RSt), (∀ w, w < kW c → p w = 0) ∧ (∀ n w, a.A n w = false) ∧ ((RsR c z nN most 1 p a (some (v, b))) ∨ (RsR c z nN most 1 p a none ∧ ((kT c < nN ∧ v = 0) ∨ (nN ≤ kT c ∧ v = most + 1 ∧ ∃ (a1 : RSt) (r : Int) (p1 : Nat → Int), (∀ n w, a1.A n w = false) ∧ RdS c z nN (fun n => (n : Int)) r p1 nN 0 a1 b))))
/-- the last net that has a wire -/
def kpR (A : Nat → Nat → Bool) : Nat → Nat → Int
  | 0, _ => -1
  | n + 1, w => if A n w = true then (n : Int) else kpR A n w
theorem s_keep {m nC nN nS nI nO : Nat} {A : Nat → Nat → Bool} {z : gZ} {v : Int} (g : Gr c z) (hn : NJ c m nC nN nS nI nO z) (h : EA c nN A z) : zOk (q_Router_keep E (kL c) v z) (fun r => r.1 = v ∧ zO (fun k j => k = 78 ∨ (k = 70 ∧ j = 15)) z r.2 ∧ (∀ w, w < kW c → r.2.1 78 w = kpR A nN w) ∧ r.2.1 70 15 = v) := by
  have hW := kW_b g.1
  have hD := kD_b g.1
  have hP := kP_b g.1
  have nb := hn.nb
  have o7 : z.1 1 7 = kW c := g.2.1.2.2.2.2.2.2.2.1
  have hH27 : kH c ≤ 27 := by unfold kH; omega
  unfold q_Router_keep
  rw [s_fillI 78 (-1) _ (by rw [kL_78]; omega), kL_78, b1_s]
  have of : zO (fun k j => k = 78) z (zFill z 78 (fun _ => -1) (kW c)) := fun k j x => by rw [zf1, if_neg x]
  have vf : ∀ w, w < kW c → (zFill z 78 (fun _ => -1) (kW c)).1 78 w = -1 := fun w hw => by rw [zf1, if_pos rfl, if_pos hw]
  generalize zFill z 78 (fun _ => -1) (kW c) = z1 at of vf ⊢
  refine ok_b1 (fun s => zO (fun k j => k = 78) z s ∧ ∀ w, w < kW c → s.1 78 w = kpR A nN w) ?_ fun s ⟨s1, s2⟩ => ?_
  · refine it_for (fun (i : Nat) (t : gZ) => ((i : Int), t)) (fun i t => zO (fun k j => k = 78) z t ∧ ∀ w, w < kW c → t.1 78 w = kpR A i w) 0 nN rfl ⟨of, vf⟩ (by omega) (by omega) ?_ ?_
    · rintro i t - hi ⟨o, t1⟩
      show zOk (q_Router_keep_10 E (kL c) v (i : Int) t) _
      unfold q_Router_keep_10
      rw [o 53 17 (by omega), hn.n]
      (refine ok_neg (by omega) ?_)
      refine ok_b1 (fun s => zO (fun k j => k = 78) z s ∧ ∀ w, w < kW c → s.1 78 w = kpR A (i + 1) w) ?_ fun s hs => ?_
      · refine it_for (fun (i : Nat) (t : gZ) => ((i : Int), t)) (fun u t => zO (fun k j => k = 78) z t ∧ ∀ w, w < kW c → t.1 78 w = if w < u then kpR A (i + 1) w else kpR A i w) 0 (kW c) rfl ⟨o, fun w hw => by rw [if_neg (by omega)]; exact t1 w hw⟩ (by omega) (by omega) ?_ ?_
        · rintro w u - hw ⟨ou, u1⟩
          have u5 : zUshr (w : Int) 5 = ((w / 32 : Nat) : Int) := zUshr_n w 5 (by omega) (by omega)
          have a31 : zAnd (w : Int) 31 = ((w % 32 : Nat) : Int) := by
            have := zAnd_n w 31 (by omega) (by omega)
            have e := Nat.and_two_pow_sub_one_eq_mod w 5
            have e2 : (2 : Nat) ^ 5 - 1 = 31 := by decide
            rw [e2] at e
            rw [e] at this; exact this
          have hq := kH_w hw
          have hix : i * kH c + w / 32 < (kD c + kP c) * kH c := by
            have := Nat.mul_le_mul_right (kH c) (show i + 1 ≤ kD c + kP c by omega)
            rw [Nat.add_mul] at this
            omega
          have hb := h.bit i w hi (by unfold kH; omega)
          unfold hadB at hb
          show zOk (q_Router_keep_23 E (kL c) v (i : Int) (w : Int) u) _
          unfold q_Router_keep_23
          rw [ou 1 7 (by omega), o7, ou 70 4 (by omega), h.wd, kL_74, kL_78, u5, a31, show ((i : Int) * (kH c : Int)) + ((w / 32 : Nat) : Int) = ((i * kH c + w / 32 : Nat) : Int) by simp only [Int.natCast_mul, Int.natCast_add], gtN, ou 74 _ (by omega), zBit_at _ _ (by omega), hb]
          (refine ok_neg (by omega) ?_); (refine ok_gd (by omega) ?_)
          by_cases e : A i w = true
          · rw [e, if_pos rfl]
            refine ok_pos rfl ?_
            (refine ok_gd (by omega) ?_)
            rw [ok_l, ok_l, gtN]
            refine ok_inl (Or.inl ⟨_, rfl, o_t ou (o_put rfl), fun x hx => ?_⟩)
            rw [zp1, if_pos rfl]
            by_cases y : x = w
            · rw [if_pos y, if_pos (by omega), kpR, y, if_pos e]
            · rw [if_neg y, u1 x hx]
              by_cases y2 : x < w
              · rw [if_pos y2, if_pos (by omega)]
              · rw [if_neg y2, if_neg (by omega)]
          · have e' : A i w = false := by cases g : A i w; rfl; exact absurd g e
            rw [e', if_neg Bool.false_ne_true]
            refine ok_neg (by decide) ?_
            rw [ok_l]
            refine ok_inl (Or.inl ⟨u, rfl, ou, fun x hx => ?_⟩)
            rw [u1 x hx]
            by_cases y2 : x < w
            · rw [if_pos y2, if_pos (by omega)]
            · rw [if_neg y2]
              by_cases y : x = w
              · rw [if_pos (by omega), kpR, y, if_neg e]
              · rw [if_neg (by omega)]
        · rintro u ⟨ou, u1⟩
          show zOk (q_Router_keep_23 E (kL c) v (i : Int) (kW c : Int) u) _
          unfold q_Router_keep_23
          rw [ou 1 7 (by omega), o7]
          (refine ok_pos (by omega) ?_)
          exact ok_inr ⟨u, rfl, ou, fun w hw => by rw [u1 w hw, if_pos hw]⟩
      · rw [ok_l]
        exact ok_inl (Or.inl ⟨s, rfl, hs⟩)
    · rintro t ⟨o, t1⟩
      show zOk (q_Router_keep_10 E (kL c) v (nN : Int) t) _
      unfold q_Router_keep_10
      rw [o 53 17 (by omega), hn.n]
      (refine ok_pos (by omega) ?_)
      exact ok_inr ⟨t, rfl, o, t1⟩
  · rw [ok_l]
    refine ok_so ⟨rfl, o_t (o_w s1 fun k j x => Or.inl x) (o_put (Or.inr ⟨rfl, rfl⟩)), fun w hw => ?_, by (simp only [zp1, zr1, zf1, Nat.reduceEqDiff, Nat.reduceBEq, reduceIte, if_true, if_false, and_true, true_and, and_false, false_and, gtN])⟩
    show (zPut s 70 15 v).1 78 w = _
    rw [zp_ne _ _ _ _ _ (by decide)]; exact s2 w hw
theorem s_giveAll {nN : Nat} {z : gZ} (hk : kOk c) (hw : z.1 70 4 = kH c) (hn : nN ≤ kD c + kP c) : zOk (q_Router_giveAllUp E (kL c) z) (fun s => zO (fun k j => k = 74 ∨ k = 75) z s ∧ EA c nN (fun _ _ => false) s) := by
  have hW := kW_b hk
  have hD := kD_b hk
  have hP := kP_b hk
  have hH27 : kH c ≤ 27 := by unfold kH; omega
  have hNb : (kD c + kP c) * kH c ≤ 192 * 27 := Nat.mul_le_mul (by omega) hH27
  unfold q_Router_giveAllUp
  rw [s_fillI 74 0 _ (by rw [kL_74]; omega), b1_s, s_fillI 75 0 _ (by rw [kL_75]; omega), b1_s, kL_74, kL_75]
  refine ok_so ⟨fun k j x => ?_, ⟨?_, fun n w hn' hw' => ?_, fun n w _ h => ?_, fun w hw' => ?_⟩⟩
  · rw [zf1, if_neg (by omega), zf1, if_neg (by omega)]
  · rw [zf1, if_neg (by omega), zf1, if_neg (by omega)]; exact hw
  · unfold hadB
    have : n * kH c + w / 32 < (kD c + kP c) * kH c := by
      have := Nat.mul_le_mul_right (kH c) (show n + 1 ≤ kD c + kP c by omega)
      rw [Nat.add_mul] at this
      omega
    rw [zf1, if_neg (by omega), zf1, if_pos rfl, if_pos this, zB_0]
  · cases h
  · rw [zf1, if_pos rfl, if_pos hw']
    have : cnA' (fun _ _ => false) nN w = 0 := cnb_0 fun _ _ => rfl
    rw [this]; rfl
def pWr (k j : Nat) : Prop := (73 ≤ k ∧ k ≤ 80) ∨ (k = 71 ∧ j = 2) ∨ (k = 70 ∧ 12 ≤ j ∧ j ≤ 15)
theorem RsR_z {z s : gZ} (h : ∀ k, k = 7 ∨ k = 8 ∨ k = 9 ∨ k = 61 ∨ k = 62 ∨ k = 64 ∨ k = 69 → s.1 k = z.1 k) {nN : Nat} : ∀ (f r : Nat) (p : Nat → Int) (a : RSt) (out : Option (Nat × RSt)), RsR c s nN f r p a out → RsR c z nN f r p a out := by
  intro f
  induction f with
  | zero => intro r p a out x; exact x
  | succ f ih =>
    rintro r p a out ⟨b, h1, h2⟩
    refine ⟨b, RdS_z h _ _ _ _ h1, ?_⟩
    rcases h2 with h2 | ⟨h2, p', h3, h4⟩
    · exact Or.inl h2
    · exact Or.inr ⟨h2, p', h3, ih _ _ _ _ h4⟩
theorem s_work {m nC nN nS nI nO most : Nat} {z : gZ} (R : RC c m nC nN nS nI nO z) (hw : z.1 70 4 = kH c) (h1 : 1 ≤ most ∧ most ≤ 20) : zOk (q_Router_work E (kL c) (most : Int) z) (fun r => ∃ (v : Nat) (b : RSt), r.1 = v ∧ v ≤ 21 ∧ WkR c z nN most v b ∧ zO pWr z r.2 ∧ r.2.1 70 15 = v ∧ (0 < v → CSt c nN b r.2 ∧ ∀ w, w < kW c → r.2.1 78 w = kpR b.A nN w)) := by
  have hW := kW_b R.g.1
  have hD := kD_b R.g.1
  have hP := kP_b R.g.1
  have nb := R.n.nb
  unfold q_Router_work
  rw [ok_l]
  have oa : zO (fun k j => k = 70 ∧ j = 15) z (zPut z 70 15 0) := o_put ⟨rfl, rfl⟩
  have va : (zPut z 70 15 0).1 70 15 = 0 := by (simp only [zp1, zr1, zf1, Nat.reduceEqDiff, Nat.reduceBEq, reduceIte, if_true, if_false, and_true, true_and, and_false, false_and, gtN])
  generalize zPut z 70 15 0 = z1 at oa va ⊢
  refine ok_b1 _ (s_giveAll (nN := nN) R.g.1 (by rw [oa 70 4 (by omega)]; exact hw) nb) fun z2 ⟨ob, eb⟩ => ?_
  rw [s_fillI 76 0 _ (by rw [kL_76]; omega), b1_s, ok_l, ok_l, kL_76]
  generalize hz3 : zPut (zPut (zFill z2 76 (fun _ => 0) (kW c)) 70 14 (-1)) 70 13 1 = z3
  have oc : zO (fun k j => k = 76 ∨ (k = 70 ∧ (j = 13 ∨ j = 14))) z2 z3 := by
    rw [← hz3]
    refine o_t (s := zFill z2 76 (fun _ => 0) (kW c)) (fun k j x => by rw [zf1, if_neg (by omega)]) (o_t (o_put (by omega)) (o_put (by omega)))
  have v13 : z3.1 70 13 = 1 := by rw [← hz3]; (simp only [zp1, zr1, zf1, Nat.reduceEqDiff, Nat.reduceBEq, reduceIte, if_true, if_false, and_true, true_and, and_false, false_and, gtN])
  have v14 : z3.1 70 14 = -1 := by rw [← hz3]; (simp only [zp1, zr1, zf1, Nat.reduceEqDiff, Nat.reduceBEq, reduceIte, if_true, if_false, and_true, true_and, and_false, false_and, gtN])
  have v76 : ∀ w, w < kW c → z3.1 76 w = 0 := fun w hw => by rw [← hz3]; (simp only [zp1, zr1, zf1, Nat.reduceEqDiff, Nat.reduceBEq, reduceIte, if_true, if_false, and_true, true_and, and_false, false_and, gtN]); rw [if_pos hw]
  have v15 : z3.1 70 15 = 0 := by rw [oc 70 15 (by omega), ob 70 15 (by omega)]; exact va
  have o3 : zO pWr z z3 := o_t (o_w oa fun k j x => by unfold pWr; omega) (o_t (o_w ob fun k j x => by unfold pWr; omega) (o_w oc fun k j x => by unfold pWr; omega))
  have e3 : EA c nN (fun _ _ => false) z3 := ⟨by rw [oc 70 4 (by omega)]; exact eb.wd, fun n w a b => by rw [had_o oc (by omega)]; exact eb.bit n w a b, eb.hW, fun w hw => by rw [oc 75 w (by omega)]; exact eb.cn w hw⟩
  let a0 : RSt := ⟨fun _ _ => false, fun _ => z3.1 77, z3.1 77, z3.1 79⟩
  have R3 : RC c m nC nN nS nI nO z3 := RC_o R o3 fun k j x => by unfold pWr at x; unfold pS pN; omega
  have rr : ∀ {t : gZ}, zO pWr z t → ∀ k, k = 7 ∨ k = 8 ∨ k = 9 ∨ k = 61 ∨ k = 62 ∨ k = 64 ∨ k = 69 → t.1 k = z.1 k := fun {t} o k hk => funext fun j => o k j (by unfold pWr; omega)
  refine ok_b1 (fun e => ∃ s : gZ, zO pWr z s ∧ s.1 70 15 = 0 ∧ ((∃ (r : Nat) (b : RSt), e = .inl s ∧ r ≤ most ∧ 1 ≤ r ∧ RsR c z nN most 1 (z3.1 76) a0 (some (r, b)) ∧ CSt c nN b s ∧ s.1 70 13 = r) ∨ (e = .inr s ∧ RsR c z nN most 1 (z3.1 76) a0 none ∧ PB c s ∧ s.1 70 4 = kH c))) ?_ fun e ⟨s, s1, s15, s2⟩ => ?_
  · refine it_for (fun (i : Nat) (t : gZ) => t) (fun i t => ∃ a : RSt, CSt c nN a t ∧ zO pWr z t ∧ t.1 70 15 = 0 ∧ t.1 70 13 = ((i + 1 : Nat) : Int) ∧ t.1 70 14 = -1 ∧ (∀ w, w < kW c → 0 ≤ t.1 76 w ∧ t.1 76 w ≤ i * 191) ∧ ∀ out, RsR c z nN (most - i) (i + 1) (t.1 76) a out → RsR c z nN most 1 (z3.1 76) a0 out) 0 most rfl ⟨a0, ⟨e3, rfl, rfl⟩, o3, v15, v13, v14, fun w hw => by rw [v76 w hw]; omega, fun out x => x⟩ (by omega) (by omega) ?_ ?_
    · rintro i t - hi ⟨a, t1, t2, t15, t13, t14, tp, tk⟩
      have Rt : RC c m nC nN nS nI nO t := RC_o R t2 fun k j x => by unfold pWr at x; unfold pS pN; omega
      have pb : PB c t := ⟨by rw [t13]; omega, fun w hw => by have := tp w hw; omega⟩
      show zOk (q_Router_work_27 E (kL c) (most : Int) t) _
      unfold q_Router_work_27
      rw [t13]
      (refine ok_neg (by omega) ?_)
      refine ok_b1 _ (s_roundC Rt pb t14 t1) fun e11 ⟨b, r1, r2, r3, r4⟩ => ?_
      have o11 : zO pWr z e11 := o_t t2 (o_w r3 fun k j x => by unfold pRd at x; unfold pWr; omega)
      have R11 : RC c m nC nN nS nI nO e11 := RC_o R o11 fun k j x => by unfold pWr at x; unfold pS pN; omega
      have r76 : e11.1 76 = t.1 76 := funext fun j => r3 76 j (by unfold pRd; omega)
      refine ok_b2 _ (s_isDone R11.g r2.1 (by omega) (fun w hw => by rw [r76]; have := tp w hw; omega)) fun v s14 ⟨d1, d2, d3⟩ => ?_
      have d1 : zO (fun k j => k = 76) e11 s14 := d1
      have d2 : ∀ w, w < kW c → s14.1 76 w = pstN nN b.A (e11.1 76) w := d2
      have o14 : zO pWr z s14 := o_t o11 (o_w d1 fun k j x => by unfold pWr; omega)
      have s13 : s14.1 70 13 = ((i + 1 : Nat) : Int) := by rw [d1 70 13 (by omega), r3 70 13 (by unfold pRd; omega)]; exact t13
      have s15' : s14.1 70 15 = 0 := by rw [d1 70 15 (by omega), r3 70 15 (by unfold pRd; omega)]; exact t15
      have cs : ∀ {u : gZ} {P : Nat → Nat → Prop}, zO P e11 u → (∀ k j, P k j → k ≠ 74 ∧ k ≠ 75 ∧ k ≠ 77 ∧ k ≠ 79 ∧ ¬ (k = 70 ∧ j = 4)) → CSt c nN b u := fun {u P} o hP => by
        obtain ⟨⟨a1, a2, a3, a4⟩, b1, b2⟩ := r2
        refine ⟨⟨by rw [o 70 4 fun x => by have := hP _ _ x; omega]; exact a1, fun n w hn hw => ?_, a3, fun w hw => by rw [o 75 w fun x => by have := hP _ _ x; omega]; exact a4 w hw⟩, by rw [← b1]; funext j; exact o 77 j fun x => by have := hP _ _ x; omega, by rw [← b2]; funext j; exact o 79 j fun x => by have := hP _ _ x; omega⟩
        rw [had_o o fun x => by have := hP _ _ x; omega]; exact a2 n w hn hw
      rw [t13] at r1
      have r1 := RdS_z (rr t2) _ _ _ _ r1
      refine ok_br (fun e => ?_) fun e => ?_
      · have d3 : ¬ aOne c nN b.A := by
          rcases d3 with ⟨x, -⟩ | ⟨-, x⟩
          · have x : v = 1 := x
            omega
          · exact x
        rw [s13]
        (refine ok_gd (by omega) ?_)
        rw [ok_l]
        have ou : zO (fun k j => k = 70 ∧ j = 13) s14 (zPut s14 70 13 (((i + 1 : Nat) : Int) + 1)) := o_put ⟨rfl, rfl⟩
        have vu : (zPut s14 70 13 (((i + 1 : Nat) : Int) + 1)).1 70 13 = ((i + 1 + 1 : Nat) : Int) := by (simp only [zp1, zr1, zf1, Nat.reduceEqDiff, Nat.reduceBEq, reduceIte, if_true, if_false, and_true, true_and, and_false, false_and, gtN]); rfl
        generalize zPut s14 70 13 (((i + 1 : Nat) : Int) + 1) = u at ou vu ⊢
        have ou2 : zO (fun k j => k = 76 ∨ (k = 70 ∧ j = 13)) e11 u := o_t (o_w d1 fun k j x => Or.inl x) (o_w ou fun k j x => Or.inr x)
        have u76 : u.1 76 = s14.1 76 := funext fun j => ou 76 j (by omega)
        refine ok_inl (Or.inl ⟨u, rfl, b, cs ou2 (by omega), o_t o14 (o_w ou fun k j x => by unfold pWr; omega), by rw [ou 70 15 (by omega)]; exact s15', vu, ?_, fun w hw => ?_, fun out ho => tk out ?_⟩)
        · rw [ou2 70 14 (by omega)]; exact r4
        · rw [u76, d2 w hw, r76]
          have := tp w hw
          have hcl : cnA' b.A nN w ≤ nN := cnb_le _ _
          unfold pstN
          split <;> omega
        · rw [show most - i = (most - (i + 1)) + 1 by omega]
          refine ⟨b, r1, Or.inr ⟨d3, u.1 76, fun w hw => by rw [u76, d2 w hw, r76], ho⟩⟩
      · have d3 : aOne c nN b.A := by
          rcases d3 with ⟨-, x⟩ | ⟨x, -⟩
          · exact x
          · exact absurd x e
        refine ok_inr (Or.inr ⟨_, rfl, s14, o14, s15', Or.inl ⟨i + 1, b, rfl, by omega, by omega, tk _ ?_, cs d1 (by omega), s13⟩⟩)
        rw [show most - i = (most - (i + 1)) + 1 by omega]
        exact ⟨b, r1, Or.inl ⟨d3, rfl⟩⟩
    · rintro t ⟨a, t1, t2, t15, t13, t14, tp, tk⟩
      show zOk (q_Router_work_27 E (kL c) (most : Int) t) _
      unfold q_Router_work_27
      rw [t13]
      (refine ok_pos (by omega) ?_)
      refine ok_inr ⟨_, rfl, t, t2, t15, Or.inr ⟨rfl, tk none ?_, ⟨by rw [t13]; omega, fun w hw => by have := tp w hw; omega⟩, t1.1.wd⟩⟩
      rw [Nat.sub_self]; rfl
  · have Rs : RC c m nC nN nS nI nO s := RC_o R s1 fun k j x => by unfold pWr at x; unfold pS pN; omega
    have keepC : ∀ {b : RSt} {u q : gZ}, CSt c nN b u → zO (fun k j => k = 78 ∨ (k = 70 ∧ j = 15)) u q → CSt c nN b q := fun {b u q} h o => by
      obtain ⟨⟨a1, a2, a3, a4⟩, b1, b2⟩ := h
      refine ⟨⟨by rw [o 70 4 (by omega)]; exact a1, fun n w hn hw => ?_, a3, fun w hw => by rw [o 75 w (by omega)]; exact a4 w hw⟩, by rw [← b1]; funext j; exact o 77 j (by omega), by rw [← b2]; funext j; exact o 79 j (by omega)⟩
      rw [had_o o (by omega)]; exact a2 n w hn hw
    rcases s2 with ⟨r, b, he, r1, r0, r2, r3, r4⟩ | ⟨he, r1, r2, r3⟩
    · subst he
      rw [gs_l, r4]
      refine ok_b2 _ (s_keep Rs.g Rs.n r3.1) fun v q ⟨q1, q2, q3, q4⟩ => ?_
      have q2 : zO (fun k j => k = 78 ∨ (k = 70 ∧ j = 15)) s q := q2
      exact ok_so ⟨r, b, q1, by omega, ⟨z3.1 76, a0, v76, fun _ _ => rfl, Or.inl r2⟩, o_t s1 (o_w q2 fun k j x => by unfold pWr; omega), q4, fun _ => ⟨keepC r3 q2, q3⟩⟩
    · subst he
      rw [gs_r, Rs.n.n, Rs.g.2.1.2.2.2.1]
      refine ok_br (fun e => ?_) fun e => ?_
      · refine ok_b1 _ (s_giveAll (nN := nN) R.g.1 r3 nb) fun s22 ⟨og, eg⟩ => ?_
        have o22 : zO pWr z s22 := o_t s1 (o_w og fun k j x => by unfold pWr; omega)
        have R22 : RC c m nC nN nS nI nO s22 := RC_o R o22 fun k j x => by unfold pWr at x; unfold pS pN; omega
        have pb22 : PB c s22 := ⟨by rw [og 70 13 (by omega)]; exact r2.r, by rw [show s22.1 76 = s.1 76 from funext fun j => og 76 j (by omega)]; exact r2.p⟩
        refine ok_b1 _ (s_roundO (a := ⟨fun _ _ => false, fun _ => s22.1 77, s22.1 77, s22.1 79⟩) R22 pb22 (by omega) ⟨eg, rfl, rfl⟩) fun e27 ⟨b, b1, b2, b3⟩ => ?_
        have o27 : zO pWr z e27 := o_t o22 (o_w b3 fun k j x => by unfold pRd at x; unfold pWr; omega)
        have R27 : RC c m nC nN nS nI nO e27 := RC_o R o27 fun k j x => by unfold pWr at x; unfold pS pN; omega
        (refine ok_gd (by omega) ?_)
        refine ok_b2 _ (s_keep R27.g R27.n b2.1) fun v q ⟨q1, q2, q3, q4⟩ => ?_
        have q2 : zO (fun k j => k = 78 ∨ (k = 70 ∧ j = 15)) e27 q := q2
        exact ok_so ⟨most + 1, b, q1, by omega, ⟨z3.1 76, a0, v76, fun _ _ => rfl, Or.inr ⟨r1, Or.inr ⟨by omega, rfl, _, _, _, fun _ _ => rfl, RdS_z (rr o22) _ _ _ _ b1⟩⟩⟩, o_t o27 (o_w q2 fun k j x => by unfold pWr; omega), q4, fun _ => ⟨keepC b2 q2, q3⟩⟩
      · exact ok_so ⟨0, a0, rfl, by omega, ⟨z3.1 76, a0, v76, fun _ _ => rfl, Or.inr ⟨r1, Or.inl ⟨by omega, rfl⟩⟩⟩, s1, s15, fun x => by omega⟩
end
