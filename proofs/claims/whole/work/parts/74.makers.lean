set_option linter.unusedVariables false
-- JB
section
variable {E : gEv} {c : gCf}
/-- both have the same fault -/
def FZ (a b : gZ) : Prop := ∃ k f : Int, k ≠ 0 ∧ a.1 22 14 = k ∧ a.1 22 15 = f ∧ b.1 94 17 = k ∧ b.1 94 18 = f
theorem FF_z {a b : gZ} (h : FF a b) : FZ a b := by
  obtain ⟨k, f, f1, f2, f3, f4, f5, f6⟩ := h
  exact ⟨k, f, by omega, f3, f4, f5, f6⟩
section
variable {T : Nat → Int} {n q nm nI nO nL nG : Nat} {a b : gZ}
/-- the class: is each name made? -/
theorem s_makers (R : RR c True T n q nm nI nO nL nG a b) : (∃ i, i < nm ∧ a.1 25 i = -1 ∧ (∀ j, j < i → a.1 25 j ≠ -1) ∧ q_Reader_checkMakers E (kL c) a = some (zPut (zPut a 22 14 4) 22 15 (a.1 23 i))) ∨ ((∀ i, i < nm → a.1 25 i ≠ -1) ∧ q_Reader_checkMakers E (kL c) a = some a) := by
  have nb := R.nb
  unfold q_Reader_checkMakers
  have F := it_find (f := fun y => q_Reader_checkMakers_2 E (kL c) y a) (fun i => a.1 25 i = -1) (fun i => Sum.inl (i : Int)) 0 nm (e := Sum.inr ()) (s := 0) rfl (by omega) (by omega) (fun i _ hi hp => by
      show q_Reader_checkMakers_2 E (kL c) (i : Int) a = _
      unfold q_Reader_checkMakers_2
      rw [R.an, if_neg (by omega), kL_25, if_pos (by omega), gtN, if_neg hp, let_s]) (fun i _ hi hp => by
      show q_Reader_checkMakers_2 E (kL c) (i : Int) a = _
      unfold q_Reader_checkMakers_2
      rw [R.an, if_neg (by omega), kL_25, if_pos (by omega), gtN, if_pos hp]) (by
      show q_Reader_checkMakers_2 E (kL c) (nm : Int) a = _
      unfold q_Reader_checkMakers_2
      rw [R.an, if_pos (by omega)])
  rcases F with ⟨i, -, i1, i2, i3, i4⟩ | ⟨j1, j2⟩
  · refine Or.inl ⟨i, i1, i2, fun j hj => i3 j (by omega) hj, ?_⟩
    rw [i4, b1_s, gs_l, kL_23, if_pos (by omega), gtN, s_refuse, b1_s]
  · exact Or.inr ⟨fun i hi => j1 i (by omega) hi, by rw [j2, b1_s, gs_r]⟩
/-- the reference: the first name that is used and not made -/
theorem s_makersM (R : RR c True T n q nm nI nO nL nG a b) (U : US nm 150 b) : (∃ i, i < nm ∧ a.1 25 i = -1 ∧ (∀ j, j < i → a.1 25 j ≠ -1) ∧ gIter (fun y => q_Model_check_4 E (kL c) y.1 y.2 b) gN ((-1), 0) = some (a.1 23 i) ∧ a.1 23 i ≠ -1) ∨ ((∀ i, i < nm → a.1 25 i ≠ -1) ∧ gIter (fun y => q_Model_check_4 E (kL c) y.1 y.2 b) gN ((-1), 0) = some (-1)) := by
  have nb := R.nb
  have mk : ∀ i, i < nm → (a.1 25 i = -1 ∧ b.1 101 i = 0 ∧ b.1 103 i = b.1 99 i) ∨ (a.1 25 i ≠ -1 ∧ b.1 101 i ≠ 0) := fun i hi => by
    rcases R.mak i hi with ⟨y1, y2, y3⟩ | ⟨k, -, y1, y2, -⟩ | ⟨k, -, y1, y2, -⟩ | ⟨k, -, y1, y2, -⟩
    · have := U i hi (by omega) y2
      exact Or.inl ⟨y1, y2, by omega⟩
    · exact Or.inr ⟨by omega, by omega⟩
    · exact Or.inr ⟨by omega, by omega⟩
    · exact Or.inr ⟨by omega, by omega⟩
  have nm99 : ∀ i, i < nm → 0 ≤ b.1 99 i ∧ a.1 23 i = b.1 99 i := fun i hi => by
    obtain ⟨p, l, x1, x2, x3, x4, x5, x6⟩ := R.nam i hi
    omega
  have F : zOk (gIter (fun y => q_Model_check_4 E (kL c) y.1 y.2 b) gN ((-1), 0)) (fun v => (v = -1 ∧ ∀ i, i < nm → a.1 25 i ≠ -1) ∨ ∃ i, i < nm ∧ a.1 25 i = -1 ∧ (∀ j, j < i → a.1 25 j ≠ -1) ∧ v = b.1 99 i) := by
    refine it_for (fun (i : Nat) (t : Int) => (t, (i : Int))) (fun i v => (v = -1 ∧ ∀ j, j < i → a.1 25 j ≠ -1) ∨ ∃ k, k < i ∧ a.1 25 k = -1 ∧ (∀ j, j < k → a.1 25 j ≠ -1) ∧ v = b.1 99 k) 0 nm rfl (Or.inl ⟨rfl, fun j hj => by omega⟩) (by omega) (by omega) ?_ ?_
    · rintro i v - hi hv
      show zOk (q_Model_check_4 E (kL c) v (i : Int) b) _
      unfold q_Model_check_4 q_Model_check_j35_4
      rw [R.bn, if_neg (by omega), kL_101, if_pos (by omega), gtN]
      have skip : a.1 25 i ≠ -1 → zOk (q_Model_check_j36_4 E (kL c) v (i : Int) 0 b) (fun r => (∃ t', r = .inl (t', ((i + 1 : Nat) : Int)) ∧ ((t' = -1 ∧ ∀ j, j < i + 1 → a.1 25 j ≠ -1) ∨ ∃ k, k < i + 1 ∧ a.1 25 k = -1 ∧ (∀ j, j < k → a.1 25 j ≠ -1) ∧ t' = b.1 99 k)) ∨ ∃ e, r = .inr e ∧ ((e = -1 ∧ ∀ i, i < nm → a.1 25 i ≠ -1) ∨ ∃ i, i < nm ∧ a.1 25 i = -1 ∧ (∀ j, j < i → a.1 25 j ≠ -1) ∧ e = b.1 99 i)) := fun hx => by
        unfold q_Model_check_j36_4
        rw [if_pos rfl, if_pos (by omega), ok_l]
        refine ok_inl (Or.inl ⟨v, by rw [show ((i + 1 : Nat) : Int) = (i : Int) + 1 by omega], ?_⟩)
        rcases hv with ⟨y1, y2⟩ | ⟨k, y1, y2⟩
        · refine Or.inl ⟨y1, fun j hj => ?_⟩
          by_cases x : j = i
          · subst x; exact hx
          · exact y2 j (by omega)
        · exact Or.inr ⟨k, by omega, y2⟩
      rcases mk i hi with ⟨m1, m2, m3⟩ | ⟨m1, m2⟩
      · have h99 := nm99 i hi
        rw [if_pos m2, kL_103, if_pos (by omega), if_neg (by omega)]
        unfold q_Model_check_j36_4 q_Model_check_j56_4
        rw [if_neg (by decide), kL_103, gtN, m3]
        rcases hv with ⟨y1, y2⟩ | ⟨k, y1, y2, y3, y4⟩
        · rw [if_pos y1, if_pos (by omega), ok_l, if_pos (by omega), ok_l]
          exact ok_inl (Or.inl ⟨_, by rw [show ((i + 1 : Nat) : Int) = (i : Int) + 1 by omega], Or.inr ⟨i, by omega, m1, y2, rfl⟩⟩)
        · have hk := nm99 k (by omega)
          have hlt := R.inc k i y1 hi
          rw [if_neg (by omega), if_pos (by omega), if_pos (by omega), if_pos (by omega), ok_l]
          exact ok_inl (Or.inl ⟨_, by rw [show ((i + 1 : Nat) : Int) = (i : Int) + 1 by omega], Or.inr ⟨k, by omega, y2, y3, y4⟩⟩)
      · rw [if_neg m2]
        exact skip m1
    · rintro v hv
      show zOk (q_Model_check_4 E (kL c) v (nm : Int) b) _
      unfold q_Model_check_4
      rw [R.bn, if_pos (by omega)]
      exact ok_inr ⟨v, rfl, hv⟩
  obtain ⟨v, hv, h⟩ := F
  rcases h with ⟨x1, x2⟩ | ⟨i, x1, x2, x3, x4⟩
  · exact Or.inr ⟨x2, by rw [hv, x1]⟩
  · have := nm99 i x1
    exact Or.inl ⟨i, x1, x2, x3, by rw [hv, x4, this.2], by omega⟩
end
/-- the reference turns the tables of covers that say 0 -/
theorem s_inv {z : gZ} {x : Nat} (hx : x ≤ 150) (h32 : z.1 94 32 = x) : zOk (q_Model_read_j250 E (kL c) z) (fun s => zOff (fun k _ => k = 114) z s ∧ ∀ f, f < x → ∀ y, y < 256 → (z.1 113 f = 0 → s.1 114 (256 * f + y) = if z.1 114 (256 * f + y) = 0 then 1 else 0) ∧ (z.1 113 f ≠ 0 → s.1 114 (256 * f + y) = z.1 114 (256 * f + y))) := by
  unfold q_Model_read_j250
  have b0 : zBool 0 = 0 := zBool_n 0 (Or.inl rfl)
  have b1 : zBool 1 = 1 := zBool_n 1 (Or.inr rfl)
  refine ok_b1 _ (it_for (fun (i : Nat) (t : gZ) => ((i : Int), t)) (fun i t => zOff (fun k j => k = 114 ∧ j < 256 * i) z t ∧ ∀ f, f < i → ∀ y, y < 256 → (z.1 113 f = 0 → t.1 114 (256 * f + y) = if z.1 114 (256 * f + y) = 0 then 1 else 0) ∧ (z.1 113 f ≠ 0 → t.1 114 (256 * f + y) = z.1 114 (256 * f + y))) 0 x (Q := fun s => zOff (fun k _ => k = 114) z s ∧ ∀ f, f < x → ∀ y, y < 256 → (z.1 113 f = 0 → s.1 114 (256 * f + y) = if z.1 114 (256 * f + y) = 0 then 1 else 0) ∧ (z.1 113 f ≠ 0 → s.1 114 (256 * f + y) = z.1 114 (256 * f + y))) rfl ⟨off_r, fun f hf => by omega⟩ (by omega) (by omega) ?_ ?_) fun s hs => ok_so hs
  · rintro i t - hi ⟨o, ht⟩
    show zOk (q_Model_read_253 E (kL c) (i : Int) t) _
    unfold q_Model_read_253
    rw [o.2 94 32 (by omega), h32, if_neg (by omega)]
    refine ok_b1 (fun s => zOff (fun k j => k = 114 ∧ 256 * i ≤ j ∧ j < 256 * i + 256) t s ∧ ∀ y, y < 256 → (z.1 113 i = 0 → s.1 114 (256 * i + y) = if z.1 114 (256 * i + y) = 0 then 1 else 0) ∧ (z.1 113 i ≠ 0 → s.1 114 (256 * i + y) = z.1 114 (256 * i + y))) ?_ fun s ⟨s1, s2⟩ => ?_
    · by_cases g : z.1 113 i = 0
      · refine it_for (fun (y : Nat) (s : gZ) => ((y : Int), s)) (fun y s => zOff (fun k j => k = 114 ∧ 256 * i ≤ j ∧ j < 256 * i + y) t s ∧ ∀ j, j < y → s.1 114 (256 * i + j) = if z.1 114 (256 * i + j) = 0 then 1 else 0) 0 256 rfl ⟨off_r, fun j hj => by omega⟩ (by omega) (by omega) ?_ ?_
        · rintro y s - hy ⟨s1, s2⟩
          show zOk (q_Model_read_265 E (kL c) (i : Int) (y : Int) s) _
          have s113 : s.1 113 i = 0 := by rw [s1.2 113 i (by omega), o.2 113 i (by omega)]; exact g
          have s114 : s.1 114 (256 * i + y) = z.1 114 (256 * i + y) := by rw [s1.2 114 _ (by omega), o.2 114 _ (by omega)]
          have key : ∀ v : Int, b01 v → v = (if z.1 114 (256 * i + y) = 0 then 1 else 0) → zOk (q_Model_read_j318_265 E (kL c) (i : Int) (y : Int) ((256 * i + y : Nat) : Int) v s) (fun r => (∃ t', r = .inl (((y + 1 : Nat) : Int), t') ∧ zOff (fun k j => k = 114 ∧ 256 * i ≤ j ∧ j < 256 * i + (y + 1)) t t' ∧ ∀ j, j < y + 1 → t'.1 114 (256 * i + j) = if z.1 114 (256 * i + j) = 0 then 1 else 0) ∨ ∃ e, r = .inr e ∧ zOff (fun k j => k = 114 ∧ 256 * i ≤ j ∧ j < 256 * i + 256) t e ∧ ∀ y, y < 256 → (z.1 113 i = 0 → e.1 114 (256 * i + y) = if z.1 114 (256 * i + y) = 0 then 1 else 0) ∧ (z.1 113 i ≠ 0 → e.1 114 (256 * i + y) = z.1 114 (256 * i + y))) := fun v hv hv2 => by
            unfold q_Model_read_j318_265
            rw [kL_114, if_pos (by omega), ok_l, if_pos (by omega), ok_l, gtN, zBool_n v hv]
            refine ok_inl (Or.inl ⟨_, by rw [show ((y + 1 : Nat) : Int) = (y : Int) + 1 by omega], off_t (off_w s1 fun k j q => by omega) (off_put (by omega)), fun j hj => ?_⟩)
            show (if 256 * i + j = 256 * i + y then v else s.1 114 (256 * i + j)) = _
            by_cases u : j = y
            · subst u; rw [if_pos rfl, hv2]
            · rw [if_neg (by omega)]; exact s2 j (by omega)
          unfold q_Model_read_265
          rw [kL_113, if_pos (by omega), gtN, if_pos s113, if_neg (by omega), kL_114, show (256 * (i : Int) + (y : Int)) = ((256 * i + y : Nat) : Int) by omega, if_pos (by omega), gtN, s114]
          by_cases u : z.1 114 (256 * i + y) = 0
          · rw [if_pos u]; exact key 1 (Or.inr rfl) (by rw [if_pos u])
          · rw [if_neg u]; exact key 0 (Or.inl rfl) (by rw [if_neg u])
        · rintro s ⟨s1, s2⟩
          show zOk (q_Model_read_265 E (kL c) (i : Int) ((256 : Nat) : Int) s) _
          have s113 : s.1 113 i = 0 := by rw [s1.2 113 i (by omega), o.2 113 i (by omega)]; exact g
          unfold q_Model_read_265
          rw [kL_113, if_pos (by omega), gtN, if_pos s113, if_pos (by omega)]
          exact ok_inr ⟨s, rfl, s1, fun y hy => ⟨fun _ => s2 y hy, fun w => absurd g w⟩⟩
      · refine ⟨t, ?_, off_r, fun y hy => ⟨fun w => absurd w g, fun _ => o.2 114 _ (by omega)⟩⟩
        have gn : gN = (gN - 1) + 1 := by unfold gN; omega
        rw [gn]
        refine it_end ?_
        show q_Model_read_265 E (kL c) (i : Int) 0 t = _
        unfold q_Model_read_265
        rw [kL_113, if_pos (by omega), gtN, o.2 113 i (by omega), if_neg g]
    · rw [ok_l]
      refine ok_inl (Or.inl ⟨s, by rw [show ((i + 1 : Nat) : Int) = (i : Int) + 1 by omega], off_t (off_w o fun k j q => by omega) (off_w s1 fun k j q => by omega), fun f hf y hy => ?_⟩)
      by_cases u : f = i
      · subst u; exact s2 y hy
      · rw [s1.2 114 _ (by omega)]; exact ht f (by omega) y hy
  · rintro t ⟨o, ht⟩
    show zOk (q_Model_read_253 E (kL c) (x : Int) t) _
    unfold q_Model_read_253
    rw [o.2 94 32 (by omega), h32, if_pos (by omega)]
    exact ok_inr ⟨t, rfl, off_w o fun k j q => q.1, ht⟩
end
