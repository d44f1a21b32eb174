set_option linter.unusedVariables false
-- KF
section
variable {E : gEv} {c : gCf}
section
variable {q v : Nat} {P : Pc} {U : Ut} {b : gZ}
theorem s_smallM (hq : q < 10) (hw : P.2.2 ≤ 4) (h : PcM q P b) (hb : bPc P) (hU : UM U b) (hu : U.2.2 < 5000) : zOk (q_Model_small E (kL c) (q : Int) b) (fun r => r.1 = (sml P U).1 ∧ UM (sml P U).2 r.2 ∧ zOff pUm b r.2) := by
  have pw := pw_le (w := P.2.2) (by omega)
  have F : gIter (fun y => q_Model_small_12 E (kL c) (q : Int) (P.2.2 : Int) y.1 y.2 b) gN (0, 0) = some (smT P) := by
    refine it_acc (fun (i : Nat) (s : Int) => (s, (i : Int))) (fun i => nb (fun n => P.1 (n % 2 ^ P.2.2)) 0 i) 0 16 rfl (by omega) (by omega) (fun i _ hi => ?_) ?_
    · show q_Model_small_12 E (kL c) (q : Int) (P.2.2 : Int) (nb (fun n => P.1 (n % 2 ^ P.2.2)) 0 i) (i : Int) b = some (.inl (nb (fun n => P.1 (n % 2 ^ P.2.2)) 0 (i + 1), ((i + 1 : Nat) : Int)))
      have ml : i % 2 ^ P.2.2 < 2 ^ P.2.2 := Nat.mod_lt _ (Nat.two_pow_pos _)
      have bm := hb _ ml
      have acc := nb_acc (f := fun n => P.1 (n % 2 ^ P.2.2)) (p := i) (v := P.1 (i % 2 ^ P.2.2)) hi (fun j hj => hb _ (Nat.mod_lt _ (Nat.two_pow_pos _))) bm rfl
      rw [← acc]
      unfold q_Model_small_12
      rw [if_neg (by omega), zShl_1 (by omega), if_pos (by omega), zAnd_pw (by omega) (by omega), kL_120, show (256 * (q : Int) + ((i % 2 ^ P.2.2 : Nat) : Int)) = ((256 * q + i % 2 ^ P.2.2 : Nat) : Int) by omega, if_pos (by omega), gtN, h.1 _ ml]
      by_cases y : P.1 (i % 2 ^ P.2.2) = 0
      · rw [if_pos y, if_pos y, let_s, let_s]; rfl
      · rw [if_neg y, if_neg y, let_s, let_s]; rfl
    · show q_Model_small_12 E (kL c) (q : Int) (P.2.2 : Int) (nb (fun n => P.1 (n % 2 ^ P.2.2)) 0 16) ((16 : Nat) : Int) b = _
      unfold q_Model_small_12
      rw [if_pos (by omega)]
      rfl
  have L := s_newLut (E := E) (c := c) (p := smP P) (tb := smT P) hU hu
  have e : ∀ i, smP P i = if i < P.2.2 then b.1 121 (8 * q + i) else -1 := fun i => by
    unfold smP
    by_cases y : i < P.2.2
    · rw [if_pos y, if_pos y, h.2.1 i y]
    · rw [if_neg y, if_neg y]
  unfold q_Model_small
  rw [kL_122, if_pos (by omega), ok_l, gtN, h.2.2, F, b1_s, if_pos (by omega), ok_l, kL_121]
  have j134 : ∀ y1 y2 y3 y4, y1 = smP P 0 → y2 = smP P 1 → y3 = smP P 2 → y4 = smP P 3 → zOk (q_Model_small_j134 E (kL c) (smT P) y1 y2 y3 y4 b) (fun r => r.1 = (sml P U).1 ∧ UM (sml P U).2 r.2 ∧ zOff pUm b r.2) := fun y1 y2 y3 y4 h1 h2 h3 h4 => by
    unfold q_Model_small_j134
    rw [h1, h2, h3, h4]
    exact ok_b2 _ L fun v s hs => ok_so hs
  have j116 : ∀ y1 y2 y3, y1 = smP P 0 → y2 = smP P 1 → y3 = smP P 2 → zOk (q_Model_small_j116 E (kL c) (P.2.2 : Int) (smT P) (8 * (q : Int)) y1 y2 y3 b) (fun r => r.1 = (sml P U).1 ∧ UM (sml P U).2 r.2 ∧ zOff pUm b r.2) := fun y1 y2 y3 h1 h2 h3 => by
    unfold q_Model_small_j116
    by_cases y : P.2.2 ≤ 3
    · rw [if_pos (by omega)]; exact j134 _ _ _ _ h1 h2 h3 (by rw [e 3, if_neg (by omega)])
    · rw [if_neg (by omega), kL_121, if_pos (by omega)]; exact j134 _ _ _ _ h1 h2 h3 (by rw [e 3, if_pos (by omega), show (8 * (q : Int) + 3).toNat = 8 * q + 3 by omega])
  have j98 : ∀ y1 y2, y1 = smP P 0 → y2 = smP P 1 → zOk (q_Model_small_j98 E (kL c) (P.2.2 : Int) (smT P) (8 * (q : Int)) y1 y2 b) (fun r => r.1 = (sml P U).1 ∧ UM (sml P U).2 r.2 ∧ zOff pUm b r.2) := fun y1 y2 h1 h2 => by
    unfold q_Model_small_j98
    by_cases y : P.2.2 ≤ 2
    · rw [if_pos (by omega)]; exact j116 _ _ _ h1 h2 (by rw [e 2, if_neg (by omega)])
    · rw [if_neg (by omega), kL_121, if_pos (by omega)]; exact j116 _ _ _ h1 h2 (by rw [e 2, if_pos (by omega), show (8 * (q : Int) + 2).toNat = 8 * q + 2 by omega])
  have j80 : ∀ y1, y1 = smP P 0 → zOk (q_Model_small_j80 E (kL c) (P.2.2 : Int) (smT P) (8 * (q : Int)) y1 b) (fun r => r.1 = (sml P U).1 ∧ UM (sml P U).2 r.2 ∧ zOff pUm b r.2) := fun y1 h1 => by
    unfold q_Model_small_j80
    by_cases y : P.2.2 ≤ 1
    · rw [if_pos (by omega)]; exact j98 _ _ h1 (by rw [e 1, if_neg (by omega)])
    · rw [if_neg (by omega), kL_121, if_pos (by omega)]; exact j98 _ _ h1 (by rw [e 1, if_pos (by omega), show (8 * (q : Int) + 1).toNat = 8 * q + 1 by omega])
  by_cases y : P.2.2 ≤ 0
  · rw [if_pos (by omega)]; exact j80 _ (by rw [e 0, if_neg (by omega)])
  · rw [if_neg (by omega), if_pos (by omega)]; exact j80 _ (by rw [e 0, if_pos (by omega), show (8 * (q : Int)).toNat = 8 * q + 0 by omega])
def pPq (q k j : Nat) : Prop := pR q k j ∨ (k = 123 ∧ j = q)
theorem s_partM (hq : q < 9) (hv : v < 2) (h0 : 0 < P.2.2) (hw : P.2.2 ≤ 8) (h : PcM q P b) (hb : bPc P) : zOk (q_Model_part E (kL c) (q : Int) (v : Int) b) (fun s => PcM (q + 1) (hlf v P) s ∧ s.1 123 (q + 1) = 0 ∧ zOff (pPq (q + 1)) b s) := by
  have pw := pw_le hw
  unfold q_Model_part
  refine ok_b1 (fun s => zOff (fun k j => k = 120 ∧ 256 * (q + 1) ≤ j ∧ j < 256 * (q + 1) + 256) b s ∧ ∀ n, n < 256 → s.1 120 (256 * (q + 1) + n) = zBool (b.1 120 (256 * q + n))) ?_ fun s ⟨s1, s2⟩ => ?_
  · refine it_for (fun (n : Nat) (t : gZ) => ((n : Int), t)) (fun i t => zOff (fun k j => k = 120 ∧ 256 * (q + 1) ≤ j ∧ j < 256 * (q + 1) + 256) b t ∧ ∀ n, n < i → t.1 120 (256 * (q + 1) + n) = zBool (b.1 120 (256 * q + n))) 0 256 rfl ⟨off_r, fun n hn => by omega⟩ (by omega) (by omega) ?_ ?_
    · rintro i t - hi ⟨t1, t2⟩
      show zOk (q_Model_part_2 E (kL c) (q : Int) (v : Int) (i : Int) t) _
      unfold q_Model_part_2
      rw [if_neg (by omega), kL_120, show (256 * (q : Int) + (i : Int)) = ((256 * q + i : Nat) : Int) by omega, if_pos (by omega), show (256 * ((q : Int) + 1) + (i : Int)) = ((256 * (q + 1) + i : Nat) : Int) by omega, if_pos (by omega), ok_l, ok_l, gtN, gtN, t1.2 120 (256 * q + i) (by omega)]
      refine ok_inl (Or.inl ⟨_, by rw [show ((i + 1 : Nat) : Int) = (i : Int) + 1 by omega], off_t t1 (off_put (by omega)), fun n hn => ?_⟩)
      rw [zp1, if_pos rfl]
      by_cases y : n = i
      · rw [if_pos (by omega), y]
      · rw [if_neg (by omega)]; exact t2 n (by omega)
    · rintro t ⟨t1, t2⟩
      show zOk (q_Model_part_2 E (kL c) (q : Int) (v : Int) ((256 : Nat) : Int) t) _
      unfold q_Model_part_2
      rw [if_pos (by omega)]
      exact ok_inr ⟨t, rfl, t1, t2⟩
  refine ok_b1 (fun t => zOff (fun k j => k = 121 ∧ 8 * (q + 1) ≤ j ∧ j < 8 * (q + 1) + 8) s t ∧ ∀ n, n < 8 → t.1 121 (8 * (q + 1) + n) = b.1 121 (8 * q + n)) ?_ fun t ⟨t1, t2⟩ => ?_
  · refine it_for (fun (n : Nat) (t : gZ) => ((n : Int), t)) (fun i t => zOff (fun k j => k = 121 ∧ 8 * (q + 1) ≤ j ∧ j < 8 * (q + 1) + 8) s t ∧ ∀ n, n < i → t.1 121 (8 * (q + 1) + n) = b.1 121 (8 * q + n)) 0 8 rfl ⟨off_r, fun n hn => by omega⟩ (by omega) (by omega) ?_ ?_
    · rintro i t - hi ⟨t1, t2⟩
      show zOk (q_Model_part_43 E (kL c) (q : Int) (v : Int) (i : Int) t) _
      unfold q_Model_part_43
      rw [if_neg (by omega), kL_121, show (8 * (q : Int) + (i : Int)) = ((8 * q + i : Nat) : Int) by omega, if_pos (by omega), show (8 * ((q : Int) + 1) + (i : Int)) = ((8 * (q + 1) + i : Nat) : Int) by omega, if_pos (by omega), ok_l, ok_l, gtN, gtN, t1.2 121 (8 * q + i) (by omega), s1.2 121 _ (by omega)]
      refine ok_inl (Or.inl ⟨_, by rw [show ((i + 1 : Nat) : Int) = (i : Int) + 1 by omega], off_t t1 (off_put (by omega)), fun n hn => ?_⟩)
      rw [zp1, if_pos rfl]
      by_cases y : n = i
      · rw [if_pos (by omega), y]
      · rw [if_neg (by omega)]; exact t2 n (by omega)
    · rintro t ⟨t1, t2⟩
      show zOk (q_Model_part_43 E (kL c) (q : Int) (v : Int) ((8 : Nat) : Int) t) _
      unfold q_Model_part_43
      rw [if_pos (by omega)]
      exact ok_inr ⟨t, rfl, t1, t2⟩
  have t122 : t.1 122 q = P.2.2 := by rw [t1.2 122 q (by omega), s1.2 122 q (by omega)]; exact h.2.2
  have qt : ((q : Int) + 1).toNat = q + 1 := by omega
  rw [kL_122, if_pos (by omega), if_pos (by omega), ok_l, kL_123, if_pos (by omega), ok_l, gtN, qt, t122]
  generalize hu : zPut (zPut t 122 (q + 1) (P.2.2 : Int)) 123 (q + 1) 0 = u
  have u122 : u.1 122 q = P.2.2 := by rw [← hu, zp_n (by omega), zp_n (by omega)]; exact t122
  have ou : zOff (pPq (q + 1)) t u := by rw [← hu]; exact off_t (off_put (Or.inl (Or.inr (Or.inr ⟨rfl, rfl⟩)))) (off_put (Or.inr ⟨rfl, rfl⟩))
  have ot : zOff (pPq (q + 1)) b t := off_t (off_w s1 fun k j x => Or.inl (Or.inl x)) (off_w t1 fun k j x => Or.inl (Or.inr (Or.inl x)))
  have Pu : PcM (q + 1) P u := by
    refine ⟨fun n hn => ?_, fun j hj => ?_, ?_⟩
    · rw [← hu, zp_n (by omega), zp_n (by omega), t1.2 120 _ (by omega), s2 n (by omega), h.1 n hn]
      exact zBool_n _ (hb n hn)
    · rw [← hu, zp_n (by omega), zp_n (by omega), t2 j (by omega)]; exact h.2.1 j hj
    · rw [← hu, zp_n (by omega), zp_eq]
  rw [u122, if_pos (by omega), show (P.2.2 : Int) - 1 = ((P.2.2 - 1 : Nat) : Int) by omega, show (q : Int) + 1 = ((q + 1 : Nat) : Int) by omega]
  refine ok_b1 _ (s_holdM (q := q + 1) (i := P.2.2 - 1) (by omega) hv hw (by omega) Pu hb) fun w ⟨w1, w2⟩ => ok_so ⟨⟨fun n hn => ?_, fun j hj => ?_, w1.2.2⟩, ?_, off_t ot (off_t ou (off_w w2 fun k j x => Or.inl x))⟩
  · have hn : n < 2 ^ (P.2.2 - 1) := hn
    rw [w1.1 n hn]
    show P.1 (insB (P.2.2 - 1) n + v * 2 ^ (P.2.2 - 1)) = P.1 (n + v * 2 ^ (P.2.2 - 1))
    rw [ins_lt hn]
  · have hj : j < P.2.2 - 1 := hj
    rw [w1.2.1 j hj]
    show (if j < P.2.2 - 1 then P.2.1 j else P.2.1 (j + 1)) = P.2.1 j
    rw [if_pos hj]
  · rw [w2.2 123 (q + 1) (by unfold pR; omega), ← hu, zp_eq]
end
/-- k steps of a loop -/
def rn {σ ε : Type} (F : σ → Option (σ ⊕ ε)) (k : Nat) (s s' : σ) : Prop := ∀ m, gIter F (m + k) s = gIter F m s'
theorem rn_1 {σ ε : Type} {F : σ → Option (σ ⊕ ε)} {s s' : σ} (h : F s = some (.inl s')) : rn F 1 s s' := fun m => it_step h
theorem rn_t {σ ε : Type} {F : σ → Option (σ ⊕ ε)} {k l : Nat} {s t u : σ} (h : rn F k s t) (h' : rn F l t u) : rn F (l + k) s u := fun m => by
  rw [← Nat.add_assoc, h (m + l), h' m]
/-- what mapping from level q on may change, in the reference -/
def pRq (q k j : Nat) : Prop := (k = 120 ∧ 256 * q ≤ j) ∨ (k = 121 ∧ 8 * q ≤ j) ∨ ((k = 122 ∨ k = 123 ∨ k = 124) ∧ q ≤ j) ∨ pUm k j
theorem s_mapM : ∀ (f q : Nat) (P : Pc) (U : Ut) (res : Int) (b : gZ), q + f = 4 → P.2.2 ≤ 4 + f → PcM q P b → b.1 123 q = 0 → bPc P → UM U b → U.2.2 + 2 ^ (f + 1) ≤ 5000 → ∃ (k : Nat) (b' : gZ), k + 3 ≤ 4 * 2 ^ f ∧ rn (fun y => q_Model_map_95 E (kL c) y.1 y.2.1 y.2.2) k ((q : Int), res, b) ((q : Int) - 1, (mp f P U).1, b') ∧ UM (mp f P U).2 b' ∧ zOff (pRq q) b b' := by
  -- the first step at a level
  have st0 : ∀ (q : Nat) (P : Pc) (res : Int) (b : gZ), q < 9 → P.2.2 ≤ 8 → PcM q P b → b.1 123 q = 0 → bPc P → ∃ s, PcM q (lo P.2.2 P) s ∧ zOff (pR q) b s ∧ q_Model_map_95 E (kL c) (q : Int) res b = if 5 ≤ ((lo P.2.2 P).2.2 : Int) then (gLet (zPut s 123 q 1) fun s22 => gB1 (q_Model_part E (kL c) (q : Int) 0 s22) fun s24 => if -2147483648 ≤ (q : Int) + 1 ∧ (q : Int) + 1 < 2147483648 then gLet ((q : Int) + 1) fun x25 => some (.inl (x25, res, s24)) else none) else gB2 (q_Model_small E (kL c) (q : Int) s) fun v26 s27 => if -2147483648 ≤ (q : Int) + (-1) ∧ (q : Int) + (-1) < 2147483648 then gLet ((q : Int) + (-1)) fun x28 => some (.inl (x28, v26, s27)) else none := fun q P res b hq hw h h0 hb => by
    obtain ⟨s, hs, s1, s2⟩ := s_leaveM (E := E) (c := c) (q := q) (l3 := res) (by omega) P.2.2 P b gN (Nat.le_refl _) hw h hb (by unfold gN; omega)
    refine ⟨s, s1, s2, ?_⟩
    unfold q_Model_map_95
    rw [if_neg (by omega), kL_123, if_pos (by omega), gtN, if_pos h0, kL_122, if_pos (by omega), h.2.2, if_pos (by omega), let_s, hs, b1_s, s1.2.2]
  have sm : ∀ (f q : Nat) (P : Pc) (U : Ut) (res : Int) (b : gZ), q + f = 4 → P.2.2 ≤ 8 → PcM q P b → b.1 123 q = 0 → bPc P → UM U b → U.2.2 + 2 ^ (f + 1) ≤ 5000 → (lo P.2.2 P).2.2 ≤ 4 → ∃ (k : Nat) (b' : gZ), k + 3 ≤ 4 * 2 ^ f ∧ rn (fun y => q_Model_map_95 E (kL c) y.1 y.2.1 y.2.2) k ((q : Int), res, b) ((q : Int) - 1, (sml (lo P.2.2 P) U).1, b') ∧ UM (sml (lo P.2.2 P) U).2 b' ∧ zOff (pRq q) b b' := fun f q P U res b hq hw h h0 hb hU hu hl => by
    have hp1 := Nat.two_pow_pos f
    have hp2 := Nat.two_pow_pos (f + 1)
    obtain ⟨s, s1, s2, s3⟩ := st0 q P res b (by omega) hw h h0 hb
    have lw := lo_o (A := fun _ => True) P.2.2 P (Nat.le_refl _) ⟨hb, fun _ _ => trivial⟩
    obtain ⟨⟨v, b'⟩, hv, v1, v2, v3⟩ := s_smallM (E := E) (c := c) (q := q) (by omega) hl s1 lw.1.1 (UM_o hU s2 fun k j x => by unfold pR at x; omega) (by omega)
    have v1 : v = (sml (lo P.2.2 P) U).1 := v1
    refine ⟨1, b', by omega, rn_1 ?_, v2, off_t (off_w s2 fun k j x => by unfold pR at x; unfold pRq; omega) (off_w v3 fun k j x => Or.inr (Or.inr (Or.inr x)))⟩
    show q_Model_map_95 E (kL c) (q : Int) res b = _
    rw [s3, if_neg (by omega), hv, b2_p, if_pos (by omega), let_s, v1, show (q : Int) + -1 = (q : Int) - 1 by omega]
  intro f
  induction f with
  | zero =>
    intro q P U res b hq hw h h0 hb hU hu
    have lw := lo_o (A := fun _ => True) P.2.2 P (Nat.le_refl _) ⟨hb, fun _ _ => trivial⟩
    exact sm 0 q P U res b hq (by omega) h h0 hb hU hu (by omega)
  | succ f ih =>
    intro q P U res b hq hw h h0 hb hU hu
    have lw := lo_o (A := fun _ => True) P.2.2 P (Nat.le_refl _) ⟨hb, fun _ _ => trivial⟩
    have hp0 : 2 ^ (f + 1) = 2 ^ f + 2 ^ f := by rw [Nat.pow_succ]; omega
    have hp2 : 2 ^ (f + 1 + 1) = 2 ^ (f + 1) + 2 ^ (f + 1) := by rw [Nat.pow_succ]; omega
    have hp1 := Nat.two_pow_pos f
    unfold mp
    by_cases x : (lo P.2.2 P).2.2 ≤ 4
    · rw [if_pos x]
      exact sm (f + 1) q P U res b hq (by omega) h h0 hb hU hu x
    · rw [if_neg x]
      obtain ⟨s, s1, s2, s3⟩ := st0 q P res b (by omega) (by omega) h h0 hb
      have hUs : UM U s := UM_o hU s2 fun k j x => by unfold pR at x; omega
      generalize lo P.2.2 P = Q at *
      have cc : ∀ {t u : gZ} {A : Nat → Nat → Prop}, zOff A t u → (∀ k j, A k j → ¬ (k = 120 ∧ j < 256 * q + 256) ∧ ¬ (k = 121 ∧ j < 8 * q + 8) ∧ ¬ (k = 122 ∧ j = q)) → PcM q Q t → PcM q Q u := fun o hA hp => by
        refine ⟨fun n hn => ?_, fun j hj => ?_, ?_⟩
        · have := pw_le (w := Q.2.2) (by omega)
          rw [o.2 120 _ fun y => (hA _ _ y).1 ⟨rfl, by omega⟩]; exact hp.1 n hn
        · rw [o.2 121 _ fun y => (hA _ _ y).2.1 ⟨rfl, by omega⟩]; exact hp.2.1 j hj
        · rw [o.2 122 _ fun y => (hA _ _ y).2.2 ⟨rfl, rfl⟩]; exact hp.2.2
      -- the low half
      have o1 : zOff (fun k j => k = 123 ∧ j = q) s (zPut s 123 q 1) := off_put ⟨rfl, rfl⟩
      have Q1 : PcM q Q (zPut s 123 q 1) := cc o1 (fun k j y => by omega) s1
      obtain ⟨u, hu1, u1, u2, u3⟩ := s_partM (E := E) (c := c) (q := q) (v := 0) (by omega) (by omega) (by omega) (by omega) Q1 lw.1.1
      rw [show ((0 : Nat) : Int) = 0 from rfl] at hu1
      have r1 : rn (fun y => q_Model_map_95 E (kL c) y.1 y.2.1 y.2.2) 1 ((q : Int), res, b) (((q + 1 : Nat) : Int), res, u) := rn_1 (by
        show q_Model_map_95 E (kL c) (q : Int) res b = _
        rw [s3, if_pos (by omega), let_s, hu1, b1_s, if_pos (by omega), let_s, show ((q + 1 : Nat) : Int) = (q : Int) + 1 by omega])
      have b0 : bPc (hlf 0 Q) := (hlf_o (A := fun _ => True) (v := 0) (by omega) (by omega) lw.1).1
      have Uu : UM U u := UM_o (UM_o hUs o1 fun k j y => by omega) u3 fun k j y => by unfold pPq pR at y; omega
      obtain ⟨k1, b1, k1b, r2, U1, o2⟩ := ih (q + 1) (hlf 0 Q) U res u (by omega) (by show Q.2.2 - 1 ≤ _; omega) u1 u2 b0 Uu (by omega)
      have c1 := mp_c f (hlf 0 Q) U
      generalize mp f (hlf 0 Q) U = A at *
      rw [show ((q + 1 : Nat) : Int) - 1 = (q : Int) by omega] at r2
      have Qu : PcM q Q u := cc u3 (fun k j y => by unfold pPq pR at y; omega) Q1
      have Qb1 : PcM q Q b1 := cc o2 (fun k j y => by unfold pRq pUm at y; omega) Qu
      have s123 : b1.1 123 q = 1 := by rw [o2.2 123 q (by unfold pRq pUm; omega), u3.2 123 q (by unfold pPq pR; omega), zp_eq]
      -- the high half
      have o3 : zOff (fun k j => (k = 123 ∨ k = 124) ∧ j = q) b1 (zPut (zPut b1 124 q A.1) 123 q 2) := off_t (off_put (by omega)) (off_put (by omega))
      have Q2 : PcM q Q (zPut (zPut b1 124 q A.1) 123 q 2) := cc o3 (fun k j y => by omega) Qb1
      obtain ⟨w, hw1, w1, w2, w3⟩ := s_partM (E := E) (c := c) (q := q) (v := 1) (by omega) (by omega) (by omega) (by omega) Q2 lw.1.1
      rw [show ((1 : Nat) : Int) = 1 from rfl] at hw1
      have r3 : rn (fun y => q_Model_map_95 E (kL c) y.1 y.2.1 y.2.2) 1 ((q : Int), A.1, b1) (((q + 1 : Nat) : Int), A.1, w) := rn_1 (by
        show q_Model_map_95 E (kL c) (q : Int) A.1 b1 = _
        unfold q_Model_map_95
        rw [if_neg (by omega), kL_123, if_pos (by omega), gtN, s123, if_neg (by decide), if_pos rfl, kL_124, if_pos (by omega), let_s, let_s, hw1, b1_s, if_pos (by omega), let_s, show ((q + 1 : Nat) : Int) = (q : Int) + 1 by omega])
      have b1' : bPc (hlf 1 Q) := (hlf_o (A := fun _ => True) (v := 1) (by omega) (by omega) lw.1).1
      have Uw : UM A.2 w := UM_o (UM_o U1 o3 fun k j y => by omega) w3 fun k j y => by unfold pPq pR at y; omega
      obtain ⟨k2, b2, k2b, r4, U2, o4⟩ := ih (q + 1) (hlf 1 Q) A.2 A.1 w (by omega) (by show Q.2.2 - 1 ≤ _; omega) w1 w2 b1' Uw (by omega)
      have c2 := mp_c f (hlf 1 Q) A.2
      generalize mp f (hlf 1 Q) A.2 = B at *
      rw [show ((q + 1 : Nat) : Int) - 1 = (q : Int) by omega] at r4
      have Qw : PcM q Q w := cc w3 (fun k j y => by unfold pPq pR at y; omega) Q2
      have Qb2 : PcM q Q b2 := cc o4 (fun k j y => by unfold pRq pUm at y; omega) Qw
      have t123 : b2.1 123 q = 2 := by rw [o4.2 123 q (by unfold pRq pUm; omega), w3.2 123 q (by unfold pPq pR; omega), zp_eq]
      have t124 : b2.1 124 q = A.1 := by rw [o4.2 124 q (by unfold pRq pUm; omega), w3.2 124 q (by unfold pPq pR; omega), zp_n (by omega), zp_eq]
      obtain ⟨⟨v, b3⟩, hv, v1, v2, v3⟩ := s_newLut (E := E) (c := c) (p := chP A.1 B.1 (Q.2.1 (Q.2.2 - 1))) (tb := 51914) U2 (by omega)
      have v1 : v = ((400 + B.2.2.2 : Nat) : Int) := v1
      have v2 : UM (adL B.2 (chP A.1 B.1 (Q.2.1 (Q.2.2 - 1))) 51914) b3 := v2
      have r5 : rn (fun y => q_Model_map_95 E (kL c) y.1 y.2.1 y.2.2) 1 ((q : Int), B.1, b2) ((q : Int) - 1, (chs Q A B).1, b3) := rn_1 (by
        show q_Model_map_95 E (kL c) (q : Int) B.1 b2 = _
        unfold q_Model_map_95
        have hv : q_Model_newLut E (kL c) A.1 B.1 (Q.2.1 (Q.2.2 - 1)) (-1) 51914 b2 = some (v, b3) := hv
        rw [if_neg (by omega), kL_123, if_pos (by omega), gtN, t123, if_neg (by decide), if_neg (by decide), kL_124, if_pos (by omega), kL_122, if_pos (by omega), Qb2.2.2, kL_121, show (8 * (q : Int) + (Q.2.2 : Int)) - 1 = ((8 * q + (Q.2.2 - 1) : Nat) : Int) by omega, if_pos (by omega), gtN, t124, Qb2.2.1 _ (by omega), hv, b2_p, if_pos (by omega), let_s, v1, show (q : Int) + -1 = (q : Int) - 1 by omega]
        rfl)
      refine ⟨1 + (k2 + (1 + (k1 + 1))), b3, by omega, rn_t (rn_t (rn_t (rn_t r1 r2) r3) r4) r5, v2, ?_⟩
      have e1 : ∀ k j, pR q k j → pRq q k j := fun k j y => by unfold pR at y; unfold pRq; omega
      have e2 : ∀ k j, pPq (q + 1) k j → pRq q k j := fun k j y => by unfold pPq pR at y; unfold pRq; omega
      have e3 : ∀ k j, pRq (q + 1) k j → pRq q k j := fun k j y => by unfold pRq pUm at y ⊢; omega
      exact off_t (off_w s2 e1) (off_t (off_w o1 fun k j y => by unfold pRq; omega) (off_t (off_w u3 e2) (off_t (off_w o2 e3) (off_t (off_w o3 fun k j y => by unfold pRq; omega) (off_t (off_w w3 e2) (off_t (off_w o4 e3) (off_w v3 fun k j y => Or.inr (Or.inr (Or.inr y)))))))))
end
