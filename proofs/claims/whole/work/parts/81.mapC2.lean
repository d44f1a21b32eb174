set_option linter.unusedVariables false
-- KD
section
variable {E : gEv} {c : gCf}
theorem zAnd_pw {n w : Nat} (hw : w ≤ 8) (hn : n < 65536) : zAnd (n : Int) (((2 ^ w : Nat) : Int) - 1) = ((n % 2 ^ w : Nat) : Int) := by
  have p := pw_le hw
  rw [show ((2 ^ w : Nat) : Int) - 1 = ((2 ^ w - 1 : Nat) : Int) by omega, zAnd_n _ _ (by omega) (by omega), Nat.and_two_pow_sub_one_eq_mod]
theorem mp_c : ∀ (f : Nat) (P : Pc) (U : Ut), (mp f P U).2.2.2 ≤ U.2.2 + (2 ^ (f + 1) - 1) := by
  intro f
  induction f with
  | zero => intro P U; exact Nat.le_refl _
  | succ f ih =>
    intro P U
    have hp2 : 2 ^ (f + 1 + 1) = 2 ^ (f + 1) + 2 ^ (f + 1) := by rw [Nat.pow_succ]; omega
    have hp1 := Nat.two_pow_pos (f + 1)
    unfold mp
    by_cases x : (lo P.2.2 P).2.2 ≤ 4
    · rw [if_pos x]
      show U.2.2 + 1 ≤ _
      omega
    · rw [if_neg x]
      have q1 := ih (hlf 0 (lo P.2.2 P)) U
      have q2 := ih (hlf 1 (lo P.2.2 P)) (mp f (hlf 0 (lo P.2.2 P)) U).2
      show (mp f (hlf 1 (lo P.2.2 P)) (mp f (hlf 0 (lo P.2.2 P)) U).2).2.2.2 + 1 ≤ _
      omega
section
variable {q : Nat} {P : Pc} {U : Ut} {a : gZ}
theorem s_smallC (hk : kOk c) (hq : q < 5) (hw : P.2.2 ≤ 4) (h : PcC q P a) (hb : bPc P) (hU : UC c U a) (hu : U.2.2 ≤ 100000) : zOk (q_Mapper_addSmall E (kL c) (q : Int) (P.2.2 : Int) a) (fun r => r.1 = (sml P U).1 ∧ UC c (sml P U).2 r.2 ∧ zOff pU a r.2) := by
  have pw := pw_le (w := P.2.2) (by omega)
  have F : gIter (fun y => q_Mapper_addSmall_5 E (kL c) (q : Int) (P.2.2 : Int) y.1 y.2 a) gN (0, 0) = some (smT P) := by
    refine it_acc (fun (i : Nat) (s : Int) => (s, (i : Int))) (fun i => nb (fun n => P.1 (n % 2 ^ P.2.2)) 0 i) 0 16 rfl (by omega) (by omega) (fun i _ hi => ?_) ?_
    · show q_Mapper_addSmall_5 E (kL c) (q : Int) (P.2.2 : Int) (nb (fun n => P.1 (n % 2 ^ P.2.2)) 0 i) (i : Int) a = some (.inl (nb (fun n => P.1 (n % 2 ^ P.2.2)) 0 (i + 1), ((i + 1 : Nat) : Int)))
      have ml : i % 2 ^ P.2.2 < 2 ^ P.2.2 := Nat.mod_lt _ (Nat.two_pow_pos _)
      unfold q_Mapper_addSmall_5
      rw [if_neg (by omega), if_pos (by omega), let_s, gtN, zShl_1 (by omega), if_pos (by omega), zAnd_pw (by omega) (by omega), kL_tb hq, if_pos (by omega), let_s, let_s, gtN, h.1 _ ml]
      show _ = some (Sum.inl (zOr (nb (fun n => P.1 (n % 2 ^ P.2.2)) 0 i) (zShl (P.1 ((0 + i) % 2 ^ P.2.2)) (i : Int)), ((i + 1 : Nat) : Int)))
      rw [Nat.zero_add]
      rfl
    · show q_Mapper_addSmall_5 E (kL c) (q : Int) (P.2.2 : Int) (nb (fun n => P.1 (n % 2 ^ P.2.2)) 0 16) ((16 : Nat) : Int) a = _
      unfold q_Mapper_addSmall_5
      rw [if_pos (by omega)]
      rfl
  unfold q_Mapper_addSmall
  rw [F, b1_s, if_pos (by omega), ok_l, gtN]
  refine ok_b2 _ (s_addLut (U := U) (p := smP P) hk (kL_sr hq) (by unfold pU; omega) hw hU hu fun i hi => ?_) fun v s hs => ok_so hs
  unfold smP
  split
  · rename_i y; exact (h.2 i y).symm
  · rfl
/-- what mapping from level q on may change -/
def pMp (q k j : Nat) : Prop := (42 + q ≤ k ∧ k ≤ 46) ∨ (48 + q ≤ k ∧ k ≤ 52) ∨ pU k j
theorem s_mapC (hk : kOk c) : ∀ (f q : Nat) (P : Pc) (U : Ut) (a : gZ), q + f = 4 → P.2.2 ≤ 4 + f → PcC q P a → bPc P → UC c U a → U.2.2 + 2 ^ (f + 1) ≤ 100000 → zOk (q_Mapper_map E (kL c) (f + 2) (q : Int) (P.2.2 : Int) a) (fun r => r.1 = (mp f P U).1 ∧ UC c (mp f P U).2 r.2 ∧ zOff (pMp q) a r.2) := by
  -- a small one
  have sm : ∀ (q : Nat) (P : Pc) (U : Ut) (a s : gZ), q < 5 → P.2.2 ≤ 4 → PcC q P s → bPc P → UC c U s → U.2.2 ≤ 100000 → zOff (pM q) a s → zOk (q_Mapper_map_j19 E (kL c) (q : Int) (P.2.2 : Int) s) (fun r => r.1 = (sml P U).1 ∧ UC c (sml P U).2 r.2 ∧ zOff (pMp q) a r.2) := fun q P U a s hq hw h hb hU hu o => by
    unfold q_Mapper_map_j19
    rw [if_neg (by omega)]
    refine ok_b2 _ (s_smallC hk hq hw h hb hU hu) fun v s' ⟨h1, h2, h3⟩ => ok_so ⟨h1, h2, off_t (off_w o fun k j x => by unfold pM at x; unfold pMp; omega) (off_w h3 fun k j x => Or.inr (Or.inr x))⟩
  intro f
  induction f with
  | zero =>
    intro q P U a hq hw h hb hU hu
    obtain ⟨⟨v, s⟩, hs, h1, h2, h3⟩ := s_loC (E := E) (c := c) (q := q) (by omega) (by omega) h hb
    have h1 : v = ((lo P.2.2 P).2.2 : Nat) := h1
    have lw := lo_o (A := fun _ => True) P.2.2 P (Nat.le_refl _) ⟨hb, fun _ _ => trivial⟩
    unfold q_Mapper_map
    rw [hs, b2_p, h1, if_pos (by omega)]
    exact sm q (lo P.2.2 P) U a s (by omega) (by omega) h2 lw.1.1 (UC_o hU h3 fun k j x => by unfold pM at x; omega) (by omega) h3
  | succ f ih =>
    intro q P U a hq hw h hb hU hu
    obtain ⟨⟨v, s⟩, hs, h1, h2, h3⟩ := s_loC (E := E) (c := c) (q := q) (by omega) (by omega) h hb
    have h1 : v = ((lo P.2.2 P).2.2 : Nat) := h1
    have h2 : PcC q (lo P.2.2 P) s := h2
    have h3 : zOff (pM q) a s := h3
    have lw := lo_o (A := fun _ => True) P.2.2 P (Nat.le_refl _) ⟨hb, fun _ _ => trivial⟩
    have hUs : UC c U s := UC_o hU h3 fun k j x => by unfold pM at x; omega
    have hp2 : 2 ^ (f + 1 + 1) = 2 ^ (f + 1) + 2 ^ (f + 1) := by rw [Nat.pow_succ]; omega
    have hp1 := Nat.two_pow_pos (f + 1)
    unfold q_Mapper_map mp
    rw [hs, b2_p, h1]
    by_cases x : (lo P.2.2 P).2.2 ≤ 4
    · rw [if_pos x, if_pos (by omega)]
      exact sm q (lo P.2.2 P) U a s (by omega) x h2 lw.1.1 hUs (by omega) h3
    · rw [if_neg x, if_neg (by omega)]
      generalize lo P.2.2 P = Q at *
      have hw8 : Q.2.2 - 1 ≤ 8 := by omega
      have pw := pw_le hw8
      have pwQ := pw_le (w := Q.2.2) (by omega)
      have ph := pw_h (w := Q.2.2) (by omega)
      have qt : (((q : Int) + 1)).toNat = q + 1 := by omega
      rw [if_pos (by omega), if_pos (by omega), if_pos (by omega), ok_l, show (Q.2.2 : Int) - 1 = ((Q.2.2 - 1 : Nat) : Int) by omega, zShl_1 hw8, ok_l, if_pos (by omega), ok_l, if_pos (by omega), ok_l, gtN, gtN, qt, kL_tb (by omega), kL_tb (by omega)]
      have byt : ∀ n, n < 2 ^ Q.2.2 → -128 ≤ s.1 (42 + q) n ∧ s.1 (42 + q) n < 128 := fun n hn => by
        rw [h2.1 n hn]
        have := lw.1.1 n hn
        unfold b01 at this; omega
      rw [if_pos ⟨by omega, fun i hi => byt _ (by omega)⟩, ok_l, ok_l, ok_l, gtN, kL_sr (by omega), kL_sr (by omega), if_pos (by omega), ok_l]
      -- the low half
      generalize hs1 : zRow s (42 + (q + 1)) (zCpy (s.1 (42 + q)) (s.1 (42 + (q + 1))) 0 0 (2 ^ (Q.2.2 - 1))) = s1
      have o1 : zOff (pM (q + 1)) s s1 := by rw [← hs1]; exact off_row fun j => Or.inl rfl
      generalize hs2 : zRow s1 (48 + (q + 1)) (zCpy (s1.1 (48 + q)) (s1.1 (48 + (q + 1))) 0 0 (Q.2.2 - 1)) = s2
      have o2 : zOff (pM (q + 1)) s1 s2 := by rw [← hs2]; exact off_row fun j => Or.inr rfl
      have P2 : PcC (q + 1) (hlf 0 Q) s2 := by
        refine ⟨fun n hn => ?_, fun j hj => ?_⟩
        · have hn : n < 2 ^ (Q.2.2 - 1) := hn
          rw [← hs2, zr_ne _ _ _ _ (by omega), ← hs1, zr_eq]
          show zCpy _ _ _ _ _ n = Q.1 (n + 0 * 2 ^ (Q.2.2 - 1))
          unfold zCpy
          rw [if_pos (by omega), show 0 + (n - 0) = n by omega, Nat.zero_mul, Nat.add_zero]
          exact h2.1 n (by omega)
        · have hj : j < Q.2.2 - 1 := hj
          rw [← hs2, zr_eq]
          show zCpy _ _ _ _ _ j = Q.2.1 j
          unfold zCpy
          rw [if_pos (by omega), show 0 + (j - 0) = j by omega, o1.2 _ _ (by unfold pM; omega)]
          exact h2.2 j (by omega)
      have U2 : UC c U s2 := UC_o hUs (off_t o1 o2) fun k j x => by unfold pM at x; omega
      have b2 : bPc (hlf 0 Q) := (hlf_o (A := fun _ => True) (v := 0) (by omega) (by omega) lw.1).1
      have ih1 := ih (q + 1) (hlf 0 Q) U s2 (by omega) (by show Q.2.2 - 1 ≤ _; omega) P2 b2 U2 (by omega)
      have c1 := mp_c f (hlf 0 Q) U
      rw [show ((q + 1 : Nat) : Int) = (q : Int) + 1 by omega, show (hlf 0 Q).2.2 = Q.2.2 - 1 from rfl] at ih1
      refine ok_b2 _ ih1 fun r1 s3 ⟨e1, U3, o3⟩ => ?_
      have e1 : r1 = (mp f (hlf 0 Q) U).1 := e1
      have U3 : UC c (mp f (hlf 0 Q) U).2 s3 := U3
      have o3 : zOff (pMp (q + 1)) s2 s3 := o3
      have os3 : ∀ k j, (k = 42 + q ∨ k = 48 + q) → s3.1 k j = s.1 k j := fun k j hk => by
        rw [o3.2 k j (by unfold pMp pU; omega), o2.2 k j (by unfold pM; omega), o1.2 k j (by unfold pM; omega)]
      rw [ok_l, ok_l, kL_tb (by omega), kL_tb (by omega), if_pos ⟨by omega, fun i hi => by rw [os3 _ _ (Or.inl rfl)]; exact byt _ (by omega)⟩, ok_l, ok_l, ok_l, kL_sr (by omega), kL_sr (by omega), if_pos (by omega), ok_l]
      -- the high half
      generalize hs4 : zRow s3 (42 + (q + 1)) (zCpy (s3.1 (42 + q)) (s3.1 (42 + (q + 1))) (2 ^ (Q.2.2 - 1)) 0 (2 ^ (Q.2.2 - 1))) = s4
      have o4 : zOff (pM (q + 1)) s3 s4 := by rw [← hs4]; exact off_row fun j => Or.inl rfl
      generalize hs5 : zRow s4 (48 + (q + 1)) (zCpy (s4.1 (48 + q)) (s4.1 (48 + (q + 1))) 0 0 (Q.2.2 - 1)) = s5
      have o5 : zOff (pM (q + 1)) s4 s5 := by rw [← hs5]; exact off_row fun j => Or.inr rfl
      have P5 : PcC (q + 1) (hlf 1 Q) s5 := by
        refine ⟨fun n hn => ?_, fun j hj => ?_⟩
        · have hn : n < 2 ^ (Q.2.2 - 1) := hn
          rw [← hs5, zr_ne _ _ _ _ (by omega), ← hs4, zr_eq]
          show zCpy _ _ _ _ _ n = Q.1 (n + 1 * 2 ^ (Q.2.2 - 1))
          unfold zCpy
          rw [if_pos (by omega), show 2 ^ (Q.2.2 - 1) + (n - 0) = n + 1 * 2 ^ (Q.2.2 - 1) by omega, os3 _ _ (Or.inl rfl)]
          exact h2.1 _ (by omega)
        · have hj : j < Q.2.2 - 1 := hj
          rw [← hs5, zr_eq]
          show zCpy _ _ _ _ _ j = Q.2.1 j
          unfold zCpy
          rw [if_pos (by omega), show 0 + (j - 0) = j by omega, o4.2 _ _ (by unfold pM; omega), os3 _ _ (Or.inr rfl)]
          exact h2.2 j (by omega)
      have U5 : UC c (mp f (hlf 0 Q) U).2 s5 := UC_o U3 (off_t o4 o5) fun k j x => by unfold pM at x; omega
      have b5 : bPc (hlf 1 Q) := (hlf_o (A := fun _ => True) (v := 1) (by omega) (by omega) lw.1).1
      have ih2 := ih (q + 1) (hlf 1 Q) (mp f (hlf 0 Q) U).2 s5 (by omega) (by show Q.2.2 - 1 ≤ _; omega) P5 b5 U5 (by omega)
      have c2 := mp_c f (hlf 1 Q) (mp f (hlf 0 Q) U).2
      rw [show ((q + 1 : Nat) : Int) = (q : Int) + 1 by omega, show (hlf 1 Q).2.2 = Q.2.2 - 1 from rfl] at ih2
      refine ok_b2 _ ih2 fun r2 s6 ⟨e2, U6, o6⟩ => ?_
      have e2 : r2 = (mp f (hlf 1 Q) (mp f (hlf 0 Q) U).2).1 := e2
      have U6 : UC c (mp f (hlf 1 Q) (mp f (hlf 0 Q) U).2).2 s6 := U6
      have o6 : zOff (pMp (q + 1)) s5 s6 := o6
      have os6 : ∀ k j, (k = 42 + q ∨ k = 48 + q) → s6.1 k j = s.1 k j := fun k j hk => by
        rw [o6.2 k j (by unfold pMp pU; omega), o5.2 k j (by unfold pM; omega), o4.2 k j (by unfold pM; omega), os3 k j hk]
      rw [ok_l, kL_sr (by omega), if_pos (by omega), ok_l, ok_l, kL_sr (by omega), if_pos (by omega), ok_l, ok_l, kL_sr (by omega), if_pos (by omega), ok_l, ok_l, kL_sr (by omega), if_pos (by omega), ok_l, ok_l, os6 _ _ (Or.inr rfl), h2.2 _ (by omega)]
      generalize hs7 : zPut (zPut (zPut s6 (48 + q) 0 r1) (48 + q) 1 r2) (48 + q) 2 (Q.2.1 (Q.2.2 - 1)) = s7
      have o7 : zOff (pM q) s6 s7 := by rw [← hs7]; exact off_t (off_put (Or.inr rfl)) (off_t (off_put (Or.inr rfl)) (off_put (Or.inr rfl)))
      have U7 : UC c (mp f (hlf 1 Q) (mp f (hlf 0 Q) U).2).2 s7 := UC_o U6 o7 fun k j x => by unfold pM at x; omega
      have L := s_addLut (E := E) (U := (mp f (hlf 1 Q) (mp f (hlf 0 Q) U).2).2) (p := chP r1 r2 (Q.2.1 (Q.2.2 - 1))) (tb := 51914) (w := 3) (k0 := 48 + q) hk (kL_sr (by omega)) (by unfold pU; omega) (by omega) U7 (by omega) (fun i hi => by
        unfold chP
        rw [← hs7]
        rcases (show i = 0 ∨ i = 1 ∨ i = 2 ∨ i = 3 by omega) with y | y | y | y <;> subst y
        · rw [if_pos rfl, if_pos (by omega), zp_n (by omega), zp_n (by omega), zp_eq]
        · rw [if_neg (by omega), if_pos rfl, if_pos (by omega), zp_n (by omega), zp_eq]
        · rw [if_neg (by omega), if_neg (by omega), if_pos rfl, if_pos (by omega), zp_eq]
        · rw [if_neg (by omega), if_neg (by omega), if_neg (by omega), if_neg (by omega)])
      rw [show ((3 : Nat) : Int) = 3 from rfl] at L
      refine ok_b2 _ L fun v s8 ⟨e8, U8, o8⟩ => ok_so ⟨e8, ?_, ?_⟩
      · rw [e1, e2] at U8
        exact U8
      · have sub : ∀ k j, pMp (q + 1) k j → pMp q k j := fun k j y => by unfold pMp pU at y ⊢; omega
        have sub2 : ∀ k j, pM (q + 1) k j → pMp q k j := fun k j y => by unfold pM at y; unfold pMp; omega
        have sub3 : ∀ k j, pM q k j → pMp q k j := fun k j y => by unfold pM at y; unfold pMp; omega
        exact off_t (off_w h3 sub3) (off_t (off_w o1 sub2) (off_t (off_w o2 sub2) (off_t (off_w o3 sub) (off_t (off_w o4 sub2) (off_t (off_w o5 sub2) (off_t (off_w o6 sub) (off_t (off_w o7 sub3) (off_w o8 fun k j y => Or.inr (Or.inr y)))))))))
end
end
