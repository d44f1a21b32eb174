set_option linter.unusedVariables false
-- KG
section
variable {E : gEv} {c : gCf}
/-- the piece of gate f -/
def PcG (b : gZ) (f : Nat) : Pc := (fun n => b.1 114 (256 * f + n), fun i => srcF b (b.1 111 (8 * f + i)).toNat, (b.1 110 f).toNat)
def pCm (k j : Nat) : Prop := k = 25 ∨ (42 ≤ k ∧ k ≤ 46) ∨ (48 ≤ k ∧ k ≤ 52) ∨ pU k j
def pBg (k j : Nat) : Prop := k = 117 ∨ k = 118 ∨ (120 ≤ k ∧ k ≤ 124) ∨ (k = 94 ∧ j = 46)
def pBm (k j : Nat) : Prop := (117 ≤ k ∧ k ≤ 124) ∨ (k = 94 ∧ j = 46)
section
variable {nm nI nO nL nG : Nat} {a b : gZ}
/-- the value of a gate's function, in the class -/
theorem s_value {g n : Nat} (hg : g < 150) (hn : n < 256) (hv : b.1 114 (256 * g + n) = if a.1 18 g = 0 then (if zBit (a.1 19 (8 * g + n / 32)) (n % 32) then 0 else 1) else if zBit (a.1 19 (8 * g + n / 32)) (n % 32) then 1 else 0) : q_Gates_valueAt E (kL c) (g : Int) (n : Int) a = some (b.1 114 (256 * g + n)) ∧ b01 (b.1 114 (256 * g + n)) := by
  have zu := zUshr_n n 5 (by omega) (by omega)
  rw [show ((5 : Nat) : Int) = 5 from rfl, show (2 : Nat) ^ 5 = 32 by decide] at zu
  have za := zAnd_n n 31 (by omega) (by omega)
  rw [show ((31 : Nat) : Int) = 31 from rfl] at za
  have e31 : n &&& 31 = n % 32 := Nat.and_two_pow_sub_one_eq_mod n 5
  rw [e31] at za
  unfold q_Gates_valueAt
  rw [zu, za, kL_19, show ((g : Int) * 8 + ((n / 32 : Nat) : Int)) = ((8 * g + n / 32 : Nat) : Int) by omega, if_pos (by omega), let_s, gtN, zBit_at _ _ (by omega), kL_18, if_pos (by omega), gtN, hv]
  by_cases y : a.1 18 g = 0
  · rw [if_pos y, if_pos y]
    cases zBit (a.1 19 (8 * g + n / 32)) (n % 32)
    · exact ⟨rfl, Or.inr rfl⟩
    · exact ⟨rfl, Or.inl rfl⟩
  · rw [if_neg y, if_neg y]
    cases zBit (a.1 19 (8 * g + n / 32)) (n % 32)
    · exact ⟨rfl, Or.inl rfl⟩
    · exact ⟨rfl, Or.inr rfl⟩
/-- the class's piece of a gate -/
theorem s_loadC {k : Int} {g m : Nat} {P : Pc} {a : gZ} (hg : g < 150) (hm : m ≤ 8) (hP : P.2.2 = m) (h16 : ∀ i, i < m → ∃ w : Nat, w < 150 ∧ a.1 16 (8 * g + i) = w ∧ a.1 25 w = P.2.1 i) (hv : ∀ n : Nat, n < 256 → q_Gates_valueAt E (kL c) (g : Int) (n : Int) a = some (P.1 n)) (hv' : ∀ (s : gZ), (∀ j, s.1 18 j = a.1 18 j) → (∀ j, s.1 19 j = a.1 19 j) → ∀ n : Nat, q_Gates_valueAt E (kL c) (g : Int) (n : Int) s = q_Gates_valueAt E (kL c) (g : Int) (n : Int) a) (hb : bPc P) : ∃ s, zOff (fun k j => k = 42 ∨ k = 48) a s ∧ PcC 0 P s ∧ ∃ t, gIter (fun y => q_Mapper_mapAll_30 E (kL c) k (g : Int) (m : Int) y.1 y.2) gN (0, a) = some t ∧ gIter (fun y => q_Mapper_mapAll_73 E (kL c) k (g : Int) (m : Int) y.1 y.2) gN (0, t) = some s := by
  have pw := pw_le hm
  obtain ⟨t, ht, t1, t2⟩ : zOk (gIter (fun y => q_Mapper_mapAll_30 E (kL c) k (g : Int) (m : Int) y.1 y.2) gN (0, a)) (fun t => zOff (fun k j => k = 48) a t ∧ ∀ i, i < m → t.1 48 i = P.2.1 i) := by
    refine it_for (fun (i : Nat) (t : gZ) => ((i : Int), t)) (fun i t => zOff (fun k j => k = 48) a t ∧ ∀ j, j < i → t.1 48 j = P.2.1 j) 0 m rfl ⟨off_r, fun j hj => by omega⟩ (by omega) (by omega) ?_ ?_
    · rintro i t - hi ⟨t1, t2⟩
      show zOk (q_Mapper_mapAll_30 E (kL c) k (g : Int) (m : Int) (i : Int) t) _
      obtain ⟨w, w1, w2, w3⟩ := h16 i hi
      unfold q_Mapper_mapAll_30
      rw [if_neg (by omega), if_pos (by omega), ok_l, kL_16, show ((g : Int) * 8 + (i : Int)) = ((8 * g + i : Nat) : Int) by omega, if_pos (by omega), gtN, t1.2 16 _ (by omega), w2, kL_25, if_pos (by omega), show 48 + 0 = 48 from rfl, kL_48, if_pos (by omega), ok_l, ok_l, gtN, gtN, t1.2 25 w (by omega), w3]
      refine ok_inl (Or.inl ⟨_, by rw [show ((i + 1 : Nat) : Int) = (i : Int) + 1 by omega], off_t t1 (off_put rfl), fun j hj => ?_⟩)
      rw [zp1, if_pos rfl]
      by_cases y : j = i
      · rw [if_pos y, y]
      · rw [if_neg y]; exact t2 j (by omega)
    · rintro t ⟨t1, t2⟩
      show zOk (q_Mapper_mapAll_30 E (kL c) k (g : Int) (m : Int) (m : Int) t) _
      unfold q_Mapper_mapAll_30
      rw [if_pos (by omega)]
      exact ok_inr ⟨t, rfl, t1, t2⟩
  have t1 : zOff (fun k j => k = 48) a t := t1
  obtain ⟨s, hs, s1, s2⟩ : zOk (gIter (fun y => q_Mapper_mapAll_73 E (kL c) k (g : Int) (m : Int) y.1 y.2) gN (0, t)) (fun s => zOff (fun k j => k = 42) t s ∧ ∀ n, n < 2 ^ m → s.1 42 n = P.1 n) := by
    refine it_for (fun (i : Nat) (t : gZ) => ((i : Int), t)) (fun i s => zOff (fun k j => k = 42) t s ∧ ∀ j, j < i → s.1 42 j = P.1 j) 0 (2 ^ m) rfl ⟨off_r, fun j hj => by omega⟩ (Nat.zero_le _) (by omega) ?_ ?_
    · rintro i s - hi ⟨s1, s2⟩
      show zOk (q_Mapper_mapAll_73 E (kL c) k (g : Int) (m : Int) (i : Int) s) _
      have bi := hb i (by rw [hP]; exact hi)
      unfold q_Mapper_mapAll_73
      rw [zShl_1 hm, if_neg (by omega), if_pos (by omega), ok_l, show 42 + 0 = 42 from rfl, hv' s (fun j => by rw [s1.2 18 j (by omega), t1.2 18 j (by omega)]) (fun j => by rw [s1.2 19 j (by omega), t1.2 19 j (by omega)]) i, hv i (by omega), b1_s, kL_42, if_pos (by omega), ok_l, ok_l, gtN, zByte_b, zByte_s _ (by unfold b01 at bi; omega)]
      refine ok_inl (Or.inl ⟨_, by rw [show ((i + 1 : Nat) : Int) = (i : Int) + 1 by omega], off_t s1 (off_put rfl), fun j hj => ?_⟩)
      rw [zp1, if_pos rfl]
      by_cases y : j = i
      · rw [if_pos y, y]
      · rw [if_neg y]; exact s2 j (by omega)
    · rintro s ⟨s1, s2⟩
      show zOk (q_Mapper_mapAll_73 E (kL c) k (g : Int) (m : Int) ((2 ^ m : Nat) : Int) s) _
      unfold q_Mapper_mapAll_73
      rw [zShl_1 hm, if_pos (by omega)]
      exact ok_inr ⟨s, rfl, s1, s2⟩
  refine ⟨s, off_t (off_w t1 fun k j x => Or.inr x) (off_w s1 fun k j x => Or.inl x), ⟨fun n hn => ?_, fun j hj => ?_⟩, t, ht, hs⟩
  · rw [hP] at hn; exact s2 n hn
  · rw [hP] at hj
    rw [s1.2 _ _ (by omega)]; exact t2 j hj
theorem value_c {g : Nat} {s a : gZ} (h18 : ∀ j, s.1 18 j = a.1 18 j) (h19 : ∀ j, s.1 19 j = a.1 19 j) (n : Nat) : q_Gates_valueAt E (kL c) (g : Int) (n : Int) s = q_Gates_valueAt E (kL c) (g : Int) (n : Int) a := by
  have e1 : s.1 18 = a.1 18 := funext h18
  have e2 : s.1 19 = a.1 19 := funext h19
  unfold q_Gates_valueAt
  rw [e1, e2]
/-- the source of a name, in the reference -/
theorem s_source {v : Nat} {b : gZ} (hv : v < 150) (h2 : b.1 101 v = 2 → -2147483648 ≤ 200 + b.1 102 v ∧ 200 + b.1 102 v < 2147483648) : q_Model_source E (kL c) (v : Int) b = some (srcF b v) := by
  unfold q_Model_source srcF
  rw [kL_101, if_pos (by omega), gtN, kL_102, kL_119]
  by_cases y : b.1 101 v = 1
  · rw [if_pos y, if_pos y, if_pos (by omega)]
  · rw [if_neg y, if_neg y]
    by_cases u : b.1 101 v = 2
    · rw [if_pos u, if_pos u, if_pos (by omega), if_pos (h2 u)]
    · rw [if_neg u, if_neg u, if_pos (by omega)]
/-- the reference maps gate g -/
theorem s_mapG {g m : Nat} {P : Pc} {U : Ut} {b : gZ} (hg : g < 150) (hm : m ≤ 8) (hP : P.2.2 = m) (h110 : b.1 110 g = m) (hs : ∀ (i : Nat) (s : gZ), i < m → zOff (fun k j => k = 120 ∨ k = 121) b s → 0 ≤ b.1 111 (8 * g + i) ∧ q_Model_source E (kL c) (b.1 111 (8 * g + i)) s = some (P.2.1 i)) (ht : ∀ n, n < 256 → b.1 114 (256 * g + n) = P.1 n ∧ b01 (P.1 n)) (hU : UM U b) (hu : U.2.2 + 32 ≤ 5000) : ∃ b', q_Model_map E (kL c) (g : Int) b = some ((mp 4 P U).1, b') ∧ UM (mp 4 P U).2 b' ∧ zOff pBg b b' := by
  have pw := pw_le hm
  unfold q_Model_map
  obtain ⟨s, h1, s1, s2⟩ : zOk (gIter (fun y => q_Model_map_2 E (kL c) (g : Int) y.1 y.2) gN (0, b)) (fun s => zOff (fun k j => k = 120) b s ∧ ∀ n, n < 256 → s.1 120 n = P.1 n) := by
    refine it_for (fun (i : Nat) (t : gZ) => ((i : Int), t)) (fun i t => zOff (fun k j => k = 120) b t ∧ ∀ j, j < i → t.1 120 j = P.1 j) 0 256 rfl ⟨off_r, fun j hj => by omega⟩ (by omega) (by omega) ?_ ?_
    · rintro i t - hi ⟨t1, t2⟩
      show zOk (q_Model_map_2 E (kL c) (g : Int) (i : Int) t) _
      obtain ⟨q1, q2⟩ := ht i hi
      unfold q_Model_map_2
      rw [if_neg (by omega), kL_114, show (256 * (g : Int) + (i : Int)) = ((256 * g + i : Nat) : Int) by omega, if_pos (by omega), kL_120, if_pos (by omega), ok_l, ok_l, gtN, gtN, t1.2 114 _ (by omega), q1, zBool_n _ q2]
      refine ok_inl (Or.inl ⟨_, by rw [show ((i + 1 : Nat) : Int) = (i : Int) + 1 by omega], off_t t1 (off_put rfl), fun j hj => ?_⟩)
      rw [zp1, if_pos rfl]
      by_cases y : j = i
      · rw [if_pos y, y]
      · rw [if_neg y]; exact t2 j (by omega)
    · rintro t ⟨t1, t2⟩
      show zOk (q_Model_map_2 E (kL c) (g : Int) ((256 : Nat) : Int) t) _
      unfold q_Model_map_2
      rw [if_pos (by omega)]
      exact ok_inr ⟨t, rfl, t1, t2⟩
  have s1 : zOff (fun k j => k = 120) b s := s1
  obtain ⟨u, h2, u1, u2⟩ : zOk (gIter (fun y => q_Model_map_35 E (kL c) (g : Int) y.1 y.2) gN (0, s)) (fun u => zOff (fun k j => k = 121) s u ∧ ∀ i, i < m → u.1 121 i = P.2.1 i) := by
    refine it_for (fun (i : Nat) (t : gZ) => ((i : Int), t)) (fun i t => zOff (fun k j => k = 121) s t ∧ ∀ j, j < i → t.1 121 j = P.2.1 j) 0 m rfl ⟨off_r, fun j hj => by omega⟩ (by omega) (by omega) ?_ ?_
    · rintro i t - hi ⟨t1, t2⟩
      show zOk (q_Model_map_35 E (kL c) (g : Int) (i : Int) t) _
      obtain ⟨q1, q2⟩ := hs i t hi (off_t (off_w s1 fun k j x => Or.inl x) (off_w t1 fun k j x => Or.inr x))
      unfold q_Model_map_35
      rw [kL_110, if_pos (by omega), gtN, t1.2 110 g (by omega), s1.2 110 g (by omega), h110, if_neg (by omega), kL_111, show (8 * (g : Int) + (i : Int)) = ((8 * g + i : Nat) : Int) by omega, if_pos (by omega), gtN, t1.2 111 _ (by omega), s1.2 111 _ (by omega), q2, b1_s, kL_121, if_pos (by omega), ok_l, ok_l, gtN]
      refine ok_inl (Or.inl ⟨_, by rw [show ((i + 1 : Nat) : Int) = (i : Int) + 1 by omega], off_t t1 (off_put rfl), fun j hj => ?_⟩)
      rw [zp1, if_pos rfl]
      by_cases y : j = i
      · rw [if_pos y, y]
      · rw [if_neg y]; exact t2 j (by omega)
    · rintro t ⟨t1, t2⟩
      show zOk (q_Model_map_35 E (kL c) (g : Int) (m : Int) t) _
      unfold q_Model_map_35
      rw [kL_110, if_pos (by omega), gtN, t1.2 110 g (by omega), s1.2 110 g (by omega), h110, if_pos (by omega)]
      exact ok_inr ⟨t, rfl, t1, t2⟩
  have u1 : zOff (fun k j => k = 121) s u := u1
  have ou : zOff (fun k j => k = 120 ∨ k = 121) b u := off_t (off_w s1 fun k j x => Or.inl x) (off_w u1 fun k j x => Or.inr x)
  rw [h1, b1_s, h2, b1_s, kL_110, if_pos (by omega), kL_122, if_pos (by omega), let_s, kL_123, if_pos (by omega), let_s, gtN, ou.2 110 g (by omega), h110]
  generalize hw : zPut (zPut u 122 0 (m : Int)) 123 0 0 = w
  have ow : zOff (fun k j => k = 120 ∨ k = 121 ∨ k = 122 ∨ k = 123) b w := by
    rw [← hw]
    exact off_t (off_w ou fun k j x => by omega) (off_t (off_put (by omega)) (off_put (by omega)))
  have Pw : PcM 0 P w := by
    refine ⟨fun n hn => ?_, fun j hj => ?_, ?_⟩
    · rw [hP] at hn
      rw [show 256 * 0 + n = n by omega, ← hw, zp_n (by omega), zp_n (by omega), u1.2 120 n (by omega)]; exact s2 n (by omega)
    · rw [hP] at hj
      rw [show 8 * 0 + j = j by omega, ← hw, zp_n (by omega), zp_n (by omega)]; exact u2 j hj
    · rw [hP, ← hw, zp_n (by omega), zp_eq]
  have w123 : w.1 123 0 = 0 := by rw [← hw, zp_eq]
  have Uw : UM U w := UM_o hU ow fun k j x => by omega
  obtain ⟨k, b', k1, r, U', o'⟩ := s_mapM (E := E) (c := c) 4 0 P U (-1) w rfl (by omega) Pw w123 (fun n hn => (ht n (by rw [hP] at hn; omega)).2) Uw (by omega)
  have F : gIter (fun y => q_Model_map_95 E (kL c) y.1 y.2.1 y.2.2) gN (0, (-1), w) = some ((mp 4 P U).1, b') := by
    have e : gN = (gN - k - 1 + 1) + k := by
      have : (4 : Nat) * 2 ^ 4 = 64 := by decide
      unfold gN; omega
    rw [e]
    have := r (gN - k - 1 + 1)
    rw [show ((0 : Nat) : Int) = 0 from rfl] at this
    rw [this]
    refine it_end ?_
    show q_Model_map_95 E (kL c) (0 - 1) (mp 4 P U).1 b' = _
    unfold q_Model_map_95
    rw [if_pos (by decide)]
  rw [F, b1_s]
  refine ⟨b', rfl, U', off_t (off_w ow fun k j x => by unfold pBg; omega) (off_w o' fun k j x => by unfold pRq pUm at x; unfold pBg; omega)⟩
end
end
