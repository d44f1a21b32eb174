set_option linter.unusedVariables false
-- LQ
section
variable {E : gEv} {c : gCf}
def pTk (k j : Nat) : Prop := (k = 30 ∧ 11 ≤ j ∧ j ≤ 13) ∨ k = 31 ∨ k = 32 ∨ k = 33 ∨ k = 39
def lO (b b1 : gZ) : Nat → Int := fun j => srcF b1 (b.1 106 j).toNat
def oO (b b1 : gZ) : Nat → Int := fun j => srcF b1 (b.1 105 j).toNat
section
variable {nm nI nO nL nG : Nat} {U : Ut} {a b a1 b1 : gZ}
theorem NB_all (N : NBr nG nG a b) {g : Nat} (hg : g < nG) : ∃ k, k < nG ∧ b.1 115 k = g := by
  obtain ⟨n1, n2, n3, n4⟩ := N
  rcases n1 g hg with ⟨x1, x2⟩ | ⟨x1, x2, x3⟩
  · have := cnb_lt (p := fun g => decide (b.1 116 g = 1)) hg (decide_eq_false (by omega))
    omega
  · exact x3
theorem NB_3 (R : RN c nm nI nO nL nG a b) (N : NBr nG nG a b) {v : Nat} (hv : v < nm) (h3 : b.1 101 v = 3) : ∃ k', k' < nG ∧ b.1 115 k' = b.1 102 v := by
  rcases R.mak v hv with ⟨j, y0, y1, y2, y3⟩ | ⟨j, y0, y1, y2, y3⟩ | ⟨j, y0, y1, y2, y3, -⟩
  · omega
  · omega
  · rw [y3]; exact NB_all N y0
theorem pin_ok (h : wfU nI nL U) {j : Nat} (hj : j < 4 * U.2.2) : okS nI nL U.2.2 (U.1 j) := by
  have := h (j / 4) (j % 4) (by omega) (by omega)
  rw [show j / 4 * 4 + j % 4 = j by omega] at this
  unfold okS srcO at this ⊢
  omega
theorem MS_PkM (hk : kOk c) (R : RN c nm nI nO nL nG a b) (N : NBr nG nG a b) (M : MS c nm nI nL nG U a b a1 b1) : PkM U.2.2 nL nI nO U.1 (lO b b1) (oO b b1) b1 := by
  have M0 := M
  obtain ⟨oa, ob, uc, um, wf, ub, mk, md, sem⟩ := M
  have g150 := RN_150 R
  have nb := R.nb
  have hD := kD_b hk
  have io := R.io
  have ct := R.cnt
  have e : ∀ k j, ¬ pBm k j → b1.1 k j = b.1 k j := fun k j x => ob.2 k j x
  refine ⟨⟨by omega, by omega, by omega⟩, ⟨um.1, by rw [e 94 31 (by unfold pBm; omega)]; exact R.bl, by rw [e 94 29 (by unfold pBm; omega)]; exact R.bi, by rw [e 94 30 (by unfold pBm; omega)]; exact R.bo⟩, fun j hj => ⟨um.2.1 j hj, pin_ok wf hj⟩, fun j hj => ?_, fun i hi => ?_⟩
  · obtain ⟨v, v1, v2, v3, v4⟩ := R.lat j hj
    have s := MS_src R M0 v1 fun h3 => NB_3 R N v1 h3
    have l1 : lO b b1 j = srcF b1 v := by unfold lO; rw [v3]; rfl
    rw [l1]
    exact ⟨s.2, v, by rw [e 106 j (by unfold pBm; omega)]; exact v3, by omega, rfl⟩
  · obtain ⟨v, v1, v2, v3⟩ := R.out i hi
    have s := MS_src R M0 v1 fun h3 => NB_3 R N v1 h3
    have l1 : oO b b1 i = srcF b1 v := by unfold oO; rw [v3]; rfl
    rw [l1]
    exact ⟨s.2, v, by rw [e 105 i (by unfold pBm; omega)]; exact v3, by omega, rfl⟩
theorem s_take (hk : kOk c) (R : RN c nm nI nO nL nG a b) (N : NBr nG nG a b) (M : MS c nm nI nL nG U a b a1 b1) (hU : U.2.2 ≤ kP c) : zOk (q_Circuit_take E (kL c) a1) (fun s => zOff pTk a1 s ∧ PkC c U.2.2 nL nI nO U.1 (lO b b1) (oO b b1) s ∧ ∀ j, j < nL → s.1 32 j = b.1 108 j ∧ s.1 33 j = b.1 108 j ∧ b01 (s.1 32 j)) := by
  have M0 := M
  obtain ⟨oa, ob, uc, um, wf, ub, mk, md, sem⟩ := M
  have g150 := RN_150 R
  have nb := R.nb
  have hD := kD_b hk
  have hPb := kP_b hk
  have io := R.io
  have ct := R.cnt
  have e : ∀ k j, ¬ pCm k j → a1.1 k j = a.1 k j := fun k j x => oa.2 k j x
  have e11 : a1.1 22 11 = nI := by rw [e 22 11 (by unfold pCm pU; omega)]; exact R.ai
  have e12 : a1.1 22 12 = nO := by rw [e 22 12 (by unfold pCm pU; omega)]; exact R.ao
  have e13 : a1.1 22 13 = nL := by rw [e 22 13 (by unfold pCm pU; omega)]; exact R.al
  unfold q_Circuit_take
  rw [ok_l, ok_l, ok_l, e11, zp_n (k' := 22) (j' := 12) (by omega), e12]
  rw [zp_n (k' := 22) (j' := 13) (by omega), zp_n (k' := 22) (j' := 13) (by omega), e13]
  generalize ha2 : zPut (zPut (zPut a1 30 12 (nI : Int)) 30 13 (nO : Int)) 30 11 (nL : Int) = a2
  have o2 : zOff (fun k j => k = 30 ∧ 11 ≤ j ∧ j ≤ 13) a1 a2 := by
    rw [← ha2]
    exact off_t (off_put ⟨rfl, by omega, by omega⟩) (off_t (off_put ⟨rfl, by omega, by omega⟩) (off_put ⟨rfl, by omega, by omega⟩))
  have x12 : a2.1 30 12 = nI := by rw [← ha2, zp_n (by omega), zp_n (by omega), zp_eq]
  have x13 : a2.1 30 13 = nO := by rw [← ha2, zp_n (by omega), zp_eq]
  have x11 : a2.1 30 11 = nL := by rw [← ha2, zp_eq]
  have L1 : zOk (gIter (fun y => q_Circuit_take_26 E (kL c) y.1 y.2) gN (0, a2)) (fun s => zOff (fun k j => k = 39) a2 s ∧ ∀ i, i < nO → s.1 39 i = oO b b1 i) := by
    refine it_for (fun (i : Nat) (t : gZ) => ((i : Int), t)) (fun i t => zOff (fun k j => k = 39) a2 t ∧ ∀ n, n < i → t.1 39 n = oO b b1 n) 0 nO rfl ⟨off_r, fun e he => by omega⟩ (by omega) (by omega) ?_ ?_
    · rintro i t - hi ⟨t1, t2⟩
      obtain ⟨v, v1, v2, v3⟩ := R.out i hi
      have s := MS_src R M0 v1 fun h3 => NB_3 R N v1 h3
      have l1 : oO b b1 i = srcF b1 v := by unfold oO; rw [v3]; rfl
      have w1 : t.1 29 i = v := by rw [t1.2 29 i (by omega), o2.2 29 i (by omega), e 29 i (by unfold pCm pU; omega)]; exact v2
      have w2 : t.1 25 v = oO b b1 i := by rw [t1.2 25 v (by omega), o2.2 25 v (by omega), l1]; exact s.1
      show zOk (q_Circuit_take_26 E (kL c) (i : Int) t) _
      unfold q_Circuit_take_26
      rw [t1.2 30 13 (by omega), x13, if_neg (by omega), kL_29, if_pos (by omega), gtN, w1, kL_25, if_pos (by omega), kL_39, if_pos (by omega), ok_l, ok_l, gtN, w2]
      refine ok_inl (Or.inl ⟨_, by rw [show ((i + 1 : Nat) : Int) = (i : Int) + 1 by omega], off_t t1 (off_put rfl), fun n hn => ?_⟩)
      rw [zp1, if_pos rfl]
      by_cases y : n = i
      · rw [if_pos y, y]
      · rw [if_neg y]; exact t2 n (by omega)
    · rintro t ht
      show zOk (q_Circuit_take_26 E (kL c) (nO : Int) t) _
      unfold q_Circuit_take_26
      rw [ht.1.2 30 13 (by omega), x13, if_pos (by omega)]
      exact ok_inr ⟨t, rfl, ht⟩
  obtain ⟨a3, p3, o3, z3⟩ := L1
  rw [p3, b1_s]
  have L2 : zOk (gIter (fun y => q_Circuit_take_59 E (kL c) y.1 y.2) gN (0, a3)) (fun s => zOff (fun k j => k = 31 ∨ k = 32 ∨ k = 33) a3 s ∧ ∀ j, j < nL → s.1 31 j = lO b b1 j ∧ s.1 32 j = b.1 108 j ∧ s.1 33 j = b.1 108 j ∧ b01 (s.1 32 j)) := by
    refine it_for (fun (i : Nat) (t : gZ) => ((i : Int), t)) (fun i t => zOff (fun k j => k = 31 ∨ k = 32 ∨ k = 33) a3 t ∧ ∀ j, j < i → t.1 31 j = lO b b1 j ∧ t.1 32 j = b.1 108 j ∧ t.1 33 j = b.1 108 j ∧ b01 (t.1 32 j)) 0 nL rfl ⟨off_r, fun e he => by omega⟩ (by omega) (by omega) ?_ ?_
    · rintro i t - hi ⟨t1, t2⟩
      obtain ⟨v, v1, v2, v3, v4, v5⟩ := R.lat i hi
      have s := MS_src R M0 v1 fun h3 => NB_3 R N v1 h3
      have l1 : lO b b1 i = srcF b1 v := by unfold lO; rw [v3]; rfl
      have w1 : t.1 26 i = v := by rw [t1.2 26 i (by omega), o3.2 26 i (by omega), o2.2 26 i (by omega), e 26 i (by unfold pCm pU; omega)]; exact v2
      have w2 : t.1 25 v = lO b b1 i := by rw [t1.2 25 v (by omega), o3.2 25 v (by omega), o2.2 25 v (by omega), l1]; exact s.1
      have w3 : t.1 27 i = b.1 108 i := by rw [t1.2 27 i (by omega), o3.2 27 i (by omega), o2.2 27 i (by omega), e 27 i (by unfold pCm pU; omega)]; exact v4
      rw [v4] at v5
      show zOk (q_Circuit_take_59 E (kL c) (i : Int) t) _
      unfold q_Circuit_take_59
      rw [t1.2 30 11 (by omega), o3.2 30 11 (by omega), x11, if_neg (by omega), kL_26, if_pos (by omega), gtN, w1, kL_25, if_pos (by omega), kL_31, if_pos (by omega), ok_l, kL_27, if_pos (by omega), kL_32, if_pos (by omega), ok_l, kL_33, if_pos (by omega), ok_l, ok_l, zp_eq, gtN, w2, zp_n (k' := 27) (by omega), w3]
      refine ok_inl (Or.inl ⟨_, by rw [show ((i + 1 : Nat) : Int) = (i : Int) + 1 by omega], off_t t1 (off_t (off_put (Or.inl rfl)) (off_t (off_put (Or.inr (Or.inl rfl))) (off_put (Or.inr (Or.inr rfl))))), fun n hn => ?_⟩)
      have r1 : (zPut (zPut (zPut t 31 i (lO b b1 i)) 32 i (b.1 108 i)) 33 i (b.1 108 i)).1 31 n = if n = i then lO b b1 i else t.1 31 n := by rw [zp_n (by omega), zp_n (by omega), zp1, if_pos rfl]
      have r2 : (zPut (zPut (zPut t 31 i (lO b b1 i)) 32 i (b.1 108 i)) 33 i (b.1 108 i)).1 32 n = if n = i then b.1 108 i else t.1 32 n := by
        rw [zp_n (by omega), zp1, if_pos rfl, zp_n (by omega)]
      have r3 : (zPut (zPut (zPut t 31 i (lO b b1 i)) 32 i (b.1 108 i)) 33 i (b.1 108 i)).1 33 n = if n = i then b.1 108 i else t.1 33 n := by
        rw [zp1, if_pos rfl, zp_n (by omega), zp_n (by omega)]
      rw [r1, r2, r3]
      by_cases y : n = i
      · rw [if_pos y, if_pos y, if_pos y, y]; exact ⟨rfl, rfl, rfl, v5⟩
      · rw [if_neg y, if_neg y, if_neg y]
        exact t2 n (by omega)
    · rintro t ht
      show zOk (q_Circuit_take_59 E (kL c) (nL : Int) t) _
      unfold q_Circuit_take_59
      rw [ht.1.2 30 11 (by omega), o3.2 30 11 (by omega), x11, if_pos (by omega)]
      exact ok_inr ⟨t, rfl, ht⟩
  obtain ⟨a4, p4, o4, z4⟩ := L2
  rw [p4, b1_s]
  have f : ∀ k j, ¬ (k = 31 ∨ k = 32 ∨ k = 33) → k ≠ 39 → a4.1 k j = a2.1 k j := fun k j x y => by rw [o4.2 k j x, o3.2 k j y]
  refine ⟨_, rfl, off_t (off_w o2 fun k j x => by unfold pTk; omega) (off_t (off_w o3 fun k j x => by unfold pTk; omega) (off_w o4 fun k j x => by unfold pTk; omega)), ⟨hU, ⟨?_, by rw [f 30 11 (by omega) (by omega)]; exact x11, by rw [f 30 12 (by omega) (by omega)]; exact x12, by rw [f 30 13 (by omega) (by omega)]; exact x13⟩, fun j hj => ?_, fun j hj => (z4 j hj).1, fun i hi => ?_⟩, fun j hj => (z4 j hj).2⟩
  · rw [f 30 10 (by omega) (by omega), o2.2 30 10 (by omega)]; exact uc.1
  · rw [f 35 j (by omega) (by omega), o2.2 35 j (by omega)]; exact uc.2.2.1 j hj (by omega)
  · rw [o4.2 39 i (by omega)]; exact z3 i hi
end
end
