set_option linter.unusedVariables false
-- LS
section
variable {E : gEv} {c : gCf}
theorem nb_msk {T : Nat → Int} {m : Nat} (hm : m ≤ 16) (h : ∀ i, i < m → b01 (T i)) : nb T 0 m = ((mskT T 0 1 m : Nat) : Int) := by
  obtain ⟨v, v1, v2, v3⟩ := nb_n (b := T) (a := 0) hm fun i hi => by rw [Nat.zero_add]; exact h i hi
  rw [v2]
  have : v = mskT T 0 1 m := by
    refine Nat.eq_of_testBit_eq fun j => ?_
    rw [msk_t]
    by_cases hj : j < m
    · have g := v3 j hj
      cases e : v.testBit j with
      | true => exact (decide_eq_true ⟨hj, g.1 e⟩).symm
      | false => exact (decide_eq_false fun w => by rw [g.2 w.2] at e; cases e).symm
    · have : v < 2 ^ j := Nat.lt_of_lt_of_le v1 (Nat.pow_le_pow_right (by omega) (by omega))
      rw [Nat.testBit_lt_two_pow this]
      exact (decide_eq_false fun w => hj w.1).symm
  rw [this]
def rCb (k : Nat) : Prop := k = 101 ∨ k = 102 ∨ k = 105 ∨ k = 106 ∨ (110 ≤ k ∧ k ≤ 119)
section
variable {nm nI nO nL nG : Nat} {U : Ut} {a b a1 b1 z : gZ} {cb : Int}
theorem MS_ok (R : RN c nm nI nO nL nG a b) (N : NBr nG nG a b) (M : MS c nm nI nL nG U a b a1 b1) (hb : ∀ k, rCb k → z.1 k = b1.1 k) {v : Nat} (hv : v < nm) : okV U.2.2 nL nI nG z v := by
  obtain ⟨oa, ob, uc, um, wf, ub, mk, md, sem⟩ := M
  have nb := R.nb
  have e : ∀ k j, ¬ pBm k j → b1.1 k j = b.1 k j := fun k j x => ob.2 k j x
  refine ⟨by omega, ?_⟩
  rw [hb 101 (by unfold rCb; omega), hb 102 (by unfold rCb; omega), hb 119 (by unfold rCb; omega), hb 112 (by unfold rCb; omega), e 101 v (by unfold pBm; omega), e 102 v (by unfold pBm; omega)]
  rcases R.mak v hv with ⟨j, y0, y1, y2, y3⟩ | ⟨j, y0, y1, y2, y3⟩ | ⟨j, y0, y1, y2, y3, y4⟩
  · exact Or.inl ⟨y2, by omega, by omega⟩
  · exact Or.inr (Or.inl ⟨y2, by omega, by omega⟩)
  · obtain ⟨q1, q2, q3⟩ := md v hv y2 (NB_3 R N hv y2)
    exact Or.inr (Or.inr ⟨y2, q2, by omega, j, y0, y3, by rw [e 112 j (by unfold pBm; omega)]; exact y4⟩)
theorem CR_of (hk : kOk c) (R : RN c nm nI nO nL nG a b) (N : NBr nG nG a b) (M : MS c nm nI nL nG U a b a1 b1) (hU : U.2.2 ≤ kP c) (hb : ∀ k, rCb k → z.1 k = b1.1 k) (h46 : z.1 94 46 = (U.2.2 : Nat)) (h31 : z.1 94 31 = nL) (h29 : z.1 94 29 = nI) (h32 : z.1 94 32 = nG) (h160 : ∀ i, i < nI → z.1 160 i = 0) (h161 : ∀ j, j < nL → b01 (z.1 161 j)) : CR c U.2.2 nL nI nG z := by
  have M0 := M
  obtain ⟨oa, ob, uc, um, wf, ub, mk, md, sem⟩ := M
  have g150 := RN_150 R
  have nb := R.nb
  have hD := kD_b hk
  have io := R.io
  have ct := R.cnt
  have e : ∀ k j, ¬ pBm k j → b1.1 k j = b.1 k j := fun k j x => ob.2 k j x
  have z117 : ∀ j, j < 4 * U.2.2 → z.1 117 j = U.1 j := fun j hj => by rw [hb 117 (by unfold rCb; omega)]; exact um.2.1 j hj
  have z118 : ∀ l, l < U.2.2 → z.1 118 l = U.2.1 l := fun j hj => by rw [hb 118 (by unfold rCb; omega)]; exact um.2.2 j hj
  have z115 : ∀ k, z.1 115 k = b.1 115 k := fun k => by rw [hb 115 (by unfold rCb; omega)]; exact e 115 k (by unfold pBm; omega)
  have z110 : ∀ k, z.1 110 k = b.1 110 k := fun k => by rw [hb 110 (by unfold rCb; omega)]; exact e 110 k (by unfold pBm; omega)
  have z111 : ∀ k, z.1 111 k = b.1 111 k := fun k => by rw [hb 111 (by unfold rCb; omega)]; exact e 111 k (by unfold pBm; omega)
  have z112 : ∀ k, z.1 112 k = b.1 112 k := fun k => by rw [hb 112 (by unfold rCb; omega)]; exact e 112 k (by unfold pBm; omega)
  have z114 : ∀ k, z.1 114 k = b.1 114 k := fun k => by rw [hb 114 (by unfold rCb; omega)]; exact e 114 k (by unfold pBm; omega)
  have z101 : ∀ k, z.1 101 k = b.1 101 k := fun k => by rw [hb 101 (by unfold rCb; omega)]; exact e 101 k (by unfold pBm; omega)
  have z102 : ∀ k, z.1 102 k = b.1 102 k := fun k => by rw [hb 102 (by unfold rCb; omega)]; exact e 102 k (by unfold pBm; omega)
  have zsrc : ∀ v, srcF z v = srcF b1 v := fun v => srcF_c (by rw [hb 101 (by unfold rCb; omega)]) (by rw [hb 102 (by unfold rCb; omega)]) (by rw [hb 119 (by unfold rCb; omega)])
  have pin : pinO nI nL U.2.2 (z.1 117) := fun l p hl hp => by rw [z117 _ (by omega)]; exact wf l p hl hp
  refine ⟨h46, h31, h29, h32, hU, by omega, by omega, g150, pin, fun i hi => Or.inl (h160 i hi), h161, fun k hk' => ?_, fun f hf n hn => ?_, fun f hf => ?_, fun x y hx hy f hf => ?_⟩
  · obtain ⟨f, f1, f2, f3, f4, f5⟩ := N.2.1 k hk'
    obtain ⟨m, v, m1, v1, -, -, m2, -, -, -, -, m3⟩ := R.gat f f1
    refine ⟨f, m, f1, m1, by rw [z115]; exact f3, by rw [z110]; exact m2, fun i hi => ?_⟩
    obtain ⟨w, w1, w2, w3⟩ := m3 i hi
    refine ⟨w, by rw [z111]; exact w3, MS_ok R N M0 hb w1, fun h3 => ?_⟩
    rw [z101] at h3
    obtain ⟨k', k1, k2⟩ := f5 i w (by rw [m2]; omega) w3 h3
    exact ⟨k', k1, by rw [z115, z102]; exact k2⟩
  · rw [z114, R.val f hf n hn]
    by_cases x1 : a.1 18 f = 0
    · rw [if_pos x1]
      cases zBit (a.1 19 (8 * f + n / 32)) (n % 32)
      · exact Or.inr rfl
      · exact Or.inl rfl
    · rw [if_neg x1]
      cases zBit (a.1 19 (8 * f + n / 32)) (n % 32)
      · exact Or.inl rfl
      · exact Or.inr rfl
  · obtain ⟨k, k1, k2⟩ := NB_all N hf
    exact ⟨k, k1, by rw [z115]; exact k2⟩
  · obtain ⟨k, k1, k2⟩ := NB_all N hf
    obtain ⟨m, v, m1, v1, -, -, m2, -, v2, v3, v4, m3⟩ := R.gat f hf
    have s := sem k k1 f k2 x y hx hy
    have ev : ∀ l, l < U.2.2 → evT (z.1 117) (z.1 118) x y U.2.2 l = evU x y U l := evT_c (by omega) (by omega) (fun i _ => rfl) (fun i _ => rfl) pin (fun j hj => z117 j (by omega)) z118
    have lt : lutF z f = lutF b1 f := by
      unfold lutF
      rw [hb 119 (by unfold rCb; omega), hb 112 (by unfold rCb; omega)]
    have ll : lutF b1 f < U.2.2 := by
      obtain ⟨q1, q2, q3⟩ := md v v1 v3 (NB_3 R N v1 v3)
      unfold lutF
      rw [e 112 f (by unfold pBm; omega), v2, gtN]
      omega
    have ad : adrF z x y (evT (z.1 117) (z.1 118) x y U.2.2) f (z.1 110 f).toNat = ((adr (lev x y (evU x y U)) (PcG b1 f) : Nat) : Int) := by
      have ms : ∀ i, i < m → srcO nI nL U.2.2 (srcF z (z.1 111 (8 * f + i)).toNat) := fun i hi => by
        obtain ⟨w, w1, w2, w3⟩ := m3 i hi
        rw [z111, w3, gtN, zsrc]
        exact (MS_src R M0 w1 fun h3 => NB_3 R N w1 h3).2
      unfold adrF
      rw [z110, m2, gtN, nb_c (b' := fun i => lev x y (evU x y U) (srcF b1 (b1.1 111 (8 * f + i)).toNat)) fun i hi => ?_, nb_msk (by omega) fun i hi => ?_]
      · unfold adr PcG
        rw [e 110 f (by unfold pBm; omega), m2, gtN]
      · have := ms i hi
        rw [zsrc, hb 111 (by unfold rCb; omega)] at this
        exact lev_b (v := evU x y U) (by omega) (by omega) hx hy (fun l _ => evT_b _ _) (Or.inr this)
      · show lev x y (evT (z.1 117) (z.1 118) x y U.2.2) (srcF z (z.1 111 (8 * f + (0 + i))).toNat) = lev x y (evU x y U) (srcF b1 (b1.1 111 (8 * f + (0 + i))).toNat)
        rw [Nat.zero_add]
        rw [lev_c (by omega) (by omega) (fun i _ => rfl) (fun i _ => rfl) ev (Or.inr (ms i hi)), zsrc, hb 111 (by unfold rCb; omega)]
    rw [lt, ev _ ll, s, ad, z114, gtN]
theorem CJ_of (hk : kOk c) (R : RN c nm nI nO nL nG a b) (N : NBr nG nG a b) (M : MS c nm nI nL nG U a b a1 b1) (hU : U.2.2 ≤ kP c) (hb : ∀ k, rCb k → z.1 k = b1.1 k) (h46 : z.1 94 46 = (U.2.2 : Nat)) (h31 : z.1 94 31 = nL) (h29 : z.1 94 29 = nI) (h30 : z.1 94 30 = nO) (h32 : z.1 94 32 = nG) (h160 : ∀ i, i < nI → z.1 160 i = 0) (h161 : ∀ j, j < nL → z.1 161 j = z.1 33 j) (hC : PkC c U.2.2 nL nI nO U.1 (lO b b1) (oO b b1) z) (h36 : ∀ l, l < U.2.2 → z.1 36 l = U.2.1 l) (h33 : b1s (z.1 33) nL) (h38 : ∀ i, i < nI → z.1 38 i = 0) (h14 : z.1 30 14 = 0) (h15 : z.1 30 15 = 0) (h105 : z.1 94 105 = 0) (hcb : 0 ≤ cb) : CJ c cb U.2.2 nL nI nO nG z := by
  have cr := CR_of hk R N M hU hb h46 h31 h29 h32 h160 fun j hj => by rw [h161 j hj]; exact h33 j hj
  obtain ⟨c1, ⟨c2, c3, c4, c5⟩, c6, c7, c8⟩ := hC
  have io := R.io
  have ct := R.cnt
  have um := M.2.2.2.1
  have wf := M.2.2.2.2.1
  have ob := M.2.1
  have zsrc : ∀ v, srcF z v = srcF b1 v := fun v => srcF_c (by rw [hb 101 (by unfold rCb; omega)]) (by rw [hb 102 (by unfold rCb; omega)]) (by rw [hb 119 (by unfold rCb; omega)])
  refine ⟨⟨c2, c3, c4, hU, by omega, by omega, fun l p hl hp => by rw [c6 _ (by omega)]; exact wf l p hl hp, fun i hi => Or.inl (h38 i hi), h33⟩, cr, Or.inl h15, fun j hj => ?_, fun l hl => ?_, fun i hi => by rw [h38 i hi, h160 i hi], fun j hj => (h161 j hj).symm, fun j hj => ?_, c5, h30, by omega, fun j hj => ?_, ⟨by rw [h14, h105], by omega, by omega⟩⟩
  · rw [c6 j (by omega), hb 117 (by unfold rCb; omega)]; exact (um.2.1 j (by omega)).symm
  · rw [h36 l hl, hb 118 (by unfold rCb; omega)]; exact (um.2.2 l hl).symm
  · obtain ⟨v, v1, v2, v3, v4⟩ := R.lat j hj
    refine ⟨v, by rw [hb 106 (by unfold rCb; omega), ob.2 106 j (by unfold pBm; omega)]; exact v3, MS_ok R N M hb v1, ?_⟩
    rw [c7 j hj, zsrc]; unfold lO; rw [v3]; rfl
  · obtain ⟨v, v1, v2, v3⟩ := R.out j hj
    refine ⟨v, by rw [hb 105 (by unfold rCb; omega), ob.2 105 j (by unfold pBm; omega)]; exact v3, MS_ok R N M hb v1, ?_⟩
    rw [c8 j hj, zsrc]; unfold oO; rw [v3]; rfl
end
end
