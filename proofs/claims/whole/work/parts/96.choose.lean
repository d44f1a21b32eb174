set_option linter.unusedVariables false
-- LK
section
variable {E : gEv} {c : gCf}
/-- the first of the best among those that are free -/
def bF (C : Nat → Int) (h : Nat → Nat) : Nat → Int × Int
  | 0 => (-1, -1)
  | e + 1 => if C e = -1 ∧ (bF C h e).2 < (h e : Int) then ((e : Int), (h e : Int)) else bF C h e
theorem bF_0 {C : Nat → Int} {h : Nat → Nat} : ∀ f, (∀ e, e < f → C e ≠ -1) → bF C h f = (-1, -1) := by
  intro f
  induction f with
  | zero => exact fun _ => rfl
  | succ f ih =>
    intro hf
    rw [bF, if_neg fun x => hf f (by omega) x.1]
    exact ih fun e he => hf e (by omega)
theorem bF_ok {C : Nat → Int} {h : Nat → Nat} : ∀ m, (bF C h m = (-1, -1) ∧ ∀ e, e < m → C e ≠ -1) ∨ ∃ e : Nat, e < m ∧ C e = -1 ∧ (bF C h m).1 = e ∧ 0 ≤ (bF C h m).2 := by
  intro m
  induction m with
  | zero => exact Or.inl ⟨rfl, fun e he => by omega⟩
  | succ m ih =>
    rw [bF]
    by_cases x : C m = -1 ∧ (bF C h m).2 < (h m : Int)
    · rw [if_pos x]
      exact Or.inr ⟨m, by omega, x.1, rfl, by show 0 ≤ (h m : Int); omega⟩
    · rw [if_neg x]
      rcases ih with ⟨u1, u2⟩ | ⟨e, e1, e2⟩
      · refine Or.inl ⟨u1, fun e he => ?_⟩
        by_cases y : e = m
        · rw [y]
          intro z
          refine x ⟨z, ?_⟩
          rw [u1]
          show (-1 : Int) < (h m : Int)
          omega
        · exact u2 e (by omega)
      · exact Or.inr ⟨e, by omega, e2⟩
theorem bF_f {C : Nat → Int} {f : Nat} (hf : ∀ e, e < f → C e ≠ -1) (h0 : C f = -1) : ∀ d, bF C (fun _ => 0) (f + 1 + d) = ((f : Int), 0) := by
  intro d
  induction d with
  | zero =>
    rw [Nat.add_zero, bF, bF_0 f hf, if_pos ⟨h0, by show (-1 : Int) < ((0 : Nat) : Int); omega⟩]
    rfl
  | succ d ih =>
    rw [← Nat.add_assoc, bF, ih, if_neg fun x => by have := x.2; show False; have h2 : (0 : Int) < ((0 : Nat) : Int) := this; omega]
theorem bF_c {C D : Nat → Int} {h k : Nat → Nat} : ∀ m, (∀ e, e < m → C e = D e ∧ h e = k e) → bF C h m = bF D k m := by
  intro m
  induction m with
  | zero => exact fun _ => rfl
  | succ m ih =>
    intro hh
    have e := hh m (by omega)
    rw [bF, bF, ih fun e he => hh e (by omega), e.1, e.2]
section
variable {nU nL nI nO : Nat} {P l o : Nat → Int} {a b : gZ} {q : Nat → Int}
theorem cmN_c {C D : Nat → Int} {g : Int} {e : Nat} (h : ∀ x, x < eCn P l o nU nL nO nL → C x = D x) : cmN P l o nU nL nO q C g e = cmN P l o nU nL nO q D g e := by
  unfold cmN
  refine cnb_c fun n hn => ?_
  have e1 : dcd (∃ x, x < eCn P l o nU nL nO nL ∧ C x = g ∧ TC P l o nU nL nO q x n) = dcd (∃ x, x < eCn P l o nU nL nO nL ∧ D x = g ∧ TC P l o nU nL nO q x n) := by
    by_cases y : ∃ x, x < eCn P l o nU nL nO nL ∧ C x = g ∧ TC P l o nU nL nO q x n
    · rw [dcd_t y, dcd_t (y.elim fun x w => ⟨x, w.1, by rw [← h x w.1]; exact w.2.1, w.2.2⟩)]
    · rw [dcd_f y, dcd_f fun ⟨x, w1, w2, w3⟩ => y ⟨x, w1, by rw [h x w1]; exact w2, w3⟩]
  show (dcd (TC P l o nU nL nO q e n) && dcd (∃ x, x < eCn P l o nU nL nO nL ∧ C x = g ∧ TC P l o nU nL nO q x n)) = (dcd (TC P l o nU nL nO q e n) && dcd (∃ x, x < eCn P l o nU nL nO nL ∧ D x = g ∧ TC P l o nU nL nO q x n))
  rw [e1]
theorem s_closest (hk : kOk c) (h : PkS c nU nL nI nO P l o) {f G : Nat} (hf : f ≤ eCn P l o nU nL nO nL) (hff : ∀ e, e < f → a.1 56 e ≠ -1) (h15 : a.1 53 15 = (eCn P l o nU nL nO nL : Nat)) (hT : TchI P l o nU nL nO q (5 * eCn P l o nU nL nO nL) (a.1 65)) (hM : mkC P l o nU nL nO q G a) (h16 : a.1 53 16 = (G : Int)) : q_Packing_closest E (kL c) (f : Int) a = some (bF (a.1 56) (cmN P l o nU nL nO q (a.1 56) ((G : Int) - 1)) (eCn P l o nU nL nO nL)).1 := by
  have hPb := kP_b hk
  have mb := h.2.2.2.2
  have F : gIter (fun y => q_Packing_closest_7 E (kL c) y.1 y.2.1 y.2.2 a) gN ((-1), (-1), (f : Int)) = some (bF (a.1 56) (cmN P l o nU nL nO q (a.1 56) ((G : Int) - 1)) (eCn P l o nU nL nO nL)).1 := by
    refine it_acc (fun (i : Nat) (v : Int × Int) => (v.1, v.2, (i : Int))) (fun i => bF (a.1 56) (cmN P l o nU nL nO q (a.1 56) ((G : Int) - 1)) i) f (eCn P l o nU nL nO nL) ?_ hf (by omega) (fun e _ he => ?_) ?_
    · rw [bF_0 f hff]
    · show q_Packing_closest_7 E (kL c) (bF (a.1 56) (cmN P l o nU nL nO q (a.1 56) ((G : Int) - 1)) e).1 (bF (a.1 56) (cmN P l o nU nL nO q (a.1 56) ((G : Int) - 1)) e).2 (e : Int) a = _
      unfold q_Packing_closest_7
      rw [h15, if_neg (by omega), kL_56, if_pos (by omega), gtN, bF]
      by_cases x : a.1 56 e = -1
      · rw [if_pos x, s_shared hk h he hT hM h16, b1_s]
        by_cases y : (bF (a.1 56) (cmN P l o nU nL nO q (a.1 56) ((G : Int) - 1)) e).2 < (cmN P l o nU nL nO q (a.1 56) ((G : Int) - 1) e : Int)
        · rw [if_neg (by omega), let_s, if_pos ⟨x, y⟩]; rfl
        · rw [if_pos (by omega), let_s, if_neg fun z => y z.2]; rfl
      · rw [if_neg x, let_s, if_neg fun z => x z.1]; rfl
    · show q_Packing_closest_7 E (kL c) _ _ ((eCn P l o nU nL nO nL : Nat) : Int) a = _
      unfold q_Packing_closest_7
      rw [h15, if_pos (by omega)]
  unfold q_Packing_closest
  rw [F, b1_s]
theorem s_bestM (hk : kOk c) (h : PkS c nU nL nI nO P l o) {g : Nat} {l1 : Int} {many : Nat} (h55 : b.1 94 55 = (eCn P l o nU nL nO nL : Nat)) (h60 : b.1 94 60 = (nK P l o nU nL nO (400 + nU) : Nat)) (h66 : b.1 94 66 = (g : Int)) (hT : ∀ e n, e < eCn P l o nU nL nO nL → n < nK P l o nU nL nO (400 + nU) → b01 (b.1 135 (400 * e + n)) ∧ (b.1 135 (400 * e + n) = 1 ↔ TC P l o nU nL nO q e n)) : gIter (fun y => q_Model_makeClusters_59 E (kL c) l1 (many : Int) y.1 y.2.1 y.2.2 b) gN ((-1), (-1), 0) = some (bF (b.1 133) (fun e => if many = 0 then 0 else cmN P l o nU nL nO q (b.1 133) (g : Int) e) (eCn P l o nU nL nO nL)).1 := by
  have hPb := kP_b hk
  have mb := h.2.2.2.2
  refine it_acc (fun (i : Nat) (v : Int × Int) => (v.1, v.2, (i : Int))) (fun i => bF (b.1 133) (fun e => if many = 0 then 0 else cmN P l o nU nL nO q (b.1 133) (g : Int) e) i) 0 (eCn P l o nU nL nO nL) rfl (by omega) (by omega) (fun e _ he => ?_) ?_
  · show q_Model_makeClusters_59 E (kL c) l1 (many : Int) (bF (b.1 133) (fun e => if many = 0 then 0 else cmN P l o nU nL nO q (b.1 133) (g : Int) e) e).1 (bF (b.1 133) (fun e => if many = 0 then 0 else cmN P l o nU nL nO q (b.1 133) (g : Int) e) e).2 (e : Int) b = _
    have j93 : ∀ v : Nat, v = (if many = 0 then 0 else cmN P l o nU nL nO q (b.1 133) (g : Int) e) → b.1 133 e = -1 → q_Model_makeClusters_j93_59 E (kL c) l1 (many : Int) (bF (b.1 133) (fun e => if many = 0 then 0 else cmN P l o nU nL nO q (b.1 133) (g : Int) e) e).1 (bF (b.1 133) (fun e => if many = 0 then 0 else cmN P l o nU nL nO q (b.1 133) (g : Int) e) e).2 (e : Int) (v : Int) b = some (.inl ((bF (b.1 133) (fun e => if many = 0 then 0 else cmN P l o nU nL nO q (b.1 133) (g : Int) e) (e + 1)).1, (bF (b.1 133) (fun e => if many = 0 then 0 else cmN P l o nU nL nO q (b.1 133) (g : Int) e) (e + 1)).2, ((e + 1 : Nat) : Int))) := fun v hv hx => by
      unfold q_Model_makeClusters_j93_59 q_Model_makeClusters_j108_59
      rw [bF, ← hv]
      by_cases y : (bF (b.1 133) (fun e => if many = 0 then 0 else cmN P l o nU nL nO q (b.1 133) (g : Int) e) e).2 < (v : Int)
      · rw [if_neg (by omega), if_neg (by omega), if_pos (by omega), let_s, if_pos ⟨hx, y⟩]; rfl
      · rw [if_pos (by omega), if_pos (by omega), if_pos (by omega), let_s, if_neg fun z => y z.2]; rfl
    unfold q_Model_makeClusters_59
    rw [h55, if_neg (by omega), kL_133, if_pos (by omega), gtN]
    by_cases x : b.1 133 e = -1
    · rw [if_pos x]
      by_cases m0 : many = 0
      · rw [if_pos (by omega)]
        exact j93 0 (by rw [if_pos m0]) x
      · rw [if_neg (by omega), s_common hk h he h55 h60 h66 hT, b1_s]
        exact j93 _ (by rw [if_neg m0]) x
    · rw [if_neg x, let_s]
      show _ = some (Sum.inl ((bF (b.1 133) (fun e => if many = 0 then 0 else cmN P l o nU nL nO q (b.1 133) (g : Int) e) (e + 1)).1, (bF (b.1 133) (fun e => if many = 0 then 0 else cmN P l o nU nL nO q (b.1 133) (g : Int) e) (e + 1)).2, ((e + 1 : Nat) : Int)))
      rw [bF, if_neg fun z => x z.1]; rfl
  · show q_Model_makeClusters_59 E (kL c) l1 (many : Int) _ _ ((eCn P l o nU nL nO nL : Nat) : Int) b = _
    unfold q_Model_makeClusters_59
    rw [h55, if_pos (by omega)]
/-- an element joins the cluster -/
theorem s_join (hk : kOk c) (h : PkS c nU nL nI nO P l o) {e k G : Nat} (he : e < eCn P l o nU nL nO nL) (h15 : a.1 53 15 = (eCn P l o nU nL nO nL : Nat)) (hT : TchI P l o nU nL nO q (5 * eCn P l o nU nL nO nL) (a.1 65)) (h16 : a.1 53 16 = (G : Int)) (hG : 1 ≤ G ∧ G ≤ 1000) : zOk (q_Packing_join E (kL c) (e : Int) (k : Int) a) (fun s => zOff (fun k j => ((k = 56 ∨ k = 57) ∧ j = e) ∨ k = 66) a s ∧ s.1 56 e = (G : Int) - 1 ∧ s.1 57 e = (k : Int) ∧ ∀ n, n < nK P l o nU nL nO (400 + nU) → (TC P l o nU nL nO q e n → s.1 66 n = (G : Int)) ∧ (¬ TC P l o nU nL nO q e n → s.1 66 n = a.1 66 n)) := by
  have hPb := kP_b hk
  have hD := kD_b hk
  have hb := h.1
  have mb := h.2.2.2.2
  have nb := nK_b hk h (400 + nU)
  have vb : ∀ k, k < 5 → a.1 65 (5 * e + k) = -1 ∨ ∃ n : Nat, a.1 65 (5 * e + k) = n ∧ n < nK P l o nU nL nO (400 + nU) := fun k hk' => by
    rcases (hT (5 * e + k) (by omega)).1 with u | u
    · exact Or.inl u
    · rw [u]; exact valT_b hk h _
  unfold q_Packing_join
  rw [if_neg (by omega), h15, if_pos (by omega), kL_56, if_pos (by omega), h16, if_pos (by omega), ok_l, kL_57, if_pos (by omega), ok_l, if_pos (by omega), ok_l, gtN]
  generalize hs : zPut (zPut a 56 e ((G : Int) - 1)) 57 e (k : Int) = s
  have os : zOff (fun k j => (k = 56 ∨ k = 57) ∧ j = e) a s := by rw [← hs]; exact off_t (off_put (by omega)) (off_put (by omega))
  have s56 : s.1 56 e = (G : Int) - 1 := by rw [← hs, zp_n (by omega), zp_eq]
  have s57 : s.1 57 e = (k : Int) := by rw [← hs, zp_eq]
  rw [show (e : Int) * 5 = ((5 * e : Nat) : Int) by omega]
  refine ok_b1 (fun t => zOff (fun k j => k = 66) s t ∧ ∀ n, n < nK P l o nU nL nO (400 + nU) → ((∃ k, k < 5 ∧ a.1 65 (5 * e + k) = (n : Int)) → t.1 66 n = (G : Int)) ∧ ((¬ ∃ k, k < 5 ∧ a.1 65 (5 * e + k) = (n : Int)) → t.1 66 n = s.1 66 n)) ?_ fun t ⟨t1, t2⟩ => ok_so ⟨off_t (off_w os fun k j x => Or.inl x) (off_w t1 fun k j x => Or.inr x), by rw [t1.2 56 e (by omega)]; exact s56, by rw [t1.2 57 e (by omega)]; exact s57, fun n hn => ?_⟩
  · refine it_for (fun (i : Nat) (t : gZ) => (((5 * e + i : Nat) : Int), t)) (fun i t => zOff (fun k j => k = 66) s t ∧ ∀ n, n < nK P l o nU nL nO (400 + nU) → ((∃ k, k < i ∧ a.1 65 (5 * e + k) = (n : Int)) → t.1 66 n = (G : Int)) ∧ ((¬ ∃ k, k < i ∧ a.1 65 (5 * e + k) = (n : Int)) → t.1 66 n = s.1 66 n)) 0 5 rfl ⟨off_r, fun n hn => ⟨fun ⟨k, w, _⟩ => by omega, fun _ => rfl⟩⟩ (by omega) (by omega) ?_ ?_
    · rintro i t - hi ⟨t1, t2⟩
      show zOk (q_Packing_join_36 E (kL c) (e : Int) ((5 * e + i : Nat) : Int) t) _
      have e65 : t.1 65 (5 * e + i) = a.1 65 (5 * e + i) := by rw [t1.2 65 _ (by omega), os.2 65 _ (by omega)]
      have e16 : t.1 53 16 = (G : Int) := by rw [t1.2 53 16 (by omega), os.2 53 16 (by omega)]; exact h16
      unfold q_Packing_join_36
      rw [if_pos (by omega), if_neg (by omega), kL_65, if_pos (by omega), gtN, e65, e16]
      rcases vb i hi with u | ⟨v, u1, u2⟩
      · rw [if_pos u, ok_l]
        refine ok_inl (Or.inl ⟨t, by rw [show ((5 * e + (i + 1) : Nat) : Int) = ((5 * e + i : Nat) : Int) + 1 by omega], t1, fun n hn => ⟨fun ⟨k, w1, w2⟩ => (t2 n hn).1 ⟨k, ?_, w2⟩, fun w => (t2 n hn).2 fun ⟨k, w1, w2⟩ => w ⟨k, by omega, w2⟩⟩⟩)
        by_cases y : k = i
        · rw [y, u] at w2; omega
        · omega
      · rw [if_neg (by omega), u1, kL_66, if_pos (by omega), ok_l, ok_l, gtN]
        refine ok_inl (Or.inl ⟨_, by rw [show ((5 * e + (i + 1) : Nat) : Int) = ((5 * e + i : Nat) : Int) + 1 by omega], off_t t1 (off_put rfl), fun n hn => ⟨fun ⟨k, w1, w2⟩ => ?_, fun w => ?_⟩⟩)
        · rw [zp1, if_pos rfl]
          by_cases y : n = v
          · rw [if_pos y]
          · rw [if_neg y]
            refine (t2 n hn).1 ⟨k, ?_, w2⟩
            by_cases z : k = i
            · rw [z, u1] at w2; omega
            · omega
        · rw [zp1, if_pos rfl, if_neg fun y => w ⟨i, by omega, by rw [u1, y]⟩]
          exact (t2 n hn).2 fun ⟨k, w1, w2⟩ => w ⟨k, by omega, w2⟩
    · rintro t ht
      show zOk (q_Packing_join_36 E (kL c) (e : Int) ((5 * e + 5 : Nat) : Int) t) _
      unfold q_Packing_join_36
      rw [if_pos (by omega), if_pos (by omega)]
      exact ok_inr ⟨t, rfl, ht⟩
  · have tt := TchI_t (n := n) he hT
    exact ⟨fun w => (t2 n hn).1 (tt.1 w), fun w => by rw [(t2 n hn).2 fun z => w (tt.2 z), os.2 66 n (by omega)]⟩
end
end
