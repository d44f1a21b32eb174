/-! What makes cells. -/
def gZ0 : gS := (fun _ _ => 0, fun _ => 0, fun _ _ => 0)
/-- what a new cell of each kind holds -/
def gDfs (cl : List vw_C) (df : List (List (Option (Option Nat)))) : Prop := ∀ (ci : Nat) (fs : List (Option (Option Nat))), df[ci]? = some fs → ∃ q : vw_C, cl[ci]? = some q ∧ fs.length = q.2.2 ∧ Cond.instantiable q.1 q.2.2 ∈ gTs ∧ Cond.initialized q.1 ∈ gTs ∧ ∀ j, j < q.2.2 → ∀ t, parseFieldDescriptor (q.2.1 j).2.2.1 = some t → ∃ z, fs[j]? = some z ∧ (z = none ∨ z = some none) ∧ defaultValue t = gFd gZ0 0 0 z
def gPcs (cl : List vw_C) (own : String) (T : gT) : Prop := ∀ ix ci, T.2.2.2.lookup ix = some ci → (∀ q : vw_C, cl[ci]? = some q → Cond.classLink own ix q.1 ∈ gTs) ∧ (ci = 9100 → Cond.classLink own ix ("[" ++ (FieldType.array .byte).toString) ∈ gTs) ∧ (ci = 9101 → Cond.classLink own ix ("[" ++ (FieldType.array .int).toString) ∈ gTs)
section GM
variable {p : Program} {l : Launch} {e : Env} {R : Room} {s : State} {m : MethodId} {args : Array Value} {below : List Frame} {meth : Method} {c : Code} {D : va_G} {cA : FieldType → ClassId} {b : Nat} {K : Nat → Nat} {E : gEv} {cc : ByteArray} {own : String} {hs0 : gHS} {Q : State → Prop} {cl : List vw_C} {T : gT} {ins : List (Nat × Instr)} {nm : MethodName} {pl : List (String × Nat × Nat)} {r : Option Value × gHS} {rt : Option FieldType} {df : List (List (Option (Option Nat)))}
theorem gNew_row {hs : gHS} {d : gD} {n : Nat} : (gNew hs d n).2.1.1 hs.1.length = fun _ => 0 := by simp [gNew, gLen, gRowL, gRow]
theorem gNew_rowL {hs : gHS} {d : gD} {n : Nat} : (gNew hs d n).2.1.2.2 hs.1.length = fun _ => 0 := by simp [gNew, gLen, gRowL, gRow]
theorem gNew_len {hs : gHS} {d : gD} {n : Nat} : (gNew hs d n).2.1.2.1 hs.1.length = n := by simp [gNew, gLen, gRowL, gRow]
theorem gw3_newarray (O : gOk p R s m args meth c cl D cA b K E cc own nm pl) (hsz : s.heap.size = b + hs0.1.length) (hRc : r.2.1.length - hs0.1.length ≤ R.cells) (hRs : r.2.2.2 - hs0.2.2 ≤ R.slots) {pc : Nat} {L : List (Option Value)} {st : List Value} {hs : gHS} {f' : gFr} {atype : ArrayType} {ty : FieldType} (t0 : Nat) (ht0 : (gTy cA)[t0]? = some (cA ty, ty)) (hty : newarray.typeOf atype = ty) (hnl : ∀ C, ty ≠ .object C) (harr : Cond.arrayClass ty ∈ gTs) (hcb : componentBytes ty ≤ 8)
    (ha0 : ∀ n, ∃ a0 : vp_A, (∀ cA' : ClassId, vp_cell cA' a0 = arrV cA' n (fun _ => defaultValue ty)) ∧ gA b (gNew hs (.inl (ty, none)) n).2.1 hs.1.length (ty, none) = a0)
    (hd : decode cc pc = .ok (.newarray atype, 2)) (h : gNwa ty pc L st hs = some f') (hm1 : f'.2.2.2.1.length ≤ r.2.1.length) (hm2 : f'.2.2.2.2.2 ≤ r.2.2.2) (hk : Gw p l e R s m args below meth c cl D cA b K hs0 Q f') : Gw p l e R s m args below meth c cl D cA b K hs0 Q (pc, L, st, hs) := by
  obtain ⟨hx, hb, hown, hts, hK, hR, hnm, hE⟩ := O
  intro H locs ls h1 h2 hH hS hl hL
  have h1 : hs0.1.length ≤ hs.1.length := h1
  have h2 : hs0.2.2 ≤ hs.2.2 := h2
  simp only [gNwa] at h
  split at h
  · rename_i n r9
    split at h
    · rename_i hg
      obtain ⟨hg1, hg2⟩ := hg
      cases h
      have hm1 : hs.1.length + 1 ≤ r.2.1.length := by simpa [gNew] using hm1
      have hm2 : hs.2.2 + n.toNatClampNeg ≤ r.2.2.2 := by simpa [gNew] using hm2
      obtain ⟨a0, q1, q2⟩ := ha0 n.toNatClampNeg
      refine va_newa hx hb (by rw [hty]; exact hts _ harr) hty hK hH gW_D hS (fun q hq => by show b ≤ q; omega) q1 hg1 rfl (Nat.le_trans (Nat.mul_le_mul_left _ hcb) (by omega)) (by show hs.1.length - hs0.1.length + 1 ≤ R.cells; omega) (by show hs.2.2 - hs0.2.2 + _ ≤ R.slots; omega) hd (fun q cA' H1 hK1 hP1 hD1 hS1 => ?_)
      refine gw_ub fun hub => ?_
      have hub : H1.size ≤ s.heap.size + (hs.1.length - hs0.1.length + 1) := hub
      have hq : q = b + hs.1.length := gq_eq hD1 hP1 (by omega)
      subst hq
      have hc1 := (hK1.2 (gTy cA).length (cA', ty) (by simp)).2
      have hc2 := (hK.2 t0 _ ht0).2
      have hcc : cA' = cA ty := by
        cases ty <;> first | exact absurd rfl (hnl _) | exact Option.some.inj (hc1.symm.trans hc2)
      subst hcc
      have hkk := hk H1 locs ls (by simp [gNew]; omega) (by simp [gNew]; omega) (by
        show va_P D cl (gW cA b (gNew hs (.inl (ty, none)) n.toNatClampNeg).2.1 (gNew hs (.inl (ty, none)) n.toNatClampNeg).1) H1
        rw [gW_new]
        show va_P D cl (gW cA b hs.2.1 hs.1 ++ [(b + hs.1.length, .inl (cA ty, gA b (gNew hs (.inl (ty, none)) n.toNatClampNeg).2.1 hs.1.length (ty, none)))]) H1
        rw [q2]
        exact hP1) hS1 hl hL
      have e1 : (gNew hs (.inl (ty, none)) n.toNatClampNeg).1.length - hs0.1.length = hs.1.length - hs0.1.length + 1 := by simp [gNew]; omega
      have e2 : (gNew hs (.inl (ty, none)) n.toNatClampNeg).2.2 - hs0.2.2 = hs.2.2 - hs0.2.2 + n.toNatClampNeg := by simp [gNew]; omega
      have hkk : W p l e R s m args below meth c H1 locs ((gNew hs (.inl (ty, none)) n.toNatClampNeg).1.length - hs0.1.length) ((gNew hs (.inl (ty, none)) n.toNatClampNeg).2.2 - hs0.2.2) Q (F0 m (pc + 2) ls (.ref (b + hs.1.length) :: r9.map (gc b K))) := hkk
      rw [e1, e2] at hkk
      exact hkk
    · cases h
  · cases h
theorem gw3_new (O : gOk p R s m args meth c cl D cA b K E cc own nm pl) (hdec : gDec cc ins) (hcl : gCls cl) (hdf : gDfs cl df) (hpc : gPcs cl own T) (hsz : s.heap.size = b + hs0.1.length) (hRc : r.2.1.length - hs0.1.length ≤ R.cells) (hRs : r.2.2.2 - hs0.2.2 ≤ R.slots) {f f' : gFr} {ix : Nat} (hi : ins.lookup f.1 = some (.new ix)) (h : gAlc df T (.new ix) f = some f') (hm1 : f'.2.2.2.1.length ≤ r.2.1.length) (hm2 : f'.2.2.2.2.2 ≤ r.2.2.2) (hk : Gw p l e R s m args below meth c cl D cA b K hs0 Q f') : Gw p l e R s m args below meth c cl D cA b K hs0 Q f := by
  obtain ⟨hx, hb, hown, hts, hK, hR, hnm, hE⟩ := O
  obtain ⟨pc, L, st, hs⟩ := f
  intro H locs ls h1 h2 hH hS hl hL
  have h1 : hs0.1.length ≤ hs.1.length := h1
  have h2 : hs0.2.2 ≤ hs.2.2 := h2
  have hd := (hdec pc _ hi).1 rfl
  simp only [gAlc] at h
  split at h
  · rename_i ci hci
    split at h
    · rename_i fs hfs
      cases h
      obtain ⟨⟨C, T9, N⟩, g1, g2, g3, g4, g5⟩ := hdf _ _ hfs
      have g2 : fs.length = N := g2
      subst g2
      obtain ⟨q1, ⟨ty0, q2⟩, q3⟩ := hcl _ _ g1
      have hm1 : hs.1.length + 1 ≤ r.2.1.length := by simpa [gNew] using hm1
      have hm2 : hs.2.2 + fs.length ≤ r.2.2.2 := by simpa [gNew] using hm2
      refine va_new (fs := gFs b (gNew hs (.inr (ci, fs)) fs.length).2.1 hs.1.length fs) hx hb hts q1 ty0 q2 hown (hts _ ((hpc _ _ hci).1 _ g1)) (hts _ g3) (hts _ g4) hK hH gW_D hS (fun q hq => by show b ≤ q; omega) g1 (fun j hj => ?_) (by show hs.1.length - hs0.1.length + 1 ≤ R.cells; omega) (by show hs.2.2 - hs0.2.2 + _ ≤ R.slots; omega) hd (fun q H1 hP1 hD1 hS1 => ?_)
      · obtain ⟨z, z1, z2, z3⟩ := g5 j hj _ (q2 j hj)
        rw [z3, vp_V, List.getD_eq_getElem?_getD, gFs_at, z1]
        rcases z2 with rfl | rfl
        · simp [gFd, gNew_row, gc, gZ0]
        · rfl
      · refine gw_ub fun hub => ?_
        have hub : H1.size ≤ s.heap.size + (hs.1.length - hs0.1.length + 1) := hub
        have hq : q = b + hs.1.length := gq_eq hD1 hP1 (by omega)
        subst hq
        have hkk := hk H1 locs ls (by simp [gNew]; omega) (by simp [gNew]; omega) (by
          show va_P D cl (gW cA b (gNew hs (.inr (ci, fs)) fs.length).2.1 (gNew hs (.inr (ci, fs)) fs.length).1) H1
          rw [gW_new]
          exact hP1) hS1 hl hL
        have e1 : (gNew hs (.inr (ci, fs)) fs.length).1.length - hs0.1.length = hs.1.length - hs0.1.length + 1 := by simp [gNew]; omega
        have e2 : (gNew hs (.inr (ci, fs)) fs.length).2.2 - hs0.2.2 = hs.2.2 - hs0.2.2 + fs.length := by simp [gNew]; omega
        have hkk : W p l e R s m args below meth c H1 locs ((gNew hs (.inr (ci, fs)) fs.length).1.length - hs0.1.length) ((gNew hs (.inr (ci, fs)) fs.length).2.2 - hs0.2.2) Q (F0 m (pc + 3) ls (.ref (b + hs.1.length) :: st.map (gc b K))) := hkk
        rw [e1, e2] at hkk
        exact hkk
    · cases h
  · cases h
theorem gw3_putref (O : gOk p R s m args meth c cl D cA b K E cc own nm pl) (hdec : gDec cc ins) (hcl : gCls cl) (hpf : gPfs cl own nm T) (hcn : cl.length < 900) {f f' : gFr} {ix : Nat} (hi : ins.lookup f.1 = some (.putfield ix)) (h : gAlc df T (.putfield ix) f = some f') (hk : Gw p l e R s m args below meth c cl D cA b K hs0 Q f') : Gw p l e R s m args below meth c cl D cA b K hs0 Q f := by
  obtain ⟨hx, hb, hown, hts, hK, hR, hnm, hE⟩ := O
  obtain ⟨pc, L, st, hs⟩ := f
  intro H locs ls h1 h2 hH hS hl hL
  have hd := (hdec pc _ hi).1 rfl
  simp only [gAlc] at h
  split at h
  · rename_i p9 k r9 ci j hlk
    split at h
    · rename_i c9 fs hsh
      split at h
      · rename_i z hdc hfs
        have hcc : c9 = ci := of_decide_eq_true hdc
        subst hcc
        cases h
        have hj := (List.getElem?_eq_some_iff.mp hfs).1
        rcases hpf _ _ _ _ hlk with hst | ⟨⟨C, T9, N⟩, g1, g2, g3, g4, g5⟩
        · obtain ⟨r9, g9, -⟩ := hH k _ (gW_get hsh)
          have g8 : c9 < cl.length := (List.getElem?_eq_some_iff.mp g9).1
          omega
        · obtain ⟨q1, ⟨ty0, q2⟩, q3⟩ := hcl _ _ g1
          obtain ⟨g6, ⟨ty, g7, g8⟩, g9, g10⟩ := g5
          refine va_putF (ty := ty) (v := .ref (b + p9)) hx hb hts q1 ty0 q2 q3 hown hK hH gW_D hS k (gW_get hsh) g1 j g2 (hts _ g3) (fun x h9 => by rw [g4] at h9; exact h9) g6 (hnm.trans g9) (g4.trans g10) g7 ?_ ?_ (by rw [gFs_len]; exact hj) hd (fun H1 locs1 hP1 _ hS1 => ?_)
          · rcases g8 with ⟨n, rfl⟩ | ⟨t, rfl⟩ <;> rfl
          · rcases g8 with ⟨n, rfl⟩ | ⟨t, rfl⟩ <;> rfl
          · have hkk := hk H1 locs1 ls (by simpa using h1) h2 (by
              show va_P D cl (gW cA b hs.2.1 (hs.1.set k (.inr (c9, fs.set j (some (some p9)))))) H1
              rw [gW_ptr hsh hj]
              exact hP1) hS1 hl hL
            have e1 : (hs.1.set k (.inr (c9, fs.set j (some (some p9))))).length = hs.1.length := by simp
            have hkk : W p l e R s m args below meth c H1 locs1 ((hs.1.set k (.inr (c9, fs.set j (some (some p9))))).length - hs0.1.length) (hs.2.2 - hs0.2.2) Q (F0 m (pc + 3) ls (r9.map (gc b K))) := hkk
            rw [e1] at hkk
            exact hkk
      · cases h
    · cases h
  · cases h
end GM
section GMN
variable {p : Program} {l : Launch} {e : Env} {R : Room} {s : State} {m : MethodId} {args : Array Value} {below : List Frame} {meth : Method} {c : Code} {D : va_G} {cA : FieldType → ClassId} {b : Nat} {K : Nat → Nat} {E : gEv} {cc : ByteArray} {own : String} {hs0 : gHS} {Q : State → Prop} {cl : List vw_C} {T : gT} {ins : List (Nat × Instr)} {nm : MethodName} {pl : List (String × Nat × Nat)} {r : Option Value × gHS}
theorem gRows_len (hs : gHS) (d : gD) (n : Nat) : ∀ k, (gRows hs d n k).1.length = hs.1.length + k ∧ (gRows hs d n k).2.2 = hs.2.2 + k * n
  | 0 => ⟨rfl, by simp [gRows]⟩
  | k + 1 => by
    have h := gRows_len hs d n k
    refine ⟨?_, ?_⟩
    · show ((gRows hs d n k).1 ++ [d]).length = _
      rw [List.length_append, h.1]; simp; omega
    · show (gRows hs d n k).2.2 + n = _
      rw [h.2, Nat.add_mul]; omega
theorem gRows_P {hs : gHS} {ty : FieldType} {n : Nat} {H : Heap} (hty : ty = .int ∨ ty = .byte) (h0 : va_P D cl (gW cA b hs.2.1 hs.1) H) : ∀ k, (∀ i, i < k → H[b + hs.1.length + i]? = some (arrV (cA ty) n (fun _ => .int 0))) → va_P D cl (gW cA b (gRows hs (.inl (ty, none)) n k).2.1 (gRows hs (.inl (ty, none)) n k).1) H
  | 0, _ => h0
  | k + 1, hr => by
    have ih := gRows_P (n := n) hty h0 k fun i hi => hr i (by omega)
    show va_P D cl (gW cA b (gNew (gRows hs (.inl (ty, none)) n k) (.inl (ty, none)) n).2.1 (gNew (gRows hs (.inl (ty, none)) n k) (.inl (ty, none)) n).1) H
    rw [gW_new]
    refine ih.app fun j x hx => ?_
    have hz : j < 1 := (List.getElem?_eq_some_iff.mp hx).1
    rw [show j = 0 by omega] at hx
    cases hx
    have e1 : gE cA b (gNew (gRows hs (.inl (ty, none)) n k) (.inl (ty, none)) n).2.1 (gRows hs (.inl (ty, none)) n k).1.length (.inl (ty, none)) = .inl (cA ty, (n, .inl (fun _ => 0))) := by
      rcases hty with rfl | rfl
      · show Sum.inl (cA .int, (((gNew (gRows hs (.inl (.int, none)) n k) (.inl (.int, none)) n).2.1.2.1 (gRows hs (.inl (.int, none)) n k).1.length, .inl ((gNew (gRows hs (.inl (.int, none)) n k) (.inl (.int, none)) n).2.1.1 (gRows hs (.inl (.int, none)) n k).1.length)) : vp_A)) = _
        rw [gNew_len, gNew_row]
      · show Sum.inl (cA .byte, (((gNew (gRows hs (.inl (.byte, none)) n k) (.inl (.byte, none)) n).2.1.2.1 (gRows hs (.inl (.byte, none)) n k).1.length, .inl ((gNew (gRows hs (.inl (.byte, none)) n k) (.inl (.byte, none)) n).2.1.1 (gRows hs (.inl (.byte, none)) n k).1.length)) : vp_A)) = _
        rw [gNew_len, gNew_row]
    rw [e1, (gRows_len _ _ _ _).1]
    show H[b + (hs.1.length + k)]? = some (vp_cell (cA ty) (n, .inl (fun _ => 0)))
    rw [show b + (hs.1.length + k) = b + hs.1.length + k by omega, hr k (by omega), vp_cell_i]
theorem gw3_mna (O : gOk p R s m args meth c cl D cA b K E cc own nm pl) (hsz : s.heap.size = b + hs0.1.length) (hRc : r.2.1.length - hs0.1.length ≤ R.cells) (hRs : r.2.2.2 - hs0.2.2 ≤ R.slots) {pc : Nat} {L : List (Option Value)} {st : List Value} {hs : gHS} {f' : gFr} {ty : FieldType} {ix : Nat} (t0 t1 : Nat) (ht0 : (gTy cA)[t0]? = some (cA ty, ty)) (ht1 : (gTy cA)[t1]? = some (cA (.array ty), .array ty)) (hty : ty = .int ∨ ty = .byte) (hlk : Cond.classLink own ix ("[" ++ (FieldType.array ty).toString) ∈ gTs) (harr : Cond.arrayClass ty ∈ gTs)
    (hd : decode cc pc = .ok (.multianewarray ix 2, 4)) (h : gMn ty pc L st hs = some f') (hm1 : f'.2.2.2.1.length ≤ r.2.1.length) (hm2 : f'.2.2.2.2.2 ≤ r.2.2.2) (hk : Gw p l e R s m args below meth c cl D cA b K hs0 Q f') : Gw p l e R s m args below meth c cl D cA b K hs0 Q (pc, L, st, hs) := by
  obtain ⟨hx, hb, hown, hts, hK, hR, hnm, hE⟩ := O
  intro H locs ls h1 h2 hH hS hl hL
  have h1 : hs0.1.length ≤ hs.1.length := h1
  have h2 : hs0.2.2 ≤ hs.2.2 := h2
  simp only [gMn] at h
  split at h
  · rename_i n n1 r9
    split at h
    · rename_i hg
      obtain ⟨hg1, hg2, hg3, hg4, hg5⟩ := hg
      cases h
      have hrl := gRows_len (gNew hs (.inl (.array ty, some ((List.range n1.toNatClampNeg).map fun i => some (hs.1.length + 1 + i)))) n1.toNatClampNeg) (.inl (ty, none)) n.toNatClampNeg n1.toNatClampNeg
      have hl1 : (gRows (gNew hs (.inl (.array ty, some ((List.range n1.toNatClampNeg).map fun i => some (hs.1.length + 1 + i)))) n1.toNatClampNeg) (.inl (ty, none)) n.toNatClampNeg n1.toNatClampNeg).1.length = hs.1.length + 1 + n1.toNatClampNeg := by rw [hrl.1]; simp [gNew]
      have hl2 : (gRows (gNew hs (.inl (.array ty, some ((List.range n1.toNatClampNeg).map fun i => some (hs.1.length + 1 + i)))) n1.toNatClampNeg) (.inl (ty, none)) n.toNatClampNeg n1.toNatClampNeg).2.2 = hs.2.2 + n1.toNatClampNeg + n1.toNatClampNeg * n.toNatClampNeg := by rw [hrl.2]; simp [gNew]
      have hm1 : hs.1.length + 1 + n1.toNatClampNeg ≤ r.2.1.length := by rw [← hl1]; exact hm1
      have hm2 : hs.2.2 + n1.toNatClampNeg + n1.toNatClampNeg * n.toNatClampNeg ≤ r.2.2.2 := by rw [← hl2]; exact hm2
      refine gw_ub fun hub => ?_
      have hub : H.size ≤ s.heap.size + (hs.1.length - hs0.1.length) := hub
      have hlb : b + hs.1.length ≤ H.size := gw_lb hH (by have := hS.1; omega)
      have hHs : H.size = b + hs.1.length := by omega
      have hcb : componentBytes ty ≤ 4 := by rcases hty with rfl | rfl <;> decide
      have hfit : fits ty (defaultValue ty) = true := by rcases hty with rfl | rfl <;> rfl
      have hdv : defaultValue ty = .int 0 := by rcases hty with rfl | rfl <;> rfl
      refine mna_W (n := n) (n1 := n1) (rest := r9.map (gc b K)) hx hb hown (hts _ hlk) (hE.2.2.2.2.2.2 ty hty) (hts _ harr) hfit rfl hd rfl hg1 hg2 hg3 (by omega) (Nat.le_trans (Nat.mul_le_mul_left _ hcb) (by omega)) (by omega) (by show hs.1.length - hs0.1.length + _ ≤ R.cells; omega) (by show hs.2.2 - hs0.2.2 + _ ≤ R.slots; omega) (fun cO cR H1 l1 a1 a2 a3 a4 a5 a6 a7 a8 a9 => ?_)
      have hc2 := (hK.2 t0 _ ht0).2
      have hc3 := (hK.2 t1 _ ht1).2
      have ec : cR = cA ty := by
        rcases hty with rfl | rfl <;> exact Option.some.inj (a2.symm.trans hc2)
      have eo : cO = cA (.array ty) := Option.some.inj (a4.symm.trans hc3)
      subst ec; subst eo
      have hkept : ∀ (k : Nat) (x : Nat × va_E), (gW cA b hs.2.1 hs.1)[k]? = some x → H1[x.1]? = H[x.1]? := fun k x hx => a6 x.1 ((hH k x hx).lt)
      have hP1 : va_P D cl (gW cA b (gNew hs (.inl (.array ty, some ((List.range n1.toNatClampNeg).map fun i => some (hs.1.length + 1 + i)))) n1.toNatClampNeg).2.1 (gNew hs (.inl (.array ty, some ((List.range n1.toNatClampNeg).map fun i => some (hs.1.length + 1 + i)))) n1.toNatClampNeg).1) H1 := by
        rw [gW_new]
        refine (hH.kept hkept).app fun j x hx => ?_
        have hz : j < 1 := (List.getElem?_eq_some_iff.mp hx).1
        rw [show j = 0 by omega] at hx
        cases hx
        show H1[b + hs.1.length]? = some (vp_cell (cA (.array ty)) (((List.range n1.toNatClampNeg).map fun i => some (hs.1.length + 1 + i)).length, .inr (.inr (.inr (.inr (fun i => (((List.range n1.toNatClampNeg).map fun i => some (hs.1.length + 1 + i)).getD i none).map (fun q => b + q)))))))
        rw [vp_cell_q, ← hHs, a7, List.length_map, List.length_range]
        refine congrArg some (mna_arr fun j hj => ?_)
        rw [List.getD_eq_getElem?_getD, List.getElem?_map, List.getElem?_range hj]
        show Value.ref (H.size + 1 + j) = Value.ref (b + (hs.1.length + 1 + j))
        rw [hHs]
        congr 1
        show b + hs.1.length + 1 + j = b + (hs.1.length + 1 + j)
        omega
      have hP2 := gRows_P (n := n.toNatClampNeg) hty hP1 n1.toNatClampNeg (fun i hi => by
        have := a8 i hi
        rw [hdv] at this
        have e9 : (gNew hs (.inl (.array ty, some ((List.range n1.toNatClampNeg).map fun i => some (hs.1.length + 1 + i)))) n1.toNatClampNeg).1.length = hs.1.length + 1 := by simp [gNew]
        rw [e9, show b + (hs.1.length + 1) + i = H.size + 1 + i by omega]
        exact this)
      have hkk := hk H1 (locs ++ l1) ls (Nat.le_trans (show hs0.1.length ≤ hs.1.length + 1 + n1.toNatClampNeg by omega) (Nat.le_of_eq hl1.symm)) (Nat.le_trans (show hs0.2.2 ≤ hs.2.2 + n1.toNatClampNeg + n1.toNatClampNeg * n.toNatClampNeg by omega) (Nat.le_of_eq hl2.symm)) hP2 ⟨by have := hS.1; omega, fun q hq hA => (a6 q (by have := hS.1; omega)).trans (hS.2.1 q hq hA), fun q hq => by
        rcases List.mem_append.mp hq with hq | hq
        · exact hS.2.2 q hq
        · show b ≤ q.base
          rw [a9 q hq]; omega⟩ hl hL
      have hkk : W p l e R s m args below meth c H1 (locs ++ l1) ((gRows (gNew hs (.inl (.array ty, some ((List.range n1.toNatClampNeg).map fun i => some (hs.1.length + 1 + i)))) n1.toNatClampNeg) (.inl (ty, none)) n.toNatClampNeg n1.toNatClampNeg).1.length - hs0.1.length) ((gRows (gNew hs (.inl (.array ty, some ((List.range n1.toNatClampNeg).map fun i => some (hs.1.length + 1 + i)))) n1.toNatClampNeg) (.inl (ty, none)) n.toNatClampNeg n1.toNatClampNeg).2.2 - hs0.2.2) Q (F0 m (pc + 4) ls (.ref (b + hs.1.length) :: r9.map (gc b K))) := hkk
      rw [hl1, hl2, ← hHs, show hs.1.length + 1 + n1.toNatClampNeg - hs0.1.length = hs.1.length - hs0.1.length + (1 + n1.toNatClampNeg) by omega, show hs.2.2 + n1.toNatClampNeg + n1.toNatClampNeg * n.toNatClampNeg - hs0.2.2 = hs.2.2 - hs0.2.2 + (n1.toNatClampNeg + n1.toNatClampNeg * n.toNatClampNeg) by omega] at hkk
      exact hkk
    · cases h
  · cases h
end GMN
