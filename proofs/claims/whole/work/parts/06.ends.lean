/-! Ends, makings and calls of the machine, over the kit's rows. -/
def gU (pl : List (String × Nat × Nat)) (E : gEv) (cl : List vw_C) (D : va_G) (cA : FieldType → ClassId) (b : Nat) (K : Nat → Nat) (hs : gHS) (U : State) : Prop :=
  gHp cl D cA b hs U.heap ∧ U.heap.size = b + hs.1.length ∧ va_K D cl (gTy cA) U ∧ gKs pl E K b U
def gQ (cl : List vw_C) (D : va_G) (cA : FieldType → ClassId) (b : Nat) (K : Nat → Nat) (r : Option Value × gHS) : Array Value → State → Outcome → State → Prop := fun _ st oc t =>
  oc = .returned (r.1.map (gc b K)) ∧ gHp cl D cA b r.2 t.heap ∧ va_F (fun q => b ≤ q) st t
section GE
variable {p : Program} {l : Launch} {e : Env} {R : Room} {s : State} {m : MethodId} {args : Array Value} {below : List Frame} {meth : Method} {c : Code} {D : va_G} {cA : FieldType → ClassId} {b : Nat} {K : Nat → Nat} {E : gEv} {cc : ByteArray} {own : String} {hs0 : gHS} {Q : State → Prop} {cl : List vw_C} {T : gT} {ins : List (Nat × Instr)} {nm : MethodName} {pl : List (String × Nat × Nat)} {r : Option Value × gHS} {rt : Option FieldType}
abbrev gQm (below : List Frame) (args : Array Value) (s : State) (cl : List vw_C) (D : va_G) (cA : FieldType → ClassId) (b : Nat) (K : Nat → Nat) (hs0 : gHS) (r : Option Value × gHS) : State → Prop := MQ below (gQ cl D cA b K r) args s (r.2.1.length - hs0.1.length) (r.2.2.2 - hs0.2.2) (fun q => b ≤ q)
theorem gw2 (O : gOk p R s m args meth c cl D cA b K E cc own nm pl) (hdec : gDec cc ins) (hr : meth.sig.returnType = rt) (hlocks : meth.locks = false) : gCl2 ins rt r (Gw p l e R s m args below meth c cl D cA b K hs0 (gQm below args s cl D cA b K hs0 r)) := by
  obtain ⟨hx, hb, hown, hts, hK, hR, hnm, hE⟩ := O
  intro f i hi h
  obtain ⟨pc, L, st, hs⟩ := f
  intro H locs ls h1 h2 hH hS hl hL
  cases i <;> first | (simp [gRet] at h; done) | skip
  case return_ =>
    have hd := (hdec pc _ hi).1 rfl
    simp only [gRet] at h
    split at h
    · cases h
      exact W.vret hx hb hr (fun t ht hW => ⟨rfl, by rw [ht]; exact hH, hS.F ht⟩) hS.2.2 hd
    · cases h
  case ireturn =>
    have hd := (hdec pc _ hi).1 rfl
    simp only [gRet] at h
    split at h
    · cases h
      exact W.iret hx hb hr (fun t ht hW => ⟨rfl, by rw [ht]; exact hH, hS.F ht⟩) hS.2.2 hd
    · split at h
      · rename_i hz
        cases h
        exact W.zret hx hb hr (gZn hz) (fun t ht hW => ⟨rfl, by rw [ht]; exact hH, hS.F ht⟩) hS.2.2 hd
      · cases h
    · split at h
      · rename_i hz
        cases h
        exact W.zret hx hb hr hz (fun t ht hW => ⟨rfl, by rw [ht]; exact hH, hS.F ht⟩) hS.2.2 hd
      · cases h
    · split at h
      · rename_i hz
        cases h
        exact W.zret hx hb hr hz (fun t ht hW => ⟨rfl, by rw [ht]; exact hH, hS.F ht⟩) hS.2.2 hd
      · cases h
    · cases h
theorem gw_ub {H : Heap} {locs : List Loc} {cells slots : Nat} {g : JFrame} (kk : H.size ≤ s.heap.size + cells → W p l e R s m args below meth c H locs cells slots Q g) : W p l e R s m args below meth c H locs cells slots Q g := by
  intro T hT X
  refine kk ?_ T hT X
  have h1 := X.heapSize
  rw [hT] at h1
  exact h1
theorem gw_lb {σ : gS} {sh : List gD} {H : Heap} (hP : va_P D cl (gW cA b σ sh) H) (h0 : b ≤ H.size) : b + sh.length ≤ H.size := by
  rcases Nat.eq_zero_or_pos sh.length with h | h
  · omega
  · have h3 : sh.length - 1 < sh.length := by omega
    have h4 := (hP (sh.length - 1) _ (gW_get (List.getElem?_eq_getElem h3))).lt
    have h4 : b + (sh.length - 1) < H.size := h4
    omega
theorem gq_eq {σ : gS} {sh : List gD} {H1 : Heap} {q : Nat} {e9 : va_E} (hD : va_D (fun q => b ≤ q) (gW cA b σ sh ++ [(q, e9)])) (hP : va_P D cl (gW cA b σ sh ++ [(q, e9)]) H1) (hz : H1.size ≤ b + sh.length + 1) : q = b + sh.length := by
  have hlast : (gW cA b σ sh ++ [(q, e9)])[sh.length]? = some (q, e9) := by
    rw [List.getElem?_append_right (by rw [gW_len]; omega), gW_len, Nat.sub_self]
    rfl
  have h1 : q < H1.size := (hP _ _ hlast).lt
  have h2 : b ≤ q := hD.2 _ _ hlast
  by_cases h3 : q < b + sh.length
  · have h4 : q - b < sh.length := by omega
    have h5 : (gW cA b σ sh ++ [(q, e9)])[q - b]? = some (b + (q - b), gE cA b σ (q - b) sh[q - b]) := by
      rw [List.getElem?_append_left (by rw [gW_len]; exact h4)]
      exact gW_get (List.getElem?_eq_getElem h4)
    have h6 := hD.1 _ _ _ _ h5 hlast (by show b + (q - b) = q; omega)
    omega
  · omega
end GE
