/-! The machine's evaluation gives the kit's contract. -/
theorem gArg_in {b : Nat} {K : Nat → Nat} : ∀ (as : List Value) (n : Nat), as.all (fun v => v.category == 1) = true → ∀ (j : Nat) (w : Value), as[j]? = some w → (n + j, gc b K w) ∈ lv_args n (as.map (gc b K))
  | [], n, _, j, w, h => by simp at h
  | v :: as, n, ha, 0, w, h => by
    have h1 : v = w := by simpa using h
    subst h1
    exact List.mem_cons_self
  | v :: as, n, ha, j + 1, w, h => by
    simp only [List.all_cons, Bool.and_eq_true, beq_iff_eq] at ha
    have h1 := gArg_in (b := b) (K := K) as (n + 1) ha.2 j w (by simpa using h)
    refine List.mem_cons_of_mem _ ?_
    rw [if_neg (by rw [gc_cat]; omega), show n + (j + 1) = n + 1 + j by omega]
    exact h1
theorem gSl_len {b : Nat} {K : Nat → Nat} : ∀ (as : List Value), as.all (fun v => v.category == 1) = true → (lg_sl (as.map (gc b K))).length = as.length
  | [], _ => rfl
  | v :: as, ha => by
    simp only [List.all_cons, Bool.and_eq_true, beq_iff_eq] at ha
    have h1 := gSl_len (b := b) (K := K) as ha.2
    simp only [lg_sl, List.map_cons, List.flatMap_cons, List.length_append, List.length_cons] at h1 ⊢
    rw [if_neg (by rw [gc_cat]; omega), h1]
    simp only [List.length_cons, List.length_nil]
    omega
theorem gEn_len {n : Nat} {as : List Value} (h : as.length ≤ n) : (gEn n as).length = n := by simp [gEn]; omega
theorem gEn_at {n j : Nat} {as : List Value} {w : Value} (h : (gEn n as)[j]? = some (some w)) : as[j]? = some w := by
  unfold gEn at h
  by_cases hj : j < as.length
  · rw [List.getElem?_append_left (by simpa using hj), List.getElem?_map] at h
    cases ha : as[j]? with
    | none => rw [ha] at h; cases h
    | some v => rw [ha] at h; simpa using h
  · rw [List.getElem?_append_right (by simp; omega), List.getElem?_replicate] at h
    split at h <;> simp at h
theorem gSound {l : Launch} {D : va_G} {cA : FieldType → ClassId} {b : Nat} {K : Nat → Nat} {E : gEv} {cl : List vw_C} {pl : List (String × Nat × Nat)} {df : List (List (Option (Option Nat)))} {ms : List gMd} (hA : gAll cl df) (hall : ∀ (y : Nat) (md' : gMd), ms[y]? = some md' → gFx pl cl ms md') (hml : ms.length < 9000) (hEo : gEok E) :
    ∀ (d y : Nat) (md : gMd) (as : List Value) (hs : gHS) (r : Option Value × gHS), ms[y]? = some md → as.all (fun v => v.category == 1) = true → gC E df ms d y as hs r → gMt pl E l cl D cA b K d md as hs r := by
  intro d
  induction d with
  | zero => intro y md as hs r _ _ h; exact absurd h (fun h => h)
  | succ d IH =>
    intro y md as hs r hmd ha hC
    obtain ⟨md', h1, hlen, hG⟩ := hC
    cases hmd.symm.trans h1
    have hF := hall _ _ hmd
    have hF0 := hF
    obtain ⟨hdec, -, -, -, -, -, -, -, hpn, -⟩ := hF
    refine Met.ofW (cc := md.2.1) (maxL := md.2.2.1) (ret := md.2.2.2.1) hpn rfl ?_
    intro p e s m args below meth c s₁ B hmx hv
    obtain ⟨rfl, hH, hsz, hK, hE⟩ := hv
    have hts0 := atoms_spec (ws := Cond.code md.1 md.2.1 md.2.2.1 md.2.2.2.1 :: gTs) B.pre
    have hts : ∀ w ∈ gTs, w.before (as.map (gc b K)).toArray s = true := fun w h => hts0 w (List.mem_cons_of_mem _ h)
    have O : gOk p ({ frames := d + 1, cells := r.2.1.length - hs.1.length, slots := r.2.2.2 - hs.2.2, locals := 64 * (d + 1) }) s m (as.map (gc b K)).toArray meth c cl D cA b K E md.2.1 md.1.cls md.1 pl :=
      ⟨B.exec, B.bytes, findClass_of_methodNamed B.named, hts, hK, ⟨by show 1 ≤ d + 1; omega, by show 64 ≤ 64 * (d + 1); omega⟩, (name_of_methodNamed B.named B.method).1, hE⟩
    have hk := hG _ ⟨gw1 (l := l) (e := e) (below := below) (hs0 := hs) (Q := gQm below (as.map (gc b K)).toArray s cl D cA b K hs r) O hA hF0 hEo, gw2 O hdec B.returns B.notSynchronized, gw3 O hA hF0 hsz (Nat.le_refl _) (Nat.le_refl _), gw4 O hF0 hall hml hsz (Nat.le_refl _) (Nat.le_refl _) (Nat.le_refl _) (Nat.le_refl _) IH, gw5, gw6, gw7 O hA hF0 (Nat.le_refl _) (Nat.le_refl _)⟩
    have hl := lv_entry (as.map (gc b K)) (n := md.2.2.1) (by rw [gSl_len _ ha]; exact hlen)
    rw [lg_entry_eq]
    generalize (lg_sl (as.map (gc b K)) ++ List.replicate (md.2.2.1 - (lg_sl (as.map (gc b K))).length) Slot.unset).toArray = ls at hl ⊢
    have hw := hk s.heap [] ls (Nat.le_refl _) (Nat.le_refl _) hH va_S.rf (by
      show lv_has ls (gEn md.2.2.1 as).length _
      rw [gEn_len hlen]
      refine ⟨hl.1, hl.2.1, fun q hq => hl.2.2 q ?_⟩
      obtain ⟨j, w, q1, q2, q3⟩ := gPr_of _ _ _ hq
      have q4 := gArg_in (b := b) (K := K) as 0 ha j w (gEn_at q1)
      rw [show q = (0 + j, gc b K w) from Prod.ext q2 q3]
      exact q4) (by show (gEn md.2.2.1 as).length = _; rw [gEn_len hlen, hmx])
    have hw : W p l e _ s m (as.map (gc b K)).toArray below meth c s.heap [] (hs.1.length - hs.1.length) (hs.2.2 - hs.2.2) (gQm below (as.map (gc b K)).toArray s cl D cA b K hs r) (F0 m 0 ls []) := hw
    rw [Nat.sub_self, Nat.sub_self] at hw
    exact hw
