/-! THE CLAIM OUT OF ONE WALK OF THE LAW'S BODY. Your part is whole_start (and what it stands on); all else here is the same for every law, but numbers. -/
def R_law : String := "GateFieldLaw"
def lw_P (b : Addr) (xs : List Int32) (args : Array Value) (s : State) : Prop := args = #[.ref b] ∧ s.IntsAt b xs ∧ xs.length ≤ 3076 ∧ (Jvm.Cond.and given_1 narrow_1).before args s = true
def lw_Q (_ : Array Value) (s : State) (o : Outcome) (t : State) : Prop := o = .returned (some (.int 1)) ∧ Framed s o t [] 600000 7302250
def lw_Z (below : List Frame) (a : Array Value) (s : State) : State → Prop := fun t => ∃ o, t.status = .running ∧ Ended t below o ∧ lw_Q a s o t
/-- the law's own end, with 1 on the stack, nothing written that was there before, its room as the claim has it -/
theorem lw_ret {p : Program} {l : Launch} {e : Env} {s : State} {m : MethodId} {below : List Frame} {meth : Method} {c : Code} {b : Nat} (hx : p.tables.exec = Jvm.exec) (hb : c.code = code) (hr : meth.sig.returnType = ret) (hlocks : meth.locks = false) {pc : Nat} {H : Heap} {ls : Array Slot} (hdg : decode code pc = .ok (.ireturn, 1)) : W p l e room_1 s m #[Value.ref b] below meth c H [] 600000 7302250 (lw_Z below #[Value.ref b] s) (F0 m pc ls [.int 1]) := by
  intro T hT X
  obtain ⟨fs, hret, hrun, hended, hW, hframe⟩ := X.leave (v := some (.int 1)) (hlocks := hlocks) (fun h => by rw [hr] at h; cases h)
  have hmeth' : T.vm.method? m = some meth := X.method'
  refine ⟨T.setFrames fs, ?_, .returned (some (.int 1)), hrun, hended, rfl, ⟨_, rfl⟩, hW, hframe⟩
  jvm_step X.here [X.here.top, hx, hb, hdg, hmeth', hr, ret, narrow_b1]
  (try refine ⟨rfl, ?_⟩); (try refine ⟨rfl, ?_⟩)
  first | (intro acts; rw [hret _ acts rfl rfl rfl]) | rw [hret _ _ rfl rfl rfl]
  exact Steps.refl _
/-- what holds at the law's entry: the machine, the code, the tables' words (any of lw_tbl by 'hts w (by decide +kernel)'), the script of L ints xs at the cell b, what the Statement gives of the start (any of its parts by flat_of_before) -/
def lw_At (p : Program) (s : State) (m : MethodId) (meth : Method) (c : Code) (b L : Nat) (xs : Nat → Int32) : Prop :=
  p.tables.exec = Jvm.exec ∧ c.code = code ∧ meth.sig.returnType = ret ∧ c.maxLocals = 4 ∧ s.vm.findClass R_law = some m.cls ∧ (∀ w ∈ lw_tbl, w.before #[Value.ref b] s = true) ∧ va_X b L xs s s.heap ∧ b < s.heap.size ∧ meth.locks = false ∧ (Jvm.Cond.and given_1 narrow_1).before #[Value.ref b] s = true ∧ meth.name = "law"
def gTm (i : Nat) : Term := match i with
  | 0 => .string "GateField$Reader" 106
  | 1 => .string "GateField$Reader" 116
  | 2 => .string "GateField$Reader" 118
  | 3 => .string "GateField$Reader" 123
  | 4 => .string "GateField$Reader" 128
  | 5 => .string "GateFieldModel" 326
  | _ => .string "GateFieldModel" 332
theorem gst_ex : ∀ i, i < 7 → Cond.exactly (gTm i) "java/lang/String" ∈ flatC (Jvm.Cond.and given_1 narrow_1) := by decide +kernel
theorem gst_co : ∀ i, i < 7 → Cond.eq (.field (gTm i) "java/lang/String" "coder" "B") (.int 0) ∈ flatC (Jvm.Cond.and given_1 narrow_1) := by decide +kernel
theorem gst_ar : ∀ i, i < 7 → Cond.arrayOf (.field (gTm i) "java/lang/String" "value" "[B") .byte ∈ flatC (Jvm.Cond.and given_1 narrow_1) := by decide +kernel
theorem gst_le : ∀ i, i < 7 → Cond.eq (.length (.field (gTm i) "java/lang/String" "value" "[B")) (.int (Int32.ofNat (gSl.getD i 0))) ∈ flatC (Jvm.Cond.and given_1 narrow_1) := by decide +kernel
theorem gst_el : ∀ i, i < 7 → ∀ j, j < gSl.getD i 0 → Cond.eq (.elem (.field (gTm i) "java/lang/String" "value" "[B") (.int (Int32.ofNat j))) (.int ((gSb.getD i []).getD j 0)) ∈ flatC (Jvm.Cond.and given_1 narrow_1) := by decide +kernel
theorem gst_ne : ∀ i, i < 7 → ∀ j, j < i → Cond.not (Cond.eq (gTm j) (gTm i)) ∈ flatC (Jvm.Cond.and given_1 narrow_1) := by decide +kernel
theorem gst_ln : ∀ i, i < 7 → gSl.getD i 0 < 2 ^ 31 := by decide +kernel
def gSame : List (String × Nat × String × Nat) := [("GateField$Reader", 106, "GateFieldModel", 343), ("GateField$Reader", 116, "GateFieldModel", 345), ("GateField$Reader", 118, "GateFieldModel", 351), ("GateField$Reader", 123, "GateFieldModel", 356), ("GateField$Reader", 128, "GateFieldModel", 361)]
theorem gst_sm : ∀ q ∈ gSame, Cond.eq (.string q.1 q.2.1) (.string q.2.2.1 q.2.2.2) ∈ flatC (Jvm.Cond.and given_1 narrow_1) := by decide +kernel
def gTx : List String := [".inputs", ".outputs", ".latch", ".names", ".end", "0", "1"]
theorem gst_rf : ∀ q ∈ gPl, Cond.stringRef q.1 q.2.1 (gTx.getD q.2.2 "") ∈ lw_tbl := by decide +kernel
theorem gst_st : Cond.eq (.static "java/lang/String" "COMPACT_STRINGS" "Z") (.int 1) ∈ flatC (Jvm.Cond.and given_1 narrow_1) ∧ Cond.isRef (.static "jdk/internal/util/Preconditions" "SIOOBE_FORMATTER" "Ljava/util/function/BiFunction;") ∈ flatC (Jvm.Cond.and given_1 narrow_1) := by decide +kernel
theorem gst_ls : Cond.laysStatic "java/lang/String" "COMPACT_STRINGS" "Z" ∈ lw_tbl ∧ Cond.initialized "java/lang/String" ∈ lw_tbl ∧ Cond.laysStatic "jdk/internal/util/Preconditions" "SIOOBE_FORMATTER" "Ljava/util/function/BiFunction;" ∈ lw_tbl ∧ Cond.initialized "jdk/internal/util/Preconditions" ∈ lw_tbl := by decide +kernel
theorem gst_nl : ∀ q ∈ gNl, Cond.methodLinkNest q.1 q.2.1 q.2.2.1 q.2.2.2 ∈ lw_tbl := by decide +kernel
theorem gst_ao : Cond.arrayOver (.array .int) ∈ lw_tbl ∧ Cond.arrayOver (.array .byte) ∈ lw_tbl := by decide +kernel
def gSE (L : Nat) (xs : Nat → Int32) : gEv := fun k => if k = 1000 then (L, xs) else (gSl.getD (k - 100) 0, fun j => (gSb.getD (k - 100) []).getD j 0)
theorem gSE_ok (L : Nat) (xs : Nat → Int32) : gEok (gSE L xs) := fun i hi => by
  unfold gSE
  rw [if_neg (by omega), show 100 + i - 100 = i by omega]
def gFm (f : Nat) : Value := match f with
  | 0 => .null
  | a + 1 => .ref a
section GST
variable {p : Program} {e : Env} {s : State} {m : MethodId} {below : List Frame} {meth : Method} {c : Code} {bs L : Nat} {xs : Nat → Int32}
theorem gst_K (C0 : lw_At p s m meth c bs L xs) : ∃ K : Nat → Nat, K 1000 = bs ∧ gKs gPl (gSE L xs) K s.heap.size s := by
  obtain ⟨hx, hb, hr, hml, hown, hts, hX, hbl, hlk, hgv, hnm⟩ := C0
  have hs := flat_of_before _ hgv
  have hA : ∀ a : Nat, a < s.heap.size → ¬ (fun q => s.heap.size ≤ q) a := fun a h h2 => by
    have h2 : s.heap.size ≤ a := h2
    omega
  obtain ⟨adK, adV, hS, hev⟩ := vk_Sof (args := #[Value.ref bs]) (s := s) (N := 7) (tm := gTm) (len := gSl) (byt := gSb) (A := fun q => s.heap.size ≤ q) gst_ln (fun i hi => hs _ (gst_ex i hi)) (fun i hi => hs _ (gst_co i hi)) (fun i hi => hs _ (gst_ar i hi)) (fun i hi => hs _ (gst_le i hi)) (fun i hi j hj => hs _ (gst_el i hi j hj)) (fun i j hi hj hij => by
    rcases Nat.lt_or_gt_of_ne hij with h | h
    · exact Or.inl (hs _ (gst_ne j hj i h))
    · exact Or.inr (hs _ (gst_ne i hi j h))) hA
  have hZ1 : va_Z "java/lang/String" "COMPACT_STRINGS" "Z" (.int 1) (fun q => s.heap.size ≤ q) s s.heap := va_Zof (args := #[Value.ref bs]) (hts _ gst_ls.1) (hts _ gst_ls.2.1) (va_eqt (hs _ gst_st.1)) hA
  have hZ2 := va_Zqof (args := #[Value.ref bs]) (A := fun q => s.heap.size ≤ q) (hts _ gst_ls.2.2.1) (hts _ gst_ls.2.2.2) (hs _ gst_st.2) hA
  have hZ3 : ∃ f : Nat, va_Z "jdk/internal/util/Preconditions" "SIOOBE_FORMATTER" "Ljava/util/function/BiFunction;" (gFm f) (fun q => s.heap.size ≤ q) s s.heap := by
    rcases hZ2 with h | ⟨t, h⟩
    · exact ⟨0, h⟩
    · exact ⟨t + 1, h⟩
  obtain ⟨f, hf⟩ := hZ3
  let K : Nat → Nat := fun k => if k < 100 then adK k else if k < 1000 then adV (k - 100) else if k = 1000 then bs else f
  have hK1 : ∀ i, i < 7 → K i = adK i := fun i hi => if_pos (by omega)
  have hK2 : ∀ i, i < 7 → K (100 + i) = adV i := fun i hi => by
    show (if 100 + i < 100 then _ else if 100 + i < 1000 then adV (100 + i - 100) else _) = _
    rw [if_neg (by omega), if_pos (by omega), show 100 + i - 100 = i by omega]
  have hK3 : K 1000 = bs := rfl
  have hK4 : gK0 K = gFm f := rfl
  refine ⟨K, hK3, ⟨fun i hi => ?_, fun i j hi hj h => hS.2 i j hi hj (by rw [← hK1 i hi, ← hK1 j hj]; exact h)⟩, ⟨?_, ?_, ?_⟩, hZ1, ?_, ?_, ?_, ?_⟩
  · have := hS.1 i hi
    rw [hK1 i hi]
    show _ ∧ _ ∧ va_OF "java/lang/String" "value" "[B" (.ref (K (100 + i))) (adK i) _ s s.heap ∧ va_T .byte (K (100 + i)) _ _ _ s s.heap
    rw [hK2 i hi]
    exact this
  · rw [hK3]; exact hX
  · rw [hK3]; exact hbl
  · rw [hK3]; exact hbl
  · rw [hK4]; exact hf
  · have e0 : ∀ i, i < 7 → (gTm i).eval #[Value.ref bs] s none [] s = some (.ref (K i)) := fun i hi => by rw [hK1 i hi]; exact hev i hi
    have sm : ∀ q ∈ gSame, ∀ a, (Term.string q.1 q.2.1).eval #[Value.ref bs] s none [] s = some (.ref a) → (Term.string q.2.2.1 q.2.2.2).eval #[Value.ref bs] s none [] s = some (.ref a) := by
      intro q hq a ha
      have h := hs _ (gst_sm q hq)
      cases hv : (Term.string q.2.2.1 q.2.2.2).eval #[Value.ref bs] s none [] s with
      | none => simp [Cond.before, Cond.holds, Cond.value, ha, hv] at h
      | some w =>
        cases w <;> simp [Cond.before, Cond.holds, Cond.value, ha, hv] at h ⊢
        all_goals first | exact h.symm | exact h
    have main : ∀ q ∈ gPl, (Term.string q.1 q.2.1).eval #[Value.ref bs] s none [] s = some (.ref (K q.2.2)) := by
      intro q hq
      simp only [gPl, List.mem_cons, List.not_mem_nil, or_false] at hq
      rcases hq with rfl | rfl | rfl | rfl | rfl | rfl | rfl | rfl | rfl | rfl | rfl | rfl
      · exact e0 0 (by omega)
      · exact e0 1 (by omega)
      · exact e0 2 (by omega)
      · exact e0 3 (by omega)
      · exact e0 4 (by omega)
      · exact e0 5 (by omega)
      · exact e0 6 (by omega)
      · exact sm ("GateField$Reader", 106, "GateFieldModel", 343) (by decide) _ (e0 0 (by omega))
      · exact sm ("GateField$Reader", 116, "GateFieldModel", 345) (by decide) _ (e0 1 (by omega))
      · exact sm ("GateField$Reader", 118, "GateFieldModel", 351) (by decide) _ (e0 2 (by omega))
      · exact sm ("GateField$Reader", 123, "GateFieldModel", 356) (by decide) _ (e0 3 (by omega))
      · exact sm ("GateField$Reader", 128, "GateFieldModel", 361) (by decide) _ (e0 4 (by omega))
    exact fun q hq => ⟨gTx.getD q.2.2 "", vk_R.of (hts _ (gst_rf q hq)) (main q hq)⟩
  · exact fun q hq => va_Nw.of rfl (hts _ (gst_nl q hq))
  · intro ty ht
    rcases ht with rfl | rfl
    · obtain ⟨d5, c5, k5, h1, -, g2, g3, g1⟩ := arrayOverA_spec (hts _ gst_ao.1)
      exact ⟨d5, c5, k5, h1, g2, g3, g1⟩
    · obtain ⟨d5, c5, k5, h1, -, g2, g3, g1⟩ := arrayOverA_spec (hts _ gst_ao.2)
      exact ⟨d5, c5, k5, h1, g2, g3, g1⟩
theorem gst_D (C0 : lw_At p s m meth c bs L xs) (hcl : gCls gCl) (hdf : gDfs gCl gDf) : ∃ D : va_G, ∀ (ci : Nat) (q : vw_C), gCl[ci]? = some q → u_Kn s q.1 q.2.1 q.2.2 (D.1 ci) (D.2 ci) := by
  obtain ⟨hx, hb, hr, hml, hown, hts, -⟩ := C0
  have hgt : ∀ w ∈ gTs, w.before #[Value.ref bs] s = true := fun w h => hts w (List.mem_filter.mp h).1
  have h0 : ∀ ci : Nat, ∃ d : ClassId × (Nat → Nat), ∀ q : vw_C, gCl[ci]? = some q → u_Kn s q.1 q.2.1 q.2.2 d.1 d.2 := by
    intro ci
    cases hq : gCl[ci]? with
    | none => exact ⟨(0, fun _ => 0), fun q h => by cases h⟩
    | some q =>
      have hlt : ci < gDf.length := by
        have h1 : ci < gCl.length := (List.getElem?_eq_some_iff.mp hq).1
        have h2 : gCl.length = gDf.length := by decide
        omega
      obtain ⟨q', h1, -, h3, -⟩ := hdf ci gDf[ci] (List.getElem?_eq_getElem hlt)
      cases hq.symm.trans h1
      obtain ⟨cC, iS, hu⟩ := u_known hgt (hcl ci q hq).1 (hgt _ h3)
      exact ⟨(cC, iS), fun q2 h => by cases h; exact hu⟩
  obtain ⟨d, hd⟩ := Classical.axiomOfChoice h0
  exact ⟨(fun ci => (d ci).1, fun ci => (d ci).2), fun ci q h => hd ci q h⟩
theorem gst_A (C0 : lw_At p s m meth c bs L xs) (h1 : Cond.arrayClass .int ∈ gTs) (h2 : Cond.arrayClass .byte ∈ gTs) (h3 : Cond.arrayClass .boolean ∈ gTs) (h4 : Cond.arrayClass .long ∈ gTs) : ∃ cA : FieldType → ClassId, ∀ (k : Nat) (q : ClassId × FieldType), (gTy cA)[k]? = some q → ArrOfT s q.1 q.2 ∧ va_RA s q.1 q.2 := by
  obtain ⟨hx, hb, hr, hml, hown, hts, -⟩ := C0
  have hgt : ∀ w ∈ gTs, w.before #[Value.ref bs] s = true := fun w h => hts w (List.mem_filter.mp h).1
  obtain ⟨c1, k1, d1, a1, a2, a3⟩ := Cond.arrayClass_spec (hgt _ h1)
  obtain ⟨c2, k2, d2, b1, b2, b3⟩ := Cond.arrayClass_spec (hgt _ h2)
  obtain ⟨c3, k3, d3, e1, e2, e3⟩ := Cond.arrayClass_spec (hgt _ h3)
  obtain ⟨c4, k4, d4, f1, f2, f3⟩ := Cond.arrayClass_spec (hgt _ h4)
  obtain ⟨d5, c5, k5, -, -, g2, g3, g1⟩ := arrayOverA_spec (hts _ gst_ao.1)
  obtain ⟨d6, c6, k6, -, -, i2, i3, i1⟩ := arrayOverA_spec (hts _ gst_ao.2)
  refine ⟨fun t => match t with
    | .int => c1
    | .byte => c2
    | .boolean => c3
    | .long => c4
    | .array .int => c5
    | .array .byte => c6
    | _ => 0, fun k q h => ?_⟩
  have hq := List.mem_of_getElem? h
  simp only [gTy, List.mem_cons, List.not_mem_nil, or_false] at hq
  rcases hq with rfl | rfl | rfl | rfl | rfl | rfl
  · exact ⟨fun n z => ⟨fun k h => (by cases h), k1, a2, d1, a3⟩, a1⟩
  · exact ⟨fun n z => ⟨fun k h => (by cases h), k2, b2, d2, b3⟩, b1⟩
  · exact ⟨fun n z => ⟨fun k h => (by cases h), k3, e2, d3, e3⟩, e1⟩
  · exact ⟨fun n z => ⟨fun k h => (by cases h), k4, f2, d4, f3⟩, f1⟩
  · exact ⟨fun n z => ⟨fun k h => (by cases h), k5, g2, d5, g3⟩, g1⟩
  · exact ⟨fun n z => ⟨fun k h => (by cases h), k6, i2, d6, i3⟩, i1⟩
end GST
section GSM
variable {p : Program} {e : Env} {s : State} {m : MethodId} {below : List Frame} {meth : Method} {c : Code} {bs L : Nat} {xs : Nat → Int32}
theorem gst_ret {l : Launch} {D : va_G} {cA : FieldType → ClassId} {K : Nat → Nat} {hs0 : gHS} {r : Option Value × gHS} {sh : List gD} {sr : gS} {u : Nat} (C0 : lw_At p s m meth c bs L xs) (hdec : gDec code gY279) (hr : r = (some (.int 1), (sh, sr, u))) (h1 : sh.length - hs0.1.length ≤ 600000) (h2 : u - hs0.2.2 ≤ 7302250) : gCl2 gY279 (some .boolean) r (Gw p l e room_1 s m #[Value.ref bs] below meth c gCl D cA s.heap.size K hs0 (lw_Z below #[Value.ref bs] s)) := by
  obtain ⟨hx, hb, hrt, hml, hown, hts, hX, hbl, hlk, hgv, hnm⟩ := C0
  intro f i hi h
  obtain ⟨pc, L0, st, hs⟩ := f
  intro H locs ls a1 a2 hH hS hl hL
  cases i <;> first | (simp [gRet] at h; done) | skip
  case ireturn =>
    have hd := (hdec pc _ hi).1 rfl
    simp only [gRet] at h
    split at h
    · rename_i hh; cases hh
    · split at h
      · subst hr
        cases h
        refine va_forget (fun q hq => hS.2.2 q hq) ?_
        exact W.widen h1 h2 (lw_ret hx hb hrt hlk hd)
      · cases h
    · rename_i hh; cases hh
    · rename_i hh; cases hh
    · cases h
theorem gst_main (hA : gAll gCl gDf) (hall : ∀ (y : Nat) (md' : gMd), gMs[y]? = some md' → gFx gPl gCl gMs md') (hF : gFx7 gPl gCl gMs gM279 True) (hpure : ∀ (L : Nat) (xs : Nat → Int32), L ≤ 3076 → ∃ sr, p_Law_law (gSE L xs) gZ0 = some (1, sr)) (l : Launch) (hL : L ≤ 3076) (C0 : lw_At p s m meth c bs L xs) : W p l e room_1 s m #[Value.ref bs] below meth c s.heap [] 0 0 (lw_Z below #[Value.ref bs] s) (entryFrame m ([Value.ref bs] : List Value).toArray 4) := by
  obtain ⟨K, hK0, hKs⟩ := gst_K C0
  obtain ⟨D, hD⟩ := gst_D C0 hA.1 hA.2.1
  obtain ⟨b1, b2, b3, b4⟩ := hA.2.2.2.2.2.1
  obtain ⟨cA, hcA⟩ := gst_A C0 b1 b2 b3 b4
  obtain ⟨sr, hp⟩ := hpure L xs hL
  have hF0 := hF
  obtain ⟨hdec, -⟩ := hF
  have hml : gMs.length < 9000 := by decide +kernel
  have C1 := C0
  obtain ⟨hx, hb, hrt, hmx, hown, hts, hX, hbl, hlk, hgv, hnm⟩ := C0
  have hgt : ∀ w ∈ gTs, w.before #[Value.ref bs] s = true := fun w h => hts w (List.mem_filter.mp h).1
  have O : gOk p room_1 s m #[Value.ref bs] meth c gCl D cA s.heap.size K (gSE L xs) gM279.2.1 gM279.1.cls gM279.1 gPl := ⟨hx, hb, hown, hgt, ⟨hD, hcA⟩, ⟨by decide, by decide⟩, hnm, hKs⟩
  have hsz : s.heap.size = s.heap.size + ([] : List gD).length := rfl
  have hrc : gSh.length - ([] : List gD).length ≤ room_1.cells := by decide +kernel
  have hrs : 1862292 - 0 ≤ room_1.slots := by decide +kernel
  have hk := c_Law_law (gSE L xs) 0 gZ0 hp _ ⟨gw1 (l := l) (e := e) (below := below) (hs0 := ([], gZ0, 0)) (Q := lw_Z below #[Value.ref bs] s) O hA hF0 (gSE_ok L xs), gst_ret C1 hdec rfl (by decide +kernel) (by decide +kernel), gw3 O hA hF0 hsz hrc hrs, gw4 O hF0 hall hml hsz (by decide) (by decide) hrc hrs (fun y md' as hs r a1 a2 a3 => gSound hA hall hml (gSE_ok L xs) 12 y md' as hs r a1 a2 a3), gw5, gw6, gw7 O hA hF0 hrc hrs⟩
  have hl := lv_entry [Value.ref bs] (n := 4) (Nat.le_of_ble_eq_true rfl)
  rw [lg_entry_eq]
  generalize (lg_sl [Value.ref bs] ++ List.replicate (4 - (lg_sl [Value.ref bs]).length) Slot.unset).toArray = ls at hl ⊢
  have hw := hk s.heap [] ls (Nat.le_refl _) (Nat.le_refl _) (fun k q h => by simp [gW] at h) va_S.rf (by
    refine ⟨hl.1, hl.2.1, fun q hq => hl.2.2 q ?_⟩
    have hq : q ∈ [(0, gc s.heap.size K (.retAddr 1000))] := hq
    rw [List.mem_singleton] at hq
    subst hq
    show (0, Value.ref (K 1000)) ∈ _
    rw [hK0]
    exact List.mem_cons_self) (by show 4 = _; rw [hmx])
  exact hw
end GSM
