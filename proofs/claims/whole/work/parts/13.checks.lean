/-! Checks that a program decides, and what they give. -/
theorem gLk {α : Type} : ∀ (l : List (Nat × α)) (k : Nat) (v : α), l.lookup k = some v → (k, v) ∈ l
  | [], k, v, h => by simp at h
  | (a, w) :: l, k, v, h => by
    rw [List.lookup_cons] at h
    split at h
    · rename_i hk
      have hk : k = a := by simpa using hk
      cases h
      subst hk
      exact List.mem_cons_self
    · exact List.mem_cons_of_mem _ (gLk l k v h)
def gAll2 {α : Type} (f : α → Nat → Bool) : List α → List Nat → Bool
  | [], _ => true
  | a :: l, p :: ps => f a p && gAll2 f l ps
  | _ :: _, [] => false
theorem gAll2_mem {α : Type} {f : α → Nat → Bool} : ∀ (l : List α) (ps : List Nat), gAll2 f l ps = true → ∀ a ∈ l, ∃ p, f a p = true
  | [], _, _, a, h => by simp at h
  | b :: l, [], h, a, ha => by simp [gAll2] at h
  | b :: l, p :: ps, h, a, ha => by
    simp only [gAll2, Bool.and_eq_true] at h
    rcases List.mem_cons.mp ha with rfl | ha
    · exact ⟨p, h.1⟩
    · exact gAll2_mem l ps h.2 a ha
def gAt (p : Nat) (w : Cond) : Bool := decide (lw_tbl[p]? = some w) && goodWord w
theorem gAt_in {p : Nat} {w : Cond} (h : gAt p w = true) : w ∈ gTs := by
  simp only [gAt, Bool.and_eq_true, decide_eq_true_eq] at h
  exact gTs_of (List.mem_of_getElem? h.1) h.2
def gDecB (cc : ByteArray) (ins : List (Nat × Instr)) : Bool := ins.all fun q => (match decode cc q.1 with
  | .ok (i, n) => decide (i = q.2) && (gSwi i || decide (n = gLn i))
  | .error _ => false) && gTok q.1 q.2
theorem gDec_of {cc : ByteArray} {ins : List (Nat × Instr)} (h : gDecB cc ins = true) : gDec cc ins ∧ gJmp ins := by
  have h1 := List.all_eq_true.mp h
  refine ⟨fun pc i hi => ?_, fun pc i hi => ?_⟩
  · have h2 := h1 _ (gLk _ _ _ hi)
    simp only [Bool.and_eq_true] at h2
    have h3 := h2.1
    split at h3
    · rename_i i9 n hd
      simp only [Bool.and_eq_true, decide_eq_true_eq, Bool.or_eq_true] at h3
      obtain ⟨rfl, h4⟩ := h3
      exact ⟨fun hs => by
        rcases h4 with h4 | h4
        · rw [hs] at h4; cases h4
        · rw [h4] at hd; exact hd, fun _ => ⟨n, hd⟩⟩
    · cases h3
  · have h2 := h1 _ (gLk _ _ _ hi)
    simp only [Bool.and_eq_true] at h2
    exact h2.2
def gIsR (t : FieldType) : Bool := match t with
  | .object _ => true
  | .array _ => true
  | _ => false
def gPfkB (own : String) (ini : Bool) (q : vw_C) (j kd : Nat) : Bool := match kd with
  | 0 => decide ((q.2.1 j).2.2.2 = false) && decide (parseFieldDescriptor (q.2.1 j).2.2.1 = some .int)
  | 1 => decide ((q.2.1 j).2.2.2 = false) && decide (parseFieldDescriptor (q.2.1 j).2.2.1 = some .boolean)
  | 2 => decide ((q.2.1 j).2.2.2 = true) && decide (parseFieldDescriptor (q.2.1 j).2.2.1 = some .int) && ini && decide (q.1 = own)
  | 4 => decide ((q.2.1 j).2.2.2 = true) && (match parseFieldDescriptor (q.2.1 j).2.2.1 with
    | some t => gIsR t
    | none => false) && ini && decide (q.1 = own)
  | _ => true
def gPfB (cl : List vw_C) (own : String) (ini : Bool) (e : Nat × Nat × Nat × Nat) (p : Nat) : Bool := match e with
  | (ix, ci, j, kd) => if 900 ≤ ci then (match kd with
      | 10 => gAt p (Cond.fieldLink own ix "java/lang/String" "value" "[B")
      | 11 => gAt p (Cond.fieldLink own ix "java/lang/String" "coder" "B")
      | 12 => gAt p (Cond.fieldLink own ix "java/lang/String" "COMPACT_STRINGS" "Z")
      | 13 => gAt p (Cond.fieldLink own ix "jdk/internal/util/Preconditions" "SIOOBE_FORMATTER" "Ljava/util/function/BiFunction;")
      | _ => false)
    else decide (kd < 10) && (match cl[ci]? with
      | some q => decide (j < q.2.2) && gAt p (Cond.fieldLink own ix q.1 (q.2.1 j).2.1 (q.2.1 j).2.2.1) && decide ((q.2.1 j).1 = q.1) && gPfkB own ini q j kd
      | none => false)
theorem gPf_of {cl : List vw_C} {own : String} {ini : Bool} {T : gT} {ps : List Nat} (h : gAll2 (gPfB cl own ini) T.1 ps = true) {nm : MethodName} (hn : ini = true → nm.name = "<init>") : gPfs cl own nm T ∧ gSfs own T := by
  refine ⟨fun ix ci j kd hl => ?_, fun ix ci j kd hl => ?_⟩
  · obtain ⟨p, hp⟩ := gAll2_mem _ _ h _ (gLk _ _ _ hl)
    simp only [gPfB] at hp
    split at hp
    · exact Or.inl (by assumption)
    · simp only [Bool.and_eq_true] at hp
      obtain ⟨-, hp⟩ := hp
      split at hp
      · rename_i q hq
        simp only [Bool.and_eq_true, decide_eq_true_eq] at hp
        refine Or.inr ⟨q, hq, hp.1.1.1, gAt_in hp.1.1.2, hp.1.2, ?_⟩
        have hk := hp.2
        unfold gPfkB at hk
        unfold gPfk
        split at hk
        · simpa using hk
        · simpa using hk
        · simp only [Bool.and_eq_true, decide_eq_true_eq] at hk
          exact ⟨hk.1.1.1, hk.1.1.2, hn hk.1.2, hk.2⟩
        · simp only [Bool.and_eq_true, decide_eq_true_eq] at hk
          refine ⟨hk.1.1.1, ?_, hn hk.1.2, hk.2⟩
          have hr := hk.1.1.2
          split at hr
          · rename_i t ht
            refine ⟨t, ht, ?_⟩
            cases t <;> simp [gIsR] at hr
            · exact Or.inl ⟨_, rfl⟩
            · exact Or.inr ⟨_, rfl⟩
          · cases hr
        · split <;> first | trivial | (exfalso; simp_all)
      · cases hp
  · obtain ⟨p, hp⟩ := gAll2_mem _ _ h _ (gLk _ _ _ hl)
    simp only [gPfB] at hp
    refine ⟨?_, ?_, ?_, ?_⟩ <;> (rintro rfl; split at hp <;> first | exact gAt_in hp | (simp at hp))
def gPkB (pl : List (String × Nat × Nat)) (own : String) (e : Nat × Value) (p : Nat) : Bool := match e with
  | (k, .int v) => gAt p (Cond.constant own k v)
  | (k, .long v) => gAt p (Cond.constantLong own k v)
  | (k, .retAddr i) => decide ((own, k, i) ∈ pl)
  | _ => false
theorem gPk_of {pl : List (String × Nat × Nat)} {own : String} {T : gT} {ps : List Nat} (h : gAll2 (gPkB pl own) T.2.2.1 ps = true) : gPks pl own T := by
  refine ⟨fun k v hl => ?_, fun k v hl => ?_, fun k i hl => ?_⟩ <;> obtain ⟨p, hp⟩ := gAll2_mem _ _ h _ (gLk _ _ _ hl)
  · exact gAt_in hp
  · exact gAt_in hp
  · simpa [gPkB] using hp
def gPcB (cl : List vw_C) (own : String) (e : Nat × Nat) (p : Nat) : Bool := decide (cl.length < 9000) && (if e.2 = 9100 then gAt p (Cond.classLink own e.1 ("[" ++ (FieldType.array .byte).toString)) else if e.2 = 9101 then gAt p (Cond.classLink own e.1 ("[" ++ (FieldType.array .int).toString)) else match cl[e.2]? with
  | some q => gAt p (Cond.classLink own e.1 q.1)
  | none => false)
theorem gPc_of {cl : List vw_C} {own : String} {T : gT} {ps : List Nat} (h : gAll2 (gPcB cl own) T.2.2.2 ps = true) : gPcs cl own T := by
  intro ix ci hl
  obtain ⟨p, hp⟩ := gAll2_mem _ _ h _ (gLk _ _ _ hl)
  simp only [gPcB, Bool.and_eq_true, decide_eq_true_eq] at hp
  obtain ⟨hn, hp⟩ := hp
  refine ⟨fun q hq => ?_, fun e => ?_, fun e => ?_⟩
  · have hlt := (List.getElem?_eq_some_iff.mp hq).1
    rw [if_neg (by omega), if_neg (by omega)] at hp
    simp only [hq] at hp
    exact gAt_in hp
  · rw [if_pos e] at hp
    exact gAt_in hp
  · rw [if_neg (by omega), if_pos e] at hp
    exact gAt_in hp
def gPmB (cl : List vw_C) (own : String) (ms : List gMd) (mp : List (Nat × Nat × Nat × Nat)) (e : Nat × Nat × Nat × Nat) (p : Nat) : Bool := match e with
  | (ix, y, n, kd) => if y = 9000 then gAt p (Cond.methodLink own ix Lib.objectInit) else if y = 9003 then gAt p (Cond.methodLink own ix arraycopyName) else if y = 9001 then gAt p (Cond.methodLink own ix Lib.Math.max.name) else if y = 9002 then gAt p (Cond.methodLink own ix Lib.Math.min.name) else
    (match ms[y]?, mp[y]? with
    | some md, some q => (if kd < 3000 then gAt p (Cond.methodLink own ix md.1) else decide ((own, ix, md.1, "GateField") ∈ gNl)) && decide ((parseMethodDescriptor md.1.desc).map (fun d => d.parameters.length) = some (if kd = 0 then n else n - 1)) &&
      (if kd = 0 then gAt q.2.2.1 (Cond.static md.1) else gAt q.2.2.1 (Cond.instanceMethod md.1) && (if kd < 1000 then gAt q.2.2.2 (Cond.selects md.1.cls md.1 md.1) && (match cl[kd - 1]? with
          | some z => decide (z.1 = md.1.cls)
          | none => true) else if kd < 2000 ∨ 3000 ≤ kd then decide (md.1.name = "<init>") && decide (md.2.2.2.1 = none) else gAt q.2.2.2 (Cond.selects md.1.cls md.1 md.1) && decide (md.1.cls = "java/lang/String")))
    | _, _ => false)
theorem gPm_of {cl : List vw_C} {own : String} {ms : List gMd} {mp : List (Nat × Nat × Nat × Nat)} {T : gT} {ps : List Nat} (h : gAll2 (gPmB cl own ms mp) T.2.1 ps = true) : gPms cl own ms T := by
  intro ix y n kd hl
  obtain ⟨p, hp⟩ := gAll2_mem _ _ h _ (gLk _ _ _ hl)
  simp only [gPmB] at hp
  unfold gPmk
  split
  · simpa using gAt_in hp
  · exact gAt_in hp
  · exact gAt_in hp
  · exact gAt_in hp
  · rename_i h1 h2 h3 h4
    rw [if_neg (fun e => h1 (by rw [e])), if_neg (fun e => h2 (by rw [e])), if_neg (fun e => h3 (by rw [e])), if_neg (fun e => h4 (by rw [e]))] at hp
    split at hp
    · rename_i md q hmd hq
      simp only [Bool.and_eq_true, decide_eq_true_eq] at hp
      refine ⟨md, hmd, ?_, hp.1.2, ?_⟩
      · have h3 := hp.1.1
        split at h3
        · rw [if_pos (by assumption)]; exact gAt_in h3
        · rw [if_neg (by assumption)]; exact ⟨_, of_decide_eq_true h3⟩
      · have h3 := hp.2
        split at h3
        · rw [if_pos (by assumption)]; exact gAt_in h3
        · rw [if_neg (by assumption)]
          simp only [Bool.and_eq_true] at h3
          refine ⟨gAt_in h3.1, ?_⟩
          have h4 := h3.2
          split at h4
          · rw [if_pos (by assumption)]
            simp only [Bool.and_eq_true] at h4
            refine ⟨gAt_in h4.1, fun z hz => ?_⟩
            have h5 := h4.2
            rw [hz] at h5
            exact of_decide_eq_true h5
          · rw [if_neg (by assumption)]
            split at h4
            · rw [if_pos (by assumption)]
              simpa using h4
            · rw [if_neg (by assumption)]
              simp only [Bool.and_eq_true, decide_eq_true_eq] at h4
              exact ⟨gAt_in h4.1, h4.2⟩
    · cases hp
def gFxB (md : gMd) (mp : Nat × Nat × Nat × Nat) : Bool := gDecB md.2.1 md.2.2.2.2.1 && gAt mp.1 (Cond.code md.1 md.2.1 md.2.2.1 md.2.2.2.1) && plainName md.1.cls && decide (md.2.2.1 ≤ 40) && gAt mp.2.1 (Cond.initialized md.1.cls) && decide (md.1.cls ≠ "java/lang/invoke/MethodHandle" ∧ md.1.cls ≠ "java/lang/invoke/VarHandle")
theorem gFx_of {pl : List (String × Nat × Nat)} {cl : List vw_C} {ms : List gMd} {md : gMd} {mp : Nat × Nat × Nat × Nat} (h : gFxB md mp = true) (h1 : gPfs cl md.1.cls md.1 md.2.2.2.2.2 ∧ gSfs md.1.cls md.2.2.2.2.2) (h2 : gPks pl md.1.cls md.2.2.2.2.2) (h3 : gPms cl md.1.cls ms md.2.2.2.2.2) (h4 : gPcs cl md.1.cls md.2.2.2.2.2) : gFx pl cl ms md := by
  simp only [gFxB, Bool.and_eq_true, decide_eq_true_eq] at h
  obtain ⟨⟨⟨⟨⟨a1, a2⟩, a3⟩, a4⟩, a5⟩, a6⟩ := h
  obtain ⟨b1, b2⟩ := gDec_of a1
  exact ⟨b1, b2, h1.1, h1.2, h2, h3, h4, gAt_in a2, a3, a4, gAt_in a5, a6⟩
