/-! The machine's steps, over the kit's rows. -/
def gSwi (i : Instr) : Bool := match i with
  | .tableswitch .. => true
  | _ => false
def gLn (i : Instr) : Nat := match i with
  | .bipush _ => 2
  | .ldc _ => 2
  | .iload _ => 2
  | .lload _ => 2
  | .aload _ => 2
  | .istore _ => 2
  | .lstore _ => 2
  | .astore _ => 2
  | .newarray _ => 2
  | .sipush _ => 3
  | .ldc_w _ => 3
  | .ldc2_w _ => 3
  | .iinc _ _ => 3
  | .goto _ => 3
  | .if_icmp _ _ => 3
  | .ifCond _ _ => 3
  | .getfield _ => 3
  | .putfield _ => 3
  | .invokestatic _ => 3
  | .invokevirtual _ => 3
  | .invokespecial _ => 3
  | .new _ => 3
  | .multianewarray _ _ => 4
  | _ => 1
def gDec (cc : ByteArray) (ins : List (Nat × Instr)) : Prop := ∀ pc i, ins.lookup pc = some i → (gSwi i = false → decode cc pc = .ok (i, gLn i)) ∧ (gSwi i = true → ∃ n, decode cc pc = .ok (i, n))
def gTy (cA : FieldType → ClassId) : List (ClassId × FieldType) := [(cA .int, .int), (cA .byte, .byte), (cA .boolean, .boolean), (cA .long, .long), (cA (.array .int), .array .int), (cA (.array .byte), .array .byte)]
def gHp (cl : List vw_C) (D : va_G) (cA : FieldType → ClassId) (b : Nat) (hs : gHS) (H : Heap) : Prop := va_P D cl (gW cA b hs.2.1 hs.1) H ∧ H.size = b + hs.1.length
/-- what is known of the kinds of cells: their fields' words, kinds and names -/
def gCls (cl : List vw_C) : Prop := ∀ (ci : Nat) (q : vw_C), cl[ci]? = some q → (∀ w ∈ u_ws q.1 q.2.1 q.2.2, w ∈ lw_tbl) ∧ (∃ ty : Nat → FieldType, ∀ k, k < q.2.2 → parseFieldDescriptor (q.2.1 k).2.2.1 = some (ty k)) ∧ ∀ a, a < q.2.2 → ∀ b, b < q.2.2 → a ≠ b → (q.2.1 a).2.1 ≠ (q.2.1 b).2.1
/-- a field's place in a file: of the kind 0 an int, 1 a boolean, 2 and 3 the same but final (in a constructor), 4 a final reference (likewise), 5 any that is read alone -/
def gPfk (own : String) (nm : MethodName) (q : vw_C) (j kd : Nat) : Prop := match kd with
  | 0 => (q.2.1 j).2.2.2 = false ∧ parseFieldDescriptor (q.2.1 j).2.2.1 = some .int
  | 1 => (q.2.1 j).2.2.2 = false ∧ parseFieldDescriptor (q.2.1 j).2.2.1 = some .boolean
  | 2 => (q.2.1 j).2.2.2 = true ∧ parseFieldDescriptor (q.2.1 j).2.2.1 = some .int ∧ nm.name = "<init>" ∧ q.1 = own
  | 4 => (q.2.1 j).2.2.2 = true ∧ (∃ ty, parseFieldDescriptor (q.2.1 j).2.2.1 = some ty ∧ ((∃ n, ty = .object n) ∨ ∃ t, ty = .array t)) ∧ nm.name = "<init>" ∧ q.1 = own
  | _ => True
def gPfs (cl : List vw_C) (own : String) (nm : MethodName) (T : gT) : Prop := ∀ ix ci j kd, T.1.lookup ix = some (ci, j, kd) → ∃ q, cl[ci]? = some q ∧ j < q.2.2 ∧ Cond.fieldLink own ix q.1 (q.2.1 j).2.1 (q.2.1 j).2.2.1 ∈ lw_tbl ∧ (q.2.1 j).1 = q.1 ∧ gPfk own nm q j kd
section GS
variable {p : Program} {l : Launch} {e : Env} {R : Room} {s : State} {m : MethodId} {args : Array Value} {below : List Frame} {meth : Method} {c : Code} {D : va_G} {cA : FieldType → ClassId} {b : Nat} {K : Nat → Nat} {E : gEv} {cc : ByteArray} {own : String} {hs0 : gHS} {Q : State → Prop} {cl : List vw_C} {T : gT} {ins : List (Nat × Instr)} {nm : MethodName}
def Gw (p : Program) (l : Launch) (e : Env) (R : Room) (s : State) (m : MethodId) (args : Array Value) (below : List Frame) (meth : Method) (c : Code) (cl : List vw_C) (D : va_G) (cA : FieldType → ClassId) (b : Nat) (K : Nat → Nat) (hs0 : gHS) (Q : State → Prop) (f : gFr) : Prop :=
  ∀ (H : Heap) (locs : List Loc) (ls : Array Slot), hs0.1.length ≤ f.2.2.2.1.length → hs0.2.2 ≤ f.2.2.2.2.2 → gHp cl D cA b f.2.2.2 H → va_S (fun q => b ≤ q) s.heap H locs → gLs b K ls f.2.1 → f.2.1.length = c.maxLocals →
    W p l e R s m args below meth c H locs (f.2.2.2.1.length - hs0.1.length) (f.2.2.2.2.2 - hs0.2.2) Q (F0 m f.1 ls (f.2.2.1.map (gc b K)))
/-- the frame's surroundings -/
def gOk (p : Program) (R : Room) (s : State) (m : MethodId) (args : Array Value) (meth : Method) (c : Code) (cl : List vw_C) (D : va_G) (cA : FieldType → ClassId) (b : Nat) (K : Nat → Nat) (E : gEv) (cc : ByteArray) (own : String) (nm : MethodName) : Prop :=
  p.tables.exec = Jvm.exec ∧ c.code = cc ∧ s.vm.findClass own = some m.cls ∧ (∀ w ∈ lw_tbl, w.before args s = true) ∧ va_K D cl (gTy cA) s ∧ (1 ≤ R.frames ∧ 64 ≤ R.locals) ∧ meth.name = nm.name ∧ (∀ k, va_X (K k) (E k).1 (E k).2 s s.heap ∧ K k < b)

theorem gw1_null (O : gOk p R s m args meth c cl D cA b K E cc own nm) (hdec : gDec cc ins) {f f' : gFr} (hi : ins.lookup f.1 = some (.aconst_null)) (h : gStep E T (.aconst_null) f = some f') (hk : Gw p l e R s m args below meth c cl D cA b K hs0 Q f') : Gw p l e R s m args below meth c cl D cA b K hs0 Q f := by
  obtain ⟨hx, hb, hown, hts, hK, hR, hnm, hE⟩ := O
  obtain ⟨pc, L, st, hs⟩ := f
  intro H locs ls h1 h2 hH hS hl hL
  have hd := (hdec pc _ hi).1 rfl
  cases h
  exact lv_null hx hb hd (hk H locs ls h1 h2 hH hS hl hL)
theorem gw1_iconst (O : gOk p R s m args meth c cl D cA b K E cc own nm) (hdec : gDec cc ins) {f f' : gFr} {n : Int} (hi : ins.lookup f.1 = some (.iconst n)) (h : gStep E T (.iconst n) f = some f') (hk : Gw p l e R s m args below meth c cl D cA b K hs0 Q f') : Gw p l e R s m args below meth c cl D cA b K hs0 Q f := by
  obtain ⟨hx, hb, hown, hts, hK, hR, hnm, hE⟩ := O
  obtain ⟨pc, L, st, hs⟩ := f
  intro H locs ls h1 h2 hH hS hl hL
  have hd := (hdec pc _ hi).1 rfl
  cases h
  exact lv_iconst hx hb hd rfl (hk H locs ls h1 h2 hH hS hl hL)
theorem gw1_bipush (O : gOk p R s m args meth c cl D cA b K E cc own nm) (hdec : gDec cc ins) {f f' : gFr} {n : Int} (hi : ins.lookup f.1 = some (.bipush n)) (h : gStep E T (.bipush n) f = some f') (hk : Gw p l e R s m args below meth c cl D cA b K hs0 Q f') : Gw p l e R s m args below meth c cl D cA b K hs0 Q f := by
  obtain ⟨hx, hb, hown, hts, hK, hR, hnm, hE⟩ := O
  obtain ⟨pc, L, st, hs⟩ := f
  intro H locs ls h1 h2 hH hS hl hL
  have hd := (hdec pc _ hi).1 rfl
  cases h
  exact lv_bipush hx hb hd rfl (hk H locs ls h1 h2 hH hS hl hL)
theorem gw1_sipush (O : gOk p R s m args meth c cl D cA b K E cc own nm) (hdec : gDec cc ins) {f f' : gFr} {n : Int} (hi : ins.lookup f.1 = some (.sipush n)) (h : gStep E T (.sipush n) f = some f') (hk : Gw p l e R s m args below meth c cl D cA b K hs0 Q f') : Gw p l e R s m args below meth c cl D cA b K hs0 Q f := by
  obtain ⟨hx, hb, hown, hts, hK, hR, hnm, hE⟩ := O
  obtain ⟨pc, L, st, hs⟩ := f
  intro H locs ls h1 h2 hH hS hl hL
  have hd := (hdec pc _ hi).1 rfl
  cases h
  exact lv_sipush hx hb hd rfl (hk H locs ls h1 h2 hH hS hl hL)
theorem gw1_lconst (O : gOk p R s m args meth c cl D cA b K E cc own nm) (hdec : gDec cc ins) {f f' : gFr} {n : Fin 2} (hi : ins.lookup f.1 = some (.lconst n)) (h : gStep E T (.lconst n) f = some f') (hk : Gw p l e R s m args below meth c cl D cA b K hs0 Q f') : Gw p l e R s m args below meth c cl D cA b K hs0 Q f := by
  obtain ⟨hx, hb, hown, hts, hK, hR, hnm, hE⟩ := O
  obtain ⟨pc, L, st, hs⟩ := f
  intro H locs ls h1 h2 hH hS hl hL
  have hd := (hdec pc _ hi).1 rfl
  cases h
  exact lv_lconst hx hb hd rfl (hk H locs ls h1 h2 hH hS hl hL)
theorem gw1_iload (O : gOk p R s m args meth c cl D cA b K E cc own nm) (hdec : gDec cc ins) {f f' : gFr} {n : Nat} (hi : ins.lookup f.1 = some (.iload n)) (h : gStep E T (.iload n) f = some f') (hk : Gw p l e R s m args below meth c cl D cA b K hs0 Q f') : Gw p l e R s m args below meth c cl D cA b K hs0 Q f := by
  obtain ⟨hx, hb, hown, hts, hK, hR, hnm, hE⟩ := O
  obtain ⟨pc, L, st, hs⟩ := f
  intro H locs ls h1 h2 hH hS hl hL
  have hd := (hdec pc _ hi).1 rfl
  simp only [gStep, gPI] at h
  split at h
  · rename_i x hx2
    cases h
    exact lv_iload hx hb hd (gLs_get hl hx2) (hk H locs ls h1 h2 hH hS hl hL)
  · cases h
theorem gw1_iload_n (O : gOk p R s m args meth c cl D cA b K E cc own nm) (hdec : gDec cc ins) {f f' : gFr} {n : Fin 4} (hi : ins.lookup f.1 = some (.iload_n n)) (h : gStep E T (.iload_n n) f = some f') (hk : Gw p l e R s m args below meth c cl D cA b K hs0 Q f') : Gw p l e R s m args below meth c cl D cA b K hs0 Q f := by
  obtain ⟨hx, hb, hown, hts, hK, hR, hnm, hE⟩ := O
  obtain ⟨pc, L, st, hs⟩ := f
  intro H locs ls h1 h2 hH hS hl hL
  have hd := (hdec pc _ hi).1 rfl
  simp only [gStep, gPI] at h
  split at h
  · rename_i x hx2
    cases h
    exact lv_iload_n hx hb hd rfl (gLs_get hl hx2) (hk H locs ls h1 h2 hH hS hl hL)
  · cases h
theorem gw1_lload (O : gOk p R s m args meth c cl D cA b K E cc own nm) (hdec : gDec cc ins) {f f' : gFr} {n : Nat} (hi : ins.lookup f.1 = some (.lload n)) (h : gStep E T (.lload n) f = some f') (hk : Gw p l e R s m args below meth c cl D cA b K hs0 Q f') : Gw p l e R s m args below meth c cl D cA b K hs0 Q f := by
  obtain ⟨hx, hb, hown, hts, hK, hR, hnm, hE⟩ := O
  obtain ⟨pc, L, st, hs⟩ := f
  intro H locs ls h1 h2 hH hS hl hL
  have hd := (hdec pc _ hi).1 rfl
  simp only [gStep, gPL] at h
  split at h
  · rename_i x hx2
    cases h
    exact lv_lload hx hb hd (gLs_get hl hx2) (hk H locs ls h1 h2 hH hS hl hL)
  · cases h
theorem gw1_lload_n (O : gOk p R s m args meth c cl D cA b K E cc own nm) (hdec : gDec cc ins) {f f' : gFr} {n : Fin 4} (hi : ins.lookup f.1 = some (.lload_n n)) (h : gStep E T (.lload_n n) f = some f') (hk : Gw p l e R s m args below meth c cl D cA b K hs0 Q f') : Gw p l e R s m args below meth c cl D cA b K hs0 Q f := by
  obtain ⟨hx, hb, hown, hts, hK, hR, hnm, hE⟩ := O
  obtain ⟨pc, L, st, hs⟩ := f
  intro H locs ls h1 h2 hH hS hl hL
  have hd := (hdec pc _ hi).1 rfl
  simp only [gStep, gPL] at h
  split at h
  · rename_i x hx2
    cases h
    exact lv_lload_n hx hb hd rfl (gLs_get hl hx2) (hk H locs ls h1 h2 hH hS hl hL)
  · cases h
theorem gw1_aload (O : gOk p R s m args meth c cl D cA b K E cc own nm) (hdec : gDec cc ins) {f f' : gFr} {n : Nat} (hi : ins.lookup f.1 = some (.aload n)) (h : gStep E T (.aload n) f = some f') (hk : Gw p l e R s m args below meth c cl D cA b K hs0 Q f') : Gw p l e R s m args below meth c cl D cA b K hs0 Q f := by
  obtain ⟨hx, hb, hown, hts, hK, hR, hnm, hE⟩ := O
  obtain ⟨pc, L, st, hs⟩ := f
  intro H locs ls h1 h2 hH hS hl hL
  have hd := (hdec pc _ hi).1 rfl
  simp only [gStep, gPR] at h
  split at h
  · rename_i x hx2
    cases h
    exact lv_aload hx hb hd (gLs_get hl hx2) (hk H locs ls h1 h2 hH hS hl hL)
  · rename_i hx2
    cases h
    exact lv_aloadN hx hb hd (gLs_get hl hx2) (hk H locs ls h1 h2 hH hS hl hL)
  · rename_i x hx2
    cases h
    exact lv_aload hx hb hd (gLs_get hl hx2) (hk H locs ls h1 h2 hH hS hl hL)
  · cases h
theorem gw1_aload_n (O : gOk p R s m args meth c cl D cA b K E cc own nm) (hdec : gDec cc ins) {f f' : gFr} {n : Fin 4} (hi : ins.lookup f.1 = some (.aload_n n)) (h : gStep E T (.aload_n n) f = some f') (hk : Gw p l e R s m args below meth c cl D cA b K hs0 Q f') : Gw p l e R s m args below meth c cl D cA b K hs0 Q f := by
  obtain ⟨hx, hb, hown, hts, hK, hR, hnm, hE⟩ := O
  obtain ⟨pc, L, st, hs⟩ := f
  intro H locs ls h1 h2 hH hS hl hL
  have hd := (hdec pc _ hi).1 rfl
  simp only [gStep, gPR] at h
  split at h
  · rename_i x hx2
    cases h
    exact lv_aload_n hx hb hd rfl (gLs_get hl hx2) (hk H locs ls h1 h2 hH hS hl hL)
  · rename_i hx2
    cases h
    exact lv_aload_nN hx hb hd rfl (gLs_get hl hx2) (hk H locs ls h1 h2 hH hS hl hL)
  · rename_i x hx2
    cases h
    exact lv_aload_n hx hb hd rfl (gLs_get hl hx2) (hk H locs ls h1 h2 hH hS hl hL)
  · cases h
theorem gw1_istore (O : gOk p R s m args meth c cl D cA b K E cc own nm) (hdec : gDec cc ins) {f f' : gFr} {n : Nat} (hi : ins.lookup f.1 = some (.istore n)) (h : gStep E T (.istore n) f = some f') (hk : Gw p l e R s m args below meth c cl D cA b K hs0 Q f') : Gw p l e R s m args below meth c cl D cA b K hs0 Q f := by
  obtain ⟨hx, hb, hown, hts, hK, hR, hnm, hE⟩ := O
  obtain ⟨pc, L, st, hs⟩ := f
  intro H locs ls h1 h2 hH hS hl hL
  have hd := (hdec pc _ hi).1 rfl
  simp only [gStep, gSI] at h
  split at h
  · obtain ⟨L', hL', h⟩ := Option.map_eq_some_iff.mp h
    cases h
    exact lv_istore hx hb hd hl (gSt_len hL').1 rfl (fun ls' hl' => hk H locs ls' h1 h2 hH hS (gLs_set hL' hl') ((gSt_len hL').2.trans hL))
  · cases h
theorem gw1_istore_n (O : gOk p R s m args meth c cl D cA b K E cc own nm) (hdec : gDec cc ins) {f f' : gFr} {n : Fin 4} (hi : ins.lookup f.1 = some (.istore_n n)) (h : gStep E T (.istore_n n) f = some f') (hk : Gw p l e R s m args below meth c cl D cA b K hs0 Q f') : Gw p l e R s m args below meth c cl D cA b K hs0 Q f := by
  obtain ⟨hx, hb, hown, hts, hK, hR, hnm, hE⟩ := O
  obtain ⟨pc, L, st, hs⟩ := f
  intro H locs ls h1 h2 hH hS hl hL
  have hd := (hdec pc _ hi).1 rfl
  simp only [gStep, gSI] at h
  split at h
  · obtain ⟨L', hL', h⟩ := Option.map_eq_some_iff.mp h
    cases h
    exact lv_istore_n hx hb hd rfl hl (gSt_len hL').1 rfl (fun ls' hl' => hk H locs ls' h1 h2 hH hS (gLs_set hL' hl') ((gSt_len hL').2.trans hL))
  · cases h
theorem gw1_lstore (O : gOk p R s m args meth c cl D cA b K E cc own nm) (hdec : gDec cc ins) {f f' : gFr} {n : Nat} (hi : ins.lookup f.1 = some (.lstore n)) (h : gStep E T (.lstore n) f = some f') (hk : Gw p l e R s m args below meth c cl D cA b K hs0 Q f') : Gw p l e R s m args below meth c cl D cA b K hs0 Q f := by
  obtain ⟨hx, hb, hown, hts, hK, hR, hnm, hE⟩ := O
  obtain ⟨pc, L, st, hs⟩ := f
  intro H locs ls h1 h2 hH hS hl hL
  have hd := (hdec pc _ hi).1 rfl
  simp only [gStep, gSL] at h
  split at h
  · obtain ⟨L', hL', h⟩ := Option.map_eq_some_iff.mp h
    cases h
    exact lv_lstore hx hb hd hl (gStL_len hL').1 rfl (fun ls' hl' => hk H locs ls' h1 h2 hH hS (gLs_setL hL' hl') ((gStL_len hL').2.trans hL))
  · cases h
theorem gw1_lstore_n (O : gOk p R s m args meth c cl D cA b K E cc own nm) (hdec : gDec cc ins) {f f' : gFr} {n : Fin 4} (hi : ins.lookup f.1 = some (.lstore_n n)) (h : gStep E T (.lstore_n n) f = some f') (hk : Gw p l e R s m args below meth c cl D cA b K hs0 Q f') : Gw p l e R s m args below meth c cl D cA b K hs0 Q f := by
  obtain ⟨hx, hb, hown, hts, hK, hR, hnm, hE⟩ := O
  obtain ⟨pc, L, st, hs⟩ := f
  intro H locs ls h1 h2 hH hS hl hL
  have hd := (hdec pc _ hi).1 rfl
  simp only [gStep, gSL] at h
  split at h
  · obtain ⟨L', hL', h⟩ := Option.map_eq_some_iff.mp h
    cases h
    exact lv_lstore_n hx hb hd rfl hl (gStL_len hL').1 rfl (fun ls' hl' => hk H locs ls' h1 h2 hH hS (gLs_setL hL' hl') ((gStL_len hL').2.trans hL))
  · cases h
theorem gw1_astore (O : gOk p R s m args meth c cl D cA b K E cc own nm) (hdec : gDec cc ins) {f f' : gFr} {n : Nat} (hi : ins.lookup f.1 = some (.astore n)) (h : gStep E T (.astore n) f = some f') (hk : Gw p l e R s m args below meth c cl D cA b K hs0 Q f') : Gw p l e R s m args below meth c cl D cA b K hs0 Q f := by
  obtain ⟨hx, hb, hown, hts, hK, hR, hnm, hE⟩ := O
  obtain ⟨pc, L, st, hs⟩ := f
  intro H locs ls h1 h2 hH hS hl hL
  have hd := (hdec pc _ hi).1 rfl
  simp only [gStep, gSR] at h
  split at h
  · obtain ⟨L', hL', h⟩ := Option.map_eq_some_iff.mp h
    cases h
    exact lv_astore hx hb hd hl (gSt_len hL').1 rfl (fun ls' hl' => hk H locs ls' h1 h2 hH hS (gLs_set hL' hl') ((gSt_len hL').2.trans hL))
  · obtain ⟨L', hL', h⟩ := Option.map_eq_some_iff.mp h
    cases h
    exact lv_astoreN hx hb hd hl (gSt_len hL').1 rfl (fun ls' hl' => hk H locs ls' h1 h2 hH hS (gLs_set hL' hl') ((gSt_len hL').2.trans hL))
  · obtain ⟨L', hL', h⟩ := Option.map_eq_some_iff.mp h
    cases h
    exact lv_astore hx hb hd hl (gSt_len hL').1 rfl (fun ls' hl' => hk H locs ls' h1 h2 hH hS (gLs_set hL' hl') ((gSt_len hL').2.trans hL))
  · cases h
theorem gw1_astore_n (O : gOk p R s m args meth c cl D cA b K E cc own nm) (hdec : gDec cc ins) {f f' : gFr} {n : Fin 4} (hi : ins.lookup f.1 = some (.astore_n n)) (h : gStep E T (.astore_n n) f = some f') (hk : Gw p l e R s m args below meth c cl D cA b K hs0 Q f') : Gw p l e R s m args below meth c cl D cA b K hs0 Q f := by
  obtain ⟨hx, hb, hown, hts, hK, hR, hnm, hE⟩ := O
  obtain ⟨pc, L, st, hs⟩ := f
  intro H locs ls h1 h2 hH hS hl hL
  have hd := (hdec pc _ hi).1 rfl
  simp only [gStep, gSR] at h
  split at h
  · obtain ⟨L', hL', h⟩ := Option.map_eq_some_iff.mp h
    cases h
    exact lv_astore_n hx hb hd rfl hl (gSt_len hL').1 rfl (fun ls' hl' => hk H locs ls' h1 h2 hH hS (gLs_set hL' hl') ((gSt_len hL').2.trans hL))
  · obtain ⟨L', hL', h⟩ := Option.map_eq_some_iff.mp h
    cases h
    exact lv_astore_nN hx hb hd rfl hl (gSt_len hL').1 rfl (fun ls' hl' => hk H locs ls' h1 h2 hH hS (gLs_set hL' hl') ((gSt_len hL').2.trans hL))
  · obtain ⟨L', hL', h⟩ := Option.map_eq_some_iff.mp h
    cases h
    exact lv_astore_n hx hb hd rfl hl (gSt_len hL').1 rfl (fun ls' hl' => hk H locs ls' h1 h2 hH hS (gLs_set hL' hl') ((gSt_len hL').2.trans hL))
  · cases h
theorem gw1_iinc (O : gOk p R s m args meth c cl D cA b K E cc own nm) (hdec : gDec cc ins) {f f' : gFr} {n : Nat} {k : Int} (hi : ins.lookup f.1 = some (.iinc n k)) (h : gStep E T (.iinc n k) f = some f') (hk : Gw p l e R s m args below meth c cl D cA b K hs0 Q f') : Gw p l e R s m args below meth c cl D cA b K hs0 Q f := by
  obtain ⟨hx, hb, hown, hts, hK, hR, hnm, hE⟩ := O
  obtain ⟨pc, L, st, hs⟩ := f
  intro H locs ls h1 h2 hH hS hl hL
  have hd := (hdec pc _ hi).1 rfl
  simp only [gStep] at h
  split at h
  · rename_i x hx2
    obtain ⟨L', hL', h⟩ := Option.map_eq_some_iff.mp h
    cases h
    have hm := gPr_in (b := b) (K := K) L 0 n _ (gLd_some hx2)
    rw [Nat.zero_add] at hm
    obtain ⟨q, hq⟩ := List.getElem?_of_mem hm
    exact lv_iinc hx hb hd hl hq rfl (gSt_len hL').1 rfl (fun ls' hl' => hk H locs ls' h1 h2 hH hS (gLs_set hL' hl') ((gSt_len hL').2.trans hL))
  · cases h
theorem gw1_iadd (O : gOk p R s m args meth c cl D cA b K E cc own nm) (hdec : gDec cc ins) {f f' : gFr} (hi : ins.lookup f.1 = some (.iadd)) (h : gStep E T (.iadd) f = some f') (hk : Gw p l e R s m args below meth c cl D cA b K hs0 Q f') : Gw p l e R s m args below meth c cl D cA b K hs0 Q f := by
  obtain ⟨hx, hb, hown, hts, hK, hR, hnm, hE⟩ := O
  obtain ⟨pc, L, st, hs⟩ := f
  intro H locs ls h1 h2 hH hS hl hL
  have hd := (hdec pc _ hi).1 rfl
  simp only [gStep, gI2] at h
  split at h
  · cases h
    exact lv_iadd hx hb hd (hk H locs ls h1 h2 hH hS hl hL)
  · cases h
theorem gw1_isub (O : gOk p R s m args meth c cl D cA b K E cc own nm) (hdec : gDec cc ins) {f f' : gFr} (hi : ins.lookup f.1 = some (.isub)) (h : gStep E T (.isub) f = some f') (hk : Gw p l e R s m args below meth c cl D cA b K hs0 Q f') : Gw p l e R s m args below meth c cl D cA b K hs0 Q f := by
  obtain ⟨hx, hb, hown, hts, hK, hR, hnm, hE⟩ := O
  obtain ⟨pc, L, st, hs⟩ := f
  intro H locs ls h1 h2 hH hS hl hL
  have hd := (hdec pc _ hi).1 rfl
  simp only [gStep, gI2] at h
  split at h
  · cases h
    exact lv_isub hx hb hd (hk H locs ls h1 h2 hH hS hl hL)
  · cases h
theorem gw1_imul (O : gOk p R s m args meth c cl D cA b K E cc own nm) (hdec : gDec cc ins) {f f' : gFr} (hi : ins.lookup f.1 = some (.imul)) (h : gStep E T (.imul) f = some f') (hk : Gw p l e R s m args below meth c cl D cA b K hs0 Q f') : Gw p l e R s m args below meth c cl D cA b K hs0 Q f := by
  obtain ⟨hx, hb, hown, hts, hK, hR, hnm, hE⟩ := O
  obtain ⟨pc, L, st, hs⟩ := f
  intro H locs ls h1 h2 hH hS hl hL
  have hd := (hdec pc _ hi).1 rfl
  simp only [gStep, gI2] at h
  split at h
  · cases h
    exact lv_imul hx hb hd (hk H locs ls h1 h2 hH hS hl hL)
  · cases h
theorem gw1_iand (O : gOk p R s m args meth c cl D cA b K E cc own nm) (hdec : gDec cc ins) {f f' : gFr} (hi : ins.lookup f.1 = some (.iand)) (h : gStep E T (.iand) f = some f') (hk : Gw p l e R s m args below meth c cl D cA b K hs0 Q f') : Gw p l e R s m args below meth c cl D cA b K hs0 Q f := by
  obtain ⟨hx, hb, hown, hts, hK, hR, hnm, hE⟩ := O
  obtain ⟨pc, L, st, hs⟩ := f
  intro H locs ls h1 h2 hH hS hl hL
  have hd := (hdec pc _ hi).1 rfl
  simp only [gStep, gI2] at h
  split at h
  · cases h
    exact lv_iand hx hb hd (hk H locs ls h1 h2 hH hS hl hL)
  · cases h
theorem gw1_ior (O : gOk p R s m args meth c cl D cA b K E cc own nm) (hdec : gDec cc ins) {f f' : gFr} (hi : ins.lookup f.1 = some (.ior)) (h : gStep E T (.ior) f = some f') (hk : Gw p l e R s m args below meth c cl D cA b K hs0 Q f') : Gw p l e R s m args below meth c cl D cA b K hs0 Q f := by
  obtain ⟨hx, hb, hown, hts, hK, hR, hnm, hE⟩ := O
  obtain ⟨pc, L, st, hs⟩ := f
  intro H locs ls h1 h2 hH hS hl hL
  have hd := (hdec pc _ hi).1 rfl
  simp only [gStep, gI2] at h
  split at h
  · cases h
    exact lv_ior hx hb hd (hk H locs ls h1 h2 hH hS hl hL)
  · cases h
theorem gw1_ixor (O : gOk p R s m args meth c cl D cA b K E cc own nm) (hdec : gDec cc ins) {f f' : gFr} (hi : ins.lookup f.1 = some (.ixor)) (h : gStep E T (.ixor) f = some f') (hk : Gw p l e R s m args below meth c cl D cA b K hs0 Q f') : Gw p l e R s m args below meth c cl D cA b K hs0 Q f := by
  obtain ⟨hx, hb, hown, hts, hK, hR, hnm, hE⟩ := O
  obtain ⟨pc, L, st, hs⟩ := f
  intro H locs ls h1 h2 hH hS hl hL
  have hd := (hdec pc _ hi).1 rfl
  simp only [gStep, gI2] at h
  split at h
  · cases h
    exact lv_ixor hx hb hd (hk H locs ls h1 h2 hH hS hl hL)
  · cases h
theorem gw1_ishl (O : gOk p R s m args meth c cl D cA b K E cc own nm) (hdec : gDec cc ins) {f f' : gFr} (hi : ins.lookup f.1 = some (.ishl)) (h : gStep E T (.ishl) f = some f') (hk : Gw p l e R s m args below meth c cl D cA b K hs0 Q f') : Gw p l e R s m args below meth c cl D cA b K hs0 Q f := by
  obtain ⟨hx, hb, hown, hts, hK, hR, hnm, hE⟩ := O
  obtain ⟨pc, L, st, hs⟩ := f
  intro H locs ls h1 h2 hH hS hl hL
  have hd := (hdec pc _ hi).1 rfl
  simp only [gStep, gI2] at h
  split at h
  · cases h
    exact lv_ishl hx hb hd (hk H locs ls h1 h2 hH hS hl hL)
  · cases h
theorem gw1_ishr (O : gOk p R s m args meth c cl D cA b K E cc own nm) (hdec : gDec cc ins) {f f' : gFr} (hi : ins.lookup f.1 = some (.ishr)) (h : gStep E T (.ishr) f = some f') (hk : Gw p l e R s m args below meth c cl D cA b K hs0 Q f') : Gw p l e R s m args below meth c cl D cA b K hs0 Q f := by
  obtain ⟨hx, hb, hown, hts, hK, hR, hnm, hE⟩ := O
  obtain ⟨pc, L, st, hs⟩ := f
  intro H locs ls h1 h2 hH hS hl hL
  have hd := (hdec pc _ hi).1 rfl
  simp only [gStep, gI2] at h
  split at h
  · cases h
    exact lv_ishr hx hb hd (hk H locs ls h1 h2 hH hS hl hL)
  · cases h
theorem gw1_iushr (O : gOk p R s m args meth c cl D cA b K E cc own nm) (hdec : gDec cc ins) {f f' : gFr} (hi : ins.lookup f.1 = some (.iushr)) (h : gStep E T (.iushr) f = some f') (hk : Gw p l e R s m args below meth c cl D cA b K hs0 Q f') : Gw p l e R s m args below meth c cl D cA b K hs0 Q f := by
  obtain ⟨hx, hb, hown, hts, hK, hR, hnm, hE⟩ := O
  obtain ⟨pc, L, st, hs⟩ := f
  intro H locs ls h1 h2 hH hS hl hL
  have hd := (hdec pc _ hi).1 rfl
  simp only [gStep, gI2] at h
  split at h
  · cases h
    exact lv_iushr hx hb hd rfl (hk H locs ls h1 h2 hH hS hl hL)
  · cases h
theorem gw1_ineg (O : gOk p R s m args meth c cl D cA b K E cc own nm) (hdec : gDec cc ins) {f f' : gFr} (hi : ins.lookup f.1 = some (.ineg)) (h : gStep E T (.ineg) f = some f') (hk : Gw p l e R s m args below meth c cl D cA b K hs0 Q f') : Gw p l e R s m args below meth c cl D cA b K hs0 Q f := by
  obtain ⟨hx, hb, hown, hts, hK, hR, hnm, hE⟩ := O
  obtain ⟨pc, L, st, hs⟩ := f
  intro H locs ls h1 h2 hH hS hl hL
  have hd := (hdec pc _ hi).1 rfl
  simp only [gStep, gI1] at h
  split at h
  · cases h
    exact lv_ineg hx hb hd (hk H locs ls h1 h2 hH hS hl hL)
  · cases h
theorem gw1_i2b (O : gOk p R s m args meth c cl D cA b K E cc own nm) (hdec : gDec cc ins) {f f' : gFr} (hi : ins.lookup f.1 = some (.i2b)) (h : gStep E T (.i2b) f = some f') (hk : Gw p l e R s m args below meth c cl D cA b K hs0 Q f') : Gw p l e R s m args below meth c cl D cA b K hs0 Q f := by
  obtain ⟨hx, hb, hown, hts, hK, hR, hnm, hE⟩ := O
  obtain ⟨pc, L, st, hs⟩ := f
  intro H locs ls h1 h2 hH hS hl hL
  have hd := (hdec pc _ hi).1 rfl
  simp only [gStep, gI1] at h
  split at h
  · cases h
    exact lv_i2b hx hb hd rfl (hk H locs ls h1 h2 hH hS hl hL)
  · cases h
theorem gw1_i2c (O : gOk p R s m args meth c cl D cA b K E cc own nm) (hdec : gDec cc ins) {f f' : gFr} (hi : ins.lookup f.1 = some (.i2c)) (h : gStep E T (.i2c) f = some f') (hk : Gw p l e R s m args below meth c cl D cA b K hs0 Q f') : Gw p l e R s m args below meth c cl D cA b K hs0 Q f := by
  obtain ⟨hx, hb, hown, hts, hK, hR, hnm, hE⟩ := O
  obtain ⟨pc, L, st, hs⟩ := f
  intro H locs ls h1 h2 hH hS hl hL
  have hd := (hdec pc _ hi).1 rfl
  simp only [gStep, gI1] at h
  split at h
  · cases h
    exact lv_i2c hx hb hd rfl (hk H locs ls h1 h2 hH hS hl hL)
  · cases h
theorem gw1_idiv (O : gOk p R s m args meth c cl D cA b K E cc own nm) (hdec : gDec cc ins) {f f' : gFr} (hi : ins.lookup f.1 = some (.idiv)) (h : gStep E T (.idiv) f = some f') (hk : Gw p l e R s m args below meth c cl D cA b K hs0 Q f') : Gw p l e R s m args below meth c cl D cA b K hs0 Q f := by
  obtain ⟨hx, hb, hown, hts, hK, hR, hnm, hE⟩ := O
  obtain ⟨pc, L, st, hs⟩ := f
  intro H locs ls h1 h2 hH hS hl hL
  have hd := (hdec pc _ hi).1 rfl
  simp only [gStep] at h
  split at h
  · split at h
    · rename_i hne
      cases h
      exact lv_idiv hx hb hd hne (hk H locs ls h1 h2 hH hS hl hL)
    · cases h
  · cases h
theorem gw1_irem (O : gOk p R s m args meth c cl D cA b K E cc own nm) (hdec : gDec cc ins) {f f' : gFr} (hi : ins.lookup f.1 = some (.irem)) (h : gStep E T (.irem) f = some f') (hk : Gw p l e R s m args below meth c cl D cA b K hs0 Q f') : Gw p l e R s m args below meth c cl D cA b K hs0 Q f := by
  obtain ⟨hx, hb, hown, hts, hK, hR, hnm, hE⟩ := O
  obtain ⟨pc, L, st, hs⟩ := f
  intro H locs ls h1 h2 hH hS hl hL
  have hd := (hdec pc _ hi).1 rfl
  simp only [gStep] at h
  split at h
  · split at h
    · rename_i hne
      cases h
      exact lv_irem hx hb hd hne (hk H locs ls h1 h2 hH hS hl hL)
    · cases h
  · cases h
theorem gw1_ladd (O : gOk p R s m args meth c cl D cA b K E cc own nm) (hdec : gDec cc ins) {f f' : gFr} (hi : ins.lookup f.1 = some (.ladd)) (h : gStep E T (.ladd) f = some f') (hk : Gw p l e R s m args below meth c cl D cA b K hs0 Q f') : Gw p l e R s m args below meth c cl D cA b K hs0 Q f := by
  obtain ⟨hx, hb, hown, hts, hK, hR, hnm, hE⟩ := O
  obtain ⟨pc, L, st, hs⟩ := f
  intro H locs ls h1 h2 hH hS hl hL
  have hd := (hdec pc _ hi).1 rfl
  simp only [gStep, gL2] at h
  split at h
  · cases h
    exact lv_ladd hx hb hd (hk H locs ls h1 h2 hH hS hl hL)
  · cases h
theorem gw1_lsub (O : gOk p R s m args meth c cl D cA b K E cc own nm) (hdec : gDec cc ins) {f f' : gFr} (hi : ins.lookup f.1 = some (.lsub)) (h : gStep E T (.lsub) f = some f') (hk : Gw p l e R s m args below meth c cl D cA b K hs0 Q f') : Gw p l e R s m args below meth c cl D cA b K hs0 Q f := by
  obtain ⟨hx, hb, hown, hts, hK, hR, hnm, hE⟩ := O
  obtain ⟨pc, L, st, hs⟩ := f
  intro H locs ls h1 h2 hH hS hl hL
  have hd := (hdec pc _ hi).1 rfl
  simp only [gStep, gL2] at h
  split at h
  · cases h
    exact lv_lsub hx hb hd (hk H locs ls h1 h2 hH hS hl hL)
  · cases h
theorem gw1_lmul (O : gOk p R s m args meth c cl D cA b K E cc own nm) (hdec : gDec cc ins) {f f' : gFr} (hi : ins.lookup f.1 = some (.lmul)) (h : gStep E T (.lmul) f = some f') (hk : Gw p l e R s m args below meth c cl D cA b K hs0 Q f') : Gw p l e R s m args below meth c cl D cA b K hs0 Q f := by
  obtain ⟨hx, hb, hown, hts, hK, hR, hnm, hE⟩ := O
  obtain ⟨pc, L, st, hs⟩ := f
  intro H locs ls h1 h2 hH hS hl hL
  have hd := (hdec pc _ hi).1 rfl
  simp only [gStep, gL2] at h
  split at h
  · cases h
    exact lv_lmul hx hb hd (hk H locs ls h1 h2 hH hS hl hL)
  · cases h
theorem gw1_land (O : gOk p R s m args meth c cl D cA b K E cc own nm) (hdec : gDec cc ins) {f f' : gFr} (hi : ins.lookup f.1 = some (.land)) (h : gStep E T (.land) f = some f') (hk : Gw p l e R s m args below meth c cl D cA b K hs0 Q f') : Gw p l e R s m args below meth c cl D cA b K hs0 Q f := by
  obtain ⟨hx, hb, hown, hts, hK, hR, hnm, hE⟩ := O
  obtain ⟨pc, L, st, hs⟩ := f
  intro H locs ls h1 h2 hH hS hl hL
  have hd := (hdec pc _ hi).1 rfl
  simp only [gStep, gL2] at h
  split at h
  · cases h
    exact lv_land hx hb hd (hk H locs ls h1 h2 hH hS hl hL)
  · cases h
theorem gw1_lor (O : gOk p R s m args meth c cl D cA b K E cc own nm) (hdec : gDec cc ins) {f f' : gFr} (hi : ins.lookup f.1 = some (.lor)) (h : gStep E T (.lor) f = some f') (hk : Gw p l e R s m args below meth c cl D cA b K hs0 Q f') : Gw p l e R s m args below meth c cl D cA b K hs0 Q f := by
  obtain ⟨hx, hb, hown, hts, hK, hR, hnm, hE⟩ := O
  obtain ⟨pc, L, st, hs⟩ := f
  intro H locs ls h1 h2 hH hS hl hL
  have hd := (hdec pc _ hi).1 rfl
  simp only [gStep, gL2] at h
  split at h
  · cases h
    exact lv_lor hx hb hd (hk H locs ls h1 h2 hH hS hl hL)
  · cases h
theorem gw1_lxor (O : gOk p R s m args meth c cl D cA b K E cc own nm) (hdec : gDec cc ins) {f f' : gFr} (hi : ins.lookup f.1 = some (.lxor)) (h : gStep E T (.lxor) f = some f') (hk : Gw p l e R s m args below meth c cl D cA b K hs0 Q f') : Gw p l e R s m args below meth c cl D cA b K hs0 Q f := by
  obtain ⟨hx, hb, hown, hts, hK, hR, hnm, hE⟩ := O
  obtain ⟨pc, L, st, hs⟩ := f
  intro H locs ls h1 h2 hH hS hl hL
  have hd := (hdec pc _ hi).1 rfl
  simp only [gStep, gL2] at h
  split at h
  · cases h
    exact lv_lxor hx hb hd (hk H locs ls h1 h2 hH hS hl hL)
  · cases h
theorem gw1_lshl (O : gOk p R s m args meth c cl D cA b K E cc own nm) (hdec : gDec cc ins) {f f' : gFr} (hi : ins.lookup f.1 = some (.lshl)) (h : gStep E T (.lshl) f = some f') (hk : Gw p l e R s m args below meth c cl D cA b K hs0 Q f') : Gw p l e R s m args below meth c cl D cA b K hs0 Q f := by
  obtain ⟨hx, hb, hown, hts, hK, hR, hnm, hE⟩ := O
  obtain ⟨pc, L, st, hs⟩ := f
  intro H locs ls h1 h2 hH hS hl hL
  have hd := (hdec pc _ hi).1 rfl
  simp only [gStep] at h
  split at h
  · cases h
    exact lv_lshl hx hb hd rfl (hk H locs ls h1 h2 hH hS hl hL)
  · cases h
theorem gw1_lshr (O : gOk p R s m args meth c cl D cA b K E cc own nm) (hdec : gDec cc ins) {f f' : gFr} (hi : ins.lookup f.1 = some (.lshr)) (h : gStep E T (.lshr) f = some f') (hk : Gw p l e R s m args below meth c cl D cA b K hs0 Q f') : Gw p l e R s m args below meth c cl D cA b K hs0 Q f := by
  obtain ⟨hx, hb, hown, hts, hK, hR, hnm, hE⟩ := O
  obtain ⟨pc, L, st, hs⟩ := f
  intro H locs ls h1 h2 hH hS hl hL
  have hd := (hdec pc _ hi).1 rfl
  simp only [gStep] at h
  split at h
  · cases h
    exact lv_lshr hx hb hd rfl (hk H locs ls h1 h2 hH hS hl hL)
  · cases h
theorem gw1_lushr (O : gOk p R s m args meth c cl D cA b K E cc own nm) (hdec : gDec cc ins) {f f' : gFr} (hi : ins.lookup f.1 = some (.lushr)) (h : gStep E T (.lushr) f = some f') (hk : Gw p l e R s m args below meth c cl D cA b K hs0 Q f') : Gw p l e R s m args below meth c cl D cA b K hs0 Q f := by
  obtain ⟨hx, hb, hown, hts, hK, hR, hnm, hE⟩ := O
  obtain ⟨pc, L, st, hs⟩ := f
  intro H locs ls h1 h2 hH hS hl hL
  have hd := (hdec pc _ hi).1 rfl
  simp only [gStep] at h
  split at h
  · cases h
    exact lv_lushr hx hb hd rfl (hk H locs ls h1 h2 hH hS hl hL)
  · cases h
theorem gw1_i2l (O : gOk p R s m args meth c cl D cA b K E cc own nm) (hdec : gDec cc ins) {f f' : gFr} (hi : ins.lookup f.1 = some (.i2l)) (h : gStep E T (.i2l) f = some f') (hk : Gw p l e R s m args below meth c cl D cA b K hs0 Q f') : Gw p l e R s m args below meth c cl D cA b K hs0 Q f := by
  obtain ⟨hx, hb, hown, hts, hK, hR, hnm, hE⟩ := O
  obtain ⟨pc, L, st, hs⟩ := f
  intro H locs ls h1 h2 hH hS hl hL
  have hd := (hdec pc _ hi).1 rfl
  simp only [gStep] at h
  split at h
  · cases h
    exact lv_i2l hx hb hd rfl (hk H locs ls h1 h2 hH hS hl hL)
  · cases h
theorem gw1_l2i (O : gOk p R s m args meth c cl D cA b K E cc own nm) (hdec : gDec cc ins) {f f' : gFr} (hi : ins.lookup f.1 = some (.l2i)) (h : gStep E T (.l2i) f = some f') (hk : Gw p l e R s m args below meth c cl D cA b K hs0 Q f') : Gw p l e R s m args below meth c cl D cA b K hs0 Q f := by
  obtain ⟨hx, hb, hown, hts, hK, hR, hnm, hE⟩ := O
  obtain ⟨pc, L, st, hs⟩ := f
  intro H locs ls h1 h2 hH hS hl hL
  have hd := (hdec pc _ hi).1 rfl
  simp only [gStep] at h
  split at h
  · cases h
    exact lv_l2i hx hb hd rfl (hk H locs ls h1 h2 hH hS hl hL)
  · cases h
theorem gw1_lcmp (O : gOk p R s m args meth c cl D cA b K E cc own nm) (hdec : gDec cc ins) {f f' : gFr} (hi : ins.lookup f.1 = some (.lcmp)) (h : gStep E T (.lcmp) f = some f') (hk : Gw p l e R s m args below meth c cl D cA b K hs0 Q f') : Gw p l e R s m args below meth c cl D cA b K hs0 Q f := by
  obtain ⟨hx, hb, hown, hts, hK, hR, hnm, hE⟩ := O
  obtain ⟨pc, L, st, hs⟩ := f
  intro H locs ls h1 h2 hH hS hl hL
  have hd := (hdec pc _ hi).1 rfl
  simp only [gStep] at h
  split at h
  · cases h
    exact W.lcmp hx hb hd (hk H locs ls h1 h2 hH hS hl hL)
  · cases h
theorem gw1_dup (O : gOk p R s m args meth c cl D cA b K E cc own nm) (hdec : gDec cc ins) {f f' : gFr} (hi : ins.lookup f.1 = some (.dup)) (h : gStep E T (.dup) f = some f') (hk : Gw p l e R s m args below meth c cl D cA b K hs0 Q f') : Gw p l e R s m args below meth c cl D cA b K hs0 Q f := by
  obtain ⟨hx, hb, hown, hts, hK, hR, hnm, hE⟩ := O
  obtain ⟨pc, L, st, hs⟩ := f
  intro H locs ls h1 h2 hH hS hl hL
  have hd := (hdec pc _ hi).1 rfl
  simp only [gStep] at h
  split at h
  · split at h
    · rename_i hc
      cases h
      exact lv_dup hx hb hd ((gc_cat b K _).trans (of_decide_eq_true hc)) (hk H locs ls h1 h2 hH hS hl hL)
    · cases h
  · cases h
theorem gw1_pop (O : gOk p R s m args meth c cl D cA b K E cc own nm) (hdec : gDec cc ins) {f f' : gFr} (hi : ins.lookup f.1 = some (.pop)) (h : gStep E T (.pop) f = some f') (hk : Gw p l e R s m args below meth c cl D cA b K hs0 Q f') : Gw p l e R s m args below meth c cl D cA b K hs0 Q f := by
  obtain ⟨hx, hb, hown, hts, hK, hR, hnm, hE⟩ := O
  obtain ⟨pc, L, st, hs⟩ := f
  intro H locs ls h1 h2 hH hS hl hL
  have hd := (hdec pc _ hi).1 rfl
  simp only [gStep] at h
  split at h
  · split at h
    · rename_i hc
      cases h
      exact lv_pop hx hb hd ((gc_cat b K _).trans (of_decide_eq_true hc)) (hk H locs ls h1 h2 hH hS hl hL)
    · cases h
  · cases h
theorem gw1_dup_x1 (O : gOk p R s m args meth c cl D cA b K E cc own nm) (hdec : gDec cc ins) {f f' : gFr} (hi : ins.lookup f.1 = some (.dup_x1)) (h : gStep E T (.dup_x1) f = some f') (hk : Gw p l e R s m args below meth c cl D cA b K hs0 Q f') : Gw p l e R s m args below meth c cl D cA b K hs0 Q f := by
  obtain ⟨hx, hb, hown, hts, hK, hR, hnm, hE⟩ := O
  obtain ⟨pc, L, st, hs⟩ := f
  intro H locs ls h1 h2 hH hS hl hL
  have hd := (hdec pc _ hi).1 rfl
  simp only [gStep] at h
  split at h
  · split at h
    · rename_i hc
      simp only [Bool.and_eq_true, decide_eq_true_eq] at hc
      cases h
      exact lv_dup_x1 hx hb hd ((gc_cat b K _).trans hc.1) ((gc_cat b K _).trans hc.2) (hk H locs ls h1 h2 hH hS hl hL)
    · cases h
  · cases h
theorem gw1_dup2 (O : gOk p R s m args meth c cl D cA b K E cc own nm) (hdec : gDec cc ins) {f f' : gFr} (hi : ins.lookup f.1 = some (.dup2)) (h : gStep E T (.dup2) f = some f') (hk : Gw p l e R s m args below meth c cl D cA b K hs0 Q f') : Gw p l e R s m args below meth c cl D cA b K hs0 Q f := by
  obtain ⟨hx, hb, hown, hts, hK, hR, hnm, hE⟩ := O
  obtain ⟨pc, L, st, hs⟩ := f
  intro H locs ls h1 h2 hH hS hl hL
  have hd := (hdec pc _ hi).1 rfl
  simp only [gStep] at h
  split at h
  · split at h
    · rename_i hc
      simp only [Bool.and_eq_true, decide_eq_true_eq] at hc
      cases h
      exact lv_dup2_11 hx hb hd ((gc_cat b K _).trans hc.1) ((gc_cat b K _).trans hc.2) (hk H locs ls h1 h2 hH hS hl hL)
    · cases h
  · cases h
theorem gw1_dup_x2 (O : gOk p R s m args meth c cl D cA b K E cc own nm) (hdec : gDec cc ins) {f f' : gFr} (hi : ins.lookup f.1 = some (.dup_x2)) (h : gStep E T (.dup_x2) f = some f') (hk : Gw p l e R s m args below meth c cl D cA b K hs0 Q f') : Gw p l e R s m args below meth c cl D cA b K hs0 Q f := by
  obtain ⟨hx, hb, hown, hts, hK, hR, hnm, hE⟩ := O
  obtain ⟨pc, L, st, hs⟩ := f
  intro H locs ls h1 h2 hH hS hl hL
  have hd := (hdec pc _ hi).1 rfl
  simp only [gStep] at h
  split at h
  · split at h
    · rename_i hc
      simp only [Bool.and_eq_true, decide_eq_true_eq] at hc
      cases h
      exact lv_dup_x2 hx hb hd ((gc_cat b K _).trans hc.1.1) ((gc_cat b K _).trans hc.1.2) ((gc_cat b K _).trans hc.2) (hk H locs ls h1 h2 hH hS hl hL)
    · cases h
  · cases h
theorem gTg_ok {pc : Nat} {off : Int} (h : 0 ≤ (pc : Int) + off) : (pc : Int) + off = (gTg pc off : Int) := by
  unfold gTg
  omega
theorem gw1_goto (O : gOk p R s m args meth c cl D cA b K E cc own nm) (hdec : gDec cc ins) {f f' : gFr} {off : Int} (hng : 0 ≤ (f.1 : Int) + off) (hi : ins.lookup f.1 = some (.goto off)) (h : gStep E T (.goto off) f = some f') (hk : Gw p l e R s m args below meth c cl D cA b K hs0 Q f') : Gw p l e R s m args below meth c cl D cA b K hs0 Q f := by
  obtain ⟨hx, hb, hown, hts, hK, hR, hnm, hE⟩ := O
  obtain ⟨pc, L, st, hs⟩ := f
  intro H locs ls h1 h2 hH hS hl hL
  have hd := (hdec pc _ hi).1 rfl
  cases h
  exact lv_goto hx hb hd (gTg_ok hng) (hk H locs ls h1 h2 hH hS hl hL)
theorem gw1_icmp (O : gOk p R s m args meth c cl D cA b K E cc own nm) (hdec : gDec cc ins) {f f' : gFr} {cd : ClassFile.Cond} {off : Int} (hng : 0 ≤ (f.1 : Int) + off) (hi : ins.lookup f.1 = some (.if_icmp cd off)) (h : gStep E T (.if_icmp cd off) f = some f') (hk : Gw p l e R s m args below meth c cl D cA b K hs0 Q f') : Gw p l e R s m args below meth c cl D cA b K hs0 Q f := by
  obtain ⟨hx, hb, hown, hts, hK, hR, hnm, hE⟩ := O
  obtain ⟨pc, L, st, hs⟩ := f
  intro H locs ls h1 h2 hH hS hl hL
  have hd := (hdec pc _ hi).1 rfl
  simp only [gStep, gC2] at h
  split at h
  · cases cd <;> simp only at h <;> split at h <;> rename_i hc <;> cases h
    · exact lv_icmp_eq hx hb hd (gTg_ok hng) (fun _ => (hk H locs ls h1 h2 hH hS hl hL)) (fun z => absurd hc z)
    · exact lv_icmp_eq hx hb hd (gTg_ok hng) (fun z => absurd z hc) (fun _ => (hk H locs ls h1 h2 hH hS hl hL))
    · exact lv_icmp_ne hx hb hd (gTg_ok hng) (fun z => absurd hc z) (fun _ => (hk H locs ls h1 h2 hH hS hl hL))
    · exact lv_icmp_ne hx hb hd (gTg_ok hng) (fun _ => (hk H locs ls h1 h2 hH hS hl hL)) (fun z => absurd z hc)
    · exact lv_icmp_lt hx hb hd (gTg_ok hng) (fun _ => (hk H locs ls h1 h2 hH hS hl hL)) (fun z => absurd hc z)
    · exact lv_icmp_lt hx hb hd (gTg_ok hng) (fun z => absurd z hc) (fun _ => (hk H locs ls h1 h2 hH hS hl hL))
    · exact lv_icmp_ge hx hb hd (gTg_ok hng) (fun _ => (hk H locs ls h1 h2 hH hS hl hL)) (fun z => absurd hc z)
    · exact lv_icmp_ge hx hb hd (gTg_ok hng) (fun z => absurd z hc) (fun _ => (hk H locs ls h1 h2 hH hS hl hL))
    · exact lv_icmp_gt hx hb hd (gTg_ok hng) (fun _ => (hk H locs ls h1 h2 hH hS hl hL)) (fun z => absurd hc z)
    · exact lv_icmp_gt hx hb hd (gTg_ok hng) (fun z => absurd z hc) (fun _ => (hk H locs ls h1 h2 hH hS hl hL))
    · exact lv_icmp_le hx hb hd (gTg_ok hng) (fun _ => (hk H locs ls h1 h2 hH hS hl hL)) (fun z => absurd hc z)
    · exact lv_icmp_le hx hb hd (gTg_ok hng) (fun z => absurd z hc) (fun _ => (hk H locs ls h1 h2 hH hS hl hL))
  · cases h
theorem gw1_if (O : gOk p R s m args meth c cl D cA b K E cc own nm) (hdec : gDec cc ins) {f f' : gFr} {cd : ClassFile.Cond} {off : Int} (hng : 0 ≤ (f.1 : Int) + off) (hi : ins.lookup f.1 = some (.ifCond cd off)) (h : gStep E T (.ifCond cd off) f = some f') (hk : Gw p l e R s m args below meth c cl D cA b K hs0 Q f') : Gw p l e R s m args below meth c cl D cA b K hs0 Q f := by
  obtain ⟨hx, hb, hown, hts, hK, hR, hnm, hE⟩ := O
  obtain ⟨pc, L, st, hs⟩ := f
  intro H locs ls h1 h2 hH hS hl hL
  have hd := (hdec pc _ hi).1 rfl
  simp only [gStep, gC1] at h
  split at h
  · cases cd <;> simp only at h <;> split at h <;> rename_i hc <;> cases h
    · exact lv_if_eq hx hb hd (gTg_ok hng) (fun _ => (hk H locs ls h1 h2 hH hS hl hL)) (fun z => absurd hc z)
    · exact lv_if_eq hx hb hd (gTg_ok hng) (fun z => absurd z hc) (fun _ => (hk H locs ls h1 h2 hH hS hl hL))
    · exact lv_if_ne hx hb hd (gTg_ok hng) (fun z => absurd hc z) (fun _ => (hk H locs ls h1 h2 hH hS hl hL))
    · exact lv_if_ne hx hb hd (gTg_ok hng) (fun _ => (hk H locs ls h1 h2 hH hS hl hL)) (fun z => absurd z hc)
    · exact lv_if_lt hx hb hd (gTg_ok hng) (fun _ => (hk H locs ls h1 h2 hH hS hl hL)) (fun z => absurd hc z)
    · exact lv_if_lt hx hb hd (gTg_ok hng) (fun z => absurd z hc) (fun _ => (hk H locs ls h1 h2 hH hS hl hL))
    · exact lv_if_ge hx hb hd (gTg_ok hng) (fun _ => (hk H locs ls h1 h2 hH hS hl hL)) (fun z => absurd hc z)
    · exact lv_if_ge hx hb hd (gTg_ok hng) (fun z => absurd z hc) (fun _ => (hk H locs ls h1 h2 hH hS hl hL))
    · exact lv_if_gt hx hb hd (gTg_ok hng) (fun _ => (hk H locs ls h1 h2 hH hS hl hL)) (fun z => absurd hc z)
    · exact lv_if_gt hx hb hd (gTg_ok hng) (fun z => absurd z hc) (fun _ => (hk H locs ls h1 h2 hH hS hl hL))
    · exact lv_if_le hx hb hd (gTg_ok hng) (fun _ => (hk H locs ls h1 h2 hH hS hl hL)) (fun z => absurd hc z)
    · exact lv_if_le hx hb hd (gTg_ok hng) (fun z => absurd z hc) (fun _ => (hk H locs ls h1 h2 hH hS hl hL))
  · cases h
end GS
