/-! The machine's steps, over the kit's rows. -/
/-- the tables' words that hold at every later state too -/
def gTs : List Cond := lw_tbl.filter goodWord
theorem gTs_of {w : Cond} (h : w ∈ lw_tbl) (hg : goodWord w = true) : w ∈ gTs := List.mem_filter.mpr ⟨h, hg⟩
theorem gTs_good : GoodIn gTs gTs := fun w h => ⟨h, good_of_word (List.mem_filter.mp h).2⟩
def gSwi (i : Instr) : Bool := match i with
  | .tableswitch .. => true
  | _ => false
def gLn (i : Instr) : Nat := match i with
  | .bipush _ => 2
  | .ldc _ => 2
  | .iload _ => 2
  | .lload _ => 2
  | .aload _ => 2
  | .istore _ => 2
  | .lstore _ => 2
  | .astore _ => 2
  | .newarray _ => 2
  | .sipush _ => 3
  | .ldc_w _ => 3
  | .ldc2_w _ => 3
  | .iinc _ _ => 3
  | .goto _ => 3
  | .if_icmp _ _ => 3
  | .ifCond _ _ => 3
  | .getfield _ => 3
  | .putfield _ => 3
  | .getstatic _ => 3
  | .invokestatic _ => 3
  | .invokevirtual _ => 3
  | .invokespecial _ => 3
  | .new _ => 3
  | .multianewarray _ _ => 4
  | _ => 1
def gDec (cc : ByteArray) (ins : List (Nat × Instr)) : Prop := ∀ pc i, ins.lookup pc = some i → (gSwi i = false → decode cc pc = .ok (i, gLn i)) ∧ (gSwi i = true → ∃ n, decode cc pc = .ok (i, n))
def gTy (cA : FieldType → ClassId) : List (ClassId × FieldType) := [(cA .int, .int), (cA .byte, .byte), (cA .boolean, .boolean), (cA .long, .long), (cA (.array .int), .array .int), (cA (.array .byte), .array .byte)]
abbrev gHp (cl : List vw_C) (D : va_G) (cA : FieldType → ClassId) (b : Nat) (hs : gHS) (H : Heap) : Prop := va_P D cl (gW cA b hs.2.1 hs.1) H
/-- the constant texts: lengths, signs; their places in the files -/
def gSl : List Nat := [7, 8, 6, 6, 4, 1, 1]
def gSb : List (List Int32) := [[46, 105, 110, 112, 117, 116, 115], [46, 111, 117, 116, 112, 117, 116, 115], [46, 108, 97, 116, 99, 104], [46, 110, 97, 109, 101, 115], [46, 101, 110, 100], [48], [49]]
def gEok (E : gEv) : Prop := ∀ i, i < 7 → E (100 + i) = (gSl.getD i 0, fun j => (gSb.getD i []).getD j 0)
/-- calls of a nest mate's constructor -/
def gNl : List (String × Nat × MethodName × String) := [("GateField", 28, ⟨"GateField$Text", "<init>", "()V"⟩, "GateField"), ("GateField", 35, ⟨"GateField$Gates", "<init>", "()V"⟩, "GateField")]
/-- the classes of arrays of arrays -/
def gAo (U : State) : Prop := ∀ ty : FieldType, ty = .int ∨ ty = .byte → ∃ (comp cO : ClassId) (k : Class), U.vm.findClass (FieldType.array ty).toString = some comp ∧ U.vm.classes[cO]? = some k ∧ k.kind = .array comp (.array ty) ∧ U.vm.findClass ("[" ++ (FieldType.array ty).toString) = some cO
theorem gAo.moved {u U : State} (hvm : u.vm.Alike U.vm) (h : gAo u) : gAo U := fun ty ht => by
  obtain ⟨comp, cO, k, h1, h2, h3, h4⟩ := h ty ht
  obtain ⟨k', hk', he⟩ := hvm.2.2 _ _ h2
  exact ⟨comp, cO, k', by rw [hvm.findClass]; exact h1, hk', by rw [he]; exact h3, by rw [hvm.findClass]; exact h4⟩
def gKs (pl : List (String × Nat × Nat)) (E : gEv) (K : Nat → Nat) (b : Nat) (s : State) : Prop :=
  vk_S 7 gSl gSb K (fun i => K (100 + i)) (fun q => b ≤ q) s s.heap ∧ (va_X (K 1000) (E 1000).1 (E 1000).2 s s.heap ∧ K 1000 < b ∧ K 1000 < s.heap.size) ∧ va_Z "java/lang/String" "COMPACT_STRINGS" "Z" (.int 1) (fun q => b ≤ q) s s.heap ∧ va_Z "jdk/internal/util/Preconditions" "SIOOBE_FORMATTER" "Ljava/util/function/BiFunction;" (gK0 K) (fun q => b ≤ q) s s.heap ∧ (∀ q ∈ pl, ∃ tx, vk_R q.1 q.2.1 tx (K q.2.2) s) ∧ (∀ q ∈ gNl, va_Nw (.methodLinkNest q.1 q.2.1 q.2.2.1 q.2.2.2) s) ∧ gAo s
def gPks (pl : List (String × Nat × Nat)) (own : String) (T : gT) : Prop := (∀ k v, T.2.2.1.lookup k = some (.int v) → Cond.constant own k v ∈ gTs) ∧ (∀ k v, T.2.2.1.lookup k = some (.long v) → Cond.constantLong own k v ∈ gTs) ∧ ∀ k i, T.2.2.1.lookup k = some (.retAddr i) → (own, k, i) ∈ pl
/-- what is known of the kinds of cells: their fields' words, kinds and names -/
def gCls (cl : List vw_C) : Prop := ∀ (ci : Nat) (q : vw_C), cl[ci]? = some q → (∀ w ∈ u_ws q.1 q.2.1 q.2.2, w ∈ gTs) ∧ (∃ ty : Nat → FieldType, ∀ k, k < q.2.2 → parseFieldDescriptor (q.2.1 k).2.2.1 = some (ty k)) ∧ ∀ a, a < q.2.2 → ∀ b, b < q.2.2 → a ≠ b → (q.2.1 a).2.1 ≠ (q.2.1 b).2.1
/-- a field's place in a file: of the kind 0 an int, 1 a boolean, 2 and 3 the same but final (in a constructor), 4 a final reference (likewise), 5 any that is read alone -/
def gPfk (own : String) (nm : MethodName) (q : vw_C) (j kd : Nat) : Prop := match kd with
  | 0 => (q.2.1 j).2.2.2 = false ∧ parseFieldDescriptor (q.2.1 j).2.2.1 = some .int
  | 1 => (q.2.1 j).2.2.2 = false ∧ parseFieldDescriptor (q.2.1 j).2.2.1 = some .boolean
  | 2 => (q.2.1 j).2.2.2 = true ∧ parseFieldDescriptor (q.2.1 j).2.2.1 = some .int ∧ nm.name = "<init>" ∧ q.1 = own
  | 4 => (q.2.1 j).2.2.2 = true ∧ (∃ ty, parseFieldDescriptor (q.2.1 j).2.2.1 = some ty ∧ ((∃ n, ty = .object n) ∨ ∃ t, ty = .array t)) ∧ nm.name = "<init>" ∧ q.1 = own
  | _ => True
def gPfs (cl : List vw_C) (own : String) (nm : MethodName) (T : gT) : Prop := ∀ ix ci j kd, T.1.lookup ix = some (ci, j, kd) → 900 ≤ ci ∨ ∃ q : vw_C, cl[ci]? = some q ∧ j < q.2.2 ∧ Cond.fieldLink own ix q.1 (q.2.1 j).2.1 (q.2.1 j).2.2.1 ∈ gTs ∧ (q.2.1 j).1 = q.1 ∧ gPfk own nm q j kd
section GS
variable {p : Program} {l : Launch} {e : Env} {R : Room} {s : State} {m : MethodId} {args : Array Value} {below : List Frame} {meth : Method} {c : Code} {D : va_G} {cA : FieldType → ClassId} {b : Nat} {K : Nat → Nat} {E : gEv} {cc : ByteArray} {own : String} {hs0 : gHS} {Q : State → Prop} {cl : List vw_C} {T : gT} {ins : List (Nat × Instr)} {nm : MethodName} {pl : List (String × Nat × Nat)}
def Gw (p : Program) (l : Launch) (e : Env) (R : Room) (s : State) (m : MethodId) (args : Array Value) (below : List Frame) (meth : Method) (c : Code) (cl : List vw_C) (D : va_G) (cA : FieldType → ClassId) (b : Nat) (K : Nat → Nat) (hs0 : gHS) (Q : State → Prop) (f : gFr) : Prop :=
  ∀ (H : Heap) (locs : List Loc) (ls : Array Slot), hs0.1.length ≤ f.2.2.2.1.length → hs0.2.2 ≤ f.2.2.2.2.2 → gHp cl D cA b f.2.2.2 H → va_S (fun q => b ≤ q) s.heap H locs → gLs b K ls f.2.1 → f.2.1.length = c.maxLocals →
    W p l e R s m args below meth c H locs (f.2.2.2.1.length - hs0.1.length) (f.2.2.2.2.2 - hs0.2.2) Q (F0 m f.1 ls (f.2.2.1.map (gc b K)))
/-- the frame's surroundings -/
def gOk (p : Program) (R : Room) (s : State) (m : MethodId) (args : Array Value) (meth : Method) (c : Code) (cl : List vw_C) (D : va_G) (cA : FieldType → ClassId) (b : Nat) (K : Nat → Nat) (E : gEv) (cc : ByteArray) (own : String) (nm : MethodName) (pl : List (String × Nat × Nat)) : Prop :=
  p.tables.exec = Jvm.exec ∧ c.code = cc ∧ s.vm.findClass own = some m.cls ∧ (∀ w ∈ gTs, w.before args s = true) ∧ va_K D cl (gTy cA) s ∧ (1 ≤ R.frames ∧ 64 ≤ R.locals) ∧ meth.name = nm.name ∧ gKs pl E K b s

theorem gw1_null (O : gOk p R s m args meth c cl D cA b K E cc own nm pl) (hdec : gDec cc ins) {f f' : gFr} (hi : ins.lookup f.1 = some (.aconst_null)) (h : gStep E T (.aconst_null) f = some f') (hk : Gw p l e R s m args below meth c cl D cA b K hs0 Q f') : Gw p l e R s m args below meth c cl D cA b K hs0 Q f := by
  obtain ⟨hx, hb, hown, hts, hK, hR, hnm, hE⟩ := O
  obtain ⟨pc, L, st, hs⟩ := f
  intro H locs ls h1 h2 hH hS hl hL
  have hd := (hdec pc _ hi).1 rfl
  cases h
  exact lv_null hx hb hd (hk H locs ls h1 h2 hH hS hl hL)
theorem gw1_iconst (O : gOk p R s m args meth c cl D cA b K E cc own nm pl) (hdec : gDec cc ins) {f f' : gFr} {n : Int} (hi : ins.lookup f.1 = some (.iconst n)) (h : gStep E T (.iconst n) f = some f') (hk : Gw p l e R s m args below meth c cl D cA b K hs0 Q f') : Gw p l e R s m args below meth c cl D cA b K hs0 Q f := by
  obtain ⟨hx, hb, hown, hts, hK, hR, hnm, hE⟩ := O
  obtain ⟨pc, L, st, hs⟩ := f
  intro H locs ls h1 h2 hH hS hl hL
  have hd := (hdec pc _ hi).1 rfl
  cases h
  exact lv_iconst hx hb hd rfl (hk H locs ls h1 h2 hH hS hl hL)
theorem gw1_bipush (O : gOk p R s m args meth c cl D cA b K E cc own nm pl) (hdec : gDec cc ins) {f f' : gFr} {n : Int} (hi : ins.lookup f.1 = some (.bipush n)) (h : gStep E T (.bipush n) f = some f') (hk : Gw p l e R s m args below meth c cl D cA b K hs0 Q f') : Gw p l e R s m args below meth c cl D cA b K hs0 Q f := by
  obtain ⟨hx, hb, hown, hts, hK, hR, hnm, hE⟩ := O
  obtain ⟨pc, L, st, hs⟩ := f
  intro H locs ls h1 h2 hH hS hl hL
  have hd := (hdec pc _ hi).1 rfl
  cases h
  exact lv_bipush hx hb hd rfl (hk H locs ls h1 h2 hH hS hl hL)
theorem gw1_sipush (O : gOk p R s m args meth c cl D cA b K E cc own nm pl) (hdec : gDec cc ins) {f f' : gFr} {n : Int} (hi : ins.lookup f.1 = some (.sipush n)) (h : gStep E T (.sipush n) f = some f') (hk : Gw p l e R s m args below meth c cl D cA b K hs0 Q f') : Gw p l e R s m args below meth c cl D cA b K hs0 Q f := by
  obtain ⟨hx, hb, hown, hts, hK, hR, hnm, hE⟩ := O
  obtain ⟨pc, L, st, hs⟩ := f
  intro H locs ls h1 h2 hH hS hl hL
  have hd := (hdec pc _ hi).1 rfl
  cases h
  exact lv_sipush hx hb hd rfl (hk H locs ls h1 h2 hH hS hl hL)
theorem gw1_lconst (O : gOk p R s m args meth c cl D cA b K E cc own nm pl) (hdec : gDec cc ins) {f f' : gFr} {n : Fin 2} (hi : ins.lookup f.1 = some (.lconst n)) (h : gStep E T (.lconst n) f = some f') (hk : Gw p l e R s m args below meth c cl D cA b K hs0 Q f') : Gw p l e R s m args below meth c cl D cA b K hs0 Q f := by
  obtain ⟨hx, hb, hown, hts, hK, hR, hnm, hE⟩ := O
  obtain ⟨pc, L, st, hs⟩ := f
  intro H locs ls h1 h2 hH hS hl hL
  have hd := (hdec pc _ hi).1 rfl
  cases h
  exact lv_lconst hx hb hd rfl (hk H locs ls h1 h2 hH hS hl hL)
theorem gw1_iload (O : gOk p R s m args meth c cl D cA b K E cc own nm pl) (hdec : gDec cc ins) {f f' : gFr} {n : Nat} (hi : ins.lookup f.1 = some (.iload n)) (h : gStep E T (.iload n) f = some f') (hk : Gw p l e R s m args below meth c cl D cA b K hs0 Q f') : Gw p l e R s m args below meth c cl D cA b K hs0 Q f := by
  obtain ⟨hx, hb, hown, hts, hK, hR, hnm, hE⟩ := O
  obtain ⟨pc, L, st, hs⟩ := f
  intro H locs ls h1 h2 hH hS hl hL
  have hd := (hdec pc _ hi).1 rfl
  simp only [gStep, gPI] at h
  split at h
  · rename_i x hx2
    cases h
    exact lv_iload hx hb hd (gLs_get hl hx2) (hk H locs ls h1 h2 hH hS hl hL)
  · cases h
theorem gw1_iload_n (O : gOk p R s m args meth c cl D cA b K E cc own nm pl) (hdec : gDec cc ins) {f f' : gFr} {n : Fin 4} (hi : ins.lookup f.1 = some (.iload_n n)) (h : gStep E T (.iload_n n) f = some f') (hk : Gw p l e R s m args below meth c cl D cA b K hs0 Q f') : Gw p l e R s m args below meth c cl D cA b K hs0 Q f := by
  obtain ⟨hx, hb, hown, hts, hK, hR, hnm, hE⟩ := O
  obtain ⟨pc, L, st, hs⟩ := f
  intro H locs ls h1 h2 hH hS hl hL
  have hd := (hdec pc _ hi).1 rfl
  simp only [gStep, gPI] at h
  split at h
  · rename_i x hx2
    cases h
    exact lv_iload_n hx hb hd rfl (gLs_get hl hx2) (hk H locs ls h1 h2 hH hS hl hL)
  · cases h
theorem gw1_lload (O : gOk p R s m args meth c cl D cA b K E cc own nm pl) (hdec : gDec cc ins) {f f' : gFr} {n : Nat} (hi : ins.lookup f.1 = some (.lload n)) (h : gStep E T (.lload n) f = some f') (hk : Gw p l e R s m args below meth c cl D cA b K hs0 Q f') : Gw p l e R s m args below meth c cl D cA b K hs0 Q f := by
  obtain ⟨hx, hb, hown, hts, hK, hR, hnm, hE⟩ := O
  obtain ⟨pc, L, st, hs⟩ := f
  intro H locs ls h1 h2 hH hS hl hL
  have hd := (hdec pc _ hi).1 rfl
  simp only [gStep, gPL] at h
  split at h
  · rename_i x hx2
    cases h
    exact lv_lload hx hb hd (gLs_get hl hx2) (hk H locs ls h1 h2 hH hS hl hL)
  · cases h
theorem gw1_lload_n (O : gOk p R s m args meth c cl D cA b K E cc own nm pl) (hdec : gDec cc ins) {f f' : gFr} {n : Fin 4} (hi : ins.lookup f.1 = some (.lload_n n)) (h : gStep E T (.lload_n n) f = some f') (hk : Gw p l e R s m args below meth c cl D cA b K hs0 Q f') : Gw p l e R s m args below meth c cl D cA b K hs0 Q f := by
  obtain ⟨hx, hb, hown, hts, hK, hR, hnm, hE⟩ := O
  obtain ⟨pc, L, st, hs⟩ := f
  intro H locs ls h1 h2 hH hS hl hL
  have hd := (hdec pc _ hi).1 rfl
  simp only [gStep, gPL] at h
  split at h
  · rename_i x hx2
    cases h
    exact lv_lload_n hx hb hd rfl (gLs_get hl hx2) (hk H locs ls h1 h2 hH hS hl hL)
  · cases h
theorem gw1_aload (O : gOk p R s m args meth c cl D cA b K E cc own nm pl) (hdec : gDec cc ins) {f f' : gFr} {n : Nat} (hi : ins.lookup f.1 = some (.aload n)) (h : gStep E T (.aload n) f = some f') (hk : Gw p l e R s m args below meth c cl D cA b K hs0 Q f') : Gw p l e R s m args below meth c cl D cA b K hs0 Q f := by
  obtain ⟨hx, hb, hown, hts, hK, hR, hnm, hE⟩ := O
  obtain ⟨pc, L, st, hs⟩ := f
  intro H locs ls h1 h2 hH hS hl hL
  have hd := (hdec pc _ hi).1 rfl
  simp only [gStep, gPR] at h
  split at h
  · rename_i x hx2
    cases h
    exact lv_aload hx hb hd (gLs_get hl hx2) (hk H locs ls h1 h2 hH hS hl hL)
  · rename_i hx2
    cases h
    exact lv_aloadN hx hb hd (gLs_get hl hx2) (hk H locs ls h1 h2 hH hS hl hL)
  · rename_i x hx2
    cases h
    exact lv_aload hx hb hd (gLs_get hl hx2) (hk H locs ls h1 h2 hH hS hl hL)
  · cases h
theorem gw1_aload_n (O : gOk p R s m args meth c cl D cA b K E cc own nm pl) (hdec : gDec cc ins) {f f' : gFr} {n : Fin 4} (hi : ins.lookup f.1 = some (.aload_n n)) (h : gStep E T (.aload_n n) f = some f') (hk : Gw p l e R s m args below meth c cl D cA b K hs0 Q f') : Gw p l e R s m args below meth c cl D cA b K hs0 Q f := by
  obtain ⟨hx, hb, hown, hts, hK, hR, hnm, hE⟩ := O
  obtain ⟨pc, L, st, hs⟩ := f
  intro H locs ls h1 h2 hH hS hl hL
  have hd := (hdec pc _ hi).1 rfl
  simp only [gStep, gPR] at h
  split at h
  · rename_i x hx2
    cases h
    exact lv_aload_n hx hb hd rfl (gLs_get hl hx2) (hk H locs ls h1 h2 hH hS hl hL)
  · rename_i hx2
    cases h
    exact lv_aload_nN hx hb hd rfl (gLs_get hl hx2) (hk H locs ls h1 h2 hH hS hl hL)
  · rename_i x hx2
    cases h
    exact lv_aload_n hx hb hd rfl (gLs_get hl hx2) (hk H locs ls h1 h2 hH hS hl hL)
  · cases h
theorem gw1_istore (O : gOk p R s m args meth c cl D cA b K E cc own nm pl) (hdec : gDec cc ins) {f f' : gFr} {n : Nat} (hi : ins.lookup f.1 = some (.istore n)) (h : gStep E T (.istore n) f = some f') (hk : Gw p l e R s m args below meth c cl D cA b K hs0 Q f') : Gw p l e R s m args below meth c cl D cA b K hs0 Q f := by
  obtain ⟨hx, hb, hown, hts, hK, hR, hnm, hE⟩ := O
  obtain ⟨pc, L, st, hs⟩ := f
  intro H locs ls h1 h2 hH hS hl hL
  have hd := (hdec pc _ hi).1 rfl
  simp only [gStep, gSI] at h
  split at h
  · obtain ⟨L', hL', h⟩ := Option.map_eq_some_iff.mp h
    cases h
    exact lv_istore hx hb hd hl (gSt_len hL').1 rfl (fun ls' hl' => hk H locs ls' h1 h2 hH hS (gLs_set hL' hl') ((gSt_len hL').2.trans hL))
  · cases h
theorem gw1_istore_n (O : gOk p R s m args meth c cl D cA b K E cc own nm pl) (hdec : gDec cc ins) {f f' : gFr} {n : Fin 4} (hi : ins.lookup f.1 = some (.istore_n n)) (h : gStep E T (.istore_n n) f = some f') (hk : Gw p l e R s m args below meth c cl D cA b K hs0 Q f') : Gw p l e R s m args below meth c cl D cA b K hs0 Q f := by
  obtain ⟨hx, hb, hown, hts, hK, hR, hnm, hE⟩ := O
  obtain ⟨pc, L, st, hs⟩ := f
  intro H locs ls h1 h2 hH hS hl hL
  have hd := (hdec pc _ hi).1 rfl
  simp only [gStep, gSI] at h
  split at h
  · obtain ⟨L', hL', h⟩ := Option.map_eq_some_iff.mp h
    cases h
    exact lv_istore_n hx hb hd rfl hl (gSt_len hL').1 rfl (fun ls' hl' => hk H locs ls' h1 h2 hH hS (gLs_set hL' hl') ((gSt_len hL').2.trans hL))
  · cases h
theorem gw1_lstore (O : gOk p R s m args meth c cl D cA b K E cc own nm pl) (hdec : gDec cc ins) {f f' : gFr} {n : Nat} (hi : ins.lookup f.1 = some (.lstore n)) (h : gStep E T (.lstore n) f = some f') (hk : Gw p l e R s m args below meth c cl D cA b K hs0 Q f') : Gw p l e R s m args below meth c cl D cA b K hs0 Q f := by
  obtain ⟨hx, hb, hown, hts, hK, hR, hnm, hE⟩ := O
  obtain ⟨pc, L, st, hs⟩ := f
  intro H locs ls h1 h2 hH hS hl hL
  have hd := (hdec pc _ hi).1 rfl
  simp only [gStep, gSL] at h
  split at h
  · obtain ⟨L', hL', h⟩ := Option.map_eq_some_iff.mp h
    cases h
    exact lv_lstore hx hb hd hl (gStL_len hL').1 rfl (fun ls' hl' => hk H locs ls' h1 h2 hH hS (gLs_setL hL' hl') ((gStL_len hL').2.trans hL))
  · cases h
theorem gw1_lstore_n (O : gOk p R s m args meth c cl D cA b K E cc own nm pl) (hdec : gDec cc ins) {f f' : gFr} {n : Fin 4} (hi : ins.lookup f.1 = some (.lstore_n n)) (h : gStep E T (.lstore_n n) f = some f') (hk : Gw p l e R s m args below meth c cl D cA b K hs0 Q f') : Gw p l e R s m args below meth c cl D cA b K hs0 Q f := by
  obtain ⟨hx, hb, hown, hts, hK, hR, hnm, hE⟩ := O
  obtain ⟨pc, L, st, hs⟩ := f
  intro H locs ls h1 h2 hH hS hl hL
  have hd := (hdec pc _ hi).1 rfl
  simp only [gStep, gSL] at h
  split at h
  · obtain ⟨L', hL', h⟩ := Option.map_eq_some_iff.mp h
    cases h
    exact lv_lstore_n hx hb hd rfl hl (gStL_len hL').1 rfl (fun ls' hl' => hk H locs ls' h1 h2 hH hS (gLs_setL hL' hl') ((gStL_len hL').2.trans hL))
  · cases h
theorem gw1_astore (O : gOk p R s m args meth c cl D cA b K E cc own nm pl) (hdec : gDec cc ins) {f f' : gFr} {n : Nat} (hi : ins.lookup f.1 = some (.astore n)) (h : gStep E T (.astore n) f = some f') (hk : Gw p l e R s m args below meth c cl D cA b K hs0 Q f') : Gw p l e R s m args below meth c cl D cA b K hs0 Q f := by
  obtain ⟨hx, hb, hown, hts, hK, hR, hnm, hE⟩ := O
  obtain ⟨pc, L, st, hs⟩ := f
  intro H locs ls h1 h2 hH hS hl hL
  have hd := (hdec pc _ hi).1 rfl
  simp only [gStep, gSR] at h
  split at h
  · obtain ⟨L', hL', h⟩ := Option.map_eq_some_iff.mp h
    cases h
    exact lv_astore hx hb hd hl (gSt_len hL').1 rfl (fun ls' hl' => hk H locs ls' h1 h2 hH hS (gLs_set hL' hl') ((gSt_len hL').2.trans hL))
  · obtain ⟨L', hL', h⟩ := Option.map_eq_some_iff.mp h
    cases h
    exact lv_astoreN hx hb hd hl (gSt_len hL').1 rfl (fun ls' hl' => hk H locs ls' h1 h2 hH hS (gLs_set hL' hl') ((gSt_len hL').2.trans hL))
  · obtain ⟨L', hL', h⟩ := Option.map_eq_some_iff.mp h
    cases h
    exact lv_astore hx hb hd hl (gSt_len hL').1 rfl (fun ls' hl' => hk H locs ls' h1 h2 hH hS (gLs_set hL' hl') ((gSt_len hL').2.trans hL))
  · cases h
theorem gw1_astore_n (O : gOk p R s m args meth c cl D cA b K E cc own nm pl) (hdec : gDec cc ins) {f f' : gFr} {n : Fin 4} (hi : ins.lookup f.1 = some (.astore_n n)) (h : gStep E T (.astore_n n) f = some f') (hk : Gw p l e R s m args below meth c cl D cA b K hs0 Q f') : Gw p l e R s m args below meth c cl D cA b K hs0 Q f := by
  obtain ⟨hx, hb, hown, hts, hK, hR, hnm, hE⟩ := O
  obtain ⟨pc, L, st, hs⟩ := f
  intro H locs ls h1 h2 hH hS hl hL
  have hd := (hdec pc _ hi).1 rfl
  simp only [gStep, gSR] at h
  split at h
  · obtain ⟨L', hL', h⟩ := Option.map_eq_some_iff.mp h
    cases h
    exact lv_astore_n hx hb hd rfl hl (gSt_len hL').1 rfl (fun ls' hl' => hk H locs ls' h1 h2 hH hS (gLs_set hL' hl') ((gSt_len hL').2.trans hL))
  · obtain ⟨L', hL', h⟩ := Option.map_eq_some_iff.mp h
    cases h
    exact lv_astore_nN hx hb hd rfl hl (gSt_len hL').1 rfl (fun ls' hl' => hk H locs ls' h1 h2 hH hS (gLs_set hL' hl') ((gSt_len hL').2.trans hL))
  · obtain ⟨L', hL', h⟩ := Option.map_eq_some_iff.mp h
    cases h
    exact lv_astore_n hx hb hd rfl hl (gSt_len hL').1 rfl (fun ls' hl' => hk H locs ls' h1 h2 hH hS (gLs_set hL' hl') ((gSt_len hL').2.trans hL))
  · cases h
theorem gw1_iinc (O : gOk p R s m args meth c cl D cA b K E cc own nm pl) (hdec : gDec cc ins) {f f' : gFr} {n : Nat} {k : Int} (hi : ins.lookup f.1 = some (.iinc n k)) (h : gStep E T (.iinc n k) f = some f') (hk : Gw p l e R s m args below meth c cl D cA b K hs0 Q f') : Gw p l e R s m args below meth c cl D cA b K hs0 Q f := by
  obtain ⟨hx, hb, hown, hts, hK, hR, hnm, hE⟩ := O
  obtain ⟨pc, L, st, hs⟩ := f
  intro H locs ls h1 h2 hH hS hl hL
  have hd := (hdec pc _ hi).1 rfl
  simp only [gStep] at h
  split at h
  · rename_i x hx2
    obtain ⟨L', hL', h⟩ := Option.map_eq_some_iff.mp h
    cases h
    have hm := gPr_in (b := b) (K := K) L 0 n _ (gLd_some hx2)
    rw [Nat.zero_add] at hm
    obtain ⟨q, hq⟩ := List.getElem?_of_mem hm
    exact lv_iinc hx hb hd hl hq rfl (gSt_len hL').1 rfl (fun ls' hl' => hk H locs ls' h1 h2 hH hS (gLs_set hL' hl') ((gSt_len hL').2.trans hL))
  · cases h
theorem gw1_iadd (O : gOk p R s m args meth c cl D cA b K E cc own nm pl) (hdec : gDec cc ins) {f f' : gFr} (hi : ins.lookup f.1 = some (.iadd)) (h : gStep E T (.iadd) f = some f') (hk : Gw p l e R s m args below meth c cl D cA b K hs0 Q f') : Gw p l e R s m args below meth c cl D cA b K hs0 Q f := by
  obtain ⟨hx, hb, hown, hts, hK, hR, hnm, hE⟩ := O
  obtain ⟨pc, L, st, hs⟩ := f
  intro H locs ls h1 h2 hH hS hl hL
  have hd := (hdec pc _ hi).1 rfl
  simp only [gStep, gI2] at h
  split at h
  · cases h
    exact lv_iadd hx hb hd (hk H locs ls h1 h2 hH hS hl hL)
  · cases h
theorem gw1_isub (O : gOk p R s m args meth c cl D cA b K E cc own nm pl) (hdec : gDec cc ins) {f f' : gFr} (hi : ins.lookup f.1 = some (.isub)) (h : gStep E T (.isub) f = some f') (hk : Gw p l e R s m args below meth c cl D cA b K hs0 Q f') : Gw p l e R s m args below meth c cl D cA b K hs0 Q f := by
  obtain ⟨hx, hb, hown, hts, hK, hR, hnm, hE⟩ := O
  obtain ⟨pc, L, st, hs⟩ := f
  intro H locs ls h1 h2 hH hS hl hL
  have hd := (hdec pc _ hi).1 rfl
  simp only [gStep, gI2] at h
  split at h
  · cases h
    exact lv_isub hx hb hd (hk H locs ls h1 h2 hH hS hl hL)
  · cases h
theorem gw1_imul (O : gOk p R s m args meth c cl D cA b K E cc own nm pl) (hdec : gDec cc ins) {f f' : gFr} (hi : ins.lookup f.1 = some (.imul)) (h : gStep E T (.imul) f = some f') (hk : Gw p l e R s m args below meth c cl D cA b K hs0 Q f') : Gw p l e R s m args below meth c cl D cA b K hs0 Q f := by
  obtain ⟨hx, hb, hown, hts, hK, hR, hnm, hE⟩ := O
  obtain ⟨pc, L, st, hs⟩ := f
  intro H locs ls h1 h2 hH hS hl hL
  have hd := (hdec pc _ hi).1 rfl
  simp only [gStep, gI2] at h
  split at h
  · cases h
    exact lv_imul hx hb hd (hk H locs ls h1 h2 hH hS hl hL)
  · cases h
theorem gw1_iand (O : gOk p R s m args meth c cl D cA b K E cc own nm pl) (hdec : gDec cc ins) {f f' : gFr} (hi : ins.lookup f.1 = some (.iand)) (h : gStep E T (.iand) f = some f') (hk : Gw p l e R s m args below meth c cl D cA b K hs0 Q f') : Gw p l e R s m args below meth c cl D cA b K hs0 Q f := by
  obtain ⟨hx, hb, hown, hts, hK, hR, hnm, hE⟩ := O
  obtain ⟨pc, L, st, hs⟩ := f
  intro H locs ls h1 h2 hH hS hl hL
  have hd := (hdec pc _ hi).1 rfl
  simp only [gStep, gI2] at h
  split at h
  · cases h
    exact lv_iand hx hb hd (hk H locs ls h1 h2 hH hS hl hL)
  · cases h
theorem gw1_ior (O : gOk p R s m args meth c cl D cA b K E cc own nm pl) (hdec : gDec cc ins) {f f' : gFr} (hi : ins.lookup f.1 = some (.ior)) (h : gStep E T (.ior) f = some f') (hk : Gw p l e R s m args below meth c cl D cA b K hs0 Q f') : Gw p l e R s m args below meth c cl D cA b K hs0 Q f := by
  obtain ⟨hx, hb, hown, hts, hK, hR, hnm, hE⟩ := O
  obtain ⟨pc, L, st, hs⟩ := f
  intro H locs ls h1 h2 hH hS hl hL
  have hd := (hdec pc _ hi).1 rfl
  simp only [gStep, gI2] at h
  split at h
  · cases h
    exact lv_ior hx hb hd (hk H locs ls h1 h2 hH hS hl hL)
  · cases h
theorem gw1_ixor (O : gOk p R s m args meth c cl D cA b K E cc own nm pl) (hdec : gDec cc ins) {f f' : gFr} (hi : ins.lookup f.1 = some (.ixor)) (h : gStep E T (.ixor) f = some f') (hk : Gw p l e R s m args below meth c cl D cA b K hs0 Q f') : Gw p l e R s m args below meth c cl D cA b K hs0 Q f := by
  obtain ⟨hx, hb, hown, hts, hK, hR, hnm, hE⟩ := O
  obtain ⟨pc, L, st, hs⟩ := f
  intro H locs ls h1 h2 hH hS hl hL
  have hd := (hdec pc _ hi).1 rfl
  simp only [gStep, gI2] at h
  split at h
  · cases h
    exact lv_ixor hx hb hd (hk H locs ls h1 h2 hH hS hl hL)
  · cases h
theorem gw1_ishl (O : gOk p R s m args meth c cl D cA b K E cc own nm pl) (hdec : gDec cc ins) {f f' : gFr} (hi : ins.lookup f.1 = some (.ishl)) (h : gStep E T (.ishl) f = some f') (hk : Gw p l e R s m args below meth c cl D cA b K hs0 Q f') : Gw p l e R s m args below meth c cl D cA b K hs0 Q f := by
  obtain ⟨hx, hb, hown, hts, hK, hR, hnm, hE⟩ := O
  obtain ⟨pc, L, st, hs⟩ := f
  intro H locs ls h1 h2 hH hS hl hL
  have hd := (hdec pc _ hi).1 rfl
  simp only [gStep, gI2] at h
  split at h
  · cases h
    exact lv_ishl hx hb hd (hk H locs ls h1 h2 hH hS hl hL)
  · cases h
theorem gw1_ishr (O : gOk p R s m args meth c cl D cA b K E cc own nm pl) (hdec : gDec cc ins) {f f' : gFr} (hi : ins.lookup f.1 = some (.ishr)) (h : gStep E T (.ishr) f = some f') (hk : Gw p l e R s m args below meth c cl D cA b K hs0 Q f') : Gw p l e R s m args below meth c cl D cA b K hs0 Q f := by
  obtain ⟨hx, hb, hown, hts, hK, hR, hnm, hE⟩ := O
  obtain ⟨pc, L, st, hs⟩ := f
  intro H locs ls h1 h2 hH hS hl hL
  have hd := (hdec pc _ hi).1 rfl
  simp only [gStep, gI2] at h
  split at h
  · cases h
    exact lv_ishr hx hb hd (hk H locs ls h1 h2 hH hS hl hL)
  · cases h
theorem gw1_iushr (O : gOk p R s m args meth c cl D cA b K E cc own nm pl) (hdec : gDec cc ins) {f f' : gFr} (hi : ins.lookup f.1 = some (.iushr)) (h : gStep E T (.iushr) f = some f') (hk : Gw p l e R s m args below meth c cl D cA b K hs0 Q f') : Gw p l e R s m args below meth c cl D cA b K hs0 Q f := by
  obtain ⟨hx, hb, hown, hts, hK, hR, hnm, hE⟩ := O
  obtain ⟨pc, L, st, hs⟩ := f
  intro H locs ls h1 h2 hH hS hl hL
  have hd := (hdec pc _ hi).1 rfl
  simp only [gStep, gI2] at h
  split at h
  · cases h
    exact lv_iushr hx hb hd rfl (hk H locs ls h1 h2 hH hS hl hL)
  · cases h
theorem gw1_ineg (O : gOk p R s m args meth c cl D cA b K E cc own nm pl) (hdec : gDec cc ins) {f f' : gFr} (hi : ins.lookup f.1 = some (.ineg)) (h : gStep E T (.ineg) f = some f') (hk : Gw p l e R s m args below meth c cl D cA b K hs0 Q f') : Gw p l e R s m args below meth c cl D cA b K hs0 Q f := by
  obtain ⟨hx, hb, hown, hts, hK, hR, hnm, hE⟩ := O
  obtain ⟨pc, L, st, hs⟩ := f
  intro H locs ls h1 h2 hH hS hl hL
  have hd := (hdec pc _ hi).1 rfl
  simp only [gStep, gI1] at h
  split at h
  · cases h
    exact lv_ineg hx hb hd (hk H locs ls h1 h2 hH hS hl hL)
  · cases h
theorem gw1_i2b (O : gOk p R s m args meth c cl D cA b K E cc own nm pl) (hdec : gDec cc ins) {f f' : gFr} (hi : ins.lookup f.1 = some (.i2b)) (h : gStep E T (.i2b) f = some f') (hk : Gw p l e R s m args below meth c cl D cA b K hs0 Q f') : Gw p l e R s m args below meth c cl D cA b K hs0 Q f := by
  obtain ⟨hx, hb, hown, hts, hK, hR, hnm, hE⟩ := O
  obtain ⟨pc, L, st, hs⟩ := f
  intro H locs ls h1 h2 hH hS hl hL
  have hd := (hdec pc _ hi).1 rfl
  simp only [gStep, gI1] at h
  split at h
  · cases h
    exact lv_i2b hx hb hd rfl (hk H locs ls h1 h2 hH hS hl hL)
  · cases h
theorem gw1_i2c (O : gOk p R s m args meth c cl D cA b K E cc own nm pl) (hdec : gDec cc ins) {f f' : gFr} (hi : ins.lookup f.1 = some (.i2c)) (h : gStep E T (.i2c) f = some f') (hk : Gw p l e R s m args below meth c cl D cA b K hs0 Q f') : Gw p l e R s m args below meth c cl D cA b K hs0 Q f := by
  obtain ⟨hx, hb, hown, hts, hK, hR, hnm, hE⟩ := O
  obtain ⟨pc, L, st, hs⟩ := f
  intro H locs ls h1 h2 hH hS hl hL
  have hd := (hdec pc _ hi).1 rfl
  simp only [gStep, gI1] at h
  split at h
  · cases h
    exact lv_i2c hx hb hd rfl (hk H locs ls h1 h2 hH hS hl hL)
  · cases h
theorem gw1_idiv (O : gOk p R s m args meth c cl D cA b K E cc own nm pl) (hdec : gDec cc ins) {f f' : gFr} (hi : ins.lookup f.1 = some (.idiv)) (h : gStep E T (.idiv) f = some f') (hk : Gw p l e R s m args below meth c cl D cA b K hs0 Q f') : Gw p l e R s m args below meth c cl D cA b K hs0 Q f := by
  obtain ⟨hx, hb, hown, hts, hK, hR, hnm, hE⟩ := O
  obtain ⟨pc, L, st, hs⟩ := f
  intro H locs ls h1 h2 hH hS hl hL
  have hd := (hdec pc _ hi).1 rfl
  simp only [gStep] at h
  split at h
  · split at h
    · rename_i hne
      cases h
      exact lv_idiv hx hb hd hne (hk H locs ls h1 h2 hH hS hl hL)
    · cases h
  · cases h
theorem gw1_irem (O : gOk p R s m args meth c cl D cA b K E cc own nm pl) (hdec : gDec cc ins) {f f' : gFr} (hi : ins.lookup f.1 = some (.irem)) (h : gStep E T (.irem) f = some f') (hk : Gw p l e R s m args below meth c cl D cA b K hs0 Q f') : Gw p l e R s m args below meth c cl D cA b K hs0 Q f := by
  obtain ⟨hx, hb, hown, hts, hK, hR, hnm, hE⟩ := O
  obtain ⟨pc, L, st, hs⟩ := f
  intro H locs ls h1 h2 hH hS hl hL
  have hd := (hdec pc _ hi).1 rfl
  simp only [gStep] at h
  split at h
  · split at h
    · rename_i hne
      cases h
      exact lv_irem hx hb hd hne (hk H locs ls h1 h2 hH hS hl hL)
    · cases h
  · cases h
theorem gw1_ladd (O : gOk p R s m args meth c cl D cA b K E cc own nm pl) (hdec : gDec cc ins) {f f' : gFr} (hi : ins.lookup f.1 = some (.ladd)) (h : gStep E T (.ladd) f = some f') (hk : Gw p l e R s m args below meth c cl D cA b K hs0 Q f') : Gw p l e R s m args below meth c cl D cA b K hs0 Q f := by
  obtain ⟨hx, hb, hown, hts, hK, hR, hnm, hE⟩ := O
  obtain ⟨pc, L, st, hs⟩ := f
  intro H locs ls h1 h2 hH hS hl hL
  have hd := (hdec pc _ hi).1 rfl
  simp only [gStep, gL2] at h
  split at h
  · cases h
    exact lv_ladd hx hb hd (hk H locs ls h1 h2 hH hS hl hL)
  · cases h
theorem gw1_lsub (O : gOk p R s m args meth c cl D cA b K E cc own nm pl) (hdec : gDec cc ins) {f f' : gFr} (hi : ins.lookup f.1 = some (.lsub)) (h : gStep E T (.lsub) f = some f') (hk : Gw p l e R s m args below meth c cl D cA b K hs0 Q f') : Gw p l e R s m args below meth c cl D cA b K hs0 Q f := by
  obtain ⟨hx, hb, hown, hts, hK, hR, hnm, hE⟩ := O
  obtain ⟨pc, L, st, hs⟩ := f
  intro H locs ls h1 h2 hH hS hl hL
  have hd := (hdec pc _ hi).1 rfl
  simp only [gStep, gL2] at h
  split at h
  · cases h
    exact lv_lsub hx hb hd (hk H locs ls h1 h2 hH hS hl hL)
  · cases h
theorem gw1_lmul (O : gOk p R s m args meth c cl D cA b K E cc own nm pl) (hdec : gDec cc ins) {f f' : gFr} (hi : ins.lookup f.1 = some (.lmul)) (h : gStep E T (.lmul) f = some f') (hk : Gw p l e R s m args below meth c cl D cA b K hs0 Q f') : Gw p l e R s m args below meth c cl D cA b K hs0 Q f := by
  obtain ⟨hx, hb, hown, hts, hK, hR, hnm, hE⟩ := O
  obtain ⟨pc, L, st, hs⟩ := f
  intro H locs ls h1 h2 hH hS hl hL
  have hd := (hdec pc _ hi).1 rfl
  simp only [gStep, gL2] at h
  split at h
  · cases h
    exact lv_lmul hx hb hd (hk H locs ls h1 h2 hH hS hl hL)
  · cases h
theorem gw1_land (O : gOk p R s m args meth c cl D cA b K E cc own nm pl) (hdec : gDec cc ins) {f f' : gFr} (hi : ins.lookup f.1 = some (.land)) (h : gStep E T (.land) f = some f') (hk : Gw p l e R s m args below meth c cl D cA b K hs0 Q f') : Gw p l e R s m args below meth c cl D cA b K hs0 Q f := by
  obtain ⟨hx, hb, hown, hts, hK, hR, hnm, hE⟩ := O
  obtain ⟨pc, L, st, hs⟩ := f
  intro H locs ls h1 h2 hH hS hl hL
  have hd := (hdec pc _ hi).1 rfl
  simp only [gStep, gL2] at h
  split at h
  · cases h
    exact lv_land hx hb hd (hk H locs ls h1 h2 hH hS hl hL)
  · cases h
theorem gw1_lor (O : gOk p R s m args meth c cl D cA b K E cc own nm pl) (hdec : gDec cc ins) {f f' : gFr} (hi : ins.lookup f.1 = some (.lor)) (h : gStep E T (.lor) f = some f') (hk : Gw p l e R s m args below meth c cl D cA b K hs0 Q f') : Gw p l e R s m args below meth c cl D cA b K hs0 Q f := by
  obtain ⟨hx, hb, hown, hts, hK, hR, hnm, hE⟩ := O
  obtain ⟨pc, L, st, hs⟩ := f
  intro H locs ls h1 h2 hH hS hl hL
  have hd := (hdec pc _ hi).1 rfl
  simp only [gStep, gL2] at h
  split at h
  · cases h
    exact lv_lor hx hb hd (hk H locs ls h1 h2 hH hS hl hL)
  · cases h
theorem gw1_lxor (O : gOk p R s m args meth c cl D cA b K E cc own nm pl) (hdec : gDec cc ins) {f f' : gFr} (hi : ins.lookup f.1 = some (.lxor)) (h : gStep E T (.lxor) f = some f') (hk : Gw p l e R s m args below meth c cl D cA b K hs0 Q f') : Gw p l e R s m args below meth c cl D cA b K hs0 Q f := by
  obtain ⟨hx, hb, hown, hts, hK, hR, hnm, hE⟩ := O
  obtain ⟨pc, L, st, hs⟩ := f
  intro H locs ls h1 h2 hH hS hl hL
  have hd := (hdec pc _ hi).1 rfl
  simp only [gStep, gL2] at h
  split at h
  · cases h
    exact lv_lxor hx hb hd (hk H locs ls h1 h2 hH hS hl hL)
  · cases h
theorem gw1_lshl (O : gOk p R s m args meth c cl D cA b K E cc own nm pl) (hdec : gDec cc ins) {f f' : gFr} (hi : ins.lookup f.1 = some (.lshl)) (h : gStep E T (.lshl) f = some f') (hk : Gw p l e R s m args below meth c cl D cA b K hs0 Q f') : Gw p l e R s m args below meth c cl D cA b K hs0 Q f := by
  obtain ⟨hx, hb, hown, hts, hK, hR, hnm, hE⟩ := O
  obtain ⟨pc, L, st, hs⟩ := f
  intro H locs ls h1 h2 hH hS hl hL
  have hd := (hdec pc _ hi).1 rfl
  simp only [gStep] at h
  split at h
  · cases h
    exact lv_lshl hx hb hd rfl (hk H locs ls h1 h2 hH hS hl hL)
  · cases h
theorem gw1_lshr (O : gOk p R s m args meth c cl D cA b K E cc own nm pl) (hdec : gDec cc ins) {f f' : gFr} (hi : ins.lookup f.1 = some (.lshr)) (h : gStep E T (.lshr) f = some f') (hk : Gw p l e R s m args below meth c cl D cA b K hs0 Q f') : Gw p l e R s m args below meth c cl D cA b K hs0 Q f := by
  obtain ⟨hx, hb, hown, hts, hK, hR, hnm, hE⟩ := O
  obtain ⟨pc, L, st, hs⟩ := f
  intro H locs ls h1 h2 hH hS hl hL
  have hd := (hdec pc _ hi).1 rfl
  simp only [gStep] at h
  split at h
  · cases h
    exact lv_lshr hx hb hd rfl (hk H locs ls h1 h2 hH hS hl hL)
  · cases h
theorem gw1_lushr (O : gOk p R s m args meth c cl D cA b K E cc own nm pl) (hdec : gDec cc ins) {f f' : gFr} (hi : ins.lookup f.1 = some (.lushr)) (h : gStep E T (.lushr) f = some f') (hk : Gw p l e R s m args below meth c cl D cA b K hs0 Q f') : Gw p l e R s m args below meth c cl D cA b K hs0 Q f := by
  obtain ⟨hx, hb, hown, hts, hK, hR, hnm, hE⟩ := O
  obtain ⟨pc, L, st, hs⟩ := f
  intro H locs ls h1 h2 hH hS hl hL
  have hd := (hdec pc _ hi).1 rfl
  simp only [gStep] at h
  split at h
  · cases h
    exact lv_lushr hx hb hd rfl (hk H locs ls h1 h2 hH hS hl hL)
  · cases h
theorem gw1_i2l (O : gOk p R s m args meth c cl D cA b K E cc own nm pl) (hdec : gDec cc ins) {f f' : gFr} (hi : ins.lookup f.1 = some (.i2l)) (h : gStep E T (.i2l) f = some f') (hk : Gw p l e R s m args below meth c cl D cA b K hs0 Q f') : Gw p l e R s m args below meth c cl D cA b K hs0 Q f := by
  obtain ⟨hx, hb, hown, hts, hK, hR, hnm, hE⟩ := O
  obtain ⟨pc, L, st, hs⟩ := f
  intro H locs ls h1 h2 hH hS hl hL
  have hd := (hdec pc _ hi).1 rfl
  simp only [gStep] at h
  split at h
  · cases h
    exact lv_i2l hx hb hd rfl (hk H locs ls h1 h2 hH hS hl hL)
  · cases h
theorem gw1_l2i (O : gOk p R s m args meth c cl D cA b K E cc own nm pl) (hdec : gDec cc ins) {f f' : gFr} (hi : ins.lookup f.1 = some (.l2i)) (h : gStep E T (.l2i) f = some f') (hk : Gw p l e R s m args below meth c cl D cA b K hs0 Q f') : Gw p l e R s m args below meth c cl D cA b K hs0 Q f := by
  obtain ⟨hx, hb, hown, hts, hK, hR, hnm, hE⟩ := O
  obtain ⟨pc, L, st, hs⟩ := f
  intro H locs ls h1 h2 hH hS hl hL
  have hd := (hdec pc _ hi).1 rfl
  simp only [gStep] at h
  split at h
  · cases h
    exact lv_l2i hx hb hd rfl (hk H locs ls h1 h2 hH hS hl hL)
  · cases h
theorem gw1_lcmp (O : gOk p R s m args meth c cl D cA b K E cc own nm pl) (hdec : gDec cc ins) {f f' : gFr} (hi : ins.lookup f.1 = some (.lcmp)) (h : gStep E T (.lcmp) f = some f') (hk : Gw p l e R s m args below meth c cl D cA b K hs0 Q f') : Gw p l e R s m args below meth c cl D cA b K hs0 Q f := by
  obtain ⟨hx, hb, hown, hts, hK, hR, hnm, hE⟩ := O
  obtain ⟨pc, L, st, hs⟩ := f
  intro H locs ls h1 h2 hH hS hl hL
  have hd := (hdec pc _ hi).1 rfl
  simp only [gStep] at h
  split at h
  · cases h
    exact W.lcmp hx hb hd (hk H locs ls h1 h2 hH hS hl hL)
  · cases h
theorem gw1_dup (O : gOk p R s m args meth c cl D cA b K E cc own nm pl) (hdec : gDec cc ins) {f f' : gFr} (hi : ins.lookup f.1 = some (.dup)) (h : gStep E T (.dup) f = some f') (hk : Gw p l e R s m args below meth c cl D cA b K hs0 Q f') : Gw p l e R s m args below meth c cl D cA b K hs0 Q f := by
  obtain ⟨hx, hb, hown, hts, hK, hR, hnm, hE⟩ := O
  obtain ⟨pc, L, st, hs⟩ := f
  intro H locs ls h1 h2 hH hS hl hL
  have hd := (hdec pc _ hi).1 rfl
  simp only [gStep] at h
  split at h
  · split at h
    · rename_i hc
      cases h
      exact lv_dup hx hb hd ((gc_cat b K _).trans (of_decide_eq_true hc)) (hk H locs ls h1 h2 hH hS hl hL)
    · cases h
  · cases h
theorem gw1_pop (O : gOk p R s m args meth c cl D cA b K E cc own nm pl) (hdec : gDec cc ins) {f f' : gFr} (hi : ins.lookup f.1 = some (.pop)) (h : gStep E T (.pop) f = some f') (hk : Gw p l e R s m args below meth c cl D cA b K hs0 Q f') : Gw p l e R s m args below meth c cl D cA b K hs0 Q f := by
  obtain ⟨hx, hb, hown, hts, hK, hR, hnm, hE⟩ := O
  obtain ⟨pc, L, st, hs⟩ := f
  intro H locs ls h1 h2 hH hS hl hL
  have hd := (hdec pc _ hi).1 rfl
  simp only [gStep] at h
  split at h
  · split at h
    · rename_i hc
      cases h
      exact lv_pop hx hb hd ((gc_cat b K _).trans (of_decide_eq_true hc)) (hk H locs ls h1 h2 hH hS hl hL)
    · cases h
  · cases h
theorem gw1_dup_x1 (O : gOk p R s m args meth c cl D cA b K E cc own nm pl) (hdec : gDec cc ins) {f f' : gFr} (hi : ins.lookup f.1 = some (.dup_x1)) (h : gStep E T (.dup_x1) f = some f') (hk : Gw p l e R s m args below meth c cl D cA b K hs0 Q f') : Gw p l e R s m args below meth c cl D cA b K hs0 Q f := by
  obtain ⟨hx, hb, hown, hts, hK, hR, hnm, hE⟩ := O
  obtain ⟨pc, L, st, hs⟩ := f
  intro H locs ls h1 h2 hH hS hl hL
  have hd := (hdec pc _ hi).1 rfl
  simp only [gStep] at h
  split at h
  · split at h
    · rename_i hc
      simp only [Bool.and_eq_true, decide_eq_true_eq] at hc
      cases h
      exact lv_dup_x1 hx hb hd ((gc_cat b K _).trans hc.1) ((gc_cat b K _).trans hc.2) (hk H locs ls h1 h2 hH hS hl hL)
    · cases h
  · cases h
theorem gw1_dup2 (O : gOk p R s m args meth c cl D cA b K E cc own nm pl) (hdec : gDec cc ins) {f f' : gFr} (hi : ins.lookup f.1 = some (.dup2)) (h : gStep E T (.dup2) f = some f') (hk : Gw p l e R s m args below meth c cl D cA b K hs0 Q f') : Gw p l e R s m args below meth c cl D cA b K hs0 Q f := by
  obtain ⟨hx, hb, hown, hts, hK, hR, hnm, hE⟩ := O
  obtain ⟨pc, L, st, hs⟩ := f
  intro H locs ls h1 h2 hH hS hl hL
  have hd := (hdec pc _ hi).1 rfl
  simp only [gStep] at h
  split at h
  · split at h
    · rename_i hc
      simp only [Bool.and_eq_true, decide_eq_true_eq] at hc
      cases h
      exact lv_dup2_11 hx hb hd ((gc_cat b K _).trans hc.1) ((gc_cat b K _).trans hc.2) (hk H locs ls h1 h2 hH hS hl hL)
    · cases h
  · cases h
theorem gw1_dup_x2 (O : gOk p R s m args meth c cl D cA b K E cc own nm pl) (hdec : gDec cc ins) {f f' : gFr} (hi : ins.lookup f.1 = some (.dup_x2)) (h : gStep E T (.dup_x2) f = some f') (hk : Gw p l e R s m args below meth c cl D cA b K hs0 Q f') : Gw p l e R s m args below meth c cl D cA b K hs0 Q f := by
  obtain ⟨hx, hb, hown, hts, hK, hR, hnm, hE⟩ := O
  obtain ⟨pc, L, st, hs⟩ := f
  intro H locs ls h1 h2 hH hS hl hL
  have hd := (hdec pc _ hi).1 rfl
  simp only [gStep] at h
  split at h
  · split at h
    · rename_i hc
      simp only [Bool.and_eq_true, decide_eq_true_eq] at hc
      cases h
      exact lv_dup_x2 hx hb hd ((gc_cat b K _).trans hc.1.1) ((gc_cat b K _).trans hc.1.2) ((gc_cat b K _).trans hc.2) (hk H locs ls h1 h2 hH hS hl hL)
    · cases h
  · cases h
theorem gTg_ok {pc : Nat} {off : Int} (h : 0 ≤ (pc : Int) + off) : (pc : Int) + off = (gTg pc off : Int) := by
  unfold gTg
  omega
theorem gw1_goto (O : gOk p R s m args meth c cl D cA b K E cc own nm pl) (hdec : gDec cc ins) {f f' : gFr} {off : Int} (hng : 0 ≤ (f.1 : Int) + off) (hi : ins.lookup f.1 = some (.goto off)) (h : gStep E T (.goto off) f = some f') (hk : Gw p l e R s m args below meth c cl D cA b K hs0 Q f') : Gw p l e R s m args below meth c cl D cA b K hs0 Q f := by
  obtain ⟨hx, hb, hown, hts, hK, hR, hnm, hE⟩ := O
  obtain ⟨pc, L, st, hs⟩ := f
  intro H locs ls h1 h2 hH hS hl hL
  have hd := (hdec pc _ hi).1 rfl
  cases h
  exact lv_goto hx hb hd (gTg_ok hng) (hk H locs ls h1 h2 hH hS hl hL)
theorem gw1_icmp (O : gOk p R s m args meth c cl D cA b K E cc own nm pl) (hdec : gDec cc ins) {f f' : gFr} {cd : ClassFile.Cond} {off : Int} (hng : 0 ≤ (f.1 : Int) + off) (hi : ins.lookup f.1 = some (.if_icmp cd off)) (h : gStep E T (.if_icmp cd off) f = some f') (hk : Gw p l e R s m args below meth c cl D cA b K hs0 Q f') : Gw p l e R s m args below meth c cl D cA b K hs0 Q f := by
  obtain ⟨hx, hb, hown, hts, hK, hR, hnm, hE⟩ := O
  obtain ⟨pc, L, st, hs⟩ := f
  intro H locs ls h1 h2 hH hS hl hL
  have hd := (hdec pc _ hi).1 rfl
  simp only [gStep, gC2] at h
  split at h
  · cases cd <;> simp only at h <;> split at h <;> rename_i hc <;> cases h
    · exact lv_icmp_eq hx hb hd (gTg_ok hng) (fun _ => (hk H locs ls h1 h2 hH hS hl hL)) (fun z => absurd hc z)
    · exact lv_icmp_eq hx hb hd (gTg_ok hng) (fun z => absurd z hc) (fun _ => (hk H locs ls h1 h2 hH hS hl hL))
    · exact lv_icmp_ne hx hb hd (gTg_ok hng) (fun z => absurd hc z) (fun _ => (hk H locs ls h1 h2 hH hS hl hL))
    · exact lv_icmp_ne hx hb hd (gTg_ok hng) (fun _ => (hk H locs ls h1 h2 hH hS hl hL)) (fun z => absurd z hc)
    · exact lv_icmp_lt hx hb hd (gTg_ok hng) (fun _ => (hk H locs ls h1 h2 hH hS hl hL)) (fun z => absurd hc z)
    · exact lv_icmp_lt hx hb hd (gTg_ok hng) (fun z => absurd z hc) (fun _ => (hk H locs ls h1 h2 hH hS hl hL))
    · exact lv_icmp_ge hx hb hd (gTg_ok hng) (fun _ => (hk H locs ls h1 h2 hH hS hl hL)) (fun z => absurd hc z)
    · exact lv_icmp_ge hx hb hd (gTg_ok hng) (fun z => absurd z hc) (fun _ => (hk H locs ls h1 h2 hH hS hl hL))
    · exact lv_icmp_gt hx hb hd (gTg_ok hng) (fun _ => (hk H locs ls h1 h2 hH hS hl hL)) (fun z => absurd hc z)
    · exact lv_icmp_gt hx hb hd (gTg_ok hng) (fun z => absurd z hc) (fun _ => (hk H locs ls h1 h2 hH hS hl hL))
    · exact lv_icmp_le hx hb hd (gTg_ok hng) (fun _ => (hk H locs ls h1 h2 hH hS hl hL)) (fun z => absurd hc z)
    · exact lv_icmp_le hx hb hd (gTg_ok hng) (fun z => absurd z hc) (fun _ => (hk H locs ls h1 h2 hH hS hl hL))
  · cases h
theorem gw1_if (O : gOk p R s m args meth c cl D cA b K E cc own nm pl) (hdec : gDec cc ins) {f f' : gFr} {cd : ClassFile.Cond} {off : Int} (hng : 0 ≤ (f.1 : Int) + off) (hi : ins.lookup f.1 = some (.ifCond cd off)) (h : gStep E T (.ifCond cd off) f = some f') (hk : Gw p l e R s m args below meth c cl D cA b K hs0 Q f') : Gw p l e R s m args below meth c cl D cA b K hs0 Q f := by
  obtain ⟨hx, hb, hown, hts, hK, hR, hnm, hE⟩ := O
  obtain ⟨pc, L, st, hs⟩ := f
  intro H locs ls h1 h2 hH hS hl hL
  have hd := (hdec pc _ hi).1 rfl
  simp only [gStep, gC1] at h
  split at h
  · cases cd <;> simp only at h <;> split at h <;> rename_i hc <;> cases h
    · exact lv_if_eq hx hb hd (gTg_ok hng) (fun _ => (hk H locs ls h1 h2 hH hS hl hL)) (fun z => absurd hc z)
    · exact lv_if_eq hx hb hd (gTg_ok hng) (fun z => absurd z hc) (fun _ => (hk H locs ls h1 h2 hH hS hl hL))
    · exact lv_if_ne hx hb hd (gTg_ok hng) (fun z => absurd hc z) (fun _ => (hk H locs ls h1 h2 hH hS hl hL))
    · exact lv_if_ne hx hb hd (gTg_ok hng) (fun _ => (hk H locs ls h1 h2 hH hS hl hL)) (fun z => absurd z hc)
    · exact lv_if_lt hx hb hd (gTg_ok hng) (fun _ => (hk H locs ls h1 h2 hH hS hl hL)) (fun z => absurd hc z)
    · exact lv_if_lt hx hb hd (gTg_ok hng) (fun z => absurd z hc) (fun _ => (hk H locs ls h1 h2 hH hS hl hL))
    · exact lv_if_ge hx hb hd (gTg_ok hng) (fun _ => (hk H locs ls h1 h2 hH hS hl hL)) (fun z => absurd hc z)
    · exact lv_if_ge hx hb hd (gTg_ok hng) (fun z => absurd z hc) (fun _ => (hk H locs ls h1 h2 hH hS hl hL))
    · exact lv_if_gt hx hb hd (gTg_ok hng) (fun _ => (hk H locs ls h1 h2 hH hS hl hL)) (fun z => absurd hc z)
    · exact lv_if_gt hx hb hd (gTg_ok hng) (fun z => absurd z hc) (fun _ => (hk H locs ls h1 h2 hH hS hl hL))
    · exact lv_if_le hx hb hd (gTg_ok hng) (fun _ => (hk H locs ls h1 h2 hH hS hl hL)) (fun z => absurd hc z)
    · exact lv_if_le hx hb hd (gTg_ok hng) (fun z => absurd z hc) (fun _ => (hk H locs ls h1 h2 hH hS hl hL))
  · cases h
theorem gw1_ldc (O : gOk p R s m args meth c cl D cA b K E cc own nm pl) (hdec : gDec cc ins) {f f' : gFr} (hpk : gPks pl own T) {n : Nat} (hi : ins.lookup f.1 = some (.ldc n)) (h : gStep E T (.ldc n) f = some f') (hk : Gw p l e R s m args below meth c cl D cA b K hs0 Q f') : Gw p l e R s m args below meth c cl D cA b K hs0 Q f := by
  obtain ⟨hx, hb, hown, hts, hK, hR, hnm, hE⟩ := O
  obtain ⟨pc, L, st, hs⟩ := f
  intro H locs ls h1 h2 hH hS hl hL
  have hd := (hdec pc _ hi).1 rfl
  simp only [gStep] at h
  split at h
  · rename_i v hv
    cases h
    exact lv_ldc hx hb hown (hts _ (hpk.1 _ _ hv)) hd (hk H locs ls h1 h2 hH hS hl hL)
  · rename_i v hv
    cases h
    obtain ⟨tx, hZ⟩ := hE.2.2.2.2.1 _ (hpk.2.2 _ _ hv)
    exact va_ldcS hx hb hown hZ hd (hk H locs ls h1 h2 hH hS hl hL)
  · cases h
theorem gldcwS {H : Heap} {locs : List Loc} {cells slots : Nat} {pc : Nat} {ls : Array Slot} {rest : List Value} (hexec : p.tables.exec = Jvm.exec) (hb : c.code = cc) {tx : String} {index q : Nat} (hown : s.vm.findClass own = some m.cls) (hZ : vk_R own index tx q s) (hdg : decode cc pc = .ok (.ldc_w index, 3))
    (k : W p l e R s m args below meth c H locs cells slots Q (F0 m (pc + 3) ls (.ref q :: rest))) : W p l e R s m args below meth c H locs cells slots Q (F0 m pc ls rest) := by
  intro T hT X
  obtain ⟨t, a1, b1⟩ := k T hT X
  refine ⟨t, ?_, b1⟩
  obtain ⟨k0, cf, i, a', hk, hcf, hcp, -, hr, hev'⟩ := Cond.stringRef_spec hown hZ.1
  cases hZ.2.symm.trans hev'
  obtain ⟨k', hk', he⟩ := X.warmed.alike.2.2 _ _ hk
  have hr' : k'.resolved[index]? = some (some (.string q)) := by
    rcases X.warmed.entry hk hk' index with h | ⟨h, -⟩
    · rw [h]; exact hr
    · rw [hr] at h; cases h
  subst hb
  jvm_step X.here [hexec, hdg, ldc_w.wp_string (e := e) (s := T) (f := F0 m pc ls rest) X.here.top hk' (by rw [he]; exact hcf) hcp hr']
  exact a1
theorem gw1_ldc_w (O : gOk p R s m args meth c cl D cA b K E cc own nm pl) (hdec : gDec cc ins) {f f' : gFr} (hpk : gPks pl own T) {n : Nat} (hi : ins.lookup f.1 = some (.ldc_w n)) (h : gStep E T (.ldc_w n) f = some f') (hk : Gw p l e R s m args below meth c cl D cA b K hs0 Q f') : Gw p l e R s m args below meth c cl D cA b K hs0 Q f := by
  obtain ⟨hx, hb, hown, hts, hK, hR, hnm, hE⟩ := O
  obtain ⟨pc, L, st, hs⟩ := f
  intro H locs ls h1 h2 hH hS hl hL
  have hd := (hdec pc _ hi).1 rfl
  simp only [gStep] at h
  split at h
  · rename_i v hv
    cases h
    exact lv_ldcw hx hb hown (hts _ (hpk.1 _ _ hv)) hd (hk H locs ls h1 h2 hH hS hl hL)
  · rename_i v hv
    cases h
    obtain ⟨tx, hZ⟩ := hE.2.2.2.2.1 _ (hpk.2.2 _ _ hv)
    exact gldcwS hx hb hown hZ hd (hk H locs ls h1 h2 hH hS hl hL)
  · cases h
theorem gw1_ldc2_w (O : gOk p R s m args meth c cl D cA b K E cc own nm pl) (hdec : gDec cc ins) {f f' : gFr} (hpk : gPks pl own T) {n : Nat} (hi : ins.lookup f.1 = some (.ldc2_w n)) (h : gStep E T (.ldc2_w n) f = some f') (hk : Gw p l e R s m args below meth c cl D cA b K hs0 Q f') : Gw p l e R s m args below meth c cl D cA b K hs0 Q f := by
  obtain ⟨hx, hb, hown, hts, hK, hR, hnm, hE⟩ := O
  obtain ⟨pc, L, st, hs⟩ := f
  intro H locs ls h1 h2 hH hS hl hL
  have hd := (hdec pc _ hi).1 rfl
  simp only [gStep] at h
  split at h
  · rename_i v hv
    cases h
    exact lv_ldc2 hx hb hown (hts _ (hpk.2.1 _ _ hv)) hd (hk H locs ls h1 h2 hH hS hl hL)
  · cases h
theorem gc_fd (b : Nat) (K : Nat → Nat) (σ : gS) (k j : Nat) (q : Option (Option Nat)) : gc b K (gFd σ k j q) = gc b (fun _ => 0) (gFd σ k j q) := by rcases q with _ | _ | _ <;> rfl
theorem gw1_getfield (O : gOk p R s m args meth c cl D cA b K E cc own nm pl) (hdec : gDec cc ins) {f f' : gFr} (hcl : gCls cl) (hpf : gPfs cl own nm T) (hsf : ∀ ix ci j kd, T.1.lookup ix = some (ci, j, kd) → (kd = 10 → Cond.fieldLink own ix "java/lang/String" "value" "[B" ∈ gTs) ∧ (kd = 11 → Cond.fieldLink own ix "java/lang/String" "coder" "B" ∈ gTs) ∧ (kd = 12 → Cond.fieldLink own ix "java/lang/String" "COMPACT_STRINGS" "Z" ∈ gTs) ∧ (kd = 13 → Cond.fieldLink own ix "jdk/internal/util/Preconditions" "SIOOBE_FORMATTER" "Ljava/util/function/BiFunction;" ∈ gTs)) (hcn : cl.length < 900) {ix : Nat} (hi : ins.lookup f.1 = some (.getfield ix)) (h : gStep E T (.getfield ix) f = some f') (hk : Gw p l e R s m args below meth c cl D cA b K hs0 Q f') : Gw p l e R s m args below meth c cl D cA b K hs0 Q f := by
  obtain ⟨hx, hb, hown, hts, hK, hR, hnm, hE⟩ := O
  obtain ⟨pc, L, st, hs⟩ := f
  intro H locs ls h1 h2 hH hS hl hL
  have hd := (hdec pc _ hi).1 rfl
  simp only [gStep, gGet] at h
  split at h
  · rename_i ci j kd hlk
    split at h
    · rename_i k r
      split at h
      · rename_i c9 fs hsh
        split at h
        · rename_i q9 hdc hfs
          cases h
          have hcc : c9 = ci := of_decide_eq_true hdc
          subst hcc
          rcases hpf _ _ _ _ hlk with hst | ⟨⟨C, T9, N⟩, g1, g2, g3, g4, g5⟩
          · obtain ⟨r9, g9, -⟩ := hH k _ (gW_get hsh)
            have := (List.getElem?_eq_some_iff.mp g9).1
            omega
          · exact va_get hx hb hts (hcl _ _ g1).1 hown hK hH k (gW_get hsh) g1 j g2 (hts _ g3) (fun x h9 => by rw [g4] at h9; exact h9) (v := gc b K (gFd hs.2.1 k j q9)) (by rw [gFs_at, hfs, gc_fd b K]; rfl) hd (hk H locs ls h1 h2 hH hS hl hL)
        · cases h
      · cases h
    · rename_i k r
      split at h
      · rename_i hk7
        cases h
        have hk7 := of_decide_eq_true hk7
        exact vk_getf hx hb (hE.1.1 k hk7).2.2.1 hS hown (hts _ ((hsf _ _ _ _ hlk).1 rfl)) (fun _ h9 => h9) hd (hk H locs ls h1 h2 hH hS hl hL)
      · rename_i hk7
        cases h
        have hk7 := of_decide_eq_true hk7
        exact vk_getf hx hb (hE.1.1 k hk7).2.1 hS hown (hts _ ((hsf _ _ _ _ hlk).2.1 rfl)) (fun _ h9 => h9) hd (hk H locs ls h1 h2 hH hS hl hL)
      · cases h
    · cases h
  · cases h
theorem gw1_getstatic (O : gOk p R s m args meth c cl D cA b K E cc own nm pl) (hdec : gDec cc ins) {f f' : gFr} (hsf : ∀ ix ci j kd, T.1.lookup ix = some (ci, j, kd) → (kd = 10 → Cond.fieldLink own ix "java/lang/String" "value" "[B" ∈ gTs) ∧ (kd = 11 → Cond.fieldLink own ix "java/lang/String" "coder" "B" ∈ gTs) ∧ (kd = 12 → Cond.fieldLink own ix "java/lang/String" "COMPACT_STRINGS" "Z" ∈ gTs) ∧ (kd = 13 → Cond.fieldLink own ix "jdk/internal/util/Preconditions" "SIOOBE_FORMATTER" "Ljava/util/function/BiFunction;" ∈ gTs)) {ix : Nat} (hi : ins.lookup f.1 = some (.getstatic ix)) (h : gStep E T (.getstatic ix) f = some f') (hk : Gw p l e R s m args below meth c cl D cA b K hs0 Q f') : Gw p l e R s m args below meth c cl D cA b K hs0 Q f := by
  obtain ⟨hx, hb, hown, hts, hK, hR, hnm, hE⟩ := O
  obtain ⟨pc, L, st, hs⟩ := f
  intro H locs ls h1 h2 hH hS hl hL
  have hd := (hdec pc _ hi).1 rfl
  simp only [gStep, gGts] at h
  split at h
  · rename_i hlk
    cases h
    exact va_gets hx hb hE.2.2.1 hS hown (hts _ ((hsf _ _ _ _ hlk).2.2.1 rfl)) (fun _ h9 => h9) hd (hk H locs ls h1 h2 hH hS hl hL)
  · rename_i hlk
    cases h
    exact va_gets hx hb hE.2.2.2.1 hS hown (hts _ ((hsf _ _ _ _ hlk).2.2.2 rfl)) (fun _ h9 => h9) hd (hk H locs ls h1 h2 hH hS hl hL)
  · cases h
theorem gZn {x : Int32} (h : x = 0 ∨ x = 1) : narrow .boolean (.int x) = .int x := by rcases h with rfl | rfl <;> decide
theorem gZf {x : Int32} (h : x = 0 ∨ x = 1) : fits .boolean (.int x) = true := by rcases h with rfl | rfl <;> decide
theorem gw1_putfield (O : gOk p R s m args meth c cl D cA b K E cc own nm pl) (hdec : gDec cc ins) {f f' : gFr} (hcl : gCls cl) (hpf : gPfs cl own nm T) (hcn : cl.length < 900) {ix : Nat} (hi : ins.lookup f.1 = some (.putfield ix)) (h : gStep E T (.putfield ix) f = some f') (hk : Gw p l e R s m args below meth c cl D cA b K hs0 Q f') : Gw p l e R s m args below meth c cl D cA b K hs0 Q f := by
  obtain ⟨hx, hb, hown, hts, hK, hR, hnm, hE⟩ := O
  obtain ⟨pc, L, st, hs⟩ := f
  intro H locs ls h1 h2 hH hS hl hL
  have hd := (hdec pc _ hi).1 rfl
  simp only [gStep, gPutf] at h
  split at h
  · rename_i ci j kd hlk
    split at h
    · rename_i x k r
      split at h
      · rename_i c9 fs hsh
        rcases hpf _ _ _ _ hlk with hst | ⟨⟨C, T9, N⟩, g1, g2, g3, g4, g5⟩
        · obtain ⟨r9, g9, -⟩ := hH k _ (gW_get hsh)
          have g8 : c9 < cl.length := (List.getElem?_eq_some_iff.mp g9).1
          exfalso
          split at h <;> first | (rename_i hdc hfs; have hcc : c9 = ci := of_decide_eq_true hdc; omega) | cases h
        · obtain ⟨q1, ⟨ty0, q2⟩, q3⟩ := hcl _ _ g1
          split at h
          · rename_i hdc hfs
            have hcc : c9 = ci := of_decide_eq_true hdc
            subst hcc
            cases h
            exact va_put (ty := .int) (v := .int x) hx hb hts q1 ty0 q2 q3 hown hK hH gW_D hS k (gW_get hsh) g1 j g2 (hts _ g3) (fun x h9 => by rw [g4] at h9; exact h9) g5.1 g5.2 rfl rfl (by rw [gFs_len]; exact (List.getElem?_eq_some_iff.mp hfs).1) hd (fun H1 locs1 hP1 _ hS1 => hk H1 locs1 ls h1 h2 (by show va_P D cl (gW cA b (gPut hs.2.1 k j x) hs.1) H1; rw [gW_put hsh hfs]; exact hP1) hS1 hl hL)
          · rename_i hdc hfs
            split at h
            · rename_i hnr
              have hcc : c9 = ci := of_decide_eq_true hdc
              subst hcc
              cases h
              exact va_put (ty := .boolean) (v := .int x) hx hb hts q1 ty0 q2 q3 hown hK hH gW_D hS k (gW_get hsh) g1 j g2 (hts _ g3) (fun x h9 => by rw [g4] at h9; exact h9) g5.1 g5.2 (gZn hnr) (gZf hnr) (by rw [gFs_len]; exact (List.getElem?_eq_some_iff.mp hfs).1) hd (fun H1 locs1 hP1 _ hS1 => hk H1 locs1 ls h1 h2 (by show va_P D cl (gW cA b (gPut hs.2.1 k j x) hs.1) H1; rw [gW_put hsh hfs]; exact hP1) hS1 hl hL)
            · cases h
          · rename_i hdc hfs
            have hcc : c9 = ci := of_decide_eq_true hdc
            subst hcc
            cases h
            exact va_putF (ty := .int) (v := .int x) hx hb hts q1 ty0 q2 q3 hown hK hH gW_D hS k (gW_get hsh) g1 j g2 (hts _ g3) (fun x h9 => by rw [g4] at h9; exact h9) g5.1 (hnm.trans g5.2.2.1) (g4.trans g5.2.2.2) g5.2.1 rfl rfl (by rw [gFs_len]; exact (List.getElem?_eq_some_iff.mp hfs).1) hd (fun H1 locs1 hP1 _ hS1 => hk H1 locs1 ls h1 h2 (by show va_P D cl (gW cA b (gPut hs.2.1 k j x) hs.1) H1; rw [gW_put hsh hfs]; exact hP1) hS1 hl hL)
          · cases h
      · cases h
    · cases h
  · cases h
theorem gw1_iaload (O : gOk p R s m args meth c cl D cA b K E cc own nm pl) (hdec : gDec cc ins) {f f' : gFr} (hi : ins.lookup f.1 = some (.iaload)) (h : gStep E T (.iaload) f = some f') (hk : Gw p l e R s m args below meth c cl D cA b K hs0 Q f') : Gw p l e R s m args below meth c cl D cA b K hs0 Q f := by
  obtain ⟨hx, hb, hown, hts, hK, hR, hnm, hE⟩ := O
  obtain ⟨pc, L, st, hs⟩ := f
  intro H locs ls h1 h2 hH hS hl hL
  have hd := (hdec pc _ hi).1 rfl
  simp only [gStep, gAldI] at h
  split at h
  · rename_i i k r
    split at h
    · rename_i hsh
      split at h
      · rename_i hin
        cases h
        exact va_iald hx hb hK hH k 0 (gW_get hsh) rfl hin hd (hk H locs ls h1 h2 hH hS hl hL)
      · cases h
    · cases h
  · rename_i i r
    split at h
    · rename_i hin
      cases h
      exact va_sld hx hb hE.2.1.1 hE.2.1.2.2 (Nat.not_le.mpr hE.2.1.2.1) hS hin hd (hk H locs ls h1 h2 hH hS hl hL)
    · cases h
  · cases h
theorem g100 {k : Nat} (h : (decide (100 ≤ k) && decide (k < 107)) = true) : ∃ i, i < 7 ∧ k = 100 + i := by
  simp only [Bool.and_eq_true, decide_eq_true_eq] at h
  exact ⟨k - 100, by omega, by omega⟩
theorem gw1_baload (O : gOk p R s m args meth c cl D cA b K E cc own nm pl) (hdec : gDec cc ins) {f f' : gFr} (hEo : gEok E) (hi : ins.lookup f.1 = some (.baload)) (h : gStep E T (.baload) f = some f') (hk : Gw p l e R s m args below meth c cl D cA b K hs0 Q f') : Gw p l e R s m args below meth c cl D cA b K hs0 Q f := by
  obtain ⟨hx, hb, hown, hts, hK, hR, hnm, hE⟩ := O
  obtain ⟨pc, L, st, hs⟩ := f
  intro H locs ls h1 h2 hH hS hl hL
  have hd := (hdec pc _ hi).1 rfl
  simp only [gStep, gAldB] at h
  split at h
  · rename_i i k r
    split at h
    · rename_i hsh
      split at h
      · rename_i hin
        cases h
        exact va_bald hx hb hK hH k 1 (gW_get hsh) rfl hin hd (hk H locs ls h1 h2 hH hS hl hL)
      · cases h
    · rename_i hsh
      split at h
      · rename_i hin
        cases h
        exact va_zald hx hb hK hH k 2 (gW_get hsh) rfl hin hd (hk H locs ls h1 h2 hH hS hl hL)
      · cases h
    · cases h
  · rename_i i k r
    split at h
    · rename_i h100
      obtain ⟨q, hq, rfl⟩ := g100 h100
      split at h
      · rename_i hin
        cases h
        rw [hEo q hq] at hin hk
        exact va_tb hx hb (hE.1.1 q hq).2.2.2 hS hin rfl hd (hk H locs ls h1 h2 hH hS hl hL)
      · cases h
    · cases h
  · cases h
theorem gw1_iastore (O : gOk p R s m args meth c cl D cA b K E cc own nm pl) (hdec : gDec cc ins) {f f' : gFr} (hi : ins.lookup f.1 = some (.iastore)) (h : gStep E T (.iastore) f = some f') (hk : Gw p l e R s m args below meth c cl D cA b K hs0 Q f') : Gw p l e R s m args below meth c cl D cA b K hs0 Q f := by
  obtain ⟨hx, hb, hown, hts, hK, hR, hnm, hE⟩ := O
  obtain ⟨pc, L, st, hs⟩ := f
  intro H locs ls h1 h2 hH hS hl hL
  have hd := (hdec pc _ hi).1 rfl
  simp only [gStep, gAstI] at h
  split at h
  · rename_i x i k r
    split at h
    · rename_i hsh
      split at h
      · rename_i hin
        cases h
        exact va_iast hx hb hK hH gW_D hS k 0 (gW_get hsh) rfl hin hd (fun H1 locs1 hP1 _ hS1 => hk H1 locs1 ls h1 h2 (by show va_P D cl (gW cA b (gRow hs.2.1 k _) hs.1) H1; rw [gW_row hsh (by decide)]; exact hP1) hS1 hl hL)
      · cases h
    · cases h
  · cases h
theorem gw1_bastore (O : gOk p R s m args meth c cl D cA b K E cc own nm pl) (hdec : gDec cc ins) {f f' : gFr} (hi : ins.lookup f.1 = some (.bastore)) (h : gStep E T (.bastore) f = some f') (hk : Gw p l e R s m args below meth c cl D cA b K hs0 Q f') : Gw p l e R s m args below meth c cl D cA b K hs0 Q f := by
  obtain ⟨hx, hb, hown, hts, hK, hR, hnm, hE⟩ := O
  obtain ⟨pc, L, st, hs⟩ := f
  intro H locs ls h1 h2 hH hS hl hL
  have hd := (hdec pc _ hi).1 rfl
  simp only [gStep, gAstB] at h
  split at h
  · rename_i x i k r
    split at h
    · rename_i hsh
      split at h
      · rename_i hin
        cases h
        exact va_bast hx hb hK hH gW_D hS k 1 (gW_get hsh) rfl hin hd (fun H1 locs1 hP1 _ hS1 => hk H1 locs1 ls h1 h2 (by show va_P D cl (gW cA b (gRow hs.2.1 k _) hs.1) H1; rw [gW_row hsh (by decide)]; exact hP1) hS1 hl hL)
      · cases h
    · rename_i hsh
      split at h
      · rename_i hin
        cases h
        exact va_zast hx hb hK hH gW_D hS k 2 (gW_get hsh) rfl hin hd (fun H1 locs1 hP1 _ hS1 => hk H1 locs1 ls h1 h2 (by show va_P D cl (gW cA b (gRow hs.2.1 k _) hs.1) H1; rw [gW_row hsh (by decide)]; exact hP1) hS1 hl hL)
      · cases h
    · cases h
  · cases h
theorem gw1_laload (O : gOk p R s m args meth c cl D cA b K E cc own nm pl) (hdec : gDec cc ins) {f f' : gFr} (hi : ins.lookup f.1 = some (.laload)) (h : gStep E T (.laload) f = some f') (hk : Gw p l e R s m args below meth c cl D cA b K hs0 Q f') : Gw p l e R s m args below meth c cl D cA b K hs0 Q f := by
  obtain ⟨hx, hb, hown, hts, hK, hR, hnm, hE⟩ := O
  obtain ⟨pc, L, st, hs⟩ := f
  intro H locs ls h1 h2 hH hS hl hL
  have hd := (hdec pc _ hi).1 rfl
  simp only [gStep, gAldL] at h
  split at h
  · rename_i i k r
    split at h
    · rename_i hsh
      split at h
      · rename_i hin
        cases h
        exact va_lald hx hb hK hH k 3 (gW_get hsh) rfl hin hd (hk H locs ls h1 h2 hH hS hl hL)
      · cases h
    · cases h
  · cases h
theorem gw1_lastore (O : gOk p R s m args meth c cl D cA b K E cc own nm pl) (hdec : gDec cc ins) {f f' : gFr} (hi : ins.lookup f.1 = some (.lastore)) (h : gStep E T (.lastore) f = some f') (hk : Gw p l e R s m args below meth c cl D cA b K hs0 Q f') : Gw p l e R s m args below meth c cl D cA b K hs0 Q f := by
  obtain ⟨hx, hb, hown, hts, hK, hR, hnm, hE⟩ := O
  obtain ⟨pc, L, st, hs⟩ := f
  intro H locs ls h1 h2 hH hS hl hL
  have hd := (hdec pc _ hi).1 rfl
  simp only [gStep, gAstL] at h
  split at h
  · rename_i x i k r
    split at h
    · rename_i hsh
      split at h
      · rename_i hin
        cases h
        exact va_last hx hb hK hH gW_D hS k 3 (gW_get hsh) rfl hin hd (fun H1 locs1 hP1 _ hS1 => hk H1 locs1 ls h1 h2 (by show va_P D cl (gW cA b (gRowL hs.2.1 k _) hs.1) H1; rw [gW_rowL hsh]; exact hP1) hS1 hl hL)
      · cases h
    · cases h
  · cases h
theorem gw1_arraylength (O : gOk p R s m args meth c cl D cA b K E cc own nm pl) (hdec : gDec cc ins) {f f' : gFr} (hEo : gEok E) (hi : ins.lookup f.1 = some (.arraylength)) (h : gStep E T (.arraylength) f = some f') (hk : Gw p l e R s m args below meth c cl D cA b K hs0 Q f') : Gw p l e R s m args below meth c cl D cA b K hs0 Q f := by
  obtain ⟨hx, hb, hown, hts, hK, hR, hnm, hE⟩ := O
  obtain ⟨pc, L, st, hs⟩ := f
  intro H locs ls h1 h2 hH hS hl hL
  have hd := (hdec pc _ hi).1 rfl
  simp only [gStep, gAln] at h
  split at h
  · rename_i k r
    split at h
    · rename_i hsh
      cases h
      exact va_alen hx hb hK hH k 0 (gW_get hsh) rfl rfl hd (hk H locs ls h1 h2 hH hS hl hL)
    · rename_i hsh
      cases h
      exact va_alen hx hb hK hH k 1 (gW_get hsh) rfl rfl hd (hk H locs ls h1 h2 hH hS hl hL)
    · rename_i hsh
      cases h
      exact va_alen hx hb hK hH k 2 (gW_get hsh) rfl rfl hd (hk H locs ls h1 h2 hH hS hl hL)
    · rename_i hsh
      cases h
      exact va_alen hx hb hK hH k 3 (gW_get hsh) rfl rfl hd (hk H locs ls h1 h2 hH hS hl hL)
    · cases h
  · cases h
    exact va_slen hx hb hE.2.1.1 hE.2.1.2.2 (Nat.not_le.mpr hE.2.1.2.1) hS hd (hk H locs ls h1 h2 hH hS hl hL)
  · rename_i k r hne
    split at h
    · rename_i h100
      obtain ⟨q, hq, rfl⟩ := g100 h100
      cases h
      rw [hEo q hq] at hk
      exact va_tlen hx hb (hE.1.1 q hq).2.2.2 hS rfl hd (hk H locs ls h1 h2 hH hS hl hL)
    · cases h
  · cases h
theorem gw1_aaload (O : gOk p R s m args meth c cl D cA b K E cc own nm pl) (hdec : gDec cc ins) {f f' : gFr} (hi : ins.lookup f.1 = some (.aaload)) (h : gStep E T (.aaload) f = some f') (hk : Gw p l e R s m args below meth c cl D cA b K hs0 Q f') : Gw p l e R s m args below meth c cl D cA b K hs0 Q f := by
  obtain ⟨hx, hb, hown, hts, hK, hR, hnm, hE⟩ := O
  obtain ⟨pc, L, st, hs⟩ := f
  intro H locs ls h1 h2 hH hS hl hL
  have hd := (hdec pc _ hi).1 rfl
  simp only [gStep, gAldR] at h
  split at h
  · rename_i i k r
    split at h
    · rename_i ps hsh
      split at h
      · rename_i hin
        split at h
        · rename_i q hq
          cases h
          have hlt : i.toNatClampNeg < ps.length := Nat.not_le.mp fun z => hin (Or.inr z)
          exact W.aald (v := .ref (b + q)) hx hb (hH k _ (gW_get hsh)) ((hK.2 4 _ rfl).1 ps.length (fun j => va_rf ((ps.getD j none).map (fun q => b + q)))) rfl (fun z => by cases z) (by show ¬ (i < 0 ∨ (arrV _ _ _).slots.size ≤ _); rw [arrV_size]; exact hin) (by show (arrV (cA (.array .int)) ps.length (fun j => va_rf ((ps.getD j none).map (fun q => b + q)))).slots[i.toNatClampNeg]? = _; rw [arrV_read _ _ hlt, hq]; rfl) rfl rfl hd (hk H locs ls h1 h2 hH hS hl hL)
        · cases h
      · cases h
    · rename_i ps hsh
      split at h
      · rename_i hin
        split at h
        · rename_i q hq
          cases h
          have hlt : i.toNatClampNeg < ps.length := Nat.not_le.mp fun z => hin (Or.inr z)
          exact W.aald (v := .ref (b + q)) hx hb (hH k _ (gW_get hsh)) ((hK.2 5 _ rfl).1 ps.length (fun j => va_rf ((ps.getD j none).map (fun q => b + q)))) rfl (fun z => by cases z) (by show ¬ (i < 0 ∨ (arrV _ _ _).slots.size ≤ _); rw [arrV_size]; exact hin) (by show (arrV (cA (.array .byte)) ps.length (fun j => va_rf ((ps.getD j none).map (fun q => b + q)))).slots[i.toNatClampNeg]? = _; rw [arrV_read _ _ hlt, hq]; rfl) rfl rfl hd (hk H locs ls h1 h2 hH hS hl hL)
        · cases h
      · cases h
    · cases h
  · cases h
theorem gSw_ok {x : Int32} {k : Int → Option gFr} {dflt : Int} : ∀ (offs : List Int) (lo : Int), -1000000 ≤ lo → lo + offs.length ≤ 1000000 → gSw x lo offs k dflt = if h : lo ≤ x.toInt ∧ x.toInt < lo + offs.length then k (offs.getD (x.toInt - lo).toNat 0) else k dflt
  | [], lo, _, _ => by
    rw [dif_neg (by simp only [List.length_nil]; omega)]
    rfl
  | o :: os, lo, h1, h2 => by
    simp only [List.length_cons, Int.natCast_add, Int.natCast_one] at h2
    have hlo : (Int32.ofInt lo).toInt = lo := Int32.toInt_ofInt_of_le (by omega) (by omega)
    unfold gSw
    by_cases hx : x = Int32.ofInt lo
    · rw [if_pos hx]
      have hxt : x.toInt = lo := by rw [hx]; exact hlo
      rw [dif_pos (by rw [hxt]; simp only [List.length_cons, Int.natCast_add, Int.natCast_one]; omega), hxt, Int.sub_self]
      rfl
    · rw [if_neg hx, gSw_ok os (lo + 1) (by omega) (by omega)]
      have hne : x.toInt ≠ lo := fun e => hx (Int32.toInt_inj.mp (e.trans hlo.symm))
      by_cases hc : lo + 1 ≤ x.toInt ∧ x.toInt < lo + 1 + os.length
      · rw [dif_pos hc, dif_pos (by simp only [List.length_cons, Int.natCast_add, Int.natCast_one]; omega)]
        rw [show (x.toInt - lo).toNat = (x.toInt - (lo + 1)).toNat + 1 by omega, List.getD_cons_succ]
      · rw [dif_neg hc, dif_neg (by simp only [List.length_cons, Int.natCast_add, Int.natCast_one]; omega)]
theorem gw1_tableswitch (O : gOk p R s m args meth c cl D cA b K E cc own nm pl) (hdec : gDec cc ins) {f f' : gFr} {dflt lo hi : Int} {offs : Array Int} (hng : (0 ≤ (f.1 : Int) + dflt ∧ ∀ o ∈ offs.toList, 0 ≤ (f.1 : Int) + o) ∧ -1000000 ≤ lo ∧ lo + offs.toList.length ≤ 1000000 ∧ hi = lo + offs.toList.length - 1) (hi9 : ins.lookup f.1 = some (.tableswitch dflt lo hi offs)) (h : gStep E T (.tableswitch dflt lo hi offs) f = some f') (hk : Gw p l e R s m args below meth c cl D cA b K hs0 Q f') : Gw p l e R s m args below meth c cl D cA b K hs0 Q f := by
  obtain ⟨hx, hb, hown, hts, hK, hR, hnm, hE⟩ := O
  obtain ⟨pc, L, st, hs⟩ := f
  intro H locs ls h1 h2 hH hS hl hL
  obtain ⟨n, hd⟩ := (hdec pc _ hi9).2 rfl
  obtain ⟨⟨hg1, hg2⟩, hg3, hg4, hg5⟩ := hng
  simp only [gStep] at h
  split at h
  · rename_i x r
    rw [gSw_ok _ _ hg3 hg4] at h
    split at h
    · rename_i hc
      cases h
      have hlt : (x.toInt - lo).toNat < offs.toList.length := by omega
      have hmem : offs.toList.getD (x.toInt - lo).toNat 0 ∈ offs.toList := by
        rw [List.getD_eq_getElem?_getD, List.getElem?_eq_getElem hlt]
        exact List.getElem_mem hlt
      exact lv_tableIn hx hb hd (by omega) (by omega) (off := offs.toList.getD (x.toInt - lo).toNat 0) (by rw [← Array.getElem?_toList, List.getElem?_eq_getElem hlt, List.getD_eq_getElem?_getD, List.getElem?_eq_getElem hlt]; rfl) (gTg_ok (hg2 _ hmem)) (hk H locs ls h1 h2 hH hS hl hL)
    · rename_i hc
      cases h
      exact lv_tableOut hx hb hd (by omega) (gTg_ok hg1) (hk H locs ls h1 h2 hH hS hl hL)
  · cases h
theorem gCat_map (b : Nat) (K : Nat → Nat) (r : List Value) : ((r.map (gc b K)).map fun v => v.category).sum = gCat r := by
  unfold gCat
  rw [List.map_map]
  congr 1
  apply List.map_congr_left
  intro v _
  exact gc_cat b K v
theorem gw1_objinit (O : gOk p R s m args meth c cl D cA b K E cc own nm pl) (hdec : gDec cc ins) {f f' : gFr} (hpm : ∀ ix n kd, T.2.1.lookup ix = some (9000, n, kd) → Cond.methodLink own ix Lib.objectInit ∈ gTs) (hoi : Cond.instanceMethod Lib.objectInit ∈ gTs ∧ Cond.code Lib.objectInit ⟨#[0xb1]⟩ 1 none ∈ gTs) {ix : Nat} (hi : ins.lookup f.1 = some (.invokespecial ix)) (h : gStep E T (.invokespecial ix) f = some f') (hk : Gw p l e R s m args below meth c cl D cA b K hs0 Q f') : Gw p l e R s m args below meth c cl D cA b K hs0 Q f := by
  obtain ⟨hx, hb, hown, hts, hK, hR, hnm, hE⟩ := O
  obtain ⟨pc, L, st, hs⟩ := f
  intro H locs ls h1 h2 hH hS hl hL
  have hd := (hdec pc _ hi).1 rfl
  simp only [gStep] at h
  split at h
  · rename_i hlk
    split at h
    · rename_i k r
      split at h
      · rename_i hc
        cases h
        have hc := of_decide_eq_true hc
        refine W.objInit hx hb hown (hts _ (hpm _ _ _ hlk)) (hts _ hoi.1) (hts _ hoi.2) rfl (by show ls.size = _; rw [hl.1]; exact hL) rfl hd hR.1 (by show 2 * 0 + _ + 12 ≤ _; rw [gCat_map]; omega) (hk H locs ls h1 h2 hH hS hl hL)
      · cases h
    · cases h
  · cases h
theorem gNf : nativeFrameWords "java/lang/System" "arraycopy" 5 + 11 ≤ 56 := by decide
theorem gw1_arraycopy (O : gOk p R s m args meth c cl D cA b K E cc own nm pl) (hdec : gDec cc ins) {f f' : gFr} (hpm : ∀ ix n kd, T.2.1.lookup ix = some (9003, n, kd) → Cond.methodLink own ix arraycopyName ∈ gTs) (hac : Cond.native arraycopyName ∈ gTs ∧ Cond.static arraycopyName ∈ gTs ∧ Cond.initialized "java/lang/System" ∈ gTs) {ix : Nat} (hi : ins.lookup f.1 = some (.invokestatic ix)) (h : gStep E T (.invokestatic ix) f = some f') (hk : Gw p l e R s m args below meth c cl D cA b K hs0 Q f') : Gw p l e R s m args below meth c cl D cA b K hs0 Q f := by
  obtain ⟨hx, hb, hown, hts, hK, hR, hnm, hE⟩ := O
  obtain ⟨pc, L, st, hs⟩ := f
  intro H locs ls h1 h2 hH hS hl hL
  have hd := (hdec pc _ hi).1 rfl
  simp only [gStep] at h
  split at h
  · rename_i hlk
    simp only [gCopy] at h
    split at h
    · rename_i n dp d sp a r
      split at h
      · rename_i hs1 hs2 hc
        have hc := of_decide_eq_true hc
        split at h
        · rename_i hg
          obtain ⟨g1, g2, g3, g4, g5⟩ := hg
          cases h
          exact va_copyi hx hb (by rw [hl.1]; exact hL.symm) hown (hts _ (hpm _ _ _ hlk)) (hts _ hac.1) (hts _ hac.2.1) (hts _ hac.2.2) hK hH gW_D hS a d 0 0 (gW_get hs1) (gW_get hs2) rfl rfl rfl g1 g2 g3 g4 g5 (fun _ _ => rfl) hR.1 (by rw [gCat_map]; have := gNf; omega) hd (fun H1 locs1 hP1 _ hS1 => hk H1 locs1 ls h1 h2 (by show va_P D cl (gW cA b (gRow hs.2.1 d _) hs.1) H1; rw [gW_row hs2 (by decide)]; exact hP1) hS1 hl hL)
        · cases h
      · rename_i hs1 hs2 hc
        have hc := of_decide_eq_true hc
        split at h
        · rename_i hg
          obtain ⟨⟨g1, g2, g3, g4, g5⟩, g6⟩ := hg
          cases h
          exact va_copyi hx hb (by rw [hl.1]; exact hL.symm) hown (hts _ (hpm _ _ _ hlk)) (hts _ hac.1) (hts _ hac.2.1) (hts _ hac.2.2) hK hH gW_D hS a d 1 1 (gW_get hs1) (gW_get hs2) rfl rfl rfl g1 g2 g3 g4 g5 g6 hR.1 (by rw [gCat_map]; have := gNf; omega) hd (fun H1 locs1 hP1 _ hS1 => hk H1 locs1 ls h1 h2 (by show va_P D cl (gW cA b (gRow hs.2.1 d _) hs.1) H1; rw [gW_row hs2 (by decide)]; exact hP1) hS1 hl hL)
        · cases h
      · cases h
    · cases h
  · cases h
end GS
