section MNA
variable {e : Env} {d : Bool} {acts : List Action} {s : State} {Ex : CtlPost}
theorem mna_row {comp : ClassId} {k : Class} {cc : ClassId} {ty : FieldType} {n : Int32} {Q : Addr → Pre} (hn : ¬ n < 0)
    (hk : s.vm.classes[comp]? = some k) (hkind : k.kind = .array cc ty) (hlimit : ¬ n.toNatClampNeg > e.platform.arrayLengthLimit) (hheap : ¬ n.toNatClampNeg * componentBytes ty > e.platform.maxHeapBytes)
    (hcells : s.heap.size < e.platform.maxCells) (hslots : s.slotsUsed + n.toNatClampNeg ≤ e.platform.maxSlots) (hfit : fits ty (defaultValue ty) = true)
    (hq : ∀ acts', Q s.heap.size d acts' (s.pushCell { cls := comp, slots := Array.replicate n.toNatClampNeg (defaultValue ty) })) :
    wp (multianewarray.make comp [n]) Q Ex e d acts s := by
  unfold multianewarray.make
  simp only [wp_bind', W.ite, hn, if_false, wp_pure', W.theClass, hk, Option.some.injEq, exists_eq_left', hkind]
  exact W.newArray_of hk hkind hlimit hheap hcells hslots hfit hq
/-- the rows that a two-dimensional making makes, one by one, each laid into the outer array -/
def mnaS (a : Addr) (row : Cell) : List Nat → Cell → State → State
  | [], _, s => s
  | i :: l, c, s => mnaS a row l (c.setSlot i (.ref s.heap.size)) ((s.pushCell row).setCell a (c.setSlot i (.ref s.heap.size)))
theorem mna_loop {a : Addr} {comp : ClassId} {k : Class} {cc : ClassId} {ty : FieldType} {n : Int32} (hn : ¬ n < 0) (hkind : k.kind = .array cc ty) (hlimit : ¬ n.toNatClampNeg > e.platform.arrayLengthLimit) (hheap : ¬ n.toNatClampNeg * componentBytes ty > e.platform.maxHeapBytes) (hfit : fits ty (defaultValue ty) = true) {Q : PUnit → Pre} :
    ∀ (l : List Nat) (c : Cell) (s : State) (d : Bool) (acts : List Action), s.vm.classes[comp]? = some k → s.heap[a]? = some c → c.vm ≠ .unknown → (∀ i ∈ l, i < c.slots.size) → (∀ i v, s.fitsSlot c.cls c.vm i (.ref v) = true) → s.heap.size + l.length ≤ e.platform.maxCells → s.slotsUsed + l.length * n.toNatClampNeg ≤ e.platform.maxSlots →
      (∀ d' acts', Q PUnit.unit d' acts' (mnaS a { cls := comp, slots := Array.replicate n.toNatClampNeg (defaultValue ty) } l c s)) →
      wp (forIn l PUnit.unit (fun i _ => do
        let r ← multianewarray.make comp [n]
        writeLoc a i (.ref r)
        Pure.pure (ForInStep.yield PUnit.unit))) Q Ex e d acts s
  | [], c, s, d, acts, _, _, _, _, _, _, _, hq => by
    simp only [List.forIn_nil, wp_pure']
    exact hq d acts
  | i :: l, c, s, d, acts, hk, hc, hv, hi, hf, hz, hu, hq => by
    simp only [List.forIn_cons, wp_bind']
    simp only [List.length_cons] at hz hu
    refine mna_row hn hk hkind hlimit hheap (by omega) (by rw [Nat.add_mul] at hu; omega) hfit (fun acts' => ?_)
    simp only [W.writeLoc, wp_pure', wp_bind']
    have hlt : a < s.heap.size := (Array.getElem?_eq_some_iff.mp hc).1
    refine ⟨c, ?_, hv, hi i List.mem_cons_self, hf i _, ?_⟩
    · show (s.heap.push _)[a]? = some c
      rw [Array.getElem?_push, if_neg (Nat.ne_of_lt hlt)]
      exact hc
    · refine mna_loop hn hkind hlimit hheap hfit l (c.setSlot i (.ref s.heap.size)) ((s.pushCell { cls := comp, slots := Array.replicate n.toNatClampNeg (defaultValue ty) }).setCell a (c.setSlot i (.ref s.heap.size))) _ _ hk ?_ hv ?_ (fun j v => hf j v) ?_ ?_ hq
      · show ((s.heap.push _).setIfInBounds a _)[a]? = some _
        simp [Array.getElem?_setIfInBounds]
        exact Nat.lt_succ_of_lt hlt
      · intro j hj
        have := hi j (List.mem_cons_of_mem _ hj)
        simpa [Cell.setSlot] using this
      · show ((s.heap.push _).setIfInBounds a _).size + l.length ≤ _
        simp
        omega
      · show s.slotsUsed + (Array.replicate n.toNatClampNeg (defaultValue ty)).size + l.length * n.toNatClampNeg ≤ _
        rw [Array.size_replicate]
        rw [Nat.add_mul] at hu
        omega
theorem mna_make {c comp : ClassId} {kc k : Class} {cc : ClassId} {ty : FieldType} {n1 n : Int32} {Q : Addr → Pre} (hn1 : ¬ n1 < 0) (hn10 : ¬ n1 = 0) (hkc : s.vm.classes[c]? = some kc) (hkindc : kc.kind = .array comp (.array ty)) (hn : ¬ n < 0) (hk : s.vm.classes[comp]? = some k) (hkind : k.kind = .array cc ty)
    (hl1 : ¬ n1.toNatClampNeg > e.platform.arrayLengthLimit) (hh1 : ¬ n1.toNatClampNeg * componentBytes (.array ty) > e.platform.maxHeapBytes) (hlimit : ¬ n.toNatClampNeg > e.platform.arrayLengthLimit) (hheap : ¬ n.toNatClampNeg * componentBytes ty > e.platform.maxHeapBytes) (hfit : fits ty (defaultValue ty) = true)
    (hz : s.heap.size + 1 + n1.toNatClampNeg ≤ e.platform.maxCells) (hu : s.slotsUsed + n1.toNatClampNeg + n1.toNatClampNeg * n.toNatClampNeg ≤ e.platform.maxSlots)
    (hq : ∀ d' acts', Q s.heap.size d' acts' (mnaS s.heap.size { cls := comp, slots := Array.replicate n.toNatClampNeg (defaultValue ty) } (List.range n1.toNatClampNeg) { cls := c, slots := Array.replicate n1.toNatClampNeg .null } (s.pushCell { cls := c, slots := Array.replicate n1.toNatClampNeg .null }))) :
    wp (multianewarray.make c [n1, n]) Q Ex e d acts s := by
  unfold multianewarray.make
  simp only [wp_bind', W.ite, hn1, if_false, wp_pure', W.theClass, hkc, Option.some.injEq, exists_eq_left', hkindc]
  refine W.newArray_of hkc hkindc hl1 hh1 (by omega) (by omega) rfl (fun acts' => ?_)
  rw [if_neg (by simpa using hn10)]
  simp only [wp_bind']
  have hr : ∀ (f : Nat → PUnit → Sem (ForInStep PUnit)), forIn [:n1.toNatClampNeg] PUnit.unit f = forIn (List.range n1.toNatClampNeg) PUnit.unit f := by
    intro f
    first
      | (rw [Std.Legacy.Range.forIn_eq_forIn_range']; simp [Std.Legacy.Range.size, List.range_eq_range'])
      | (rw [Std.Range.forIn_eq_forIn_range']; simp [Std.Range.size, List.range_eq_range'])
  rw [hr]
  refine mna_loop hn hkind hlimit hheap hfit (List.range n1.toNatClampNeg) { cls := c, slots := Array.replicate n1.toNatClampNeg .null } _ _ _ hk ?_ (fun h => by cases h) ?_ ?_ ?_ ?_ (fun d' acts' => ?_)
  · show (s.heap.push _)[s.heap.size]? = some _
    simp
  · intro i hi
    simpa using hi
  · intro i v
    show s.fitsSlot c .none i (.ref v) = true
    simp [State.fitsSlot, State.slotType?, hkc, hkindc, fits]
  · show (s.heap.push _).size + (List.range n1.toNatClampNeg).length ≤ _
    simp
    omega
  · show s.slotsUsed + (Array.replicate n1.toNatClampNeg Value.null).size + (List.range n1.toNatClampNeg).length * n.toNatClampNeg ≤ _
    simp
    omega
  · simp only [wp_pure']
    exact hq d' acts'
end MNA
section MNB
variable {e : Env} {d : Bool} {acts : List Action} {s : State} {Ex : CtlPost}
def mnaC : List Nat → Cell → Nat → Cell
  | [], c, _ => c
  | i :: l, c, h => mnaC l (c.setSlot i (.ref h)) (h + 1)
theorem mnaS_size {a : Nat} {row : Cell} : ∀ (l : List Nat) (c : Cell) (s : State), (mnaS a row l c s).heap.size = s.heap.size + l.length
  | [], c, s => rfl
  | i :: l, c, s => by
    rw [mnaS, mnaS_size l]
    show ((s.heap.push row).setIfInBounds a _).size + l.length = _
    simp
    omega
theorem mnaS_old {a : Nat} {row : Cell} {q : Nat} : ∀ (l : List Nat) (c : Cell) (s : State), q < s.heap.size → q ≠ a → (mnaS a row l c s).heap[q]? = s.heap[q]?
  | [], c, s, _, _ => rfl
  | i :: l, c, s, h, hq => by
    rw [mnaS, mnaS_old l _ _ (by show q < ((s.heap.push row).setIfInBounds a _).size; simp; omega) hq]
    show ((s.heap.push row).setIfInBounds a _)[q]? = _
    rw [Array.getElem?_setIfInBounds_ne (Ne.symm hq), Array.getElem?_push, if_neg (Nat.ne_of_lt h)]
theorem mnaS_row {a : Nat} {row : Cell} : ∀ (l : List Nat) (c : Cell) (s : State) (i : Nat), a < s.heap.size → i < l.length → (mnaS a row l c s).heap[s.heap.size + i]? = some row
  | [], c, s, i, _, h => absurd h (Nat.not_lt_zero i)
  | j :: l, c, s, 0, ha, h => by
    rw [mnaS, mnaS_old l _ _ (by show s.heap.size + 0 < ((s.heap.push row).setIfInBounds a _).size; simp) (by show s.heap.size + 0 ≠ a; omega)]
    show ((s.heap.push row).setIfInBounds a _)[s.heap.size + 0]? = _
    rw [Array.getElem?_setIfInBounds_ne (by omega)]
    simp
  | j :: l, c, s, i + 1, ha, h => by
    have hz : ((s.pushCell row).setCell a (c.setSlot j (.ref s.heap.size))).heap.size = s.heap.size + 1 := by
      show ((s.heap.push row).setIfInBounds a _).size = _
      simp
    have := mnaS_row (a := a) (row := row) l (c.setSlot j (.ref s.heap.size)) ((s.pushCell row).setCell a (c.setSlot j (.ref s.heap.size))) i (by omega) (by simpa using h)
    rw [hz] at this
    rw [mnaS, show s.heap.size + (i + 1) = s.heap.size + 1 + i by omega]
    exact this
theorem mnaS_out {a : Nat} {row : Cell} : ∀ (l : List Nat) (c : Cell) (s : State), s.heap[a]? = some c → (mnaS a row l c s).heap[a]? = some (mnaC l c s.heap.size)
  | [], c, s, h => h
  | i :: l, c, s, h => by
    have ha : a < s.heap.size := (Array.getElem?_eq_some_iff.mp h).1
    have hz : ((s.pushCell row).setCell a (c.setSlot i (.ref s.heap.size))).heap.size = s.heap.size + 1 := by
      show ((s.heap.push row).setIfInBounds a _).size = _
      simp
    rw [mnaS, mnaC, mnaS_out l _ _ (by
      show ((s.heap.push row).setIfInBounds a _)[a]? = _
      simp [Array.getElem?_setIfInBounds]
      omega), hz]
theorem mna_arr {cO : ClassId} {N : Nat} {f g : Nat → Value} (h : ∀ j, j < N → f j = g j) : arrV cO N f = arrV cO N g := by
  have : (fun j : Fin N => f j.val) = fun j : Fin N => g j.val := funext fun j => h j.val j.isLt
  unfold arrV
  rw [this]
theorem mnaC_arr {cO : ClassId} {N : Nat} : ∀ (k i h : Nat) (f : Nat → Value), mnaC (List.range' i k) (arrV cO N f) h = arrV cO N (fun j => if i ≤ j ∧ j < i + k then .ref (h + (j - i)) else f j)
  | 0, i, h, f => by
    show arrV cO N f = _
    congr 1
    funext j
    rw [if_neg (by omega)]
  | k + 1, i, h, f => by
    rw [List.range'_succ, mnaC, arrV_store, mnaC_arr k (i + 1) (h + 1)]
    congr 1
    funext j
    simp only [updV]
    by_cases h1 : j = i
    · subst h1
      rw [if_neg (by omega), if_pos rfl, if_pos (by omega), Nat.sub_self]
      rfl
    · by_cases h2 : i + 1 ≤ j ∧ j < i + 1 + k
      · rw [if_pos h2, if_pos (by omega), show h + 1 + (j - (i + 1)) = h + (j - i) by omega]
      · rw [if_neg h2, if_neg h1, if_neg (by omega)]
theorem mnaS_setTop {a : Nat} {row : Cell} {f : JFrame} : ∀ (l : List Nat) (c : Cell) (s : State), mnaS a row l c (s.setTop f) = (mnaS a row l c s).setTop f
  | [], c, s => rfl
  | i :: l, c, s => by
    rw [mnaS, mnaS, ← mnaS_setTop l]
    rfl
theorem mnaS_top {a : Nat} {row : Cell} : ∀ (l : List Nat) (c : Cell) (s : State), (mnaS a row l c s).topJava? = s.topJava?
  | [], c, s => rfl
  | i :: l, c, s => by
    rw [mnaS, mnaS_top l]
    rfl
theorem mnaS_stand {p : Program} {l0 : Launch} {R : Room} {m : MethodId} {args : Array Value} {below : List Frame} {meth : Method} {cd : Code} {a : Nat} {row : Cell} : ∀ (l : List Nat) (c : Cell) (T : State) (locs : List Loc) (cells slots : Nat), Stand p l0 e R s m args below meth cd T locs cells slots → T.heap[a]? = some c →
    ∃ l2 : List Loc, Stand p l0 e R s m args below meth cd (mnaS a row l c T) (locs ++ l2) (cells + l.length) (slots + l.length * row.slots.size) ∧ ∀ q ∈ l2, q.base = a
  | [], c, T, locs, cells, slots, X, h => ⟨[], by simpa [mnaS] using X, by simp⟩
  | i :: l, c, T, locs, cells, slots, X, h => by
    have hlt : a < T.heap.size := (Array.getElem?_eq_some_iff.mp h).1
    have X1 := X.pushed row
    have h1 : (T.pushCell row).heap[a]? = some c := by
      show (T.heap.push row)[a]? = some c
      rw [Array.getElem?_push, if_neg (Nat.ne_of_lt hlt)]
      exact h
    have X2 := X1.stored h1 i (.ref T.heap.size)
    obtain ⟨l2, X3, h3⟩ := mnaS_stand l (c.setSlot i (.ref T.heap.size)) _ _ _ _ X2 (by
      show ((T.heap.push row).setIfInBounds a _)[a]? = _
      simp [Array.getElem?_setIfInBounds]
      omega)
    refine ⟨⟨a, i⟩ :: l2, ?_, ?_⟩
    · rw [mnaS]
      have e1 : cells + 1 + l.length = cells + (i :: l).length := by simp; omega
      have e2 : slots + row.slots.size + l.length * row.slots.size = slots + (i :: l).length * row.slots.size := by
        simp [Nat.add_mul]; omega
      rw [e1, e2, List.append_assoc] at X3
      exact X3
    · intro q hq
      rcases List.mem_cons.mp hq with rfl | hq
      · rfl
      · exact h3 q hq
theorem mna_cold {index c : Nat} {vm' : Vm} {f : JFrame} {Q : Unit → Pre} (hs : s.topJava?.isSome) (hg : (Jvm.resolveClass f.method.cls index).Gives e.toSetting s.vm (.ok c) vm') (hr : vm'.classReady f.method.cls index c)
    (hsz : vm'.classes.size ≤ s.vm.classes.size := by no_record) :
    wp (multianewarray.sem index 2) Q Ex e d acts (s.setTop f) ↔ wp (multianewarray.sem index 2) Q Ex e d acts ((s.setVm vm').setTop f) := by
  simp only [multianewarray.sem, wp_bind']
  exact W.resolveClassAt_transfer (s := s.setTop f) (State.method?_setTop f hs) hg hr
theorem mna_ready {index : Nat} {c comp : ClassId} {kc k : Class} {cc : ClassId} {ty : FieldType} {n1 n : Int32} {f : JFrame} {rest : List Value} {Q : Unit → Pre} (hs : s.topJava?.isSome) (hr : s.vm.classReady f.method.cls index c) (hstack : f.stack = .int n :: .int n1 :: rest) (hn1 : ¬ n1 < 0) (hn10 : ¬ n1 = 0) (hkc : s.vm.classes[c]? = some kc) (hkindc : kc.kind = .array comp (.array ty)) (hn : ¬ n < 0) (hk : s.vm.classes[comp]? = some k) (hkind : k.kind = .array cc ty)
    (hl1 : ¬ n1.toNatClampNeg > e.platform.arrayLengthLimit) (hh1 : ¬ n1.toNatClampNeg * componentBytes (.array ty) > e.platform.maxHeapBytes) (hlimit : ¬ n.toNatClampNeg > e.platform.arrayLengthLimit) (hheap : ¬ n.toNatClampNeg * componentBytes ty > e.platform.maxHeapBytes) (hfit : fits ty (defaultValue ty) = true)
    (hz : s.heap.size + 1 + n1.toNatClampNeg ≤ e.platform.maxCells) (hu : s.slotsUsed + n1.toNatClampNeg + n1.toNatClampNeg * n.toNatClampNeg ≤ e.platform.maxSlots)
    (hq : ∀ d' acts', Q () d' acts' ((mnaS s.heap.size { cls := comp, slots := Array.replicate n.toNatClampNeg (defaultValue ty) } (List.range n1.toNatClampNeg) { cls := c, slots := Array.replicate n1.toNatClampNeg .null } (s.pushCell { cls := c, slots := Array.replicate n1.toNatClampNeg .null })).setTop { f with stack := .ref s.heap.size :: rest })) :
    wp (multianewarray.sem index 2) Q Ex e d acts (s.setTop f) := by
  simp only [multianewarray.sem, wp_bind', W.resolveClassAt_ready (State.method?_setTop f hs) hr]
  refine (popN_top (args := [.int n1, .int n]) (rest := rest) hs (by rw [hstack]; rfl)).mpr ?_
  simp only [List.mapM_cons, List.mapM_nil, wp_bind', wp_pure']
  refine mna_make (s := s.setTop { f with stack := rest }) hn1 hn10 hkc hkindc hn hk hkind hl1 hh1 hlimit hheap hfit hz hu (fun d' acts' => ?_)
  have ht : ((mnaS s.heap.size { cls := comp, slots := Array.replicate n.toNatClampNeg (defaultValue ty) } (List.range n1.toNatClampNeg) { cls := c, slots := Array.replicate n1.toNatClampNeg .null } (s.pushCell { cls := c, slots := Array.replicate n1.toNatClampNeg .null }))).topJava?.isSome := by
    rw [mnaS_top]; exact hs
  have he : mnaS (s.setTop { f with stack := rest }).heap.size { cls := comp, slots := Array.replicate n.toNatClampNeg (defaultValue ty) } (List.range n1.toNatClampNeg) { cls := c, slots := Array.replicate n1.toNatClampNeg .null } ((s.setTop { f with stack := rest }).pushCell { cls := c, slots := Array.replicate n1.toNatClampNeg .null }) = (mnaS s.heap.size { cls := comp, slots := Array.replicate n.toNatClampNeg (defaultValue ty) } (List.range n1.toNatClampNeg) { cls := c, slots := Array.replicate n1.toNatClampNeg .null } (s.pushCell { cls := c, slots := Array.replicate n1.toNatClampNeg .null })).setTop { f with stack := rest } := by
    rw [State.heap_setTop, State.pushCell_setTop]
    exact mnaS_setTop _ _ _
  rw [he]
  simp only [wp_bind', W.mark, W.pushRef, State.heap_setTop, State.topJava?_setTop' _ ht, Option.some.injEq, exists_eq_left', State.setTop_setTop]
  exact hq _ _
theorem mna_W {p : Program} {l : Launch} {R : Room} {m : MethodId} {args : Array Value} {below : List Frame} {meth : Method} {c : Code} {H : Heap} {locs : List Loc} {cells slots : Nat} {Q : State → Prop} {cc : ByteArray} (hexec : p.tables.exec = Jvm.exec) (hb : c.code = cc) {own : String} {index : Nat} {t : FieldType} (hown : s.vm.findClass own = some m.cls) (hclink : (Cond.classLink own index ("[" ++ (FieldType.array t).toString)).before args s = true) (hover : ∃ (comp cO : ClassId) (k : Class), s.vm.findClass (FieldType.array t).toString = some comp ∧ s.vm.classes[cO]? = some k ∧ k.kind = .array comp (.array t) ∧ s.vm.findClass ("[" ++ (FieldType.array t).toString) = some cO) (harr : (Cond.arrayClass t).before args s = true) (hfit : fits t (defaultValue t) = true)
    {g : JFrame} (hg : g.method = m) (hdg : decode cc g.pc = .ok (.multianewarray index 2, 4)) {n n1 : Int32} {rest : List Value} (hstack : g.stack = .int n :: .int n1 :: rest) (hn : ¬ n < 0) (hn1 : ¬ n1 < 0) (hn10 : ¬ n1 = 0) (hb1 : n1.toNatClampNeg * 4 ≤ 536870912) (hb2 : n.toNatClampNeg * componentBytes t ≤ 536870912) (hb3 : n.toNatClampNeg ≤ 536870912) (hcells : cells + (1 + n1.toNatClampNeg) ≤ R.cells) (hslots : slots + (n1.toNatClampNeg + n1.toNatClampNeg * n.toNatClampNeg) ≤ R.slots)
    (kk : ∀ (cO cR : ClassId) (H1 : Heap) (l1 : List Loc), ArrOfT s cR t → s.vm.findClass ("[" ++ t.toString) = some cR → ArrOfT s cO (.array t) → s.vm.findClass ("[" ++ (FieldType.array t).toString) = some cO → H1.size = H.size + 1 + n1.toNatClampNeg → (∀ q, q < H.size → H1[q]? = H[q]?) → H1[H.size]? = some (arrV cO n1.toNatClampNeg (fun i => .ref (H.size + 1 + i))) → (∀ i, i < n1.toNatClampNeg → H1[H.size + 1 + i]? = some (arrV cR n.toNatClampNeg (fun _ => defaultValue t))) → (∀ q ∈ l1, q.base = H.size) →
      W p l e R s m args below meth c H1 (locs ++ l1) (cells + (1 + n1.toNatClampNeg)) (slots + (n1.toNatClampNeg + n1.toNatClampNeg * n.toNatClampNeg)) Q { g with pc := g.pc + 4, stack := .ref H.size :: rest }) : W p l e R s m args below meth c H locs cells slots Q g := by
  intro T hT X
  subst hT; subst hb; subst hg
  have hpl : e.platform.magicAccessors = ({} : Platform).magicAccessors := by rw [X.admits.platform]
  obtain ⟨comp, cA, kA, hcomp, hkA, hkindA, hnameA⟩ := hover
  obtain ⟨cR, kR, cr, hcR, hkR, hkindR⟩ := Cond.arrayClass_spec harr
  have hcc : comp = cR := Option.some.inj (hcomp.symm.trans hcR)
  subst hcc
  obtain ⟨cc', hfcc, hcl⟩ := Cond.classLink_spec hown hclink e.platform hpl
  cases hnameA.symm.trans hfcc
  obtain ⟨hg₁, hwarm₁, hready₁⟩ := State.classEntry (e := e) X.warmed hcl
  generalize T.vm.noted g.method.cls index (.cls cA) = vm₁ at hg₁ hwarm₁ hready₁
  have hal : s.vm.Alike vm₁ := hwarm₁.alike
  obtain ⟨kR₁, hkR₁, heR⟩ := hal.2.2 _ _ hkR
  obtain ⟨kA₁, hkA₁, heA⟩ := hal.2.2 _ _ hkA
  have hkindA₁ : kA₁.kind = .array comp (.array t) := by rw [heA]; exact hkindA
  have hkindR₁ : kR₁.kind = .array cr t := by rw [heR]; exact hkindR
  have hl1 : ¬ n1.toNatClampNeg > e.platform.arrayLengthLimit := by rw [Launch.admits_arrayLengthLimit X.admits]; omega
  have hh1 : ¬ n1.toNatClampNeg * componentBytes (.array t) > e.platform.maxHeapBytes := by
    rw [Launch.admits_maxHeapBytes X.admits]; show ¬ n1.toNatClampNeg * 4 > 536870912; omega
  have hl2 : ¬ n.toNatClampNeg > e.platform.arrayLengthLimit := by rw [Launch.admits_arrayLengthLimit X.admits]; omega
  have hh2 : ¬ n.toNatClampNeg * componentBytes t > e.platform.maxHeapBytes := by
    rw [Launch.admits_maxHeapBytes X.admits]; omega
  have X₁ := X.noted hwarm₁
  have X₂ := X₁.pushed { cls := cA, slots := Array.replicate n1.toNatClampNeg .null, vm := .none }
  have hO : ((T.setVm vm₁).pushCell { cls := cA, slots := Array.replicate n1.toNatClampNeg .null, vm := .none }).heap[T.heap.size]? = some { cls := cA, slots := Array.replicate n1.toNatClampNeg .null, vm := .none } := by
    show (T.heap.push _)[T.heap.size]? = _
    simp
  obtain ⟨l2, X₃, hl2m⟩ := mnaS_stand (row := { cls := comp, slots := Array.replicate n.toNatClampNeg (defaultValue t) }) (List.range n1.toNatClampNeg) _ _ _ _ _ X₂ hO
  have hrm := X.roomAbove hcells hslots
  obtain ⟨hr1, hr2⟩ := hrm
  have e1 : cells + 1 + (List.range n1.toNatClampNeg).length = cells + (1 + n1.toNatClampNeg) := by rw [List.length_range]; omega
  have e2 : slots + (Array.replicate n1.toNatClampNeg Value.null).size + (List.range n1.toNatClampNeg).length * (Array.replicate n.toNatClampNeg (defaultValue t)).size = slots + (n1.toNatClampNeg + n1.toNatClampNeg * n.toNatClampNeg) := by
    rw [List.length_range, Array.size_replicate, Array.size_replicate]; omega
  rw [e1, e2] at X₃
  have hz1 : ((T.setVm vm₁).pushCell { cls := cA, slots := Array.replicate n1.toNatClampNeg .null, vm := .none }).heap.size = T.heap.size + 1 := by
    show (T.heap.push _).size = _
    simp
  obtain ⟨t', a1, b1⟩ := kk cA comp (mnaS T.heap.size { cls := comp, slots := Array.replicate n.toNatClampNeg (defaultValue t) } (List.range n1.toNatClampNeg) { cls := cA, slots := Array.replicate n1.toNatClampNeg .null, vm := .none } ((T.setVm vm₁).pushCell { cls := cA, slots := Array.replicate n1.toNatClampNeg .null, vm := .none })).heap l2
    (fun n z => ⟨fun k h => (by cases h), kR, hkR, cr, hkindR⟩) hcR (fun n z => ⟨fun k h => (by cases h), kA, hkA, comp, hkindA⟩) hnameA
    (by rw [mnaS_size, hz1, List.length_range])
    (fun q hq => by
      rw [mnaS_old _ _ _ (by rw [hz1]; omega) (by show q ≠ T.heap.size; omega)]
      show (T.heap.push _)[q]? = _
      rw [Array.getElem?_push, if_neg (Nat.ne_of_lt hq)])
    (by
      rw [mnaS_out _ _ _ hO, hz1, arrV_new, List.range_eq_range', mnaC_arr]
      exact congrArg some (mna_arr fun j hj => by rw [if_pos (by omega), Nat.sub_zero]))
    (fun i hi => by
      have := mnaS_row (a := T.heap.size) (row := { cls := comp, slots := Array.replicate n.toNatClampNeg (defaultValue t) }) (List.range n1.toNatClampNeg) { cls := cA, slots := Array.replicate n1.toNatClampNeg .null, vm := .none } ((T.setVm vm₁).pushCell { cls := cA, slots := Array.replicate n1.toNatClampNeg .null, vm := .none }) i (by rw [hz1]; omega) (by rw [List.length_range]; exact hi)
      rw [hz1] at this
      rw [this, arrV_new])
    hl2m _ rfl X₃
  refine ⟨t', ?_, b1⟩
  refine Steps.instr (c := _) (by simpa using X.here) ?_
  simp [jvm, wpRun, exec, X.here.top, hexec, hdg, mna_cold (e := e) (s := T) (f := g) X.here.top hg₁ hready₁]
  have htop : (mnaS T.heap.size { cls := comp, slots := Array.replicate n.toNatClampNeg (defaultValue t) } (List.range n1.toNatClampNeg) { cls := cA, slots := Array.replicate n1.toNatClampNeg .null, vm := .none } ((T.setVm vm₁).pushCell { cls := cA, slots := Array.replicate n1.toNatClampNeg .null, vm := .none })).topJava?.isSome := by
    rw [mnaS_top]; exact X.here.top
  refine mna_ready (s := T.setVm vm₁) X.here.top hready₁ hstack hn1 hn10 hkA₁ hkindA₁ hn hkR₁ hkindR₁ hl1 hh1 hl2 hh2 hfit ?_ ?_ (fun d' acts' acts2 => ?_)
  · show T.heap.size + 1 + _ ≤ _
    omega
  · show T.slotsUsed + _ + _ ≤ _
    omega
  · simp [jvm, htop]
    exact a1
end MNB
