/-! A small pure machine over the instructions: frames, a heap of numbered cells, and evaluation as a least set.
A value '.ref k' is the k-th cell of the heap, '.retAddr i' the i-th thing that was there at the start (a constant text, the script), '.float _' a reference of the library's that is handed on alone. -/
abbrev gS : Type := (Nat → Nat → Int32) × (Nat → Nat) × (Nat → Nat → Int64)
abbrev gD : Type := (FieldType × Option (List (Option Nat))) ⊕ (Nat × List (Option (Option Nat)))
abbrev gHS : Type := List gD × gS × Nat
abbrev gFr : Type := Nat × List (Option Value) × List Value × gHS
abbrev gT : Type := List (Nat × Nat × Nat × Nat) × List (Nat × Nat × Nat × Nat) × List (Nat × Value) × List (Nat × Nat)
abbrev gEv : Type := (Nat → Nat × (Nat → Int32))
def gRow (σ : gS) (k : Nat) (f : Nat → Int32) : gS := (fun k' => if k' = k then f else σ.1 k', σ.2)
def gPut (σ : gS) (k j : Nat) (v : Int32) : gS := gRow σ k (upd (σ.1 k) j v)
def gRowL (σ : gS) (k : Nat) (f : Nat → Int64) : gS := (σ.1, σ.2.1, fun k' => if k' = k then f else σ.2.2 k')
def gPutL (σ : gS) (k j : Nat) (v : Int64) : gS := gRowL σ k (vp_updL (σ.2.2 k) j v)
def gLen (σ : gS) (k n : Nat) : gS := (σ.1, fun k' => if k' = k then n else σ.2.1 k', σ.2.2)
abbrev gIn (i : Int32) (n : Nat) : Prop := ¬ (i < 0 ∨ n ≤ i.toNatClampNeg)
def gCat (st : List Value) : Nat := (st.map fun v => v.category).sum
def gLd (L : List (Option Value)) (n : Nat) : Option Value := match L[n]? with
  | some (some v) => some v
  | _ => none
def gNL (L : List (Option Value)) (n : Nat) : Bool := match n with
  | 0 => true
  | k + 1 => match gLd L k with
    | some (.long _) => false
    | some (.double _) => false
    | _ => true
def gSt (L : List (Option Value)) (n : Nat) (v : Value) : Option (List (Option Value)) := match decide (n < L.length) && gNL L n with
  | true => some (L.set n (some v))
  | false => none
def gStL (L : List (Option Value)) (n : Nat) (v : Value) : Option (List (Option Value)) := match decide (n + 1 < L.length) && gNL L n with
  | true => some ((L.set n (some v)).set (n + 1) none)
  | false => none
def gTg (pc : Nat) (off : Int) : Nat := ((pc : Int) + off).toNat
/-- what a field of a cell holds -/
def gFd (σ : gS) (k j : Nat) (q : Option (Option Nat)) : Value := match q with
  | none => .int (σ.1 k j)
  | some none => .null
  | some (some p) => .ref p
def gI2 (g : Int32 → Int32 → Int32) (pc : Nat) (L : List (Option Value)) (st : List Value) (hs : gHS) : Option gFr := match st with
  | .int y :: .int x :: r => some (pc + 1, L, .int (g x y) :: r, hs)
  | _ => none
def gL2 (g : Int64 → Int64 → Int64) (pc : Nat) (L : List (Option Value)) (st : List Value) (hs : gHS) : Option gFr := match st with
  | .long y :: .long x :: r => some (pc + 1, L, .long (g x y) :: r, hs)
  | _ => none
def gI1 (g : Int32 → Int32) (pc : Nat) (L : List (Option Value)) (st : List Value) (hs : gHS) : Option gFr := match st with
  | .int x :: r => some (pc + 1, L, .int (g x) :: r, hs)
  | _ => none
def gPI (q : Option Value) (k pc : Nat) (L : List (Option Value)) (st : List Value) (hs : gHS) : Option gFr := match q with
  | some (.int x) => some (pc + k, L, .int x :: st, hs)
  | _ => none
def gPL (q : Option Value) (k pc : Nat) (L : List (Option Value)) (st : List Value) (hs : gHS) : Option gFr := match q with
  | some (.long x) => some (pc + k, L, .long x :: st, hs)
  | _ => none
def gPR (q : Option Value) (k pc : Nat) (L : List (Option Value)) (st : List Value) (hs : gHS) : Option gFr := match q with
  | some (.ref x) => some (pc + k, L, .ref x :: st, hs)
  | some .null => some (pc + k, L, .null :: st, hs)
  | some (.retAddr x) => some (pc + k, L, .retAddr x :: st, hs)
  | _ => none
def gSI (n k pc : Nat) (L : List (Option Value)) (st : List Value) (hs : gHS) : Option gFr := match st with
  | .int x :: r => (gSt L n (.int x)).map (fun L' => (pc + k, L', r, hs))
  | _ => none
def gSL (n k pc : Nat) (L : List (Option Value)) (st : List Value) (hs : gHS) : Option gFr := match st with
  | .long x :: r => (gStL L n (.long x)).map (fun L' => (pc + k, L', r, hs))
  | _ => none
def gSR (n k pc : Nat) (L : List (Option Value)) (st : List Value) (hs : gHS) : Option gFr := match st with
  | .ref x :: r => (gSt L n (.ref x)).map (fun L' => (pc + k, L', r, hs))
  | .null :: r => (gSt L n .null).map (fun L' => (pc + k, L', r, hs))
  | .retAddr x :: r => (gSt L n (.retAddr x)).map (fun L' => (pc + k, L', r, hs))
  | _ => none
def gC2 (cd : ClassFile.Cond) (off : Int) (pc : Nat) (L : List (Option Value)) (st : List Value) (hs : gHS) : Option gFr := match st with
  | .int y :: .int x :: r => (match cd with
    | .eq => if x = y then some (gTg pc off, L, r, hs) else some (pc + 3, L, r, hs)
    | .ne => if x = y then some (pc + 3, L, r, hs) else some (gTg pc off, L, r, hs)
    | .lt => if x < y then some (gTg pc off, L, r, hs) else some (pc + 3, L, r, hs)
    | .ge => if y ≤ x then some (gTg pc off, L, r, hs) else some (pc + 3, L, r, hs)
    | .gt => if y < x then some (gTg pc off, L, r, hs) else some (pc + 3, L, r, hs)
    | .le => if x ≤ y then some (gTg pc off, L, r, hs) else some (pc + 3, L, r, hs))
  | _ => none
def gC1 (cd : ClassFile.Cond) (off : Int) (pc : Nat) (L : List (Option Value)) (st : List Value) (hs : gHS) : Option gFr := match st with
  | .int x :: r => (match cd with
    | .eq => if x = 0 then some (gTg pc off, L, r, hs) else some (pc + 3, L, r, hs)
    | .ne => if x = 0 then some (pc + 3, L, r, hs) else some (gTg pc off, L, r, hs)
    | .lt => if x < 0 then some (gTg pc off, L, r, hs) else some (pc + 3, L, r, hs)
    | .ge => if 0 ≤ x then some (gTg pc off, L, r, hs) else some (pc + 3, L, r, hs)
    | .gt => if 0 < x then some (gTg pc off, L, r, hs) else some (pc + 3, L, r, hs)
    | .le => if x ≤ 0 then some (gTg pc off, L, r, hs) else some (pc + 3, L, r, hs))
  | _ => none
/-- an array of ints is read, or the script -/
def gAldI (E : gEv) (pc : Nat) (L : List (Option Value)) (st : List Value) (hs : gHS) : Option gFr := match st with
  | .int i :: .ref k :: r => (match hs.1[k]? with
    | some (.inl (.int, none)) => if gIn i (hs.2.1.2.1 k) then some (pc + 1, L, .int (hs.2.1.1 k i.toNatClampNeg) :: r, hs) else none
    | _ => none)
  | .int i :: .retAddr 1000 :: r => if gIn i (E 1000).1 then some (pc + 1, L, .int ((E 1000).2 i.toNatClampNeg) :: r, hs) else none
  | _ => none
def gAldB (E : gEv) (pc : Nat) (L : List (Option Value)) (st : List Value) (hs : gHS) : Option gFr := match st with
  | .int i :: .ref k :: r => (match hs.1[k]? with
    | some (.inl (.byte, none)) => if gIn i (hs.2.1.2.1 k) then some (pc + 1, L, .int (hs.2.1.1 k i.toNatClampNeg) :: r, hs) else none
    | some (.inl (.boolean, none)) => if gIn i (hs.2.1.2.1 k) then some (pc + 1, L, .int (hs.2.1.1 k i.toNatClampNeg) :: r, hs) else none
    | _ => none)
  | .int i :: .retAddr k :: r => (match decide (100 ≤ k) && decide (k < 107) with
    | true => if gIn i (E k).1 then some (pc + 1, L, .int ((E k).2 i.toNatClampNeg) :: r, hs) else none
    | false => none)
  | _ => none
def gAstI (pc : Nat) (L : List (Option Value)) (st : List Value) (hs : gHS) : Option gFr := match st with
  | .int x :: .int i :: .ref k :: r => (match hs.1[k]? with
    | some (.inl (.int, none)) => if gIn i (hs.2.1.2.1 k) then some (pc + 1, L, r, (hs.1, gPut hs.2.1 k i.toNatClampNeg x, hs.2.2)) else none
    | _ => none)
  | _ => none
def gAstB (pc : Nat) (L : List (Option Value)) (st : List Value) (hs : gHS) : Option gFr := match st with
  | .int x :: .int i :: .ref k :: r => (match hs.1[k]? with
    | some (.inl (.byte, none)) => if gIn i (hs.2.1.2.1 k) then some (pc + 1, L, r, (hs.1, gPut hs.2.1 k i.toNatClampNeg (vp_nar .byte x), hs.2.2)) else none
    | some (.inl (.boolean, none)) => if gIn i (hs.2.1.2.1 k) then some (pc + 1, L, r, (hs.1, gPut hs.2.1 k i.toNatClampNeg (vp_nar .boolean x), hs.2.2)) else none
    | _ => none)
  | _ => none
def gAldL (pc : Nat) (L : List (Option Value)) (st : List Value) (hs : gHS) : Option gFr := match st with
  | .int i :: .ref k :: r => (match hs.1[k]? with
    | some (.inl (.long, none)) => if gIn i (hs.2.1.2.1 k) then some (pc + 1, L, .long (hs.2.1.2.2 k i.toNatClampNeg) :: r, hs) else none
    | _ => none)
  | _ => none
def gAstL (pc : Nat) (L : List (Option Value)) (st : List Value) (hs : gHS) : Option gFr := match st with
  | .long x :: .int i :: .ref k :: r => (match hs.1[k]? with
    | some (.inl (.long, none)) => if gIn i (hs.2.1.2.1 k) then some (pc + 1, L, r, (hs.1, gPutL hs.2.1 k i.toNatClampNeg x, hs.2.2)) else none
    | _ => none)
  | _ => none
def gAldR (pc : Nat) (L : List (Option Value)) (st : List Value) (hs : gHS) : Option gFr := match st with
  | .int i :: .ref k :: r => (match hs.1[k]? with
    | some (.inl (.array .int, some ps)) => if gIn i ps.length then (match ps.getD i.toNatClampNeg none with
      | some q => some (pc + 1, L, .ref q :: r, hs)
      | none => none) else none
    | some (.inl (.array .byte, some ps)) => if gIn i ps.length then (match ps.getD i.toNatClampNeg none with
      | some q => some (pc + 1, L, .ref q :: r, hs)
      | none => none) else none
    | _ => none)
  | _ => none
def gAln (E : gEv) (pc : Nat) (L : List (Option Value)) (st : List Value) (hs : gHS) : Option gFr := match st with
  | .ref k :: r => (match hs.1[k]? with
    | some (.inl (.int, none)) => some (pc + 1, L, .int (Int32.ofNat (hs.2.1.2.1 k)) :: r, hs)
    | some (.inl (.byte, none)) => some (pc + 1, L, .int (Int32.ofNat (hs.2.1.2.1 k)) :: r, hs)
    | some (.inl (.boolean, none)) => some (pc + 1, L, .int (Int32.ofNat (hs.2.1.2.1 k)) :: r, hs)
    | some (.inl (.long, none)) => some (pc + 1, L, .int (Int32.ofNat (hs.2.1.2.1 k)) :: r, hs)
    | _ => none)
  | .retAddr 1000 :: r => some (pc + 1, L, .int (Int32.ofNat (E 1000).1) :: r, hs)
  | .retAddr k :: r => (match decide (100 ≤ k) && decide (k < 107) with
    | true => some (pc + 1, L, .int (Int32.ofNat (E k).1) :: r, hs)
    | false => none)
  | _ => none
def gGet (T : gT) (ix pc : Nat) (L : List (Option Value)) (st : List Value) (hs : gHS) : Option gFr := match T.1.lookup ix with
  | some (ci, j, kd) => (match st with
    | .ref k :: r => (match hs.1[k]? with
      | some (.inr (c, fs)) => (match decide (c = ci), fs[j]? with
        | true, some q => some (pc + 3, L, gFd hs.2.1 k j q :: r, hs)
        | _, _ => none)
      | _ => none)
    | .retAddr k :: r => (match decide (k < 7), kd with
      | true, 10 => some (pc + 3, L, .retAddr (100 + k) :: r, hs)
      | true, 11 => some (pc + 3, L, .int 0 :: r, hs)
      | _, _ => none)
    | _ => none)
  | _ => none
def gGts (T : gT) (ix pc : Nat) (L : List (Option Value)) (st : List Value) (hs : gHS) : Option gFr := match T.1.lookup ix with
  | some (_, _, 12) => some (pc + 3, L, .int 1 :: st, hs)
  | some (_, _, 13) => some (pc + 3, L, .float 0 :: st, hs)
  | _ => none
/-- fields of the kind 0 hold ints, of the kind 1 booleans -/
def gPutf (T : gT) (ix pc : Nat) (L : List (Option Value)) (st : List Value) (hs : gHS) : Option gFr := match T.1.lookup ix with
  | some (ci, j, kd) => (match st with
    | .int x :: .ref k :: r => (match hs.1[k]? with
      | some (.inr (c, fs)) => (match decide (c = ci), fs[j]?, kd with
        | true, some none, 0 => some (pc + 3, L, r, (hs.1, gPut hs.2.1 k j x, hs.2.2))
        | true, some none, 1 => if x = 0 ∨ x = 1 then some (pc + 3, L, r, (hs.1, gPut hs.2.1 k j x, hs.2.2)) else none
        | true, some none, 2 => some (pc + 3, L, r, (hs.1, gPut hs.2.1 k j x, hs.2.2))
        | _, _, _ => none)
      | _ => none)
    | _ => none)
  | _ => none
def gCopy (pc : Nat) (L : List (Option Value)) (st : List Value) (hs : gHS) : Option gFr := match st with
  | .int n :: .int dp :: .ref d :: .int sp :: .ref a :: r => (match hs.1[a]?, hs.1[d]?, decide (gCat r ≤ 8) with
    | some (.inl (.int, none)), some (.inl (.int, none)), true =>
      if ¬ sp < 0 ∧ ¬ dp < 0 ∧ ¬ n < 0 ∧ sp.toNatClampNeg + n.toNatClampNeg ≤ hs.2.1.2.1 a ∧ dp.toNatClampNeg + n.toNatClampNeg ≤ hs.2.1.2.1 d then
        some (pc + 3, L, r, (hs.1, gRow hs.2.1 d (va_cpy (hs.2.1.1 a) (hs.2.1.1 d) sp.toNatClampNeg dp.toNatClampNeg n.toNatClampNeg), hs.2.2)) else none
    | some (.inl (.byte, none)), some (.inl (.byte, none)), true =>
      if (¬ sp < 0 ∧ ¬ dp < 0 ∧ ¬ n < 0 ∧ sp.toNatClampNeg + n.toNatClampNeg ≤ hs.2.1.2.1 a ∧ dp.toNatClampNeg + n.toNatClampNeg ≤ hs.2.1.2.1 d) ∧ ∀ i, i < n.toNatClampNeg → fits .byte (.int (hs.2.1.1 a (sp.toNatClampNeg + i))) = true then
        some (pc + 3, L, r, (hs.1, gRow hs.2.1 d (va_cpy (hs.2.1.1 a) (hs.2.1.1 d) sp.toNatClampNeg dp.toNatClampNeg n.toNatClampNeg), hs.2.2)) else none
    | _, _, _ => none)
  | _ => none
/-- a switch: the numbers from lo on, each with its place -/
def gSw (x : Int32) (lo : Int) (offs : List Int) (k : Int → Option gFr) (dflt : Int) : Option gFr := match offs with
  | [] => k dflt
  | o :: os => if x = Int32.ofInt lo then k o else gSw x (lo + 1) os k dflt
def gStep (E : gEv) (T : gT) (i : Instr) (f : gFr) : Option gFr := match f with
  | (pc, L, st, hs) => match i with
    | .aconst_null => some (pc + 1, L, .null :: st, hs)
    | .iconst n => some (pc + 1, L, .int (Int32.ofInt n) :: st, hs)
    | .bipush n => some (pc + 2, L, .int (Int8.ofInt n).toInt32 :: st, hs)
    | .sipush n => some (pc + 3, L, .int (Int16.ofInt n).toInt32 :: st, hs)
    | .lconst n => some (pc + 1, L, .long (Int64.ofNat (n : Nat)) :: st, hs)
    | .ldc k => (match T.2.2.1.lookup k with
      | some (.int v) => some (pc + 2, L, .int v :: st, hs)
      | some (.retAddr v) => some (pc + 2, L, .retAddr v :: st, hs)
      | _ => none)
    | .ldc_w k => (match T.2.2.1.lookup k with
      | some (.int v) => some (pc + 3, L, .int v :: st, hs)
      | some (.retAddr v) => some (pc + 3, L, .retAddr v :: st, hs)
      | _ => none)
    | .ldc2_w k => (match T.2.2.1.lookup k with
      | some (.long v) => some (pc + 3, L, .long v :: st, hs)
      | _ => none)
    | .iload n => gPI (gLd L n) 2 pc L st hs
    | .iload_n n => gPI (gLd L n) 1 pc L st hs
    | .lload n => gPL (gLd L n) 2 pc L st hs
    | .lload_n n => gPL (gLd L n) 1 pc L st hs
    | .aload n => gPR (gLd L n) 2 pc L st hs
    | .aload_n n => gPR (gLd L n) 1 pc L st hs
    | .istore n => gSI n 2 pc L st hs
    | .istore_n n => gSI n 1 pc L st hs
    | .lstore n => gSL n 2 pc L st hs
    | .lstore_n n => gSL n 1 pc L st hs
    | .astore n => gSR n 2 pc L st hs
    | .astore_n n => gSR n 1 pc L st hs
    | .iinc n k => (match gLd L n with
      | some (.int x) => (gSt L n (.int (x + Int32.ofInt k))).map (fun L' => (pc + 3, L', st, hs))
      | _ => none)
    | .iadd => gI2 (fun x y => x + y) pc L st hs
    | .isub => gI2 (fun x y => x - y) pc L st hs
    | .imul => gI2 (fun x y => x * y) pc L st hs
    | .iand => gI2 (fun x y => x &&& y) pc L st hs
    | .ior => gI2 (fun x y => x ||| y) pc L st hs
    | .ixor => gI2 (fun x y => x ^^^ y) pc L st hs
    | .ishl => gI2 (fun x y => x <<< (y &&& 31)) pc L st hs
    | .ishr => gI2 (fun x y => x >>> (y &&& 31)) pc L st hs
    | .iushr => gI2 (fun x y => (x.toUInt32 >>> (y.toUInt32 &&& Int32.toUInt32 31)).toInt32) pc L st hs
    | .ineg => gI1 (fun x => -x) pc L st hs
    | .i2b => gI1 (fun x => x.toInt8.toInt32) pc L st hs
    | .i2c => gI1 (fun x => (x.toUInt32 % 65536).toInt32) pc L st hs
    | .idiv => (match st with
      | .int y :: .int x :: r => if ¬ y = 0 then some (pc + 1, L, .int (x / y) :: r, hs) else none
      | _ => none)
    | .irem => (match st with
      | .int y :: .int x :: r => if ¬ y = 0 then some (pc + 1, L, .int (x - x / y * y) :: r, hs) else none
      | _ => none)
    | .ladd => gL2 (fun x y => x + y) pc L st hs
    | .lsub => gL2 (fun x y => x - y) pc L st hs
    | .lmul => gL2 (fun x y => x * y) pc L st hs
    | .land => gL2 (fun x y => x &&& y) pc L st hs
    | .lor => gL2 (fun x y => x ||| y) pc L st hs
    | .lxor => gL2 (fun x y => x ^^^ y) pc L st hs
    | .lshl => (match st with
      | .int y :: .long x :: r => some (pc + 1, L, .long (x <<< (y.toInt64 &&& 63)) :: r, hs)
      | _ => none)
    | .lshr => (match st with
      | .int y :: .long x :: r => some (pc + 1, L, .long (x >>> (y.toInt64 &&& 63)) :: r, hs)
      | _ => none)
    | .lushr => (match st with
      | .int y :: .long x :: r => some (pc + 1, L, .long (x.toUInt64 >>> (y.toInt64.toUInt64 &&& Int64.toUInt64 63)).toInt64 :: r, hs)
      | _ => none)
    | .lcmp => (match st with
      | .long y :: .long x :: r => some (pc + 1, L, .int (lg_cmp x y) :: r, hs)
      | _ => none)
    | .i2l => (match st with
      | .int x :: r => some (pc + 1, L, .long x.toInt64 :: r, hs)
      | _ => none)
    | .l2i => (match st with
      | .long x :: r => some (pc + 1, L, .int x.toInt32 :: r, hs)
      | _ => none)
    | .dup => (match st with
      | v :: r => (match decide (v.category = 1) with
        | true => some (pc + 1, L, v :: v :: r, hs)
        | false => none)
      | _ => none)
    | .pop => (match st with
      | v :: r => (match decide (v.category = 1) with
        | true => some (pc + 1, L, r, hs)
        | false => none)
      | _ => none)
    | .dup_x1 => (match st with
      | v :: w :: r => (match decide (v.category = 1) && decide (w.category = 1) with
        | true => some (pc + 1, L, v :: w :: v :: r, hs)
        | false => none)
      | _ => none)
    | .dup_x2 => (match st with
      | v :: w :: x :: r => (match decide (v.category = 1) && decide (w.category = 1) && decide (x.category = 1) with
        | true => some (pc + 1, L, v :: w :: x :: v :: r, hs)
        | false => none)
      | _ => none)
    | .dup2 => (match st with
      | v :: w :: r => (match decide (v.category = 1) && decide (w.category = 1) with
        | true => some (pc + 1, L, v :: w :: v :: w :: r, hs)
        | false => none)
      | _ => none)
    | .goto off => some (gTg pc off, L, st, hs)
    | .if_icmp cd off => gC2 cd off pc L st hs
    | .ifCond cd off => gC1 cd off pc L st hs
    | .getfield ix => gGet T ix pc L st hs
    | .putfield ix => gPutf T ix pc L st hs
    | .getstatic ix => gGts T ix pc L st hs
    | .iaload => gAldI E pc L st hs
    | .baload => gAldB E pc L st hs
    | .iastore => gAstI pc L st hs
    | .bastore => gAstB pc L st hs
    | .laload => gAldL pc L st hs
    | .lastore => gAstL pc L st hs
    | .aaload => gAldR pc L st hs
    | .arraylength => gAln E pc L st hs
    | .tableswitch dflt lo _ offs => (match st with
      | .int x :: r => gSw x lo offs.toList (fun t => some (gTg pc t, L, r, hs)) dflt
      | _ => none)
    | .invokestatic ix => (match T.2.1.lookup ix with
      | some (9003, _, _) => gCopy pc L st hs
      | _ => none)
    | .invokespecial ix => (match T.2.1.lookup ix with
      | some (9000, _, _) => (match st with
        | .ref _ :: r => (match decide (gCat r ≤ 8) with
          | true => some (pc + 3, L, r, hs)
          | false => none)
        | _ => none)
      | _ => none)
    | _ => none
/-- the end of a method that gives rt -/
def gRet (rt : Option FieldType) (i : Instr) (f : gFr) : Option (Option Value × gHS) := match i with
  | .return_ => (match f.2.2.1, rt with
    | [], none => some (none, f.2.2.2)
    | _, _ => none)
  | .ireturn => (match f.2.2.1, rt with
    | [.int v], some .int => some (some (.int v), f.2.2.2)
    | [.int v], some .boolean => if v = 0 ∨ v = 1 then some (some (.int v), f.2.2.2) else none
    | [.int v], some .byte => if narrow .byte (.int v) = .int v then some (some (.int v), f.2.2.2) else none
    | [.int v], some .char => if narrow .char (.int v) = .int v then some (some (.int v), f.2.2.2) else none
    | _, _ => none)
  | _ => none
def gNew (hs : gHS) (d : gD) (n : Nat) : gHS := (hs.1 ++ [d], gLen (gRowL (gRow hs.2.1 hs.1.length (fun _ => 0)) hs.1.length (fun _ => 0)) hs.1.length n, hs.2.2 + n)
def gRows (hs : gHS) (d : gD) (n : Nat) : Nat → gHS
  | 0 => hs
  | k + 1 => gNew (gRows hs d n k) d n
def gNwa (ty : FieldType) (pc : Nat) (L : List (Option Value)) (st : List Value) (hs : gHS) : Option gFr := match st with
  | .int n :: r => if ¬ n < 0 ∧ n.toNatClampNeg ≤ 67108864 then some (pc + 2, L, .ref hs.1.length :: r, gNew hs (.inl (ty, none)) n.toNatClampNeg) else none
  | _ => none
def gMn (ty : FieldType) (pc : Nat) (L : List (Option Value)) (st : List Value) (hs : gHS) : Option gFr := match st with
  | .int n :: .int n1 :: r => if ¬ n < 0 ∧ ¬ n1 < 0 ∧ ¬ n1 = 0 ∧ n.toNatClampNeg ≤ 65536 ∧ n1.toNatClampNeg ≤ 65536 then some (pc + 4, L, .ref hs.1.length :: r, gRows (gNew hs (.inl (.array ty, some ((List.range n1.toNatClampNeg).map fun i => some (hs.1.length + 1 + i)))) n1.toNatClampNeg) (.inl (ty, none)) n.toNatClampNeg n1.toNatClampNeg) else none
  | _ => none
/-- what makes cells, or lays one cell into another -/
def gAlc (df : List (List (Option (Option Nat)))) (T : gT) (i : Instr) (f : gFr) : Option gFr := match f with
  | (pc, L, st, hs) => match i with
    | .newarray .int => gNwa .int pc L st hs
    | .newarray .byte => gNwa .byte pc L st hs
    | .newarray .boolean => gNwa .boolean pc L st hs
    | .newarray .long => gNwa .long pc L st hs
    | .multianewarray ix dm => (match dm, T.2.2.2.lookup ix with
      | 2, some 9100 => gMn .byte pc L st hs
      | 2, some 9101 => gMn .int pc L st hs
      | _, _ => none)
    | .new ix => (match T.2.2.2.lookup ix with
      | some ci => (match df[ci]? with
        | some fs => some (pc + 3, L, .ref hs.1.length :: st, gNew hs (.inr (ci, fs)) fs.length)
        | none => none)
      | none => none)
    | .putfield ix => (match st, T.1.lookup ix with
      | .ref p :: .ref k :: r, some (ci, j, 4) => (match hs.1[k]? with
        | some (.inr (c, fs)) => (match decide (c = ci), fs[j]? with
          | true, some (some _) => some (pc + 3, L, r, (hs.1.set k (.inr (c, fs.set j (some (some p)))), hs.2))
          | _, _ => none)
        | _ => none)
      | _, _ => none)
    | _ => none
def gCl1 (E : gEv) (T : gT) (ins : List (Nat × Instr)) (G : gFr → Prop) : Prop :=
  ∀ (f f' : gFr) (i : Instr), ins.lookup f.1 = some i → gStep E T i f = some f' → G f' → G f
def gCl2 (ins : List (Nat × Instr)) (rt : Option FieldType) (r : Option Value × gHS) (G : gFr → Prop) : Prop :=
  ∀ (f : gFr) (i : Instr), ins.lookup f.1 = some i → gRet rt i f = some r → G f
def gCl3 (df : List (List (Option (Option Nat)))) (T : gT) (ins : List (Nat × Instr)) (r : Option Value × gHS) (G : gFr → Prop) : Prop :=
  ∀ (f f' : gFr) (i : Instr), ins.lookup f.1 = some i → gAlc df T i f = some f' → f'.2.2.2.1.length ≤ r.2.1.length → f'.2.2.2.2.2 ≤ r.2.2.2 → G f' → G f
def gIdx (i : Instr) : Option (Nat × Nat) := match i with
  | .invokestatic ix => some (ix, 0)
  | .invokevirtual ix => some (ix, 1)
  | .invokespecial ix => some (ix, 2)
  | _ => none
/-- the receiver of a call: of the kind 0 none; 1 + c a cell of the kind c; 1000 + c the same, of a constructor (3000 + c: of a nest mate's); 2000 a constant text -/
def gRcv (kc kd : Nat) (as : List Value) (hs : gHS) : Bool := match kc, as with
  | 0, _ => decide (kd = 0)
  | 1, .retAddr k :: _ => decide (kd = 2000) && decide (k < 7)
  | 1, .ref k :: _ => (match hs.1[k]? with
    | some (.inr (ci, _)) => decide (kd = 1 + ci) && decide (ci < 900)
    | _ => false)
  | 2, .ref k :: _ => (match hs.1[k]? with
    | some (.inr (ci, _)) => (decide (kd = 1000 + ci) || decide (kd = 3000 + ci)) && decide (ci < 900)
    | _ => false)
  | _, _ => false
def gCl4 (T : gT) (ins : List (Nat × Instr)) (C : Nat → List Value → gHS → Option Value × gHS → Prop) (r : Option Value × gHS) (G : gFr → Prop) : Prop :=
  ∀ (pc : Nat) (L : List (Option Value)) (st as rest : List Value) (hs hs' : gHS) (v : Option Value) (i : Instr) (ix kc y n kd : Nat), ins.lookup pc = some i → gIdx i = some (ix, kc) → T.2.1.lookup ix = some (y, n, kd) → st = as.reverse ++ rest → as.length = n → (as.all (fun v => v.category == 1) && decide (gCat rest ≤ 8) && gRcv kc kd as hs) = true →
    C y as hs (v, hs') → hs.1.length ≤ hs'.1.length → hs.2.2 ≤ hs'.2.2 → hs'.1.length ≤ r.2.1.length → hs'.2.2 ≤ r.2.2.2 → G (pc + 3, L, v.toList ++ rest, hs') → G (pc, L, st, hs)
/-- fewer locals are known -/
def gSub : List (Option Value) → List (Option Value) → Prop
  | [], [] => True
  | _ :: l, none :: l' => gSub l l'
  | some v :: l, some w :: l' => v = w ∧ gSub l l'
  | _, _ => False
def gCl5 (G : gFr → Prop) : Prop := ∀ (pc : Nat) (L L' : List (Option Value)) (st : List Value) (hs : gHS), gSub L L' → G (pc, L', st, hs) → G (pc, L, st, hs)
/-- more room is counted as used -/
def gCl6 (r : Option Value × gHS) (G : gFr → Prop) : Prop := ∀ (pc : Nat) (L : List (Option Value)) (st : List Value) (sh : List gD) (σ : gS) (u u' : Nat), u ≤ u' → u' ≤ r.2.2.2 → G (pc, L, st, (sh, σ, u')) → G (pc, L, st, (sh, σ, u))
/-- the greater and the lesser of two ints: one step here -/
def gCl7 (T : gT) (ins : List (Nat × Instr)) (r : Option Value × gHS) (G : gFr → Prop) : Prop :=
  (∀ (pc : Nat) (L : List (Option Value)) (rest : List Value) (hs : gHS) (x y : Int32) (ix n kd : Nat), ins.lookup pc = some (.invokestatic ix) → T.2.1.lookup ix = some (9001, n, kd) → decide (gCat rest ≤ 8) = true → hs.1.length ≤ r.2.1.length → hs.2.2 ≤ r.2.2.2 → G (pc + 3, L, .int (if x < y then y else x) :: rest, hs) → G (pc, L, .int y :: .int x :: rest, hs)) ∧
  ∀ (pc : Nat) (L : List (Option Value)) (rest : List Value) (hs : gHS) (x y : Int32) (ix n kd : Nat), ins.lookup pc = some (.invokestatic ix) → T.2.1.lookup ix = some (9002, n, kd) → decide (gCat rest ≤ 8) = true → hs.1.length ≤ r.2.1.length → hs.2.2 ≤ r.2.2.2 → G (pc + 3, L, .int (if y < x then y else x) :: rest, hs) → G (pc, L, .int y :: .int x :: rest, hs)
def gClo (E : gEv) (df : List (List (Option (Option Nat)))) (T : gT) (ins : List (Nat × Instr)) (rt : Option FieldType) (C : Nat → List Value → gHS → Option Value × gHS → Prop) (r : Option Value × gHS) (G : gFr → Prop) : Prop :=
  gCl1 E T ins G ∧ gCl2 ins rt r G ∧ gCl3 df T ins r G ∧ gCl4 T ins C r G ∧ gCl5 G ∧ gCl6 r G ∧ gCl7 T ins r G
abbrev gMd : Type := MethodName × ByteArray × Nat × Option FieldType × List (Nat × Instr) × gT
def gEn (n : Nat) (as : List Value) : List (Option Value) := as.map some ++ List.replicate (n - as.length) none
/-- method y, called with as in the heap hs, comes to its end r, with at most d frames: y's frames are the least set .. -/
def gC (E : gEv) (df : List (List (Option (Option Nat)))) (ms : List gMd) : Nat → Nat → List Value → gHS → Option Value × gHS → Prop
  | 0, _, _, _, _ => False
  | d + 1, y, as, hs, r => ∃ md, ms[y]? = some md ∧ as.length ≤ md.2.2.1 ∧ ∀ G : gFr → Prop, gClo E df md.2.2.2.2.2 md.2.2.2.2.1 md.2.2.2.1 (gC E df ms d) r G → G (0, gEn md.2.2.1 as, [], hs)
