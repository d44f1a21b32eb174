/-! All steps of the machine; calls; and a method's evaluation gives its contract. -/
def gTok (pc : Nat) (i : Instr) : Bool := match i with
  | .goto off => decide (0 ≤ (pc : Int) + off)
  | .if_icmp _ off => decide (0 ≤ (pc : Int) + off)
  | .ifCond _ off => decide (0 ≤ (pc : Int) + off)
  | .tableswitch dflt lo hi offs => decide (0 ≤ (pc : Int) + dflt) && offs.toList.all (fun o => decide (0 ≤ (pc : Int) + o)) && decide (-1000000 ≤ lo) && decide (lo + offs.toList.length ≤ 1000000) && decide (hi = lo + offs.toList.length - 1)
  | _ => true
def gJmp (ins : List (Nat × Instr)) : Prop := ∀ pc i, ins.lookup pc = some i → gTok pc i = true
def gSfs (own : String) (T : gT) : Prop := ∀ ix ci j kd, T.1.lookup ix = some (ci, j, kd) → (kd = 10 → Cond.fieldLink own ix "java/lang/String" "value" "[B" ∈ gTs) ∧ (kd = 11 → Cond.fieldLink own ix "java/lang/String" "coder" "B" ∈ gTs) ∧ (kd = 12 → Cond.fieldLink own ix "java/lang/String" "COMPACT_STRINGS" "Z" ∈ gTs) ∧ (kd = 13 → Cond.fieldLink own ix "jdk/internal/util/Preconditions" "SIOOBE_FORMATTER" "Ljava/util/function/BiFunction;" ∈ gTs)
/-- a call's place in a file: its words -/
def gPmk (cl : List vw_C) (own : String) (ms : List gMd) (ix y n kd : Nat) : Prop := match y with
  | 9000 => Cond.methodLink own ix Lib.objectInit ∈ gTs
  | 9003 => Cond.methodLink own ix arraycopyName ∈ gTs
  | 9001 => Cond.methodLink own ix Lib.Math.max.name ∈ gTs
  | 9002 => Cond.methodLink own ix Lib.Math.min.name ∈ gTs
  | _ => ∃ md, ms[y]? = some md ∧ (if kd < 3000 then Cond.methodLink own ix md.1 ∈ gTs else ∃ host, (own, ix, md.1, host) ∈ gNl) ∧ (parseMethodDescriptor md.1.desc).map (fun d => d.parameters.length) = some (if kd = 0 then n else n - 1) ∧
    (if kd = 0 then Cond.static md.1 ∈ gTs else Cond.instanceMethod md.1 ∈ gTs ∧ (if kd < 1000 then Cond.selects md.1.cls md.1 md.1 ∈ gTs ∧ ∀ q : vw_C, cl[kd - 1]? = some q → q.1 = md.1.cls else if kd < 2000 ∨ 3000 ≤ kd then md.1.name = "<init>" ∧ md.2.2.2.1 = none else Cond.selects md.1.cls md.1 md.1 ∈ gTs ∧ md.1.cls = "java/lang/String"))
def gPms (cl : List vw_C) (own : String) (ms : List gMd) (T : gT) : Prop := ∀ ix y n kd, T.2.1.lookup ix = some (y, n, kd) → gPmk cl own ms ix y n kd
/-- what is known of a method -/
def gFx7 (pl : List (String × Nat × Nat)) (cl : List vw_C) (ms : List gMd) (md : gMd) (X : Prop) : Prop :=
  gDec md.2.1 md.2.2.2.2.1 ∧ gJmp md.2.2.2.2.1 ∧ gPfs cl md.1.cls md.1 md.2.2.2.2.2 ∧ gSfs md.1.cls md.2.2.2.2.2 ∧ gPks pl md.1.cls md.2.2.2.2.2 ∧ gPms cl md.1.cls ms md.2.2.2.2.2 ∧ gPcs cl md.1.cls md.2.2.2.2.2 ∧ X
def gFx (pl : List (String × Nat × Nat)) (cl : List vw_C) (ms : List gMd) (md : gMd) : Prop := gFx7 pl cl ms md (Cond.code md.1 md.2.1 md.2.2.1 md.2.2.2.1 ∈ gTs ∧ plainName md.1.cls = true ∧ md.2.2.1 ≤ 40 ∧ Cond.initialized md.1.cls ∈ gTs ∧ (md.1.cls ≠ "java/lang/invoke/MethodHandle" ∧ md.1.cls ≠ "java/lang/invoke/VarHandle"))
/-- what is known of all -/
def gAll (cl : List vw_C) (df : List (List (Option (Option Nat)))) : Prop :=
  gCls cl ∧ gDfs cl df ∧ cl.length < 900 ∧ (Cond.instanceMethod Lib.objectInit ∈ gTs ∧ Cond.code Lib.objectInit ⟨#[0xb1]⟩ 1 none ∈ gTs) ∧ (Cond.native arraycopyName ∈ gTs ∧ Cond.static arraycopyName ∈ gTs ∧ Cond.initialized "java/lang/System" ∈ gTs) ∧ (Cond.arrayClass .int ∈ gTs ∧ Cond.arrayClass .byte ∈ gTs ∧ Cond.arrayClass .boolean ∈ gTs ∧ Cond.arrayClass .long ∈ gTs) ∧ (Cond.static Lib.Math.max.name ∈ gTs ∧ Cond.initialized "java/lang/Math" ∈ gTs ∧ Cond.code Lib.Math.max.name Lib.Math.max.code 2 (some .int) ∈ gTs ∧ Cond.static Lib.Math.min.name ∈ gTs ∧ Cond.code Lib.Math.min.name Lib.Math.min.code 2 (some .int) ∈ gTs)
section GC
variable {p : Program} {l : Launch} {e : Env} {R : Room} {s : State} {m : MethodId} {args : Array Value} {below : List Frame} {meth : Method} {c : Code} {D : va_G} {cA : FieldType → ClassId} {b : Nat} {K : Nat → Nat} {E : gEv} {hs0 : gHS} {Q : State → Prop} {cl : List vw_C} {pl : List (String × Nat × Nat)} {r : Option Value × gHS} {df : List (List (Option (Option Nat)))} {ms : List gMd} {md : gMd}
theorem gw1 {X : Prop} (O : gOk p R s m args meth c cl D cA b K E md.2.1 md.1.cls md.1 pl) (hA : gAll cl df) (hF : gFx7 pl cl ms md X) (hEo : gEok E) : gCl1 E md.2.2.2.2.2 md.2.2.2.2.1 (Gw p l e R s m args below meth c cl D cA b K hs0 Q) := by
  obtain ⟨hdec, hjm, hpf, hsf, hpk, hpm, hpc, -⟩ := hF
  obtain ⟨hcl, hdf, hcn, hoi, hac, -⟩ := hA
  intro f f' i hi h hk
  have hj := hjm _ _ hi
  cases i
  case aconst_null => exact gw1_null O hdec hi h hk
  case iconst => exact gw1_iconst O hdec hi h hk
  case bipush => exact gw1_bipush O hdec hi h hk
  case sipush => exact gw1_sipush O hdec hi h hk
  case lconst => exact gw1_lconst O hdec hi h hk
  case iload => exact gw1_iload O hdec hi h hk
  case iload_n => exact gw1_iload_n O hdec hi h hk
  case lload => exact gw1_lload O hdec hi h hk
  case lload_n => exact gw1_lload_n O hdec hi h hk
  case aload => exact gw1_aload O hdec hi h hk
  case aload_n => exact gw1_aload_n O hdec hi h hk
  case istore => exact gw1_istore O hdec hi h hk
  case istore_n => exact gw1_istore_n O hdec hi h hk
  case lstore => exact gw1_lstore O hdec hi h hk
  case lstore_n => exact gw1_lstore_n O hdec hi h hk
  case astore => exact gw1_astore O hdec hi h hk
  case astore_n => exact gw1_astore_n O hdec hi h hk
  case iinc => exact gw1_iinc O hdec hi h hk
  case iadd => exact gw1_iadd O hdec hi h hk
  case isub => exact gw1_isub O hdec hi h hk
  case imul => exact gw1_imul O hdec hi h hk
  case iand => exact gw1_iand O hdec hi h hk
  case ior => exact gw1_ior O hdec hi h hk
  case ixor => exact gw1_ixor O hdec hi h hk
  case ishl => exact gw1_ishl O hdec hi h hk
  case ishr => exact gw1_ishr O hdec hi h hk
  case iushr => exact gw1_iushr O hdec hi h hk
  case ineg => exact gw1_ineg O hdec hi h hk
  case i2b => exact gw1_i2b O hdec hi h hk
  case i2c => exact gw1_i2c O hdec hi h hk
  case idiv => exact gw1_idiv O hdec hi h hk
  case irem => exact gw1_irem O hdec hi h hk
  case ladd => exact gw1_ladd O hdec hi h hk
  case lsub => exact gw1_lsub O hdec hi h hk
  case lmul => exact gw1_lmul O hdec hi h hk
  case land => exact gw1_land O hdec hi h hk
  case lor => exact gw1_lor O hdec hi h hk
  case lxor => exact gw1_lxor O hdec hi h hk
  case lshl => exact gw1_lshl O hdec hi h hk
  case lshr => exact gw1_lshr O hdec hi h hk
  case lushr => exact gw1_lushr O hdec hi h hk
  case i2l => exact gw1_i2l O hdec hi h hk
  case l2i => exact gw1_l2i O hdec hi h hk
  case lcmp => exact gw1_lcmp O hdec hi h hk
  case dup => exact gw1_dup O hdec hi h hk
  case pop => exact gw1_pop O hdec hi h hk
  case dup_x1 => exact gw1_dup_x1 O hdec hi h hk
  case dup2 => exact gw1_dup2 O hdec hi h hk
  case dup_x2 => exact gw1_dup_x2 O hdec hi h hk
  case iaload => exact gw1_iaload O hdec hi h hk
  case iastore => exact gw1_iastore O hdec hi h hk
  case bastore => exact gw1_bastore O hdec hi h hk
  case laload => exact gw1_laload O hdec hi h hk
  case lastore => exact gw1_lastore O hdec hi h hk
  case aaload => exact gw1_aaload O hdec hi h hk
  case ldc => exact gw1_ldc O hdec hpk hi h hk
  case ldc_w => exact gw1_ldc_w O hdec hpk hi h hk
  case ldc2_w => exact gw1_ldc2_w O hdec hpk hi h hk
  case baload => exact gw1_baload O hdec hEo hi h hk
  case arraylength => exact gw1_arraylength O hdec hEo hi h hk
  case getfield => exact gw1_getfield O hdec hcl hpf hsf hcn hi h hk
  case putfield => exact gw1_putfield O hdec hcl hpf hcn hi h hk
  case getstatic => exact gw1_getstatic O hdec hsf hi h hk
  case goto => exact gw1_goto O hdec (of_decide_eq_true hj) hi h hk
  case if_icmp => exact gw1_icmp O hdec (of_decide_eq_true hj) hi h hk
  case ifCond => exact gw1_if O hdec (of_decide_eq_true hj) hi h hk
  case tableswitch dflt lo hi9 offs =>
    simp only [gTok, Bool.and_eq_true, decide_eq_true_eq, List.all_eq_true] at hj
    exact gw1_tableswitch O hdec ⟨⟨hj.1.1.1.1, hj.1.1.1.2⟩, hj.1.1.2, hj.1.2, hj.2⟩ hi h hk
  case invokespecial => exact gw1_objinit O hdec (fun ix n kd h9 => hpm ix 9000 n kd h9) hoi hi h hk
  case invokestatic => exact gw1_arraycopy O hdec (fun ix n kd h9 => hpm ix 9003 n kd h9) hac hi h hk
  all_goals (obtain ⟨pc, L, st, hs⟩ := f; simp [gStep] at h)
theorem gw3 {X : Prop} (O : gOk p R s m args meth c cl D cA b K E md.2.1 md.1.cls md.1 pl) (hA : gAll cl df) (hF : gFx7 pl cl ms md X) (hsz : s.heap.size = b + hs0.1.length) (hRc : r.2.1.length - hs0.1.length ≤ R.cells) (hRs : r.2.2.2 - hs0.2.2 ≤ R.slots) : gCl3 df md.2.2.2.2.2 md.2.2.2.2.1 r (Gw p l e R s m args below meth c cl D cA b K hs0 Q) := by
  obtain ⟨hdec, hjm, hpf, hsf, hpk, hpm, hpc, -⟩ := hF
  obtain ⟨hcl, hdf, hcn, hoi, hac, ⟨hc1, hc2, hc3, hc4⟩, -⟩ := hA
  intro f f' i hi h hm1 hm2 hk
  cases i
  case newarray atype =>
    obtain ⟨pc, L, st, hs⟩ := f
    have hd := (hdec pc _ hi).1 rfl
    cases atype
    case int => exact gw3_newarray O hsz hRc hRs 0 rfl rfl (fun _ h => by cases h) hc1 (by decide) (fun n => ⟨(n, .inl (fun _ => 0)), fun _ => rfl, by show (((gNew hs (.inl (.int, none)) n).2.1.2.1 hs.1.length, .inl ((gNew hs (.inl (.int, none)) n).2.1.1 hs.1.length)) : vp_A) = _; rw [gNew_len, gNew_row]⟩) hd h hm1 hm2 hk
    case byte => exact gw3_newarray O hsz hRc hRs 1 rfl rfl (fun _ h => by cases h) hc2 (by decide) (fun n => ⟨(n, .inl (fun _ => 0)), fun _ => rfl, by show (((gNew hs (.inl (.byte, none)) n).2.1.2.1 hs.1.length, .inl ((gNew hs (.inl (.byte, none)) n).2.1.1 hs.1.length)) : vp_A) = _; rw [gNew_len, gNew_row]⟩) hd h hm1 hm2 hk
    case boolean => exact gw3_newarray O hsz hRc hRs 2 rfl rfl (fun _ h => by cases h) hc3 (by decide) (fun n => ⟨(n, .inl (fun _ => 0)), fun _ => rfl, by show (((gNew hs (.inl (.boolean, none)) n).2.1.2.1 hs.1.length, .inl ((gNew hs (.inl (.boolean, none)) n).2.1.1 hs.1.length)) : vp_A) = _; rw [gNew_len, gNew_row]⟩) hd h hm1 hm2 hk
    case long => exact gw3_newarray O hsz hRc hRs 3 rfl rfl (fun _ h => by cases h) hc4 (by decide) (fun n => ⟨(n, .inr (.inl (fun _ => 0))), fun _ => rfl, by show (((gNew hs (.inl (.long, none)) n).2.1.2.1 hs.1.length, .inr (.inl ((gNew hs (.inl (.long, none)) n).2.1.2.2 hs.1.length))) : vp_A) = _; rw [gNew_len, gNew_rowL]⟩) hd h hm1 hm2 hk
    all_goals (simp [gAlc] at h)
  case multianewarray ix dm =>
    obtain ⟨pc, L, st, hs⟩ := f
    have hd := (hdec pc _ hi).1 rfl
    simp only [gAlc] at h
    split at h
    · rename_i hl
      exact gw3_mna O hsz hRc hRs 1 5 rfl rfl (Or.inr rfl) ((hpc _ _ hl).2.1 rfl) hc2 hd h hm1 hm2 hk
    · rename_i hl
      exact gw3_mna O hsz hRc hRs 0 4 rfl rfl (Or.inl rfl) ((hpc _ _ hl).2.2 rfl) hc1 hd h hm1 hm2 hk
    · cases h
  case new => exact gw3_new O hdec hcl hdf hpc hsz hRc hRs hi h hm1 hm2 hk
  case putfield => exact gw3_putref O hdec hcl hpf hcn hi h hk
  all_goals (obtain ⟨pc, L, st, hs⟩ := f; simp [gAlc] at h)
theorem gKs_at {U : State} {H : Heap} {locs : List Loc} (hE : gKs pl E K b s) (hS : va_S (fun q => b ≤ q) s.heap H locs) (hU : U.heap = H) (hW : s.WarmedH U.vm) : gKs pl E K b U := by
  obtain ⟨g1, ⟨g2, g3, g4⟩, g5, g8, g6, g7, g9⟩ := hE
  refine ⟨?_, ⟨?_, g3, ?_⟩, ?_, ?_, fun q hq => ?_, fun q hq => va_Nw.warmM hW (g7 q hq), gAo.moved hW.alike g9⟩
  · rw [hU]; exact vk_S.moved hW.alike (g1.kept hS.2.1)
  · rw [hU]; exact va_X.moved hW.alike (g2.kept (hS.2.1 _ g4 (Nat.not_le.mpr g3)))
  · rw [hU]; exact Nat.lt_of_lt_of_le g4 hS.1
  · rw [hU]; exact va_Z.moved hW.alike (g5.kept hS.2.1)
  · rw [hU]; exact va_Z.moved hW.alike (g8.kept hS.2.1)
  · obtain ⟨tx, h⟩ := g6 q hq
    exact ⟨tx, vk_R.warm hW h⟩
theorem gU_blind {hs : gHS} {av : List Value} : FrameBlind (va_Pc av (gU pl E cl D cA b K hs)) := by
  intro a U g mk h
  obtain ⟨h0, h1, h2, h3, ⟨g1, ⟨g2, g3, g4⟩, g5, g8, g6, g7, g9⟩⟩ := h
  refine ⟨h0, h1, h2, va_K.moved (u := U) (U := U.calling g mk a) (Vm.Alike.refl U.vm) h3, vk_S.moved (u := U) (U := U.calling g mk a) (Vm.Alike.refl U.vm) g1, ⟨va_X.moved (u := U) (U := U.calling g mk a) (Vm.Alike.refl U.vm) g2, g3, g4⟩, va_Z.moved (u := U) (U := U.calling g mk a) (Vm.Alike.refl U.vm) g5, va_Z.moved (u := U) (U := U.calling g mk a) (Vm.Alike.refl U.vm) g8, fun q hq => ?_, fun q hq => va_Nw.same (u := U) (U := U.calling g mk a) rfl rfl (g7 q hq), gAo.moved (u := U) (U := U.calling g mk a) (Vm.Alike.refl U.vm) g9⟩
  obtain ⟨tx, h⟩ := g6 q hq
  exact ⟨tx, vk_R.same (u := U) (U := U.calling g mk a) rfl h⟩
theorem g_call {H : Heap} {locs : List Loc} {cells slots mc ms9 pc : Nat} {ls : Array Slot} {st0 rest : List Value} {v : Option Value} {hs9 : gHS} {a : Array Value} (hr : va_Run p l e R s m args below meth c H locs cells slots mc ms9 (F0 m pc ls st0) rest (gQ cl D cA b K (v, hs9) a) (fun q => b ≤ q)) (hS : va_S (fun q => b ≤ q) s.heap H locs)
    (kk : ∀ (H1 : Heap) (locs1 : List Loc), gHp cl D cA b hs9 H1 → va_S (fun q => b ≤ q) s.heap H1 locs1 → W p l e R s m args below meth c H1 locs1 (cells + mc) (slots + ms9) Q (F0 m (pc + 3) ls ((v.map (gc b K)).toList ++ rest))) : W p l e R s m args below meth c H locs cells slots Q (F0 m pc ls st0) := by
  intro T hT X
  obtain ⟨v9, st₀, t, T', L, h0, X', hL, e1, e2, ⟨hv, hp, hz, hk⟩, st⟩ := hr T hT X
  have hv : v9 = v.map (gc b K) := by injection hv
  subst hv
  rw [h0] at hz hk
  obtain ⟨t2, a1, b1⟩ := kk T'.heap (locs ++ L) (by rw [e1]; exact hp)
    ⟨Nat.le_trans hS.1 (by rw [e1]; exact hz), fun q h1 h2 => by rw [e1, hk q (Nat.lt_of_lt_of_le h1 hS.1) h2]; exact hS.2.1 q h1 h2, fun q hq => by
      rcases List.mem_append.mp hq with h | h
      · exact hS.2.2 q h
      · exact hL q h⟩ T' rfl X'
  exact ⟨t2, st t2 a1, b1⟩
end GC
