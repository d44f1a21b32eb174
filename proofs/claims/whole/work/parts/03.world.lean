/-! The machine's heap as the kit's world: cell k lies at the address b + k. -/
def gK0 (K : Nat → Nat) : Value := match K 2000 with
  | 0 => .null
  | a + 1 => .ref a
def gc (b : Nat) (K : Nat → Nat) (v : Value) : Value := match v with
  | .ref k => .ref (b + k)
  | .retAddr i => .ref (K i)
  | .float _ => gK0 K
  | v => v
theorem gK0_cat (K : Nat → Nat) : (gK0 K).category = 1 := by
  unfold gK0
  split <;> rfl
theorem gc_cat (b : Nat) (K : Nat → Nat) (v : Value) : (gc b K v).category = v.category := by
  cases v <;> first | rfl | exact gK0_cat K
def gFs (b : Nat) (σ : gS) (k : Nat) (fs : List (Option (Option Nat))) : List Value := fs.mapIdx (fun j q => gc b (fun _ => 0) (gFd σ k j q))
def gA (b : Nat) (σ : gS) (k : Nat) (d : FieldType × Option (List (Option Nat))) : vp_A := match d.2 with
  | some ps => (ps.length, .inr (.inr (.inr (.inr (fun i => (ps.getD i none).map (fun q => b + q))))))
  | none => (match d.1 with
    | .long => (σ.2.1 k, .inr (.inl (σ.2.2 k)))
    | _ => (σ.2.1 k, .inl (σ.1 k)))
def gE (cA : FieldType → ClassId) (b : Nat) (σ : gS) (k : Nat) (d : gD) : va_E := match d with
  | .inl a => .inl (cA a.1, gA b σ k a)
  | .inr o => .inr (o.1, gFs b σ k o.2)
def gW (cA : FieldType → ClassId) (b : Nat) (σ : gS) (sh : List gD) : va_W := sh.mapIdx (fun k d => (b + k, gE cA b σ k d))
theorem gW_at (cA : FieldType → ClassId) (b : Nat) (σ : gS) (sh : List gD) (k : Nat) : (gW cA b σ sh)[k]? = (sh[k]?).map (fun d => (b + k, gE cA b σ k d)) := by
  simp [gW]
theorem gW_get {cA : FieldType → ClassId} {b : Nat} {σ : gS} {sh : List gD} {k : Nat} {d : gD} (h : sh[k]? = some d) : (gW cA b σ sh)[k]? = some (b + k, gE cA b σ k d) := by
  rw [gW_at, h]; rfl
theorem gFs_at (b : Nat) (σ : gS) (k : Nat) (fs : List (Option (Option Nat))) (j : Nat) : (gFs b σ k fs)[j]? = (fs[j]?).map (fun q => gc b (fun _ => 0) (gFd σ k j q)) := by
  simp [gFs]
theorem gFs_len (b : Nat) (σ : gS) (k : Nat) (fs : List (Option (Option Nat))) : (gFs b σ k fs).length = fs.length := by simp [gFs]
theorem gW_len (cA : FieldType → ClassId) (b : Nat) (σ : gS) (sh : List gD) : (gW cA b σ sh).length = sh.length := by simp [gW]
theorem gW_D {cA : FieldType → ClassId} {b : Nat} {σ : gS} {sh : List gD} : va_D (fun q => b ≤ q) (gW cA b σ sh) := by
  refine ⟨fun i j p q hi hj h => ?_, fun k q hk => ?_⟩
  · rw [gW_at] at hi hj
    obtain ⟨d, -, rfl⟩ := Option.map_eq_some_iff.mp hi
    obtain ⟨d', -, rfl⟩ := Option.map_eq_some_iff.mp hj
    have h : b + i = b + j := h
    omega
  · rw [gW_at] at hk
    obtain ⟨d, -, rfl⟩ := Option.map_eq_some_iff.mp hk
    exact Nat.le_add_right b k
/-- one cell is another one now, all others are as they were -/
theorem gW_set {cA : FieldType → ClassId} {b : Nat} {σ σ' : gS} {sh sh' : List gD} {k : Nat} {e : va_E} (hl : sh'.length = sh.length) (hk : k < sh.length) (h0 : ∀ n, n ≠ k → sh'[n]? = sh[n]?) (h1 : ∀ n, n ≠ k → ∀ d, gE cA b σ' n d = gE cA b σ n d) (h2 : ∀ d, sh'[k]? = some d → gE cA b σ' k d = e) : gW cA b σ' sh' = (gW cA b σ sh).set k (b + k, e) := by
  apply List.ext_getElem?
  intro n
  rw [List.getElem?_set, gW_at, gW_at, gW_len]
  by_cases hn : k = n
  · subst hn
    have hk' : k < sh'.length := by omega
    rw [if_pos rfl, if_pos hk, List.getElem?_eq_getElem hk']
    simp only [Option.map_some]
    rw [h2 _ (List.getElem?_eq_getElem hk')]
  · rw [if_neg hn, h0 n (Ne.symm hn)]
    cases sh[n]? with
    | none => rfl
    | some d => simp only [Option.map_some]; rw [h1 n (Ne.symm hn) d]
theorem gFs_congr {b : Nat} {σ σ' : gS} {n : Nat} (h : σ'.1 n = σ.1 n) (fs : List (Option (Option Nat))) : gFs b σ' n fs = gFs b σ n fs := by
  apply List.ext_getElem?
  intro j
  rw [gFs_at, gFs_at]
  cases fs[j]? with
  | none => rfl
  | some q => rcases q with _ | _ | _ <;> simp [gFd, h]
theorem gE_congr {cA : FieldType → ClassId} {b : Nat} {σ σ' : gS} {n : Nat} (h : σ'.1 n = σ.1 n) (h2 : σ'.2.1 n = σ.2.1 n) (h3 : σ'.2.2 n = σ.2.2 n) (d : gD) : gE cA b σ' n d = gE cA b σ n d := by
  rcases d with ⟨ty, _ | ps⟩ | ⟨ci, fs⟩
  · cases ty <;> simp [gE, gA, h, h2, h3]
  · rfl
  · show Sum.inr (ci, gFs b σ' n fs) = Sum.inr (ci, gFs b σ n fs)
    rw [gFs_congr h]
theorem gRow_ne {σ : gS} {k n : Nat} {f : Nat → Int32} (h : n ≠ k) : (gRow σ k f).1 n = σ.1 n := by simp [gRow, h]
theorem gRow_eq {σ : gS} {k : Nat} {f : Nat → Int32} : (gRow σ k f).1 k = f := by simp [gRow]
theorem gRowL_ne {σ : gS} {k n : Nat} {f : Nat → Int64} (h : n ≠ k) : (gRowL σ k f).2.2 n = σ.2.2 n := by simp [gRowL, h]
theorem gRowL_eq {σ : gS} {k : Nat} {f : Nat → Int64} : (gRowL σ k f).2.2 k = f := by simp [gRowL]
theorem gW_row {cA : FieldType → ClassId} {b : Nat} {σ : gS} {sh : List gD} {k : Nat} {ty : FieldType} {f : Nat → Int32} (hk : sh[k]? = some (.inl (ty, none))) (ht : ty ≠ .long) : gW cA b (gRow σ k f) sh = (gW cA b σ sh).set k (b + k, .inl (cA ty, σ.2.1 k, .inl f)) := by
  refine gW_set rfl (List.getElem?_eq_some_iff.mp hk).1 (fun _ _ => rfl) (fun n hn d => gE_congr (gRow_ne hn) rfl rfl d) (fun d hd => ?_)
  rw [hk] at hd
  cases hd
  cases ty <;> first | (exact absurd rfl ht) | simp [gE, gA, gRow]
theorem gW_rowL {cA : FieldType → ClassId} {b : Nat} {σ : gS} {sh : List gD} {k : Nat} {f : Nat → Int64} (hk : sh[k]? = some (.inl (.long, none))) : gW cA b (gRowL σ k f) sh = (gW cA b σ sh).set k (b + k, .inl (cA .long, σ.2.1 k, .inr (.inl f))) := by
  refine gW_set rfl (List.getElem?_eq_some_iff.mp hk).1 (fun _ _ => rfl) (fun n hn d => gE_congr (σ' := gRowL σ k f) (σ := σ) rfl rfl (gRowL_ne hn) d) (fun d hd => ?_)
  rw [hk] at hd
  cases hd
  simp [gE, gA, gRowL]
theorem gW_put {cA : FieldType → ClassId} {b : Nat} {σ : gS} {sh : List gD} {k ci j : Nat} {fs : List (Option (Option Nat))} {v : Int32} (hk : sh[k]? = some (.inr (ci, fs))) (hj : fs[j]? = some none) : gW cA b (gPut σ k j v) sh = (gW cA b σ sh).set k (b + k, .inr (ci, (gFs b σ k fs).set j (.int v))) := by
  refine gW_set rfl (List.getElem?_eq_some_iff.mp hk).1 (fun _ _ => rfl) (fun n hn d => gE_congr (gRow_ne hn) rfl rfl d) (fun d hd => ?_)
  rw [hk] at hd
  cases hd
  show Sum.inr (ci, gFs b (gPut σ k j v) k fs) = _
  congr 2
  apply List.ext_getElem?
  intro n
  rw [List.getElem?_set, gFs_at, gFs_at, gFs_len]
  by_cases hn : j = n
  · subst hn
    rw [if_pos rfl, if_pos (List.getElem?_eq_some_iff.mp hj).1, hj]
    simp [gFd, gPut, gRow, upd, gc]
  · rw [if_neg hn]
    cases fs[n]? with
    | none => rfl
    | some q => rcases q with _ | _ | _ <;> simp [gFd, gPut, gRow, upd, Ne.symm hn]
theorem gW_ptr {cA : FieldType → ClassId} {b : Nat} {σ : gS} {sh : List gD} {k ci j p : Nat} {fs : List (Option (Option Nat))} (hk : sh[k]? = some (.inr (ci, fs))) (hj : j < fs.length) : gW cA b σ (sh.set k (.inr (ci, fs.set j (some (some p))))) = (gW cA b σ sh).set k (b + k, .inr (ci, (gFs b σ k fs).set j (.ref (b + p)))) := by
  have hl := (List.getElem?_eq_some_iff.mp hk).1
  refine gW_set (by simp) hl (fun n hn => by rw [List.getElem?_set_ne (Ne.symm hn)]) (fun n hn d => rfl) (fun d hd => ?_)
  rw [List.getElem?_set_self hl] at hd
  cases hd
  show Sum.inr (ci, gFs b σ k (fs.set j (some (some p)))) = _
  congr 2
  apply List.ext_getElem?
  intro n
  rw [List.getElem?_set, gFs_at, gFs_at, gFs_len, List.getElem?_set]
  by_cases hn : j = n
  · subst hn
    rw [if_pos rfl, if_pos rfl, if_pos hj, if_pos hj]
    rfl
  · rw [if_neg hn, if_neg hn]
theorem gW_new {cA : FieldType → ClassId} {b : Nat} {hs : gHS} {d : gD} {n : Nat} : gW cA b (gNew hs d n).2.1 (gNew hs d n).1 = gW cA b hs.2.1 hs.1 ++ [(b + hs.1.length, gE cA b (gNew hs d n).2.1 hs.1.length d)] := by
  apply List.ext_getElem?
  intro k
  show (gW cA b (gNew hs d n).2.1 (hs.1 ++ [d]))[k]? = _
  rw [gW_at]
  by_cases hk : k < hs.1.length
  · rw [List.getElem?_append_left hk, List.getElem?_append_left (by rw [gW_len]; exact hk), gW_at]
    have hne : k ≠ hs.1.length := by omega
    cases hs.1[k]? with
    | none => rfl
    | some q =>
      simp only [Option.map_some]
      rw [gE_congr (σ := hs.2.1) (by simp [gNew, gLen, gRowL, gRow, hne]) (by simp [gNew, gLen, gRowL, gRow, hne]) (by simp [gNew, gLen, gRowL, gRow, hne])]
  · rw [List.getElem?_append_right (by omega), List.getElem?_append_right (by rw [gW_len]; omega), gW_len]
    by_cases h0 : k = hs.1.length
    · subst h0; simp
    · rw [List.getElem?_eq_none (by simp; omega), List.getElem?_eq_none (by simp; omega)]; rfl
