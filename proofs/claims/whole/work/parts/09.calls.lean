/-! Calls, and the contract that a method's evaluation gives. -/
def gMt (pl : List (String × Nat × Nat)) (E : gEv) (l : Launch) (cl : List vw_C) (D : va_G) (cA : FieldType → ClassId) (b : Nat) (K : Nat → Nat) (d : Nat) (md : gMd) (as : List Value) (hs : gHS) (r : Option Value × gHS) : Prop :=
  Met l md.1 (Cond.code md.1 md.2.1 md.2.2.1 md.2.2.2.1 :: gTs) ({ frames := d, cells := r.2.1.length - hs.1.length, slots := r.2.2.2 - hs.2.2, locals := 64 * d }) (va_Pc (as.map (gc b K)) (gU pl E cl D cA b K hs)) (gQ cl D cA b K r) (r.2.1.length - hs.1.length) (r.2.2.2 - hs.2.2) (fun q => b ≤ q)
section GC
variable {p : Program} {l : Launch} {e : Env} {R : Room} {s : State} {m : MethodId} {args : Array Value} {below : List Frame} {meth : Method} {c : Code} {D : va_G} {cA : FieldType → ClassId} {b : Nat} {K : Nat → Nat} {E : gEv} {hs0 : gHS} {Q : State → Prop} {cl : List vw_C} {pl : List (String × Nat × Nat)} {r : Option Value × gHS} {df : List (List (Option (Option Nat)))} {ms : List gMd} {md : gMd}
theorem gSub_len : ∀ (L L' : List (Option Value)), gSub L L' → L'.length = L.length
  | [], [], _ => rfl
  | _ :: l, none :: l', h => by
    have := gSub_len l l' h
    simp [this]
  | some v :: l, some w :: l', h => by
    have := gSub_len l l' h.2
    simp [this]
  | none :: l, some w :: l', h => by cases h
  | [], _ :: _, h => by cases h
  | _ :: _, [], h => by cases h
theorem gSub_at : ∀ (L L' : List (Option Value)), gSub L L' → ∀ (j : Nat) (w : Value), L'[j]? = some (some w) → L[j]? = some (some w)
  | [], [], _, j, w, h => by simp at h
  | _ :: l, none :: l', h, 0, w, hj => by simp at hj
  | _ :: l, none :: l', h, j + 1, w, hj => by simpa using gSub_at l l' h j w (by simpa using hj)
  | some v :: l, some z :: l', h, 0, w, hj => by
    have h1 : z = w := by simpa using hj
    simp [h.1, h1]
  | some v :: l, some z :: l', h, j + 1, w, hj => by simpa using gSub_at l l' h.2 j w (by simpa using hj)
  | none :: l, some z :: l', h, _, _, _ => by cases h
  | [], _ :: _, h, _, _, _ => by cases h
  | _ :: _, [], h, _, _, _ => by cases h
theorem gw5 : gCl5 (Gw p l e R s m args below meth c cl D cA b K hs0 Q) := by
  intro pc L L' st hs hw hk H locs ls h1 h2 hH hS hl hL
  refine hk H locs ls h1 h2 hH hS ?_ ((gSub_len _ _ hw).trans hL)
  show lv_has ls L'.length _
  rw [gSub_len _ _ hw]
  refine ⟨hl.1, hl.2.1, fun q hq => hl.2.2 q ?_⟩
  obtain ⟨j, w, q1, q2, q3⟩ := gPr_of _ _ _ hq
  have q4 := gPr_in (b := b) (K := K) L 0 j w (gSub_at _ _ hw j w q1)
  rw [show q = (0 + j, gc b K w) from Prod.ext q2 q3]
  exact q4
theorem gw6 : gCl6 r (Gw p l e R s m args below meth c cl D cA b K hs0 Q) := by
  intro pc L st sh σ u u' hu _ hk H locs ls h1 h2 hH hS hl hL
  have h2 : hs0.2.2 ≤ u := h2
  have hw := hk H locs ls h1 (Nat.le_trans h2 hu) hH hS hl hL
  exact W.widen (Nat.le_refl _) (by show u - hs0.2.2 ≤ u' - hs0.2.2; omega) hw
theorem gw7 {X : Prop} (O : gOk p R s m args meth c cl D cA b K E md.2.1 md.1.cls md.1 pl) (hA : gAll cl df) (hF : gFx7 pl cl ms md X) (hRc : r.2.1.length - hs0.1.length ≤ R.cells) (hRs : r.2.2.2 - hs0.2.2 ≤ R.slots) : gCl7 md.2.2.2.2.2 md.2.2.2.2.1 r (Gw p l e R s m args below meth c cl D cA b K hs0 Q) := by
  obtain ⟨hdec, hjm, hpf, hsf, hpk, hpm, hpc, -⟩ := hF
  obtain ⟨hx, hb, hown, hts, hK, hR, hnm, hE⟩ := O
  obtain ⟨-, -, -, -, -, -, m1, m2, m3, m4, m5⟩ := hA
  refine ⟨?_, ?_⟩
  · intro pc L rest hs x y ix n kd hi hlk hc hm1 hm2 hk H locs ls h1 h2 hH hS hl hL
    have hd := (hdec pc _ hi).1 rfl
    have hc := of_decide_eq_true hc
    exact va_mmax hx hb (by rw [hl.1]; exact hL.symm) hown (hts _ (hpm _ _ _ _ hlk)) (hts _ m1) (hts _ m2) (hts _ m3) hR.1 (by rw [gCat_map]; omega) (by show hs.1.length - hs0.1.length ≤ R.cells; omega) (by show hs.2.2 - hs0.2.2 ≤ R.slots; omega) hd (hk H locs ls h1 h2 hH hS hl hL)
  · intro pc L rest hs x y ix n kd hi hlk hc hm1 hm2 hk H locs ls h1 h2 hH hS hl hL
    have hd := (hdec pc _ hi).1 rfl
    have hc := of_decide_eq_true hc
    exact va_mmin hx hb (by rw [hl.1]; exact hL.symm) hown (hts _ (hpm _ _ _ _ hlk)) (hts _ m4) (hts _ m2) (hts _ m5) hR.1 (by rw [gCat_map]; omega) (by show hs.1.length - hs0.1.length ≤ R.cells; omega) (by show hs.2.2 - hs0.2.2 ≤ R.slots; omega) hd (hk H locs ls h1 h2 hH hS hl hL)
theorem gRcv0 {kd : Nat} {as : List Value} {hs : gHS} (h : gRcv 0 kd as hs = true) : kd = 0 := by
  simpa [gRcv] using h
theorem gRcv1 {kd : Nat} {as : List Value} {hs : gHS} (h : gRcv 1 kd as hs = true) : (∃ k as', as = .retAddr k :: as' ∧ kd = 2000 ∧ k < 7) ∨ ∃ k as' ci fs, as = .ref k :: as' ∧ hs.1[k]? = some (.inr (ci, fs)) ∧ kd = 1 + ci ∧ ci < 900 := by
  cases as with
  | nil => simp [gRcv] at h
  | cons v as' =>
    cases v with
    | retAddr k => exact Or.inl ⟨k, as', rfl, by simpa [gRcv] using h⟩
    | ref k =>
      simp only [gRcv] at h
      split at h
      · rename_i ci fs hsh
        exact Or.inr ⟨k, as', ci, fs, rfl, hsh, by simpa using h⟩
      · cases h
    | _ => simp [gRcv] at h
theorem gRcv2 {kd : Nat} {as : List Value} {hs : gHS} (h : gRcv 2 kd as hs = true) : ∃ k as' ci fs, as = .ref k :: as' ∧ hs.1[k]? = some (.inr (ci, fs)) ∧ (kd = 1000 + ci ∨ kd = 3000 + ci) ∧ ci < 900 := by
  cases as with
  | nil => simp [gRcv] at h
  | cons v as' =>
    cases v with
    | ref k =>
      simp only [gRcv] at h
      split at h
      · rename_i ci fs hsh
        exact ⟨k, as', ci, fs, rfl, hsh, by simpa using h⟩
      · cases h
    | _ => simp [gRcv] at h
theorem gCode_in {md : gMd} (hF : gFx pl cl ms md) : GoodIn gTs (Cond.code md.1 md.2.1 md.2.2.1 md.2.2.2.1 :: gTs) := by
  obtain ⟨-, -, -, -, -, -, -, h, -⟩ := hF
  intro w hw
  rcases List.mem_cons.mp hw with rfl | hw
  · exact gTs_good _ h
  · exact gTs_good _ hw
theorem gw4 {d : Nat} {X : Prop} (O : gOk p R s m args meth c cl D cA b K E md.2.1 md.1.cls md.1 pl) (hF : gFx7 pl cl ms md X) (hall : ∀ (y : Nat) (md' : gMd), ms[y]? = some md' → gFx pl cl ms md') (hml : ms.length < 9000) (hsz : s.heap.size = b + hs0.1.length) (hRf : d + 1 ≤ R.frames) (hRl : 64 * (d + 1) ≤ R.locals) (hRc : r.2.1.length - hs0.1.length ≤ R.cells) (hRs : r.2.2.2 - hs0.2.2 ≤ R.slots)
    (IH : ∀ (y : Nat) (md' : gMd) (as : List Value) (hs : gHS) (r : Option Value × gHS), ms[y]? = some md' → as.all (fun v => v.category == 1) = true → gC E df ms d y as hs r → gMt pl E l cl D cA b K d md' as hs r) : gCl4 md.2.2.2.2.2 md.2.2.2.2.1 (gC E df ms d) r (Gw p l e R s m args below meth c cl D cA b K hs0 Q) := by
  have hF0 := hF
  obtain ⟨hdec, hjm, hpf, hsf, hpk, hpm, hpc, -⟩ := hF
  obtain ⟨hx, hb, hown, hts, hK, hR, hnm, hE⟩ := O
  intro pc L st as rest hs hs' v i ix kc y n kd hi hix hlk hst hn hck hC hm1 hm2 hm3 hm4 hk
  intro H locs ls h1 h2 hH hS hl hL
  have h1 : hs0.1.length ≤ hs.1.length := h1
  have h2 : hs0.2.2 ≤ hs.2.2 := h2
  simp only [Bool.and_eq_true, decide_eq_true_eq] at hck
  obtain ⟨⟨hc1, hc2⟩, hc3⟩ := hck
  obtain ⟨md', hmd⟩ : ∃ md', ms[y]? = some md' := by
    cases d with
    | zero => exact absurd hC (fun h => h)
    | succ d => obtain ⟨md', h, -⟩ := hC; exact ⟨md', h⟩
  have hylt : y < ms.length := (List.getElem?_eq_some_iff.mp hmd).1
  have hp := hpm _ _ _ _ hlk
  unfold gPmk at hp
  split at hp
  · omega
  · omega
  · omega
  · omega
  obtain ⟨md9, e9, hp1, hp2, hp3⟩ := hp
  cases hmd.symm.trans e9
  have hM := IH y md' as hs (v, hs') hmd hc1 hC
  have hF' := hall _ _ hmd
  have hG := gCode_in hF'
  obtain ⟨-, -, -, -, -, -, -, hcode, hpn, hm40, hini, hmh⟩ := hF'
  refine gw_ub fun hub => ?_
  have hlb := gw_lb hH (Nat.le_trans (by omega) hS.1)
  have hHs : H.size = b + hs.1.length := by
    have hlb : b + hs.1.length ≤ H.size := hlb
    have hub : H.size ≤ s.heap.size + (hs.1.length - hs0.1.length) := hub
    omega
  have hPc : ∀ U : State, U.heap = H → s.WarmedH U.vm → va_Pc (as.map (gc b K)) (gU pl E cl D cA b K hs) (as.map (gc b K)).toArray U := fun U hU hW =>
    ⟨rfl, by rw [hU]; exact hH, by rw [hU]; exact hHs, va_K.moved hW.alike hK, gKs_at hE hS hU hW⟩
  have hR1 : d + 1 ≤ R.frames ∧ 8 + (md'.2.2.1 + 11) + 64 * d ≤ R.locals := by omega
  have hf : (hs.1.length - hs0.1.length) + (hs'.1.length - hs.1.length) ≤ R.cells ∧ (hs.2.2 - hs0.2.2) + (hs'.2.2 - hs.2.2) ≤ R.slots := by
    have hm3 : hs'.1.length ≤ r.2.1.length := hm3
    omega
  have hml2 : c.maxLocals = ls.size := by rw [hl.1]; exact hL.symm
  have hW8 : ∀ x : List Value, 2 * (F0 m pc ls x).monitorRoom + ((rest.map (gc b K)).map fun v => v.category).sum ≤ 8 := fun x => lv_room (by rw [gCat_map]; exact hc2)
  have fin : ∀ (H1 : Heap) (locs1 : List Loc), gHp cl D cA b hs' H1 → va_S (fun q => b ≤ q) s.heap H1 locs1 → W p l e R s m args below meth c H1 locs1 ((hs.1.length - hs0.1.length) + (hs'.1.length - hs.1.length)) ((hs.2.2 - hs0.2.2) + (hs'.2.2 - hs.2.2)) Q (F0 m (pc + 3) ls ((v.map (gc b K)).toList ++ rest.map (gc b K))) := by
    intro H1 locs1 hH1 hS1
    have hkk := hk H1 locs1 ls (Nat.le_trans h1 hm1) (Nat.le_trans h2 hm2) hH1 hS1 hl hL
    have e1 : hs'.1.length - hs0.1.length = (hs.1.length - hs0.1.length) + (hs'.1.length - hs.1.length) := by omega
    have e2 : hs'.2.2 - hs0.2.2 = (hs.2.2 - hs0.2.2) + (hs'.2.2 - hs.2.2) := by omega
    have e3 : (v.toList ++ rest).map (gc b K) = (v.map (gc b K)).toList ++ rest.map (gc b K) := by cases v <;> simp
    have hkk : W p l e R s m args below meth c H1 locs1 (hs'.1.length - hs0.1.length) (hs'.2.2 - hs0.2.2) Q (F0 m (pc + 3) ls ((v.toList ++ rest).map (gc b K))) := hkk
    rw [e1, e2, e3] at hkk
    exact hkk
  have fix : CallFix p m c md.2.1 ls.size s args gTs md.1.cls := ⟨hx, hb, hml2, hown, hts⟩
  subst hst
  cases i <;> simp only [gIdx] at hix <;> cases hix
  · -- invokespecial
    have hd := (hdec pc _ hi).1 rfl
    obtain ⟨k, as', ci, fs, rfl, hsh, hkd, hc9⟩ := gRcv2 hc3
    rw [if_neg (by omega)] at hp2 hp3
    rw [if_neg (by omega), if_pos (by omega)] at hp3
    obtain ⟨hp4, hp5, hp6⟩ := hp3
    subst hn
    rcases hkd with rfl | rfl
    · rw [if_pos (by omega)] at hp1
      exact g_call (va_runI (As := as'.map (gc b K)) (rest := rest.map (gc b K)) (b := b + k) (bytes := md'.2.1) (maxL := md'.2.2.1) fix hM ⟨callB_of (bytes := md'.2.1) (maxL := md'.2.2.1) (ret := none) (as'.length) hts hG (by rw [← hp6]) rfl rfl (hts _ hini) (hts _ hp1) ⟨hmh.1, hmh.2, by simpa using hp2⟩ hR1, hp5, hts _ hp4⟩ ⟨gU_blind, hPc⟩ rfl (by simp) rfl (by simp [List.map_reverse, gc]) (hW8 _) hd hf) hS fin
    · rw [if_neg (by omega)] at hp1
      obtain ⟨host, hp1⟩ := hp1
      exact g_call (va_runIN (host := host) (As := as'.map (gc b K)) (rest := rest.map (gc b K)) (b := b + k) (bytes := md'.2.1) (maxL := md'.2.2.1) fix hM ⟨va_cnB (bytes := md'.2.1) (maxL := md'.2.2.1) (ret := none) (as'.length) hts hG (by rw [← hp6]) rfl rfl (hE.2.2.2.2.2.1 _ hp1) (hts _ hini) ⟨hmh.1, hmh.2, by simpa using hp2⟩ hR1, hp5, hts _ hp4⟩ ⟨gU_blind, hPc⟩ rfl (by simp) rfl (by simp [List.map_reverse, gc]) (hW8 _) hd hf) hS fin
  · -- invokestatic
    have hd := (hdec pc _ hi).1 rfl
    obtain rfl := gRcv0 hc3
    rw [if_pos (by omega)] at hp1
    rw [if_pos rfl] at hp2 hp3
    subst hn
    exact g_call (va_runS (As := as.map (gc b K)) (rest := rest.map (gc b K)) (bytes := md'.2.1) (maxL := md'.2.2.1) (ret := md'.2.2.2.1) fix hM ⟨callB_of (bytes := md'.2.1) (maxL := md'.2.2.1) (ret := md'.2.2.2.1) (as.length) hts hG rfl rfl rfl (hts _ hini) (hts _ hp1) ⟨hmh.1, hmh.2, hp2⟩ hR1, hts _ hp3⟩ ⟨gU_blind, hPc⟩ rfl (by simp) rfl (by simp [List.map_reverse]) (hW8 _) hd hf) hS fin
  · -- invokevirtual
    have hd := (hdec pc _ hi).1 rfl
    rcases gRcv1 hc3 with ⟨k, as', rfl, rfl, hk7⟩ | ⟨k, as', ci, fs, rfl, hsh, rfl, hc9⟩
    · rw [if_pos (by omega)] at hp1
      rw [if_neg (by omega)] at hp2 hp3
      rw [if_neg (by omega), if_neg (by omega)] at hp3
      obtain ⟨hp4, hp5, hp6⟩ := hp3
      subst hn
      refine g_call (va_runV (C := md'.1.cls) (As := as'.map (gc b K)) (rest := rest.map (gc b K)) (b := K k) (bytes := md'.2.1) (maxL := md'.2.2.1) (ret := md'.2.2.2.1) fix hM ⟨callB_of (bytes := md'.2.1) (maxL := md'.2.2.1) (ret := md'.2.2.2.1) (as'.length) hts hG rfl rfl rfl (hts _ hini) (hts _ hp1) ⟨hmh.1, hmh.2, by simpa using hp2⟩ hR1, hts _ hp4, hts _ hp5⟩ ⟨gU_blind, ?_, hPc⟩ rfl (by simp) rfl (by simp [List.map_reverse, gc]) (hW8 _) hd hf) hS fin
      rw [hp6]
      exact vk_recv hE.1 hk7 hS
    · rw [if_pos (by omega)] at hp1
      rw [if_neg (by omega)] at hp2 hp3
      rw [if_pos (by omega)] at hp3
      obtain ⟨hp4, hp5, hp6⟩ := hp3
      subst hn
      refine g_call (va_runV (C := md'.1.cls) (As := as'.map (gc b K)) (rest := rest.map (gc b K)) (b := b + k) (bytes := md'.2.1) (maxL := md'.2.2.1) (ret := md'.2.2.2.1) fix hM ⟨callB_of (bytes := md'.2.1) (maxL := md'.2.2.1) (ret := md'.2.2.2.1) (as'.length) hts hG rfl rfl rfl (hts _ hini) (hts _ hp1) ⟨hmh.1, hmh.2, by simpa using hp2⟩ hR1, hts _ hp4, hts _ hp5⟩ ⟨gU_blind, ?_, hPc⟩ rfl (by simp) rfl (by simp [List.map_reverse, gc]) (hW8 _) hd hf) hS fin
      obtain ⟨q, g1, -⟩ := hH k _ (gW_get hsh)
      have g1 : cl[ci]? = some q := g1
      rw [← hp6 q (by rw [show 1 + ci - 1 = ci by omega]; exact g1)]
      exact va_recv hK hH g1 (gW_get hsh)
end GC
