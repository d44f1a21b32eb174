set_option linter.unusedVariables false
-- ZB
section
variable {E : gEv} {c : gCf}
/-- what the calls keep -/
abbrev IB (c : gCf) (n : Nat) (z : gZ) : Prop := ∃ _ : (Gr c z), ∃ _ : (Jk c z), ∃ _ : (∃ k, iT k z), ∃ _ : (JF c (1000 * (n : Int)) z), ∃ _ : (iCir c (1000 * (n : Int)) z), ∃ _ : (iPla c z), ∃ _ : (iRou c z), ∃ _ : (iEl c z), (z.1 0 11 = z.1 94 18 ∧ z.1 22 2 = kD c ∧ z.1 30 0 = kP c)
theorem IB.g {c : gCf} {n : Nat} {z : gZ} (h : IB c n z) : Gr c z := by obtain ⟨x, _⟩ := h; exact x
theorem IB.j {c : gCf} {n : Nat} {z : gZ} (h : IB c n z) : Jk c z := by obtain ⟨_, x, _⟩ := h; exact x
theorem IB.t {c : gCf} {n : Nat} {z : gZ} (h : IB c n z) : ∃ k, iT k z := by obtain ⟨_, _, x, _⟩ := h; exact x
theorem IB.f {c : gCf} {n : Nat} {z : gZ} (h : IB c n z) : JF c (1000 * (n : Int)) z := by obtain ⟨_, _, _, x, _⟩ := h; exact x
theorem IB.ci {c : gCf} {n : Nat} {z : gZ} (h : IB c n z) : iCir c (1000 * (n : Int)) z := by obtain ⟨_, _, _, _, x, _⟩ := h; exact x
theorem IB.p {c : gCf} {n : Nat} {z : gZ} (h : IB c n z) : iPla c z := by obtain ⟨_, _, _, _, _, x, _⟩ := h; exact x
theorem IB.r {c : gCf} {n : Nat} {z : gZ} (h : IB c n z) : iRou c z := by obtain ⟨_, _, _, _, _, _, x, _⟩ := h; exact x
theorem IB.e {c : gCf} {n : Nat} {z : gZ} (h : IB c n z) : iEl c z := by obtain ⟨_, _, _, _, _, _, _, x, _⟩ := h; exact x
theorem IB.w {c : gCf} {n : Nat} {z : gZ} (h : IB c n z) : z.1 0 11 = z.1 94 18 ∧ z.1 22 2 = kD c ∧ z.1 30 0 = kP c := by obtain ⟨_, _, _, _, _, _, _, _, x⟩ := h; exact x
section
variable {P : Nat → Nat → Prop} {z s : gZ} {n : Nat}
theorem Jk_oB (h : Jk c z) (o : zO P z s) (hP : ∀ k j, P k j → k ≠ 5 ∧ k ≠ 6) : Jk c s := fun j hj => by
  have := h j hj
  unfold jOk at *
  rw [o 5 j fun x => (hP _ _ x).1 rfl, o 6 j fun x => (hP _ _ x).2 rfl]
  exact this
/-- all but what is given anew -/
theorem IB_o (h : IB c n z) (o : zO P z s) (hS : ∀ k j, P k j → ¬ pS k j) (hT : (∃ k, iT k s) ∨ ∀ k j, P k j → ¬ pT k j) (hF : JF c (1000 * ((n + 1 : Nat) : Int)) s ∨ ∀ k j, P k j → ¬ rF k j) (hC : iCir c (1000 * ((n + 1 : Nat) : Int)) s ∨ ∀ k j, P k j → ¬ rC k j) (hp : iPla c s ∨ ∀ k j, P k j → ¬ pN k j ∧ ¬ pS k j ∧ k ≠ 0 ∧ k ≠ 68 ∧ k ≠ 69 ∧ ¬ (k = 67 ∧ j = 4) ∧ k ≠ 136 ∧ k ≠ 137 ∧ ¬ (k = 94 ∧ (j = 106 ∨ j = 55)) ∧ ¬ (k = 53 ∧ j = 15)) (hR : iRou c s ∨ ∀ k j, P k j → ¬ (k = 70 ∧ (j = 4 ∨ j = 15)) ∧ ¬ (k = 94 ∧ (j = 77 ∨ j = 106)) ∧ ¬ (k = 53 ∧ j = 17) ∧ ¬ (74 ≤ k ∧ k ≤ 75) ∧ ¬ (77 ≤ k ∧ k ≤ 79) ∧ k ≠ 132 ∧ ¬ (141 ≤ k ∧ k ≤ 145) ∧ k ≠ 147 ∧ k ≠ 61 ∧ k ≠ 62 ∧ k ≠ 64 ∧ k ≠ 69) (hE : ∀ k j, P k j → ¬ rEz k j) (hw : ∀ k j, P k j → k ≠ 0 ∧ ¬ (k = 94 ∧ j = 18) ∧ ¬ (k = 22 ∧ j = 2) ∧ ¬ (k = 30 ∧ j = 0)) : IB c (n + 1) s := by
  refine ⟨Gr_o o (fun k j a b => hS k j b a) h.g, Jk_oB h.j o fun k j x => by have := hS k j x; unfold pS at this; omega, hT.elim id fun x => ?_, hF.elim id fun x => JF_o h.f (by omega) o x, hC.elim id fun x => iCir_o h.ci (by omega) o x, hp.elim id fun x => iPla_o h.p o x, hR.elim id fun x => iRou_o h.r h.g.1 o x, iEl_o h.e o hE, ?_⟩
  · obtain ⟨k, hk⟩ := h.t
    exact ⟨k, iT_o hk o x⟩
  · rw [o 0 11 fun x => (hw _ _ x).1 rfl, o 94 18 fun x => (hw _ _ x).2.1 ⟨rfl, rfl⟩, o 22 2 fun x => (hw _ _ x).2.2.1 ⟨rfl, rfl⟩, o 30 0 fun x => (hw _ _ x).2.2.2 ⟨rfl, rfl⟩]; exact h.w
theorem IB_T (h : IB c n z) (o : zO pT z s) (ht : ∃ k, iT k s) : IB c (n + 1) s :=
  IB_o h o (fun k j x => by unfold pT at x; unfold pS; omega) (Or.inl ht) (Or.inr fun k j x => by unfold pT at x; unfold rF; omega) (Or.inr fun k j x => by unfold pT at x; unfold rC; omega) (Or.inr fun k j x => by unfold pT at x; unfold pN pS; omega) (Or.inr fun k j x => by unfold pT at x; omega) (fun k j x => by unfold pT at x; unfold rEz; omega) (fun k j x => by unfold pT at x; omega)
theorem IB_F (h : IB c n z) (o : zO pF z s) (hf : JF c (1000 * ((n + 1 : Nat) : Int)) s) : IB c (n + 1) s :=
  IB_o h o (fun k j x => by unfold pF at x; unfold pS; omega) (Or.inr fun k j x => by unfold pF at x; unfold pT; omega) (Or.inl hf) (Or.inr fun k j x => by unfold pF at x; unfold rC; omega) (Or.inr fun k j x => by unfold pF at x; unfold pN pS; omega) (Or.inr fun k j x => by unfold pF at x; omega) (fun k j x => by unfold pF at x; unfold rEz; omega) (fun k j x => by unfold pF at x; omega)
theorem IB_C (h : IB c n z) (o : zO pCi z s) (hc : iCir c (1000 * ((n + 1 : Nat) : Int)) s) : IB c (n + 1) s :=
  IB_o h o (fun k j x => by unfold pCi at x; unfold pS; omega) (Or.inr fun k j x => by unfold pCi at x; unfold pT; omega) (Or.inr fun k j x => by unfold pCi at x; unfold rF; omega) (Or.inl hc) (Or.inr fun k j x => by unfold pCi at x; unfold pN pS; omega) (Or.inr fun k j x => by unfold pCi at x; omega) (fun k j x => by unfold pCi at x; unfold rEz; omega) (fun k j x => by unfold pCi at x; omega)
theorem IB_P (h : IB c n z) (o : zO pPa z s) (hp : iPla c s) (hr : iRou c s) : IB c (n + 1) s :=
  IB_o h o (fun k j x => by unfold pPa at x; unfold pS; omega) (Or.inr fun k j x => by unfold pPa at x; unfold pT; omega) (Or.inr fun k j x => by unfold pPa at x; unfold rF; omega) (Or.inr fun k j x => by unfold pPa at x; unfold rC; omega) (Or.inl hp) (Or.inl hr) (fun k j x => by unfold pPa at x; unfold rEz; omega) (fun k j x => by unfold pPa at x; omega)
theorem IB_R (h : IB c n z) (o : zO pRt' z s) (hp : iPla c s) (hr : iRou c s) : IB c (n + 1) s :=
  IB_o h o (fun k j x => by unfold pRt' pWr pRm at x; unfold pS; omega) (Or.inr fun k j x => by unfold pRt' pWr pRm at x; unfold pT; omega) (Or.inr fun k j x => by unfold pRt' pWr pRm at x; unfold rF; omega) (Or.inr fun k j x => by unfold pRt' pWr pRm at x; unfold rC; omega) (Or.inl hp) (Or.inl hr) (fun k j x => by unfold pRt' pWr pRm at x; unfold rEz; omega) (fun k j x => by unfold pRt' pWr pRm at x; omega)
theorem IB_t (h : IB c n z) (o : zO pPt z s) : IB c (n + 1) s :=
  IB_o h o (fun k j x => by unfold pPt at x; unfold pS; omega) (Or.inr fun k j x => by unfold pPt at x; unfold pT; omega) (Or.inr fun k j x => by unfold pPt at x; unfold rF; omega) (Or.inr fun k j x => by unfold pPt at x; unfold rC; omega) (Or.inr fun k j x => by unfold pPt at x; unfold pN pS; omega) (Or.inr fun k j x => by unfold pPt at x; omega) (fun k j x => by unfold pPt at x; unfold rEz; omega) (fun k j x => by unfold pPt at x; omega)
theorem IB_n (h : IB c n z) : IB c (n + 1) z := IB_t h o_r
theorem JF_mB {tb tb' : Int} (h : JF c tb z) (hb : tb ≤ tb') : JF c tb' z := by
  obtain ⟨h1, h2, h3, h4, h5, h6, h7, h8⟩ := h
  exact ⟨h1, h2, h3, h4, h5, h6, h7, by omega⟩
theorem iCir_mB {cb cb' : Int} (h : iCir c cb z) (hb : cb ≤ cb') : iCir c cb' z := iCir_o (P := fun _ _ => False) h hb o_r fun k j x => x.elim
theorem iRou_pB (h : iRou c z) (hk : kOk c) (o : zOff pPa z s) (x : zOff pPt z s ∨ (s.1 70 15 = 0 ∧ s.1 94 77 = 0)) : iRou c s := by
  rcases x with x | x
  · exact iRou_o h hk x.2 fun k j y => by unfold pPt at y; omega
  · exact ⟨by rw [o.2 70 4 (by unfold pPa; omega)]; exact h.1, Or.inl x⟩
end
/-- all laws but compile's -/
theorem lw_allB (hc : ∀ (n : Nat) (z : gZ), IB c n z → zOk (q_Face_compile E (kL c) z) (fun r => zOk (q_Model_compile E (kL c) r.2) (fun q => r.1 = q.1 ∧ IB c (n + 1) q.2))) : LW E c (IB c) := by
  refine ⟨?_, ?_, ?_, ?_, ?_, ?_, ?_, ?_, ?_, ?_, ?_, ?_, ?_, ?_, ?_, ?_, ?_, ?_, ?_, ?_, ?_, ?_, ?_, ?_, ?_⟩
  · exact fun n z h => IB_n h
  · intro n z a0 a1 a2 a3 a4 h
    obtain ⟨k, hk⟩ := h.t
    exact ok_w (l_feed a0 a1 a2 a3 a4 hk) fun s hs => ok_w hs fun q ⟨q1, q2⟩ => IB_T h q2.2 ⟨k, q1⟩
  · intro n z a h
    obtain ⟨k, hk⟩ := h.t
    exact ok_w (l_end a hk) fun s hs => ok_w hs fun q ⟨q0, q1, q2⟩ => ⟨q0, IB_T h q2.2 q1⟩
  · exact hc
  · exact fun n z a h => ok_w (l_look h.g h.ci h.p h.r h.w.1 h.f.2.2.2.2.2.1 a) fun s hs => ok_w hs fun q ⟨q0, q1⟩ => ⟨q0, IB_t h q1.2⟩
  · exact fun n z a b h => l_lut h.g.1 (iLut_of h.ci) a b
  · exact fun n z a b h => l_element h.g.1 (iLut_of h.ci) (iEle_of h.p h.e) a b
  · exact fun n z a b h hb => l_net h.g h.p h.r a b hb
  · exact fun n z a h => l_tile h.g (iTil_of h.p) a
  · exact fun n z a h => l_pad h.g (iPad_of h.p) a
  · exact fun n z a0 a1 a2 a3 h h0 h3 => ok_w (l_swap h.g h.p a0 a1 a2 a3 h0 h3) fun s hs => ok_w hs fun q ⟨q0, q1, q2, q3⟩ => ⟨q0, IB_P h q2.2 q1 (iRou_pB h.r h.g.1 q2 (q3.imp (fun e => by rw [e]; exact off_r) id))⟩
  · exact fun n z a0 a1 h => ok_w (l_shake h.g h.p a0 a1) fun s hs => ok_w hs fun q ⟨q0, q1, q2, q3⟩ => ⟨q0, IB_P h q2.2 q1 (iRou_pB h.r h.g.1 q2 q3)⟩
  · exact fun n z a h => ok_w (l_route h.g h.j h.p h.r a) fun s hs => ok_w hs fun q ⟨q0, q1, q2, q3⟩ => ⟨q0, IB_R h q3 q1 q2⟩
  · exact fun n z a h => l_owner h.g h.p h.r a
  · exact fun n z h => ok_w (l_burn h.g h.f h.p h.r h.e) fun s hs => ok_w hs fun q ⟨q0, q1, q2⟩ => ⟨q0, IB_F h q2.2 (JF_mB q1 (by omega))⟩
  · intro n z a h
    obtain ⟨v, h1, h2⟩ := l_bit (E := E) h.g h.f a
    exact ok_e h1 (ok_e h2 rfl)
  · exact fun n z a h => ok_w (l_flip h.g h.f a) fun s hs => ok_w hs fun q ⟨q0, q1, q2⟩ => ⟨q0, IB_F h q2.2 (JF_mB q1 (by omega))⟩
  · exact fun n z h => ok_w (l_start h.g h.f) fun s hs => ok_w hs fun q ⟨q1, q2⟩ => IB_F h q2.2 (JF_mB q1 (by omega))
  · exact fun n z a b h hb => ok_w (l_level h.g h.f a b hb) fun s hs => ok_w hs fun q ⟨q0, q1, q2⟩ => ⟨q0, IB_F h q2.2 (JF_mB q1 (by omega))⟩
  · exact fun n z a h hn => ok_w (l_tick h.g h.f (by omega) a) fun s hs => ok_w hs fun q ⟨q0, q1, q2⟩ => ⟨q0, IB_F h q2.2 (JF_mB q1 (by omega))⟩
  · exact fun n z a b h => ok_w (l_probe h.g h.f a b) fun s hs => ok_w hs fun q ⟨q0, q1, q2⟩ => ⟨q0, IB_F h q2.2 (JF_mB q1 (by omega))⟩
  · exact fun n z a b h hb => ok_w (l_drive h.g.1 h.ci a b hb) fun s hs => ok_w hs fun q ⟨q0, q1, q2⟩ => ⟨q0, IB_C h q2.2 (iCir_mB q1 (by omega))⟩
  · exact fun n z a h hn => ok_w (l_clock h.g.1 h.ci (by omega) a) fun s hs => ok_w hs fun q ⟨q0, q1, q2⟩ => ⟨q0, IB_C h q2.2 (iCir_mB q1 (by omega))⟩
  · exact fun n z a h => ok_w (l_value h.g.1 h.ci a) fun s hs => ok_w hs fun q ⟨q0, q1, q2⟩ => ⟨q0, IB_C h q2.2 (iCir_mB q1 (by omega))⟩
  · exact fun n z a h => ok_w (l_out h.g.1 h.ci a) fun s hs => ok_w hs fun q ⟨q0, q1, q2⟩ => ⟨q0, IB_C h q2.2 (iCir_mB q1 (by omega))⟩
end
-- ZC
section
variable {E : gEv} {c : gCf}
theorem IB_0 {z : gZ} (g : Gr c z) (hj : ∀ j, j < kJ c → jOk c z j) (h : z00 c z) (h18 : z.1 94 18 = -1) : IB c 0 z := by
  have a0 : ∀ j, z.1 0 j = if j = 11 then -1 else 0 := fun j => by
    rw [h 0 j (by omega) (by unfold pMi p3; omega)]; rfl
  have e : ∀ k j, 10 ≤ k → k ≠ 22 → k ≠ 30 → k ≠ 68 → k ≠ 70 → ¬ pMi k j → z.1 k j = 0 := fun k j a b d f g' x => z0_at h a b d f g' x
  have a30 : ∀ j, j ≠ 0 → z.1 30 j = 0 := fun j hj => by
    rw [h 30 j (by omega) (by unfold pMi p3; omega)]
    unfold fcV
    rw [if_neg (by omega), if_neg (by omega), if_pos rfl, if_neg hj]
  have a70 : ∀ j, z.1 70 j = if j = 4 then (kH c : Int) else 0 := fun j => by
    rw [h 70 j (by omega) (by unfold pMi p3; omega)]; rfl
  have a68 : ∀ j, j < kN c + kD c → z.1 68 j = -1 := fun j hj => by
    rw [h 68 j (by omega) (by unfold pMi p3; omega)]
    unfold fcV
    rw [if_neg (by omega), if_neg (by omega), if_neg (by omega), if_pos rfl, if_pos hj]
  have a94 : ∀ j, ¬ j ≤ 13 → j ≠ 18 → z.1 94 j = 0 := fun j h1 h2 => e 94 j (by omega) (by omega) (by omega) (by omega) (by omega) (by unfold pMi p3; omega)
  have a53 : ∀ j, z.1 53 j = 0 := fun j => e 53 j (by omega) (by omega) (by omega) (by omega) (by omega) (by unfold pMi p3; omega)
  refine ⟨g, hj, ⟨0, iT_0 h⟩, JF_0 h, Or.inl ⟨by rw [a0]; rfl, a94 _ (by omega) (by omega), a30 _ (by omega), a30 _ (by omega), a30 _ (by omega), a30 _ (by omega), a30 _ (by omega), a94 _ (by omega) (by omega), by omega, Or.inl (a30 _ (by omega))⟩, Or.inl ⟨by rw [a0]; rfl, a94 _ (by omega) (by omega), a68, a53 _, a53 _, a53 _⟩, ⟨by rw [a70]; rfl, Or.inl ⟨by rw [a70]; rfl, a94 _ (by omega) (by omega)⟩⟩, Or.inl (a94 _ (by omega) (by omega)), by rw [a0, h18]; rfl, ?_, ?_⟩
  · rw [h 22 2 (by omega) (by unfold pMi p3; omega)]; rfl
  · rw [h 30 0 (by omega) (by unfold pMi p3; omega)]; rfl
/-- whole, out of compile's law -/
theorem whole_ofB (hE : (E 1000).1 ≤ 3076) (hc : ∀ (c : gCf) (n : Nat) (z : gZ), IB c n z → zOk (q_Face_compile E (kL c) z) (fun r => zOk (q_Model_compile E (kL c) r.2) (fun q => r.1 = q.1 ∧ IB c (n + 1) q.2))) : ∃ y, q_Law_law E (fun _ => 0) (fun _ _ => 0, fun _ _ => 0) = some (1, y) :=
  law_of hE fun c z g hj h0 h18 _ => lw_loop (lw_allB (hc c)) hE (IB_0 g hj h0 h18)
end
