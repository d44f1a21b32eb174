set_option linter.unusedVariables false
theorem gSE_s {E : gEv} (h : gEok E) : SE E := fun i hi => by
  rw [h i hi]
  have t1 : ∀ i, i < 7 → gSl.getD i 0 = sN i := by decide +kernel
  have t2 : ∀ i, i < 7 → ∀ j, j < sN i → ((gSb.getD i []).getD j 0).toInt = sC i j := by decide +kernel
  exact ⟨t1 i hi, t2 i hi⟩
theorem whole_start {p : Program} {e : Env} {s : State} {m : MethodId} {below : List Frame} {meth : Method} {c : Code} {bs L : Nat} {xs : Nat → Int32} (l : Launch) (hL : L ≤ 3076) (C0 : lw_At p s m meth c bs L xs) : W p l e room_1 s m #[Value.ref bs] below meth c s.heap [] 0 0 (lw_Z below #[Value.ref bs] s) (entryFrame m ([Value.ref bs] : List Value).toArray 4) :=
  gst_main gAll_ok gMs_ok gG279 (gPure_of fun L xs hL => whole_is (E := gSE L xs) (by have e : ((gSE L xs) 1000).1 = L := rfl; omega) (gSE_s (gSE_ok L xs))) l hL C0
