theorem c_clear {L : zY} {m : zM} {Q : zQ} {o : Nat} (hR : zRL L m o) (k : ∀ m', zRC L m' o ms0 → zFR o (o + 9) m m' → Q none L m') : zwp 23 0 [zA o] [] L m Q := by
  have r1 := hR.1
  simp (disch := omega) only [s23_0, s23_1, s23_2, s23_5, s23_6, s23_7, s23_10, s23_11, s23_12, s23_15, s23_16, s23_17, s23_20, Int.toNat_natCast, true_and, and_true, true_or, or_true, false_or, or_false, zwr_id, zpu_some, zpu_none, reduceIte, Int.reduceLE, Int.reduceLT, Int.reduceEq, Int.reduceNeg, Int.reduceAdd, Int.reduceSub, Int.reduceMul, Int.reduceToNat, Nat.reduceAdd, Nat.reduceLeDiff, Nat.reduceEqDiff, Nat.reduceLT, eq_self, ne_eq, not_false_eq_true, not_true_eq_false, r1]
  refine k _ ⟨zRL_eq (fun j hj => by rw [zup_nk (by omega), zup_nk (by omega), zup_nk (by omega), zup_nk (by omega)]) hR, ⟨?_, Nat.zero_le _, zAL_nil, zAL_nil, zAL_nil, zAL_nil, zAL_nil, zAL_nil⟩, ⟨?_, Nat.zero_le _, zAL_nil, zAL_nil, zAL_nil⟩, ?_, ?_, (ms0_ok (N := 1)).1⟩ (zFR_up (zFR_up (zFR_up (zFR_up zFR_rf (by omega) (by omega)) (by omega) (by omega)) (by omega) (by omega)) (by omega) (by omega))
  · rw [zup_nk (by omega), zup_nk (by omega), zup_nk (by omega), zup_same]; rfl
  · rw [zup_nk (by omega), zup_nk (by omega), zup_same]; rfl
  · rw [zup_nk (by omega), zup_same]; rfl
  · rw [zup_same]; rfl
