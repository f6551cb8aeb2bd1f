theorem c_clear {L : zY} {m : zM} {Q : zQ} {o : Nat} (hR : zRL L m o) (k : ∀ m', zRC L m' o ms0 → zFR o (o + 9) m m' → Q none L m') : zwp 23 0 [zA o] [] L m Q := by
  have r1 := hR.1
  simp (disch := omega) only [s23_0, s23_1, s23_2, s23_5, s23_6, s23_7, s23_10, s23_11, s23_12, s23_15, s23_16, s23_17, s23_20, Int.toNat_natCast, true_and, and_true, true_or, or_true, false_or, or_false, zwr_id, zpu_some, zpu_none, reduceIte, Int.reduceLE, Int.reduceLT, Int.reduceEq, Int.reduceNeg, Int.reduceAdd, Int.reduceSub, Int.reduceMul, Int.reduceToNat, Nat.reduceAdd, Nat.reduceLeDiff, Nat.reduceEqDiff, Nat.reduceLT, eq_self, ne_eq, not_false_eq_true, not_true_eq_false, r1]
  refine k _ ⟨zRL_eq (fun j hj => by rw [zup_nk (by omega), zup_nk (by omega), zup_nk (by omega), zup_nk (by omega)]) hR, ⟨?_, Nat.zero_le _, zAL_nil, zAL_nil, zAL_nil, zAL_nil, zAL_nil, zAL_nil⟩, ⟨?_, Nat.zero_le _, zAL_nil, zAL_nil, zAL_nil⟩, ?_, ?_, (ms0_ok (N := 1)).1⟩ (zFR_up (zFR_up (zFR_up (zFR_up zFR_rf (by omega) (by omega)) (by omega) (by omega)) (by omega) (by omega)) (by omega) (by omega))
  · rw [zup_nk (by omega), zup_nk (by omega), zup_nk (by omega), zup_same]; rfl
  · rw [zup_nk (by omega), zup_nk (by omega), zup_same]; rfl
  · rw [zup_nk (by omega), zup_same]; rfl
  · rw [zup_same]; rfl
/-- a Row at o (its signs o + 1) -/
def zRw (L : zY) (m : zM) (o : Nat) (row : List Int) (caret ov : Int) : Prop := zt L o = 5 ∧ 2 ≤ o ∧ m o 0 = ((o + 1 : Nat) : Int) ∧ zt L (o + 1) = 20 ∧ zn L (o + 1) = 80 ∧ m o 1 = (row.length : Int) ∧ row.length ≤ 80 ∧ m o 2 = caret ∧ m o 3 = ov ∧ zAL m (o + 1) 0 row
theorem zRw_eq {L : zY} {m m' : zM} {o : Nat} {row : List Int} {caret ov : Int} (h0 : m' o = m o) (h1 : m' (o + 1) = m (o + 1)) (h : zRw L m o row caret ov) : zRw L m' o row caret ov := by
  obtain ⟨a1, a2, a3, a4, a5, a6, a7, a8, a9, a10⟩ := h
  exact ⟨a1, a2, by rw [h0]; exact a3, a4, a5, by rw [h0]; exact a6, a7, by rw [h0]; exact a8, by rw [h0]; exact a9, zAL_eq h1 a10⟩
theorem x_signAt {L : zY} {m : zM} {Q : zQ} {o : Nat} {row : List Int} {caret ov : Int} {p : Nat} (h : zRw L m o row caret ov) (hp : p < row.length) : zwp 45 0 [zA o, zI (p : Int)] [] L m Q ↔ Q (some (zI row[p])) L m := by
  obtain ⟨a1, a2, a3, a4, a5, a6, a7, a8, a9, a10⟩ := h
  have y := zAL_get0 a10 hp
  simp (disch := omega) only [s45_0, s45_1, s45_2, s45_5, s45_8, s45_9, s45_12, s45_13, s45_14, s45_17, s45_18, s44_0, s44_1, s44_4, s44_5, s44_6, s44_9, s44_12, s44_13, s44_16, s44_17, Int.toNat_natCast, true_and, and_true, true_or, or_true, false_or, or_false, zwr_id, zpu_some, zpu_none, reduceIte, Int.reduceLE, Int.reduceLT, Int.reduceEq, Int.reduceNeg, Int.reduceAdd, Int.reduceSub, Int.reduceMul, Int.reduceToNat, Nat.reduceAdd, Nat.reduceLeDiff, Nat.reduceEqDiff, Nat.reduceLT, eq_self, ne_eq, not_false_eq_true, not_true_eq_false, a1, a3, a4, a5, a6, y, if_neg, if_pos]
  exact ⟨fun h => h.2, fun h => ⟨by omega, h⟩⟩
theorem c_Rclear {L : zY} {m : zM} {Q : zQ} {o : Nat} {row : List Int} {caret ov : Int} (h : zRw L m o row caret ov) (k : ∀ m', zRw L m' o [] 0 0 → zFR o (o + 1) m m' → Q none L m') : zwp 43 0 [zA o] [] L m Q := by
  obtain ⟨a1, a2, a3, a4, a5, a6, a7, a8, a9, a10⟩ := h
  simp (disch := omega) only [s43_0, s43_1, s43_2, s43_5, s43_6, s43_7, s43_10, s43_11, s43_12, s43_15, Int.toNat_natCast, true_and, and_true, true_or, or_true, false_or, or_false, zwr_id, zpu_some, zpu_none, reduceIte, Int.reduceLE, Int.reduceLT, Int.reduceEq, Int.reduceNeg, Int.reduceAdd, Int.reduceSub, Int.reduceMul, Int.reduceToNat, Nat.reduceAdd, Nat.reduceLeDiff, Nat.reduceEqDiff, Nat.reduceLT, eq_self, ne_eq, not_false_eq_true, not_true_eq_false, a1]
  refine k _ ⟨a1, a2, ?_, a4, a5, ?_, Nat.zero_le _, ?_, ?_, zAL_nil⟩ (zFR_up (zFR_up (zFR_up zFR_rf (by omega) (by omega)) (by omega) (by omega)) (by omega) (by omega))
  · rw [zup_nk (by omega), zup_nk (by omega), zup_nk (by omega)]; exact a3
  · rw [zup_nk (by omega), zup_nk (by omega), zup_same]; rfl
  · rw [zup_nk (by omega), zup_same]
  · rw [zup_same]
theorem c_Rappend {L : zY} {m : zM} {Q : zQ} {o : Nat} {row : List Int} {caret ov sign : Int} (h : zRw L m o row caret ov) (hl : row.length < 80) (k : ∀ m', zRw L m' o (row ++ [sign]) caret ov → zFR o (o + 1) m m' → Q none L m') : zwp 46 0 [zA o, zI sign] [] L m Q := by
  obtain ⟨a1, a2, a3, a4, a5, a6, a7, a8, a9, a10⟩ := h
  have e : zwr ((row.length : Int) + 1) = (row.length : Int) + 1 := zwr_id (by omega) (by omega)
  simp (disch := omega) only [s46_0, s46_1, s46_4, s46_6, s46_9, s46_10, s46_13, s46_14, s46_17, s46_18, s46_19, s46_20, s46_21, s46_24, s46_25, s46_26, s46_29, s46_32, s46_33, s46_34, s46_37, Int.toNat_natCast, true_and, and_true, true_or, or_true, false_or, or_false, zwr_id, zpu_some, zpu_none, reduceIte, Int.reduceLE, Int.reduceLT, Int.reduceEq, Int.reduceNeg, Int.reduceAdd, Int.reduceSub, Int.reduceMul, Int.reduceToNat, Nat.reduceAdd, Nat.reduceLeDiff, Nat.reduceEqDiff, Nat.reduceLT, eq_self, ne_eq, not_false_eq_true, not_true_eq_false, a1, a3, a4, a5, a6, e, zup_na, if_neg, if_pos]
  clear e
  rw [if_neg (by omega)]
  refine ⟨by omega, k _ ⟨a1, a2, ?_, a4, a5, ?_, by rw [List.length_append]; exact hl, ?_, ?_, ?_⟩ (zFR_up (zFR_up zFR_rf (by omega) (by omega)) (by omega) (by omega))⟩
  · rw [zup_nk (by omega), zup_na (by omega)]; exact a3
  · rw [zup_same, List.length_append]; rfl
  · rw [zup_nk (by omega), zup_na (by omega)]; exact a8
  · rw [zup_nk (by omega), zup_na (by omega)]; exact a9
  · have := zAL_push (x := sign) a10
    rw [Nat.zero_add] at this
    exact zAL_eq (zup_nf (by omega)) this
