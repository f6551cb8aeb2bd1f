/-- the END-PARTS as THE MACHINE asks of them when a VOWEL comes; N: how many there are -/
def zSE (L : zY) (m : zM) (c : Nat) (P : zP) (N : Nat) : Prop := ∃ (eE : List (Int × Int)) (nE : Nat), zPT L m (c + 22) 19 eE nE (pEo P) ∧ eE.length = N ∧ ∀ (x : Nat) (hx : x < eE.length), 0 < x → (if x < nE then eE[x].1 else eE[x].2) = (pLa P (x : Int) : Int) + 97 ∧ pLa P (x : Int) < 26 ∧ (x < nE → pCu P (x : Int) = -2) ∧ (nE ≤ x → ∃ k : Nat, k < 26 ∧ eE[x].1 = (k : Int) + 97 ∧ pEo P k = pCu P (x : Int) ∧ 0 < pCu P (x : Int))
theorem x_late {L : zY} {m : zM} {Q : zQ} {o x : Nat} {es : List (Int × Int)} {ns cap : Nat} {sn : Nat → Int} (h : zPT L m o cap es ns sn) (hx : x < es.length) : zwp 21 0 [zA o, zI (x : Int)] [] L m Q ↔ Q (some (zI (if x < ns then es[x].1 else es[x].2))) L m := by
  obtain ⟨d1, d2, d3, d4, d5, d6, d7, d8, d9, d10, d11, d12, d13, d14, d15, d16, d17, d18, d19⟩ := h
  have y1 := zAL_pair d17 hx
  have y2 := zAL_pair d18 hx
  by_cases hn : x < ns
  · simp (disch := omega) only [s21_0, s21_1, s21_4, s21_5, s21_6, s21_9, s21_12, s21_14, s21_15, s21_16, s21_17, s21_20, s21_23, s21_24, s21_27, s21_28, s21_29, s21_32, s21_33, s21_36, s21_37, s21_38, Int.toNat_natCast, true_and, and_true, true_or, or_true, false_or, or_false, zwr_id, zpu_some, zpu_none, reduceIte, Int.reduceLE, Int.reduceLT, Int.reduceEq, Int.reduceNeg, Int.reduceAdd, Int.reduceSub, Int.reduceMul, Int.reduceToNat, Nat.reduceAdd, Nat.reduceLeDiff, Nat.reduceEqDiff, Nat.reduceLT, eq_self, ne_eq, not_false_eq_true, not_true_eq_false, d1, d3, d4, d7, d8, d10, d11, d13, d14, y1, y2, if_neg, if_pos]
    constructor
    · exact fun h => h.2
    · exact fun h => ⟨by omega, h⟩
  · simp (disch := omega) only [s21_0, s21_1, s21_4, s21_5, s21_6, s21_9, s21_12, s21_14, s21_15, s21_16, s21_17, s21_20, s21_23, s21_24, s21_27, s21_28, s21_29, s21_32, s21_33, s21_36, s21_37, s21_38, Int.toNat_natCast, true_and, and_true, true_or, or_true, false_or, or_false, zwr_id, zpu_some, zpu_none, reduceIte, Int.reduceLE, Int.reduceLT, Int.reduceEq, Int.reduceNeg, Int.reduceAdd, Int.reduceSub, Int.reduceMul, Int.reduceToNat, Nat.reduceAdd, Nat.reduceLeDiff, Nat.reduceEqDiff, Nat.reduceLT, eq_self, ne_eq, not_false_eq_true, not_true_eq_false, d1, d3, d4, d7, d8, d10, d11, d13, d14, y1, y2, if_neg, if_pos]
    constructor
    · exact fun h => h.2
    · exact fun h => ⟨by omega, h⟩
theorem x_wo0 {L : zY} {m : zM} {Q : zQ} {o x : Nat} {es : List (Int × Int)} {ns cap : Nat} {sn : Nat → Int} (h : zPT L m o cap es ns sn) (hx : x < ns) : zwp 18 0 [zA o, zI (x : Int)] [] L m Q ↔ Q (some (zI 0)) L m := by
  obtain ⟨d1, d2, d3, d4, d5, d6, d7, d8, d9, d10, d11, d12, d13, d14, d15, d16, d17, d18, d19⟩ := h
  simp (disch := omega) only [s18_0, s18_1, s18_2, s18_5, s18_8, s18_9, s18_10, s18_13, s18_16, s18_17, s18_18, s18_21, s18_22, s18_23, s18_26, s18_29, s18_30, Int.toNat_natCast, true_and, and_true, true_or, or_true, false_or, or_false, zwr_id, zpu_some, zpu_none, reduceIte, Int.reduceLE, Int.reduceLT, Int.reduceEq, Int.reduceNeg, Int.reduceAdd, Int.reduceSub, Int.reduceMul, Int.reduceToNat, Nat.reduceAdd, Nat.reduceLeDiff, Nat.reduceEqDiff, Nat.reduceLT, eq_self, ne_eq, not_false_eq_true, not_true_eq_false, d1, d3, d4, d7, d8, d10, d11, d13, d14, if_neg, if_pos]
theorem x_wo1 {L : zY} {m : zM} {Q : zQ} {o x k : Nat} {es : List (Int × Int)} {ns cap : Nat} {sn : Nat → Int} (h : zPT L m o cap es ns sn) (hx : x < es.length) (hn : ns ≤ x) (hk : k < 26) (he : es[x].1 = (k : Int) + 97) : zwp 18 0 [zA o, zI (x : Int)] [] L m Q ↔ Q (some (zI (sn k))) L m := by
  have h' := h
  obtain ⟨d1, d2, d3, d4, d5, d6, d7, d8, d9, d10, d11, d12, d13, d14, d15, d16, d17, d18, d19⟩ := h'
  have y1 := zAL_pair d17 hx
  rw [he] at y1
  simp (disch := omega) only [s18_0, s18_1, s18_2, s18_5, s18_8, s18_9, s18_10, s18_13, s18_16, s18_17, s18_18, s18_21, s18_22, s18_23, s18_26, s18_29, s18_30, Int.toNat_natCast, true_and, and_true, true_or, or_true, false_or, or_false, zwr_id, zpu_some, zpu_none, reduceIte, Int.reduceLE, Int.reduceLT, Int.reduceEq, Int.reduceNeg, Int.reduceAdd, Int.reduceSub, Int.reduceMul, Int.reduceToNat, Nat.reduceAdd, Nat.reduceLeDiff, Nat.reduceEqDiff, Nat.reduceLT, eq_self, ne_eq, not_false_eq_true, not_true_eq_false, d1, d3, d4, d7, d8, d10, d11, d13, d14, y1, if_neg, if_pos, x_num h hk]
  constructor
  · exact fun h => h.2
  · exact fun h => ⟨by omega, h⟩
