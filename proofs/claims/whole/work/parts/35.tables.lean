theorem c_fillI {L : zY} {m : zM} {Q : zQ} {a n : Nat} {v : Int} (h1 : zt L a = 20) (h2 : zn L a = n) (h3 : n < 1000) (h4 : 2 ≤ a) (k : ∀ m', (∀ j, j < n → m' a j = v) → (∀ b, b ≠ a → m' b = m b) → Q none L m') : zwp 267 0 [zA a, zI v, zU, zU] [] L m Q := by
  simp only [s267_0, s267_1, s267_2, s267_3, s267_4, Int.toNat_natCast, true_and, and_true, true_or, or_true, false_or, or_false, zwr_id, zpu_some, zpu_none, reduceIte, Int.reduceLE, Int.reduceLT, Int.reduceEq, Int.reduceNeg, Int.reduceAdd, Int.reduceSub, Int.reduceMul, Int.reduceToNat, Nat.reduceAdd, Nat.reduceLeDiff, Nat.reduceEqDiff, Nat.reduceLT, eq_self, ne_eq, not_false_eq_true, not_true_eq_false, h1, h2]
  refine zfor (n := n) (fun i => [zA a, zI v, zI (i : Nat), zI (n : Nat)]) (fun i m' => (∀ j, j < i → m' a j = v) ∧ ∀ b, b ≠ a → m' b = m b) ?_ ?_ 0 m (Nat.zero_le _) ⟨fun j hj => absurd hj (by omega), fun _ _ => rfl⟩
  · rintro i m1 hi ⟨g1, g2⟩ ih
    simp only [s267_5]
    simp only [s267_6, s267_7, s267_10, s267_11, s267_12, s267_13, s267_14, s267_17, Int.toNat_natCast, true_and, and_true, true_or, or_true, false_or, or_false, zwr_id, zpu_some, zpu_none, reduceIte, Int.reduceLE, Int.reduceLT, Int.reduceEq, Int.reduceNeg, Int.reduceAdd, Int.reduceSub, Int.reduceMul, Int.reduceToNat, Nat.reduceAdd, Nat.reduceLeDiff, Nat.reduceEqDiff, Nat.reduceLT, eq_self, ne_eq, not_false_eq_true, not_true_eq_false, h1, h2, (z1 (i := i) (by omega))]
    rw [if_neg (by omega)]
    refine ⟨by omega, ih _ ⟨fun j hj => ?_, fun b hb => by rw [zup_nf hb]; exact g2 b hb⟩⟩
    by_cases e : j = i
    · rw [e, zup_same]
    · rw [zup_nk e]; exact g1 j (by omega)
  · rintro m1 ⟨g1, g2⟩
    simp only [s267_5]
    simp only [s267_6, s267_7, s267_10, s267_11, s267_12, s267_13, s267_14, s267_17, s267_20, Int.toNat_natCast, true_and, and_true, true_or, or_true, false_or, or_false, zwr_id, zpu_some, zpu_none, reduceIte, Int.reduceLE, Int.reduceLT, Int.reduceEq, Int.reduceNeg, Int.reduceAdd, Int.reduceSub, Int.reduceMul, Int.reduceToNat, Nat.reduceAdd, Nat.reduceLeDiff, Nat.reduceEqDiff, Nat.reduceLT, eq_self, ne_eq, not_false_eq_true, not_true_eq_false]
    rw [if_pos (by omega)]
    exact k m1 g1 g2
/-- a PartTable's object and rows -/
def zPl (L : zY) (m : zM) (o cap : Nat) : Prop := zt L o = 3 ∧ 2 ≤ o ∧ m o 0 = ((o + 2 : Nat) : Int) ∧ m o 1 = ((o + 3 : Nat) : Int) ∧ m o 2 = ((o + 1 : Nat) : Int) ∧ zt L (o + 1) = 20 ∧ zt L (o + 2) = 20 ∧ zt L (o + 3) = 20 ∧ zn L (o + 1) = 26 ∧ zn L (o + 2) = cap ∧ zn L (o + 3) = cap ∧ cap < 1000
theorem zPl_eq {L : zY} {m m' : zM} {o cap : Nat} (h : m' o = m o) (hh : zPl L m o cap) : zPl L m' o cap := by
  obtain ⟨a1, a2, a3, a4, a5, a6⟩ := hh
  exact ⟨a1, a2, by rw [h]; exact a3, by rw [h]; exact a4, by rw [h]; exact a5, a6⟩
theorem zPT_l {L : zY} {m : zM} {o cap : Nat} {es : List (Int × Int)} {ns : Nat} {sn : Nat → Int} (h : zPT L m o cap es ns sn) : zPl L m o cap := by
  obtain ⟨a1, a2, a3, a4, a5, a6, a7, a8, a9, a10, a11, a12, a13, a14, a15, a16, a17, a18, a19⟩ := h
  exact ⟨a1, a2, a3, a4, a5, a6, a7, a8, a9, a10, a11, a12⟩
theorem c_ptclear {L : zY} {m : zM} {Q : zQ} {o cap : Nat} (h : zPl L m o cap) (k : ∀ m', zPT L m' o cap [] 0 (fun _ => -2) → zFR o (o + 3) m m' → Q none L m') : zwp 12 0 [zA o] [] L m Q := by
  obtain ⟨a1, a2, a3, a4, a5, a6, a7, a8, a9, a10, a11, a12⟩ := h
  simp only [s12_0, s12_1, s12_4, s12_6, Int.toNat_natCast, true_and, and_true, true_or, or_true, false_or, or_false, zwr_id, zpu_some, zpu_none, reduceIte, Int.reduceLE, Int.reduceLT, Int.reduceEq, Int.reduceNeg, Int.reduceAdd, Int.reduceSub, Int.reduceMul, Int.reduceToNat, Nat.reduceAdd, Nat.reduceLeDiff, Nat.reduceEqDiff, Nat.reduceLT, eq_self, ne_eq, not_false_eq_true, not_true_eq_false, a1, a5]
  refine c_fillI a6 a9 (by omega) (by omega) (fun m1 g1 g2 => ?_)
  have e0 : m1 o = m o := g2 o (by omega)
  simp (disch := omega) only [s12_9, s12_10, s12_11, s12_14, s12_15, s12_16, s12_19, Int.toNat_natCast, true_and, and_true, true_or, or_true, false_or, or_false, zwr_id, zpu_some, zpu_none, reduceIte, Int.reduceLE, Int.reduceLT, Int.reduceEq, Int.reduceNeg, Int.reduceAdd, Int.reduceSub, Int.reduceMul, Int.reduceToNat, Nat.reduceAdd, Nat.reduceLeDiff, Nat.reduceEqDiff, Nat.reduceLT, eq_self, ne_eq, not_false_eq_true, not_true_eq_false, a1]
  refine k _ ⟨a1, a2, ?_, ?_, ?_, a6, a7, a8, a9, a10, a11, a12, ?_, ?_, Nat.zero_le _, Nat.le_refl _, zAL_nil, zAL_nil, fun j hj => ?_⟩ (zFR_up (zFR_up (m' := m1) (fun a ha => g2 a (by omega)) (by omega) (by omega)) (by omega) (by omega))
  · rw [zup_nk (by omega), zup_nk (by omega), e0]; exact a3
  · rw [zup_nk (by omega), zup_nk (by omega), e0]; exact a4
  · rw [zup_nk (by omega), zup_nk (by omega), e0]; exact a5
  · rw [zup_nk (by omega), zup_same]; rfl
  · rw [zup_same]; rfl
  · rw [zup_na (by omega), zup_na (by omega)]; exact g1 j hj
theorem c_double {L : zY} {m : zM} {Q : zQ} {o cap : Nat} {es : List (Int × Int)} {ns : Nat} {sn : Nat → Int} {x y : Int} (h : zPT L m o cap es ns sn) (hl : es.length < cap) (k : ∀ m', zPT L m' o cap (es ++ [(x, y)]) ns sn → zFR o (o + 3) m m' → Q none L m') : zwp 14 0 [zA o, zI x, zI y] [] L m Q := by
  obtain ⟨a1, a2, a3, a4, a5, a6, a7, a8, a9, a10, a11, a12, a13, a14, a15, a16, a17, a18, a19⟩ := h
  simp (disch := omega) only [s14_0, s14_1, s14_4, s14_5, s14_8, s14_9, s14_12, s14_13, s14_16, s14_17, s14_20, s14_21, s14_24, s14_25, s14_28, s14_29, s14_32, s14_33, s14_34, s14_35, s14_38, s14_39, s14_42, s14_43, s14_44, s14_45, s14_46, s14_49, s14_50, s14_51, s14_54, Int.toNat_natCast, true_and, and_true, zpu_none, zpu_some, Nat.reduceLeDiff, a1, a3, a4, a7, a8, a10, a11, a14, zup_na, (z1 (i := es.length) (by omega))]
  rw [if_neg (by omega), if_neg (by omega)]
  refine ⟨by omega, by omega, k _ ⟨a1, a2, ?_, ?_, ?_, a6, a7, a8, a9, a10, a11, a12, ?_, ?_, ?_, ?_, ?_, ?_, fun j hj => ?_⟩ (zFR_up (zFR_up (zFR_up zFR_rf (by omega) (by omega)) (by omega) (by omega)) (by omega) (by omega))⟩
  · rw [zup_nk (by omega), zup_na (by omega), zup_na (by omega)]; exact a3
  · rw [zup_nk (by omega), zup_na (by omega), zup_na (by omega)]; exact a4
  · rw [zup_nk (by omega), zup_na (by omega), zup_na (by omega)]; exact a5
  · rw [zup_nk (by omega), zup_na (by omega), zup_na (by omega)]; exact a13
  · rw [zup_same, List.length_append]; rfl
  · rw [List.length_append]; exact hl
  · rw [List.length_append]; omega
  · have := zAL_push (x := x) a17
    rw [Nat.zero_add, List.length_map] at this
    rw [List.map_append]
    exact zAL_eq (m := zup m (o + 2) es.length x) (by rw [zup_nf (by omega), zup_nf (by omega)]) this
  · have := zAL_push (x := y) a18
    rw [Nat.zero_add, List.length_map] at this
    rw [List.map_append]
    exact zAL_eq (m := zup m (o + 3) es.length y) (by rw [zup_nf (by omega)]; funext j; unfold zup; by_cases e : j = es.length <;> simp [e] <;> omega) this
  · rw [zup_na (by omega), zup_na (by omega), zup_na (by omega)]; exact a19 j hj
theorem zPT_sing {L : zY} {m : zM} {o cap : Nat} {es : List (Int × Int)} {ns : Nat} {sn : Nat → Int} (h : zPT L m o cap es ns sn) : zPT L (zup m o 3 (es.length : Int)) o cap es es.length sn := by
  obtain ⟨a1, a2, a3, a4, a5, a6, a7, a8, a9, a10, a11, a12, a13, a14, a15, a16, a17, a18, a19⟩ := h
  refine ⟨a1, a2, ?_, ?_, ?_, a6, a7, a8, a9, a10, a11, a12, zup_same, ?_, a15, Nat.le_refl _, zAL_eq (zup_nf (by omega)) a17, zAL_eq (zup_nf (by omega)) a18, fun j hj => ?_⟩
  · rw [zup_nk (by omega)]; exact a3
  · rw [zup_nk (by omega)]; exact a4
  · rw [zup_nk (by omega)]; exact a5
  · rw [zup_nk (by omega)]; exact a14
  · rw [zup_na (by omega)]; exact a19 j hj
theorem c_single {L : zY} {m : zM} {Q : zQ} {o cap c : Nat} {es : List (Int × Int)} {ns : Nat} {sn : Nat → Int} (h : zPT L m o cap es ns sn) (hl : es.length < cap) (hc : c < 26) (k : ∀ m', zPT L m' o cap (es ++ [((c : Int) + 97, -2)]) (es.length + 1) (fun j => if j = c then (es.length : Int) else sn j) → zFR o (o + 3) m m' → Q none L m') : zwp 13 0 [zA o, zI ((c : Int) + 97)] [] L m Q := by
  obtain ⟨a1, a2, a3, a4, a5, a6, a7, a8, a9, a10, a11, a12, a13, a14, a15, a16, a17, a18, a19⟩ := h
  simp only [s13_0, s13_1, s13_4, s13_7, s13_8, s13_11, s13_12, s13_14, s13_15, s13_16, s13_19, s13_20, s13_21, s13_22, s13_24, s158_0, s158_1, s158_3, s158_6, s158_7, s158_9, s158_12, s158_13, s158_16, s158_17, Int.toNat_natCast, true_and, and_true, true_or, or_true, false_or, or_false, zwr_id, zpu_some, zpu_none, reduceIte, Int.reduceLE, Int.reduceLT, Int.reduceEq, Int.reduceNeg, Int.reduceAdd, Int.reduceSub, Int.reduceMul, Int.reduceToNat, Nat.reduceAdd, Nat.reduceLeDiff, Nat.reduceEqDiff, Nat.reduceLT, eq_self, ne_eq, not_false_eq_true, not_true_eq_false, a1, a5, a6, a9, a14, (show zwr ((c : Int) + 97 - 97) = (c : Int) by rw [zwr_id (by omega) (by omega)]; omega)]
  rw [if_neg (by omega), if_neg (by omega)]
  refine ⟨by omega, ?_⟩
  have h1 : zPT L (zup m (o + 1) c (es.length : Int)) o cap es ns (fun j => if j = c then (es.length : Int) else sn j) := by
    refine ⟨a1, a2, ?_, ?_, ?_, a6, a7, a8, a9, a10, a11, a12, ?_, ?_, a15, a16, zAL_eq (zup_nf (by omega)) a17, zAL_eq (zup_nf (by omega)) a18, fun j hj => ?_⟩
    · rw [zup_na (by omega)]; exact a3
    · rw [zup_na (by omega)]; exact a4
    · rw [zup_na (by omega)]; exact a5
    · rw [zup_na (by omega)]; exact a13
    · rw [zup_na (by omega)]; exact a14
    · show _ = if j = c then (es.length : Int) else sn j
      by_cases e : j = c
      · rw [if_pos e, e, zup_same]
      · rw [if_neg e, zup_nk e]; exact a19 j hj
  refine c_double h1 hl (fun m2 g2 f2 => ?_)
  have b4 := g2.2.2.2.2.2.2.2.2.2.2.2.2.2.1
  simp (disch := omega) only [s13_27, s13_28, s13_29, s13_32, s13_35, Int.toNat_natCast, true_and, and_true, true_or, or_true, false_or, or_false, zwr_id, zpu_some, zpu_none, reduceIte, Int.reduceLE, Int.reduceLT, Int.reduceEq, Int.reduceNeg, Int.reduceAdd, Int.reduceSub, Int.reduceMul, Int.reduceToNat, Nat.reduceAdd, Nat.reduceLeDiff, Nat.reduceEqDiff, Nat.reduceLT, eq_self, ne_eq, not_false_eq_true, not_true_eq_false, a1, b4]
  have := zPT_sing g2
  rw [List.length_append] at this
  refine k _ ?_ (zFR_up (zFR_tr (zFR_up zFR_rf (by omega) (by omega)) f2) (by omega) (by omega))
  rw [List.length_append]
  exact this
theorem c_singleN {L : zY} {m : zM} {Q : zQ} {o cap : Nat} {es : List (Int × Int)} {ns : Nat} {sn : Nat → Int} (h : zPT L m o cap es ns sn) (hl : es.length < cap) (k : ∀ m', zPT L m' o cap (es ++ [(-2, -2)]) (es.length + 1) sn → zFR o (o + 3) m m' → Q none L m') : zwp 13 0 [zA o, zI (-2)] [] L m Q := by
  have a1 := h.1
  simp only [s13_0, s13_1, s13_4, s13_7, s13_8, s13_11, s13_12, s13_14, s13_15, s13_16, s13_19, s13_20, s13_21, s13_22, s13_24, s158_0, s158_1, s158_3, s158_6, s158_7, s158_9, s158_12, s158_13, s158_16, s158_17, Int.toNat_natCast, true_and, and_true, true_or, or_true, false_or, or_false, zwr_id, zpu_some, zpu_none, reduceIte, Int.reduceLE, Int.reduceLT, Int.reduceEq, Int.reduceNeg, Int.reduceAdd, Int.reduceSub, Int.reduceMul, Int.reduceToNat, Nat.reduceAdd, Nat.reduceLeDiff, Nat.reduceEqDiff, Nat.reduceLT, eq_self, ne_eq, not_false_eq_true, not_true_eq_false, a1]
  refine c_double h hl (fun m2 g2 f2 => ?_)
  have b4 := g2.2.2.2.2.2.2.2.2.2.2.2.2.2.1
  simp (disch := omega) only [s13_27, s13_28, s13_29, s13_32, s13_35, Int.toNat_natCast, true_and, and_true, true_or, or_true, false_or, or_false, zwr_id, zpu_some, zpu_none, reduceIte, Int.reduceLE, Int.reduceLT, Int.reduceEq, Int.reduceNeg, Int.reduceAdd, Int.reduceSub, Int.reduceMul, Int.reduceToNat, Nat.reduceAdd, Nat.reduceLeDiff, Nat.reduceEqDiff, Nat.reduceLT, eq_self, ne_eq, not_false_eq_true, not_true_eq_false, a1, b4]
  have := zPT_sing g2
  rw [List.length_append] at this
  refine k _ ?_ (zFR_up f2 (by omega) (by omega))
  rw [List.length_append]
  exact this
theorem x_keyAt {L : zY} {m : zM} {Q : zQ} {o cap i : Nat} {xs : List Int} (h : zKL L m o cap xs) (hi : i < xs.length) : zwp 9 0 [zA o, zI (i : Nat)] [] L m Q ↔ Q (some (zI xs[i])) L m := by
  obtain ⟨a1, a2, a3, a4, a5, a6, a7, a8, a9⟩ := h
  have e1 : ¬ (i : Int) < 0 := by omega
  have e2 : ¬ (xs.length : Int) ≤ (i : Int) := by omega
  have e3 : 0 ≤ (i : Int) ∧ (i : Int) < (cap : Int) := by omega
  simp only [s9_0, s9_1, s9_2, s9_5, s9_8, s9_9, s9_12, s9_13, s9_14, s9_17, s9_19, s8_0, s8_1, s8_4, s8_5, s8_6, s8_9, s8_12, s8_13, s8_16, s8_17, Int.toNat_natCast, true_and, and_true, true_or, or_true, false_or, or_false, zwr_id, zpu_some, zpu_none, reduceIte, Int.reduceLE, Int.reduceLT, Int.reduceEq, Int.reduceNeg, Int.reduceAdd, Int.reduceSub, Int.reduceMul, Int.reduceToNat, Nat.reduceAdd, Nat.reduceLeDiff, Nat.reduceEqDiff, Nat.reduceLT, eq_self, ne_eq, not_false_eq_true, not_true_eq_false, a1, a2, a3, a6, a7, e1, e2, e3, and_self, zAL_get0 a9 hi]
theorem x_full {L : zY} {m : zM} {Q : zQ} {o cap : Nat} {xs : List Int} (h : zKL L m o cap xs) : zwp 6 0 [zA o] [] L m Q ↔ Q (some (zI (if cap ≤ xs.length then 1 else 0))) L m := by
  obtain ⟨a1, a2, a3, a4, a5, a6, a7, a8, a9⟩ := h
  simp only [s6_0, s6_1, s6_4, s6_5, s6_8, s6_9, s6_12, s6_13, s6_16, s6_17, Int.toNat_natCast, true_and, and_true, true_or, or_true, false_or, or_false, zwr_id, zpu_some, zpu_none, reduceIte, Int.reduceLE, Int.reduceLT, Int.reduceEq, Int.reduceNeg, Int.reduceAdd, Int.reduceSub, Int.reduceMul, Int.reduceToNat, Nat.reduceAdd, Nat.reduceLeDiff, Nat.reduceEqDiff, Nat.reduceLT, eq_self, ne_eq, not_false_eq_true, not_true_eq_false, a1, a2, a3, a6, a7]
  by_cases e : cap ≤ xs.length
  · rw [if_neg (by omega), if_pos e]
  · rw [if_pos (by omega), if_neg e]
theorem zKL_nil {L : zY} {m : zM} {o cap : Nat} {xs : List Int} (h : zKL L m o cap xs) : zKL L (zup m o 1 0) o cap [] := by
  obtain ⟨a1, a2, a3, a4, a5, a6, a7, a8, a9⟩ := h
  exact ⟨a1, a2, a3, a4, a5, by rw [zup_nk (by omega)]; exact a6, zup_same, Nat.zero_le _, zAL_nil⟩
