theorem c_rem_loop {L : zY} {Q : zQ} {o n : Nat} (a1 : zt L o = 5) (a2 : 2 ≤ o) (a4 : zt L (o + 1) = 20) (a5 : zn L (o + 1) = 80) (hn : n < 80) : ∀ (d p : Nat) (m : zM), n - p = d → p ≤ n → m o 0 = ((o + 1 : Nat) : Int) → m o 1 = (n : Int) → (∀ m', (∀ a, a ≠ o + 1 → m' a = m a) → (∀ j, j < p → m' (o + 1) j = m (o + 1) j) → (∀ j, p ≤ j → j < n → m' (o + 1) j = m (o + 1) (j + 1)) → Q none L m') → zwp 49 27 [zA o, zI (p : Int)] [] L m Q := by
  intro d
  induction d with
  | zero =>
    intro p m hd hp h0 h1 k
    have e : p = n := by omega
    subst e
    have kk := k m (fun _ _ => rfl) (fun _ _ => rfl) (fun j h1 h2 => absurd h1 (by omega))
    rw [s49_27]
    simp (disch := omega) only [s49_28, s49_29, s49_32, s49_35, s49_36, s49_39, s49_40, s49_41, s49_44, s49_45, s49_46, s49_47, s49_48, s49_49, s49_52, s49_55, Int.toNat_natCast, true_and, and_true, true_or, or_true, false_or, or_false, zwr_id, zpu_some, zpu_none, reduceIte, Int.reduceLE, Int.reduceLT, Int.reduceEq, Int.reduceNeg, Int.reduceAdd, Int.reduceSub, Int.reduceMul, Int.reduceToNat, Nat.reduceAdd, Nat.reduceLeDiff, Nat.reduceEqDiff, Nat.reduceLT, eq_self, ne_eq, not_false_eq_true, not_true_eq_false, a1, h1]
    rw [if_pos (by omega)]
    exact kk
  | succ d ih =>
    intro p m hd hp h0 h1 k
    have e1 : zwr ((p : Int) + 1) = ((p + 1 : Nat) : Int) := by rw [zwr_id (by omega) (by omega)]; omega
    rw [s49_27]
    simp only [s49_28, s49_29, s49_32, s49_35, s49_36, s49_39, s49_40, s49_41, s49_44, s49_45, s49_46, s49_47, s49_48, s49_49, s49_52, s49_55, Int.toNat_natCast, true_and, and_true, true_or, or_true, false_or, or_false, zwr_id, zpu_some, zpu_none, reduceIte, Int.reduceLE, Int.reduceLT, Int.reduceEq, Int.reduceNeg, Int.reduceAdd, Int.reduceSub, Int.reduceMul, Int.reduceToNat, Nat.reduceAdd, Nat.reduceLeDiff, Nat.reduceEqDiff, Nat.reduceLT, eq_self, ne_eq, not_false_eq_true, not_true_eq_false, a1, h0, h1, e1, a4, a5]
    clear e1
    rw [if_neg (by omega)]
    refine ⟨by omega, by omega, ih (p + 1) _ (by omega) (by omega) (by rw [zup_na (by omega)]; exact h0) (by rw [zup_na (by omega)]; exact h1) (fun m' g1 g2 g3 => k m' ?_ ?_ ?_)⟩
    · intro a ha
      rw [g1 a ha, zup_nf ha]
    · intro j hj
      rw [g2 j (by omega), zup_nk (by omega)]
    · intro j h1 h2'
      by_cases hj : j = p
      · subst hj
        rw [g2 j (by omega), zup_same]
      · rw [g3 j (by omega) (by omega), zup_nk (by omega)]
theorem c_remove {L : zY} {m : zM} {Q : zQ} {o c : Nat} {row : List Int} {ov : Int} (h : zRw L m o row (c : Int) ov) (hc : c < row.length) (k : ∀ m', zRw L m' o (row.take c ++ row.drop (c + 1)) (c : Int) ov → zFR o (o + 1) m m' → Q none L m') : zwp 49 0 [zA o, zU] [] L m Q := by
  obtain ⟨a1, a2, a3, a4, a5, a6, a7, a8, a9, a10⟩ := h
  have e1 : zwr ((row.length : Int) - 1) = ((row.length - 1 : Nat) : Int) := by rw [zwr_id (by omega) (by omega)]; omega
  have w2 : ∀ v : Int, zup m o 1 v o 2 = (c : Int) := fun v => by rw [zup_nk (by decide)]; exact a8
  have q1 : ¬ ((row.length : Int) ≤ (c : Int)) := fun q => absurd (Int.ofNat_le.mp q) (Nat.not_le.mpr hc)
  have q2 : ¬ ((c : Int) < 0) := fun q => absurd q (Int.not_lt.mpr (Int.natCast_nonneg c))
  simp only [s49_0, s49_1, s49_2, s49_5, s49_8, s49_11, s49_12, s49_13, s49_14, s49_17, s49_18, s49_19, s49_22, s49_23, s49_26, s44_0, s44_1, s44_4, s44_5, s44_6, s44_9, s44_12, s44_13, s44_16, s44_17, Int.toNat_natCast, true_and, and_true, true_or, or_true, false_or, or_false, zwr_id, zpu_some, zpu_none, reduceIte, Int.reduceLE, Int.reduceLT, Int.reduceEq, Int.reduceNeg, Int.reduceAdd, Int.reduceSub, Int.reduceMul, Int.reduceToNat, Nat.reduceAdd, Nat.reduceLeDiff, Nat.reduceEqDiff, Nat.reduceLT, eq_self, ne_eq, not_false_eq_true, not_true_eq_false, a1, a6, a8, e1, w2, if_neg q1, if_neg q2]
  clear e1
  have hlen : (row.take c ++ row.drop (c + 1)).length = row.length - 1 := by
    rw [List.length_append, List.length_take, List.length_drop]; omega
  refine c_rem_loop a1 a2 a4 a5 (n := row.length - 1) (by omega) (row.length - 1 - c) c _ rfl (by omega) (by rw [zup_nk (by omega)]; exact a3) zup_same (fun m' g1 g2 g3 => k m' ⟨a1, a2, ?_, a4, a5, ?_, ?_, ?_, ?_, ?_⟩ ?_)
  · rw [g1 o (by omega), zup_nk (by omega)]; exact a3
  · rw [g1 o (by omega), zup_same, hlen]
  · rw [hlen]; omega
  · rw [g1 o (by omega), zup_nk (by omega)]; exact a8
  · rw [g1 o (by omega), zup_nk (by omega)]; exact a9
  · intro i x hi
    rw [Nat.zero_add]
    by_cases h1 : i < c
    · rw [List.getElem?_append_left (by rw [List.length_take]; omega), List.getElem?_take_of_lt h1] at hi
      have := a10 i x hi
      rw [g2 i h1, zup_na (by omega)]
      rw [Nat.zero_add] at this
      exact this
    · rw [List.getElem?_append_right (by rw [List.length_take]; omega), List.length_take, Nat.min_eq_left (by omega), List.getElem?_drop] at hi
      have hlt := (List.getElem?_eq_some_iff.mp hi).1
      have := a10 _ x hi
      rw [Nat.zero_add] at this
      rw [g3 i (by omega) (by omega), zup_na (by omega), show i + 1 = c + 1 + (i - c) by omega]
      exact this
  · exact fun a ha => by rw [g1 a (by omega), zup_nf (by omega)]
