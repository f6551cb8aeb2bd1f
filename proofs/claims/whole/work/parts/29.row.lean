theorem c_ins_loop {L : zY} {Q : zQ} {o c : Nat} {sign : Int} (a1 : zt L o = 5) (a2 : 2 ≤ o) (a4 : zt L (o + 1) = 20) (a5 : zn L (o + 1) = 80) : ∀ (d p : Nat) (m : zM), p - c = d → c ≤ p → p < 80 → m o 0 = ((o + 1 : Nat) : Int) → m o 2 = (c : Int) → (∀ m', (∀ a, a ≠ o + 1 → m' a = m a) → (∀ j, j ≤ c → m' (o + 1) j = m (o + 1) j) → (∀ j, c < j → j ≤ p → m' (o + 1) j = m (o + 1) (j - 1)) → (∀ j, p < j → m' (o + 1) j = m (o + 1) j) → zwp 48 61 [zA o, zI sign, zI (c : Int)] [] L m' Q) → zwp 48 33 [zA o, zI sign, zI (p : Int)] [] L m Q := by
  intro d
  induction d with
  | zero =>
    intro p m hd hc hp h0 h2 k
    have e : p = c := by omega
    subst e
    have kk := k m (fun _ _ => rfl) (fun _ _ => rfl) (fun j h1 h2 => absurd h1 (by omega)) (fun _ _ => rfl)
    rw [s48_33]
    simp (disch := omega) only [s48_34, s48_35, s48_38, s48_41, s48_42, s48_45, s48_46, s48_47, s48_50, s48_51, s48_52, s48_53, s48_54, s48_55, s48_58, Int.toNat_natCast, true_and, and_true, true_or, or_true, false_or, or_false, zwr_id, zpu_some, zpu_none, reduceIte, Int.reduceLE, Int.reduceLT, Int.reduceEq, Int.reduceNeg, Int.reduceAdd, Int.reduceSub, Int.reduceMul, Int.reduceToNat, Nat.reduceAdd, Nat.reduceLeDiff, Nat.reduceEqDiff, Nat.reduceLT, eq_self, ne_eq, not_false_eq_true, not_true_eq_false, a1, h2]
    rw [if_pos (by omega)]
    exact kk
  | succ d ih =>
    intro p m hd hc hp h0 h2 k
    have e1 : zwr ((p : Int) - 1) = ((p - 1 : Nat) : Int) := by rw [zwr_id (by omega) (by omega)]; omega
    have e2 : zwr ((p : Int) + (-1)) = ((p - 1 : Nat) : Int) := by rw [zwr_id (by omega) (by omega)]; omega
    rw [s48_33]
    simp only [s48_34, s48_35, s48_38, s48_41, s48_42, s48_45, s48_46, s48_47, s48_50, s48_51, s48_52, s48_53, s48_54, s48_55, s48_58, Int.toNat_natCast, true_and, and_true, true_or, or_true, false_or, or_false, zwr_id, zpu_some, zpu_none, reduceIte, Int.reduceLE, Int.reduceLT, Int.reduceEq, Int.reduceNeg, Int.reduceAdd, Int.reduceSub, Int.reduceMul, Int.reduceToNat, Nat.reduceAdd, Nat.reduceLeDiff, Nat.reduceEqDiff, Nat.reduceLT, eq_self, ne_eq, not_false_eq_true, not_true_eq_false, a1, h0, h2, e1, e2, a4, a5]
    clear e1 e2
    rw [if_neg (by omega)]
    refine ⟨by omega, by omega, ih (p - 1) _ (by omega) (by omega) (by omega) (by rw [zup_na (by omega)]; exact h0) (by rw [zup_na (by omega)]; exact h2) (fun m' g1 g2 g3 g4 => k m' ?_ ?_ ?_ ?_)⟩
    · intro a ha
      rw [g1 a ha, zup_nf ha]
    · intro j hj
      rw [g2 j hj, zup_nk (by omega)]
    · intro j h1 h2'
      by_cases hj : j = p
      · subst hj
        rw [g4 j (by omega), zup_same]
      · rw [g3 j h1 (by omega), zup_nk (by omega)]
    · intro j hj
      rw [g4 j (by omega), zup_nk (by omega)]
theorem c_insert {L : zY} {m : zM} {Q : zQ} {o c : Nat} {row : List Int} {ov sign : Int} (h : zRw L m o row (c : Int) ov) (hl : row.length < 80) (hc : c ≤ row.length) (k : ∀ m', zRw L m' o (row.take c ++ sign :: row.drop c) ((c : Int) + 1) ov → zFR o (o + 1) m m' → Q none L m') : zwp 48 0 [zA o, zI sign, zU] [] L m Q := by
  obtain ⟨a1, a2, a3, a4, a5, a6, a7, a8, a9, a10⟩ := h
  simp (disch := omega) only [s48_0, s48_1, s48_4, s48_6, s48_9, s48_10, s48_13, s48_16, s48_17, s48_20, s48_21, s48_24, s48_27, s48_28, s48_29, s48_32, Int.toNat_natCast, true_and, and_true, true_or, or_true, false_or, or_false, zwr_id, zpu_some, zpu_none, reduceIte, Int.reduceLE, Int.reduceLT, Int.reduceEq, Int.reduceNeg, Int.reduceAdd, Int.reduceSub, Int.reduceMul, Int.reduceToNat, Nat.reduceAdd, Nat.reduceLeDiff, Nat.reduceEqDiff, Nat.reduceLT, eq_self, ne_eq, not_false_eq_true, not_true_eq_false, a1, a6, a8]
  rw [if_neg (by omega), if_neg (by omega), if_pos (by omega)]
  refine c_ins_loop a1 a2 a4 a5 (row.length - c) row.length m rfl hc hl a3 a8 (fun m' g1 g2 g3 g4 => ?_)
  have b3 : m' o 0 = ((o + 1 : Nat) : Int) := by rw [g1 o (by omega)]; exact a3
  have b6 : m' o 1 = (row.length : Int) := by rw [g1 o (by omega)]; exact a6
  have b8 : m' o 2 = (c : Int) := by rw [g1 o (by omega)]; exact a8
  have b9 : m' o 3 = ov := by rw [g1 o (by omega)]; exact a9
  have w1 : ∀ v : Int, zup m' (o + 1) c v o 1 = (row.length : Int) := fun v => by rw [zup_na (by omega)]; exact b6
  have w2 : ∀ v w : Int, zup (zup m' (o + 1) c v) o 1 w o 2 = (c : Int) := fun v w => by rw [zup_nk (by omega), zup_na (by omega)]; exact b8
  obtain ⟨e1, e2⟩ : zwr ((row.length : Int) + 1) = (row.length : Int) + 1 ∧ zwr ((c : Int) + 1) = (c : Int) + 1 := ⟨zwr_id (by omega) (by omega), zwr_id (by omega) (by omega)⟩
  simp only [s48_61, s48_62, s48_65, s48_66, s48_69, s48_70, s48_71, s48_72, s48_73, s48_76, s48_77, s48_78, s48_81, s48_82, s48_83, s48_86, s48_87, s48_88, s48_91, Int.toNat_natCast, true_and, and_true, true_or, or_true, false_or, or_false, zwr_id, zpu_some, zpu_none, reduceIte, Int.reduceLE, Int.reduceLT, Int.reduceEq, Int.reduceNeg, Int.reduceAdd, Int.reduceSub, Int.reduceMul, Int.reduceToNat, Nat.reduceAdd, Nat.reduceLeDiff, Nat.reduceEqDiff, Nat.reduceLT, eq_self, ne_eq, not_false_eq_true, not_true_eq_false, a1, b3, b8, a4, a5, w1, w2, e1, e2]
  clear e1 e2
  have hlen : (row.take c ++ sign :: row.drop c).length = row.length + 1 := by
    rw [List.length_append, List.length_cons, List.length_take, List.length_drop]; omega
  refine ⟨by omega, k _ ⟨a1, a2, ?_, a4, a5, ?_, ?_, ?_, ?_, ?_⟩ ?_⟩
  · rw [zup_nk (by omega), zup_nk (by omega), zup_na (by omega)]; exact b3
  · rw [zup_nk (by omega), zup_same, hlen]; rfl
  · rw [hlen]; exact hl
  · rw [zup_same]
  · rw [zup_nk (by omega), zup_nk (by omega), zup_na (by omega)]; exact b9
  · refine zAL_eq (m := zup m' (o + 1) c sign) (by rw [zup_nf (by omega), zup_nf (by omega)]) ?_
    intro i x hi
    rw [Nat.zero_add]
    by_cases h1 : i < c
    · rw [List.getElem?_append_left (by rw [List.length_take]; omega), List.getElem?_take_of_lt h1] at hi
      have := a10 i x hi
      rw [zup_nk (by omega), g2 i (by omega)]
      rw [Nat.zero_add] at this
      exact this
    · rw [List.getElem?_append_right (by rw [List.length_take]; omega), List.length_take, Nat.min_eq_left hc] at hi
      by_cases h2 : i = c
      · subst h2
        rw [Nat.sub_self, List.getElem?_cons_zero] at hi
        rw [zup_same]
        exact Option.some.inj hi
      · rw [show i - c = (i - c - 1) + 1 by omega, List.getElem?_cons_succ, List.getElem?_drop] at hi
        have hlt := (List.getElem?_eq_some_iff.mp hi).1
        have := a10 _ x hi
        rw [Nat.zero_add] at this
        rw [zup_nk h2, g3 i (by omega) (by omega), show i - 1 = c + (i - c - 1) by omega]
        exact this
  · refine zFR_up (zFR_up (zFR_up (m' := m') ?_ (by omega) (by omega)) (by omega) (by omega)) (by omega) (by omega)
    exact fun a ha => g1 a (by omega)
