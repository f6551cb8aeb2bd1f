/-! the constructors -/
theorem znu_mk {l : List (Nat × Nat)} {y : Nat × Nat} {t f : Nat} : znu (l, y) t f = (l ++ [(t, f)], y) := rfl
theorem zt_app {l x : List (Nat × Nat)} {y : Nat × Nat} {a : Nat} (h : a < l.length) : zt (l ++ x, y) a = zt (l, y) a := by
  show ((l ++ x).getD a (0, 0)).1 = (l.getD a (0, 0)).1
  rw [List.getD_eq_getElem?_getD, List.getD_eq_getElem?_getD, List.getElem?_append_left h]
theorem zclr_1 {m : zM} {a b : Nat} (h : b ≠ a) : zclr m a 1 b = m b := funext (fun k => if_neg (by omega))
theorem zclr_s {m : zM} {a k : Nat} : zclr m a 1 a k = 0 := if_pos (by omega)

theorem i_tape {l : List (Nat × Nat)} {m : zM} {Q : zQ} {n : Nat} (hl : l.length = n + 1) (h2 : 2 ≤ n) (t : zt (l, (0, 0)) n = 9) (k : ∀ m', m' n 0 = ((n + 1 : Nat) : Int) → m' n 1 = 0 → (∀ a, a < n ∨ n + 1 < a → m' a = m a) → Q none (l ++ [(20, 300)], (0, 0)) m') : zwp 102 0 [zA n] [] (l, (0, 0)) m Q := by
  have za : ∀ x, zt (l ++ x, (0, 0)) n = 9 := fun x => (zt_app (by omega)).trans t
  simp only [s102_0, s102_1, s102_4, s102_5, s102_8, s102_10, s102_13, s102_14, s102_15, s102_18, Int.toNat_natCast, true_and, and_true, true_or, or_true, false_or, or_false, zwr_id, zpu_some, zpu_none, reduceIte, Int.reduceLE, Int.reduceLT, Int.reduceEq, Int.reduceNeg, Int.reduceAdd, Int.reduceSub, Int.reduceMul, Int.reduceToNat, Nat.reduceAdd, Nat.reduceLeDiff, Nat.reduceEqDiff, Nat.reduceLT, eq_self, ne_eq, not_false_eq_true, not_true_eq_false, List.append_assoc, List.cons_append, List.nil_append, List.length_append, List.length_cons, List.length_nil, Nat.add_assoc, Nat.reduceAdd, znu_mk, Int.reduceToNat, Nat.add_lt_add_iff_left, Nat.reduceLT, t, za, hl, h2]
  refine k _ ?_ ?_ (fun a ha => ?_)
  · simp (disch := omega) only [zup_same, zup_nk]
  · simp (disch := omega) only [zup_same, zup_nk]
  · rw [zup_nf (by omega), zup_nf (by omega), zclr_1 (by omega)]
theorem i_row {l : List (Nat × Nat)} {m : zM} {Q : zQ} {n : Nat} (hl : l.length = n + 1) (h2 : 2 ≤ n) (t : zt (l, (0, 0)) n = 5) (k : ∀ m', m' n 0 = ((n + 1 : Nat) : Int) → m' n 1 = 0 → m' n 2 = 0 → m' n 3 = 0 → (∀ a, a < n ∨ n + 1 < a → m' a = m a) → Q none (l ++ [(20, 80)], (0, 0)) m') : zwp 42 0 [zA n] [] (l, (0, 0)) m Q := by
  have za : ∀ x, zt (l ++ x, (0, 0)) n = 5 := fun x => (zt_app (by omega)).trans t
  simp only [s42_0, s42_1, s42_4, s42_5, s42_7, s42_9, s42_12, s42_13, s42_14, s42_17, s42_18, s42_19, s42_22, s42_23, s42_24, s42_27, Int.toNat_natCast, true_and, and_true, true_or, or_true, false_or, or_false, zwr_id, zpu_some, zpu_none, reduceIte, Int.reduceLE, Int.reduceLT, Int.reduceEq, Int.reduceNeg, Int.reduceAdd, Int.reduceSub, Int.reduceMul, Int.reduceToNat, Nat.reduceAdd, Nat.reduceLeDiff, Nat.reduceEqDiff, Nat.reduceLT, eq_self, ne_eq, not_false_eq_true, not_true_eq_false, List.append_assoc, List.cons_append, List.nil_append, List.length_append, List.length_cons, List.length_nil, Nat.add_assoc, Nat.reduceAdd, znu_mk, Int.reduceToNat, Nat.add_lt_add_iff_left, Nat.reduceLT, t, za, hl, h2]
  refine k _ ?_ ?_ ?_ ?_ (fun a ha => ?_)
  · simp (disch := omega) only [zup_same, zup_nk]
  · simp (disch := omega) only [zup_same, zup_nk]
  · simp (disch := omega) only [zup_same, zup_nk]
  · simp (disch := omega) only [zup_same, zup_nk]
  · rw [zup_nf (by omega), zup_nf (by omega), zup_nf (by omega), zup_nf (by omega), zclr_1 (by omega)]
theorem i_key {l : List (Nat × Nat)} {m : zM} {Q : zQ} {n cap : Nat} (hl : l.length = n + 1) (h2 : 2 ≤ n) (hc : cap < 1000) (t : zt (l, (0, 0)) n = 2) (k : ∀ m', m' n 0 = ((n + 1 : Nat) : Int) → m' n 1 = 0 → (∀ a, a < n ∨ n + 1 < a → m' a = m a) → Q none (l ++ [(20, cap)], (0, 0)) m') : zwp 4 0 [zA n, zI (cap : Int)] [] (l, (0, 0)) m Q := by
  have za : ∀ x, zt (l ++ x, (0, 0)) n = 2 := fun x => (zt_app (by omega)).trans t
  have c1 : 0 ≤ (cap : Int) := by omega
  have c2 : (cap : Int) < 100000 := by omega
  simp only [s4_0, s4_1, s4_4, s4_5, s4_6, s4_9, s4_10, s4_11, s4_14, s4_15, s4_18, s4_19, s4_21, s4_24, Int.toNat_natCast, true_and, and_true, true_or, or_true, false_or, or_false, zwr_id, zpu_some, zpu_none, reduceIte, Int.reduceLE, Int.reduceLT, Int.reduceEq, Int.reduceNeg, Int.reduceAdd, Int.reduceSub, Int.reduceMul, Int.reduceToNat, Nat.reduceAdd, Nat.reduceLeDiff, Nat.reduceEqDiff, Nat.reduceLT, eq_self, ne_eq, not_false_eq_true, not_true_eq_false, List.append_assoc, List.cons_append, List.nil_append, List.length_append, List.length_cons, List.length_nil, Nat.add_assoc, Nat.reduceAdd, znu_mk, Int.reduceToNat, Nat.add_lt_add_iff_left, Nat.reduceLT, t, za, hl, h2, c1, c2]
  refine k _ ?_ ?_ (fun a ha => ?_)
  · simp (disch := omega) only [zup_same, zup_nk]
  · simp (disch := omega) only [zup_same, zup_nk, zclr_1]
  · rw [zup_nf (by omega), zclr_1 (by omega), zup_nf (by omega)]
theorem i_part {l : List (Nat × Nat)} {m : zM} {Q : zQ} {n cap : Nat} (hl : l.length = n + 1) (h2 : 2 ≤ n) (hc : cap < 1000) (t : zt (l, (0, 0)) n = 3) (k : ∀ m', m' n 0 = ((n + 2 : Nat) : Int) → m' n 1 = ((n + 3 : Nat) : Int) → m' n 2 = ((n + 1 : Nat) : Int) → m' n 3 = 0 → m' n 4 = 0 → (∀ a, a < n ∨ n + 3 < a → m' a = m a) → Q none (l ++ [(20, 26), (20, cap), (20, cap)], (0, 0)) m') : zwp 11 0 [zA n, zI (cap : Int), zU] [] (l, (0, 0)) m Q := by
  have za : ∀ x, zt (l ++ x, (0, 0)) n = 3 := fun x => (zt_app (by omega)).trans t
  have c1 : 0 ≤ (cap : Int) := by omega
  have c2 : (cap : Int) < 100000 := by omega
  simp only [s11_0, s11_1, s11_4, s11_5, s11_7, s11_9, s11_12, s11_13, s11_14, s11_17, s11_18, s11_19, s11_22, s11_23, s11_26, s11_27, s11_30, s11_31, s11_32, s11_33, s11_34, s11_36, s11_39, s11_40, s11_41, s11_43, s11_46, Int.toNat_natCast, true_and, and_true, true_or, or_true, false_or, or_false, zwr_id, zpu_some, zpu_none, reduceIte, Int.reduceLE, Int.reduceLT, Int.reduceEq, Int.reduceNeg, Int.reduceAdd, Int.reduceSub, Int.reduceMul, Int.reduceToNat, Nat.reduceAdd, Nat.reduceLeDiff, Nat.reduceEqDiff, Nat.reduceLT, eq_self, ne_eq, not_false_eq_true, not_true_eq_false, List.append_assoc, List.cons_append, List.nil_append, List.length_append, List.length_cons, List.length_nil, Nat.add_assoc, Nat.reduceAdd, znu_mk, Int.reduceToNat, Nat.add_lt_add_iff_left, Nat.reduceLT, t, za, hl, h2, c1, c2]
  refine k _ ?_ ?_ ?_ ?_ ?_ (fun a ha => ?_)
  · simp (disch := omega) only [zup_same, zup_nk, zclr_1]
  · simp (disch := omega) only [zup_same, zup_nk, zclr_1]
  · simp (disch := omega) only [zup_same, zup_nk, zclr_1]
  · simp (disch := omega) only [zup_same, zup_nk, zclr_1]
  · simp (disch := omega) only [zup_same, zup_nk, zclr_1]
  · simp (disch := omega) only [zup_nf, zclr_1]
theorem i_rdr {l : List (Nat × Nat)} {m : zM} {Q : zQ} {n : Nat} (hl : l.length = n + 1) (h2 : 2 ≤ n) (t : zt (l, (0, 0)) n = 7) (k : ∀ m', m' n 0 = ((n + 1 : Nat) : Int) → m' (n + 1) 0 = ((n + 2 : Nat) : Int) → m' (n + 1) 1 = 0 → (∀ a, a < n ∨ n + 2 < a → m' a = m a) → Q none (l ++ [(9, 2), (20, 300)], (0, 0)) m') : zwp 75 0 [zA n] [] (l, (0, 0)) m Q := by
  have za : ∀ x, zt (l ++ x, (0, 0)) n = 7 := fun x => (zt_app (by omega)).trans t
  have zb : zt (l ++ [(9, 2)], (0, 0)) (n + 1) = 9 := by
    show ((l ++ [(9, 2)]).getD (n + 1) (0, 0)).1 = 9
    rw [← hl, List.getD_eq_getElem?_getD, List.getElem?_append_right (Nat.le_refl _), Nat.sub_self]
    rfl
  have h3 : 2 ≤ n + 1 := by omega
  simp only [s75_0, s75_1, s75_4, s75_5, s75_8, s75_9, Int.toNat_natCast, true_and, and_true, true_or, or_true, false_or, or_false, zwr_id, zpu_some, zpu_none, reduceIte, Int.reduceLE, Int.reduceLT, Int.reduceEq, Int.reduceNeg, Int.reduceAdd, Int.reduceSub, Int.reduceMul, Int.reduceToNat, Nat.reduceAdd, Nat.reduceLeDiff, Nat.reduceEqDiff, Nat.reduceLT, eq_self, ne_eq, not_false_eq_true, not_true_eq_false, List.append_assoc, List.cons_append, List.nil_append, List.length_append, List.length_cons, List.length_nil, Nat.add_assoc, Nat.reduceAdd, znu_mk, Int.reduceToNat, Nat.add_lt_add_iff_left, Nat.reduceLT, t, za, hl, h2, h3]
  refine i_tape (n := n + 1) (by rw [List.length_append, hl]; rfl) h3 zb (fun m1 a1 b1 f1 => ?_)
  simp only [s75_12, s75_15, s75_16, s75_17, s75_20, s75_21, s75_22, s75_25, s75_26, s75_27, s75_30, s75_31, s75_32, s75_35, s75_36, s75_37, s75_40, Int.toNat_natCast, true_and, and_true, true_or, or_true, false_or, or_false, zwr_id, zpu_some, zpu_none, reduceIte, Int.reduceLE, Int.reduceLT, Int.reduceEq, Int.reduceNeg, Int.reduceAdd, Int.reduceSub, Int.reduceMul, Int.reduceToNat, Nat.reduceAdd, Nat.reduceLeDiff, Nat.reduceEqDiff, Nat.reduceLT, eq_self, ne_eq, not_false_eq_true, not_true_eq_false, List.append_assoc, List.cons_append, List.nil_append, List.length_append, List.length_cons, List.length_nil, Nat.add_assoc, Nat.reduceAdd, znu_mk, Int.reduceToNat, Nat.add_lt_add_iff_left, Nat.reduceLT, t, za, hl, h2]
  refine k _ ?_ ?_ ?_ (fun a ha => ?_)
  · simp (disch := omega) only [zup_same, zup_nk]
  · simp (disch := omega) only [zup_nf]
    exact a1
  · simp (disch := omega) only [zup_nf]
    exact b1
  · rw [zup_nf (by omega), zup_nf (by omega), zup_nf (by omega), zup_nf (by omega), zup_nf (by omega), zup_nf (by omega), f1 a (by omega), zclr_1 (by omega)]
theorem i_rdg {l : List (Nat × Nat)} {m : zM} {Q : zQ} {n : Nat} (hl : l.length = n + 1) (h2 : 2 ≤ n) (t : zt (l, (0, 0)) n = 4) (k : ∀ m', (m' n 0 = ((n + 1 : Nat) : Int) ∧ m' n 1 = ((n + 2 : Nat) : Int) ∧ m' n 2 = ((n + 3 : Nat) : Int) ∧ m' n 3 = ((n + 4 : Nat) : Int) ∧ m' n 4 = ((n + 5 : Nat) : Int) ∧ m' n 5 = ((n + 6 : Nat) : Int) ∧ m' n 6 = ((n + 7 : Nat) : Int) ∧ m' n 7 = ((n + 8 : Nat) : Int) ∧ m' n 8 = ((n + 9 : Nat) : Int)) → (m' n 9 = 0 ∧ m' n 10 = 0 ∧ m' n 11 = 0 ∧ m' n 12 = 0) → (∀ a, a < n ∨ n + 9 < a → m' a = m a) → Q none (l ++ [(20, 80), (20, 80), (20, 80), (20, 80), (20, 80), (20, 80), (20, 80), (20, 80), (20, 80)], (0, 0)) m') : zwp 22 0 [zA n] [] (l, (0, 0)) m Q := by
  have za : ∀ x, zt (l ++ x, (0, 0)) n = 4 := fun x => (zt_app (by omega)).trans t
  simp only [s22_0, s22_1, s22_4, s22_5, s22_7, s22_9, s22_12, s22_13, s22_15, s22_17, s22_20, s22_21, s22_23, s22_25, s22_28, s22_29, s22_31, s22_33, s22_36, s22_37, s22_39, s22_41, s22_44, s22_45, s22_47, s22_49, s22_52, s22_53, s22_55, s22_57, s22_60, s22_61, s22_63, s22_65, s22_68, s22_69, s22_71, s22_73, s22_76, s22_77, s22_78, s22_81, s22_82, s22_83, s22_86, s22_87, s22_88, s22_91, s22_92, s22_93, s22_96, Int.toNat_natCast, true_and, and_true, true_or, or_true, false_or, or_false, zwr_id, zpu_some, zpu_none, reduceIte, Int.reduceLE, Int.reduceLT, Int.reduceEq, Int.reduceNeg, Int.reduceAdd, Int.reduceSub, Int.reduceMul, Int.reduceToNat, Nat.reduceAdd, Nat.reduceLeDiff, Nat.reduceEqDiff, Nat.reduceLT, eq_self, ne_eq, not_false_eq_true, not_true_eq_false, List.append_assoc, List.cons_append, List.nil_append, List.length_append, List.length_cons, List.length_nil, Nat.add_assoc, Nat.reduceAdd, znu_mk, Int.reduceToNat, Nat.add_lt_add_iff_left, Nat.reduceLT, t, za, hl, h2]
  refine k _ ⟨?_, ?_, ?_, ?_, ?_, ?_, ?_, ?_, ?_⟩ ⟨?_, ?_, ?_, ?_⟩ (fun a ha => ?_)
  any_goals (simp (disch := omega) only [zup_same, zup_nk, zclr_1]; done)
  simp (disch := omega) only [zup_nf, zclr_1]
