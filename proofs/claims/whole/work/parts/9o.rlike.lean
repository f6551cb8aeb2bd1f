/-- a bank's ITEMS without places -/
def rBC (m : zM) (b : Nat) (I : List zIt) : Prop := zAL m 350 (200 * b) (I.map itL) ∧ zAL m 351 (200 * b) (I.map itM) ∧ zAL m 352 (200 * b) (I.map itE) ∧ zAL m 353 (200 * b) (I.map itK)
theorem rBC_of {m : zM} {b : Nat} {I : List zIt} (h : rBI m b I) : rBC m b I := ⟨h.2.1, h.2.2.1, h.2.2.2.1, h.2.2.2.2.1⟩
theorem rBC_get {m : zM} {b i : Nat} {I : List zIt} (h : rBC m b I) (hi : i < I.length) : m 350 (200 * b + i) = itL I[i] ∧ m 351 (200 * b + i) = itM I[i] ∧ m 352 (200 * b + i) = itE I[i] ∧ m 353 (200 * b + i) = itK I[i] := by
  obtain ⟨h1, h2, h3, h4⟩ := h
  have al : ∀ (a : Nat) (f : zIt → Int), zAL m a (200 * b) (I.map f) → m a (200 * b + i) = f I[i] := fun a f hz => by
    have := zAL_get hz (show i < (I.map f).length by rw [List.length_map]; exact hi)
    rw [List.getElem_map] at this
    exact this
  exact ⟨al _ _ h1, al _ _ h2, al _ _ h3, al _ _ h4⟩
theorem cOf_iff {x y : zIt} (hx : 0 ≤ itK x) : cOf x = cOf y ↔ (itL x = itL y ∧ itM x = itM y ∧ itE x = itE y ∧ (rSo x ≠ 3 ∨ itK x = itK y)) := by
  have so : rSo x = 3 ↔ (itL x = -2 ∧ itM x = -2) := by
    unfold rSo
    by_cases h1 : itL x = -2
    · rw [if_neg (fun q : itL x ≠ -2 => q h1)]
      by_cases h2 : itM x = -2
      · rw [if_neg (fun q : itM x ≠ -2 => q h2)]; exact ⟨fun _ => ⟨h1, h2⟩, fun _ => rfl⟩
      · rw [if_pos h2]; exact ⟨fun q => absurd q (by decide), fun q => absurd q.2 h2⟩
    · rw [if_pos h1]
      by_cases h2 : itM x = -2
      · rw [if_neg (fun q : itM x ≠ -2 => q h2)]; exact ⟨fun q => absurd q (by decide), fun q => absurd q.1 h1⟩
      · rw [if_pos h2]; exact ⟨fun q => absurd q (by decide), fun q => absurd q.1 h1⟩
  unfold cOf
  simp only [Prod.mk.injEq]
  unfold itO
  by_cases ha : itL x = -2 ∧ itM x = -2
  · rw [if_pos ha]
    constructor
    · rintro ⟨e1, e2, e3, e4⟩
      rw [if_pos ⟨e1 ▸ ha.1, e2 ▸ ha.2⟩] at e4
      exact ⟨e1, e2, e3, Or.inr (by omega)⟩
    · rintro ⟨e1, e2, e3, e4⟩
      rw [if_pos ⟨e1 ▸ ha.1, e2 ▸ ha.2⟩]
      refine ⟨e1, e2, e3, ?_⟩
      rcases e4 with q | q
      · exact absurd (so.mpr ha) q
      · omega
  · rw [if_neg ha]
    constructor
    · rintro ⟨e1, e2, e3, e4⟩
      exact ⟨e1, e2, e3, Or.inl (fun q => ha (so.mp q))⟩
    · rintro ⟨e1, e2, e3, e4⟩
      rw [if_neg (by rw [← e1, ← e2]; exact ha)]
      exact ⟨e1, e2, e3, rfl⟩
theorem r_like {L : zY} {m : zM} {Q : zQ} {b i c j : Nat} {I J : List zIt} (ht : zMt L) (hn : zMn L) (hp : zMp m) (hb : b ≤ 2) (hc : c ≤ 2) (hI : rBC m b I) (hJ : rBC m c J) (hi : i < I.length) (hj : j < J.length) (li : i < 200) (lj : j < 200) (hK : 0 ≤ itK I[i]) : zwp 201 0 [zA 332, zI (b : Int), zI (i : Int), zI (c : Int), zI (j : Int), zU, zU] [] L m Q ↔ Q (some (zI (if cOf I[i] = cOf J[j] then 1 else 0))) L m := by
  have t0 := mt332 ht
  obtain ⟨x1, x2, x3, x4⟩ := rBC_get hI hi
  obtain ⟨y1, y2, y3, y4⟩ := rBC_get hJ hj
  have q35 : m 332 35 = ((350 : Nat) : Int) := mp35 hp
  have q36 : m 332 36 = ((351 : Nat) : Int) := mp36 hp
  have q37 : m 332 37 = ((352 : Nat) : Int) := mp37 hp
  have q38 : m 332 38 = ((353 : Nat) : Int) := mp38 hp
  have so := fun Q' : zQ => r_sort (Q := Q') ht hn hp hb li x1 x2
  have ci := cOf_iff (y := J[j]) hK
  generalize I[i] = x at *
  generalize J[j] = y at *
  have hr1 : 0 ≤ ((200 * b + i : Nat) : Int) ∧ ((200 * b + i : Nat) : Int) < ((600 : Nat) : Int) := by omega
  have hr2 : 0 ≤ ((200 * c + j : Nat) : Int) ∧ ((200 * c + j : Nat) : Int) < ((600 : Nat) : Int) := by omega
  simp only [s201_0, s201_3, s201_4, s201_5, s201_6, s201_7, s201_9, s201_12, s201_13, s201_14, s201_16, s201_17, s201_19, s201_20, s201_23, s201_25, s201_26, s201_27, s201_30, s201_32, Int.toNat_natCast, true_and, and_true, true_or, or_true, false_or, or_false, zwr_id, zpu_some, zpu_none, reduceIte, Int.reduceLE, Int.reduceLT, Int.reduceEq, Int.reduceNeg, Int.reduceAdd, Int.reduceSub, Int.reduceMul, Int.reduceToNat, Nat.reduceAdd, Nat.reduceLeDiff, Nat.reduceEqDiff, Nat.reduceLT, eq_self, ne_eq, not_false_eq_true, not_true_eq_false, t0, q35, mt350 ht, mn350 hn, hr1, hr2, and_self, (show zwr (200 * (b : Int)) = ((200 * b : Nat) : Int) from zwn (by omega) (by omega)), (show zwr (((200 * b : Nat) : Int) + (i : Int)) = ((200 * b + i : Nat) : Int) from zwn (by omega) (by omega)), (show zwr (200 * (c : Int)) = ((200 * c : Nat) : Int) from zwn (by omega) (by omega)), (show zwr (((200 * c : Nat) : Int) + (j : Int)) = ((200 * c + j : Nat) : Int) from zwn (by omega) (by omega)), x1, y1]
  simp only [s201_33]
  by_cases h1 : itL x = itL y
  · rw [if_pos h1]
    simp only [s201_36, s201_37, s201_40, s201_42, s201_43, s201_44, s201_47, s201_49, Int.toNat_natCast, true_and, and_true, true_or, or_true, false_or, or_false, zwr_id, zpu_some, zpu_none, reduceIte, Int.reduceLE, Int.reduceLT, Int.reduceEq, Int.reduceNeg, Int.reduceAdd, Int.reduceSub, Int.reduceMul, Int.reduceToNat, Nat.reduceAdd, Nat.reduceLeDiff, Nat.reduceEqDiff, Nat.reduceLT, eq_self, ne_eq, not_false_eq_true, not_true_eq_false, t0, q36, mt351 ht, mn351 hn, hr1, hr2, and_self, x2, y2]
    simp only [s201_50]
    by_cases h2 : itM x = itM y
    · rw [if_pos h2]
      simp only [s201_53, s201_54, s201_57, s201_59, s201_60, s201_61, s201_64, s201_66, Int.toNat_natCast, true_and, and_true, true_or, or_true, false_or, or_false, zwr_id, zpu_some, zpu_none, reduceIte, Int.reduceLE, Int.reduceLT, Int.reduceEq, Int.reduceNeg, Int.reduceAdd, Int.reduceSub, Int.reduceMul, Int.reduceToNat, Nat.reduceAdd, Nat.reduceLeDiff, Nat.reduceEqDiff, Nat.reduceLT, eq_self, ne_eq, not_false_eq_true, not_true_eq_false, t0, q37, mt352 ht, mn352 hn, hr1, hr2, and_self, x3, y3]
      simp only [s201_67]
      by_cases h3 : itE x = itE y
      · rw [if_pos h3]
        simp only [s201_70, s201_71, s201_72, s201_73, s201_76, Int.toNat_natCast, true_and, and_true, true_or, or_true, false_or, or_false, zwr_id, zpu_some, zpu_none, reduceIte, Int.reduceLE, Int.reduceLT, Int.reduceEq, Int.reduceNeg, Int.reduceAdd, Int.reduceSub, Int.reduceMul, Int.reduceToNat, Nat.reduceAdd, Nat.reduceLeDiff, Nat.reduceEqDiff, Nat.reduceLT, eq_self, ne_eq, not_false_eq_true, not_true_eq_false, t0, so]
        simp only [s201_77]
        by_cases h4 : rSo x = 3
        · rw [if_pos h4]
          simp only [s201_80, s201_81, s201_84, s201_86, s201_87, s201_88, s201_91, s201_93, Int.toNat_natCast, true_and, and_true, true_or, or_true, false_or, or_false, zwr_id, zpu_some, zpu_none, reduceIte, Int.reduceLE, Int.reduceLT, Int.reduceEq, Int.reduceNeg, Int.reduceAdd, Int.reduceSub, Int.reduceMul, Int.reduceToNat, Nat.reduceAdd, Nat.reduceLeDiff, Nat.reduceEqDiff, Nat.reduceLT, eq_self, ne_eq, not_false_eq_true, not_true_eq_false, t0, q38, mt353 ht, mn353 hn, hr1, hr2, and_self, x4, y4]
          simp only [s201_94]
          by_cases h5 : itK x = itK y
          · rw [if_pos h5, if_pos (ci.mpr ⟨h1, h2, h3, Or.inr h5⟩)]
            simp only [s201_97, s201_98, s201_102, Int.toNat_natCast, true_and, and_true, true_or, or_true, false_or, or_false, zwr_id, zpu_some, zpu_none, reduceIte, Int.reduceLE, Int.reduceLT, Int.reduceEq, Int.reduceNeg, Int.reduceAdd, Int.reduceSub, Int.reduceMul, Int.reduceToNat, Nat.reduceAdd, Nat.reduceLeDiff, Nat.reduceEqDiff, Nat.reduceLT, eq_self, ne_eq, not_false_eq_true, not_true_eq_false]
          · rw [if_neg h5, if_neg (fun q => (ci.mp q).2.2.2.elim (fun z => z h4) h5)]
            simp only [s201_101, s201_102, Int.toNat_natCast, true_and, and_true, true_or, or_true, false_or, or_false, zwr_id, zpu_some, zpu_none, reduceIte, Int.reduceLE, Int.reduceLT, Int.reduceEq, Int.reduceNeg, Int.reduceAdd, Int.reduceSub, Int.reduceMul, Int.reduceToNat, Nat.reduceAdd, Nat.reduceLeDiff, Nat.reduceEqDiff, Nat.reduceLT, eq_self, ne_eq, not_false_eq_true, not_true_eq_false]
        · rw [if_neg h4, if_pos (ci.mpr ⟨h1, h2, h3, Or.inl h4⟩)]
          simp only [s201_97, s201_98, s201_102, Int.toNat_natCast, true_and, and_true, true_or, or_true, false_or, or_false, zwr_id, zpu_some, zpu_none, reduceIte, Int.reduceLE, Int.reduceLT, Int.reduceEq, Int.reduceNeg, Int.reduceAdd, Int.reduceSub, Int.reduceMul, Int.reduceToNat, Nat.reduceAdd, Nat.reduceLeDiff, Nat.reduceEqDiff, Nat.reduceLT, eq_self, ne_eq, not_false_eq_true, not_true_eq_false]
      · rw [if_neg h3, if_neg (fun q => h3 (ci.mp q).2.2.1)]
        simp only [s201_101, s201_102, Int.toNat_natCast, true_and, and_true, true_or, or_true, false_or, or_false, zwr_id, zpu_some, zpu_none, reduceIte, Int.reduceLE, Int.reduceLT, Int.reduceEq, Int.reduceNeg, Int.reduceAdd, Int.reduceSub, Int.reduceMul, Int.reduceToNat, Nat.reduceAdd, Nat.reduceLeDiff, Nat.reduceEqDiff, Nat.reduceLT, eq_self, ne_eq, not_false_eq_true, not_true_eq_false]
    · rw [if_neg h2, if_neg (fun q => h2 (ci.mp q).2.1)]
      simp only [s201_101, s201_102, Int.toNat_natCast, true_and, and_true, true_or, or_true, false_or, or_false, zwr_id, zpu_some, zpu_none, reduceIte, Int.reduceLE, Int.reduceLT, Int.reduceEq, Int.reduceNeg, Int.reduceAdd, Int.reduceSub, Int.reduceMul, Int.reduceToNat, Nat.reduceAdd, Nat.reduceLeDiff, Nat.reduceEqDiff, Nat.reduceLT, eq_self, ne_eq, not_false_eq_true, not_true_eq_false]
  · rw [if_neg h1, if_neg (fun q => h1 (ci.mp q).1)]
    simp only [s201_101, s201_102, Int.toNat_natCast, true_and, and_true, true_or, or_true, false_or, or_false, zwr_id, zpu_some, zpu_none, reduceIte, Int.reduceLE, Int.reduceLT, Int.reduceEq, Int.reduceNeg, Int.reduceAdd, Int.reduceSub, Int.reduceMul, Int.reduceToNat, Nat.reduceAdd, Nat.reduceLeDiff, Nat.reduceEqDiff, Nat.reduceLT, eq_self, ne_eq, not_false_eq_true, not_true_eq_false]
theorem map_eq_iff {α β : Type} {f : α → β} {I J : List α} (hl : I.length = J.length) : I.map f = J.map f ↔ ∀ i (h1 : i < I.length) (h2 : i < J.length), f I[i] = f J[i] := by
  constructor
  · intro h i h1 h2
    have := congrArg (fun l => l[i]?) h
    simp only [List.getElem?_map, List.getElem?_eq_getElem h1, List.getElem?_eq_getElem h2, Option.map_some, Option.some.injEq] at this
    exact this
  · intro h
    refine List.ext_getElem (by rw [List.length_map, List.length_map]; exact hl) (fun i h1 h2 => ?_)
    rw [List.getElem_map, List.getElem_map]
    exact h i _ _
theorem r_due {L : zY} {m : zM} {Q : zQ} {c n : Nat} {I J : List zIt} (ht : zMt L) (hn : zMn L) (hp : zMp m) (hc : c ≤ 2) (h49 : m 349 1 = (I.length : Int)) (hI : rBC m 1 I) (hJ : rBC m c J) (li : I.length ≤ 199) (hJn : n ≤ J.length) (hK : ∀ x ∈ I, 0 ≤ itK x) : zwp 202 0 [zA 332, zI (c : Int), zI (n : Int), zU] [] L m Q ↔ Q (some (zI (if I.map cOf = (J.take n).map cOf then 1 else 0))) L m := by
  refine zwp_det ?_
  have t0 := mt332 ht
  have q34 : m 332 34 = ((349 : Nat) : Int) := mp34 hp
  have b3 : (1 : Int) < ((3 : Nat) : Int) := by decide
  have tl : (J.take n).length = n := by rw [List.length_take]; omega
  simp only [s202_0, s202_1, s202_4, s202_5, s202_6, Int.toNat_natCast, true_and, and_true, true_or, or_true, false_or, or_false, zwr_id, zpu_some, zpu_none, reduceIte, Int.reduceLE, Int.reduceLT, Int.reduceEq, Int.reduceNeg, Int.reduceAdd, Int.reduceSub, Int.reduceMul, Int.reduceToNat, Nat.reduceAdd, Nat.reduceLeDiff, Nat.reduceEqDiff, Nat.reduceLT, eq_self, ne_eq, not_false_eq_true, not_true_eq_false, t0, q34, mt349 ht, mn349 hn, b3, h49]
  simp only [s202_7]
  by_cases hl : I.length = n
  · rw [if_pos (by omega)]
    subst hl
    have me := map_eq_iff (f := cOf) (I := I) (J := J.take I.length) tl.symm
    have gt : ∀ i (h1 : i < I.length) (h2 : i < (J.take I.length).length), (J.take I.length)[i] = J[i]'(by omega) := fun i h1 h2 => List.getElem_take
    simp only [s202_12, s202_13]
    refine zfor (n := I.length) (fun i => [zA 332, zI (c : Int), zI (I.length : Int), zI (i : Nat)]) (fun i m' => m' = m ∧ ∀ j (h1 : j < I.length) (h2 : j < J.length), j < i → cOf I[j] = cOf J[j]) ?_ ?_ 0 m (Nat.zero_le _) ⟨rfl, fun j _ _ hj => by omega⟩
    · rintro i m' hi ⟨e, hh⟩ ih
      subst e
      have n1 : ¬ (I.length : Int) ≤ (i : Int) := by omega
      have iv : i < 1000000 := by omega
      have lk := fun Q' : zQ => r_like (Q := Q') (b := 1) (i := i) (c := c) (j := i) ht hn hp (by decide) hc hI hJ hi (show i < J.length by omega) (by omega) (by omega) (hK _ (List.getElem_mem hi))
      simp only [Int.cast_ofNat_Int] at lk
      simp only [s202_14]
      simp only [s202_15, s202_16, s202_19, s202_20, s202_21, s202_22, s202_23, s202_24, Int.toNat_natCast, true_and, and_true, true_or, or_true, false_or, or_false, zwr_id, zpu_some, zpu_none, reduceIte, Int.reduceLE, Int.reduceLT, Int.reduceEq, Int.reduceNeg, Int.reduceAdd, Int.reduceSub, Int.reduceMul, Int.reduceToNat, Nat.reduceAdd, Nat.reduceLeDiff, Nat.reduceEqDiff, Nat.reduceLT, eq_self, ne_eq, not_false_eq_true, not_true_eq_false, t0, n1, lk]
      simp only [s202_27]
      by_cases h1 : cOf I[i] = cOf (J[i]'(by omega))
      · rw [if_pos h1, if_neg (by decide)]
        simp only [s202_32, s202_35, z1 iv]
        refine ih _ ⟨rfl, fun j y1 y2 y3 => ?_⟩
        by_cases q : j = i
        · subst q; exact h1
        · exact hh j y1 y2 (by omega)
      · rw [if_neg h1, if_pos rfl]
        simp only [s202_30, s202_31, Int.toNat_natCast, true_and, and_true, true_or, or_true, false_or, or_false, zwr_id, zpu_some, zpu_none, reduceIte, Int.reduceLE, Int.reduceLT, Int.reduceEq, Int.reduceNeg, Int.reduceAdd, Int.reduceSub, Int.reduceMul, Int.reduceToNat, Nat.reduceAdd, Nat.reduceLeDiff, Nat.reduceEqDiff, Nat.reduceLT, eq_self, ne_eq, not_false_eq_true, not_true_eq_false]
        rw [if_neg (fun q => h1 (by have := me.mp q i hi (by omega); rw [gt i hi (by omega)] at this; exact this))]
    · rintro m' ⟨e, hh⟩
      subst e
      have n1 : (I.length : Int) ≤ (I.length : Int) := by omega
      simp only [s202_14]
      simp only [s202_15, s202_16, s202_38, s202_39, Int.toNat_natCast, true_and, and_true, true_or, or_true, false_or, or_false, zwr_id, zpu_some, zpu_none, reduceIte, Int.reduceLE, Int.reduceLT, Int.reduceEq, Int.reduceNeg, Int.reduceAdd, Int.reduceSub, Int.reduceMul, Int.reduceToNat, Nat.reduceAdd, Nat.reduceLeDiff, Nat.reduceEqDiff, Nat.reduceLT, eq_self, ne_eq, not_false_eq_true, not_true_eq_false, n1]
      rw [if_pos (me.mpr (fun i y1 y2 => by rw [gt i y1 y2]; exact hh i y1 _ y1))]
  · rw [if_neg (by omega)]
    simp only [s202_10, s202_11, Int.toNat_natCast, true_and, and_true, true_or, or_true, false_or, or_false, zwr_id, zpu_some, zpu_none, reduceIte, Int.reduceLE, Int.reduceLT, Int.reduceEq, Int.reduceNeg, Int.reduceAdd, Int.reduceSub, Int.reduceMul, Int.reduceToNat, Nat.reduceAdd, Nat.reduceLeDiff, Nat.reduceEqDiff, Nat.reduceLT, eq_self, ne_eq, not_false_eq_true, not_true_eq_false]
    rw [if_neg (fun q => hl (by have := congrArg List.length q; rw [List.length_map, List.length_map, tl] at this; exact this))]
