theorem r_itemAt {L : zY} {m : zM} {Q : zQ} {b i : Nat} (t0 : zt L 332 = 11) (h45 : m 332 45 = (b : Int)) (hb : b ≤ 2) (hi : i < 1000) : zwp 189 0 [zA 332, zI (i : Int)] [] L m Q ↔ Q (some (zI ((200 * b + i : Nat) : Int))) L m := by
  simp only [s189_0, s189_3, s189_4, s189_7, s189_8, s189_9, s189_10, true_and, t0, h45, (show zwr (200 * (b : Int)) = ((200 * b : Nat) : Int) from zwn (by omega) (by omega)), (show zwr (((200 * b : Nat) : Int) + (i : Int)) = ((200 * b + i : Nat) : Int) from zwn (by omega) (by omega))]
theorem r_takes {L : zY} {m : zM} {Q : zQ} {b p i : Nat} {part : Int} (ht : zMt L) (hn : zMn L) (hp : zMp m) (h45 : m 332 45 = (b : Int)) (hb : b ≤ 1) (hp2 : p < 200) (hi : i < 200) (hm : -1000 < m 355 (200 * b + i) ∧ m 355 (200 * b + i) < 1000) : zwp 190 0 [zA 332, zI (p : Int), zI (i : Int), zI part] [] L m Q ↔ Q none L (rtak m b p i part) := by
  have t0 := mt332 ht
  have q42 : m 332 42 = ((357 : Nat) : Int) := mp42 hp
  have q43 : m 332 43 = ((358 : Nat) : Int) := mp43 hp
  have q40 : m 332 40 = ((355 : Nat) : Int) := mp40 hp
  have hr1 : 0 ≤ ((200 * b + p : Nat) : Int) ∧ ((200 * b + p : Nat) : Int) < ((400 : Nat) : Int) := by omega
  have hr2 : 0 ≤ ((200 * b + i : Nat) : Int) ∧ ((200 * b + i : Nat) : Int) < ((600 : Nat) : Int) := by omega
  unfold rtak
  simp only [s190_0, s190_1, s190_4, s190_7, s190_8, s190_11, s190_12, s190_13, s190_14, s190_15, s190_16, s190_17, s190_20, s190_23, s190_24, s190_27, s190_28, s190_29, s190_30, s190_31, s190_32, s190_33, s190_36, s190_37, s190_38, s190_41, s190_42, s190_43, s190_44, s190_45, s190_46, s189_0, s189_3, s189_4, s189_7, s189_8, s189_9, s189_10, Int.toNat_natCast, true_and, and_true, true_or, or_true, false_or, or_false, zwr_id, zpu_some, zpu_none, reduceIte, Int.reduceLE, Int.reduceLT, Int.reduceEq, Int.reduceNeg, Int.reduceAdd, Int.reduceSub, Int.reduceMul, Int.reduceToNat, Nat.reduceAdd, Nat.reduceLeDiff, Nat.reduceEqDiff, Nat.reduceLT, eq_self, ne_eq, not_false_eq_true, not_true_eq_false, t0, h45, q42, q43, q40, mt357 ht, mn357 hn, mt358 ht, mn358 hn, mt355 ht, mn355 hn, hr1, hr2, and_self, (show zwr (200 * (b : Int)) = ((200 * b : Nat) : Int) from zwn (by omega) (by omega)), (show zwr (((200 * b : Nat) : Int) + (p : Int)) = ((200 * b + p : Nat) : Int) from zwn (by omega) (by omega)), (show zwr (((200 * b : Nat) : Int) + (i : Int)) = ((200 * b + i : Nat) : Int) from zwn (by omega) (by omega)), (show zwr (m 355 (200 * b + i) + 1) = m 355 (200 * b + i) + 1 from zwr_id (by omega) (by omega)), zup_na (show (332 : Nat) ≠ 357 by decide), zup_na (show (332 : Nat) ≠ 358 by decide), zup_na (show (355 : Nat) ≠ 357 by decide), zup_na (show (355 : Nat) ≠ 358 by decide)]
theorem r_begins {L : zY} {m : zM} {Q : zQ} {b n : Nat} {at0 l mm key : Int} (ht : zMt L) (hn : zMn L) (hp : zMp m) (h45 : m 332 45 = (b : Int)) (hb : b ≤ 2) (h49 : m 349 b = (n : Int)) (hn2 : n < 200) : zwp 191 0 [zA 332, zI at0, zI l, zI mm, zI key, zU] [] L m Q ↔ Q (some (zI (n : Int))) L (rbeg m b n l mm key at0) := by
  have t0 := mt332 ht
  have q34 : m 332 34 = ((349 : Nat) : Int) := mp34 hp
  have q35 : m 332 35 = ((350 : Nat) : Int) := mp35 hp
  have q36 : m 332 36 = ((351 : Nat) : Int) := mp36 hp
  have q37 : m 332 37 = ((352 : Nat) : Int) := mp37 hp
  have q38 : m 332 38 = ((353 : Nat) : Int) := mp38 hp
  have q39 : m 332 39 = ((354 : Nat) : Int) := mp39 hp
  have q40 : m 332 40 = ((355 : Nat) : Int) := mp40 hp
  have hr1 : 0 ≤ (b : Int) ∧ (b : Int) < ((3 : Nat) : Int) := by omega
  have hr2 : 0 ≤ ((200 * b + n : Nat) : Int) ∧ ((200 * b + n : Nat) : Int) < ((600 : Nat) : Int) := by omega
  unfold rbeg
  simp only [s191_0, s191_1, s191_4, s191_5, s191_8, s191_9, s191_11, s191_12, s191_15, s191_16, s191_18, s191_21, s191_22, s191_23, s191_24, s191_27, s191_28, s191_30, s191_33, s191_34, s191_35, s191_36, s191_39, s191_40, s191_42, s191_45, s191_47, s191_48, s191_49, s191_52, s191_53, s191_55, s191_58, s191_60, s191_61, s191_62, s191_65, s191_66, s191_68, s191_71, s191_72, s191_73, s191_74, s191_77, s191_78, s191_80, s191_83, s191_84, s191_85, s191_86, s191_89, s191_90, s191_93, s191_94, s191_95, s191_96, s191_97, s191_98, s191_100, s189_0, s189_3, s189_4, s189_7, s189_8, s189_9, s189_10, Int.toNat_natCast, true_and, and_true, true_or, or_true, false_or, or_false, zwr_id, zpu_some, zpu_none, reduceIte, Int.reduceLE, Int.reduceLT, Int.reduceEq, Int.reduceNeg, Int.reduceAdd, Int.reduceSub, Int.reduceMul, Int.reduceToNat, Nat.reduceAdd, Nat.reduceLeDiff, Nat.reduceEqDiff, Nat.reduceLT, eq_self, ne_eq, not_false_eq_true, not_true_eq_false, t0, h45, h49, q34, q35, q36, q37, q38, q39, q40, mt349 ht, mn349 hn, mt350 ht, mn350 hn, mt351 ht, mn351 hn, mt352 ht, mn352 hn, mt353 ht, mn353 hn, mt354 ht, mn354 hn, mt355 ht, mn355 hn, hr1, hr2, and_self, (show zwr (200 * (b : Int)) = ((200 * b : Nat) : Int) from zwn (by omega) (by omega)), (show zwr (((200 * b : Nat) : Int) + (n : Int)) = ((200 * b + n : Nat) : Int) from zwn (by omega) (by omega)), (show zwr ((n : Int) + 1) = ((n + 1 : Nat) : Int) from zwn (by omega) (by omega)), zup_na (show (332 : Nat) ≠ 350 by decide), zup_na (show (332 : Nat) ≠ 351 by decide), zup_na (show (332 : Nat) ≠ 352 by decide), zup_na (show (332 : Nat) ≠ 353 by decide), zup_na (show (332 : Nat) ≠ 354 by decide), zup_na (show (332 : Nat) ≠ 355 by decide), zup_na (show (349 : Nat) ≠ 350 by decide), zup_na (show (349 : Nat) ≠ 351 by decide), zup_na (show (349 : Nat) ≠ 352 by decide), zup_na (show (349 : Nat) ≠ 353 by decide), zup_na (show (349 : Nat) ≠ 354 by decide), zup_na (show (349 : Nat) ≠ 355 by decide)]
theorem r_isLA {L : zY} {m : zM} {Q : zQ} {b j : Nat} (ht : zMt L) (hn : zMn L) (hp : zMp m) (h45 : m 332 45 = (b : Int)) (h46 : m 332 46 = (j : Int)) (hb : b ≤ 2) (hj : j < 200) : zwp 192 0 [zA 332] [] L m Q ↔ Q (some (zI (if m 350 (200 * b + j) ≠ -2 ∧ m 351 (200 * b + j) = -2 then 1 else 0))) L m := by
  have t0 := mt332 ht
  have q35 : m 332 35 = ((350 : Nat) : Int) := mp35 hp
  have q36 : m 332 36 = ((351 : Nat) : Int) := mp36 hp
  have hr2 : 0 ≤ ((200 * b + j : Nat) : Int) ∧ ((200 * b + j : Nat) : Int) < ((600 : Nat) : Int) := by omega
  have n1 : ¬ (j : Int) = -1 := by omega
  simp only [s192_0, s192_1, s192_4, s192_5, s192_8, s192_9, s192_12, s192_13, s192_14, s192_17, s192_20, Int.toNat_natCast, true_and, and_true, true_or, or_true, false_or, or_false, zwr_id, zpu_some, zpu_none, reduceIte, Int.reduceLE, Int.reduceLT, Int.reduceEq, Int.reduceNeg, Int.reduceAdd, Int.reduceSub, Int.reduceMul, Int.reduceToNat, Nat.reduceAdd, Nat.reduceLeDiff, Nat.reduceEqDiff, Nat.reduceLT, eq_self, ne_eq, not_false_eq_true, not_true_eq_false, t0, h46, n1, q35, r_itemAt t0 h45 hb (show j < 1000 by omega), mt350 ht, mn350 hn, hr2, and_self]
  simp only [s192_21, s192_23]
  by_cases h1 : m 350 (200 * b + j) = -2
  · rw [if_pos h1, if_neg (fun q => q.1 h1)]
    simp only [s192_48, s192_49, Int.toNat_natCast, true_and, and_true, true_or, or_true, false_or, or_false, zwr_id, zpu_some, zpu_none, reduceIte, Int.reduceLE, Int.reduceLT, Int.reduceEq, Int.reduceNeg, Int.reduceAdd, Int.reduceSub, Int.reduceMul, Int.reduceToNat, Nat.reduceAdd, Nat.reduceLeDiff, Nat.reduceEqDiff, Nat.reduceLT, eq_self, ne_eq, not_false_eq_true, not_true_eq_false]
  · rw [if_neg h1]
    simp only [s192_26, s192_27, s192_30, s192_31, s192_32, s192_35, s192_38, Int.toNat_natCast, true_and, and_true, true_or, or_true, false_or, or_false, zwr_id, zpu_some, zpu_none, reduceIte, Int.reduceLE, Int.reduceLT, Int.reduceEq, Int.reduceNeg, Int.reduceAdd, Int.reduceSub, Int.reduceMul, Int.reduceToNat, Nat.reduceAdd, Nat.reduceLeDiff, Nat.reduceEqDiff, Nat.reduceLT, eq_self, ne_eq, not_false_eq_true, not_true_eq_false, t0, h46, q36, r_itemAt t0 h45 hb (show j < 1000 by omega), mt351 ht, mn351 hn, hr2, and_self]
    simp only [s192_39, s192_41]
    by_cases h2 : m 351 (200 * b + j) = -2
    · rw [if_pos h2, if_pos ⟨h1, h2⟩]
      simp only [s192_44, s192_45, s192_49, Int.toNat_natCast, true_and, and_true, true_or, or_true, false_or, or_false, zwr_id, zpu_some, zpu_none, reduceIte, Int.reduceLE, Int.reduceLT, Int.reduceEq, Int.reduceNeg, Int.reduceAdd, Int.reduceSub, Int.reduceMul, Int.reduceToNat, Nat.reduceAdd, Nat.reduceLeDiff, Nat.reduceEqDiff, Nat.reduceLT, eq_self, ne_eq, not_false_eq_true, not_true_eq_false]
    · rw [if_neg h2, if_neg (fun q => h2 q.2)]
      simp only [s192_48, s192_49, Int.toNat_natCast, true_and, and_true, true_or, or_true, false_or, or_false, zwr_id, zpu_some, zpu_none, reduceIte, Int.reduceLE, Int.reduceLT, Int.reduceEq, Int.reduceNeg, Int.reduceAdd, Int.reduceSub, Int.reduceMul, Int.reduceToNat, Nat.reduceAdd, Nat.reduceLeDiff, Nat.reduceEqDiff, Nat.reduceLT, eq_self, ne_eq, not_false_eq_true, not_true_eq_false]
theorem r_isLA0 {L : zY} {m : zM} {Q : zQ} (ht : zMt L) (h46 : m 332 46 = -1) : zwp 192 0 [zA 332] [] L m Q ↔ Q (some (zI 0)) L m := by
  simp only [s192_0, s192_1, s192_4, s192_5, s192_48, s192_49, Int.toNat_natCast, true_and, and_true, true_or, or_true, false_or, or_false, zwr_id, zpu_some, zpu_none, reduceIte, Int.reduceLE, Int.reduceLT, Int.reduceEq, Int.reduceNeg, Int.reduceAdd, Int.reduceSub, Int.reduceMul, Int.reduceToNat, Nat.reduceAdd, Nat.reduceLeDiff, Nat.reduceEqDiff, Nat.reduceLT, eq_self, ne_eq, not_false_eq_true, not_true_eq_false, mt332 ht, h46]
theorem r_isW {L : zY} {m : zM} {Q : zQ} {b j : Nat} (ht : zMt L) (hn : zMn L) (hp : zMp m) (h45 : m 332 45 = (b : Int)) (h46 : m 332 46 = (j : Int)) (hb : b ≤ 2) (hj : j < 200) : zwp 193 0 [zA 332] [] L m Q ↔ Q (some (zI (if m 350 (200 * b + j) ≠ -2 ∧ m 351 (200 * b + j) ≠ -2 then 1 else 0))) L m := by
  have t0 := mt332 ht
  have q35 : m 332 35 = ((350 : Nat) : Int) := mp35 hp
  have q36 : m 332 36 = ((351 : Nat) : Int) := mp36 hp
  have hr2 : 0 ≤ ((200 * b + j : Nat) : Int) ∧ ((200 * b + j : Nat) : Int) < ((600 : Nat) : Int) := by omega
  have n1 : ¬ (j : Int) = -1 := by omega
  simp only [s193_0, s193_1, s193_4, s193_5, s193_8, s193_9, s193_12, s193_13, s193_14, s193_17, s193_20, Int.toNat_natCast, true_and, and_true, true_or, or_true, false_or, or_false, zwr_id, zpu_some, zpu_none, reduceIte, Int.reduceLE, Int.reduceLT, Int.reduceEq, Int.reduceNeg, Int.reduceAdd, Int.reduceSub, Int.reduceMul, Int.reduceToNat, Nat.reduceAdd, Nat.reduceLeDiff, Nat.reduceEqDiff, Nat.reduceLT, eq_self, ne_eq, not_false_eq_true, not_true_eq_false, t0, h46, n1, q35, r_itemAt t0 h45 hb (show j < 1000 by omega), mt350 ht, mn350 hn, hr2, and_self]
  simp only [s193_21, s193_23]
  by_cases h1 : m 350 (200 * b + j) = -2
  · rw [if_pos h1, if_neg (fun q => q.1 h1)]
    simp only [s193_48, s193_49, Int.toNat_natCast, true_and, and_true, true_or, or_true, false_or, or_false, zwr_id, zpu_some, zpu_none, reduceIte, Int.reduceLE, Int.reduceLT, Int.reduceEq, Int.reduceNeg, Int.reduceAdd, Int.reduceSub, Int.reduceMul, Int.reduceToNat, Nat.reduceAdd, Nat.reduceLeDiff, Nat.reduceEqDiff, Nat.reduceLT, eq_self, ne_eq, not_false_eq_true, not_true_eq_false]
  · rw [if_neg h1]
    simp only [s193_26, s193_27, s193_30, s193_31, s193_32, s193_35, s193_38, Int.toNat_natCast, true_and, and_true, true_or, or_true, false_or, or_false, zwr_id, zpu_some, zpu_none, reduceIte, Int.reduceLE, Int.reduceLT, Int.reduceEq, Int.reduceNeg, Int.reduceAdd, Int.reduceSub, Int.reduceMul, Int.reduceToNat, Nat.reduceAdd, Nat.reduceLeDiff, Nat.reduceEqDiff, Nat.reduceLT, eq_self, ne_eq, not_false_eq_true, not_true_eq_false, t0, h46, q36, r_itemAt t0 h45 hb (show j < 1000 by omega), mt351 ht, mn351 hn, hr2, and_self]
    simp only [s193_39, s193_41]
    by_cases h2 : m 351 (200 * b + j) = -2
    · rw [if_pos h2, if_neg (fun q => q.2 h2)]
      simp only [s193_48, s193_49, Int.toNat_natCast, true_and, and_true, true_or, or_true, false_or, or_false, zwr_id, zpu_some, zpu_none, reduceIte, Int.reduceLE, Int.reduceLT, Int.reduceEq, Int.reduceNeg, Int.reduceAdd, Int.reduceSub, Int.reduceMul, Int.reduceToNat, Nat.reduceAdd, Nat.reduceLeDiff, Nat.reduceEqDiff, Nat.reduceLT, eq_self, ne_eq, not_false_eq_true, not_true_eq_false]
    · rw [if_neg h2, if_pos ⟨h1, h2⟩]
      simp only [s193_44, s193_45, s193_49, Int.toNat_natCast, true_and, and_true, true_or, or_true, false_or, or_false, zwr_id, zpu_some, zpu_none, reduceIte, Int.reduceLE, Int.reduceLT, Int.reduceEq, Int.reduceNeg, Int.reduceAdd, Int.reduceSub, Int.reduceMul, Int.reduceToNat, Nat.reduceAdd, Nat.reduceLeDiff, Nat.reduceEqDiff, Nat.reduceLT, eq_self, ne_eq, not_false_eq_true, not_true_eq_false]
theorem r_isW0 {L : zY} {m : zM} {Q : zQ} (ht : zMt L) (h46 : m 332 46 = -1) : zwp 193 0 [zA 332] [] L m Q ↔ Q (some (zI 0)) L m := by
  simp only [s193_0, s193_1, s193_4, s193_5, s193_48, s193_49, Int.toNat_natCast, true_and, and_true, true_or, or_true, false_or, or_false, zwr_id, zpu_some, zpu_none, reduceIte, Int.reduceLE, Int.reduceLT, Int.reduceEq, Int.reduceNeg, Int.reduceAdd, Int.reduceSub, Int.reduceMul, Int.reduceToNat, Nat.reduceAdd, Nat.reduceLeDiff, Nat.reduceEqDiff, Nat.reduceLT, eq_self, ne_eq, not_false_eq_true, not_true_eq_false, mt332 ht, h46]
theorem c_rpof {L : zY} {m : zM} {Q : zQ} {a o : Nat} {es : List (Int × Int)} {x y : Int} {fr : Int} (t : zt L a = 20) (hn : 2 * (o + es.length) ≤ zn L a) (hs : o + es.length < 1000) (h : zA2 m a o es) : ∀ (d i : Nat), es.length - i = d → i ≤ es.length → Q (some (zI (zfind (es.drop i) x y (o + i)))) L m → zwp 187 3 [zA a, zI fr, zI ((o + es.length : Nat) : Int), zI x, zI y, zI ((o + i : Nat) : Int)] [] L m Q := by
  intro d
  induction d with
  | zero =>
    intro i hd hi k
    have e : i = es.length := by omega
    subst e
    rw [List.drop_length] at k
    have n1 : ((o + es.length : Nat) : Int) ≤ ((o + es.length : Nat) : Int) := by omega
    simp only [s187_3, s187_5, s187_6, s187_41, s187_43, Int.toNat_natCast, true_and, and_true, true_or, or_true, false_or, or_false, zwr_id, zpu_some, zpu_none, reduceIte, Int.reduceLE, Int.reduceLT, Int.reduceEq, Int.reduceNeg, Int.reduceAdd, Int.reduceSub, Int.reduceMul, Int.reduceToNat, Nat.reduceAdd, Nat.reduceLeDiff, Nat.reduceEqDiff, Nat.reduceLT, eq_self, ne_eq, not_false_eq_true, not_true_eq_false, n1]
    exact k
  | succ d ih =>
    intro i hd hi k
    have hi : i < es.length := by omega
    rw [List.drop_eq_getElem_cons hi, zfind] at k
    have n1 : ¬ ((o + es.length : Nat) : Int) ≤ ((o + i : Nat) : Int) := by omega
    obtain ⟨g1, g2⟩ := zA2_get h hi
    have hr1 : 0 ≤ ((2 * (o + i) : Nat) : Int) ∧ ((2 * (o + i) : Nat) : Int) < (zn L a : Int) := by omega
    have hr2 : 0 ≤ ((2 * (o + i) + 1 : Nat) : Int) ∧ ((2 * (o + i) + 1 : Nat) : Int) < (zn L a : Int) := by omega
    have nxt : ¬ (es[i].1 = x ∧ es[i].2 = y) → zwp 187 35 [zA a, zI fr, zI ((o + es.length : Nat) : Int), zI x, zI y, zI ((o + i : Nat) : Int)] [] L m Q := fun q => by
      rw [if_neg q] at k
      simp only [s187_35, s187_38, (show zwr (((o + i : Nat) : Int) + 1) = ((o + (i + 1) : Nat) : Int) from zwn (by omega) (by omega))]
      exact ih (i + 1) (by omega) (by omega) (by rw [← Nat.add_assoc]; exact k)
    simp only [s187_3]
    simp only [s187_5, s187_6, s187_9, s187_10, s187_11, s187_13, s187_14, s187_15, Int.toNat_natCast, true_and, and_true, true_or, or_true, false_or, or_false, zwr_id, zpu_some, zpu_none, reduceIte, Int.reduceLE, Int.reduceLT, Int.reduceEq, Int.reduceNeg, Int.reduceAdd, Int.reduceSub, Int.reduceMul, Int.reduceToNat, Nat.reduceAdd, Nat.reduceLeDiff, Nat.reduceEqDiff, Nat.reduceLT, eq_self, ne_eq, not_false_eq_true, not_true_eq_false, n1, t, hr1, and_self, (show zwr (2 * ((o + i : Nat) : Int)) = ((2 * (o + i) : Nat) : Int) from zwn (by omega) (by omega)), g1]
    simp only [s187_16]
    by_cases h1 : es[i].1 = x
    · rw [if_pos h1]
      simp only [s187_19, s187_20, s187_21, s187_23, s187_24, s187_25, s187_26, s187_27, Int.toNat_natCast, true_and, and_true, true_or, or_true, false_or, or_false, zwr_id, zpu_some, zpu_none, reduceIte, Int.reduceLE, Int.reduceLT, Int.reduceEq, Int.reduceNeg, Int.reduceAdd, Int.reduceSub, Int.reduceMul, Int.reduceToNat, Nat.reduceAdd, Nat.reduceLeDiff, Nat.reduceEqDiff, Nat.reduceLT, eq_self, ne_eq, not_false_eq_true, not_true_eq_false, t, hr2, and_self, (show zwr (2 * ((o + i : Nat) : Int)) = ((2 * (o + i) : Nat) : Int) from zwn (by omega) (by omega)), (show zwr (((2 * (o + i) : Nat) : Int) + 1) = ((2 * (o + i) + 1 : Nat) : Int) from zwn (by omega) (by omega)), g2]
      simp only [s187_29]
      by_cases h2 : es[i].2 = y
      · rw [if_pos h2]
        rw [if_pos ⟨h1, h2⟩] at k
        simp only [s187_32, s187_34]
        exact k
      · rw [if_neg h2]
        exact nxt (fun q => h2 q.2)
    · rw [if_neg h1]
      exact nxt (fun q => h1 q.1)
theorem r_pof {L : zY} {m : zM} {Q : zQ} {a o i : Nat} {es : List (Int × Int)} {x y : Int} (t : zt L a = 20) (hn : 2 * (o + es.length) ≤ zn L a) (hs : o + es.length < 1000) (h : zA2 m a o es) (hi : i ≤ es.length) : zwp 187 0 [zA a, zI ((o + i : Nat) : Int), zI ((o + es.length : Nat) : Int), zI x, zI y, zU] [] L m Q ↔ Q (some (zI (zfind (es.drop i) x y (o + i)))) L m := by
  refine zwp_det ?_
  simp only [s187_0, s187_1]
  exact c_rpof t hn hs h _ i rfl hi ⟨rfl, rfl, rfl⟩
theorem zfind_kk {ps : List (Nat × Nat)} {a c : Nat} : ∀ {i : Nat}, zfind (ps.map rk2) (a : Int) (c : Int) i = zfind (ps.map k2) (kk a) (kk c) i := by
  induction ps with
  | nil => intro i; rfl
  | cons q t ih =>
    intro i
    rw [List.map_cons, List.map_cons, zfind, zfind, ih]
    refine ite_iff ?_
    unfold rk2 k2 kk
    constructor
    · rintro ⟨h1, h2⟩
      have h1 : (q.1 : Int) = (a : Int) := h1
      have h2 : (q.2 : Int) = (c : Int) := h2
      exact ⟨by show (q.1 : Int) + 97 = (a : Int) + 97; omega, by show (q.2 : Int) + 97 = (c : Int) + 97; omega⟩
    · rintro ⟨h1, h2⟩
      have h1 : (q.1 : Int) + 97 = (a : Int) + 97 := h1
      have h2 : (q.2 : Int) + 97 = (c : Int) + 97 := h2
      exact ⟨by show (q.1 : Int) = (a : Int); omega, by show (q.2 : Int) = (c : Int); omega⟩
theorem rM_drop {D : zD} : (rM D).drop (dV D).length = (dPV D).map rk2 := by
  unfold rM
  rw [List.drop_append_of_le_length (by rw [List.length_map]; exact Nat.le_refl _), List.drop_of_length_le (by rw [List.length_map]; exact Nat.le_refl _), List.nil_append]
theorem rE_drop {D : zD} : (rE D).drop (dEn D).length = (dPE D).map rk2 := by
  unfold rE
  rw [List.drop_append_of_le_length (by rw [List.length_map]; exact Nat.le_refl _), List.drop_of_length_le (by rw [List.length_map]; exact Nat.le_refl _), List.nil_append]
theorem dVp_r {D : zD} {x k : Nat} (hx : x < (dV D).length) : zfind ((rM D).drop (dV D).length) ((dV D)[x] : Int) (k : Int) (dV D).length = dVp D (x : Int) k := by
  rw [rM_drop, zfind_kk]
  unfold dVp zwith dTM
  rw [if_neg (by omega), Int.toNat_natCast]
  have e1 : ((dV D).map k1 ++ (dPV D).map k2).drop (dV D).length = (dPV D).map k2 := by rw [List.drop_append_of_le_length (by rw [List.length_map]; exact Nat.le_refl _), List.drop_of_length_le (by rw [List.length_map]; exact Nat.le_refl _), List.nil_append]
  have e2 : (((dV D).map k1 ++ (dPV D).map k2).getD x (0, 0)).1 = kk (dV D)[x] := by
    rw [getD_lt (by rw [List.length_append, List.length_map]; omega), List.getElem_append_left (by rw [List.length_map]; exact hx), List.getElem_map]
    rfl
  rw [e1, e2]
theorem dEp_r {D : zD} {x k : Nat} (h1 : 1 ≤ x) (hx : x - 1 < (dEn D).length) : zfind ((rE D).drop (dEn D).length) ((dEn D)[x - 1] : Int) (k : Int) (1 + (dEn D).length) = dEp D (x : Int) k := by
  rw [rE_drop, zfind_kk]
  unfold dEp zwith dTE
  rw [if_neg (by omega), Int.toNat_natCast]
  have l1 : ([((-2 : Int), (-2 : Int))] ++ (dEn D).map k1).length = 1 + (dEn D).length := by rw [List.length_append, List.length_map]; rfl
  have e1 : ([((-2 : Int), (-2 : Int))] ++ (dEn D).map k1 ++ (dPE D).map k2).drop (1 + (dEn D).length) = (dPE D).map k2 := by rw [List.drop_append_of_le_length (by rw [l1]; exact Nat.le_refl _), List.drop_of_length_le (by rw [l1]; exact Nat.le_refl _), List.nil_append]
  have e2 : (([((-2 : Int), (-2 : Int))] ++ (dEn D).map k1 ++ (dPE D).map k2).getD x (0, 0)).1 = kk (dEn D)[x - 1] := by
    rw [getD_lt (by rw [List.length_append, l1]; omega), List.getElem_append_left (by rw [l1]; omega), List.getElem_append_right (by show 1 ≤ x; omega), List.getElem_map]
    rfl
  rw [e1, e2]
