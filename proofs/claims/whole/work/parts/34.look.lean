theorem zRI_get {m : zM} {o i : Nat} {its : List zIt} (hI : zRI m o its) (hi : i < its.length) : m (o + 1) i = itL its[i] ∧ m (o + 2) i = itM its[i] ∧ m (o + 3) i = itC its[i] ∧ m (o + 4) i = itO its[i] ∧ m (o + 5) i = itF its[i] ∧ m (o + 6) i = itN its[i] := by
  obtain ⟨i0, i1, j1, j2, j3, j4, j5, j6⟩ := hI
  have g : ∀ {a : Nat} {f : zIt → Int}, zAL m a 0 (its.map f) → m a i = f its[i] := fun h => by
    have := zAL_get0 h (i := i) (by rw [List.length_map]; exact hi)
    rw [List.getElem_map] at this
    exact this
  exact ⟨g j1, g j2, g j3, g j4, g j5, g j6⟩
theorem zRP_get {m : zM} {o i : Nat} {pl : List (Int × Int × Int)} (hP : zRP m o pl) (hi : i < pl.length) : m (o + 7) i = pl[i].1 ∧ m (o + 8) i = pl[i].2.1 ∧ m (o + 9) i = pl[i].2.2 := by
  obtain ⟨i0, i1, j1, j2, j3⟩ := hP
  have g : ∀ {a : Nat} {f : Int × Int × Int → Int}, zAL m a 0 (pl.map f) → m a i = f pl[i] := fun h => by
    have := zAL_get0 h (i := i) (by rw [List.length_map]; exact hi)
    rw [List.getElem_map] at this
    exact this
  exact ⟨g j1, g j2, g j3⟩
/-- LIKE, as the class looks -/
def itEq (x y : zIt) : Bool := decide (itL x = itL y) && (decide (itM x = itM y) && (decide (itC x = itC y) && decide (itO x = itO y)))
theorem x_has {L : zY} {m : zM} {Q : zQ} {o : Nat} {n : Nat} {i : Int} (r1 : zt L o = 4) (i0 : m o 9 = (n : Int)) : zwp 31 0 [zA o, zI i] [] L m Q ↔ Q (some (zI (if 0 ≤ i ∧ i < (n : Int) then 1 else 0))) L m := by
  simp only [s31_0, s31_1, s31_4, s31_5, s31_6, s31_9, s31_12, s31_13, s31_16, s31_17, Int.toNat_natCast, true_and, and_true, true_or, or_true, false_or, or_false, zwr_id, zpu_some, zpu_none, reduceIte, Int.reduceLE, Int.reduceLT, Int.reduceEq, Int.reduceNeg, Int.reduceAdd, Int.reduceSub, Int.reduceMul, Int.reduceToNat, Nat.reduceAdd, Nat.reduceLeDiff, Nat.reduceEqDiff, Nat.reduceLT, eq_self, ne_eq, not_false_eq_true, not_true_eq_false, r1, i0]
  by_cases h1 : i < 0
  · rw [if_pos h1, if_neg (by omega)]
  · by_cases h2 : i < (n : Int)
    · rw [if_neg h1, if_neg (by omega), if_pos (by omega)]
    · rw [if_neg h1, if_pos (by omega), if_neg (by omega)]
theorem x_like {L : zY} {m : zM} {Q : zQ} {o p i j : Nat} {its jts : List zIt} (hR : zRL L m o) (hI : zRI m o its) (hR' : zRL L m p) (hI' : zRI m p jts) (hi : i < its.length) (hj : j < jts.length) : zwp 39 0 [zA o, zI (i : Int), zA p, zI (j : Int)] [] L m Q ↔ Q (some (zI (if itEq its[i] jts[j] then 1 else 0))) L m := by
  obtain ⟨y1, y2, y3, y4, y5, y6⟩ := zRI_get hI hi
  obtain ⟨u1, u2, u3, u4, u5, u6⟩ := zRI_get hI' hj
  have hil := hI.2.1
  have hjl := hI'.2.1
  have i0 := hI.1
  have j0 := hI'.1
  obtain ⟨r1, r2, ⟨b0, b1, b2, b3, b4, b5, b6, b7, b8⟩, ⟨t1, t2, t3, t4, t5, t6, t7, t8, t9⟩, ⟨n1, n2, n3, n4, n5, n6, n7, n8, n9⟩⟩ := hR
  obtain ⟨r1', r2', ⟨b0', b1', b2', b3', b4', b5', b6', b7', b8'⟩, ⟨t1', t2', t3', t4', t5', t6', t7', t8', t9'⟩, ⟨n1', n2', n3', n4', n5', n6', n7', n8', n9'⟩⟩ := hR'
  have hlt : 0 ≤ (i : Int) ∧ (i : Int) < ((80 : Nat) : Int) := by omega
  have hlt' : 0 ≤ (j : Int) ∧ (j : Int) < ((80 : Nat) : Int) := by omega
  have e1 : 0 ≤ (i : Int) ∧ (i : Int) < (its.length : Int) := by omega
  have e2 : 0 ≤ (j : Int) ∧ (j : Int) < (jts.length : Int) := by omega
  simp only [s39_0, s39_1, s39_2, s39_5, s39_8, s39_9, s39_10, s39_13, s39_16, s39_17, s39_20, s39_21, s39_22, s39_23, s39_26, s39_27, s39_28, s39_31, s39_32, s39_35, s39_36, s39_37, s39_38, s39_41, s39_42, s39_43, s39_46, s39_47, s39_50, s39_51, s39_52, s39_53, s39_56, s39_57, s39_58, s39_61, s39_62, s39_65, s39_66, s39_67, s39_68, s39_71, s39_72, s39_73, s39_76, s39_77, s39_80, s39_81, Int.toNat_natCast, true_and, and_true, true_or, or_true, false_or, or_false, zwr_id, zpu_some, zpu_none, reduceIte, Int.reduceLE, Int.reduceLT, Int.reduceEq, Int.reduceNeg, Int.reduceAdd, Int.reduceSub, Int.reduceMul, Int.reduceToNat, Nat.reduceAdd, Nat.reduceLeDiff, Nat.reduceEqDiff, Nat.reduceLT, eq_self, ne_eq, not_false_eq_true, not_true_eq_false, x_has r1 i0, x_has r1' j0, e1, e2, and_self, r1, r1', b0, b1, b2, b3, b0', b1', b2', b3', t1, t2, t3, t4, t1', t2', t3', t4', n1, n2, n3, n4, n1', n2', n3', n4', hlt, hlt', y1, y2, y3, y4, u1, u2, u3, u4]
  unfold itEq
  by_cases c1 : itL its[i] = itL jts[j]
  · by_cases c2 : itM its[i] = itM jts[j]
    · by_cases c3 : itC its[i] = itC jts[j]
      · by_cases c4 : itO its[i] = itO jts[j]
        · simp [c1, c2, c3, c4]
        · simp [c1, c2, c3, c4]
      · simp [c1, c2, c3]
    · simp [c1, c2]
  · simp [c1]
def it0 : zIt := (0, 0, 0, 0, 0, 0)
theorem getD_lt {α : Type} {xs : List α} {i : Nat} {d : α} (h : i < xs.length) : xs.getD i d = xs[i] := by rw [List.getD_eq_getElem?_getD, List.getElem?_eq_getElem h]; rfl
/-- how many at the first are LIKE -/
def fA (its jts : List zIt) : Nat := fC (fun i => itEq (its.getD i it0) (jts.getD i it0)) (min its.length jts.length) 0
def fZ (its jts : List zIt) (f : Nat) : Nat := fC (fun i => itEq (its.getD (its.length - 1 - i) it0) (jts.getD (jts.length - 1 - i) it0)) (min its.length jts.length - f) 0
theorem c_alike {L : zY} {m : zM} {Q : zQ} {o p : Nat} {its jts : List zIt} (hR : zRL L m o) (hI : zRI m o its) (hR' : zRL L m p) (hI' : zRI m p jts) (k : Q (some (zI (fA its jts : Nat))) L m) : zwp 40 0 [zA o, zA p, zU] [] L m Q := by
  obtain ⟨a, b, c⟩ := fC_spec (p := fun i => itEq (its.getD i it0) (jts.getD i it0)) (min its.length jts.length) 0
  rw [Nat.zero_add] at b c
  have hil := hI.2.1
  have i0 := hI.1
  have j0 := hI'.1
  have r1 := hR.1
  have r1' := hR'.1
  simp only [s40_0, s40_1]
  refine zfor (n := fA its jts) (fun i => [zA o, zA p, zI (i : Nat)]) (fun _ m' => m' = m) ?_ ?_ 0 m (Nat.zero_le _) rfl
  · rintro i _ hi rfl ih
    have ih := ih _ rfl
    unfold fA at hi
    have b := b i (Nat.zero_le _) hi
    have hi1 : i < its.length := by omega
    have hi2 : i < jts.length := by omega
    rw [getD_lt hi1, getD_lt hi2] at b
    simp only [s40_2]
    simp only [s40_0, s40_1, s40_3, s40_4, s40_7, s40_10, s40_11, s40_12, s40_15, s40_18, s40_19, s40_20, s40_21, s40_22, s40_25, s40_28, s40_31, s40_34, s40_35, Int.toNat_natCast, true_and, and_true, true_or, or_true, false_or, or_false, zwr_id, zpu_some, zpu_none, reduceIte, Int.reduceLE, Int.reduceLT, Int.reduceEq, Int.reduceNeg, Int.reduceAdd, Int.reduceSub, Int.reduceMul, Int.reduceToNat, Nat.reduceAdd, Nat.reduceLeDiff, Nat.reduceEqDiff, Nat.reduceLT, eq_self, ne_eq, not_false_eq_true, not_true_eq_false, r1, r1', i0, j0, x_like hR hI hR' hI' hi1 hi2, b, (z1 (i := i) (by omega))]
    rw [if_neg (by omega), if_neg (by omega)]
    exact ih
  · rintro _ rfl
    simp only [s40_2]
    by_cases e1 : its.length ≤ fA its jts
    · simp only [s40_0, s40_1, s40_3, s40_4, s40_7, s40_10, s40_11, s40_12, s40_15, s40_18, s40_19, s40_20, s40_21, s40_22, s40_25, s40_28, s40_31, s40_34, s40_35, Int.toNat_natCast, true_and, and_true, true_or, or_true, false_or, or_false, zwr_id, zpu_some, zpu_none, reduceIte, Int.reduceLE, Int.reduceLT, Int.reduceEq, Int.reduceNeg, Int.reduceAdd, Int.reduceSub, Int.reduceMul, Int.reduceToNat, Nat.reduceAdd, Nat.reduceLeDiff, Nat.reduceEqDiff, Nat.reduceLT, eq_self, ne_eq, not_false_eq_true, not_true_eq_false, r1, r1', i0, j0]
      rw [if_pos (by omega)]; exact k
    · by_cases e2 : jts.length ≤ fA its jts
      · simp only [s40_0, s40_1, s40_3, s40_4, s40_7, s40_10, s40_11, s40_12, s40_15, s40_18, s40_19, s40_20, s40_21, s40_22, s40_25, s40_28, s40_31, s40_34, s40_35, Int.toNat_natCast, true_and, and_true, true_or, or_true, false_or, or_false, zwr_id, zpu_some, zpu_none, reduceIte, Int.reduceLE, Int.reduceLT, Int.reduceEq, Int.reduceNeg, Int.reduceAdd, Int.reduceSub, Int.reduceMul, Int.reduceToNat, Nat.reduceAdd, Nat.reduceLeDiff, Nat.reduceEqDiff, Nat.reduceLT, eq_self, ne_eq, not_false_eq_true, not_true_eq_false, r1, r1', i0, j0]
        rw [if_neg (by omega), if_pos (by omega)]; exact k
      · have c : itEq (its.getD (fA its jts) it0) (jts.getD (fA its jts) it0) = false := c.resolve_left (fun h => by unfold fA at e1 e2; omega)
        have hi1 : fA its jts < its.length := by omega
        have hi2 : fA its jts < jts.length := by omega
        rw [getD_lt hi1, getD_lt hi2] at c
        simp only [s40_0, s40_1, s40_3, s40_4, s40_7, s40_10, s40_11, s40_12, s40_15, s40_18, s40_19, s40_20, s40_21, s40_22, s40_25, s40_28, s40_31, s40_34, s40_35, Int.toNat_natCast, true_and, and_true, true_or, or_true, false_or, or_false, zwr_id, zpu_some, zpu_none, reduceIte, Int.reduceLE, Int.reduceLT, Int.reduceEq, Int.reduceNeg, Int.reduceAdd, Int.reduceSub, Int.reduceMul, Int.reduceToNat, Nat.reduceAdd, Nat.reduceLeDiff, Nat.reduceEqDiff, Nat.reduceLT, eq_self, ne_eq, not_false_eq_true, not_true_eq_false, r1, r1', i0, j0, x_like hR hI hR' hI' hi1 hi2, c, Bool.false_eq_true]
        rw [if_neg (by omega), if_neg (by omega)]; exact k
theorem c_alast {L : zY} {m : zM} {Q : zQ} {o p f : Nat} {its jts : List zIt} (hR : zRL L m o) (hI : zRI m o its) (hR' : zRL L m p) (hI' : zRI m p jts) (hf : f ≤ min its.length jts.length) (k : Q (some (zI (fZ its jts f : Nat))) L m) : zwp 41 0 [zA o, zA p, zI (f : Nat), zU, zU] [] L m Q := by
  obtain ⟨a, b, c⟩ := fC_spec (p := fun i => itEq (its.getD (its.length - 1 - i) it0) (jts.getD (jts.length - 1 - i) it0)) (min its.length jts.length - f) 0
  rw [Nat.zero_add] at b c
  have hil := hI.2.1
  have hjl := hI'.2.1
  have i0 := hI.1
  have j0 := hI'.1
  have r1 := hR.1
  have r1' := hR'.1
  have fin : zwp 41 17 [zA o, zA p, zI (f : Nat), zI (min its.length jts.length - f : Nat), zI (0 : Nat)] [] L m Q := by
    refine zfor (n := fZ its jts f) (fun i => [zA o, zA p, zI (f : Nat), zI (min its.length jts.length - f : Nat), zI (i : Nat)]) (fun _ m' => m' = m) ?_ ?_ 0 m (Nat.zero_le _) rfl
    · rintro i _ hi rfl ih
      have ih := ih _ rfl
      unfold fZ at hi
      have b := b i (Nat.zero_le _) hi
      have hi1 : its.length - 1 - i < its.length := by omega
      have hi2 : jts.length - 1 - i < jts.length := by omega
      rw [getD_lt hi1, getD_lt hi2] at b
      simp only [s41_17]
      simp only [s41_19, s41_20, s41_23, s41_24, s41_25, s41_28, s41_29, s41_30, s41_32, s41_33, s41_34, s41_35, s41_38, s41_39, s41_40, s41_42, s41_43, s41_46, s41_49, s41_52, s41_55, s41_57, Int.toNat_natCast, true_and, and_true, zpu_some, zpu_none, reduceIte, Int.reduceEq, Int.reduceNeg, r1, r1', i0, j0, (show zwr (zwr ((its.length : Int) - 1) - (i : Int)) = ((its.length - 1 - i : Nat) : Int) by rw [zwr_id (x := (its.length : Int) - 1) (by omega) (by omega), zwr_id (by omega) (by omega)]; omega), (show zwr (zwr ((jts.length : Int) - 1) - (i : Int)) = ((jts.length - 1 - i : Nat) : Int) by rw [zwr_id (x := (jts.length : Int) - 1) (by omega) (by omega), zwr_id (by omega) (by omega)]; omega), x_like hR hI hR' hI' hi1 hi2, b, (z1 (i := i) (by omega)), not_false_eq_true, not_true_eq_false, eq_self]
      rw [if_neg (by omega)]
      exact ih
    · rintro _ rfl
      simp only [s41_17]
      by_cases e1 : min its.length jts.length - f ≤ fZ its jts f
      · simp only [s41_19, s41_20, s41_23, s41_24, s41_25, s41_28, s41_29, s41_30, s41_32, s41_33, s41_34, s41_35, s41_38, s41_39, s41_40, s41_42, s41_43, s41_46, s41_49, s41_52, s41_55, s41_57, Int.toNat_natCast, true_and, and_true, true_or, or_true, false_or, or_false, zwr_id, zpu_some, zpu_none, reduceIte, Int.reduceLE, Int.reduceLT, Int.reduceEq, Int.reduceNeg, Int.reduceAdd, Int.reduceSub, Int.reduceMul, Int.reduceToNat, Nat.reduceAdd, Nat.reduceLeDiff, Nat.reduceEqDiff, Nat.reduceLT, eq_self, ne_eq, not_false_eq_true, not_true_eq_false, r1, r1', i0, j0]
        rw [if_pos (by omega)]; exact k
      · have c := c.resolve_left (fun h => by unfold fZ at e1; omega)
        have hi1 : its.length - 1 - fZ its jts f < its.length := by omega
        have hi2 : jts.length - 1 - fZ its jts f < jts.length := by omega
        have c : itEq (its.getD (its.length - 1 - fZ its jts f) it0) (jts.getD (jts.length - 1 - fZ its jts f) it0) = false := c
        rw [getD_lt hi1, getD_lt hi2] at c
        simp only [s41_19, s41_20, s41_23, s41_24, s41_25, s41_28, s41_29, s41_30, s41_32, s41_33, s41_34, s41_35, s41_38, s41_39, s41_40, s41_42, s41_43, s41_46, s41_49, s41_52, s41_55, s41_57, Int.toNat_natCast, true_and, and_true, zpu_some, zpu_none, reduceIte, Int.reduceEq, Int.reduceNeg, r1, r1', i0, j0, (show zwr (zwr ((its.length : Int) - 1) - (fZ its jts f : Int)) = ((its.length - 1 - fZ its jts f : Nat) : Int) by rw [zwr_id (x := (its.length : Int) - 1) (by omega) (by omega), zwr_id (by omega) (by omega)]; omega), (show zwr (zwr ((jts.length : Int) - 1) - (fZ its jts f : Int)) = ((jts.length - 1 - fZ its jts f : Nat) : Int) by rw [zwr_id (x := (jts.length : Int) - 1) (by omega) (by omega), zwr_id (by omega) (by omega)]; omega), x_like hR hI hR' hI' hi1 hi2, c, Bool.false_eq_true, not_false_eq_true, not_true_eq_false, eq_self]
        rw [if_neg (by omega)]; exact k
  have w1 : zwr ((if (jts.length : Int) < (its.length : Int) then (jts.length : Int) else (its.length : Int)) - (f : Int)) = ((min its.length jts.length - f : Nat) : Int) := by
    by_cases h : (jts.length : Int) < (its.length : Int)
    · rw [if_pos h, zwr_id (by omega) (by omega)]; omega
    · rw [if_neg h, zwr_id (by omega) (by omega)]; omega
  simp only [s41_0, s41_1, s41_4, s41_5, s41_8, s41_11, s41_12, s41_13, s41_14, s41_15, Int.toNat_natCast, true_and, and_true, zpu_some, zpu_none, r1, r1', i0, j0, w1]
  clear w1
  exact fin
/-- BLOCKS -/
def rBl (its : List zIt) : Nat := its.countP (fun x => itSo x == 0)
theorem rBl_s {xs : List zIt} {i : Nat} (h : i < xs.length) : rBl (xs.take (i + 1)) = rBl (xs.take i) + if itSo xs[i] = 0 then 1 else 0 := by
  unfold rBl
  rw [take_s h, List.countP_append, List.countP_singleton]
  simp only [beq_iff_eq]
theorem rBl_le {xs : List zIt} {i : Nat} : rBl (xs.take i) ≤ i := Nat.le_trans List.countP_le_length (by rw [List.length_take]; omega)
theorem c_blocks {L : zY} {m : zM} {Q : zQ} {o : Nat} {its : List zIt} (hR : zRL L m o) (hI : zRI m o its) (k : Q (some (zI (rBl its : Nat))) L m) : zwp 36 0 [zA o, zU, zU] [] L m Q := by
  have hil := hI.2.1
  have i0 := hI.1
  have r1 := hR.1
  simp only [s36_0, s36_1, s36_2, s36_3]
  refine zfor (n := its.length) (fun i => [zA o, zI (rBl (its.take i) : Nat), zI (i : Nat)]) (fun _ m' => m' = m) ?_ ?_ 0 m (Nat.zero_le _) rfl
  · rintro i _ hi rfl ih
    have ih := ih _ rfl
    have b := rBl_le (xs := its) (i := i)
    rw [rBl_s hi] at ih
    simp only [s36_4]
    simp only [s36_0, s36_1, s36_2, s36_3, s36_5, s36_6, s36_9, s36_12, s36_13, s36_14, s36_17, s36_20, s36_23, s36_26, s36_29, s36_30, Int.toNat_natCast, true_and, and_true, true_or, or_true, false_or, or_false, zwr_id, zpu_some, zpu_none, reduceIte, Int.reduceLE, Int.reduceLT, Int.reduceEq, Int.reduceNeg, Int.reduceAdd, Int.reduceSub, Int.reduceMul, Int.reduceToNat, Nat.reduceAdd, Nat.reduceLeDiff, Nat.reduceEqDiff, Nat.reduceLT, eq_self, ne_eq, not_false_eq_true, not_true_eq_false, r1, i0, x_sort hR hI hi, (z1 (i := i) (by omega)), (z1 (i := rBl (its.take i)) (by omega))]
    rw [if_neg (by omega)]
    by_cases e : itSo its[i] = 0
    · rw [if_pos e]
      rw [if_pos e] at ih
      exact ih
    · rw [if_neg e]
      rw [if_neg e] at ih
      exact ih
  · rintro _ rfl
    rw [List.take_length]
    simp only [s36_4]
    simp only [s36_0, s36_1, s36_2, s36_3, s36_5, s36_6, s36_9, s36_12, s36_13, s36_14, s36_17, s36_20, s36_23, s36_26, s36_29, s36_30, Int.toNat_natCast, true_and, and_true, true_or, or_true, false_or, or_false, zwr_id, zpu_some, zpu_none, reduceIte, Int.reduceLE, Int.reduceLT, Int.reduceEq, Int.reduceNeg, Int.reduceAdd, Int.reduceSub, Int.reduceMul, Int.reduceToNat, Nat.reduceAdd, Nat.reduceLeDiff, Nat.reduceEqDiff, Nat.reduceLT, eq_self, ne_eq, not_false_eq_true, not_true_eq_false, r1, i0]
    rw [if_pos (by omega)]
    exact k
theorem x_pf {L : zY} {m : zM} {Q : zQ} {o i : Nat} {what : Int} {pl : List (Int × Int × Int)} (hR : zRL L m o) (hP : zRP m o pl) (hi : i < pl.length) : zwp 38 0 [zA o, zI (i : Int), zI what] [] L m Q ↔ Q (some (zI (if what = 0 then pl[i].1 else if what = 1 then pl[i].2.2 else pl[i].2.1))) L m := by
  obtain ⟨y1, y2, y3⟩ := zRP_get hP hi
  have hil := hP.2.1
  have p0 := hP.1
  obtain ⟨r1, r2, ⟨b0, b1, b2, b3, b4, b5, b6, b7, b8⟩, ⟨t1, t2, t3, t4, t5, t6, t7, t8, t9⟩, ⟨n1, n2, n3, n4, n5, n6, n7, n8, n9⟩⟩ := hR
  have hlt : 0 ≤ (i : Int) ∧ (i : Int) < ((80 : Nat) : Int) := by omega
  have e1 : ¬ (i : Int) < 0 := by omega
  have e2 : (i : Int) < (pl.length : Int) := by omega
  simp only [s38_0, s38_1, s38_4, s38_5, s38_6, s38_9, s38_12, s38_14, s38_15, s38_16, s38_44, s38_45, s38_48, s38_49, s38_50, s38_51, s38_52, s38_55, s38_56, s38_57, s38_58, s38_59, s38_62, s38_63, s38_64, Int.toNat_natCast, true_and, and_true, true_or, or_true, false_or, or_false, zwr_id, zpu_some, zpu_none, reduceIte, Int.reduceLE, Int.reduceLT, Int.reduceEq, Int.reduceNeg, Int.reduceAdd, Int.reduceSub, Int.reduceMul, Int.reduceToNat, Nat.reduceAdd, Nat.reduceLeDiff, Nat.reduceEqDiff, Nat.reduceLT, eq_self, ne_eq, not_false_eq_true, not_true_eq_false, r1, p0, b6, b7, b8, t7, t8, t9, n7, n8, n9, hlt, y1, y2, y3, e1, e2, and_self]
  by_cases c1 : what = 0
  · simp [c1]
  · by_cases c2 : what = 1
    · simp [c2]
    · simp [c1, c2]
theorem x_place {L : zY} {m : zM} {Q : zQ} {o i : Nat} {its : List zIt} (hR : zRL L m o) (hI : zRI m o its) (hi : i < its.length) : zwp 34 0 [zA o, zI (i : Int)] [] L m Q ↔ Q (some (zI (itF its[i]))) L m := by
  obtain ⟨y1, y2, y3, y4, y5, y6⟩ := zRI_get hI hi
  have hil := hI.2.1
  have i0 := hI.1
  obtain ⟨r1, r2, ⟨b0, b1, b2, b3, b4, b5, b6, b7, b8⟩, ⟨t1, t2, t3, t4, t5, t6, t7, t8, t9⟩, ⟨n1, n2, n3, n4, n5, n6, n7, n8, n9⟩⟩ := hR
  have hlt : 0 ≤ (i : Int) ∧ (i : Int) < ((80 : Nat) : Int) := by omega
  have e1 : 0 ≤ (i : Int) ∧ (i : Int) < (its.length : Int) := by omega
  simp only [s34_0, s34_1, s34_2, s34_5, s34_8, s34_9, s34_12, s34_13, s34_14, s34_17, s34_18, Int.toNat_natCast, true_and, and_true, true_or, or_true, false_or, or_false, zwr_id, zpu_some, zpu_none, reduceIte, Int.reduceLE, Int.reduceLT, Int.reduceEq, Int.reduceNeg, Int.reduceAdd, Int.reduceSub, Int.reduceMul, Int.reduceToNat, Nat.reduceAdd, Nat.reduceLeDiff, Nat.reduceEqDiff, Nat.reduceLT, eq_self, ne_eq, not_false_eq_true, not_true_eq_false, x_has r1 i0, e1, and_self, r1, b4, t5, n5, hlt, y5]
theorem x_behind {L : zY} {m : zM} {Q : zQ} {o i : Nat} {its : List zIt} (hR : zRL L m o) (hI : zRI m o its) (hi : i < its.length) (hb : -1000 < itF its[i] ∧ itF its[i] < 1000 ∧ -1000 < itN its[i] ∧ itN its[i] < 1000) : zwp 35 0 [zA o, zI (i : Int)] [] L m Q ↔ Q (some (zI (itF its[i] + itN its[i]))) L m := by
  obtain ⟨y1, y2, y3, y4, y5, y6⟩ := zRI_get hI hi
  have hil := hI.2.1
  have i0 := hI.1
  obtain ⟨r1, r2, ⟨b0, b1, b2, b3, b4, b5, b6, b7, b8⟩, ⟨t1, t2, t3, t4, t5, t6, t7, t8, t9⟩, ⟨n1, n2, n3, n4, n5, n6, n7, n8, n9⟩⟩ := hR
  have hlt : 0 ≤ (i : Int) ∧ (i : Int) < ((80 : Nat) : Int) := by omega
  have e1 : 0 ≤ (i : Int) ∧ (i : Int) < (its.length : Int) := by omega
  have w : zwr (itF its[i] + itN its[i]) = itF its[i] + itN its[i] := zwr_id (by omega) (by omega)
  simp only [s35_0, s35_1, s35_2, s35_5, s35_8, s35_9, s35_12, s35_13, s35_14, s35_15, s35_18, s35_19, s35_20, s35_21, s35_24, s35_25, Int.toNat_natCast, true_and, and_true, true_or, or_true, false_or, or_false, zwr_id, zpu_some, zpu_none, reduceIte, Int.reduceLE, Int.reduceLT, Int.reduceEq, Int.reduceNeg, Int.reduceAdd, Int.reduceSub, Int.reduceMul, Int.reduceToNat, Nat.reduceAdd, Nat.reduceLeDiff, Nat.reduceEqDiff, Nat.reduceLT, eq_self, ne_eq, not_false_eq_true, not_true_eq_false, x_has r1 i0, e1, and_self, r1, b4, b5, t5, t6, n5, n6, hlt, y5, y6, w]
/-- the CODE, as the class tells it -/
def itCd (nM nE : Int) (x : zIt) : Int := if itSo x = 0 then (itL x * nM + itM x) * nE + itC x else -2
theorem x_codeAt {L : zY} {m : zM} {Q : zQ} {o i sc : Nat} {nM nE : Int} {its : List zIt} (hR : zRL L m o) (hI : zRI m o its) (hi : i < its.length) (s1 : zt L sc = 6) (s2 : m sc 8 = ((sc + 18 : Nat) : Int)) (s3 : m sc 9 = ((sc + 22 : Nat) : Int)) (s4 : zt L (sc + 18) = 3) (s5 : zt L (sc + 22) = 3) (s6 : m (sc + 18) 4 = nM) (s7 : m (sc + 22) 4 = nE) (hb : zwr (itL its[i] * nM) = itL its[i] * nM ∧ zwr (itL its[i] * nM + itM its[i]) = itL its[i] * nM + itM its[i] ∧ zwr ((itL its[i] * nM + itM its[i]) * nE) = (itL its[i] * nM + itM its[i]) * nE ∧ zwr ((itL its[i] * nM + itM its[i]) * nE + itC its[i]) = (itL its[i] * nM + itM its[i]) * nE + itC its[i]) : zwp 33 0 [zA o, zA sc, zI (i : Int)] [] L m Q ↔ Q (some (zI (itCd nM nE its[i]))) L m := by
  obtain ⟨y1, y2, y3, y4, y5, y6⟩ := zRI_get hI hi
  have hil := hI.2.1
  have xs := fun (Q : zQ) => x_sort (Q := Q) hR hI hi
  obtain ⟨r1, r2, ⟨b0, b1, b2, b3, b4, b5, b6, b7, b8⟩, ⟨t1, t2, t3, t4, t5, t6, t7, t8, t9⟩, ⟨n1, n2, n3, n4, n5, n6, n7, n8, n9⟩⟩ := hR
  have hlt : 0 ≤ (i : Int) ∧ (i : Int) < ((80 : Nat) : Int) := by omega
  obtain ⟨w1, w2, w3, w4⟩ := hb
  simp only [s33_0, s33_1, s33_2, s33_5, s33_8, s33_9, s33_10, s33_13, s33_14, s33_15, s33_16, s33_19, s33_20, s33_21, s33_22, s33_25, s33_26, s33_27, s33_30, s33_33, s33_35, s71_0, s71_1, s71_2, s71_5, s71_8, s71_9, s71_10, s71_11, s71_12, s71_15, s71_18, s71_19, s71_20, s71_21, Int.toNat_natCast, true_and, and_true, zpu_some, zpu_none, reduceIte, xs, r1, b0, b1, b2, t1, t2, t3, n1, n2, n3, hlt, and_self, y1, y2, y3, s1, s2, s3, s4, s5, s6, s7, w1, w2, w3, w4]
  clear w1 w2 w3 w4
  unfold itCd
  by_cases e : itSo its[i] = 0
  · simp [e]
  · simp [e]
