def sParts (g : zG) (x what : Int) : Int × zG := match gD g with
  | none => gN g 1
  | some D => if (0 ≤ x ∧ x < ((dnL D * dnM D * dnE D : Nat) : Int)) ∧ 0 ≤ what ∧ what ≤ 2 then gA g (dPt D x what) else gN g 1
theorem c_parts {L : zY} {m : zM} {Q : zQ} {g : zG} {x what : Int} (hg : gOk g) (h : zCI L m g) (k : ∀ m', zCI L m' (sParts g x what).2 → zFR 2 331 m m' → Q (some (zI (sParts g x what).1)) L m') : zwp 117 0 [zA 2, zI x, zI what] [] L m Q := by
  have h' := h
  obtain ⟨T, od, R, C, H, f, p, q⟩ := g
  obtain ⟨sc, sp, hO, hB⟩ := h'
  have a1 := hO.1
  have p9 := hO.2.1.2.2.2.2.2.2.2.2.2.1
  cases od with
  | none =>
    have b11 : m 2 11 = 0 := hO.2.2.1
    simp only [s117_0, s117_1, s117_4, s117_7, s117_8, s117_11, s117_12, s117_15, s117_18, s117_19, s117_22, s117_23, s117_24, s117_27, s117_28, s117_29, s117_32, s117_33, s117_34, s117_35, s117_38, s117_39, s117_40, s117_43, s117_46, Int.toNat_natCast, true_and, and_true, true_or, or_true, false_or, or_false, zwr_id, zpu_some, zpu_none, reduceIte, Int.reduceLE, Int.reduceLT, Int.reduceEq, Int.reduceNeg, Int.reduceAdd, Int.reduceSub, Int.reduceMul, Int.reduceToNat, Nat.reduceAdd, Nat.reduceLeDiff, Nat.reduceEqDiff, Nat.reduceLT, eq_self, ne_eq, not_false_eq_true, not_true_eq_false, a1, b11, x_refuse a1]
    exact k _ (zCI_ans h) zFR_ans
  | some D =>
    have b11 : m 2 11 = 1 := hO.2.2.1
    obtain ⟨hS, hT⟩ := sc_facts hB
    obtain ⟨hD, hl, -⟩ := hg.2.1 D rfl
    have s1 := hS.1.1
    have bad : ¬ ((0 ≤ x ∧ x < ((dnL D * dnM D * dnE D : Nat) : Int)) ∧ 0 ≤ what ∧ what ≤ 2) → Q (some (zI (-1))) L (zup (zup m 2 14 1) 2 13 (-1)) := fun hn => by
      have e1 : sParts (T, some D, R, C, H, f, p, q) x what = gN (T, some D, R, C, H, f, p, q) 1 := if_neg hn
      rw [e1] at k
      exact k _ (zCI_ans h) zFR_ans
    by_cases h1 : 0 ≤ x ∧ x < ((dnL D * dnM D * dnE D : Nat) : Int)
    · by_cases n1 : what < 0
      · simp only [s117_0, s117_1, s117_4, s117_7, s117_8, s117_11, s117_12, s117_15, s117_18, s117_19, s117_22, s117_23, s117_24, s117_27, s117_28, s117_29, s117_32, s117_33, s117_34, s117_35, s117_38, s117_39, s117_40, s117_43, s117_46, Int.toNat_natCast, true_and, and_true, true_or, or_true, false_or, or_false, zwr_id, zpu_some, zpu_none, reduceIte, Int.reduceLE, Int.reduceLT, Int.reduceEq, Int.reduceNeg, Int.reduceAdd, Int.reduceSub, Int.reduceMul, Int.reduceToNat, Nat.reduceAdd, Nat.reduceLeDiff, Nat.reduceEqDiff, Nat.reduceLT, eq_self, ne_eq, not_false_eq_true, not_true_eq_false, a1, b11, p9, s1, x_hasCode hD hl hS hT, h1, and_self, n1, x_refuse a1]
        exact bad (fun q => by omega)
      · by_cases n2 : what ≤ 2
        · have e1 : sParts (T, some D, R, C, H, f, p, q) x what = gA (T, some D, R, C, H, f, p, q) (dPt D x what) := if_pos ⟨h1, by omega⟩
          rw [e1] at k
          simp only [s117_0, s117_1, s117_4, s117_7, s117_8, s117_11, s117_12, s117_15, s117_18, s117_19, s117_22, s117_23, s117_24, s117_27, s117_28, s117_29, s117_32, s117_33, s117_34, s117_35, s117_38, s117_39, s117_40, s117_43, s117_46, Int.toNat_natCast, true_and, and_true, true_or, or_true, false_or, or_false, zwr_id, zpu_some, zpu_none, reduceIte, Int.reduceLE, Int.reduceLT, Int.reduceEq, Int.reduceNeg, Int.reduceAdd, Int.reduceSub, Int.reduceMul, Int.reduceToNat, Nat.reduceAdd, Nat.reduceLeDiff, Nat.reduceEqDiff, Nat.reduceLT, eq_self, ne_eq, not_false_eq_true, not_true_eq_false, a1, b11, p9, s1, x_hasCode hD hl hS hT, h1, and_self, n1, n2, x_part hD hl hS hT h1, x_accept a1]
          exact k _ (zCI_ans h) zFR_ans
        · simp only [s117_0, s117_1, s117_4, s117_7, s117_8, s117_11, s117_12, s117_15, s117_18, s117_19, s117_22, s117_23, s117_24, s117_27, s117_28, s117_29, s117_32, s117_33, s117_34, s117_35, s117_38, s117_39, s117_40, s117_43, s117_46, Int.toNat_natCast, true_and, and_true, true_or, or_true, false_or, or_false, zwr_id, zpu_some, zpu_none, reduceIte, Int.reduceLE, Int.reduceLT, Int.reduceEq, Int.reduceNeg, Int.reduceAdd, Int.reduceSub, Int.reduceMul, Int.reduceToNat, Nat.reduceAdd, Nat.reduceLeDiff, Nat.reduceEqDiff, Nat.reduceLT, eq_self, ne_eq, not_false_eq_true, not_true_eq_false, a1, b11, p9, s1, x_hasCode hD hl hS hT, h1, and_self, n1, n2, x_refuse a1]
          exact bad (fun q => by omega)
    · have c3 : (if 0 ≤ x ∧ x < ((dnL D * dnM D * dnE D : Nat) : Int) then (1 : Int) else 0) = 0 := if_neg h1
      simp only [s117_0, s117_1, s117_4, s117_7, s117_8, s117_11, s117_12, s117_15, s117_18, s117_19, s117_22, s117_23, s117_24, s117_27, s117_28, s117_29, s117_32, s117_33, s117_34, s117_35, s117_38, s117_39, s117_40, s117_43, s117_46, Int.toNat_natCast, true_and, and_true, zpu_some, zpu_none, reduceIte, Int.reduceEq, Nat.reduceLeDiff, a1, b11, p9, s1, x_hasCode hD hl hS hT, c3, x_refuse a1]
      exact bad (fun q => h1 q.1)
theorem x_first {L : zY} {m : zM} {Q : zQ} {o cap : Nat} {es : List (Int × Int)} {ns : Nat} {sn : Nat → Int} {n : Int} (h : zPT L m o cap es ns sn) (hn : 0 ≤ n) : zwp 19 0 [zA o, zI n] [] L m Q ↔ Q (some (zI (es.getD n.toNat (-2, -2)).1)) L m := by
  obtain ⟨i, rfl⟩ : ∃ i : Nat, n = (i : Int) := ⟨n.toNat, by omega⟩
  obtain ⟨a1, a2, a3, a4, a5, a6, a7, a8, a9, a10, a11, a12, a13, a14, a15, a16, a17, a18, a19⟩ := id h
  rw [Int.toNat_natCast]
  by_cases hi : i < es.length
  · have e1 : 0 ≤ (i : Int) ∧ (i : Int) < (es.length : Int) := by omega
    have e2 : 0 ≤ (i : Int) ∧ (i : Int) < (cap : Int) := by omega
    have e3 := zAL_pair a17 hi
    simp only [s19_0, s19_1, s19_2, s19_5, s19_8, s19_9, s19_12, s19_13, s19_14, s19_17, s19_19, Int.toNat_natCast, true_and, and_true, true_or, or_true, false_or, or_false, zwr_id, zpu_some, zpu_none, reduceIte, Int.reduceLE, Int.reduceLT, Int.reduceEq, Int.reduceNeg, Int.reduceAdd, Int.reduceSub, Int.reduceMul, Int.reduceToNat, Nat.reduceAdd, Nat.reduceLeDiff, Nat.reduceEqDiff, Nat.reduceLT, eq_self, ne_eq, not_false_eq_true, not_true_eq_false, a1, a3, a7, a10, x_pthas h, e1, e2, and_self, e3]
    rw [getD_lt hi]
  · have e1 : (if 0 ≤ (i : Int) ∧ (i : Int) < (es.length : Int) then (1 : Int) else 0) = 0 := if_neg (by omega)
    simp only [s19_0, s19_1, s19_2, s19_5, s19_8, s19_9, s19_12, s19_13, s19_14, s19_17, s19_19, Int.toNat_natCast, true_and, and_true, zpu_some, zpu_none, reduceIte, Int.reduceEq, a1, x_pthas h, e1]
    rw [List.getD_eq_getElem?_getD, List.getElem?_eq_none (by omega)]
    rfl
theorem x_second {L : zY} {m : zM} {Q : zQ} {o cap : Nat} {es : List (Int × Int)} {ns : Nat} {sn : Nat → Int} {n : Int} (h : zPT L m o cap es ns sn) (hn : 0 ≤ n) : zwp 20 0 [zA o, zI n] [] L m Q ↔ Q (some (zI (es.getD n.toNat (-2, -2)).2)) L m := by
  obtain ⟨i, rfl⟩ : ∃ i : Nat, n = (i : Int) := ⟨n.toNat, by omega⟩
  obtain ⟨a1, a2, a3, a4, a5, a6, a7, a8, a9, a10, a11, a12, a13, a14, a15, a16, a17, a18, a19⟩ := id h
  rw [Int.toNat_natCast]
  by_cases hi : i < es.length
  · have e1 : 0 ≤ (i : Int) ∧ (i : Int) < (es.length : Int) := by omega
    have e2 : 0 ≤ (i : Int) ∧ (i : Int) < (cap : Int) := by omega
    have e3 := zAL_pair a18 hi
    simp only [s20_0, s20_1, s20_2, s20_5, s20_8, s20_9, s20_12, s20_13, s20_14, s20_17, s20_19, Int.toNat_natCast, true_and, and_true, true_or, or_true, false_or, or_false, zwr_id, zpu_some, zpu_none, reduceIte, Int.reduceLE, Int.reduceLT, Int.reduceEq, Int.reduceNeg, Int.reduceAdd, Int.reduceSub, Int.reduceMul, Int.reduceToNat, Nat.reduceAdd, Nat.reduceLeDiff, Nat.reduceEqDiff, Nat.reduceLT, eq_self, ne_eq, not_false_eq_true, not_true_eq_false, a1, a4, a8, a11, x_pthas h, e1, e2, and_self, e3]
    rw [getD_lt hi]
  · have e1 : (if 0 ≤ (i : Int) ∧ (i : Int) < (es.length : Int) then (1 : Int) else 0) = 0 := if_neg (by omega)
    simp only [s20_0, s20_1, s20_2, s20_5, s20_8, s20_9, s20_12, s20_13, s20_14, s20_17, s20_19, Int.toNat_natCast, true_and, and_true, zpu_some, zpu_none, reduceIte, Int.reduceEq, a1, x_pthas h, e1]
    rw [List.getD_eq_getElem?_getD, List.getElem?_eq_none (by omega)]
    rfl
/-- the KEYS in a CODE's slots -/
def dSl (D : zD) (x : Int) : List Int := [((dTL D).getD (dCL D x).toNat (-2, -2)).1, ((dTL D).getD (dCL D x).toNat (-2, -2)).2, ((dTM D).getD (dCM D x).toNat (-2, -2)).1, ((dTM D).getD (dCM D x).toNat (-2, -2)).2, ((dTE D).getD (dCE D x).toNat (-2, -2)).1, ((dTE D).getD (dCE D x).toNat (-2, -2)).2]
/-- the KEYS of a CODE -/
def dSp (D : zD) (x : Int) : List Int := (dSl D x).filter (fun y => decide (y ≠ -2))
theorem zsl : zshr 0 1 = 0 ∧ zshr 1 1 = 0 ∧ zshr 2 1 = 1 ∧ zshr 3 1 = 1 ∧ zshr 4 1 = 2 ∧ zshr 5 1 = 2 ∧ zand 0 1 = 0 ∧ zand 1 1 = 1 ∧ zand 2 1 = 0 ∧ zand 3 1 = 1 ∧ zand 4 1 = 0 ∧ zand 5 1 = 1 := by decide +kernel
theorem x_slot {L : zY} {m : zM} {Q : zQ} {c s : Nat} {D : zD} {x : Int} (hD : dOk D) (hl : dLacks D = false) (hS : zSd L m c D) (hT : zSt L m c D) (hx : dHas D x) (hs : s < 6) : zwp 74 0 [zA c, zI x, zI (s : Nat), zU, zU, zU] [] L m Q ↔ Q (some (zI ((dSl D x).getD s 0))) L m := by
  have s1 := hS.1.1
  have q7 := hS.1.2.2.2.2.2.2.2.2.2.1
  have q8 := hS.1.2.2.2.2.2.2.2.2.2.2.1
  have q9 := hS.1.2.2.2.2.2.2.2.2.2.2.2.1
  obtain ⟨⟨t7, n7⟩, ⟨t8, n8⟩, ⟨t9, n9⟩⟩ := st_n hT
  obtain ⟨r1, r2, r3⟩ := dC_rng hD hl hx
  obtain ⟨z0, z1', z2, z3, z4, z5, y0, y1, y2, y3, y4, y5⟩ := zsl
  have p0 : dPt D x 0 = dCL D x := rfl
  have p1 : dPt D x 1 = dCM D x := rfl
  have p2 : dPt D x 2 = dCE D x := rfl
  have : s = 0 ∨ s = 1 ∨ s = 2 ∨ s = 3 ∨ s = 4 ∨ s = 5 := by omega
  rcases this with e | e | e | e | e | e <;> subst e <;> simp only [s74_0, s74_1, s74_2, s74_3, s74_4, s74_5, s74_8, s74_9, s74_12, s74_15, s74_16, s74_17, s74_20, s74_21, s74_24, s74_27, s74_28, s74_31, s74_33, s74_34, s74_35, s74_36, s74_39, s74_41, s74_42, s74_43, s74_44, s74_47, s74_49, s74_51, s74_54, s74_57, s74_59, s74_61, s74_64, Int.toNat_natCast, true_and, and_true, true_or, or_true, false_or, or_false, zwr_id, zpu_some, zpu_none, reduceIte, Int.reduceLE, Int.reduceLT, Int.reduceEq, Int.reduceNeg, Int.reduceAdd, Int.reduceSub, Int.reduceMul, Int.reduceToNat, Nat.reduceAdd, Nat.reduceLeDiff, Nat.reduceEqDiff, Nat.reduceLT, eq_self, ne_eq, not_false_eq_true, not_true_eq_false, Int.cast_ofNat_Int, s1, q7, q8, q9, t7, t8, t9, z0, z1', z2, z3, z4, z5, y0, y1, y2, y3, y4, y5, x_part hD hl hS hT hx, p0, p1, p2, x_first hT.1 r1.1, x_second hT.1 r1.1, x_first hT.2.1 r2.1, x_second hT.2.1 r2.1, x_first hT.2.2 r3.1, x_second hT.2.2 r3.1] <;> exact Iff.rfl
def sSpelt (g : zG) (x k : Int) : Int × zG := match gD g with
  | none => gN g 1
  | some D => if (0 ≤ x ∧ x < ((dnL D * dnM D * dnE D : Nat) : Int)) ∧ 0 ≤ k then gA g ((dSp D x).getD k.toNat (-2)) else gN g 1
theorem c_spl {L : zY} {m : zM} {Q : zQ} {sc : Nat} {D : zD} {x kq : Int} (a1 : zt L 2 = 10) (p9 : m 2 9 = (sc : Int)) (hD : dOk D) (hl : dLacks D = false) (hS : zSd L m sc D) (hT : zSt L m sc D) (hx : dHas D x) : ∀ (d s l : Nat) (l5 : zV), 6 - s = d → s ≤ 6 → (l < 2147483648) → Q (some (zI ((((dSl D x).drop s).filter (fun y => decide (y ≠ -2))).getD l (-2)))) L (zup (zup m 2 14 0) 2 13 (-1)) → zwp 118 33 [zA 2, zI x, zI kq, zI (l : Nat), zI (s : Nat), l5] [] L m Q := by
  have s1 := hS.1.1
  have len : (dSl D x).length = 6 := rfl
  intro d
  induction d with
  | zero =>
    intro s l l5 hd hs hl' k
    have e : s = 6 := by omega
    subst e
    rw [List.drop_eq_nil_of_le (by rw [len]; exact Nat.le_refl _)] at k
    simp only [s118_33, s118_35, s118_37, s118_79, s118_80, s118_82, s118_85, Int.toNat_natCast, true_and, and_true, true_or, or_true, false_or, or_false, zwr_id, zpu_some, zpu_none, reduceIte, Int.reduceLE, Int.reduceLT, Int.reduceEq, Int.reduceNeg, Int.reduceAdd, Int.reduceSub, Int.reduceMul, Int.reduceToNat, Nat.reduceAdd, Nat.reduceLeDiff, Nat.reduceEqDiff, Nat.reduceLT, eq_self, ne_eq, not_false_eq_true, not_true_eq_false, Int.cast_ofNat_Int, a1, x_accept a1]
    exact k
  | succ d ih =>
    intro s l l5 hd hs hl' k
    have hs6 : s < (dSl D x).length := by rw [len]; omega
    have hs' : s < 6 := by omega
    rw [List.drop_eq_getElem_cons hs6] at k
    have e0 : (dSl D x).getD s 0 = (dSl D x)[s] := getD_lt hs6
    have n1 : ¬ 6 ≤ (s : Int) := by omega
    have sv : s < 1000000 := by omega
    simp only [s118_33]
    simp only [s118_35, s118_37, s118_40, s118_41, s118_44, s118_45, s118_47, s118_50, s118_52, s118_54, Int.toNat_natCast, true_and, and_true, true_or, or_true, false_or, or_false, zwr_id, zpu_some, zpu_none, reduceIte, Int.reduceLE, Int.reduceLT, Int.reduceEq, Int.reduceNeg, Int.reduceAdd, Int.reduceSub, Int.reduceMul, Int.reduceToNat, Nat.reduceAdd, Nat.reduceLeDiff, Nat.reduceEqDiff, Nat.reduceLT, eq_self, ne_eq, not_false_eq_true, not_true_eq_false, a1, p9, s1, n1, x_slot hD hl hS hT hx hs', e0]
    generalize (dSl D x)[s] = y at *
    simp only [s118_56]
    by_cases hy : y = -2
    · rw [if_pos hy]
      rw [List.filter_cons_of_neg (by simp [hy])] at k
      simp only [s118_73, s118_76, Int.toNat_natCast, true_and, and_true, true_or, or_true, false_or, or_false, zwr_id, zpu_some, zpu_none, reduceIte, Int.reduceLE, Int.reduceLT, Int.reduceEq, Int.reduceNeg, Int.reduceAdd, Int.reduceSub, Int.reduceMul, Int.reduceToNat, Nat.reduceAdd, Nat.reduceLeDiff, Nat.reduceEqDiff, Nat.reduceLT, eq_self, ne_eq, not_false_eq_true, not_true_eq_false, z1 sv]
      exact ih (s + 1) l _ (by omega) (by omega) hl' k
    · rw [if_neg hy]
      rw [List.filter_cons_of_pos (by simp [hy])] at k
      by_cases h0 : l = 0
      · subst h0
        simp only [s118_59, s118_60, s118_63, s118_64, s118_66, s118_69, Int.toNat_natCast, true_and, and_true, true_or, or_true, false_or, or_false, zwr_id, zpu_some, zpu_none, reduceIte, Int.reduceLE, Int.reduceLT, Int.reduceEq, Int.reduceNeg, Int.reduceAdd, Int.reduceSub, Int.reduceMul, Int.reduceToNat, Nat.reduceAdd, Nat.reduceLeDiff, Nat.reduceEqDiff, Nat.reduceLT, eq_self, ne_eq, not_false_eq_true, not_true_eq_false, Int.cast_ofNat_Int, a1, x_accept a1]
        exact k
      · obtain ⟨j, rfl⟩ : ∃ j, l = j + 1 := ⟨l - 1, by omega⟩
        have n2 : ¬ ((j + 1 : Nat) : Int) = 0 := by omega
        have hj : j < 2147483648 := by omega
        simp only [s118_59, s118_60, s118_70, s118_73, s118_76, Int.toNat_natCast, true_and, and_true, true_or, or_true, false_or, or_false, zwr_id, zpu_some, zpu_none, reduceIte, Int.reduceLE, Int.reduceLT, Int.reduceEq, Int.reduceNeg, Int.reduceAdd, Int.reduceSub, Int.reduceMul, Int.reduceToNat, Nat.reduceAdd, Nat.reduceLeDiff, Nat.reduceEqDiff, Nat.reduceLT, eq_self, ne_eq, not_false_eq_true, not_true_eq_false, n2, (show zwr (((j + 1 : Nat) : Int) + -1) = (j : Int) by rw [zwr_id (by omega) (by omega)]; omega), z1 sv]
        exact ih (s + 1) j _ (by omega) (by omega) hj k
theorem c_spelt {L : zY} {m : zM} {Q : zQ} {g : zG} {x kq : Int} (hg : gOk g) (hk : kq < 2147483648) (h : zCI L m g) (k : ∀ m', zCI L m' (sSpelt g x kq).2 → zFR 2 331 m m' → Q (some (zI (sSpelt g x kq).1)) L m') : zwp 118 0 [zA 2, zI x, zI kq, zU, zU, zU] [] L m Q := by
  have h' := h
  obtain ⟨T, od, R, C, H, f, p, q⟩ := g
  obtain ⟨sc, sp, hO, hB⟩ := h'
  have a1 := hO.1
  have p9 := hO.2.1.2.2.2.2.2.2.2.2.2.1
  cases od with
  | none =>
    have b11 : m 2 11 = 0 := hO.2.2.1
    simp only [s118_0, s118_1, s118_4, s118_7, s118_8, s118_11, s118_12, s118_15, s118_18, s118_19, s118_22, s118_23, s118_24, s118_27, Int.toNat_natCast, true_and, and_true, true_or, or_true, false_or, or_false, zwr_id, zpu_some, zpu_none, reduceIte, Int.reduceLE, Int.reduceLT, Int.reduceEq, Int.reduceNeg, Int.reduceAdd, Int.reduceSub, Int.reduceMul, Int.reduceToNat, Nat.reduceAdd, Nat.reduceLeDiff, Nat.reduceEqDiff, Nat.reduceLT, eq_self, ne_eq, not_false_eq_true, not_true_eq_false, a1, b11, x_refuse a1]
    exact k _ (zCI_ans h) zFR_ans
  | some D =>
    have b11 : m 2 11 = 1 := hO.2.2.1
    obtain ⟨hS, hT⟩ := sc_facts hB
    obtain ⟨hD, hl, -⟩ := hg.2.1 D rfl
    have s1 := hS.1.1
    have bad : ¬ ((0 ≤ x ∧ x < ((dnL D * dnM D * dnE D : Nat) : Int)) ∧ 0 ≤ kq) → Q (some (zI (-1))) L (zup (zup m 2 14 1) 2 13 (-1)) := fun hn => by
      have e1 : sSpelt (T, some D, R, C, H, f, p, q) x kq = gN (T, some D, R, C, H, f, p, q) 1 := if_neg hn
      rw [e1] at k
      exact k _ (zCI_ans h) zFR_ans
    by_cases h1 : 0 ≤ x ∧ x < ((dnL D * dnM D * dnE D : Nat) : Int)
    · by_cases n1 : 0 ≤ kq
      · have e1 : sSpelt (T, some D, R, C, H, f, p, q) x kq = gA (T, some D, R, C, H, f, p, q) ((dSp D x).getD kq.toNat (-2)) := if_pos ⟨h1, n1⟩
        rw [e1] at k
        have fin := k _ (zCI_ans h) zFR_ans
        simp only [s118_0, s118_1, s118_4, s118_7, s118_8, s118_11, s118_12, s118_15, s118_18, s118_19, s118_22, s118_23, s118_24, s118_27, s118_28, s118_29, s118_30, s118_31, Int.toNat_natCast, true_and, and_true, true_or, or_true, false_or, or_false, zwr_id, zpu_some, zpu_none, reduceIte, Int.reduceLE, Int.reduceLT, Int.reduceEq, Int.reduceNeg, Int.reduceAdd, Int.reduceSub, Int.reduceMul, Int.reduceToNat, Nat.reduceAdd, Nat.reduceLeDiff, Nat.reduceEqDiff, Nat.reduceLT, eq_self, ne_eq, not_false_eq_true, not_true_eq_false, a1, b11, p9, s1, x_hasCode hD hl hS hT, h1, and_self, n1]
        obtain ⟨j, rfl⟩ : ∃ j : Nat, kq = (j : Int) := ⟨kq.toNat, by omega⟩
        exact c_spl a1 p9 hD hl hS hT h1 6 0 j zU rfl (by omega) (by omega) fin
      · simp only [s118_0, s118_1, s118_4, s118_7, s118_8, s118_11, s118_12, s118_15, s118_18, s118_19, s118_22, s118_23, s118_24, s118_27, s118_28, s118_29, s118_30, s118_31, Int.toNat_natCast, true_and, and_true, true_or, or_true, false_or, or_false, zwr_id, zpu_some, zpu_none, reduceIte, Int.reduceLE, Int.reduceLT, Int.reduceEq, Int.reduceNeg, Int.reduceAdd, Int.reduceSub, Int.reduceMul, Int.reduceToNat, Nat.reduceAdd, Nat.reduceLeDiff, Nat.reduceEqDiff, Nat.reduceLT, eq_self, ne_eq, not_false_eq_true, not_true_eq_false, a1, b11, p9, s1, x_hasCode hD hl hS hT, h1, and_self, n1, x_refuse a1]
        exact bad (fun q => n1 q.2)
    · have c3 : (if 0 ≤ x ∧ x < ((dnL D * dnM D * dnE D : Nat) : Int) then (1 : Int) else 0) = 0 := if_neg h1
      simp only [s118_0, s118_1, s118_4, s118_7, s118_8, s118_11, s118_12, s118_15, s118_18, s118_19, s118_22, s118_23, s118_24, s118_27, s118_28, s118_29, s118_30, s118_31, Int.toNat_natCast, true_and, and_true, zpu_some, zpu_none, reduceIte, Int.reduceEq, Nat.reduceLeDiff, a1, b11, p9, s1, x_hasCode hD hl hS hT, c3, x_refuse a1]
      exact bad (fun q => h1 q.1)
