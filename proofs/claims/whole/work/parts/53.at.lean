theorem x_hasPl {L : zY} {m : zM} {Q : zQ} {o : Nat} {row : List Int} {caret ov n : Int} (h : zRw L m o row caret ov) : zwp 44 0 [zA o, zI n] [] L m Q ↔ Q (some (zI (if 0 ≤ n ∧ n < (row.length : Int) then 1 else 0))) L m := by
  obtain ⟨a1, a2, a3, a4, a5, a6, a7, a8, a9, a10⟩ := h
  simp only [s44_0, s44_1, s44_4, s44_5, s44_6, s44_9, s44_12, s44_13, s44_16, s44_17, Int.toNat_natCast, true_and, and_true, true_or, or_true, false_or, or_false, zwr_id, zpu_some, zpu_none, reduceIte, Int.reduceLE, Int.reduceLT, Int.reduceEq, Int.reduceNeg, Int.reduceAdd, Int.reduceSub, Int.reduceMul, Int.reduceToNat, Nat.reduceAdd, Nat.reduceLeDiff, Nat.reduceEqDiff, Nat.reduceLT, eq_self, ne_eq, not_false_eq_true, not_true_eq_false, a1, a6]
  by_cases c1 : n < 0
  · rw [if_pos c1, if_neg (by omega)]
  · by_cases c2 : (row.length : Int) ≤ n
    · rw [if_neg c1, if_pos c2, if_neg (by omega)]
    · rw [if_neg c1, if_neg c2, if_pos (by omega)]
def sAt (g : zG) (n : Int) : Int × zG := if 0 ≤ n ∧ n < ((gR g).length : Int) then gA g ((gR g).getD n.toNat 0) else gN g 1
theorem c_at {L : zY} {m : zM} {Q : zQ} {g : zG} {n : Int} (h : zCI L m g) (k : ∀ m', zCI L m' (sAt g n).2 → zFR 2 331 m m' → Q (some (zI (sAt g n).1)) L m') : zwp 138 0 [zA 2, zI n] [] L m Q := by
  have h' := h
  obtain ⟨T, od, R, C, H, f, p, q⟩ := g
  obtain ⟨sc, sp, hO, hB⟩ := h'
  have a1 := hO.1
  have p2 := hO.2.1.2.2.1
  obtain ⟨ov, hR⟩ := hB.2.2.1
  have t6 := hR.1
  by_cases h1 : 0 ≤ n ∧ n < (R.length : Int)
  · have e1 : sAt (T, od, R, C, H, f, p, q) n = gA (T, od, R, C, H, f, p, q) (R.getD n.toNat 0) := if_pos h1
    rw [e1] at k
    have fin := k _ (zCI_ans h) zFR_ans
    obtain ⟨j, rfl⟩ : ∃ j : Nat, n = (j : Int) := ⟨n.toNat, by omega⟩
    have hj : j < R.length := by omega
    rw [Int.toNat_natCast, getD_lt hj] at fin
    simp only [s138_0, s138_1, s138_4, s138_5, s138_8, s138_11, s138_12, s138_13, s138_16, s138_17, s138_18, s138_19, s138_22, s138_23, s138_26, s138_29, Int.toNat_natCast, true_and, and_true, true_or, or_true, false_or, or_false, zwr_id, zpu_some, zpu_none, reduceIte, Int.reduceLE, Int.reduceLT, Int.reduceEq, Int.reduceNeg, Int.reduceAdd, Int.reduceSub, Int.reduceMul, Int.reduceToNat, Nat.reduceAdd, Nat.reduceLeDiff, Nat.reduceEqDiff, Nat.reduceLT, eq_self, ne_eq, not_false_eq_true, not_true_eq_false, a1, p2, t6, x_hasPl hR, h1, and_self, x_signAt hR hj, x_accept a1]
    exact fin
  · have e1 : sAt (T, od, R, C, H, f, p, q) n = gN (T, od, R, C, H, f, p, q) 1 := if_neg h1
    rw [e1] at k
    have c3 : (if 0 ≤ n ∧ n < (R.length : Int) then (1 : Int) else 0) = 0 := if_neg h1
    simp only [s138_0, s138_1, s138_4, s138_5, s138_8, s138_11, s138_12, s138_13, s138_16, s138_17, s138_18, s138_19, s138_22, s138_23, s138_26, s138_29, Int.toNat_natCast, true_and, and_true, zpu_some, zpu_none, reduceIte, Int.reduceEq, Int.reduceToNat, a1, p2, t6, x_hasPl hR, c3, x_refuse a1]
    exact k _ (zCI_ans h) zFR_ans
def pl0 : Int × Int × Int := (-2, -2, 0)
def fOf (g : zG) (n : Nat) (what : Int) : Int := if what = 0 then ((gI g).2.2.1.getD n pl0).1 else if what = 1 then ((gI g).2.2.1.getD n pl0).2.2 else ((gI g).2.2.1.getD n pl0).2.1
def sOf (g : zG) (n what : Int) : Int × zG := if (0 ≤ n ∧ n < ((gR g).length : Int)) ∧ 0 ≤ what ∧ what ≤ 2 then gA g (fOf g n.toNat what) else gN g 1
theorem c_of {L : zY} {m : zM} {Q : zQ} {g : zG} {n what : Int} (hg : gOk g) (h : zCI L m g) (k : ∀ m', zCI L m' (sOf g n what).2 → zFR 2 331 m m' → Q (some (zI (sOf g n what).1)) L m') : zwp 139 0 [zA 2, zI n, zI what] [] L m Q := by
  have h' := h
  have hlen := (gI_ok hg).2
  obtain ⟨T, od, R, C, H, f, p, q⟩ := g
  obtain ⟨sc, sp, hO, hB⟩ := h'
  have hlen : (kRun (oP od) R).2.2.1.length = R.length := hlen
  have a1 := hO.1
  have p2 := hO.2.1.2.2.1
  have p4 := hO.2.1.2.2.2.2.1
  obtain ⟨ov, hR⟩ := hB.2.2.1
  have hN := hB.2.2.2.2.1
  have t6 := hR.1
  have t10 := hN.1.1
  have bad : ¬ ((0 ≤ n ∧ n < (R.length : Int)) ∧ 0 ≤ what ∧ what ≤ 2) → Q (some (zI (-1))) L (zup (zup m 2 14 1) 2 13 (-1)) := fun hn => by
    have e1 : sOf (T, od, R, C, H, f, p, q) n what = gN (T, od, R, C, H, f, p, q) 1 := if_neg hn
    rw [e1] at k
    exact k _ (zCI_ans h) zFR_ans
  by_cases h1 : 0 ≤ n ∧ n < (R.length : Int)
  · by_cases n1 : what < 0
    · simp only [s139_0, s139_1, s139_4, s139_5, s139_8, s139_11, s139_12, s139_15, s139_16, s139_17, s139_20, s139_21, s139_22, s139_25, s139_26, s139_27, s139_28, s139_31, s139_32, s139_33, s139_36, s139_39, Int.toNat_natCast, true_and, and_true, true_or, or_true, false_or, or_false, zwr_id, zpu_some, zpu_none, reduceIte, Int.reduceLE, Int.reduceLT, Int.reduceEq, Int.reduceNeg, Int.reduceAdd, Int.reduceSub, Int.reduceMul, Int.reduceToNat, Nat.reduceAdd, Nat.reduceLeDiff, Nat.reduceEqDiff, Nat.reduceLT, eq_self, ne_eq, not_false_eq_true, not_true_eq_false, a1, p2, t6, x_hasPl hR, h1, and_self, n1, x_refuse a1]
      exact bad (fun q => by omega)
    · by_cases n2 : what ≤ 2
      · have e1 : sOf (T, od, R, C, H, f, p, q) n what = gA (T, od, R, C, H, f, p, q) (fOf (T, od, R, C, H, f, p, q) n.toNat what) := if_pos ⟨h1, by omega⟩
        rw [e1] at k
        have fin := k _ (zCI_ans h) zFR_ans
        obtain ⟨j, rfl⟩ : ∃ j : Nat, n = (j : Int) := ⟨n.toNat, by omega⟩
        have hj : j < (kRun (oP od) R).2.2.1.length := by omega
        have e2 : fOf (T, od, R, C, H, f, p, q) (j : Int).toNat what = if what = 0 then (kRun (oP od) R).2.2.1[j].1 else if what = 1 then (kRun (oP od) R).2.2.1[j].2.2 else (kRun (oP od) R).2.2.1[j].2.1 := by
          rw [← getD_lt (d := pl0) hj]; rfl
        rw [e2] at fin
        simp only [s139_0, s139_1, s139_4, s139_5, s139_8, s139_11, s139_12, s139_15, s139_16, s139_17, s139_20, s139_21, s139_22, s139_25, s139_26, s139_27, s139_28, s139_31, s139_32, s139_33, s139_36, s139_39, Int.toNat_natCast, true_and, and_true, true_or, or_true, false_or, or_false, zwr_id, zpu_some, zpu_none, reduceIte, Int.reduceLE, Int.reduceLT, Int.reduceEq, Int.reduceNeg, Int.reduceAdd, Int.reduceSub, Int.reduceMul, Int.reduceToNat, Nat.reduceAdd, Nat.reduceLeDiff, Nat.reduceEqDiff, Nat.reduceLT, eq_self, ne_eq, not_false_eq_true, not_true_eq_false, a1, p2, p4, t6, t10, x_hasPl hR, h1, and_self, n1, n2, x_pf hN.1 hN.2.2.1 hj, x_accept a1]
        exact fin
      · simp only [s139_0, s139_1, s139_4, s139_5, s139_8, s139_11, s139_12, s139_15, s139_16, s139_17, s139_20, s139_21, s139_22, s139_25, s139_26, s139_27, s139_28, s139_31, s139_32, s139_33, s139_36, s139_39, Int.toNat_natCast, true_and, and_true, true_or, or_true, false_or, or_false, zwr_id, zpu_some, zpu_none, reduceIte, Int.reduceLE, Int.reduceLT, Int.reduceEq, Int.reduceNeg, Int.reduceAdd, Int.reduceSub, Int.reduceMul, Int.reduceToNat, Nat.reduceAdd, Nat.reduceLeDiff, Nat.reduceEqDiff, Nat.reduceLT, eq_self, ne_eq, not_false_eq_true, not_true_eq_false, a1, p2, t6, x_hasPl hR, h1, and_self, n1, n2, x_refuse a1]
        exact bad (fun q => by omega)
  · have c3 : (if 0 ≤ n ∧ n < (R.length : Int) then (1 : Int) else 0) = 0 := if_neg h1
    simp only [s139_0, s139_1, s139_4, s139_5, s139_8, s139_11, s139_12, s139_15, s139_16, s139_17, s139_20, s139_21, s139_22, s139_25, s139_26, s139_27, s139_28, s139_31, s139_32, s139_33, s139_36, s139_39, Int.toNat_natCast, true_and, and_true, zpu_some, zpu_none, reduceIte, Int.reduceEq, Int.reduceToNat, a1, p2, t6, x_hasPl hR, c3, x_refuse a1]
    exact bad (fun q => h1 q.1)
def sWithin (g : zG) : Int × zG := match gD g with
  | none => gN g 1
  | some _ => if (0 < gC g ∧ gC g < (gR g).length) ∧ ((gI g).2.2.1.getD (gC g - 1) pl0).1 = ((gI g).2.2.1.getD (gC g) pl0).1 then gA g ((gI g).2.2.1.getD (gC g) pl0).1 else gA g (-2)
theorem c_within {L : zY} {m : zM} {Q : zQ} {g : zG} (hg : gOk g) (h : zCI L m g) (k : ∀ m', zCI L m' (sWithin g).2 → zFR 2 331 m m' → Q (some (zI (sWithin g).1)) L m') : zwp 141 0 [zA 2, zU] [] L m Q := by
  have h' := h
  have hlen := (gI_ok hg).2
  obtain ⟨T, od, R, C, H, f, p, q⟩ := g
  obtain ⟨sc, sp, hO, hB⟩ := h'
  have hlen : (kRun (oP od) R).2.2.1.length = R.length := hlen
  have a1 := hO.1
  have p2 := hO.2.1.2.2.1
  have p4 := hO.2.1.2.2.2.2.1
  obtain ⟨ov, hR⟩ := hB.2.2.1
  have hN := hB.2.2.2.2.1
  have t6 := hR.1
  have n6 := hR.2.2.2.2.2.1
  have c6 := hR.2.2.2.2.2.2.2.1
  have hR80 := hR.2.2.2.2.2.2.1
  have t10 := hN.1.1
  cases od with
  | none =>
    have b11 : m 2 11 = 0 := hO.2.2.1
    simp only [s141_0, s141_1, s141_4, s141_7, s141_8, s141_9, s141_12, s141_13, s141_14, s141_17, s141_20, s141_21, s141_22, s141_25, s141_26, s141_27, s141_30, s141_33, s141_36, s141_37, s141_40, s141_41, s141_42, s141_43, s141_44, s141_47, s141_48, s141_51, s141_52, s141_53, s141_56, s141_59, s141_60, s141_62, s141_65, s141_66, s141_67, s141_68, s141_71, s141_72, s141_73, s141_76, s141_79, Int.toNat_natCast, true_and, and_true, true_or, or_true, false_or, or_false, zwr_id, zpu_some, zpu_none, reduceIte, Int.reduceLE, Int.reduceLT, Int.reduceEq, Int.reduceNeg, Int.reduceAdd, Int.reduceSub, Int.reduceMul, Int.reduceToNat, Nat.reduceAdd, Nat.reduceLeDiff, Nat.reduceEqDiff, Nat.reduceLT, eq_self, ne_eq, not_false_eq_true, not_true_eq_false, a1, b11, x_refuse a1]
    exact k _ (zCI_ans h) zFR_ans
  | some D =>
    have b11 : m 2 11 = 1 := hO.2.2.1
    have no : ¬ ((0 < C ∧ C < R.length) ∧ ((kRun (zPof D) R).2.2.1.getD (C - 1) pl0).1 = ((kRun (zPof D) R).2.2.1.getD C pl0).1) → Q (some (zI (-2))) L (zup (zup m 2 14 0) 2 13 (-1)) := fun hn => by
      have e1 : sWithin (T, some D, R, C, H, f, p, q) = gA (T, some D, R, C, H, f, p, q) (-2) := if_neg hn
      rw [e1] at k
      exact k _ (zCI_ans h) zFR_ans
    by_cases h1 : 0 < C
    · by_cases h2 : C < R.length
      · have n1 : ¬ (C : Int) ≤ 0 := by omega
        have n2 : ¬ (R.length : Int) ≤ (C : Int) := by omega
        have hj : C < (kRun (zPof D) R).2.2.1.length := by rw [show zPof D = oP (some D) from rfl]; omega
        have hj1 : C - 1 < (kRun (zPof D) R).2.2.1.length := by omega
        have hN : zRC L m 10 (kRun (zPof D) R) := hN
        have xa := fun (Q : zQ) => x_pf (Q := Q) (what := 0) hN.1 hN.2.2.1 hj
        have xb := fun (Q : zQ) => x_pf (Q := Q) (what := 0) hN.1 hN.2.2.1 hj1
        simp only [reduceIte] at xa xb
        rw [getD_lt hj, getD_lt hj1] at no
        simp only [s141_0, s141_1, s141_4, s141_7, s141_8, s141_9, s141_12, s141_13, s141_14, s141_17, s141_20, s141_21, s141_22, s141_25, s141_26, s141_27, s141_30, s141_33, s141_36, s141_37, s141_40, s141_41, s141_42, s141_43, s141_44, s141_47, s141_48, s141_51, s141_52, s141_53, s141_56, s141_59, s141_60, s141_62, s141_65, s141_66, s141_67, s141_68, s141_71, s141_72, s141_73, s141_76, s141_79, Int.toNat_natCast, true_and, and_true, true_or, or_true, false_or, or_false, zwr_id, zpu_some, zpu_none, reduceIte, Int.reduceLE, Int.reduceLT, Int.reduceEq, Int.reduceNeg, Int.reduceAdd, Int.reduceSub, Int.reduceMul, Int.reduceToNat, Nat.reduceAdd, Nat.reduceLeDiff, Nat.reduceEqDiff, Nat.reduceLT, eq_self, ne_eq, not_false_eq_true, not_true_eq_false, a1, b11, p2, p4, t6, n6, c6, t10, n1, n2, (show zwr ((C : Int) - 1) = ((C - 1 : Nat) : Int) by rw [zwr_id (by omega) (by omega)]; omega), xa, xb, x_accept a1]
        by_cases h3 : (kRun (zPof D) R).2.2.1[C - 1].1 = (kRun (zPof D) R).2.2.1[C].1
        · have e1 : sWithin (T, some D, R, C, H, f, p, q) = gA (T, some D, R, C, H, f, p, q) ((kRun (zPof D) R).2.2.1[C].1) := by
            rw [← getD_lt (d := pl0) hj]
            exact if_pos ⟨⟨h1, h2⟩, by rw [← getD_lt (d := pl0) hj, ← getD_lt (d := pl0) hj1] at h3; exact h3⟩
          rw [e1] at k
          rw [if_pos h3]
          exact k _ (zCI_ans h) zFR_ans
        · rw [if_neg h3]
          exact no (fun q => h3 q.2)
      · have n1 : ¬ (C : Int) ≤ 0 := by omega
        have n2 : (R.length : Int) ≤ (C : Int) := by omega
        simp only [s141_0, s141_1, s141_4, s141_7, s141_8, s141_9, s141_12, s141_13, s141_14, s141_17, s141_20, s141_21, s141_22, s141_25, s141_26, s141_27, s141_30, s141_33, s141_36, s141_37, s141_40, s141_41, s141_42, s141_43, s141_44, s141_47, s141_48, s141_51, s141_52, s141_53, s141_56, s141_59, s141_60, s141_62, s141_65, s141_66, s141_67, s141_68, s141_71, s141_72, s141_73, s141_76, s141_79, Int.toNat_natCast, true_and, and_true, true_or, or_true, false_or, or_false, zwr_id, zpu_some, zpu_none, reduceIte, Int.reduceLE, Int.reduceLT, Int.reduceEq, Int.reduceNeg, Int.reduceAdd, Int.reduceSub, Int.reduceMul, Int.reduceToNat, Nat.reduceAdd, Nat.reduceLeDiff, Nat.reduceEqDiff, Nat.reduceLT, eq_self, ne_eq, not_false_eq_true, not_true_eq_false, a1, b11, p2, t6, n6, c6, n1, n2, x_accept a1]
        exact no (fun q => h2 q.1.2)
    · have n1 : (C : Int) ≤ 0 := by omega
      simp only [s141_0, s141_1, s141_4, s141_7, s141_8, s141_9, s141_12, s141_13, s141_14, s141_17, s141_20, s141_21, s141_22, s141_25, s141_26, s141_27, s141_30, s141_33, s141_36, s141_37, s141_40, s141_41, s141_42, s141_43, s141_44, s141_47, s141_48, s141_51, s141_52, s141_53, s141_56, s141_59, s141_60, s141_62, s141_65, s141_66, s141_67, s141_68, s141_71, s141_72, s141_73, s141_76, s141_79, Int.toNat_natCast, true_and, and_true, true_or, or_true, false_or, or_false, zwr_id, zpu_some, zpu_none, reduceIte, Int.reduceLE, Int.reduceLT, Int.reduceEq, Int.reduceNeg, Int.reduceAdd, Int.reduceSub, Int.reduceMul, Int.reduceToNat, Nat.reduceAdd, Nat.reduceLeDiff, Nat.reduceEqDiff, Nat.reduceLT, eq_self, ne_eq, not_false_eq_true, not_true_eq_false, a1, b11, p2, t6, n6, c6, n1, x_accept a1]
      exact no (fun q => h1 q.1.1)
/-! item -/
def fItem (D : zD) (x : zIt) (what : Int) : Int := if what = 0 then itSo x else if what = 1 then itL x else if what = 2 then itM x else if what = 3 then itC x else if what = 4 then (if itSo x = 0 then zcod D (itL x) (itM x) (itC x) else -2) else if what = 5 then itF x else itN x
def sItem (g : zG) (i what : Int) : Int × zG := match gD g with
  | none => gN g 1
  | some D => if (0 ≤ i ∧ i < ((msI (gI g)).length : Int)) ∧ 0 ≤ what ∧ what ≤ 6 then gA g (fItem D ((msI (gI g)).getD i.toNat it0) what) else gN g 1
theorem x_codeA {L : zY} {m : zM} {Q : zQ} {o i sc : Nat} {D : zD} {its : List zIt} (hR : zRL L m o) (hI : zRI m o its) (hi : i < its.length) (hS : zSd L m sc D) (hT : zSt L m sc D) : zwp 33 0 [zA o, zA sc, zI (i : Int)] [] L m Q ↔ Q (some (zI (if itSo its[i] = 0 then zcod D (itL its[i]) (itM its[i]) (itC its[i]) else -2))) L m := by
  obtain ⟨y1, y2, y3, y4, y5, y6⟩ := zRI_get hI hi
  have hil := hI.2.1
  have xs := fun (Q : zQ) => x_sort (Q := Q) hR hI hi
  have s1 := hS.1.1
  have s2 := hS.1.2.2.2.2.2.2.2.2.2.2.1
  have s3 := hS.1.2.2.2.2.2.2.2.2.2.2.2.1
  obtain ⟨-, ⟨s4, s6⟩, ⟨s5, s7⟩⟩ := st_n hT
  obtain ⟨r1, r2, ⟨b0, b1, b2, b3, b4, b5, b6, b7, b8⟩, ⟨t1, t2, t3, t4, t5, t6, t7, t8, t9⟩, ⟨n1, n2, n3, n4, n5, n6, n7, n8, n9⟩⟩ := hR
  have hlt : 0 ≤ (i : Int) ∧ (i : Int) < ((80 : Nat) : Int) := by omega
  simp only [s33_0, s33_1, s33_2, s33_5, s33_8, s33_9, s33_10, s33_13, s33_14, s33_15, s33_16, s33_19, s33_20, s33_21, s33_22, s33_25, s33_26, s33_27, s33_30, s33_33, s33_35, s71_0, s71_1, s71_2, s71_5, s71_8, s71_9, s71_10, s71_11, s71_12, s71_15, s71_18, s71_19, s71_20, s71_21, Int.toNat_natCast, true_and, and_true, zpu_some, zpu_none, reduceIte, xs, r1, b0, b1, b2, t1, t2, t3, n1, n2, n3, hlt, and_self, y1, y2, y3, s1, s2, s3, s4, s5, s6, s7]
  unfold zcod
  by_cases e : itSo its[i] = 0
  · rw [if_pos e, if_pos e]
  · rw [if_neg e, if_neg e]
theorem x_iFact {L : zY} {m : zM} {Q : zQ} {o i sc : Nat} {D : zD} {its : List zIt} {what : Int} (hR : zRL L m o) (hI : zRI m o its) (hi : i < its.length) (hS : zSd L m sc D) (hT : zSt L m sc D) (hw : 0 ≤ what ∧ what ≤ 6) : zwp 37 0 [zA o, zA sc, zI (i : Int), zI what] [] L m Q ↔ Q (some (zI (fItem D its[i] what))) L m := by
  obtain ⟨y1, y2, y3, y4, y5, y6⟩ := zRI_get hI hi
  have hil := hI.2.1
  have i0 := hI.1
  have xs := fun (Q : zQ) => x_sort (Q := Q) hR hI hi
  have xc := fun (Q : zQ) => x_codeA (Q := Q) hR hI hi hS hT
  have s1 := hS.1.1
  obtain ⟨r1, r2, ⟨b0, b1, b2, b3, b4, b5, b6, b7, b8⟩, ⟨t1, t2, t3, t4, t5, t6, t7, t8, t9⟩, ⟨n1, n2, n3, n4, n5, n6, n7, n8, n9⟩⟩ := hR
  have hlt : 0 ≤ (i : Int) ∧ (i : Int) < ((80 : Nat) : Int) := by omega
  have e1 : 0 ≤ (i : Int) ∧ (i : Int) < (its.length : Int) := by omega
  have : what = 0 ∨ what = 1 ∨ what = 2 ∨ what = 3 ∨ what = 4 ∨ what = 5 ∨ what = 6 := by omega
  rcases this with e | e | e | e | e | e | e <;> subst e <;> simp only [s37_0, s37_1, s37_2, s37_5, s37_8, s37_10, s37_11, s37_12, s37_52, s37_53, s37_54, s37_57, s37_58, s37_59, s37_62, s37_63, s37_64, s37_65, s37_66, s37_69, s37_70, s37_71, s37_72, s37_73, s37_76, s37_77, s37_78, s37_79, s37_80, s37_81, s37_82, s37_85, s37_86, s37_87, s37_90, s37_91, s37_92, s37_93, s37_94, s37_97, s37_98, s37_99, Int.toNat_natCast, true_and, and_true, true_or, or_true, false_or, or_false, zwr_id, zpu_some, zpu_none, reduceIte, Int.reduceLE, Int.reduceLT, Int.reduceEq, Int.reduceNeg, Int.reduceAdd, Int.reduceSub, Int.reduceMul, Int.reduceToNat, Nat.reduceAdd, Nat.reduceLeDiff, Nat.reduceEqDiff, Nat.reduceLT, eq_self, ne_eq, not_false_eq_true, not_true_eq_false, x_has r1 i0, e1, and_self, xs, xc, s1, r1, b0, b1, b2, b4, b5, t1, t2, t3, t5, t6, n1, n2, n3, n5, n6, hlt, y1, y2, y3, y5, y6] <;> exact Iff.rfl
theorem c_item {L : zY} {m : zM} {Q : zQ} {g : zG} {n what : Int} (hg : gOk g) (h : zCI L m g) (k : ∀ m', zCI L m' (sItem g n what).2 → zFR 2 331 m m' → Q (some (zI (sItem g n what).1)) L m') : zwp 140 0 [zA 2, zI n, zI what] [] L m Q := by
  have h' := h
  obtain ⟨T, od, R, C, H, f, p, q⟩ := g
  obtain ⟨sc, sp, hO, hB⟩ := h'
  have a1 := hO.1
  have p4 := hO.2.1.2.2.2.2.1
  have p9 := hO.2.1.2.2.2.2.2.2.2.2.2.1
  have hN := hB.2.2.2.2.1
  have i0 := hN.2.1.1
  have t10 := hN.1.1
  cases od with
  | none =>
    obtain ⟨rfl, -, -⟩ := hg.2.2.1 rfl
    have i0' : m 10 9 = ((0 : Nat) : Int) := i0
    have c3 : (if 0 ≤ n ∧ n < ((0 : Nat) : Int) then (1 : Int) else 0) = 0 := if_neg (by omega)
    simp only [s140_0, s140_1, s140_4, s140_5, s140_8, s140_11, s140_12, s140_15, s140_16, s140_18, s140_21, s140_22, s140_23, s140_26, s140_27, s140_28, s140_29, s140_32, s140_33, s140_36, s140_37, s140_38, s140_41, s140_44, Int.toNat_natCast, true_and, and_true, zpu_some, zpu_none, reduceIte, Int.reduceEq, Int.reduceToNat, a1, p4, t10, x_has t10 i0', c3, x_refuse a1]
    exact k _ (zCI_ans h) zFR_ans
  | some D =>
    obtain ⟨hS, hT⟩ := sc_facts hB
    have s1 := hS.1.1
    have i0 : m 10 9 = ((msI (kRun (zPof D) R)).length : Int) := i0
    have bad : ¬ ((0 ≤ n ∧ n < ((msI (kRun (zPof D) R)).length : Int)) ∧ 0 ≤ what ∧ what ≤ 6) → Q (some (zI (-1))) L (zup (zup m 2 14 1) 2 13 (-1)) := fun hn => by
      have e1 : sItem (T, some D, R, C, H, f, p, q) n what = gN (T, some D, R, C, H, f, p, q) 1 := if_neg hn
      rw [e1] at k
      exact k _ (zCI_ans h) zFR_ans
    by_cases h1 : 0 ≤ n ∧ n < ((msI (kRun (zPof D) R)).length : Int)
    · by_cases n1 : what < 0
      · simp only [s140_0, s140_1, s140_4, s140_5, s140_8, s140_11, s140_12, s140_15, s140_16, s140_18, s140_21, s140_22, s140_23, s140_26, s140_27, s140_28, s140_29, s140_32, s140_33, s140_36, s140_37, s140_38, s140_41, s140_44, Int.toNat_natCast, true_and, and_true, true_or, or_true, false_or, or_false, zwr_id, zpu_some, zpu_none, reduceIte, Int.reduceLE, Int.reduceLT, Int.reduceEq, Int.reduceNeg, Int.reduceAdd, Int.reduceSub, Int.reduceMul, Int.reduceToNat, Nat.reduceAdd, Nat.reduceLeDiff, Nat.reduceEqDiff, Nat.reduceLT, eq_self, ne_eq, not_false_eq_true, not_true_eq_false, a1, p4, t10, x_has t10 i0, h1, and_self, n1, x_refuse a1]
        exact bad (fun q => by omega)
      · by_cases n2 : what ≤ 6
        · have e1 : sItem (T, some D, R, C, H, f, p, q) n what = gA (T, some D, R, C, H, f, p, q) (fItem D ((msI (kRun (zPof D) R)).getD n.toNat it0) what) := if_pos ⟨h1, by omega⟩
          rw [e1] at k
          have fin := k _ (zCI_ans h) zFR_ans
          obtain ⟨j, rfl⟩ : ∃ j : Nat, n = (j : Int) := ⟨n.toNat, by omega⟩
          have hj : j < (msI (kRun (zPof D) R)).length := by omega
          rw [Int.toNat_natCast, getD_lt hj] at fin
          simp only [s140_0, s140_1, s140_4, s140_5, s140_8, s140_11, s140_12, s140_15, s140_16, s140_18, s140_21, s140_22, s140_23, s140_26, s140_27, s140_28, s140_29, s140_32, s140_33, s140_36, s140_37, s140_38, s140_41, s140_44, Int.toNat_natCast, true_and, and_true, true_or, or_true, false_or, or_false, zwr_id, zpu_some, zpu_none, reduceIte, Int.reduceLE, Int.reduceLT, Int.reduceEq, Int.reduceNeg, Int.reduceAdd, Int.reduceSub, Int.reduceMul, Int.reduceToNat, Nat.reduceAdd, Nat.reduceLeDiff, Nat.reduceEqDiff, Nat.reduceLT, eq_self, ne_eq, not_false_eq_true, not_true_eq_false, a1, p4, p9, t10, s1, x_has t10 i0, h1, and_self, n1, n2, x_iFact hN.1 hN.2.1 hj hS hT (show 0 ≤ what ∧ what ≤ 6 by omega), x_accept a1]
          exact fin
        · simp only [s140_0, s140_1, s140_4, s140_5, s140_8, s140_11, s140_12, s140_15, s140_16, s140_18, s140_21, s140_22, s140_23, s140_26, s140_27, s140_28, s140_29, s140_32, s140_33, s140_36, s140_37, s140_38, s140_41, s140_44, Int.toNat_natCast, true_and, and_true, true_or, or_true, false_or, or_false, zwr_id, zpu_some, zpu_none, reduceIte, Int.reduceLE, Int.reduceLT, Int.reduceEq, Int.reduceNeg, Int.reduceAdd, Int.reduceSub, Int.reduceMul, Int.reduceToNat, Nat.reduceAdd, Nat.reduceLeDiff, Nat.reduceEqDiff, Nat.reduceLT, eq_self, ne_eq, not_false_eq_true, not_true_eq_false, a1, p4, t10, x_has t10 i0, h1, and_self, n1, n2, x_refuse a1]
          exact bad (fun q => by omega)
    · have c3 : (if 0 ≤ n ∧ n < ((msI (kRun (zPof D) R)).length : Int) then (1 : Int) else 0) = 0 := if_neg h1
      simp only [s140_0, s140_1, s140_4, s140_5, s140_8, s140_11, s140_12, s140_15, s140_16, s140_18, s140_21, s140_22, s140_23, s140_26, s140_27, s140_28, s140_29, s140_32, s140_33, s140_36, s140_37, s140_38, s140_41, s140_44, Int.toNat_natCast, true_and, and_true, zpu_some, zpu_none, reduceIte, Int.reduceEq, Int.reduceToNat, a1, p4, t10, x_has t10 i0, c3, x_refuse a1]
      exact bad (fun q => h1 q.1)
