def gDel (R : List Int) (c : Nat) : List Int := R.take c ++ R.drop (c + 1)
def sDel (g : zG) : Int × zG := match gD g with
  | none => gN g 1
  | some D => if (gR g).length ≤ gC g then gN g 5 else gAct D g (gT g) (gDel (gR g) (gC g)) (gC g)
def sBack (g : zG) : Int × zG := match gD g with
  | none => gN g 1
  | some D => if gC g = 0 then gN g 5 else gAct D g (gT g) (gDel (gR g) (gC g - 1)) (gC g - 1)
theorem c_del {L : zY} {m : zM} {Q : zQ} {g : zG} (hg : gOk g) (h : zCI L m g) (k : ∀ m', zCI L m' (sDel g).2 → zFR 2 331 m m' → Q (some (zI (sDel g).1)) L m') : zwp 128 0 [zA 2] [] L m Q := by
  have h' := h
  obtain ⟨T, od, R, C, H, f, p, q⟩ := g
  obtain ⟨sc, sp, hO, hB⟩ := h'
  have a1 := hO.1
  have p2 := hO.2.1.2.2.1
  have p6 := hO.2.1.2.2.2.2.2.2.1
  cases od with
  | none =>
    have b11 : m 2 11 = 0 := hO.2.2.1
    simp only [s128_0, s128_1, s128_4, s128_7, s128_8, s128_9, s128_12, Int.toNat_natCast, true_and, and_true, true_or, or_true, false_or, or_false, zwr_id, zpu_some, zpu_none, reduceIte, Int.reduceLE, Int.reduceLT, Int.reduceEq, Int.reduceNeg, Int.reduceAdd, Int.reduceSub, Int.reduceMul, Int.reduceToNat, Nat.reduceAdd, Nat.reduceLeDiff, Nat.reduceEqDiff, Nat.reduceLT, eq_self, ne_eq, not_false_eq_true, not_true_eq_false, a1, b11, x_refuse a1]
    exact k _ (zCI_ans h) zFR_ans
  | some D =>
    have b11 : m 2 11 = 1 := hO.2.2.1
    obtain ⟨ov, hR⟩ := hB.2.2.1
    have hH := hB.2.2.2.2.2.2.1
    have t6 := hR.1
    have t30 := hH.1.1
    have n6 := hR.2.2.2.2.2.1
    have c6 := hR.2.2.2.2.2.2.2.1
    have hD := (hg.2.1 D rfl).1
    by_cases h1 : R.length ≤ C
    · have e1 : sDel (T, some D, R, C, H, f, p, q) = gN (T, some D, R, C, H, f, p, q) 5 := if_pos h1
      rw [e1] at k
      have n1 : ¬ (C : Int) < (R.length : Int) := by omega
      simp only [s128_0, s128_1, s128_4, s128_7, s128_8, s128_9, s128_12, s128_13, s128_14, s128_17, s128_20, s128_21, s128_24, s128_27, s128_30, s128_31, s128_32, s128_35, Int.toNat_natCast, true_and, and_true, true_or, or_true, false_or, or_false, zwr_id, zpu_some, zpu_none, reduceIte, Int.reduceLE, Int.reduceLT, Int.reduceEq, Int.reduceNeg, Int.reduceAdd, Int.reduceSub, Int.reduceMul, Int.reduceToNat, Nat.reduceAdd, Nat.reduceLeDiff, Nat.reduceEqDiff, Nat.reduceLT, eq_self, ne_eq, not_false_eq_true, not_true_eq_false, a1, b11, p2, t6, n6, c6, n1, x_refuse a1]
      exact k _ (zCI_ans h) zFR_ans
    · have e1 : sDel (T, some D, R, C, H, f, p, q) = gAct D (T, some D, R, C, H, f, p, q) T (gDel R C) C := if_neg h1
      rw [e1] at k
      have n1 : (C : Int) < (R.length : Int) := by omega
      simp only [s128_0, s128_1, s128_4, s128_7, s128_8, s128_9, s128_12, s128_13, s128_14, s128_17, s128_20, s128_21, s128_24, s128_27, s128_30, s128_31, s128_32, s128_35, s128_36, s128_37, s128_40, s128_41, s128_44, Int.toNat_natCast, true_and, and_true, true_or, or_true, false_or, or_false, zwr_id, zpu_some, zpu_none, reduceIte, Int.reduceLE, Int.reduceLT, Int.reduceEq, Int.reduceNeg, Int.reduceAdd, Int.reduceSub, Int.reduceMul, Int.reduceToNat, Nat.reduceAdd, Nat.reduceLeDiff, Nat.reduceEqDiff, Nat.reduceLT, eq_self, ne_eq, not_false_eq_true, not_true_eq_false, a1, b11, p2, p6, t6, t30, n6, c6, n1]
      refine c_keep hH hR (by decide) (fun m1 g1 f1 => ?_)
      have p2' : m1 2 2 = 6 := by rw [zFR_at f1 (by decide)]; exact p2
      simp only [s128_47, s128_48, s128_51, Int.toNat_natCast, true_and, and_true, true_or, or_true, false_or, or_false, zwr_id, zpu_some, zpu_none, reduceIte, Int.reduceLE, Int.reduceLT, Int.reduceEq, Int.reduceNeg, Int.reduceAdd, Int.reduceSub, Int.reduceMul, Int.reduceToNat, Nat.reduceAdd, Nat.reduceLeDiff, Nat.reduceEqDiff, Nat.reduceLT, eq_self, ne_eq, not_false_eq_true, not_true_eq_false, a1, p2', t6]
      refine c_remove (zRw_eq (zFR_at f1 (by decide)) (zFR_at f1 (by decide)) hR) (by omega) (fun m2 g2 f2 => ?_)
      simp only [s128_54, s128_55, Int.toNat_natCast, true_and, and_true, true_or, or_true, false_or, or_false, zwr_id, zpu_some, zpu_none, reduceIte, Int.reduceLE, Int.reduceLT, Int.reduceEq, Int.reduceNeg, Int.reduceAdd, Int.reduceSub, Int.reduceMul, Int.reduceToNat, Nat.reduceAdd, Nat.reduceLeDiff, Nat.reduceEqDiff, Nat.reduceLT, eq_self, ne_eq, not_false_eq_true, not_true_eq_false, a1]
      have fr : ∀ a, (a < 6 ∨ 7 < a) → (a < 30 ∨ 63 < a) → m2 a = m a := fun a q1 q2 => by rw [zFR_at f2 (by omega), zFR_at f1 (by omega)]
      refine c_fin hD hO hB (zTp_eq (fr 4 (by decide) (by decide)) (fr 5 (by decide) (by decide)) hB.1) (C' := C) (R' := gDel R C) (ov := ov) g2 (zHi_eq (fun a p q => zFR_at f2 (by omega)) g1) (fun a q3 q4 q6 q7 q30 => fr a (by omega) q30) (fun m' q1 q2 => ?_)
      simp only [s128_58, Int.toNat_natCast, true_and, and_true, true_or, or_true, false_or, or_false, zwr_id, zpu_some, zpu_none, reduceIte, Int.reduceLE, Int.reduceLT, Int.reduceEq, Int.reduceNeg, Int.reduceAdd, Int.reduceSub, Int.reduceMul, Int.reduceToNat, Nat.reduceAdd, Nat.reduceLeDiff, Nat.reduceEqDiff, Nat.reduceLT, eq_self, ne_eq, not_false_eq_true, not_true_eq_false]
      exact k m' q1 q2
theorem zRw_car {L : zY} {m : zM} {o : Nat} {row : List Int} {caret ov c : Int} (h : zRw L m o row caret ov) : zRw L (zup m o 2 c) o row c ov := by
  obtain ⟨a1, a2, a3, a4, a5, a6, a7, a8, a9, a10⟩ := h
  exact ⟨a1, a2, by rw [zup_nk (by decide)]; exact a3, a4, a5, by rw [zup_nk (by decide)]; exact a6, a7, zup_same, by rw [zup_nk (by decide)]; exact a9, zAL_eq (zup_nf (by omega)) a10⟩
theorem c_back {L : zY} {m : zM} {Q : zQ} {g : zG} (hg : gOk g) (h : zCI L m g) (k : ∀ m', zCI L m' (sBack g).2 → zFR 2 331 m m' → Q (some (zI (sBack g).1)) L m') : zwp 127 0 [zA 2] [] L m Q := by
  have h' := h
  obtain ⟨T, od, R, C, H, f, p, q⟩ := g
  obtain ⟨sc, sp, hO, hB⟩ := h'
  have a1 := hO.1
  have p2 := hO.2.1.2.2.1
  have p6 := hO.2.1.2.2.2.2.2.2.1
  cases od with
  | none =>
    have b11 : m 2 11 = 0 := hO.2.2.1
    simp only [s127_0, s127_1, s127_4, s127_7, s127_8, s127_9, s127_12, Int.toNat_natCast, true_and, and_true, true_or, or_true, false_or, or_false, zwr_id, zpu_some, zpu_none, reduceIte, Int.reduceLE, Int.reduceLT, Int.reduceEq, Int.reduceNeg, Int.reduceAdd, Int.reduceSub, Int.reduceMul, Int.reduceToNat, Nat.reduceAdd, Nat.reduceLeDiff, Nat.reduceEqDiff, Nat.reduceLT, eq_self, ne_eq, not_false_eq_true, not_true_eq_false, a1, b11, x_refuse a1]
    exact k _ (zCI_ans h) zFR_ans
  | some D =>
    have b11 : m 2 11 = 1 := hO.2.2.1
    obtain ⟨ov, hR⟩ := hB.2.2.1
    have hH := hB.2.2.2.2.2.2.1
    have t6 := hR.1
    have t30 := hH.1.1
    have c6 := hR.2.2.2.2.2.2.2.1
    have hD := (hg.2.1 D rfl).1
    have hC := hg.2.2.2.2.1
    have hRl := hR.2.2.2.2.2.2.1
    by_cases h1 : C = 0
    · have e1 : sBack (T, some D, R, C, H, f, p, q) = gN (T, some D, R, C, H, f, p, q) 5 := if_pos h1
      rw [e1] at k
      have n1 : ¬ 0 < (C : Int) := by omega
      simp only [s127_0, s127_1, s127_4, s127_7, s127_8, s127_9, s127_12, s127_13, s127_14, s127_17, s127_20, s127_23, s127_24, s127_25, s127_28, Int.toNat_natCast, true_and, and_true, true_or, or_true, false_or, or_false, zwr_id, zpu_some, zpu_none, reduceIte, Int.reduceLE, Int.reduceLT, Int.reduceEq, Int.reduceNeg, Int.reduceAdd, Int.reduceSub, Int.reduceMul, Int.reduceToNat, Nat.reduceAdd, Nat.reduceLeDiff, Nat.reduceEqDiff, Nat.reduceLT, eq_self, ne_eq, not_false_eq_true, not_true_eq_false, a1, b11, p2, t6, c6, n1, x_refuse a1]
      exact k _ (zCI_ans h) zFR_ans
    · have e1 : sBack (T, some D, R, C, H, f, p, q) = gAct D (T, some D, R, C, H, f, p, q) T (gDel R (C - 1)) (C - 1) := if_neg h1
      rw [e1] at k
      have n1 : 0 < (C : Int) := by omega
      simp only [s127_0, s127_1, s127_4, s127_7, s127_8, s127_9, s127_12, s127_13, s127_14, s127_17, s127_20, s127_23, s127_24, s127_25, s127_28, s127_29, s127_30, s127_33, s127_34, s127_37, Int.toNat_natCast, true_and, and_true, true_or, or_true, false_or, or_false, zwr_id, zpu_some, zpu_none, reduceIte, Int.reduceLE, Int.reduceLT, Int.reduceEq, Int.reduceNeg, Int.reduceAdd, Int.reduceSub, Int.reduceMul, Int.reduceToNat, Nat.reduceAdd, Nat.reduceLeDiff, Nat.reduceEqDiff, Nat.reduceLT, eq_self, ne_eq, not_false_eq_true, not_true_eq_false, a1, b11, p2, p6, t6, t30, c6, n1]
      refine c_keep hH hR (by decide) (fun m1 g1 f1 => ?_)
      have p2' : m1 2 2 = 6 := by rw [zFR_at f1 (by decide)]; exact p2
      have c6' : m1 6 2 = (C : Int) := by rw [zFR_at f1 (by decide)]; exact c6
      have hRl' : R.length ≤ 80 ∧ C ≤ R.length := ⟨hRl, hC⟩
      simp only [s127_40, s127_41, s127_44, s127_45, s127_48, s127_49, s127_50, s127_53, s127_54, s127_57, Int.toNat_natCast, true_and, and_true, true_or, or_true, false_or, or_false, zwr_id, zpu_some, zpu_none, reduceIte, Int.reduceLE, Int.reduceLT, Int.reduceEq, Int.reduceNeg, Int.reduceAdd, Int.reduceSub, Int.reduceMul, Int.reduceToNat, Nat.reduceAdd, Nat.reduceLeDiff, Nat.reduceEqDiff, Nat.reduceLT, eq_self, ne_eq, not_false_eq_true, not_true_eq_false, a1, p2', t6, c6', (show zwr ((C : Int) - 1) = ((C - 1 : Nat) : Int) by rw [zwr_id (by omega) (by omega)]; omega), zup_na (show (2 : Nat) ≠ 6 by decide)]
      refine c_remove (zRw_car (zRw_eq (zFR_at f1 (by decide)) (zFR_at f1 (by decide)) hR)) (by omega) (fun m2 g2 f2 => ?_)
      simp only [s127_60, s127_61, Int.toNat_natCast, true_and, and_true, true_or, or_true, false_or, or_false, zwr_id, zpu_some, zpu_none, reduceIte, Int.reduceLE, Int.reduceLT, Int.reduceEq, Int.reduceNeg, Int.reduceAdd, Int.reduceSub, Int.reduceMul, Int.reduceToNat, Nat.reduceAdd, Nat.reduceLeDiff, Nat.reduceEqDiff, Nat.reduceLT, eq_self, ne_eq, not_false_eq_true, not_true_eq_false, a1]
      have fr : ∀ a, (a < 6 ∨ 7 < a) → (a < 30 ∨ 63 < a) → m2 a = m a := fun a q1 q2 => by rw [zFR_at f2 (by omega), zup_nf (by omega), zFR_at f1 (by omega)]
      refine c_fin hD hO hB (zTp_eq (fr 4 (by decide) (by decide)) (fr 5 (by decide) (by decide)) hB.1) (C' := C - 1) (R' := gDel R (C - 1)) (ov := ov) g2 (zHi_eq (fun a p q => by rw [zFR_at f2 (by omega), zup_nf (by omega)]) g1) (fun a q3 q4 q6 q7 q30 => fr a (by omega) q30) (fun m' q1 q2 => ?_)
      simp only [s127_64, Int.toNat_natCast, true_and, and_true, true_or, or_true, false_or, or_false, zwr_id, zpu_some, zpu_none, reduceIte, Int.reduceLE, Int.reduceLT, Int.reduceEq, Int.reduceNeg, Int.reduceAdd, Int.reduceSub, Int.reduceMul, Int.reduceToNat, Nat.reduceAdd, Nat.reduceLeDiff, Nat.reduceEqDiff, Nat.reduceLT, eq_self, ne_eq, not_false_eq_true, not_true_eq_false]
      exact k m' q1 q2
def sGoes (g : zG) (n : Int) : Int × zG := match gD g with
  | none => gN g 1
  | some D => if 0 ≤ n ∧ n ≤ ((gR g).length : Int) then ((gC g : Nat), (gT g, some D, gR g, n.toNat, ((gR g, gC g) :: gH g).take 30, g.2.2.2.2.2.1, -1, 0)) else gN g 2
theorem c_goes {L : zY} {m : zM} {Q : zQ} {g : zG} {n : Int} (hg : gOk g) (h : zCI L m g) (k : ∀ m', zCI L m' (sGoes g n).2 → zFR 2 331 m m' → Q (some (zI (sGoes g n).1)) L m') : zwp 129 0 [zA 2, zI n, zU] [] L m Q := by
  have h' := h
  obtain ⟨T, od, R, C, H, f, p, q⟩ := g
  obtain ⟨sc, sp, hO, hB⟩ := h'
  have a1 := hO.1
  have p2 := hO.2.1.2.2.1
  have p6 := hO.2.1.2.2.2.2.2.2.1
  cases od with
  | none =>
    have b11 : m 2 11 = 0 := hO.2.2.1
    simp only [s129_0, s129_1, s129_4, s129_7, s129_8, s129_9, s129_12, Int.toNat_natCast, true_and, and_true, true_or, or_true, false_or, or_false, zwr_id, zpu_some, zpu_none, reduceIte, Int.reduceLE, Int.reduceLT, Int.reduceEq, Int.reduceNeg, Int.reduceAdd, Int.reduceSub, Int.reduceMul, Int.reduceToNat, Nat.reduceAdd, Nat.reduceLeDiff, Nat.reduceEqDiff, Nat.reduceLT, eq_self, ne_eq, not_false_eq_true, not_true_eq_false, a1, b11, x_refuse a1]
    exact k _ (zCI_ans h) zFR_ans
  | some D =>
    have b11 : m 2 11 = 1 := hO.2.2.1
    obtain ⟨ov, hR⟩ := hB.2.2.1
    have hH := hB.2.2.2.2.2.2.1
    have t6 := hR.1
    have t30 := hH.1.1
    have n6 := hR.2.2.2.2.2.1
    have c6 := hR.2.2.2.2.2.2.2.1
    by_cases h1 : 0 ≤ n ∧ n ≤ (R.length : Int)
    · obtain ⟨j, rfl⟩ : ∃ j : Nat, n = (j : Int) := ⟨n.toNat, by omega⟩
      have e1 : sGoes (T, some D, R, C, H, f, p, q) (j : Int) = (((C : Nat) : Int), (T, some D, R, j, ((R, C) :: H).take 30, f, -1, 0)) := if_pos h1
      rw [e1] at k
      have n1 : ¬ (j : Int) < 0 := by omega
      have n2 : (j : Int) ≤ (R.length : Int) := h1.2
      simp only [s129_0, s129_1, s129_4, s129_7, s129_8, s129_9, s129_12, s129_13, s129_14, s129_17, s129_18, s129_19, s129_22, s129_25, s129_28, s129_29, s129_30, s129_33, s129_34, s129_35, s129_38, s129_39, s129_42, Int.toNat_natCast, true_and, and_true, true_or, or_true, false_or, or_false, zwr_id, zpu_some, zpu_none, reduceIte, Int.reduceLE, Int.reduceLT, Int.reduceEq, Int.reduceNeg, Int.reduceAdd, Int.reduceSub, Int.reduceMul, Int.reduceToNat, Nat.reduceAdd, Nat.reduceLeDiff, Nat.reduceEqDiff, Nat.reduceLT, eq_self, ne_eq, not_false_eq_true, not_true_eq_false, a1, b11, p2, p6, t6, t30, n6, n1, n2]
      refine c_keep hH hR (by decide) (fun m1 g1 f1 => ?_)
      have p2' : m1 2 2 = 6 := by rw [zFR_at f1 (by decide)]; exact p2
      have c6' : m1 6 2 = (C : Int) := by rw [zFR_at f1 (by decide)]; exact c6
      simp only [s129_45, s129_46, s129_49, s129_52, s129_53, s129_54, s129_57, s129_58, s129_61, s129_62, s129_63, s129_66, Int.toNat_natCast, true_and, and_true, true_or, or_true, false_or, or_false, zwr_id, zpu_some, zpu_none, reduceIte, Int.reduceLE, Int.reduceLT, Int.reduceEq, Int.reduceNeg, Int.reduceAdd, Int.reduceSub, Int.reduceMul, Int.reduceToNat, Nat.reduceAdd, Nat.reduceLeDiff, Nat.reduceEqDiff, Nat.reduceLT, eq_self, ne_eq, not_false_eq_true, not_true_eq_false, a1, p2', t6, c6', x_accept a1]
      have u : ∀ a, a ≠ 2 → a ≠ 6 → zup (zup (zup m1 6 2 (j : Int)) 2 14 0) 2 13 (-1) a = m1 a := fun a ha hb => by rw [zup_nf ha, zup_nf ha, zup_nf hb]
      have hR1 := zRw_car (c := (j : Int)) (zRw_eq (zFR_at f1 (by decide)) (zFR_at f1 (by decide)) hR)
      refine k _ ⟨sc, sp, zCO_ans (zCO_eq (by rw [zup_nf (by decide)]; exact zFR_at f1 (by decide)) hO), zCB_act (ov := ov) (fun a q2 q3 q4 q6 q7 q10 q30 => by rw [u a q2 q6]; exact zFR_at f1 q30) (zTp_eq (by rw [u 4 (by decide) (by decide)]; exact zFR_at f1 (by decide)) (by rw [u 5 (by decide) (by decide)]; exact zFR_at f1 (by decide)) hB.1) (zRw_eq (by rw [zup_nf (by decide), zup_nf (by decide)]) (by rw [zup_nf (by decide), zup_nf (by decide)]) hR1) (zRC_eq (fun a p q => by rw [u a (by omega) (by omega)]; exact zFR_at f1 (by omega)) hB.2.2.2.2.1) (zHi_eq (fun a p q => u a (by omega) (by omega)) g1) hB⟩ (fun a ha => by rw [u a (by omega) (by omega)]; exact zFR_at f1 (by omega))
    · have e1 : sGoes (T, some D, R, C, H, f, p, q) n = gN (T, some D, R, C, H, f, p, q) 2 := if_neg h1
      rw [e1] at k
      have fin := k _ (zCI_ans h) zFR_ans
      by_cases n1 : n < 0
      · simp only [s129_0, s129_1, s129_4, s129_7, s129_8, s129_9, s129_12, s129_13, s129_14, s129_17, s129_18, s129_19, s129_22, s129_25, s129_28, s129_29, s129_30, s129_33, Int.toNat_natCast, true_and, and_true, true_or, or_true, false_or, or_false, zwr_id, zpu_some, zpu_none, reduceIte, Int.reduceLE, Int.reduceLT, Int.reduceEq, Int.reduceNeg, Int.reduceAdd, Int.reduceSub, Int.reduceMul, Int.reduceToNat, Nat.reduceAdd, Nat.reduceLeDiff, Nat.reduceEqDiff, Nat.reduceLT, eq_self, ne_eq, not_false_eq_true, not_true_eq_false, a1, b11, n1, x_refuse a1]
        exact fin
      · have n2 : ¬ n ≤ (R.length : Int) := by omega
        simp only [s129_0, s129_1, s129_4, s129_7, s129_8, s129_9, s129_12, s129_13, s129_14, s129_17, s129_18, s129_19, s129_22, s129_25, s129_28, s129_29, s129_30, s129_33, Int.toNat_natCast, true_and, and_true, true_or, or_true, false_or, or_false, zwr_id, zpu_some, zpu_none, reduceIte, Int.reduceLE, Int.reduceLT, Int.reduceEq, Int.reduceNeg, Int.reduceAdd, Int.reduceSub, Int.reduceMul, Int.reduceToNat, Nat.reduceAdd, Nat.reduceLeDiff, Nat.reduceEqDiff, Nat.reduceLT, eq_self, ne_eq, not_false_eq_true, not_true_eq_false, a1, b11, p2, t6, n6, n1, n2, x_refuse a1]
        exact fin
def sUndo (g : zG) : Int × zG := match gD g with
  | none => gN g 1
  | some D => match gH g with
    | [] => gN g 5
    | h0 :: H => (((H.length : Nat) : Int), (gT g, some D, h0.1, h0.2, H, g.2.2.2.2.2.1, -1, 0))
theorem c_undo {L : zY} {m : zM} {Q : zQ} {g : zG} (hg : gOk g) (h : zCI L m g) (k : ∀ m', zCI L m' (sUndo g).2 → zFR 2 331 m m' → Q (some (zI (sUndo g).1)) L m') : zwp 137 0 [zA 2] [] L m Q := by
  have h' := h
  obtain ⟨T, od, R, C, H, f, p, q⟩ := g
  obtain ⟨sc, sp, hO, hB⟩ := h'
  have a1 := hO.1
  have p2 := hO.2.1.2.2.1
  have p6 := hO.2.1.2.2.2.2.2.2.1
  cases od with
  | none =>
    have b11 : m 2 11 = 0 := hO.2.2.1
    simp only [s137_0, s137_1, s137_4, s137_7, s137_8, s137_9, s137_12, Int.toNat_natCast, true_and, and_true, true_or, or_true, false_or, or_false, zwr_id, zpu_some, zpu_none, reduceIte, Int.reduceLE, Int.reduceLT, Int.reduceEq, Int.reduceNeg, Int.reduceAdd, Int.reduceSub, Int.reduceMul, Int.reduceToNat, Nat.reduceAdd, Nat.reduceLeDiff, Nat.reduceEqDiff, Nat.reduceLT, eq_self, ne_eq, not_false_eq_true, not_true_eq_false, a1, b11, x_refuse a1]
    exact k _ (zCI_ans h) zFR_ans
  | some D =>
    have b11 : m 2 11 = 1 := hO.2.2.1
    obtain ⟨ov, hR⟩ := hB.2.2.1
    have hH := hB.2.2.2.2.2.2.1
    have hD := (hg.2.1 D rfl).1
    have t6 := hR.1
    have t30 := hH.1.1
    have n30 : m 30 4 = (H.length : Int) := by obtain ⟨-, nx, -, -, n30, -⟩ := hH; exact n30
    cases H with
    | nil =>
      have n30 : m 30 4 = 0 := n30
      simp only [s137_0, s137_1, s137_4, s137_7, s137_8, s137_9, s137_12, s137_13, s137_14, s137_17, s137_20, s137_23, s137_24, s137_25, s137_28, Int.toNat_natCast, true_and, and_true, true_or, or_true, false_or, or_false, zwr_id, zpu_some, zpu_none, reduceIte, Int.reduceLE, Int.reduceLT, Int.reduceEq, Int.reduceNeg, Int.reduceAdd, Int.reduceSub, Int.reduceMul, Int.reduceToNat, Nat.reduceAdd, Nat.reduceLeDiff, Nat.reduceEqDiff, Nat.reduceLT, eq_self, ne_eq, not_false_eq_true, not_true_eq_false, a1, b11, p6, t30, n30, x_refuse a1]
      exact k _ (zCI_ans h) zFR_ans
    | cons h0 H =>
      have n1 : 0 < ((h0 :: H).length : Int) := by rw [List.length_cons]; omega
      simp only [s137_0, s137_1, s137_4, s137_7, s137_8, s137_9, s137_12, s137_13, s137_14, s137_17, s137_20, s137_23, s137_24, s137_25, s137_28, s137_29, s137_30, s137_33, s137_34, s137_37, Int.toNat_natCast, true_and, and_true, true_or, or_true, false_or, or_false, zwr_id, zpu_some, zpu_none, reduceIte, Int.reduceLE, Int.reduceLT, Int.reduceEq, Int.reduceNeg, Int.reduceAdd, Int.reduceSub, Int.reduceMul, Int.reduceToNat, Nat.reduceAdd, Nat.reduceLeDiff, Nat.reduceEqDiff, Nat.reduceLT, eq_self, ne_eq, not_false_eq_true, not_true_eq_false, a1, b11, p2, p6, t6, t30, n30, n1]
      refine c_restore hH hR (fun m1 g1 g2 f1 => ?_)
      simp only [s137_40, s137_41, Int.toNat_natCast, true_and, and_true, true_or, or_true, false_or, or_false, zwr_id, zpu_some, zpu_none, reduceIte, Int.reduceLE, Int.reduceLT, Int.reduceEq, Int.reduceNeg, Int.reduceAdd, Int.reduceSub, Int.reduceMul, Int.reduceToNat, Nat.reduceAdd, Nat.reduceLeDiff, Nat.reduceEqDiff, Nat.reduceLT, eq_self, ne_eq, not_false_eq_true, not_true_eq_false, a1]
      refine c_fin hD hO hB (zTp_eq (f1 _ (by decide) (by decide) (by decide)) (f1 _ (by decide) (by decide) (by decide)) hB.1) (C' := h0.2) (R' := h0.1) (ov := 0) g2 g1 (fun a q3 q4 q6 q7 q30 => f1 a (by omega) q6 q7) (fun m' q1 q2 => ?_)
      have q1' := q1
      obtain ⟨sc', sp', hO', hB'⟩ := q1
      have p6' := hO'.2.1.2.2.2.2.2.2.1
      have n30' : m' 30 4 = (H.length : Int) := by obtain ⟨-, nx, -, -, n30, -⟩ := hB'.2.2.2.2.2.2.1; exact n30
      simp only [s137_44, s137_45, s137_46, s137_47, s137_50, s137_53, s137_56, Int.toNat_natCast, true_and, and_true, true_or, or_true, false_or, or_false, zwr_id, zpu_some, zpu_none, reduceIte, Int.reduceLE, Int.reduceLT, Int.reduceEq, Int.reduceNeg, Int.reduceAdd, Int.reduceSub, Int.reduceMul, Int.reduceToNat, Nat.reduceAdd, Nat.reduceLeDiff, Nat.reduceEqDiff, Nat.reduceLT, eq_self, ne_eq, not_false_eq_true, not_true_eq_false, a1, p6', t30, n30', x_accept a1]
      exact k _ (zCI_ans q1') (zFR_tr q2 zFR_ans)
