def fWould (I J : List zIt) (st : Int) (what : Int) : Int := if what = 0 then ((I.length : Nat) : Int) else if what = 3 then st else if what = 1 then ((fA I J : Nat) : Int) else ((fZ I J (fA I J) : Nat) : Int)
def sWould (g : zG) (x what : Int) : Int × zG := match gD g with
  | none => gN g 1
  | some D => if gSg D x = true ∧ 0 ≤ what ∧ what ≤ 3 then (if 80 ≤ (gR g).length then gN g 3 else gA g (fWould (msI (kRun (zPof D) (gIns [x] (gR g) (gC g)))) (msI (gI g)) (kRun (zPof D) (gIns [x] (gR g) (gC g))).2.2.2 what)) else gN g 1
theorem c_would {L : zY} {m : zM} {Q : zQ} {g : zG} {x what : Int} (hg : gOk g) (h : zCI L m g) (k : ∀ m', zCI L m' (sWould g x what).2 → zFR 2 331 m m' → Q (some (zI (sWould g x what).1)) L m') : zwp 144 0 [zA 2, zI x, zI what, zU] [] L m Q := by
  have h' := h
  obtain ⟨T, od, R, C, H, f, p, q⟩ := g
  obtain ⟨sc, sp, hO, hB⟩ := h'
  have a1 := hO.1
  have p2 := hO.2.1.2.2.1
  have p4 := hO.2.1.2.2.2.2.1
  have p5 := hO.2.1.2.2.2.2.2.1
  have p9 := hO.2.1.2.2.2.2.2.2.2.2.2.1
  obtain ⟨ov, hR⟩ := hB.2.2.1
  have hN := hB.2.2.2.2.1
  have t6 := hR.1
  have n6 := hR.2.2.2.2.2.1
  have c6 := hR.2.2.2.2.2.2.2.1
  have t10 := hN.1.1
  have hR80 := hR.2.2.2.2.2.2.1
  have hSc := hB.2.2.2.2.2.1
  have t20 := hSc.1
  have hC := hg.2.2.2.2.1
  cases od with
  | none =>
    have b11 : m 2 11 = 0 := hO.2.2.1
    simp only [s144_0, s144_1, s144_4, s144_7, s144_8, s144_9, s144_12, s144_15, s144_16, s144_19, s144_20, s144_21, s144_24, s144_25, s144_26, s144_29, Int.toNat_natCast, true_and, and_true, true_or, or_true, false_or, or_false, zwr_id, zpu_some, zpu_none, reduceIte, Int.reduceLE, Int.reduceLT, Int.reduceEq, Int.reduceNeg, Int.reduceAdd, Int.reduceSub, Int.reduceMul, Int.reduceToNat, Nat.reduceAdd, Nat.reduceLeDiff, Nat.reduceEqDiff, Nat.reduceLT, eq_self, ne_eq, not_false_eq_true, not_true_eq_false, a1, b11, x_refuse a1]
    exact k _ (zCI_ans h) zFR_ans
  | some D =>
    have b11 : m 2 11 = 1 := hO.2.2.1
    have hD := (hg.2.1 D rfl).1
    obtain ⟨hS, hSt⟩ := sc_facts hB
    have s1 := hS.1.1
    have bad : ¬ (gSg D x = true ∧ 0 ≤ what ∧ what ≤ 3) → Q (some (zI (-1))) L (zup (zup m 2 14 1) 2 13 (-1)) := fun hn => by
      have e1 : sWould (T, some D, R, C, H, f, p, q) x what = gN (T, some D, R, C, H, f, p, q) 1 := if_neg hn
      rw [e1] at k
      exact k _ (zCI_ans h) zFR_ans
    by_cases h1 : gSg D x = true
    · by_cases n1 : what < 0
      · simp only [s144_0, s144_1, s144_4, s144_7, s144_8, s144_9, s144_12, s144_15, s144_16, s144_19, s144_20, s144_21, s144_24, s144_25, s144_26, s144_29, Int.toNat_natCast, true_and, and_true, true_or, or_true, false_or, or_false, zwr_id, zpu_some, zpu_none, reduceIte, Int.reduceLE, Int.reduceLT, Int.reduceEq, Int.reduceNeg, Int.reduceAdd, Int.reduceSub, Int.reduceMul, Int.reduceToNat, Nat.reduceAdd, Nat.reduceLeDiff, Nat.reduceEqDiff, Nat.reduceLT, eq_self, ne_eq, not_false_eq_true, not_true_eq_false, a1, b11, x_isSign a1 p9 hS, h1, n1, x_refuse a1]
        exact bad (fun q => by omega)
      · by_cases n2 : what ≤ 3
        · by_cases h2 : 80 ≤ R.length
          · have e1 : sWould (T, some D, R, C, H, f, p, q) x what = gN (T, some D, R, C, H, f, p, q) 3 := by
              show (if gSg D x = true ∧ 0 ≤ what ∧ what ≤ 3 then (if 80 ≤ R.length then _ else _) else _) = _
              rw [if_pos ⟨h1, by omega⟩, if_pos h2]
            rw [e1] at k
            have n3 : ¬ (R.length : Int) < 80 := by omega
            simp only [s144_0, s144_1, s144_4, s144_7, s144_8, s144_9, s144_12, s144_15, s144_16, s144_19, s144_20, s144_21, s144_24, s144_25, s144_26, s144_29, s144_30, s144_31, s144_34, s144_37, s144_39, s144_42, s144_43, s144_44, s144_47, Int.toNat_natCast, true_and, and_true, true_or, or_true, false_or, or_false, zwr_id, zpu_some, zpu_none, reduceIte, Int.reduceLE, Int.reduceLT, Int.reduceEq, Int.reduceNeg, Int.reduceAdd, Int.reduceSub, Int.reduceMul, Int.reduceToNat, Nat.reduceAdd, Nat.reduceLeDiff, Nat.reduceEqDiff, Nat.reduceLT, eq_self, ne_eq, not_false_eq_true, not_true_eq_false, a1, b11, x_isSign a1 p9 hS, h1, n1, n2, p2, t6, n6, n3, x_refuse a1]
            exact k _ (zCI_ans h) zFR_ans
          · have e1 : sWould (T, some D, R, C, H, f, p, q) x what = gA (T, some D, R, C, H, f, p, q) (fWould (msI (kRun (zPof D) (gIns [x] R C))) (msI (kRun (zPof D) R)) (kRun (zPof D) (gIns [x] R C)).2.2.2 what) := by
              show (if gSg D x = true ∧ 0 ≤ what ∧ what ≤ 3 then (if 80 ≤ R.length then _ else _) else _) = _
              rw [if_pos ⟨h1, by omega⟩, if_neg h2]
              rfl
            rw [e1] at k
            have n3 : (R.length : Int) < 80 := by omega
            simp only [s144_0, s144_1, s144_4, s144_7, s144_8, s144_9, s144_12, s144_15, s144_16, s144_19, s144_20, s144_21, s144_24, s144_25, s144_26, s144_29, s144_30, s144_31, s144_34, s144_37, s144_39, s144_42, s144_43, s144_44, s144_47, s144_48, s144_49, s144_52, Int.toNat_natCast, true_and, and_true, true_or, or_true, false_or, or_false, zwr_id, zpu_some, zpu_none, reduceIte, Int.reduceLE, Int.reduceLT, Int.reduceEq, Int.reduceNeg, Int.reduceAdd, Int.reduceSub, Int.reduceMul, Int.reduceToNat, Nat.reduceAdd, Nat.reduceLeDiff, Nat.reduceEqDiff, Nat.reduceLT, eq_self, ne_eq, not_false_eq_true, not_true_eq_false, a1, b11, x_isSign a1 p9 hS, h1, n1, n2, p2, p5, t6, t20, n6, n3]
            have hX := zCX_of hD hO hB
            refine c_clear hSc (fun m1 g1 f1 => ?_)
            have hX1 := zCX_fr f1 hX
            have p5' := hX1.2.2.1.2.2.1
            have p2' := hX1.2.2.1.1
            have c6' : m1 6 2 = (C : Int) := by rw [zFR_at f1 (by decide)]; exact c6
            simp only [s144_55, s144_56, s144_57, s144_60, s144_61, s144_62, s144_65, s144_68, Int.toNat_natCast, true_and, and_true, true_or, or_true, false_or, or_false, zwr_id, zpu_some, zpu_none, reduceIte, Int.reduceLE, Int.reduceLT, Int.reduceEq, Int.reduceNeg, Int.reduceAdd, Int.reduceSub, Int.reduceMul, Int.reduceToNat, Nat.reduceAdd, Nat.reduceLeDiff, Nat.reduceEqDiff, Nat.reduceLT, eq_self, ne_eq, not_false_eq_true, not_true_eq_false, a1, p5', p2', t6, c6']
            refine c_rr (a := 0) (b := C) hX1 g1 ms0_ok (by show 0 + _ ≤ 80; omega) (fun m2 hX2 g2 s2 f2 => ?_)
            have l2 := (kGo_ok (dOk_Pk hD) ((R.drop 0).take (C - 0)) ms0 ms0_ok).2
            have el : ((R.drop 0).take (C - 0)).length = C := by rw [List.drop_zero, List.length_take]; omega
            have p5' := hX2.2.2.1.2.2.1
            have p9' := hX2.2.2.1.2.2.2
            simp only [s144_71, s144_72, s144_75, s144_76, s144_79, s144_80, Int.toNat_natCast, true_and, and_true, true_or, or_true, false_or, or_false, zwr_id, zpu_some, zpu_none, reduceIte, Int.reduceLE, Int.reduceLT, Int.reduceEq, Int.reduceNeg, Int.reduceAdd, Int.reduceSub, Int.reduceMul, Int.reduceToNat, Nat.reduceAdd, Nat.reduceLeDiff, Nat.reduceEqDiff, Nat.reduceLT, eq_self, ne_eq, not_false_eq_true, not_true_eq_false, a1, p5', p9', t20]
            refine c_tk hX2 g2 s2 (by rw [l2, el]; show 0 + C < 80; omega) (fun m3 hX3 g3 s3 f3 => ?_)
            have l3 := kSign_len (P := zPof D) (sign := x) s2.1
            have p5' := hX3.2.2.1.2.2.1
            have p2' := hX3.2.2.1.1
            have c6' : m3 6 2 = (C : Int) := by rw [zFR_at f3 (by decide), zFR_at f2 (by decide)]; exact c6'
            have n6' : m3 6 1 = (R.length : Int) := by rw [zFR_at f3 (by decide), zFR_at f2 (by decide), zFR_at f1 (by decide)]; exact n6
            simp only [s144_83, s144_84, s144_85, s144_88, s144_89, s144_92, s144_95, s144_96, s144_99, s144_102, Int.toNat_natCast, true_and, and_true, true_or, or_true, false_or, or_false, zwr_id, zpu_some, zpu_none, reduceIte, Int.reduceLE, Int.reduceLT, Int.reduceEq, Int.reduceNeg, Int.reduceAdd, Int.reduceSub, Int.reduceMul, Int.reduceToNat, Nat.reduceAdd, Nat.reduceLeDiff, Nat.reduceEqDiff, Nat.reduceLT, eq_self, ne_eq, not_false_eq_true, not_true_eq_false, a1, p5', p2', t6, c6', n6']
            refine c_rr (a := C) (b := R.length) hX3 g3 s3 (by rw [l3, l2, el]; show 0 + C + 1 + _ ≤ 80; omega) (fun m4 hX4 g4 s4 f4 => ?_)
            have ed : kGo (zPof D) ((R.drop C).take (R.length - C)) (kSign (zPof D) x (kGo (zPof D) ((R.drop 0).take (C - 0)) ms0)) = kRun (zPof D) (gIns [x] R C) := by
              rw [List.drop_zero, Nat.sub_zero, List.take_of_length_le (l := R.drop C) (by rw [List.length_drop]; exact Nat.le_refl _)]
              show kGo (zPof D) (R.drop C) (kGo (zPof D) [x] (kGo (zPof D) (R.take C) ms0)) = _
              rw [← kGo_app, ← kGo_app, ← List.append_assoc]
              rfl
            rw [ed] at g4
            have fr : zFR 20 29 m m4 := zFR_tr f1 (zFR_tr f2 (zFR_tr f3 f4))
            have hN4 : zRC L m4 10 (kRun (zPof D) R) := zRC_eq (fun a p q => zFR_at fr (by omega)) hN
            have p4' := hX4.2.2.1.2.1
            have p5' := hX4.2.2.1.2.2.1
            have i0 := g4.2.1.1
            have st0 := g4.2.2.2.1
            have fin := k _ ⟨sc, sp, zCO_ans (zCO_eq (zFR_at fr (by decide)) hO), zCB_ans (zCB_scr (fun a _ ha => zFR_at fr ha) g4.1 hB)⟩ (zFR_tr (zFR_wd fr (by decide) (by decide)) zFR_ans)
            have hle : fA (msI (kRun (zPof D) (gIns [x] R C))) (msI (kRun (zPof D) R)) ≤ min (msI (kRun (zPof D) (gIns [x] R C))).length (msI (kRun (zPof D) R)).length := (fC_spec _ _).1
            have w4 : what = 0 ∨ what = 1 ∨ what = 2 ∨ what = 3 := by omega
            rcases w4 with e | e | e | e
            · subst e
              simp only [s144_105, s144_106, s144_109, s144_110, s144_111, s144_114, s144_117, s144_120, Int.toNat_natCast, true_and, and_true, true_or, or_true, false_or, or_false, zwr_id, zpu_some, zpu_none, reduceIte, Int.reduceLE, Int.reduceLT, Int.reduceEq, Int.reduceNeg, Int.reduceAdd, Int.reduceSub, Int.reduceMul, Int.reduceToNat, Nat.reduceAdd, Nat.reduceLeDiff, Nat.reduceEqDiff, Nat.reduceLT, eq_self, ne_eq, not_false_eq_true, not_true_eq_false, a1, p5', t20, i0, x_accept a1]
              exact fin
            · subst e
              simp only [s144_105, s144_106, s144_121, s144_122, s144_123, s144_126, s144_127, s144_128, s144_131, s144_134, s144_137, s144_138, s144_139, s144_142, s144_143, s144_146, Int.toNat_natCast, true_and, and_true, true_or, or_true, false_or, or_false, zwr_id, zpu_some, zpu_none, reduceIte, Int.reduceLE, Int.reduceLT, Int.reduceEq, Int.reduceNeg, Int.reduceAdd, Int.reduceSub, Int.reduceMul, Int.reduceToNat, Nat.reduceAdd, Nat.reduceLeDiff, Nat.reduceEqDiff, Nat.reduceLT, eq_self, ne_eq, not_false_eq_true, not_true_eq_false, a1, p4', p5', t20, t10]
              refine c_alike g4.1 g4.2.1 hN4.1 hN4.2.1 ?_
              simp only [s144_149, s144_150, s144_151, s144_152, s144_153, s144_156, s144_157, s144_160, s144_161, s144_164, s144_165, s144_168, s144_169, s144_172, s144_175, Int.toNat_natCast, true_and, and_true, true_or, or_true, false_or, or_false, zwr_id, zpu_some, zpu_none, reduceIte, Int.reduceLE, Int.reduceLT, Int.reduceEq, Int.reduceNeg, Int.reduceAdd, Int.reduceSub, Int.reduceMul, Int.reduceToNat, Nat.reduceAdd, Nat.reduceLeDiff, Nat.reduceEqDiff, Nat.reduceLT, eq_self, ne_eq, not_false_eq_true, not_true_eq_false, a1, x_accept a1]
              exact fin
            · subst e
              simp only [s144_105, s144_106, s144_121, s144_122, s144_123, s144_126, s144_127, s144_128, s144_131, s144_134, s144_137, s144_138, s144_139, s144_142, s144_143, s144_146, Int.toNat_natCast, true_and, and_true, true_or, or_true, false_or, or_false, zwr_id, zpu_some, zpu_none, reduceIte, Int.reduceLE, Int.reduceLT, Int.reduceEq, Int.reduceNeg, Int.reduceAdd, Int.reduceSub, Int.reduceMul, Int.reduceToNat, Nat.reduceAdd, Nat.reduceLeDiff, Nat.reduceEqDiff, Nat.reduceLT, eq_self, ne_eq, not_false_eq_true, not_true_eq_false, a1, p4', p5', t20, t10]
              refine c_alike g4.1 g4.2.1 hN4.1 hN4.2.1 ?_
              simp only [s144_149, s144_150, s144_151, s144_152, s144_153, s144_156, s144_157, s144_160, s144_161, s144_164, s144_165, s144_168, s144_169, Int.toNat_natCast, true_and, and_true, true_or, or_true, false_or, or_false, zwr_id, zpu_some, zpu_none, reduceIte, Int.reduceLE, Int.reduceLT, Int.reduceEq, Int.reduceNeg, Int.reduceAdd, Int.reduceSub, Int.reduceMul, Int.reduceToNat, Nat.reduceAdd, Nat.reduceLeDiff, Nat.reduceEqDiff, Nat.reduceLT, eq_self, ne_eq, not_false_eq_true, not_true_eq_false, a1, p4', p5', t20, t10]
              refine c_alast g4.1 g4.2.1 hN4.1 hN4.2.1 hle ?_
              simp only [s144_172, s144_175, Int.toNat_natCast, true_and, and_true, true_or, or_true, false_or, or_false, zwr_id, zpu_some, zpu_none, reduceIte, Int.reduceLE, Int.reduceLT, Int.reduceEq, Int.reduceNeg, Int.reduceAdd, Int.reduceSub, Int.reduceMul, Int.reduceToNat, Nat.reduceAdd, Nat.reduceLeDiff, Nat.reduceEqDiff, Nat.reduceLT, eq_self, ne_eq, not_false_eq_true, not_true_eq_false, a1, x_accept a1]
              exact fin
            · subst e
              simp only [s144_105, s144_106, s144_109, s144_110, s144_111, s144_114, s144_117, s144_120, s144_121, s144_122, s144_123, s144_126, s144_127, s144_128, s144_131, s144_134, s144_137, Int.toNat_natCast, true_and, and_true, true_or, or_true, false_or, or_false, zwr_id, zpu_some, zpu_none, reduceIte, Int.reduceLE, Int.reduceLT, Int.reduceEq, Int.reduceNeg, Int.reduceAdd, Int.reduceSub, Int.reduceMul, Int.reduceToNat, Nat.reduceAdd, Nat.reduceLeDiff, Nat.reduceEqDiff, Nat.reduceLT, eq_self, ne_eq, not_false_eq_true, not_true_eq_false, a1, p5', t20, st0, x_accept a1]
              exact fin
        · simp only [s144_0, s144_1, s144_4, s144_7, s144_8, s144_9, s144_12, s144_15, s144_16, s144_19, s144_20, s144_21, s144_24, s144_25, s144_26, s144_29, Int.toNat_natCast, true_and, and_true, true_or, or_true, false_or, or_false, zwr_id, zpu_some, zpu_none, reduceIte, Int.reduceLE, Int.reduceLT, Int.reduceEq, Int.reduceNeg, Int.reduceAdd, Int.reduceSub, Int.reduceMul, Int.reduceToNat, Nat.reduceAdd, Nat.reduceLeDiff, Nat.reduceEqDiff, Nat.reduceLT, eq_self, ne_eq, not_false_eq_true, not_true_eq_false, a1, b11, x_isSign a1 p9 hS, h1, n1, n2, x_refuse a1]
          exact bad (fun q => by omega)
    · have h1' : gSg D x = false := Bool.not_eq_true _ ▸ h1
      simp only [s144_0, s144_1, s144_4, s144_7, s144_8, s144_9, s144_12, s144_15, s144_16, s144_19, s144_20, s144_21, s144_24, s144_25, s144_26, s144_29, Int.toNat_natCast, true_and, and_true, true_or, or_true, false_or, or_false, zwr_id, zpu_some, zpu_none, reduceIte, Int.reduceLE, Int.reduceLT, Int.reduceEq, Int.reduceNeg, Int.reduceAdd, Int.reduceSub, Int.reduceMul, Int.reduceToNat, Nat.reduceAdd, Nat.reduceLeDiff, Nat.reduceEqDiff, Nat.reduceLT, eq_self, ne_eq, not_false_eq_true, not_true_eq_false, a1, b11, x_isSign a1 p9 hS, h1', Bool.false_eq_true, x_refuse a1]
      exact bad (fun q => h1 q.1)
