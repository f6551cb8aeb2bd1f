theorem fil2_s {xs : List Int} {i : Nat} (hi : i < xs.length) : (xs.take (i + 1)).filter (fun y => decide (y ≠ -2)) = (xs.take i).filter (fun y => decide (y ≠ -2)) ++ if xs[i] = -2 then [] else [xs[i]] := by
  rw [take_s hi, List.filter_append]
  congr 1
  by_cases h : xs[i] = -2
  · rw [if_pos h, h]; rfl
  · rw [if_neg h, List.filter_cons_of_pos (by simp [h])]; rfl
def dQ (D : zD) (x : Int) : zKq := (cCd D x, dSp D x)
theorem c_capart {L : zY} {m : zM} {Q : zQ} {D : zD} {R : List Int} {sc : Nat} {a b : Int} (hlk : dLacks D = false) (hX : zCX L m D R sc) (hSc : zRL L m 20) (ha : dHas D a) (hb : dHas D b) (k : ∀ m', zRL L m' 20 → zFR 20 29 m m' → Q (some (zI (if bAp (zPof D) (dQ D a) (dQ D b) = true then 1 else 0))) L m') : zwp 136 0 [zA 2, zI a, zI b, zU, zU, zU] [] L m Q := by
  obtain ⟨hD, a1, ⟨p2, p4, p5, p9⟩, two, -, hS, hT⟩ := id hX
  have t20 := hSc.1
  have s1 := hS.1.1
  have ka := code_kq hD hlk ha
  have kb := code_kq hD hlk hb
  have kok : kyOk D (dSp D a ++ dSp D b) := fun y hy => by
    rcases List.mem_append.mp hy with hy | hy
    · exact ka.1 y hy
    · exact kb.1 y hy
  have hI2 := kRun_I hD (kyOk_sg kok)
  have bap := bAp_iff (R := R) hD (p := dQ D a) (q := dQ D b) kok
  have bap : bAp (zPof D) (dQ D a) (dQ D b) = true ↔ (msI (kRun (zPof D) (dSp D a ++ dSp D b))).map cOf = [cCd D a, cCd D b] := bap
  have hlen : (dSl D a ++ dSl D b).length = 12 := rfl
  have ef : (dSl D a ++ dSl D b).filter (fun y => decide (y ≠ -2)) = dSp D a ++ dSp D b := by rw [List.filter_append]; rfl
  simp only [s136_0, s136_1, s136_4, Int.toNat_natCast, true_and, and_true, true_or, or_true, false_or, or_false, zwr_id, zpu_some, zpu_none, reduceIte, Int.reduceLE, Int.reduceLT, Int.reduceEq, Int.reduceNeg, Int.reduceAdd, Int.reduceSub, Int.reduceMul, Int.reduceToNat, Nat.reduceAdd, Nat.reduceLeDiff, Nat.reduceEqDiff, Nat.reduceLT, eq_self, ne_eq, not_false_eq_true, not_true_eq_false, a1, p5, t20]
  refine c_clear hSc (fun m1 g1 f1 => ?_)
  simp only [s136_7, s136_8, zpu_none]
  refine zforv (n := 12) (fun (l : zV × zV) s => [zA 2, zI a, zI b, zI (s : Nat), l.1, l.2]) (fun s m' => zCX L m' D R sc ∧ zRC L m' 20 (kGo (zPof D) (((dSl D a ++ dSl D b).take s).filter (fun y => decide (y ≠ -2))) ms0) ∧ zFR 20 29 m m') ?_ ?_ (zU, zU) 0 m1 (Nat.zero_le _) ⟨zCX_fr f1 hX, g1, f1⟩
  · rintro v s m2 hs ⟨hX2, g2, f2⟩ ih
    have hs12 : s < (dSl D a ++ dSl D b).length := by rw [hlen]; exact hs
    have fs := fil2_s hs12
    obtain ⟨-, -, ⟨p2', p4', p5', p9'⟩, -, -, hS2, hT2⟩ := id hX2
    have ok2 := kGo_ok (dOk_Pk hD) (((dSl D a ++ dSl D b).take s).filter (fun y => decide (y ≠ -2))) ms0 ms0_ok
    have l2 : (((dSl D a ++ dSl D b).take s).filter (fun y => decide (y ≠ -2))).length ≤ s := Nat.le_trans (List.length_filter_le _ _) (by rw [List.length_take]; omega)
    have sv : s < 1000000 := by omega
    have n12 : ¬ 12 ≤ (s : Int) := by omega
    have tail : ∀ u : Int, zwp 136 58 [zA 2, zI a, zI b, zI (s : Nat), zI u, v.2] [zI (dSl D a ++ dSl D b)[s]] L m2 Q := by
      intro u
      generalize (dSl D a ++ dSl D b)[s] = y at *
      simp only [s136_58, s136_60, s136_62]
      simp only [s136_64]
      by_cases hy : y = -2
      · rw [if_pos hy]
        rw [if_pos hy, List.append_nil] at fs
        simp only [s136_80, s136_83, z1 sv]
        exact ih (zI u, zI y) m2 ⟨hX2, by rw [fs]; exact g2, f2⟩
      · rw [if_neg hy]
        rw [if_neg hy] at fs
        simp only [s136_67, s136_68, s136_71, s136_72, s136_75, s136_77, Int.toNat_natCast, true_and, and_true, true_or, or_true, false_or, or_false, zwr_id, zpu_some, zpu_none, reduceIte, Int.reduceLE, Int.reduceLT, Int.reduceEq, Int.reduceNeg, Int.reduceAdd, Int.reduceSub, Int.reduceMul, Int.reduceToNat, Nat.reduceAdd, Nat.reduceLeDiff, Nat.reduceEqDiff, Nat.reduceLT, eq_self, ne_eq, not_false_eq_true, not_true_eq_false, a1, p5', p9', t20]
        refine c_tk hX2 g2 ok2.1 (by rw [ok2.2]; show 0 + _ < 80; omega) (fun m3 hX3 g3 _ f3 => ?_)
        simp only [s136_80, s136_83, Int.toNat_natCast, true_and, and_true, true_or, or_true, false_or, or_false, zwr_id, zpu_some, zpu_none, reduceIte, Int.reduceLE, Int.reduceLT, Int.reduceEq, Int.reduceNeg, Int.reduceAdd, Int.reduceSub, Int.reduceMul, Int.reduceToNat, Nat.reduceAdd, Nat.reduceLeDiff, Nat.reduceEqDiff, Nat.reduceLT, eq_self, ne_eq, not_false_eq_true, not_true_eq_false, z1 sv]
        refine ih (zI u, zI y) m3 ⟨hX3, ?_, zFR_tr f2 f3⟩
        rw [fs, kGo_app]
        exact g3
    simp only [s136_9]
    by_cases h6 : s < 6
    · have n6 : (s : Int) < 6 := by omega
      have e6 : (dSl D a).getD s 0 = (dSl D a ++ dSl D b)[s] := by
        rw [List.getElem_append_left (show s < (dSl D a).length from h6), getD_lt (show s < (dSl D a).length from h6)]
      simp only [s136_10, s136_12, s136_15, s136_16, s136_18, s136_21, s136_22, s136_25, s136_26, s136_28, s136_29, s136_32, s136_34, s136_37, s136_38, s136_41, s136_42, s136_44, s136_47, s136_48, s136_50, s136_51, s136_54, s136_55, Int.toNat_natCast, true_and, and_true, true_or, or_true, false_or, or_false, zwr_id, zpu_some, zpu_none, reduceIte, Int.reduceLE, Int.reduceLT, Int.reduceEq, Int.reduceNeg, Int.reduceAdd, Int.reduceSub, Int.reduceMul, Int.reduceToNat, Nat.reduceAdd, Nat.reduceLeDiff, Nat.reduceEqDiff, Nat.reduceLT, eq_self, ne_eq, not_false_eq_true, not_true_eq_false, a1, p9', s1, n12, n6, x_slot hD hlk hS2 hT2 ha h6, e6]
      exact tail _
    · have n6 : ¬ (s : Int) < 6 := by omega
      have h6' : s - 6 < 6 := by omega
      have e6 : (dSl D b).getD (s - 6) 0 = (dSl D a ++ dSl D b)[s] := by
        rw [List.getElem_append_right (show (dSl D a).length ≤ s from by show 6 ≤ s; omega), getD_lt (show s - 6 < (dSl D b).length from h6')]
        rfl
      simp only [s136_10, s136_12, s136_15, s136_16, s136_18, s136_21, s136_22, s136_25, s136_26, s136_28, s136_29, s136_32, s136_34, s136_37, s136_38, s136_41, s136_42, s136_44, s136_47, s136_48, s136_50, s136_51, s136_54, s136_55, Int.toNat_natCast, true_and, and_true, true_or, or_true, false_or, or_false, zwr_id, zpu_some, zpu_none, reduceIte, Int.reduceLE, Int.reduceLT, Int.reduceEq, Int.reduceNeg, Int.reduceAdd, Int.reduceSub, Int.reduceMul, Int.reduceToNat, Nat.reduceAdd, Nat.reduceLeDiff, Nat.reduceEqDiff, Nat.reduceLT, eq_self, ne_eq, not_false_eq_true, not_true_eq_false, a1, p9', s1, n12, n6, (show zwr ((s : Int) - 6) = ((s - 6 : Nat) : Int) by rw [zwr_id (by omega) (by omega)]; omega), x_slot hD hlk hS2 hT2 hb h6', e6]
      exact tail _
  · rintro v m2 ⟨hX2, g2, f2⟩
    rw [List.take_of_length_le (by rw [hlen]; exact Nat.le_refl _), ef] at g2
    have g2 : zRC L m2 20 (kRun (zPof D) (dSp D a ++ dSp D b)) := g2
    obtain ⟨-, -, ⟨p2', p4', p5', p9'⟩, -, -, hS2, hT2⟩ := id hX2
    have k := k m2 g2.1 f2
    have hJ := g2.2.1
    have rJ := hI2.1
    generalize hJe : msI (kRun (zPof D) (dSp D a ++ dSp D b)) = J at *
    have j0 := hJ.1
    simp only [s136_9]
    simp only [s136_10, s136_12, s136_86, s136_87, s136_90, s136_93, Int.toNat_natCast, true_and, and_true, true_or, or_true, false_or, or_false, zwr_id, zpu_some, zpu_none, reduceIte, Int.reduceLE, Int.reduceLT, Int.reduceEq, Int.reduceNeg, Int.reduceAdd, Int.reduceSub, Int.reduceMul, Int.reduceToNat, Nat.reduceAdd, Nat.reduceLeDiff, Nat.reduceEqDiff, Nat.reduceLT, eq_self, ne_eq, not_false_eq_true, not_true_eq_false, Int.cast_ofNat_Int, a1, p5', t20, j0]
    simp only [s136_94]
    by_cases h2 : J.length = 2
    · rw [if_pos (by omega)]
      have h0 : 0 < J.length := by omega
      have h1 : 1 < J.length := by omega
      have x0 := fun Q' : zQ => x_codeA (Q := Q') (i := 0) g2.1 hJ h0 hS2 hT2
      have x1 := fun Q' : zQ => x_codeA (Q := Q') (i := 1) g2.1 hJ h1 hS2 hT2
      simp only [Int.cast_ofNat_Int] at x0 x1
      have c0 := code_eq hD hlk ha (rJ _ (List.getElem_mem h0)).1
      have c1 := code_eq hD hlk hb (rJ _ (List.getElem_mem h1)).1
      have eJ : J.map cOf = [cOf J[0], cOf J[1]] := by
        match J, h2 with
        | [u, w], _ => rfl
      rw [eJ] at bap
      generalize (if itSo J[0] = 0 then zcod D (itL J[0]) (itM J[0]) (itC J[0]) else -2) = y0 at *
      generalize (if itSo J[1] = 0 then zcod D (itL J[1]) (itM J[1]) (itC J[1]) else -2) = y1 at *
      simp only [s136_97, s136_98, s136_101, s136_102, s136_105, s136_106, s136_109, Int.toNat_natCast, true_and, and_true, true_or, or_true, false_or, or_false, zwr_id, zpu_some, zpu_none, reduceIte, Int.reduceLE, Int.reduceLT, Int.reduceEq, Int.reduceNeg, Int.reduceAdd, Int.reduceSub, Int.reduceMul, Int.reduceToNat, Nat.reduceAdd, Nat.reduceLeDiff, Nat.reduceEqDiff, Nat.reduceLT, eq_self, ne_eq, not_false_eq_true, not_true_eq_false, a1, p5', p9', s1, t20, x0]
      simp only [s136_110]
      by_cases d0 : y0 = a
      · rw [if_pos d0]
        simp only [s136_113, s136_114, s136_117, s136_118, s136_121, s136_122, s136_125, Int.toNat_natCast, true_and, and_true, true_or, or_true, false_or, or_false, zwr_id, zpu_some, zpu_none, reduceIte, Int.reduceLE, Int.reduceLT, Int.reduceEq, Int.reduceNeg, Int.reduceAdd, Int.reduceSub, Int.reduceMul, Int.reduceToNat, Nat.reduceAdd, Nat.reduceLeDiff, Nat.reduceEqDiff, Nat.reduceLT, eq_self, ne_eq, not_false_eq_true, not_true_eq_false, a1, p5', p9', s1, t20, x1]
        simp only [s136_126]
        by_cases d1 : y1 = b
        · rw [if_pos d1]
          rw [if_pos (bap.mpr (by rw [c0.mp d0, c1.mp d1]))] at k
          simp only [s136_129, s136_130, s136_133, s136_134, Int.toNat_natCast, true_and, and_true, true_or, or_true, false_or, or_false, zwr_id, zpu_some, zpu_none, reduceIte, Int.reduceLE, Int.reduceLT, Int.reduceEq, Int.reduceNeg, Int.reduceAdd, Int.reduceSub, Int.reduceMul, Int.reduceToNat, Nat.reduceAdd, Nat.reduceLeDiff, Nat.reduceEqDiff, Nat.reduceLT, eq_self, ne_eq, not_false_eq_true, not_true_eq_false]
          exact k
        · rw [if_neg d1]
          rw [if_neg (fun q => d1 (c1.mpr (by have := bap.mp q; injection this with q1 q2; injection q2)))] at k
          simp only [s136_133, s136_134, Int.toNat_natCast, true_and, and_true, true_or, or_true, false_or, or_false, zwr_id, zpu_some, zpu_none, reduceIte, Int.reduceLE, Int.reduceLT, Int.reduceEq, Int.reduceNeg, Int.reduceAdd, Int.reduceSub, Int.reduceMul, Int.reduceToNat, Nat.reduceAdd, Nat.reduceLeDiff, Nat.reduceEqDiff, Nat.reduceLT, eq_self, ne_eq, not_false_eq_true, not_true_eq_false]
          exact k
      · rw [if_neg d0]
        rw [if_neg (fun q => d0 (c0.mpr (by have := bap.mp q; injection this)))] at k
        simp only [s136_133, s136_134, Int.toNat_natCast, true_and, and_true, true_or, or_true, false_or, or_false, zwr_id, zpu_some, zpu_none, reduceIte, Int.reduceLE, Int.reduceLT, Int.reduceEq, Int.reduceNeg, Int.reduceAdd, Int.reduceSub, Int.reduceMul, Int.reduceToNat, Nat.reduceAdd, Nat.reduceLeDiff, Nat.reduceEqDiff, Nat.reduceLT, eq_self, ne_eq, not_false_eq_true, not_true_eq_false]
        exact k
    · rw [if_neg (by omega)]
      rw [if_neg (fun q => h2 (by have := congrArg List.length (bap.mp q); rw [List.length_map] at this; exact this))] at k
      simp only [s136_133, s136_134, Int.toNat_natCast, true_and, and_true, true_or, or_true, false_or, or_false, zwr_id, zpu_some, zpu_none, reduceIte, Int.reduceLE, Int.reduceLT, Int.reduceEq, Int.reduceNeg, Int.reduceAdd, Int.reduceSub, Int.reduceMul, Int.reduceToNat, Nat.reduceAdd, Nat.reduceLeDiff, Nat.reduceEqDiff, Nat.reduceLT, eq_self, ne_eq, not_false_eq_true, not_true_eq_false]
      exact k
/-! a Row that more is appended to than it has room for -/
def ovf (Y : List Int) : Int := if 80 < Y.length then 1 else 0
def zRo (L : zY) (m : zM) (o : Nat) (Y : List Int) : Prop := zRw L m o (Y.take 80) 0 (ovf Y)
theorem c_RaO {L : zY} {m : zM} {Q : zQ} {o : Nat} {Y : List Int} {y : Int} (h : zRo L m o Y) (k : ∀ m', zRo L m' o (Y ++ [y]) → zFR o (o + 1) m m' → Q none L m') : zwp 46 0 [zA o, zI y] [] L m Q := by
  by_cases hl : Y.length < 80
  · refine c_Rappend h (by rw [List.length_take]; omega) (fun m' g f => k m' ?_ f)
    have e1 : (Y ++ [y]).take 80 = Y.take 80 ++ [y] := by
      rw [List.take_of_length_le (by rw [List.length_append]; show _ + 1 ≤ 80; omega), List.take_of_length_le (by omega)]
    have e2 : ovf (Y ++ [y]) = ovf Y := by
      unfold ovf
      rw [if_neg (by rw [List.length_append]; show ¬ 80 < _ + 1; omega), if_neg (by omega)]
    unfold zRo
    rw [e1, e2]
    exact g
  · have h' := h
    obtain ⟨a1, a2, a3, a4, a5, a6, a7, a8, a9, a10⟩ := h'
    have el : (Y.take 80).length = 80 := by rw [List.length_take]; omega
    rw [el] at a6
    simp only [s46_0, s46_1, s46_4, s46_6, s46_9, s46_10, s46_13, s46_14, s46_17, s46_18, s46_19, s46_20, s46_21, s46_24, s46_25, s46_26, s46_29, s46_32, s46_33, s46_34, s46_37, Int.toNat_natCast, true_and, and_true, true_or, or_true, false_or, or_false, zwr_id, zpu_some, zpu_none, reduceIte, Int.reduceLE, Int.reduceLT, Int.reduceEq, Int.reduceNeg, Int.reduceAdd, Int.reduceSub, Int.reduceMul, Int.reduceToNat, Nat.reduceAdd, Nat.reduceLeDiff, Nat.reduceEqDiff, Nat.reduceLT, eq_self, ne_eq, not_false_eq_true, not_true_eq_false, Int.cast_ofNat_Int, a1, a6, a2]
    have e1 : (Y ++ [y]).take 80 = Y.take 80 := List.take_append_of_le_length (by omega)
    have e2 : ovf (Y ++ [y]) = 1 := if_pos (by rw [List.length_append]; show 80 < _ + 1; omega)
    refine k _ ?_ (zFR_up zFR_rf (by omega) (by omega))
    unfold zRo
    rw [e1, e2]
    exact ⟨a1, a2, by rw [zup_nk (by decide)]; exact a3, a4, a5, by rw [zup_nk (by decide), el]; exact a6, a7, by rw [zup_nk (by decide)]; exact a8, zup_same, zAL_eq (zup_nf (by omega)) a10⟩
theorem c_apCode {L : zY} {m : zM} {Q : zQ} {D : zD} {sc : Nat} {Y : List Int} {x : Int} (hD : dOk D) (hlk : dLacks D = false) (h9 : 9 < sc) (hS : zSd L m sc D) (hT : zSt L m sc D) (hx : dHas D x) (hW : zRo L m 8 Y) (k : ∀ m', zRo L m' 8 (Y ++ dSp D x) → zFR 8 9 m m' → Q none L m') : zwp 47 0 [zA 8, zA sc, zI x, zU, zU] [] L m Q := by
  have t8 := hW.1
  have s1 := hS.1.1
  have hlen : (dSl D x).length = 6 := rfl
  simp only [s47_0, s47_1]
  refine zforv (n := 6) (fun l s => [zA 8, zA sc, zI x, zI (s : Nat), l]) (fun s m' => zRo L m' 8 (Y ++ ((dSl D x).take s).filter (fun y => decide (y ≠ -2))) ∧ zFR 8 9 m m') ?_ ?_ zU 0 m (Nat.zero_le _) ⟨by rw [List.take_zero, List.filter_nil, List.append_nil]; exact hW, zFR_rf⟩
  · rintro v s m1 hs ⟨g1, f1⟩ ih
    have hs6 : s < (dSl D x).length := hs
    have fs := fil2_s hs6
    have hS1 : zSd L m1 sc D := zSd_eq (fun a p q => zFR_at f1 (by omega)) hS
    have hT1 : zSt L m1 sc D := zSt_eq (fun a p q => zFR_at f1 (by omega)) hT
    have n6 : ¬ 6 ≤ (s : Int) := by omega
    have sv : s < 1000000 := by omega
    have e0 : (dSl D x).getD s 0 = (dSl D x)[s] := getD_lt hs6
    simp only [s47_2]
    simp only [s47_3, s47_5, s47_8, s47_9, s47_10, s47_11, s47_14, s47_16, s47_18, Int.toNat_natCast, true_and, and_true, true_or, or_true, false_or, or_false, zwr_id, zpu_some, zpu_none, reduceIte, Int.reduceLE, Int.reduceLT, Int.reduceEq, Int.reduceNeg, Int.reduceAdd, Int.reduceSub, Int.reduceMul, Int.reduceToNat, Nat.reduceAdd, Nat.reduceLeDiff, Nat.reduceEqDiff, Nat.reduceLT, eq_self, ne_eq, not_false_eq_true, not_true_eq_false, s1, n6, x_slot hD hlk hS1 hT1 hx hs, e0]
    generalize (dSl D x)[s] = y at *
    simp only [s47_20]
    by_cases hy : y = -2
    · rw [if_pos hy]
      rw [if_pos hy, List.append_nil] at fs
      simp only [s47_29, s47_32, z1 sv]
      exact ih (zI y) m1 ⟨by rw [fs]; exact g1, f1⟩
    · rw [if_neg hy]
      rw [if_neg hy] at fs
      simp only [s47_23, s47_24, s47_26, t8, true_and]
      refine c_RaO g1 (fun m2 g2 f2 => ?_)
      simp only [s47_29, s47_32, Int.toNat_natCast, true_and, and_true, true_or, or_true, false_or, or_false, zwr_id, zpu_some, zpu_none, reduceIte, Int.reduceLE, Int.reduceLT, Int.reduceEq, Int.reduceNeg, Int.reduceAdd, Int.reduceSub, Int.reduceMul, Int.reduceToNat, Nat.reduceAdd, Nat.reduceLeDiff, Nat.reduceEqDiff, Nat.reduceLT, eq_self, ne_eq, not_false_eq_true, not_true_eq_false, z1 sv]
      exact ih (zI y) m2 ⟨by rw [fs, ← List.append_assoc]; exact g2, zFR_tr f1 f2⟩
  · rintro v m1 ⟨g1, f1⟩
    rw [List.take_of_length_le (by rw [hlen]; exact Nat.le_refl _)] at g1
    simp only [s47_2]
    simp only [s47_3, s47_5, s47_35, Int.toNat_natCast, true_and, and_true, true_or, or_true, false_or, or_false, zwr_id, zpu_some, zpu_none, reduceIte, Int.reduceLE, Int.reduceLT, Int.reduceEq, Int.reduceNeg, Int.reduceAdd, Int.reduceSub, Int.reduceMul, Int.reduceToNat, Nat.reduceAdd, Nat.reduceLeDiff, Nat.reduceEqDiff, Nat.reduceLT, eq_self, ne_eq, not_false_eq_true, not_true_eq_false, Int.cast_ofNat_Int]
    exact k m1 g1 f1
