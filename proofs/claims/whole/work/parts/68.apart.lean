theorem bAp_iff {D : zD} {R : List Int} (hD : dOk D) {p q : zKq} (hp : kyOk D (p.2 ++ q.2)) : bAp (zPof D) p q = true ↔ (msI (kRun (zPof D) (p.2 ++ q.2))).map cOf = [p.1, q.1] := by
  unfold bAp
  rw [decide_eq_true_iff, kRun_c (dOk_Pk hD)]
theorem kyOk_sg {D : zD} {xs : List Int} (h : kyOk D xs) : ∀ y ∈ xs, gSg D y = true := by
  intro y hy
  obtain ⟨k, hk, e, hs⟩ := h y hy
  subst e
  unfold gSg
  have : isL (kk k) = true := by rw [isL_iff]; unfold kk; omega
  rw [this, show (kk k - 97).toNat = k by unfold kk; omega, decide_eq_true hs]
  simp
theorem fil_take {R : List Int} {f p : Nat} (hf : f ≤ p) (hp : p < R.length) : ((R.drop f).take (p + 1 - f)).filter (fun y => decide (y ≠ 124)) = ((R.drop f).take (p - f)).filter (fun y => decide (y ≠ 124)) ++ if R[p] = 124 then [] else [R[p]] := by
  have e : p + 1 - f = (p - f) + 1 := by omega
  rw [e, take_s (by rw [List.length_drop]; omega), List.filter_append]
  congr 1
  rw [List.getElem_drop]
  have e2 : R[f + (p - f)]'(by omega) = R[p] := by congr 1; omega
  rw [e2]
  by_cases h : R[p] = 124
  · rw [if_pos h, h]; rfl
  · rw [if_neg h, List.filter_cons_of_pos (by simp [h])]; rfl
theorem c_apart {L : zY} {m : zM} {Q : zQ} {D : zD} {R : List Int} {sc i : Nat} (hX : zCX L m D R sc) (hN : zRC L m 10 (kRun (zPof D) R)) (hSc : zRL L m 20) (hV : ∀ y ∈ R, gSg D y = true) (hi : i + 1 < (msI (kRun (zPof D) R)).length) (k : ∀ m', zRL L m' 20 → zFR 20 29 m m' → Q (some (zI (if bAp (zPof D) ((cks R (msI (kRun (zPof D) R))).getD i kq0) ((cks R (msI (kRun (zPof D) R))).getD (i + 1) kq0) = true then 1 else 0))) L m') : zwp 132 0 [zA 2, zI ((i + 1 : Nat) : Int), zU, zU] [] L m Q := by
  obtain ⟨hD, a1, ⟨p2, p4, p5, p9⟩, two, ⟨c0, ov, hRw⟩, hS, hT⟩ := id hX
  have hR80 := hRw.2.2.2.2.2.2.1
  have hi' : i < (msI (kRun (zPof D) R)).length := by omega
  have hM := kRun_I hD hV
  have hIl := hN.2.1.2.1
  generalize hI : msI (kRun (zPof D) R) = I at *
  have ow := hM.1 _ (show I[i] ∈ msI (kRun (zPof D) R) by rw [hI]; exact List.getElem_mem hi')
  have ox := hM.1 _ (show I[i + 1] ∈ msI (kRun (zPof D) R) by rw [hI]; exact List.getElem_mem hi)
  have hl : lnk R I[i] I[i + 1] := hM.2.1 i _ _ (by rw [hI]; exact List.getElem?_eq_getElem hi') (by rw [hI]; exact List.getElem?_eq_getElem hi)
  have okw := kys_ok ow hV
  have okx := kys_ok ox hV
  have wR := ow.1
  have xR := ox.1
  obtain ⟨f, n, pw⟩ := ow.2
  obtain ⟨f2, n2, px⟩ := ox.2
  have spr := sl_pair pw px hl
  rw [cks_get hi', cks_get hi] at k
  have t20 := hSc.1
  have t10 := hN.1.1
  have t6 := hRw.1
  have n0 : f + n ≤ f2 := by have := hl.1; have := pw.1; have := pw.2.1; have := px.1; omega
  have fb : f2 + n2 ≤ R.length := px.2.2.2.1
  have ef : itF I[i] = (f : Int) := pw.1
  have ef2 : itF I[i + 1] = (f2 : Int) := px.1
  have en2 : itN I[i + 1] = (n2 : Int) := px.2.1
  have kok : kyOk D (kys R I[i] ++ kys R I[i + 1]) := fun y hy => by
    rcases List.mem_append.mp hy with hy | hy
    · exact okw y hy
    · exact okx y hy
  have hI2 := kRun_I hD (kyOk_sg kok)
  have bap := bAp_iff (R := R) hD (p := (cOf I[i], kys R I[i])) (q := (cOf I[i + 1], kys R I[i + 1])) kok
  dsimp only at bap
  have i0 := hN.2.1.1
  simp only [s132_0, s132_1, s132_4, Int.toNat_natCast, true_and, and_true, true_or, or_true, false_or, or_false, zwr_id, zpu_some, zpu_none, reduceIte, Int.reduceLE, Int.reduceLT, Int.reduceEq, Int.reduceNeg, Int.reduceAdd, Int.reduceSub, Int.reduceMul, Int.reduceToNat, Nat.reduceAdd, Nat.reduceLeDiff, Nat.reduceEqDiff, Nat.reduceLT, eq_self, ne_eq, not_false_eq_true, not_true_eq_false, a1, p5, t20]
  refine c_clear hSc (fun m1 g1 f1 => ?_)
  have hX1 := zCX_fr f1 hX
  have p4' := hX1.2.2.1.2.1
  have hN1 : zRC L m1 10 (kRun (zPof D) R) := zRC_eq (fun a p q => zFR_at f1 (by omega)) hN
  have hI1 : zRI m1 10 I := by rw [← hI]; exact hN1.2.1
  have hb : -1000 < itF I[i + 1] ∧ itF I[i + 1] < 1000 ∧ -1000 < itN I[i + 1] ∧ itN I[i + 1] < 1000 := by omega
  have eb : (f2 : Int) + (n2 : Int) = ((f2 + n2 : Nat) : Int) := by omega
  simp only [s132_7, s132_8, s132_11, s132_12, s132_15, s132_16, s132_17, s132_20, s132_21, s132_22, s132_23, s132_26, Int.toNat_natCast, true_and, and_true, zpu_some, zpu_none, Int.reduceToNat, Nat.reduceLeDiff, a1, p4', t10, x_behind hN1.1 hI1 hi hb, (show zwr (((i + 1 : Nat) : Int) - 1) = (i : Int) by rw [zwr_id (by omega) (by omega)]; omega), x_place hN1.1 hI1 hi', ef, ef2, en2, eb]
  refine zfor (n := f2 + n2) (fun p => [zA 2, zI ((i + 1 : Nat) : Int), zI ((f2 + n2 : Nat) : Int), zI (p : Nat)]) (fun p m' => f ≤ p ∧ zCX L m' D R sc ∧ zRC L m' 20 (kGo (zPof D) (((R.drop f).take (p - f)).filter (fun y => decide (y ≠ 124))) ms0) ∧ zFR 20 29 m m') ?_ ?_ f m1 (by omega) ⟨Nat.le_refl _, hX1, by rw [Nat.sub_self, List.take_zero]; exact g1, f1⟩
  · rintro p m2 hp ⟨hfp, hX2, g2, f2'⟩ ih
    have hpR : p < R.length := by omega
    obtain ⟨-, -, ⟨p2', p4', p5', p9'⟩, -, ⟨c2, ov2, hRw2⟩, -, -⟩ := id hX2
    have ok2 := kGo_ok (dOk_Pk hD) (((R.drop f).take (p - f)).filter (fun y => decide (y ≠ 124))) ms0 ms0_ok
    have l2 : (((R.drop f).take (p - f)).filter (fun y => decide (y ≠ 124))).length ≤ p - f := Nat.le_trans (List.length_filter_le _ _) (by rw [List.length_take]; omega)
    have n1 : ¬ ((f2 + n2 : Nat) : Int) ≤ (p : Int) := by omega
    have pv : p < 1000000 := by omega
    have ft := fil_take (f := f) hfp hpR
    simp only [s132_27]
    simp only [s132_28, s132_29, s132_32, s132_33, s132_36, s132_37, s132_40, Int.toNat_natCast, true_and, and_true, true_or, or_true, false_or, or_false, zwr_id, zpu_some, zpu_none, reduceIte, Int.reduceLE, Int.reduceLT, Int.reduceEq, Int.reduceNeg, Int.reduceAdd, Int.reduceSub, Int.reduceMul, Int.reduceToNat, Nat.reduceAdd, Nat.reduceLeDiff, Nat.reduceEqDiff, Nat.reduceLT, eq_self, ne_eq, not_false_eq_true, not_true_eq_false, a1, p2', t6, n1, x_signAt hRw2 hpR]
    simp only [s132_42]
    by_cases h124 : R[p] = 124
    · rw [if_pos h124]
      rw [if_pos h124, List.append_nil] at ft
      simp only [s132_64, s132_67, z1 pv]
      exact ih m2 ⟨by omega, hX2, by rw [ft]; exact g2, f2'⟩
    · rw [if_neg h124]
      rw [if_neg h124] at ft
      simp only [s132_45, s132_46, s132_49, s132_50, s132_53, s132_54, s132_57, s132_58, s132_61, Int.toNat_natCast, true_and, and_true, true_or, or_true, false_or, or_false, zwr_id, zpu_some, zpu_none, reduceIte, Int.reduceLE, Int.reduceLT, Int.reduceEq, Int.reduceNeg, Int.reduceAdd, Int.reduceSub, Int.reduceMul, Int.reduceToNat, Nat.reduceAdd, Nat.reduceLeDiff, Nat.reduceEqDiff, Nat.reduceLT, eq_self, ne_eq, not_false_eq_true, not_true_eq_false, a1, p2', p5', p9', t6, t20, x_signAt hRw2 hpR]
      refine c_tk hX2 g2 ok2.1 (by rw [ok2.2]; show 0 + _ < 80; omega) (fun m3 hX3 g3 _ f3 => ?_)
      simp only [s132_64, s132_67, Int.toNat_natCast, true_and, and_true, true_or, or_true, false_or, or_false, zwr_id, zpu_some, zpu_none, reduceIte, Int.reduceLE, Int.reduceLT, Int.reduceEq, Int.reduceNeg, Int.reduceAdd, Int.reduceSub, Int.reduceMul, Int.reduceToNat, Nat.reduceAdd, Nat.reduceLeDiff, Nat.reduceEqDiff, Nat.reduceLT, eq_self, ne_eq, not_false_eq_true, not_true_eq_false, z1 pv]
      refine ih m3 ⟨by omega, hX3, ?_, zFR_tr f2' f3⟩
      rw [ft, kGo_app]
      exact g3
  · rintro m2 ⟨_, hX2, g2, f2'⟩
    rw [spr] at g2
    have g2 : zRC L m2 20 (kRun (zPof D) (kys R I[i] ++ kys R I[i + 1])) := g2
    obtain ⟨-, -, ⟨p2', p4', p5', p9'⟩, -⟩ := id hX2
    have k := k m2 g2.1 f2'
    have hN2 : zRC L m2 10 (kRun (zPof D) R) := zRC_eq (fun a p q => zFR_at f2' (by omega)) hN
    have hIn2 : zRI m2 10 I := by rw [← hI]; exact hN2.2.1
    have hJ := g2.2.1
    have rJ := hI2.1
    generalize hJe : msI (kRun (zPof D) (kys R I[i] ++ kys R I[i + 1])) = J at *
    have j0 := hJ.1
    simp only [s132_27]
    simp only [s132_28, s132_29, s132_70, s132_71, s132_74, s132_77, Int.toNat_natCast, true_and, and_true, true_or, or_true, false_or, or_false, zwr_id, zpu_some, zpu_none, reduceIte, Int.reduceLE, Int.reduceLT, Int.reduceEq, Int.reduceNeg, Int.reduceAdd, Int.reduceSub, Int.reduceMul, Int.reduceToNat, Nat.reduceAdd, Nat.reduceLeDiff, Nat.reduceEqDiff, Nat.reduceLT, eq_self, ne_eq, not_false_eq_true, not_true_eq_false, a1, p5', t20, j0, show ((f2 + n2 : Nat) : Int) ≤ ((f2 + n2 : Nat) : Int) from Int.le_refl _]
    simp only [s132_78]
    by_cases h2 : J.length = 2
    · rw [if_pos (by omega)]
      have h0 : 0 < J.length := by omega
      have h1 : 1 < J.length := by omega
      have x0 := fun Q' : zQ => x_like (Q := Q') (i := 0) (j := i) g2.1 hJ hN2.1 hIn2 h0 hi'
      have x1 := fun Q' : zQ => x_like (Q := Q') (i := 1) (j := i + 1) g2.1 hJ hN2.1 hIn2 h1 hi
      rw [itEq_c (rJ _ (List.getElem_mem h0)).1 wR] at x0
      rw [itEq_c (rJ _ (List.getElem_mem h1)).1 xR] at x1
      simp only [Int.cast_ofNat_Int] at x0 x1
      have eJ : J.map cOf = [cOf J[0], cOf J[1]] := by
        match J, h2 with
        | [a, b], _ => rfl
      rw [eJ] at bap
      simp only [s132_81, s132_82, s132_85, s132_86, s132_87, s132_90, s132_91, s132_92, s132_93, Int.toNat_natCast, true_and, and_true, zpu_some, zpu_none, Int.reduceToNat, Nat.reduceLeDiff, a1, p4', p5', t10, t20, (show zwr (((i + 1 : Nat) : Int) - 1) = (i : Int) by rw [zwr_id (by omega) (by omega)]; omega), x0]
      clear x0
      by_cases c0 : cOf J[0] = cOf I[i]
      · rw [decide_eq_true c0]
        simp only [s132_96, s132_99, s132_100, s132_103, s132_104, s132_105, s132_108, s132_109, Int.toNat_natCast, true_and, and_true, true_or, or_true, false_or, or_false, zwr_id, zpu_some, zpu_none, reduceIte, Int.reduceLE, Int.reduceLT, Int.reduceEq, Int.reduceNeg, Int.reduceAdd, Int.reduceSub, Int.reduceMul, Int.reduceToNat, Nat.reduceAdd, Nat.reduceLeDiff, Nat.reduceEqDiff, Nat.reduceLT, eq_self, ne_eq, not_false_eq_true, not_true_eq_false, a1, p4', p5', t10, t20, x1]
        by_cases c1 : cOf J[1] = cOf I[i + 1]
        · rw [decide_eq_true c1]
          rw [if_pos (bap.mpr (by rw [c0, c1]))] at k
          simp only [s132_112, s132_115, s132_116, s132_119, s132_120, Int.toNat_natCast, true_and, and_true, true_or, or_true, false_or, or_false, zwr_id, zpu_some, zpu_none, reduceIte, Int.reduceLE, Int.reduceLT, Int.reduceEq, Int.reduceNeg, Int.reduceAdd, Int.reduceSub, Int.reduceMul, Int.reduceToNat, Nat.reduceAdd, Nat.reduceLeDiff, Nat.reduceEqDiff, Nat.reduceLT, eq_self, ne_eq, not_false_eq_true, not_true_eq_false]
          exact k
        · rw [decide_eq_false c1]
          rw [if_neg (fun q => c1 (by have := bap.mp q; injection this with q1 q2; injection q2))] at k
          simp only [s132_112, s132_115, s132_116, s132_119, s132_120, Int.toNat_natCast, true_and, and_true, true_or, or_true, false_or, or_false, zwr_id, zpu_some, zpu_none, reduceIte, Int.reduceLE, Int.reduceLT, Int.reduceEq, Int.reduceNeg, Int.reduceAdd, Int.reduceSub, Int.reduceMul, Int.reduceToNat, Nat.reduceAdd, Nat.reduceLeDiff, Nat.reduceEqDiff, Nat.reduceLT, eq_self, ne_eq, not_false_eq_true, not_true_eq_false, Bool.false_eq_true]
          exact k
      · rw [decide_eq_false c0]
        rw [if_neg (fun q => c0 (by have := bap.mp q; injection this))] at k
        simp only [s132_96, s132_99, s132_100, s132_103, s132_104, s132_105, s132_108, s132_109, s132_112, s132_115, s132_116, s132_119, s132_120, Int.toNat_natCast, true_and, and_true, true_or, or_true, false_or, or_false, zwr_id, zpu_some, zpu_none, reduceIte, Int.reduceLE, Int.reduceLT, Int.reduceEq, Int.reduceNeg, Int.reduceAdd, Int.reduceSub, Int.reduceMul, Int.reduceToNat, Nat.reduceAdd, Nat.reduceLeDiff, Nat.reduceEqDiff, Nat.reduceLT, eq_self, ne_eq, not_false_eq_true, not_true_eq_false, Bool.false_eq_true]
        exact k
    · rw [if_neg (by omega)]
      rw [if_neg (fun q => h2 (by have := congrArg List.length (bap.mp q); rw [List.length_map] at this; exact this))] at k
      simp only [s132_119, s132_120, Int.toNat_natCast, true_and, and_true, true_or, or_true, false_or, or_false, zwr_id, zpu_some, zpu_none, reduceIte, Int.reduceLE, Int.reduceLT, Int.reduceEq, Int.reduceNeg, Int.reduceAdd, Int.reduceSub, Int.reduceMul, Int.reduceToNat, Nat.reduceAdd, Nat.reduceLeDiff, Nat.reduceEqDiff, Nat.reduceLT, eq_self, ne_eq, not_false_eq_true, not_true_eq_false]
      exact k
