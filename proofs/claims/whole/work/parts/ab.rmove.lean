theorem sg_m {x : Int} (h : 0 ≤ x ∧ x < 16) : zwr (20 + x) = ((sgS (31 + x.toNat) : Nat) : Int) := by
  unfold sgS
  rw [if_neg (by omega), if_neg (by omega), if_pos (by omega), zwr_id (by omega) (by omega)]
  omega
theorem sg_b {x : Int} (h : 0 ≤ x ∧ x < 16) : zwr (40 + x) = ((sgS (15 + x.toNat) : Nat) : Int) := by
  unfold sgS
  rw [if_neg (by omega), if_pos (by omega), zwr_id (by omega) (by omega)]
  omega
theorem sg_e {x : Int} (h : 1 ≤ x ∧ x < 19) : zwr (60 + x) = ((sgS (47 + x.toNat) : Nat) : Int) := by
  unfold sgS
  rw [if_neg (by omega), if_neg (by omega), if_neg (by omega), zwr_id (by omega) (by omega)]
  omega
theorem dVp_rng {D : zD} {x : Int} {k : Nat} (hD : dOk D) : dVp D x k = -2 ∨ (0 ≤ dVp D x k ∧ dVp D x k < 16) := by
  have hl : (dV D).length ≤ (dTM D).length := by rw [dTM_len]; unfold dnM; omega
  have h := zwith_rng (es := dTM D) (ns := (dV D).length) (x := x) (key := kk k) hl
  have l2 : (dTM D).length ≤ 16 := by
    rw [dTM_len]
    have a1 : (dV D).length ≤ 8 := hD.2.2.1.2.1
    have a2 : (dPV D).length ≤ 8 := Nat.le_trans (List.length_filter_le _ _) hD.2.2.1.2.2.2.2
    unfold dnM; omega
  unfold dVp
  omega
theorem dEp_rng {D : zD} {x : Int} {k : Nat} (hD : dOk D) : dEp D x k = -2 ∨ (1 ≤ dEp D x k ∧ dEp D x k < 19) := by
  have hl : 1 + (dEn D).length ≤ (dTE D).length := by rw [dTE_len]; unfold dnE; omega
  have h := zwith_rng (es := dTE D) (ns := 1 + (dEn D).length) (x := x) (key := kk k) hl
  have l2 : (dTE D).length ≤ 19 := by
    rw [dTE_len]
    have a1 : (dEn D).length ≤ 10 := Nat.le_trans (List.length_filter_le _ _) hD.2.2.1.1
    have a2 : (dPE D).length ≤ 8 := Nat.le_trans (List.length_filter_le _ _) hD.2.2.1.2.2.2.2
    unfold dnE; omega
  unfold dEp
  omega
theorem c_rgfM {L : zY} {m m0 : zM} {Q : zQ} {D : zD} {mid k : Nat} {b : Bool} (ht : zMt L) (hn : zMn L) (hD : dOk D) (hx : rMx m D) (hk : k < 26) (hst : mid < 16) (h0 : rNx m0 m (sgS (tFr (zPof D) k).1) 1) (kq : ∀ m', rMvP m0 m' D ((if b = true then 31 else 15) + mid) k → Q none L m') : zwp 246 0 [zA 332, zI (mid : Int), zI (k : Int), zI (if b = true then 1 else 0), zU] [] L m Q := by
  have t0 := mt332 ht
  obtain ⟨r1, r2, r3, r4⟩ := rk_rng (k := k) hD
  have rv := dVp_rng (D := D) (x := (mid : Int)) (k := k) hD
  have q7 : m 332 7 = ((334 : Nat) : Int) := mp7 hx.1
  have q8 : m 332 8 = ((335 : Nat) : Int) := mp8 hx.1
  have q26 : m 332 26 = ((343 : Nat) : Int) := mp26 hx.1
  have q29 : m 332 29 = ((346 : Nat) : Int) := mp29 hx.1
  have v1 : m 334 k = dS D k := hx.2.1.1 k hk
  have v5 : m 343 k = dNE D k := hx.2.2.1.1.2.2.1 k hk
  have hr : 0 ≤ (k : Int) ∧ (k : Int) < ((52 : Nat) : Int) := by omega
  have hr' : 0 ≤ (k : Int) ∧ (k : Int) < ((26 : Nat) : Int) := by omega
  have et : tMv (zPof D) ((if b = true then 31 else 15) + mid) k = if dS D k = 3 then (if dVp D (mid : Int) k ≠ -2 then ((if b = true then 31 else 15) + (dVp D (mid : Int) k).toNat, 0) else tFr (zPof D) k) else if b = true ∧ dS D k ≠ 4 ∧ dNE D k ≠ -2 then (47 + (dNE D k).toNat, 0) else tFr (zPof D) k := by
    unfold tMv
    cases b with
    | false =>
      rw [if_neg (show ¬ (false = true) from Bool.noConfusion), if_neg (by omega), if_pos (by omega), show 15 + mid - 15 = mid by omega]
      show (if dS D k = 3 ∧ dVp D (mid : Int) k ≠ -2 then (15 + (dVp D (mid : Int) k).toNat, 0) else tFr (zPof D) k) = _
      by_cases h3 : dS D k = 3
      · rw [if_pos h3]
        by_cases hv : dVp D (mid : Int) k ≠ -2
        · rw [if_pos ⟨h3, hv⟩, if_pos hv]
        · rw [if_neg (fun q => hv q.2), if_neg hv]
      · rw [if_neg h3, if_neg (fun q => h3 q.1), if_neg (fun q => Bool.noConfusion q.1)]
    | true =>
      rw [if_pos rfl, if_neg (by omega), if_neg (by omega), if_pos (by omega), show 31 + mid - 31 = mid by omega]
      show (if dS D k = 3 then (if dVp D (mid : Int) k ≠ -2 then (31 + (dVp D (mid : Int) k).toNat, 0) else tFr (zPof D) k) else if dS D k ≠ 4 ∧ dNE D k ≠ -2 then (47 + (dNE D k).toNat, 0) else tFr (zPof D) k) = _
      by_cases h3 : dS D k = 3
      · rw [if_pos h3, if_pos h3]
      · rw [if_neg h3, if_neg h3]
        by_cases h4 : dS D k ≠ 4 ∧ dNE D k ≠ -2
        · rw [if_pos h4, if_pos ⟨rfl, h4⟩]
        · rw [if_neg h4, if_neg (fun q => h4 q.2)]
  unfold rMvP at kq
  rw [et] at kq
  clear et
  simp only [s246_0, s246_1, s246_4, s246_5, s246_6, Int.toNat_natCast, true_and, and_true, true_or, or_true, false_or, or_false, zwr_id, zpu_some, zpu_none, reduceIte, Int.reduceLE, Int.reduceLT, Int.reduceEq, Int.reduceNeg, Int.reduceAdd, Int.reduceSub, Int.reduceMul, Int.reduceToNat, Nat.reduceAdd, Nat.reduceLeDiff, Nat.reduceEqDiff, Nat.reduceLT, eq_self, ne_eq, not_false_eq_true, not_true_eq_false, t0, q7, mt334 ht, mn334 hn, hr, and_self, v1]
  simp only [s246_7]
  by_cases h3 : dS D k = 3
  · rw [if_pos h3] at kq ⊢
    have c35 : m 335 1 = ((dV D).length : Int) := hx.2.1.2.1.2.1
    have h21 : m 332 21 = ((rM D).length : Int) := hx.2.2.1.2.1.2.1
    have b1 : (1 : Int) < ((10 : Nat) : Int) := by decide
    have rest : zwp 246 51 [zA 332, zI (mid : Int), zI (k : Int), zI (if b = true then 1 else 0), zU] [zI (dVp D (mid : Int) k)] L m Q := by
      simp only [s246_51, s246_53, s246_55]
      simp only [s246_57]
      by_cases hv : dVp D (mid : Int) k = -2
      · rw [if_pos hv]
        rw [if_neg (fun q => q hv), tFr_1] at kq
        simp only [s246_83, s246_129]
        exact kq _ h0
      · rw [if_neg hv]
        rw [if_pos hv] at kq
        cases b with
        | false =>
          rw [if_neg (show ¬ (false = true) from Bool.noConfusion)] at kq ⊢
          have wz : zwr (40 + dVp D (mid : Int) k) = ((sgS (15 + (dVp D (mid : Int) k).toNat) : Nat) : Int) := sg_b (rv.resolve_left hv)
          simp only [s246_60, s246_61, s246_62, s246_65, s246_67, s246_70, s246_72, s246_74, s246_75, s246_78, s246_79, s246_80, s246_83, s246_129, Int.toNat_natCast, true_and, and_true, true_or, or_true, false_or, or_false, zwr_id, zpu_some, zpu_none, reduceIte, Int.reduceLE, Int.reduceLT, Int.reduceEq, Int.reduceNeg, Int.reduceAdd, Int.reduceSub, Int.reduceMul, Int.reduceToNat, Nat.reduceAdd, Nat.reduceLeDiff, Nat.reduceEqDiff, Nat.reduceLT, eq_self, ne_eq, not_false_eq_true, not_true_eq_false, t0, wz]
          exact kq _ (rNx_tr h0 rNx_2)
        | true =>
          rw [if_pos rfl] at kq ⊢
          have wz : zwr (20 + dVp D (mid : Int) k) = ((sgS (31 + (dVp D (mid : Int) k).toNat) : Nat) : Int) := sg_m (rv.resolve_left hv)
          simp only [s246_60, s246_61, s246_62, s246_65, s246_67, s246_70, s246_72, s246_74, s246_75, s246_78, s246_79, s246_80, s246_83, s246_129, Int.toNat_natCast, true_and, and_true, true_or, or_true, false_or, or_false, zwr_id, zpu_some, zpu_none, reduceIte, Int.reduceLE, Int.reduceLT, Int.reduceEq, Int.reduceNeg, Int.reduceAdd, Int.reduceSub, Int.reduceMul, Int.reduceToNat, Nat.reduceAdd, Nat.reduceLeDiff, Nat.reduceEqDiff, Nat.reduceLT, eq_self, ne_eq, not_false_eq_true, not_true_eq_false, t0, wz]
          exact kq _ (rNx_tr h0 rNx_2)
    simp only [s246_10, s246_11, s246_12, s246_15, s246_16, Int.toNat_natCast, true_and, and_true, true_or, or_true, false_or, or_false, zwr_id, zpu_some, zpu_none, reduceIte, Int.reduceLE, Int.reduceLT, Int.reduceEq, Int.reduceNeg, Int.reduceAdd, Int.reduceSub, Int.reduceMul, Int.reduceToNat, Nat.reduceAdd, Nat.reduceLeDiff, Nat.reduceEqDiff, Nat.reduceLT, eq_self, ne_eq, not_false_eq_true, not_true_eq_false, t0, q8, mt335 ht, mn335 hn, b1, c35]
    simp only [s246_17]
    by_cases h2 : (dV D).length ≤ mid
    · rw [if_pos (by omega)]
      have ez : dVp D (mid : Int) k = -2 := by unfold dVp zwith; rw [if_pos (by omega)]
      rw [ez] at rest
      simp only [s246_49]
      exact rest
    · rw [if_neg (by omega)]
      obtain ⟨y1, y2⟩ := rM_get (D := D) (x := mid) (by omega)
      have zz := zA2_get hx.2.2.1.2.2.2.1 y1
      rw [getD_lt y1] at y2
      rw [y2, Nat.zero_add] at zz
      have zz1 : m 346 (2 * mid) = (((dV D)[mid]'(by omega) : Nat) : Int) := zz.1
      have lV : (dV D).length ≤ (rM D).length := by unfold rM; rw [List.length_append, List.length_map]; omega
      have lb : (rM D).length ≤ 16 := by
        have a1 : (dV D).length ≤ 8 := hD.2.2.1.2.1
        have a2 : (dPV D).length ≤ 8 := Nat.le_trans (List.length_filter_le _ _) hD.2.2.1.2.2.2.2
        unfold rM; rw [List.length_append, List.length_map, List.length_map]; omega
      have hry : 0 ≤ ((2 * mid : Nat) : Int) ∧ ((2 * mid : Nat) : Int) < ((32 : Nat) : Int) := by omega
      have po := fun Q' : zQ => r_pof (Q := Q') (o := 0) (i := (dV D).length) (x := (((dV D)[mid]'(by omega) : Nat) : Int)) (y := (k : Int)) (mt346 ht) (by rw [mn346 hn]; omega) (by omega) hx.2.2.1.2.2.2.1 lV
      have pe := dVp_r (D := D) (x := mid) (k := k) (by omega)
      simp only [Nat.zero_add] at po
      rw [pe] at po
      simp only [s246_20, s246_21, s246_24, s246_25, s246_28, s246_29, s246_30, s246_31, s246_34, s246_35, s246_38, s246_39, s246_40, s246_41, s246_42, s246_43, s246_46, Int.toNat_natCast, true_and, and_true, true_or, or_true, false_or, or_false, zwr_id, zpu_some, zpu_none, reduceIte, Int.reduceLE, Int.reduceLT, Int.reduceEq, Int.reduceNeg, Int.reduceAdd, Int.reduceSub, Int.reduceMul, Int.reduceToNat, Nat.reduceAdd, Nat.reduceLeDiff, Nat.reduceEqDiff, Nat.reduceLT, eq_self, ne_eq, not_false_eq_true, not_true_eq_false, t0, q29, q8, mt335 ht, mn335 hn, b1, c35, h21, mt346 ht, mn346 hn, hry, and_self, (show zwr (2 * (mid : Int)) = ((2 * mid : Nat) : Int) from zwn (by omega) (by omega)), zz1, po]
      exact rest
  · rw [if_neg h3] at kq ⊢
    have no : ¬ (b = true ∧ dS D k ≠ 4 ∧ dNE D k ≠ -2) → zwp 246 129 [zA 332, zI (mid : Int), zI (k : Int), zI (if b = true then 1 else 0), zU] [] L m Q := fun q => by
      rw [if_neg q, tFr_1] at kq
      simp only [s246_129]
      exact kq _ h0
    simp only [s246_86]
    simp only [s246_87]
    cases b with
    | false =>
      rw [if_neg (show ¬ (false = true) from Bool.noConfusion)] at no ⊢
      rw [if_pos rfl]
      exact no (fun q => Bool.noConfusion q.1)
    | true =>
      rw [if_pos rfl] at no ⊢
      rw [if_neg (by decide)]
      simp only [s246_90, s246_91, s246_94, s246_95, s246_96, Int.toNat_natCast, true_and, and_true, true_or, or_true, false_or, or_false, zwr_id, zpu_some, zpu_none, reduceIte, Int.reduceLE, Int.reduceLT, Int.reduceEq, Int.reduceNeg, Int.reduceAdd, Int.reduceSub, Int.reduceMul, Int.reduceToNat, Nat.reduceAdd, Nat.reduceLeDiff, Nat.reduceEqDiff, Nat.reduceLT, eq_self, ne_eq, not_false_eq_true, not_true_eq_false, t0, q7, mt334 ht, mn334 hn, hr, and_self, v1]
      simp only [s246_97]
      by_cases h4 : dS D k = 4
      · rw [if_pos h4]; exact no (fun q => q.2.1 h4)
      · rw [if_neg h4]
        simp only [s246_100, s246_101, s246_104, s246_105, s246_106, Int.toNat_natCast, true_and, and_true, true_or, or_true, false_or, or_false, zwr_id, zpu_some, zpu_none, reduceIte, Int.reduceLE, Int.reduceLT, Int.reduceEq, Int.reduceNeg, Int.reduceAdd, Int.reduceSub, Int.reduceMul, Int.reduceToNat, Nat.reduceAdd, Nat.reduceLeDiff, Nat.reduceEqDiff, Nat.reduceLT, eq_self, ne_eq, not_false_eq_true, not_true_eq_false, t0, q26, mt343 ht, mn343 hn, hr', and_self, v5]
        simp only [s246_108]
        by_cases h5 : dNE D k = -2
        · rw [if_pos h5]; exact no (fun q => q.2.2 h5)
        · rw [if_neg h5]
          rw [if_pos ⟨rfl, h4, h5⟩] at kq
          have wz : zwr (60 + dNE D k) = ((sgS (47 + (dNE D k).toNat) : Nat) : Int) := sg_e (r3.resolve_left h5)
          simp only [s246_111, s246_112, s246_114, s246_115, s246_118, s246_119, s246_120, s246_121, s246_124, s246_125, s246_126, s246_129, Int.toNat_natCast, true_and, and_true, true_or, or_true, false_or, or_false, zwr_id, zpu_some, zpu_none, reduceIte, Int.reduceLE, Int.reduceLT, Int.reduceEq, Int.reduceNeg, Int.reduceAdd, Int.reduceSub, Int.reduceMul, Int.reduceToNat, Nat.reduceAdd, Nat.reduceLeDiff, Nat.reduceEqDiff, Nat.reduceLT, eq_self, ne_eq, not_false_eq_true, not_true_eq_false, t0, q26, mt343 ht, mn343 hn, hr', and_self, v5, wz]
          exact kq _ (rNx_tr h0 rNx_2)
theorem c_rgfE {L : zY} {m m0 : zM} {Q : zQ} {D : zD} {y k : Nat} (ht : zMt L) (hn : zMn L) (hD : dOk D) (hx : rMx m D) (hk : k < 26) (hy1 : 1 ≤ y) (hy2 : y < dnE D) (h0 : rNx m0 m (sgS (tFr (zPof D) k).1) 1) (kq : ∀ m', rMvP m0 m' D (47 + y) k → Q none L m') : zwp 247 0 [zA 332, zI (y : Int), zI (k : Int), zU] [] L m Q := by
  have t0 := mt332 ht
  obtain ⟨r1, r2, r3, r4⟩ := rk_rng (k := k) hD
  have rv := dEp_rng (D := D) (x := (y : Int)) (k := k) hD
  have q7 : m 332 7 = ((334 : Nat) : Int) := mp7 hx.1
  have q24 : m 332 24 = ((341 : Nat) : Int) := mp24 hx.1
  have q27 : m 332 27 = ((344 : Nat) : Int) := mp27 hx.1
  have q30 : m 332 30 = ((347 : Nat) : Int) := mp30 hx.1
  have v1 : m 334 k = dS D k := hx.2.1.1 k hk
  have v3 : m 344 k = dNM D k := hx.2.2.1.1.2.2.2 k hk
  have hr : 0 ≤ (k : Int) ∧ (k : Int) < ((52 : Nat) : Int) := by omega
  have hr' : 0 ≤ (k : Int) ∧ (k : Int) < ((26 : Nat) : Int) := by omega
  have dnb : dnE D ≤ 19 := by
    have a1 : (dEn D).length ≤ 10 := Nat.le_trans (List.length_filter_le _ _) hD.2.2.1.1
    have a2 : (dPE D).length ≤ 8 := Nat.le_trans (List.length_filter_le _ _) hD.2.2.1.2.2.2.2
    unfold dnE; omega
  have et : tMv (zPof D) (47 + y) k = if dS D k = 3 then (if dNL D (dLa D (y : Int)) ≠ -2 then (31 + (dNM D k).toNat, 1) else tFr (zPof D) k) else if dS D k ≠ 4 ∧ dEp D (y : Int) k ≠ -2 then (47 + (dEp D (y : Int) k).toNat, 0) else tFr (zPof D) k := by
    unfold tMv
    rw [if_neg (by omega), if_neg (by omega), if_neg (by omega), if_pos (by omega), show 47 + y - 47 = y by omega]
    rfl
  unfold rMvP at kq
  rw [et] at kq
  clear et
  have hla := dLa_fin hD (e := (y : Int)) (by omega) (by omega)
  have hlo : m 341 (dLa D (y : Int)) = dNL D (dLa D (y : Int)) := hx.2.2.1.1.1 _ hla.2.1
  have ek := r_endk hD hx.2.2.1.2.2.2.2 hy1 hy2
  have hry : 0 ≤ ((2 * y : Nat) : Int) ∧ ((2 * y : Nat) : Int) < ((38 : Nat) : Int) := by omega
  have hry' : 0 ≤ ((2 * y + 1 : Nat) : Int) ∧ ((2 * y + 1 : Nat) : Int) < ((38 : Nat) : Int) := by omega
  simp only [s247_0, s247_1, s247_4, s247_5, s247_6, Int.toNat_natCast, true_and, and_true, true_or, or_true, false_or, or_false, zwr_id, zpu_some, zpu_none, reduceIte, Int.reduceLE, Int.reduceLT, Int.reduceEq, Int.reduceNeg, Int.reduceAdd, Int.reduceSub, Int.reduceMul, Int.reduceToNat, Nat.reduceAdd, Nat.reduceLeDiff, Nat.reduceEqDiff, Nat.reduceLT, eq_self, ne_eq, not_false_eq_true, not_true_eq_false, t0, q7, mt334 ht, mn334 hn, hr, and_self, v1]
  simp only [s247_7]
  by_cases h3 : dS D k = 3
  · rw [if_pos h3] at kq ⊢
    have nm := dNM_v hD h3
    generalize dLa D (y : Int) = La at *
    have nz : ¬ (La : Int) = -1 := by omega
    have hrLa : 0 ≤ (La : Int) ∧ (La : Int) < ((26 : Nat) : Int) := by omega
    have tail : zwp 247 45 [zA 332, zI (y : Int), zI (k : Int), zU] [zI (La : Int)] L m Q := by
      simp only [s247_45, s247_46, s247_47, s247_50, s247_51, s247_52, Int.toNat_natCast, true_and, and_true, true_or, or_true, false_or, or_false, zwr_id, zpu_some, zpu_none, reduceIte, Int.reduceLE, Int.reduceLT, Int.reduceEq, Int.reduceNeg, Int.reduceAdd, Int.reduceSub, Int.reduceMul, Int.reduceToNat, Nat.reduceAdd, Nat.reduceLeDiff, Nat.reduceEqDiff, Nat.reduceLT, eq_self, ne_eq, not_false_eq_true, not_true_eq_false, t0, q24, mt341 ht, mn341 hn, hrLa, and_self, hlo]
      simp only [s247_54]
      by_cases hl : dNL D La = -2
      · rw [if_pos hl]
        rw [if_neg (fun q => q hl), tFr_1] at kq
        simp only [s247_70, s247_135]
        exact kq _ h0
      · rw [if_neg hl]
        rw [if_pos hl] at kq
        have wz : zwr (20 + dNM D k) = ((sgS (31 + (dNM D k).toNat) : Nat) : Int) := sg_m (r4.resolve_left nm)
        simp only [s247_57, s247_58, s247_60, s247_61, s247_64, s247_65, s247_66, s247_67, s247_70, s247_135, Int.toNat_natCast, true_and, and_true, true_or, or_true, false_or, or_false, zwr_id, zpu_some, zpu_none, reduceIte, Int.reduceLE, Int.reduceLT, Int.reduceEq, Int.reduceNeg, Int.reduceAdd, Int.reduceSub, Int.reduceMul, Int.reduceToNat, Nat.reduceAdd, Nat.reduceLeDiff, Nat.reduceEqDiff, Nat.reduceLT, eq_self, ne_eq, not_false_eq_true, not_true_eq_false, t0, q27, mt344 ht, mn344 hn, hr', and_self, v3, wz]
        exact kq _ ⟨zup_same, by rw [zup_nk (by decide)]; exact h0.2.1, fun a ha => by rw [zup_nf ha]; exact h0.2.2.1 a ha, fun j z1 z2 => by rw [zup_nk z1]; exact h0.2.2.2 j z1 z2⟩
    rcases ek with ⟨z1, z2, z3⟩ | ⟨z1, q1, z2, z3, z4⟩
    · simp only [s247_10, s247_11, s247_14, s247_15, s247_16, s247_17, s247_18, s247_19, s247_20, s247_21, s247_37, s247_38, s247_41, s247_42, s247_43, s247_44, Int.toNat_natCast, true_and, and_true, true_or, or_true, false_or, or_false, zwr_id, zpu_some, zpu_none, reduceIte, Int.reduceLE, Int.reduceLT, Int.reduceEq, Int.reduceNeg, Int.reduceAdd, Int.reduceSub, Int.reduceMul, Int.reduceToNat, Nat.reduceAdd, Nat.reduceLeDiff, Nat.reduceEqDiff, Nat.reduceLT, eq_self, ne_eq, not_false_eq_true, not_true_eq_false, t0, q30, mt347 ht, mn347 hn, hry, hry', and_self, (show zwr (2 * (y : Int)) = ((2 * y : Nat) : Int) from zwn (by omega) (by omega)), (show zwr (((2 * y : Nat) : Int) + 1) = ((2 * y + 1 : Nat) : Int) from zwn (by omega) (by omega)), z1, z2]
      exact tail
    · simp only [s247_10, s247_11, s247_14, s247_15, s247_16, s247_17, s247_18, s247_19, s247_20, s247_21, s247_24, s247_25, s247_28, s247_29, s247_30, s247_31, s247_32, s247_33, s247_34, Int.toNat_natCast, true_and, and_true, true_or, or_true, false_or, or_false, zwr_id, zpu_some, zpu_none, reduceIte, Int.reduceLE, Int.reduceLT, Int.reduceEq, Int.reduceNeg, Int.reduceAdd, Int.reduceSub, Int.reduceMul, Int.reduceToNat, Nat.reduceAdd, Nat.reduceLeDiff, Nat.reduceEqDiff, Nat.reduceLT, eq_self, ne_eq, not_false_eq_true, not_true_eq_false, t0, q30, mt347 ht, mn347 hn, hry', and_self, (show zwr (2 * (y : Int)) = ((2 * y : Nat) : Int) from zwn (by omega) (by omega)), (show zwr (((2 * y : Nat) : Int) + 1) = ((2 * y + 1 : Nat) : Int) from zwn (by omega) (by omega)), z1, nz]
      exact tail
  · rw [if_neg h3] at kq ⊢
    have no : ¬ (dS D k ≠ 4 ∧ dEp D (y : Int) k ≠ -2) → ∀ l3, zwp 247 135 [zA 332, zI (y : Int), zI (k : Int), l3] [] L m Q := fun q l3 => by
      rw [if_neg q, tFr_1] at kq
      simp only [s247_135]
      exact kq _ h0
    simp only [s247_73, s247_74, s247_77, s247_78, s247_79, Int.toNat_natCast, true_and, and_true, true_or, or_true, false_or, or_false, zwr_id, zpu_some, zpu_none, reduceIte, Int.reduceLE, Int.reduceLT, Int.reduceEq, Int.reduceNeg, Int.reduceAdd, Int.reduceSub, Int.reduceMul, Int.reduceToNat, Nat.reduceAdd, Nat.reduceLeDiff, Nat.reduceEqDiff, Nat.reduceLT, eq_self, ne_eq, not_false_eq_true, not_true_eq_false, t0, q7, mt334 ht, mn334 hn, hr, and_self, v1]
    simp only [s247_80]
    by_cases h4 : dS D k = 4
    · rw [if_pos h4]; exact no (fun q => q.1 h4) _
    · rw [if_neg h4]
      have h23 := hx.2.2.2
      have h22 : m 332 22 = ((1 + (rE D).length : Nat) : Int) := hx.2.2.1.2.1.2.2
      simp only [s247_83, s247_84, s247_85, true_and, t0, h23]
      simp only [s247_88]
      by_cases h2 : 1 + (dEn D).length ≤ y
      · rw [if_pos (by omega)]
        have ez : dEp D (y : Int) k = -2 := by unfold dEp zwith; rw [if_pos (by omega)]
        exact no (fun q => q.2 ez) _
      · rw [if_neg (by omega)]
        obtain ⟨y1, y2⟩ := rE_get (D := D) (x := y) (by omega) (by omega)
        have zz := zA2_get hx.2.2.1.2.2.2.2 y1
        rw [getD_lt y1] at y2
        rw [y2, show 1 + (y - 1) = y by omega] at zz
        have zz1 : m 347 (2 * y) = (((dEn D)[y - 1]'(by omega) : Nat) : Int) := zz.1
        have lE : (dEn D).length ≤ (rE D).length := by unfold rE; rw [List.length_append, List.length_map]; omega
        have lb : 1 + (rE D).length ≤ 19 := by rw [rE_len]; exact dnb
        have po := fun Q' : zQ => r_pof (Q := Q') (o := 1) (i := (dEn D).length) (x := (((dEn D)[y - 1]'(by omega) : Nat) : Int)) (y := (k : Int)) (mt347 ht) (by rw [mn347 hn]; omega) (by omega) hx.2.2.1.2.2.2.2 lE
        have pe := dEp_r (D := D) (x := y) (k := k) (by omega) (by omega)
        rw [pe] at po
        simp only [s247_91, s247_92, s247_95, s247_96, s247_99, s247_100, s247_103, s247_104, s247_107, s247_108, s247_109, s247_110, s247_111, s247_112, s247_115, s247_116, s247_117, Int.toNat_natCast, true_and, and_true, true_or, or_true, false_or, or_false, zwr_id, zpu_some, zpu_none, reduceIte, Int.reduceLE, Int.reduceLT, Int.reduceEq, Int.reduceNeg, Int.reduceAdd, Int.reduceSub, Int.reduceMul, Int.reduceToNat, Nat.reduceAdd, Nat.reduceLeDiff, Nat.reduceEqDiff, Nat.reduceLT, eq_self, ne_eq, not_false_eq_true, not_true_eq_false, t0, q30, h23, h22, mt347 ht, mn347 hn, hry, and_self, (show zwr (2 * (y : Int)) = ((2 * y : Nat) : Int) from zwn (by omega) (by omega)), zz1, po]
        simp only [s247_119]
        by_cases h5 : dEp D (y : Int) k = -2
        · rw [if_pos h5]; exact no (fun q => q.2 h5) _
        · rw [if_neg h5]
          rw [if_pos ⟨h4, h5⟩] at kq
          have wz : zwr (60 + dEp D (y : Int) k) = ((sgS (47 + (dEp D (y : Int) k).toNat) : Nat) : Int) := sg_e (rv.resolve_left h5)
          simp only [s247_122, s247_123, s247_125, s247_126, s247_127, s247_130, s247_131, s247_132, s247_135, true_and, t0, wz]
          exact kq _ (rNx_tr h0 rNx_2)
theorem c_rgf {L : zY} {m : zM} {Q : zQ} {D : zD} {st k : Nat} (ht : zMt L) (hn : zMn L) (hD : dOk D) (hlk : dLacks D = false) (hx : rMx m D) (hk : k < 26) (hst : tEx D st = true) (kq : ∀ m', rMvP m m' D st k → Q none L m') : zwp 248 0 [zA 332, zI (sgS st : Nat), zI (k : Int)] [] L m Q := by
  have t0 := mt332 ht
  obtain ⟨l1, l2, l3⟩ := dOk_n hD hlk
  have hx0 := hst
  unfold tEx at hst
  simp only [Bool.or_eq_true, decide_eq_true_iff] at hst
  simp only [s248_0, s248_1, s248_2, true_and, t0]
  refine c_rfreshS ht hn hD hx hk (fun m1 n1 => ?_)
  have x1 := rMx_Nx n1 hx
  have n1 : rNx m m1 (sgS (tFr (zPof D) k).1) 1 := n1
  simp only [s248_5, s248_6, s248_7, s248_9, zpu_none, zpu_some, r_in]
  rcases hst with e | e | e | e | e
  · subst e
    have e1 : ((sgS 0 : Nat) : Int) = 0 := rfl
    have et : tMv (zPof D) 0 k = tFr (zPof D) k := rfl
    unfold rMvP at kq
    rw [et, tFr_1] at kq
    rw [e1]
    simp only [s248_12, s248_26, s248_27, s248_29, s248_31, s248_34, s248_50, s248_51, s248_53, s248_55, s248_58, s248_74, s248_75, s248_77, s248_89, Int.toNat_natCast, true_and, and_true, true_or, or_true, false_or, or_false, zwr_id, zpu_some, zpu_none, reduceIte, Int.reduceLE, Int.reduceLT, Int.reduceEq, Int.reduceNeg, Int.reduceAdd, Int.reduceSub, Int.reduceMul, Int.reduceToNat, Nat.reduceAdd, Nat.reduceLeDiff, Nat.reduceEqDiff, Nat.reduceLT, eq_self, ne_eq, not_false_eq_true, not_true_eq_false, Int.reduceLE, Int.reduceLT, r_in, false_and, and_false]
    exact kq m1 n1
  · have e1 : ((sgS st : Nat) : Int) = (st : Int) := by unfold sgS; rw [if_pos (by omega)]
    rw [e1]
    have c1 : 1 ≤ (st : Int) ∧ (st : Int) ≤ 19 := by omega
    simp only [s248_12, s248_15, s248_16, s248_17, s248_18, s248_19, s248_20, Int.toNat_natCast, true_and, and_true, true_or, or_true, false_or, or_false, zwr_id, zpu_some, zpu_none, reduceIte, Int.reduceLE, Int.reduceLT, Int.reduceEq, Int.reduceNeg, Int.reduceAdd, Int.reduceSub, Int.reduceMul, Int.reduceToNat, Nat.reduceAdd, Nat.reduceLeDiff, Nat.reduceEqDiff, Nat.reduceLT, eq_self, ne_eq, not_false_eq_true, not_true_eq_false, c1, and_self, t0, (show zwr ((st : Int) - 1) = ((st - 1 : Nat) : Int) from zwn (by omega) (by omega))]
    refine c_rgfL ht hn hD x1 hk (by omega) n1 (fun m2 n2 => ?_)
    simp only [s248_23, s248_89, zpu_none]
    exact kq m2 n2
  · have e1 : ((sgS st : Nat) : Int) = (((st - 15) + 40 : Nat) : Int) := by unfold sgS; rw [if_neg (by omega), if_pos (by omega)]; omega
    rw [e1]
    obtain ⟨mid, rfl⟩ : ∃ mid, st = 15 + mid := ⟨st - 15, by omega⟩
    rw [show 15 + mid - 15 = mid by omega]
    have c1 : ¬ (1 ≤ ((mid + 40 : Nat) : Int) ∧ ((mid + 40 : Nat) : Int) ≤ 19) := by omega
    have c2 : ¬ (20 ≤ ((mid + 40 : Nat) : Int) ∧ ((mid + 40 : Nat) : Int) ≤ 39) := by omega
    have c3 : 40 ≤ ((mid + 40 : Nat) : Int) ∧ ((mid + 40 : Nat) : Int) ≤ 59 := by omega
    simp only [s248_12, s248_26, s248_27, s248_29, s248_31, s248_34, s248_50, s248_51, s248_53, s248_55, s248_58, s248_61, s248_62, s248_63, s248_65, s248_66, s248_67, s248_68, Int.toNat_natCast, true_and, and_true, true_or, or_true, false_or, or_false, zwr_id, zpu_some, zpu_none, reduceIte, Int.reduceLE, Int.reduceLT, Int.reduceEq, Int.reduceNeg, Int.reduceAdd, Int.reduceSub, Int.reduceMul, Int.reduceToNat, Nat.reduceAdd, Nat.reduceLeDiff, Nat.reduceEqDiff, Nat.reduceLT, eq_self, ne_eq, not_false_eq_true, not_true_eq_false, c1, c2, c3, and_self, r_in, t0, (show zwr (((mid + 40 : Nat) : Int) - 40) = ((mid : Nat) : Int) from zwn (by omega) (by omega))]
    have := c_rgfM (Q := fun r L1 m1 => zwp 248 71 [zA 332, zI ((mid + 40 : Nat) : Int), zI (k : Int)] (zpu r []) L1 m1 Q) (mid := mid) (b := false) ht hn hD x1 hk (by omega) n1 (fun m2 n2 => by
      simp only [s248_71, s248_89, zpu_none]
      exact kq m2 n2)
    exact this
  · have e1 : ((sgS st : Nat) : Int) = (((st - 31) + 20 : Nat) : Int) := by unfold sgS; rw [if_neg (by omega), if_neg (by omega), if_pos (by omega)]; omega
    rw [e1]
    obtain ⟨mid, rfl⟩ : ∃ mid, st = 31 + mid := ⟨st - 31, by omega⟩
    rw [show 31 + mid - 31 = mid by omega]
    have c1 : ¬ (1 ≤ ((mid + 20 : Nat) : Int) ∧ ((mid + 20 : Nat) : Int) ≤ 19) := by omega
    have c2 : 20 ≤ ((mid + 20 : Nat) : Int) ∧ ((mid + 20 : Nat) : Int) ≤ 39 := by omega
    simp only [s248_12, s248_26, s248_27, s248_29, s248_31, s248_34, s248_37, s248_38, s248_39, s248_41, s248_42, s248_43, s248_44, Int.toNat_natCast, true_and, and_true, true_or, or_true, false_or, or_false, zwr_id, zpu_some, zpu_none, reduceIte, Int.reduceLE, Int.reduceLT, Int.reduceEq, Int.reduceNeg, Int.reduceAdd, Int.reduceSub, Int.reduceMul, Int.reduceToNat, Nat.reduceAdd, Nat.reduceLeDiff, Nat.reduceEqDiff, Nat.reduceLT, eq_self, ne_eq, not_false_eq_true, not_true_eq_false, c1, c2, and_self, r_in, t0, (show zwr (((mid + 20 : Nat) : Int) - 20) = ((mid : Nat) : Int) from zwn (by omega) (by omega))]
    have := c_rgfM (Q := fun r L1 m1 => zwp 248 47 [zA 332, zI ((mid + 20 : Nat) : Int), zI (k : Int)] (zpu r []) L1 m1 Q) (mid := mid) (b := true) ht hn hD x1 hk (by omega) n1 (fun m2 n2 => by
      simp only [s248_47, s248_89, zpu_none]
      exact kq m2 n2)
    exact this
  · have e1 : ((sgS st : Nat) : Int) = (((st - 47) + 60 : Nat) : Int) := by unfold sgS; rw [if_neg (by omega), if_neg (by omega), if_neg (by omega)]; omega
    rw [e1]
    obtain ⟨y, rfl⟩ : ∃ y, st = 47 + y := ⟨st - 47, by omega⟩
    rw [show 47 + y - 47 = y by omega]
    have c1 : ¬ (1 ≤ ((y + 60 : Nat) : Int) ∧ ((y + 60 : Nat) : Int) ≤ 19) := by omega
    have c2 : ¬ (20 ≤ ((y + 60 : Nat) : Int) ∧ ((y + 60 : Nat) : Int) ≤ 39) := by omega
    have c3 : ¬ (40 ≤ ((y + 60 : Nat) : Int) ∧ ((y + 60 : Nat) : Int) ≤ 59) := by omega
    have c4 : ¬ ((y + 60 : Nat) : Int) < 60 := by omega
    simp only [s248_12, s248_26, s248_27, s248_29, s248_31, s248_34, s248_50, s248_51, s248_53, s248_55, s248_58, s248_74, s248_75, s248_77, s248_80, s248_81, s248_82, s248_84, s248_85, s248_86, Int.toNat_natCast, true_and, and_true, true_or, or_true, false_or, or_false, zwr_id, zpu_some, zpu_none, reduceIte, Int.reduceLE, Int.reduceLT, Int.reduceEq, Int.reduceNeg, Int.reduceAdd, Int.reduceSub, Int.reduceMul, Int.reduceToNat, Nat.reduceAdd, Nat.reduceLeDiff, Nat.reduceEqDiff, Nat.reduceLT, eq_self, ne_eq, not_false_eq_true, not_true_eq_false, c1, c2, c3, c4, r_in, t0, (show zwr (((y + 60 : Nat) : Int) - 60) = ((y : Nat) : Int) from zwn (by omega) (by omega))]
    refine c_rgfE ht hn hD x1 hk (by omega) (by omega) n1 (fun m2 n2 => ?_)
    simp only [s248_89, zpu_none]
    exact kq m2 n2
