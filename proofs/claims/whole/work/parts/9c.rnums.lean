def rM (D : zD) : List (Int × Int) := (dV D).map rk1 ++ (dPV D).map rk2
def rE (D : zD) : List (Int × Int) := (dEn D).map rk1 ++ (dPE D).map rk2
theorem rM_len {D : zD} : (rM D).length = dnM D := by unfold rM dnM; rw [List.length_append, List.length_map, List.length_map]
theorem rE_len {D : zD} : 1 + (rE D).length = dnE D := by unfold rE dnE; rw [List.length_append, List.length_map, List.length_map]; omega
/-- the reference's numbers are THE SCRIPT's -/
def rNm (m : zM) (D : zD) : Prop := rNA m (dNL D) (dTw D) (dNE D) (dNM D) (dLe D ++ dT D) (rM D) (rE D) ∧ m 332 23 = ((1 + (dEn D).length : Nat) : Int)
theorem c_rnE {L : zY} {m : zM} {Q : zQ} {D : zD} {l2 : zV} {lo tw eo mo : Nat → Int} {lk : List Nat} (hD : dOk D) (ht : zMt L) (hn : zMn L) (hc : rNc m D) (h : rNA m lo tw eo mo lk ((dV D).map rk1) ((dEn D).map rk1)) (k : ∀ m', rNc m' D → rNA m' lo tw eo mo lk (rM D) (rE D) → rNf m m' → m' 332 23 = m 332 23 → Q none L m') : zwp 185 323 [zA 332, zI ((0 : Nat) : Int), l2] [] L m Q := by
  have t0 := mt332 ht
  have len := hD.2.2.1.2.2.2.2
  have lenV := hD.2.2.1.2.1
  have lenE : (dEn D).length ≤ 10 := Nat.le_trans (List.length_filter_le _ _) hD.2.2.1.1
  refine zfor (n := (dP D).length) (fun i => [zA 332, zI (i : Nat), l2]) (fun i m' => rNc m' D ∧ rNA m' lo tw eo mo lk ((dV D).map rk1 ++ (((dP D).take i).filter (fun q => cVo D q.1)).map rk2) ((dEn D).map rk1 ++ (((dP D).take i).filter (fun q => !cVo D q.1)).map rk2) ∧ rNf m m' ∧ m' 332 23 = m 332 23) ?_ ?_ 0 m (Nat.zero_le _) ⟨hc, by rw [List.take_zero]; simp only [List.filter_nil, List.map_nil, List.append_nil]; exact h, rNf_rf, rfl⟩
  · rintro i m1 hi ⟨hc1, h1, f1, e1⟩ ih
    have n1 : ¬ ((dP D).length : Int) ≤ (i : Int) := by omega
    have iv : i < 1000000 := by omega
    obtain ⟨hk1, hk2, -⟩ := hD.1.2.2.2.2 _ (List.getElem_mem hi)
    obtain ⟨y1, y2⟩ := hc1.2.2.2.2 i _ (List.getElem?_eq_getElem hi)
    have c5 : m1 335 4 = ((dP D).length : Int) := hc1.2.2.1.2.2.2.2
    have hs : m1 334 (dP D)[i].1 = dS D (dP D)[i].1 := hc1.2.1 _ hk1
    have lb1 := fil_le (p := fun q => cVo D q.1) (xs := dP D) (i := i)
    have lb2 := fil_le (p := fun q => !cVo D q.1) (xs := dP D) (i := i)
    rw [fil_s hi, fil_s hi] at ih
    generalize ((dP D).take i).filter (fun q => cVo D q.1) = A at *
    generalize ((dP D).take i).filter (fun q => !cVo D q.1) = B at *
    have ev : (rk2 (dP D)[i]) = (((dP D)[i].1 : Int), ((dP D)[i].2 : Int)) := rfl
    have l21 := h1.2.1.2.1
    have l22 := h1.2.1.2.2
    have eA : ((dV D).map rk1 ++ A.map rk2).length = (dV D).length + A.length := by rw [List.length_append, List.length_map, List.length_map]
    have eB : ((dEn D).map rk1 ++ B.map rk2).length = (dEn D).length + B.length := by rw [List.length_append, List.length_map, List.length_map]
    have gm := rNA_pm (x := ((dP D)[i].1 : Int)) (y := ((dP D)[i].2 : Int)) h1
    have ge := rNA_pe (x := ((dP D)[i].1 : Int)) (y := ((dP D)[i].2 : Int)) h1
    rw [eA] at l21 gm
    rw [eB] at l22 ge
    clear eA eB
    generalize hNA : (dV D).length + A.length = NA at *
    generalize hNB : 1 + ((dEn D).length + B.length) = NB at *
    have q8 : m1 332 8 = ((335 : Nat) : Int) := mp8 hc1.1
    have q7 : m1 332 7 = ((334 : Nat) : Int) := mp7 hc1.1
    have q13 : m1 332 13 = ((340 : Nat) : Int) := mp13 hc1.1
    have q29 : m1 332 29 = ((346 : Nat) : Int) := mp29 hc1.1
    have q30 : m1 332 30 = ((347 : Nat) : Int) := mp30 hc1.1
    have b0 : (4 : Int) < ((10 : Nat) : Int) := by decide
    have hr1 : 0 ≤ ((2 * i : Nat) : Int) ∧ ((2 * i : Nat) : Int) < ((32 : Nat) : Int) := by omega
    have hr2 : 0 ≤ ((2 * i + 1 : Nat) : Int) ∧ ((2 * i + 1 : Nat) : Int) < ((32 : Nat) : Int) := by omega
    have vo := cVo_in (D := D) (k := (dP D)[i].1)
    simp only [s185_323]
    simp only [s185_324, s185_325, s185_328, s185_329, s185_330, s185_333, s185_334, s185_335, s185_338, s185_339, s185_340, s185_341, s185_342, s185_343, s185_346, s185_347, s185_348, s185_349, s185_350, s185_351, s185_352, Int.toNat_natCast, true_and, and_true, true_or, or_true, false_or, or_false, zwr_id, zpu_some, zpu_none, reduceIte, Int.reduceLE, Int.reduceLT, Int.reduceEq, Int.reduceNeg, Int.reduceAdd, Int.reduceSub, Int.reduceMul, Int.reduceToNat, Nat.reduceAdd, Nat.reduceLeDiff, Nat.reduceEqDiff, Nat.reduceLT, eq_self, ne_eq, not_false_eq_true, not_true_eq_false, t0, q8, mt335 ht, mn335 hn, b0, c5, n1, q13, mt340 ht, mn340 hn, hr1, hr2, and_self, (show zwr (2 * (i : Int)) = ((2 * i : Nat) : Int) from zwn (by omega) (by omega)), (show zwr (((2 * i : Nat) : Int) + 1) = ((2 * i + 1 : Nat) : Int) from zwn (by omega) (by omega)), y1, y2]
    generalize (dP D)[i] = x at *
    have hrx : 0 ≤ (x.1 : Int) ∧ (x.1 : Int) < ((52 : Nat) : Int) := by omega
    simp only [s186_0, s186_1, s186_4, s186_5, s186_6, Int.toNat_natCast, true_and, and_true, true_or, or_true, false_or, or_false, zwr_id, zpu_some, zpu_none, reduceIte, Int.reduceLE, Int.reduceLT, Int.reduceEq, Int.reduceNeg, Int.reduceAdd, Int.reduceSub, Int.reduceMul, Int.reduceToNat, Nat.reduceAdd, Nat.reduceLeDiff, Nat.reduceEqDiff, Nat.reduceLT, eq_self, ne_eq, not_false_eq_true, not_true_eq_false, t0, q7, mt334 ht, mn334 hn, hrx, and_self, hs]
    simp only [s186_7]
    by_cases hv : cVo D x.1 = true
    · rw [if_pos (vo.mpr hv)]
      rw [if_pos hv, if_neg (by rw [hv]; decide), List.append_nil, List.map_append, ← List.append_assoc] at ih
      have hr3 : 0 ≤ ((2 * NA : Nat) : Int) ∧ ((2 * NA : Nat) : Int) < ((32 : Nat) : Int) := by omega
      have hr4 : 0 ≤ ((2 * NA + 1 : Nat) : Int) ∧ ((2 * NA + 1 : Nat) : Int) < ((32 : Nat) : Int) := by omega
      simp only [s186_10, s186_11, s186_14, s186_15, s186_16, s186_19, s186_20, s186_21, s186_22, s186_23, s186_26, s186_27, s186_28, s186_31, s186_32, s186_33, s186_34, s186_35, s186_36, s186_37, s186_38, s186_41, s186_42, s186_43, s186_46, s186_85, s185_355, s185_358, Int.toNat_natCast, true_and, and_true, true_or, or_true, false_or, or_false, zwr_id, zpu_some, zpu_none, reduceIte, Int.reduceLE, Int.reduceLT, Int.reduceEq, Int.reduceNeg, Int.reduceAdd, Int.reduceSub, Int.reduceMul, Int.reduceToNat, Nat.reduceAdd, Nat.reduceLeDiff, Nat.reduceEqDiff, Nat.reduceLT, eq_self, ne_eq, not_false_eq_true, not_true_eq_false, t0, q29, mt346 ht, mn346 hn, hr3, hr4, and_self, l21, (show zwr (2 * (NA : Int)) = ((2 * NA : Nat) : Int) from zwn (by omega) (by omega)), (show zwr (((2 * NA : Nat) : Int) + 1) = ((2 * NA + 1 : Nat) : Int) from zwn (by omega) (by omega)), (show zwr ((NA : Int) + 1) = ((NA + 1 : Nat) : Int) from zwn (by omega) (by omega)), zup_na (show (332 : Nat) ≠ 346 by decide), z1 iv]
      have f2 : rNf m1 (zup (zup (zup m1 346 (2 * NA) (x.1 : Int)) 346 (2 * NA + 1) (x.2 : Int)) 332 21 ((NA + 1 : Nat) : Int)) := rNf_tr (rNf_tr (rNf_up (by omega)) (rNf_up (by omega))) (rNf_up (by omega))
      exact ih _ ⟨rNc_f f2 hc1, gm, rNf_tr f1 f2, by rw [zup_nk (by decide), zup_na (by decide), zup_na (by decide)]; exact e1⟩
    · rw [if_neg (fun q => hv (vo.mp q))]
      rw [if_neg hv, if_pos (by rw [Bool.eq_false_iff.mpr hv]; decide), List.append_nil, List.map_append, ← List.append_assoc] at ih
      have hr3 : 0 ≤ ((2 * NB : Nat) : Int) ∧ ((2 * NB : Nat) : Int) < ((38 : Nat) : Int) := by omega
      have hr4 : 0 ≤ ((2 * NB + 1 : Nat) : Int) ∧ ((2 * NB + 1 : Nat) : Int) < ((38 : Nat) : Int) := by omega
      simp only [s186_49, s186_50, s186_53, s186_54, s186_55, s186_58, s186_59, s186_60, s186_61, s186_62, s186_65, s186_66, s186_67, s186_70, s186_71, s186_72, s186_73, s186_74, s186_75, s186_76, s186_77, s186_80, s186_81, s186_82, s186_85, s185_355, s185_358, Int.toNat_natCast, true_and, and_true, true_or, or_true, false_or, or_false, zwr_id, zpu_some, zpu_none, reduceIte, Int.reduceLE, Int.reduceLT, Int.reduceEq, Int.reduceNeg, Int.reduceAdd, Int.reduceSub, Int.reduceMul, Int.reduceToNat, Nat.reduceAdd, Nat.reduceLeDiff, Nat.reduceEqDiff, Nat.reduceLT, eq_self, ne_eq, not_false_eq_true, not_true_eq_false, t0, q30, mt347 ht, mn347 hn, hr3, hr4, and_self, l22, (show zwr (2 * (NB : Int)) = ((2 * NB : Nat) : Int) from zwn (by omega) (by omega)), (show zwr (((2 * NB : Nat) : Int) + 1) = ((2 * NB + 1 : Nat) : Int) from zwn (by omega) (by omega)), (show zwr ((NB : Int) + 1) = ((NB + 1 : Nat) : Int) from zwn (by omega) (by omega)), zup_na (show (332 : Nat) ≠ 347 by decide), z1 iv]
      have f2 : rNf m1 (zup (zup (zup m1 347 (2 * NB) (x.1 : Int)) 347 (2 * NB + 1) (x.2 : Int)) 332 22 ((NB + 1 : Nat) : Int)) := rNf_tr (rNf_tr (rNf_up (by omega)) (rNf_up (by omega))) (rNf_up (by omega))
      exact ih _ ⟨rNc_f f2 hc1, ge, rNf_tr f1 f2, by rw [zup_nk (by decide), zup_na (by decide), zup_na (by decide)]; exact e1⟩
  · rintro m1 ⟨hc1, h1, f1, e1⟩
    rw [List.take_length] at h1
    have q8 : m1 332 8 = ((335 : Nat) : Int) := mp8 hc1.1
    have c5 : m1 335 4 = ((dP D).length : Int) := hc1.2.2.1.2.2.2.2
    have b0 : (4 : Int) < ((10 : Nat) : Int) := by decide
    have n1 : ((dP D).length : Int) ≤ ((dP D).length : Int) := by omega
    simp only [s185_323]
    simp only [s185_324, s185_325, s185_328, s185_329, s185_330, s185_361, Int.toNat_natCast, true_and, and_true, true_or, or_true, false_or, or_false, zwr_id, zpu_some, zpu_none, reduceIte, Int.reduceLE, Int.reduceLT, Int.reduceEq, Int.reduceNeg, Int.reduceAdd, Int.reduceSub, Int.reduceMul, Int.reduceToNat, Nat.reduceAdd, Nat.reduceLeDiff, Nat.reduceEqDiff, Nat.reduceLT, eq_self, ne_eq, not_false_eq_true, not_true_eq_false, t0, q8, mt335 ht, mn335 hn, b0, c5, n1]
    exact k m1 hc1 h1 f1 e1
theorem c_rnums {L : zY} {m : zM} {Q : zQ} {D : zD} (hD : dOk D) (ht : zMt L) (hn : zMn L) (hc : rNc m D) (k : ∀ m', rNc m' D → rNm m' D → rNf m m' → Q none L m') : zwp 185 0 [zA 332, zU, zU] [] L m Q := by
  have t0 := mt332 ht
  simp only [s185_0, s185_1, s185_2, s185_5, s185_6, s185_7, s185_10, s185_11, s185_12, s185_15, s185_16, Int.toNat_natCast, true_and, and_true, true_or, or_true, false_or, or_false, zwr_id, zpu_some, zpu_none, reduceIte, Int.reduceLE, Int.reduceLT, Int.reduceEq, Int.reduceNeg, Int.reduceAdd, Int.reduceSub, Int.reduceMul, Int.reduceToNat, Nat.reduceAdd, Nat.reduceLeDiff, Nat.reduceEqDiff, Nat.reduceLT, eq_self, ne_eq, not_false_eq_true, not_true_eq_false, t0]
  have f0 : rNf m (zup (zup (zup m 332 20 0) 332 21 0) 332 22 1) := rNf_tr (rNf_tr (rNf_up (by omega)) (rNf_up (by omega))) (rNf_up (by omega))
  have a20 : zup (zup (zup m 332 20 0) 332 21 0) 332 22 1 332 20 = 0 := by rw [zup_nk (by decide), zup_nk (by decide), zup_same]
  have a21 : zup (zup (zup m 332 20 0) 332 21 0) 332 22 1 332 21 = 0 := by rw [zup_nk (by decide), zup_same]
  have a22 : zup (zup (zup m 332 20 0) 332 21 0) 332 22 1 332 22 = 1 := zup_same
  have c0 := rNc_f f0 hc
  generalize zup (zup (zup m 332 20 0) 332 21 0) 332 22 1 = m0 at *
  refine zfor (n := 26) (fun i => [zA 332, zI (i : Nat), zU]) (fun i m' => (∀ j, j < i → m' 341 j = -2 ∧ m' 342 j = -2 ∧ m' 343 j = -2 ∧ m' 344 j = -2) ∧ rNf m0 m' ∧ m' 332 = m0 332) ?_ ?_ 0 m0 (Nat.zero_le _) ⟨fun j hj => by omega, rNf_rf, rfl⟩
  · rintro i m1 hi ⟨g1, f1, e1⟩ ih
    have n1 : ¬ (26 : Int) ≤ (i : Int) := by omega
    have iv : i < 1000000 := by omega
    have c1 := rNc_f f1 c0
    have q24 : m1 332 24 = ((341 : Nat) : Int) := mp24 c1.1
    have q25 : m1 332 25 = ((342 : Nat) : Int) := mp25 c1.1
    have q26 : m1 332 26 = ((343 : Nat) : Int) := mp26 c1.1
    have q27 : m1 332 27 = ((344 : Nat) : Int) := mp27 c1.1
    have hr : 0 ≤ (i : Int) ∧ (i : Int) < ((26 : Nat) : Int) := by omega
    simp only [s185_17]
    simp only [s185_18, s185_20, s185_23, s185_24, s185_27, s185_28, s185_30, s185_31, s185_32, s185_35, s185_36, s185_38, s185_39, s185_40, s185_43, s185_44, s185_46, s185_47, s185_48, s185_51, s185_52, s185_54, s185_55, s185_58, Int.toNat_natCast, true_and, and_true, true_or, or_true, false_or, or_false, zwr_id, zpu_some, zpu_none, reduceIte, Int.reduceLE, Int.reduceLT, Int.reduceEq, Int.reduceNeg, Int.reduceAdd, Int.reduceSub, Int.reduceMul, Int.reduceToNat, Nat.reduceAdd, Nat.reduceLeDiff, Nat.reduceEqDiff, Nat.reduceLT, eq_self, ne_eq, not_false_eq_true, not_true_eq_false, t0, n1, q24, q25, q26, q27, mt341 ht, mn341 hn, mt342 ht, mn342 hn, mt343 ht, mn343 hn, mt344 ht, mn344 hn, hr, and_self, zup_na (show (332 : Nat) ≠ 341 by decide), zup_na (show (332 : Nat) ≠ 342 by decide), zup_na (show (332 : Nat) ≠ 343 by decide), z1 iv]
    have f2 : rNf m1 (zup (zup (zup (zup m1 341 i (-2)) 342 i (-2)) 343 i (-2)) 344 i (-2)) := rNf_tr (rNf_tr (rNf_tr (rNf_up (by omega)) (rNf_up (by omega))) (rNf_up (by omega))) (rNf_up (by omega))
    refine ih _ ⟨fun j hj => ?_, rNf_tr f1 f2, by rw [zup_nf (by decide), zup_nf (by decide), zup_nf (by decide), zup_nf (by decide)]; exact e1⟩
    by_cases q : j = i
    · subst q
      exact ⟨by rw [zup_na (by decide), zup_na (by decide), zup_na (by decide), zup_same], by rw [zup_na (by decide), zup_na (by decide), zup_same], by rw [zup_na (by decide), zup_same], zup_same⟩
    · obtain ⟨x1, x2, x3, x4⟩ := g1 j (by omega)
      exact ⟨by rw [zup_na (by decide), zup_na (by decide), zup_na (by decide), zup_nk q]; exact x1, by rw [zup_na (by decide), zup_na (by decide), zup_nk q, zup_na (by decide)]; exact x2, by rw [zup_na (by decide), zup_nk q, zup_na (by decide), zup_na (by decide)]; exact x3, by rw [zup_nk q, zup_na (by decide), zup_na (by decide), zup_na (by decide)]; exact x4⟩
  · rintro m1 ⟨g1, f1, e1⟩
    have c1 := rNc_f f1 c0
    simp only [s185_17]
    simp only [s185_18, s185_20, s185_61, s185_62, Int.toNat_natCast, true_and, and_true, true_or, or_true, false_or, or_false, zwr_id, zpu_some, zpu_none, reduceIte, Int.reduceLE, Int.reduceLT, Int.reduceEq, Int.reduceNeg, Int.reduceAdd, Int.reduceSub, Int.reduceMul, Int.reduceToNat, Nat.reduceAdd, Nat.reduceLeDiff, Nat.reduceEqDiff, Nat.reduceLT, eq_self, ne_eq, not_false_eq_true, not_true_eq_false, Int.cast_ofNat_Int]
    refine c_rnB hD ht hn c1 ⟨⟨fun k hk => (g1 k hk).1, fun k hk => (g1 k hk).2.1, fun k hk => (g1 k hk).2.2.1, fun k hk => (g1 k hk).2.2.2⟩, ⟨by rw [e1]; exact a20, by rw [e1]; exact a21, by rw [e1]; exact a22⟩, zAL_nil, zA2_nil, zA2_nil⟩ (fun m2 l1 l2 c2 h2 f2 => ?_)
    simp only [s185_181, s185_182]
    refine c_rnC hD ht hn c2 h2 (fun m3 l1 c3 h3 f3 => ?_)
    simp only [s185_239, s185_240]
    refine c_rnD hD ht hn c3 h3 (fun m4 l1 c4 h4 f4 => ?_)
    have e22 := h4.2.1.2.2
    rw [List.length_map] at e22
    simp only [s185_313, s185_314, s185_315, s185_318, s185_321, s185_322, t0, true_and, e22]
    have f5 : rNf m4 (zup m4 332 23 ((1 + (dEn D).length : Nat) : Int)) := rNf_up (by omega)
    have h5 : rNA (zup m4 332 23 ((1 + (dEn D).length : Nat) : Int)) (dNL D) (dTw D) (dNE D) (dNM D) (dLe D ++ dT D) ((dV D).map rk1) ((dEn D).map rk1) := by
      obtain ⟨⟨a1, a2, a3, a4⟩, ⟨b1, b2, b3⟩, d1, d2, d3⟩ := h4
      exact ⟨⟨fun k hk => by rw [zup_na (by decide)]; exact a1 k hk, fun k hk => by rw [zup_na (by decide)]; exact a2 k hk, fun k hk => by rw [zup_na (by decide)]; exact a3 k hk, fun k hk => by rw [zup_na (by decide)]; exact a4 k hk⟩, ⟨by rw [zup_nk (by decide)]; exact b1, by rw [zup_nk (by decide)]; exact b2, by rw [zup_nk (by decide)]; exact b3⟩, zAL_eq (zup_nf (by decide)) d1, zA2_eq (zup_nf (by decide)) d2, zA2_eq (zup_nf (by decide)) d3⟩
    refine c_rnE hD ht hn (rNc_f f5 c4) h5 (fun m6 c6 h6 f6 e6 => ?_)
    exact k m6 c6 ⟨h6, by rw [e6, zup_same]⟩ (rNf_tr f0 (rNf_tr f1 (rNf_tr f2 (rNf_tr f3 (rNf_tr f4 (rNf_tr f5 f6))))))
