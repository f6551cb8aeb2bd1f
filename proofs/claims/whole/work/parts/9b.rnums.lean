def rk1 (k : Nat) : Int × Int := ((k : Int), -1)
def rk2 (q : Nat × Nat) : Int × Int := ((q.1 : Int), (q.2 : Int))
/-- what laysNumbers() goes by -/
def rNc (m : zM) (D : zD) : Prop := zMp m ∧ rDt m D
theorem rNc_f {m m' : zM} {D : zD} (h : rNf m m') (hc : rNc m D) : rNc m' D := ⟨zMp_Nf h hc.1, rDt_Nf h hc.2⟩
theorem c_rnB {L : zY} {m : zM} {Q : zQ} {D : zD} {l2 : zV} (hD : dOk D) (ht : zMt L) (hn : zMn L) (hc : rNc m D) (h : rNA m (fun _ => -2) (fun _ => -2) (fun _ => -2) (fun _ => -2) [] [] []) (k : ∀ m' l1 l2, rNc m' D → rNA m' (dNL D) (fun _ => -2) (dNE D) (fun _ => -2) (dLe D) [] ((dEn D).map rk1) → rNf m m' → zwp 185 181 [zA 332, zI l1, l2] [] L m' Q) : zwp 185 63 [zA 332, zI ((0 : Nat) : Int), l2] [] L m Q := by
  have t0 := mt332 ht
  have len := hD.2.2.1.1
  refine zforv (n := (dC D).length) (fun (v : zV) i => [zA 332, zI (i : Nat), v]) (fun i m' => rNc m' D ∧ rNA m' (ixf (((dC D).take i).filter (cLe D)) 0 (fun _ => -2)) (fun _ => -2) (ixf (((dC D).take i).filter (cFi D)) 1 (fun _ => -2)) (fun _ => -2) (((dC D).take i).filter (cLe D)) [] ((((dC D).take i).filter (cFi D)).map rk1) ∧ rNf m m') ?_ ?_ l2 0 m (Nat.zero_le _) ⟨hc, by rw [List.take_zero]; exact h, rNf_rf⟩
  · rintro v i m1 hi ⟨hc1, h1, f1⟩ ih
    have n1 : ¬ ((dC D).length : Int) ≤ (i : Int) := by omega
    have iv : i < 1000000 := by omega
    obtain ⟨hk1, hk2, hk3⟩ := hD.1.1 _ (List.getElem_mem hi)
    have gt := zAL_n hc1.2.2.2.1.1 hi
    rw [Nat.zero_add] at gt
    have lb1 := fil_le (p := cLe D) (xs := dC D) (i := i)
    have lb2 := fil_le (p := cFi D) (xs := dC D) (i := i)
    rw [fil_s hi, fil_s hi] at ih
    generalize ((dC D).take i).filter (cLe D) = A at *
    generalize ((dC D).take i).filter (cFi D) = B at *
    have cle := cLe_in (D := D) (k := (dC D)[i])
    have cfi := cFi_in (D := D) (k := (dC D)[i])
    have hsort : m1 334 (dC D)[i] = dS D (dC D)[i] := hc1.2.1 _ hk1
    have c5 : m1 335 0 = ((dC D).length : Int) := hc1.2.2.1.1
    generalize (dC D)[i] = x at *
    have q7 : m1 332 7 = ((334 : Nat) : Int) := mp7 hc1.1
    have q8 : m1 332 8 = ((335 : Nat) : Int) := mp8 hc1.1
    have q9 : m1 332 9 = ((336 : Nat) : Int) := mp9 hc1.1
    have q24 : m1 332 24 = ((341 : Nat) : Int) := mp24 hc1.1
    have q28 : m1 332 28 = ((345 : Nat) : Int) := mp28 hc1.1
    have b0 : (0 : Int) < ((10 : Nat) : Int) := by decide
    have hrx : 0 ≤ (x : Int) ∧ (x : Int) < ((26 : Nat) : Int) := by omega
    have hrx' : 0 ≤ (x : Int) ∧ (x : Int) < ((52 : Nat) : Int) := by omega
    have hri : 0 ≤ (i : Int) ∧ (i : Int) < ((20 : Nat) : Int) := by omega
    have l20 := h1.2.1.1
    -- behind the LEAD
    have endp : ∀ m2, rNc m2 D → (∃ A', A' = A ++ (if cLe D x = true then [x] else []) ∧ rNA m2 (ixf A' 0 (fun _ => -2)) (fun _ => -2) (ixf B 1 (fun _ => -2)) (fun _ => -2) A' [] (B.map rk1)) → rNf m1 m2 → zwp 185 120 [zA 332, zI (i : Nat), zI (x : Int)] [] L m2 Q := by
      rintro m2 hc2 ⟨A', eA, h2⟩ f2
      rw [← eA] at ih
      have l22 := h2.2.1.2.2
      rw [List.length_map] at l22
      have p7 : m2 332 7 = ((334 : Nat) : Int) := mp7 hc2.1
      have p26 : m2 332 26 = ((343 : Nat) : Int) := mp26 hc2.1
      have p30 : m2 332 30 = ((347 : Nat) : Int) := mp30 hc2.1
      have hs2 : m2 334 x = dS D x := hc2.2.1 _ hk1
      simp only [s185_120, s185_121, s185_124, s185_125, Int.toNat_natCast, true_and, and_true, true_or, or_true, false_or, or_false, zwr_id, zpu_some, zpu_none, reduceIte, Int.reduceLE, Int.reduceLT, Int.reduceEq, Int.reduceNeg, Int.reduceAdd, Int.reduceSub, Int.reduceMul, Int.reduceToNat, Nat.reduceAdd, Nat.reduceLeDiff, Nat.reduceEqDiff, Nat.reduceLT, eq_self, ne_eq, not_false_eq_true, not_true_eq_false, t0, p7, mt334 ht, mn334 hn, hrx', and_self, hs2]
      simp only [s185_126]
      by_cases hl : dS D x = 0
      · rw [if_pos hl]
        simp only [s185_175, s185_178, z1 iv]
        rw [if_neg (show ¬ cFi D x = true from fun q => by have := cfi.mpr q; omega), List.append_nil] at ih
        exact ih _ m2 ⟨hc2, h2, rNf_tr f1 f2⟩
      · rw [if_neg hl]
        rw [if_pos (show cFi D x = true from cfi.mp (by omega))] at ih
        have hr1 : 0 ≤ ((2 * (1 + B.length) : Nat) : Int) ∧ ((2 * (1 + B.length) : Nat) : Int) < ((38 : Nat) : Int) := by omega
        have hr2 : 0 ≤ ((2 * (1 + B.length) + 1 : Nat) : Int) ∧ ((2 * (1 + B.length) + 1 : Nat) : Int) < ((38 : Nat) : Int) := by omega
        simp only [s185_129, s185_130, s185_133, s185_134, s185_135, s185_138, s185_139, s185_140, s185_143, s185_144, s185_145, s185_148, s185_149, s185_150, s185_151, s185_152, s185_155, s185_156, s185_157, s185_160, s185_161, s185_162, s185_163, s185_164, s185_165, s185_166, s185_167, s185_170, s185_171, s185_172, s185_175, s185_178, Int.toNat_natCast, true_and, and_true, true_or, or_true, false_or, or_false, zwr_id, zpu_some, zpu_none, reduceIte, Int.reduceLE, Int.reduceLT, Int.reduceEq, Int.reduceNeg, Int.reduceAdd, Int.reduceSub, Int.reduceMul, Int.reduceToNat, Nat.reduceAdd, Nat.reduceLeDiff, Nat.reduceEqDiff, Nat.reduceLT, eq_self, ne_eq, not_false_eq_true, not_true_eq_false, t0, p26, p30, mt343 ht, mn343 hn, mt347 ht, mn347 hn, hrx, hr1, hr2, (show zwr (2 * ((1 + B.length : Nat) : Int)) = ((2 * (1 + B.length) : Nat) : Int) from zwn (by omega) (by omega)), (show zwr (((2 * (1 + B.length) : Nat) : Int) + 1) = ((2 * (1 + B.length) + 1 : Nat) : Int) from zwn (by omega) (by omega)), (show zwr (((1 + B.length : Nat) : Int) + 1) = ((1 + B.length + 1 : Nat) : Int) from zwn (by omega) (by omega)), and_self, l22, zup_na (show (332 : Nat) ≠ 343 by decide), zup_na (show (332 : Nat) ≠ 347 by decide), z1 iv]
        have g3 := rNA_pe (x := (x : Int)) (y := -1) (rNA_eo (x := x) (v := ((1 + B.length : Nat) : Int)) h2)
        rw [List.length_map] at g3
        have f3 : rNf m2 (zup (zup (zup (zup m2 343 x ((1 + B.length : Nat) : Int)) 347 (2 * (1 + B.length)) (x : Int)) 347 (2 * (1 + B.length) + 1) (-1)) 332 22 ((1 + B.length + 1 : Nat) : Int)) := rNf_tr (rNf_tr (rNf_tr (rNf_up (by omega)) (rNf_up (by omega))) (rNf_up (by omega))) (rNf_up (by omega))
        refine ih _ _ ⟨rNc_f f3 hc2, ?_, rNf_tr f1 (rNf_tr f2 f3)⟩
        rw [ixf_uf, List.map_append]
        exact g3
    simp only [s185_63]
    simp only [s185_64, s185_65, s185_68, s185_69, s185_70, s185_73, s185_74, s185_77, s185_78, s185_79, s185_80, s185_81, s185_84, s185_85, s185_86, Int.toNat_natCast, true_and, and_true, true_or, or_true, false_or, or_false, zwr_id, zpu_some, zpu_none, reduceIte, Int.reduceLE, Int.reduceLT, Int.reduceEq, Int.reduceNeg, Int.reduceAdd, Int.reduceSub, Int.reduceMul, Int.reduceToNat, Nat.reduceAdd, Nat.reduceLeDiff, Nat.reduceEqDiff, Nat.reduceLT, eq_self, ne_eq, not_false_eq_true, not_true_eq_false, t0, q8, mt335 ht, mn335 hn, b0, c5, n1, q9, mt336 ht, mn336 hn, hri, and_self, gt, q7, mt334 ht, mn334 hn, hrx', hsort]
    simp only [s185_87]
    by_cases hf : dS D x = 2
    · rw [if_pos hf]
      exact endp m1 hc1 ⟨A, by rw [if_neg (show ¬ cLe D x = true from fun q => by have := cle.mpr q; omega), List.append_nil], h1⟩ rNf_rf
    · rw [if_neg hf]
      have hrA : 0 ≤ (A.length : Int) ∧ (A.length : Int) < ((14 : Nat) : Int) := by omega
      simp only [s185_90, s185_91, s185_94, s185_95, s185_96, s185_99, s185_100, s185_101, s185_104, s185_105, s185_108, s185_109, s185_110, s185_111, s185_112, s185_115, s185_116, s185_117, Int.toNat_natCast, true_and, and_true, true_or, or_true, false_or, or_false, zwr_id, zpu_some, zpu_none, reduceIte, Int.reduceLE, Int.reduceLT, Int.reduceEq, Int.reduceNeg, Int.reduceAdd, Int.reduceSub, Int.reduceMul, Int.reduceToNat, Nat.reduceAdd, Nat.reduceLeDiff, Nat.reduceEqDiff, Nat.reduceLT, eq_self, ne_eq, not_false_eq_true, not_true_eq_false, t0, q24, q28, mt341 ht, mn341 hn, mt345 ht, mn345 hn, hrx, hrA, (show zwr ((A.length : Int) + 1) = ((A.length + 1 : Nat) : Int) from zwn (by omega) (by omega)), and_self, l20, zup_na (show (332 : Nat) ≠ 341 by decide), zup_na (show (332 : Nat) ≠ 345 by decide)]
      have g2 := rNA_lead (x := x) h1
      have f2 : rNf m1 (zup (zup (zup m1 341 x (A.length : Int)) 345 A.length (x : Int)) 332 20 ((A.length + 1 : Nat) : Int)) := rNf_tr (rNf_tr (rNf_up (by omega)) (rNf_up (by omega))) (rNf_up (by omega))
      refine endp _ (rNc_f f2 hc1) ⟨A ++ [x], by rw [if_pos (show cLe D x = true from cle.mp (by omega))], ?_⟩ f2
      rw [ixf_uf, Nat.zero_add]
      exact g2
  · rintro v m1 ⟨hc1, h1, f1⟩
    rw [List.take_length] at h1
    have q8 : m1 332 8 = ((335 : Nat) : Int) := mp8 hc1.1
    have c5 : m1 335 0 = ((dC D).length : Int) := hc1.2.2.1.1
    have b0 : (0 : Int) < ((10 : Nat) : Int) := by decide
    have n1 : ((dC D).length : Int) ≤ ((dC D).length : Int) := by omega
    simp only [s185_63]
    simp only [s185_64, s185_65, s185_68, s185_69, s185_70, Int.toNat_natCast, true_and, and_true, true_or, or_true, false_or, or_false, zwr_id, zpu_some, zpu_none, reduceIte, Int.reduceLE, Int.reduceLT, Int.reduceEq, Int.reduceNeg, Int.reduceAdd, Int.reduceSub, Int.reduceMul, Int.reduceToNat, Nat.reduceAdd, Nat.reduceLeDiff, Nat.reduceEqDiff, Nat.reduceLT, eq_self, ne_eq, not_false_eq_true, not_true_eq_false, t0, q8, mt335 ht, mn335 hn, b0, c5, n1]
    exact k m1 _ _ hc1 h1 f1
theorem c_rnC {L : zY} {m : zM} {Q : zQ} {D : zD} {l2 : zV} {eo mo : Nat → Int} {mk ek : List (Int × Int)} (hD : dOk D) (ht : zMt L) (hn : zMn L) (hc : rNc m D) (h : rNA m (dNL D) (fun _ => -2) eo mo (dLe D) mk ek) (k : ∀ m' l1, rNc m' D → rNA m' (dNL D) (dTw D) eo mo (dLe D ++ dT D) mk ek → rNf m m' → zwp 185 239 [zA 332, zI l1, l2] [] L m' Q) : zwp 185 183 [zA 332, zI ((0 : Nat) : Int), l2] [] L m Q := by
  have t0 := mt332 ht
  have len := hD.2.2.1.2.2.2.1
  have lenL : (dLe D).length ≤ 10 := Nat.le_trans (List.length_filter_le _ _) hD.2.2.1.1
  refine zfor (n := (dT D).length) (fun i => [zA 332, zI (i : Nat), l2]) (fun i m' => rNc m' D ∧ rNA m' (dNL D) (ixf ((dT D).take i) (dLe D).length (fun _ => -2)) eo mo (dLe D ++ (dT D).take i) mk ek ∧ rNf m m') ?_ ?_ 0 m (Nat.zero_le _) ⟨hc, by rw [List.take_zero, List.append_nil]; exact h, rNf_rf⟩
  · rintro i m1 hi ⟨hc1, h1, f1⟩ ih
    have n1 : ¬ ((dT D).length : Int) ≤ (i : Int) := by omega
    have iv : i < 1000000 := by omega
    have hk1 := (hD.1.2.2.2.1 _ (List.getElem_mem hi)).1
    have gt := zAL_n hc1.2.2.2.1.2.2.2 hi
    rw [Nat.zero_add] at gt
    have c5 : m1 335 3 = ((dT D).length : Int) := hc1.2.2.1.2.2.2.1
    have et : (dLe D ++ (dT D).take i).length = (dLe D).length + i := by rw [List.length_append, List.length_take, Nat.min_eq_left (by omega)]
    have l20 := h1.2.1.1
    have g2 := rNA_twin (x := (dT D)[i]) h1
    rw [et] at l20 g2
    rw [take_s hi] at ih
    have eu : ixf ((dT D).take i ++ [(dT D)[i]]) (dLe D).length (fun _ => -2) = uf (ixf ((dT D).take i) (dLe D).length (fun _ => -2)) (dT D)[i] (((dLe D).length + i : Nat) : Int) := by rw [ixf_uf, List.length_take, Nat.min_eq_left (by omega)]
    rw [eu, ← List.append_assoc] at ih
    clear eu
    generalize (dT D)[i] = x at *
    generalize hN : (dLe D).length + i = N at *
    have q8 : m1 332 8 = ((335 : Nat) : Int) := mp8 hc1.1
    have q12 : m1 332 12 = ((339 : Nat) : Int) := mp12 hc1.1
    have q25 : m1 332 25 = ((342 : Nat) : Int) := mp25 hc1.1
    have q28 : m1 332 28 = ((345 : Nat) : Int) := mp28 hc1.1
    have b0 : (3 : Int) < ((10 : Nat) : Int) := by decide
    have hrx : 0 ≤ (x : Int) ∧ (x : Int) < ((26 : Nat) : Int) := by omega
    have hri : 0 ≤ (i : Int) ∧ (i : Int) < ((8 : Nat) : Int) := by omega
    have hrA : 0 ≤ (N : Int) ∧ (N : Int) < ((14 : Nat) : Int) := by omega
    simp only [s185_183]
    simp only [s185_184, s185_185, s185_188, s185_189, s185_190, s185_193, s185_194, s185_197, s185_198, s185_201, s185_202, s185_203, s185_204, s185_207, s185_208, s185_209, s185_212, s185_213, s185_216, s185_217, s185_220, s185_221, s185_222, s185_223, s185_224, s185_225, s185_228, s185_229, s185_230, s185_233, s185_236, Int.toNat_natCast, true_and, and_true, true_or, or_true, false_or, or_false, zwr_id, zpu_some, zpu_none, reduceIte, Int.reduceLE, Int.reduceLT, Int.reduceEq, Int.reduceNeg, Int.reduceAdd, Int.reduceSub, Int.reduceMul, Int.reduceToNat, Nat.reduceAdd, Nat.reduceLeDiff, Nat.reduceEqDiff, Nat.reduceLT, eq_self, ne_eq, not_false_eq_true, not_true_eq_false, t0, q8, mt335 ht, mn335 hn, b0, c5, n1, q12, mt339 ht, mn339 hn, hri, and_self, gt, q25, q28, mt342 ht, mn342 hn, mt345 ht, mn345 hn, hrx, hrA, l20, (show zwr ((N : Int) + 1) = ((N + 1 : Nat) : Int) from zwn (by omega) (by omega)), zup_na (show (332 : Nat) ≠ 342 by decide), zup_na (show (332 : Nat) ≠ 345 by decide), zup_na (show (339 : Nat) ≠ 342 by decide), zup_na (show (339 : Nat) ≠ 345 by decide), z1 iv]
    have f2 : rNf m1 (zup (zup (zup m1 342 x (N : Int)) 345 N (x : Int)) 332 20 ((N + 1 : Nat) : Int)) := rNf_tr (rNf_tr (rNf_up (by omega)) (rNf_up (by omega))) (rNf_up (by omega))
    exact ih _ ⟨rNc_f f2 hc1, g2, rNf_tr f1 f2⟩
  · rintro m1 ⟨hc1, h1, f1⟩
    rw [List.take_length] at h1
    have q8 : m1 332 8 = ((335 : Nat) : Int) := mp8 hc1.1
    have c5 : m1 335 3 = ((dT D).length : Int) := hc1.2.2.1.2.2.2.1
    have b0 : (3 : Int) < ((10 : Nat) : Int) := by decide
    have n1 : ((dT D).length : Int) ≤ ((dT D).length : Int) := by omega
    simp only [s185_183]
    simp only [s185_184, s185_185, s185_188, s185_189, s185_190, Int.toNat_natCast, true_and, and_true, true_or, or_true, false_or, or_false, zwr_id, zpu_some, zpu_none, reduceIte, Int.reduceLE, Int.reduceLT, Int.reduceEq, Int.reduceNeg, Int.reduceAdd, Int.reduceSub, Int.reduceMul, Int.reduceToNat, Nat.reduceAdd, Nat.reduceLeDiff, Nat.reduceEqDiff, Nat.reduceLT, eq_self, ne_eq, not_false_eq_true, not_true_eq_false, t0, q8, mt335 ht, mn335 hn, b0, c5, n1]
    exact k m1 _ hc1 h1 f1
theorem c_rnD {L : zY} {m : zM} {Q : zQ} {D : zD} {l2 : zV} {lo tw eo : Nat → Int} {lk : List Nat} {ek : List (Int × Int)} (hD : dOk D) (ht : zMt L) (hn : zMn L) (hc : rNc m D) (h : rNA m lo tw eo (fun _ => -2) lk [] ek) (k : ∀ m' l1, rNc m' D → rNA m' lo tw eo (dNM D) lk ((dV D).map rk1) ek → rNf m m' → zwp 185 313 [zA 332, zI l1, l2] [] L m' Q) : zwp 185 241 [zA 332, zI ((0 : Nat) : Int), l2] [] L m Q := by
  have t0 := mt332 ht
  have len := hD.2.2.1.2.1
  refine zfor (n := (dV D).length) (fun i => [zA 332, zI (i : Nat), l2]) (fun i m' => rNc m' D ∧ rNA m' lo tw eo (ixf ((dV D).take i) 0 (fun _ => -2)) lk (((dV D).take i).map rk1) ek ∧ rNf m m') ?_ ?_ 0 m (Nat.zero_le _) ⟨hc, by rw [List.take_zero]; exact h, rNf_rf⟩
  · rintro i m1 hi ⟨hc1, h1, f1⟩ ih
    have n1 : ¬ ((dV D).length : Int) ≤ (i : Int) := by omega
    have iv : i < 1000000 := by omega
    have hk1 := (hD.1.2.1 _ (List.getElem_mem hi)).1
    have gt := zAL_n hc1.2.2.2.1.2.1 hi
    rw [Nat.zero_add] at gt
    have c5 : m1 335 1 = ((dV D).length : Int) := hc1.2.2.1.2.1
    have et : (((dV D).take i).map rk1).length = i := by rw [List.length_map, List.length_take, Nat.min_eq_left (by omega)]
    have l21 := h1.2.1.2.1
    have g2 := rNA_pm (x := ((dV D)[i] : Int)) (y := -1) (rNA_mo (x := (dV D)[i]) (v := (i : Int)) h1)
    rw [et] at l21 g2
    rw [take_s hi] at ih
    have eu : ixf ((dV D).take i ++ [(dV D)[i]]) 0 (fun _ => -2) = uf (ixf ((dV D).take i) 0 (fun _ => -2)) (dV D)[i] (i : Int) := by rw [ixf_uf, List.length_take, Nat.min_eq_left (by omega), Nat.zero_add]
    rw [eu, List.map_append] at ih
    clear eu
    generalize (dV D)[i] = x at *
    have q8 : m1 332 8 = ((335 : Nat) : Int) := mp8 hc1.1
    have q10 : m1 332 10 = ((337 : Nat) : Int) := mp10 hc1.1
    have q27 : m1 332 27 = ((344 : Nat) : Int) := mp27 hc1.1
    have q29 : m1 332 29 = ((346 : Nat) : Int) := mp29 hc1.1
    have b0 : (1 : Int) < ((10 : Nat) : Int) := by decide
    have hrx : 0 ≤ (x : Int) ∧ (x : Int) < ((26 : Nat) : Int) := by omega
    have hri : 0 ≤ (i : Int) ∧ (i : Int) < ((16 : Nat) : Int) := by omega
    have hr1 : 0 ≤ ((2 * i : Nat) : Int) ∧ ((2 * i : Nat) : Int) < ((32 : Nat) : Int) := by omega
    have hr2 : 0 ≤ ((2 * i + 1 : Nat) : Int) ∧ ((2 * i + 1 : Nat) : Int) < ((32 : Nat) : Int) := by omega
    simp only [s185_241]
    simp only [s185_242, s185_243, s185_246, s185_247, s185_248, s185_251, s185_252, s185_255, s185_256, s185_259, s185_260, s185_261, s185_262, s185_265, s185_266, s185_267, s185_270, s185_271, s185_272, s185_275, s185_276, s185_277, s185_280, s185_281, s185_282, s185_283, s185_284, s185_287, s185_288, s185_289, s185_292, s185_293, s185_294, s185_295, s185_296, s185_297, s185_298, s185_299, s185_302, s185_303, s185_304, s185_307, s185_310, Int.toNat_natCast, true_and, and_true, true_or, or_true, false_or, or_false, zwr_id, zpu_some, zpu_none, reduceIte, Int.reduceLE, Int.reduceLT, Int.reduceEq, Int.reduceNeg, Int.reduceAdd, Int.reduceSub, Int.reduceMul, Int.reduceToNat, Nat.reduceAdd, Nat.reduceLeDiff, Nat.reduceEqDiff, Nat.reduceLT, eq_self, ne_eq, not_false_eq_true, not_true_eq_false, t0, q8, mt335 ht, mn335 hn, b0, c5, n1, q10, mt337 ht, mn337 hn, hri, and_self, gt, q27, q29, mt344 ht, mn344 hn, mt346 ht, mn346 hn, hrx, hr1, hr2, l21, (show zwr (2 * (i : Int)) = ((2 * i : Nat) : Int) from zwn (by omega) (by omega)), (show zwr (((2 * i : Nat) : Int) + 1) = ((2 * i + 1 : Nat) : Int) from zwn (by omega) (by omega)), zup_na (show (332 : Nat) ≠ 344 by decide), zup_na (show (332 : Nat) ≠ 346 by decide), zup_na (show (337 : Nat) ≠ 344 by decide), zup_na (show (337 : Nat) ≠ 346 by decide), z1 iv]
    have f2 : rNf m1 (zup (zup (zup (zup m1 344 x (i : Int)) 346 (2 * i) (x : Int)) 346 (2 * i + 1) (-1)) 332 21 ((i + 1 : Nat) : Int)) := rNf_tr (rNf_tr (rNf_tr (rNf_up (by omega)) (rNf_up (by omega))) (rNf_up (by omega))) (rNf_up (by omega))
    exact ih _ ⟨rNc_f f2 hc1, g2, rNf_tr f1 f2⟩
  · rintro m1 ⟨hc1, h1, f1⟩
    rw [List.take_length] at h1
    have q8 : m1 332 8 = ((335 : Nat) : Int) := mp8 hc1.1
    have c5 : m1 335 1 = ((dV D).length : Int) := hc1.2.2.1.2.1
    have b0 : (1 : Int) < ((10 : Nat) : Int) := by decide
    have n1 : ((dV D).length : Int) ≤ ((dV D).length : Int) := by omega
    simp only [s185_241]
    simp only [s185_242, s185_243, s185_246, s185_247, s185_248, Int.toNat_natCast, true_and, and_true, true_or, or_true, false_or, or_false, zwr_id, zpu_some, zpu_none, reduceIte, Int.reduceLE, Int.reduceLT, Int.reduceEq, Int.reduceNeg, Int.reduceAdd, Int.reduceSub, Int.reduceMul, Int.reduceToNat, Nat.reduceAdd, Nat.reduceLeDiff, Nat.reduceEqDiff, Nat.reduceLT, eq_self, ne_eq, not_false_eq_true, not_true_eq_false, t0, q8, mt335 ht, mn335 hn, b0, c5, n1]
    exact k m1 _ hc1 h1 f1
