theorem gIns1_get {R : List Int} {C i : Nat} {x : Int} (hC : C ≤ R.length) (hi : i ≤ R.length) : (gIns [x] R C).getD i 0 = if i < C then R.getD i 0 else if i = C then x else R.getD (i - 1) 0 := by
  have lt : (R.take C).length = C := by rw [List.length_take]; omega
  unfold gIns
  rw [List.append_assoc, List.getD_eq_getElem?_getD, List.getD_eq_getElem?_getD, List.getD_eq_getElem?_getD]
  by_cases h1 : i < C
  · rw [if_pos h1, List.getElem?_append_left (by omega), List.getElem?_take_of_lt h1]
  · rw [if_neg h1, List.getElem?_append_right (by omega), lt]
    by_cases h2 : i = C
    · rw [if_pos h2, show i - C = 0 by omega]; rfl
    · rw [if_neg h2]
      obtain ⟨d, hd⟩ : ∃ d, i - C = d + 1 := ⟨i - C - 1, by omega⟩
      rw [hd]
      show ((R.drop C)[d]?).getD 0 = _
      rw [List.getElem?_drop, show C + d = i - 1 by omega]
theorem zAL_of {m : zM} {a : Nat} {xs : List Int} (h : ∀ i, i < xs.length → m a i = xs.getD i 0) : zAL m a 0 xs := fun i x hx => by
  have hi := (List.getElem?_eq_some_iff.mp hx).1
  rw [Nat.zero_add, h i hi, List.getD_eq_getElem?_getD, hx]
  rfl
theorem itEq_sym {x y : zIt} : itEq x y = itEq y x := by
  unfold itEq
  rw [decide_eq_decide.mpr (show itL x = itL y ↔ itL y = itL x from ⟨Eq.symm, Eq.symm⟩), decide_eq_decide.mpr (show itM x = itM y ↔ itM y = itM x from ⟨Eq.symm, Eq.symm⟩), decide_eq_decide.mpr (show itC x = itC y ↔ itC y = itC x from ⟨Eq.symm, Eq.symm⟩), decide_eq_decide.mpr (show itO x = itO y ↔ itO y = itO x from ⟨Eq.symm, Eq.symm⟩)]
/-- the counting of LIKE ones -/
theorem c_rwL {L : zY} {m : zM} {Q : zQ} {D : zD} {I J : List zIt} {x what l3 : Int} {l4 : zV} (ht : zMt L) (hn : zMn L) (hp : zMp m) (hI : rBI m 1 I) (hJ : rBI m 0 J) (rI : ∀ x ∈ I, itR D x) (rJ : ∀ x ∈ J, itR D x) (lI : I.length ≤ 199) (lJ : J.length ≤ 199) (k : zwp 240 259 [zA 332, zI x, zI what, zI l3, zI (fA I J : Nat), zI ((min I.length J.length : Nat) : Int), zI (fZ I J (fA I J) : Nat)] [] L m Q) : zwp 240 148 [zA 332, zI x, zI what, zI l3, l4, zU, zU] [] L m Q := by
  have t0 := mt332 ht
  have q34 : m 332 34 = ((349 : Nat) : Int) := mp34 hp
  have b0 : (0 : Int) < ((3 : Nat) : Int) := by decide
  have b1 : (1 : Int) < ((3 : Nat) : Int) := by decide
  have i49 : m 349 1 = (I.length : Int) := hI.1
  have j49 : m 349 0 = (J.length : Int) := hJ.1
  have lk := fun (Q' : zQ) (i j : Nat) (hi : i < I.length) (hj : j < J.length) => r_like (Q := Q') (b := 0) (i := j) (c := 1) (j := i) ht hn hp (by decide) (by decide) (rBC_of hJ) (rBC_of hI) hj hi (by omega) (by omega) (rJ _ (List.getElem_mem hj)).2.2.2.1
  simp only [Int.cast_ofNat_Int] at lk
  have ce : ∀ i j (hi : i < I.length) (hj : j < J.length), itEq (I.getD i it0) (J.getD j it0) = decide (cOf J[j] = cOf I[i]) := fun i j hi hj => by
    rw [itEq_sym, getD_lt hi, getD_lt hj, itEq_c (rJ _ (List.getElem_mem hj)) (rI _ (List.getElem_mem hi))]
  have main : zwp 240 183 [zA 332, zI x, zI what, zI l3, zI ((0 : Nat) : Int), zI ((min I.length J.length : Nat) : Int), zU] [] L m Q := by
    obtain ⟨c1, c2, c3⟩ := fC_spec (p := fun i => itEq (I.getD i it0) (J.getD i it0)) (min I.length J.length) 0
    have ev : fA I J = fC (fun i => itEq (I.getD i it0) (J.getD i it0)) (min I.length J.length) 0 := rfl
    rw [← ev, Nat.zero_add] at c2 c3
    rw [← ev] at c1
    clear ev
    generalize fA I J = v at *
    refine zfor (n := v) (fun i => [zA 332, zI x, zI what, zI l3, zI (i : Nat), zI ((min I.length J.length : Nat) : Int), zU]) (fun _ m' => m' = m) ?_ ?_ 0 m (Nat.zero_le _) rfl
    · rintro i m hi rfl ih
      have ih := ih _ rfl
      have hiI : i < I.length := by omega
      have hiJ : i < J.length := by omega
      have c2 := c2 i (Nat.zero_le _) hi
      rw [ce i i hiI hiJ] at c2
      have c2 := of_decide_eq_true c2
      have n1 : ¬ ((min I.length J.length : Nat) : Int) ≤ (i : Int) := by omega
      have iv : i < 1000000 := by omega
      simp only [s240_183]
      simp only [s240_185, s240_187, s240_190, s240_191, s240_192, s240_194, s240_195, s240_197, s240_200, s240_203, s240_206, Int.toNat_natCast, true_and, and_true, true_or, or_true, false_or, or_false, zwr_id, zpu_some, zpu_none, reduceIte, Int.reduceLE, Int.reduceLT, Int.reduceEq, Int.reduceNeg, Int.reduceAdd, Int.reduceSub, Int.reduceMul, Int.reduceToNat, Nat.reduceAdd, Nat.reduceLeDiff, Nat.reduceEqDiff, Nat.reduceLT, eq_self, ne_eq, not_false_eq_true, not_true_eq_false, t0, n1, fun Q' => lk Q' i i hiI hiJ, c2, z1 iv]
      exact ih
    · rintro m rfl
      have stop : zwp 240 209 [zA 332, zI x, zI what, zI l3, zI (v : Nat), zI ((min I.length J.length : Nat) : Int), zU] [] L m Q := by
        obtain ⟨e1, e2, e3⟩ := fC_spec (p := fun i => itEq (I.getD (I.length - 1 - i) it0) (J.getD (J.length - 1 - i) it0)) (min I.length J.length - v) 0
        have ev : fZ I J v = fC (fun i => itEq (I.getD (I.length - 1 - i) it0) (J.getD (J.length - 1 - i) it0)) (min I.length J.length - v) 0 := rfl
        rw [← ev, Nat.zero_add] at e2 e3
        rw [← ev] at e1
        clear ev
        generalize fZ I J v = w at *
        simp only [s240_209, s240_210]
        refine zfor (n := w) (fun i => [zA 332, zI x, zI what, zI l3, zI (v : Nat), zI ((min I.length J.length : Nat) : Int), zI (i : Nat)]) (fun _ m' => m' = m) ?_ ?_ 0 m (Nat.zero_le _) rfl
        · rintro i m hi rfl ih
          have ih := ih _ rfl
          have hiI : I.length - 1 - i < I.length := by omega
          have hiJ : J.length - 1 - i < J.length := by omega
          have e2 := e2 i (Nat.zero_le _) hi
          rw [ce _ _ hiI hiJ] at e2
          have e2 := of_decide_eq_true e2
          have n1 : ¬ ((min I.length J.length - v : Nat) : Int) ≤ (i : Int) := by omega
          have iv : i < 1000000 := by omega
          simp only [s240_212]
          simp only [s240_214, s240_216, s240_218, s240_219, s240_222, s240_223, s240_224, s240_225, s240_228, s240_229, s240_230, s240_231, s240_232, s240_234, s240_235, s240_236, s240_237, s240_240, s240_241, s240_242, s240_243, s240_244, s240_246, s240_247, s240_250, s240_253, s240_256, Int.toNat_natCast, true_and, and_true, true_or, or_true, false_or, or_false, zwr_id, zpu_some, zpu_none, reduceIte, Int.reduceLE, Int.reduceLT, Int.reduceEq, Int.reduceNeg, Int.reduceAdd, Int.reduceSub, Int.reduceMul, Int.reduceToNat, Nat.reduceAdd, Nat.reduceLeDiff, Nat.reduceEqDiff, Nat.reduceLT, eq_self, ne_eq, not_false_eq_true, not_true_eq_false, t0, n1, (show zwr (((min I.length J.length : Nat) : Int) - (v : Int)) = ((min I.length J.length - v : Nat) : Int) from zwn (by omega) (by omega)), (show zwr ((J.length : Int) - 1) = (J.length : Int) - 1 from zwr_id (by omega) (by omega)), (show zwr ((I.length : Int) - 1) = (I.length : Int) - 1 from zwr_id (by omega) (by omega)), (show zwr ((J.length : Int) - 1 - (i : Int)) = ((J.length - 1 - i : Nat) : Int) from zwn (by omega) (by omega)), (show zwr ((I.length : Int) - 1 - (i : Int)) = ((I.length - 1 - i : Nat) : Int) from zwn (by omega) (by omega)), q34, mt349 ht, mn349 hn, b0, b1, i49, j49, fun Q' => lk Q' _ _ hiI hiJ, e2, z1 iv]
          exact ih
        · rintro m rfl
          simp only [s240_212]
          by_cases hw : w = min I.length J.length - v
          · have n1 : ((min I.length J.length - v : Nat) : Int) ≤ (w : Int) := by omega
            simp only [s240_214, s240_216, s240_218, s240_219, Int.toNat_natCast, true_and, and_true, true_or, or_true, false_or, or_false, zwr_id, zpu_some, zpu_none, reduceIte, Int.reduceLE, Int.reduceLT, Int.reduceEq, Int.reduceNeg, Int.reduceAdd, Int.reduceSub, Int.reduceMul, Int.reduceToNat, Nat.reduceAdd, Nat.reduceLeDiff, Nat.reduceEqDiff, Nat.reduceLT, eq_self, ne_eq, not_false_eq_true, not_true_eq_false, (show zwr (((min I.length J.length : Nat) : Int) - (v : Int)) = ((min I.length J.length - v : Nat) : Int) from zwn (by omega) (by omega)), n1]
            exact k
          · have e3 := e3.resolve_left hw
            have hiI : I.length - 1 - w < I.length := by omega
            have hiJ : J.length - 1 - w < J.length := by omega
            rw [ce _ _ hiI hiJ] at e3
            have e3 := of_decide_eq_false e3
            have n1 : ¬ ((min I.length J.length - v : Nat) : Int) ≤ (w : Int) := by omega
            simp only [s240_214, s240_216, s240_218, s240_219, s240_222, s240_223, s240_224, s240_225, s240_228, s240_229, s240_230, s240_231, s240_232, s240_234, s240_235, s240_236, s240_237, s240_240, s240_241, s240_242, s240_243, s240_244, s240_246, s240_247, s240_250, Int.toNat_natCast, true_and, and_true, true_or, or_true, false_or, or_false, zwr_id, zpu_some, zpu_none, reduceIte, Int.reduceLE, Int.reduceLT, Int.reduceEq, Int.reduceNeg, Int.reduceAdd, Int.reduceSub, Int.reduceMul, Int.reduceToNat, Nat.reduceAdd, Nat.reduceLeDiff, Nat.reduceEqDiff, Nat.reduceLT, eq_self, ne_eq, not_false_eq_true, not_true_eq_false, t0, n1, (show zwr (((min I.length J.length : Nat) : Int) - (v : Int)) = ((min I.length J.length - v : Nat) : Int) from zwn (by omega) (by omega)), (show zwr ((J.length : Int) - 1) = (J.length : Int) - 1 from zwr_id (by omega) (by omega)), (show zwr ((I.length : Int) - 1) = (I.length : Int) - 1 from zwr_id (by omega) (by omega)), (show zwr ((J.length : Int) - 1 - (w : Int)) = ((J.length - 1 - w : Nat) : Int) from zwn (by omega) (by omega)), (show zwr ((I.length : Int) - 1 - (w : Int)) = ((I.length - 1 - w : Nat) : Int) from zwn (by omega) (by omega)), q34, mt349 ht, mn349 hn, b0, b1, i49, j49, fun Q' => lk Q' _ _ hiI hiJ, e3]
            exact k
      simp only [s240_183]
      by_cases hv : v = min I.length J.length
      · have n1 : ((min I.length J.length : Nat) : Int) ≤ (v : Int) := by omega
        simp only [s240_185, s240_187, Int.toNat_natCast, true_and, and_true, true_or, or_true, false_or, or_false, zwr_id, zpu_some, zpu_none, reduceIte, Int.reduceLE, Int.reduceLT, Int.reduceEq, Int.reduceNeg, Int.reduceAdd, Int.reduceSub, Int.reduceMul, Int.reduceToNat, Nat.reduceAdd, Nat.reduceLeDiff, Nat.reduceEqDiff, Nat.reduceLT, eq_self, ne_eq, not_false_eq_true, not_true_eq_false, n1]
        exact stop
      · have c3 := c3.resolve_left hv
        have hiI : v < I.length := by omega
        have hiJ : v < J.length := by omega
        rw [ce v v hiI hiJ] at c3
        have c3 := of_decide_eq_false c3
        have n1 : ¬ ((min I.length J.length : Nat) : Int) ≤ (v : Int) := by omega
        simp only [s240_185, s240_187, s240_190, s240_191, s240_192, s240_194, s240_195, s240_197, s240_200, Int.toNat_natCast, true_and, and_true, true_or, or_true, false_or, or_false, zwr_id, zpu_some, zpu_none, reduceIte, Int.reduceLE, Int.reduceLT, Int.reduceEq, Int.reduceNeg, Int.reduceAdd, Int.reduceSub, Int.reduceMul, Int.reduceToNat, Nat.reduceAdd, Nat.reduceLeDiff, Nat.reduceEqDiff, Nat.reduceLT, eq_self, ne_eq, not_false_eq_true, not_true_eq_false, t0, n1, fun Q' => lk Q' v v hiI hiJ, c3]
        exact stop
  simp only [s240_148, s240_149, s240_151, s240_152, s240_155, s240_156, s240_157, s240_158, s240_161, s240_162, Int.toNat_natCast, true_and, and_true, true_or, or_true, false_or, or_false, zwr_id, zpu_some, zpu_none, reduceIte, Int.reduceLE, Int.reduceLT, Int.reduceEq, Int.reduceNeg, Int.reduceAdd, Int.reduceSub, Int.reduceMul, Int.reduceToNat, Nat.reduceAdd, Nat.reduceLeDiff, Nat.reduceEqDiff, Nat.reduceLT, eq_self, ne_eq, not_false_eq_true, not_true_eq_false, t0, q34, mt349 ht, mn349 hn, b0, b1, i49, j49]
  simp only [s240_163]
  by_cases hm : I.length ≤ J.length
  · rw [if_pos (by omega)]
    have e : ((min I.length J.length : Nat) : Int) = (I.length : Int) := by omega
    rw [e] at main
    simp only [s240_175, s240_176, s240_179, s240_180, s240_181, Int.toNat_natCast, true_and, and_true, true_or, or_true, false_or, or_false, zwr_id, zpu_some, zpu_none, reduceIte, Int.reduceLE, Int.reduceLT, Int.reduceEq, Int.reduceNeg, Int.reduceAdd, Int.reduceSub, Int.reduceMul, Int.reduceToNat, Nat.reduceAdd, Nat.reduceLeDiff, Nat.reduceEqDiff, Nat.reduceLT, eq_self, ne_eq, not_false_eq_true, not_true_eq_false, t0, q34, mt349 ht, mn349 hn, b1, i49]
    exact main
  · rw [if_neg (by omega)]
    have e : ((min I.length J.length : Nat) : Int) = (J.length : Int) := by omega
    rw [e] at main
    simp only [s240_166, s240_167, s240_170, s240_171, s240_172, s240_181, Int.toNat_natCast, true_and, and_true, true_or, or_true, false_or, or_false, zwr_id, zpu_some, zpu_none, reduceIte, Int.reduceLE, Int.reduceLT, Int.reduceEq, Int.reduceNeg, Int.reduceAdd, Int.reduceSub, Int.reduceMul, Int.reduceToNat, Nat.reduceAdd, Nat.reduceLeDiff, Nat.reduceEqDiff, Nat.reduceLT, eq_self, ne_eq, not_false_eq_true, not_true_eq_false, t0, q34, mt349 ht, mn349 hn, b0, j49]
    exact main
