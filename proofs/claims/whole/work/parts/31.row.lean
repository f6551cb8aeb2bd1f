/-! loops, by what holds at their heads -/
theorem zfor {mi pc : Nat} {L : zY} {Q : zQ} {n : Nat} (ls : Nat → List zV) (I : Nat → zM → Prop) (step : ∀ i m, i < n → I i m → (∀ m', I (i + 1) m' → zwp mi pc (ls (i + 1)) [] L m' Q) → zwp mi pc (ls i) [] L m Q) (done : ∀ m, I n m → zwp mi pc (ls n) [] L m Q) : ∀ i m, i ≤ n → I i m → zwp mi pc (ls i) [] L m Q := by
  intro i
  generalize hd : n - i = d
  induction d generalizing i with
  | zero =>
    intro m hi h
    have e : i = n := by omega
    subst e
    exact done m h
  | succ d ih =>
    intro m hi h
    exact step i m (by omega) h (fun m' h' => ih (i + 1) (by omega) m' (by omega) h')
theorem take_s {α : Type} {xs : List α} {i : Nat} (h : i < xs.length) : xs.take (i + 1) = xs.take i ++ [xs[i]] := (List.take_append_getElem h).symm
theorem z1 {i : Nat} (h : i < 1000000) : zwr ((i : Int) + 1) = ((i + 1 : Nat) : Int) := by rw [zwr_id (by omega) (by omega)]; omega
/-- BREAKS, KEYS of a row -/
def rBr (xs : List Int) : Nat := xs.countP (fun x => x == 124)
def rKy (xs : List Int) : Nat := xs.countP (fun x => x != 124)
theorem rBr_s {xs : List Int} {i : Nat} (h : i < xs.length) : rBr (xs.take (i + 1)) = rBr (xs.take i) + if xs[i] = 124 then 1 else 0 := by
  unfold rBr
  rw [take_s h, List.countP_append, List.countP_singleton]
  simp only [beq_iff_eq]
theorem rKy_s {xs : List Int} {i : Nat} (h : i < xs.length) : rKy (xs.take (i + 1)) = rKy (xs.take i) + if xs[i] = 124 then 0 else 1 := by
  unfold rKy
  rw [take_s h, List.countP_append, List.countP_singleton]
  by_cases e : xs[i] = 124
  · simp [e]
  · simp [e]
theorem rBr_le {xs : List Int} {i : Nat} : rBr (xs.take i) ≤ i := Nat.le_trans List.countP_le_length (by rw [List.length_take]; omega)
theorem rKy_le {xs : List Int} {i : Nat} : rKy (xs.take i) ≤ i := Nat.le_trans List.countP_le_length (by rw [List.length_take]; omega)
theorem c_breaks {L : zY} {m : zM} {Q : zQ} {o : Nat} {row : List Int} {caret ov : Int} (h : zRw L m o row caret ov) (k : Q (some (zI (rBr row : Nat))) L m) : zwp 50 0 [zA o, zU, zU] [] L m Q := by
  obtain ⟨a1, a2, a3, a4, a5, a6, a7, a8, a9, a10⟩ := h
  simp only [s50_0, s50_1, s50_2, s50_3]
  refine zfor (n := row.length) (fun i => [zA o, zI (rBr (row.take i) : Nat), zI (i : Nat)]) (fun _ m' => m' = m) ?_ ?_ 0 m (Nat.zero_le _) rfl
  · rintro i _ hi rfl ih
    have ih := ih _ rfl
    have b := rBr_le (xs := row) (i := i)
    rw [rBr_s hi] at ih
    simp only [s50_4]
    simp only [s50_0, s50_1, s50_2, s50_3, s50_5, s50_6, s50_9, s50_12, s50_13, s50_16, s50_17, s50_18, s50_20, s50_23, s50_26, s50_29, s50_32, s50_33, Int.toNat_natCast, true_and, and_true, true_or, or_true, false_or, or_false, zwr_id, zpu_some, zpu_none, reduceIte, Int.reduceLE, Int.reduceLT, Int.reduceEq, Int.reduceNeg, Int.reduceAdd, Int.reduceSub, Int.reduceMul, Int.reduceToNat, Nat.reduceAdd, Nat.reduceLeDiff, Nat.reduceEqDiff, Nat.reduceLT, eq_self, ne_eq, not_false_eq_true, not_true_eq_false, a1, a3, a4, a5, a6, zAL_get0 a10 hi, (z1 (i := i) (by omega)), (z1 (i := rBr (row.take i)) (by omega))]
    rw [if_neg (by omega)]
    refine ⟨by omega, ?_⟩
    by_cases e : row[i] = 124
    · rw [if_pos e]
      rw [if_pos e] at ih
      exact ih
    · rw [if_neg e]
      rw [if_neg e] at ih
      exact ih
  · rintro _ rfl
    rw [List.take_length]
    simp only [s50_4]
    simp only [s50_0, s50_1, s50_2, s50_3, s50_5, s50_6, s50_9, s50_12, s50_13, s50_16, s50_17, s50_18, s50_20, s50_23, s50_26, s50_29, s50_32, s50_33, Int.toNat_natCast, true_and, and_true, true_or, or_true, false_or, or_false, zwr_id, zpu_some, zpu_none, reduceIte, Int.reduceLE, Int.reduceLT, Int.reduceEq, Int.reduceNeg, Int.reduceAdd, Int.reduceSub, Int.reduceMul, Int.reduceToNat, Nat.reduceAdd, Nat.reduceLeDiff, Nat.reduceEqDiff, Nat.reduceLT, eq_self, ne_eq, not_false_eq_true, not_true_eq_false, a1, a6]
    rw [if_pos (by omega)]
    exact k
theorem c_kahead {L : zY} {m : zM} {Q : zQ} {o c : Nat} {row : List Int} {ov : Int} (h : zRw L m o row (c : Int) ov) (hc : c ≤ row.length) (k : Q (some (zI (rKy (row.take c) : Nat))) L m) : zwp 51 0 [zA o, zU, zU] [] L m Q := by
  obtain ⟨a1, a2, a3, a4, a5, a6, a7, a8, a9, a10⟩ := h
  simp only [s51_0, s51_1, s51_2, s51_3]
  refine zfor (n := c) (fun i => [zA o, zI (rKy (row.take i) : Nat), zI (i : Nat)]) (fun _ m' => m' = m) ?_ ?_ 0 m (Nat.zero_le _) rfl
  · rintro i _ hi' rfl ih
    have hi : i < row.length := by omega
    have ih := ih _ rfl
    have b := rKy_le (xs := row) (i := i)
    rw [rKy_s hi] at ih
    simp only [s51_4]
    simp only [s51_0, s51_1, s51_2, s51_3, s51_5, s51_6, s51_9, s51_12, s51_13, s51_14, s51_17, s51_20, s51_21, s51_24, s51_25, s51_26, s51_28, s51_31, s51_34, s51_37, s51_40, s51_41, Int.toNat_natCast, true_and, and_true, true_or, or_true, false_or, or_false, zwr_id, zpu_some, zpu_none, reduceIte, Int.reduceLE, Int.reduceLT, Int.reduceEq, Int.reduceNeg, Int.reduceAdd, Int.reduceSub, Int.reduceMul, Int.reduceToNat, Nat.reduceAdd, Nat.reduceLeDiff, Nat.reduceEqDiff, Nat.reduceLT, eq_self, ne_eq, not_false_eq_true, not_true_eq_false, a1, a3, a4, a5, a6, a8, zAL_get0 a10 hi, (z1 (i := i) (by omega)), (z1 (i := rKy (row.take i)) (by omega))]
    rw [if_neg (by omega), if_neg (by omega)]
    refine ⟨by omega, ?_⟩
    by_cases e : row[i] = 124
    · rw [if_pos e]
      rw [if_pos e] at ih
      exact ih
    · rw [if_neg e]
      rw [if_neg e] at ih
      exact ih
  · rintro _ rfl
    simp only [s51_4]
    simp only [s51_0, s51_1, s51_2, s51_3, s51_5, s51_6, s51_9, s51_12, s51_13, s51_14, s51_17, s51_20, s51_21, s51_24, s51_25, s51_26, s51_28, s51_31, s51_34, s51_37, s51_40, s51_41, Int.toNat_natCast, true_and, and_true, true_or, or_true, false_or, or_false, zwr_id, zpu_some, zpu_none, reduceIte, Int.reduceLE, Int.reduceLT, Int.reduceEq, Int.reduceNeg, Int.reduceAdd, Int.reduceSub, Int.reduceMul, Int.reduceToNat, Nat.reduceAdd, Nat.reduceLeDiff, Nat.reduceEqDiff, Nat.reduceLT, eq_self, ne_eq, not_false_eq_true, not_true_eq_false, a1, a8]
    rw [if_pos (by omega)]
    exact k
/-- the first place that has n KEYS ahead of it -/
def pBk : List Int → Nat → Nat
  | [], _ => 0
  | x :: t, n => if n = 0 then 0 else 1 + pBk t (if x = 124 then n else n - 1)
theorem c_pbk_loop {L : zY} {m : zM} {Q : zQ} {o : Nat} {row : List Int} {caret ov w : Int} (h : zRw L m o row caret ov) : ∀ (d i n : Nat), row.length - i = d → i ≤ row.length → n < 1000 → Q (some (zI (i + pBk (row.drop i) n : Nat))) L m → zwp 52 4 [zA o, zI w, zI (n : Nat), zI (i : Nat)] [] L m Q := by
  obtain ⟨a1, a2, a3, a4, a5, a6, a7, a8, a9, a10⟩ := h
  intro d
  induction d with
  | zero =>
    intro i n hd hi hn k
    have e : i = row.length := by omega
    subst e
    rw [List.drop_length] at k
    simp only [s52_4]
    simp only [s52_0, s52_1, s52_2, s52_3, s52_5, s52_8, s52_9, s52_10, s52_13, s52_16, s52_17, s52_20, s52_21, s52_22, s52_24, s52_27, s52_30, s52_33, s52_36, s52_37, Int.toNat_natCast, true_and, and_true, true_or, or_true, false_or, or_false, zwr_id, zpu_some, zpu_none, reduceIte, Int.reduceLE, Int.reduceLT, Int.reduceEq, Int.reduceNeg, Int.reduceAdd, Int.reduceSub, Int.reduceMul, Int.reduceToNat, Nat.reduceAdd, Nat.reduceLeDiff, Nat.reduceEqDiff, Nat.reduceLT, eq_self, ne_eq, not_false_eq_true, not_true_eq_false, a1, a6]
    by_cases h0 : n = 0
    · rw [if_pos (by omega)]; exact k
    · rw [if_neg (by omega), if_pos (by omega)]; exact k
  | succ d ih =>
    intro i n hd hi hn k
    have hi : i < row.length := by omega
    rw [List.drop_eq_getElem_cons hi, pBk] at k
    simp only [s52_4]
    by_cases h0 : n = 0
    · simp only [s52_0, s52_1, s52_2, s52_3, s52_5, s52_8, s52_9, s52_10, s52_13, s52_16, s52_17, s52_20, s52_21, s52_22, s52_24, s52_27, s52_30, s52_33, s52_36, s52_37, Int.toNat_natCast, true_and, and_true, true_or, or_true, false_or, or_false, zwr_id, zpu_some, zpu_none, reduceIte, Int.reduceLE, Int.reduceLT, Int.reduceEq, Int.reduceNeg, Int.reduceAdd, Int.reduceSub, Int.reduceMul, Int.reduceToNat, Nat.reduceAdd, Nat.reduceLeDiff, Nat.reduceEqDiff, Nat.reduceLT, eq_self, ne_eq, not_false_eq_true, not_true_eq_false, a1, a6]
      rw [if_pos (by omega)]
      rw [if_pos h0] at k
      exact k
    · rw [if_neg h0] at k
      simp only [s52_0, s52_1, s52_2, s52_3, s52_5, s52_8, s52_9, s52_10, s52_13, s52_16, s52_17, s52_20, s52_21, s52_22, s52_24, s52_27, s52_30, s52_33, s52_36, s52_37, Int.toNat_natCast, true_and, and_true, true_or, or_true, false_or, or_false, zwr_id, zpu_some, zpu_none, reduceIte, Int.reduceLE, Int.reduceLT, Int.reduceEq, Int.reduceNeg, Int.reduceAdd, Int.reduceSub, Int.reduceMul, Int.reduceToNat, Nat.reduceAdd, Nat.reduceLeDiff, Nat.reduceEqDiff, Nat.reduceLT, eq_self, ne_eq, not_false_eq_true, not_true_eq_false, a1, a3, a4, a5, a6, zAL_get0 a10 hi, (z1 (i := i) (by omega)), (show zwr ((n : Int) + -1) = ((n - 1 : Nat) : Int) by rw [zwr_id (by omega) (by omega)]; omega)]
      rw [if_neg (by omega), if_neg (by omega)]
      refine ⟨by omega, ?_⟩
      by_cases e : row[i] = 124
      · rw [if_pos e]
        rw [if_pos e, ← Nat.add_assoc] at k
        exact ih (i + 1) n (by omega) (by omega) hn k
      · rw [if_neg e]
        rw [if_neg e, ← Nat.add_assoc] at k
        exact ih (i + 1) (n - 1) (by omega) (by omega) (by omega) k
theorem c_pbk {L : zY} {m : zM} {Q : zQ} {o n : Nat} {row : List Int} {caret ov : Int} (h : zRw L m o row caret ov) (hn : n < 1000) (k : Q (some (zI (pBk row n : Nat))) L m) : zwp 52 0 [zA o, zI (n : Nat), zU, zU] [] L m Q := by
  simp only [s52_0, s52_1, s52_2, s52_3]
  exact c_pbk_loop h _ 0 n rfl (Nat.zero_le _) hn (by rw [Nat.zero_add]; exact k)
theorem c_copy {L : zY} {m : zM} {Q : zQ} {o p : Nat} {row row' : List Int} {caret ov caret' ov' : Int} (h : zRw L m o row caret ov) (h' : zRw L m p row' caret' ov') (hd : p + 1 < o ∨ o + 1 < p) (k : ∀ m', zRw L m' o row' 0 0 → zFR o (o + 1) m m' → Q none L m') : zwp 53 0 [zA o, zA p, zU] [] L m Q := by
  obtain ⟨a1, a2, a3, a4, a5, a6, a7, a8, a9, a10⟩ := id h'
  simp only [s53_0, s53_1, h.1, true_and]
  refine c_Rclear h (fun m1 g1 f1 => ?_)
  simp (disch := omega) only [s53_0, s53_1, s53_4, s53_5, zpu_none, zpu_some]
  refine zfor (n := row'.length) (fun i => [zA o, zA p, zI (i : Nat)]) (fun i m' => zRw L m' o (row'.take i) 0 0 ∧ zFR o (o + 1) m m') ?_ ?_ 0 m1 (Nat.zero_le _) ⟨g1, f1⟩
  · rintro i m2 hi ⟨g2, f2⟩ ih
    have fr : ∀ a, (a < o ∨ o + 1 < a) → m2 a = m a := fun a ha => zFR_at f2 ha
    have hp : zRw L m2 p row' caret' ov' := zRw_eq (fr _ (by omega)) (fr _ (by omega)) h'
    have b6 := hp.2.2.2.2.2.1
    simp only [s53_6]
    simp only [s53_0, s53_1, s53_4, s53_5, s53_7, s53_8, s53_11, s53_14, s53_15, s53_16, s53_17, s53_20, s53_23, s53_26, s53_29, Int.toNat_natCast, true_and, and_true, true_or, or_true, false_or, or_false, zwr_id, zpu_some, zpu_none, reduceIte, Int.reduceLE, Int.reduceLT, Int.reduceEq, Int.reduceNeg, Int.reduceAdd, Int.reduceSub, Int.reduceMul, Int.reduceToNat, Nat.reduceAdd, Nat.reduceLeDiff, Nat.reduceEqDiff, Nat.reduceLT, eq_self, ne_eq, not_false_eq_true, not_true_eq_false, a1, b6, x_signAt hp hi, h.1]
    rw [if_neg (by omega)]
    refine c_Rappend g2 (by rw [List.length_take]; omega) (fun m3 g3 f3 => ?_)
    simp only [s53_0, s53_1, s53_4, s53_5, s53_7, s53_8, s53_11, s53_14, s53_15, s53_16, s53_17, s53_20, s53_23, s53_26, s53_29, Int.toNat_natCast, true_and, and_true, true_or, or_true, false_or, or_false, zwr_id, zpu_some, zpu_none, reduceIte, Int.reduceLE, Int.reduceLT, Int.reduceEq, Int.reduceNeg, Int.reduceAdd, Int.reduceSub, Int.reduceMul, Int.reduceToNat, Nat.reduceAdd, Nat.reduceLeDiff, Nat.reduceEqDiff, Nat.reduceLT, eq_self, ne_eq, not_false_eq_true, not_true_eq_false, (z1 (i := i) (by omega))]
    rw [← take_s hi] at g3
    exact ih m3 ⟨g3, zFR_tr f2 f3⟩
  · rintro m2 ⟨g2, f2⟩
    have hp : zRw L m2 p row' caret' ov' := zRw_eq (zFR_at f2 (by omega)) (zFR_at f2 (by omega)) h'
    have b6 := hp.2.2.2.2.2.1
    rw [List.take_length] at g2
    simp only [s53_6]
    simp only [s53_0, s53_1, s53_4, s53_5, s53_7, s53_8, s53_11, s53_14, s53_15, s53_16, s53_17, s53_20, s53_23, s53_26, s53_29, Int.toNat_natCast, true_and, and_true, true_or, or_true, false_or, or_false, zwr_id, zpu_some, zpu_none, reduceIte, Int.reduceLE, Int.reduceLT, Int.reduceEq, Int.reduceNeg, Int.reduceAdd, Int.reduceSub, Int.reduceMul, Int.reduceToNat, Nat.reduceAdd, Nat.reduceLeDiff, Nat.reduceEqDiff, Nat.reduceLT, eq_self, ne_eq, not_false_eq_true, not_true_eq_false, a1, b6]
    rw [if_pos (by omega)]
    exact k m2 g2 f2
