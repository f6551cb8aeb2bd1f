theorem c_anew_loop {L : zY} {Q : zQ} {X o ro sc N : Nat} {row : List Int} {caret ov : Int} {P : zP} (hT : zt L X = 10) (hP : zPk P N) (hd : o + 9 < sc ∨ sc + 25 < o) (hr : ro + 1 < o ∨ o + 9 < ro) (hx : X < o ∨ o + 9 < X) : ∀ (d i : Nat) (m : zM) (s : zMS), row.length - i = d → zRw L m ro row caret ov → m X 2 = (ro : Int) → m X 4 = (o : Int) → m X 9 = (sc : Int) → zSC L m sc P → zSE L m sc P N → zRC L m o s → msX N s → s.2.2.1.length + d ≤ 80 → (∀ m', zRC L m' o (kGo P (row.drop i) s) → msX N (kGo P (row.drop i) s) → zFR o (o + 9) m m' → zwp 122 45 [zA X, zI (row.length : Int)] [] L m' Q) → i ≤ row.length → zwp 122 9 [zA X, zI (i : Int)] [] L m Q := by
  intro d
  induction d with
  | zero =>
    intro i m s hdd hRw h2 h4 h9 hS hSE hC hX hl k hil
    obtain ⟨a1, a2, a3, a4, a5, a6, a7, a8, a9, a10⟩ := id hRw
    have e : i = row.length := by omega
    subst e
    rw [List.drop_length] at k
    have kk := k m hC hX zFR_rf
    rw [s122_9]
    simp (disch := omega) only [s122_10, s122_11, s122_14, s122_17, s122_20, s122_21, s122_24, s122_25, s122_28, s122_29, s122_32, s122_33, s122_36, s122_39, s122_42, Int.toNat_natCast, true_and, and_true, true_or, or_true, false_or, or_false, zwr_id, zpu_some, zpu_none, reduceIte, Int.reduceLE, Int.reduceLT, Int.reduceEq, Int.reduceNeg, Int.reduceAdd, Int.reduceSub, Int.reduceMul, Int.reduceToNat, Nat.reduceAdd, Nat.reduceLeDiff, Nat.reduceEqDiff, Nat.reduceLT, eq_self, ne_eq, not_false_eq_true, not_true_eq_false, hT, h2, a1, a6]
    rw [if_pos (by omega)]
    exact kk
  | succ d ih =>
    intro i m s hdd hRw h2 h4 h9 hS hSE hC hX hl k hil
    obtain ⟨a1, a2, a3, a4, a5, a6, a7, a8, a9, a10⟩ := id hRw
    have hi : i < row.length := by omega
    rw [List.drop_eq_getElem_cons hi] at k
    rw [s122_9]
    simp (disch := omega) only [s122_10, s122_11, s122_14, s122_17, s122_20, s122_21, s122_24, s122_25, s122_28, s122_29, s122_32, s122_33, s122_36, s122_39, s122_42, Int.toNat_natCast, true_and, and_true, true_or, or_true, false_or, or_false, zwr_id, zpu_some, zpu_none, reduceIte, Int.reduceLE, Int.reduceLT, Int.reduceEq, Int.reduceNeg, Int.reduceAdd, Int.reduceSub, Int.reduceMul, Int.reduceToNat, Nat.reduceAdd, Nat.reduceLeDiff, Nat.reduceEqDiff, Nat.reduceLT, eq_self, ne_eq, not_false_eq_true, not_true_eq_false, hT, h2, h4, h9, a1, a6, x_signAt hRw hi, hC.1.1]
    rw [if_neg (by omega)]
    refine c_take hC hX hS hSE hP hd (by omega) (fun m' g1 g2 g3 => ?_)
    have e : zwr ((i : Int) + 1) = ((i + 1 : Nat) : Int) := by rw [zwr_id (by omega) (by omega)]; omega
    simp only [s122_10, s122_11, s122_14, s122_17, s122_20, s122_21, s122_24, s122_25, s122_28, s122_29, s122_32, s122_33, s122_36, s122_39, s122_42, Int.toNat_natCast, true_and, and_true, true_or, or_true, false_or, or_false, zwr_id, zpu_some, zpu_none, reduceIte, Int.reduceLE, Int.reduceLT, Int.reduceEq, Int.reduceNeg, Int.reduceAdd, Int.reduceSub, Int.reduceMul, Int.reduceToNat, Nat.reduceAdd, Nat.reduceLeDiff, Nat.reduceEqDiff, Nat.reduceLT, eq_self, ne_eq, not_false_eq_true, not_true_eq_false, e]
    clear e
    have fr : ∀ a, (a < o ∨ o + 9 < a) → m' a = m a := fun a ha => zFR_at g3 ha
    refine ih (i + 1) m' _ (by omega) (zRw_eq (fr _ (by omega)) (fr _ (by omega)) hRw) (by rw [fr _ (by omega)]; exact h2) (by rw [fr _ (by omega)]; exact h4) (by rw [fr _ (by omega)]; exact h9) (zSC_eq (fun a p q => fr a (by omega)) hS) (zSE_eq (fun a p q => fr a (by omega)) hSE) g1 g2 (by rw [kSign_len hX.1]; omega) (fun m2 q1 q2 q3 => k m2 q1 q2 (zFR_tr g3 q3)) (by omega)
theorem c_anew {L : zY} {m : zM} {Q : zQ} {X o ro sc N : Nat} {row : List Int} {caret ov : Int} {P : zP} (hT : zt L X = 10) (hP : zPk P N) (hd : o + 9 < sc ∨ sc + 25 < o) (hr : ro + 1 < o ∨ o + 9 < ro) (hx : X < o ∨ o + 9 < X) (hRw : zRw L m ro row caret ov) (h2 : m X 2 = (ro : Int)) (h4 : m X 4 = (o : Int)) (h9 : m X 9 = (sc : Int)) (hS : zSC L m sc P) (hSE : zSE L m sc P N) (hR : zRL L m o) (k : ∀ m', zRC L m' o (kRun P row) → msX N (kRun P row) → zFR o (o + 9) m m' → Q (some (zI ((msI (kRun P row)).length : Int))) L (zup (zup m' X 14 0) X 13 (-1))) : zwp 122 0 [zA X, zU] [] L m Q := by
  have r1 := hR.1
  have hlen := hRw.2.2.2.2.2.2.1
  simp (disch := omega) only [s122_0, s122_1, s122_4, s122_7, s122_8, Int.toNat_natCast, true_and, and_true, true_or, or_true, false_or, or_false, zwr_id, zpu_some, zpu_none, reduceIte, Int.reduceLE, Int.reduceLT, Int.reduceEq, Int.reduceNeg, Int.reduceAdd, Int.reduceSub, Int.reduceMul, Int.reduceToNat, Nat.reduceAdd, Nat.reduceLeDiff, Nat.reduceEqDiff, Nat.reduceLT, eq_self, ne_eq, not_false_eq_true, not_true_eq_false, hT, h4, r1]
  refine c_clear hR (fun m1 g1 g2 => ?_)
  simp (disch := omega) only [s122_0, s122_1, s122_4, s122_7, s122_8, Int.toNat_natCast, true_and, and_true, true_or, or_true, false_or, or_false, zwr_id, zpu_some, zpu_none, reduceIte, Int.reduceLE, Int.reduceLT, Int.reduceEq, Int.reduceNeg, Int.reduceAdd, Int.reduceSub, Int.reduceMul, Int.reduceToNat, Nat.reduceAdd, Nat.reduceLeDiff, Nat.reduceEqDiff, Nat.reduceLT, eq_self, ne_eq, not_false_eq_true, not_true_eq_false]
  have fr : ∀ a, (a < o ∨ o + 9 < a) → m1 a = m a := fun a ha => zFR_at g2 ha
  refine c_anew_loop hT hP hd hr hx row.length 0 m1 ms0 (by omega) (zRw_eq (fr _ (by omega)) (fr _ (by omega)) hRw) (by rw [fr _ (by omega)]; exact h2) (by rw [fr _ (by omega)]; exact h4) (by rw [fr _ (by omega)]; exact h9) (zSC_eq (fun a p q => fr a (by omega)) hS) (zSE_eq (fun a p q => fr a (by omega)) hSE) g1 ms0_ok (by show 0 + row.length ≤ 80; omega) (fun m2 q1 q2 q3 => ?_) (by omega)
  have f2 : ∀ a, (a < o ∨ o + 9 < a) → m2 a = m a := fun a ha => by rw [zFR_at q3 ha, fr a ha]
  have e4 : m2 X 4 = (o : Int) := by rw [f2 _ (by omega)]; exact h4
  have i0 := q1.2.1.1
  simp (disch := omega) only [s122_45, s122_46, s122_47, s122_50, s122_53, s122_56, s156_0, s156_1, s156_2, s156_5, s156_6, s156_7, s156_10, s156_11, Int.toNat_natCast, true_and, and_true, true_or, or_true, false_or, or_false, zwr_id, zpu_some, zpu_none, reduceIte, Int.reduceLE, Int.reduceLT, Int.reduceEq, Int.reduceNeg, Int.reduceAdd, Int.reduceSub, Int.reduceMul, Int.reduceToNat, Nat.reduceAdd, Nat.reduceLeDiff, Nat.reduceEqDiff, Nat.reduceLT, eq_self, ne_eq, not_false_eq_true, not_true_eq_false, hT, e4, r1, i0]
  exact k m2 q1 q2 (zFR_tr g2 q3)
