def kGo (P : zP) (xs : List Int) (s : zMS) : zMS := xs.foldl (fun s x => kSign P x s) s
theorem zFR_at {lo hi : Nat} {m m' : zM} (h : zFR lo hi m m') {a : Nat} (ha : a < lo ∨ hi < a) : m' a = m a := h a ha
theorem c_range_loop {L : zY} {Q : zQ} {X o ro sc N b : Nat} {l2 : zV} {row : List Int} {caret ov : Int} {P : zP} (hT : zt L X = 10) (hP : zPk P N) (hd : o + 9 < sc ∨ sc + 25 < o) (hr : ro + 1 < o ∨ o + 9 < ro) (hx : X < o ∨ o + 9 < X) : ∀ (d i : Nat) (m : zM) (s : zMS), min b row.length - i = d → zRw L m ro row caret ov → m X 2 = (ro : Int) → m X 9 = (sc : Int) → zSC L m sc P → zSE L m sc P N → zRC L m o s → msX N s → s.2.2.1.length + d ≤ 80 → (∀ m', zRC L m' o (kGo P ((row.drop i).take (b - i)) s) → msX N (kGo P ((row.drop i).take (b - i)) s) → zFR o (o + 9) m m' → Q none L m') → zwp 123 3 [zA X, zA o, l2, zI (b : Int), zI (i : Int)] [] L m Q := by
  intro d
  induction d with
  | zero =>
    intro i m s hdd hRw h2 h9 hS hSE hC hX hl k
    obtain ⟨a1, a2, a3, a4, a5, a6, a7, a8, a9, a10⟩ := id hRw
    have hnil : (row.drop i).take (b - i) = [] := by
      by_cases hb : b ≤ i
      · rw [Nat.sub_eq_zero_of_le hb, List.take_zero]
      · rw [List.drop_eq_nil_of_le (by omega), List.take_nil]
    rw [hnil] at k
    have kk := k m hC hX zFR_rf
    rw [s123_3]
    by_cases hb : b ≤ i
    · simp (disch := omega) only [s123_0, s123_1, s123_5, s123_6, s123_9, s123_11, s123_12, s123_15, s123_18, s123_21, s123_22, s123_23, s123_26, s123_27, s123_30, s123_32, s123_35, s123_38, s123_41, s123_44, Int.toNat_natCast, true_and, and_true, true_or, or_true, false_or, or_false, zwr_id, zpu_some, zpu_none, reduceIte, Int.reduceLE, Int.reduceLT, Int.reduceEq, Int.reduceNeg, Int.reduceAdd, Int.reduceSub, Int.reduceMul, Int.reduceToNat, Nat.reduceAdd, Nat.reduceLeDiff, Nat.reduceEqDiff, Nat.reduceLT, eq_self, ne_eq, not_false_eq_true, not_true_eq_false, hT, h2, a1, a6]
      rw [if_pos (by omega)]
      exact kk
    · simp (disch := omega) only [s123_0, s123_1, s123_5, s123_6, s123_9, s123_11, s123_12, s123_15, s123_18, s123_21, s123_22, s123_23, s123_26, s123_27, s123_30, s123_32, s123_35, s123_38, s123_41, s123_44, Int.toNat_natCast, true_and, and_true, true_or, or_true, false_or, or_false, zwr_id, zpu_some, zpu_none, reduceIte, Int.reduceLE, Int.reduceLT, Int.reduceEq, Int.reduceNeg, Int.reduceAdd, Int.reduceSub, Int.reduceMul, Int.reduceToNat, Nat.reduceAdd, Nat.reduceLeDiff, Nat.reduceEqDiff, Nat.reduceLT, eq_self, ne_eq, not_false_eq_true, not_true_eq_false, hT, h2, a1, a6]
      rw [if_neg (by omega), if_pos (by omega)]
      exact kk
  | succ d ih =>
    intro i m s hdd hRw h2 h9 hS hSE hC hX hl k
    obtain ⟨a1, a2, a3, a4, a5, a6, a7, a8, a9, a10⟩ := id hRw
    have hi : i < row.length := by omega
    have hib : i < b := by omega
    have hcons : (row.drop i).take (b - i) = row[i] :: (row.drop (i + 1)).take (b - (i + 1)) := by
      rw [List.drop_eq_getElem_cons hi, show b - i = (b - (i + 1)) + 1 by omega, List.take_succ_cons]
    rw [hcons] at k
    rw [s123_3]
    simp (disch := omega) only [s123_0, s123_1, s123_5, s123_6, s123_9, s123_11, s123_12, s123_15, s123_18, s123_21, s123_22, s123_23, s123_26, s123_27, s123_30, s123_32, s123_35, s123_38, s123_41, s123_44, Int.toNat_natCast, true_and, and_true, true_or, or_true, false_or, or_false, zwr_id, zpu_some, zpu_none, reduceIte, Int.reduceLE, Int.reduceLT, Int.reduceEq, Int.reduceNeg, Int.reduceAdd, Int.reduceSub, Int.reduceMul, Int.reduceToNat, Nat.reduceAdd, Nat.reduceLeDiff, Nat.reduceEqDiff, Nat.reduceLT, eq_self, ne_eq, not_false_eq_true, not_true_eq_false, hT, h2, h9, a1, a6, x_signAt hRw hi, hC.1.1]
    rw [if_neg (by omega), if_neg (by omega)]
    refine c_take hC hX hS hSE hP hd (by omega) (fun m' g1 g2 g3 => ?_)
    have e : zwr ((i : Int) + 1) = ((i + 1 : Nat) : Int) := by rw [zwr_id (by omega) (by omega)]; omega
    simp only [s123_0, s123_1, s123_5, s123_6, s123_9, s123_11, s123_12, s123_15, s123_18, s123_21, s123_22, s123_23, s123_26, s123_27, s123_30, s123_32, s123_35, s123_38, s123_41, s123_44, Int.toNat_natCast, true_and, and_true, true_or, or_true, false_or, or_false, zwr_id, zpu_some, zpu_none, reduceIte, Int.reduceLE, Int.reduceLT, Int.reduceEq, Int.reduceNeg, Int.reduceAdd, Int.reduceSub, Int.reduceMul, Int.reduceToNat, Nat.reduceAdd, Nat.reduceLeDiff, Nat.reduceEqDiff, Nat.reduceLT, eq_self, ne_eq, not_false_eq_true, not_true_eq_false, e]
    clear e
    have fr : ∀ a, (a < o ∨ o + 9 < a) → m' a = m a := fun a ha => zFR_at g3 ha
    refine ih (i + 1) m' _ (by omega) (zRw_eq (fr _ (by omega)) (fr _ (by omega)) hRw) (by rw [fr _ (by omega)]; exact h2) (by rw [fr _ (by omega)]; exact h9) (zSC_eq (fun a p q => fr a (by omega)) hS) (zSE_eq (fun a p q => fr a (by omega)) hSE) g1 g2 (by rw [kSign_len hX.1]; omega) (fun m2 q1 q2 q3 => k m2 q1 q2 (zFR_tr g3 q3))
