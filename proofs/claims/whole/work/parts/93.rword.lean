theorem zw_let : ∀ j, j < 14 → isL ((zwords.getD j []).getD 0 0) = true ∧ 3 ≤ zwlen j := by decide +kernel
theorem c_rword {L : zY} {m : zM} {Q : zQ} {xs : List Int} {s j : Nat} (ht : zMt L) (hn : zMn L) (hp : zMp m) (hR : rRd m xs s (tkE xs s) (tkT xs s)) (hs : s ≤ xs.length) (hj : j < 14) (k : Q (some (zI (if (xs.drop s).take (tkE xs s - s) = zwords.getD j [] then 1 else 0))) L m) : zwp 170 0 [zA 332, zS 0 j, zU] [] L m Q := by
  obtain ⟨h14, h15, h16, h17, h3, hA, hb⟩ := hR
  have t0 := mt332 ht
  have t3 := mt333 ht
  have n3 := mn333 hn
  have q4 : m 332 4 = ((333 : Nat) : Int) := mp4 hp
  have hE := tkE_le hs
  have hw5 := zw_le j hj
  have hwl := zw_let j hj
  have two : (xs.drop s).take (tkE xs s - s) = zwords.getD j [] → tkT xs s = 2 := fun h => by
    have hl := congrArg List.length h
    rw [List.length_take, List.length_drop] at hl
    have hl : min (tkE xs s - s) (xs.length - s) = zwlen j := hl
    have h0 := (tok_eq (w := zwords.getD j []) hE.1 hE.2.1 (show tkE xs s - s = zwlen j by omega)).mp h 0 (by show 0 < zwlen j; omega)
    unfold tkT
    rw [if_neg (by omega), if_pos (by rw [Nat.add_zero] at h0; rw [h0]; exact hwl.1), if_neg (by omega)]
  simp only [s170_0, s170_1, s170_4, Int.toNat_natCast, true_and, and_true, true_or, or_true, false_or, or_false, zwr_id, zpu_some, zpu_none, reduceIte, Int.reduceLE, Int.reduceLT, Int.reduceEq, Int.reduceNeg, Int.reduceAdd, Int.reduceSub, Int.reduceMul, Int.reduceToNat, Nat.reduceAdd, Nat.reduceLeDiff, Nat.reduceEqDiff, Nat.reduceLT, eq_self, ne_eq, not_false_eq_true, not_true_eq_false, t0, h17]
  simp only [s170_5]
  by_cases h2 : tkT xs s = 2
  · rw [if_pos h2]
    clear two
    generalize tkE xs s = e at *
    simp only [s170_8, s170_9, s170_12, s170_13, s170_16, s170_17, s170_18, Int.toNat_natCast, true_and, and_true, zpu_some, zpu_none, t0, h15, h16, x_wlen hj, (show zwr ((e : Int) - (s : Int)) = ((e - s : Nat) : Int) by rw [zwr_id (by omega) (by omega)]; omega)]
    simp only [s170_21]
    by_cases hl : e - s = zwlen j
    · rw [if_pos (by omega)]
      obtain ⟨c1, c2, c3⟩ := fC_spec (p := fun i => decide (xs.getD (s + i) 0 = (zwords.getD j []).getD i 0)) (zwlen j) 0
      have teq := tok_eq (w := zwords.getD j []) hE.1 hE.2.1 hl
      rw [Nat.zero_add] at c2 c3
      generalize fC (fun i => decide (xs.getD (s + i) 0 = (zwords.getD j []).getD i 0)) (zwlen j) 0 = v at *
      simp only [s170_26, s170_27]
      have at1 : ∀ i, i < zwlen j → m 333 (s + i) = xs.getD (s + i) 0 := fun i hi => by rw [zAL_get0 hA (show s + i < xs.length by omega), getD_lt (show s + i < xs.length by omega)]
      refine zfor (n := v) (fun i => [zA 332, zS 0 j, zI (i : Nat)]) (fun i m' => m' = m) ?_ ?_ 0 m (Nat.zero_le _) rfl
      · rintro i _ hi rfl ih
        have ih := ih _ rfl
        have c2 := of_decide_eq_true (c2 i (Nat.zero_le _) hi)
        have hij : i < zwlen j := by omega
        have n1 : ¬ (zwlen j : Int) ≤ (i : Int) := by omega
        have iv : i < 1000000 := by omega
        have hr : 0 ≤ ((s + i : Nat) : Int) ∧ ((s + i : Nat) : Int) < ((300 : Nat) : Int) := by omega
        simp only [s170_28]
        simp only [s170_29, s170_30, s170_33, s170_36, s170_37, s170_40, s170_41, s170_44, s170_45, s170_46, s170_47, s170_48, s170_49, s170_52, s170_55, s170_56, s170_57, s170_60, Int.toNat_natCast, true_and, and_true, zpu_some, zpu_none, and_self, t0, q4, h15, t3, n3, x_wlen hj, n1, reduceIte, (show zwr ((s : Int) + (i : Int)) = ((s + i : Nat) : Int) by rw [zwr_id (by omega) (by omega)]; omega), hr, at1 i hij, x_wch hj hij, c2, z1 iv]
        exact ih
      · rintro _ rfl
        simp only [s170_28]
        by_cases hv : v = zwlen j
        · rw [if_pos (teq.mpr (fun i hi => of_decide_eq_true (c2 i (Nat.zero_le _) (by rw [hv]; exact hi))))] at k
          simp only [s170_29, s170_30, s170_33, s170_63, s170_64, Int.toNat_natCast, true_and, and_true, true_or, or_true, false_or, or_false, zwr_id, zpu_some, zpu_none, reduceIte, Int.reduceLE, Int.reduceLT, Int.reduceEq, Int.reduceNeg, Int.reduceAdd, Int.reduceSub, Int.reduceMul, Int.reduceToNat, Nat.reduceAdd, Nat.reduceLeDiff, Nat.reduceEqDiff, Nat.reduceLT, eq_self, ne_eq, not_false_eq_true, not_true_eq_false, x_wlen hj, show (zwlen j : Int) ≤ (v : Int) by omega]
          exact k
        · have c3 := of_decide_eq_false (c3.resolve_left hv)
          have hvl : v < zwlen j := by omega
          rw [if_neg (fun h => c3 (teq.mp h v hvl))] at k
          have n1 : ¬ (zwlen j : Int) ≤ (v : Int) := by omega
          have hr : 0 ≤ ((s + v : Nat) : Int) ∧ ((s + v : Nat) : Int) < ((300 : Nat) : Int) := by omega
          simp only [s170_29, s170_30, s170_33, s170_36, s170_37, s170_40, s170_41, s170_44, s170_45, s170_46, s170_47, s170_48, s170_49, s170_52, s170_55, s170_56, Int.toNat_natCast, true_and, and_true, true_or, zpu_some, zpu_none, and_self, t0, q4, h15, t3, n3, x_wlen hj, n1, reduceIte, (show zwr ((s : Int) + (v : Int)) = ((s + v : Nat) : Int) by rw [zwr_id (by omega) (by omega)]; omega), hr, at1 v hvl, x_wch hj hvl, c3]
          exact k
    · rw [if_neg (by omega)]
      rw [if_neg (fun h => hl (by have := congrArg List.length h; rw [List.length_take, List.length_drop] at this; show e - s = (zwords.getD j []).length; omega))] at k
      simp only [s170_24, s170_25, Int.toNat_natCast, true_and, and_true, true_or, or_true, false_or, or_false, zwr_id, zpu_some, zpu_none, reduceIte, Int.reduceLE, Int.reduceLT, Int.reduceEq, Int.reduceNeg, Int.reduceAdd, Int.reduceSub, Int.reduceMul, Int.reduceToNat, Nat.reduceAdd, Nat.reduceLeDiff, Nat.reduceEqDiff, Nat.reduceLT, eq_self, ne_eq, not_false_eq_true, not_true_eq_false]
      exact k
  · rw [if_neg h2]
    rw [if_neg (fun h => h2 (two h))] at k
    simp only [s170_24, s170_25, Int.toNat_natCast, true_and, and_true, true_or, or_true, false_or, or_false, zwr_id, zpu_some, zpu_none, reduceIte, Int.reduceLE, Int.reduceLT, Int.reduceEq, Int.reduceNeg, Int.reduceAdd, Int.reduceSub, Int.reduceMul, Int.reduceToNat, Nat.reduceAdd, Nat.reduceLeDiff, Nat.reduceEqDiff, Nat.reduceLT, eq_self, ne_eq, not_false_eq_true, not_true_eq_false]
    exact k
