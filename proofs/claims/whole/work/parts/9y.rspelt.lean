theorem c_rspelt {L : zY} {m : zM} {Q : zQ} {g : zG} {x kq : Int} (ht : zMt L) (hn : zMn L) (hg : gOk g) (h : rSt m g) (k : ∀ m', rSt m' (sSpelt g x kq).2 → zFR 332 370 m m' → Q (some (zI (sSpelt g x kq).1)) L m') : zwp 215 0 [zA 332, zI x, zI kq, zU] [] L m Q := by
  have t0 := mt332 ht
  cases hd : gD g with
  | none =>
    have e1 : sSpelt g x kq = gN g 1 := by unfold sSpelt; rw [hd]
    rw [e1] at k
    simp only [s215_0, s215_1, s215_2, s215_3, s215_6, s215_17, s215_18, s215_21, s215_24, s215_27, s215_28, Int.toNat_natCast, true_and, and_true, true_or, or_true, false_or, or_false, zwr_id, zpu_some, zpu_none, reduceIte, Int.reduceLE, Int.reduceLT, Int.reduceEq, Int.reduceNeg, Int.reduceAdd, Int.reduceSub, Int.reduceMul, Int.reduceToNat, Nat.reduceAdd, Nat.reduceLeDiff, Nat.reduceEqDiff, Nat.reduceLT, eq_self, ne_eq, not_false_eq_true, not_true_eq_false, t0, r_isCode0 ht ((rSt_6 h).1 hd), r_unl, r_ref t0]
    exact k _ (rSt_ran hg h) zFR_ran
  | some D =>
    obtain ⟨d1, d2, d3, d4, d5, d6, d7, -⟩ := rs_D hg h hd
    have rc := fun Q' : zQ => r_isCode1 (Q := Q') (x := x) ht d1 d2 ((rSt_6 h).2 D hd) d7
    have es : sSpelt g x kq = if (0 ≤ x ∧ x < ((dnL D * dnM D * dnE D : Nat) : Int)) ∧ 0 ≤ kq then gA g ((dSp D x).getD kq.toNat (-2)) else gN g 1 := by unfold sSpelt; rw [hd]
    have no : ¬ ((0 ≤ x ∧ x < ((dnL D * dnM D * dnE D : Nat) : Int)) ∧ 0 ≤ kq) → Q (some (zI (-1))) L (ran m 1) := fun q => by
      rw [es, if_neg q] at k
      exact k _ (rSt_ran hg h) zFR_ran
    by_cases hk : dHb D x = true
    · rw [if_pos hk] at rc
      have hx : dHas D x := (show 0 ≤ x ∧ x < ((dnL D * dnM D * dnE D : Nat) : Int) from of_decide_eq_true hk)
      by_cases hw : 0 ≤ kq
      · rw [es, if_pos ⟨hx, hw⟩] at k
        have n1 : ¬ kq < 0 := by omega
        have h1 := rSt_ran (why := 0) hg h
        simp only [s215_0, s215_1, s215_2, s215_3, s215_6, s215_9, s215_10, s215_13, s215_14, s215_17, s215_18, s215_21, s215_24, s215_27, s215_28, s215_29, s215_30, s215_31, Int.toNat_natCast, true_and, and_true, true_or, or_true, false_or, or_false, zwr_id, zpu_some, zpu_none, reduceIte, Int.reduceLE, Int.reduceLT, Int.reduceEq, Int.reduceNeg, Int.reduceAdd, Int.reduceSub, Int.reduceMul, Int.reduceToNat, Nat.reduceAdd, Nat.reduceLeDiff, Nat.reduceEqDiff, Nat.reduceLT, eq_self, ne_eq, not_false_eq_true, not_true_eq_false, t0, rc, n1, r_unl, r_ref t0]
        refine c_rspells ht hn d1 d2 h1.1 (h1.2.2.2.2.2.2.2 D hd).2.1 hx (fun m2 g2 f2 => ?_)
        have h2 := rSt_sf (gOk_w (f := g.2.2.2.2.2.1) (p := -1) (q := 0) hg) (rSf_s (fun a p q => f2 a (by omega))) h1
        have fr : zFR 332 370 m m2 := zFR_tr zFR_ran (fun a ha => f2 a (by omega))
        have kk := k m2 h2 fr
        have q52 : m2 332 52 = ((363 : Nat) : Int) := mp52 h2.1
        have lb : (dSp D x).length ≤ 6 := Nat.le_trans (List.length_filter_le _ _) (by unfold dSl; exact Nat.le_refl 6)
        obtain ⟨i, rfl⟩ : ∃ i : Nat, kq = (i : Int) := ⟨kq.toNat, by omega⟩
        rw [Int.toNat_natCast] at kk
        simp only [s215_34, s215_35, s215_36, zpu_some]
        simp only [s215_37]
        by_cases hi : i < (dSp D x).length
        · rw [if_neg (by omega)]
          have hr : 0 ≤ (i : Int) ∧ (i : Int) < ((6 : Nat) : Int) := by omega
          rw [getD_lt hi] at kk
          simp only [s215_40, s215_41, s215_44, s215_45, s215_46, s215_51, Int.toNat_natCast, true_and, and_true, true_or, or_true, false_or, or_false, zwr_id, zpu_some, zpu_none, reduceIte, Int.reduceLE, Int.reduceLT, Int.reduceEq, Int.reduceNeg, Int.reduceAdd, Int.reduceSub, Int.reduceMul, Int.reduceToNat, Nat.reduceAdd, Nat.reduceLeDiff, Nat.reduceEqDiff, Nat.reduceLT, eq_self, ne_eq, not_false_eq_true, not_true_eq_false, t0, q52, mt363 ht, mn363 hn, hr, and_self, zAL_get0 g2 hi]
          exact kk
        · rw [if_pos (by omega)]
          rw [List.getD_eq_getElem?_getD, List.getElem?_eq_none (by omega)] at kk
          simp only [s215_49, s215_51]
          exact kk
      · have n1 : kq < 0 := by omega
        simp only [s215_0, s215_1, s215_2, s215_3, s215_6, s215_9, s215_10, s215_13, s215_14, s215_17, s215_18, s215_21, s215_24, s215_27, s215_28, Int.toNat_natCast, true_and, and_true, true_or, or_true, false_or, or_false, zwr_id, zpu_some, zpu_none, reduceIte, Int.reduceLE, Int.reduceLT, Int.reduceEq, Int.reduceNeg, Int.reduceAdd, Int.reduceSub, Int.reduceMul, Int.reduceToNat, Nat.reduceAdd, Nat.reduceLeDiff, Nat.reduceEqDiff, Nat.reduceLT, eq_self, ne_eq, not_false_eq_true, not_true_eq_false, t0, rc, n1, r_unl, r_ref t0]
        exact no (fun q => hw q.2)
    · rw [if_neg hk] at rc
      simp only [s215_0, s215_1, s215_2, s215_3, s215_6, s215_17, s215_18, s215_21, s215_24, s215_27, s215_28, Int.toNat_natCast, true_and, and_true, true_or, or_true, false_or, or_false, zwr_id, zpu_some, zpu_none, reduceIte, Int.reduceLE, Int.reduceLT, Int.reduceEq, Int.reduceNeg, Int.reduceAdd, Int.reduceSub, Int.reduceMul, Int.reduceToNat, Nat.reduceAdd, Nat.reduceLeDiff, Nat.reduceEqDiff, Nat.reduceLT, eq_self, ne_eq, not_false_eq_true, not_true_eq_false, t0, rc, r_unl, r_ref t0]
      exact no (fun q => hk (decide_eq_true q.1))
/-! what is due, and the row that is laid of it -/
def kp (l : List zKq) : Nat → Nat
  | 0 => 0
  | i + 1 => kp l i + (l.getD i kq0).2.length
def rDu (m : zM) (l : List zKq) (J : List zIt) : Prop := m 349 2 = (l.length : Int) ∧ rBC m 2 J ∧ J.map cOf = l.map (fun q => q.1) ∧ (∀ i, i ≤ l.length → m 361 i = (kp l i : Int)) ∧ ∀ i j, i < l.length → j < (l.getD i kq0).2.length → m 360 (kp l i + j) = (l.getD i kq0).2.getD j 0
theorem kp_mono {l : List zKq} {i j : Nat} (h : i ≤ j) : kp l i ≤ kp l j := by
  induction j with
  | zero => have : i = 0 := by omega
            subst this; exact Nat.le_refl _
  | succ j ih =>
    by_cases e : i = j + 1
    · subst e; exact Nat.le_refl _
    · exact Nat.le_trans (ih (by omega)) (by show kp l j ≤ kp l j + _; omega)
theorem bB_kp {P : zP} {l : List zKq} : ∀ i, kp l i ≤ (bB P l i).length ∧ (bB P l i).length ≤ kp l i + i := by
  intro i
  induction i with
  | zero => exact ⟨Nat.le_refl _, Nat.le_refl _⟩
  | succ i ih =>
    have e : bB P l (i + 1) = bB P l i ++ bPc P l i := rfl
    rw [e, List.length_append]
    have hb : (bPc P l i).length = (l.getD i kq0).2.length ∨ (bPc P l i).length = (l.getD i kq0).2.length + 1 := by
      unfold bPc
      split
      · exact Or.inl rfl
      · exact Or.inr rfl
    have e2 : kp l (i + 1) = kp l i + (l.getD i kq0).2.length := rfl
    omega
theorem c_radd {L : zY} {m : zM} {Q : zQ} {W ys : List Int} {i a : Nat} (ht : zMt L) (hn : zMn L) (hp : zMp m) (hW : zAL m 362 0 W) (h50 : m 332 50 = (W.length : Int)) (hl : W.length + ys.length ≤ 400) (hi : i < 200) (ha : a + ys.length ≤ 400) (f0 : m 361 i = (a : Int)) (f1 : m 361 (i + 1) = ((a + ys.length : Nat) : Int)) (hk : ∀ j, j < ys.length → m 360 (a + j) = ys.getD j 0) (k : ∀ m', zAL m' 362 0 (W ++ ys) → m' 332 50 = ((W ++ ys).length : Int) → (∀ c, c ≠ 332 → c ≠ 362 → m' c = m c) → (∀ j, j ≠ 50 → m' 332 j = m 332 j) → Q none L m') : zwp 204 0 [zA 332, zI (i : Int), zU] [] L m Q := by
  have t0 := mt332 ht
  have iv0 : i < 1000000 := by omega
  have q48 : m 332 48 = ((361 : Nat) : Int) := mp48 hp
  have hri : 0 ≤ (i : Int) ∧ (i : Int) < ((201 : Nat) : Int) := by omega
  have hri1 : 0 ≤ ((i + 1 : Nat) : Int) ∧ ((i + 1 : Nat) : Int) < ((201 : Nat) : Int) := by omega
  simp only [s204_0, s204_1, s204_4, s204_5, s204_6, Int.toNat_natCast, true_and, and_true, true_or, or_true, false_or, or_false, zwr_id, zpu_some, zpu_none, reduceIte, Int.reduceLE, Int.reduceLT, Int.reduceEq, Int.reduceNeg, Int.reduceAdd, Int.reduceSub, Int.reduceMul, Int.reduceToNat, Nat.reduceAdd, Nat.reduceLeDiff, Nat.reduceEqDiff, Nat.reduceLT, eq_self, ne_eq, not_false_eq_true, not_true_eq_false, t0, q48, mt361 ht, mn361 hn, hri, and_self, f0]
  refine zfor (n := ys.length) (fun j => [zA 332, zI (i : Int), zI ((a + j : Nat) : Int)]) (fun j m' => zAL m' 362 0 (W ++ ys.take j) ∧ m' 332 50 = ((W.length + j : Nat) : Int) ∧ (∀ c, c ≠ 332 → c ≠ 362 → m' c = m c) ∧ ∀ t, t ≠ 50 → m' 332 t = m 332 t) ?_ ?_ 0 m (Nat.zero_le _) ⟨by rw [List.take_zero, List.append_nil]; exact hW, h50, fun _ _ _ => rfl, fun _ _ => rfl⟩
  · rintro j m1 hj ⟨g1, g2, g3, g4⟩ ih
    have n1 : ¬ ((a + ys.length : Nat) : Int) ≤ ((a + j : Nat) : Int) := by omega
    have r48 : m1 332 48 = ((361 : Nat) : Int) := by rw [g4 48 (by decide)]; exact q48
    have r49 : m1 332 49 = ((362 : Nat) : Int) := by rw [g4 49 (by decide)]; exact mp49 hp
    have r47 : m1 332 47 = ((360 : Nat) : Int) := by rw [g4 47 (by decide)]; exact mp47 hp
    have e1 : m1 361 (i + 1) = ((a + ys.length : Nat) : Int) := by rw [g3 361 (by decide) (by decide)]; exact f1
    have av : m1 360 (a + j) = ys.getD j 0 := by rw [g3 360 (by decide) (by decide)]; exact hk j hj
    have hr1 : 0 ≤ ((a + j : Nat) : Int) ∧ ((a + j : Nat) : Int) < ((400 : Nat) : Int) := by omega
    have hr2 : 0 ≤ ((W.length + j : Nat) : Int) ∧ ((W.length + j : Nat) : Int) < ((400 : Nat) : Int) := by omega
    simp only [s204_7]
    simp only [s204_8, s204_9, s204_12, s204_13, s204_14, s204_15, s204_16, s204_19, s204_20, s204_23, s204_24, s204_27, s204_28, s204_31, s204_32, s204_33, s204_34, s204_35, s204_36, s204_39, s204_40, s204_41, s204_44, s204_47, Int.toNat_natCast, true_and, and_true, true_or, or_true, false_or, or_false, zwr_id, zpu_some, zpu_none, reduceIte, Int.reduceLE, Int.reduceLT, Int.reduceEq, Int.reduceNeg, Int.reduceAdd, Int.reduceSub, Int.reduceMul, Int.reduceToNat, Nat.reduceAdd, Nat.reduceLeDiff, Nat.reduceEqDiff, Nat.reduceLT, eq_self, ne_eq, not_false_eq_true, not_true_eq_false, t0, r48, mt361 ht, mn361 hn, hri1, z1 iv0, and_self, e1, n1, r49, g2, r47, mt360 ht, mn360 hn, mt362 ht, mn362 hn, hr1, hr2, av, (show zwr (((W.length + j : Nat) : Int) + 1) = ((W.length + (j + 1) : Nat) : Int) from zwn (by omega) (by omega)), (show zwr (((a + j : Nat) : Int) + 1) = ((a + (j + 1) : Nat) : Int) from zwn (by omega) (by omega)), zup_na (show (332 : Nat) ≠ 362 by decide)]
    refine ih _ ⟨?_, zup_same, fun c p1 p2 => by rw [zup_nf p1, zup_nf p2]; exact g3 c p1 p2, fun t ht => by rw [zup_nk ht, zup_na (by decide)]; exact g4 t ht⟩
    have pu := zAL_push (x := ys.getD j 0) g1
    have lt : (W ++ ys.take j).length = W.length + j := by rw [List.length_append, List.length_take]; omega
    rw [lt, Nat.zero_add, getD_lt hj, List.append_assoc, ← take_s hj] at pu
    rw [getD_lt hj]
    exact zAL_eq (zup_nf (by decide)) pu
  · rintro m1 ⟨g1, g2, g3, g4⟩
    rw [List.take_length] at g1
    have n1 : ((a + ys.length : Nat) : Int) ≤ ((a + ys.length : Nat) : Int) := by omega
    have r48 : m1 332 48 = ((361 : Nat) : Int) := by rw [g4 48 (by decide)]; exact q48
    have e1 : m1 361 (i + 1) = ((a + ys.length : Nat) : Int) := by rw [g3 361 (by decide) (by decide)]; exact f1
    simp only [s204_7]
    simp only [s204_8, s204_9, s204_12, s204_13, s204_14, s204_15, s204_16, s204_50, Int.toNat_natCast, true_and, and_true, true_or, or_true, false_or, or_false, zwr_id, zpu_some, zpu_none, reduceIte, Int.reduceLE, Int.reduceLT, Int.reduceEq, Int.reduceNeg, Int.reduceAdd, Int.reduceSub, Int.reduceMul, Int.reduceToNat, Nat.reduceAdd, Nat.reduceLeDiff, Nat.reduceEqDiff, Nat.reduceLT, eq_self, ne_eq, not_false_eq_true, not_true_eq_false, t0, r48, mt361 ht, mn361 hn, hri1, z1 iv0, and_self, e1, n1]
    exact k m1 g1 (by rw [List.length_append]; exact g2) g3 g4
