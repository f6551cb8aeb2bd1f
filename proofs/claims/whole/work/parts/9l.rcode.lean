theorem r_told0 {L : zY} {m : zM} {Q : zQ} {key : Int} (ht : zMt L) (h6 : m 332 6 = 0) : zwp 188 0 [zA 332, zI key] [] L m Q ↔ Q (some (zI 0)) L m := by
  simp only [s188_0, s188_1, s188_4, s188_35, s188_36, Int.toNat_natCast, true_and, and_true, true_or, or_true, false_or, or_false, zwr_id, zpu_some, zpu_none, reduceIte, Int.reduceLE, Int.reduceLT, Int.reduceEq, Int.reduceNeg, Int.reduceAdd, Int.reduceSub, Int.reduceMul, Int.reduceToNat, Nat.reduceAdd, Nat.reduceLeDiff, Nat.reduceEqDiff, Nat.reduceLT, eq_self, ne_eq, not_false_eq_true, not_true_eq_false, mt332 ht, h6]
theorem r_told1 {L : zY} {m : zM} {Q : zQ} {D : zD} {key : Int} (ht : zMt L) (hn : zMn L) (hp : zMp m) (h6 : m 332 6 = 1) (hd : rDt m D) : zwp 188 0 [zA 332, zI key] [] L m Q ↔ Q (some (zI (if gKy D key = true then 1 else 0))) L m := by
  have t0 := mt332 ht
  have q7 : m 332 7 = ((334 : Nat) : Int) := mp7 hp
  simp only [s188_0, s188_1, s188_4, s188_7, s188_8, s188_10, s188_12, Int.toNat_natCast, true_and, and_true, true_or, or_true, false_or, or_false, zwr_id, zpu_some, zpu_none, reduceIte, Int.reduceLE, Int.reduceLT, Int.reduceEq, Int.reduceNeg, Int.reduceAdd, Int.reduceSub, Int.reduceMul, Int.reduceToNat, Nat.reduceAdd, Nat.reduceLeDiff, Nat.reduceEqDiff, Nat.reduceLT, eq_self, ne_eq, not_false_eq_true, not_true_eq_false, t0, h6, r_in]
  simp only [s188_15]
  by_cases hl : 97 ≤ key ∧ key ≤ 122
  · rw [if_pos hl, if_neg (by decide)]
    obtain ⟨c, rfl⟩ : ∃ c : Nat, key = (c : Int) + 97 := ⟨(key - 97).toNat, by omega⟩
    have hc : c < 26 := by omega
    have hr : 0 ≤ (c : Int) ∧ (c : Int) < ((52 : Nat) : Int) := by omega
    simp only [s188_18, s188_19, s188_22, s188_23, s188_25, s188_26, s188_27, Int.toNat_natCast, true_and, and_true, true_or, or_true, false_or, or_false, zwr_id, zpu_some, zpu_none, reduceIte, Int.reduceLE, Int.reduceLT, Int.reduceEq, Int.reduceNeg, Int.reduceAdd, Int.reduceSub, Int.reduceMul, Int.reduceToNat, Nat.reduceAdd, Nat.reduceLeDiff, Nat.reduceEqDiff, Nat.reduceLT, eq_self, ne_eq, not_false_eq_true, not_true_eq_false, t0, q7, mt334 ht, mn334 hn, hr, and_self, (show zwr ((c : Int) + 97 - 97) = ((c : Nat) : Int) from zwn (by omega) (by omega)), hd.1 c hc]
    simp only [s188_28]
    have eg : gKy D ((c : Int) + 97) = decide (dS D c ≠ -1) := by
      unfold gKy
      rw [isL_iff.mpr (by omega), Bool.true_and, show ((c : Int) + 97 - 97).toNat = c by omega]
    rw [eg]
    by_cases h1 : dS D c = -1
    · rw [if_pos h1, if_neg (fun q => (of_decide_eq_true q : dS D c ≠ -1) h1)]
      simp only [s188_35, s188_36, Int.toNat_natCast, true_and, and_true, true_or, or_true, false_or, or_false, zwr_id, zpu_some, zpu_none, reduceIte, Int.reduceLE, Int.reduceLT, Int.reduceEq, Int.reduceNeg, Int.reduceAdd, Int.reduceSub, Int.reduceMul, Int.reduceToNat, Nat.reduceAdd, Nat.reduceLeDiff, Nat.reduceEqDiff, Nat.reduceLT, eq_self, ne_eq, not_false_eq_true, not_true_eq_false]
    · rw [if_neg h1, if_pos (decide_eq_true h1)]
      simp only [s188_31, s188_32, s188_36, Int.toNat_natCast, true_and, and_true, true_or, or_true, false_or, or_false, zwr_id, zpu_some, zpu_none, reduceIte, Int.reduceLE, Int.reduceLT, Int.reduceEq, Int.reduceNeg, Int.reduceAdd, Int.reduceSub, Int.reduceMul, Int.reduceToNat, Nat.reduceAdd, Nat.reduceLeDiff, Nat.reduceEqDiff, Nat.reduceLT, eq_self, ne_eq, not_false_eq_true, not_true_eq_false]
  · rw [if_neg hl, if_pos rfl]
    have eg : gKy D key = false := by unfold gKy; rw [isL_not.mpr (by omega)]; rfl
    rw [eg]
    simp only [s188_35, s188_36, Int.toNat_natCast, true_and, and_true, true_or, or_true, false_or, or_false, zwr_id, zpu_some, zpu_none, reduceIte, Int.reduceLE, Int.reduceLT, Int.reduceEq, Int.reduceNeg, Int.reduceAdd, Int.reduceSub, Int.reduceMul, Int.reduceToNat, Nat.reduceAdd, Nat.reduceLeDiff, Nat.reduceEqDiff, Nat.reduceLT, eq_self, ne_eq, not_false_eq_true, not_true_eq_false, Bool.false_eq_true]
theorem gKy_iff {D : zD} {x : Int} : gKy D x = true ↔ (97 ≤ x ∧ x < 123 ∧ dS D (x - 97).toNat ≠ -1) := by
  unfold gKy
  rw [Bool.and_eq_true, isL_iff, decide_eq_true_iff, and_assoc]
theorem c_rletter {L : zY} {m : zM} {Q : zQ} {g : zG} {key what : Int} (ht : zMt L) (hn : zMn L) (hg : gOk g) (h : rSt m g) (k : ∀ m', rSt m' (sLet g key what).2 → zFR 332 370 m m' → Q (some (zI (sLet g key what).1)) L m') : zwp 209 0 [zA 332, zI key, zI what, zU] [] L m Q := by
  have t0 := mt332 ht
  cases hd : gD g with
  | none =>
    have e : sLet g key what = gN g 1 := by unfold sLet; rw [hd]
    rw [e] at k
    simp only [s209_0, s209_1, s209_2, s209_3, s209_6, s209_22, s209_23, s209_26, s209_29, s209_32, s209_33, Int.toNat_natCast, true_and, and_true, true_or, or_true, false_or, or_false, zwr_id, zpu_some, zpu_none, reduceIte, Int.reduceLE, Int.reduceLT, Int.reduceEq, Int.reduceNeg, Int.reduceAdd, Int.reduceSub, Int.reduceMul, Int.reduceToNat, Nat.reduceAdd, Nat.reduceLeDiff, Nat.reduceEqDiff, Nat.reduceLT, eq_self, ne_eq, not_false_eq_true, not_true_eq_false, t0, r_told0 ht ((rSt_6 h).1 hd), r_unl, r_ref t0]
    exact k _ (rSt_ran hg h) zFR_ran
  | some D =>
    have hD := h.2.2.2.2.2.2.2 D hd
    have rt := fun Q' : zQ => r_told1 (Q := Q') (key := key) ht hn h.1 ((rSt_6 h).2 D hd) hD.1
    have no : ¬ ((97 ≤ key ∧ key < 123 ∧ dS D (key - 97).toNat ≠ -1) ∧ 0 ≤ what ∧ what ≤ 4) → Q (some (zI (-1))) L (ran m 1) := fun q => by
      have e : sLet g key what = gN g 1 := by unfold sLet; rw [hd]; exact if_neg q
      rw [e] at k
      exact k _ (rSt_ran hg h) zFR_ran
    by_cases hk : gKy D key = true
    · rw [if_pos hk] at rt
      by_cases hw : 0 ≤ what ∧ what ≤ 4
      · have e : sLet g key what = gA g (fLet D (key - 97).toNat what) := by unfold sLet; rw [hd]; exact if_pos ⟨gKy_iff.mp hk, hw⟩
        rw [e] at k
        simp only [s209_0, s209_1, s209_2, s209_3, s209_6, s209_9, s209_10, s209_11, s209_12, s209_15, s209_18, s209_19, s209_22, s209_23, s209_26, s209_29, s209_32, s209_33, s209_34, s209_35, Int.toNat_natCast, true_and, and_true, true_or, or_true, false_or, or_false, zwr_id, zpu_some, zpu_none, reduceIte, Int.reduceLE, Int.reduceLT, Int.reduceEq, Int.reduceNeg, Int.reduceAdd, Int.reduceSub, Int.reduceMul, Int.reduceToNat, Nat.reduceAdd, Nat.reduceLeDiff, Nat.reduceEqDiff, Nat.reduceLT, eq_self, ne_eq, not_false_eq_true, not_true_eq_false, t0, rt, r_in, hw, and_self, r_unl, r_ref t0]
        have h1 := rSt_ran (why := 0) hg h
        have kk := k _ h1 zFR_ran
        obtain ⟨b1, b2, -⟩ := h1.2.2.2.2.2.2.2 D hd
        have p1 := h1.1
        clear k no
        generalize ran m 0 = m1 at *
        have hkk := gKy_iff.mp hk
        obtain ⟨c, rfl⟩ : ∃ c : Nat, key = (c : Int) + 97 := ⟨(key - 97).toNat, by omega⟩
        rw [show ((c : Int) + 97 - 97).toNat = c by omega] at kk
        have hc : c < 26 := by omega
        have hr : 0 ≤ (c : Int) ∧ (c : Int) < ((52 : Nat) : Int) := by omega
        have hr' : 0 ≤ (c : Int) ∧ (c : Int) < ((26 : Nat) : Int) := by omega
        have q7 : m1 332 7 = ((334 : Nat) : Int) := mp7 p1
        have q24 : m1 332 24 = ((341 : Nat) : Int) := mp24 p1
        have q25 : m1 332 25 = ((342 : Nat) : Int) := mp25 p1
        have q26 : m1 332 26 = ((343 : Nat) : Int) := mp26 p1
        have q27 : m1 332 27 = ((344 : Nat) : Int) := mp27 p1
        have v1 := b1.1 c hc
        have v2 := b2.1.1.1 c hc
        have v3 := b2.1.1.2.1 c hc
        have v4 := b2.1.1.2.2.1 c hc
        have v5 := b2.1.1.2.2.2 c hc
        simp only [s209_37, s209_38, (show zwr ((c : Int) + 97 - 97) = ((c : Nat) : Int) from zwn (by omega) (by omega))]
        have : what = 0 ∨ what = 1 ∨ what = 2 ∨ what = 3 ∨ what = 4 := by omega
        clear hw hkk hk rt e h1
        rcases this with e | e | e | e | e <;> subst e <;> simp only [s209_39, s209_40, s209_43, s209_44, s209_47, s209_48, s209_49, s209_52, s209_53, s209_54, s209_57, s209_58, s209_61, s209_62, s209_63, s209_66, s209_67, s209_68, s209_71, s209_72, s209_75, s209_76, s209_77, s209_80, s209_81, s209_82, s209_85, s209_86, s209_89, s209_90, s209_91, s209_94, s209_95, s209_98, s209_99, s209_100, Int.toNat_natCast, true_and, and_true, true_or, or_true, false_or, or_false, zwr_id, zpu_some, zpu_none, reduceIte, Int.reduceLE, Int.reduceLT, Int.reduceEq, Int.reduceNeg, Int.reduceAdd, Int.reduceSub, Int.reduceMul, Int.reduceToNat, Nat.reduceAdd, Nat.reduceLeDiff, Nat.reduceEqDiff, Nat.reduceLT, eq_self, ne_eq, not_false_eq_true, not_true_eq_false, t0, q7, q24, q25, q26, q27, mt334 ht, mn334 hn, mt341 ht, mn341 hn, mt342 ht, mn342 hn, mt343 ht, mn343 hn, mt344 ht, mn344 hn, hr, hr', and_self, v1, v2, v3, v4, v5] <;> exact kk
      · simp only [s209_0, s209_1, s209_2, s209_3, s209_6, s209_9, s209_10, s209_11, s209_12, s209_15, s209_18, s209_19, s209_22, s209_23, s209_26, s209_29, s209_32, s209_33, Int.toNat_natCast, true_and, and_true, true_or, or_true, false_or, or_false, zwr_id, zpu_some, zpu_none, reduceIte, Int.reduceLE, Int.reduceLT, Int.reduceEq, Int.reduceNeg, Int.reduceAdd, Int.reduceSub, Int.reduceMul, Int.reduceToNat, Nat.reduceAdd, Nat.reduceLeDiff, Nat.reduceEqDiff, Nat.reduceLT, eq_self, ne_eq, not_false_eq_true, not_true_eq_false, t0, rt, r_in, hw, r_unl, r_ref t0]
        exact no (fun q => hw q.2)
    · rw [if_neg hk] at rt
      simp only [s209_0, s209_1, s209_2, s209_3, s209_6, s209_22, s209_23, s209_26, s209_29, s209_32, s209_33, Int.toNat_natCast, true_and, and_true, true_or, or_true, false_or, or_false, zwr_id, zpu_some, zpu_none, reduceIte, Int.reduceLE, Int.reduceLT, Int.reduceEq, Int.reduceNeg, Int.reduceAdd, Int.reduceSub, Int.reduceMul, Int.reduceToNat, Nat.reduceAdd, Nat.reduceLeDiff, Nat.reduceEqDiff, Nat.reduceLT, eq_self, ne_eq, not_false_eq_true, not_true_eq_false, t0, rt, r_unl, r_ref t0]
      exact no (fun q => hk (gKy_iff.mpr q.1))
/-- how many parts of each sort -/
theorem rNm_n {m : zM} {D : zD} (h : rNm m D) : m 332 20 = ((dnL D : Nat) : Int) ∧ m 332 21 = ((dnM D : Nat) : Int) ∧ m 332 22 = ((dnE D : Nat) : Int) := ⟨by rw [h.1.2.1.1, List.length_append]; rfl, by rw [h.1.2.1.2.1, rM_len], by rw [h.1.2.1.2.2, rE_len]⟩
theorem r_codeOf {L : zY} {m : zM} {Q : zQ} {D : zD} {l mm e : Int} (ht : zMt L) (h : rNm m D) : zwp 210 0 [zA 332, zI l, zI mm, zI e] [] L m Q ↔ Q (some (zI (zcod D l mm e))) L m := by
  obtain ⟨-, n2, n3⟩ := rNm_n h
  unfold zcod
  simp only [s210_0, s210_1, s210_2, s210_5, s210_6, s210_7, s210_8, s210_9, s210_12, s210_13, s210_14, s210_15, true_and, mt332 ht, n2, n3]
theorem in_lt {x : Int} {n : Nat} : (0 ≤ x ∧ x ≤ (n : Int) - 1) ↔ (0 ≤ x ∧ x < (n : Int)) := by omega
theorem c_rcode {L : zY} {m : zM} {Q : zQ} {g : zG} {l mm e : Int} (ht : zMt L) (hn : zMn L) (hg : gOk g) (h : rSt m g) (k : ∀ m', rSt m' (sCode g l mm e).2 → zFR 332 370 m m' → Q (some (zI (sCode g l mm e).1)) L m') : zwp 211 0 [zA 332, zI l, zI mm, zI e, zU] [] L m Q := by
  have t0 := mt332 ht
  cases hd : gD g with
  | none =>
    have e1 : sCode g l mm e = gN g 1 := by unfold sCode; rw [hd]
    rw [e1] at k
    simp only [s211_0, s211_1, s211_4, s211_53, s211_54, s211_56, s211_57, s211_59, s211_62, s211_65, s211_68, s211_69, s211_79, Int.toNat_natCast, true_and, and_true, true_or, or_true, false_or, or_false, zwr_id, zpu_some, zpu_none, reduceIte, Int.reduceLE, Int.reduceLT, Int.reduceEq, Int.reduceNeg, Int.reduceAdd, Int.reduceSub, Int.reduceMul, Int.reduceToNat, Nat.reduceAdd, Nat.reduceLeDiff, Nat.reduceEqDiff, Nat.reduceLT, eq_self, ne_eq, not_false_eq_true, not_true_eq_false, t0, (rSt_6 h).1 hd, r_unl, r_ref t0]
    exact k _ (rSt_ran hg h) zFR_ran
  | some D =>
    obtain ⟨d1, d2, d3, d4, d5, d6, d7, -⟩ := rs_D hg h hd
    obtain ⟨n1, n2, n3⟩ := rNm_n d7
    obtain ⟨l1, l2, l3⟩ := dOk_n d1 d2
    have no : ¬ ((0 ≤ l ∧ l < (dnL D : Int)) ∧ (0 ≤ mm ∧ mm < (dnM D : Int)) ∧ 0 ≤ e ∧ e < (dnE D : Int)) → zwp 211 53 [zA 332, zI l, zI mm, zI e, zU] [] L m Q := fun q => by
      have e1 : sCode g l mm e = gN g 1 := by unfold sCode; rw [hd]; exact if_neg q
      rw [e1] at k
      simp only [s211_53, s211_54, s211_56, s211_57, s211_59, s211_62, s211_65, s211_68, s211_69, s211_79, Int.toNat_natCast, true_and, and_true, true_or, or_true, false_or, or_false, zwr_id, zpu_some, zpu_none, reduceIte, Int.reduceLE, Int.reduceLT, Int.reduceEq, Int.reduceNeg, Int.reduceAdd, Int.reduceSub, Int.reduceMul, Int.reduceToNat, Nat.reduceAdd, Nat.reduceLeDiff, Nat.reduceEqDiff, Nat.reduceLT, eq_self, ne_eq, not_false_eq_true, not_true_eq_false, t0, r_unl, r_ref t0]
      exact k _ (rSt_ran hg h) zFR_ran
    simp only [s211_0, s211_1, s211_4, s211_7, s211_8, s211_9, s211_10, s211_13, s211_14, s211_15, Int.toNat_natCast, true_and, and_true, true_or, or_true, false_or, or_false, zwr_id, zpu_some, zpu_none, reduceIte, Int.reduceLE, Int.reduceLT, Int.reduceEq, Int.reduceNeg, Int.reduceAdd, Int.reduceSub, Int.reduceMul, Int.reduceToNat, Nat.reduceAdd, Nat.reduceLeDiff, Nat.reduceEqDiff, Nat.reduceLT, eq_self, ne_eq, not_false_eq_true, not_true_eq_false, t0, (rSt_6 h).2 D hd, n1, r_in, (show zwr (((dnL D : Nat) : Int) - 1) = ((dnL D : Nat) : Int) - 1 from zwr_id (by omega) (by omega))]
    simp only [s211_18]
    by_cases h1 : 0 ≤ l ∧ l ≤ ((dnL D : Nat) : Int) - 1
    · rw [if_pos h1, if_neg (by decide)]
      simp only [s211_21, s211_22, s211_23, s211_24, s211_27, s211_28, s211_29, Int.toNat_natCast, true_and, and_true, true_or, or_true, false_or, or_false, zwr_id, zpu_some, zpu_none, reduceIte, Int.reduceLE, Int.reduceLT, Int.reduceEq, Int.reduceNeg, Int.reduceAdd, Int.reduceSub, Int.reduceMul, Int.reduceToNat, Nat.reduceAdd, Nat.reduceLeDiff, Nat.reduceEqDiff, Nat.reduceLT, eq_self, ne_eq, not_false_eq_true, not_true_eq_false, t0, n2, r_in, (show zwr (((dnM D : Nat) : Int) - 1) = ((dnM D : Nat) : Int) - 1 from zwr_id (by omega) (by omega))]
      simp only [s211_32]
      by_cases h2 : 0 ≤ mm ∧ mm ≤ ((dnM D : Nat) : Int) - 1
      · rw [if_pos h2, if_neg (by decide)]
        simp only [s211_35, s211_36, s211_37, s211_38, s211_41, s211_42, s211_43, Int.toNat_natCast, true_and, and_true, true_or, or_true, false_or, or_false, zwr_id, zpu_some, zpu_none, reduceIte, Int.reduceLE, Int.reduceLT, Int.reduceEq, Int.reduceNeg, Int.reduceAdd, Int.reduceSub, Int.reduceMul, Int.reduceToNat, Nat.reduceAdd, Nat.reduceLeDiff, Nat.reduceEqDiff, Nat.reduceLT, eq_self, ne_eq, not_false_eq_true, not_true_eq_false, t0, n3, r_in, (show zwr (((dnE D : Nat) : Int) - 1) = ((dnE D : Nat) : Int) - 1 from zwr_id (by omega) (by omega))]
        simp only [s211_46]
        by_cases h3 : 0 ≤ e ∧ e ≤ ((dnE D : Nat) : Int) - 1
        · rw [if_pos h3, if_neg (by decide)]
          have e1 : sCode g l mm e = gA g (zcod D l mm e) := by unfold sCode; rw [hd]; exact if_pos ⟨in_lt.mp h1, in_lt.mp h2, in_lt.mp h3⟩
          rw [e1] at k
          have h1' := rSt_ran (why := 0) hg h
          have hN := (h1'.2.2.2.2.2.2.2 D hd).2.1
          simp only [s211_49, s211_50, s211_54, s211_56, s211_57, s211_59, s211_62, s211_65, s211_72, s211_73, s211_74, s211_75, s211_76, s211_79, Int.toNat_natCast, true_and, and_true, true_or, or_true, false_or, or_false, zwr_id, zpu_some, zpu_none, reduceIte, Int.reduceLE, Int.reduceLT, Int.reduceEq, Int.reduceNeg, Int.reduceAdd, Int.reduceSub, Int.reduceMul, Int.reduceToNat, Nat.reduceAdd, Nat.reduceLeDiff, Nat.reduceEqDiff, Nat.reduceLT, eq_self, ne_eq, not_false_eq_true, not_true_eq_false, t0, r_unl, r_ref t0, r_codeOf ht hN]
          exact k _ h1' zFR_ran
        · rw [if_neg h3, if_pos rfl]
          exact no (fun q => h3 (in_lt.mpr q.2.2))
      · rw [if_neg h2, if_pos rfl]
        exact no (fun q => h2 (in_lt.mpr q.2.1))
    · rw [if_neg h1, if_pos rfl]
      exact no (fun q => h1 (in_lt.mpr q.1))
theorem r_isCode0 {L : zY} {m : zM} {Q : zQ} {x : Int} (ht : zMt L) (h6 : m 332 6 = 0) : zwp 212 0 [zA 332, zI x] [] L m Q ↔ Q (some (zI 0)) L m := by
  simp only [s212_0, s212_1, s212_4, s212_35, s212_36, Int.toNat_natCast, true_and, and_true, true_or, or_true, false_or, or_false, zwr_id, zpu_some, zpu_none, reduceIte, Int.reduceLE, Int.reduceLT, Int.reduceEq, Int.reduceNeg, Int.reduceAdd, Int.reduceSub, Int.reduceMul, Int.reduceToNat, Nat.reduceAdd, Nat.reduceLeDiff, Nat.reduceEqDiff, Nat.reduceLT, eq_self, ne_eq, not_false_eq_true, not_true_eq_false, mt332 ht, h6]
theorem r_isCode1 {L : zY} {m : zM} {Q : zQ} {D : zD} {x : Int} (ht : zMt L) (hD : dOk D) (hlk : dLacks D = false) (h6 : m 332 6 = 1) (hN : rNm m D) : zwp 212 0 [zA 332, zI x] [] L m Q ↔ Q (some (zI (if dHb D x = true then 1 else 0))) L m := by
  have t0 := mt332 ht
  obtain ⟨n1, n2, n3⟩ := rNm_n hN
  obtain ⟨a1, a2, a3, a4⟩ := dN_all hD hlk
  simp only [s212_0, s212_1, s212_4, s212_7, s212_8, s212_9, s212_10, s212_13, s212_14, s212_17, s212_18, s212_19, s212_22, s212_23, s212_24, s212_25, Int.toNat_natCast, true_and, and_true, true_or, or_true, false_or, or_false, zwr_id, zpu_some, zpu_none, reduceIte, Int.reduceLE, Int.reduceLT, Int.reduceEq, Int.reduceNeg, Int.reduceAdd, Int.reduceSub, Int.reduceMul, Int.reduceToNat, Nat.reduceAdd, Nat.reduceLeDiff, Nat.reduceEqDiff, Nat.reduceLT, eq_self, ne_eq, not_false_eq_true, not_true_eq_false, t0, h6, n1, n2, n3, (show zwr (((dnL D : Nat) : Int) * ((dnM D : Nat) : Int)) = ((dnL D * dnM D : Nat) : Int) from zwn (by rw [Int.natCast_mul]) (by omega)), (show zwr (((dnL D * dnM D : Nat) : Int) * ((dnE D : Nat) : Int)) = ((dnL D * dnM D * dnE D : Nat) : Int) from zwn (by rw [Int.natCast_mul (dnL D * dnM D)]) (by omega)), (show zwr (((dnL D * dnM D * dnE D : Nat) : Int) - 1) = ((dnL D * dnM D * dnE D : Nat) : Int) - 1 from zwr_id (by omega) (by omega)), r_in]
  simp only [s212_28]
  unfold dHb
  by_cases h1 : 0 ≤ x ∧ x ≤ ((dnL D * dnM D * dnE D : Nat) : Int) - 1
  · rw [if_pos h1, if_neg (by decide), if_pos (decide_eq_true (in_lt.mp h1))]
    simp only [s212_31, s212_32, s212_36, Int.toNat_natCast, true_and, and_true, true_or, or_true, false_or, or_false, zwr_id, zpu_some, zpu_none, reduceIte, Int.reduceLE, Int.reduceLT, Int.reduceEq, Int.reduceNeg, Int.reduceAdd, Int.reduceSub, Int.reduceMul, Int.reduceToNat, Nat.reduceAdd, Nat.reduceLeDiff, Nat.reduceEqDiff, Nat.reduceLT, eq_self, ne_eq, not_false_eq_true, not_true_eq_false]
  · rw [if_neg h1, if_pos rfl, if_neg (fun q => h1 (in_lt.mpr (of_decide_eq_true q)))]
    simp only [s212_35, s212_36, Int.toNat_natCast, true_and, and_true, true_or, or_true, false_or, or_false, zwr_id, zpu_some, zpu_none, reduceIte, Int.reduceLE, Int.reduceLT, Int.reduceEq, Int.reduceNeg, Int.reduceAdd, Int.reduceSub, Int.reduceMul, Int.reduceToNat, Nat.reduceAdd, Nat.reduceLeDiff, Nat.reduceEqDiff, Nat.reduceLT, eq_self, ne_eq, not_false_eq_true, not_true_eq_false]
theorem c_rparts {L : zY} {m : zM} {Q : zQ} {g : zG} {x what : Int} (ht : zMt L) (hn : zMn L) (hg : gOk g) (h : rSt m g) (k : ∀ m', rSt m' (sParts g x what).2 → zFR 332 370 m m' → Q (some (zI (sParts g x what).1)) L m') : zwp 213 0 [zA 332, zI x, zI what] [] L m Q := by
  have t0 := mt332 ht
  cases hd : gD g with
  | none =>
    have e1 : sParts g x what = gN g 1 := by unfold sParts; rw [hd]
    rw [e1] at k
    simp only [s213_0, s213_1, s213_2, s213_3, s213_6, s213_22, s213_23, s213_26, s213_29, s213_32, s213_33, Int.toNat_natCast, true_and, and_true, true_or, or_true, false_or, or_false, zwr_id, zpu_some, zpu_none, reduceIte, Int.reduceLE, Int.reduceLT, Int.reduceEq, Int.reduceNeg, Int.reduceAdd, Int.reduceSub, Int.reduceMul, Int.reduceToNat, Nat.reduceAdd, Nat.reduceLeDiff, Nat.reduceEqDiff, Nat.reduceLT, eq_self, ne_eq, not_false_eq_true, not_true_eq_false, t0, r_isCode0 ht ((rSt_6 h).1 hd), r_unl, r_ref t0]
    exact k _ (rSt_ran hg h) zFR_ran
  | some D =>
    obtain ⟨d1, d2, d3, d4, d5, d6, d7, -⟩ := rs_D hg h hd
    have rc := fun Q' : zQ => r_isCode1 (Q := Q') (x := x) ht d1 d2 ((rSt_6 h).2 D hd) d7
    have no : ¬ ((0 ≤ x ∧ x < ((dnL D * dnM D * dnE D : Nat) : Int)) ∧ 0 ≤ what ∧ what ≤ 2) → Q (some (zI (-1))) L (ran m 1) := fun q => by
      have e1 : sParts g x what = gN g 1 := by unfold sParts; rw [hd]; exact if_neg q
      rw [e1] at k
      exact k _ (rSt_ran hg h) zFR_ran
    by_cases hk : dHb D x = true
    · rw [if_pos hk] at rc
      have hx : dHas D x := (show 0 ≤ x ∧ x < ((dnL D * dnM D * dnE D : Nat) : Int) from of_decide_eq_true hk)
      by_cases hw : 0 ≤ what ∧ what ≤ 2
      · have e1 : sParts g x what = gA g (dPt D x what) := by unfold sParts; rw [hd]; exact if_pos ⟨hx, hw⟩
        rw [e1] at k
        have h1 := rSt_ran (why := 0) hg h
        have kk := k _ h1 zFR_ran
        obtain ⟨-, n2, n3⟩ := rNm_n (h1.2.2.2.2.2.2.2 D hd).2.1
        obtain ⟨p1, p2, p3, p4⟩ := dPart d1 d2 hx
        obtain ⟨l1, l2, l3⟩ := dOk_n d1 d2
        have z2 : ¬ ((dnM D : Nat) : Int) = 0 := by omega
        have z3 : ¬ ((dnE D : Nat) : Int) = 0 := by omega
        simp only [s213_0, s213_1, s213_2, s213_3, s213_6, s213_9, s213_10, s213_11, s213_12, s213_15, s213_18, s213_19, s213_22, s213_23, s213_26, s213_29, s213_32, s213_33, Int.toNat_natCast, true_and, and_true, true_or, or_true, false_or, or_false, zwr_id, zpu_some, zpu_none, reduceIte, Int.reduceLE, Int.reduceLT, Int.reduceEq, Int.reduceNeg, Int.reduceAdd, Int.reduceSub, Int.reduceMul, Int.reduceToNat, Nat.reduceAdd, Nat.reduceLeDiff, Nat.reduceEqDiff, Nat.reduceLT, eq_self, ne_eq, not_false_eq_true, not_true_eq_false, t0, rc, r_in, hw, and_self, r_unl, r_ref t0]
        have : what = 0 ∨ what = 1 ∨ what = 2 := by omega
        clear hw
        rcases this with e | e | e <;> subst e <;> simp only [s213_34, s213_35, s213_38, s213_39, s213_40, s213_43, s213_44, s213_45, s213_48, s213_49, s213_52, s213_53, s213_54, s213_57, s213_58, s213_59, s213_62, s213_63, s213_64, s213_67, s213_68, s213_71, s213_72, s213_73, s213_76, s213_77, Int.toNat_natCast, true_and, and_true, true_or, or_true, false_or, or_false, zwr_id, zpu_some, zpu_none, reduceIte, Int.reduceLE, Int.reduceLT, Int.reduceEq, Int.reduceNeg, Int.reduceAdd, Int.reduceSub, Int.reduceMul, Int.reduceToNat, Nat.reduceAdd, Nat.reduceLeDiff, Nat.reduceEqDiff, Nat.reduceLT, eq_self, ne_eq, not_false_eq_true, not_true_eq_false, t0, n2, n3, z2, z3, p1, p2, p3, p4] <;> exact kk
      · simp only [s213_0, s213_1, s213_2, s213_3, s213_6, s213_9, s213_10, s213_11, s213_12, s213_15, s213_18, s213_19, s213_22, s213_23, s213_26, s213_29, s213_32, s213_33, Int.toNat_natCast, true_and, and_true, true_or, or_true, false_or, or_false, zwr_id, zpu_some, zpu_none, reduceIte, Int.reduceLE, Int.reduceLT, Int.reduceEq, Int.reduceNeg, Int.reduceAdd, Int.reduceSub, Int.reduceMul, Int.reduceToNat, Nat.reduceAdd, Nat.reduceLeDiff, Nat.reduceEqDiff, Nat.reduceLT, eq_self, ne_eq, not_false_eq_true, not_true_eq_false, t0, rc, r_in, hw, r_unl, r_ref t0]
        exact no (fun q => hw q.2)
    · rw [if_neg hk] at rc
      simp only [s213_0, s213_1, s213_2, s213_3, s213_6, s213_22, s213_23, s213_26, s213_29, s213_32, s213_33, Int.toNat_natCast, true_and, and_true, true_or, or_true, false_or, or_false, zwr_id, zpu_some, zpu_none, reduceIte, Int.reduceLE, Int.reduceLT, Int.reduceEq, Int.reduceNeg, Int.reduceAdd, Int.reduceSub, Int.reduceMul, Int.reduceToNat, Nat.reduceAdd, Nat.reduceLeDiff, Nat.reduceEqDiff, Nat.reduceLT, eq_self, ne_eq, not_false_eq_true, not_true_eq_false, t0, rc, r_unl, r_ref t0]
      exact no (fun q => hk (decide_eq_true q.1))
