theorem rs_R0 {g : zG} (hg : gOk g) (hd : gD g = none) : gR g = [] ∧ gC g = 0 ∧ gH g = [] := by
  obtain ⟨T, od, R, C, H, f, p, q⟩ := g
  exact hg.2.2.1 hd
theorem r_place0 {L : zY} {m : zM} {Q : zQ} {n : Int} (ht : zMt L) (h6 : m 332 6 = 0) : zwp 230 0 [zA 332, zI n] [] L m Q ↔ Q (some (zI 0)) L m := by
  simp only [s230_0, s230_1, s230_4, s230_25, s230_26, Int.toNat_natCast, true_and, and_true, true_or, or_true, false_or, or_false, zwr_id, zpu_some, zpu_none, reduceIte, Int.reduceLE, Int.reduceLT, Int.reduceEq, Int.reduceNeg, Int.reduceAdd, Int.reduceSub, Int.reduceMul, Int.reduceToNat, Nat.reduceAdd, Nat.reduceLeDiff, Nat.reduceEqDiff, Nat.reduceLT, eq_self, ne_eq, not_false_eq_true, not_true_eq_false, mt332 ht, h6]
theorem r_place1 {L : zY} {m : zM} {Q : zQ} {n : Int} {R : List Int} (ht : zMt L) (h6 : m 332 6 = 1) (h32 : m 332 32 = (R.length : Int)) (hl : R.length ≤ 80) : zwp 230 0 [zA 332, zI n] [] L m Q ↔ Q (some (zI (if 0 ≤ n ∧ n < (R.length : Int) then 1 else 0))) L m := by
  have t0 := mt332 ht
  simp only [s230_0, s230_1, s230_4, s230_7, s230_8, s230_9, s230_10, s230_13, s230_14, s230_15, Int.toNat_natCast, true_and, and_true, true_or, or_true, false_or, or_false, zwr_id, zpu_some, zpu_none, reduceIte, Int.reduceLE, Int.reduceLT, Int.reduceEq, Int.reduceNeg, Int.reduceAdd, Int.reduceSub, Int.reduceMul, Int.reduceToNat, Nat.reduceAdd, Nat.reduceLeDiff, Nat.reduceEqDiff, Nat.reduceLT, eq_self, ne_eq, not_false_eq_true, not_true_eq_false, t0, h6, h32, (show zwr ((R.length : Int) - 1) = (R.length : Int) - 1 from zwr_id (by omega) (by omega)), r_in]
  simp only [s230_18]
  by_cases h1 : 0 ≤ n ∧ n ≤ (R.length : Int) - 1
  · rw [if_pos h1, if_neg (by decide), if_pos (in_lt.mp h1)]
    simp only [s230_21, s230_22, s230_26, Int.toNat_natCast, true_and, and_true, true_or, or_true, false_or, or_false, zwr_id, zpu_some, zpu_none, reduceIte, Int.reduceLE, Int.reduceLT, Int.reduceEq, Int.reduceNeg, Int.reduceAdd, Int.reduceSub, Int.reduceMul, Int.reduceToNat, Nat.reduceAdd, Nat.reduceLeDiff, Nat.reduceEqDiff, Nat.reduceLT, eq_self, ne_eq, not_false_eq_true, not_true_eq_false]
  · rw [if_neg h1, if_pos rfl, if_neg (fun q => h1 (in_lt.mpr q))]
    simp only [s230_25, s230_26, Int.toNat_natCast, true_and, and_true, true_or, or_true, false_or, or_false, zwr_id, zpu_some, zpu_none, reduceIte, Int.reduceLE, Int.reduceLT, Int.reduceEq, Int.reduceNeg, Int.reduceAdd, Int.reduceSub, Int.reduceMul, Int.reduceToNat, Nat.reduceAdd, Nat.reduceLeDiff, Nat.reduceEqDiff, Nat.reduceLT, eq_self, ne_eq, not_false_eq_true, not_true_eq_false]
theorem c_rat {L : zY} {m : zM} {Q : zQ} {g : zG} {n : Int} (ht : zMt L) (hn : zMn L) (hg : gOk g) (h : rSt m g) (k : ∀ m', rSt m' (sAt g n).2 → zFR 332 370 m m' → Q (some (zI (sAt g n).1)) L m') : zwp 231 0 [zA 332, zI n] [] L m Q := by
  have t0 := mt332 ht
  cases hd : gD g with
  | none =>
    have e : sAt g n = gN g 1 := by unfold sAt; rw [(rs_R0 hg hd).1]; exact if_neg (by show ¬ (0 ≤ n ∧ n < 0); omega)
    rw [e] at k
    simp only [s231_0, s231_1, s231_2, s231_3, s231_6, s231_9, s231_12, s231_15, s231_16, s231_25, Int.toNat_natCast, true_and, and_true, true_or, or_true, false_or, or_false, zwr_id, zpu_some, zpu_none, reduceIte, Int.reduceLE, Int.reduceLT, Int.reduceEq, Int.reduceNeg, Int.reduceAdd, Int.reduceSub, Int.reduceMul, Int.reduceToNat, Nat.reduceAdd, Nat.reduceLeDiff, Nat.reduceEqDiff, Nat.reduceLT, eq_self, ne_eq, not_false_eq_true, not_true_eq_false, t0, r_place0 ht ((rSt_6 h).1 hd), r_unl, r_ref t0]
    exact k _ (rSt_ran hg h) zFR_ran
  | some D =>
    have hl : (gR g).length ≤ 80 := (rs_D hg h hd).2.2.2.1
    have rp := fun Q' : zQ => r_place1 (Q := Q') (n := n) ht ((rSt_6 h).2 D hd) h.2.2.2.2.2.1.2.1 hl
    by_cases hw : 0 ≤ n ∧ n < ((gR g).length : Int)
    · have e : sAt g n = gA g ((gR g).getD n.toNat 0) := if_pos hw
      rw [e] at k
      rw [if_pos hw] at rp
      obtain ⟨i, rfl⟩ : ∃ i : Nat, n = (i : Int) := ⟨n.toNat, by omega⟩
      have hi : i < (gR g).length := by omega
      have h1 := rSt_ran (why := 0) hg h
      have kk := k _ h1 zFR_ran
      have q31 : ran m 0 332 31 = ((348 : Nat) : Int) := mp31 h1.1
      have hr : 0 ≤ (i : Int) ∧ (i : Int) < ((80 : Nat) : Int) := by omega
      have gv : ran m 0 348 i = (gR g).getD i 0 := by
        have z : zAL (ran m 0) 348 0 (gR g) := h1.2.2.2.2.2.1.1
        rw [zAL_get0 z hi, getD_lt hi]
      simp only [s231_0, s231_1, s231_2, s231_3, s231_6, s231_9, s231_12, s231_15, s231_16, s231_19, s231_20, s231_23, s231_24, s231_25, Int.toNat_natCast, true_and, and_true, true_or, or_true, false_or, or_false, zwr_id, zpu_some, zpu_none, reduceIte, Int.reduceLE, Int.reduceLT, Int.reduceEq, Int.reduceNeg, Int.reduceAdd, Int.reduceSub, Int.reduceMul, Int.reduceToNat, Nat.reduceAdd, Nat.reduceLeDiff, Nat.reduceEqDiff, Nat.reduceLT, eq_self, ne_eq, not_false_eq_true, not_true_eq_false, t0, rp, r_unl, r_ref t0, q31, mt348 ht, mn348 hn, hr, and_self, gv]
      exact kk
    · have e : sAt g n = gN g 1 := if_neg hw
      rw [e] at k
      rw [if_neg hw] at rp
      simp only [s231_0, s231_1, s231_2, s231_3, s231_6, s231_9, s231_12, s231_15, s231_16, s231_25, Int.toNat_natCast, true_and, and_true, true_or, or_true, false_or, or_false, zwr_id, zpu_some, zpu_none, reduceIte, Int.reduceLE, Int.reduceLT, Int.reduceEq, Int.reduceNeg, Int.reduceAdd, Int.reduceSub, Int.reduceMul, Int.reduceToNat, Nat.reduceAdd, Nat.reduceLeDiff, Nat.reduceEqDiff, Nat.reduceLT, eq_self, ne_eq, not_false_eq_true, not_true_eq_false, t0, rp, r_unl, r_ref t0]
      exact k _ (rSt_ran hg h) zFR_ran
theorem c_rof {L : zY} {m : zM} {Q : zQ} {g : zG} {n what : Int} (ht : zMt L) (hn : zMn L) (hg : gOk g) (h : rSt m g) (k : ∀ m', rSt m' (sOf g n what).2 → zFR 332 370 m m' → Q (some (zI (sOf g n what).1)) L m') : zwp 232 0 [zA 332, zI n, zI what] [] L m Q := by
  have t0 := mt332 ht
  cases hd : gD g with
  | none =>
    have e : sOf g n what = gN g 1 := by unfold sOf; rw [(rs_R0 hg hd).1]; exact if_neg (by show ¬ ((0 ≤ n ∧ n < 0) ∧ _); omega)
    rw [e] at k
    simp only [s232_0, s232_1, s232_2, s232_3, s232_6, s232_22, s232_23, s232_26, s232_29, s232_32, s232_33, Int.toNat_natCast, true_and, and_true, true_or, or_true, false_or, or_false, zwr_id, zpu_some, zpu_none, reduceIte, Int.reduceLE, Int.reduceLT, Int.reduceEq, Int.reduceNeg, Int.reduceAdd, Int.reduceSub, Int.reduceMul, Int.reduceToNat, Nat.reduceAdd, Nat.reduceLeDiff, Nat.reduceEqDiff, Nat.reduceLT, eq_self, ne_eq, not_false_eq_true, not_true_eq_false, t0, r_place0 ht ((rSt_6 h).1 hd), r_unl, r_ref t0]
    exact k _ (rSt_ran hg h) zFR_ran
  | some D =>
    have hl : (gR g).length ≤ 80 := (rs_D hg h hd).2.2.2.1
    have rp := fun Q' : zQ => r_place1 (Q := Q') (n := n) ht ((rSt_6 h).2 D hd) h.2.2.2.2.2.1.2.1 hl
    by_cases hw : 0 ≤ n ∧ n < ((gR g).length : Int)
    · rw [if_pos hw] at rp
      by_cases hv : 0 ≤ what ∧ what ≤ 2
      · have e : sOf g n what = gA g (fOf g n.toNat what) := if_pos ⟨hw, hv⟩
        rw [e] at k
        obtain ⟨i, rfl⟩ : ∃ i : Nat, n = (i : Int) := ⟨n.toNat, by omega⟩
        have h1 := rSt_ran (why := 0) hg h
        have kk := k _ h1 zFR_ran
        obtain ⟨d1, d2, d3, d4, d5, d6, d7, ⟨d8, d9, d10⟩, d11, d12, d13, -⟩ := rs_D (g := (g.1, g.2.1, g.2.2.1, g.2.2.2.1, g.2.2.2.2.1, g.2.2.2.2.2.1, -1, 0)) (gOk_w hg) h1 hd
        have dP : rBP (ran m 0) 0 (gI g).2.2.1 := d9
        have hi : i < (gI g).2.2.1.length := by have : (gI g).2.2.1.length = (gR g).length := d13; omega
        obtain ⟨v1, v2, v3⟩ := rBP_get dP hi
        simp only [Nat.mul_zero, Nat.zero_add] at v1 v2 v3
        have q42 : ran m 0 332 42 = ((357 : Nat) : Int) := mp42 h1.1
        have q43 : ran m 0 332 43 = ((358 : Nat) : Int) := mp43 h1.1
        have q44 : ran m 0 332 44 = ((359 : Nat) : Int) := mp44 h1.1
        have hr : 0 ≤ (i : Int) ∧ (i : Int) < ((400 : Nat) : Int) := by omega
        rw [Int.toNat_natCast] at kk
        unfold fOf at kk
        rw [getD_lt hi] at kk
        simp only [s232_0, s232_1, s232_2, s232_3, s232_6, s232_9, s232_10, s232_11, s232_12, s232_15, s232_18, s232_19, s232_22, s232_23, s232_26, s232_29, s232_32, s232_33, Int.toNat_natCast, true_and, and_true, true_or, or_true, false_or, or_false, zwr_id, zpu_some, zpu_none, reduceIte, Int.reduceLE, Int.reduceLT, Int.reduceEq, Int.reduceNeg, Int.reduceAdd, Int.reduceSub, Int.reduceMul, Int.reduceToNat, Nat.reduceAdd, Nat.reduceLeDiff, Nat.reduceEqDiff, Nat.reduceLT, eq_self, ne_eq, not_false_eq_true, not_true_eq_false, t0, rp, r_in, hv, and_self, r_unl, r_ref t0]
        clear k e h1 d1 d2 d3 d4 d5 d6 d7 d8 d9 d10 d11 d12 d13 dP
        have : what = 0 ∨ what = 1 ∨ what = 2 := by omega
        clear hv hw
        rcases this with e | e | e <;> subst e <;> simp only [s232_34, s232_35, s232_38, s232_39, s232_42, s232_43, s232_44, s232_47, s232_48, s232_49, s232_52, s232_53, s232_56, s232_57, s232_58, s232_61, s232_62, s232_65, s232_66, s232_67, Int.toNat_natCast, true_and, and_true, true_or, or_true, false_or, or_false, zwr_id, zpu_some, zpu_none, reduceIte, Int.reduceLE, Int.reduceLT, Int.reduceEq, Int.reduceNeg, Int.reduceAdd, Int.reduceSub, Int.reduceMul, Int.reduceToNat, Nat.reduceAdd, Nat.reduceLeDiff, Nat.reduceEqDiff, Nat.reduceLT, eq_self, ne_eq, not_false_eq_true, not_true_eq_false, t0, q42, q43, q44, mt357 ht, mn357 hn, mt358 ht, mn358 hn, mt359 ht, mn359 hn, hr, and_self, v1, v2, v3] <;> exact kk
      · have e : sOf g n what = gN g 1 := if_neg (fun q => hv q.2)
        rw [e] at k
        simp only [s232_0, s232_1, s232_2, s232_3, s232_6, s232_9, s232_10, s232_11, s232_12, s232_15, s232_18, s232_19, s232_22, s232_23, s232_26, s232_29, s232_32, s232_33, Int.toNat_natCast, true_and, and_true, true_or, or_true, false_or, or_false, zwr_id, zpu_some, zpu_none, reduceIte, Int.reduceLE, Int.reduceLT, Int.reduceEq, Int.reduceNeg, Int.reduceAdd, Int.reduceSub, Int.reduceMul, Int.reduceToNat, Nat.reduceAdd, Nat.reduceLeDiff, Nat.reduceEqDiff, Nat.reduceLT, eq_self, ne_eq, not_false_eq_true, not_true_eq_false, t0, rp, r_in, hv, r_unl, r_ref t0]
        exact k _ (rSt_ran hg h) zFR_ran
    · have e : sOf g n what = gN g 1 := if_neg (fun q => hw q.1)
      rw [e] at k
      rw [if_neg hw] at rp
      simp only [s232_0, s232_1, s232_2, s232_3, s232_6, s232_22, s232_23, s232_26, s232_29, s232_32, s232_33, Int.toNat_natCast, true_and, and_true, true_or, or_true, false_or, or_false, zwr_id, zpu_some, zpu_none, reduceIte, Int.reduceLE, Int.reduceLT, Int.reduceEq, Int.reduceNeg, Int.reduceAdd, Int.reduceSub, Int.reduceMul, Int.reduceToNat, Nat.reduceAdd, Nat.reduceLeDiff, Nat.reduceEqDiff, Nat.reduceLT, eq_self, ne_eq, not_false_eq_true, not_true_eq_false, t0, rp, r_unl, r_ref t0]
      exact k _ (rSt_ran hg h) zFR_ran
theorem r_isItem0 {L : zY} {m : zM} {Q : zQ} {n : Int} (ht : zMt L) (h6 : m 332 6 = 0) : zwp 233 0 [zA 332, zI n] [] L m Q ↔ Q (some (zI 0)) L m := by
  simp only [s233_0, s233_1, s233_4, s233_27, s233_28, Int.toNat_natCast, true_and, and_true, true_or, or_true, false_or, or_false, zwr_id, zpu_some, zpu_none, reduceIte, Int.reduceLE, Int.reduceLT, Int.reduceEq, Int.reduceNeg, Int.reduceAdd, Int.reduceSub, Int.reduceMul, Int.reduceToNat, Nat.reduceAdd, Nat.reduceLeDiff, Nat.reduceEqDiff, Nat.reduceLT, eq_self, ne_eq, not_false_eq_true, not_true_eq_false, mt332 ht, h6]
theorem r_isItem1 {L : zY} {m : zM} {Q : zQ} {n : Int} {N : Nat} (ht : zMt L) (hn : zMn L) (hp : zMp m) (h6 : m 332 6 = 1) (h49 : m 349 0 = (N : Int)) (hl : N ≤ 80) : zwp 233 0 [zA 332, zI n] [] L m Q ↔ Q (some (zI (if 0 ≤ n ∧ n < (N : Int) then 1 else 0))) L m := by
  have t0 := mt332 ht
  have q34 : m 332 34 = ((349 : Nat) : Int) := mp34 hp
  have b3 : (0 : Int) < ((3 : Nat) : Int) := by decide
  simp only [s233_0, s233_1, s233_4, s233_7, s233_8, s233_9, s233_10, s233_13, s233_14, s233_15, s233_16, s233_17, Int.toNat_natCast, true_and, and_true, true_or, or_true, false_or, or_false, zwr_id, zpu_some, zpu_none, reduceIte, Int.reduceLE, Int.reduceLT, Int.reduceEq, Int.reduceNeg, Int.reduceAdd, Int.reduceSub, Int.reduceMul, Int.reduceToNat, Nat.reduceAdd, Nat.reduceLeDiff, Nat.reduceEqDiff, Nat.reduceLT, eq_self, ne_eq, not_false_eq_true, not_true_eq_false, t0, h6, q34, mt349 ht, mn349 hn, b3, h49, (show zwr ((N : Int) - 1) = (N : Int) - 1 from zwr_id (by omega) (by omega)), r_in]
  simp only [s233_20]
  by_cases h1 : 0 ≤ n ∧ n ≤ (N : Int) - 1
  · rw [if_pos h1, if_neg (by decide), if_pos (in_lt.mp h1)]
    simp only [s233_23, s233_24, s233_28, Int.toNat_natCast, true_and, and_true, true_or, or_true, false_or, or_false, zwr_id, zpu_some, zpu_none, reduceIte, Int.reduceLE, Int.reduceLT, Int.reduceEq, Int.reduceNeg, Int.reduceAdd, Int.reduceSub, Int.reduceMul, Int.reduceToNat, Nat.reduceAdd, Nat.reduceLeDiff, Nat.reduceEqDiff, Nat.reduceLT, eq_self, ne_eq, not_false_eq_true, not_true_eq_false]
  · rw [if_neg h1, if_pos rfl, if_neg (fun q => h1 (in_lt.mpr q))]
    simp only [s233_27, s233_28, Int.toNat_natCast, true_and, and_true, true_or, or_true, false_or, or_false, zwr_id, zpu_some, zpu_none, reduceIte, Int.reduceLE, Int.reduceLT, Int.reduceEq, Int.reduceNeg, Int.reduceAdd, Int.reduceSub, Int.reduceMul, Int.reduceToNat, Nat.reduceAdd, Nat.reduceLeDiff, Nat.reduceEqDiff, Nat.reduceLT, eq_self, ne_eq, not_false_eq_true, not_true_eq_false]
/-- an ITEM of bank HERE -/
def rIt (m : zM) (i : Nat) (x : zIt) : Prop := m 350 i = itL x ∧ m 351 i = itM x ∧ m 352 i = itE x ∧ m 353 i = itK x ∧ m 354 i = itF x ∧ m 355 i = itN x
theorem rIt_of {m : zM} {I : List zIt} {i : Nat} (h : rBI m 0 I) (hi : i < I.length) : rIt m i I[i] := by
  have := rBI_get h hi
  simp only [Nat.mul_zero, Nat.zero_add] at this
  exact this
theorem r_sort0 {L : zY} {m : zM} {Q : zQ} {i : Nat} {x : zIt} (ht : zMt L) (hn : zMn L) (hp : zMp m) (hi : i < 200) (hK : 0 ≤ itK x) (hx : rIt m i x) : zwp 200 0 [zA 332, zI 0, zI (i : Int), zU, zU, zU] [] L m Q ↔ Q (some (zI (itSo x))) L m := by
  rw [← rSo_so hK]
  exact r_sort (b := 0) ht hn hp (by decide) hi (by rw [Nat.mul_zero, Nat.zero_add]; exact hx.1) (by rw [Nat.mul_zero, Nat.zero_add]; exact hx.2.1)
theorem itSo_0 {x : zIt} : itSo x = 0 ↔ (itL x ≠ -2 ∧ itM x ≠ -2) := by
  by_cases hb : itL x = -2 ∧ itM x = -2
  · constructor
    · intro q
      unfold itSo at q
      by_cases o : itO x ≠ -2
      · rw [if_pos o] at q; exact absurd q (by decide)
      · rw [if_neg o, if_pos hb.1] at q; exact absurd q (by decide)
    · intro q; exact absurd hb.1 q.1
  · have o : ¬ itO x ≠ -2 := fun q => q (if_neg hb)
    unfold itSo
    rw [if_neg o]
    by_cases h1 : itL x = -2
    · rw [if_pos h1]; exact ⟨fun q => absurd q (by decide), fun q => absurd h1 q.1⟩
    · rw [if_neg h1]
      by_cases h2 : itM x = -2
      · rw [if_pos h2]; exact ⟨fun q => absurd q (by decide), fun q => absurd h2 q.2⟩
      · rw [if_neg h2]; exact ⟨fun _ => ⟨h1, h2⟩, fun _ => rfl⟩
theorem r_endTold {L : zY} {m : zM} {Q : zQ} {i : Nat} {x : zIt} (ht : zMt L) (hn : zMn L) (hp : zMp m) (hi : i < 200) (hK : 0 ≤ itK x) (hx : rIt m i x) : zwp 234 0 [zA 332, zI (i : Int)] [] L m Q ↔ Q (some (zI (itC x))) L m := by
  have t0 := mt332 ht
  have q37 : m 332 37 = ((352 : Nat) : Int) := mp37 hp
  have hr : 0 ≤ (i : Int) ∧ (i : Int) < ((600 : Nat) : Int) := by omega
  have gE := hx.2.2.1
  have so := fun Q' : zQ => r_sort0 (Q := Q') ht hn hp hi hK hx
  have s0 := itSo_0 (x := x)
  unfold itC
  by_cases hs : itSo x = 0
  · obtain ⟨h1, h2⟩ := s0.mp hs
    rw [if_neg (fun q => q.elim h1 h2)]
    simp only [s234_0, s234_1, s234_2, s234_3, s234_6, s234_14, s234_15, s234_18, s234_19, s234_20, Int.toNat_natCast, true_and, and_true, true_or, or_true, false_or, or_false, zwr_id, zpu_some, zpu_none, reduceIte, Int.reduceLE, Int.reduceLT, Int.reduceEq, Int.reduceNeg, Int.reduceAdd, Int.reduceSub, Int.reduceMul, Int.reduceToNat, Nat.reduceAdd, Nat.reduceLeDiff, Nat.reduceEqDiff, Nat.reduceLT, eq_self, ne_eq, not_false_eq_true, not_true_eq_false, t0, so, hs, q37, mt352 ht, mn352 hn, hr, and_self, gE]
    simp only [s234_22]
    by_cases hE : itE x = -2
    · rw [if_pos hE, if_pos hE]
      simp only [s234_25, s234_26, s234_35]
    · rw [if_neg hE, if_neg hE]
      simp only [s234_29, s234_30, s234_33, s234_34, s234_35, Int.toNat_natCast, true_and, and_true, true_or, or_true, false_or, or_false, zwr_id, zpu_some, zpu_none, reduceIte, Int.reduceLE, Int.reduceLT, Int.reduceEq, Int.reduceNeg, Int.reduceAdd, Int.reduceSub, Int.reduceMul, Int.reduceToNat, Nat.reduceAdd, Nat.reduceLeDiff, Nat.reduceEqDiff, Nat.reduceLT, eq_self, ne_eq, not_false_eq_true, not_true_eq_false, t0, q37, mt352 ht, mn352 hn, hr, and_self, gE]
  · have e : itL x = -2 ∨ itM x = -2 := by
      by_cases h1 : itL x = -2
      · exact Or.inl h1
      · by_cases h2 : itM x = -2
        · exact Or.inr h2
        · exact absurd (s0.mpr ⟨h1, h2⟩) hs
    rw [if_pos e]
    simp only [s234_0, s234_1, s234_2, s234_3, s234_6, s234_9, s234_11, s234_35, Int.toNat_natCast, true_and, and_true, true_or, or_true, false_or, or_false, zwr_id, zpu_some, zpu_none, reduceIte, Int.reduceLE, Int.reduceLT, Int.reduceEq, Int.reduceNeg, Int.reduceAdd, Int.reduceSub, Int.reduceMul, Int.reduceToNat, Nat.reduceAdd, Nat.reduceLeDiff, Nat.reduceEqDiff, Nat.reduceLT, eq_self, ne_eq, not_false_eq_true, not_true_eq_false, t0, so, hs]
theorem r_codeTold {L : zY} {m : zM} {Q : zQ} {i : Nat} {x : zIt} {D : zD} (ht : zMt L) (hn : zMn L) (hp : zMp m) (hN : rNm m D) (hi : i < 200) (hK : 0 ≤ itK x) (hx : rIt m i x) : zwp 235 0 [zA 332, zI (i : Int)] [] L m Q ↔ Q (some (zI (if itSo x = 0 then zcod D (itL x) (itM x) (itC x) else -2))) L m := by
  have t0 := mt332 ht
  have q35 : m 332 35 = ((350 : Nat) : Int) := mp35 hp
  have q36 : m 332 36 = ((351 : Nat) : Int) := mp36 hp
  have hr : 0 ≤ (i : Int) ∧ (i : Int) < ((600 : Nat) : Int) := by omega
  have gL := hx.1
  have gM := hx.2.1
  have so := fun Q' : zQ => r_sort0 (Q := Q') ht hn hp hi hK hx
  have en := fun Q' : zQ => r_endTold (Q := Q') ht hn hp hi hK hx
  by_cases hs : itSo x = 0
  · rw [if_pos hs]
    simp only [s235_0, s235_1, s235_2, s235_3, s235_6, s235_14, s235_15, s235_16, s235_19, s235_20, s235_21, s235_22, s235_25, s235_26, s235_27, s235_28, s235_29, s235_32, s235_35, Int.toNat_natCast, true_and, and_true, true_or, or_true, false_or, or_false, zwr_id, zpu_some, zpu_none, reduceIte, Int.reduceLE, Int.reduceLT, Int.reduceEq, Int.reduceNeg, Int.reduceAdd, Int.reduceSub, Int.reduceMul, Int.reduceToNat, Nat.reduceAdd, Nat.reduceLeDiff, Nat.reduceEqDiff, Nat.reduceLT, eq_self, ne_eq, not_false_eq_true, not_true_eq_false, t0, so, hs, q35, q36, mt350 ht, mn350 hn, mt351 ht, mn351 hn, hr, and_self, gL, gM, en, r_codeOf ht hN]
  · rw [if_neg hs]
    simp only [s235_0, s235_1, s235_2, s235_3, s235_6, s235_9, s235_11, s235_35, Int.toNat_natCast, true_and, and_true, true_or, or_true, false_or, or_false, zwr_id, zpu_some, zpu_none, reduceIte, Int.reduceLE, Int.reduceLT, Int.reduceEq, Int.reduceNeg, Int.reduceAdd, Int.reduceSub, Int.reduceMul, Int.reduceToNat, Nat.reduceAdd, Nat.reduceLeDiff, Nat.reduceEqDiff, Nat.reduceLT, eq_self, ne_eq, not_false_eq_true, not_true_eq_false, t0, so, hs]
theorem c_ritem {L : zY} {m : zM} {Q : zQ} {g : zG} {n what : Int} (ht : zMt L) (hn : zMn L) (hg : gOk g) (h : rSt m g) (k : ∀ m', rSt m' (sItem g n what).2 → zFR 332 370 m m' → Q (some (zI (sItem g n what).1)) L m') : zwp 236 0 [zA 332, zI n, zI what] [] L m Q := by
  have t0 := mt332 ht
  cases hd : gD g with
  | none =>
    have e : sItem g n what = gN g 1 := by unfold sItem; rw [hd]
    rw [e] at k
    simp only [s236_0, s236_1, s236_2, s236_3, s236_6, s236_23, s236_24, s236_27, s236_30, s236_33, s236_34, Int.toNat_natCast, true_and, and_true, true_or, or_true, false_or, or_false, zwr_id, zpu_some, zpu_none, reduceIte, Int.reduceLE, Int.reduceLT, Int.reduceEq, Int.reduceNeg, Int.reduceAdd, Int.reduceSub, Int.reduceMul, Int.reduceToNat, Nat.reduceAdd, Nat.reduceLeDiff, Nat.reduceEqDiff, Nat.reduceLT, eq_self, ne_eq, not_false_eq_true, not_true_eq_false, t0, r_isItem0 ht ((rSt_6 h).1 hd), r_unl, r_ref t0]
    exact k _ (rSt_ran hg h) zFR_ran
  | some D =>
    obtain ⟨d1, d2, d3, d4, d5, d6, d7, ⟨d8, d9, d10⟩, d11, d12, d13, -⟩ := rs_D hg h hd
    have rp := fun Q' : zQ => r_isItem1 (Q := Q') (n := n) ht hn h.1 ((rSt_6 h).2 D hd) d8.1 (by omega)
    by_cases hw : 0 ≤ n ∧ n < ((msI (gI g)).length : Int)
    · rw [if_pos hw] at rp
      by_cases hv : 0 ≤ what ∧ what ≤ 6
      · have e : sItem g n what = gA g (fItem D ((msI (gI g)).getD n.toNat it0) what) := by unfold sItem; rw [hd]; exact if_pos ⟨hw, hv⟩
        rw [e] at k
        obtain ⟨i, rfl⟩ : ∃ i : Nat, n = (i : Int) := ⟨n.toNat, by omega⟩
        have hi : i < (msI (gI g)).length := by omega
        have hK := (d11 _ (List.getElem_mem hi)).2.2.2.1
        have h1 := rSt_ran (why := 0) hg h
        have kk := k _ h1 zFR_ran
        have x1 : rIt (ran m 0) i (msI (gI g))[i] := by
          have := rIt_of d8 hi
          unfold rIt at this ⊢
          rw [ran_o (by decide), ran_o (by decide), ran_o (by decide), ran_o (by decide), ran_o (by decide), ran_o (by decide)]
          exact this
        have hN : rNm (ran m 0) D := (h1.2.2.2.2.2.2.2 D hd).2.1
        have i2 : i < 200 := by omega
        have so := fun Q' : zQ => r_sort0 (Q := Q') ht hn h1.1 i2 hK x1
        have en := fun Q' : zQ => r_endTold (Q := Q') ht hn h1.1 i2 hK x1
        have co := fun Q' : zQ => r_codeTold (Q := Q') ht hn h1.1 hN i2 hK x1
        obtain ⟨v1, v2, v3, v4, v5, v6⟩ := x1
        have q35 : ran m 0 332 35 = ((350 : Nat) : Int) := mp35 h1.1
        have q36 : ran m 0 332 36 = ((351 : Nat) : Int) := mp36 h1.1
        have q39 : ran m 0 332 39 = ((354 : Nat) : Int) := mp39 h1.1
        have q40 : ran m 0 332 40 = ((355 : Nat) : Int) := mp40 h1.1
        have hr : 0 ≤ (i : Int) ∧ (i : Int) < ((600 : Nat) : Int) := by omega
        rw [Int.toNat_natCast, getD_lt hi] at kk
        simp only [s236_0, s236_1, s236_2, s236_3, s236_6, s236_9, s236_10, s236_11, s236_13, s236_16, s236_19, s236_20, s236_23, s236_24, s236_27, s236_30, s236_33, s236_34, s236_35, Int.toNat_natCast, true_and, and_true, true_or, or_true, false_or, or_false, zwr_id, zpu_some, zpu_none, reduceIte, Int.reduceLE, Int.reduceLT, Int.reduceEq, Int.reduceNeg, Int.reduceAdd, Int.reduceSub, Int.reduceMul, Int.reduceToNat, Nat.reduceAdd, Nat.reduceLeDiff, Nat.reduceEqDiff, Nat.reduceLT, eq_self, ne_eq, not_false_eq_true, not_true_eq_false, t0, rp, r_in, hv, and_self, r_unl, r_ref t0]
        clear k e h1 d1 d2 d3 d4 d5 d6 d7 d8 d9 d10 d11 d12 d13
        unfold fItem at kk
        have : what = 0 ∨ what = 1 ∨ what = 2 ∨ what = 3 ∨ what = 4 ∨ what = 5 ∨ what = 6 := by omega
        clear hv hw
        rcases this with e | e | e | e | e | e | e <;> subst e <;> simp only [s236_36, s236_76, s236_77, s236_78, s236_79, s236_82, s236_83, s236_84, s236_87, s236_88, s236_89, s236_90, s236_91, s236_94, s236_95, s236_96, s236_97, s236_98, s236_99, s236_102, s236_103, s236_104, s236_105, s236_108, s236_109, s236_110, s236_113, s236_114, s236_115, s236_116, s236_117, s236_120, s236_121, s236_122, Int.toNat_natCast, true_and, and_true, true_or, or_true, false_or, or_false, zwr_id, zpu_some, zpu_none, reduceIte, Int.reduceLE, Int.reduceLT, Int.reduceEq, Int.reduceNeg, Int.reduceAdd, Int.reduceSub, Int.reduceMul, Int.reduceToNat, Nat.reduceAdd, Nat.reduceLeDiff, Nat.reduceEqDiff, Nat.reduceLT, eq_self, ne_eq, not_false_eq_true, not_true_eq_false, t0, so, en, co, q35, q36, q39, q40, mt350 ht, mn350 hn, mt351 ht, mn351 hn, mt354 ht, mn354 hn, mt355 ht, mn355 hn, hr, and_self, v1, v2, v5, v6] <;> exact kk
      · have e : sItem g n what = gN g 1 := by unfold sItem; rw [hd]; exact if_neg (fun q => hv q.2)
        rw [e] at k
        simp only [s236_0, s236_1, s236_2, s236_3, s236_6, s236_9, s236_10, s236_11, s236_13, s236_16, s236_19, s236_20, s236_23, s236_24, s236_27, s236_30, s236_33, s236_34, Int.toNat_natCast, true_and, and_true, true_or, or_true, false_or, or_false, zwr_id, zpu_some, zpu_none, reduceIte, Int.reduceLE, Int.reduceLT, Int.reduceEq, Int.reduceNeg, Int.reduceAdd, Int.reduceSub, Int.reduceMul, Int.reduceToNat, Nat.reduceAdd, Nat.reduceLeDiff, Nat.reduceEqDiff, Nat.reduceLT, eq_self, ne_eq, not_false_eq_true, not_true_eq_false, t0, rp, r_in, hv, r_unl, r_ref t0]
        exact k _ (rSt_ran hg h) zFR_ran
    · have e : sItem g n what = gN g 1 := by unfold sItem; rw [hd]; exact if_neg (fun q => hw q.1)
      rw [e] at k
      rw [if_neg hw] at rp
      simp only [s236_0, s236_1, s236_2, s236_3, s236_6, s236_23, s236_24, s236_27, s236_30, s236_33, s236_34, Int.toNat_natCast, true_and, and_true, true_or, or_true, false_or, or_false, zwr_id, zpu_some, zpu_none, reduceIte, Int.reduceLE, Int.reduceLT, Int.reduceEq, Int.reduceNeg, Int.reduceAdd, Int.reduceSub, Int.reduceMul, Int.reduceToNat, Nat.reduceAdd, Nat.reduceLeDiff, Nat.reduceEqDiff, Nat.reduceLT, eq_self, ne_eq, not_false_eq_true, not_true_eq_false, t0, rp, r_unl, r_ref t0]
      exact k _ (rSt_ran hg h) zFR_ran
