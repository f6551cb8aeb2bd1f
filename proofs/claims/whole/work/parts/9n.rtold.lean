theorem hg_D {g : zG} {D : zD} (hg : gOk g) (hd : gD g = some D) : dOk D ∧ dLacks D = false := by
  obtain ⟨T, od, R, C, H, f, p, q⟩ := g
  exact ⟨(hg.2.1 D hd).1, (hg.2.1 D hd).2.1⟩
theorem c_rwithin {L : zY} {m : zM} {Q : zQ} {g : zG} (ht : zMt L) (hn : zMn L) (hg : gOk g) (h : rSt m g) (k : ∀ m', rSt m' (sWithin g).2 → zFR 332 370 m m' → Q (some (zI (sWithin g).1)) L m') : zwp 237 0 [zA 332, zU] [] L m Q := by
  have t0 := mt332 ht
  cases hd : gD g with
  | none =>
    have e : sWithin g = gN g 1 := by unfold sWithin; rw [hd]
    rw [e] at k
    simp only [s237_0, s237_1, s237_2, s237_5, s237_8, s237_11, s237_14, s237_15, Int.toNat_natCast, true_and, and_true, true_or, or_true, false_or, or_false, zwr_id, zpu_some, zpu_none, reduceIte, Int.reduceLE, Int.reduceLT, Int.reduceEq, Int.reduceNeg, Int.reduceAdd, Int.reduceSub, Int.reduceMul, Int.reduceToNat, Nat.reduceAdd, Nat.reduceLeDiff, Nat.reduceEqDiff, Nat.reduceLT, eq_self, ne_eq, not_false_eq_true, not_true_eq_false, t0, (rSt_6 h).1 hd, r_unl, r_ref t0]
    exact k _ (rSt_ran hg h) zFR_ran
  | some D =>
    have h1 := rSt_ran (why := 0) hg h
    obtain ⟨d1, d2, d3, d4, d5, d6, d7, ⟨d8, d9, d10⟩, d11, d12, d13, -⟩ := rs_D (g := (g.1, g.2.1, g.2.2.1, g.2.2.2.1, g.2.2.2.2.1, g.2.2.2.2.2.1, -1, 0)) (gOk_w hg) h1 hd
    have dP : rBP (ran m 0) 0 (gI g).2.2.1 := d9
    have dl : (gI g).2.2.1.length = (gR g).length := d13
    have d4' : (gR g).length ≤ 80 := d4
    have h32 : ran m 0 332 32 = ((gR g).length : Int) := h1.2.2.2.2.2.1.2.1
    have h33 : ran m 0 332 33 = (gC g : Int) := h1.2.2.2.2.2.1.2.2
    have q42 : ran m 0 332 42 = ((357 : Nat) : Int) := mp42 h1.1
    have e : sWithin g = if (0 < gC g ∧ gC g < (gR g).length) ∧ ((gI g).2.2.1.getD (gC g - 1) pl0).1 = ((gI g).2.2.1.getD (gC g) pl0).1 then gA g ((gI g).2.2.1.getD (gC g) pl0).1 else gA g (-2) := by unfold sWithin; rw [hd]
    rw [e] at k
    simp only [s237_0, s237_1, s237_2, s237_5, s237_8, s237_11, s237_14, s237_15, s237_16, s237_17, Int.toNat_natCast, true_and, and_true, true_or, or_true, false_or, or_false, zwr_id, zpu_some, zpu_none, reduceIte, Int.reduceLE, Int.reduceLT, Int.reduceEq, Int.reduceNeg, Int.reduceAdd, Int.reduceSub, Int.reduceMul, Int.reduceToNat, Nat.reduceAdd, Nat.reduceLeDiff, Nat.reduceEqDiff, Nat.reduceLT, eq_self, ne_eq, not_false_eq_true, not_true_eq_false, t0, (rSt_6 h).2 D hd, r_unl, r_ref t0, h33]
    have no : ¬ ((0 < gC g ∧ gC g < (gR g).length) ∧ ((gI g).2.2.1.getD (gC g - 1) pl0).1 = ((gI g).2.2.1.getD (gC g) pl0).1 ∧ ((gI g).2.2.1.getD (gC g) pl0).1 ≠ -2) → zwp 237 75 [zA 332, zU] [] L (ran m 0) Q := fun q => by
      simp only [s237_75, s237_76, s237_77, s237_78, s237_93, s237_95, Int.toNat_natCast, true_and, and_true, true_or, or_true, false_or, or_false, zwr_id, zpu_some, zpu_none, reduceIte, Int.reduceLE, Int.reduceLT, Int.reduceEq, Int.reduceNeg, Int.reduceAdd, Int.reduceSub, Int.reduceMul, Int.reduceToNat, Nat.reduceAdd, Nat.reduceLeDiff, Nat.reduceEqDiff, Nat.reduceLT, eq_self, ne_eq, not_false_eq_true, not_true_eq_false]
      by_cases c : (0 < gC g ∧ gC g < (gR g).length) ∧ ((gI g).2.2.1.getD (gC g - 1) pl0).1 = ((gI g).2.2.1.getD (gC g) pl0).1
      · rw [if_pos c] at k
        have : ((gI g).2.2.1.getD (gC g) pl0).1 = -2 := by
          by_cases z : ((gI g).2.2.1.getD (gC g) pl0).1 = -2
          · exact z
          · exact absurd ⟨c.1, c.2, z⟩ q
        rw [this] at k
        exact k _ h1 zFR_ran
      · rw [if_neg c] at k
        exact k _ h1 zFR_ran
    simp only [s237_20]
    by_cases c0 : gC g = 0
    · rw [if_pos (by omega)]
      exact no (fun q => by omega)
    · rw [if_neg (by omega)]
      simp only [s237_23, s237_24, s237_27, s237_28, true_and, t0, h32, h33]
      simp only [s237_31]
      by_cases c1 : (gR g).length ≤ gC g
      · rw [if_pos (by omega)]
        exact no (fun q => by omega)
      · rw [if_neg (by omega)]
        have i1 : gC g < (gI g).2.2.1.length := by omega
        have i2 : gC g - 1 < (gI g).2.2.1.length := by omega
        have v1 := (rBP_get dP i1).1
        have v2 := (rBP_get dP i2).1
        rw [Nat.mul_zero, Nat.zero_add, ← getD_lt (d := pl0) i1] at v1
        rw [Nat.mul_zero, Nat.zero_add, ← getD_lt (d := pl0) i2] at v2
        have hr1 : 0 ≤ (gC g : Int) ∧ (gC g : Int) < ((400 : Nat) : Int) := by omega
        have hr2 : 0 ≤ ((gC g - 1 : Nat) : Int) ∧ ((gC g - 1 : Nat) : Int) < ((400 : Nat) : Int) := by omega
        simp only [s237_34, s237_35, s237_38, s237_39, s237_42, s237_43, Int.toNat_natCast, true_and, and_true, true_or, or_true, false_or, or_false, zwr_id, zpu_some, zpu_none, reduceIte, Int.reduceLE, Int.reduceLT, Int.reduceEq, Int.reduceNeg, Int.reduceAdd, Int.reduceSub, Int.reduceMul, Int.reduceToNat, Nat.reduceAdd, Nat.reduceLeDiff, Nat.reduceEqDiff, Nat.reduceLT, eq_self, ne_eq, not_false_eq_true, not_true_eq_false, t0, h33, q42, mt357 ht, mn357 hn, hr1, and_self, v1]
        simp only [s237_45]
        by_cases c2 : ((gI g).2.2.1.getD (gC g) pl0).1 = -2
        · rw [if_pos c2]
          exact no (fun q => q.2.2 c2)
        · rw [if_neg c2]
          simp only [s237_48, s237_49, s237_52, s237_53, s237_56, s237_57, s237_58, s237_61, s237_62, s237_65, s237_66, s237_67, Int.toNat_natCast, true_and, and_true, true_or, or_true, false_or, or_false, zwr_id, zpu_some, zpu_none, reduceIte, Int.reduceLE, Int.reduceLT, Int.reduceEq, Int.reduceNeg, Int.reduceAdd, Int.reduceSub, Int.reduceMul, Int.reduceToNat, Nat.reduceAdd, Nat.reduceLeDiff, Nat.reduceEqDiff, Nat.reduceLT, eq_self, ne_eq, not_false_eq_true, not_true_eq_false, t0, h33, q42, mt357 ht, mn357 hn, hr1, hr2, and_self, v1, v2, (show zwr ((gC g : Int) - 1) = ((gC g - 1 : Nat) : Int) from zwn (by omega) (by omega))]
          simp only [s237_68]
          by_cases c3 : ((gI g).2.2.1.getD (gC g) pl0).1 = ((gI g).2.2.1.getD (gC g - 1) pl0).1
          · rw [if_pos c3]
            rw [if_pos ⟨⟨by omega, by omega⟩, c3.symm⟩] at k
            simp only [s237_71, s237_72, s237_76, s237_77, s237_78, s237_81, s237_82, s237_85, s237_86, s237_89, s237_90, s237_95, Int.toNat_natCast, true_and, and_true, true_or, or_true, false_or, or_false, zwr_id, zpu_some, zpu_none, reduceIte, Int.reduceLE, Int.reduceLT, Int.reduceEq, Int.reduceNeg, Int.reduceAdd, Int.reduceSub, Int.reduceMul, Int.reduceToNat, Nat.reduceAdd, Nat.reduceLeDiff, Nat.reduceEqDiff, Nat.reduceLT, eq_self, ne_eq, not_false_eq_true, not_true_eq_false, t0, h33, q42, mt357 ht, mn357 hn, hr1, and_self, v1]
            exact k _ h1 zFR_ran
          · rw [if_neg c3]
            exact no (fun q => c3 q.2.1.symm)
/-- told() -/
def tdL (D : zD) (sort : Int) : List Nat := if sort = 0 then dC D else if sort = 1 then dV D else dO D
def sTold (g : zG) (sort kq : Int) : Option Int := match gD g with
  | none => none
  | some D => if (0 ≤ sort ∧ sort ≤ 2) ∧ 0 ≤ kq ∧ kq < ((tdL D sort).length : Int) then some (kk ((tdL D sort).getD kq.toNat 0)) else none
theorem c_rtold {L : zY} {m : zM} {Q : zQ} {g : zG} {sort kq : Int} (ht : zMt L) (hn : zMn L) (hg : gOk g) (h : rSt m g) (k : ∀ m', rSt m' g → m' 332 0 = (match sTold g sort kq with | some _ => 0 | none => 1) → zFR 332 370 m m' → Q (some (zI ((sTold g sort kq).getD 0))) L m') : zwp 255 0 [zA 332, zI sort, zI kq, zU] [] L m Q := by
  have t0 := mt332 ht
  have h0 := rSt_0 (v := 0) hg h
  have z0 : zup m 332 0 0 332 0 = 0 := zup_same
  have f0 : zFR 332 370 m (zup m 332 0 0) := zFR_1
  simp only [s255_0, s255_1, s255_2, true_and, t0]
  generalize zup m 332 0 0 = m0 at *
  have bad : sTold g sort kq = none → Q (some (zI 0)) L (zup m0 332 0 1) := fun q => by
    rw [q] at k
    exact k _ (rSt_0 hg h0) zup_same (zFR_tr f0 zFR_1)
  have inN : ∀ N : Nat, (0 ≤ kq ∧ kq ≤ (N : Int) - 1) ↔ (0 ≤ kq ∧ kq < (N : Int)) := fun N => in_lt
  cases hd : gD g with
  | none =>
    have e : sTold g sort kq = none := by unfold sTold; rw [hd]
    have n1 : ¬ (0 ≤ kq ∧ kq ≤ -1) := by omega
    simp only [s255_5, s255_6, s255_9, s255_21, s255_22, s255_31, s255_32, s255_33, s255_34, s255_35, s255_36, s255_37, s255_40, s255_43, s255_44, s255_45, s255_48, s255_49, Int.toNat_natCast, true_and, and_true, true_or, or_true, false_or, or_false, zwr_id, zpu_some, zpu_none, reduceIte, Int.reduceLE, Int.reduceLT, Int.reduceEq, Int.reduceNeg, Int.reduceAdd, Int.reduceSub, Int.reduceMul, Int.reduceToNat, Nat.reduceAdd, Nat.reduceLeDiff, Nat.reduceEqDiff, Nat.reduceLT, eq_self, ne_eq, not_false_eq_true, not_true_eq_false, t0, (rSt_6 h0).1 hd, r_in, (show zwr (0 - 1) = -1 from zwr_id (by decide) (by decide)), n1]
    exact bad e
  | some D =>
    obtain ⟨d1, -⟩ := hg_D hg hd
    obtain ⟨c1, -⟩ := h0.2.2.2.2.2.2.2 D hd
    have es : sTold g sort kq = if (0 ≤ sort ∧ sort ≤ 2) ∧ 0 ≤ kq ∧ kq < ((tdL D sort).length : Int) then some (kk ((tdL D sort).getD kq.toNat 0)) else none := by unfold sTold; rw [hd]
    by_cases hs : 0 ≤ sort ∧ sort ≤ 2
    · have q8 : m0 332 8 = ((335 : Nat) : Int) := mp8 h0.1
      have q9 : m0 332 9 = ((336 : Nat) : Int) := mp9 h0.1
      have q10 : m0 332 10 = ((337 : Nat) : Int) := mp10 h0.1
      have q11 : m0 332 11 = ((338 : Nat) : Int) := mp11 h0.1
      obtain ⟨n1, n2, n3, -, -⟩ := c1.2.1
      obtain ⟨a1, a2, a3, -⟩ := c1.2.2.1
      obtain ⟨l1, l2, l3, -, -⟩ := d1.2.2.1
      have main : ∀ (sq : Nat) (A N : Nat), sort = (sq : Int) → sq ≤ 2 → m0 335 sq = ((tdL D sort).length : Int) → (tdL D sort).length ≤ 10 → (0 ≤ kq → kq < ((tdL D sort).length : Int) → zwp 255 50 [zA 332, zI sort, zI kq, zI ((tdL D sort).length : Int)] [] L m0 Q) → zwp 255 25 [zA 332, zI sort, zI kq, zU] [] L m0 Q := fun sq A N e1 e2 e3 e4 e5 => by
        subst e1
        have hr : 0 ≤ (sq : Int) ∧ (sq : Int) < ((10 : Nat) : Int) := by omega
        simp only [s255_25, s255_26, s255_29, s255_30, s255_31, s255_32, s255_33, s255_34, s255_35, s255_36, s255_37, Int.toNat_natCast, true_and, and_true, true_or, or_true, false_or, or_false, zwr_id, zpu_some, zpu_none, reduceIte, Int.reduceLE, Int.reduceLT, Int.reduceEq, Int.reduceNeg, Int.reduceAdd, Int.reduceSub, Int.reduceMul, Int.reduceToNat, Nat.reduceAdd, Nat.reduceLeDiff, Nat.reduceEqDiff, Nat.reduceLT, eq_self, ne_eq, not_false_eq_true, not_true_eq_false, t0, q8, mt335 ht, mn335 hn, hr, and_self, e3, (show zwr (((tdL D (sq : Int)).length : Int) - 1) = ((tdL D (sq : Int)).length : Int) - 1 from zwr_id (by omega) (by omega)), r_in]
        simp only [s255_40]
        by_cases hk : 0 ≤ kq ∧ kq ≤ ((tdL D (sq : Int)).length : Int) - 1
        · rw [if_pos hk, if_neg (by decide)]
          exact e5 hk.1 (by omega)
        · rw [if_neg hk, if_pos rfl]
          simp only [s255_43, s255_44, s255_45, s255_48, s255_49, true_and, t0]
          exact bad (by rw [es]; exact if_neg (fun q => hk (in_lt.mpr q.2)))
      have fin : 0 ≤ kq → kq < ((tdL D sort).length : Int) → Q (some (zI (kk ((tdL D sort).getD kq.toNat 0)))) L m0 := fun z1 z2 => by
        have e : sTold g sort kq = some (kk ((tdL D sort).getD kq.toNat 0)) := by rw [es]; exact if_pos ⟨hs, z1, z2⟩
        rw [e] at k
        exact k m0 h0 z0 f0
      simp only [s255_5, s255_6, s255_9, s255_12, s255_13, s255_14, s255_15, s255_18, Int.toNat_natCast, true_and, and_true, true_or, or_true, false_or, or_false, zwr_id, zpu_some, zpu_none, reduceIte, Int.reduceLE, Int.reduceLT, Int.reduceEq, Int.reduceNeg, Int.reduceAdd, Int.reduceSub, Int.reduceMul, Int.reduceToNat, Nat.reduceAdd, Nat.reduceLeDiff, Nat.reduceEqDiff, Nat.reduceLT, eq_self, ne_eq, not_false_eq_true, not_true_eq_false, t0, (rSt_6 h0).2 D hd, r_in, hs, and_self]
      have val : ∀ ys : List Nat, tdL D sort = ys → 0 ≤ kq → kq < ((tdL D sort).length : Int) → (∀ y ∈ ys, y < 26) → ∃ i : Nat, kq = (i : Int) ∧ ∃ hi : i < ys.length, zwr (97 + ((ys[i] : Nat) : Int)) = kk ((tdL D sort).getD kq.toNat 0) := fun ys e z1 z2 z3 => by
        obtain ⟨i, rfl⟩ : ∃ i : Nat, kq = (i : Int) := ⟨kq.toNat, by omega⟩
        have hi : i < ys.length := by rw [← e]; omega
        refine ⟨i, rfl, hi, ?_⟩
        have := z3 _ (List.getElem_mem hi)
        rw [e, Int.toNat_natCast, getD_lt hi, zwr_id (by omega) (by omega)]
        unfold kk
        omega
      have : sort = 0 ∨ sort = 1 ∨ sort = 2 := by omega
      rcases this with rfl | rfl | rfl
      · refine main 0 0 0 rfl (by decide) n1 l1 (fun z1 z2 => ?_)
        have fin := fin z1 z2
        obtain ⟨i, rfl, hi, e⟩ := val (dC D) rfl z1 z2 (fun y hy => (d1.1.1 y hy).1)
        have hr : 0 ≤ (i : Int) ∧ (i : Int) < ((20 : Nat) : Int) := by omega
        have gv := zAL_n a1 hi
        rw [Nat.zero_add] at gv
        simp only [s255_50, s255_52, s255_53, s255_56, s255_57, s255_60, s255_61, s255_62, s255_85, s255_86, Int.toNat_natCast, true_and, and_true, true_or, or_true, false_or, or_false, zwr_id, zpu_some, zpu_none, reduceIte, Int.reduceLE, Int.reduceLT, Int.reduceEq, Int.reduceNeg, Int.reduceAdd, Int.reduceSub, Int.reduceMul, Int.reduceToNat, Nat.reduceAdd, Nat.reduceLeDiff, Nat.reduceEqDiff, Nat.reduceLT, eq_self, ne_eq, not_false_eq_true, not_true_eq_false, t0, q9, mt336 ht, mn336 hn, hr, and_self, gv, e]
        exact fin
      · refine main 1 0 0 rfl (by decide) n2 (by show (dV D).length ≤ 10; omega) (fun z1 z2 => ?_)
        have fin := fin z1 z2
        obtain ⟨i, rfl, hi, e⟩ := val (dV D) rfl z1 z2 (fun y hy => (d1.1.2.1 y hy).1)
        have hr : 0 ≤ (i : Int) ∧ (i : Int) < ((16 : Nat) : Int) := by omega
        have gv := zAL_n a2 hi
        rw [Nat.zero_add] at gv
        simp only [s255_50, s255_52, s255_53, s255_65, s255_66, s255_67, s255_70, s255_71, s255_74, s255_75, s255_76, s255_85, s255_86, Int.toNat_natCast, true_and, and_true, true_or, or_true, false_or, or_false, zwr_id, zpu_some, zpu_none, reduceIte, Int.reduceLE, Int.reduceLT, Int.reduceEq, Int.reduceNeg, Int.reduceAdd, Int.reduceSub, Int.reduceMul, Int.reduceToNat, Nat.reduceAdd, Nat.reduceLeDiff, Nat.reduceEqDiff, Nat.reduceLT, eq_self, ne_eq, not_false_eq_true, not_true_eq_false, t0, q10, mt337 ht, mn337 hn, hr, and_self, gv, e]
        exact fin
      · refine main 2 0 0 rfl (by decide) n3 (by show (dO D).length ≤ 10; omega) (fun z1 z2 => ?_)
        have fin := fin z1 z2
        obtain ⟨i, rfl, hi, e⟩ := val (dO D) rfl z1 z2 (fun y hy => (d1.1.2.2.1 y hy).1)
        have hr : 0 ≤ (i : Int) ∧ (i : Int) < ((8 : Nat) : Int) := by omega
        have gv := zAL_n a3 hi
        rw [Nat.zero_add] at gv
        simp only [s255_50, s255_52, s255_53, s255_65, s255_66, s255_67, s255_79, s255_80, s255_83, s255_84, s255_85, s255_86, Int.toNat_natCast, true_and, and_true, true_or, or_true, false_or, or_false, zwr_id, zpu_some, zpu_none, reduceIte, Int.reduceLE, Int.reduceLT, Int.reduceEq, Int.reduceNeg, Int.reduceAdd, Int.reduceSub, Int.reduceMul, Int.reduceToNat, Nat.reduceAdd, Nat.reduceLeDiff, Nat.reduceEqDiff, Nat.reduceLT, eq_self, ne_eq, not_false_eq_true, not_true_eq_false, t0, q11, mt338 ht, mn338 hn, hr, and_self, gv, e]
        exact fin
    · have e : sTold g sort kq = none := by rw [es]; exact if_neg (fun q => hs q.1)
      have n1 : ¬ (0 ≤ kq ∧ kq ≤ -1) := by omega
      simp only [s255_5, s255_6, s255_9, s255_12, s255_13, s255_14, s255_15, s255_18, s255_21, s255_22, s255_31, s255_32, s255_33, s255_34, s255_35, s255_36, s255_37, s255_40, s255_43, s255_44, s255_45, s255_48, s255_49, Int.toNat_natCast, true_and, and_true, true_or, or_true, false_or, or_false, zwr_id, zpu_some, zpu_none, reduceIte, Int.reduceLE, Int.reduceLT, Int.reduceEq, Int.reduceNeg, Int.reduceAdd, Int.reduceSub, Int.reduceMul, Int.reduceToNat, Nat.reduceAdd, Nat.reduceLeDiff, Nat.reduceEqDiff, Nat.reduceLT, eq_self, ne_eq, not_false_eq_true, not_true_eq_false, t0, (rSt_6 h0).2 D hd, r_in, hs, (show zwr (0 - 1) = -1 from zwr_id (by decide) (by decide)), n1]
      exact bad e
theorem r_thrown {L : zY} {m : zM} {Q : zQ} (ht : zMt L) : zwp 160 0 [zA 332] [] L m Q ↔ Q (some (zI (m 332 0))) L m := by
  simp only [s160_0, s160_1, s160_4, true_and, mt332 ht]
