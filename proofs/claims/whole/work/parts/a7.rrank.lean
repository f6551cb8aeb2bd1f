theorem rkA_eq {D : zD} {I : List zIt} (hD : dOk D) (hlk : dLacks D = false) (hI : ∀ x ∈ I, itR D x) {k : Nat} (hk : k < I.length) : rkA (ordI D I) I.length k = cnB (rkP (fun j => rnk D (I.getD j it0)) k) I.length := by
  refine cnB_cg (fun j hj => ?_)
  have h := ord_cmp hD hlk (hI _ (List.getElem_mem hj)) (hI _ (List.getElem_mem hk))
  rw [Bool.eq_iff_iff, rkP_iff, rkP_iff]
  show (ordC D (I.getD j it0) < ordC D (I.getD k it0) ∨ (ordC D (I.getD j it0) = ordC D (I.getD k it0) ∧ j < k)) ↔ (rnk D (I.getD j it0) < rnk D (I.getD k it0) ∨ (rnk D (I.getD j it0) = rnk D (I.getD k it0) ∧ j < k))
  rw [getD_lt hj, getD_lt hk, h.1, h.2]
theorem c_rranked {L : zY} {m : zM} {Q : zQ} {g : zG} {i : Int} (ht : zMt L) (hn : zMn L) (hg : gOk g) (h : rSt m g) (k : ∀ m', rSt m' (sRank g i).2 → zFR 332 370 m m' → Q (some (zI (sRank g i).1)) L m') : zwp 243 0 [zA 332, zI i, zU, zU, zU] [] L m Q := by
  have t0 := mt332 ht
  cases hd : gD g with
  | none =>
    have e : sRank g i = gN g 1 := by unfold sRank; rw [hd]
    rw [e] at k
    simp only [s243_0, s243_1, s243_2, s243_3, s243_6, s243_9, s243_12, s243_15, s243_16, Int.toNat_natCast, true_and, and_true, true_or, or_true, false_or, or_false, zwr_id, zpu_some, zpu_none, reduceIte, Int.reduceLE, Int.reduceLT, Int.reduceEq, Int.reduceNeg, Int.reduceAdd, Int.reduceSub, Int.reduceMul, Int.reduceToNat, Nat.reduceAdd, Nat.reduceLeDiff, Nat.reduceEqDiff, Nat.reduceLT, eq_self, ne_eq, not_false_eq_true, not_true_eq_false, t0, r_isItem0 ht ((rSt_6 h).1 hd), r_unl, r_ref t0]
    exact k _ (rSt_ran hg h) zFR_ran
  | some D =>
    obtain ⟨d1, d2, d3, d4, d5, d6, d7, ⟨d8, d9, d10⟩, d11, d12, d13, eI⟩ := rs_D hg h hd
    have es : sRank g i = if 0 ≤ i ∧ i < ((msI (gI g)).length : Int) then gA g (fRank (ordI D (msI (gI g))) (msI (gI g)).length i.toNat) else gN g 1 := by unfold sRank; rw [hd]
    rw [es] at k
    have rp := fun Q' : zQ => r_isItem1 (Q := Q') (n := i) ht hn h.1 ((rSt_6 h).2 D hd) d8.1 (by omega)
    by_cases hw : 0 ≤ i ∧ i < ((msI (gI g)).length : Int)
    · rw [if_pos hw] at rp k
      obtain ⟨N, rfl⟩ : ∃ N : Nat, i = (N : Int) := ⟨i.toNat, by omega⟩
      rw [Int.toNat_natCast] at k
      have h1 := rSt_ran (why := 0) hg h
      have kk := k _ h1 zFR_ran
      simp only [s243_0, s243_1, s243_2, s243_3, s243_6, s243_9, s243_12, s243_15, s243_16, s243_17, s243_18, Int.toNat_natCast, true_and, and_true, true_or, or_true, false_or, or_false, zwr_id, zpu_some, zpu_none, reduceIte, Int.reduceLE, Int.reduceLT, Int.reduceEq, Int.reduceNeg, Int.reduceAdd, Int.reduceSub, Int.reduceMul, Int.reduceToNat, Nat.reduceAdd, Nat.reduceLeDiff, Nat.reduceEqDiff, Nat.reduceLT, eq_self, ne_eq, not_false_eq_true, not_true_eq_false, t0, rp, r_unl, r_ref t0]
      have hI : rBI (ran m 0) 0 (msI (gI g)) := rBI_eq (fun a p q => ran_o (by omega)) d8
      have hN : rNm (ran m 0) D := (h1.2.2.2.2.2.2.2 D hd).2.1
      have p1 := h1.1
      have lI : (msI (gI g)).length ≤ 80 := by omega
      clear k es rp h1 d3 d4 d5 d6 d7 d8 d9 d10 d12 d13 eI
      generalize ran m 0 = m1 at *
      generalize msI (gI g) = I at *
      have q34 : m1 332 34 = ((349 : Nat) : Int) := mp34 p1
      have b3 : (0 : Int) < ((3 : Nat) : Int) := by decide
      have h49 : m1 349 0 = (I.length : Int) := hI.1
      have rr := fun (Q' : zQ) (j : Nat) (hj : j < I.length) => r_rank (Q := Q') ht hn d1 d2 p1 hN (show j < 200 by omega) (d11 _ (List.getElem_mem hj)) (rIt_of hI hj)
      unfold fRank at kk
      obtain ⟨c1, c2, c3⟩ := fC_spec (p := fun k => decide (rkA (ordI D I) I.length k ≠ N)) I.length 0
      rw [Nat.zero_add] at c2 c3
      generalize fC (fun k => decide (rkA (ordI D I) I.length k ≠ N)) I.length 0 = v at *
      have hv : v < I.length := by
        obtain ⟨kx, y1, y2⟩ := rk_all (o := ordI D I) I.length N (by omega)
        by_cases z : v = I.length
        · have := of_decide_eq_true (c2 kx (Nat.zero_le _) (by omega))
          exact absurd y2 this
        · omega
      rw [if_neg (by omega)] at kk
      -- how many are ahead of one
      have ahead : ∀ t, t < I.length → ∀ (k3 : ∀ l4, zwp 243 93 [zA 332, zI (N : Int), zI (t : Nat), zI (rkA (ordI D I) I.length t : Nat), l4] [] L m1 Q), zwp 243 34 [zA 332, zI (N : Int), zI (t : Nat), zI 0, zI ((0 : Nat) : Int)] [] L m1 Q := fun t ht1 k3 => by
        rw [rkA_eq d1 d2 d11 ht1] at k3
        refine zfor (n := I.length) (fun j => [zA 332, zI (N : Int), zI (t : Nat), zI (cnB (rkP (fun j => rnk D (I.getD j it0)) t) j : Nat), zI (j : Nat)]) (fun _ m' => m' = m1) ?_ ?_ 0 m1 (Nat.zero_le _) rfl
        · rintro j m1 hj rfl ih
          have ih := ih _ rfl
          have jv : j < 1000000 := by omega
          have n2 : ¬ (I.length : Int) ≤ (j : Int) := by omega
          have cl := cnB_le (p := rkP (fun j => rnk D (I.getD j it0)) t) j
          have cs : cnB (rkP (fun j => rnk D (I.getD j it0)) t) (j + 1) = cnB (rkP (fun j => rnk D (I.getD j it0)) t) j + if rkP (fun j => rnk D (I.getD j it0)) t j = true then 1 else 0 := rfl
          rw [cs] at ih
          have ri := rkP_iff (o := fun j => rnk D (I.getD j it0)) (k := t) (j := j)
          simp only [getD_lt hj, getD_lt ht1] at ri
          generalize cnB (rkP (fun j => rnk D (I.getD j it0)) t) j = C at *
          have yes : rkP (fun j => rnk D (I.getD j it0)) t j = true → zwp 243 80 [zA 332, zI (N : Int), zI (t : Nat), zI (C : Nat), zI (j : Nat)] [zI (C : Int)] L m1 Q := fun q => by
            rw [if_pos q] at ih
            simp only [s243_80, s243_81, s243_84, s243_85, s243_86, s243_87, s243_90, (show zwr ((C : Int) + 1) = ((C + 1 : Nat) : Int) from zwn (by omega) (by omega)), z1 jv]
            exact ih
          have no : ¬ rkP (fun j => rnk D (I.getD j it0)) t j = true → zwp 243 84 [zA 332, zI (N : Int), zI (t : Nat), zI (C : Nat), zI (j : Nat)] [zI (C : Int)] L m1 Q := fun q => by
            rw [if_neg q] at ih
            simp only [s243_84, s243_85, s243_86, s243_87, s243_90, (show zwr ((C : Int) + 0) = ((C + 0 : Nat) : Int) from zwn (by omega) (by omega)), z1 jv]
            exact ih
          simp only [s243_34]
          simp only [s243_36, s243_37, s243_40, s243_41, s243_42, s243_45, s243_46, s243_47, s243_49, s243_52, s243_53, s243_54, Int.toNat_natCast, true_and, and_true, true_or, or_true, false_or, or_false, zwr_id, zpu_some, zpu_none, reduceIte, Int.reduceLE, Int.reduceLT, Int.reduceEq, Int.reduceNeg, Int.reduceAdd, Int.reduceSub, Int.reduceMul, Int.reduceToNat, Nat.reduceAdd, Nat.reduceLeDiff, Nat.reduceEqDiff, Nat.reduceLT, eq_self, ne_eq, not_false_eq_true, not_true_eq_false, t0, q34, mt349 ht, mn349 hn, b3, h49, n2, fun Q' => rr Q' j hj, fun Q' => rr Q' t ht1]
          simp only [s243_57]
          by_cases y1 : rnk D I[j] < rnk D I[t]
          · rw [if_pos y1]
            exact yes (ri.mpr (Or.inl y1))
          · rw [if_neg y1]
            simp only [s243_60, s243_61, s243_63, s243_66, s243_67, s243_68, Int.toNat_natCast, true_and, and_true, true_or, or_true, false_or, or_false, zwr_id, zpu_some, zpu_none, reduceIte, Int.reduceLE, Int.reduceLT, Int.reduceEq, Int.reduceNeg, Int.reduceAdd, Int.reduceSub, Int.reduceMul, Int.reduceToNat, Nat.reduceAdd, Nat.reduceLeDiff, Nat.reduceEqDiff, Nat.reduceLT, eq_self, ne_eq, not_false_eq_true, not_true_eq_false, t0, fun Q' => rr Q' j hj, fun Q' => rr Q' t ht1]
            simp only [s243_71]
            by_cases y2 : rnk D I[j] = rnk D I[t]
            · rw [if_pos y2]
              simp only [s243_74, s243_76]
              simp only [s243_77]
              by_cases y3 : j < t
              · rw [if_neg (by omega)]
                exact yes (ri.mpr (Or.inr ⟨y2, y3⟩))
              · rw [if_pos (by omega)]
                exact no (fun q => (ri.mp q).elim y1 (fun z => y3 z.2))
            · rw [if_neg y2]
              exact no (fun q => (ri.mp q).elim y1 (fun z => y2 z.1))
        · rintro m1 rfl
          have n2 : (I.length : Int) ≤ (I.length : Int) := by omega
          simp only [s243_34]
          simp only [s243_36, s243_37, s243_40, s243_41, s243_42, Int.toNat_natCast, true_and, and_true, true_or, or_true, false_or, or_false, zwr_id, zpu_some, zpu_none, reduceIte, Int.reduceLE, Int.reduceLT, Int.reduceEq, Int.reduceNeg, Int.reduceAdd, Int.reduceSub, Int.reduceMul, Int.reduceToNat, Nat.reduceAdd, Nat.reduceLeDiff, Nat.reduceEqDiff, Nat.reduceLT, eq_self, ne_eq, not_false_eq_true, not_true_eq_false, t0, q34, mt349 ht, mn349 hn, b3, h49, n2]
          exact k3 _
      refine zforv (n := v) (fun (u : zV × zV) t => [zA 332, zI (N : Int), zI (t : Nat), u.1, u.2]) (fun _ m' => m' = m1) ?_ ?_ (zU, zU) 0 m1 (Nat.zero_le _) rfl
      · rintro ⟨u1, u2⟩ t m1 ht1 rfl ih
        have tv : t < 1000000 := by omega
        have n2 : ¬ (I.length : Int) ≤ (t : Int) := by omega
        have nr := of_decide_eq_true (c2 t (Nat.zero_le _) ht1)
        simp only [s243_19]
        simp only [s243_20, s243_21, s243_24, s243_25, s243_26, s243_29, s243_30, s243_31, s243_32, Int.toNat_natCast, true_and, and_true, true_or, or_true, false_or, or_false, zwr_id, zpu_some, zpu_none, reduceIte, Int.reduceLE, Int.reduceLT, Int.reduceEq, Int.reduceNeg, Int.reduceAdd, Int.reduceSub, Int.reduceMul, Int.reduceToNat, Nat.reduceAdd, Nat.reduceLeDiff, Nat.reduceEqDiff, Nat.reduceLT, eq_self, ne_eq, not_false_eq_true, not_true_eq_false, t0, q34, mt349 ht, mn349 hn, b3, h49, n2]
        refine ahead t (by omega) (fun l4 => ?_)
        simp only [s243_93, s243_94]
        simp only [s243_95]
        rw [if_neg (by omega)]
        simp only [s243_100, s243_103, z1 tv]
        exact ih (zI (rkA (ordI D I) I.length t : Nat), l4) _ rfl
      · rintro ⟨u1, u2⟩ m1 rfl
        have n2 : ¬ (I.length : Int) ≤ (v : Int) := by omega
        have nr := of_decide_eq_false (c3.resolve_left (by omega))
        have nr : rkA (ordI D I) I.length v = N := Classical.not_not.mp nr
        simp only [s243_19]
        simp only [s243_20, s243_21, s243_24, s243_25, s243_26, s243_29, s243_30, s243_31, s243_32, Int.toNat_natCast, true_and, and_true, true_or, or_true, false_or, or_false, zwr_id, zpu_some, zpu_none, reduceIte, Int.reduceLE, Int.reduceLT, Int.reduceEq, Int.reduceNeg, Int.reduceAdd, Int.reduceSub, Int.reduceMul, Int.reduceToNat, Nat.reduceAdd, Nat.reduceLeDiff, Nat.reduceEqDiff, Nat.reduceLT, eq_self, ne_eq, not_false_eq_true, not_true_eq_false, t0, q34, mt349 ht, mn349 hn, b3, h49, n2]
        refine ahead v hv (fun l4 => ?_)
        simp only [s243_93, s243_94]
        simp only [s243_95]
        rw [if_pos (by omega)]
        simp only [s243_98, s243_99]
        exact kk
    · rw [if_neg hw] at rp k
      simp only [s243_0, s243_1, s243_2, s243_3, s243_6, s243_9, s243_12, s243_15, s243_16, Int.toNat_natCast, true_and, and_true, true_or, or_true, false_or, or_false, zwr_id, zpu_some, zpu_none, reduceIte, Int.reduceLE, Int.reduceLT, Int.reduceEq, Int.reduceNeg, Int.reduceAdd, Int.reduceSub, Int.reduceMul, Int.reduceToNat, Nat.reduceAdd, Nat.reduceLeDiff, Nat.reduceEqDiff, Nat.reduceLT, eq_self, ne_eq, not_false_eq_true, not_true_eq_false, t0, rp, r_unl, r_ref t0]
      exact k _ (rSt_ran hg h) zFR_ran
