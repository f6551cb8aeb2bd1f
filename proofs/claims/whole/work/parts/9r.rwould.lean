theorem c_rwould {L : zY} {m : zM} {Q : zQ} {g : zG} {x what : Int} (ht : zMt L) (hn : zMn L) (hg : gOk g) (h : rSt m g) (k : ∀ m', rSt m' (sWould g x what).2 → zFR 332 370 m m' → Q (some (zI (sWould g x what).1)) L m') : zwp 240 0 [zA 332, zI x, zI what, zU, zU, zU, zU] [] L m Q := by
  have t0 := mt332 ht
  cases hd : gD g with
  | none =>
    have e : sWould g x what = gN g 1 := by unfold sWould; rw [hd]
    rw [e] at k
    simp only [s240_0, s240_1, s240_4, s240_34, s240_35, s240_36, s240_37, s240_38, s240_41, s240_42, s240_59, s240_62, s240_65, s240_66, Int.toNat_natCast, true_and, and_true, true_or, or_true, false_or, or_false, zwr_id, zpu_some, zpu_none, reduceIte, Int.reduceLE, Int.reduceLT, Int.reduceEq, Int.reduceNeg, Int.reduceAdd, Int.reduceSub, Int.reduceMul, Int.reduceToNat, Nat.reduceAdd, Nat.reduceLeDiff, Nat.reduceEqDiff, Nat.reduceLT, eq_self, ne_eq, not_false_eq_true, not_true_eq_false, t0, (rSt_6 h).1 hd, r_ref t0]
    exact k _ (rSt_ran hg h) zFR_ran
  | some D =>
    obtain ⟨d1, d2, d3, d4, d5, d6, d7, ⟨d8, d9, d10⟩, d11, d12, d13, eI⟩ := rs_D hg h hd
    have es : sWould g x what = if gSg D x = true ∧ 0 ≤ what ∧ what ≤ 3 then (if 80 ≤ (gR g).length then gN g 3 else gA g (fWould (msI (kRun (zPof D) (gIns [x] (gR g) (gC g)))) (msI (gI g)) (kRun (zPof D) (gIns [x] (gR g) (gC g))).2.2.2 what)) else gN g 1 := by unfold sWould; rw [hd]
    have rt := fun Q' : zQ => r_told1 (Q := Q') (key := x) ht hn h.1 ((rSt_6 h).2 D hd) d6
    have no : ¬ (gSg D x = true ∧ 0 ≤ what ∧ what ≤ 3) → zwp 240 34 [zA 332, zI x, zI what, zU, zU, zU, zU] [] L m Q := fun q => by
      rw [es, if_neg q] at k
      simp only [s240_34, s240_35, s240_36, s240_37, s240_38, s240_41, s240_42, s240_59, s240_62, s240_65, s240_66, Int.toNat_natCast, true_and, and_true, true_or, or_true, false_or, or_false, zwr_id, zpu_some, zpu_none, reduceIte, Int.reduceLE, Int.reduceLT, Int.reduceEq, Int.reduceNeg, Int.reduceAdd, Int.reduceSub, Int.reduceMul, Int.reduceToNat, Nat.reduceAdd, Nat.reduceLeDiff, Nat.reduceEqDiff, Nat.reduceLT, eq_self, ne_eq, not_false_eq_true, not_true_eq_false, t0, r_ref t0]
      exact k _ (rSt_ran hg h) zFR_ran
    have h32 := h.2.2.2.2.2.1.2.1
    -- a sign that may come in
    have yes : gSg D x = true → zwp 240 21 [zA 332, zI x, zI what, zU, zU, zU, zU] [] L m Q := fun hx => by
      simp only [s240_21, s240_22, s240_23, s240_24, zpu_some, r_in]
      simp only [s240_27]
      by_cases hw : 0 ≤ what ∧ what ≤ 3
      · rw [if_pos hw, if_neg (by decide)]
        rw [es, if_pos ⟨hx, hw⟩] at k
        simp only [s240_30, s240_31, s240_35, s240_36, s240_37, s240_38, s240_45, s240_46, s240_49, Int.toNat_natCast, true_and, and_true, true_or, or_true, false_or, or_false, zwr_id, zpu_some, zpu_none, reduceIte, Int.reduceLE, Int.reduceLT, Int.reduceEq, Int.reduceNeg, Int.reduceAdd, Int.reduceSub, Int.reduceMul, Int.reduceToNat, Nat.reduceAdd, Nat.reduceLeDiff, Nat.reduceEqDiff, Nat.reduceLT, eq_self, ne_eq, not_false_eq_true, not_true_eq_false, t0, h32]
        simp only [s240_51]
        by_cases hl : 80 ≤ (gR g).length
        · rw [if_pos (by omega)]
          rw [if_pos hl] at k
          simp only [s240_54, s240_55, s240_59, s240_62, s240_65, s240_66, Int.toNat_natCast, true_and, and_true, true_or, or_true, false_or, or_false, zwr_id, zpu_some, zpu_none, reduceIte, Int.reduceLE, Int.reduceLT, Int.reduceEq, Int.reduceNeg, Int.reduceAdd, Int.reduceSub, Int.reduceMul, Int.reduceToNat, Nat.reduceAdd, Nat.reduceLeDiff, Nat.reduceEqDiff, Nat.reduceLT, eq_self, ne_eq, not_false_eq_true, not_true_eq_false, t0, r_ref t0]
          exact k _ (rSt_ran hg h) zFR_ran
        · rw [if_neg (by omega)]
          rw [if_neg hl] at k
          have h1 := rSt_ran (why := 0) hg h
          have hg1 : gOk (g.1, g.2.1, g.2.2.1, g.2.2.2.1, g.2.2.2.2.1, g.2.2.2.2.2.1, -1, 0) := gOk_w hg
          have f0 : zFR 332 370 m (ran m 0) := zFR_ran
          have a32 : ran m 0 332 32 = ((gR g).length : Int) := h1.2.2.2.2.2.1.2.1
          have a33 : ran m 0 332 33 = (gC g : Int) := h1.2.2.2.2.2.1.2.2
          have hA : zAL (ran m 0) 348 0 (gR g) := h1.2.2.2.2.2.1.1
          simp only [s240_58, s240_59, s240_62, s240_65, s240_66, s240_67, s240_68, Int.toNat_natCast, true_and, and_true, true_or, or_true, false_or, or_false, zwr_id, zpu_some, zpu_none, reduceIte, Int.reduceLE, Int.reduceLT, Int.reduceEq, Int.reduceNeg, Int.reduceAdd, Int.reduceSub, Int.reduceMul, Int.reduceToNat, Nat.reduceAdd, Nat.reduceLeDiff, Nat.reduceEqDiff, Nat.reduceLT, eq_self, ne_eq, not_false_eq_true, not_true_eq_false, t0, r_ref t0]
          generalize ran m 0 = m1 at *
          have gl : (gIns [x] (gR g) (gC g)).length = (gR g).length + 1 := gIns_len
          refine zfor (n := (gR g).length + 1) (fun i => [zA 332, zI x, zI what, zI 1, zI (i : Nat), zU, zU]) (fun i m' => (∀ j, j < i → m' 362 j = (gIns [x] (gR g) (gC g)).getD j 0) ∧ ∀ a, a ≠ 362 → m' a = m1 a) ?_ ?_ 0 m1 (Nat.zero_le _) ⟨fun j hj => by omega, fun _ _ => rfl⟩
          · rintro i m2 hi ⟨g2, f2⟩ ih
            have n1 : ¬ ((gR g).length : Int) < (i : Int) := by omega
            have iv : i < 1000000 := by omega
            have b32 : m2 332 32 = ((gR g).length : Int) := by rw [f2 332 (by decide)]; exact a32
            have b33 : m2 332 33 = (gC g : Int) := by rw [f2 332 (by decide)]; exact a33
            have q31 : m2 332 31 = ((348 : Nat) : Int) := by rw [f2 332 (by decide)]; exact mp31 h1.1
            have q49 : m2 332 49 = ((362 : Nat) : Int) := by rw [f2 332 (by decide)]; exact mp49 h1.1
            have hr : 0 ≤ (i : Int) ∧ (i : Int) < ((400 : Nat) : Int) := by omega
            have gi := gIns1_get (R := gR g) (C := gC g) (i := i) (x := x) d5 (by omega)
            have nxt : zwp 240 126 [zA 332, zI x, zI what, zI 1, zI (i : Nat), zU, zU] [zI ((gIns [x] (gR g) (gC g)).getD i 0), zI (i : Int), zA 362] L m2 Q := by
              simp only [s240_126, s240_127, s240_130, Int.toNat_natCast, true_and, and_true, true_or, or_true, false_or, or_false, zwr_id, zpu_some, zpu_none, reduceIte, Int.reduceLE, Int.reduceLT, Int.reduceEq, Int.reduceNeg, Int.reduceAdd, Int.reduceSub, Int.reduceMul, Int.reduceToNat, Nat.reduceAdd, Nat.reduceLeDiff, Nat.reduceEqDiff, Nat.reduceLT, eq_self, ne_eq, not_false_eq_true, not_true_eq_false, mt362 ht, mn362 hn, hr, and_self, z1 iv]
              refine ih _ ⟨fun j hj => ?_, fun a ha => by rw [zup_nf ha]; exact f2 a ha⟩
              by_cases e : j = i
              · rw [e, zup_same]
              · rw [zup_nk e]; exact g2 j (by omega)
            rw [gi] at nxt
            simp only [s240_70]
            simp only [s240_72, s240_73, s240_76, s240_79, s240_80, s240_83, s240_85, s240_87, s240_88, Int.toNat_natCast, true_and, and_true, true_or, or_true, false_or, or_false, zwr_id, zpu_some, zpu_none, reduceIte, Int.reduceLE, Int.reduceLT, Int.reduceEq, Int.reduceNeg, Int.reduceAdd, Int.reduceSub, Int.reduceMul, Int.reduceToNat, Nat.reduceAdd, Nat.reduceLeDiff, Nat.reduceEqDiff, Nat.reduceLT, eq_self, ne_eq, not_false_eq_true, not_true_eq_false, t0, b32, n1, q49, b33]
            simp only [s240_91]
            by_cases h2 : i < gC g
            · rw [if_neg (by omega)]
              rw [if_pos h2] at nxt
              have hr1 : 0 ≤ (i : Int) ∧ (i : Int) < ((80 : Nat) : Int) := by omega
              have av : m2 348 i = (gR g).getD i 0 := by rw [f2 348 (by decide), zAL_get0 hA (show i < (gR g).length by omega), getD_lt (show i < (gR g).length by omega)]
              simp only [s240_94, s240_95, s240_98, s240_100, s240_101, Int.toNat_natCast, true_and, and_true, true_or, or_true, false_or, or_false, zwr_id, zpu_some, zpu_none, reduceIte, Int.reduceLE, Int.reduceLT, Int.reduceEq, Int.reduceNeg, Int.reduceAdd, Int.reduceSub, Int.reduceMul, Int.reduceToNat, Nat.reduceAdd, Nat.reduceLeDiff, Nat.reduceEqDiff, Nat.reduceLT, eq_self, ne_eq, not_false_eq_true, not_true_eq_false, t0, q31, mt348 ht, mn348 hn, hr1, and_self, av]
              exact nxt
            · rw [if_pos (by omega)]
              rw [if_neg h2] at nxt
              simp only [s240_104, s240_106, s240_107, true_and, t0, b33]
              simp only [s240_110]
              by_cases h3 : i = gC g
              · rw [if_pos (by omega)]
                rw [if_pos h3] at nxt
                simp only [s240_113, s240_114]
                exact nxt
              · rw [if_neg (by omega)]
                rw [if_neg h3] at nxt
                have hr1 : 0 ≤ ((i - 1 : Nat) : Int) ∧ ((i - 1 : Nat) : Int) < ((80 : Nat) : Int) := by omega
                have av : m2 348 (i - 1) = (gR g).getD (i - 1) 0 := by rw [f2 348 (by decide), zAL_get0 hA (show i - 1 < (gR g).length by omega), getD_lt (show i - 1 < (gR g).length by omega)]
                simp only [s240_117, s240_118, s240_121, s240_123, s240_124, s240_125, Int.toNat_natCast, true_and, and_true, true_or, or_true, false_or, or_false, zwr_id, zpu_some, zpu_none, reduceIte, Int.reduceLE, Int.reduceLT, Int.reduceEq, Int.reduceNeg, Int.reduceAdd, Int.reduceSub, Int.reduceMul, Int.reduceToNat, Nat.reduceAdd, Nat.reduceLeDiff, Nat.reduceEqDiff, Nat.reduceLT, eq_self, ne_eq, not_false_eq_true, not_true_eq_false, t0, q31, mt348 ht, mn348 hn, hr1, and_self, (show zwr ((i : Int) - 1) = ((i - 1 : Nat) : Int) from zwn (by omega) (by omega)), av]
                exact nxt
          · rintro m2 ⟨g2, f2⟩
            have n1 : ((gR g).length : Int) < (((gR g).length + 1 : Nat) : Int) := by omega
            have b32 : m2 332 32 = ((gR g).length : Int) := by rw [f2 332 (by decide)]; exact a32
            have q49 : m2 332 49 = ((362 : Nat) : Int) := by rw [f2 332 (by decide)]; exact mp49 h1.1
            have s2 : rSf m1 m2 := rSf_s (fun a p q => f2 a (by omega))
            have h2 := rSt_sf hg1 s2 h1
            obtain ⟨b1, b2, b3⟩ := h2.2.2.2.2.2.2.2 D hd
            have dg : ∀ y ∈ gIns [x] (gR g) (gC g), gSg D y = true := fun y hy => by
              unfold gIns at hy
              rcases List.mem_append.mp hy with q | q
              · rcases List.mem_append.mp q with q | q
                · exact d3 y (List.mem_of_mem_take q)
                · rw [List.mem_singleton.mp q]; exact hx
              · exact d3 y (List.mem_of_mem_drop q)
            have hA2 : zAL m2 362 0 (gIns [x] (gR g) (gC g)) := zAL_of (fun i hi => g2 i (by omega))
            have mk := fun Q' : zQ => fun kq => c_rmakes (Q := Q') (b := 1) (a := 362) (xs := gIns [x] (gR g) (gC g)) d1 ht hn (by decide) ⟨h2.1, b1, b2⟩ (by decide) (mt362 ht) (by rw [mn362 hn]; omega) hA2 (by omega) dg kq
            simp only [Int.cast_ofNat_Int] at mk
            simp only [s240_70]
            simp only [s240_72, s240_73, s240_76, s240_133, s240_134, s240_135, s240_136, s240_139, s240_140, s240_143, s240_144, s240_145, Int.toNat_natCast, true_and, and_true, true_or, or_true, false_or, or_false, zwr_id, zpu_some, zpu_none, reduceIte, Int.reduceLE, Int.reduceLT, Int.reduceEq, Int.reduceNeg, Int.reduceAdd, Int.reduceSub, Int.reduceMul, Int.reduceToNat, Nat.reduceAdd, Nat.reduceLeDiff, Nat.reduceEqDiff, Nat.reduceLT, eq_self, ne_eq, not_false_eq_true, not_true_eq_false, t0, b32, n1, q49, (show zwr (((gR g).length : Int) + 1) = (((gIns [x] (gR g) (gC g)).length : Nat) : Int) from zwn (by omega) (by omega))]
            refine mk _ (fun m3 c3 f3 => ?_)
            have h3 := rSt_sf hg1 (rBf_Sf f3) h2
            obtain ⟨-, -, b3'⟩ := h3.2.2.2.2.2.2.2 D hd
            have b3i : rBI m3 0 (msI (gI g)) := by rw [eI]; exact b3'.1
            have kr := kRun_R (R := gIns [x] (gR g) (gC g)) d1 dg
            have kl := (gI_len (R := gIns [x] (gR g) (gC g)) d1 (by omega)).1
            have fr : zFR 332 370 m m3 := zFR_tr f0 (zFR_tr (fun a ha => f2 a (by omega)) (rBf_FR f3))
            have kk := k m3 h3 fr
            simp only [zpu_none]
            refine c_rwL ht hn h3.1 c3.2.2.1 b3i kr d11 (by omega) (by omega) ?_
            have q34 : m3 332 34 = ((349 : Nat) : Int) := mp34 h3.1
            have q41 : m3 332 41 = ((356 : Nat) : Int) := mp41 h3.1
            have i49 := c3.2.2.1.1
            have i56 := c3.2.2.2.2
            have b1' : (1 : Int) < ((3 : Nat) : Int) := by decide
            unfold fWould at kk
            have : what = 0 ∨ what = 1 ∨ what = 2 ∨ what = 3 := by omega
            clear hw no k es
            rcases this with e | e | e | e <;> subst e <;> simp only [s240_259, s240_260, s240_263, s240_264, s240_267, s240_268, s240_269, s240_272, s240_273, s240_274, s240_277, s240_279, s240_282, s240_283, s240_284, s240_287, s240_289, s240_292, s240_293, s240_296, s240_297, s240_298, Int.toNat_natCast, true_and, and_true, true_or, or_true, false_or, or_false, zwr_id, zpu_some, zpu_none, reduceIte, Int.reduceLE, Int.reduceLT, Int.reduceEq, Int.reduceNeg, Int.reduceAdd, Int.reduceSub, Int.reduceMul, Int.reduceToNat, Nat.reduceAdd, Nat.reduceLeDiff, Nat.reduceEqDiff, Nat.reduceLT, eq_self, ne_eq, not_false_eq_true, not_true_eq_false, t0, q34, q41, mt349 ht, mn349 hn, mt356 ht, mn356 hn, b1', i49, i56] <;> exact kk
      · rw [if_neg hw, if_pos rfl]
        exact no (fun q => hw q.2)
    simp only [s240_0, s240_1, s240_4, s240_7, s240_8, Int.toNat_natCast, true_and, and_true, true_or, or_true, false_or, or_false, zwr_id, zpu_some, zpu_none, reduceIte, Int.reduceLE, Int.reduceLT, Int.reduceEq, Int.reduceNeg, Int.reduceAdd, Int.reduceSub, Int.reduceMul, Int.reduceToNat, Nat.reduceAdd, Nat.reduceLeDiff, Nat.reduceEqDiff, Nat.reduceLT, eq_self, ne_eq, not_false_eq_true, not_true_eq_false, t0, (rSt_6 h).2 D hd]
    simp only [s240_10]
    have gs : gSg D x = (decide (x = 124) || gKy D x) := rfl
    by_cases h124 : x = 124
    · rw [if_pos h124]
      exact yes (by rw [gs, decide_eq_true h124]; rfl)
    · rw [if_neg h124]
      by_cases hk : gKy D x = true
      · rw [if_pos hk] at rt
        simp only [s240_13, s240_14, s240_15, s240_18, Int.toNat_natCast, true_and, and_true, true_or, or_true, false_or, or_false, zwr_id, zpu_some, zpu_none, reduceIte, Int.reduceLE, Int.reduceLT, Int.reduceEq, Int.reduceNeg, Int.reduceAdd, Int.reduceSub, Int.reduceMul, Int.reduceToNat, Nat.reduceAdd, Nat.reduceLeDiff, Nat.reduceEqDiff, Nat.reduceLT, eq_self, ne_eq, not_false_eq_true, not_true_eq_false, t0, rt]
        exact yes (by rw [gs, hk, Bool.or_true])
      · rw [if_neg hk] at rt
        simp only [s240_13, s240_14, s240_15, s240_18, Int.toNat_natCast, true_and, and_true, true_or, or_true, false_or, or_false, zwr_id, zpu_some, zpu_none, reduceIte, Int.reduceLE, Int.reduceLT, Int.reduceEq, Int.reduceNeg, Int.reduceAdd, Int.reduceSub, Int.reduceMul, Int.reduceToNat, Nat.reduceAdd, Nat.reduceLeDiff, Nat.reduceEqDiff, Nat.reduceLT, eq_self, ne_eq, not_false_eq_true, not_true_eq_false, t0, rt]
        exact no (fun q => by
          have := q.1
          rw [gs, decide_eq_false h124, Bool.false_or] at this
          exact hk this)
