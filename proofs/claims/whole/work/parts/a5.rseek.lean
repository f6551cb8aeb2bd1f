theorem rSt_AT {m : zM} {g : zG} {r : Int} (h : rSt m (([] : List Int), g.2.1, g.2.2.1, g.2.2.2.1, g.2.2.2.2.1, g.2.2.2.2.2.1, -1, 0)) : rSt m (gAT g r).2 := h
theorem c_rseek {L : zY} {m : zM} {Q : zQ} {g : zG} {n a : Int} (ht : zMt L) (hn : zMn L) (hg : gOk g) (h : rSt m g) (k : ∀ m', rSt m' (sSeek g n a).2 → zFR 332 370 m m' → Q (some (zI (sSeek g n a).1)) L m') : zwp 241 0 [zA 332, zI n, zI a, zU, zU, zU] [] L m Q := by
  have t0 := mt332 ht
  have h5 : m 332 5 = ((gT g).length : Int) := h.2.1.1
  have lT : (gT g).length ≤ 300 := h.2.1.2.1
  -- the second of the two refusals
  have second : ∀ (v : Int), zwp 241 6 [zA 332, zI n, zI a, zU, zU, zU] [zI v, zA 332] L m Q ↔ zwp 241 29 [zA 332, zI n, zI a, zU, zU, zU] [zI (if (1 ≤ n ∧ n ≤ 20) ∧ n ≤ ((gT g).length : Int) then 1 else 0), zI v, zA 332] L m Q := fun v => by
    simp only [s241_6, s241_7, s241_8, s241_10, zpu_some, r_in]
    simp only [s241_13]
    by_cases h1 : 1 ≤ n ∧ n ≤ 20
    · rw [if_pos h1, if_neg (by decide)]
      simp only [s241_16, s241_17, s241_18, true_and, t0, h5]
      simp only [s241_21]
      by_cases h2 : n ≤ ((gT g).length : Int)
      · rw [if_neg (by omega), if_pos ⟨h1, h2⟩]
        simp only [s241_24, s241_25]
      · rw [if_pos (by omega), if_neg (fun q => h2 q.2)]
        simp only [s241_28]
    · rw [if_neg h1, if_pos rfl, if_neg (fun q => h1 q.1)]
      simp only [s241_28]
  cases hd : gD g with
  | none =>
    have e : sSeek g n a = gN g 1 := by unfold sSeek; rw [hd]
    rw [e] at k
    simp only [s241_0, s241_1, s241_2, s241_3, Int.toNat_natCast, true_and, and_true, true_or, or_true, false_or, or_false, zwr_id, zpu_some, zpu_none, reduceIte, Int.reduceLE, Int.reduceLT, Int.reduceEq, Int.reduceNeg, Int.reduceAdd, Int.reduceSub, Int.reduceMul, Int.reduceToNat, Nat.reduceAdd, Nat.reduceLeDiff, Nat.reduceEqDiff, Nat.reduceLT, eq_self, ne_eq, not_false_eq_true, not_true_eq_false, t0, r_isItem0 ht ((rSt_6 h).1 hd)]
    rw [second]
    simp only [s241_29, s241_32, s241_35, s241_38, s241_39, Int.toNat_natCast, true_and, and_true, true_or, or_true, false_or, or_false, zwr_id, zpu_some, zpu_none, reduceIte, Int.reduceLE, Int.reduceLT, Int.reduceEq, Int.reduceNeg, Int.reduceAdd, Int.reduceSub, Int.reduceMul, Int.reduceToNat, Nat.reduceAdd, Nat.reduceLeDiff, Nat.reduceEqDiff, Nat.reduceLT, eq_self, ne_eq, not_false_eq_true, not_true_eq_false, t0, r_unl2, r_ref t0]
    exact k _ (rSt_ran hg h) zFR_ran
  | some D =>
    obtain ⟨d1, d2, d3, d4, d5, d6, d7, ⟨d8, d9, d10⟩, d11, d12, d13, eI⟩ := rs_D hg h hd
    have es : sSeek g n a = if 0 ≤ a ∧ a < ((msI (gI g)).length : Int) then (if (1 ≤ n ∧ n ≤ 20) ∧ n ≤ ((gT g).length : Int) then (if ((gT g).take n.toNat).all (gKy D) = true then gAT g (fSeek (msI (gI g)) (gR g) (gT g) n.toNat a.toNat) else gNT g 5) else gN g 2) else gN g 1 := by unfold sSeek; rw [hd]
    rw [es] at k
    have rp := fun Q' : zQ => r_isItem1 (Q := Q') (n := a) ht hn h.1 ((rSt_6 h).2 D hd) d8.1 (by omega)
    simp only [s241_0, s241_1, s241_2, s241_3, Int.toNat_natCast, true_and, and_true, true_or, or_true, false_or, or_false, zwr_id, zpu_some, zpu_none, reduceIte, Int.reduceLE, Int.reduceLT, Int.reduceEq, Int.reduceNeg, Int.reduceAdd, Int.reduceSub, Int.reduceMul, Int.reduceToNat, Nat.reduceAdd, Nat.reduceLeDiff, Nat.reduceEqDiff, Nat.reduceLT, eq_self, ne_eq, not_false_eq_true, not_true_eq_false, t0, rp]
    rw [second]
    by_cases ha : 0 ≤ a ∧ a < ((msI (gI g)).length : Int)
    · rw [if_pos ha] at k ⊢
      by_cases hw : (1 ≤ n ∧ n ≤ 20) ∧ n ≤ ((gT g).length : Int)
      · rw [if_pos hw] at k ⊢
        simp only [s241_29, s241_32, s241_35, s241_38, s241_39, s241_40, s241_41, s241_42, s241_45, s241_46, Int.toNat_natCast, true_and, and_true, true_or, or_true, false_or, or_false, zwr_id, zpu_some, zpu_none, reduceIte, Int.reduceLE, Int.reduceLT, Int.reduceEq, Int.reduceNeg, Int.reduceAdd, Int.reduceSub, Int.reduceMul, Int.reduceToNat, Nat.reduceAdd, Nat.reduceLeDiff, Nat.reduceEqDiff, Nat.reduceLT, eq_self, ne_eq, not_false_eq_true, not_true_eq_false, t0, r_unl2, r_ref t0]
        obtain ⟨N, rfl⟩ : ∃ N : Nat, n = (N : Int) := ⟨n.toNat, by omega⟩
        obtain ⟨A, rfl⟩ : ∃ A : Nat, a = (A : Int) := ⟨a.toNat, by omega⟩
        rw [Int.toNat_natCast, Int.toNat_natCast] at k
        have hN : N ≤ (gT g).length := by omega
        have h1 := rSt_ran (why := 0) hg h
        have h2 := rSt_T0 (v := 0) hg h1
        have hg2 : gOk (([] : List Int), g.2.1, g.2.2.1, g.2.2.2.1, g.2.2.2.2.1, g.2.2.2.2.2.1, -1, 0) := gOk_0 hg
        have fr : zFR 332 370 m (zup (ran m 0) 332 5 0) := zFR_up zFR_ran (by decide) (by decide)
        have hA : zAL (zup (ran m 0) 332 5 0) 333 0 (gT g) := zAL_eq (by rw [zup_nf (by decide), ran_o (by decide)]) h.2.1.2.2.1
        have hI : rBI (zup (ran m 0) 332 5 0) 0 (msI (gI g)) := rBI_eq (fun a p q => by rw [zup_nf (by omega), ran_o (by omega)]) d8
        have iF : ∀ x ∈ msI (gI g), 0 ≤ itF x ∧ itF x < ((gR g).length : Int) := fun x hx => by
          rw [eI] at hx
          obtain ⟨-, f, n, y1, y2, y3, y4, -, -⟩ := (kRun_I d1 d3).1 x hx
          omega
        clear second rp
        generalize zup (ran m 0) 332 5 0 = m1 at *
        have q4 : m1 332 4 = ((333 : Nat) : Int) := mp4 h2.1
        have q31 : m1 332 31 = ((348 : Nat) : Int) := mp31 h2.1
        have q34 : m1 332 34 = ((349 : Nat) : Int) := mp34 h2.1
        have q39 : m1 332 39 = ((354 : Nat) : Int) := mp39 h2.1
        have b3 : (0 : Int) < ((3 : Nat) : Int) := by decide
        have aR : zAL m1 348 0 (gR g) := h2.2.2.2.2.2.1.1
        have h49 : m1 349 0 = ((msI (gI g)).length : Int) := hI.1
        have rt := fun (Q' : zQ) (y : Int) => r_told1 (Q := Q') (key := y) ht hn h2.1 ((rSt_6 h2).2 D hd) (h2.2.2.2.2.2.2.2 D hd).1
        have al := all_take (xs := gT g) (p := gKy D) (n := N) hN
        obtain ⟨c1, c2, c3⟩ := fC_spec (p := fun i => gKy D ((gT g).getD i 0)) N 0
        rw [Nat.zero_add] at c2 c3
        generalize fC (fun i => gKy D ((gT g).getD i 0)) N 0 = v at *
        refine zfor (n := v) (fun i => [zA 332, zI (N : Int), zI (A : Int), zI (i : Nat), zU, zU]) (fun _ m' => m' = m1) ?_ ?_ 0 m1 (Nat.zero_le _) rfl
        · rintro i m1 hi rfl ih
          have ih := ih _ rfl
          have hv : gKy D ((gT g).getD i 0) = true := c2 i (Nat.zero_le _) hi
          have n1 : ¬ (N : Int) ≤ (i : Int) := by omega
          have iv : i < 1000000 := by omega
          have hr : 0 ≤ (i : Int) ∧ (i : Int) < ((300 : Nat) : Int) := by omega
          have hi2 : i < (gT g).length := by omega
          have av : m1 333 i = (gT g).getD i 0 := by rw [zAL_get0 hA hi2, getD_lt hi2]
          simp only [s241_47]
          simp only [s241_48, s241_49, s241_52, s241_53, s241_54, s241_57, s241_58, s241_59, s241_62, s241_71, s241_74, Int.toNat_natCast, true_and, and_true, true_or, or_true, false_or, or_false, zwr_id, zpu_some, zpu_none, reduceIte, Int.reduceLE, Int.reduceLT, Int.reduceEq, Int.reduceNeg, Int.reduceAdd, Int.reduceSub, Int.reduceMul, Int.reduceToNat, Nat.reduceAdd, Nat.reduceLeDiff, Nat.reduceEqDiff, Nat.reduceLT, eq_self, ne_eq, not_false_eq_true, not_true_eq_false, t0, n1, q4, mt333 ht, mn333 hn, hr, and_self, av, rt, hv, z1 iv]
          exact ih
        · rintro m1 rfl
          simp only [s241_47]
          by_cases hv : v = N
          · have al1 : ((gT g).take N).all (gKy D) = true := by rw [al]; exact decide_eq_true hv
            rw [if_pos al1] at k
            have kk := k m1 (rSt_AT (r := fSeek (msI (gI g)) (gR g) (gT g) N A) h2) fr
            have n1 : (N : Int) ≤ (v : Int) := by omega
            simp only [s241_48, s241_49, s241_77, s241_78, Int.toNat_natCast, true_and, and_true, true_or, or_true, false_or, or_false, zwr_id, zpu_some, zpu_none, reduceIte, Int.reduceLE, Int.reduceLT, Int.reduceEq, Int.reduceNeg, Int.reduceAdd, Int.reduceSub, Int.reduceMul, Int.reduceToNat, Nat.reduceAdd, Nat.reduceLeDiff, Nat.reduceEqDiff, Nat.reduceLT, eq_self, ne_eq, not_false_eq_true, not_true_eq_false, n1]
            clear c1 c2 c3 al k es
            -- one place
            have inner : ∀ i, i + N ≤ (msI (gI g)).length → ∀ l5 : zV, ∀ (k3 : ∀ l5, zwp 241 159 [zA 332, zI (N : Int), zI (A : Int), zI (i : Nat), zI (if led (msI (gI g)) (gR g) (gT g) N i = true then 1 else 0), l5] [zI (if led (msI (gI g)) (gR g) (gT g) N i = true then 1 else 0)] L m1 Q), zwp 241 97 [zA 332, zI (N : Int), zI (A : Int), zI (i : Nat), zI 1, zI ((0 : Nat) : Int)] [] L m1 Q := fun i hi l5 k3 => by
              obtain ⟨e1, e2, e3⟩ := fC_spec (p := ledP (msI (gI g)) (gR g) (gT g) i) N 0
              rw [Nat.zero_add] at e2 e3
              have eL : led (msI (gI g)) (gR g) (gT g) N i = decide (fC (ledP (msI (gI g)) (gR g) (gT g) i) N 0 = N) := rfl
              rw [eL] at k3
              clear eL
              generalize fC (ledP (msI (gI g)) (gR g) (gT g) i) N 0 = w at *
              have fl0 : (1 : Int) = if 0 ≤ w then 1 else 0 := (if_pos (Nat.zero_le _)).symm
              rw [fl0]
              refine zfor (n := N) (fun t => [zA 332, zI (N : Int), zI (A : Int), zI (i : Nat), zI (if t ≤ w then 1 else 0), zI (t : Nat)]) (fun _ m' => m' = m1) ?_ ?_ 0 m1 (Nat.zero_le _) rfl
              · rintro t m1 ht1 rfl ih
                have ih := ih _ rfl
                have tv : t < 1000000 := by omega
                have n2 : ¬ (N : Int) ≤ (t : Int) := by omega
                have hit : i + t < (msI (gI g)).length := by omega
                have x1 := rIt_of hI hit
                have hmem := List.getElem_mem hit
                have so := fun Q' : zQ => r_sort0 (Q := Q') (i := i + t) ht hn h2.1 (by omega) (d11 _ hmem).2.2.2.1 x1
                simp only [s241_97]
                simp only [s241_99, s241_100, s241_103, n2, reduceIte]
                simp only [s241_105]
                by_cases hw' : t ≤ w
                · rw [if_pos hw', if_neg (by decide)]
                  have eP : ledP (msI (gI g)) (gR g) (gT g) i t = (decide (itSo (msI (gI g))[i + t] = 0) && decide ((gR g).getD (itF (msI (gI g))[i + t]).toNat 0 = (gT g).getD t 0)) := by unfold ledP; rw [getD_lt hit]
                  have no : ledP (msI (gI g)) (gR g) (gT g) i t = false → zwp 241 148 [zA 332, zI (N : Int), zI (A : Int), zI (i : Nat), zI 1, zI (t : Nat)] [] L m1 Q := fun q => by
                    have : ¬ t + 1 ≤ w := fun z => by rw [e2 t (Nat.zero_le _) (by omega)] at q; cases q
                    rw [if_neg this] at ih
                    simp only [s241_148, s241_149, s241_151, s241_154, z1 tv]
                    exact ih
                  simp only [s241_108, s241_109, s241_110, s241_111, s241_113, s241_114, Int.toNat_natCast, true_and, and_true, true_or, or_true, false_or, or_false, zwr_id, zpu_some, zpu_none, reduceIte, Int.reduceLE, Int.reduceLT, Int.reduceEq, Int.reduceNeg, Int.reduceAdd, Int.reduceSub, Int.reduceMul, Int.reduceToNat, Nat.reduceAdd, Nat.reduceLeDiff, Nat.reduceEqDiff, Nat.reduceLT, eq_self, ne_eq, not_false_eq_true, not_true_eq_false, t0, (show zwr ((i : Int) + (t : Int)) = ((i + t : Nat) : Int) from zwn (by omega) (by omega)), so]
                  simp only [s241_117]
                  by_cases hs : itSo (msI (gI g))[i + t] = 0
                  · rw [if_pos hs]
                    obtain ⟨f, hf⟩ : ∃ f : Nat, itF (msI (gI g))[i + t] = (f : Int) := ⟨(itF (msI (gI g))[i + t]).toNat, by have := iF _ hmem; omega⟩
                    have hfl : f < (gR g).length := by have := iF _ hmem; omega
                    have y5 : m1 354 (i + t) = (f : Int) := by rw [x1.2.2.2.2.1]; exact hf
                    have hr1 : 0 ≤ ((i + t : Nat) : Int) ∧ ((i + t : Nat) : Int) < ((600 : Nat) : Int) := by omega
                    have hr2 : 0 ≤ (f : Int) ∧ (f : Int) < ((80 : Nat) : Int) := by omega
                    have hr3 : 0 ≤ (t : Int) ∧ (t : Int) < ((300 : Nat) : Int) := by omega
                    have htT : t < (gT g).length := by omega
                    have av : m1 348 f = (gR g).getD f 0 := by rw [zAL_get0 aR hfl, getD_lt hfl]
                    have bv : m1 333 t = (gT g).getD t 0 := by rw [zAL_get0 hA htT, getD_lt htT]
                    rw [hf, Int.toNat_natCast] at eP
                    simp only [s241_120, s241_121, s241_124, s241_125, s241_128, s241_129, s241_131, s241_132, s241_133, s241_134, s241_135, s241_138, s241_140, Int.toNat_natCast, true_and, and_true, true_or, or_true, false_or, or_false, zwr_id, zpu_some, zpu_none, reduceIte, Int.reduceLE, Int.reduceLT, Int.reduceEq, Int.reduceNeg, Int.reduceAdd, Int.reduceSub, Int.reduceMul, Int.reduceToNat, Nat.reduceAdd, Nat.reduceLeDiff, Nat.reduceEqDiff, Nat.reduceLT, eq_self, ne_eq, not_false_eq_true, not_true_eq_false, t0, q31, q39, q4, (show zwr ((i : Int) + (t : Int)) = ((i + t : Nat) : Int) from zwn (by omega) (by omega)), mt354 ht, mn354 hn, mt348 ht, mn348 hn, mt333 ht, mn333 hn, hr1, hr2, hr3, and_self, y5, av, bv]
                    simp only [s241_141]
                    by_cases hq : (gR g).getD f 0 = (gT g).getD t 0
                    · rw [if_pos hq]
                      have eT : ledP (msI (gI g)) (gR g) (gT g) i t = true := by rw [eP, decide_eq_true hs, decide_eq_true hq]; rfl
                      have : t + 1 ≤ w := by
                        by_cases z : t = w
                        · subst z
                          have := e3.resolve_left (by omega)
                          rw [eT] at this; cases this
                        · omega
                      rw [if_pos this] at ih
                      simp only [s241_144, s241_145, s241_149, s241_151, s241_154, z1 tv]
                      exact ih
                    · rw [if_neg hq]
                      exact no (by rw [eP, decide_eq_false hq, Bool.and_false])
                  · rw [if_neg hs]
                    exact no (by rw [eP, decide_eq_false hs, Bool.false_and])
                · rw [if_neg hw', if_pos rfl]
                  rw [if_neg (by omega)] at ih
                  simp only [s241_148, s241_149, s241_151, s241_154, z1 tv]
                  exact ih
              · rintro m1 rfl
                have n2 : (N : Int) ≤ (N : Int) := by omega
                have ef : (if N ≤ w then (1 : Int) else 0) = if decide (w = N) = true then 1 else 0 := ite_iff ⟨fun q => decide_eq_true (by omega), fun q => by have := of_decide_eq_true q; omega⟩
                rw [ef]
                simp only [s241_97]
                simp only [s241_99, s241_100, s241_157, Int.toNat_natCast, true_and, and_true, true_or, or_true, false_or, or_false, zwr_id, zpu_some, zpu_none, reduceIte, Int.reduceLE, Int.reduceLT, Int.reduceEq, Int.reduceNeg, Int.reduceAdd, Int.reduceSub, Int.reduceMul, Int.reduceToNat, Nat.reduceAdd, Nat.reduceLeDiff, Nat.reduceEqDiff, Nat.reduceLT, eq_self, ne_eq, not_false_eq_true, not_true_eq_false, n2]
                exact k3 _
            -- all places
            unfold fSeek at kk
            obtain ⟨c1, c2, c3⟩ := fC_spec (p := fun d => !led (msI (gI g)) (gR g) (gT g) N (A + d)) ((msI (gI g)).length + 1 - (A + N)) 0
            rw [Nat.zero_add] at c2 c3
            generalize fC (fun d => !led (msI (gI g)) (gR g) (gT g) N (A + d)) ((msI (gI g)).length + 1 - (A + N)) 0 = u at *
            refine zforv (n := u) (fun (v : zV × zV) d => [zA 332, zI (N : Int), zI (A : Int), zI ((A + d : Nat) : Int), v.1, v.2]) (fun _ m' => m' = m1) ?_ ?_ (zU, zU) 0 m1 (Nat.zero_le _) rfl
            · rintro ⟨v1, v2⟩ d m1 hd' rfl ih
              have hnl := c2 d (Nat.zero_le _) hd'
              have hnl : led (msI (gI g)) (gR g) (gT g) N (A + d) = false := by
                cases z : led (msI (gI g)) (gR g) (gT g) N (A + d)
                · rfl
                · rw [z] at hnl; cases hnl
              have n2 : ¬ ((msI (gI g)).length : Int) < ((A + d + N : Nat) : Int) := by omega
              simp only [s241_79]
              simp only [s241_80, s241_81, s241_82, s241_83, s241_86, s241_87, s241_88, s241_91, s241_92, s241_94, s241_95, Int.toNat_natCast, true_and, and_true, true_or, or_true, false_or, or_false, zwr_id, zpu_some, zpu_none, reduceIte, Int.reduceLE, Int.reduceLT, Int.reduceEq, Int.reduceNeg, Int.reduceAdd, Int.reduceSub, Int.reduceMul, Int.reduceToNat, Nat.reduceAdd, Nat.reduceLeDiff, Nat.reduceEqDiff, Nat.reduceLT, eq_self, ne_eq, not_false_eq_true, not_true_eq_false, t0, (show zwr (((A + d : Nat) : Int) + (N : Int)) = ((A + d + N : Nat) : Int) from zwn (by omega) (by omega)), q34, mt349 ht, mn349 hn, b3, h49, n2]
              refine inner (A + d) (by omega) zU (fun l5 => ?_)
              rw [hnl]
              simp only [s241_159, s241_164, s241_167, Int.toNat_natCast, true_and, and_true, true_or, or_true, false_or, or_false, zwr_id, zpu_some, zpu_none, reduceIte, Int.reduceLE, Int.reduceLT, Int.reduceEq, Int.reduceNeg, Int.reduceAdd, Int.reduceSub, Int.reduceMul, Int.reduceToNat, Nat.reduceAdd, Nat.reduceLeDiff, Nat.reduceEqDiff, Nat.reduceLT, eq_self, ne_eq, not_false_eq_true, not_true_eq_false, Bool.false_eq_true, (show zwr (((A + d : Nat) : Int) + 1) = ((A + (d + 1) : Nat) : Int) from zwn (by omega) (by omega))]
              exact ih (zI 0, l5) _ rfl
            · rintro ⟨v1, v2⟩ m1 rfl
              simp only [s241_79]
              by_cases hu : u = (msI (gI g)).length + 1 - (A + N)
              · rw [if_pos hu] at kk
                have n2 : ((msI (gI g)).length : Int) < ((A + u + N : Nat) : Int) := by omega
                simp only [s241_80, s241_81, s241_82, s241_83, s241_86, s241_87, s241_88, s241_170, s241_172, Int.toNat_natCast, true_and, and_true, true_or, or_true, false_or, or_false, zwr_id, zpu_some, zpu_none, reduceIte, Int.reduceLE, Int.reduceLT, Int.reduceEq, Int.reduceNeg, Int.reduceAdd, Int.reduceSub, Int.reduceMul, Int.reduceToNat, Nat.reduceAdd, Nat.reduceLeDiff, Nat.reduceEqDiff, Nat.reduceLT, eq_self, ne_eq, not_false_eq_true, not_true_eq_false, t0, (show zwr (((A + u : Nat) : Int) + (N : Int)) = ((A + u + N : Nat) : Int) from zwn (by omega) (by omega)), q34, mt349 ht, mn349 hn, b3, h49, n2]
                exact kk
              · rw [if_neg hu] at kk
                have hnl := c3.resolve_left hu
                have hnl : led (msI (gI g)) (gR g) (gT g) N (A + u) = true := by
                  cases z : led (msI (gI g)) (gR g) (gT g) N (A + u)
                  · rw [z] at hnl; cases hnl
                  · rfl
                have n2 : ¬ ((msI (gI g)).length : Int) < ((A + u + N : Nat) : Int) := by omega
                simp only [s241_80, s241_81, s241_82, s241_83, s241_86, s241_87, s241_88, s241_91, s241_92, s241_94, s241_95, Int.toNat_natCast, true_and, and_true, true_or, or_true, false_or, or_false, zwr_id, zpu_some, zpu_none, reduceIte, Int.reduceLE, Int.reduceLT, Int.reduceEq, Int.reduceNeg, Int.reduceAdd, Int.reduceSub, Int.reduceMul, Int.reduceToNat, Nat.reduceAdd, Nat.reduceLeDiff, Nat.reduceEqDiff, Nat.reduceLT, eq_self, ne_eq, not_false_eq_true, not_true_eq_false, t0, (show zwr (((A + u : Nat) : Int) + (N : Int)) = ((A + u + N : Nat) : Int) from zwn (by omega) (by omega)), q34, mt349 ht, mn349 hn, b3, h49, n2]
                refine inner (A + u) (by omega) zU (fun l5 => ?_)
                rw [hnl]
                simp only [s241_159, s241_162, s241_163, Int.toNat_natCast, true_and, and_true, true_or, or_true, false_or, or_false, zwr_id, zpu_some, zpu_none, reduceIte, Int.reduceLE, Int.reduceLT, Int.reduceEq, Int.reduceNeg, Int.reduceAdd, Int.reduceSub, Int.reduceMul, Int.reduceToNat, Nat.reduceAdd, Nat.reduceLeDiff, Nat.reduceEqDiff, Nat.reduceLT, eq_self, ne_eq, not_false_eq_true, not_true_eq_false]
                exact kk
          · rw [if_neg (by rw [al]; exact fun q => hv (of_decide_eq_true q))] at k
            have c3 := c3.resolve_left hv
            have n1 : ¬ (N : Int) ≤ (v : Int) := by omega
            have hr : 0 ≤ (v : Int) ∧ (v : Int) < ((300 : Nat) : Int) := by omega
            have hi2 : v < (gT g).length := by omega
            have av : m1 333 v = (gT g).getD v 0 := by rw [zAL_get0 hA hi2, getD_lt hi2]
            simp only [s241_48, s241_49, s241_52, s241_53, s241_54, s241_57, s241_58, s241_59, s241_62, s241_65, s241_66, s241_67, s241_70, Int.toNat_natCast, true_and, and_true, true_or, or_true, false_or, or_false, zwr_id, zpu_some, zpu_none, reduceIte, Int.reduceLE, Int.reduceLT, Int.reduceEq, Int.reduceNeg, Int.reduceAdd, Int.reduceSub, Int.reduceMul, Int.reduceToNat, Nat.reduceAdd, Nat.reduceLeDiff, Nat.reduceEqDiff, Nat.reduceLT, eq_self, ne_eq, not_false_eq_true, not_true_eq_false, t0, n1, q4, mt333 ht, mn333 hn, hr, and_self, av, rt, c3, Bool.false_eq_true, r_no t0]
            exact k _ (rSt_no1 hg h2) (zFR_tr fr zFR_1)
      · rw [if_neg hw] at k ⊢
        simp only [s241_29, s241_32, s241_35, s241_38, s241_39, Int.toNat_natCast, true_and, and_true, true_or, or_true, false_or, or_false, zwr_id, zpu_some, zpu_none, reduceIte, Int.reduceLE, Int.reduceLT, Int.reduceEq, Int.reduceNeg, Int.reduceAdd, Int.reduceSub, Int.reduceMul, Int.reduceToNat, Nat.reduceAdd, Nat.reduceLeDiff, Nat.reduceEqDiff, Nat.reduceLT, eq_self, ne_eq, not_false_eq_true, not_true_eq_false, t0, r_unl2, r_ref t0]
        exact k _ (rSt_ran hg h) zFR_ran
    · rw [if_neg ha] at k ⊢
      simp only [s241_29, s241_32, s241_35, s241_38, s241_39, Int.toNat_natCast, true_and, and_true, true_or, or_true, false_or, or_false, zwr_id, zpu_some, zpu_none, reduceIte, Int.reduceLE, Int.reduceLT, Int.reduceEq, Int.reduceNeg, Int.reduceAdd, Int.reduceSub, Int.reduceMul, Int.reduceToNat, Nat.reduceAdd, Nat.reduceLeDiff, Nat.reduceEqDiff, Nat.reduceLT, eq_self, ne_eq, not_false_eq_true, not_true_eq_false, t0, r_unl2, r_ref t0]
      exact k _ (rSt_ran hg h) zFR_ran
