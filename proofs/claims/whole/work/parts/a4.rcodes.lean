theorem rSt_no1 {m : zM} {g : zG} {why : Int} (hg : gOk g) (h : rSt m (([] : List Int), g.2.1, g.2.2.1, g.2.2.2.1, g.2.2.2.2.1, g.2.2.2.2.2.1, -1, 0)) : rSt (zup m 332 1 why) (gNT g why).2 := by
  refine rSt_g (gOk_0 (f := g.2.2.2.2.2.1) (p := -1) (q := 0) hg) ⟨rfl, rfl, rfl, rfl⟩ (fun a j p q r => ?_) ⟨by rw [zup_nk (by decide)]; exact h.2.1.1, (by show 0 ≤ 300; decide), zAL_nil, fun x hx => by cases hx⟩ (by rw [zup_nk (by decide)]; exact h.2.2.2.2.1.1) (by rw [zup_nk (by decide)]; exact h.2.2.2.2.1.2.1) zup_same h
  by_cases z : a = 332
  · subst z; exact zup_nk (by omega)
  · exact zup_na z
theorem c_rcodes {L : zY} {m : zM} {Q : zQ} {g : zG} {n : Int} (ht : zMt L) (hn : zMn L) (hg : gOk g) (h : rSt m g) (k : ∀ m', rSt m' (sCodes g n).2 → zFR 332 370 m m' → Q (some (zI (sCodes g n).1)) L m') : zwp 228 0 [zA 332, zI n, zU, zU] [] L m Q := by
  have t0 := mt332 ht
  have h5 : m 332 5 = ((gT g).length : Int) := h.2.1.1
  have lT : (gT g).length ≤ 300 := h.2.1.2.1
  cases hd : gD g with
  | none =>
    have e : sCodes g n = gN g 1 := by unfold sCodes; rw [hd]
    rw [e] at k
    have fin : ∀ v : Int, zwp 228 28 [zA 332, zI n, zU, zU] [zI v, zI 0, zA 332] L m Q := fun v => by
      simp only [s228_28, s228_31, s228_34, s228_37, s228_38, Int.toNat_natCast, true_and, and_true, true_or, or_true, false_or, or_false, zwr_id, zpu_some, zpu_none, reduceIte, Int.reduceLE, Int.reduceLT, Int.reduceEq, Int.reduceNeg, Int.reduceAdd, Int.reduceSub, Int.reduceMul, Int.reduceToNat, Nat.reduceAdd, Nat.reduceLeDiff, Nat.reduceEqDiff, Nat.reduceLT, eq_self, ne_eq, not_false_eq_true, not_true_eq_false, t0, r_unl2, r_ref t0]
      exact k _ (rSt_ran hg h) zFR_ran
    simp only [s228_0, s228_1, s228_2, s228_5, s228_6, s228_7, s228_8, s228_11, Int.toNat_natCast, true_and, and_true, true_or, or_true, false_or, or_false, zwr_id, zpu_some, zpu_none, reduceIte, Int.reduceLE, Int.reduceLT, Int.reduceEq, Int.reduceNeg, Int.reduceAdd, Int.reduceSub, Int.reduceMul, Int.reduceToNat, Nat.reduceAdd, Nat.reduceLeDiff, Nat.reduceEqDiff, Nat.reduceLT, eq_self, ne_eq, not_false_eq_true, not_true_eq_false, t0, (rSt_6 h).1 hd, h5, r_in]
    simp only [s228_14]
    by_cases h1 : 1 ≤ n ∧ n ≤ ((gT g).length : Int)
    · rw [if_pos h1, if_neg (by decide)]
      simp only [s228_17, s228_18, s228_19, ne_eq, true_and, show ¬ (2 : Int) = 0 by decide, not_false_eq_true]
      simp only [s228_20]
      by_cases h2 : zrem n 2 = 0
      · rw [if_pos h2]
        simp only [s228_23, s228_24]
        exact fin 1
      · rw [if_neg h2]
        simp only [s228_27]
        exact fin 0
    · rw [if_neg h1, if_pos rfl]
      simp only [s228_27]
      exact fin 0
  | some D =>
    obtain ⟨d1, d2, d3, d4, d5, d6, d7, -⟩ := rs_D hg h hd
    have es : sCodes g n = if (0 ≤ n ∧ n ≤ ((gT g).length : Int)) ∧ n ≠ 0 ∧ n.toNat % 2 = 0 then (if fC (fun i => dHb D (tCode (gT g) i)) (n.toNat / 2) 0 = n.toNat / 2 then (if 80 < (gR g).length + (gBody D (gT g) (gR g) (gC g) (n.toNat / 2)).length then gNT g 3 else gAct D g [] (gIns (gBody D (gT g) (gR g) (gC g) (n.toNat / 2)) (gR g) (gC g)) (gC g + (gBody D (gT g) (gR g) (gC g) (n.toNat / 2)).length)) else gNT g 5) else gN g 2 := by unfold sCodes; rw [hd]
    rw [es] at k
    have no : ¬ ((0 ≤ n ∧ n ≤ ((gT g).length : Int)) ∧ n ≠ 0 ∧ n.toNat % 2 = 0) → zwp 228 27 [zA 332, zI n, zU, zU] [zI 1, zA 332] L m Q := fun q => by
      rw [if_neg q] at k
      simp only [s228_27, s228_28, s228_31, s228_34, s228_37, s228_38, Int.toNat_natCast, true_and, and_true, true_or, or_true, false_or, or_false, zwr_id, zpu_some, zpu_none, reduceIte, Int.reduceLE, Int.reduceLT, Int.reduceEq, Int.reduceNeg, Int.reduceAdd, Int.reduceSub, Int.reduceMul, Int.reduceToNat, Nat.reduceAdd, Nat.reduceLeDiff, Nat.reduceEqDiff, Nat.reduceLT, eq_self, ne_eq, not_false_eq_true, not_true_eq_false, t0, r_unl2, r_ref t0]
      exact k _ (rSt_ran hg h) zFR_ran
    simp only [s228_0, s228_1, s228_2, s228_5, s228_6, s228_7, s228_8, s228_11, Int.toNat_natCast, true_and, and_true, true_or, or_true, false_or, or_false, zwr_id, zpu_some, zpu_none, reduceIte, Int.reduceLE, Int.reduceLT, Int.reduceEq, Int.reduceNeg, Int.reduceAdd, Int.reduceSub, Int.reduceMul, Int.reduceToNat, Nat.reduceAdd, Nat.reduceLeDiff, Nat.reduceEqDiff, Nat.reduceLT, eq_self, ne_eq, not_false_eq_true, not_true_eq_false, t0, (rSt_6 h).2 D hd, h5, r_in]
    simp only [s228_14]
    by_cases h1 : 1 ≤ n ∧ n ≤ ((gT g).length : Int)
    · rw [if_pos h1, if_neg (by decide)]
      simp only [s228_17, s228_18, s228_19, ne_eq, true_and, show ¬ (2 : Int) = 0 by decide, not_false_eq_true]
      simp only [s228_20]
      have er : zrem n 2 = n % 2 := zrem_nn (by omega) (by omega) (by decide) (by decide)
      rw [er]
      by_cases h2 : n % 2 = 0
      · rw [if_pos h2]
        obtain ⟨H, rfl⟩ : ∃ H : Nat, n = ((2 * H : Nat) : Int) := ⟨(n / 2).toNat, by omega⟩
        have eH : (((2 * H : Nat) : Int)).toNat / 2 = H := by omega
        rw [if_pos (by omega), eH] at k
        have hH : 2 * H ≤ (gT g).length := by omega
        simp only [s228_23, s228_24, s228_28, s228_31, s228_34, s228_37, s228_38, s228_39, s228_40, s228_41, s228_44, s228_45, Int.toNat_natCast, true_and, and_true, true_or, or_true, false_or, or_false, zwr_id, zpu_some, zpu_none, reduceIte, Int.reduceLE, Int.reduceLT, Int.reduceEq, Int.reduceNeg, Int.reduceAdd, Int.reduceSub, Int.reduceMul, Int.reduceToNat, Nat.reduceAdd, Nat.reduceLeDiff, Nat.reduceEqDiff, Nat.reduceLT, eq_self, ne_eq, not_false_eq_true, not_true_eq_false, t0, r_unl2, r_ref t0]
        have h1' := rSt_ran (why := 0) hg h
        have h2' := rSt_T0 (v := 0) hg h1'
        have hg2 : gOk (([] : List Int), g.2.1, g.2.2.1, g.2.2.2.1, g.2.2.2.2.1, g.2.2.2.2.2.1, -1, 0) := gOk_0 hg
        have fr : zFR 332 370 m (zup (ran m 0) 332 5 0) := zFR_up zFR_ran (by decide) (by decide)
        have hA : zAL (zup (ran m 0) 332 5 0) 333 0 (gT g) := zAL_eq (by rw [zup_nf (by decide), ran_o (by decide)]) h.2.1.2.2.1
        have hTr : ∀ x ∈ gT g, 0 ≤ x ∧ x < 256 := h.2.1.2.2.2
        generalize zup (ran m 0) 332 5 0 = m1 at *
        obtain ⟨y1, y2, -⟩ := h2'.2.2.2.2.2.2.2 D hd
        have q4 : m1 332 4 = ((333 : Nat) : Int) := mp4 h2'.1
        have rc := fun (Q' : zQ) (x : Int) => r_isCode1 (Q := Q') (x := x) ht d1 d2 ((rSt_6 h2').2 D hd) y2
        obtain ⟨c1, c2, c3⟩ := fC_spec (p := fun i => dHb D (tCode (gT g) i)) H 0
        rw [Nat.zero_add] at c2 c3
        generalize fC (fun i => dHb D (tCode (gT g) i)) H 0 = v at *
        have look : ∀ i, i < H → ∀ (Q' : zQ), zwp 228 51 [zA 332, zI ((2 * H : Nat) : Int), zI ((2 * i : Nat) : Int), zU] [] L m1 Q' ↔ zwp 228 74 [zA 332, zI ((2 * H : Nat) : Int), zI ((2 * i : Nat) : Int), zU] [zI (if dHb D (tCode (gT g) i) = true then 1 else 0)] L m1 Q' := fun i hi Q' => by
          have i1 : 2 * i < (gT g).length := by omega
          have i2 : 2 * i + 1 < (gT g).length := by omega
          have v1 : m1 333 (2 * i) = (gT g).getD (2 * i) 0 := by rw [zAL_get0 hA i1, getD_lt i1]
          have v2 : m1 333 (2 * i + 1) = (gT g).getD (2 * i + 1) 0 := by rw [zAL_get0 hA i2, getD_lt i2]
          have r1 := hTr _ (List.getElem_mem i1)
          have r2 := hTr _ (List.getElem_mem i2)
          rw [← getD_lt (d := 0) i1] at r1
          rw [← getD_lt (d := 0) i2] at r2
          have hr1 : 0 ≤ ((2 * i : Nat) : Int) ∧ ((2 * i : Nat) : Int) < ((300 : Nat) : Int) := by omega
          have hr2 : 0 ≤ ((2 * i + 1 : Nat) : Int) ∧ ((2 * i + 1 : Nat) : Int) < ((300 : Nat) : Int) := by omega
          simp only [s228_51, s228_52, s228_55, s228_56, s228_59, s228_60, s228_61, s228_62, s228_63, s228_66, s228_67, s228_68, s228_69, s228_70, s228_71, Int.toNat_natCast, true_and, and_true, true_or, or_true, false_or, or_false, zwr_id, zpu_some, zpu_none, reduceIte, Int.reduceLE, Int.reduceLT, Int.reduceEq, Int.reduceNeg, Int.reduceAdd, Int.reduceSub, Int.reduceMul, Int.reduceToNat, Nat.reduceAdd, Nat.reduceLeDiff, Nat.reduceEqDiff, Nat.reduceLT, eq_self, ne_eq, not_false_eq_true, not_true_eq_false, t0, q4, mt333 ht, mn333 hn, hr1, hr2, and_self, v1, v2, (show zwr (256 * (gT g).getD (2 * i) 0) = 256 * (gT g).getD (2 * i) 0 from zwr_id (by omega) (by omega)), (show zwr (((2 * i : Nat) : Int) + 1) = ((2 * i + 1 : Nat) : Int) from zwn (by omega) (by omega)), (show zwr (256 * (gT g).getD (2 * i) 0 + (gT g).getD (2 * i + 1) 0) = tCode (gT g) i by rw [zwr_id (by omega) (by omega)]; unfold tCode; omega), rc]
        refine zfor (n := v) (fun i => [zA 332, zI ((2 * H : Nat) : Int), zI ((2 * i : Nat) : Int), zU]) (fun _ m' => m' = m1) ?_ ?_ 0 m1 (Nat.zero_le _) rfl
        · rintro i m1 hi rfl ih
          have ih := ih _ rfl
          have hv : dHb D (tCode (gT g) i) = true := c2 i (Nat.zero_le _) hi
          have n1 : ¬ ((2 * H : Nat) : Int) ≤ ((2 * i : Nat) : Int) := by omega
          simp only [s228_46]
          simp only [s228_47, s228_48, n1, reduceIte]
          rw [look i (by omega)]
          simp only [s228_74, s228_83, s228_86, Int.toNat_natCast, true_and, and_true, true_or, or_true, false_or, or_false, zwr_id, zpu_some, zpu_none, reduceIte, Int.reduceLE, Int.reduceLT, Int.reduceEq, Int.reduceNeg, Int.reduceAdd, Int.reduceSub, Int.reduceMul, Int.reduceToNat, Nat.reduceAdd, Nat.reduceLeDiff, Nat.reduceEqDiff, Nat.reduceLT, eq_self, ne_eq, not_false_eq_true, not_true_eq_false, hv, (show zwr (((2 * i : Nat) : Int) + 2) = ((2 * (i + 1) : Nat) : Int) from zwn (by omega) (by omega))]
          exact ih
        · rintro m1 rfl
          simp only [s228_46]
          by_cases hv : v = H
          · rw [if_pos hv] at k
            have hc : ∀ i, i < H → dHas D (tCode (gT g) i) := fun i hi => (show 0 ≤ tCode (gT g) i ∧ tCode (gT g) i < ((dnL D * dnM D * dnE D : Nat) : Int) from of_decide_eq_true (c2 i (Nat.zero_le _) (by omega)))
            have n1 : ((2 * H : Nat) : Int) ≤ ((2 * v : Nat) : Int) := by omega
            have gbl : (gBody D (gT g) (gR g) (gC g) H).length = (gPre (gC g)).length + (bB (zPof D) (cdl D (gT g) H) H).length + (gSuf (gR g) (gC g)).length := by unfold gBody; rw [List.length_append, List.length_append]
            obtain ⟨bk1, bk2⟩ := bB_kp (P := zPof D) (l := cdl D (gT g) H) H
            simp only [s228_47, s228_48, s228_89, s228_90, s228_91, Int.toNat_natCast, true_and, and_true, true_or, or_true, false_or, or_false, zwr_id, zpu_some, zpu_none, reduceIte, Int.reduceLE, Int.reduceLT, Int.reduceEq, Int.reduceNeg, Int.reduceAdd, Int.reduceSub, Int.reduceMul, Int.reduceToNat, Nat.reduceAdd, Nat.reduceLeDiff, Nat.reduceEqDiff, Nat.reduceLT, eq_self, ne_eq, not_false_eq_true, not_true_eq_false, t0, n1]
            refine c_rdc ht hn d1 d2 ⟨h2'.1, y1, y2⟩ hA lT hTr hH hc (fun hk m2 f2 => ?_) (fun hk m2 u2 f2 => ?_)
            · rw [if_pos (by omega)] at k
              simp only [s228_94, s228_97, s228_98, s228_99, s228_102, Int.toNat_natCast, true_and, and_true, true_or, or_true, false_or, or_false, zwr_id, zpu_some, zpu_none, reduceIte, Int.reduceLE, Int.reduceLT, Int.reduceEq, Int.reduceNeg, Int.reduceAdd, Int.reduceSub, Int.reduceMul, Int.reduceToNat, Nat.reduceAdd, Nat.reduceLeDiff, Nat.reduceEqDiff, Nat.reduceLT, eq_self, ne_eq, not_false_eq_true, not_true_eq_false, t0, r_no t0]
              exact k _ (rSt_no1 hg (rSt_sf hg2 (rQg_Sf f2) h2')) (zFR_tr fr (zFR_tr (rQg_FR f2) zFR_1))
            · have lOk := cdl_ok d1 d2 hc
              have cl : (cdl D (gT g) H).length = H := cdl_len
              have kg := kp_ge (l := cdl D (gT g) H) (fun q hq => (lOk q hq).2.1) H (by omega)
              simp only [s228_94, s228_103, s228_104, Int.toNat_natCast, true_and, and_true, true_or, or_true, false_or, or_false, zwr_id, zpu_some, zpu_none, reduceIte, Int.reduceLE, Int.reduceLT, Int.reduceEq, Int.reduceNeg, Int.reduceAdd, Int.reduceSub, Int.reduceMul, Int.reduceToNat, Nat.reduceAdd, Nat.reduceLeDiff, Nat.reduceEqDiff, Nat.reduceLT, eq_self, ne_eq, not_false_eq_true, not_true_eq_false, t0]
              refine c_rlbare (l := cdl D (gT g) H) (J := jL D (gT g) H) ht hn d1 lOk (rMx_Qg f2 ⟨h2'.1, y1, y2⟩) u2 (by rw [cl]; exact hk) (by omega) (fun m3 a1 a2 a3 f3 => ?_)
              rw [cl] at a1 a2 a3
              have h3 := rSt_sf hg2 (rSf_tr (rQg_Sf f2) (rLf_Sf f3)) h2'
              have fr3 : zFR 332 370 m m3 := zFR_tr fr (zFR_tr (rQg_FR f2) (rLf_FR f3))
              have sgB : ∀ y ∈ bB (zPof D) (cdl D (gT g) H) H, gSg D y = true := kyOk_sg2 lOk
              clear a3 u2 f2 f3 c1 c2 c3 look rc
              have eGB : gBody D (gT g) (gR g) (gC g) H = gPre (gC g) ++ bB (zPof D) (cdl D (gT g) H) H ++ gSuf (gR g) (gC g) := rfl
              rw [eGB] at k
              rw [eGB] at gbl
              clear eGB
              generalize bB (zPof D) (cdl D (gT g) H) H = B at *
              -- behind what goes ahead
              have c33 : m3 332 33 = (gC g : Int) := h3.2.2.2.2.2.1.2.2
              have c32 : m3 332 32 = ((gR g).length : Int) := h3.2.2.2.2.2.1.2.1
              have p3 := h3.1
              have q58 : m3 332 58 = ((368 : Nat) : Int) := mp58 p3
              have main : ∀ m4 (P : List Int), P = gPre (gC g) → zAL m4 368 0 P → P.length ≤ 1 → (∀ a, a ≠ 368 → m4 a = m3 a) → zwp 228 126 [zA 332, zI ((2 * H : Nat) : Int), zI (P.length : Int), zU] [] L m4 Q := fun m4 P eP gP lP fP => by
                simp only [s228_126, s228_127]
                refine zfor (n := B.length) (fun i => [zA 332, zI ((2 * H : Nat) : Int), zI ((P.length + i : Nat) : Int), zI (i : Nat)]) (fun i m' => zAL m' 368 0 (P ++ B.take i) ∧ ∀ a, a ≠ 368 → m' a = m3 a) ?_ ?_ 0 m4 (Nat.zero_le _) ⟨by rw [List.take_zero, List.append_nil]; exact gP, fP⟩
                · rintro i m5 hi ⟨g1, g3⟩ ih
                  have iv : i < 1000000 := by omega
                  have r50 : m5 332 50 = (B.length : Int) := by rw [g3 332 (by decide)]; exact a2
                  have r58 : m5 332 58 = ((368 : Nat) : Int) := by rw [g3 332 (by decide)]; exact q58
                  have r49 : m5 332 49 = ((362 : Nat) : Int) := by rw [g3 332 (by decide)]; exact mp49 p3
                  have av : m5 362 i = B[i] := by rw [g3 362 (by decide)]; exact zAL_get0 a1 hi
                  have n2 : ¬ (B.length : Int) ≤ (i : Int) := by omega
                  have hr1 : 0 ≤ (i : Int) ∧ (i : Int) < ((400 : Nat) : Int) := by omega
                  have hr2 : 0 ≤ ((P.length + i : Nat) : Int) ∧ ((P.length + i : Nat) : Int) < ((400 : Nat) : Int) := by omega
                  simp only [s228_128]
                  simp only [s228_129, s228_130, s228_133, s228_136, s228_137, s228_140, s228_141, s228_142, s228_145, s228_146, s228_147, s228_148, s228_151, s228_154, Int.toNat_natCast, true_and, and_true, true_or, or_true, false_or, or_false, zwr_id, zpu_some, zpu_none, reduceIte, Int.reduceLE, Int.reduceLT, Int.reduceEq, Int.reduceNeg, Int.reduceAdd, Int.reduceSub, Int.reduceMul, Int.reduceToNat, Nat.reduceAdd, Nat.reduceLeDiff, Nat.reduceEqDiff, Nat.reduceLT, eq_self, ne_eq, not_false_eq_true, not_true_eq_false, t0, r50, n2, r58, r49, mt362 ht, mn362 hn, mt368 ht, mn368 hn, hr1, hr2, and_self, av, (show zwr (((P.length + i : Nat) : Int) + 1) = ((P.length + (i + 1) : Nat) : Int) from zwn (by omega) (by omega)), z1 iv]
                  refine ih _ ⟨?_, fun a ha => by rw [zup_nf ha]; exact g3 a ha⟩
                  have pu := zAL_push (x := B[i]) g1
                  have lt : (P ++ B.take i).length = P.length + i := by rw [List.length_append, List.length_take]; omega
                  rw [lt, Nat.zero_add, List.append_assoc, ← take_s hi] at pu
                  exact pu
                · rintro m5 ⟨g1, g3⟩
                  rw [List.take_length] at g1
                  have r50 : m5 332 50 = (B.length : Int) := by rw [g3 332 (by decide)]; exact a2
                  have r58 : m5 332 58 = ((368 : Nat) : Int) := by rw [g3 332 (by decide)]; exact q58
                  have r33 : m5 332 33 = (gC g : Int) := by rw [g3 332 (by decide)]; exact c33
                  have r32 : m5 332 32 = ((gR g).length : Int) := by rw [g3 332 (by decide)]; exact c32
                  have n2 : (B.length : Int) ≤ (B.length : Int) := by omega
                  simp only [s228_128]
                  simp only [s228_129, s228_130, s228_133, s228_157, s228_158, s228_161, s228_162, Int.toNat_natCast, true_and, and_true, true_or, or_true, false_or, or_false, zwr_id, zpu_some, zpu_none, reduceIte, Int.reduceLE, Int.reduceLT, Int.reduceEq, Int.reduceNeg, Int.reduceAdd, Int.reduceSub, Int.reduceMul, Int.reduceToNat, Nat.reduceAdd, Nat.reduceLeDiff, Nat.reduceEqDiff, Nat.reduceLT, eq_self, ne_eq, not_false_eq_true, not_true_eq_false, t0, r50, n2, r33, r32]
                  -- what comes in is whole
                  have fin : ∀ m6, zAL m6 368 0 (P ++ B ++ gSuf (gR g) (gC g)) → (∀ a, a ≠ 368 → m6 a = m3 a) → zwp 228 179 [zA 332, zI ((2 * H : Nat) : Int), zI ((P ++ B ++ gSuf (gR g) (gC g)).length : Int), zI (B.length : Int)] [] L m6 Q := fun m6 g6 f6 => by
                    have s32 : m6 332 32 = ((gR g).length : Int) := by rw [f6 332 (by decide)]; exact c32
                    have h6 : rSt m6 (([] : List Int), g.2.1, g.2.2.1, g.2.2.2.1, g.2.2.2.2.1, g.2.2.2.2.2.1, -1, 0) := rSt_sf hg2 (rSf_s (fun a p q => f6 a (by omega))) h3
                    have fr6 : zFR 332 370 m m6 := zFR_tr fr3 (fun a ha => f6 a (by omega))
                    have suf1 : (gSuf (gR g) (gC g)).length ≤ 1 := by unfold gSuf; split <;> simp
                    rw [← eP] at k gbl
                    have sgA : ∀ y ∈ P ++ B ++ gSuf (gR g) (gC g), gSg D y = true := fun y hy => by
                      rcases List.mem_append.mp hy with q | q
                      · rcases List.mem_append.mp q with q | q
                        · rw [eP] at q
                          unfold gPre at q
                          split at q
                          · rw [List.mem_singleton.mp q]; rfl
                          · cases q
                        · exact sgB y q
                      · unfold gSuf at q
                        split at q
                        · rw [List.mem_singleton.mp q]; rfl
                        · cases q
                    have allL : (P ++ B ++ gSuf (gR g) (gC g)).length ≤ 400 := by omega
                    generalize P ++ B ++ gSuf (gR g) (gC g) = A at *
                    simp only [s228_179, s228_180, s228_183, s228_184, s228_185, true_and, t0, s32, (show zwr (((gR g).length : Int) + (A.length : Int)) = (((gR g).length + A.length : Nat) : Int) from zwn (by omega) (by omega))]
                    simp only [s228_187]
                    by_cases hl : 80 < (gR g).length + A.length
                    · rw [if_neg (by omega)]
                      rw [if_pos hl] at k
                      simp only [s228_190, s228_191, s228_192, s228_195, Int.toNat_natCast, true_and, and_true, true_or, or_true, false_or, or_false, zwr_id, zpu_some, zpu_none, reduceIte, Int.reduceLE, Int.reduceLT, Int.reduceEq, Int.reduceNeg, Int.reduceAdd, Int.reduceSub, Int.reduceMul, Int.reduceToNat, Nat.reduceAdd, Nat.reduceLeDiff, Nat.reduceEqDiff, Nat.reduceLT, eq_self, ne_eq, not_false_eq_true, not_true_eq_false, t0, r_no t0]
                      exact k _ (rSt_no1 hg h6) (zFR_tr fr6 zFR_1)
                    · rw [if_pos (by omega)]
                      rw [if_neg hl] at k
                      have s58 : m6 332 58 = ((368 : Nat) : Int) := mp58 h6.1
                      have ci := fun (Q' : zQ) kq => c_rcin (Q := Q') (xs := A) ht hn hg2 h6 hd (Or.inr (Or.inr rfl)) (by rw [mn368 hn]; exact allL) g6 (by show (gR g).length + A.length ≤ 80; omega) sgA kq
                      simp only [s228_196, s228_197, s228_198, s228_201, s228_202, Int.toNat_natCast, true_and, and_true, true_or, or_true, false_or, or_false, zwr_id, zpu_some, zpu_none, reduceIte, Int.reduceLE, Int.reduceLT, Int.reduceEq, Int.reduceNeg, Int.reduceAdd, Int.reduceSub, Int.reduceMul, Int.reduceToNat, Nat.reduceAdd, Nat.reduceLeDiff, Nat.reduceEqDiff, Nat.reduceLT, eq_self, ne_eq, not_false_eq_true, not_true_eq_false, t0, s58]
                      refine ci _ (fun m7 h7 f7 e7 => ?_)
                      have q34 : m7 332 34 = ((349 : Nat) : Int) := mp34 h7.1
                      have b3 : (0 : Int) < ((3 : Nat) : Int) := by decide
                      simp only [s228_205, s228_206, s228_209, s228_210, s228_211, Int.toNat_natCast, true_and, and_true, true_or, or_true, false_or, or_false, zwr_id, zpu_some, zpu_none, reduceIte, Int.reduceLE, Int.reduceLT, Int.reduceEq, Int.reduceNeg, Int.reduceAdd, Int.reduceSub, Int.reduceMul, Int.reduceToNat, Nat.reduceAdd, Nat.reduceLeDiff, Nat.reduceEqDiff, Nat.reduceLT, eq_self, ne_eq, not_false_eq_true, not_true_eq_false, t0, q34, mt349 ht, mn349 hn, b3, e7]
                      have st : rSt m7 (gAct D g [] (gIns A (gR g) (gC g)) (gC g + A.length)).2 := by
                        have e2 : g.2.1 = some D := hd
                        have h3' : rSt m7 (([] : List Int), g.2.1, gIns A (gR g) (gC g), gC g + A.length, ((gR g, gC g) :: gH g).take 30, g.2.2.2.2.2.1, -1, 0) := h7
                        rw [e2] at h3'
                        exact h3'
                      exact k m7 st (zFR_tr fr6 f7)
                  simp only [s228_165]
                  by_cases hs : gC g < (gR g).length
                  · rw [if_neg (by omega)]
                    have eS : gSuf (gR g) (gC g) = [124] := if_pos hs
                    rw [eS] at fin
                    have hr2 : 0 ≤ ((P.length + B.length : Nat) : Int) ∧ ((P.length + B.length : Nat) : Int) < ((400 : Nat) : Int) := by omega
                    simp only [s228_168, s228_169, s228_172, s228_173, s228_175, s228_176, Int.toNat_natCast, true_and, and_true, true_or, or_true, false_or, or_false, zwr_id, zpu_some, zpu_none, reduceIte, Int.reduceLE, Int.reduceLT, Int.reduceEq, Int.reduceNeg, Int.reduceAdd, Int.reduceSub, Int.reduceMul, Int.reduceToNat, Nat.reduceAdd, Nat.reduceLeDiff, Nat.reduceEqDiff, Nat.reduceLT, eq_self, ne_eq, not_false_eq_true, not_true_eq_false, t0, r58, mt368 ht, mn368 hn, hr2, and_self, (show zwr (((P.length + B.length : Nat) : Int) + 1) = ((P ++ B ++ [124]).length : Int) from zwn (by rw [List.length_append, List.length_append]; rfl) (by rw [List.length_append, List.length_append]; show P.length + B.length + 1 < _; omega))]
                    refine fin _ ?_ (fun a ha => by rw [zup_nf ha]; exact g3 a ha)
                    have pu := zAL_push (x := 124) g1
                    rw [List.length_append, Nat.zero_add] at pu
                    exact pu
                  · rw [if_pos (by omega)]
                    have eS : gSuf (gR g) (gC g) = [] := if_neg hs
                    rw [eS, List.append_nil, List.length_append] at fin
                    exact fin m5 g1 g3
              simp only [s228_107, s228_108, s228_109, s228_110, zpu_none, true_and, t0, c33]
              simp only [s228_113]
              by_cases hC : gC g = 0
              · rw [if_pos (by omega)]
                exact main m3 [] (if_neg (by omega) : gPre (gC g) = []).symm zAL_nil (Nat.zero_le _) (fun _ _ => rfl)
              · rw [if_neg (by omega)]
                have b4 : (0 : Int) < ((400 : Nat) : Int) := by decide
                simp only [s228_116, s228_117, s228_120, s228_121, s228_123, s228_124, s228_125, Int.toNat_natCast, true_and, and_true, true_or, or_true, false_or, or_false, zwr_id, zpu_some, zpu_none, reduceIte, Int.reduceLE, Int.reduceLT, Int.reduceEq, Int.reduceNeg, Int.reduceAdd, Int.reduceSub, Int.reduceMul, Int.reduceToNat, Nat.reduceAdd, Nat.reduceLeDiff, Nat.reduceEqDiff, Nat.reduceLT, eq_self, ne_eq, not_false_eq_true, not_true_eq_false, t0, q58, mt368 ht, mn368 hn, b4]
                exact main _ [124] (if_pos (by omega) : gPre (gC g) = [124]).symm (zAL_of (fun i hi => by
                  have : i = 0 := by simp at hi; exact hi
                  subst this
                  exact zup_same)) (Nat.le_refl 1) (fun a ha => zup_nf ha)
          · rw [if_neg hv] at k
            have c3 := c3.resolve_left hv
            have n1 : ¬ ((2 * H : Nat) : Int) ≤ ((2 * v : Nat) : Int) := by omega
            simp only [s228_47, s228_48, n1, reduceIte]
            rw [look v (by omega)]
            simp only [s228_74, s228_77, s228_78, s228_79, s228_82, Int.toNat_natCast, true_and, and_true, true_or, or_true, false_or, or_false, zwr_id, zpu_some, zpu_none, reduceIte, Int.reduceLE, Int.reduceLT, Int.reduceEq, Int.reduceNeg, Int.reduceAdd, Int.reduceSub, Int.reduceMul, Int.reduceToNat, Nat.reduceAdd, Nat.reduceLeDiff, Nat.reduceEqDiff, Nat.reduceLT, eq_self, ne_eq, not_false_eq_true, not_true_eq_false, c3, Bool.false_eq_true, t0, r_no t0]
            exact k _ (rSt_no1 hg h2') (zFR_tr fr zFR_1)
      · rw [if_neg h2]
        exact no (fun q => by omega)
    · rw [if_neg h1, if_pos rfl]
      exact no (fun q => by omega)
