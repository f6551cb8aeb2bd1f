theorem c_rundo {L : zY} {m : zM} {Q : zQ} {g : zG} (ht : zMt L) (hn : zMn L) (hg : gOk g) (h : rSt m g) (k : ∀ m', rSt m' (sUndo g).2 → zFR 332 370 m m' → Q (some (zI (sUndo g).1)) L m') : zwp 229 0 [zA 332, zU] [] L m Q := by
  have t0 := mt332 ht
  cases hd : gD g with
  | none =>
    have e : sUndo g = gN g 1 := by unfold sUndo; rw [hd]
    rw [e] at k
    simp only [s229_0, s229_1, s229_2, s229_5, s229_8, s229_9, s229_24, s229_27, s229_30, s229_31, Int.toNat_natCast, true_and, and_true, true_or, or_true, false_or, or_false, zwr_id, zpu_some, zpu_none, reduceIte, Int.reduceLE, Int.reduceLT, Int.reduceEq, Int.reduceNeg, Int.reduceAdd, Int.reduceSub, Int.reduceMul, Int.reduceToNat, Nat.reduceAdd, Nat.reduceLeDiff, Nat.reduceEqDiff, Nat.reduceLT, eq_self, ne_eq, not_false_eq_true, not_true_eq_false, t0, (rSt_6 h).1 hd, r_ref t0]
    exact k _ (rSt_ran hg h) zFR_ran
  | some D =>
    obtain ⟨d1, d2, d3, d4, d5, -⟩ := rs_D hg h hd
    have h53 : m 332 53 = ((gH g).length : Int) := h.2.2.2.2.2.2.1.1
    have hgH : ∀ q ∈ gH g, q.1.length ≤ 80 ∧ q.2 ≤ q.1.length ∧ ∀ x ∈ q.1, gSg D x = true := by
      obtain ⟨T, od, R, C, H, f, p, q⟩ := g
      exact (hg.2.1 D hd).2.2.2
    simp only [s229_0, s229_1, s229_2, s229_5, s229_12, s229_13, Int.toNat_natCast, true_and, and_true, true_or, or_true, false_or, or_false, zwr_id, zpu_some, zpu_none, reduceIte, Int.reduceLE, Int.reduceLT, Int.reduceEq, Int.reduceNeg, Int.reduceAdd, Int.reduceSub, Int.reduceMul, Int.reduceToNat, Nat.reduceAdd, Nat.reduceLeDiff, Nat.reduceEqDiff, Nat.reduceLT, eq_self, ne_eq, not_false_eq_true, not_true_eq_false, t0, (rSt_6 h).2 D hd, h53]
    simp only [s229_16]
    cases hH : gH g with
    | nil =>
      have es : sUndo g = gN g 5 := by unfold sUndo; rw [hd, hH]
      rw [es] at k
      rw [if_pos (show ((([] : zHs).length : Nat) : Int) = 0 from rfl)]
      simp only [s229_19, s229_20, s229_24, s229_27, s229_30, s229_31, Int.toNat_natCast, true_and, and_true, true_or, or_true, false_or, or_false, zwr_id, zpu_some, zpu_none, reduceIte, Int.reduceLE, Int.reduceLT, Int.reduceEq, Int.reduceNeg, Int.reduceAdd, Int.reduceSub, Int.reduceMul, Int.reduceToNat, Nat.reduceAdd, Nat.reduceLeDiff, Nat.reduceEqDiff, Nat.reduceLT, eq_self, ne_eq, not_false_eq_true, not_true_eq_false, t0, r_ref t0]
      exact k _ (rSt_ran hg h) zFR_ran
    | cons h0 H =>
      have es : sUndo g = (((H.length : Nat) : Int), (gT g, some D, h0.1, h0.2, H, g.2.2.2.2.2.1, -1, 0)) := by unfold sUndo; rw [hd, hH]
      rw [es] at k
      rw [if_neg (by show ¬ (((h0 :: H).length : Nat) : Int) = 0; rw [List.length_cons]; omega)]
      obtain ⟨q1, q2, q3⟩ := hgH h0 (by rw [hH]; exact List.mem_cons_self)
      have h1 := rSt_ran (why := 0) hg h
      obtain ⟨b53, b30, bb⟩ := h1.2.2.2.2.2.2.1
      have b53 : ran m 0 332 53 = (((h0 :: H).length : Nat) : Int) := by rw [← hH]; exact b53
      have b30 : (h0 :: H).length ≤ 30 := by rw [← hH]; exact b30
      have bb : ∀ (j : Nat) (q : List Int × Nat), (h0 :: H)[j]? = some q → ran m 0 365 ((h0 :: H).length - 1 - j) = (q.1.length : Int) ∧ ran m 0 366 ((h0 :: H).length - 1 - j) = (q.2 : Int) ∧ q.1.length ≤ 80 ∧ zAL (ran m 0) 364 (80 * ((h0 :: H).length - 1 - j)) q.1 := by rw [← hH]; exact bb
      rw [List.length_cons] at b53 b30 bb
      have hl : H.length ≤ 29 := by omega
      obtain ⟨v1, v2, -, v4⟩ := bb 0 h0 rfl
      rw [show H.length + 1 - 1 - 0 = H.length by omega] at v1 v2 v4
      have p1 := h1.1
      have q55 : ran m 0 332 55 = ((365 : Nat) : Int) := mp55 p1
      have q56 : ran m 0 332 56 = ((366 : Nat) : Int) := mp56 p1
      have hr : 0 ≤ (H.length : Int) ∧ (H.length : Int) < ((30 : Nat) : Int) := by omega
      simp only [s229_23, s229_24, s229_27, s229_30, s229_31, s229_32, s229_33, s229_34, s229_37, s229_38, s229_39, s229_42, s229_43, s229_44, s229_47, s229_48, s229_51, s229_52, s229_55, s229_56, s229_57, s229_60, s229_61, s229_64, s229_65, s229_68, s229_69, Int.toNat_natCast, true_and, and_true, true_or, or_true, false_or, or_false, zwr_id, zpu_some, zpu_none, reduceIte, Int.reduceLE, Int.reduceLT, Int.reduceEq, Int.reduceNeg, Int.reduceAdd, Int.reduceSub, Int.reduceMul, Int.reduceToNat, Nat.reduceAdd, Nat.reduceLeDiff, Nat.reduceEqDiff, Nat.reduceLT, eq_self, ne_eq, not_false_eq_true, not_true_eq_false, t0, r_ref t0, b53, (show zwr (((H.length + 1 : Nat) : Int) - 1) = ((H.length : Nat) : Int) from zwn (by omega) (by omega)), zup_same, zup_nk (show (55 : Nat) ≠ 53 by decide), zup_nk (show (56 : Nat) ≠ 53 by decide), zup_nk (show (56 : Nat) ≠ 32 by decide), zup_nk (show (53 : Nat) ≠ 32 by decide), q55, q56, mt365 ht, mn365 hn, mt366 ht, mn366 hn, hr, and_self, zup_na (show (365 : Nat) ≠ 332 by decide), zup_na (show (366 : Nat) ≠ 332 by decide), v1, v2]
      have f0 : zFR 332 370 m (zup (zup (zup (ran m 0) 332 53 (H.length : Int)) 332 32 (h0.1.length : Int)) 332 33 (h0.2 : Int)) := zFR_up (zFR_up (zFR_up zFR_ran (by decide) (by decide)) (by decide) (by decide)) (by decide) (by decide)
      have e0 : ∀ a, a ≠ 332 → zup (zup (zup (ran m 0) 332 53 (H.length : Int)) 332 32 (h0.1.length : Int)) 332 33 (h0.2 : Int) a = ran m 0 a := fun a q => by rw [zup_nf q, zup_nf q, zup_nf q]
      have o0 : ∀ j, j ≠ 53 → j ≠ 32 → j ≠ 33 → zup (zup (zup (ran m 0) 332 53 (H.length : Int)) 332 32 (h0.1.length : Int)) 332 33 (h0.2 : Int) 332 j = ran m 0 332 j := fun j q1 q2 q3 => by rw [zup_nk q3, zup_nk q2, zup_nk q1]
      have c53 : zup (zup (zup (ran m 0) 332 53 (H.length : Int)) 332 32 (h0.1.length : Int)) 332 33 (h0.2 : Int) 332 53 = (H.length : Int) := by rw [zup_nk (by decide), zup_nk (by decide), zup_same]
      have c32 : zup (zup (zup (ran m 0) 332 53 (H.length : Int)) 332 32 (h0.1.length : Int)) 332 33 (h0.2 : Int) 332 32 = (h0.1.length : Int) := by rw [zup_nk (by decide), zup_same]
      have c33 : zup (zup (zup (ran m 0) 332 53 (H.length : Int)) 332 32 (h0.1.length : Int)) 332 33 (h0.2 : Int) 332 33 = (h0.2 : Int) := zup_same
      generalize zup (zup (zup (ran m 0) 332 53 (H.length : Int)) 332 32 (h0.1.length : Int)) 332 33 (h0.2 : Int) = m1 at *
      have pm1 : zMp m1 := zMp_eq (fun i hi => o0 i (fun z => by rw [z] at hi; cases hi) (fun z => by rw [z] at hi; cases hi) (fun z => by rw [z] at hi; cases hi)) p1
      have z4 : zAL m1 364 (80 * H.length) h0.1 := zAL_eq (e0 364 (by decide)) v4
      refine zfor (n := h0.1.length) (fun i => [zA 332, zI (i : Nat)]) (fun i m' => (∀ j, j < i → m' 348 j = h0.1.getD j 0) ∧ ∀ a, a ≠ 348 → m' a = m1 a) ?_ ?_ 0 m1 (Nat.zero_le _) ⟨fun j hj => by omega, fun _ _ => rfl⟩
      · rintro i m2 hi ⟨g1, g3⟩ ih
        have n1 : ¬ (h0.1.length : Int) ≤ (i : Int) := by omega
        have iv : i < 1000000 := by omega
        have e32 : m2 332 32 = (h0.1.length : Int) := by rw [g3 332 (by decide)]; exact c32
        have e53 : m2 332 53 = (H.length : Int) := by rw [g3 332 (by decide)]; exact c53
        have q31 : m2 332 31 = ((348 : Nat) : Int) := by rw [g3 332 (by decide)]; exact mp31 pm1
        have q54 : m2 332 54 = ((364 : Nat) : Int) := by rw [g3 332 (by decide)]; exact mp54 pm1
        have av : m2 364 (80 * H.length + i) = h0.1.getD i 0 := by rw [g3 364 (by decide), zAL_get z4 hi, getD_lt hi]
        have hr1 : 0 ≤ (i : Int) ∧ (i : Int) < ((80 : Nat) : Int) := by omega
        have hr2 : 0 ≤ ((80 * H.length + i : Nat) : Int) ∧ ((80 * H.length + i : Nat) : Int) < ((2400 : Nat) : Int) := by omega
        simp only [s229_70]
        simp only [s229_71, s229_72, s229_75, s229_78, s229_79, s229_82, s229_83, s229_84, s229_87, s229_89, s229_90, s229_93, s229_94, s229_95, s229_96, s229_97, s229_98, s229_101, Int.toNat_natCast, true_and, and_true, true_or, or_true, false_or, or_false, zwr_id, zpu_some, zpu_none, reduceIte, Int.reduceLE, Int.reduceLT, Int.reduceEq, Int.reduceNeg, Int.reduceAdd, Int.reduceSub, Int.reduceMul, Int.reduceToNat, Nat.reduceAdd, Nat.reduceLeDiff, Nat.reduceEqDiff, Nat.reduceLT, eq_self, ne_eq, not_false_eq_true, not_true_eq_false, t0, e32, n1, q31, q54, e53, mt348 ht, mn348 hn, mt364 ht, mn364 hn, hr1, hr2, and_self, av, (show zwr (80 * (H.length : Int)) = ((80 * H.length : Nat) : Int) from zwn (by omega) (by omega)), (show zwr (((80 * H.length : Nat) : Int) + (i : Int)) = ((80 * H.length + i : Nat) : Int) from zwn (by omega) (by omega)), z1 iv]
        refine ih _ ⟨fun j hj => ?_, fun a ha => by rw [zup_nf ha]; exact g3 a ha⟩
        by_cases e : j = i
        · subst e; exact zup_same
        · rw [zup_nk e]; exact g1 j (by omega)
      · rintro m2 ⟨g1, g3⟩
        have n1 : (h0.1.length : Int) ≤ (h0.1.length : Int) := by omega
        have e32 : m2 332 32 = (h0.1.length : Int) := by rw [g3 332 (by decide)]; exact c32
        have e33 : m2 332 33 = (h0.2 : Int) := by rw [g3 332 (by decide)]; exact c33
        have e53 : m2 332 53 = (H.length : Int) := by rw [g3 332 (by decide)]; exact c53
        have pm2 : zMp m2 := zMp_eq (fun i hi => by rw [g3 332 (by decide)]) pm1
        have q31 : m2 332 31 = ((348 : Nat) : Int) := mp31 pm2
        have gA2 : zAL m2 348 0 h0.1 := zAL_of (fun i hi => g1 i hi)
        obtain ⟨b1, b2, -⟩ := h1.2.2.2.2.2.2.2 D hd
        have o2 : ∀ j, j ≠ 53 → j ≠ 32 → j ≠ 33 → m2 332 j = ran m 0 332 j := fun j q1 q2 q3 => by rw [g3 332 (by decide)]; exact o0 j q1 q2 q3
        have e2 : ∀ a, a ≠ 332 → a ≠ 348 → m2 a = ran m 0 a := fun a q1 q2 => by rw [g3 a q2, e0 a q1]
        have x2 : rMx m2 D := ⟨pm2, rDt_eq (fun a p q => e2 a (by omega) (by omega)) b1, rNm_eq (fun a p q => e2 a (by omega) (by omega)) (fun i p q => o2 i (by omega) (by omega) (by omega)) b2⟩
        have mk := fun Q' : zQ => fun kq => c_rmakes (Q := Q') (b := 0) (a := 348) (xs := h0.1) d1 ht hn (by decide) x2 (by decide) (mt348 ht) (by rw [mn348 hn]; omega) gA2 (by omega) q3 kq
        simp only [Int.cast_ofNat_Int] at mk
        simp only [s229_70]
        simp only [s229_71, s229_72, s229_75, s229_104, s229_105, s199_0, s199_1, s199_2, s199_3, s199_6, s199_7, s199_10, Int.toNat_natCast, true_and, and_true, true_or, or_true, false_or, or_false, zwr_id, zpu_some, zpu_none, reduceIte, Int.reduceLE, Int.reduceLT, Int.reduceEq, Int.reduceNeg, Int.reduceAdd, Int.reduceSub, Int.reduceMul, Int.reduceToNat, Nat.reduceAdd, Nat.reduceLeDiff, Nat.reduceEqDiff, Nat.reduceLT, eq_self, ne_eq, not_false_eq_true, not_true_eq_false, t0, e32, n1, q31]
        refine mk _ (fun m5 c5 f5 => ?_)
        have e53' : m5 332 53 = (H.length : Int) := by rw [rBf_ob f5 (by decide) (by decide)]; exact e53
        simp only [s199_13, s229_108, s229_109, s229_112, zpu_none, true_and, t0, e53']
        have hrow : ∀ a, a ≠ 332 → a ≠ 348 → (a < 349 ∨ 359 < a) → m5 a = ran m 0 a := fun a q1 q2 q3 => by rw [rBf_row f5 q1 q3, e2 a q1 q2]
        -- the state with its ACTS as they are now
        have hs : rSt m5 (g.1, g.2.1, h0.1, h0.2, H, g.2.2.2.2.2.1, -1, 0) := by
          have ob : ∀ j, rKo j = true → j ≠ 53 → j ≠ 32 → j ≠ 33 → m5 332 j = ran m 0 332 j := fun j hj q1 q2 q3 => by
            rw [rBf_ob f5 (fun y => by rw [y] at hj; cases hj) (fun y => by rw [y] at hj; cases hj)]
            exact o2 j q1 q2 q3
          have obn : ∀ j, 20 ≤ j → j ≤ 23 → m5 332 j = ran m 0 332 j := fun j y1 y2 => by
            have : j = 20 ∨ j = 21 ∨ j = 22 ∨ j = 23 := by omega
            rcases this with rfl | rfl | rfl | rfl <;> exact ob _ rfl (by decide) (by decide) (by decide)
          obtain ⟨a1, ⟨u1, u2, u3, u4⟩, a3, a4, ⟨a5, a6, a7⟩, -, -, a10⟩ := h1
          refine ⟨zMp_eq (fun i hi => ob i (rKo_p hi) (fun z => by rw [z] at hi; cases hi) (fun z => by rw [z] at hi; cases hi) (fun z => by rw [z] at hi; cases hi)) a1, ⟨by rw [ob 5 rfl (by decide) (by decide) (by decide)]; exact u1, u2, zAL_eq (hrow 333 (by decide) (by decide) (by decide)) u3, u4⟩, a3, by rw [ob 6 rfl (by decide) (by decide) (by decide)]; exact a4, ⟨by rw [ob 2 rfl (by decide) (by decide) (by decide)]; exact a5, by rw [ob 3 rfl (by decide) (by decide) (by decide)]; exact a6, by rw [ob 1 rfl (by decide) (by decide) (by decide)]; exact a7⟩, ⟨zAL_eq (rBf_row f5 (by decide) (by decide)) gA2, by rw [rBf_ob f5 (by decide) (by decide)]; exact e32, by rw [rBf_ob f5 (by decide) (by decide)]; exact e33⟩, ⟨e53', by show H.length ≤ 30; omega, fun j q hq => ?_⟩, fun D' hD' => ?_⟩
          · have hq : H[j]? = some q := hq
            have hj : j < H.length := (List.getElem?_eq_some_iff.mp hq).1
            obtain ⟨z1, z2, z3, z5⟩ := bb (j + 1) q hq
            rw [show H.length + 1 - 1 - (j + 1) = H.length - 1 - j by omega] at z1 z2 z5
            exact ⟨by rw [hrow 365 (by decide) (by decide) (by decide)]; exact z1, by rw [hrow 366 (by decide) (by decide) (by decide)]; exact z2, z3, zAL_eq (hrow 364 (by decide) (by decide) (by decide)) z5⟩
          · have e : D' = D := by
              have y1 : g.2.1 = some D := hd
              have y2 : g.2.1 = some D' := hD'
              rw [y1] at y2
              cases y2
              rfl
            subst e
            exact ⟨rDt_eq (fun a p q => hrow a (by omega) (by omega) (by omega)) b1, rNm_eq (fun a p q => hrow a (by omega) (by omega) (by omega)) obn b2, c5.2.2.1, c5.2.2.2.1, c5.2.2.2.2⟩
        have eD : g.2.1 = some D := hd
        rw [eD] at hs
        exact k m5 hs (zFR_tr f0 (fun a ha => by rw [rBf_row f5 (by omega) (by omega), g3 a (by omega)]))
