theorem rs_H {m : zM} {g : zG} (h : rSt m g) : rHs m (gH g) := h.2.2.2.2.2.2.1
theorem c_rone {L : zY} {m : zM} {Q : zQ} {g : zG} {D : zD} {x : Int} (ht : zMt L) (hn : zMn L) (hg : gOk g) (h : rSt m g) (hd : gD g = some D) (hx : gSg D x = true) (k : ∀ m', rSt m' (sPut D g x).2 → zFR 332 370 m m' → Q (some (zI (sPut D g x).1)) L m') : zwp 218 0 [zA 332, zI x] [] L (ran m 0) Q := by
  have t0 := mt332 ht
  have hd4 : (gR g).length ≤ 80 := (rs_D hg h hd).2.2.2.1
  have h1 := rSt_ran (why := 0) hg h
  have hg1 : gOk (g.1, g.2.1, g.2.2.1, g.2.2.2.1, g.2.2.2.2.1, g.2.2.2.2.2.1, -1, 0) := gOk_w hg
  have a32 : ran m 0 332 32 = ((gR g).length : Int) := h1.2.2.2.2.2.1.2.1
  simp only [s218_0, s218_1, s218_4, true_and, t0, a32]
  simp only [s218_6]
  unfold sPut at k
  by_cases hl : 80 ≤ (gR g).length
  · rw [if_pos (by omega)]
    rw [if_pos hl] at k
    simp only [s218_9, s218_10, s218_11, s218_14, Int.toNat_natCast, true_and, and_true, true_or, or_true, false_or, or_false, zwr_id, zpu_some, zpu_none, reduceIte, Int.reduceLE, Int.reduceLT, Int.reduceEq, Int.reduceNeg, Int.reduceAdd, Int.reduceSub, Int.reduceMul, Int.reduceToNat, Nat.reduceAdd, Nat.reduceLeDiff, Nat.reduceEqDiff, Nat.reduceLT, eq_self, ne_eq, not_false_eq_true, not_true_eq_false, t0, r_no t0, ran_1]
    exact k _ (rSt_ran hg h) zFR_ran
  · rw [if_neg (by omega)]
    rw [if_neg hl] at k
    have q57 : ran m 0 332 57 = ((367 : Nat) : Int) := mp57 h1.1
    have b0 : (0 : Int) < ((1 : Nat) : Int) := by decide
    simp only [s218_15, s218_16, s218_19, s218_20, s218_21, s218_22, s218_23, s218_24, s218_27, Int.toNat_natCast, true_and, and_true, true_or, or_true, false_or, or_false, zwr_id, zpu_some, zpu_none, reduceIte, Int.reduceLE, Int.reduceLT, Int.reduceEq, Int.reduceNeg, Int.reduceAdd, Int.reduceSub, Int.reduceMul, Int.reduceToNat, Nat.reduceAdd, Nat.reduceLeDiff, Nat.reduceEqDiff, Nat.reduceLT, eq_self, ne_eq, not_false_eq_true, not_true_eq_false, t0, q57, mt367 ht, mn367 hn, b0, zup_na (show (332 : Nat) ≠ 367 by decide)]
    have h2 : rSt (zup (ran m 0) 367 0 x) (g.1, g.2.1, g.2.2.1, g.2.2.2.1, g.2.2.2.2.1, g.2.2.2.2.2.1, -1, 0) := rSt_sf hg1 (rSf_s (fun a p q => zup_nf (by omega))) h1
    have hA : zAL (zup (ran m 0) 367 0 x) 367 0 [x] := zAL_of (fun i hi => by
      have : i = 0 := by simp at hi; exact hi
      subst this
      exact zup_same)
    have ci := fun (Q' : zQ) kq => c_rcin (Q := Q') (xs := [x]) ht hn hg1 h2 hd (Or.inr (Or.inl rfl)) (by rw [mn367 hn]; exact Nat.le_refl 1) hA (by show (gR g).length + 1 ≤ 80; omega) (fun y hy => by rw [List.mem_singleton.mp hy]; exact hx) kq
    have e1 : (([x] : List Int).length : Int) = 1 := rfl
    rw [e1] at ci
    simp only [s218_28, true_and, t0]
    refine ci _ (fun m3 h3 f3 e3 => ?_)
    have q34 : m3 332 34 = ((349 : Nat) : Int) := mp34 h3.1
    have b3 : (0 : Int) < ((3 : Nat) : Int) := by decide
    simp only [s218_31, s218_32, s218_35, s218_36, s218_37, Int.toNat_natCast, true_and, and_true, true_or, or_true, false_or, or_false, zwr_id, zpu_some, zpu_none, reduceIte, Int.reduceLE, Int.reduceLT, Int.reduceEq, Int.reduceNeg, Int.reduceAdd, Int.reduceSub, Int.reduceMul, Int.reduceToNat, Nat.reduceAdd, Nat.reduceLeDiff, Nat.reduceEqDiff, Nat.reduceLT, eq_self, ne_eq, not_false_eq_true, not_true_eq_false, t0, q34, mt349 ht, mn349 hn, b3, e3]
    have st : rSt m3 (gAct D g (gT g) (gIns [x] (gR g) (gC g)) (gC g + 1)).2 := by
      have e2 : g.2.1 = some D := hd
      have h3' : rSt m3 (g.1, g.2.1, gIns [x] (gR g) (gC g), gC g + 1, ((gR g, gC g) :: gH g).take 30, g.2.2.2.2.2.1, -1, 0) := h3
      rw [e2] at h3'
      exact h3'
    exact k m3 st (zFR_tr zFR_ran (zFR_tr (zFR_up zFR_rf (by decide) (by decide)) f3))
theorem gSg_124 {D : zD} : gSg D 124 = true := rfl
theorem gSg_ky {D : zD} {x : Int} (h : gKy D x = true) : gSg D x = true := by
  have e : gSg D x = (decide (x = 124) || gKy D x) := rfl
  rw [e, h, Bool.or_true]
theorem c_rkeyP {L : zY} {m : zM} {Q : zQ} {g : zG} {x : Int} (ht : zMt L) (hn : zMn L) (hg : gOk g) (h : rSt m g) (k : ∀ m', rSt m' (sKey g x).2 → zFR 332 370 m m' → Q (some (zI (sKey g x).1)) L m') : zwp 219 0 [zA 332, zI x] [] L m Q := by
  have t0 := mt332 ht
  cases hd : gD g with
  | none =>
    have e : sKey g x = gN g 1 := by unfold sKey; rw [hd]
    rw [e] at k
    simp only [s219_0, s219_1, s219_2, s219_3, s219_6, s219_9, s219_12, s219_15, s219_16, s219_24, Int.toNat_natCast, true_and, and_true, true_or, or_true, false_or, or_false, zwr_id, zpu_some, zpu_none, reduceIte, Int.reduceLE, Int.reduceLT, Int.reduceEq, Int.reduceNeg, Int.reduceAdd, Int.reduceSub, Int.reduceMul, Int.reduceToNat, Nat.reduceAdd, Nat.reduceLeDiff, Nat.reduceEqDiff, Nat.reduceLT, eq_self, ne_eq, not_false_eq_true, not_true_eq_false, t0, r_told0 ht ((rSt_6 h).1 hd), r_unl, r_ref t0]
    exact k _ (rSt_ran hg h) zFR_ran
  | some D =>
    have rt := fun Q' : zQ => r_told1 (Q := Q') (key := x) ht hn h.1 ((rSt_6 h).2 D hd) (h.2.2.2.2.2.2.2 D hd).1
    have es : sKey g x = if 97 ≤ x ∧ x < 123 ∧ dS D (x - 97).toNat ≠ -1 then sPut D g x else gN g 1 := by unfold sKey; rw [hd]
    by_cases hk : gKy D x = true
    · rw [if_pos hk] at rt
      rw [es, if_pos (gKy_iff.mp hk)] at k
      simp only [s219_0, s219_1, s219_2, s219_3, s219_6, s219_9, s219_12, s219_19, s219_20, s219_21, Int.toNat_natCast, true_and, and_true, true_or, or_true, false_or, or_false, zwr_id, zpu_some, zpu_none, reduceIte, Int.reduceLE, Int.reduceLT, Int.reduceEq, Int.reduceNeg, Int.reduceAdd, Int.reduceSub, Int.reduceMul, Int.reduceToNat, Nat.reduceAdd, Nat.reduceLeDiff, Nat.reduceEqDiff, Nat.reduceLT, eq_self, ne_eq, not_false_eq_true, not_true_eq_false, t0, rt, r_unl, r_ref t0]
      refine c_rone ht hn hg h hd (gSg_ky hk) (fun m' a1 a2 => ?_)
      simp only [s219_24, zpu_some]
      exact k m' a1 a2
    · rw [if_neg hk] at rt
      rw [es, if_neg (fun q => hk (gKy_iff.mpr q))] at k
      simp only [s219_0, s219_1, s219_2, s219_3, s219_6, s219_9, s219_12, s219_15, s219_16, s219_24, Int.toNat_natCast, true_and, and_true, true_or, or_true, false_or, or_false, zwr_id, zpu_some, zpu_none, reduceIte, Int.reduceLE, Int.reduceLT, Int.reduceEq, Int.reduceNeg, Int.reduceAdd, Int.reduceSub, Int.reduceMul, Int.reduceToNat, Nat.reduceAdd, Nat.reduceLeDiff, Nat.reduceEqDiff, Nat.reduceLT, eq_self, ne_eq, not_false_eq_true, not_true_eq_false, t0, rt, r_unl, r_ref t0]
      exact k _ (rSt_ran hg h) zFR_ran
theorem c_rbrk {L : zY} {m : zM} {Q : zQ} {g : zG} (ht : zMt L) (hn : zMn L) (hg : gOk g) (h : rSt m g) (k : ∀ m', rSt m' (sBrk g).2 → zFR 332 370 m m' → Q (some (zI (sBrk g).1)) L m') : zwp 220 0 [zA 332] [] L m Q := by
  have t0 := mt332 ht
  cases hd : gD g with
  | none =>
    have e : sBrk g = gN g 1 := by unfold sBrk; rw [hd]
    rw [e] at k
    simp only [s220_0, s220_1, s220_2, s220_5, s220_8, s220_11, s220_14, s220_15, s220_24, Int.toNat_natCast, true_and, and_true, true_or, or_true, false_or, or_false, zwr_id, zpu_some, zpu_none, reduceIte, Int.reduceLE, Int.reduceLT, Int.reduceEq, Int.reduceNeg, Int.reduceAdd, Int.reduceSub, Int.reduceMul, Int.reduceToNat, Nat.reduceAdd, Nat.reduceLeDiff, Nat.reduceEqDiff, Nat.reduceLT, eq_self, ne_eq, not_false_eq_true, not_true_eq_false, t0, (rSt_6 h).1 hd, r_unl, r_ref t0]
    exact k _ (rSt_ran hg h) zFR_ran
  | some D =>
    have es : sBrk g = sPut D g 124 := by unfold sBrk; rw [hd]
    rw [es] at k
    simp only [s220_0, s220_1, s220_2, s220_5, s220_8, s220_11, s220_18, s220_19, s220_21, Int.toNat_natCast, true_and, and_true, true_or, or_true, false_or, or_false, zwr_id, zpu_some, zpu_none, reduceIte, Int.reduceLE, Int.reduceLT, Int.reduceEq, Int.reduceNeg, Int.reduceAdd, Int.reduceSub, Int.reduceMul, Int.reduceToNat, Nat.reduceAdd, Nat.reduceLeDiff, Nat.reduceEqDiff, Nat.reduceLT, eq_self, ne_eq, not_false_eq_true, not_true_eq_false, t0, (rSt_6 h).2 D hd, r_unl, r_ref t0]
    refine c_rone ht hn hg h hd gSg_124 (fun m' a1 a2 => ?_)
    simp only [s220_24, zpu_some]
    exact k m' a1 a2
/-- refused, THE TAPE empty -/
theorem gOk_0 {g : zG} {f p q : Int} (h : gOk g) : gOk (([] : List Int), g.2.1, g.2.2.1, g.2.2.2.1, g.2.2.2.2.1, f, p, q) := by
  obtain ⟨T, od, R, C, H, f', p', q'⟩ := g
  exact ⟨⟨by decide, fun x hx => by cases hx⟩, h.2⟩
theorem rSt_T0 {m : zM} {g : zG} {v : Int} (hg : gOk g) (h : rSt (ran m 0) (g.1, g.2.1, g.2.2.1, g.2.2.2.1, g.2.2.2.2.1, g.2.2.2.2.2.1, -1, 0)) : rSt (zup (ran m 0) 332 5 0) (([] : List Int), g.2.1, g.2.2.1, g.2.2.2.1, g.2.2.2.2.1, g.2.2.2.2.2.1, -1, 0) := by
  refine rSt_g (gOk_w (f := g.2.2.2.2.2.1) (p := -1) (q := 0) hg) ⟨rfl, rfl, rfl, rfl⟩ (fun a j p q r => ?_) ⟨zup_same, (by show 0 ≤ 300; decide), zAL_nil, fun x hx => by cases hx⟩ (by rw [zup_nk (by decide)]; exact h.2.2.2.2.1.1) (by rw [zup_nk (by decide)]; exact h.2.2.2.2.1.2.1) (by rw [zup_nk (by decide)]; exact h.2.2.2.2.1.2.2) h
  by_cases z : a = 332
  · subst z; exact zup_nk (by omega)
  · exact zup_na z
/-- no(), behind the tape's emptying -/
theorem rSt_noT {m : zM} {g : zG} {why : Int} (hg : gOk g) (h : rSt m g) : rSt (zup (zup (ran m 0) 332 5 0) 332 1 why) (gNT g why).2 := by
  have h0 := rSt_T0 (v := 0) hg (rSt_ran (why := 0) hg h)
  refine rSt_g (gOk_0 (f := g.2.2.2.2.2.1) (p := -1) (q := 0) hg) ⟨rfl, rfl, rfl, rfl⟩ (fun a j p q r => ?_) ⟨by rw [zup_nk (by decide), zup_same]; rfl, (by show 0 ≤ 300; decide), zAL_nil, fun x hx => by cases hx⟩ (by rw [zup_nk (by decide)]; exact h0.2.2.2.2.1.1) (by rw [zup_nk (by decide)]; exact h0.2.2.2.2.1.2.1) zup_same h0
  by_cases z : a = 332
  · subst z; exact zup_nk (by omega)
  · exact zup_na z
theorem zFR_noT {m : zM} {why : Int} : zFR 332 370 m (zup (zup (ran m 0) 332 5 0) 332 1 why) := zFR_up (zFR_up zFR_ran (by decide) (by decide)) (by decide) (by decide)
theorem c_rtype {L : zY} {m : zM} {Q : zQ} {g : zG} {n : Int} (ht : zMt L) (hn : zMn L) (hg : gOk g) (h : rSt m g) (k : ∀ m', rSt m' (sType g n).2 → zFR 332 370 m m' → Q (some (zI (sType g n).1)) L m') : zwp 221 0 [zA 332, zI n, zU] [] L m Q := by
  have t0 := mt332 ht
  have h5 : m 332 5 = ((gT g).length : Int) := h.2.1.1
  cases hd : gD g with
  | none =>
    have e : sType g n = gN g 1 := by unfold sType; rw [hd]
    rw [e] at k
    simp only [s221_0, s221_1, s221_2, s221_5, s221_6, s221_7, s221_8, s221_11, s221_14, s221_17, s221_20, s221_23, s221_24, Int.toNat_natCast, true_and, and_true, true_or, or_true, false_or, or_false, zwr_id, zpu_some, zpu_none, reduceIte, Int.reduceLE, Int.reduceLT, Int.reduceEq, Int.reduceNeg, Int.reduceAdd, Int.reduceSub, Int.reduceMul, Int.reduceToNat, Nat.reduceAdd, Nat.reduceLeDiff, Nat.reduceEqDiff, Nat.reduceLT, eq_self, ne_eq, not_false_eq_true, not_true_eq_false, t0, (rSt_6 h).1 hd, h5, r_in, r_unl2, r_ref t0]
    exact k _ (rSt_ran hg h) zFR_ran
  | some D =>
    obtain ⟨d1, d2, d3, d4, d5, d6, -⟩ := rs_D hg h hd
    have es : sType g n = if 0 ≤ n ∧ n ≤ ((gT g).length : Int) then (if ((gT g).take n.toNat).all (gSg D) = true then (if 80 < (gR g).length + n.toNat then gNT g 3 else gAct D g [] (gIns ((gT g).take n.toNat) (gR g) (gC g)) (gC g + n.toNat)) else gNT g 5) else gN g 2 := by unfold sType; rw [hd]
    by_cases hw : 0 ≤ n ∧ n ≤ ((gT g).length : Int)
    · rw [es, if_pos hw] at k
      simp only [s221_0, s221_1, s221_2, s221_5, s221_6, s221_7, s221_8, s221_11, s221_14, s221_17, s221_20, s221_23, s221_24, s221_25, s221_26, s221_27, s221_30, s221_31, Int.toNat_natCast, true_and, and_true, true_or, or_true, false_or, or_false, zwr_id, zpu_some, zpu_none, reduceIte, Int.reduceLE, Int.reduceLT, Int.reduceEq, Int.reduceNeg, Int.reduceAdd, Int.reduceSub, Int.reduceMul, Int.reduceToNat, Nat.reduceAdd, Nat.reduceLeDiff, Nat.reduceEqDiff, Nat.reduceLT, eq_self, ne_eq, not_false_eq_true, not_true_eq_false, t0, (rSt_6 h).2 D hd, h5, r_in, hw, and_self, r_unl2, r_ref t0]
      obtain ⟨N, rfl⟩ : ∃ N : Nat, n = (N : Int) := ⟨n.toNat, by omega⟩
      rw [Int.toNat_natCast] at k
      have hN : N ≤ (gT g).length := by omega
      have h1 := rSt_ran (why := 0) hg h
      have h2 := rSt_T0 (v := 0) hg h1
      have hg2 : gOk (([] : List Int), g.2.1, g.2.2.1, g.2.2.2.1, g.2.2.2.2.1, g.2.2.2.2.2.1, -1, 0) := gOk_0 hg
      have no5 : ((gT g).take N).all (gSg D) = false → Q (some (zI (-1))) L (zup (zup (ran m 0) 332 5 0) 332 1 5) := fun q => by
        rw [if_neg (by rw [q]; exact Bool.noConfusion)] at k
        exact k _ (rSt_noT hg h) zFR_noT
      have no3 : ((gT g).take N).all (gSg D) = true → 80 < (gR g).length + N → Q (some (zI (-1))) L (zup (zup (ran m 0) 332 5 0) 332 1 3) := fun q1 q2 => by
        rw [if_pos q1, if_pos q2] at k
        exact k _ (rSt_noT hg h) zFR_noT
      have fr : zFR 332 370 m (zup (ran m 0) 332 5 0) := zFR_up zFR_ran (by decide) (by decide)
      have hA : zAL (zup (ran m 0) 332 5 0) 333 0 (gT g) := zAL_eq (by rw [zup_nf (by decide), ran_o (by decide)]) h.2.1.2.2.1
      have lT : (gT g).length ≤ 300 := h.2.1.2.1
      generalize zup (ran m 0) 332 5 0 = m1 at *
      have q4 : m1 332 4 = ((333 : Nat) : Int) := mp4 h2.1
      have rt := fun (Q' : zQ) (y : Int) => r_told1 (Q := Q') (key := y) ht hn h2.1 ((rSt_6 h2).2 D hd) (h2.2.2.2.2.2.2.2 D hd).1
      have al := all_take (xs := gT g) (p := gSg D) (n := N) hN
      obtain ⟨c1, c2, c3⟩ := fC_spec (p := fun i => gSg D ((gT g).getD i 0)) N 0
      rw [Nat.zero_add] at c2 c3
      generalize fC (fun i => gSg D ((gT g).getD i 0)) N 0 = v at *
      have gs : ∀ y, gSg D y = (decide (y = 124) || gKy D y) := fun y => rfl
      refine zfor (n := v) (fun i => [zA 332, zI (N : Int), zI (i : Nat)]) (fun _ m' => m' = m1) ?_ ?_ 0 m1 (Nat.zero_le _) rfl
      · rintro i m1 hi rfl ih
        have ih := ih _ rfl
        have hv := c2 i (Nat.zero_le _) hi
        have n1 : ¬ (N : Int) ≤ (i : Int) := by omega
        have iv : i < 1000000 := by omega
        have hr : 0 ≤ (i : Int) ∧ (i : Int) < ((300 : Nat) : Int) := by omega
        have hi2 : i < (gT g).length := by omega
        have av : m1 333 i = (gT g).getD i 0 := by rw [zAL_get0 hA hi2, getD_lt hi2]
        simp only [s221_32]
        simp only [s221_33, s221_34, s221_37, s221_38, s221_41, s221_42, s221_43, Int.toNat_natCast, true_and, and_true, true_or, or_true, false_or, or_false, zwr_id, zpu_some, zpu_none, reduceIte, Int.reduceLE, Int.reduceLT, Int.reduceEq, Int.reduceNeg, Int.reduceAdd, Int.reduceSub, Int.reduceMul, Int.reduceToNat, Nat.reduceAdd, Nat.reduceLeDiff, Nat.reduceEqDiff, Nat.reduceLT, eq_self, ne_eq, not_false_eq_true, not_true_eq_false, t0, n1, q4, mt333 ht, mn333 hn, hr, and_self, av]
        simp only [s221_45]
        by_cases e : (gT g).getD i 0 = 124
        · rw [if_pos e]
          simp only [s221_67, s221_70, z1 iv]
          exact ih
        · rw [if_neg e]
          rw [gs, decide_eq_false e, Bool.false_or] at hv
          simp only [s221_48, s221_49, s221_50, s221_53, s221_54, s221_55, s221_58, s221_67, s221_70, Int.toNat_natCast, true_and, and_true, true_or, or_true, false_or, or_false, zwr_id, zpu_some, zpu_none, reduceIte, Int.reduceLE, Int.reduceLT, Int.reduceEq, Int.reduceNeg, Int.reduceAdd, Int.reduceSub, Int.reduceMul, Int.reduceToNat, Nat.reduceAdd, Nat.reduceLeDiff, Nat.reduceEqDiff, Nat.reduceLT, eq_self, ne_eq, not_false_eq_true, not_true_eq_false, t0, q4, mt333 ht, mn333 hn, hr, and_self, av, rt, hv, z1 iv]
          exact ih
      · rintro m1 rfl
        simp only [s221_32]
        by_cases hv : v = N
        · have al1 : ((gT g).take N).all (gSg D) = true := by rw [al]; exact decide_eq_true hv
          have n1 : (N : Int) ≤ (v : Int) := by omega
          have a32 : m1 332 32 = ((gR g).length : Int) := h2.2.2.2.2.2.1.2.1
          simp only [s221_33, s221_34, s221_73, s221_74, s221_77, s221_78, s221_79, Int.toNat_natCast, true_and, and_true, true_or, or_true, false_or, or_false, zwr_id, zpu_some, zpu_none, reduceIte, Int.reduceLE, Int.reduceLT, Int.reduceEq, Int.reduceNeg, Int.reduceAdd, Int.reduceSub, Int.reduceMul, Int.reduceToNat, Nat.reduceAdd, Nat.reduceLeDiff, Nat.reduceEqDiff, Nat.reduceLT, eq_self, ne_eq, not_false_eq_true, not_true_eq_false, t0, n1, a32, (show zwr (((gR g).length : Int) + (N : Int)) = (((gR g).length + N : Nat) : Int) from zwn (by omega) (by omega))]
          simp only [s221_81]
          by_cases hl : 80 < (gR g).length + N
          · rw [if_neg (by omega)]
            simp only [s221_84, s221_85, s221_86, s221_89, Int.toNat_natCast, true_and, and_true, true_or, or_true, false_or, or_false, zwr_id, zpu_some, zpu_none, reduceIte, Int.reduceLE, Int.reduceLT, Int.reduceEq, Int.reduceNeg, Int.reduceAdd, Int.reduceSub, Int.reduceMul, Int.reduceToNat, Nat.reduceAdd, Nat.reduceLeDiff, Nat.reduceEqDiff, Nat.reduceLT, eq_self, ne_eq, not_false_eq_true, not_true_eq_false, t0, r_no t0]
            exact no3 al1 hl
          · rw [if_pos (by omega)]
            rw [if_pos al1, if_neg hl] at k
            have lt : ((gT g).take N).length = N := by rw [List.length_take]; omega
            have ci := fun (Q' : zQ) kq => c_rcin (Q := Q') (xs := (gT g).take N) ht hn hg2 h2 hd (Or.inl rfl) (by rw [mn333 hn, lt]; omega) (zAL_fo (m := m1) (fun _ _ => rfl) (fun j y hy => hA j y (by rw [List.getElem?_take_of_lt (by have := (List.getElem?_eq_some_iff.mp hy).1; omega)] at hy; exact hy))) (by rw [lt]; show (gR g).length + N ≤ 80; omega) (fun y hy => List.all_eq_true.mp al1 y hy) kq
            rw [lt] at ci
            simp only [s221_90, s221_91, s221_92, s221_95, s221_96, Int.toNat_natCast, true_and, and_true, true_or, or_true, false_or, or_false, zwr_id, zpu_some, zpu_none, reduceIte, Int.reduceLE, Int.reduceLT, Int.reduceEq, Int.reduceNeg, Int.reduceAdd, Int.reduceSub, Int.reduceMul, Int.reduceToNat, Nat.reduceAdd, Nat.reduceLeDiff, Nat.reduceEqDiff, Nat.reduceLT, eq_self, ne_eq, not_false_eq_true, not_true_eq_false, t0, q4]
            refine ci _ (fun m3 h3 f3 e3 => ?_)
            have q34 : m3 332 34 = ((349 : Nat) : Int) := mp34 h3.1
            have b3 : (0 : Int) < ((3 : Nat) : Int) := by decide
            simp only [s221_99, s221_100, s221_103, s221_104, s221_105, Int.toNat_natCast, true_and, and_true, true_or, or_true, false_or, or_false, zwr_id, zpu_some, zpu_none, reduceIte, Int.reduceLE, Int.reduceLT, Int.reduceEq, Int.reduceNeg, Int.reduceAdd, Int.reduceSub, Int.reduceMul, Int.reduceToNat, Nat.reduceAdd, Nat.reduceLeDiff, Nat.reduceEqDiff, Nat.reduceLT, eq_self, ne_eq, not_false_eq_true, not_true_eq_false, t0, q34, mt349 ht, mn349 hn, b3, e3]
            have st : rSt m3 (gAct D g [] (gIns ((gT g).take N) (gR g) (gC g)) (gC g + N)).2 := by
              have e2 : g.2.1 = some D := hd
              have h3' : rSt m3 (([] : List Int), g.2.1, gIns ((gT g).take N) (gR g) (gC g), gC g + N, ((gR g, gC g) :: gH g).take 30, g.2.2.2.2.2.1, -1, 0) := h3
              rw [e2] at h3'
              exact h3'
            exact k m3 st (zFR_tr fr f3)
        · have c3 := c3.resolve_left hv
          have al0 : ((gT g).take N).all (gSg D) = false := by rw [al]; exact decide_eq_false hv
          have n1 : ¬ (N : Int) ≤ (v : Int) := by omega
          have hr : 0 ≤ (v : Int) ∧ (v : Int) < ((300 : Nat) : Int) := by omega
          have hi2 : v < (gT g).length := by omega
          have av : m1 333 v = (gT g).getD v 0 := by rw [zAL_get0 hA hi2, getD_lt hi2]
          rw [gs, Bool.or_eq_false_iff] at c3
          have e1 := of_decide_eq_false c3.1
          have e2 := c3.2
          simp only [s221_33, s221_34, s221_37, s221_38, s221_41, s221_42, s221_43, s221_45, s221_48, s221_49, s221_50, s221_53, s221_54, s221_55, s221_58, s221_61, s221_62, s221_63, s221_66, Int.toNat_natCast, true_and, and_true, true_or, or_true, false_or, or_false, zwr_id, zpu_some, zpu_none, reduceIte, Int.reduceLE, Int.reduceLT, Int.reduceEq, Int.reduceNeg, Int.reduceAdd, Int.reduceSub, Int.reduceMul, Int.reduceToNat, Nat.reduceAdd, Nat.reduceLeDiff, Nat.reduceEqDiff, Nat.reduceLT, eq_self, ne_eq, not_false_eq_true, not_true_eq_false, t0, n1, q4, mt333 ht, mn333 hn, hr, and_self, av, e1, rt, e2, Bool.false_eq_true, r_no t0]
          exact no5 al0
    · rw [es, if_neg hw] at k
      simp only [s221_0, s221_1, s221_2, s221_5, s221_6, s221_7, s221_8, s221_11, s221_14, s221_17, s221_20, s221_23, s221_24, Int.toNat_natCast, true_and, and_true, true_or, or_true, false_or, or_false, zwr_id, zpu_some, zpu_none, reduceIte, Int.reduceLE, Int.reduceLT, Int.reduceEq, Int.reduceNeg, Int.reduceAdd, Int.reduceSub, Int.reduceMul, Int.reduceToNat, Nat.reduceAdd, Nat.reduceLeDiff, Nat.reduceEqDiff, Nat.reduceLT, eq_self, ne_eq, not_false_eq_true, not_true_eq_false, t0, (rSt_6 h).2 D hd, h5, r_in, hw, r_unl2, r_ref t0]
      exact k _ (rSt_ran hg h) zFR_ran
