/-- goesAt(), from where the row is remembered -/
theorem c_rgat {L : zY} {m : zM} {Q : zQ} {g : zG} {D : zD} {c : Nat} (ht : zMt L) (hn : zMn L) (hg : gOk g) (h : rSt m g) (hd : gD g = some D) (hc : c < (gR g).length) (k : ∀ m', rSt m' (g.1, g.2.1, gDel (gR g) c, c, ((gR g, gC g) :: gH g).take 30, g.2.2.2.2.2.1, g.2.2.2.2.2.2.1, g.2.2.2.2.2.2.2) → zFR 332 370 m m' → Q (some (zI ((msI (kRun (zPof D) (gDel (gR g) c))).length : Int))) L m') : zwp 222 0 [zA 332, zI (c : Int), zU] [] L m Q := by
  have t0 := mt332 ht
  obtain ⟨d1, d2, d3, d4, d5, -⟩ := rs_D hg h hd
  simp only [s222_0, s222_1, t0, true_and]
  refine c_rrem ht hn h.1 h.2.2.2.2.2.1.1 h.2.2.2.2.2.1.2.1 h.2.2.2.2.2.1.2.2 d4 h.2.2.2.2.2.2.1 (fun m1 hH f1 => ?_)
  have h1 := rSt_H hg h f1 hH
  have fr1 : zFR 332 370 m m1 := fun a ha => funext (fun j => f1 a j (by omega) (by omega) (by omega) (by omega))
  have p1 := h1.1
  have a32 : m1 332 32 = ((gR g).length : Int) := h1.2.2.2.2.2.1.2.1
  have aR : zAL m1 348 0 (gR g) := h1.2.2.2.2.2.1.1
  have dl : (gDel (gR g) c).length = (gR g).length - 1 := by unfold gDel; rw [List.length_append, List.length_take, List.length_drop]; omega
  have gg : ∀ i, (gDel (gR g) c).getD i 0 = if i < c then (gR g).getD i 0 else (gR g).getD (i + 1) 0 := fun i => by
    have lt : ((gR g).take c).length = c := by rw [List.length_take]; omega
    unfold gDel
    rw [List.getD_eq_getElem?_getD, List.getD_eq_getElem?_getD, List.getD_eq_getElem?_getD]
    by_cases y : i < c
    · rw [if_pos y, List.getElem?_append_left (by omega), List.getElem?_take_of_lt y]
    · rw [if_neg y, List.getElem?_append_right (by omega), lt, List.getElem?_drop, show c + 1 + (i - c) = i + 1 by omega]
  have dg : ∀ y ∈ gDel (gR g) c, gSg D y = true := fun y hy => by
    unfold gDel at hy
    rcases List.mem_append.mp hy with q | q
    · exact d3 y (List.mem_of_mem_take q)
    · exact d3 y (List.mem_of_mem_drop q)
  clear f1 hH
  generalize gDel (gR g) c = G at *
  generalize hS : (gR g).length = S at *
  simp only [s222_4, s222_5, zpu_none]
  refine zfor (n := S - 1) (fun i => [zA 332, zI (c : Int), zI (i : Nat)]) (fun i m' => c ≤ i ∧ (∀ j, c ≤ j → j < i → m' 348 j = (gR g).getD (j + 1) 0) ∧ (∀ j, (j < c ∨ i ≤ j) → j < S → m' 348 j = (gR g).getD j 0) ∧ ∀ a, a ≠ 348 → m' a = m1 a) ?_ ?_ c m1 (by omega) ⟨Nat.le_refl _, fun j y1 y2 => by omega, fun j _ hj => by rw [zAL_get0 aR (show j < (gR g).length by omega), getD_lt (show j < (gR g).length by omega)], fun _ _ => rfl⟩
  · rintro i m2 hi ⟨g0, g1, g2, g3⟩ ih
    have iv : i < 1000000 := by omega
    have n1 : ¬ (S : Int) ≤ ((i + 1 : Nat) : Int) := by omega
    have b32 : m2 332 32 = (S : Int) := by rw [g3 332 (by decide)]; exact a32
    have q31 : m2 332 31 = ((348 : Nat) : Int) := by rw [g3 332 (by decide)]; exact mp31 p1
    have hr1 : 0 ≤ (i : Int) ∧ (i : Int) < ((80 : Nat) : Int) := by omega
    have hr2 : 0 ≤ ((i + 1 : Nat) : Int) ∧ ((i + 1 : Nat) : Int) < ((80 : Nat) : Int) := by omega
    simp only [s222_6]
    simp only [s222_7, s222_8, s222_9, s222_10, s222_13, s222_16, s222_17, s222_20, s222_21, s222_22, s222_25, s222_26, s222_27, s222_28, s222_29, s222_30, s222_33, Int.toNat_natCast, true_and, and_true, true_or, or_true, false_or, or_false, zwr_id, zpu_some, zpu_none, reduceIte, Int.reduceLE, Int.reduceLT, Int.reduceEq, Int.reduceNeg, Int.reduceAdd, Int.reduceSub, Int.reduceMul, Int.reduceToNat, Nat.reduceAdd, Nat.reduceLeDiff, Nat.reduceEqDiff, Nat.reduceLT, eq_self, ne_eq, not_false_eq_true, not_true_eq_false, t0, z1 iv, b32, n1, q31, mt348 ht, mn348 hn, hr1, hr2, and_self, g2 (i + 1) (by omega) (by omega)]
    refine ih _ ⟨by omega, fun j y1 y2 => ?_, fun j y1 y2 => ?_, fun a ha => by rw [zup_nf ha]; exact g3 a ha⟩
    · by_cases e : j = i
      · subst e; exact zup_same
      · rw [zup_nk e]; exact g1 j y1 (by omega)
    · rw [zup_nk (by omega)]; exact g2 j (by omega) y2
  · rintro m2 ⟨g0, g1, g2, g3⟩
    have n1 : (S : Int) ≤ (S : Int) := by omega
    have b32 : m2 332 32 = (S : Int) := by rw [g3 332 (by decide)]; exact a32
    have gA2 : zAL m2 348 0 G := zAL_of (fun i hi => by
      rw [gg i]
      by_cases y1 : i < c
      · rw [if_pos y1]; exact g2 i (by omega) (by omega)
      · rw [if_neg y1]; exact g1 i (by omega) (by omega))
    simp only [s222_6]
    simp only [s222_7, s222_8, s222_9, s222_10, s222_13, s222_36, s222_37, s222_38, s222_41, s222_42, s222_43, s222_46, s222_47, s222_48, s222_51, s222_52, Int.toNat_natCast, true_and, and_true, true_or, or_true, false_or, or_false, zwr_id, zpu_some, zpu_none, reduceIte, Int.reduceLE, Int.reduceLT, Int.reduceEq, Int.reduceNeg, Int.reduceAdd, Int.reduceSub, Int.reduceMul, Int.reduceToNat, Nat.reduceAdd, Nat.reduceLeDiff, Nat.reduceEqDiff, Nat.reduceLT, eq_self, ne_eq, not_false_eq_true, not_true_eq_false, t0, (show zwr (((S - 1 : Nat) : Int) + 1) = (S : Int) by rw [zwr_id (by omega) (by omega)]; omega), n1, b32, (show zwr ((S : Int) - 1) = ((G.length : Nat) : Int) from zwn (by omega) (by omega))]
    let m4 := zup (zup m2 332 32 ((G.length : Nat) : Int)) 332 33 (c : Int)
    have e4 : ∀ a, a ≠ 332 → m4 a = m2 a := fun a q => by show zup (zup m2 332 32 _) 332 33 _ a = _; rw [zup_nf q, zup_nf q]
    have o4 : ∀ j, j ≠ 32 → j ≠ 33 → m4 332 j = m1 332 j := fun j q1 q2 => by show zup (zup m2 332 32 _) 332 33 _ 332 j = _; rw [zup_nk q2, zup_nk q1, g3 332 (by decide)]
    have d32 : m4 332 32 = ((G.length : Nat) : Int) := by show zup (zup m2 332 32 _) 332 33 _ 332 32 = _; rw [zup_nk (by decide), zup_same]
    have d33 : m4 332 33 = (c : Int) := zup_same
    have p4 : zMp m4 := zMp_eq (fun i hi => o4 i (fun z => by rw [z] at hi; cases hi) (fun z => by rw [z] at hi; cases hi)) p1
    obtain ⟨b1, b2, -⟩ := h1.2.2.2.2.2.2.2 D hd
    have x4 : rMx m4 D := ⟨p4, rDt_eq (fun a p q => by rw [e4 a (by omega), g3 a (by omega)]) b1, rNm_eq (fun a p q => by rw [e4 a (by omega), g3 a (by omega)]) (fun i p q => o4 i (by omega) (by omega)) b2⟩
    have q31 : m4 332 31 = ((348 : Nat) : Int) := mp31 p4
    have mk := fun Q' : zQ => fun kq => c_rmakes (Q := Q') (b := 0) (a := 348) (xs := G) d1 ht hn (by decide) x4 (by decide) (mt348 ht) (by rw [mn348 hn]; omega) (zAL_eq (e4 348 (by decide)) gA2) (by omega) dg kq
    simp only [Int.cast_ofNat_Int] at mk
    change zwp 199 0 [zA 332] [] L m4 _
    simp only [s199_0, s199_1, s199_2, s199_3, s199_6, s199_7, s199_10, Int.toNat_natCast, true_and, and_true, true_or, or_true, false_or, or_false, zwr_id, zpu_some, zpu_none, reduceIte, Int.reduceLE, Int.reduceLT, Int.reduceEq, Int.reduceNeg, Int.reduceAdd, Int.reduceSub, Int.reduceMul, Int.reduceToNat, Nat.reduceAdd, Nat.reduceLeDiff, Nat.reduceEqDiff, Nat.reduceLT, eq_self, ne_eq, not_false_eq_true, not_true_eq_false, t0, q31, d32]
    refine mk _ (fun m5 c5 f5 => ?_)
    have fr : zFR 332 370 m m5 := zFR_tr fr1 (fun a ha => by rw [rBf_row f5 (by omega) (by omega), e4 a (by omega), g3 a (by omega)])
    have st : rSt m5 (g.1, g.2.1, G, c, ((gR g, gC g) :: gH g).take 30, g.2.2.2.2.2.1, g.2.2.2.2.2.2.1, g.2.2.2.2.2.2.2) := by
      refine rSt_act (g := (g.1, g.2.1, g.2.2.1, g.2.2.2.1, ((gR g, gC g) :: gH g).take 30, g.2.2.2.2.2.1, g.2.2.2.2.2.2.1, g.2.2.2.2.2.2.2)) hd h1 (fun a j p q r s => ?_) (zAL_eq (rBf_row f5 (by decide) (by decide)) (zAL_eq (e4 348 (by decide)) gA2)) (by rw [rBf_ob f5 (by decide) (by decide)]; exact d32) (by rw [rBf_ob f5 (by decide) (by decide)]; exact d33) ⟨c5.2.2.1, c5.2.2.2.1, c5.2.2.2.2⟩
      by_cases z : a = 332
      · subst z
        rw [rBf_ob f5 (fun y => by rw [y] at p; exact rKp_x rfl p) (fun y => by rw [y] at p; exact rKp_x rfl p)]
        exact o4 j (r rfl).1 (r rfl).2
      · rw [rBf_row f5 z s, e4 a z, g3 a q]
    have q34 : m5 332 34 = ((349 : Nat) : Int) := mp34 st.1
    have b3 : (0 : Int) < ((3 : Nat) : Int) := by decide
    have e49 : m5 349 0 = ((msI (kRun (zPof D) G)).length : Int) := c5.2.2.1.1
    simp only [s199_13, s222_55, s222_56, s222_59, s222_60, s222_61, Int.toNat_natCast, true_and, and_true, true_or, or_true, false_or, or_false, zwr_id, zpu_some, zpu_none, reduceIte, Int.reduceLE, Int.reduceLT, Int.reduceEq, Int.reduceNeg, Int.reduceAdd, Int.reduceSub, Int.reduceMul, Int.reduceToNat, Nat.reduceAdd, Nat.reduceLeDiff, Nat.reduceEqDiff, Nat.reduceLT, eq_self, ne_eq, not_false_eq_true, not_true_eq_false, t0, q34, mt349 ht, mn349 hn, b3, e49]
    exact k m5 st fr
theorem c_rback {L : zY} {m : zM} {Q : zQ} {g : zG} (ht : zMt L) (hn : zMn L) (hg : gOk g) (h : rSt m g) (k : ∀ m', rSt m' (sBack g).2 → zFR 332 370 m m' → Q (some (zI (sBack g).1)) L m') : zwp 223 0 [zA 332] [] L m Q := by
  have t0 := mt332 ht
  cases hd : gD g with
  | none =>
    have e : sBack g = gN g 1 := by unfold sBack; rw [hd]
    rw [e] at k
    simp only [s223_0, s223_1, s223_2, s223_5, s223_8, s223_9, s223_24, s223_27, s223_30, s223_31, Int.toNat_natCast, true_and, and_true, true_or, or_true, false_or, or_false, zwr_id, zpu_some, zpu_none, reduceIte, Int.reduceLE, Int.reduceLT, Int.reduceEq, Int.reduceNeg, Int.reduceAdd, Int.reduceSub, Int.reduceMul, Int.reduceToNat, Nat.reduceAdd, Nat.reduceLeDiff, Nat.reduceEqDiff, Nat.reduceLT, eq_self, ne_eq, not_false_eq_true, not_true_eq_false, t0, (rSt_6 h).1 hd, r_ref t0]
    exact k _ (rSt_ran hg h) zFR_ran
  | some D =>
    obtain ⟨d1, d2, d3, d4, d5, -⟩ := rs_D hg h hd
    have es : sBack g = if gC g = 0 then gN g 5 else gAct D g (gT g) (gDel (gR g) (gC g - 1)) (gC g - 1) := by unfold sBack; rw [hd]
    rw [es] at k
    have h33 : m 332 33 = (gC g : Int) := h.2.2.2.2.2.1.2.2
    simp only [s223_0, s223_1, s223_2, s223_5, s223_12, s223_13, Int.toNat_natCast, true_and, and_true, true_or, or_true, false_or, or_false, zwr_id, zpu_some, zpu_none, reduceIte, Int.reduceLE, Int.reduceLT, Int.reduceEq, Int.reduceNeg, Int.reduceAdd, Int.reduceSub, Int.reduceMul, Int.reduceToNat, Nat.reduceAdd, Nat.reduceLeDiff, Nat.reduceEqDiff, Nat.reduceLT, eq_self, ne_eq, not_false_eq_true, not_true_eq_false, t0, (rSt_6 h).2 D hd, h33]
    simp only [s223_16]
    by_cases hc : gC g = 0
    · rw [if_pos (by omega)]
      rw [if_pos hc] at k
      simp only [s223_19, s223_20, s223_24, s223_27, s223_30, s223_31, Int.toNat_natCast, true_and, and_true, true_or, or_true, false_or, or_false, zwr_id, zpu_some, zpu_none, reduceIte, Int.reduceLE, Int.reduceLT, Int.reduceEq, Int.reduceNeg, Int.reduceAdd, Int.reduceSub, Int.reduceMul, Int.reduceToNat, Nat.reduceAdd, Nat.reduceLeDiff, Nat.reduceEqDiff, Nat.reduceLT, eq_self, ne_eq, not_false_eq_true, not_true_eq_false, t0, r_ref t0]
      exact k _ (rSt_ran hg h) zFR_ran
    · rw [if_neg (by omega)]
      rw [if_neg hc] at k
      have h1 := rSt_ran (why := 0) hg h
      have a33 : ran m 0 332 33 = (gC g : Int) := h1.2.2.2.2.2.1.2.2
      simp only [s223_23, s223_24, s223_27, s223_30, s223_31, s223_32, s223_33, s223_34, s223_37, s223_38, s223_39, Int.toNat_natCast, true_and, and_true, true_or, or_true, false_or, or_false, zwr_id, zpu_some, zpu_none, reduceIte, Int.reduceLE, Int.reduceLT, Int.reduceEq, Int.reduceNeg, Int.reduceAdd, Int.reduceSub, Int.reduceMul, Int.reduceToNat, Nat.reduceAdd, Nat.reduceLeDiff, Nat.reduceEqDiff, Nat.reduceLT, eq_self, ne_eq, not_false_eq_true, not_true_eq_false, t0, r_ref t0, a33, (show zwr ((gC g : Int) - 1) = ((gC g - 1 : Nat) : Int) from zwn (by omega) (by omega))]
      refine c_rgat ht hn (gOk_w (f := g.2.2.2.2.2.1) (p := -1) (q := 0) hg) h1 hd (show gC g - 1 < (gR g).length by omega) (fun m' a1 a2 => ?_)
      simp only [s223_42, zpu_some]
      have st : rSt m' (gAct D g (gT g) (gDel (gR g) (gC g - 1)) (gC g - 1)).2 := by
        have e2 : g.2.1 = some D := hd
        have h3' : rSt m' (g.1, g.2.1, gDel (gR g) (gC g - 1), gC g - 1, ((gR g, gC g) :: gH g).take 30, g.2.2.2.2.2.1, -1, 0) := a1
        rw [e2] at h3'
        exact h3'
      exact k m' st (zFR_tr zFR_ran a2)
theorem c_rdel {L : zY} {m : zM} {Q : zQ} {g : zG} (ht : zMt L) (hn : zMn L) (hg : gOk g) (h : rSt m g) (k : ∀ m', rSt m' (sDel g).2 → zFR 332 370 m m' → Q (some (zI (sDel g).1)) L m') : zwp 224 0 [zA 332] [] L m Q := by
  have t0 := mt332 ht
  cases hd : gD g with
  | none =>
    have e : sDel g = gN g 1 := by unfold sDel; rw [hd]
    rw [e] at k
    simp only [s224_0, s224_1, s224_2, s224_5, s224_8, s224_9, s224_28, s224_31, s224_34, s224_35, Int.toNat_natCast, true_and, and_true, true_or, or_true, false_or, or_false, zwr_id, zpu_some, zpu_none, reduceIte, Int.reduceLE, Int.reduceLT, Int.reduceEq, Int.reduceNeg, Int.reduceAdd, Int.reduceSub, Int.reduceMul, Int.reduceToNat, Nat.reduceAdd, Nat.reduceLeDiff, Nat.reduceEqDiff, Nat.reduceLT, eq_self, ne_eq, not_false_eq_true, not_true_eq_false, t0, (rSt_6 h).1 hd, r_ref t0]
    exact k _ (rSt_ran hg h) zFR_ran
  | some D =>
    obtain ⟨d1, d2, d3, d4, d5, -⟩ := rs_D hg h hd
    have es : sDel g = if (gR g).length ≤ gC g then gN g 5 else gAct D g (gT g) (gDel (gR g) (gC g)) (gC g) := by unfold sDel; rw [hd]
    rw [es] at k
    have h33 : m 332 33 = (gC g : Int) := h.2.2.2.2.2.1.2.2
    have h32 : m 332 32 = ((gR g).length : Int) := h.2.2.2.2.2.1.2.1
    simp only [s224_0, s224_1, s224_2, s224_5, s224_12, s224_13, s224_16, s224_17, Int.toNat_natCast, true_and, and_true, true_or, or_true, false_or, or_false, zwr_id, zpu_some, zpu_none, reduceIte, Int.reduceLE, Int.reduceLT, Int.reduceEq, Int.reduceNeg, Int.reduceAdd, Int.reduceSub, Int.reduceMul, Int.reduceToNat, Nat.reduceAdd, Nat.reduceLeDiff, Nat.reduceEqDiff, Nat.reduceLT, eq_self, ne_eq, not_false_eq_true, not_true_eq_false, t0, (rSt_6 h).2 D hd, h33, h32]
    simp only [s224_20]
    by_cases hc : (gR g).length ≤ gC g
    · rw [if_pos (by omega)]
      rw [if_pos hc] at k
      simp only [s224_23, s224_24, s224_28, s224_31, s224_34, s224_35, Int.toNat_natCast, true_and, and_true, true_or, or_true, false_or, or_false, zwr_id, zpu_some, zpu_none, reduceIte, Int.reduceLE, Int.reduceLT, Int.reduceEq, Int.reduceNeg, Int.reduceAdd, Int.reduceSub, Int.reduceMul, Int.reduceToNat, Nat.reduceAdd, Nat.reduceLeDiff, Nat.reduceEqDiff, Nat.reduceLT, eq_self, ne_eq, not_false_eq_true, not_true_eq_false, t0, r_ref t0]
      exact k _ (rSt_ran hg h) zFR_ran
    · rw [if_neg (by omega)]
      rw [if_neg hc] at k
      have h1 := rSt_ran (why := 0) hg h
      have a33 : ran m 0 332 33 = (gC g : Int) := h1.2.2.2.2.2.1.2.2
      simp only [s224_27, s224_28, s224_31, s224_34, s224_35, s224_36, s224_37, s224_38, s224_41, Int.toNat_natCast, true_and, and_true, true_or, or_true, false_or, or_false, zwr_id, zpu_some, zpu_none, reduceIte, Int.reduceLE, Int.reduceLT, Int.reduceEq, Int.reduceNeg, Int.reduceAdd, Int.reduceSub, Int.reduceMul, Int.reduceToNat, Nat.reduceAdd, Nat.reduceLeDiff, Nat.reduceEqDiff, Nat.reduceLT, eq_self, ne_eq, not_false_eq_true, not_true_eq_false, t0, r_ref t0, a33]
      refine c_rgat ht hn (gOk_w (f := g.2.2.2.2.2.1) (p := -1) (q := 0) hg) h1 hd (show gC g < (gR g).length by omega) (fun m' a1 a2 => ?_)
      simp only [s224_44, zpu_some]
      have st : rSt m' (gAct D g (gT g) (gDel (gR g) (gC g)) (gC g)).2 := by
        have e2 : g.2.1 = some D := hd
        have h3' : rSt m' (g.1, g.2.1, gDel (gR g) (gC g), gC g, ((gR g, gC g) :: gH g).take 30, g.2.2.2.2.2.1, -1, 0) := a1
        rw [e2] at h3'
        exact h3'
      exact k m' st (zFR_tr zFR_ran a2)
theorem c_rgoes {L : zY} {m : zM} {Q : zQ} {g : zG} {n : Int} (ht : zMt L) (hn : zMn L) (hg : gOk g) (h : rSt m g) (k : ∀ m', rSt m' (sGoes g n).2 → zFR 332 370 m m' → Q (some (zI (sGoes g n).1)) L m') : zwp 225 0 [zA 332, zI n, zU] [] L m Q := by
  have t0 := mt332 ht
  have h32 : m 332 32 = ((gR g).length : Int) := h.2.2.2.2.2.1.2.1
  cases hd : gD g with
  | none =>
    have e : sGoes g n = gN g 1 := by unfold sGoes; rw [hd]
    rw [e] at k
    simp only [s225_0, s225_1, s225_2, s225_5, s225_6, s225_7, s225_8, s225_11, s225_14, s225_17, s225_20, s225_23, s225_24, Int.toNat_natCast, true_and, and_true, true_or, or_true, false_or, or_false, zwr_id, zpu_some, zpu_none, reduceIte, Int.reduceLE, Int.reduceLT, Int.reduceEq, Int.reduceNeg, Int.reduceAdd, Int.reduceSub, Int.reduceMul, Int.reduceToNat, Nat.reduceAdd, Nat.reduceLeDiff, Nat.reduceEqDiff, Nat.reduceLT, eq_self, ne_eq, not_false_eq_true, not_true_eq_false, t0, (rSt_6 h).1 hd, h32, r_in, r_unl2, r_ref t0]
    exact k _ (rSt_ran hg h) zFR_ran
  | some D =>
    obtain ⟨d1, d2, d3, d4, d5, -⟩ := rs_D hg h hd
    have es : sGoes g n = if 0 ≤ n ∧ n ≤ ((gR g).length : Int) then (((gC g : Nat) : Int), (gT g, some D, gR g, n.toNat, ((gR g, gC g) :: gH g).take 30, g.2.2.2.2.2.1, -1, 0)) else gN g 2 := by unfold sGoes; rw [hd]
    rw [es] at k
    by_cases hw : 0 ≤ n ∧ n ≤ ((gR g).length : Int)
    · rw [if_pos hw] at k
      obtain ⟨N, rfl⟩ : ∃ N : Nat, n = (N : Int) := ⟨n.toNat, by omega⟩
      have h1 := rSt_ran (why := 0) hg h
      have hg1 : gOk (g.1, g.2.1, g.2.2.1, g.2.2.2.1, g.2.2.2.2.1, g.2.2.2.2.2.1, -1, 0) := gOk_w hg
      have a33 : ran m 0 332 33 = (gC g : Int) := h1.2.2.2.2.2.1.2.2
      simp only [s225_0, s225_1, s225_2, s225_5, s225_6, s225_7, s225_8, s225_11, s225_14, s225_17, s225_20, s225_23, s225_24, s225_25, s225_26, s225_29, s225_30, s225_31, Int.toNat_natCast, true_and, and_true, true_or, or_true, false_or, or_false, zwr_id, zpu_some, zpu_none, reduceIte, Int.reduceLE, Int.reduceLT, Int.reduceEq, Int.reduceNeg, Int.reduceAdd, Int.reduceSub, Int.reduceMul, Int.reduceToNat, Nat.reduceAdd, Nat.reduceLeDiff, Nat.reduceEqDiff, Nat.reduceLT, eq_self, ne_eq, not_false_eq_true, not_true_eq_false, t0, (rSt_6 h).2 D hd, h32, r_in, hw, and_self, r_unl2, r_ref t0, a33]
      refine c_rrem ht hn h1.1 h1.2.2.2.2.2.1.1 h1.2.2.2.2.2.1.2.1 h1.2.2.2.2.2.1.2.2 d4 h1.2.2.2.2.2.2.1 (fun m1 hH f1 => ?_)
      have h2 := rSt_H hg1 h1 f1 hH
      have fr1 : zFR 332 370 (ran m 0) m1 := fun a ha => funext (fun j => f1 a j (by omega) (by omega) (by omega) (by omega))
      simp only [s225_34, s225_35, s225_36, s225_39, s225_40, zpu_none, true_and, t0]
      rw [Int.toNat_natCast] at k
      refine k _ ?_ (zFR_tr zFR_ran (zFR_tr fr1 zFR_1))
      have e2 : g.2.1 = some D := hd
      have hB := (h2.2.2.2.2.2.2.2 D hd).2.2
      have st : rSt (zup m1 332 33 (N : Int)) (g.1, g.2.1, gR g, N, ((gR g, gC g) :: gH g).take 30, g.2.2.2.2.2.1, -1, 0) := by
        refine rSt_act (g := (g.1, g.2.1, g.2.2.1, g.2.2.2.1, ((gR g, gC g) :: gH g).take 30, g.2.2.2.2.2.1, -1, 0)) hd h2 (fun a j p q r s => ?_) (zAL_eq (zup_nf (by decide)) h2.2.2.2.2.2.1.1) (by rw [zup_nk (by decide)]; exact h2.2.2.2.2.2.1.2.1) zup_same ⟨rBI_eq (fun a p q => zup_nf (by omega)) hB.1, rBP_eq (fun a p q => zup_nf (by omega)) hB.2.1, by rw [zup_na (by decide)]; exact hB.2.2⟩
        by_cases z : a = 332
        · subst z; exact zup_nk (r rfl).2
        · exact zup_na z
      rw [e2] at st
      exact st
    · rw [if_neg hw] at k
      simp only [s225_0, s225_1, s225_2, s225_5, s225_6, s225_7, s225_8, s225_11, s225_14, s225_17, s225_20, s225_23, s225_24, Int.toNat_natCast, true_and, and_true, true_or, or_true, false_or, or_false, zwr_id, zpu_some, zpu_none, reduceIte, Int.reduceLE, Int.reduceLT, Int.reduceEq, Int.reduceNeg, Int.reduceAdd, Int.reduceSub, Int.reduceMul, Int.reduceToNat, Nat.reduceAdd, Nat.reduceLeDiff, Nat.reduceEqDiff, Nat.reduceLT, eq_self, ne_eq, not_false_eq_true, not_true_eq_false, t0, (rSt_6 h).2 D hd, h32, r_in, hw, r_unl2, r_ref t0]
      exact k _ (rSt_ran hg h) zFR_ran
