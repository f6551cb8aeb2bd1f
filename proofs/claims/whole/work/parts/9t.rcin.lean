theorem gIns_get {xs R : List Int} {C i : Nat} (hC : C ≤ R.length) : (gIns xs R C).getD i 0 = if i < C then R.getD i 0 else if i < C + xs.length then xs.getD (i - C) 0 else R.getD (i - xs.length) 0 := by
  have lt : (R.take C).length = C := by rw [List.length_take]; omega
  unfold gIns
  rw [List.append_assoc, List.getD_eq_getElem?_getD, List.getD_eq_getElem?_getD, List.getD_eq_getElem?_getD, List.getD_eq_getElem?_getD]
  by_cases h1 : i < C
  · rw [if_pos h1, List.getElem?_append_left (by omega), List.getElem?_take_of_lt h1]
  · rw [if_neg h1, List.getElem?_append_right (by omega), lt]
    by_cases h2 : i < C + xs.length
    · rw [if_pos h2, List.getElem?_append_left (by omega)]
    · rw [if_neg h2, List.getElem?_append_right (by omega), List.getElem?_drop, show C + (i - C - xs.length) = i - xs.length by omega]
theorem c_rcin {L : zY} {m : zM} {Q : zQ} {g : zG} {D : zD} {arr : Nat} {xs : List Int} (ht : zMt L) (hn : zMn L) (hg : gOk g) (h : rSt m g) (hd : gD g = some D) (ha : arr = 333 ∨ arr = 367 ∨ arr = 368) (na : xs.length ≤ zn L arr) (hA : zAL m arr 0 xs) (hl : (gR g).length + xs.length ≤ 80) (hx : ∀ y ∈ xs, gSg D y = true) (k : ∀ m', rSt m' (g.1, g.2.1, gIns xs (gR g) (gC g), gC g + xs.length, ((gR g, gC g) :: gH g).take 30, g.2.2.2.2.2.1, g.2.2.2.2.2.2.1, g.2.2.2.2.2.2.2) → zFR 332 370 m m' → m' 349 0 = ((msI (kRun (zPof D) (gIns xs (gR g) (gC g)))).length : Int) → Q none L m') : zwp 217 0 [zA 332, zA arr, zI (xs.length : Int), zU] [] L m Q := by
  have t0 := mt332 ht
  obtain ⟨d1, d2, d3, d4, d5, -⟩ := rs_D hg h hd
  have tA : zt L arr = 20 := by
    rcases ha with rfl | rfl | rfl
    · exact mt333 ht
    · exact mt367 ht
    · exact mt368 ht
  simp only [s217_0, s217_1, t0, true_and]
  refine c_rrem ht hn h.1 h.2.2.2.2.2.1.1 h.2.2.2.2.2.1.2.1 h.2.2.2.2.2.1.2.2 d4 h.2.2.2.2.2.2.1 (fun m1 hH f1 => ?_)
  have h1 := rSt_H hg h f1 hH
  have hA1 : zAL m1 arr 0 xs := zAL_eq (funext (fun j => f1 arr j (by omega) (by omega) (by omega) (by omega))) hA
  have fr1 : zFR 332 370 m m1 := fun a ha => funext (fun j => f1 a j (by omega) (by omega) (by omega) (by omega))
  have p1 := h1.1
  have a32 : m1 332 32 = ((gR g).length : Int) := h1.2.2.2.2.2.1.2.1
  have a33 : m1 332 33 = (gC g : Int) := h1.2.2.2.2.2.1.2.2
  have aR : zAL m1 348 0 (gR g) := h1.2.2.2.2.2.1.1
  have gl : (gIns xs (gR g) (gC g)).length = (gR g).length + xs.length := gIns_len
  have gg := fun i => gIns_get (xs := xs) (R := gR g) (C := gC g) (i := i) d5
  have dg : ∀ y ∈ gIns xs (gR g) (gC g), gSg D y = true := fun y hy => by
    unfold gIns at hy
    rcases List.mem_append.mp hy with q | q
    · rcases List.mem_append.mp q with q | q
      · exact d3 y (List.mem_of_mem_take q)
      · exact hx y q
    · exact d3 y (List.mem_of_mem_drop q)
  clear f1 hH
  generalize gIns xs (gR g) (gC g) = G at *
  generalize hN : xs.length = N at *
  generalize hS : (gR g).length = S at *
  generalize hCc : gC g = C at *
  simp only [s217_4, s217_5, s217_8, s217_9, s217_10, zpu_none, true_and, t0, a32, (show zwr ((S : Int) - 1) = (S : Int) - 1 - ((0 : Nat) : Int) by rw [zwr_id (by omega) (by omega)]; omega)]
  refine zfor (n := S - C) (fun t => [zA 332, zA arr, zI (N : Int), zI ((S : Int) - 1 - (t : Nat))]) (fun t m' => (∀ j, S - t ≤ j → j < S → m' 348 (j + N) = (gR g).getD j 0) ∧ (∀ j, j < S - t → m' 348 j = (gR g).getD j 0) ∧ ∀ a, a ≠ 348 → m' a = m1 a) ?_ ?_ 0 m1 (Nat.zero_le _) ⟨fun j y1 y2 => by omega, fun j hj => by rw [zAL_get0 aR (show j < (gR g).length by omega), getD_lt (show j < (gR g).length by omega)], fun _ _ => rfl⟩
  · rintro i m2 hi ⟨g1, g2, g3⟩ ih
    have n1 : ¬ (S : Int) - 1 - (i : Int) < (C : Int) := by omega
    have b33 : m2 332 33 = (C : Int) := by rw [g3 332 (by decide)]; exact a33
    have q31 : m2 332 31 = ((348 : Nat) : Int) := by rw [g3 332 (by decide)]; exact mp31 p1
    have ek : (S : Int) - 1 - (i : Int) = ((S - 1 - i : Nat) : Int) := by omega
    have hr1 : 0 ≤ ((S - 1 - i : Nat) : Int) ∧ ((S - 1 - i : Nat) : Int) < ((80 : Nat) : Int) := by omega
    have hr2 : 0 ≤ ((S - 1 - i + N : Nat) : Int) ∧ ((S - 1 - i + N : Nat) : Int) < ((80 : Nat) : Int) := by omega
    rw [ek] at n1 ⊢
    simp only [s217_11]
    simp only [s217_12, s217_13, s217_16, s217_19, s217_20, s217_23, s217_24, s217_25, s217_26, s217_27, s217_30, s217_31, s217_32, s217_33, s217_36, Int.toNat_natCast, true_and, and_true, true_or, or_true, false_or, or_false, zwr_id, zpu_some, zpu_none, reduceIte, Int.reduceLE, Int.reduceLT, Int.reduceEq, Int.reduceNeg, Int.reduceAdd, Int.reduceSub, Int.reduceMul, Int.reduceToNat, Nat.reduceAdd, Nat.reduceLeDiff, Nat.reduceEqDiff, Nat.reduceLT, eq_self, ne_eq, not_false_eq_true, not_true_eq_false, t0, b33, n1, q31, mt348 ht, mn348 hn, hr1, hr2, and_self, (show zwr (((S - 1 - i : Nat) : Int) + (N : Int)) = ((S - 1 - i + N : Nat) : Int) from zwn (by omega) (by omega)), (show zwr (((S - 1 - i : Nat) : Int) + -1) = (S : Int) - 1 - ((i + 1 : Nat) : Int) by rw [zwr_id (by omega) (by omega)]; omega), g2 (S - 1 - i) (by omega)]
    refine ih _ ⟨fun j y1 y2 => ?_, fun j hj => ?_, fun a ha => by rw [zup_nf ha]; exact g3 a ha⟩
    · by_cases e : j = S - 1 - i
      · subst e; exact zup_same
      · rw [zup_nk (by omega)]; exact g1 j (by omega) y2
    · rw [zup_nk (by omega)]; exact g2 j (by omega)
  · rintro m2 ⟨g1, g2, g3⟩
    have n1 : (S : Int) - 1 - ((S - C : Nat) : Int) < (C : Int) := by omega
    have b33 : m2 332 33 = (C : Int) := by rw [g3 332 (by decide)]; exact a33
    simp only [s217_11]
    simp only [s217_12, s217_13, s217_16, s217_39, s217_40, Int.toNat_natCast, true_and, and_true, true_or, or_true, false_or, or_false, zwr_id, zpu_some, zpu_none, reduceIte, Int.reduceLE, Int.reduceLT, Int.reduceEq, Int.reduceNeg, Int.reduceAdd, Int.reduceSub, Int.reduceMul, Int.reduceToNat, Nat.reduceAdd, Nat.reduceLeDiff, Nat.reduceEqDiff, Nat.reduceLT, eq_self, ne_eq, not_false_eq_true, not_true_eq_false, t0, b33, n1]
    have hA2 : zAL m2 arr 0 xs := zAL_eq (g3 arr (by omega)) hA1
    refine zfor (n := N) (fun i => [zA 332, zA arr, zI (N : Int), zI (i : Nat)]) (fun i m' => (∀ j, j < i → m' 348 (C + j) = xs.getD j 0) ∧ (∀ j, (j < C ∨ C + N ≤ j) → m' 348 j = m2 348 j) ∧ ∀ a, a ≠ 348 → m' a = m2 a) ?_ ?_ 0 m2 (Nat.zero_le _) ⟨fun j hj => by omega, fun _ _ => rfl, fun _ _ => rfl⟩
    · rintro i m3 hi ⟨i1, i2, i3⟩ ih
      have n2 : ¬ (N : Int) ≤ (i : Int) := by omega
      have iv : i < 1000000 := by omega
      have c33 : m3 332 33 = (C : Int) := by rw [i3 332 (by decide)]; exact b33
      have q31 : m3 332 31 = ((348 : Nat) : Int) := by rw [i3 332 (by decide), g3 332 (by decide)]; exact mp31 p1
      have av : m3 arr i = xs.getD i 0 := by rw [i3 arr (by omega), zAL_get0 hA2 (show i < xs.length by omega), getD_lt (show i < xs.length by omega)]
      have hr1 : 0 ≤ (i : Int) ∧ (i : Int) < (zn L arr : Int) := by omega
      have hr2 : 0 ≤ ((C + i : Nat) : Int) ∧ ((C + i : Nat) : Int) < ((80 : Nat) : Int) := by omega
      simp only [s217_41]
      simp only [s217_42, s217_43, s217_46, s217_47, s217_50, s217_51, s217_54, s217_55, s217_56, s217_57, s217_58, s217_59, s217_60, s217_63, Int.toNat_natCast, true_and, and_true, true_or, or_true, false_or, or_false, zwr_id, zpu_some, zpu_none, reduceIte, Int.reduceLE, Int.reduceLT, Int.reduceEq, Int.reduceNeg, Int.reduceAdd, Int.reduceSub, Int.reduceMul, Int.reduceToNat, Nat.reduceAdd, Nat.reduceLeDiff, Nat.reduceEqDiff, Nat.reduceLT, eq_self, ne_eq, not_false_eq_true, not_true_eq_false, t0, n2, q31, c33, tA, mt348 ht, mn348 hn, hr1, hr2, and_self, (show zwr ((C : Int) + (i : Int)) = ((C + i : Nat) : Int) from zwn (by omega) (by omega)), av, z1 iv]
      refine ih _ ⟨fun j hj => ?_, fun j hj => by rw [zup_nk (by omega)]; exact i2 j hj, fun a ha => by rw [zup_nf ha]; exact i3 a ha⟩
      by_cases e : j = i
      · subst e; exact zup_same
      · rw [zup_nk (by omega)]; exact i1 j (by omega)
    · rintro m3 ⟨i1, i2, i3⟩
      have n2 : (N : Int) ≤ (N : Int) := by omega
      have c32 : m3 332 32 = (S : Int) := by rw [i3 332 (by decide), g3 332 (by decide)]; exact a32
      have c33 : m3 332 33 = (C : Int) := by rw [i3 332 (by decide)]; exact b33
      have gA3 : zAL m3 348 0 G := zAL_of (fun i hi => by
        rw [gg i]
        by_cases y1 : i < C
        · rw [if_pos y1, i2 i (by omega)]; exact g2 i (by omega)
        · rw [if_neg y1]
          by_cases y2 : i < C + N
          · rw [if_pos y2]
            have := i1 (i - C) (by omega)
            rw [show C + (i - C) = i by omega] at this
            exact this
          · rw [if_neg y2, i2 i (by omega)]
            have := g1 (i - N) (by omega) (by omega)
            rw [show i - N + N = i by omega] at this
            exact this)
      simp only [s217_41]
      simp only [s217_42, s217_43, s217_66, s217_67, s217_68, s217_71, s217_72, s217_73, s217_76, s217_77, s217_78, s217_81, s217_82, s217_83, s217_86, s217_87, Int.toNat_natCast, true_and, and_true, true_or, or_true, false_or, or_false, zwr_id, zpu_some, zpu_none, reduceIte, Int.reduceLE, Int.reduceLT, Int.reduceEq, Int.reduceNeg, Int.reduceAdd, Int.reduceSub, Int.reduceMul, Int.reduceToNat, Nat.reduceAdd, Nat.reduceLeDiff, Nat.reduceEqDiff, Nat.reduceLT, eq_self, ne_eq, not_false_eq_true, not_true_eq_false, t0, n2, c32, c33, (show zwr ((S : Int) + (N : Int)) = ((G.length : Nat) : Int) from zwn (by omega) (by omega)), (show zwr ((C : Int) + (N : Int)) = ((C + N : Nat) : Int) from zwn (by omega) (by omega)), zup_nk (show (33 : Nat) ≠ 32 by decide)]
      have e3 : ∀ a j, a ≠ 348 → m3 a j = m1 a j := fun a j q => by rw [i3 a q, g3 a q]
      let m4 := zup (zup m3 332 32 ((G.length : Nat) : Int)) 332 33 ((C + N : Nat) : Int)
      have e4 : ∀ a, a ≠ 332 → m4 a = m3 a := fun a q => by show zup (zup m3 332 32 _) 332 33 _ a = _; rw [zup_nf q, zup_nf q]
      have o4 : ∀ j, j ≠ 32 → j ≠ 33 → m4 332 j = m1 332 j := fun j q1 q2 => by show zup (zup m3 332 32 _) 332 33 _ 332 j = _; rw [zup_nk q2, zup_nk q1]; exact e3 332 j (by decide)
      have d32 : m4 332 32 = ((G.length : Nat) : Int) := by show zup (zup m3 332 32 _) 332 33 _ 332 32 = _; rw [zup_nk (by decide), zup_same]
      have d33 : m4 332 33 = ((C + N : Nat) : Int) := zup_same
      have p4 : zMp m4 := zMp_eq (fun i hi => o4 i (fun z => by rw [z] at hi; cases hi) (fun z => by rw [z] at hi; cases hi)) p1
      obtain ⟨b1, b2, -⟩ := h1.2.2.2.2.2.2.2 D hd
      have x4 : rMx m4 D := ⟨p4, rDt_eq (fun a p q => by rw [e4 a (by omega)]; exact funext (fun j => e3 a j (by omega))) b1, rNm_eq (fun a p q => by rw [e4 a (by omega)]; exact funext (fun j => e3 a j (by omega))) (fun i p q => o4 i (by omega) (by omega)) b2⟩
      have q31 : m4 332 31 = ((348 : Nat) : Int) := mp31 p4
      have mk := fun Q' : zQ => fun kq => c_rmakes (Q := Q') (b := 0) (a := 348) (xs := G) d1 ht hn (by decide) x4 (by decide) (mt348 ht) (by rw [mn348 hn]; omega) (zAL_eq (e4 348 (by decide)) gA3) (by omega) dg kq
      simp only [Int.cast_ofNat_Int] at mk
      change zwp 199 0 [zA 332] [] L m4 _
      simp only [s199_0, s199_1, s199_2, s199_3, s199_6, s199_7, s199_10, Int.toNat_natCast, true_and, and_true, true_or, or_true, false_or, or_false, zwr_id, zpu_some, zpu_none, reduceIte, Int.reduceLE, Int.reduceLT, Int.reduceEq, Int.reduceNeg, Int.reduceAdd, Int.reduceSub, Int.reduceMul, Int.reduceToNat, Nat.reduceAdd, Nat.reduceLeDiff, Nat.reduceEqDiff, Nat.reduceLT, eq_self, ne_eq, not_false_eq_true, not_true_eq_false, t0, q31, d32]
      refine mk _ (fun m5 c5 f5 => ?_)
      simp only [s199_13, s217_90, zpu_none]
      have fr : zFR 332 370 m m5 := zFR_tr fr1 (fun a ha => by rw [rBf_row f5 (by omega) (by omega), e4 a (by omega)]; exact funext (fun j => e3 a j (by omega)))
      have st : rSt m5 (g.1, g.2.1, G, C + N, ((gR g, C) :: gH g).take 30, g.2.2.2.2.2.1, g.2.2.2.2.2.2.1, g.2.2.2.2.2.2.2) := by
        refine rSt_act (g := (g.1, g.2.1, g.2.2.1, g.2.2.2.1, ((gR g, C) :: gH g).take 30, g.2.2.2.2.2.1, g.2.2.2.2.2.2.1, g.2.2.2.2.2.2.2)) hd h1 (fun a j p q r s => ?_) (zAL_eq (rBf_row f5 (by decide) (by decide)) (zAL_eq (e4 348 (by decide)) gA3)) (by rw [rBf_ob f5 (by decide) (by decide)]; exact d32) (by rw [rBf_ob f5 (by decide) (by decide)]; exact d33) ⟨c5.2.2.1, c5.2.2.2.1, c5.2.2.2.2⟩
        by_cases z : a = 332
        · subst z
          rw [rBf_ob f5 (fun y => by rw [y] at p; exact rKp_x rfl p) (fun y => by rw [y] at p; exact rKp_x rfl p)]
          exact o4 j (r rfl).1 (r rfl).2
        · rw [rBf_row f5 z s, e4 a z]
          exact e3 a j q
      exact k m5 st fr c5.2.2.1.1
