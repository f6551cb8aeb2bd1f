theorem pBk_le {G : List Int} {n : Nat} : pBk G n ≤ G.length := by
  induction G generalizing n with
  | nil => exact Nat.le_refl _
  | cons x t ih =>
    rw [pBk, List.length_cons]
    split
    · omega
    · have := ih (n := if x = 124 then n else n - 1)
      omega
theorem rKy_cons {x : Int} {t : List Int} : rKy (x :: t) = rKy t + if x = 124 then 0 else 1 := by
  unfold rKy
  by_cases e : x = 124
  · rw [List.countP_cons_of_neg (by rw [e]; decide), if_pos e]; rfl
  · rw [List.countP_cons_of_pos (by rw [bne_iff_ne]; exact e), if_neg e]
/-- the caret behind as many KEYS -/
theorem c_rcar {L : zY} {Q : zQ} {G : List Int} {l1 : Int} {A : Nat} (ht : zMt L) (hn : zMn L) (hG : G.length ≤ 80) (hA : A ≤ 80) : ∀ (d c met : Nat) (m : zM), G.length - c = d → c ≤ G.length → met ≤ A → A - met ≤ rKy (G.drop c) → zMp m → zAL m 348 0 G → m 332 33 = (c : Int) → (∀ m' met', m' 332 33 = ((c + pBk (G.drop c) (A - met) : Nat) : Int) → (∀ a, a ≠ 332 → m' a = m a) → (∀ j, j ≠ 33 → m' 332 j = m 332 j) → zwp 226 153 [zA 332, zI l1, zI (A : Int), zI met'] [] L m' Q) → zwp 226 113 [zA 332, zI l1, zI (A : Int), zI (met : Int)] [] L m Q := by
  have t0 := mt332 ht
  intro d
  induction d with
  | zero =>
    intro c met m hd hc hm hk hp hG2 h33 k
    have e : c = G.length := by omega
    subst e
    rw [List.drop_length] at hk k
    have hm2 : met = A := by have : rKy [] = 0 := rfl; omega
    have n1 : (A : Int) ≤ (met : Int) := by omega
    simp only [s226_113, s226_114, s226_115, Int.toNat_natCast, true_and, and_true, true_or, or_true, false_or, or_false, zwr_id, zpu_some, zpu_none, reduceIte, Int.reduceLE, Int.reduceLT, Int.reduceEq, Int.reduceNeg, Int.reduceAdd, Int.reduceSub, Int.reduceMul, Int.reduceToNat, Nat.reduceAdd, Nat.reduceLeDiff, Nat.reduceEqDiff, Nat.reduceLT, eq_self, ne_eq, not_false_eq_true, not_true_eq_false, n1]
    exact k m _ (by rw [h33]; rfl) (fun _ _ => rfl) (fun _ _ => rfl)
  | succ d ih =>
    intro c met m hd hc hm hk hp hG2 h33 k
    have hc2 : c < G.length := by omega
    rw [List.drop_eq_getElem_cons hc2, pBk] at k
    rw [List.drop_eq_getElem_cons hc2, rKy_cons] at hk
    simp only [s226_113]
    by_cases h0 : A - met = 0
    · have n1 : (A : Int) ≤ (met : Int) := by omega
      rw [if_pos h0] at k
      simp only [s226_114, s226_115, Int.toNat_natCast, true_and, and_true, true_or, or_true, false_or, or_false, zwr_id, zpu_some, zpu_none, reduceIte, Int.reduceLE, Int.reduceLT, Int.reduceEq, Int.reduceNeg, Int.reduceAdd, Int.reduceSub, Int.reduceMul, Int.reduceToNat, Nat.reduceAdd, Nat.reduceLeDiff, Nat.reduceEqDiff, Nat.reduceLT, eq_self, ne_eq, not_false_eq_true, not_true_eq_false, n1]
      exact k m _ (by rw [h33]; rfl) (fun _ _ => rfl) (fun _ _ => rfl)
    · have n1 : ¬ (A : Int) ≤ (met : Int) := by omega
      rw [if_neg h0] at k
      have q31 : m 332 31 = ((348 : Nat) : Int) := mp31 hp
      have hr : 0 ≤ (c : Int) ∧ (c : Int) < ((80 : Nat) : Int) := by omega
      simp only [s226_114, s226_115, s226_118, s226_119, s226_120, s226_123, s226_124, s226_127, s226_128, Int.toNat_natCast, true_and, and_true, true_or, or_true, false_or, or_false, zwr_id, zpu_some, zpu_none, reduceIte, Int.reduceLE, Int.reduceLT, Int.reduceEq, Int.reduceNeg, Int.reduceAdd, Int.reduceSub, Int.reduceMul, Int.reduceToNat, Nat.reduceAdd, Nat.reduceLeDiff, Nat.reduceEqDiff, Nat.reduceLT, eq_self, ne_eq, not_false_eq_true, not_true_eq_false, t0, n1, q31, h33, mt348 ht, mn348 hn, hr, and_self, zAL_get0 hG2 hc2]
      simp only [s226_130]
      have fr : ∀ a, a ≠ 332 → zup m 332 33 ((c + 1 : Nat) : Int) a = m a := fun a ha => zup_nf ha
      have fo : ∀ j, j ≠ 33 → zup m 332 33 ((c + 1 : Nat) : Int) 332 j = m 332 j := fun j hj => zup_nk hj
      have p1 : zMp (zup m 332 33 ((c + 1 : Nat) : Int)) := zMp_eq (fun i hi => fo i (fun z => by rw [z] at hi; cases hi)) hp
      by_cases e : G[c] = 124
      · rw [if_pos e]
        rw [if_pos e] at k hk
        simp only [s226_133, s226_134, s226_137, s226_138, s226_139, s226_140, s226_141, s226_142, s226_145, s226_146, s226_147, s226_150, true_and, t0, h33, (show zwr ((c : Int) + 1) = ((c + 1 : Nat) : Int) from zwn (by omega) (by omega)), (show zwr ((met : Int) + 0) = ((met : Nat) : Int) from zwn (by omega) (by omega))]
        refine ih (c + 1) met _ (by omega) (by omega) hm (by omega) p1 (zAL_eq (fr 348 (by decide)) hG2) zup_same (fun m' met' a1 a2 a3 => k m' met' ?_ (fun a ha => by rw [a2 a ha, fr a ha]) (fun j hj => by rw [a3 j hj, fo j hj]))
        rw [a1, Nat.add_assoc]
      · rw [if_neg e]
        rw [if_neg e] at k hk
        simp only [s226_137, s226_138, s226_139, s226_140, s226_141, s226_142, s226_145, s226_146, s226_147, s226_150, true_and, t0, h33, (show zwr ((c : Int) + 1) = ((c + 1 : Nat) : Int) from zwn (by omega) (by omega)), (show zwr ((met : Int) + 1) = ((met + 1 : Nat) : Int) from zwn (by omega) (by omega))]
        refine ih (c + 1) (met + 1) _ (by omega) (by omega) (by omega) (by omega) p1 (zAL_eq (fr 348 (by decide)) hG2) zup_same (fun m' met' a1 a2 a3 => k m' met' ?_ (fun a ha => by rw [a2 a ha, fr a ha]) (fun j hj => by rw [a3 j hj, fo j hj]))
        rw [a1, Nat.add_assoc, Nat.sub_sub]
theorem c_rtidy {L : zY} {m : zM} {Q : zQ} {g : zG} (ht : zMt L) (hn : zMn L) (hg : gOk g) (h : rSt m g) (k : ∀ m', rSt m' (sTidy g).2 → zFR 332 370 m m' → Q (some (zI (sTidy g).1)) L m') : zwp 226 0 [zA 332, zU, zU, zU] [] L m Q := by
  have t0 := mt332 ht
  cases hd : gD g with
  | none =>
    have e : sTidy g = gN g 1 := by unfold sTidy; rw [hd]
    rw [e] at k
    simp only [s226_0, s226_1, s226_2, s226_5, s226_8, s226_11, s226_14, s226_15, Int.toNat_natCast, true_and, and_true, true_or, or_true, false_or, or_false, zwr_id, zpu_some, zpu_none, reduceIte, Int.reduceLE, Int.reduceLT, Int.reduceEq, Int.reduceNeg, Int.reduceAdd, Int.reduceSub, Int.reduceMul, Int.reduceToNat, Nat.reduceAdd, Nat.reduceLeDiff, Nat.reduceEqDiff, Nat.reduceLT, eq_self, ne_eq, not_false_eq_true, not_true_eq_false, t0, (rSt_6 h).1 hd, r_unl, r_ref t0]
    exact k _ (rSt_ran hg h) zFR_ran
  | some D =>
    obtain ⟨d1, d2, d3, d4, d5, -⟩ := rs_D hg h hd
    have es : sTidy g = ((rBr (gR g) : Int) - (rBr (gBare D (gR g)) : Int), (gT g, some D, gBare D (gR g), pBk (gBare D (gR g)) (rKy ((gR g).take (gC g))), ((gR g, gC g) :: gH g).take 30, g.2.2.2.2.2.1, -1, 0)) := by unfold sTidy; rw [hd]
    rw [es] at k
    obtain ⟨gb1, gb2⟩ := gBare_ok d1 d3
    have gk := gBare_ky d1 d3
    have rt := rKy_take (R := gR g) (c := gC g)
    have rl : rKy ((gR g).take (gC g)) ≤ gC g := rKy_le
    have h1 := rSt_ran (why := 0) hg h
    have hg1 : gOk (g.1, g.2.1, g.2.2.1, g.2.2.2.1, g.2.2.2.2.1, g.2.2.2.2.2.1, -1, 0) := gOk_w hg
    have a32 : ran m 0 332 32 = ((gR g).length : Int) := h1.2.2.2.2.2.1.2.1
    have a33 : ran m 0 332 33 = (gC g : Int) := h1.2.2.2.2.2.1.2.2
    have aR : zAL (ran m 0) 348 0 (gR g) := h1.2.2.2.2.2.1.1
    have br := fun Q' : zQ => c_rbreaks (Q := Q') ht hn h1.1 d4 a32 aR
    simp only [s226_0, s226_1, s226_2, s226_5, s226_8, s226_11, s226_14, s226_15, s226_16, s226_17, s226_20, s226_21, s226_22, s226_23, s226_24, Int.toNat_natCast, true_and, and_true, true_or, or_true, false_or, or_false, zwr_id, zpu_some, zpu_none, reduceIte, Int.reduceLE, Int.reduceLT, Int.reduceEq, Int.reduceNeg, Int.reduceAdd, Int.reduceSub, Int.reduceMul, Int.reduceToNat, Nat.reduceAdd, Nat.reduceLeDiff, Nat.reduceEqDiff, Nat.reduceLT, eq_self, ne_eq, not_false_eq_true, not_true_eq_false, t0, (rSt_6 h).2 D hd, r_unl, r_ref t0, br]
    have f0 : zFR 332 370 m (ran m 0) := zFR_ran
    have q31 : ran m 0 332 31 = ((348 : Nat) : Int) := mp31 h1.1
    generalize ran m 0 = m1 at *
    refine zfor (n := gC g) (fun i => [zA 332, zI (rBr (gR g) : Nat), zI (rKy ((gR g).take i) : Nat), zI (i : Nat)]) (fun _ m' => m' = m1) ?_ ?_ 0 m1 (Nat.zero_le _) rfl
    · rintro i m1 hi rfl ih
      have ih := ih _ rfl
      have hi2 : i < (gR g).length := by omega
      have b := rKy_le (xs := gR g) (i := i)
      rw [rKy_s hi2] at ih
      have n1 : ¬ (gC g : Int) ≤ (i : Int) := by omega
      have iv : i < 1000000 := by omega
      have hr : 0 ≤ (i : Int) ∧ (i : Int) < ((80 : Nat) : Int) := by omega
      simp only [s226_25]
      simp only [s226_26, s226_27, s226_30, s226_33, s226_34, s226_35, s226_38, s226_39, s226_40, Int.toNat_natCast, true_and, and_true, true_or, or_true, false_or, or_false, zwr_id, zpu_some, zpu_none, reduceIte, Int.reduceLE, Int.reduceLT, Int.reduceEq, Int.reduceNeg, Int.reduceAdd, Int.reduceSub, Int.reduceMul, Int.reduceToNat, Nat.reduceAdd, Nat.reduceLeDiff, Nat.reduceEqDiff, Nat.reduceLT, eq_self, ne_eq, not_false_eq_true, not_true_eq_false, t0, a33, n1, q31, mt348 ht, mn348 hn, hr, and_self, zAL_get0 aR hi2]
      simp only [s226_42]
      by_cases e : (gR g)[i] = 124
      · rw [if_pos e] at ih ⊢
        simp only [s226_45, s226_46, s226_49, s226_50, s226_51, s226_52, s226_55, (show zwr ((rKy ((gR g).take i) : Int) + 0) = ((rKy ((gR g).take i) + 0 : Nat) : Int) from zwn (by omega) (by omega)), z1 iv]
        exact ih
      · rw [if_neg e] at ih ⊢
        simp only [s226_49, s226_50, s226_51, s226_52, s226_55, (show zwr ((rKy ((gR g).take i) : Int) + 1) = ((rKy ((gR g).take i) + 1 : Nat) : Int) from zwn (by omega) (by omega)), z1 iv]
        exact ih
    · rintro m1 rfl
      have n1 : (gC g : Int) ≤ (gC g : Int) := by omega
      simp only [s226_25]
      simp only [s226_26, s226_27, s226_30, s226_58, s226_59, Int.toNat_natCast, true_and, and_true, true_or, or_true, false_or, or_false, zwr_id, zpu_some, zpu_none, reduceIte, Int.reduceLE, Int.reduceLT, Int.reduceEq, Int.reduceNeg, Int.reduceAdd, Int.reduceSub, Int.reduceMul, Int.reduceToNat, Nat.reduceAdd, Nat.reduceLeDiff, Nat.reduceEqDiff, Nat.reduceLT, eq_self, ne_eq, not_false_eq_true, not_true_eq_false, t0, a33, n1]
      refine c_rdb ht hn hg1 h1 hd (fun m2 lb => ?_)
      simp only [s226_62, s226_63, zpu_none, true_and, t0]
      refine lb _ (fun m3 h3 a1 a2 a3 f3 => ?_)
      have a1 : zAL m3 362 0 (gBare D (gR g)) := a1
      have a2 : m3 332 50 = ((gBare D (gR g)).length : Int) := a2
      have a3 : m3 332 51 = (rBr (gBare D (gR g)) : Int) := a3
      simp only [s226_66, s226_67, zpu_none, true_and, t0]
      refine c_rrem ht hn h3.1 h3.2.2.2.2.2.1.1 h3.2.2.2.2.2.1.2.1 h3.2.2.2.2.2.1.2.2 d4 h3.2.2.2.2.2.2.1 (fun m4 hH f4 => ?_)
      have h4 := rSt_H hg1 h3 f4 hH
      have fr4 : zFR 332 370 m m4 := zFR_tr f0 (zFR_tr f3 (fun a ha => funext (fun j => f4 a j (by omega) (by omega) (by omega) (by omega))))
      have c50 : m4 332 50 = ((gBare D (gR g)).length : Int) := by rw [f4 332 50 (by decide) (by decide) (by decide) (fun _ => by decide)]; exact a2
      have c51 : m4 332 51 = (rBr (gBare D (gR g)) : Int) := by rw [f4 332 51 (by decide) (by decide) (by decide) (fun _ => by decide)]; exact a3
      have cA : zAL m4 362 0 (gBare D (gR g)) := zAL_eq (funext (fun j => f4 362 j (by decide) (by decide) (by decide) (fun z => absurd z (by decide)))) a1
      simp only [s226_70, s226_71, s226_72, s226_75, s226_78, s226_79, s226_80, s226_83, s226_84, zpu_none, true_and, t0, c50]
      generalize gBare D (gR g) = G at *
      have dg := gb2
      let m5 := zup (zup m4 332 32 ((G.length : Nat) : Int)) 332 33 0
      have e5 : ∀ a, a ≠ 332 → m5 a = m4 a := fun a q => by show zup (zup m4 332 32 _) 332 33 _ a = _; rw [zup_nf q, zup_nf q]
      have o5 : ∀ j, j ≠ 32 → j ≠ 33 → m5 332 j = m4 332 j := fun j q1 q2 => by show zup (zup m4 332 32 _) 332 33 _ 332 j = _; rw [zup_nk q2, zup_nk q1]
      have d32 : m5 332 32 = ((G.length : Nat) : Int) := by show zup (zup m4 332 32 _) 332 33 _ 332 32 = _; rw [zup_nk (by decide), zup_same]
      have d33 : m5 332 33 = ((0 : Nat) : Int) := zup_same
      have p5 : zMp m5 := zMp_eq (fun i hi => o5 i (fun z => by rw [z] at hi; cases hi) (fun z => by rw [z] at hi; cases hi)) h4.1
      change zwp 226 85 _ _ L m5 Q
      refine zfor (n := G.length) (fun i => [zA 332, zI (rBr (gR g) : Nat), zI (rKy ((gR g).take (gC g)) : Nat), zI (i : Nat)]) (fun i m' => (∀ j, j < i → m' 348 j = G.getD j 0) ∧ ∀ a, a ≠ 348 → m' a = m5 a) ?_ ?_ 0 m5 (Nat.zero_le _) ⟨fun j hj => by omega, fun _ _ => rfl⟩
      · rintro i m6 hi ⟨g1, g3⟩ ih
        have n2 : ¬ (G.length : Int) ≤ (i : Int) := by omega
        have iv : i < 1000000 := by omega
        have r32 : m6 332 32 = ((G.length : Nat) : Int) := by rw [g3 332 (by decide)]; exact d32
        have r31 : m6 332 31 = ((348 : Nat) : Int) := by rw [g3 332 (by decide)]; exact mp31 p5
        have r49 : m6 332 49 = ((362 : Nat) : Int) := by rw [g3 332 (by decide)]; exact mp49 p5
        have av : m6 362 i = G.getD i 0 := by rw [g3 362 (by decide), e5 362 (by decide), zAL_get0 cA hi, getD_lt hi]
        have hr1 : 0 ≤ (i : Int) ∧ (i : Int) < ((80 : Nat) : Int) := by omega
        have hr2 : 0 ≤ (i : Int) ∧ (i : Int) < ((400 : Nat) : Int) := by omega
        simp only [s226_85]
        simp only [s226_86, s226_87, s226_90, s226_93, s226_94, s226_97, s226_98, s226_99, s226_102, s226_103, s226_104, s226_105, s226_108, Int.toNat_natCast, true_and, and_true, true_or, or_true, false_or, or_false, zwr_id, zpu_some, zpu_none, reduceIte, Int.reduceLE, Int.reduceLT, Int.reduceEq, Int.reduceNeg, Int.reduceAdd, Int.reduceSub, Int.reduceMul, Int.reduceToNat, Nat.reduceAdd, Nat.reduceLeDiff, Nat.reduceEqDiff, Nat.reduceLT, eq_self, ne_eq, not_false_eq_true, not_true_eq_false, t0, r32, n2, r31, r49, mt348 ht, mn348 hn, mt362 ht, mn362 hn, hr1, hr2, and_self, av, z1 iv]
        refine ih _ ⟨fun j hj => ?_, fun a ha => by rw [zup_nf ha]; exact g3 a ha⟩
        by_cases e : j = i
        · subst e; exact zup_same
        · rw [zup_nk e]; exact g1 j (by omega)
      · rintro m6 ⟨g1, g3⟩
        have n2 : (G.length : Int) ≤ (G.length : Int) := by omega
        have r32 : m6 332 32 = ((G.length : Nat) : Int) := by rw [g3 332 (by decide)]; exact d32
        have r33 : m6 332 33 = ((0 : Nat) : Int) := by rw [g3 332 (by decide)]; exact d33
        have p6 : zMp m6 := zMp_eq (fun i hi => by rw [g3 332 (by decide)]) p5
        have gA6 : zAL m6 348 0 G := zAL_of (fun i hi => g1 i hi)
        simp only [s226_85]
        simp only [s226_86, s226_87, s226_90, s226_111, s226_112, Int.toNat_natCast, true_and, and_true, true_or, or_true, false_or, or_false, zwr_id, zpu_some, zpu_none, reduceIte, Int.reduceLE, Int.reduceLT, Int.reduceEq, Int.reduceNeg, Int.reduceAdd, Int.reduceSub, Int.reduceMul, Int.reduceToNat, Nat.reduceAdd, Nat.reduceLeDiff, Nat.reduceEqDiff, Nat.reduceLT, eq_self, ne_eq, not_false_eq_true, not_true_eq_false, t0, r32, n2]
        refine c_rcar (G := G) (A := rKy ((gR g).take (gC g))) ht hn (by omega) (by omega) _ 0 0 m6 rfl (Nat.zero_le _) (Nat.zero_le _) (by rw [List.drop_zero]; omega) p6 gA6 r33 (fun m7 met' b1 b2 b3 => ?_)
        rw [Nat.zero_add, List.drop_zero, Nat.sub_zero] at b1
        have pl := pBk_le (G := G) (n := rKy ((gR g).take (gC g)))
        obtain ⟨y1, y2, -⟩ := h4.2.2.2.2.2.2.2 D hd
        have e7 : ∀ a, a ≠ 332 → a ≠ 348 → m7 a = m4 a := fun a q1 q2 => by rw [b2 a q1, g3 a q2, e5 a q1]
        have o7 : ∀ j, j ≠ 32 → j ≠ 33 → m7 332 j = m4 332 j := fun j q1 q2 => by rw [b3 j q2, g3 332 (by decide)]; exact o5 j q1 q2
        have p7 : zMp m7 := zMp_eq (fun i hi => o7 i (fun z => by rw [z] at hi; cases hi) (fun z => by rw [z] at hi; cases hi)) h4.1
        have x7 : rMx m7 D := ⟨p7, rDt_eq (fun a p q => e7 a (by omega) (by omega)) y1, rNm_eq (fun a p q => e7 a (by omega) (by omega)) (fun i p q => o7 i (by omega) (by omega)) y2⟩
        have gA7 : zAL m7 348 0 G := zAL_eq (b2 348 (by decide)) gA6
        have s32 : m7 332 32 = ((G.length : Nat) : Int) := by rw [b3 32 (by decide)]; exact r32
        have s31 : m7 332 31 = ((348 : Nat) : Int) := mp31 p7
        have mk := fun Q' : zQ => fun kq => c_rmakes (Q := Q') (b := 0) (a := 348) (xs := G) d1 ht hn (by decide) x7 (by decide) (mt348 ht) (by rw [mn348 hn]; omega) gA7 (by omega) dg kq
        simp only [Int.cast_ofNat_Int] at mk
        simp only [s226_153, s226_154, s199_0, s199_1, s199_2, s199_3, s199_6, s199_7, s199_10, Int.toNat_natCast, true_and, and_true, true_or, or_true, false_or, or_false, zwr_id, zpu_some, zpu_none, reduceIte, Int.reduceLE, Int.reduceLT, Int.reduceEq, Int.reduceNeg, Int.reduceAdd, Int.reduceSub, Int.reduceMul, Int.reduceToNat, Nat.reduceAdd, Nat.reduceLeDiff, Nat.reduceEqDiff, Nat.reduceLT, eq_self, ne_eq, not_false_eq_true, not_true_eq_false, t0, s31, s32]
        refine mk _ (fun m8 c8 f8 => ?_)
        have u51 : m8 332 51 = (rBr G : Int) := by rw [rBf_ob f8 (by decide) (by decide), o7 51 (by decide) (by decide)]; exact c51
        have rl1 := rBr_len (xs := G)
        have rl2 := rBr_len (xs := gR g)
        simp only [s199_13, s226_157, s226_158, s226_159, s226_162, s226_163, zpu_none, true_and, t0, u51, (show zwr ((rBr (gR g) : Int) - (rBr G : Int)) = (rBr (gR g) : Int) - (rBr G : Int) from zwr_id (by omega) (by omega))]
        have st : rSt m8 (g.1, g.2.1, G, pBk G (rKy ((gR g).take (gC g))), ((gR g, gC g) :: gH g).take 30, g.2.2.2.2.2.1, -1, 0) := by
          refine rSt_act (g := (g.1, g.2.1, g.2.2.1, g.2.2.2.1, ((gR g, gC g) :: gH g).take 30, g.2.2.2.2.2.1, -1, 0)) hd h4 (fun a j p q r s => ?_) (zAL_eq (rBf_row f8 (by decide) (by decide)) gA7) (by rw [rBf_ob f8 (by decide) (by decide)]; exact s32) (by rw [rBf_ob f8 (by decide) (by decide)]; exact b1) ⟨c8.2.2.1, c8.2.2.2.1, c8.2.2.2.2⟩
          by_cases z : a = 332
          · subst z
            rw [rBf_ob f8 (fun y => by rw [y] at p; exact rKp_x rfl p) (fun y => by rw [y] at p; exact rKp_x rfl p)]
            exact o7 j (r rfl).1 (r rfl).2
          · rw [rBf_row f8 z s, e7 a z q]
        have e2 : g.2.1 = some D := hd
        rw [e2] at st
        exact k m8 st (zFR_tr fr4 (fun a ha => by rw [rBf_row f8 (by omega) (by omega), e7 a (by omega) (by omega)]))
