/-! the reference's moves -/
/-- nextState and nextMore -/
def rNx (m m' : zM) (s mo : Nat) : Prop := m' 332 61 = (s : Int) ∧ m' 332 62 = (mo : Int) ∧ (∀ a, a ≠ 332 → m' a = m a) ∧ ∀ j, j ≠ 61 → j ≠ 62 → m' 332 j = m 332 j
def tNx (p : Nat × Nat) : Nat × Nat := (sgS p.1, p.2)
theorem rMx_Nx {m m' : zM} {D : zD} {s mo : Nat} (h : rNx m m' s mo) (hx : rMx m D) : rMx m' D := by
  obtain ⟨-, -, h1, h2⟩ := h
  exact ⟨zMp_eq (fun i hi => h2 i (fun z => by rw [z] at hi; cases hi) (fun z => by rw [z] at hi; cases hi)) hx.1, rDt_eq (fun a p q => h1 a (by omega)) hx.2.1, rNm_eq (fun a p q => h1 a (by omega)) (fun i p q => h2 i (by omega) (by omega)) hx.2.2⟩
theorem rNx_2 {m : zM} {s mo : Nat} : rNx m (zup (zup m 332 61 (s : Int)) 332 62 (mo : Int)) s mo := ⟨by rw [zup_nk (by decide), zup_same], zup_same, fun a ha => by rw [zup_nf ha, zup_nf ha], fun j h1 h2 => by rw [zup_nk h2, zup_nk h1]⟩
theorem rNx_tr {m m1 m2 : zM} {s mo s' mo' : Nat} (h1 : rNx m m1 s mo) (h2 : rNx m1 m2 s' mo') : rNx m m2 s' mo' := ⟨h2.1, h2.2.1, fun a ha => (h2.2.2.1 a ha).trans (h1.2.2.1 a ha), fun j q1 q2 => (h2.2.2.2 j q1 q2).trans (h1.2.2.2 j q1 q2)⟩
/-- what is known of a KEY's numbers -/
theorem rk_rng {D : zD} {k : Nat} (hD : dOk D) : (dNL D k = -2 ∨ (0 ≤ dNL D k ∧ dNL D k < 14)) ∧ (dTw D k = -2 ∨ (0 ≤ dTw D k ∧ dTw D k < 14)) ∧ (dNE D k = -2 ∨ (1 ≤ dNE D k ∧ dNE D k < 19)) ∧ (dNM D k = -2 ∨ (0 ≤ dNM D k ∧ dNM D k < 16)) := by
  obtain ⟨l1, l2, l3, l4, l5⟩ := hD.2.2.1
  have a1 : (dLe D).length ≤ 10 := Nat.le_trans (List.length_filter_le _ _) l1
  have a2 : (dEn D).length ≤ 10 := Nat.le_trans (List.length_filter_le _ _) l1
  have h1 := dNL_rng (k := k) hD
  have h2 := dTw_rng (k := k) hD
  have h3 := dNE_rng (k := k) hD
  have h4 := dNM_rng (k := k) hD
  unfold dnL at h2
  refine ⟨?_, ?_, ?_, ?_⟩
  · rcases h1 with e | ⟨e1, e2, -⟩
    · exact Or.inl e
    · exact Or.inr (by omega)
  · rcases h2 with e | ⟨e1, e2, -⟩
    · exact Or.inl e
    · exact Or.inr (by omega)
  · rcases h3 with e | ⟨e1, e2, -⟩
    · exact Or.inl e
    · exact Or.inr (by omega)
  · rcases h4 with e | ⟨e1, e2, -⟩
    · exact Or.inl e
    · exact Or.inr (by omega)
theorem dNM_v {D : zD} {k : Nat} (hD : dOk D) (h : dS D k = 3) : dNM D k ≠ -2 := by
  have hv : k ∈ dV D := by
    rcases hD.2.2.2 k with e | ⟨e1, e2, e3⟩ | ⟨e1, e2⟩ | ⟨e1, e2⟩
    · omega
    · omega
    · exact e2
    · omega
  obtain ⟨j, hj, -, e⟩ := ixf_in hD.2.1.2.1 (i := 0) (f := fun _ => -2) hv
  unfold dNM
  rw [e]
  omega
theorem c_rfreshS {L : zY} {m : zM} {Q : zQ} {D : zD} {k : Nat} (ht : zMt L) (hn : zMn L) (hD : dOk D) (hx : rMx m D) (hk : k < 26) (kq : ∀ m', rNx m m' (tNx (tFr (zPof D) k)).1 1 → Q none L m') : zwp 244 0 [zA 332, zI (k : Int)] [] L m Q := by
  have t0 := mt332 ht
  obtain ⟨r1, r2, r3, r4⟩ := rk_rng (k := k) hD
  have q7 : m 332 7 = ((334 : Nat) : Int) := mp7 hx.1
  have q24 : m 332 24 = ((341 : Nat) : Int) := mp24 hx.1
  have q27 : m 332 27 = ((344 : Nat) : Int) := mp27 hx.1
  have v1 : m 334 k = dS D k := hx.2.1.1 k hk
  have v2 : m 341 k = dNL D k := hx.2.2.1.1.1 k hk
  have v3 : m 344 k = dNM D k := hx.2.2.1.1.2.2.2 k hk
  have hr : 0 ≤ (k : Int) ∧ (k : Int) < ((52 : Nat) : Int) := by omega
  have hr' : 0 ≤ (k : Int) ∧ (k : Int) < ((26 : Nat) : Int) := by omega
  have e1 : pSo (zPof D) k = dS D k := rfl
  have e2 : pLo (zPof D) k = dNL D k := rfl
  have e3 : pMo (zPof D) k = dNM D k := rfl
  unfold tFr tNx at kq
  rw [e1, e2, e3] at kq
  have c7 : zup m 332 62 1 332 7 = ((334 : Nat) : Int) := by rw [zup_nk (by decide)]; exact q7
  have fin : ∀ s : Nat, rNx m (zup (zup m 332 62 1) 332 61 (s : Int)) s 1 := fun s => ⟨zup_same, by rw [zup_nk (by decide), zup_same]; rfl, fun a ha => by rw [zup_nf ha, zup_nf ha], fun j h1 h2 => by rw [zup_nk h1, zup_nk h2]⟩
  simp only [s244_0, s244_1, s244_2, s244_5, s244_6, s244_7, s244_10, s244_11, s244_12, Int.toNat_natCast, true_and, and_true, true_or, or_true, false_or, or_false, zwr_id, zpu_some, zpu_none, reduceIte, Int.reduceLE, Int.reduceLT, Int.reduceEq, Int.reduceNeg, Int.reduceAdd, Int.reduceSub, Int.reduceMul, Int.reduceToNat, Nat.reduceAdd, Nat.reduceLeDiff, Nat.reduceEqDiff, Nat.reduceLT, eq_self, ne_eq, not_false_eq_true, not_true_eq_false, t0, c7, mt334 ht, mn334 hn, hr, and_self, zup_na (show (334 : Nat) ≠ 332 by decide), v1]
  simp only [s244_13]
  by_cases h3 : dS D k = 3
  · rw [if_pos h3] at kq ⊢
    have nm := dNM_v hD h3
    have w1 : zwr (40 + dNM D k) = ((sgS (15 + (dNM D k).toNat) : Nat) : Int) := by
      unfold sgS
      rw [if_neg (by omega), if_pos (by omega), zwr_id (by omega) (by omega)]
      omega
    have c27 : zup m 332 62 1 332 27 = ((344 : Nat) : Int) := by rw [zup_nk (by decide)]; exact q27
    simp only [s244_16, s244_18, s244_19, s244_22, s244_23, s244_24, s244_25, s244_51, s244_54, Int.toNat_natCast, true_and, and_true, true_or, or_true, false_or, or_false, zwr_id, zpu_some, zpu_none, reduceIte, Int.reduceLE, Int.reduceLT, Int.reduceEq, Int.reduceNeg, Int.reduceAdd, Int.reduceSub, Int.reduceMul, Int.reduceToNat, Nat.reduceAdd, Nat.reduceLeDiff, Nat.reduceEqDiff, Nat.reduceLT, eq_self, ne_eq, not_false_eq_true, not_true_eq_false, t0, c27, mt344 ht, mn344 hn, hr', and_self, zup_na (show (344 : Nat) ≠ 332 by decide), v3, w1]
    exact kq _ (fin _)
  · rw [if_neg h3] at kq ⊢
    have c24 : zup m 332 62 1 332 24 = ((341 : Nat) : Int) := by rw [zup_nk (by decide)]; exact q24
    simp only [s244_28, s244_29, s244_32, s244_33, s244_34, Int.toNat_natCast, true_and, and_true, true_or, or_true, false_or, or_false, zwr_id, zpu_some, zpu_none, reduceIte, Int.reduceLE, Int.reduceLT, Int.reduceEq, Int.reduceNeg, Int.reduceAdd, Int.reduceSub, Int.reduceMul, Int.reduceToNat, Nat.reduceAdd, Nat.reduceLeDiff, Nat.reduceEqDiff, Nat.reduceLT, eq_self, ne_eq, not_false_eq_true, not_true_eq_false, t0, c24, mt341 ht, mn341 hn, hr', and_self, zup_na (show (341 : Nat) ≠ 332 by decide), v2]
    simp only [s244_36]
    by_cases hl : dNL D k = -2
    · rw [if_pos hl]
      rw [if_neg (fun q => q hl)] at kq
      simp only [s244_50, s244_51, s244_54, true_and, t0]
      exact kq _ (fin 0)
    · rw [if_neg hl]
      rw [if_pos hl] at kq
      have w1 : zwr (1 + dNL D k) = ((sgS (1 + (dNL D k).toNat) : Nat) : Int) := by
        unfold sgS
        rw [if_pos (by omega), zwr_id (by omega) (by omega)]
        omega
      simp only [s244_39, s244_40, s244_41, s244_44, s244_45, s244_46, s244_47, s244_51, s244_54, Int.toNat_natCast, true_and, and_true, true_or, or_true, false_or, or_false, zwr_id, zpu_some, zpu_none, reduceIte, Int.reduceLE, Int.reduceLT, Int.reduceEq, Int.reduceNeg, Int.reduceAdd, Int.reduceSub, Int.reduceMul, Int.reduceToNat, Nat.reduceAdd, Nat.reduceLeDiff, Nat.reduceEqDiff, Nat.reduceLT, eq_self, ne_eq, not_false_eq_true, not_true_eq_false, t0, c24, mt341 ht, mn341 hn, hr', and_self, zup_na (show (341 : Nat) ≠ 332 by decide), v2, w1]
      exact kq _ (fin _)
/-- what a move leaves behind it -/
def rMvP (m m' : zM) (D : zD) (st k : Nat) : Prop := rNx m m' (sgS (tMv (zPof D) st k).1) (tMv (zPof D) st k).2
theorem c_rgfL {L : zY} {m m0 : zM} {Q : zQ} {D : zD} {st k : Nat} (ht : zMt L) (hn : zMn L) (hD : dOk D) (hx : rMx m D) (hk : k < 26) (hst : 1 ≤ st ∧ st < 15) (h0 : rNx m0 m (sgS (tFr (zPof D) k).1) 1) (kq : ∀ m', rMvP m0 m' D st k → Q none L m') : zwp 245 0 [zA 332, zI ((st - 1 : Nat) : Int), zI (k : Int)] [] L m Q := by
  have t0 := mt332 ht
  obtain ⟨r1, r2, r3, r4⟩ := rk_rng (k := k) hD
  have q7 : m 332 7 = ((334 : Nat) : Int) := mp7 hx.1
  have q24 : m 332 24 = ((341 : Nat) : Int) := mp24 hx.1
  have q25 : m 332 25 = ((342 : Nat) : Int) := mp25 hx.1
  have q27 : m 332 27 = ((344 : Nat) : Int) := mp27 hx.1
  have v1 : m 334 k = dS D k := hx.2.1.1 k hk
  have v2 : m 341 k = dNL D k := hx.2.2.1.1.1 k hk
  have v3 : m 344 k = dNM D k := hx.2.2.1.1.2.2.2 k hk
  have v4 : m 342 k = dTw D k := hx.2.2.1.1.2.1 k hk
  have hr : 0 ≤ (k : Int) ∧ (k : Int) < ((52 : Nat) : Int) := by omega
  have hr' : 0 ≤ (k : Int) ∧ (k : Int) < ((26 : Nat) : Int) := by omega
  have e1 : pSo (zPof D) k = dS D k := rfl
  have e2 : pLo (zPof D) k = dNL D k := rfl
  have e3 : pMo (zPof D) k = dNM D k := rfl
  have e4 : pTw (zPof D) k = dTw D k := rfl
  have et : tMv (zPof D) st k = if dS D k = 3 then (31 + (dNM D k).toNat, 0) else if dS D k ≠ 4 ∧ dNL D k = ((st - 1 : Nat) : Int) ∧ dTw D k ≠ -2 then (1 + (dTw D k).toNat, 0) else tFr (zPof D) k := by unfold tMv; rw [if_pos hst]; rfl
  unfold rMvP at kq
  rw [et] at kq
  simp only [s245_0, s245_1, s245_4, s245_5, s245_6, Int.toNat_natCast, true_and, and_true, true_or, or_true, false_or, or_false, zwr_id, zpu_some, zpu_none, reduceIte, Int.reduceLE, Int.reduceLT, Int.reduceEq, Int.reduceNeg, Int.reduceAdd, Int.reduceSub, Int.reduceMul, Int.reduceToNat, Nat.reduceAdd, Nat.reduceLeDiff, Nat.reduceEqDiff, Nat.reduceLT, eq_self, ne_eq, not_false_eq_true, not_true_eq_false, t0, q7, mt334 ht, mn334 hn, hr, and_self, v1]
  simp only [s245_7]
  by_cases h3 : dS D k = 3
  · rw [if_pos h3] at kq ⊢
    have nm := dNM_v hD h3
    have w1 : zwr (20 + dNM D k) = ((sgS (31 + (dNM D k).toNat) : Nat) : Int) := by
      unfold sgS
      rw [if_neg (by omega), if_neg (by omega), if_pos (by omega), zwr_id (by omega) (by omega)]
      omega
    simp only [s245_10, s245_11, s245_13, s245_14, s245_17, s245_18, s245_19, s245_20, s245_23, s245_24, s245_25, s245_28, s245_79, Int.toNat_natCast, true_and, and_true, true_or, or_true, false_or, or_false, zwr_id, zpu_some, zpu_none, reduceIte, Int.reduceLE, Int.reduceLT, Int.reduceEq, Int.reduceNeg, Int.reduceAdd, Int.reduceSub, Int.reduceMul, Int.reduceToNat, Nat.reduceAdd, Nat.reduceLeDiff, Nat.reduceEqDiff, Nat.reduceLT, eq_self, ne_eq, not_false_eq_true, not_true_eq_false, t0, q27, mt344 ht, mn344 hn, hr', and_self, v3, w1]
    exact kq _ (rNx_tr h0 rNx_2)
  · rw [if_neg h3] at kq ⊢
    have no : ¬ (dS D k ≠ 4 ∧ dNL D k = ((st - 1 : Nat) : Int) ∧ dTw D k ≠ -2) → zwp 245 79 [zA 332, zI ((st - 1 : Nat) : Int), zI (k : Int)] [] L m Q := fun q => by
      rw [if_neg q, tFr_1] at kq
      simp only [s245_79]
      exact kq _ h0
    simp only [s245_31, s245_32, s245_35, s245_36, s245_37, Int.toNat_natCast, true_and, and_true, true_or, or_true, false_or, or_false, zwr_id, zpu_some, zpu_none, reduceIte, Int.reduceLE, Int.reduceLT, Int.reduceEq, Int.reduceNeg, Int.reduceAdd, Int.reduceSub, Int.reduceMul, Int.reduceToNat, Nat.reduceAdd, Nat.reduceLeDiff, Nat.reduceEqDiff, Nat.reduceLT, eq_self, ne_eq, not_false_eq_true, not_true_eq_false, t0, q7, mt334 ht, mn334 hn, hr, and_self, v1]
    simp only [s245_38]
    by_cases h4 : dS D k = 4
    · rw [if_pos h4]; exact no (fun q => q.1 h4)
    · rw [if_neg h4]
      simp only [s245_41, s245_42, s245_45, s245_46, s245_47, Int.toNat_natCast, true_and, and_true, true_or, or_true, false_or, or_false, zwr_id, zpu_some, zpu_none, reduceIte, Int.reduceLE, Int.reduceLT, Int.reduceEq, Int.reduceNeg, Int.reduceAdd, Int.reduceSub, Int.reduceMul, Int.reduceToNat, Nat.reduceAdd, Nat.reduceLeDiff, Nat.reduceEqDiff, Nat.reduceLT, eq_self, ne_eq, not_false_eq_true, not_true_eq_false, t0, q24, mt341 ht, mn341 hn, hr', and_self, v2]
      simp only [s245_48]
      by_cases h5 : dNL D k = ((st - 1 : Nat) : Int)
      · rw [if_pos h5]
        simp only [s245_51, s245_52, s245_55, s245_56, s245_57, Int.toNat_natCast, true_and, and_true, true_or, or_true, false_or, or_false, zwr_id, zpu_some, zpu_none, reduceIte, Int.reduceLE, Int.reduceLT, Int.reduceEq, Int.reduceNeg, Int.reduceAdd, Int.reduceSub, Int.reduceMul, Int.reduceToNat, Nat.reduceAdd, Nat.reduceLeDiff, Nat.reduceEqDiff, Nat.reduceLT, eq_self, ne_eq, not_false_eq_true, not_true_eq_false, t0, q25, mt342 ht, mn342 hn, hr', and_self, v4]
        simp only [s245_59]
        by_cases h6 : dTw D k = -2
        · rw [if_pos h6]; exact no (fun q => q.2.2 h6)
        · rw [if_neg h6]
          rw [if_pos ⟨h4, h5, h6⟩] at kq
          have w1 : zwr (1 + dTw D k) = ((sgS (1 + (dTw D k).toNat) : Nat) : Int) := by
            unfold sgS
            rw [if_pos (by omega), zwr_id (by omega) (by omega)]
            omega
          simp only [s245_62, s245_63, s245_64, s245_65, s245_68, s245_69, s245_70, s245_71, s245_74, s245_75, s245_76, s245_79, Int.toNat_natCast, true_and, and_true, true_or, or_true, false_or, or_false, zwr_id, zpu_some, zpu_none, reduceIte, Int.reduceLE, Int.reduceLT, Int.reduceEq, Int.reduceNeg, Int.reduceAdd, Int.reduceSub, Int.reduceMul, Int.reduceToNat, Nat.reduceAdd, Nat.reduceLeDiff, Nat.reduceEqDiff, Nat.reduceLT, eq_self, ne_eq, not_false_eq_true, not_true_eq_false, t0, q25, mt342 ht, mn342 hn, hr', and_self, v4, w1]
          exact kq _ (rNx_tr h0 rNx_2)
      · rw [if_neg h5]; exact no (fun q => h5 q.2.1)
