theorem zAL_n {m : zM} {a o i : Nat} {ys : List Nat} (h : zAL m a o (ys.map nZ)) (hi : i < ys.length) : m a (o + i) = (ys[i] : Int) := by
  have := zAL_get h (show i < (ys.map nZ).length by rw [List.length_map]; exact hi)
  rw [List.getElem_map] at this
  exact this
theorem cLe_in {D : zD} {k : Nat} : (0 ≤ dS D k ∧ dS D k ≤ 1) ↔ cLe D k = true := by
  unfold cLe
  rw [Bool.or_eq_true, decide_eq_true_iff, decide_eq_true_iff]
  omega
theorem cFi_in {D : zD} {k : Nat} : (1 ≤ dS D k ∧ dS D k ≤ 2) ↔ cFi D k = true := by
  unfold cFi
  rw [Bool.or_eq_true, decide_eq_true_iff, decide_eq_true_iff]
  omega
theorem cVo_in {D : zD} {k : Nat} : dS D k = 3 ↔ cVo D k = true := by
  unfold cVo
  rw [decide_eq_true_iff]
theorem ite_iff {p q : Prop} [Decidable p] [Decidable q] (h : p ↔ q) {a b : Int} : (if p then a else b) = if q then a else b := by
  by_cases hq : q
  · rw [if_pos hq, if_pos (h.mpr hq)]
  · rw [if_neg hq, if_neg (fun z => hq (h.mp z))]
theorem rDd_twin {m : zM} {D : zD} {k : Nat} (h : rDd m D) : rDd (zup (zup m 339 (4 + (dT D).length) (k : Int)) 335 8 (((dT D).length + 1 : Nat) : Int)) (dTwin D k) := by
  obtain ⟨h1, ⟨a1, a2, a3, a4, a5⟩, ⟨b1, b2, b3, b4⟩, h4⟩ := h
  have f5 : ∀ j, j ≠ 8 → zup (zup m 339 (4 + (dT D).length) (k : Int)) 335 8 (((dT D).length + 1 : Nat) : Int) 335 j = m 335 j := fun j hj => by rw [zup_nk hj, zup_na (by decide)]
  have f6 : ∀ a, a ≠ 335 → a ≠ 339 → zup (zup m 339 (4 + (dT D).length) (k : Int)) 335 8 (((dT D).length + 1 : Nat) : Int) a = m a := fun a p1 p2 => by rw [zup_nf p1, zup_nf p2]
  refine ⟨fun j hj => by rw [f6 334 (by decide) (by decide)]; exact h1 j hj, ⟨by rw [f5 5 (by decide)]; exact a1, by rw [f5 6 (by decide)]; exact a2, by rw [f5 7 (by decide)]; exact a3, ?_, by rw [f5 9 (by decide)]; exact a5⟩, ⟨zAL_eq (f6 336 (by decide) (by decide)) b1, zAL_eq (f6 337 (by decide) (by decide)) b2, zAL_eq (f6 338 (by decide) (by decide)) b3, ?_⟩, fun i q hq => by rw [f6 340 (by decide) (by decide)]; exact h4 i q hq⟩
  · rw [zup_same]; show _ = ((dT D ++ [k]).length : Int); rw [List.length_append]; rfl
  · show zAL _ _ _ ((dT D ++ [k]).map nZ)
    have := zAL_push (x := (k : Int)) b4
    rw [List.length_map] at this
    rw [List.map_append]
    exact zAL_eq (zup_nf (by decide)) this
theorem dFull5 {D : zD} (h : (dT D).length ≤ 4) : dFull D 5 = true ↔ (dT D).length = 4 := by
  unfold dFull
  rw [if_neg (by decide), if_neg (by decide), if_pos rfl, decide_eq_true_iff]
  omega
theorem dFull6 {D : zD} (h : (dP D).length ≤ 8) : dFull D 6 = true ↔ (dP D).length = 8 := by
  unfold dFull
  rw [if_neg (by decide), if_neg (by decide), if_neg (by decide), if_pos rfl, decide_eq_true_iff]
  omega
theorem c_rtwin {L : zY} {m : zM} {Q : zQ} {xs : List Int} {S E : Nat} {tk : Int} {D : zD} (hD : dOk D) (ht : zMt L) (hn : zMn L) (hp : zMp m) (hR : rRd m xs S E tk) (he : E ≤ xs.length) (hd : rDd m D)
    (k1 : ∀ f pl, (if dFull D 5 = true then (.inl (3, S) : zPr) else pBody xs 5 E D) = .inl (f, pl) → ∀ m', zMp m' → m' 332 18 = f → m' 332 19 = (pl : Int) → rHf m m' → Q (some (zI 0)) L m')
    (k2 : ∀ D' e', (if dFull D 5 = true then (.inl (3, S) : zPr) else pBody xs 5 E D) = .inr (D', e') → ∀ m', zMp m' → rRd m' xs (tkS xs e') (tkE xs (tkS xs e')) (tkT xs (tkS xs e')) → rDd m' D' → rHf m m' → Q (some (zI 1)) L m') : zwp 176 0 [zA 332, zU, zU] [] L m Q := by
  have t0 := mt332 ht
  have q8 : m 332 8 = ((335 : Nat) : Int) := mp8 hp
  have len4 := hD.2.2.1.2.2.2.1
  have c35 : m 335 8 = ((dT D).length : Int) := hd.2.1.2.2.2.1
  have t5 := mt335 ht
  have n5 := mn335 hn
  have b8 : (8 : Int) < ((10 : Nat) : Int) := by decide
  simp only [s176_0, s176_1, s176_4, s176_6, s176_7, Int.toNat_natCast, true_and, and_true, true_or, or_true, false_or, or_false, zwr_id, zpu_some, zpu_none, reduceIte, Int.reduceLE, Int.reduceLT, Int.reduceEq, Int.reduceNeg, Int.reduceAdd, Int.reduceSub, Int.reduceMul, Int.reduceToNat, Nat.reduceAdd, Nat.reduceLeDiff, Nat.reduceEqDiff, Nat.reduceLT, eq_self, ne_eq, not_false_eq_true, not_true_eq_false, t0, q8, t5, n5, c35, b8]
  simp only [s176_8]
  by_cases hf : (dT D).length = 4
  · rw [if_pos (by omega)]
    rw [if_pos ((dFull5 len4).mpr hf)] at k1
    simp only [s176_11, s176_12, s176_13, s176_16, Int.toNat_natCast, true_and, and_true, true_or, or_true, false_or, or_false, zwr_id, zpu_some, zpu_none, reduceIte, Int.reduceLE, Int.reduceLT, Int.reduceEq, Int.reduceNeg, Int.reduceAdd, Int.reduceSub, Int.reduceMul, Int.reduceToNat, Nat.reduceAdd, Nat.reduceLeDiff, Nat.reduceEqDiff, Nat.reduceLT, eq_self, ne_eq, not_false_eq_true, not_true_eq_false, t0, r_errs t0]
    exact k1 _ _ rfl _ (zMp_rO rO_errs hp) errs_18 (errs_19.trans hR.2.1) (rHf_O rO_errs)
  · rw [if_neg (by omega)]
    rw [if_neg (fun q => hf ((dFull5 len4).mp q))] at k1 k2
    simp only [s176_17, s176_18, t0, true_and]
    refine c_rnext ht hn hp hR he (fun hk m1 p1 g1 o1 => ?_) (fun hk m1 p1 g8 g9 o1 => ?_)
    · have hK := isK_iff.mp hk
      obtain ⟨e1, e2⟩ := kAt_kk hK.2
      have d1 := rDd_O o1 hd
      unfold pBody at k1 k2
      rw [if_neg (by rw [hk]; exact Bool.noConfusion), if_pos rfl] at k1 k2
      have hE1 := tkE_le (tkS_le he).2
      have rh := fun Q' : zQ => r_here (Q := Q') ht hn p1 g1 hK.2
      have rs := fun Q' : zQ => r_rs (Q := Q') ht hn p1 d1 e2
      have gg : ∀ m2 : zM, zMp m2 → m2 332 = m1 332 → m2 333 = m1 333 → ∀ Q' : zQ, zwp 172 0 [zA 332] [] L m2 Q' ↔ Q' (some (zI ((kAt xs (tkS xs E) : Nat) : Int))) L m2 := fun m2 p2 x1 x2 Q' => r_here ht hn p2 (rRd_eq x1 x2 g1) hK.2
      generalize kAt xs (tkS xs E) = kx at *
      have c35' : m1 335 8 = ((dT D).length : Int) := d1.2.1.2.2.2.1
      have q8' : m1 332 8 = ((335 : Nat) : Int) := mp8 p1
      have q12 : m1 332 12 = ((339 : Nat) : Int) := mp12 p1
      have zz : (if 0 ≤ dS D kx ∧ dS D kx ≤ 1 then (1 : Int) else 0) = if cLe D kx = true ∧ kx ∉ (dT D).take 0 then 1 else 0 := ite_iff ⟨fun q => ⟨cLe_in.mp q, by rw [List.take_zero]; exact List.not_mem_nil⟩, fun q => cLe_in.mpr q.1⟩
      simp only [s176_21, s176_24, s176_25, s176_26, s176_27, s176_28, s176_31, s176_34, s176_35, s176_36, s176_39, s176_40, s176_41, Int.toNat_natCast, true_and, and_true, true_or, or_true, false_or, or_false, zwr_id, zpu_some, zpu_none, reduceIte, Int.reduceLE, Int.reduceLT, Int.reduceEq, Int.reduceNeg, Int.reduceAdd, Int.reduceSub, Int.reduceMul, Int.reduceToNat, Nat.reduceAdd, Nat.reduceLeDiff, Nat.reduceEqDiff, Nat.reduceLT, eq_self, ne_eq, not_false_eq_true, not_true_eq_false, t0, rh, rs, r_in, zz]
      refine zfor (n := (dT D).length) (fun i => [zA 332, zI (if cLe D kx = true ∧ kx ∉ (dT D).take i then 1 else 0), zI (i : Nat)]) (fun _ m' => m' = m1) ?_ ?_ 0 m1 (Nat.zero_le _) rfl
      · rintro i m1 hi rfl ih
        have ih := ih _ rfl
        have n1 : ¬ ((dT D).length : Int) ≤ (i : Int) := by omega
        have iv : i < 1000000 := by omega
        have hmem : kx ∉ (dT D).take (i + 1) ↔ kx ∉ (dT D).take i ∧ ¬ (((dT D)[i] : Nat) : Int) = (kx : Int) := by
          rw [take_s hi, List.mem_append, List.mem_singleton]
          constructor
          · intro q
            exact ⟨fun z => q (Or.inl z), fun z => q (Or.inr (by omega))⟩
          · rintro ⟨q1, q2⟩ (z | z)
            · exact q1 z
            · exact q2 (by rw [z])
        have hr : 0 ≤ ((4 + i : Nat) : Int) ∧ ((4 + i : Nat) : Int) < ((8 : Nat) : Int) := by omega
        simp only [s176_42]
        by_cases hv : cLe D kx = true ∧ kx ∉ (dT D).take i
        · rw [if_pos hv]
          simp only [s176_43, s176_44, s176_47, s176_49, s176_50, s176_53, s176_54, s176_57, s176_58, s176_61, s176_62, s176_63, s176_64, s176_65, s176_66, Int.toNat_natCast, true_and, and_true, true_or, or_true, false_or, or_false, zwr_id, zpu_some, zpu_none, reduceIte, Int.reduceLE, Int.reduceLT, Int.reduceEq, Int.reduceNeg, Int.reduceAdd, Int.reduceSub, Int.reduceMul, Int.reduceToNat, Nat.reduceAdd, Nat.reduceLeDiff, Nat.reduceEqDiff, Nat.reduceLT, eq_self, ne_eq, not_false_eq_true, not_true_eq_false, t0, q8', t5, n5, b8, c35', n1, q12, mt339 ht, mn339 hn, and_self, hr, (show zwr (4 + (i : Int)) = ((4 + i : Nat) : Int) from zwn (by omega) (by omega)), zAL_n d1.2.2.1.2.2.2 hi, rh]
          simp only [s176_69]
          by_cases hx : (((dT D)[i] : Nat) : Int) = (kx : Int)
          · rw [if_pos hx]
            rw [if_neg (fun q => (hmem.mp q.2).2 hx)] at ih
            simp only [s176_76, s176_77, s176_78, s176_81, z1 iv]
            exact ih
          · rw [if_neg hx]
            rw [if_pos ⟨hv.1, hmem.mpr ⟨hv.2, hx⟩⟩] at ih
            simp only [s176_72, s176_73, s176_76, s176_77, s176_78, s176_81, z1 iv]
            exact ih
        · rw [if_neg hv]
          rw [if_neg (fun q => hv ⟨q.1, (hmem.mp q.2).1⟩)] at ih
          simp only [s176_43, s176_44, s176_47, s176_49, s176_50, s176_53, s176_54, s176_76, s176_77, s176_78, s176_81, Int.toNat_natCast, true_and, and_true, true_or, or_true, false_or, or_false, zwr_id, zpu_some, zpu_none, reduceIte, Int.reduceLE, Int.reduceLT, Int.reduceEq, Int.reduceNeg, Int.reduceAdd, Int.reduceSub, Int.reduceMul, Int.reduceToNat, Nat.reduceAdd, Nat.reduceLeDiff, Nat.reduceEqDiff, Nat.reduceLT, eq_self, ne_eq, not_false_eq_true, not_true_eq_false, t0, q8', t5, n5, b8, c35', n1, z1 iv]
          exact ih
      · rintro m1 rfl
        rw [List.take_length]
        have n1 : ((dT D).length : Int) ≤ ((dT D).length : Int) := by omega
        simp only [s176_42]
        simp only [s176_43, s176_44, s176_47, s176_49, s176_50, s176_84, Int.toNat_natCast, true_and, and_true, true_or, or_true, false_or, or_false, zwr_id, zpu_some, zpu_none, reduceIte, Int.reduceLE, Int.reduceLT, Int.reduceEq, Int.reduceNeg, Int.reduceAdd, Int.reduceSub, Int.reduceMul, Int.reduceToNat, Nat.reduceAdd, Nat.reduceLeDiff, Nat.reduceEqDiff, Nat.reduceLT, eq_self, ne_eq, not_false_eq_true, not_true_eq_false, t0, q8', t5, n5, b8, c35', n1]
        simp only [s176_85]
        by_cases hv : cLe D kx = true ∧ kx ∉ dT D
        · rw [if_pos hv] at k2 ⊢
          rw [if_neg (by decide)]
          have hrA : 0 ≤ ((4 + (dT D).length : Nat) : Int) ∧ ((4 + (dT D).length : Nat) : Int) < ((8 : Nat) : Int) := by omega
          simp only [s176_94, s176_95, s176_98, s176_99, s176_100, s176_103, s176_105, s176_106, s176_107, s176_108, s176_111, s176_112, s176_113, s176_116, s176_118, s176_119, s176_120, s176_121, s176_122, s176_123, s176_124, Int.toNat_natCast, true_and, and_true, true_or, or_true, false_or, or_false, zwr_id, zpu_some, zpu_none, reduceIte, Int.reduceLE, Int.reduceLT, Int.reduceEq, Int.reduceNeg, Int.reduceAdd, Int.reduceSub, Int.reduceMul, Int.reduceToNat, Nat.reduceAdd, Nat.reduceLeDiff, Nat.reduceEqDiff, Nat.reduceLT, eq_self, ne_eq, not_false_eq_true, not_true_eq_false, t0, q8', q12, t5, n5, b8, c35', rh, mt339 ht, mn339 hn, hrA, (show zwr (4 + ((dT D).length : Int)) = ((4 + (dT D).length : Nat) : Int) from zwn (by omega) (by omega)), (show zwr (((dT D).length : Int) + 1) = (((dT D).length + 1 : Nat) : Int) from zwn (by omega) (by omega)), and_self, zup_na (show (332 : Nat) ≠ 339 by decide), zup_na (show (335 : Nat) ≠ 339 by decide)]
          have d2 := rDd_twin (k := kx) d1
          have ho : rHf m1 (zup (zup m1 339 (4 + (dT D).length) (kx : Int)) 335 8 (((dT D).length + 1 : Nat) : Int)) := rHf_tr (rHf_up (by omega)) (rHf_up (by omega))
          refine c_rgo ht hn (zMp_Hf ho p1) (rRd_eq (by rw [zup_nf (by decide), zup_nf (by decide)]) (by rw [zup_nf (by decide), zup_nf (by decide)]) g1) hE1.2.1 (fun m2 p2 g2 f1 f2 => ?_)
          simp only [s176_127, s176_128, Int.toNat_natCast, true_and, and_true, true_or, or_true, false_or, or_false, zwr_id, zpu_some, zpu_none, reduceIte, Int.reduceLE, Int.reduceLT, Int.reduceEq, Int.reduceNeg, Int.reduceAdd, Int.reduceSub, Int.reduceMul, Int.reduceToNat, Nat.reduceAdd, Nat.reduceLeDiff, Nat.reduceEqDiff, Nat.reduceLT, eq_self, ne_eq, not_false_eq_true, not_true_eq_false]
          exact k2 _ _ rfl m2 p2 g2 (rDd_O (rO_go f1 f2) d2) (rHf_tr (rHf_O o1) (rHf_tr ho (rHf_O (rO_go f1 f2))))
        · rw [if_neg hv] at k1 ⊢
          rw [if_pos rfl]
          simp only [s176_88, s176_89, s176_90, s176_93, Int.toNat_natCast, true_and, and_true, true_or, or_true, false_or, or_false, zwr_id, zpu_some, zpu_none, reduceIte, Int.reduceLE, Int.reduceLT, Int.reduceEq, Int.reduceNeg, Int.reduceAdd, Int.reduceSub, Int.reduceMul, Int.reduceToNat, Nat.reduceAdd, Nat.reduceLeDiff, Nat.reduceEqDiff, Nat.reduceLT, eq_self, ne_eq, not_false_eq_true, not_true_eq_false, t0, r_errs t0]
          exact k1 _ _ rfl _ (zMp_rO rO_errs p1) errs_18 (errs_19.trans g1.2.1) (rHf_O (rO_tr o1 rO_errs))
    · simp only [s176_21, s176_24, s176_25, Int.toNat_natCast, true_and, and_true, true_or, or_true, false_or, or_false, zwr_id, zpu_some, zpu_none, reduceIte, Int.reduceLE, Int.reduceLT, Int.reduceEq, Int.reduceNeg, Int.reduceAdd, Int.reduceSub, Int.reduceMul, Int.reduceToNat, Nat.reduceAdd, Nat.reduceLeDiff, Nat.reduceEqDiff, Nat.reduceLT, eq_self, ne_eq, not_false_eq_true, not_true_eq_false]
      unfold pBody at k1
      rw [if_pos hk] at k1
      exact k1 _ _ rfl m1 p1 g8 g9 (rHf_O o1)
