theorem x_rword {L : zY} {m : zM} {Q : zQ} {xs : List Int} {s j : Nat} (ht : zMt L) (hn : zMn L) (hp : zMp m) (hR : rRd m xs s (tkE xs s) (tkT xs s)) (hs : s ≤ xs.length) (hj : j < 14) : zwp 170 0 [zA 332, zS 0 j, zU] [] L m Q ↔ Q (some (zI (if (xs.drop s).take (tkE xs s - s) = zwords.getD j [] then 1 else 0))) L m := zwp_det (c_rword ht hn hp hR hs hj ⟨rfl, rfl, rfl⟩)
theorem c_rline {L : zY} {m : zM} {Q : zQ} {xs : List Int} {e : Nat} {D : zD} (hD : dOk D) (ht : zMt L) (hn : zMn L) (hp : zMp m) (hR : rRd m xs (tkS xs e) (tkE xs (tkS xs e)) (tkT xs (tkS xs e))) (he : e ≤ xs.length) (hd : rDd m D)
    (k1 : ∀ f pl, pLine xs e D = .inl (f, pl) → ∀ m', zMp m' → m' 332 18 = f → m' 332 19 = (pl : Int) → rHf m m' → Q (some (zI 0)) L m')
    (k2 : ∀ D' e', pLine xs e D = .inr (D', e') → ∀ m', zMp m' → rRd m' xs (tkS xs e') (tkE xs (tkS xs e')) (tkT xs (tkS xs e')) → rDd m' D' → rHf m m' → Q (some (zI 1)) L m') : zwp 179 0 [zA 332] [] L m Q := by
  have t0 := mt332 ht
  have hs := tkS_le he
  have hE := tkE_le hs.2
  have xw := fun (Q' : zQ) (j : Nat) (hj : j < 14) => x_rword (Q := Q') ht hn hp hR hs.2 hj
  have ew : (xs.drop (tkS xs e)).take (tkE xs (tkS xs e) - tkS xs e) = pWd xs e := rfl
  rw [ew] at xw
  clear ew
  unfold pLine at k1 k2
  have hk : kwd (pWd xs e) = if pWd xs e = zwords.getD 7 [] then 0 else if pWd xs e = zwords.getD 8 [] then 1 else if pWd xs e = zwords.getD 9 [] then 2 else if pWd xs e = zwords.getD 10 [] then 3 else if pWd xs e = zwords.getD 11 [] then 4 else if pWd xs e = zwords.getD 12 [] then 5 else if pWd xs e = zwords.getD 13 [] then 6 else -1 := rfl
  rw [hk] at k1 k2
  clear hk
  generalize pWd xs e = w at *
  simp only [s179_0, s179_1, s179_3, zpu_some, t0, true_and, fun Q' => xw Q' 7 (by decide)]
  simp only [s179_6]
  by_cases h0 : w = zwords.getD 7 []
  · rw [if_pos h0] at k1 k2
    rw [if_neg (by decide)] at k1 k2
    rw [if_pos h0, if_neg (by decide)]
    simp only [s179_9, s179_10, s179_11, t0, true_and]
    refine c_rkey ⟨by decide, by decide⟩ hD ht hn hp hR hE.2.1 hd (fun f pl q m' a1 a2 a3 a4 => ?_) (fun D' e' q m' a1 a2 a3 a4 => ?_)
    · simp only [s179_14, Int.toNat_natCast, true_and, and_true, true_or, or_true, false_or, or_false, zwr_id, zpu_some, zpu_none, reduceIte, Int.reduceLE, Int.reduceLT, Int.reduceEq, Int.reduceNeg, Int.reduceAdd, Int.reduceSub, Int.reduceMul, Int.reduceToNat, Nat.reduceAdd, Nat.reduceLeDiff, Nat.reduceEqDiff, Nat.reduceLT, eq_self, ne_eq, not_false_eq_true, not_true_eq_false]; exact k1 f pl q m' a1 a2 a3 a4
    · simp only [s179_14, Int.toNat_natCast, true_and, and_true, true_or, or_true, false_or, or_false, zwr_id, zpu_some, zpu_none, reduceIte, Int.reduceLE, Int.reduceLT, Int.reduceEq, Int.reduceNeg, Int.reduceAdd, Int.reduceSub, Int.reduceMul, Int.reduceToNat, Nat.reduceAdd, Nat.reduceLeDiff, Nat.reduceEqDiff, Nat.reduceLT, eq_self, ne_eq, not_false_eq_true, not_true_eq_false]; exact k2 D' e' q m' a1 a2 a3 a4
  rw [if_neg h0] at k1 k2
  rw [if_neg h0, if_pos rfl]
  simp only [s179_15, s179_16, s179_18, zpu_some, t0, true_and, fun Q' => xw Q' 8 (by decide)]
  simp only [s179_21]
  by_cases h1 : w = zwords.getD 8 []
  · rw [if_pos h1] at k1 k2
    rw [if_neg (by decide)] at k1 k2
    rw [if_pos h1, if_neg (by decide)]
    simp only [s179_24, s179_25, s179_26, t0, true_and]
    refine c_rkey ⟨by decide, by decide⟩ hD ht hn hp hR hE.2.1 hd (fun f pl q m' a1 a2 a3 a4 => ?_) (fun D' e' q m' a1 a2 a3 a4 => ?_)
    · simp only [s179_29, Int.toNat_natCast, true_and, and_true, true_or, or_true, false_or, or_false, zwr_id, zpu_some, zpu_none, reduceIte, Int.reduceLE, Int.reduceLT, Int.reduceEq, Int.reduceNeg, Int.reduceAdd, Int.reduceSub, Int.reduceMul, Int.reduceToNat, Nat.reduceAdd, Nat.reduceLeDiff, Nat.reduceEqDiff, Nat.reduceLT, eq_self, ne_eq, not_false_eq_true, not_true_eq_false]; exact k1 f pl q m' a1 a2 a3 a4
    · simp only [s179_29, Int.toNat_natCast, true_and, and_true, true_or, or_true, false_or, or_false, zwr_id, zpu_some, zpu_none, reduceIte, Int.reduceLE, Int.reduceLT, Int.reduceEq, Int.reduceNeg, Int.reduceAdd, Int.reduceSub, Int.reduceMul, Int.reduceToNat, Nat.reduceAdd, Nat.reduceLeDiff, Nat.reduceEqDiff, Nat.reduceLT, eq_self, ne_eq, not_false_eq_true, not_true_eq_false]; exact k2 D' e' q m' a1 a2 a3 a4
  rw [if_neg h1] at k1 k2
  rw [if_neg h1, if_pos rfl]
  simp only [s179_30, s179_31, s179_33, zpu_some, t0, true_and, fun Q' => xw Q' 9 (by decide)]
  simp only [s179_36]
  by_cases h2 : w = zwords.getD 9 []
  · rw [if_pos h2] at k1 k2
    rw [if_neg (by decide)] at k1 k2
    rw [if_pos h2, if_neg (by decide)]
    simp only [s179_39, s179_40, s179_41, t0, true_and]
    refine c_rkey ⟨by decide, by decide⟩ hD ht hn hp hR hE.2.1 hd (fun f pl q m' a1 a2 a3 a4 => ?_) (fun D' e' q m' a1 a2 a3 a4 => ?_)
    · simp only [s179_44, Int.toNat_natCast, true_and, and_true, true_or, or_true, false_or, or_false, zwr_id, zpu_some, zpu_none, reduceIte, Int.reduceLE, Int.reduceLT, Int.reduceEq, Int.reduceNeg, Int.reduceAdd, Int.reduceSub, Int.reduceMul, Int.reduceToNat, Nat.reduceAdd, Nat.reduceLeDiff, Nat.reduceEqDiff, Nat.reduceLT, eq_self, ne_eq, not_false_eq_true, not_true_eq_false]; exact k1 f pl q m' a1 a2 a3 a4
    · simp only [s179_44, Int.toNat_natCast, true_and, and_true, true_or, or_true, false_or, or_false, zwr_id, zpu_some, zpu_none, reduceIte, Int.reduceLE, Int.reduceLT, Int.reduceEq, Int.reduceNeg, Int.reduceAdd, Int.reduceSub, Int.reduceMul, Int.reduceToNat, Nat.reduceAdd, Nat.reduceLeDiff, Nat.reduceEqDiff, Nat.reduceLT, eq_self, ne_eq, not_false_eq_true, not_true_eq_false]; exact k2 D' e' q m' a1 a2 a3 a4
  rw [if_neg h2] at k1 k2
  rw [if_neg h2, if_pos rfl]
  simp only [s179_45, s179_46, s179_48, zpu_some, t0, true_and, fun Q' => xw Q' 10 (by decide)]
  simp only [s179_51]
  by_cases h3 : w = zwords.getD 10 []
  · rw [if_pos h3] at k1 k2
    rw [if_neg (by decide)] at k1 k2
    rw [if_pos h3, if_neg (by decide)]
    simp only [s179_54, s179_55, s179_56, t0, true_and]
    refine c_rkey ⟨by decide, by decide⟩ hD ht hn hp hR hE.2.1 hd (fun f pl q m' a1 a2 a3 a4 => ?_) (fun D' e' q m' a1 a2 a3 a4 => ?_)
    · simp only [s179_59, Int.toNat_natCast, true_and, and_true, true_or, or_true, false_or, or_false, zwr_id, zpu_some, zpu_none, reduceIte, Int.reduceLE, Int.reduceLT, Int.reduceEq, Int.reduceNeg, Int.reduceAdd, Int.reduceSub, Int.reduceMul, Int.reduceToNat, Nat.reduceAdd, Nat.reduceLeDiff, Nat.reduceEqDiff, Nat.reduceLT, eq_self, ne_eq, not_false_eq_true, not_true_eq_false]; exact k1 f pl q m' a1 a2 a3 a4
    · simp only [s179_59, Int.toNat_natCast, true_and, and_true, true_or, or_true, false_or, or_false, zwr_id, zpu_some, zpu_none, reduceIte, Int.reduceLE, Int.reduceLT, Int.reduceEq, Int.reduceNeg, Int.reduceAdd, Int.reduceSub, Int.reduceMul, Int.reduceToNat, Nat.reduceAdd, Nat.reduceLeDiff, Nat.reduceEqDiff, Nat.reduceLT, eq_self, ne_eq, not_false_eq_true, not_true_eq_false]; exact k2 D' e' q m' a1 a2 a3 a4
  rw [if_neg h3] at k1 k2
  rw [if_neg h3, if_pos rfl]
  simp only [s179_60, s179_61, s179_63, zpu_some, t0, true_and, fun Q' => xw Q' 11 (by decide)]
  simp only [s179_66]
  by_cases h4 : w = zwords.getD 11 []
  · rw [if_pos h4] at k1 k2
    rw [if_neg (by decide)] at k1 k2
    rw [if_pos h4, if_neg (by decide)]
    simp only [s179_69, s179_70, s179_71, t0, true_and]
    refine c_rkey ⟨by decide, by decide⟩ hD ht hn hp hR hE.2.1 hd (fun f pl q m' a1 a2 a3 a4 => ?_) (fun D' e' q m' a1 a2 a3 a4 => ?_)
    · simp only [s179_74, Int.toNat_natCast, true_and, and_true, true_or, or_true, false_or, or_false, zwr_id, zpu_some, zpu_none, reduceIte, Int.reduceLE, Int.reduceLT, Int.reduceEq, Int.reduceNeg, Int.reduceAdd, Int.reduceSub, Int.reduceMul, Int.reduceToNat, Nat.reduceAdd, Nat.reduceLeDiff, Nat.reduceEqDiff, Nat.reduceLT, eq_self, ne_eq, not_false_eq_true, not_true_eq_false]; exact k1 f pl q m' a1 a2 a3 a4
    · simp only [s179_74, Int.toNat_natCast, true_and, and_true, true_or, or_true, false_or, or_false, zwr_id, zpu_some, zpu_none, reduceIte, Int.reduceLE, Int.reduceLT, Int.reduceEq, Int.reduceNeg, Int.reduceAdd, Int.reduceSub, Int.reduceMul, Int.reduceToNat, Nat.reduceAdd, Nat.reduceLeDiff, Nat.reduceEqDiff, Nat.reduceLT, eq_self, ne_eq, not_false_eq_true, not_true_eq_false]; exact k2 D' e' q m' a1 a2 a3 a4
  rw [if_neg h4] at k1 k2
  rw [if_neg h4, if_pos rfl]
  simp only [s179_75, s179_76, s179_78, zpu_some, t0, true_and, fun Q' => xw Q' 12 (by decide)]
  simp only [s179_81]
  by_cases h5 : w = zwords.getD 12 []
  · rw [if_pos h5] at k1 k2
    rw [if_neg (by decide)] at k1 k2
    rw [if_pos h5, if_neg (by decide)]
    simp only [s179_84, s179_85, t0, true_and]
    refine c_rtwin hD ht hn hp hR hE.2.1 hd (fun f pl q m' a1 a2 a3 a4 => ?_) (fun D' e' q m' a1 a2 a3 a4 => ?_)
    · simp only [s179_88, s179_112, Int.toNat_natCast, true_and, and_true, true_or, or_true, false_or, or_false, zwr_id, zpu_some, zpu_none, reduceIte, Int.reduceLE, Int.reduceLT, Int.reduceEq, Int.reduceNeg, Int.reduceAdd, Int.reduceSub, Int.reduceMul, Int.reduceToNat, Nat.reduceAdd, Nat.reduceLeDiff, Nat.reduceEqDiff, Nat.reduceLT, eq_self, ne_eq, not_false_eq_true, not_true_eq_false]; exact k1 f pl q m' a1 a2 a3 a4
    · simp only [s179_88, s179_112, Int.toNat_natCast, true_and, and_true, true_or, or_true, false_or, or_false, zwr_id, zpu_some, zpu_none, reduceIte, Int.reduceLE, Int.reduceLT, Int.reduceEq, Int.reduceNeg, Int.reduceAdd, Int.reduceSub, Int.reduceMul, Int.reduceToNat, Nat.reduceAdd, Nat.reduceLeDiff, Nat.reduceEqDiff, Nat.reduceLT, eq_self, ne_eq, not_false_eq_true, not_true_eq_false]; exact k2 D' e' q m' a1 a2 a3 a4
  rw [if_neg h5] at k1 k2
  rw [if_neg h5, if_pos rfl]
  simp only [s179_91, s179_92, s179_94, zpu_some, t0, true_and, fun Q' => xw Q' 13 (by decide)]
  simp only [s179_97]
  by_cases h6 : w = zwords.getD 13 []
  · rw [if_pos h6] at k1 k2
    rw [if_neg (by decide)] at k1 k2
    rw [if_pos h6, if_neg (by decide)]
    simp only [s179_100, s179_101, t0, true_and]
    refine c_rpair hD ht hn hp hR hE.2.1 hd (fun f pl q m' a1 a2 a3 a4 => ?_) (fun D' e' q m' a1 a2 a3 a4 => ?_)
    · simp only [s179_104, s179_112, Int.toNat_natCast, true_and, and_true, true_or, or_true, false_or, or_false, zwr_id, zpu_some, zpu_none, reduceIte, Int.reduceLE, Int.reduceLT, Int.reduceEq, Int.reduceNeg, Int.reduceAdd, Int.reduceSub, Int.reduceMul, Int.reduceToNat, Nat.reduceAdd, Nat.reduceLeDiff, Nat.reduceEqDiff, Nat.reduceLT, eq_self, ne_eq, not_false_eq_true, not_true_eq_false]; exact k1 f pl q m' a1 a2 a3 a4
    · simp only [s179_104, s179_112, Int.toNat_natCast, true_and, and_true, true_or, or_true, false_or, or_false, zwr_id, zpu_some, zpu_none, reduceIte, Int.reduceLE, Int.reduceLT, Int.reduceEq, Int.reduceNeg, Int.reduceAdd, Int.reduceSub, Int.reduceMul, Int.reduceToNat, Nat.reduceAdd, Nat.reduceLeDiff, Nat.reduceEqDiff, Nat.reduceLT, eq_self, ne_eq, not_false_eq_true, not_true_eq_false]; exact k2 D' e' q m' a1 a2 a3 a4
  rw [if_neg h6] at k1
  rw [if_pos rfl] at k1
  rw [if_neg h6, if_pos rfl]
  simp only [s179_107, s179_108, s179_109, s179_112, Int.toNat_natCast, true_and, and_true, true_or, or_true, false_or, or_false, zwr_id, zpu_some, zpu_none, reduceIte, Int.reduceLE, Int.reduceLT, Int.reduceEq, Int.reduceNeg, Int.reduceAdd, Int.reduceSub, Int.reduceMul, Int.reduceToNat, Nat.reduceAdd, Nat.reduceLeDiff, Nat.reduceEqDiff, Nat.reduceLT, eq_self, ne_eq, not_false_eq_true, not_true_eq_false, t0, r_errs t0]
  exact k1 _ _ rfl _ (zMp_rO rO_errs hp) errs_18 (errs_19.trans hR.2.1) (rHf_O rO_errs)
theorem tkT_59 {xs : List Int} {s : Nat} : tkT xs s = 59 ↔ s < xs.length ∧ xs.getD s 0 = 59 := by
  unfold tkT
  by_cases h1 : xs.length ≤ s
  · rw [if_pos h1]; constructor
    · intro h; exact absurd h (by decide)
    · intro h; omega
  · rw [if_neg h1]
    by_cases h2 : isL (xs.getD s 0) = true
    · rw [if_pos h2]
      have := isL_iff.mp h2
      constructor
      · intro h
        by_cases q : 5 < tkE xs s - s
        · rw [if_pos q] at h; exact absurd h (by decide)
        · rw [if_neg q] at h; exact absurd h (by decide)
      · intro h; omega
    · rw [if_neg h2]
      by_cases h3 : xs.getD s 0 = 59
      · rw [if_pos h3]; exact ⟨fun _ => ⟨by omega, h3⟩, fun _ => rfl⟩
      · rw [if_neg h3]; exact ⟨fun h => absurd h (by decide), fun h => absurd h.2 h3⟩
theorem tkT_0 {xs : List Int} {s : Nat} : tkT xs s = 0 ↔ xs.length ≤ s := by
  unfold tkT
  by_cases h1 : xs.length ≤ s
  · rw [if_pos h1]; exact ⟨fun _ => h1, fun _ => rfl⟩
  · rw [if_neg h1]
    refine ⟨fun h => ?_, fun h => absurd h h1⟩
    by_cases h2 : isL (xs.getD s 0) = true
    · rw [if_pos h2] at h
      by_cases q : 5 < tkE xs s - s
      · rw [if_pos q] at h; exact absurd h (by decide)
      · rw [if_neg q] at h; exact absurd h (by decide)
    · rw [if_neg h2] at h
      by_cases h3 : xs.getD s 0 = 59
      · rw [if_pos h3] at h; exact absurd h (by decide)
      · rw [if_neg h3] at h; exact absurd h (by decide)
/-- what is left behind a LINE -/
def pCont (xs : List Int) (fuel e : Nat) (D : zD) : (Int × Nat) ⊕ zD := if xs.length ≤ tkS xs e then (if dLacks D = true then .inl (4, tkS xs e) else .inr D) else if xs.getD (tkS xs e) 0 = 59 then pAll xs fuel (tkE xs (tkS xs e)) D else .inl (1, tkS xs e)
