theorem c_rlacks {L : zY} {m : zM} {Q : zQ} {D : zD} {S : Nat} {n : Int} {l2 l3 : zV} (hD : dOk D) (ht : zMt L) (hn : zMn L) (hp : zMp m) (h15 : m 332 15 = (S : Int)) (hd : rDd m D)
    (k1 : dLacks D = true → ∀ m', zMp m' → m' 332 18 = 4 → m' 332 19 = (S : Int) → rHf m m' → Q (some (zI 0)) L m')
    (k2 : dLacks D = false → Q (some (zI 1)) L m) : zwp 180 104 [zA 332, zI n, l2, l3] [] L m Q := by
  have t0 := mt332 ht
  have q8 : m 332 8 = ((335 : Nat) : Int) := mp8 hp
  have q9 : m 332 9 = ((336 : Nat) : Int) := mp9 hp
  have t5 := mt335 ht
  have n5 := mn335 hn
  have b5 : (5 : Int) < ((10 : Nat) : Int) := by decide
  have b6 : (6 : Int) < ((10 : Nat) : Int) := by decide
  have c5 : m 335 5 = ((dC D).length : Int) := hd.2.1.1
  have c6 : m 335 6 = ((dV D).length : Int) := hd.2.1.2.1
  have len := hD.2.2.1.1
  simp only [s180_104, s180_105, s180_106, s180_107]
  have v0 : (0 : Int) = if ((dC D).take 0).filter (cLe D) = [] then 0 else 1 := by rw [if_pos (by rw [List.take_zero]; rfl)]
  have go : zwp 180 108 [zA 332, zI n, zI (if ((dC D).take 0).filter (cLe D) = [] then 0 else 1), zI ((0 : Nat) : Int)] [] L m Q := by
    refine zfor (n := (dC D).length) (fun i => [zA 332, zI n, zI (if ((dC D).take i).filter (cLe D) = [] then 0 else 1), zI (i : Nat)]) (fun _ m' => m' = m) ?_ ?_ 0 m (Nat.zero_le _) rfl
    · rintro i m hi rfl ih
      have ih := ih _ rfl
      have n1 : ¬ ((dC D).length : Int) ≤ (i : Int) := by omega
      have iv : i < 1000000 := by omega
      have hk := hD.1.1 _ (List.getElem_mem hi)
      have hr : 0 ≤ ((10 + i : Nat) : Int) ∧ ((10 + i : Nat) : Int) < ((20 : Nat) : Int) := by omega
      rw [fil_s hi] at ih
      have gt := zAL_n hd.2.2.1.1 hi
      have rs := fun Q' : zQ => r_rs (Q := Q') ht hn hp hd hk.1
      have hc := cLe_in (D := D) (k := (dC D)[i])
      simp only [s180_108]
      simp only [s180_109, s180_110, s180_113, s180_114, s180_115, s180_118, Int.toNat_natCast, true_and, and_true, true_or, or_true, false_or, or_false, zwr_id, zpu_some, zpu_none, reduceIte, Int.reduceLE, Int.reduceLT, Int.reduceEq, Int.reduceNeg, Int.reduceAdd, Int.reduceSub, Int.reduceMul, Int.reduceToNat, Nat.reduceAdd, Nat.reduceLeDiff, Nat.reduceEqDiff, Nat.reduceLT, eq_self, ne_eq, not_false_eq_true, not_true_eq_false, t0, q8, t5, n5, b5, c5, n1]
      simp only [s180_119]
      by_cases hv : ((dC D).take i).filter (cLe D) = []
      · rw [if_pos hv, if_pos rfl]
        simp only [s180_122, s180_123, s180_124, s180_127, s180_129, s180_130, s180_131, s180_132, s180_135, Int.toNat_natCast, true_and, and_true, true_or, or_true, false_or, or_false, zwr_id, zpu_some, zpu_none, reduceIte, Int.reduceLE, Int.reduceLT, Int.reduceEq, Int.reduceNeg, Int.reduceAdd, Int.reduceSub, Int.reduceMul, Int.reduceToNat, Nat.reduceAdd, Nat.reduceLeDiff, Nat.reduceEqDiff, Nat.reduceLT, eq_self, ne_eq, not_false_eq_true, not_true_eq_false, t0, q9, mt336 ht, mn336 hn, hr, and_self, (show zwr (10 + (i : Int)) = ((10 + i : Nat) : Int) from zwn (by omega) (by omega)), gt, rs]
        simp only [s180_136]
        by_cases h2 : dS D (dC D)[i] = 2
        · rw [if_pos h2]
          rw [hv, if_neg (show ¬ cLe D (dC D)[i] = true from fun q => by have := hc.mpr q; omega), List.append_nil, if_pos rfl] at ih
          simp only [s180_143, s180_144, s180_145, s180_148, z1 iv]
          exact ih
        · rw [if_neg h2]
          rw [hv, if_pos (show cLe D (dC D)[i] = true from hc.mp (by omega)), if_neg (by simp)] at ih
          simp only [s180_139, s180_140, s180_143, s180_144, s180_145, s180_148, z1 iv]
          exact ih
      · rw [if_neg hv, if_neg (by decide)]
        rw [if_neg (fun q => hv (List.append_eq_nil_iff.mp q).1)] at ih
        simp only [s180_139, s180_140, s180_143, s180_144, s180_145, s180_148, z1 iv]
        exact ih
    · rintro m rfl
      rw [List.take_length]
      have n1 : ((dC D).length : Int) ≤ ((dC D).length : Int) := by omega
      have bad : dLacks D = true → zwp 180 165 [zA 332, zI n, zI (if (dC D).filter (cLe D) = [] then 0 else 1), zI ((dC D).length : Nat)] [] L m Q := fun q => by
        simp only [s180_165, s180_166, s180_167, s180_170, s180_173, s180_174, s180_177, s180_178, Int.toNat_natCast, true_and, and_true, true_or, or_true, false_or, or_false, zwr_id, zpu_some, zpu_none, reduceIte, Int.reduceLE, Int.reduceLT, Int.reduceEq, Int.reduceNeg, Int.reduceAdd, Int.reduceSub, Int.reduceMul, Int.reduceToNat, Nat.reduceAdd, Nat.reduceLeDiff, Nat.reduceEqDiff, Nat.reduceLT, eq_self, ne_eq, not_false_eq_true, not_true_eq_false, t0, r_errs t0]
        exact k1 q _ (zMp_rO rO_errs hp) errs_18 (errs_19.trans h15) (rHf_O rO_errs)
      simp only [s180_108]
      simp only [s180_109, s180_110, s180_113, s180_114, s180_115, s180_151, Int.toNat_natCast, true_and, and_true, true_or, or_true, false_or, or_false, zwr_id, zpu_some, zpu_none, reduceIte, Int.reduceLE, Int.reduceLT, Int.reduceEq, Int.reduceNeg, Int.reduceAdd, Int.reduceSub, Int.reduceMul, Int.reduceToNat, Nat.reduceAdd, Nat.reduceLeDiff, Nat.reduceEqDiff, Nat.reduceLT, eq_self, ne_eq, not_false_eq_true, not_true_eq_false, t0, q8, t5, n5, b5, c5, n1]
      simp only [s180_152]
      have el : dLe D = (dC D).filter (cLe D) := rfl
      by_cases hv : (dC D).filter (cLe D) = []
      · rw [if_pos hv] at bad ⊢
        rw [if_pos rfl]
        exact bad (by unfold dLacks; rw [el, hv]; rfl)
      · rw [if_neg hv] at bad ⊢
        rw [if_neg (by decide)]
        simp only [s180_155, s180_156, s180_159, s180_161, Int.toNat_natCast, true_and, and_true, true_or, or_true, false_or, or_false, zwr_id, zpu_some, zpu_none, reduceIte, Int.reduceLE, Int.reduceLT, Int.reduceEq, Int.reduceNeg, Int.reduceAdd, Int.reduceSub, Int.reduceMul, Int.reduceToNat, Nat.reduceAdd, Nat.reduceLeDiff, Nat.reduceEqDiff, Nat.reduceLT, eq_self, ne_eq, not_false_eq_true, not_true_eq_false, t0, q8, t5, n5, b6, c6]
        simp only [s180_162]
        by_cases hV : dV D = []
        · rw [if_neg (by rw [hV]; decide)]
          exact bad (by unfold dLacks; rw [hV]; simp)
        · have := List.length_pos_iff.mpr hV
          rw [if_pos (by omega)]
          simp only [s180_173, s180_174, s180_178, Int.toNat_natCast, true_and, and_true, true_or, or_true, false_or, or_false, zwr_id, zpu_some, zpu_none, reduceIte, Int.reduceLE, Int.reduceLT, Int.reduceEq, Int.reduceNeg, Int.reduceAdd, Int.reduceSub, Int.reduceMul, Int.reduceToNat, Nat.reduceAdd, Nat.reduceLeDiff, Nat.reduceEqDiff, Nat.reduceLT, eq_self, ne_eq, not_false_eq_true, not_true_eq_false]
          refine k2 ?_
          unfold dLacks
          rw [el, List.isEmpty_eq_false_iff.mpr hv, List.isEmpty_eq_false_iff.mpr hV]
          rfl
  rw [← v0] at go
  exact go
theorem c_rallT {L : zY} {Q : zQ} {xs : List Int} {n : Int} {l2 l3 : zV} (ht : zMt L) (hn : zMn L) : ∀ (fuel e : Nat) (D : zD) (m : zM), xs.length - e ≤ fuel → e ≤ xs.length → dOk D → zMp m → rRd m xs (tkS xs e) (tkE xs (tkS xs e)) (tkT xs (tkS xs e)) → rDd m D →
    (∀ f pl, pCont xs fuel e D = .inl (f, pl) → ∀ m', zMp m' → m' 332 18 = f → m' 332 19 = (pl : Int) → rHf m m' → Q (some (zI 0)) L m') →
    (∀ D', pCont xs fuel e D = .inr D' → ∀ m', zMp m' → rDd m' D' → dOk D' → rHf m m' → Q (some (zI 1)) L m') → zwp 180 69 [zA 332, zI n, l2, l3] [] L m Q := by
  have t0 := mt332 ht
  intro fuel
  induction fuel with
  | zero =>
    intro e D m hf he hD hp hR hd k1 k2
    have hs := tkS_le he
    have hle : xs.length ≤ tkS xs e := by omega
    have h17 := hR.2.2.2.1
    rw [tkT_0.mpr hle] at h17
    simp only [s180_69, s180_70, s180_73, s180_75, s180_91, s180_92, s180_95, Int.toNat_natCast, true_and, and_true, true_or, or_true, false_or, or_false, zwr_id, zpu_some, zpu_none, reduceIte, Int.reduceLE, Int.reduceLT, Int.reduceEq, Int.reduceNeg, Int.reduceAdd, Int.reduceSub, Int.reduceMul, Int.reduceToNat, Nat.reduceAdd, Nat.reduceLeDiff, Nat.reduceEqDiff, Nat.reduceLT, eq_self, ne_eq, not_false_eq_true, not_true_eq_false, t0, h17]
    unfold pCont at k1 k2
    rw [if_pos hle] at k1 k2
    refine c_rlacks hD ht hn hp hR.2.1 hd (fun q m' a1 a2 a3 a4 => ?_) (fun q => ?_)
    · rw [if_pos q] at k1; exact k1 _ _ rfl m' a1 a2 a3 a4
    · rw [if_neg (by rw [q]; exact Bool.noConfusion)] at k2; exact k2 _ rfl m hp hd hD rHf_rf
  | succ fuel ih =>
    intro e D m hf he hD hp hR hd k1 k2
    have hs := tkS_le he
    have hE := tkE_le hs.2
    have h17 := hR.2.2.2.1
    unfold pCont at k1 k2
    by_cases hle : xs.length ≤ tkS xs e
    · rw [tkT_0.mpr hle] at h17
      simp only [s180_69, s180_70, s180_73, s180_75, s180_91, s180_92, s180_95, Int.toNat_natCast, true_and, and_true, true_or, or_true, false_or, or_false, zwr_id, zpu_some, zpu_none, reduceIte, Int.reduceLE, Int.reduceLT, Int.reduceEq, Int.reduceNeg, Int.reduceAdd, Int.reduceSub, Int.reduceMul, Int.reduceToNat, Nat.reduceAdd, Nat.reduceLeDiff, Nat.reduceEqDiff, Nat.reduceLT, eq_self, ne_eq, not_false_eq_true, not_true_eq_false, t0, h17]
      rw [if_pos hle] at k1 k2
      refine c_rlacks hD ht hn hp hR.2.1 hd (fun q m' a1 a2 a3 a4 => ?_) (fun q => ?_)
      · rw [if_pos q] at k1; exact k1 _ _ rfl m' a1 a2 a3 a4
      · rw [if_neg (by rw [q]; exact Bool.noConfusion)] at k2; exact k2 _ rfl m hp hd hD rHf_rf
    · rw [if_neg hle] at k1 k2
      by_cases h59 : xs.getD (tkS xs e) 0 = 59
      · rw [if_pos h59] at k1 k2
        rw [tkT_59.mpr ⟨by omega, h59⟩] at h17
        simp only [s180_69, s180_70, s180_73, s180_75, s180_78, s180_79, Int.toNat_natCast, true_and, and_true, true_or, or_true, false_or, or_false, zwr_id, zpu_some, zpu_none, reduceIte, Int.reduceLE, Int.reduceLT, Int.reduceEq, Int.reduceNeg, Int.reduceAdd, Int.reduceSub, Int.reduceMul, Int.reduceToNat, Nat.reduceAdd, Nat.reduceLeDiff, Nat.reduceEqDiff, Nat.reduceLT, eq_self, ne_eq, not_false_eq_true, not_true_eq_false, t0, h17]
        have e1 := hE.2.2 (by omega)
        refine c_rgo ht hn hp hR hE.2.1 (fun m1 p1 g1 f1 f2 => ?_)
        have o1 := rO_go f1 f2
        simp only [s180_82, s180_83, zpu_none, t0, true_and]
        generalize tkE xs (tkS xs e) = e1 at *
        refine c_rline hD ht hn p1 g1 hE.2.1 (rDd_O o1 hd) (fun f pl q m2 a1 a2 a3 a4 => ?_) (fun D' e' q m2 a1 a2 a3 a4 => ?_)
        · simp only [s180_86, s180_89, s180_90, Int.toNat_natCast, true_and, and_true, true_or, or_true, false_or, or_false, zwr_id, zpu_some, zpu_none, reduceIte, Int.reduceLE, Int.reduceLT, Int.reduceEq, Int.reduceNeg, Int.reduceAdd, Int.reduceSub, Int.reduceMul, Int.reduceToNat, Nat.reduceAdd, Nat.reduceLeDiff, Nat.reduceEqDiff, Nat.reduceLT, eq_self, ne_eq, not_false_eq_true, not_true_eq_false]
          unfold pAll at k1
          rw [q] at k1
          exact k1 _ _ rfl m2 a1 a2 a3 (rHf_tr (rHf_O o1) a4)
        · simp only [s180_86, Int.toNat_natCast, true_and, and_true, true_or, or_true, false_or, or_false, zwr_id, zpu_some, zpu_none, reduceIte, Int.reduceLE, Int.reduceLT, Int.reduceEq, Int.reduceNeg, Int.reduceAdd, Int.reduceSub, Int.reduceMul, Int.reduceToNat, Nat.reduceAdd, Nat.reduceLeDiff, Nat.reduceEqDiff, Nat.reduceLT, eq_self, ne_eq, not_false_eq_true, not_true_eq_false]
          have le := pLine_e hE.2.1 q
          unfold pAll at k1 k2
          rw [q] at k1 k2
          exact ih e' D' m2 (by omega) le.2 (pLine_ok hD q) a1 a2 a3 (fun f pl z m3 b1 b2 b3 b4 => k1 f pl z m3 b1 b2 b3 (rHf_tr (rHf_O o1) (rHf_tr a4 b4))) (fun D2 z m3 b1 b2 b3 b4 => k2 D2 z m3 b1 b2 b3 (rHf_tr (rHf_O o1) (rHf_tr a4 b4)))
      · rw [if_neg h59] at k1
        have n59 : ¬ tkT xs (tkS xs e) = 59 := fun q => h59 (tkT_59.mp q).2
        have n0 : ¬ tkT xs (tkS xs e) = 0 := fun q => hle (tkT_0.mp q)
        simp only [s180_69, s180_70, s180_73, s180_75, s180_91, s180_92, s180_95, s180_98, s180_99, s180_100, s180_103, Int.toNat_natCast, true_and, and_true, true_or, or_true, false_or, or_false, zwr_id, zpu_some, zpu_none, reduceIte, Int.reduceLE, Int.reduceLT, Int.reduceEq, Int.reduceNeg, Int.reduceAdd, Int.reduceSub, Int.reduceMul, Int.reduceToNat, Nat.reduceAdd, Nat.reduceLeDiff, Nat.reduceEqDiff, Nat.reduceLT, eq_self, ne_eq, not_false_eq_true, not_true_eq_false, t0, h17, n59, n0, r_errs t0]
        exact k1 _ _ rfl _ (zMp_rO rO_errs hp) errs_18 (errs_19.trans hR.2.1) (rHf_O rO_errs)
theorem c_rall {L : zY} {m : zM} {Q : zQ} {xs : List Int} (ht : zMt L) (hn : zMn L) (hp : zMp m) (h3 : xs.length ≤ 300) (hA : zAL m 333 0 xs) (hb : ∀ x ∈ xs, 0 ≤ x ∧ x < 256)
    (k1 : ∀ f pl, pText xs = .inl (f, pl) → ∀ m', zMp m' → m' 332 18 = f → m' 332 19 = (pl : Int) → rHf m m' → Q (some (zI 0)) L m')
    (k2 : ∀ D', pText xs = .inr D' → ∀ m', zMp m' → rDd m' D' → dOk D' → rHf m m' → Q (some (zI 1)) L m') : zwp 180 0 [zA 332, zI (xs.length : Int), zU, zU] [] L m Q := by
  have t0 := mt332 ht
  simp only [s180_0, s180_1, s180_2, s180_5, s180_6, s180_7, s180_10, s180_11, Int.toNat_natCast, true_and, and_true, true_or, or_true, false_or, or_false, zwr_id, zpu_some, zpu_none, reduceIte, Int.reduceLE, Int.reduceLT, Int.reduceEq, Int.reduceNeg, Int.reduceAdd, Int.reduceSub, Int.reduceMul, Int.reduceToNat, Nat.reduceAdd, Nat.reduceLeDiff, Nat.reduceEqDiff, Nat.reduceLT, eq_self, ne_eq, not_false_eq_true, not_true_eq_false, t0]
  have hz : rHf m (zup (zup m 332 14 (xs.length : Int)) 332 16 0) := ⟨fun a p _ => by rw [zup_nf p, zup_nf p], fun i hi => by rw [zup_nk (by omega), zup_nk (by omega)], fun _ _ => rfl, fun _ _ => rfl, fun _ _ => rfl, fun _ _ => rfl, fun _ _ => rfl, fun _ _ => rfl, fun _ _ => rfl⟩
  have rz : zup (zup m 332 14 (xs.length : Int)) 332 16 0 332 14 = (xs.length : Int) ∧ zup (zup m 332 14 (xs.length : Int)) 332 16 0 332 16 = ((0 : Nat) : Int) ∧ zAL (zup (zup m 332 14 (xs.length : Int)) 332 16 0) 333 0 xs := ⟨by rw [zup_nk (by decide), zup_same], zup_same, zAL_eq (by rw [zup_nf (by decide), zup_nf (by decide)]) hA⟩
  have pz := zMp_Hf hz hp
  generalize zup (zup m 332 14 (xs.length : Int)) 332 16 0 = mz at *
  refine zfor (n := 26) (fun i => [zA 332, zI (xs.length : Int), zI (i : Nat), zU]) (fun i m' => (∀ k, k < i → m' 334 (26 + k) = -1) ∧ (∀ a, a ≠ 334 → m' a = mz a) ∧ rHf mz m') ?_ ?_ 0 mz (Nat.zero_le _) ⟨fun k hk => by omega, fun _ _ => rfl, rHf_rf⟩
  · rintro i m1 hi ⟨g1, g2, g3⟩ ih
    have n1 : ¬ (26 : Int) ≤ (i : Int) := by omega
    have iv : i < 1000000 := by omega
    have q7 : m1 332 7 = ((334 : Nat) : Int) := by rw [g2 332 (by decide)]; exact mp7 pz
    have hr : 0 ≤ ((26 + i : Nat) : Int) ∧ ((26 + i : Nat) : Int) < ((52 : Nat) : Int) := by omega
    simp only [s180_12]
    simp only [s180_13, s180_15, s180_18, s180_19, s180_22, s180_24, s180_25, s180_26, s180_27, s180_28, s180_31, Int.toNat_natCast, true_and, and_true, true_or, or_true, false_or, or_false, zwr_id, zpu_some, zpu_none, reduceIte, Int.reduceLE, Int.reduceLT, Int.reduceEq, Int.reduceNeg, Int.reduceAdd, Int.reduceSub, Int.reduceMul, Int.reduceToNat, Nat.reduceAdd, Nat.reduceLeDiff, Nat.reduceEqDiff, Nat.reduceLT, eq_self, ne_eq, not_false_eq_true, not_true_eq_false, t0, n1, q7, mt334 ht, mn334 hn, hr, and_self, (show zwr (26 + (i : Int)) = ((26 + i : Nat) : Int) from zwn (by omega) (by omega)), z1 iv]
    refine ih _ ⟨fun k hk => ?_, fun a ha => by rw [zup_nf ha]; exact g2 a ha, rHf_tr g3 (rHf_up (by omega))⟩
    by_cases q : k = i
    · rw [q, zup_same]
    · rw [zup_nk (by omega)]; exact g1 k (by omega)
  · rintro m1 ⟨g1, g2, g3⟩
    have p1 := zMp_Hf g3 pz
    simp only [s180_12]
    simp only [s180_13, s180_15, s180_34, s180_35, Int.toNat_natCast, true_and, and_true, true_or, or_true, false_or, or_false, zwr_id, zpu_some, zpu_none, reduceIte, Int.reduceLE, Int.reduceLT, Int.reduceEq, Int.reduceNeg, Int.reduceAdd, Int.reduceSub, Int.reduceMul, Int.reduceToNat, Nat.reduceAdd, Nat.reduceLeDiff, Nat.reduceEqDiff, Nat.reduceLT, eq_self, ne_eq, not_false_eq_true, not_true_eq_false, Int.cast_ofNat_Int]
    refine zfor (n := 5) (fun i => [zA 332, zI (xs.length : Int), zI (i : Nat), zU]) (fun i m' => (∀ k, k < i → m' 335 (5 + k) = 0) ∧ (∀ a, a ≠ 335 → m' a = m1 a) ∧ rHf m1 m') ?_ ?_ 0 m1 (Nat.zero_le _) ⟨fun k hk => by omega, fun _ _ => rfl, rHf_rf⟩
    · rintro i m2 hi ⟨h1, h2, h4⟩ ih
      have n1 : ¬ (5 : Int) ≤ (i : Int) := by omega
      have iv : i < 1000000 := by omega
      have q8 : m2 332 8 = ((335 : Nat) : Int) := by rw [h2 332 (by decide)]; exact mp8 p1
      have hr : 0 ≤ ((5 + i : Nat) : Int) ∧ ((5 + i : Nat) : Int) < ((10 : Nat) : Int) := by omega
      simp only [s180_36]
      simp only [s180_37, s180_38, s180_41, s180_42, s180_45, s180_46, s180_47, s180_48, s180_49, s180_50, s180_53, Int.toNat_natCast, true_and, and_true, true_or, or_true, false_or, or_false, zwr_id, zpu_some, zpu_none, reduceIte, Int.reduceLE, Int.reduceLT, Int.reduceEq, Int.reduceNeg, Int.reduceAdd, Int.reduceSub, Int.reduceMul, Int.reduceToNat, Nat.reduceAdd, Nat.reduceLeDiff, Nat.reduceEqDiff, Nat.reduceLT, eq_self, ne_eq, not_false_eq_true, not_true_eq_false, t0, n1, q8, mt335 ht, mn335 hn, hr, and_self, (show zwr (5 + (i : Int)) = ((5 + i : Nat) : Int) from zwn (by omega) (by omega)), z1 iv]
      refine ih _ ⟨fun k hk => ?_, fun a ha => by rw [zup_nf ha]; exact h2 a ha, rHf_tr h4 (rHf_up (by omega))⟩
      by_cases q : k = i
      · rw [q, zup_same]
      · rw [zup_nk (by omega)]; exact h1 k (by omega)
    · rintro m2 ⟨h1, h2, h4⟩
      have p2 := zMp_Hf h4 p1
      have e2 : ∀ a, a ≠ 334 → a ≠ 335 → m2 a = mz a := fun a q1 q2 => by rw [h2 a q2, g2 a q1]
      have r2 : m2 332 14 = (xs.length : Int) ∧ m2 332 16 = ((0 : Nat) : Int) ∧ zAL m2 333 0 xs := ⟨by rw [e2 332 (by decide) (by decide)]; exact rz.1, by rw [e2 332 (by decide) (by decide)]; exact rz.2.1, zAL_eq (e2 333 (by decide) (by decide)) rz.2.2⟩
      have hh : rHf m m2 := rHf_tr hz (rHf_tr g3 h4)
      have d2 : rDd m2 dD0 := ⟨fun k hk => by rw [h2 334 (by decide), g1 k hk]; rfl, ⟨h1 0 (by decide), h1 1 (by decide), h1 2 (by decide), h1 3 (by decide), h1 4 (by decide)⟩, ⟨zAL_nil, zAL_nil, zAL_nil, zAL_nil⟩, fun i q hq => by cases hq⟩
      simp only [s180_36]
      simp only [s180_37, s180_38, s180_56, s180_57, Int.toNat_natCast, true_and, and_true, true_or, or_true, false_or, or_false, zwr_id, zpu_some, zpu_none, reduceIte, Int.reduceLE, Int.reduceLT, Int.reduceEq, Int.reduceNeg, Int.reduceAdd, Int.reduceSub, Int.reduceMul, Int.reduceToNat, Nat.reduceAdd, Nat.reduceLeDiff, Nat.reduceEqDiff, Nat.reduceLT, eq_self, ne_eq, not_false_eq_true, not_true_eq_false, Int.cast_ofNat_Int, t0]
      refine c_rgo0 ht hn p2 r2.1 r2.2.1 h3 r2.2.2 hb (Nat.zero_le _) (fun m3 p3 g5 f1 f2 => ?_)
      have o3 := rO_go f1 f2
      simp only [s180_60, s180_61, zpu_none, t0, true_and]
      unfold pText at k1 k2
      refine c_rline dOk_0 ht hn p3 g5 (Nat.zero_le _) (rDd_O o3 d2) (fun f pl q m4 a1 a2 a3 a4 => ?_) (fun D' e' q m4 a1 a2 a3 a4 => ?_)
      · simp only [s180_64, s180_67, s180_68, Int.toNat_natCast, true_and, and_true, true_or, or_true, false_or, or_false, zwr_id, zpu_some, zpu_none, reduceIte, Int.reduceLE, Int.reduceLT, Int.reduceEq, Int.reduceNeg, Int.reduceAdd, Int.reduceSub, Int.reduceMul, Int.reduceToNat, Nat.reduceAdd, Nat.reduceLeDiff, Nat.reduceEqDiff, Nat.reduceLT, eq_self, ne_eq, not_false_eq_true, not_true_eq_false]
        unfold pAll at k1
        rw [q] at k1
        exact k1 _ _ rfl m4 a1 a2 a3 (rHf_tr hh (rHf_tr (rHf_O o3) a4))
      · simp only [s180_64, Int.toNat_natCast, true_and, and_true, true_or, or_true, false_or, or_false, zwr_id, zpu_some, zpu_none, reduceIte, Int.reduceLE, Int.reduceLT, Int.reduceEq, Int.reduceNeg, Int.reduceAdd, Int.reduceSub, Int.reduceMul, Int.reduceToNat, Nat.reduceAdd, Nat.reduceLeDiff, Nat.reduceEqDiff, Nat.reduceLT, eq_self, ne_eq, not_false_eq_true, not_true_eq_false]
        have le := pLine_e (Nat.zero_le _) q
        unfold pAll at k1 k2
        rw [q] at k1 k2
        exact c_rallT ht hn 300 e' D' m4 (by omega) le.2 (pLine_ok dOk_0 q) a1 a2 a3 (fun f pl z m5 b1 b2 b3 b4 => k1 f pl z m5 b1 b2 b3 (rHf_tr hh (rHf_tr (rHf_O o3) (rHf_tr a4 b4)))) (fun D2 z m5 b1 b2 b3 b4 => k2 D2 z m5 b1 b2 b3 (rHf_tr hh (rHf_tr (rHf_O o3) (rHf_tr a4 b4))))
