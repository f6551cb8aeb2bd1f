theorem rDd_pair {m : zM} {D : zD} {a b : Nat} (h : rDd m D) : rDd (zup (zup (zup m 340 (2 * (8 + (dP D).length)) (a : Int)) 340 (2 * (8 + (dP D).length) + 1) (b : Int)) 335 9 (((dP D).length + 1 : Nat) : Int)) (dPair D (a, b)) := by
  obtain ⟨h1, ⟨a1, a2, a3, a4, a5⟩, ⟨b1, b2, b3, b4⟩, h4⟩ := h
  generalize hm : zup (zup (zup m 340 (2 * (8 + (dP D).length)) (a : Int)) 340 (2 * (8 + (dP D).length) + 1) (b : Int)) 335 9 (((dP D).length + 1 : Nat) : Int) = mm
  have f5 : ∀ j, j ≠ 9 → mm 335 j = m 335 j := fun j hj => by rw [← hm, zup_nk hj, zup_na (by decide), zup_na (by decide)]
  have f6 : ∀ a, a ≠ 335 → a ≠ 340 → mm a = m a := fun a p1 p2 => by rw [← hm, zup_nf p1, zup_nf p2, zup_nf p2]
  refine ⟨fun j hj => by rw [f6 334 (by decide) (by decide)]; exact h1 j hj, ⟨by rw [f5 5 (by decide)]; exact a1, by rw [f5 6 (by decide)]; exact a2, by rw [f5 7 (by decide)]; exact a3, by rw [f5 8 (by decide)]; exact a4, ?_⟩, ⟨zAL_eq (f6 336 (by decide) (by decide)) b1, zAL_eq (f6 337 (by decide) (by decide)) b2, zAL_eq (f6 338 (by decide) (by decide)) b3, zAL_eq (f6 339 (by decide) (by decide)) b4⟩, fun i q hq => ?_⟩
  · rw [← hm, zup_same]; show _ = ((dP D ++ [(a, b)]).length : Int); rw [List.length_append]; rfl
  · have hq : (dP D ++ [(a, b)])[i]? = some q := hq
    by_cases hi : i < (dP D).length
    · rw [List.getElem?_append_left hi] at hq
      rw [← hm, zup_na (by decide), zup_nk (by omega), zup_nk (by omega), zup_na (by decide), zup_nk (by omega), zup_nk (by omega)]
      exact h4 i q hq
    · rw [List.getElem?_append_right (by omega)] at hq
      have h0 : i - (dP D).length < 1 := (List.getElem?_eq_some_iff.mp hq).1
      have e : i = (dP D).length := by omega
      subst e
      rw [Nat.sub_self] at hq
      cases hq
      rw [← hm, zup_na (by decide), zup_nk (by omega), zup_same, zup_na (by decide), zup_same]
      exact ⟨rfl, rfl⟩
theorem r_cend {L : zY} {m : zM} {Q : zQ} {v : Int} : zwp 177 0 [zI v] [] L m Q ↔ Q (some (zI (if 1 ≤ v ∧ v ≤ 2 then 1 else 0))) L m := by
  have e : ((if 1 ≤ v ∧ v ≤ 2 then (1 : Int) else 0) = 0 ∨ (if 1 ≤ v ∧ v ≤ 2 then (1 : Int) else 0) = 1) := by
    by_cases q : 1 ≤ v ∧ v ≤ 2
    · rw [if_pos q]; exact Or.inr rfl
    · rw [if_neg q]; exact Or.inl rfl
  simp only [s177_0, s177_1, s177_2, s177_3, s177_6, r_in, zpu_some, e, true_and]
/-- the second KEY of a pair goes with the first -/
def pOk (D : zD) (a b : Nat) : Bool := if cVo D a = true then cVo D b else cFi D b
theorem c_rpairL {L : zY} {m : zM} {Q : zQ} {xs : List Int} {S E : Nat} {tk : Int} {D : zD} {a b : Nat} (hD : dOk D) (ha : a < 26) (hb : b < 26) (hf : (dP D).length < 8) (ht : zMt L) (hn : zMn L) (hp : zMp m) (hR : rRd m xs S E tk) (he : E ≤ xs.length) (hd : rDd m D)
    (k1 : ¬ (pOk D a b = true ∧ (a, b) ∉ dP D) → ∀ m', zMp m' → m' 332 18 = 2 → m' 332 19 = (S : Int) → rHf m m' → Q (some (zI 0)) L m')
    (k2 : (pOk D a b = true ∧ (a, b) ∉ dP D) → ∀ m', zMp m' → rRd m' xs (tkS xs E) (tkE xs (tkS xs E)) (tkT xs (tkS xs E)) → rDd m' (dPair D (a, b)) → rHf m m' → Q (some (zI 1)) L m') : zwp 178 70 [zA 332, zI (a : Int), zI (dS D a), zI (b : Int), zU, zU] [] L m Q := by
  have t0 := mt332 ht
  have q8 : m 332 8 = ((335 : Nat) : Int) := mp8 hp
  have q13 : m 332 13 = ((340 : Nat) : Int) := mp13 hp
  have c35 : m 335 9 = ((dP D).length : Int) := hd.2.1.2.2.2.2
  have t5 := mt335 ht
  have n5 := mn335 hn
  have b8 : (9 : Int) < ((10 : Nat) : Int) := by decide
  have rs := fun Q' : zQ => r_rs (Q := Q') ht hn hp hd hb
  have loop : zwp 178 105 [zA 332, zI (a : Int), zI (dS D a), zI (b : Int), zI (if pOk D a b = true ∧ (a, b) ∉ (dP D).take 0 then 1 else 0), zI ((0 : Nat) : Int)] [] L m Q := by
    refine zfor (n := (dP D).length) (fun i => [zA 332, zI (a : Int), zI (dS D a), zI (b : Int), zI (if pOk D a b = true ∧ (a, b) ∉ (dP D).take i then 1 else 0), zI (i : Nat)]) (fun _ m' => m' = m) ?_ ?_ 0 m (Nat.zero_le _) rfl
    · rintro i m hi rfl ih
      have ih := ih _ rfl
      have n1 : ¬ ((dP D).length : Int) ≤ (i : Int) := by omega
      have iv : i < 1000000 := by omega
      obtain ⟨g1, g2⟩ := hd.2.2.2 i _ (List.getElem?_eq_getElem hi)
      have hmem : (a, b) ∉ (dP D).take (i + 1) ↔ (a, b) ∉ (dP D).take i ∧ ¬ ((((dP D)[i].1 : Nat) : Int) = (a : Int) ∧ (((dP D)[i].2 : Nat) : Int) = (b : Int)) := by
        rw [take_s hi, List.mem_append, List.mem_singleton]
        constructor
        · intro q
          refine ⟨fun z => q (Or.inl z), fun z => q (Or.inr ?_)⟩
          rw [Prod.ext_iff]
          exact ⟨by show a = _; omega, by show b = _; omega⟩
        · rintro ⟨q1, q2⟩ (z | z)
          · exact q1 z
          · exact q2 (by rw [← z]; exact ⟨rfl, rfl⟩)
      have hr : 0 ≤ ((2 * (8 + i) : Nat) : Int) ∧ ((2 * (8 + i) : Nat) : Int) < ((32 : Nat) : Int) := by omega
      have hr' : 0 ≤ ((2 * (8 + i) + 1 : Nat) : Int) ∧ ((2 * (8 + i) + 1 : Nat) : Int) < ((32 : Nat) : Int) := by omega
      simp only [s178_105]
      by_cases hv : pOk D a b = true ∧ (a, b) ∉ (dP D).take i
      · rw [if_pos hv]
        simp only [s178_107, s178_108, s178_111, s178_113, s178_114, s178_117, s178_119, s178_122, s178_123, s178_126, s178_127, s178_129, s178_131, s178_132, s178_133, s178_134, Int.toNat_natCast, true_and, and_true, true_or, or_true, false_or, or_false, zwr_id, zpu_some, zpu_none, reduceIte, Int.reduceLE, Int.reduceLT, Int.reduceEq, Int.reduceNeg, Int.reduceAdd, Int.reduceSub, Int.reduceMul, Int.reduceToNat, Nat.reduceAdd, Nat.reduceLeDiff, Nat.reduceEqDiff, Nat.reduceLT, eq_self, ne_eq, not_false_eq_true, not_true_eq_false, t0, q8, t5, n5, b8, c35, n1, q13, mt340 ht, mn340 hn, and_self, hr, (show zwr (8 + (i : Int)) = ((8 + i : Nat) : Int) from zwn (by omega) (by omega)), (show zwr (2 * ((8 + i : Nat) : Int)) = ((2 * (8 + i) : Nat) : Int) from zwn (by omega) (by omega)), g1]
        simp only [s178_135]
        by_cases hx : (((dP D)[i].1 : Nat) : Int) = (a : Int)
        · rw [if_pos hx]
          simp only [s178_138, s178_139, s178_142, s178_143, s178_145, s178_147, s178_148, s178_149, s178_150, s178_151, s178_152, Int.toNat_natCast, true_and, and_true, true_or, or_true, false_or, or_false, zwr_id, zpu_some, zpu_none, reduceIte, Int.reduceLE, Int.reduceLT, Int.reduceEq, Int.reduceNeg, Int.reduceAdd, Int.reduceSub, Int.reduceMul, Int.reduceToNat, Nat.reduceAdd, Nat.reduceLeDiff, Nat.reduceEqDiff, Nat.reduceLT, eq_self, ne_eq, not_false_eq_true, not_true_eq_false, t0, q13, mt340 ht, mn340 hn, and_self, hr', (show zwr (8 + (i : Int)) = ((8 + i : Nat) : Int) from zwn (by omega) (by omega)), (show zwr (2 * ((8 + i : Nat) : Int)) = ((2 * (8 + i) : Nat) : Int) from zwn (by omega) (by omega)), (show zwr (((2 * (8 + i) : Nat) : Int) + 1) = ((2 * (8 + i) + 1 : Nat) : Int) from zwn (by omega) (by omega)), g2]
          simp only [s178_153]
          by_cases hy : (((dP D)[i].2 : Nat) : Int) = (b : Int)
          · rw [if_pos hy]
            rw [if_neg (fun q => (hmem.mp q.2).2 ⟨hx, hy⟩)] at ih
            simp only [s178_160, s178_161, s178_163, s178_166, z1 iv]
            exact ih
          · rw [if_neg hy]
            rw [if_pos ⟨hv.1, hmem.mpr ⟨hv.2, fun q => hy q.2⟩⟩] at ih
            simp only [s178_156, s178_157, s178_160, s178_161, s178_163, s178_166, z1 iv]
            exact ih
        · rw [if_neg hx]
          rw [if_pos ⟨hv.1, hmem.mpr ⟨hv.2, fun q => hx q.1⟩⟩] at ih
          simp only [s178_156, s178_157, s178_160, s178_161, s178_163, s178_166, z1 iv]
          exact ih
      · rw [if_neg hv]
        rw [if_neg (fun q => hv ⟨q.1, (hmem.mp q.2).1⟩)] at ih
        simp only [s178_107, s178_108, s178_111, s178_113, s178_114, s178_117, s178_119, s178_160, s178_161, s178_163, s178_166, Int.toNat_natCast, true_and, and_true, true_or, or_true, false_or, or_false, zwr_id, zpu_some, zpu_none, reduceIte, Int.reduceLE, Int.reduceLT, Int.reduceEq, Int.reduceNeg, Int.reduceAdd, Int.reduceSub, Int.reduceMul, Int.reduceToNat, Nat.reduceAdd, Nat.reduceLeDiff, Nat.reduceEqDiff, Nat.reduceLT, eq_self, ne_eq, not_false_eq_true, not_true_eq_false, t0, q8, t5, n5, b8, c35, n1, z1 iv]
        exact ih
    · rintro m rfl
      rw [List.take_length]
      have n1 : ((dP D).length : Int) ≤ ((dP D).length : Int) := by omega
      simp only [s178_105]
      simp only [s178_107, s178_108, s178_111, s178_113, s178_114, s178_169, Int.toNat_natCast, true_and, and_true, true_or, or_true, false_or, or_false, zwr_id, zpu_some, zpu_none, reduceIte, Int.reduceLE, Int.reduceLT, Int.reduceEq, Int.reduceNeg, Int.reduceAdd, Int.reduceSub, Int.reduceMul, Int.reduceToNat, Nat.reduceAdd, Nat.reduceLeDiff, Nat.reduceEqDiff, Nat.reduceLT, eq_self, ne_eq, not_false_eq_true, not_true_eq_false, t0, q8, t5, n5, b8, c35, n1]
      simp only [s178_171]
      by_cases hv : pOk D a b = true ∧ (a, b) ∉ dP D
      · rw [if_pos hv, if_neg (by decide)]
        have hrA : 0 ≤ ((2 * (8 + (dP D).length) : Nat) : Int) ∧ ((2 * (8 + (dP D).length) : Nat) : Int) < ((32 : Nat) : Int) := by omega
        have hrB : 0 ≤ ((2 * (8 + (dP D).length) + 1 : Nat) : Int) ∧ ((2 * (8 + (dP D).length) + 1 : Nat) : Int) < ((32 : Nat) : Int) := by omega
        simp only [s178_180, s178_181, s178_184, s178_185, s178_187, s178_188, s178_191, s178_193, s178_194, s178_195, s178_196, s178_197, s178_198, s178_199, s178_202, s178_203, s178_205, s178_206, s178_209, s178_211, s178_212, s178_213, s178_214, s178_215, s178_216, s178_217, s178_218, s178_219, s178_222, s178_224, s178_225, s178_226, s178_227, s178_228, s178_229, s178_230, Int.toNat_natCast, true_and, and_true, true_or, or_true, false_or, or_false, zwr_id, zpu_some, zpu_none, reduceIte, Int.reduceLE, Int.reduceLT, Int.reduceEq, Int.reduceNeg, Int.reduceAdd, Int.reduceSub, Int.reduceMul, Int.reduceToNat, Nat.reduceAdd, Nat.reduceLeDiff, Nat.reduceEqDiff, Nat.reduceLT, eq_self, ne_eq, not_false_eq_true, not_true_eq_false, t0, q8, q13, t5, n5, b8, c35, mt340 ht, mn340 hn, hrA, hrB, (show zwr (8 + ((dP D).length : Int)) = ((8 + (dP D).length : Nat) : Int) from zwn (by omega) (by omega)), (show zwr (2 * ((8 + (dP D).length : Nat) : Int)) = ((2 * (8 + (dP D).length) : Nat) : Int) from zwn (by omega) (by omega)), (show zwr (((2 * (8 + (dP D).length) : Nat) : Int) + 1) = ((2 * (8 + (dP D).length) + 1 : Nat) : Int) from zwn (by omega) (by omega)), (show zwr (((dP D).length : Int) + 1) = (((dP D).length + 1 : Nat) : Int) from zwn (by omega) (by omega)), and_self, zup_na (show (332 : Nat) ≠ 340 by decide), zup_na (show (335 : Nat) ≠ 340 by decide)]
        have d2 := rDd_pair (a := a) (b := b) hd
        have ho : rHf m (zup (zup (zup m 340 (2 * (8 + (dP D).length)) (a : Int)) 340 (2 * (8 + (dP D).length) + 1) (b : Int)) 335 9 (((dP D).length + 1 : Nat) : Int)) := rHf_tr (rHf_tr (rHf_up (by omega)) (rHf_up (by omega))) (rHf_up (by omega))
        refine c_rgo ht hn (zMp_Hf ho hp) (rRd_eq (by rw [zup_nf (by decide), zup_nf (by decide), zup_nf (by decide)]) (by rw [zup_nf (by decide), zup_nf (by decide), zup_nf (by decide)]) hR) he (fun m2 p2 g2 f1 f2 => ?_)
        simp only [s178_233, s178_234, Int.toNat_natCast, true_and, and_true, true_or, or_true, false_or, or_false, zwr_id, zpu_some, zpu_none, reduceIte, Int.reduceLE, Int.reduceLT, Int.reduceEq, Int.reduceNeg, Int.reduceAdd, Int.reduceSub, Int.reduceMul, Int.reduceToNat, Nat.reduceAdd, Nat.reduceLeDiff, Nat.reduceEqDiff, Nat.reduceLT, eq_self, ne_eq, not_false_eq_true, not_true_eq_false]
        exact k2 hv m2 p2 g2 (rDd_O (rO_go f1 f2) d2) (rHf_tr ho (rHf_O (rO_go f1 f2)))
      · rw [if_neg hv, if_pos rfl]
        simp only [s178_174, s178_175, s178_176, s178_179, Int.toNat_natCast, true_and, and_true, true_or, or_true, false_or, or_false, zwr_id, zpu_some, zpu_none, reduceIte, Int.reduceLE, Int.reduceLT, Int.reduceEq, Int.reduceNeg, Int.reduceAdd, Int.reduceSub, Int.reduceMul, Int.reduceToNat, Nat.reduceAdd, Nat.reduceLeDiff, Nat.reduceEqDiff, Nat.reduceLT, eq_self, ne_eq, not_false_eq_true, not_true_eq_false, t0, r_errs t0]
        exact k1 hv _ (zMp_rO rO_errs hp) errs_18 (errs_19.trans hR.2.1) (rHf_O rO_errs)
  have tk0 : (if pOk D a b = true ∧ (a, b) ∉ (dP D).take 0 then (1 : Int) else 0) = if pOk D a b = true then 1 else 0 := ite_iff ⟨fun q => q.1, fun q => ⟨q, by rw [List.take_zero]; exact List.not_mem_nil⟩⟩
  rw [tk0] at loop
  simp only [s178_70, s178_71]
  simp only [s178_72]
  by_cases hv : cVo D a = true
  · rw [if_pos (cVo_in.mpr hv)]
    have e : pOk D a b = cVo D b := if_pos hv
    rw [e] at loop
    simp only [s178_75, s178_76, s178_77, s178_80, Int.toNat_natCast, true_and, and_true, true_or, or_true, false_or, or_false, zwr_id, zpu_some, zpu_none, reduceIte, Int.reduceLE, Int.reduceLT, Int.reduceEq, Int.reduceNeg, Int.reduceAdd, Int.reduceSub, Int.reduceMul, Int.reduceToNat, Nat.reduceAdd, Nat.reduceLeDiff, Nat.reduceEqDiff, Nat.reduceLT, eq_self, ne_eq, not_false_eq_true, not_true_eq_false, t0, rs]
    simp only [s178_81]
    by_cases hw : cVo D b = true
    · rw [if_pos (cVo_in.mpr hw)]
      rw [if_pos hw] at loop
      simp only [s178_84, s178_85, s178_100, s178_102, s178_103]
      exact loop
    · rw [if_neg (fun q => hw (cVo_in.mp q))]
      rw [if_neg hw] at loop
      simp only [s178_88, s178_89, s178_100, s178_102, s178_103]
      exact loop
  · rw [if_neg (fun q => hv (cVo_in.mp q))]
    have e : pOk D a b = cFi D b := if_neg hv
    rw [e, ← ite_iff cFi_in] at loop
    simp only [s178_92, s178_93, s178_94, s178_97, s178_100, s178_102, s178_103, Int.toNat_natCast, true_and, and_true, true_or, or_true, false_or, or_false, zwr_id, zpu_some, zpu_none, reduceIte, Int.reduceLE, Int.reduceLT, Int.reduceEq, Int.reduceNeg, Int.reduceAdd, Int.reduceSub, Int.reduceMul, Int.reduceToNat, Nat.reduceAdd, Nat.reduceLeDiff, Nat.reduceEqDiff, Nat.reduceLT, eq_self, ne_eq, not_false_eq_true, not_true_eq_false, t0, rs, r_cend]
    exact loop
theorem c_rpair {L : zY} {m : zM} {Q : zQ} {xs : List Int} {S E : Nat} {tk : Int} {D : zD} (hD : dOk D) (ht : zMt L) (hn : zMn L) (hp : zMp m) (hR : rRd m xs S E tk) (he : E ≤ xs.length) (hd : rDd m D)
    (k1 : ∀ f pl, (if dFull D 6 = true then (.inl (3, S) : zPr) else pBody xs 6 E D) = .inl (f, pl) → ∀ m', zMp m' → m' 332 18 = f → m' 332 19 = (pl : Int) → rHf m m' → Q (some (zI 0)) L m')
    (k2 : ∀ D' e', (if dFull D 6 = true then (.inl (3, S) : zPr) else pBody xs 6 E D) = .inr (D', e') → ∀ m', zMp m' → rRd m' xs (tkS xs e') (tkE xs (tkS xs e')) (tkT xs (tkS xs e')) → rDd m' D' → rHf m m' → Q (some (zI 1)) L m') : zwp 178 0 [zA 332, zU, zU, zU, zU, zU] [] L m Q := by
  have t0 := mt332 ht
  have q8 : m 332 8 = ((335 : Nat) : Int) := mp8 hp
  have len5 := hD.2.2.1.2.2.2.2
  have c35 : m 335 9 = ((dP D).length : Int) := hd.2.1.2.2.2.2
  have t5 := mt335 ht
  have n5 := mn335 hn
  have b8 : (9 : Int) < ((10 : Nat) : Int) := by decide
  simp only [s178_0, s178_1, s178_4, s178_6, s178_7, Int.toNat_natCast, true_and, and_true, true_or, or_true, false_or, or_false, zwr_id, zpu_some, zpu_none, reduceIte, Int.reduceLE, Int.reduceLT, Int.reduceEq, Int.reduceNeg, Int.reduceAdd, Int.reduceSub, Int.reduceMul, Int.reduceToNat, Nat.reduceAdd, Nat.reduceLeDiff, Nat.reduceEqDiff, Nat.reduceLT, eq_self, ne_eq, not_false_eq_true, not_true_eq_false, t0, q8, t5, n5, c35, b8]
  simp only [s178_9]
  by_cases hf : (dP D).length = 8
  · rw [if_pos (by omega)]
    rw [if_pos ((dFull6 len5).mpr hf)] at k1
    simp only [s178_12, s178_13, s178_14, s178_17, Int.toNat_natCast, true_and, and_true, true_or, or_true, false_or, or_false, zwr_id, zpu_some, zpu_none, reduceIte, Int.reduceLE, Int.reduceLT, Int.reduceEq, Int.reduceNeg, Int.reduceAdd, Int.reduceSub, Int.reduceMul, Int.reduceToNat, Nat.reduceAdd, Nat.reduceLeDiff, Nat.reduceEqDiff, Nat.reduceLT, eq_self, ne_eq, not_false_eq_true, not_true_eq_false, t0, r_errs t0]
    exact k1 _ _ rfl _ (zMp_rO rO_errs hp) errs_18 (errs_19.trans hR.2.1) (rHf_O rO_errs)
  · rw [if_neg (by omega)]
    rw [if_neg (fun q => hf ((dFull6 len5).mp q))] at k1 k2
    simp only [s178_18, s178_19, t0, true_and]
    refine c_rnext ht hn hp hR he (fun hk m1 p1 g1 o1 => ?_) (fun hk m1 p1 g8 g9 o1 => ?_)
    · have hK := isK_iff.mp hk
      obtain ⟨e1, e2⟩ := kAt_kk hK.2
      have d1 := rDd_O o1 hd
      unfold pBody at k1 k2
      rw [if_neg (by rw [hk]; exact Bool.noConfusion), if_neg (by decide), if_pos rfl] at k1 k2
      have hE1 := tkE_le (tkS_le he).2
      have rh := fun Q' : zQ => r_here (Q := Q') ht hn p1 g1 hK.2
      have rs := fun Q' : zQ => r_rs (Q := Q') ht hn p1 d1 e2
      generalize kAt xs (tkS xs E) = a at *
      generalize tkE xs (tkS xs E) = E1 at *
      simp only [s178_22, s178_25, s178_26, s178_27, s178_28, s178_31, s178_32, s178_33, s178_34, s178_37, s178_38, s178_39, Int.toNat_natCast, true_and, and_true, true_or, or_true, false_or, or_false, zwr_id, zpu_some, zpu_none, reduceIte, Int.reduceLE, Int.reduceLT, Int.reduceEq, Int.reduceNeg, Int.reduceAdd, Int.reduceSub, Int.reduceMul, Int.reduceToNat, Nat.reduceAdd, Nat.reduceLeDiff, Nat.reduceEqDiff, Nat.reduceLT, eq_self, ne_eq, not_false_eq_true, not_true_eq_false, t0, rh, rs]
      have good : ¬ (cVo D a = false ∧ cFi D a = false) → zwp 178 56 [zA 332, zI (a : Int), zI (dS D a), zU, zU, zU] [] L m1 Q := fun hg => by
        rw [if_neg hg] at k1 k2
        simp only [s178_56, s178_57, t0, true_and]
        refine c_rnext ht hn p1 g1 hE1.2.1 (fun hk2 m2 p2 g2 o2 => ?_) (fun hk2 m2 p2 g8 g9 o2 => ?_)
        · have hK2 := isK_iff.mp hk2
          obtain ⟨e3, e4⟩ := kAt_kk hK2.2
          rw [if_neg (by rw [hk2]; exact Bool.noConfusion)] at k1 k2
          have hE2 := tkE_le (tkS_le hE1.2.1).2
          have rh2 := fun Q' : zQ => r_here (Q := Q') ht hn p2 g2 hK2.2
          generalize kAt xs (tkS xs E1) = b at *
          simp only [s178_60, s178_63, s178_64, s178_65, s178_66, s178_69, Int.toNat_natCast, true_and, and_true, true_or, or_true, false_or, or_false, zwr_id, zpu_some, zpu_none, reduceIte, Int.reduceLE, Int.reduceLT, Int.reduceEq, Int.reduceNeg, Int.reduceAdd, Int.reduceSub, Int.reduceMul, Int.reduceToNat, Nat.reduceAdd, Nat.reduceLeDiff, Nat.reduceEqDiff, Nat.reduceLT, eq_self, ne_eq, not_false_eq_true, not_true_eq_false, t0, rh2]
          have ep : (if cVo D a = true then cVo D b else cFi D b) = pOk D a b := rfl
          rw [ep] at k1 k2
          refine c_rpairL hD e2 e4 (by omega) ht hn p2 g2 hE2.2.1 (rDd_O o2 d1) (fun hv m3 p3 x1 x2 x3 => ?_) (fun hv m3 p3 x1 x2 x3 => ?_)
          · rw [if_neg hv] at k1
            exact k1 _ _ rfl m3 p3 x1 x2 (rHf_tr (rHf_O (rO_tr o1 o2)) x3)
          · rw [if_pos hv] at k2
            exact k2 _ _ rfl m3 p3 x1 x2 (rHf_tr (rHf_O (rO_tr o1 o2)) x3)
        · simp only [s178_60, s178_63, s178_64, Int.toNat_natCast, true_and, and_true, true_or, or_true, false_or, or_false, zwr_id, zpu_some, zpu_none, reduceIte, Int.reduceLE, Int.reduceLT, Int.reduceEq, Int.reduceNeg, Int.reduceAdd, Int.reduceSub, Int.reduceMul, Int.reduceToNat, Nat.reduceAdd, Nat.reduceLeDiff, Nat.reduceEqDiff, Nat.reduceLT, eq_self, ne_eq, not_false_eq_true, not_true_eq_false]
          rw [if_pos hk2] at k1
          exact k1 _ _ rfl m2 p2 g8 g9 (rHf_O (rO_tr o1 o2))
      simp only [s178_40]
      by_cases hv : cVo D a = true
      · rw [if_pos (cVo_in.mpr hv)]
        exact good (fun q => by rw [hv] at q; cases q.1)
      · rw [if_neg (fun q => hv (cVo_in.mp q))]
        simp only [s178_43, s178_44, zpu_some, r_cend, ite_iff cFi_in]
        simp only [s178_47]
        by_cases hw : cFi D a = true
        · rw [if_pos hw, if_neg (by decide)]
          exact good (fun q => by rw [hw] at q; cases q.2)
        · rw [if_neg hw, if_pos rfl]
          rw [if_pos ⟨Bool.eq_false_iff.mpr hv, Bool.eq_false_iff.mpr hw⟩] at k1
          simp only [s178_50, s178_51, s178_52, s178_55, Int.toNat_natCast, true_and, and_true, true_or, or_true, false_or, or_false, zwr_id, zpu_some, zpu_none, reduceIte, Int.reduceLE, Int.reduceLT, Int.reduceEq, Int.reduceNeg, Int.reduceAdd, Int.reduceSub, Int.reduceMul, Int.reduceToNat, Nat.reduceAdd, Nat.reduceLeDiff, Nat.reduceEqDiff, Nat.reduceLT, eq_self, ne_eq, not_false_eq_true, not_true_eq_false, t0, r_errs t0]
          exact k1 _ _ rfl _ (zMp_rO rO_errs p1) errs_18 (errs_19.trans g1.2.1) (rHf_O (rO_tr o1 rO_errs))
    · simp only [s178_22, s178_25, s178_26, Int.toNat_natCast, true_and, and_true, true_or, or_true, false_or, or_false, zwr_id, zpu_some, zpu_none, reduceIte, Int.reduceLE, Int.reduceLT, Int.reduceEq, Int.reduceNeg, Int.reduceAdd, Int.reduceSub, Int.reduceMul, Int.reduceToNat, Nat.reduceAdd, Nat.reduceLeDiff, Nat.reduceEqDiff, Nat.reduceLT, eq_self, ne_eq, not_false_eq_true, not_true_eq_false]
      unfold pBody at k1
      rw [if_pos hk] at k1
      exact k1 _ _ rfl m1 p1 g8 g9 (rHf_O o1)
