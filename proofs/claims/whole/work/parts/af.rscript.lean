/-! script() of the reference -/
theorem rSt_Hf {m m' : zM} {g : zG} (hg : gOk g) (h : rSt m g) (f : rHf m m') : rSt m' g := by
  obtain ⟨T, od, R, C, H, f0, p0, q0⟩ := g
  obtain ⟨a1, ⟨t1, t2, t3, t4⟩, a3, a4, ⟨a5, a6, a7⟩, ⟨a8, a9, a10⟩, a11, a12⟩ := h
  have row : ∀ a, a ≠ 332 → (a < 334 ∨ 340 < a) → m' a = m a := f.1
  have ob : ∀ i, (i < 14 ∨ 19 < i) → m' 332 i = m 332 i := f.2.1
  refine ⟨zMp_Hf f a1, ⟨by rw [ob 5 (by decide)]; exact t1, t2, zAL_eq (row 333 (by decide) (by decide)) t3, t4⟩, a3, by rw [ob 6 (by decide)]; exact a4, ⟨by rw [ob 2 (by decide)]; exact a5, by rw [ob 3 (by decide)]; exact a6, by rw [ob 1 (by decide)]; exact a7⟩, ⟨zAL_eq (row 348 (by decide) (by decide)) a8, by rw [ob 32 (by decide)]; exact a9, by rw [ob 33 (by decide)]; exact a10⟩, rHs_eq (ob 53 (by decide)) (row 364 (by decide) (by decide)) (row 365 (by decide) (by decide)) (row 366 (by decide) (by decide)) a11, fun D hD => ?_⟩
  obtain ⟨b1, b2, b3, b4, b5⟩ := a12 D hD
  exact ⟨rDt_Hf (hg.2.1 D hD).1 f b1, rNm_eq (fun a p q => row a (by omega) (by omega)) (fun i p q => ob i (by omega)) b2, rBI_eq (fun a p q => row a (by omega) (by omega)) b3, rBP_eq (fun a p q => row a (by omega) (by omega)) b4, by rw [row 356 (by decide) (by decide)]; exact b5⟩
/-- fields 2, 3, 1 written -/
theorem rSt_3 {m : zM} {g : zG} {f p q : Int} (hg : gOk g) (h : rSt m g) : rSt (zup (zup (zup m 332 2 f) 332 3 p) 332 1 q) (g.1, g.2.1, g.2.2.1, g.2.2.2.1, g.2.2.2.2.1, f, p, q) := by
  refine rSt_g hg ⟨rfl, rfl, rfl, rfl⟩ (fun a j x y r => ?_) ⟨by rw [zup_nk (by decide), zup_nk (by decide), zup_nk (by decide)]; exact h.2.1.1, h.2.1.2.1, zAL_eq (by rw [zup_nf (by decide), zup_nf (by decide), zup_nf (by decide)]) h.2.1.2.2.1, h.2.1.2.2.2⟩ (by rw [zup_nk (by decide), zup_nk (by decide)]; exact zup_same) (by rw [zup_nk (by decide)]; exact zup_same) zup_same h
  by_cases z : a = 332
  · subst z; rw [zup_nk (by omega), zup_nk (by omega), zup_nk (by omega)]
  · rw [zup_na z, zup_na z, zup_na z]
/-- THE SCRIPT taken over: the state afresh -/
theorem c_rscr {L : zY} {m m1 : zM} {Q : zQ} {D : zD} {n : Int} (ht : zMt L) (hn : zMn L) (hp : zMp m1) (hd : rDd m1 D) (hD : dOk D) (h5 : m1 332 5 = 0) (h2 : m1 332 2 = 0) (h3 : m1 332 3 = -1) (h1 : m1 332 1 = 0) (f0 : zFR 332 370 m m1) (k : ∀ m', rSt m' ([], some D, [], 0, [], 0, -1, 0) → zFR 332 370 m m' → Q (some (zI (((dC D).length + (dV D).length + (dO D).length : Nat) : Int))) L m') : zwp 182 62 [zA 332, zI n] [] L m1 Q := by
  have t0 := mt332 ht
  have q7 : m1 332 7 = ((334 : Nat) : Int) := mp7 hp
  have q8 : m1 332 8 = ((335 : Nat) : Int) := mp8 hp
  have q9 : m1 332 9 = ((336 : Nat) : Int) := mp9 hp
  have q10 : m1 332 10 = ((337 : Nat) : Int) := mp10 hp
  have q11 : m1 332 11 = ((338 : Nat) : Int) := mp11 hp
  have q12 : m1 332 12 = ((339 : Nat) : Int) := mp12 hp
  have q13 : m1 332 13 = ((340 : Nat) : Int) := mp13 hp
  simp only [s182_62, s182_63, s182_66, Int.toNat_natCast, true_and, and_true, true_or, or_true, false_or, or_false, zwr_id, zpu_some, zpu_none, reduceIte, Int.reduceLE, Int.reduceLT, Int.reduceEq, Int.reduceNeg, Int.reduceAdd, Int.reduceSub, Int.reduceMul, Int.reduceToNat, Nat.reduceAdd, Nat.reduceLeDiff, Nat.reduceEqDiff, Nat.reduceLT, eq_self, ne_eq, not_false_eq_true, not_true_eq_false, t0, q7]
  refine c_rtake (h := 26) (mt334 ht) (mn334 hn) (by decide) (by decide) (fun m2 a4 b4 c4 => ?_)
  simp only [s182_69, s182_70, s182_73, zpu_none, Int.toNat_natCast, true_and, and_true, true_or, or_true, false_or, or_false, zwr_id, zpu_some, zpu_none, reduceIte, Int.reduceLE, Int.reduceLT, Int.reduceEq, Int.reduceNeg, Int.reduceAdd, Int.reduceSub, Int.reduceMul, Int.reduceToNat, Nat.reduceAdd, Nat.reduceLeDiff, Nat.reduceEqDiff, Nat.reduceLT, eq_self, ne_eq, not_false_eq_true, not_true_eq_false, t0, c4 332 (by decide), q8]
  refine c_rtake (h := 5) (mt335 ht) (mn335 hn) (by decide) (by decide) (fun m3 a5 b5 c5 => ?_)
  simp only [s182_76, s182_77, s182_80, zpu_none, Int.toNat_natCast, true_and, and_true, true_or, or_true, false_or, or_false, zwr_id, zpu_some, zpu_none, reduceIte, Int.reduceLE, Int.reduceLT, Int.reduceEq, Int.reduceNeg, Int.reduceAdd, Int.reduceSub, Int.reduceMul, Int.reduceToNat, Nat.reduceAdd, Nat.reduceLeDiff, Nat.reduceEqDiff, Nat.reduceLT, eq_self, ne_eq, not_false_eq_true, not_true_eq_false, t0, c5 332 (by decide), c4 332 (by decide), q9]
  refine c_rtake (h := 10) (mt336 ht) (mn336 hn) (by decide) (by decide) (fun m4 a6 b6 c6 => ?_)
  simp only [s182_83, s182_84, s182_87, zpu_none, Int.toNat_natCast, true_and, and_true, true_or, or_true, false_or, or_false, zwr_id, zpu_some, zpu_none, reduceIte, Int.reduceLE, Int.reduceLT, Int.reduceEq, Int.reduceNeg, Int.reduceAdd, Int.reduceSub, Int.reduceMul, Int.reduceToNat, Nat.reduceAdd, Nat.reduceLeDiff, Nat.reduceEqDiff, Nat.reduceLT, eq_self, ne_eq, not_false_eq_true, not_true_eq_false, t0, c6 332 (by decide), c5 332 (by decide), c4 332 (by decide), q10]
  refine c_rtake (h := 8) (mt337 ht) (mn337 hn) (by decide) (by decide) (fun m5 a7 b7 c7 => ?_)
  simp only [s182_90, s182_91, s182_94, zpu_none, Int.toNat_natCast, true_and, and_true, true_or, or_true, false_or, or_false, zwr_id, zpu_some, zpu_none, reduceIte, Int.reduceLE, Int.reduceLT, Int.reduceEq, Int.reduceNeg, Int.reduceAdd, Int.reduceSub, Int.reduceMul, Int.reduceToNat, Nat.reduceAdd, Nat.reduceLeDiff, Nat.reduceEqDiff, Nat.reduceLT, eq_self, ne_eq, not_false_eq_true, not_true_eq_false, t0, c7 332 (by decide), c6 332 (by decide), c5 332 (by decide), c4 332 (by decide), q11]
  refine c_rtake (h := 4) (mt338 ht) (mn338 hn) (by decide) (by decide) (fun m6 a8 b8 c8 => ?_)
  simp only [s182_97, s182_98, s182_101, zpu_none, Int.toNat_natCast, true_and, and_true, true_or, or_true, false_or, or_false, zwr_id, zpu_some, zpu_none, reduceIte, Int.reduceLE, Int.reduceLT, Int.reduceEq, Int.reduceNeg, Int.reduceAdd, Int.reduceSub, Int.reduceMul, Int.reduceToNat, Nat.reduceAdd, Nat.reduceLeDiff, Nat.reduceEqDiff, Nat.reduceLT, eq_self, ne_eq, not_false_eq_true, not_true_eq_false, t0, c8 332 (by decide), c7 332 (by decide), c6 332 (by decide), c5 332 (by decide), c4 332 (by decide), q12]
  refine c_rtake (h := 4) (mt339 ht) (mn339 hn) (by decide) (by decide) (fun m7 a9 b9 c9 => ?_)
  simp only [s182_104, s182_105, s182_108, zpu_none, Int.toNat_natCast, true_and, and_true, true_or, or_true, false_or, or_false, zwr_id, zpu_some, zpu_none, reduceIte, Int.reduceLE, Int.reduceLT, Int.reduceEq, Int.reduceNeg, Int.reduceAdd, Int.reduceSub, Int.reduceMul, Int.reduceToNat, Nat.reduceAdd, Nat.reduceLeDiff, Nat.reduceEqDiff, Nat.reduceLT, eq_self, ne_eq, not_false_eq_true, not_true_eq_false, t0, c9 332 (by decide), c8 332 (by decide), c7 332 (by decide), c6 332 (by decide), c5 332 (by decide), c4 332 (by decide), q13]
  refine c_rtake (h := 16) (mt340 ht) (mn340 hn) (by decide) (by decide) (fun m8 a0 b0 c0 => ?_)
  have e8 : ∀ a, a ≠ 334 → a ≠ 335 → a ≠ 336 → a ≠ 337 → a ≠ 338 → a ≠ 339 → a ≠ 340 → m8 a = m1 a := fun a y4 y5 y6 y7 y8 y9 y0 => by rw [c0 a y0, c9 a y9, c8 a y8, c7 a y7, c6 a y6, c5 a y5, c4 a y4]
  have d8 : rDt m8 D := by
    refine rDt_take hD hd (fun j hj => ?_) (fun j hj => ?_) (fun j hj => ?_) (fun j hj => ?_) (fun j hj => ?_) (fun j hj => ?_) (fun j hj => ?_)
    · rw [c0 334 (by decide), c9 334 (by decide), c8 334 (by decide), c7 334 (by decide), c6 334 (by decide), c5 334 (by decide)]; exact a4 j hj
    · rw [c0 335 (by decide), c9 335 (by decide), c8 335 (by decide), c7 335 (by decide), c6 335 (by decide), a5 j hj, c4 335 (by decide)]
    · rw [c0 336 (by decide), c9 336 (by decide), c8 336 (by decide), c7 336 (by decide), a6 j hj, c5 336 (by decide), c4 336 (by decide)]
    · rw [c0 337 (by decide), c9 337 (by decide), c8 337 (by decide), a7 j hj, c6 337 (by decide), c5 337 (by decide), c4 337 (by decide)]
    · rw [c0 338 (by decide), c9 338 (by decide), a8 j hj, c7 338 (by decide), c6 338 (by decide), c5 338 (by decide), c4 338 (by decide)]
    · rw [c0 339 (by decide), a9 j hj, c8 339 (by decide), c7 339 (by decide), c6 339 (by decide), c5 339 (by decide), c4 339 (by decide)]
    · rw [a0 j hj, c9 340 (by decide), c8 340 (by decide), c7 340 (by decide), c6 340 (by decide), c5 340 (by decide), c4 340 (by decide)]
  have o8 : m8 332 = m1 332 := e8 332 (by decide) (by decide) (by decide) (by decide) (by decide) (by decide) (by decide)
  have f8 : zFR 332 370 m m8 := fun a ha => by rw [e8 a (by omega) (by omega) (by omega) (by omega) (by omega) (by omega) (by omega)]; exact f0 a ha
  have p8 : zMp m8 := zMp_eq (fun i _ => by rw [o8]) hp
  rw [← o8] at h5 h2 h3 h1
  clear a4 b4 c4 a5 b5 c5 a6 b6 c6 a7 b7 c7 a8 b8 c8 a9 b9 c9 a0 b0 c0 e8 o8 hd f0 hp q7 q8 q9 q10 q11 q12 q13
  clear m2 m3 m4 m5 m6 m7
  simp only [s182_111, s182_112, s182_113, s182_116, s182_117, zpu_none, Int.toNat_natCast, true_and, and_true, true_or, or_true, false_or, or_false, zwr_id, zpu_some, zpu_none, reduceIte, Int.reduceLE, Int.reduceLT, Int.reduceEq, Int.reduceNeg, Int.reduceAdd, Int.reduceSub, Int.reduceMul, Int.reduceToNat, Nat.reduceAdd, Nat.reduceLeDiff, Nat.reduceEqDiff, Nat.reduceLT, eq_self, ne_eq, not_false_eq_true, not_true_eq_false, t0]
  have f9 : zFR 332 370 m (zup m8 332 6 1) := zFR_up f8 (by decide) (by decide)
  have o9 : ∀ j, j ≠ 6 → zup m8 332 6 1 332 j = m8 332 j := fun j hj => zup_nk hj
  have h6 : zup m8 332 6 1 332 6 = 1 := zup_same
  have c9 : rNc (zup m8 332 6 1) D := ⟨zMp_eq (fun i hi => o9 i (fun z => by rw [z] at hi; cases hi)) p8, rDt_eq (fun a p q => zup_nf (by omega)) d8⟩
  rw [← o9 _ (by decide)] at h5 h2 h3 h1
  generalize zup m8 332 6 1 = m9 at *
  refine c_rnums hD ht hn c9 (fun m10 c10 n10 g10 => ?_)
  have f10 : zFR 332 370 m m10 := zFR_tr f9 (fun a ha => g10.1 a (by omega) (by omega))
  rw [← g10.2 _ (by decide)] at h5 h2 h3 h1 h6
  have p10 := c10.1
  have q31 : m10 332 31 = ((348 : Nat) : Int) := mp31 p10
  simp only [s182_120, s182_121, s182_122, s182_125, s182_126, s182_127, s182_130, s182_131, s182_132, s182_135, s182_136, s199_0, s199_1, s199_2, s199_3, s199_6, s199_7, s199_10, zpu_none, Int.toNat_natCast, true_and, and_true, true_or, or_true, false_or, or_false, zwr_id, zpu_some, zpu_none, reduceIte, Int.reduceLE, Int.reduceLT, Int.reduceEq, Int.reduceNeg, Int.reduceAdd, Int.reduceSub, Int.reduceMul, Int.reduceToNat, Nat.reduceAdd, Nat.reduceLeDiff, Nat.reduceEqDiff, Nat.reduceLT, eq_self, ne_eq, not_false_eq_true, not_true_eq_false, t0, zup_same, zup_nk (show (32 : Nat) ≠ 33 by decide), zup_nk (show (32 : Nat) ≠ 53 by decide), zup_nk (show (31 : Nat) ≠ 32 by decide), zup_nk (show (31 : Nat) ≠ 33 by decide), zup_nk (show (31 : Nat) ≠ 53 by decide), q31]
  have f11 : zFR 332 370 m (zup (zup (zup m10 332 32 0) 332 33 0) 332 53 0) := zFR_up (zFR_up (zFR_up f10 (by decide) (by decide)) (by decide) (by decide)) (by decide) (by decide)
  have o11 : ∀ j, j ≠ 32 → j ≠ 33 → j ≠ 53 → zup (zup (zup m10 332 32 0) 332 33 0) 332 53 0 332 j = m10 332 j := fun j q1 q2 q3 => by rw [zup_nk q3, zup_nk q2, zup_nk q1]
  have e11 : ∀ a, a ≠ 332 → zup (zup (zup m10 332 32 0) 332 33 0) 332 53 0 a = m10 a := fun a q => by rw [zup_nf q, zup_nf q, zup_nf q]
  have h53 : zup (zup (zup m10 332 32 0) 332 33 0) 332 53 0 332 53 = 0 := zup_same
  have h33 : zup (zup (zup m10 332 32 0) 332 33 0) 332 53 0 332 33 = 0 := by rw [zup_nk (by decide), zup_same]
  have h32 : zup (zup (zup m10 332 32 0) 332 33 0) 332 53 0 332 32 = 0 := by rw [zup_nk (by decide), zup_nk (by decide), zup_same]
  rw [← o11 _ (by decide) (by decide) (by decide)] at h5 h2 h3 h1 h6
  have x11 : rMx (zup (zup (zup m10 332 32 0) 332 33 0) 332 53 0) D := ⟨zMp_eq (fun i hi => o11 i (fun z => by rw [z] at hi; cases hi) (fun z => by rw [z] at hi; cases hi) (fun z => by rw [z] at hi; cases hi)) p10, rDt_eq (fun a p q => e11 a (by omega)) c10.2, rNm_eq (fun a p q => e11 a (by omega)) (fun i p q => o11 i (by omega) (by omega) (by omega)) n10⟩
  generalize zup (zup (zup m10 332 32 0) 332 33 0) 332 53 0 = m11 at *
  have mk : ∀ Q' : zQ, (∀ m', rMS m' 0 (kRun (zPof D) []) → rBf 0 m11 m' → Q' none L m') → zwp 198 0 [zA 332, zI 0, zA 348, zI 0, zU] [] L m11 Q' := fun Q' kq => c_rmakes (Q := Q') (b := 0) (a := 348) (xs := []) hD ht hn (by decide) x11 (by decide) (mt348 ht) (Nat.zero_le _) zAL_nil (by decide) (fun y hy => by cases hy) kq
  refine mk _ (fun m12 s12 g12 => ?_)
  have ob : ∀ j, j ≠ 45 → j ≠ 46 → m12 332 j = m11 332 j := fun j q1 q2 => rBf_ob g12 q1 q2
  have row : ∀ a, a ≠ 332 → (a < 349 ∨ 359 < a) → m12 a = m11 a := fun a q1 q2 => rBf_row g12 q1 q2
  have p12 : zMp m12 := zMp_eq (fun i hi => ob i (zMk_n4 hi).1 (zMk_n4 hi).2) x11.1
  have d12 : rDt m12 D := rDt_eq (fun a p q => row a (by omega) (by omega)) x11.2.1
  have q8 : m12 332 8 = ((335 : Nat) : Int) := mp8 p12
  obtain ⟨v0, v1, v2, -⟩ := d12.2.1
  obtain ⟨l1, l2, l3, l4, l5⟩ := hD.2.2.1
  have r0 : (0 : Int) < ((10 : Nat) : Int) := by decide
  have r1 : (1 : Int) < ((10 : Nat) : Int) := by decide
  have r2 : (2 : Int) < ((10 : Nat) : Int) := by decide
  simp only [s199_13, s182_139, s182_140, s182_143, s182_144, s182_145, s182_146, s182_149, s182_150, s182_151, s182_152, s182_153, s182_156, s182_157, s182_158, s182_159, zpu_none, Int.toNat_natCast, true_and, and_true, true_or, or_true, false_or, or_false, zwr_id, zpu_some, zpu_none, reduceIte, Int.reduceLE, Int.reduceLT, Int.reduceEq, Int.reduceNeg, Int.reduceAdd, Int.reduceSub, Int.reduceMul, Int.reduceToNat, Nat.reduceAdd, Nat.reduceLeDiff, Nat.reduceEqDiff, Nat.reduceLT, eq_self, ne_eq, not_false_eq_true, not_true_eq_false, t0, q8, mt335 ht, mn335 hn, r0, r1, r2, v0, v1, v2, (show zwr (((dC D).length : Int) + ((dV D).length : Int)) = (((dC D).length + (dV D).length : Nat) : Int) from zwn (by omega) (by omega)), (show zwr ((((dC D).length + (dV D).length : Nat) : Int) + ((dO D).length : Int)) = (((dC D).length + (dV D).length + (dO D).length : Nat) : Int) from zwn (by omega) (by omega))]
  refine k m12 ⟨p12, ⟨by rw [ob 5 (by decide) (by decide)]; exact h5, Nat.zero_le _, zAL_nil, fun x hx => by cases hx⟩, by decide, by rw [ob 6 (by decide) (by decide)]; exact h6, ⟨by rw [ob 2 (by decide) (by decide)]; exact h2, by rw [ob 3 (by decide) (by decide)]; exact h3, by rw [ob 1 (by decide) (by decide)]; exact h1⟩, ⟨zAL_nil, by rw [ob 32 (by decide) (by decide)]; exact h32, by rw [ob 33 (by decide) (by decide)]; exact h33⟩, ⟨by rw [ob 53 (by decide) (by decide)]; exact h53, Nat.zero_le _, fun j q hq => by cases hq⟩, fun D' e => ?_⟩ (zFR_tr f11 (rBf_FR g12))
  have e' : some D = some D' := e
  cases e'
  exact ⟨d12, rNm_eq (fun a p q => row a (by omega) (by omega)) (fun i p q => ob i (by omega) (by omega)) x11.2.2, s12.2.2.1, s12.2.2.2.1, s12.2.2.2.2⟩
theorem c_rscript {L : zY} {m : zM} {Q : zQ} {g : zG} {n : Int} (ht : zMt L) (hn : zMn L) (hg : gOk g) (h : rSt m g) (k : ∀ m', rSt m' (sScript g n).2 → zFR 332 370 m m' → Q (some (zI (sScript g n).1)) L m') : zwp 182 0 [zA 332, zI n] [] L m Q := by
  have t0 := mt332 ht
  have h5 : m 332 5 = ((gT g).length : Int) := h.2.1.1
  by_cases hw : 0 ≤ n ∧ n ≤ ((gT g).length : Int)
  · unfold sScript at k
    rw [if_pos hw] at k
    simp only [s182_0, s182_1, s182_2, s182_3, s182_4, s182_5, s182_8, s182_11, s182_14, s182_17, s182_20, s182_21, s182_22, s182_23, s182_24, s182_27, s182_28, s182_29, s182_32, s182_33, s182_34, Int.toNat_natCast, true_and, and_true, true_or, or_true, false_or, or_false, zwr_id, zpu_some, zpu_none, reduceIte, Int.reduceLE, Int.reduceLT, Int.reduceEq, Int.reduceNeg, Int.reduceAdd, Int.reduceSub, Int.reduceMul, Int.reduceToNat, Nat.reduceAdd, Nat.reduceLeDiff, Nat.reduceEqDiff, Nat.reduceLT, eq_self, ne_eq, not_false_eq_true, not_true_eq_false, t0, h5, r_in, hw, and_self, r_unl2, r_ref t0]
    obtain ⟨N, rfl⟩ : ∃ N : Nat, n = (N : Int) := ⟨n.toNat, by omega⟩
    rw [Int.toNat_natCast] at k
    have hN : N ≤ (gT g).length := by omega
    have h1 := rSt_ran (why := 0) hg h
    have h2 := rSt_T0 (v := 0) hg h1
    have hg2 : gOk (([] : List Int), g.2.1, g.2.2.1, g.2.2.2.1, g.2.2.2.2.1, g.2.2.2.2.2.1, -1, 0) := gOk_0 hg
    have h3 : rSt (zup (zup (ran m 0) 332 5 0) 332 2 0) (([] : List Int), g.2.1, g.2.2.1, g.2.2.2.1, g.2.2.2.2.1, 0, -1, 0) := by
      refine rSt_g hg2 ⟨rfl, rfl, rfl, rfl⟩ (fun a j x y r => ?_) ⟨by rw [zup_nk (by decide)]; exact h2.2.1.1, h2.2.1.2.1, zAL_nil, h2.2.1.2.2.2⟩ zup_same (by rw [zup_nk (by decide)]; exact h2.2.2.2.2.1.2.1) (by rw [zup_nk (by decide)]; exact h2.2.2.2.2.1.2.2) h2
      by_cases z : a = 332
      · subst z; exact zup_nk (by omega)
      · exact zup_na z
    have hg3 : gOk (([] : List Int), g.2.1, g.2.2.1, g.2.2.2.1, g.2.2.2.2.1, 0, -1, 0) := gOk_0 hg
    have fr : zFR 332 370 m (zup (zup (ran m 0) 332 5 0) 332 2 0) := zFR_up (zFR_up zFR_ran (by decide) (by decide)) (by decide) (by decide)
    have hA : zAL (zup (zup (ran m 0) 332 5 0) 332 2 0) 333 0 (gT g) := zAL_eq (by rw [zup_nf (by decide), zup_nf (by decide), ran_o (by decide)]) h.2.1.2.2.1
    have lT : (gT g).length ≤ 300 := h.2.1.2.1
    have lt : ((gT g).take N).length = N := by rw [List.length_take]; omega
    generalize zup (zup (ran m 0) 332 5 0) 332 2 0 = m1 at *
    have ra := fun (Q' : zQ) k1 k2 => c_rall (Q := Q') (m := m1) (xs := (gT g).take N) ht hn h3.1 (by rw [lt]; omega) (fun j y hy => hA j y (by rw [List.getElem?_take_of_lt (by have := (List.getElem?_eq_some_iff.mp hy).1; omega)] at hy; exact hy)) (fun x hx => h.2.1.2.2.2 x (List.mem_of_mem_take hx)) k1 k2
    rw [lt] at ra
    refine ra _ (fun f pl hp m2 p2 e18 e19 f2 => ?_) (fun D hp m2 p2 d2 hD f2 => ?_)
    · rw [hp] at k
      dsimp only at k
      have e19' : zup m2 332 2 f 332 19 = (pl : Int) := by rw [zup_nk (by decide)]; exact e19
      simp only [s182_37, s182_40, s182_41, s182_42, s182_45, s182_48, s182_49, s182_50, s182_53, s182_56, s182_57, s182_58, s182_61, zpu_some, Int.toNat_natCast, true_and, and_true, true_or, or_true, false_or, or_false, zwr_id, zpu_some, zpu_none, reduceIte, Int.reduceLE, Int.reduceLT, Int.reduceEq, Int.reduceNeg, Int.reduceAdd, Int.reduceSub, Int.reduceMul, Int.reduceToNat, Nat.reduceAdd, Nat.reduceLeDiff, Nat.reduceEqDiff, Nat.reduceLT, eq_self, ne_eq, not_false_eq_true, not_true_eq_false, t0, e18, e19', r_no t0]
      exact k _ (rSt_3 hg3 (rSt_Hf hg3 h3 f2)) (zFR_tr fr (zFR_up (zFR_up (zFR_up (fun a ha => f2.1 a (by omega) (by omega)) (by decide) (by decide)) (by decide) (by decide)) (by decide) (by decide)))
    · rw [hp] at k
      dsimp only at k
      simp only [s182_37, zpu_some, Int.toNat_natCast, true_and, and_true, true_or, or_true, false_or, or_false, zwr_id, zpu_some, zpu_none, reduceIte, Int.reduceLE, Int.reduceLT, Int.reduceEq, Int.reduceNeg, Int.reduceAdd, Int.reduceSub, Int.reduceMul, Int.reduceToNat, Nat.reduceAdd, Nat.reduceLeDiff, Nat.reduceEqDiff, Nat.reduceLT, eq_self, ne_eq, not_false_eq_true, not_true_eq_false]
      exact c_rscr ht hn p2 d2 hD (by rw [f2.2.1 5 (by decide)]; exact h3.2.1.1) (by rw [f2.2.1 2 (by decide)]; exact h3.2.2.2.2.1.1) (by rw [f2.2.1 3 (by decide)]; exact h3.2.2.2.2.1.2.1) (by rw [f2.2.1 1 (by decide)]; exact h3.2.2.2.2.1.2.2) (zFR_tr fr (fun a ha => f2.1 a (by omega) (by omega))) k
  · have e1 : sScript g n = gN g 2 := if_neg hw
    rw [e1] at k
    simp only [s182_0, s182_1, s182_2, s182_3, s182_4, s182_5, s182_8, s182_11, s182_14, s182_17, s182_20, s182_21, Int.toNat_natCast, true_and, and_true, true_or, or_true, false_or, or_false, zwr_id, zpu_some, zpu_none, reduceIte, Int.reduceLE, Int.reduceLT, Int.reduceEq, Int.reduceNeg, Int.reduceAdd, Int.reduceSub, Int.reduceMul, Int.reduceToNat, Nat.reduceAdd, Nat.reduceLeDiff, Nat.reduceEqDiff, Nat.reduceLT, eq_self, ne_eq, not_false_eq_true, not_true_eq_false, t0, h5, r_in, hw, r_unl2, r_ref t0]
    exact k _ (rSt_ran hg h) zFR_ran
