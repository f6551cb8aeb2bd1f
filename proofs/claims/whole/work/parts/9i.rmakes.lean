theorem kSign_124 {P : zP} {s : zMS} : kSign P 124 s = kBreak s := if_neg (fun q => absurd q.2.1 (by decide))
theorem c_rcomes {L : zY} {m : zM} {Q : zQ} {b : Nat} {s : zMS} {D : zD} {x : Int} (hD : dOk D) (ht : zMt L) (hn : zMn L) (hb : b ≤ 1) (hx : rMx m D) (hs : rMS m b s) (hX : msX (dnE D) s) (hI : ∀ x, s.2.1 = some x → itM x = -2 ∨ 0 ≤ itM x) (hp : s.2.2.1.length < 199) (hg : gSg D x = true) (k : ∀ m', rMS m' b (kSign (zPof D) x s) → rBf b m m' → Q none L m') : zwp 197 0 [zA 332, zI (s.2.2.1.length : Int), zI x, zU] [] L m Q := by
  have t0 := mt332 ht
  have h45 := hs.1
  have q44 : m 332 44 = ((359 : Nat) : Int) := mp44 hx.1
  have hrp : 0 ≤ ((200 * b + s.2.2.1.length : Nat) : Int) ∧ ((200 * b + s.2.2.1.length : Nat) : Int) < ((400 : Nat) : Int) := by omega
  simp only [s197_0, s197_1, s197_4, s197_7, s197_8, s197_11, s197_12, s197_13, s197_14, s197_15, s197_16, s197_17, Int.toNat_natCast, true_and, and_true, true_or, or_true, false_or, or_false, zwr_id, zpu_some, zpu_none, reduceIte, Int.reduceLE, Int.reduceLT, Int.reduceEq, Int.reduceNeg, Int.reduceAdd, Int.reduceSub, Int.reduceMul, Int.reduceToNat, Nat.reduceAdd, Nat.reduceLeDiff, Nat.reduceEqDiff, Nat.reduceLT, eq_self, ne_eq, not_false_eq_true, not_true_eq_false, t0, q44, h45, mt359 ht, mn359 hn, hrp, and_self, (show zwr (200 * (b : Int)) = ((200 * b : Nat) : Int) from zwn (by omega) (by omega)), (show zwr (((200 * b : Nat) : Int) + (s.2.2.1.length : Int)) = ((200 * b + s.2.2.1.length : Nat) : Int) from zwn (by omega) (by omega))]
  have f1 : rBf b m (zup m 359 (200 * b + s.2.2.1.length) 0) := rBf_up rBf_rf (by unfold rIn; omega)
  have s1 := rMS_9 (v := 0) hs
  have h9 : zup m 359 (200 * b + s.2.2.1.length) 0 359 (200 * b + s.2.2.1.length) = 0 := zup_same
  have x1 := rMx_Bf f1 hx
  replace k : ∀ m', rMS m' b (kSign (zPof D) x s) → rBf b (zup m 359 (200 * b + s.2.2.1.length) 0) m' → Q none L m' := fun m' a1 a2 => k m' a1 (rBf_tr f1 a2)
  clear hx hs h45 q44 f1
  generalize zup m 359 (200 * b + s.2.2.1.length) 0 = m1 at *
  have h45 := s1.1
  simp only [s197_19]
  by_cases h124 : x = 124
  · rw [if_pos h124]
    rw [h124, kSign_124] at k
    have q42 : m1 332 42 = ((357 : Nat) : Int) := mp42 x1.1
    have q43 : m1 332 43 = ((358 : Nat) : Int) := mp43 x1.1
    simp only [s197_22, s197_23, s197_24, s197_27, s197_28, s197_31, s197_34, s197_35, s197_38, s197_39, s197_40, s197_41, s197_43, s197_44, s197_45, s197_48, s197_51, s197_52, s197_55, s197_56, s197_57, s197_58, s197_60, s197_61, Int.toNat_natCast, true_and, and_true, true_or, or_true, false_or, or_false, zwr_id, zpu_some, zpu_none, reduceIte, Int.reduceLE, Int.reduceLT, Int.reduceEq, Int.reduceNeg, Int.reduceAdd, Int.reduceSub, Int.reduceMul, Int.reduceToNat, Nat.reduceAdd, Nat.reduceLeDiff, Nat.reduceEqDiff, Nat.reduceLT, eq_self, ne_eq, not_false_eq_true, not_true_eq_false, t0, q42, q43, h45, mt357 ht, mn357 hn, mt358 ht, mn358 hn, hrp, and_self, (show zwr (200 * (b : Int)) = ((200 * b : Nat) : Int) from zwn (by omega) (by omega)), (show zwr (((200 * b : Nat) : Int) + (s.2.2.1.length : Int)) = ((200 * b + s.2.2.1.length : Nat) : Int) from zwn (by omega) (by omega)), zup_nk (show (42 : Nat) ≠ 46 by decide), zup_nk (show (43 : Nat) ≠ 46 by decide), zup_nk (show (45 : Nat) ≠ 46 by decide), zup_na (show (332 : Nat) ≠ 357 by decide)]
    exact k _ (rMS_brk s1 h9) (rBf_up (rBf_up (rBf_up rBf_rf (by unfold rIn; omega)) (by unfold rIn; omega)) (by unfold rIn; omega))
  · rw [if_neg h124]
    obtain ⟨c, hc, rfl, hs1⟩ := gSg_key hg h124
    rw [kSign_key hc hs1] at k
    have q7 : m1 332 7 = ((334 : Nat) : Int) := mp7 x1.1
    have hsort : m1 334 c = dS D c := x1.2.1.1 c hc
    have hrc : 0 ≤ (c : Int) ∧ (c : Int) < ((52 : Nat) : Int) := by omega
    simp only [s197_62, s197_63, s197_65, s197_66, s197_67, s197_68, s197_71, s197_72, s197_73, Int.toNat_natCast, true_and, and_true, true_or, or_true, false_or, or_false, zwr_id, zpu_some, zpu_none, reduceIte, Int.reduceLE, Int.reduceLT, Int.reduceEq, Int.reduceNeg, Int.reduceAdd, Int.reduceSub, Int.reduceMul, Int.reduceToNat, Nat.reduceAdd, Nat.reduceLeDiff, Nat.reduceEqDiff, Nat.reduceLT, eq_self, ne_eq, not_false_eq_true, not_true_eq_false, t0, q7, mt334 ht, mn334 hn, hrc, and_self, hsort, (show zwr (kk c - 97) = ((c : Nat) : Int) from zwn (by unfold kk; omega) (by omega))]
    simp only [s197_74]
    by_cases h4 : dS D c = 4
    · rw [if_pos h4] at k ⊢
      obtain ⟨len, h49⟩ := rMS_len s1 hX.1 hp
      have gb := fun (Q' : zQ) => r_begins (Q := Q') (at0 := (s.2.2.1.length : Int)) (l := -2) (mm := -2) (key := (c : Int)) ht hn x1.1 s1.1 (show b ≤ 2 by omega) h49 len
      have hR := rbeg_f (m := m1) (b := b) (l := -2) (mm := -2) (k := (c : Int)) (f := (s.2.2.1.length : Int)) len
      have hm : rbeg m1 b (msI s).length (-2) (-2) (c : Int) (s.2.2.1.length : Int) 355 (200 * b + (msI s).length) = 0 := by unfold rbeg; rw [zup_na (by decide), zup_same]
      have gt := fun (Q' : zQ) => r_takes (Q := Q') (p := s.2.2.1.length) (part := 3) ht hn (zMp_Bf hR x1.1) (show rbeg m1 b (msI s).length (-2) (-2) (c : Int) (s.2.2.1.length : Int) 332 45 = (b : Int) by rw [rbeg_o (by decide)]; exact s1.1) hb (show s.2.2.1.length < 200 by omega) len (by rw [hm]; decide)
      simp only [s197_77, s197_78, s197_79, s197_80, s197_81, s197_83, s197_85, s197_86, s197_89, s197_90, s197_93, s197_94, s197_95, s197_98, s197_126, Int.toNat_natCast, true_and, and_true, true_or, or_true, false_or, or_false, zwr_id, zpu_some, zpu_none, reduceIte, Int.reduceLE, Int.reduceLT, Int.reduceEq, Int.reduceNeg, Int.reduceAdd, Int.reduceSub, Int.reduceMul, Int.reduceToNat, Nat.reduceAdd, Nat.reduceLeDiff, Nat.reduceEqDiff, Nat.reduceLT, eq_self, ne_eq, not_false_eq_true, not_true_eq_false, t0, gb, gt]
      exact k _ (rMS_alone s1 h9) (rBf_up (rBf_tr hR (rtak_f (by omega) len)) (by unfold rIn; omega))
    · rw [if_neg h4] at k ⊢
      simp only [s197_101, s197_102, s197_105, s197_106, s197_107, Int.toNat_natCast, true_and, and_true, true_or, or_true, false_or, or_false, zwr_id, zpu_some, zpu_none, reduceIte, Int.reduceLE, Int.reduceLT, Int.reduceEq, Int.reduceNeg, Int.reduceAdd, Int.reduceSub, Int.reduceMul, Int.reduceToNat, Nat.reduceAdd, Nat.reduceLeDiff, Nat.reduceEqDiff, Nat.reduceLT, eq_self, ne_eq, not_false_eq_true, not_true_eq_false, t0, q7, mt334 ht, mn334 hn, hrc, and_self, hsort]
      simp only [s197_108]
      by_cases h3 : dS D c = 3
      · rw [if_pos h3] at k ⊢
        simp only [s197_111, s197_112, s197_113, s197_114, true_and, t0]
        refine c_rvow hD ht hn hb x1 s1 hX hI hp h9 hc (fun m' a1 a2 => ?_)
        simp only [s197_117, s197_126, zpu_none]
        exact k m' a1 a2
      · rw [if_neg h3] at k ⊢
        simp only [s197_120, s197_121, s197_122, s197_123, true_and, t0]
        refine c_rcons hD ht hn hb x1 s1 hX hp h9 hc (fun m' a1 a2 => ?_)
        simp only [s197_126, zpu_none]
        exact k m' a1 a2
theorem kRun_s {P : zP} {xs : List Int} {i : Nat} (hi : i < xs.length) : kRun P (xs.take (i + 1)) = kSign P xs[i] (kRun P (xs.take i)) := by
  unfold kRun
  rw [take_s hi, List.foldl_append]
  rfl
theorem c_rmakes {L : zY} {m : zM} {Q : zQ} {b a : Nat} {xs : List Int} {D : zD} (hD : dOk D) (ht : zMt L) (hn : zMn L) (hb : b ≤ 1) (hx : rMx m D) (ha : a ≠ 332 ∧ (a < 349 ∨ 359 < a)) (ta : zt L a = 20) (na : xs.length ≤ zn L a) (hA : zAL m a 0 xs) (hl : xs.length ≤ 198) (hg : ∀ y ∈ xs, gSg D y = true) (k : ∀ m', rMS m' b (kRun (zPof D) xs) → rBf b m m' → Q none L m') : zwp 198 0 [zA 332, zI (b : Int), zA a, zI (xs.length : Int), zU] [] L m Q := by
  have t0 := mt332 ht
  have hrb : 0 ≤ (b : Int) ∧ (b : Int) < ((3 : Nat) : Int) := by omega
  have q34 : m 332 34 = ((349 : Nat) : Int) := mp34 hx.1
  have q41 : m 332 41 = ((356 : Nat) : Int) := mp41 hx.1
  simp only [s198_0, s198_1, s198_2, s198_5, s198_6, s198_9, s198_10, s198_13, s198_14, s198_15, s198_16, s198_19, s198_20, s198_23, s198_24, s198_25, s198_26, s198_27, s198_30, s198_31, Int.toNat_natCast, true_and, and_true, true_or, or_true, false_or, or_false, zwr_id, zpu_some, zpu_none, reduceIte, Int.reduceLE, Int.reduceLT, Int.reduceEq, Int.reduceNeg, Int.reduceAdd, Int.reduceSub, Int.reduceMul, Int.reduceToNat, Nat.reduceAdd, Nat.reduceLeDiff, Nat.reduceEqDiff, Nat.reduceLT, eq_self, ne_eq, not_false_eq_true, not_true_eq_false, t0, zup_same, zup_nk (show (34 : Nat) ≠ 45 by decide), zup_nk (show (41 : Nat) ≠ 45 by decide), zup_na (show (332 : Nat) ≠ 349 by decide), zup_na (show (332 : Nat) ≠ 356 by decide), q34, q41, mt349 ht, mn349 hn, mt356 ht, mn356 hn, hrb, and_self]
  have f0 : rBf b m (zup (zup (zup (zup m 332 45 (b : Int)) 349 b 0) 356 b 0) 332 46 (-1)) := rBf_up (rBf_up (rBf_up (rBf_up rBf_rf (by unfold rIn; omega)) (by unfold rIn; omega)) (by unfold rIn; omega)) (by unfold rIn; omega)
  have s0 : rMS (zup (zup (zup (zup m 332 45 (b : Int)) 349 b 0) 356 b 0) 332 46 (-1)) b ms0 := ⟨by rw [zup_nk (by decide), zup_na (by decide), zup_na (by decide), zup_same], zup_same, ⟨by rw [zup_na (by decide), zup_na (by decide), zup_same]; rfl, zAL_nil, zAL_nil, zAL_nil, zAL_nil, zAL_nil, zAL_nil⟩, ⟨zAL_nil, zAL_nil, zAL_nil⟩, by rw [zup_na (by decide), zup_same]; rfl⟩
  generalize zup (zup (zup (zup m 332 45 (b : Int)) 349 b 0) 356 b 0) 332 46 (-1) = m0 at *
  refine zfor (n := xs.length) (fun i => [zA 332, zI (b : Int), zA a, zI (xs.length : Int), zI (i : Nat)]) (fun i m' => rMS m' b (kRun (zPof D) (xs.take i)) ∧ rBf b m m') ?_ ?_ 0 m0 (Nat.zero_le _) ⟨by rw [List.take_zero]; exact s0, f0⟩
  · rintro i m1 hi ⟨g1, f1⟩ ih
    have n1 : ¬ (xs.length : Int) ≤ (i : Int) := by omega
    have iv : i < 1000000 := by omega
    have hr : 0 ≤ (i : Int) ∧ (i : Int) < (zn L a : Int) := by omega
    have gi : m1 a i = xs[i] := by rw [rBf_row f1 ha.1 ha.2]; exact zAL_get0 hA hi
    obtain ⟨kx, kl⟩ := kRun_ok (R := xs.take i) (dOk_Pk hD)
    rw [List.length_take, Nat.min_eq_left (by omega)] at kl
    have kI := kRun_I (R := xs.take i) hD (fun y hy => hg y (List.mem_of_mem_take hy))
    have hI : ∀ x, (kRun (zPof D) (xs.take i)).2.1 = some x → itM x = -2 ∨ 0 ≤ itM x := fun x hx' => by
      have := (kI.1 x (by rw [msI_some hx']; simp)).1.2.1
      omega
    rw [kRun_s hi] at ih
    have gy := hg _ (List.getElem_mem hi)
    generalize kRun (zPof D) (xs.take i) = s at *
    generalize xs[i] = y at *
    simp only [s198_33]
    simp only [s198_35, s198_36, s198_39, s198_40, s198_42, s198_43, s198_45, s198_46, Int.toNat_natCast, true_and, and_true, true_or, or_true, false_or, or_false, zwr_id, zpu_some, zpu_none, reduceIte, Int.reduceLE, Int.reduceLT, Int.reduceEq, Int.reduceNeg, Int.reduceAdd, Int.reduceSub, Int.reduceMul, Int.reduceToNat, Nat.reduceAdd, Nat.reduceLeDiff, Nat.reduceEqDiff, Nat.reduceLT, eq_self, ne_eq, not_false_eq_true, not_true_eq_false, n1, t0, ta, hr, and_self, gi]
    rw [← kl]
    refine c_rcomes hD ht hn hb (rMx_Bf f1 hx) g1 kx hI (by omega) gy (fun m2 a1 a2 => ?_)
    simp only [s198_49, s198_52, zpu_none, kl, z1 iv]
    exact ih m2 ⟨a1, rBf_tr f1 a2⟩
  · rintro m1 ⟨g1, f1⟩
    rw [List.take_length] at g1
    have n1 : (xs.length : Int) ≤ (xs.length : Int) := by omega
    simp only [s198_33]
    simp only [s198_35, s198_36, s198_55, Int.toNat_natCast, true_and, and_true, true_or, or_true, false_or, or_false, zwr_id, zpu_some, zpu_none, reduceIte, Int.reduceLE, Int.reduceLT, Int.reduceEq, Int.reduceNeg, Int.reduceAdd, Int.reduceSub, Int.reduceMul, Int.reduceToNat, Nat.reduceAdd, Nat.reduceLeDiff, Nat.reduceEqDiff, Nat.reduceLT, eq_self, ne_eq, not_false_eq_true, not_true_eq_false, n1]
    exact k m1 g1 f1
