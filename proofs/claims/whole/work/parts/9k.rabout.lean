theorem gOk_w {g : zG} {f p q : Int} (h : gOk g) : gOk (g.1, g.2.1, g.2.2.1, g.2.2.2.1, g.2.2.2.2.1, f, p, q) := by
  obtain ⟨T, od, R, C, H, f', p', q'⟩ := g
  exact h
theorem rBI_get {m : zM} {b i : Nat} {I : List zIt} (h : rBI m b I) (hi : i < I.length) : m 350 (200 * b + i) = itL I[i] ∧ m 351 (200 * b + i) = itM I[i] ∧ m 352 (200 * b + i) = itE I[i] ∧ m 353 (200 * b + i) = itK I[i] ∧ m 354 (200 * b + i) = itF I[i] ∧ m 355 (200 * b + i) = itN I[i] := by
  obtain ⟨-, h1, h2, h3, h4, h5, h6⟩ := h
  have al : ∀ (a : Nat) (f : zIt → Int), zAL m a (200 * b) (I.map f) → m a (200 * b + i) = f I[i] := fun a f hz => by
    have := zAL_get hz (show i < (I.map f).length by rw [List.length_map]; exact hi)
    rw [List.getElem_map] at this
    exact this
  exact ⟨al _ _ h1, al _ _ h2, al _ _ h3, al _ _ h4, al _ _ h5, al _ _ h6⟩
theorem rBP_get {m : zM} {b i : Nat} {pl : List (Int × Int × Int)} (h : rBP m b pl) (hi : i < pl.length) : m 357 (200 * b + i) = pl[i].1 ∧ m 358 (200 * b + i) = pl[i].2.1 ∧ m 359 (200 * b + i) = pl[i].2.2 := by
  obtain ⟨h1, h2, h3⟩ := h
  have al : ∀ (a : Nat) (f : Int × Int × Int → Int), zAL m a (200 * b) (pl.map f) → m a (200 * b + i) = f pl[i] := fun a f hz => by
    have := zAL_get hz (show i < (pl.map f).length by rw [List.length_map]; exact hi)
    rw [List.getElem_map] at this
    exact this
  exact ⟨al _ _ h1, al _ _ h2, al _ _ h3⟩
/-- what a SCRIPT brings -/
def rDs (m : zM) (D : zD) (R : List Int) (C : Nat) (s : zMS) : Prop := dOk D ∧ dLacks D = false ∧ (∀ x ∈ R, gSg D x = true) ∧ R.length ≤ 80 ∧ C ≤ R.length ∧ rDt m D ∧ rNm m D ∧ rB0 m s ∧ (∀ x ∈ msI s, itR D x) ∧ (msI s).length ≤ R.length ∧ s.2.2.1.length = R.length ∧ s = kRun (zPof D) R
theorem rs_D {m : zM} {g : zG} {D : zD} (hg : gOk g) (h : rSt m g) (e : gD g = some D) : rDs m D (gR g) (gC g) (gI g) := by
  obtain ⟨T, od, R, C, H, f, p, q⟩ := g
  have e : od = some D := e
  subst e
  obtain ⟨h1, h2, -, h4, h5, -⟩ := hg
  obtain ⟨d1, d2, d3, -⟩ := h2 D rfl
  obtain ⟨b1, b2, b3⟩ := h.2.2.2.2.2.2.2 D rfl
  have kI := kRun_I (R := R) d1 d3
  obtain ⟨l1, l2⟩ := gI_len (D := D) (R := R) d1 (by omega)
  exact ⟨d1, d2, d3, h4, h5, b1, b2, b3, fun x hx => (kI.1 x hx).1, l1, l2, rfl⟩
def rSo (x : zIt) : Int := if itL x ≠ -2 then (if itM x ≠ -2 then 0 else 1) else (if itM x ≠ -2 then 2 else 3)
theorem rSo_so {x : zIt} (h : 0 ≤ itK x) : rSo x = itSo x := by
  by_cases hb : itL x = -2 ∧ itM x = -2
  · have o : itO x ≠ -2 := by unfold itO; rw [if_pos hb]; omega
    unfold rSo itSo
    rw [if_neg (fun q : itL x ≠ -2 => q hb.1), if_neg (fun q : itM x ≠ -2 => q hb.2), if_pos o]
  · have o : itO x = -2 := if_neg hb
    have o' : ¬ (itO x ≠ -2) := fun q => q o
    unfold rSo itSo
    by_cases h1 : itL x = -2
    · have h2 : itM x ≠ -2 := fun q => hb ⟨h1, q⟩
      rw [if_neg (fun q : itL x ≠ -2 => q h1), if_pos h2, if_neg o', if_pos h1]
    · rw [if_pos h1, if_neg o', if_neg h1]
      by_cases h2 : itM x = -2
      · rw [if_neg (fun q : itM x ≠ -2 => q h2), if_pos h2]
      · rw [if_pos h2, if_neg h2]
theorem r_sort {L : zY} {m : zM} {Q : zQ} {b i : Nat} {x : zIt} (ht : zMt L) (hn : zMn L) (hp : zMp m) (hb : b ≤ 2) (hi : i < 200) (h1 : m 350 (200 * b + i) = itL x) (h2 : m 351 (200 * b + i) = itM x) : zwp 200 0 [zA 332, zI (b : Int), zI (i : Int), zU, zU, zU] [] L m Q ↔ Q (some (zI (rSo x))) L m := by
  have t0 := mt332 ht
  have q35 : m 332 35 = ((350 : Nat) : Int) := mp35 hp
  have q36 : m 332 36 = ((351 : Nat) : Int) := mp36 hp
  have hr : 0 ≤ ((200 * b + i : Nat) : Int) ∧ ((200 * b + i : Nat) : Int) < ((600 : Nat) : Int) := by omega
  unfold rSo
  by_cases c1 : itL x = -2
  · rw [c1] at h1
    rw [if_neg (fun q => q c1)]
    by_cases c2 : itM x = -2
    · rw [c2] at h2
      rw [if_neg (fun q => q c2)]
      simp only [s200_0, s200_3, s200_4, s200_5, s200_6, s200_7, s200_8, s200_9, s200_12, s200_13, s200_14, s200_16, s200_19, s200_20, s200_23, s200_24, s200_26, s200_27, s200_30, s200_31, s200_32, s200_34, s200_37, s200_38, s200_41, s200_42, s200_44, s200_46, s200_49, s200_51, s200_54, s200_55, s200_58, s200_60, s200_63, s200_64, s200_67, s200_69, s200_72, s200_73, s200_76, s200_77, Int.toNat_natCast, true_and, and_true, true_or, or_true, false_or, or_false, zwr_id, zpu_some, zpu_none, reduceIte, Int.reduceLE, Int.reduceLT, Int.reduceEq, Int.reduceNeg, Int.reduceAdd, Int.reduceSub, Int.reduceMul, Int.reduceToNat, Nat.reduceAdd, Nat.reduceLeDiff, Nat.reduceEqDiff, Nat.reduceLT, eq_self, ne_eq, not_false_eq_true, not_true_eq_false, t0, q35, q36, mt350 ht, mn350 hn, mt351 ht, mn351 hn, hr, and_self, (show zwr (200 * (b : Int)) = ((200 * b : Nat) : Int) from zwn (by omega) (by omega)), (show zwr (((200 * b : Nat) : Int) + (i : Int)) = ((200 * b + i : Nat) : Int) from zwn (by omega) (by omega)), h1, h2]
    · rw [if_pos c2]
      simp only [s200_0, s200_3, s200_4, s200_5, s200_6, s200_7, s200_8, s200_9, s200_12, s200_13, s200_14, s200_16, s200_19, s200_20, s200_23, s200_24, s200_26, s200_27, s200_30, s200_31, s200_32, s200_34, s200_37, s200_38, s200_41, s200_42, s200_44, s200_46, s200_49, s200_51, s200_54, s200_55, s200_58, s200_60, s200_63, s200_64, s200_67, s200_69, s200_72, s200_73, s200_76, s200_77, Int.toNat_natCast, true_and, and_true, true_or, or_true, false_or, or_false, zwr_id, zpu_some, zpu_none, reduceIte, Int.reduceLE, Int.reduceLT, Int.reduceEq, Int.reduceNeg, Int.reduceAdd, Int.reduceSub, Int.reduceMul, Int.reduceToNat, Nat.reduceAdd, Nat.reduceLeDiff, Nat.reduceEqDiff, Nat.reduceLT, eq_self, ne_eq, not_false_eq_true, not_true_eq_false, t0, q35, q36, mt350 ht, mn350 hn, mt351 ht, mn351 hn, hr, and_self, (show zwr (200 * (b : Int)) = ((200 * b : Nat) : Int) from zwn (by omega) (by omega)), (show zwr (((200 * b : Nat) : Int) + (i : Int)) = ((200 * b + i : Nat) : Int) from zwn (by omega) (by omega)), h1, h2, c2]
  · rw [if_pos c1]
    by_cases c2 : itM x = -2
    · rw [c2] at h2
      rw [if_neg (fun q => q c2)]
      simp only [s200_0, s200_3, s200_4, s200_5, s200_6, s200_7, s200_8, s200_9, s200_12, s200_13, s200_14, s200_16, s200_19, s200_20, s200_23, s200_24, s200_26, s200_27, s200_30, s200_31, s200_32, s200_34, s200_37, s200_38, s200_41, s200_42, s200_44, s200_46, s200_49, s200_51, s200_54, s200_55, s200_58, s200_60, s200_63, s200_64, s200_67, s200_69, s200_72, s200_73, s200_76, s200_77, Int.toNat_natCast, true_and, and_true, true_or, or_true, false_or, or_false, zwr_id, zpu_some, zpu_none, reduceIte, Int.reduceLE, Int.reduceLT, Int.reduceEq, Int.reduceNeg, Int.reduceAdd, Int.reduceSub, Int.reduceMul, Int.reduceToNat, Nat.reduceAdd, Nat.reduceLeDiff, Nat.reduceEqDiff, Nat.reduceLT, eq_self, ne_eq, not_false_eq_true, not_true_eq_false, t0, q35, q36, mt350 ht, mn350 hn, mt351 ht, mn351 hn, hr, and_self, (show zwr (200 * (b : Int)) = ((200 * b : Nat) : Int) from zwn (by omega) (by omega)), (show zwr (((200 * b : Nat) : Int) + (i : Int)) = ((200 * b + i : Nat) : Int) from zwn (by omega) (by omega)), h1, h2, c1]
    · rw [if_pos c2]
      simp only [s200_0, s200_3, s200_4, s200_5, s200_6, s200_7, s200_8, s200_9, s200_12, s200_13, s200_14, s200_16, s200_19, s200_20, s200_23, s200_24, s200_26, s200_27, s200_30, s200_31, s200_32, s200_34, s200_37, s200_38, s200_41, s200_42, s200_44, s200_46, s200_49, s200_51, s200_54, s200_55, s200_58, s200_60, s200_63, s200_64, s200_67, s200_69, s200_72, s200_73, s200_76, s200_77, Int.toNat_natCast, true_and, and_true, true_or, or_true, false_or, or_false, zwr_id, zpu_some, zpu_none, reduceIte, Int.reduceLE, Int.reduceLT, Int.reduceEq, Int.reduceNeg, Int.reduceAdd, Int.reduceSub, Int.reduceMul, Int.reduceToNat, Nat.reduceAdd, Nat.reduceLeDiff, Nat.reduceEqDiff, Nat.reduceLT, eq_self, ne_eq, not_false_eq_true, not_true_eq_false, t0, q35, q36, mt350 ht, mn350 hn, mt351 ht, mn351 hn, hr, and_self, (show zwr (200 * (b : Int)) = ((200 * b : Nat) : Int) from zwn (by omega) (by omega)), (show zwr (((200 * b : Nat) : Int) + (i : Int)) = ((200 * b + i : Nat) : Int) from zwn (by omega) (by omega)), h1, h2, c1, c2]
theorem c_rbreaks {L : zY} {m : zM} {Q : zQ} {R : List Int} (ht : zMt L) (hn : zMn L) (hp : zMp m) (hR : R.length ≤ 80) (h32 : m 332 32 = (R.length : Int)) (hA : zAL m 348 0 R) : zwp 206 0 [zA 332, zU, zU] [] L m Q ↔ Q (some (zI (rBr R : Nat))) L m := by
  refine zwp_det ?_
  have t0 := mt332 ht
  have q31 : m 332 31 = ((348 : Nat) : Int) := mp31 hp
  simp only [s206_0, s206_1, s206_2, s206_3]
  refine zfor (n := R.length) (fun i => [zA 332, zI (rBr (R.take i) : Nat), zI (i : Nat)]) (fun _ m' => m' = m) ?_ ?_ 0 m (Nat.zero_le _) rfl
  · rintro i m hi rfl ih
    have ih := ih _ rfl
    have b := rBr_le (xs := R) (i := i)
    rw [rBr_s hi] at ih
    have n1 : ¬ (R.length : Int) ≤ (i : Int) := by omega
    have iv : i < 1000000 := by omega
    have hr : 0 ≤ (i : Int) ∧ (i : Int) < ((80 : Nat) : Int) := by omega
    simp only [s206_4]
    simp only [s206_5, s206_6, s206_9, s206_12, s206_13, s206_14, s206_17, s206_18, s206_19, Int.toNat_natCast, true_and, and_true, true_or, or_true, false_or, or_false, zwr_id, zpu_some, zpu_none, reduceIte, Int.reduceLE, Int.reduceLT, Int.reduceEq, Int.reduceNeg, Int.reduceAdd, Int.reduceSub, Int.reduceMul, Int.reduceToNat, Nat.reduceAdd, Nat.reduceLeDiff, Nat.reduceEqDiff, Nat.reduceLT, eq_self, ne_eq, not_false_eq_true, not_true_eq_false, t0, h32, n1, q31, mt348 ht, mn348 hn, hr, and_self, zAL_get0 hA hi]
    simp only [s206_21]
    by_cases e : R[i] = 124
    · rw [if_pos e] at ih ⊢
      simp only [s206_24, s206_25, s206_28, s206_29, s206_30, s206_31, s206_34, (show zwr ((rBr (R.take i) : Int) + 1) = ((rBr (R.take i) + 1 : Nat) : Int) from zwn (by omega) (by omega)), z1 iv]
      exact ih
    · rw [if_neg e] at ih ⊢
      simp only [s206_28, s206_29, s206_30, s206_31, s206_34, (show zwr ((rBr (R.take i) : Int) + 0) = ((rBr (R.take i) + 0 : Nat) : Int) from zwn (by omega) (by omega)), z1 iv]
      exact ih
  · rintro m rfl
    have n1 : (R.length : Int) ≤ (R.length : Int) := by omega
    rw [List.take_length]
    simp only [s206_4]
    simp only [s206_5, s206_6, s206_9, s206_37, s206_38, Int.toNat_natCast, true_and, and_true, true_or, or_true, false_or, or_false, zwr_id, zpu_some, zpu_none, reduceIte, Int.reduceLE, Int.reduceLT, Int.reduceEq, Int.reduceNeg, Int.reduceAdd, Int.reduceSub, Int.reduceMul, Int.reduceToNat, Nat.reduceAdd, Nat.reduceLeDiff, Nat.reduceEqDiff, Nat.reduceLT, eq_self, ne_eq, not_false_eq_true, not_true_eq_false, t0, h32, n1]
theorem c_rblocks {L : zY} {m : zM} {Q : zQ} {I : List zIt} (ht : zMt L) (hn : zMn L) (hp : zMp m) (hI : rBI m 0 I) (hl : I.length ≤ 80) (hK : ∀ x ∈ I, 0 ≤ itK x) : zwp 207 0 [zA 332, zU, zU] [] L m Q ↔ Q (some (zI (rBl I : Nat))) L m := by
  refine zwp_det ?_
  have t0 := mt332 ht
  have q34 : m 332 34 = ((349 : Nat) : Int) := mp34 hp
  have h49 : m 349 0 = (I.length : Int) := hI.1
  have b0 : (0 : Int) < ((3 : Nat) : Int) := by decide
  simp only [s207_0, s207_1, s207_2, s207_3]
  refine zfor (n := I.length) (fun i => [zA 332, zI (rBl (I.take i) : Nat), zI (i : Nat)]) (fun _ m' => m' = m) ?_ ?_ 0 m (Nat.zero_le _) rfl
  · rintro i m hi rfl ih
    have ih := ih _ rfl
    have b := rBl_le (xs := I) (i := i)
    rw [rBl_s hi] at ih
    have n1 : ¬ (I.length : Int) ≤ (i : Int) := by omega
    have iv : i < 1000000 := by omega
    obtain ⟨x1, x2, -⟩ := rBI_get hI hi
    have so := fun Q' : zQ => r_sort (Q := Q') (b := 0) (i := i) ht hn hp (by decide) (by omega) x1 x2
    rw [rSo_so (hK _ (List.getElem_mem hi))] at so
    simp only [s207_4]
    simp only [Int.cast_ofNat_Int] at so
    simp only [s207_5, s207_6, s207_9, s207_10, s207_11, s207_14, s207_15, s207_16, s207_17, s207_18, Int.toNat_natCast, true_and, and_true, true_or, or_true, false_or, or_false, zwr_id, zpu_some, zpu_none, reduceIte, Int.reduceLE, Int.reduceLT, Int.reduceEq, Int.reduceNeg, Int.reduceAdd, Int.reduceSub, Int.reduceMul, Int.reduceToNat, Nat.reduceAdd, Nat.reduceLeDiff, Nat.reduceEqDiff, Nat.reduceLT, eq_self, ne_eq, not_false_eq_true, not_true_eq_false, t0, q34, mt349 ht, mn349 hn, b0, h49, n1, so]
    simp only [s207_21]
    by_cases e : itSo I[i] = 0
    · rw [if_pos e] at ih ⊢
      simp only [s207_24, s207_25, s207_28, s207_29, s207_30, s207_31, s207_34, (show zwr ((rBl (I.take i) : Int) + 1) = ((rBl (I.take i) + 1 : Nat) : Int) from zwn (by omega) (by omega)), z1 iv]
      exact ih
    · rw [if_neg e] at ih ⊢
      simp only [s207_28, s207_29, s207_30, s207_31, s207_34, (show zwr ((rBl (I.take i) : Int) + 0) = ((rBl (I.take i) + 0 : Nat) : Int) from zwn (by omega) (by omega)), z1 iv]
      exact ih
  · rintro m rfl
    have n1 : (I.length : Int) ≤ (I.length : Int) := by omega
    rw [List.take_length]
    simp only [s207_4]
    simp only [s207_5, s207_6, s207_9, s207_10, s207_11, s207_37, s207_38, Int.toNat_natCast, true_and, and_true, true_or, or_true, false_or, or_false, zwr_id, zpu_some, zpu_none, reduceIte, Int.reduceLE, Int.reduceLT, Int.reduceEq, Int.reduceNeg, Int.reduceAdd, Int.reduceSub, Int.reduceMul, Int.reduceToNat, Nat.reduceAdd, Nat.reduceLeDiff, Nat.reduceEqDiff, Nat.reduceLT, eq_self, ne_eq, not_false_eq_true, not_true_eq_false, t0, q34, mt349 ht, mn349 hn, b0, h49, n1]
theorem rSt_6 {m : zM} {g : zG} (h : rSt m g) : (gD g = none → m 332 6 = 0) ∧ (∀ D, gD g = some D → m 332 6 = 1) := by
  have := h.2.2.2.1
  exact ⟨fun e => by rw [e] at this; exact this, fun D e => by rw [e] at this; exact this⟩
theorem c_rabout {L : zY} {m : zM} {Q : zQ} {g : zG} {what : Int} (ht : zMt L) (hn : zMn L) (hg : gOk g) (h : rSt m g) (k : ∀ m', rSt m' (sAbout g what).2 → zFR 332 370 m m' → Q (some (zI (sAbout g what).1)) L m') : zwp 208 0 [zA 332, zI what] [] L m Q := by
  have t0 := mt332 ht
  cases hd : gD g with
  | none =>
    have e : sAbout g what = gN g 1 := by unfold sAbout; rw [hd]
    rw [e] at k
    simp only [s208_0, s208_1, s208_2, s208_5, s208_22, s208_23, s208_26, s208_29, s208_32, s208_33, Int.toNat_natCast, true_and, and_true, true_or, or_true, false_or, or_false, zwr_id, zpu_some, zpu_none, reduceIte, Int.reduceLE, Int.reduceLT, Int.reduceEq, Int.reduceNeg, Int.reduceAdd, Int.reduceSub, Int.reduceMul, Int.reduceToNat, Nat.reduceAdd, Nat.reduceLeDiff, Nat.reduceEqDiff, Nat.reduceLT, eq_self, ne_eq, not_false_eq_true, not_true_eq_false, t0, (rSt_6 h).1 hd, r_unl, r_ref t0]
    exact k _ (rSt_ran hg h) zFR_ran
  | some D =>
    by_cases hw : 0 ≤ what ∧ what ≤ 12
    · have e : sAbout g what = gA g (fAbout D g what) := by unfold sAbout; rw [hd]; exact if_pos hw
      rw [e] at k
      have h1 := rSt_ran (why := 0) hg h
      simp only [s208_0, s208_1, s208_2, s208_5, s208_8, s208_9, s208_10, s208_12, s208_15, s208_18, s208_19, s208_22, s208_23, s208_26, s208_29, s208_32, s208_33, s208_34, Int.toNat_natCast, true_and, and_true, true_or, or_true, false_or, or_false, zwr_id, zpu_some, zpu_none, reduceIte, Int.reduceLE, Int.reduceLT, Int.reduceEq, Int.reduceNeg, Int.reduceAdd, Int.reduceSub, Int.reduceMul, Int.reduceToNat, Nat.reduceAdd, Nat.reduceLeDiff, Nat.reduceEqDiff, Nat.reduceLT, eq_self, ne_eq, not_false_eq_true, not_true_eq_false, t0, (rSt_6 h).2 D hd, r_in, hw, and_self, r_unl, r_ref t0]
      have kk := k _ h1 zFR_ran
      obtain ⟨d1, d2, d3, d4, d5, d6, d7, ⟨d8, d9, d10⟩, d11, d12, d13, -⟩ := rs_D (g := (g.1, g.2.1, g.2.2.1, g.2.2.2.1, g.2.2.2.2.1, g.2.2.2.2.2.1, -1, 0)) (gOk_w hg) h1 hd
      have p1 := h1.1
      have h32 : ran m 0 332 32 = ((gR g).length : Int) := h1.2.2.2.2.2.1.2.1
      have h33 : ran m 0 332 33 = (gC g : Int) := h1.2.2.2.2.2.1.2.2
      have h53 : ran m 0 332 53 = ((gH g).length : Int) := h1.2.2.2.2.2.2.1.1
      have hA : zAL (ran m 0) 348 0 (gR g) := h1.2.2.2.2.2.1.1
      clear k
      generalize ran m 0 = m1 at *
      have q8 : m1 332 8 = ((335 : Nat) : Int) := mp8 p1
      have q34 : m1 332 34 = ((349 : Nat) : Int) := mp34 p1
      have q41 : m1 332 41 = ((356 : Nat) : Int) := mp41 p1
      have c0 : m1 335 0 = ((dC D).length : Int) := d6.2.1.1
      have c1 : m1 335 1 = ((dV D).length : Int) := d6.2.1.2.1
      have c2 : m1 335 2 = ((dO D).length : Int) := d6.2.1.2.2.1
      have l0 : m1 332 20 = ((dnL D : Nat) : Int) := by rw [d7.1.2.1.1, List.length_append]; rfl
      have l1 : m1 332 21 = ((dnM D : Nat) : Int) := by rw [d7.1.2.1.2.1, rM_len]
      have l2 : m1 332 22 = ((dnE D : Nat) : Int) := by rw [d7.1.2.1.2.2, rE_len]
      have h49 : m1 349 0 = ((msI (gI g)).length : Int) := d8.1
      have h56 : m1 356 0 = (gI g).2.2.2 := d10
      have hI : rBI m1 0 (msI (gI g)) := d8
      have hl : (msI (gI g)).length ≤ 80 := Nat.le_trans d12 d4
      have br := fun Q' : zQ => c_rbreaks (Q := Q') ht hn p1 d4 h32 hA
      have bl := fun Q' : zQ => c_rblocks (Q := Q') ht hn p1 hI hl (fun x hx => (d11 x hx).2.2.2.1)
      have t5 := mt335 ht
      have n5 := mn335 hn
      have t9 := mt349 ht
      have n9 := mn349 hn
      have t6 := mt356 ht
      have n6 := mn356 hn
      clear d1 d2 d3 d4 d5 d6 d7 d8 d9 d10 d11 d12 d13 h1 hI hl hA p1 e h
      have b0 : (0 : Int) < ((10 : Nat) : Int) := by decide
      have b1 : (1 : Int) < ((10 : Nat) : Int) := by decide
      have b2 : (2 : Int) < ((10 : Nat) : Int) := by decide
      have b3 : (0 : Int) < ((3 : Nat) : Int) := by decide
      have : what = 0 ∨ what = 1 ∨ what = 2 ∨ what = 3 ∨ what = 4 ∨ what = 5 ∨ what = 6 ∨ what = 7 ∨ what = 8 ∨ what = 9 ∨ what = 10 ∨ what = 11 ∨ what = 12 := by omega
      clear hw
      rcases this with e | e | e | e | e | e | e | e | e | e | e | e | e <;> subst e <;> simp only [s208_35, s208_96, s208_97, s208_100, s208_101, s208_102, s208_103, s208_104, s208_107, s208_108, s208_109, s208_110, s208_111, s208_114, s208_115, s208_116, s208_117, s208_118, s208_121, s208_122, s208_123, s208_126, s208_127, s208_128, s208_131, s208_132, s208_133, s208_136, s208_137, s208_138, s208_141, s208_142, s208_143, s208_144, s208_145, s208_148, s208_149, s208_150, s208_153, s208_154, s208_155, s208_156, s208_157, s208_160, s208_161, s208_162, s208_165, s208_166, s208_167, s208_170, Int.toNat_natCast, true_and, and_true, true_or, or_true, false_or, or_false, zwr_id, zpu_some, zpu_none, reduceIte, Int.reduceLE, Int.reduceLT, Int.reduceEq, Int.reduceNeg, Int.reduceAdd, Int.reduceSub, Int.reduceMul, Int.reduceToNat, Nat.reduceAdd, Nat.reduceLeDiff, Nat.reduceEqDiff, Nat.reduceLT, eq_self, ne_eq, not_false_eq_true, not_true_eq_false, t0, q8, q34, q41, t5, n5, t9, n9, t6, n6, b0, b1, b2, b3, c0, c1, c2, l0, l1, l2, h32, h33, h53, h49, h56, br, bl] <;> exact kk
    · have e : sAbout g what = gN g 1 := by unfold sAbout; rw [hd]; exact if_neg hw
      rw [e] at k
      simp only [s208_0, s208_1, s208_2, s208_5, s208_8, s208_9, s208_10, s208_12, s208_15, s208_18, s208_19, s208_22, s208_23, s208_26, s208_29, s208_32, s208_33, Int.toNat_natCast, true_and, and_true, true_or, or_true, false_or, or_false, zwr_id, zpu_some, zpu_none, reduceIte, Int.reduceLE, Int.reduceLT, Int.reduceEq, Int.reduceNeg, Int.reduceAdd, Int.reduceSub, Int.reduceMul, Int.reduceToNat, Nat.reduceAdd, Nat.reduceLeDiff, Nat.reduceEqDiff, Nat.reduceLT, eq_self, ne_eq, not_false_eq_true, not_true_eq_false, t0, (rSt_6 h).2 D hd, r_in, hw, r_unl, r_ref t0]
      exact k _ (rSt_ran hg h) zFR_ran
