/-! the reference's ACTS -/
theorem rSt_act {m m' : zM} {g : zG} {D : zD} {R' : List Int} {C' : Nat} (hd : gD g = some D) (h : rSt m g) (hs : ∀ a k, rKp a k → a ≠ 348 → (a = 332 → k ≠ 32 ∧ k ≠ 33) → (a < 349 ∨ 359 < a) → m' a k = m a k) (hR : zAL m' 348 0 R') (h32 : m' 332 32 = (R'.length : Int)) (h33 : m' 332 33 = (C' : Int)) (hB : rB0 m' (kRun (zPof D) R')) : rSt m' (g.1, g.2.1, R', C', g.2.2.2.2.1, g.2.2.2.2.2.1, g.2.2.2.2.2.2.1, g.2.2.2.2.2.2.2) := by
  obtain ⟨T, od, R, C, H, f, p, q⟩ := g
  obtain ⟨a1, ⟨t1, t2, t3, t4⟩, a3, a4, ⟨a5, a6, a7⟩, -, a9, a10⟩ := h
  have row : ∀ a, ((333 ≤ a ∧ a ≤ 347) ∨ (364 ≤ a ∧ a ≤ 366)) → m' a = m a := fun a ha => funext (fun k => hs a k (by unfold rKp; omega) (by omega) (by omega) (by omega))
  have ob : ∀ k, rKo k = true → k ≠ 32 → k ≠ 33 → m' 332 k = m 332 k := fun k hk q1 q2 => hs 332 k (Or.inl ⟨rfl, hk⟩) (by decide) (fun _ => ⟨q1, q2⟩) (by decide)
  have obn : ∀ k, 20 ≤ k → k ≤ 23 → m' 332 k = m 332 k := fun k h1 h2 => by
    have : k = 20 ∨ k = 21 ∨ k = 22 ∨ k = 23 := by omega
    rcases this with rfl | rfl | rfl | rfl <;> exact ob _ rfl (by decide) (by decide)
  refine ⟨zMp_eq (fun i hi => ob i (rKo_p hi) (fun z => by rw [z] at hi; cases hi) (fun z => by rw [z] at hi; cases hi)) a1, ⟨by rw [ob 5 rfl (by decide) (by decide)]; exact t1, t2, zAL_eq (row 333 (by omega)) t3, t4⟩, a3, by rw [ob 6 rfl (by decide) (by decide)]; exact a4, ⟨by rw [ob 2 rfl (by decide) (by decide)]; exact a5, by rw [ob 3 rfl (by decide) (by decide)]; exact a6, by rw [ob 1 rfl (by decide) (by decide)]; exact a7⟩, ⟨hR, h32, h33⟩, rHs_eq (ob 53 rfl (by decide) (by decide)) (row 364 (by omega)) (row 365 (by omega)) (row 366 (by omega)) a9, fun D' hD' => ?_⟩
  have e : D' = D := by
    have h1 : od = some D := hd
    have h2 : od = some D' := hD'
    rw [h1] at h2
    cases h2
    rfl
  subst e
  obtain ⟨b1, b2, -⟩ := a10 D' hd
  exact ⟨rDt_eq (fun a p q => row a (by omega)) b1, rNm_eq (fun a p q => row a (by omega)) obn b2, hB⟩
theorem rSt_H {m m' : zM} {g : zG} {H' : zHs} (hg : gOk g) (h : rSt m g) (hs : ∀ a k, a ≠ 364 → a ≠ 365 → a ≠ 366 → (a = 332 → k ≠ 53) → m' a k = m a k) (hH : rHs m' H') : rSt m' (g.1, g.2.1, g.2.2.1, g.2.2.2.1, H', g.2.2.2.2.2.1, g.2.2.2.2.2.2.1, g.2.2.2.2.2.2.2) := by
  obtain ⟨T, od, R, C, H, f, p, q⟩ := g
  obtain ⟨a1, ⟨t1, t2, t3, t4⟩, a3, a4, ⟨a5, a6, a7⟩, ⟨r1, r2, r3⟩, a9, a10⟩ := h
  have row : ∀ a, a ≠ 332 → a ≠ 364 → a ≠ 365 → a ≠ 366 → m' a = m a := fun a p1 p2 p3 p4 => funext (fun k => hs a k p2 p3 p4 (fun z => absurd z p1))
  have ob : ∀ k, k ≠ 53 → m' 332 k = m 332 k := fun k hk => hs 332 k (by decide) (by decide) (by decide) (fun _ => hk)
  refine ⟨zMp_eq (fun i hi => ob i (fun z => by rw [z] at hi; cases hi)) a1, ⟨by rw [ob 5 (by decide)]; exact t1, t2, zAL_eq (row 333 (by decide) (by decide) (by decide) (by decide)) t3, t4⟩, a3, by rw [ob 6 (by decide)]; exact a4, ⟨by rw [ob 2 (by decide)]; exact a5, by rw [ob 3 (by decide)]; exact a6, by rw [ob 1 (by decide)]; exact a7⟩, ⟨zAL_eq (row 348 (by decide) (by decide) (by decide) (by decide)) r1, by rw [ob 32 (by decide)]; exact r2, by rw [ob 33 (by decide)]; exact r3⟩, hH, fun D hD => ?_⟩
  obtain ⟨b1, b2, b3, b4, b5⟩ := a10 D hD
  exact ⟨rDt_eq (fun a p q => row a (by omega) (by omega) (by omega) (by omega)) b1, rNm_eq (fun a p q => row a (by omega) (by omega) (by omega) (by omega)) (fun i p q => ob i (by omega)) b2, rBI_eq (fun a p q => row a (by omega) (by omega) (by omega) (by omega)) b3, rBP_eq (fun a p q => row a (by omega) (by omega) (by omega) (by omega)) b4, by rw [row 356 (by decide) (by decide) (by decide) (by decide)]; exact b5⟩
/-- what remembers() leaves as it is -/
def rHf2 (m m' : zM) : Prop := ∀ a k, a ≠ 364 → a ≠ 365 → a ≠ 366 → (a = 332 → k ≠ 53) → m' a k = m a k
theorem rHf2_rf {m : zM} : rHf2 m m := fun _ _ _ _ _ _ => rfl
theorem rHf2_tr {m m1 m2 : zM} (h1 : rHf2 m m1) (h2 : rHf2 m1 m2) : rHf2 m m2 := fun a k p1 p2 p3 p4 => (h2 a k p1 p2 p3 p4).trans (h1 a k p1 p2 p3 p4)
theorem rHf2_up {m m' : zM} {a k : Nat} {v : Int} (h : rHf2 m m') (ha : a = 364 ∨ a = 365 ∨ a = 366 ∨ (a = 332 ∧ k = 53)) : rHf2 m (zup m' a k v) := fun a' k' p1 p2 p3 p4 => by
  unfold zup
  rw [if_neg (fun q => by omega)]
  exact h a' k' p1 p2 p3 p4
theorem zMp_H2 {m m' : zM} (h : rHf2 m m') (hp : zMp m) : zMp m' := zMp_eq (fun i hi => h 332 i (by decide) (by decide) (by decide) (fun _ z => by rw [z] at hi; cases hi)) hp
theorem c_rremA {L : zY} {m : zM} {Q : zQ} {H : zHs} {R : List Int} {C : Nat} {l1 : zV} (ht : zMt L) (hn : zMn L) (hp : zMp m) (hA : zAL m 348 0 R) (h32 : m 332 32 = (R.length : Int)) (h33 : m 332 33 = (C : Int)) (hR : R.length ≤ 80) (hH : rHs m H) (hl : H.length ≤ 29) (k : ∀ m', rHs m' ((R, C) :: H) → rHf2 m m' → Q none L m') : zwp 216 97 [zA 332, l1] [] L m Q := by
  have t0 := mt332 ht
  obtain ⟨a1, a2, a3⟩ := hH
  simp only [s216_97, s216_98]
  refine zfor (n := R.length) (fun i => [zA 332, zI (i : Nat)]) (fun i m' => (∀ j, j < i → m' 364 (80 * H.length + j) = R.getD j 0) ∧ (∀ j, j < 80 * H.length → m' 364 j = m 364 j) ∧ ∀ a, a ≠ 364 → m' a = m a) ?_ ?_ 0 m (Nat.zero_le _) ⟨fun j hj => by omega, fun _ _ => rfl, fun _ _ => rfl⟩
  · rintro i m1 hi ⟨g1, g2, g3⟩ ih
    have n1 : ¬ (R.length : Int) ≤ (i : Int) := by omega
    have iv : i < 1000000 := by omega
    have e32 : m1 332 32 = (R.length : Int) := by rw [g3 332 (by decide)]; exact h32
    have e53 : m1 332 53 = (H.length : Int) := by rw [g3 332 (by decide)]; exact a1
    have q31 : m1 332 31 = ((348 : Nat) : Int) := by rw [g3 332 (by decide)]; exact mp31 hp
    have q54 : m1 332 54 = ((364 : Nat) : Int) := by rw [g3 332 (by decide)]; exact mp54 hp
    have av : m1 348 i = R.getD i 0 := by rw [g3 348 (by decide), zAL_get0 hA hi, getD_lt hi]
    have hr1 : 0 ≤ (i : Int) ∧ (i : Int) < ((80 : Nat) : Int) := by omega
    have hr2 : 0 ≤ ((80 * H.length + i : Nat) : Int) ∧ ((80 * H.length + i : Nat) : Int) < ((2400 : Nat) : Int) := by omega
    simp only [s216_99]
    simp only [s216_100, s216_101, s216_104, s216_107, s216_108, s216_111, s216_113, s216_114, s216_117, s216_118, s216_119, s216_120, s216_121, s216_124, s216_125, s216_126, s216_127, s216_130, Int.toNat_natCast, true_and, and_true, true_or, or_true, false_or, or_false, zwr_id, zpu_some, zpu_none, reduceIte, Int.reduceLE, Int.reduceLT, Int.reduceEq, Int.reduceNeg, Int.reduceAdd, Int.reduceSub, Int.reduceMul, Int.reduceToNat, Nat.reduceAdd, Nat.reduceLeDiff, Nat.reduceEqDiff, Nat.reduceLT, eq_self, ne_eq, not_false_eq_true, not_true_eq_false, t0, e32, n1, q54, e53, q31, mt348 ht, mn348 hn, mt364 ht, mn364 hn, hr1, hr2, and_self, av, (show zwr (80 * (H.length : Int)) = ((80 * H.length : Nat) : Int) from zwn (by omega) (by omega)), (show zwr (((80 * H.length : Nat) : Int) + (i : Int)) = ((80 * H.length + i : Nat) : Int) from zwn (by omega) (by omega)), z1 iv]
    refine ih _ ⟨fun j hj => ?_, fun j hj => by rw [zup_nk (by omega)]; exact g2 j hj, fun a ha => by rw [zup_nf ha]; exact g3 a ha⟩
    by_cases e : j = i
    · rw [e, zup_same]
    · rw [zup_nk (by omega)]; exact g1 j (by omega)
  · rintro m1 ⟨g1, g2, g3⟩
    have n1 : (R.length : Int) ≤ (R.length : Int) := by omega
    have e32 : m1 332 32 = (R.length : Int) := by rw [g3 332 (by decide)]; exact h32
    have e33 : m1 332 33 = (C : Int) := by rw [g3 332 (by decide)]; exact h33
    have e53 : m1 332 53 = (H.length : Int) := by rw [g3 332 (by decide)]; exact a1
    have q55 : m1 332 55 = ((365 : Nat) : Int) := by rw [g3 332 (by decide)]; exact mp55 hp
    have q56 : m1 332 56 = ((366 : Nat) : Int) := by rw [g3 332 (by decide)]; exact mp56 hp
    have hr : 0 ≤ (H.length : Int) ∧ (H.length : Int) < ((30 : Nat) : Int) := by omega
    simp only [s216_99]
    simp only [s216_100, s216_101, s216_104, s216_133, s216_134, s216_137, s216_138, s216_141, s216_142, s216_145, s216_146, s216_147, s216_150, s216_151, s216_154, s216_155, s216_158, s216_159, s216_160, s216_161, s216_164, s216_165, s216_166, s216_169, Int.toNat_natCast, true_and, and_true, true_or, or_true, false_or, or_false, zwr_id, zpu_some, zpu_none, reduceIte, Int.reduceLE, Int.reduceLT, Int.reduceEq, Int.reduceNeg, Int.reduceAdd, Int.reduceSub, Int.reduceMul, Int.reduceToNat, Nat.reduceAdd, Nat.reduceLeDiff, Nat.reduceEqDiff, Nat.reduceLT, eq_self, ne_eq, not_false_eq_true, not_true_eq_false, t0, e32, e33, n1, q55, q56, e53, mt365 ht, mn365 hn, mt366 ht, mn366 hn, hr, and_self, (show zwr ((H.length : Int) + 1) = ((H.length + 1 : Nat) : Int) from zwn (by omega) (by omega)), zup_na (show (332 : Nat) ≠ 365 by decide), zup_na (show (332 : Nat) ≠ 366 by decide)]
    refine k _ ⟨by rw [zup_same]; rfl, by show H.length + 1 ≤ 30; omega, fun j q hq => ?_⟩ (rHf2_up (rHf2_up (rHf2_up (fun a j p1 p2 p3 p4 => by rw [g3 a p1]) (by omega)) (by omega)) (by omega))
    have el : ((R, C) :: H).length = H.length + 1 := rfl
    rw [el]
    cases j with
    | zero =>
      cases hq
      rw [show H.length + 1 - 1 - 0 = H.length by omega]
      refine ⟨by rw [zup_na (by decide), zup_na (by decide), zup_same], by rw [zup_na (by decide), zup_same], hR, zAL_eq (by rw [zup_nf (by decide), zup_nf (by decide), zup_nf (by decide)]) (m := m1) ?_⟩
      intro i x hx
      have hi : i < R.length := (List.getElem?_eq_some_iff.mp hx).1
      rw [g1 i hi, List.getD_eq_getElem?_getD, hx]
      rfl
    | succ j =>
      have hq : H[j]? = some q := hq
      have hj : j < H.length := (List.getElem?_eq_some_iff.mp hq).1
      obtain ⟨b1, b2, b3, b4⟩ := a3 j q hq
      rw [show H.length + 1 - 1 - (j + 1) = H.length - 1 - j by omega]
      refine ⟨by rw [zup_na (by decide), zup_na (by decide), zup_nk (by omega), g3 365 (by decide)]; exact b1, by rw [zup_na (by decide), zup_nk (by omega), zup_na (by decide), g3 366 (by decide)]; exact b2, b3, zAL_eq (by rw [zup_nf (by decide), zup_nf (by decide), zup_nf (by decide)]) (m := m1) ?_⟩
      intro i x hx
      have hi : i < q.1.length := (List.getElem?_eq_some_iff.mp hx).1
      rw [g2 _ (by omega)]
      exact b4 i x hx
theorem c_rrem {L : zY} {m : zM} {Q : zQ} {H : zHs} {R : List Int} {C : Nat} (ht : zMt L) (hn : zMn L) (hp : zMp m) (hA : zAL m 348 0 R) (h32 : m 332 32 = (R.length : Int)) (h33 : m 332 33 = (C : Int)) (hR : R.length ≤ 80) (hH : rHs m H) (k : ∀ m', rHs m' (((R, C) :: H).take 30) → rHf2 m m' → Q none L m') : zwp 216 0 [zA 332, zU] [] L m Q := by
  have t0 := mt332 ht
  obtain ⟨a1, a2, a3⟩ := id hH
  simp only [s216_0, s216_1, s216_4, true_and, t0, a1]
  simp only [s216_6]
  by_cases h30 : H.length = 30
  · rw [if_pos (by omega)]
    rw [h30] at a1 a3
    simp only [s216_9, s216_10, s216_11, s216_14, s216_15, s216_16, s216_19, s216_20, true_and, t0, a1, (show zwr (((30 : Nat) : Int) - 1) = 29 from zwr_id (by decide) (by decide))]
    have e53 : zup m 332 53 29 332 53 = 29 := zup_same
    have f0 : rHf2 m (zup m 332 53 29) := rHf2_up rHf2_rf (by omega)
    have r4 : zup m 332 53 29 364 = m 364 := zup_nf (by decide)
    have r5 : zup m 332 53 29 365 = m 365 := zup_nf (by decide)
    have r6 : zup m 332 53 29 366 = m 366 := zup_nf (by decide)
    generalize zup m 332 53 29 = m0 at *
    have p0 := zMp_H2 f0 hp
    refine zfor (n := 29) (fun i => [zA 332, zI (i : Nat)]) (fun i m' => (∀ j, j < i → m' 365 j = m 365 (j + 1) ∧ m' 366 j = m 366 (j + 1)) ∧ (∀ j, i ≤ j → m' 365 j = m 365 j ∧ m' 366 j = m 366 j) ∧ ∀ a, a ≠ 365 → a ≠ 366 → m' a = m0 a) ?_ ?_ 0 m0 (Nat.zero_le _) ⟨fun j hj => by omega, fun j _ => ⟨by rw [r5], by rw [r6]⟩, fun _ _ _ => rfl⟩
    · rintro i m1 hi ⟨g1, g2, g3⟩ ih
      have n1 : ¬ (29 : Int) ≤ (i : Int) := by omega
      have iv : i < 1000000 := by omega
      have b53 : m1 332 53 = 29 := by rw [g3 332 (by decide) (by decide)]; exact e53
      have q55 : m1 332 55 = ((365 : Nat) : Int) := by rw [g3 332 (by decide) (by decide)]; exact mp55 p0
      have q56 : m1 332 56 = ((366 : Nat) : Int) := by rw [g3 332 (by decide) (by decide)]; exact mp56 p0
      have hr1 : 0 ≤ (i : Int) ∧ (i : Int) < ((30 : Nat) : Int) := by omega
      have hr2 : 0 ≤ ((i + 1 : Nat) : Int) ∧ ((i + 1 : Nat) : Int) < ((30 : Nat) : Int) := by omega
      obtain ⟨v1, v2⟩ := g2 (i + 1) (by omega)
      simp only [s216_21]
      simp only [s216_22, s216_23, s216_26, s216_29, s216_30, s216_33, s216_34, s216_35, s216_38, s216_39, s216_40, s216_41, s216_42, s216_43, s216_44, s216_47, s216_48, s216_49, s216_52, s216_53, s216_54, s216_55, s216_56, s216_57, s216_60, Int.toNat_natCast, true_and, and_true, true_or, or_true, false_or, or_false, zwr_id, zpu_some, zpu_none, reduceIte, Int.reduceLE, Int.reduceLT, Int.reduceEq, Int.reduceNeg, Int.reduceAdd, Int.reduceSub, Int.reduceMul, Int.reduceToNat, Nat.reduceAdd, Nat.reduceLeDiff, Nat.reduceEqDiff, Nat.reduceLT, eq_self, ne_eq, not_false_eq_true, not_true_eq_false, t0, b53, n1, q55, q56, mt365 ht, mn365 hn, mt366 ht, mn366 hn, hr1, hr2, and_self, v1, v2, z1 iv, zup_na (show (332 : Nat) ≠ 365 by decide), zup_na (show (366 : Nat) ≠ 365 by decide)]
      refine ih _ ⟨fun j hj => ?_, fun j hj => ?_, fun a q1 q2 => by rw [zup_nf q2, zup_nf q1]; exact g3 a q1 q2⟩
      · by_cases e : j = i
        · subst e; exact ⟨by rw [zup_na (by decide), zup_same], zup_same⟩
        · rw [zup_na (by decide), zup_nk e, zup_nk e, zup_na (by decide)]; exact g1 j (by omega)
      · rw [zup_na (by decide), zup_nk (by omega), zup_nk (by omega), zup_na (by decide)]; exact g2 j (by omega)
    · rintro m1 ⟨g1, -, g3⟩
      have b53 : m1 332 53 = 29 := by rw [g3 332 (by decide) (by decide)]; exact e53
      simp only [s216_21]
      simp only [s216_22, s216_23, s216_26, s216_63, s216_64, Int.toNat_natCast, true_and, and_true, true_or, or_true, false_or, or_false, zwr_id, zpu_some, zpu_none, reduceIte, Int.reduceLE, Int.reduceLT, Int.reduceEq, Int.reduceNeg, Int.reduceAdd, Int.reduceSub, Int.reduceMul, Int.reduceToNat, Nat.reduceAdd, Nat.reduceLeDiff, Nat.reduceEqDiff, Nat.reduceLT, eq_self, ne_eq, not_false_eq_true, not_true_eq_false, Int.cast_ofNat_Int, t0, b53]
      have z4 : m1 364 = m 364 := by rw [g3 364 (by decide) (by decide)]; exact r4
      refine zfor (n := 2320) (fun i => [zA 332, zI (i : Nat)]) (fun i m' => (∀ j, j < i → m' 364 j = m 364 (j + 80)) ∧ (∀ j, i ≤ j → m' 364 j = m 364 j) ∧ ∀ a, a ≠ 364 → m' a = m1 a) ?_ ?_ 0 m1 (Nat.zero_le _) ⟨fun j hj => by omega, fun j _ => by rw [z4], fun _ _ => rfl⟩
      · rintro i m2 hi ⟨i1, i2, i3⟩ ih
        have n1 : ¬ (2320 : Int) ≤ (i : Int) := by omega
        have iv : i < 1000000 := by omega
        have c53 : m2 332 53 = 29 := by rw [i3 332 (by decide)]; exact b53
        have q54 : m2 332 54 = ((364 : Nat) : Int) := by rw [i3 332 (by decide), g3 332 (by decide) (by decide)]; exact mp54 p0
        have hr1 : 0 ≤ (i : Int) ∧ (i : Int) < ((2400 : Nat) : Int) := by omega
        have hr2 : 0 ≤ ((i + 80 : Nat) : Int) ∧ ((i + 80 : Nat) : Int) < ((2400 : Nat) : Int) := by omega
        simp only [s216_65]
        simp only [s216_66, s216_67, s216_70, s216_72, s216_73, s216_76, s216_77, s216_80, s216_81, s216_82, s216_85, s216_86, s216_88, s216_89, s216_90, s216_91, s216_94, Int.toNat_natCast, true_and, and_true, true_or, or_true, false_or, or_false, zwr_id, zpu_some, zpu_none, reduceIte, Int.reduceLE, Int.reduceLT, Int.reduceEq, Int.reduceNeg, Int.reduceAdd, Int.reduceSub, Int.reduceMul, Int.reduceToNat, Nat.reduceAdd, Nat.reduceLeDiff, Nat.reduceEqDiff, Nat.reduceLT, eq_self, ne_eq, not_false_eq_true, not_true_eq_false, t0, c53, (show zwr (29 * 80) = 2320 from zwr_id (by decide) (by decide)), n1, q54, mt364 ht, mn364 hn, hr1, hr2, and_self, (show zwr ((i : Int) + 80) = ((i + 80 : Nat) : Int) from zwn (by omega) (by omega)), i2 (i + 80) (by omega), z1 iv]
        refine ih _ ⟨fun j hj => ?_, fun j hj => by rw [zup_nk (by omega)]; exact i2 j (by omega), fun a q1 => by rw [zup_nf q1]; exact i3 a q1⟩
        by_cases e : j = i
        · subst e; exact zup_same
        · rw [zup_nk e]; exact i1 j (by omega)
      · rintro m2 ⟨i1, -, i3⟩
        have c53 : m2 332 53 = 29 := by rw [i3 332 (by decide)]; exact b53
        simp only [s216_65]
        simp only [s216_66, s216_67, s216_70, s216_72, s216_73, Int.toNat_natCast, true_and, and_true, true_or, or_true, false_or, or_false, zwr_id, zpu_some, zpu_none, reduceIte, Int.reduceLE, Int.reduceLT, Int.reduceEq, Int.reduceNeg, Int.reduceAdd, Int.reduceSub, Int.reduceMul, Int.reduceToNat, Nat.reduceAdd, Nat.reduceLeDiff, Nat.reduceEqDiff, Nat.reduceLT, eq_self, ne_eq, not_false_eq_true, not_true_eq_false, Int.cast_ofNat_Int, t0, c53, (show zwr (29 * 80) = 2320 from zwr_id (by decide) (by decide))]
        have f2 : rHf2 m m2 := rHf2_tr f0 (fun a j p1 p2 p3 p4 => by rw [i3 a p1, g3 a p2 p3])
        have lt : (H.take 29).length = 29 := by rw [List.length_take]; omega
        have hH2 : rHs m2 (H.take 29) := by
          refine ⟨by rw [lt]; exact c53, by omega, fun j q hq => ?_⟩
          have hj : j < 29 := by have := (List.getElem?_eq_some_iff.mp hq).1; omega
          rw [List.getElem?_take_of_lt hj] at hq
          obtain ⟨b1, b2, b3, b4⟩ := a3 j q hq
          rw [lt]
          rw [show 30 - 1 - j = (29 - 1 - j) + 1 by omega] at b1 b2 b4
          refine ⟨by rw [i3 365 (by decide), (g1 (29 - 1 - j) (by omega)).1]; exact b1, by rw [i3 366 (by decide), (g1 (29 - 1 - j) (by omega)).2]; exact b2, b3, fun i x hx => ?_⟩
          have hi : i < q.1.length := (List.getElem?_eq_some_iff.mp hx).1
          rw [i1 _ (by omega), show 80 * (29 - 1 - j) + i + 80 = 80 * (29 - 1 - j + 1) + i by omega]
          exact b4 i x hx
        refine c_rremA ht hn (zMp_H2 f2 hp) (zAL_eq (funext (fun j => f2 348 j (by decide) (by decide) (by decide) (fun z => absurd z (by decide)))) hA) (by rw [f2 332 32 (by decide) (by decide) (by decide) (fun _ => by decide)]; exact h32) (by rw [f2 332 33 (by decide) (by decide) (by decide) (fun _ => by decide)]; exact h33) hR hH2 (by omega) (fun m3 x1 x2 => k m3 ?_ (rHf2_tr f2 x2))
        rw [List.take_succ_cons]
        exact x1
  · rw [if_neg (by omega)]
    refine c_rremA ht hn hp hA h32 h33 hR hH (by omega) (fun m3 x1 x2 => k m3 ?_ x2)
    rw [List.take_of_length_le (by show H.length + 1 ≤ 30; omega)]
    exact x1
