def rQf (m m' : zM) : Prop := ∀ a k, a ≠ 360 → a ≠ 361 → ¬ (a = 349 ∧ k = 2) → ¬ (350 ≤ a ∧ a ≤ 353 ∧ 400 ≤ k) → m' a k = m a k
theorem rQf_rf {m : zM} : rQf m m := fun _ _ _ _ _ _ => rfl
theorem rQf_tr {m m1 m2 : zM} (h1 : rQf m m1) (h2 : rQf m1 m2) : rQf m m2 := fun a k p q r s => (h2 a k p q r s).trans (h1 a k p q r s)
theorem rQf_up {m m' : zM} {a k : Nat} {v : Int} (h : rQf m m') (ha : a = 360 ∨ a = 361 ∨ (a = 349 ∧ k = 2) ∨ (350 ≤ a ∧ a ≤ 353 ∧ 400 ≤ k)) : rQf m (zup m' a k v) := fun a' k' p q r s => by
  unfold zup
  rw [if_neg (fun z => by rw [z.1] at p q r s; rw [z.2] at r s; omega)]
  exact h a' k' p q r s
theorem rQf_ob {m m' : zM} (h : rQf m m') : m' 332 = m 332 := funext (fun k => h 332 k (by decide) (by decide) (by omega) (by omega))
theorem rQf_row {m m' : zM} (h : rQf m m') {a : Nat} (h1 : a < 349 ∨ 353 < a) (h2 : a ≠ 360) (h3 : a ≠ 361) : m' a = m a := funext (fun k => h a k h2 h3 (by omega) (by omega))
theorem rQf_Sf {m m' : zM} (h : rQf m m') : rSf m m' := fun a k hk => h a k (fun z => by rcases hk with hk | hk | hk | hk | hk | hk <;> omega) (fun z => by rcases hk with hk | hk | hk | hk | hk | hk <;> omega) (fun z => by rcases hk with hk | hk | hk | hk | hk | hk <;> omega) (fun z => by rcases hk with hk | hk | hk | hk | hk | hk <;> omega)
theorem rQf_FR {m m' : zM} (h : rQf m m') : zFR 332 370 m m' := fun a ha => rQf_row h (by omega) (by omega) (by omega)
theorem rMx_Qf {m m' : zM} {D : zD} (h : rQf m m') (hx : rMx m D) : rMx m' D :=
  ⟨zMp_eq (fun i _ => by rw [rQf_ob h]) hx.1, rDt_eq (fun a p q => rQf_row h (by omega) (by omega) (by omega)) hx.2.1, rNm_eq (fun a p q => rQf_row h (by omega) (by omega) (by omega)) (fun i p q => by rw [rQf_ob h]) hx.2.2⟩
theorem cks_g2 {R : List Int} {I : List zIt} {i : Nat} (hi : i < I.length) : ((cks R I).getD i kq0).2 = kys R I[i] := by rw [cks_get hi]
theorem kp_row {D : zD} {R : List Int} (hD : dOk D) (hR : ∀ y ∈ R, gSg D y = true) : kp (cks R (msI (kRun (zPof D) R))) (msI (kRun (zPof D) R)).length ≤ R.length := by
  have h1 := (bB_kp (P := zPof D) (l := cks R (msI (kRun (zPof D) R))) (msI (kRun (zPof D) R)).length).1
  have h2 := (gBare_ok hD hR).1
  unfold gBare at h2
  omega
theorem c_rdue {L : zY} {m : zM} {Q : zQ} {D : zD} {R : List Int} {I : List zIt} (ht : zMt L) (hn : zMn L) (hD : dOk D) (hR : ∀ y ∈ R, gSg D y = true) (hRl : R.length ≤ 80) (eI : I = msI (kRun (zPof D) R)) (hp : zMp m) (hA : zAL m 348 0 R) (hI : rBI m 0 I) (k : ∀ m', rDu m' (cks R I) I → rQf m m' → Q none L m') : zwp 203 0 [zA 332, zU, zU, zU] [] L m Q := by
  have t0 := mt332 ht
  have kI := kRun_I hD hR
  have kpb := kp_row hD hR
  have Il := (gI_len (R := R) hD (by omega)).1
  rw [← eI] at kpb Il
  have iOk : ∀ x ∈ I, itOk D R x := by rw [eI]; exact kI.1
  have q34 : m 332 34 = ((349 : Nat) : Int) := mp34 hp
  have b0 : (0 : Int) < ((3 : Nat) : Int) := by decide
  have b2 : (2 : Int) < ((3 : Nat) : Int) := by decide
  have h49 : m 349 0 = (I.length : Int) := hI.1
  simp only [s203_0, s203_1, s203_2, s203_3, s203_6, s203_7, s203_8, s203_11, s203_12, s203_13, s203_14, s203_15, Int.toNat_natCast, true_and, and_true, true_or, or_true, false_or, or_false, zwr_id, zpu_some, zpu_none, reduceIte, Int.reduceLE, Int.reduceLT, Int.reduceEq, Int.reduceNeg, Int.reduceAdd, Int.reduceSub, Int.reduceMul, Int.reduceToNat, Nat.reduceAdd, Nat.reduceLeDiff, Nat.reduceEqDiff, Nat.reduceLT, eq_self, ne_eq, not_false_eq_true, not_true_eq_false, t0, q34, mt349 ht, mn349 hn, b0, b2, h49]
  have f0 : rQf m (zup m 349 2 (I.length : Int)) := rQf_up rQf_rf (by omega)
  have z0 : zup m 349 2 (I.length : Int) 349 2 = (I.length : Int) := zup_same
  generalize zup m 349 2 (I.length : Int) = m0 at *
  have keyl : ∀ i (hi : i < I.length), kp (cks R I) (i + 1) = kp (cks R I) i + (kys R I[i]).length := fun i hi => by
    show kp (cks R I) i + ((cks R I).getD i kq0).2.length = _
    rw [cks_g2 hi]
  refine zforv (n := I.length) (fun (v : zV) i => [zA 332, zI (kp (cks R I) i : Nat), zI (i : Nat), v]) (fun i m' => (m' 349 2 = (I.length : Int) ∧ rBC m' 2 (I.take i) ∧ (∀ j, j < i → m' 361 j = (kp (cks R I) j : Int)) ∧ ∀ j t, (hj : j < I.length) → j < i → t < (kys R I[j]).length → m' 360 (kp (cks R I) j + t) = (kys R I[j]).getD t 0) ∧ rQf m m') ?_ ?_ zU 0 m0 (Nat.zero_le _) ⟨⟨z0, ⟨zAL_nil, zAL_nil, zAL_nil, zAL_nil⟩, fun j hj => by omega, fun j t _ hj => by omega⟩, f0⟩
  · rintro v i m1 hi ⟨⟨g1, g2, g3, g4⟩, f1⟩ ih
    have iv : i < 1000000 := by omega
    have n1 : ¬ (I.length : Int) ≤ (i : Int) := by omega
    have ob := rQf_ob f1
    have e34 : m1 332 34 = ((349 : Nat) : Int) := by rw [ob]; exact q34
    have e35 : m1 332 35 = ((350 : Nat) : Int) := by rw [ob]; exact mp35 hp
    have e36 : m1 332 36 = ((351 : Nat) : Int) := by rw [ob]; exact mp36 hp
    have e37 : m1 332 37 = ((352 : Nat) : Int) := by rw [ob]; exact mp37 hp
    have e38 : m1 332 38 = ((353 : Nat) : Int) := by rw [ob]; exact mp38 hp
    have e48 : m1 332 48 = ((361 : Nat) : Int) := by rw [ob]; exact mp48 hp
    have c49 : m1 349 0 = (I.length : Int) := by rw [f1 349 0 (by decide) (by decide) (by omega) (by omega)]; exact h49
    obtain ⟨v1, v2, v3, v4, v5, v6⟩ := rIt_of hI hi
    have f1' : ∀ a j, 350 ≤ a → a ≤ 355 → j < 200 → m1 a j = m a j := fun a j p q r => f1 a j (by omega) (by omega) (by omega) (by omega)
    rw [← f1' 350 i (by decide) (by decide) (by omega)] at v1
    rw [← f1' 351 i (by decide) (by decide) (by omega)] at v2
    rw [← f1' 352 i (by decide) (by decide) (by omega)] at v3
    rw [← f1' 353 i (by decide) (by decide) (by omega)] at v4
    have hk := keyl i hi
    have io := iOk _ (List.getElem_mem hi)
    have klen := kys_len io
    have kpm := kp_mono (l := cks R I) (i := i + 1) (j := I.length) (by omega)
    have hri : 0 ≤ (i : Int) ∧ (i : Int) < ((600 : Nat) : Int) := by omega
    have hri2 : 0 ≤ (i : Int) ∧ (i : Int) < ((201 : Nat) : Int) := by omega
    have hr4 : 0 ≤ ((400 + i : Nat) : Int) ∧ ((400 + i : Nat) : Int) < ((600 : Nat) : Int) := by omega
    simp only [s203_16]
    simp only [s203_17, s203_18, s203_21, s203_22, s203_23, s203_26, s203_27, s203_30, s203_31, s203_32, s203_33, s203_34, s203_37, s203_40, s203_41, s203_42, s203_43, s203_46, s203_47, s203_48, s203_49, s203_50, s203_53, s203_56, s203_57, s203_58, s203_59, s203_62, s203_63, s203_64, s203_65, s203_66, s203_69, s203_72, s203_73, s203_74, s203_75, s203_78, s203_79, s203_80, s203_81, s203_82, s203_85, s203_88, s203_89, s203_90, s203_91, s203_94, s203_95, s203_96, s203_97, s203_98, Int.toNat_natCast, true_and, and_true, true_or, or_true, false_or, or_false, zwr_id, zpu_some, zpu_none, reduceIte, Int.reduceLE, Int.reduceLT, Int.reduceEq, Int.reduceNeg, Int.reduceAdd, Int.reduceSub, Int.reduceMul, Int.reduceToNat, Nat.reduceAdd, Nat.reduceLeDiff, Nat.reduceEqDiff, Nat.reduceLT, eq_self, ne_eq, not_false_eq_true, not_true_eq_false, t0, e34, e35, e36, e37, e38, e48, mt349 ht, mn349 hn, b0, c49, n1, mt361 ht, mn361 hn, mt350 ht, mn350 hn, mt351 ht, mn351 hn, mt352 ht, mn352 hn, mt353 ht, mn353 hn, hri, hri2, hr4, and_self, (show zwr (400 + (i : Int)) = ((400 + i : Nat) : Int) from zwn (by omega) (by omega)), v1, v2, v3, v4, zup_na (show (332 : Nat) ≠ 361 by decide), zup_na (show (332 : Nat) ≠ 350 by decide), zup_na (show (332 : Nat) ≠ 351 by decide), zup_na (show (332 : Nat) ≠ 352 by decide), zup_na (show (350 : Nat) ≠ 361 by decide), zup_na (show (351 : Nat) ≠ 361 by decide), zup_na (show (352 : Nat) ≠ 361 by decide), zup_na (show (353 : Nat) ≠ 361 by decide), zup_na (show (351 : Nat) ≠ 350 by decide), zup_na (show (352 : Nat) ≠ 350 by decide), zup_na (show (353 : Nat) ≠ 350 by decide), zup_na (show (352 : Nat) ≠ 351 by decide), zup_na (show (353 : Nat) ≠ 351 by decide), zup_na (show (353 : Nat) ≠ 352 by decide)]
    let m2 := zup (zup (zup (zup (zup m1 361 i (kp (cks R I) i : Int)) 350 (400 + i) (itL I[i])) 351 (400 + i) (itM I[i])) 352 (400 + i) (itE I[i])) 353 (400 + i) (itK I[i])
    have f2 : rQf m m2 := rQf_up (rQf_up (rQf_up (rQf_up (rQf_up f1 (by omega)) (by omega)) (by omega)) (by omega)) (by omega)
    have lt : (I.take i).length = i := by rw [List.length_take]; omega
    have row2 : ∀ c, c ≠ 361 → c ≠ 350 → c ≠ 351 → c ≠ 352 → c ≠ 353 → m2 c = m1 c := fun c p1 p2 p3 p4 p5 => by show zup (zup (zup (zup (zup m1 361 _ _) 350 _ _) 351 _ _) 352 _ _) 353 _ _ c = _; rw [zup_nf p5, zup_nf p4, zup_nf p3, zup_nf p2, zup_nf p1]
    have bc2 : rBC m2 2 (I.take (i + 1)) := by
      rw [take_s hi]
      refine ⟨?_, ?_, ?_, ?_⟩
      · refine zAL_new g2.1 (fun j hj => ?_) ?_
        · rw [lt] at hj; show zup (zup (zup (zup (zup m1 361 _ _) 350 _ _) 351 _ _) 352 _ _) 353 _ _ 350 j = _; rw [zup_na (by decide), zup_na (by decide), zup_na (by decide), zup_nk (by omega), zup_na (by decide)]
        · rw [lt]; show zup (zup (zup (zup (zup m1 361 _ _) 350 _ _) 351 _ _) 352 _ _) 353 _ _ 350 (400 + i) = _; rw [zup_na (by decide), zup_na (by decide), zup_na (by decide), zup_same]
      · refine zAL_new g2.2.1 (fun j hj => ?_) ?_
        · rw [lt] at hj; show zup (zup (zup (zup (zup m1 361 _ _) 350 _ _) 351 _ _) 352 _ _) 353 _ _ 351 j = _; rw [zup_na (by decide), zup_na (by decide), zup_nk (by omega), zup_na (by decide), zup_na (by decide)]
        · rw [lt]; show zup (zup (zup (zup (zup m1 361 _ _) 350 _ _) 351 _ _) 352 _ _) 353 _ _ 351 (400 + i) = _; rw [zup_na (by decide), zup_na (by decide), zup_same]
      · refine zAL_new g2.2.2.1 (fun j hj => ?_) ?_
        · rw [lt] at hj; show zup (zup (zup (zup (zup m1 361 _ _) 350 _ _) 351 _ _) 352 _ _) 353 _ _ 352 j = _; rw [zup_na (by decide), zup_nk (by omega), zup_na (by decide), zup_na (by decide), zup_na (by decide)]
        · rw [lt]; show zup (zup (zup (zup (zup m1 361 _ _) 350 _ _) 351 _ _) 352 _ _) 353 _ _ 352 (400 + i) = _; rw [zup_na (by decide), zup_same]
      · refine zAL_new g2.2.2.2 (fun j hj => ?_) ?_
        · rw [lt] at hj; show zup (zup (zup (zup (zup m1 361 _ _) 350 _ _) 351 _ _) 352 _ _) 353 _ _ 353 j = _; rw [zup_nk (by omega), zup_na (by decide), zup_na (by decide), zup_na (by decide), zup_na (by decide)]
        · rw [lt]; show zup (zup (zup (zup (zup m1 361 _ _) 350 _ _) 351 _ _) 352 _ _) 353 _ _ 353 (400 + i) = _; rw [zup_same]
    have d2 : ∀ j, j < i + 1 → m2 361 j = (kp (cks R I) j : Int) := fun j hj => by
      show zup (zup (zup (zup (zup m1 361 _ _) 350 _ _) 351 _ _) 352 _ _) 353 _ _ 361 j = _
      rw [zup_na (by decide), zup_na (by decide), zup_na (by decide), zup_na (by decide)]
      by_cases e : j = i
      · rw [e, zup_same]
      · rw [zup_nk e]; exact g3 j (by omega)
    obtain ⟨-, f, n, hF, hN, h1n, hfn, -, -⟩ := io
    have kl2 : (kys R I[i]).length = n := by omega
    have kg : ∀ t, t < n → (kys R I[i]).getD t 0 = R.getD (f + t) 0 := fun t ht => by
      unfold kys
      rw [hF, hN, Int.toNat_natCast, Int.toNat_natCast, List.getD_eq_getElem?_getD, List.getD_eq_getElem?_getD, List.getElem?_take_of_lt ht, List.getElem?_drop]
    change zwp 203 99 _ _ L m2 Q
    refine zfor (n := n) (fun t => [zA 332, zI ((kp (cks R I) i + t : Nat) : Int), zI (i : Nat), zI (t : Nat)]) (fun t m' => (∀ j, j < t → m' 360 (kp (cks R I) i + j) = (kys R I[i]).getD j 0) ∧ (∀ j, j < kp (cks R I) i → m' 360 j = m2 360 j) ∧ ∀ c, c ≠ 360 → m' c = m2 c) ?_ ?_ 0 m2 (Nat.zero_le _) ⟨fun j hj => by omega, fun _ _ => rfl, fun _ _ => rfl⟩
    · rintro t m3 ht3 ⟨i1, i2, i3⟩ ih3
      have tv : t < 1000000 := by omega
      have n2 : ¬ (n : Int) ≤ (t : Int) := by omega
      have ob3 : m3 332 = m 332 := by rw [i3 332 (by decide)]; exact rQf_ob f2
      have r40 : m3 332 40 = ((355 : Nat) : Int) := by rw [ob3]; exact mp40 hp
      have r39 : m3 332 39 = ((354 : Nat) : Int) := by rw [ob3]; exact mp39 hp
      have r31 : m3 332 31 = ((348 : Nat) : Int) := by rw [ob3]; exact mp31 hp
      have r47 : m3 332 47 = ((360 : Nat) : Int) := by rw [ob3]; exact mp47 hp
      have x6 : m3 355 i = (n : Int) := by rw [i3 355 (by decide), rQf_row f2 (by decide) (by decide) (by decide), ← hN]; exact v6
      have x5 : m3 354 i = (f : Int) := by rw [i3 354 (by decide), rQf_row f2 (by decide) (by decide) (by decide), ← hF]; exact v5
      have av : m3 348 (f + t) = R.getD (f + t) 0 := by rw [i3 348 (by decide), rQf_row f2 (by decide) (by decide) (by decide), zAL_get0 hA (show f + t < R.length by omega), getD_lt (show f + t < R.length by omega)]
      have hr1 : 0 ≤ ((f + t : Nat) : Int) ∧ ((f + t : Nat) : Int) < ((80 : Nat) : Int) := by omega
      have hr2 : 0 ≤ ((kp (cks R I) i + t : Nat) : Int) ∧ ((kp (cks R I) i + t : Nat) : Int) < ((400 : Nat) : Int) := by omega
      simp only [s203_99]
      simp only [s203_100, s203_101, s203_104, s203_105, s203_106, s203_109, s203_110, s203_113, s203_114, s203_115, s203_118, s203_119, s203_122, s203_123, s203_124, s203_125, s203_126, s203_127, s203_128, s203_131, s203_134, Int.toNat_natCast, true_and, and_true, true_or, or_true, false_or, or_false, zwr_id, zpu_some, zpu_none, reduceIte, Int.reduceLE, Int.reduceLT, Int.reduceEq, Int.reduceNeg, Int.reduceAdd, Int.reduceSub, Int.reduceMul, Int.reduceToNat, Nat.reduceAdd, Nat.reduceLeDiff, Nat.reduceEqDiff, Nat.reduceLT, eq_self, ne_eq, not_false_eq_true, not_true_eq_false, t0, r40, mt355 ht, mn355 hn, hri, and_self, x6, n2, r47, r31, r39, mt354 ht, mn354 hn, x5, (show zwr ((f : Int) + (t : Int)) = ((f + t : Nat) : Int) from zwn (by omega) (by omega)), mt348 ht, mn348 hn, hr1, av, mt360 ht, mn360 hn, hr2, (show zwr (((kp (cks R I) i + t : Nat) : Int) + 1) = ((kp (cks R I) i + (t + 1) : Nat) : Int) from zwn (by omega) (by omega)), z1 tv]
      refine ih3 _ ⟨fun j hj => ?_, fun j hj => by rw [zup_nk (by omega)]; exact i2 j hj, fun c hc => by rw [zup_nf hc]; exact i3 c hc⟩
      by_cases e : j = t
      · subst e; rw [zup_same, kg j ht3]
      · rw [zup_nk (by omega)]; exact i1 j (by omega)
    · rintro m3 ⟨i1, i2, i3⟩
      have n2 : (n : Int) ≤ (n : Int) := by omega
      have ob3 : m3 332 = m 332 := by rw [i3 332 (by decide)]; exact rQf_ob f2
      have r40 : m3 332 40 = ((355 : Nat) : Int) := by rw [ob3]; exact mp40 hp
      have x6 : m3 355 i = (n : Int) := by rw [i3 355 (by decide), rQf_row f2 (by decide) (by decide) (by decide), ← hN]; exact v6
      simp only [s203_99]
      simp only [s203_100, s203_101, s203_104, s203_105, s203_106, s203_137, s203_140, Int.toNat_natCast, true_and, and_true, true_or, or_true, false_or, or_false, zwr_id, zpu_some, zpu_none, reduceIte, Int.reduceLE, Int.reduceLT, Int.reduceEq, Int.reduceNeg, Int.reduceAdd, Int.reduceSub, Int.reduceMul, Int.reduceToNat, Nat.reduceAdd, Nat.reduceLeDiff, Nat.reduceEqDiff, Nat.reduceLT, eq_self, ne_eq, not_false_eq_true, not_true_eq_false, t0, r40, mt355 ht, mn355 hn, hri, and_self, x6, n2, z1 iv]
      have ek : kp (cks R I) i + n = kp (cks R I) (i + 1) := by rw [hk, kl2]
      rw [ek]
      refine ih _ m3 ⟨⟨?_, ?_, ?_, ?_⟩, ?_⟩
      · rw [i3 349 (by decide), row2 349 (by decide) (by decide) (by decide) (by decide) (by decide)]; exact g1
      · exact ⟨zAL_eq (i3 350 (by decide)) bc2.1, zAL_eq (i3 351 (by decide)) bc2.2.1, zAL_eq (i3 352 (by decide)) bc2.2.2.1, zAL_eq (i3 353 (by decide)) bc2.2.2.2⟩
      · intro j hj; rw [i3 361 (by decide)]; exact d2 j hj
      · intro j t hj hji htj
        by_cases e : j = i
        · subst e; exact i1 t (by omega)
        · have := keyl j hj
          have := kp_mono (l := cks R I) (i := j + 1) (j := i) (by omega)
          rw [i2 _ (by omega), row2 360 (by decide) (by decide) (by decide) (by decide) (by decide)]
          exact g4 j t hj (by omega) htj
      · intro a j p q r s
        rw [i3 a p]
        exact f2 a j p q r s
  · rintro v m1 ⟨⟨g1, g2, g3, g4⟩, f1⟩
    rw [List.take_length] at g2
    have n1 : (I.length : Int) ≤ (I.length : Int) := by omega
    have ob := rQf_ob f1
    have e34 : m1 332 34 = ((349 : Nat) : Int) := by rw [ob]; exact q34
    have e48 : m1 332 48 = ((361 : Nat) : Int) := by rw [ob]; exact mp48 hp
    have c49 : m1 349 0 = (I.length : Int) := by rw [f1 349 0 (by decide) (by decide) (by omega) (by omega)]; exact h49
    have hri2 : 0 ≤ (I.length : Int) ∧ (I.length : Int) < ((201 : Nat) : Int) := by omega
    simp only [s203_16]
    simp only [s203_17, s203_18, s203_21, s203_22, s203_23, s203_143, s203_144, s203_147, s203_148, s203_151, s203_152, s203_153, s203_154, s203_155, Int.toNat_natCast, true_and, and_true, true_or, or_true, false_or, or_false, zwr_id, zpu_some, zpu_none, reduceIte, Int.reduceLE, Int.reduceLT, Int.reduceEq, Int.reduceNeg, Int.reduceAdd, Int.reduceSub, Int.reduceMul, Int.reduceToNat, Nat.reduceAdd, Nat.reduceLeDiff, Nat.reduceEqDiff, Nat.reduceLT, eq_self, ne_eq, not_false_eq_true, not_true_eq_false, t0, e34, e48, mt349 ht, mn349 hn, b0, c49, n1, mt361 ht, mn361 hn, hri2, and_self]
    have cl : (cks R I).length = I.length := cks_len
    refine k _ ⟨by rw [zup_na (by decide), cl]; exact g1, ⟨zAL_eq (zup_nf (by decide)) g2.1, zAL_eq (zup_nf (by decide)) g2.2.1, zAL_eq (zup_nf (by decide)) g2.2.2.1, zAL_eq (zup_nf (by decide)) g2.2.2.2⟩, by unfold cks; rw [List.map_map]; rfl, fun i hi => ?_, fun i j hi hj => ?_⟩ (rQf_up f1 (by omega))
    · rw [cl] at hi
      by_cases e : i = I.length
      · rw [e, zup_same]
      · rw [zup_nk e]; exact g3 i (by omega)
    · rw [cl] at hi
      rw [cks_g2 hi] at hj ⊢
      rw [zup_na (by decide)]
      exact g4 i j hi hi hj
