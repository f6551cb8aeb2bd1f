theorem zup_cm {m : zM} {a k a' k' : Nat} {v v' : Int} (h : a ≠ a') : zup (zup m a k v) a' k' v' = zup (zup m a' k' v') a k v := by
  funext c j
  unfold zup
  by_cases h1 : c = a' ∧ j = k'
  · rw [if_pos h1, if_neg (fun q => h (q.1.symm.trans h1.1)), if_pos h1]
  · rw [if_neg h1, if_neg h1]
theorem rtak_cm {m : zM} {b p i : Nat} {part v : Int} : rtak (zup m 332 46 v) b p i part = zup (rtak m b p i part) 332 46 v := by
  unfold rtak
  rw [zup_na (show (355 : Nat) ≠ 332 by decide), zup_cm (show (332 : Nat) ≠ 357 by decide), zup_cm (show (332 : Nat) ≠ 358 by decide), zup_cm (show (332 : Nat) ≠ 355 by decide)]
theorem r_endk {m : zM} {D : zD} {y : Nat} (hD : dOk D) (hN : zA2 m 347 1 (rE D)) (h1 : 1 ≤ y) (h2 : y < dnE D) : (m 347 (2 * y + 1) = -1 ∧ m 347 (2 * y) = (dLa D (y : Int) : Int) ∧ dCu D (y : Int) = -2) ∨ (m 347 (2 * y + 1) = (dLa D (y : Int) : Int) ∧ ∃ q1 : Nat, m 347 (2 * y) = (q1 : Int) ∧ q1 < 26 ∧ dCu D (y : Int) = dNE D q1) := by
  have l : y - 1 < (rE D).length := by have := rE_len (D := D); omega
  have z := zA2_get hN l
  rw [show 1 + (y - 1) = y by omega] at z
  by_cases hs : y < 1 + (dEn D).length
  · left
    have e := (rE_get (D := D) h1 hs).2
    rw [getD_lt l] at e
    rw [e] at z
    refine ⟨z.2, ?_, ?_⟩
    · rw [z.1]
      unfold dLa
      rw [Int.toNat_natCast, if_pos hs, getD_lt (show y - 1 < (dEn D).length by omega)]
      rfl
    · unfold dCu
      rw [Int.toNat_natCast, if_pos hs]
  · right
    have l2 : y - (1 + (dEn D).length) < (dPE D).length := by unfold dnE at h2; omega
    have e : (rE D)[y - 1] = rk2 ((dPE D)[y - (1 + (dEn D).length)]) := by
      rw [← getD_lt (d := (0, 0)) l]
      unfold rE
      rw [List.getD_eq_getElem?_getD, List.getElem?_append_right (by rw [List.length_map]; omega), List.length_map, show y - 1 - (dEn D).length = y - (1 + (dEn D).length) by omega, List.getElem?_map, List.getElem?_eq_getElem l2]
      rfl
    rw [e] at z
    have hq := dPE_mem hD (List.getElem_mem l2)
    refine ⟨?_, (dPE D)[y - (1 + (dEn D).length)].1, z.1, hq.2.2.2.1, ?_⟩
    · rw [z.2]
      unfold dLa
      rw [Int.toNat_natCast, if_neg hs, getD_lt l2]
      rfl
    · unfold dCu
      rw [Int.toNat_natCast, if_neg hs, getD_lt l2]
theorem rBP_st {m : zM} {b : Nat} {v : Int} {pl : List (Int × Int × Int)} {q1 q2 : Int × Int × Int} (h : rBP m b (pl ++ [q1] ++ [q2])) : rBP (zup m 359 (200 * b + pl.length) v) b (pl ++ [(q1.1, q1.2.1, v)] ++ [q2]) := by
  obtain ⟨h1, h2, h3⟩ := h
  have e1 : (pl ++ [(q1.1, q1.2.1, v)] ++ [q2]).map (fun q => q.1) = (pl ++ [q1] ++ [q2]).map (fun q => q.1) := by simp
  have e2 : (pl ++ [(q1.1, q1.2.1, v)] ++ [q2]).map (fun q => q.2.1) = (pl ++ [q1] ++ [q2]).map (fun q => q.2.1) := by simp
  refine ⟨zAL_eq (zup_nf (by decide)) (by rw [e1]; exact h1), zAL_eq (zup_nf (by decide)) (by rw [e2]; exact h2), fun j z hz => ?_⟩
  by_cases hj : j = pl.length
  · subst hj
    rw [zup_same]
    rw [List.append_assoc, List.map_append, List.getElem?_append_right (by rw [List.length_map]; exact Nat.le_refl _), List.length_map, Nat.sub_self] at hz
    cases hz
    rfl
  · rw [zup_nk (by omega)]
    refine h3 j z ?_
    have e : ∀ w : Int × Int × Int, (pl ++ [w] ++ [q2]).map (fun q => q.2.2) = pl.map (fun q => q.2.2) ++ (w.2.2 :: [q2.2.2]) := fun w => by simp
    rw [e] at hz ⊢
    by_cases hl : j < pl.length
    · rw [List.getElem?_append_left (by rw [List.length_map]; exact hl)] at hz ⊢
      exact hz
    · rw [List.getElem?_append_right (by rw [List.length_map]; omega), List.length_map] at hz ⊢
      obtain ⟨d, hd⟩ : ∃ d, j - pl.length = d + 1 := ⟨j - pl.length - 1, by omega⟩
      rw [hd] at hz ⊢
      exact hz
theorem c_rsteal {L : zY} {m : zM} {Q : zQ} {b v y : Nat} {s : zMS} {x : zIt} {D : zD} (hD : dOk D) (ht : zMt L) (hn : zMn L) (hb : b ≤ 1) (hx : rMx m D) (hs : rMS m b s) (hX : msX (dnE D) s) (ho : s.2.1 = some x) (hp : s.2.2.1.length < 199) (h9 : m 359 (200 * b + s.2.2.1.length) = 0) (hv : v < 26) (hy : itE x = (y : Int)) (hy1 : 1 ≤ y) (hy2 : y < dnE D) (k : ∀ m', rMS m' b (kSteal (zPof D) v s x) → rBf b m m' → Q none L m') : zwp 195 0 [zA 332, zI (s.2.2.1.length : Int), zI (v : Int), zU, zU, zU] [] L m Q := by
  have t0 := mt332 ht
  have hb2 : b ≤ 2 := by omega
  have h45 := hs.1
  have h46 := hs.2.1
  rw [ho] at h46
  obtain ⟨len, h49⟩ := rMS_len hs hX.1 hp
  obtain ⟨-, -, gI, gP, gS⟩ := hs
  rw [msI_some ho] at gI h49 len
  rw [List.length_append] at h49 len
  have len : s.1.length + 1 < 200 := len
  have h49 : m 349 b = ((s.1.length + 1 : Nat) : Int) := h49
  have gE : m 352 (200 * b + s.1.length) = itE x := zALo_mend gI.2.2.2.1
  have gN : m 355 (200 * b + s.1.length) = itN x := zALo_mend gI.2.2.2.2.2.2
  have hN := hX.1.2.2.2.1 x (by rw [msI_some ho]; simp)
  have hst : 0 ≤ s.2.2.2 ∧ s.2.2.2 ≤ (s.2.2.1.length : Int) := ⟨hX.1.2.1, hX.1.2.2.1⟩
  have hne := (hX.1.2.2.2.2 x ho).2.2.2
  obtain ⟨pl, q, hpl⟩ : ∃ pl q, s.2.2.1 = pl ++ [q] := ⟨s.2.2.1.dropLast, s.2.2.1.getLast hne, (List.dropLast_concat_getLast hne).symm⟩
  have eD : s.2.2.1.dropLast = pl := by rw [hpl, List.dropLast_concat]
  have elen : s.2.2.1.length = pl.length + 1 := by rw [hpl, List.length_append]; rfl
  unfold kSteal at k
  rw [eD, elen] at k
  have eLa : pLa (zPof D) (itE x) = dLa D (y : Int) := by rw [hy]; rfl
  have eCu : pCu (zPof D) (itE x) = dCu D (y : Int) := by rw [hy]; rfl
  rw [eLa, eCu] at k
  have e1 : pLo (zPof D) (dLa D (y : Int)) = dNL D (dLa D (y : Int)) := rfl
  have e2 : pMo (zPof D) v = dNM D v := rfl
  rw [e1, e2] at k
  rw [elen] at h9 hp hst hN ⊢
  rw [hpl] at gP
  have hla := dLa_fin hD (e := (y : Int)) (by omega) (by omega)
  have hlo : m 341 (dLa D (y : Int)) = dNL D (dLa D (y : Int)) := hx.2.2.1.1.1 _ hla.2.1
  have hmo : m 344 v = dNM D v := hx.2.2.1.1.2.2.2 v hv
  have heo : ∀ j, j < 26 → m 343 j = dNE D j := hx.2.2.1.1.2.2.1
  have ek := r_endk hD hx.2.2.1.2.2.2.2 hy1 hy2
  have dnb : dnE D ≤ 19 := by
    have a1 : (dEn D).length ≤ 10 := Nat.le_trans (List.length_filter_le _ _) hD.2.2.1.1
    have a2 : (dPE D).length ≤ 8 := Nat.le_trans (List.length_filter_le _ _) hD.2.2.1.2.2.2.2
    unfold dnE; omega
  generalize dLa D (y : Int) = La at *
  generalize hj : s.1.length = j at *
  have q24 : m 332 24 = ((341 : Nat) : Int) := mp24 hx.1
  have q26 : m 332 26 = ((343 : Nat) : Int) := mp26 hx.1
  have q27 : m 332 27 = ((344 : Nat) : Int) := mp27 hx.1
  have q30 : m 332 30 = ((347 : Nat) : Int) := mp30 hx.1
  have q37 : m 332 37 = ((352 : Nat) : Int) := mp37 hx.1
  have q40 : m 332 40 = ((355 : Nat) : Int) := mp40 hx.1
  have IA := fun Q' : zQ => r_itemAt (Q := Q') (i := j) t0 h45 hb2 (by omega)
  have hrj : 0 ≤ ((200 * b + j : Nat) : Int) ∧ ((200 * b + j : Nat) : Int) < ((600 : Nat) : Int) := by omega
  have hrLa : 0 ≤ (La : Int) ∧ (La : Int) < ((26 : Nat) : Int) := by omega
  have hrv : 0 ≤ (v : Int) ∧ (v : Int) < ((26 : Nat) : Int) := by omega
  have hry : 0 ≤ ((2 * y : Nat) : Int) ∧ ((2 * y : Nat) : Int) < ((38 : Nat) : Int) := by omega
  have hry' : 0 ≤ ((2 * y + 1 : Nat) : Int) ∧ ((2 * y + 1 : Nat) : Int) < ((38 : Nat) : Int) := by omega
  -- from the END's cutting on
  have tail : zwp 195 100 [zA 332, zI ((pl.length + 1 : Nat) : Int), zI (v : Int), zI (j : Int), zI (y : Int), zI (La : Int)] [zI (dCu D (y : Int)), zI ((200 * b + j : Nat) : Int), zA 352] L m Q := by
    let m1 := zup m 352 (200 * b + j) (dCu D (y : Int))
    have f1 : rBf b m m1 := rBf_up rBf_rf (by unfold rIn; omega)
    let m2 := zup m1 355 (200 * b + j) (itN x - 1)
    have f2 : rBf b m m2 := rBf_up f1 (by unfold rIn; omega)
    have o2 : ∀ c, c ≠ 352 → c ≠ 355 → m2 c = m c := fun c p1 p2 => by show zup (zup m 352 _ _) 355 _ _ c = m c; rw [zup_nf p2, zup_nf p1]
    have i2 : rBI m2 b (s.1 ++ [(itL x, itM x, dCu D (y : Int), itK x, itF x, itN x - 1)]) := by
      have i1 := rBI_set (x' := (itL x, itM x, dCu D (y : Int), itK x, itF x, itN x)) (v := dCu D (y : Int)) gI rfl rfl (Or.inr (Or.inr (Or.inl ⟨rfl, rfl, rfl, rfl, rfl⟩)))
      have i1' := rBI_set (x' := (itL x, itM x, dCu D (y : Int), itK x, itF x, itN x - 1)) (v := itN x - 1) i1 rfl rfl (Or.inr (Or.inr (Or.inr ⟨rfl, rfl, rfl, rfl, rfl⟩)))
      rw [hj] at i1'
      exact i1'
    have jl : (s.1 ++ [(itL x, itM x, dCu D (y : Int), itK x, itF x, itN x - 1)]).length = j + 1 := by rw [List.length_append, hj]; rfl
    let m3 := rbeg m2 b (j + 1) (dNL D La) (dNM D v) (La : Int) ((pl.length : Nat) : Int)
    have f3 : rBf b m m3 := rBf_tr f2 (rbeg_f len)
    have i3 : rBI m3 b (s.1 ++ [(itL x, itM x, dCu D (y : Int), itK x, itF x, itN x - 1)] ++ [(dNL D La, dNM D v, -2, (La : Int), ((pl.length : Nat) : Int), 0)]) := by
      have := rbeg_I (l := dNL D La) (mm := dNM D v) (k := (La : Int)) (f := ((pl.length : Nat) : Int)) i2
      rw [jl] at this
      exact this
    let m4 := zup m3 332 46 ((j + 1 : Nat) : Int)
    have f4 : rBf b m m4 := rBf_up f3 (by unfold rIn; omega)
    have i4 : rBI m4 b (s.1 ++ [(itL x, itM x, dCu D (y : Int), itK x, itF x, itN x - 1)] ++ [(dNL D La, dNM D v, -2, (La : Int), ((pl.length : Nat) : Int), 0)]) := rBI_eq (fun a p q => zup_nf (by omega)) i3
    have n4 : m4 355 (200 * b + (j + 1)) = 0 := by have := zALo_mend i4.2.2.2.2.2.2; rw [jl] at this; exact this
    have o4 : ∀ c, c ≠ 332 → (c < 349 ∨ 355 < c) → m4 c = m c := fun c p1 p2 => by show zup m3 332 46 _ c = m c; rw [zup_nf p1]; show rbeg m2 _ _ _ _ _ _ c = m c; rw [rbeg_o p2, o2 c (by omega) (by omega)]
    have b4 : m4 332 45 = (b : Int) := by show zup m3 332 46 _ 332 45 = _; rw [zup_nk (by decide)]; show rbeg m2 _ _ _ _ _ _ 332 45 = _; rw [rbeg_o (by decide), o2 332 (by decide) (by decide)]; exact h45
    have a4 : m4 332 46 = ((j + 1 : Nat) : Int) := zup_same
    let m5 := rtak m4 b pl.length (j + 1) 0
    have f5 : rBf b m m5 := rBf_tr f4 (rtak_f (by omega) len)
    have p4 : rBP m4 b (pl ++ [q]) := rBP_eq (fun a p1 p2 => o4 a (by omega) (by omega)) gP
    have p5 := rtak_Q (i := j + 1) (part := 0) p4
    have i5 := rtak_I (p := pl.length) (part := 0) i4
    rw [jl] at i5
    have b5 : m5 332 45 = (b : Int) := by show rtak m4 _ _ _ _ 332 45 = _; rw [rtak_o (by decide)]; exact b4
    have a5 : m5 332 46 = ((j + 1 : Nat) : Int) := by show rtak m4 _ _ _ _ 332 46 = _; rw [rtak_o (by decide)]; exact a4
    have n5 : m5 355 (200 * b + (j + 1)) = 1 := by have := zALo_mend i5.2.2.2.2.2.2; rw [jl] at this; exact this
    let m6 := rtak m5 b (pl.length + 1) (j + 1) 1
    have f6 : rBf b m m6 := rBf_tr f5 (rtak_f (by omega) len)
    have h95 : m5 359 (200 * b + (pl.length + 1)) = 0 := by show rtak m4 _ _ _ _ 359 _ = _; rw [rtak_o (by decide), o4 359 (by decide) (by decide)]; exact h9
    have pl5 : (pl ++ [(((j + 1 : Nat) : Int), (0 : Int), q.2.2)]).length = pl.length + 1 := by rw [List.length_append]; rfl
    have p6 : rBP m6 b (pl ++ [(((j + 1 : Nat) : Int), 0, q.2.2)] ++ [(((j + 1 : Nat) : Int), 1, 0)]) := by
      have := rtak_P (m := m5) (i := j + 1) (part := 1) (w := 0) p5 (by rw [pl5]; exact h95)
      rw [pl5] at this
      exact this
    have i6 : rBI m6 b (s.1 ++ [(itL x, itM x, dCu D (y : Int), itK x, itF x, itN x - 1)] ++ [(dNL D La, dNM D v, -2, (La : Int), ((pl.length : Nat) : Int), 2)]) := by
      have := rtak_I (p := pl.length + 1) (part := 1) i5
      rw [jl] at this
      exact this
    have b6 : m6 332 45 = (b : Int) := by show rtak m5 _ _ _ _ 332 45 = _; rw [rtak_o (by decide)]; exact b5
    have a6 : m6 332 46 = ((j + 1 : Nat) : Int) := by show rtak m5 _ _ _ _ 332 46 = _; rw [rtak_o (by decide)]; exact a5
    have s6 : m6 356 b = s.2.2.2 := by show rtak m5 _ _ _ _ 356 b = _; rw [rtak_o (by decide)]; show rtak m4 _ _ _ _ 356 b = _; rw [rtak_o (by decide), o4 356 (by decide) (by decide)]; exact gS
    let m7 := zup m6 359 (200 * b + pl.length) 1
    let m8 := zup m7 356 b (s.2.2.2 + 1)
    have f8 : rBf b m m8 := rBf_up (rBf_up f6 (by unfold rIn; omega)) (by unfold rIn; omega)
    have fin : Q none L m8 := by
      refine k m8 ⟨?_, ?_, ?_, ?_, zup_same⟩ f8
      · show zup (zup m6 359 _ _) 356 _ _ 332 45 = _; rw [zup_na (by decide), zup_na (by decide)]; exact b6
      · show zup (zup m6 359 _ _) 356 _ _ 332 46 = (((s.1 ++ [(itL x, itM x, dCu D (y : Int), itK x, itF x, itN x - 1)]).length : Nat) : Int)
        rw [zup_na (by decide), zup_na (by decide), jl]; exact a6
      · show rBI m8 b (s.1 ++ [(itL x, itM x, dCu D (y : Int), itK x, itF x, itN x - 1)] ++ [(dNL D La, dNM D v, -2, (La : Int), ((pl.length + 1 : Nat) : Int) - 1, 2)])
        have e : ((pl.length + 1 : Nat) : Int) - 1 = ((pl.length : Nat) : Int) := by omega
        rw [e]
        exact rBI_eq (fun a p q => by show zup (zup m6 359 _ _) 356 _ _ a = _; rw [zup_nf (by omega), zup_nf (by omega)]) i6
      · show rBP m8 b (pl ++ [((j : Int) + 1, 0, 1)] ++ [((j : Int) + 1, 1, 0)])
        have e : (j : Int) + 1 = ((j + 1 : Nat) : Int) := rfl
        rw [e]
        exact rBP_eq (fun a p q => by show zup m7 356 _ _ a = _; rw [zup_nf (by omega)]) (rBP_st p6)
    have c45 : m1 332 45 = (b : Int) := by show zup m 352 _ _ 332 45 = _; rw [zup_na (by decide)]; exact h45
    have c40 : m1 332 40 = ((355 : Nat) : Int) := by show zup m 352 _ _ 332 40 = _; rw [zup_na (by decide)]; exact q40
    have cN : m1 355 (200 * b + j) = itN x := by show zup m 352 _ _ 355 _ = _; rw [zup_na (by decide)]; exact gN
    have IA1 := fun Q' : zQ => r_itemAt (Q := Q') (i := j) t0 c45 hb2 (by omega)
    have d24 : m2 332 24 = ((341 : Nat) : Int) := by rw [o2 332 (by decide) (by decide)]; exact q24
    have d27 : m2 332 27 = ((344 : Nat) : Int) := by rw [o2 332 (by decide) (by decide)]; exact q27
    have dlo : m2 341 La = dNL D La := by rw [o2 341 (by decide) (by decide)]; exact hlo
    have dmo : m2 344 v = dNM D v := by rw [o2 344 (by decide) (by decide)]; exact hmo
    have d49 : m2 349 b = ((j + 1 : Nat) : Int) := by rw [o2 349 (by decide) (by decide)]; exact h49
    have BG := fun Q' : zQ => r_begins (Q := Q') (at0 := ((pl.length : Nat) : Int)) (l := dNL D La) (mm := dNM D v) (key := (La : Int)) ht hn (zMp_Bf f2 hx.1) (show m2 332 45 = (b : Int) by rw [o2 332 (by decide) (by decide)]; exact h45) hb2 d49 len
    have T1 := fun Q' : zQ => r_takes (Q := Q') (p := pl.length) (part := 0) ht hn (zMp_Bf f4 hx.1) b4 hb (by omega) len (by rw [n4]; decide)
    have T2 := fun Q' : zQ => r_takes (Q := Q') (p := pl.length + 1) (part := 1) ht hn (zMp_Bf f5 hx.1) b5 hb (by omega) len (by rw [n5]; decide)
    have p6' := zMp_Bf f6 hx.1
    have g44 : m6 332 44 = ((359 : Nat) : Int) := mp44 p6'
    have g41 : m6 332 41 = ((356 : Nat) : Int) := mp41 p6'
    have hrp : 0 ≤ ((200 * b + pl.length : Nat) : Int) ∧ ((200 * b + pl.length : Nat) : Int) < ((400 : Nat) : Int) := by omega
    have hrb : 0 ≤ (b : Int) ∧ (b : Int) < ((3 : Nat) : Int) := by omega
    simp only [s195_100, Int.toNat_natCast, true_and, and_true, true_or, or_true, false_or, or_false, zwr_id, zpu_some, zpu_none, reduceIte, Int.reduceLE, Int.reduceLT, Int.reduceEq, Int.reduceNeg, Int.reduceAdd, Int.reduceSub, Int.reduceMul, Int.reduceToNat, Nat.reduceAdd, Nat.reduceLeDiff, Nat.reduceEqDiff, Nat.reduceLT, eq_self, ne_eq, not_false_eq_true, not_true_eq_false, mt352 ht, mn352 hn, hrj, and_self]
    change zwp 195 101 _ _ L m1 Q
    simp only [s195_101, s195_102, s195_105, s195_106, s195_107, s195_110, s195_111, s195_112, s195_113, s195_114, Int.toNat_natCast, true_and, and_true, true_or, or_true, false_or, or_false, zwr_id, zpu_some, zpu_none, reduceIte, Int.reduceLE, Int.reduceLT, Int.reduceEq, Int.reduceNeg, Int.reduceAdd, Int.reduceSub, Int.reduceMul, Int.reduceToNat, Nat.reduceAdd, Nat.reduceLeDiff, Nat.reduceEqDiff, Nat.reduceLT, eq_self, ne_eq, not_false_eq_true, not_true_eq_false, t0, c40, IA1, mt355 ht, mn355 hn, hrj, and_self, cN, (show zwr (itN x - 1) = itN x - 1 from zwr_id (by omega) (by omega))]
    change zwp 195 115 _ _ L m2 Q
    simp only [s195_115, s195_116, s195_117, s195_118, s195_119, s195_120, s195_121, s195_124, s195_126, s195_127, s195_128, s195_131, s195_132, s195_133, s195_135, Int.toNat_natCast, true_and, and_true, true_or, or_true, false_or, or_false, zwr_id, zpu_some, zpu_none, reduceIte, Int.reduceLE, Int.reduceLT, Int.reduceEq, Int.reduceNeg, Int.reduceAdd, Int.reduceSub, Int.reduceMul, Int.reduceToNat, Nat.reduceAdd, Nat.reduceLeDiff, Nat.reduceEqDiff, Nat.reduceLT, eq_self, ne_eq, not_false_eq_true, not_true_eq_false, t0, (show zwr (((pl.length + 1 : Nat) : Int) - 1) = ((pl.length : Nat) : Int) from zwn (by omega) (by omega)), d24, d27, mt341 ht, mn341 hn, mt344 ht, mn344 hn, hrLa, hrv, and_self, dlo, dmo, BG]
    change zwp 195 138 _ _ L m3 Q
    simp only [s195_138, true_and, t0]
    change zwp 195 141 _ _ L m4 Q
    simp only [s195_141, s195_142, s195_143, s195_144, s195_145, s195_146, s195_149, s195_150, Int.toNat_natCast, true_and, and_true, true_or, or_true, false_or, or_false, zwr_id, zpu_some, zpu_none, reduceIte, Int.reduceLE, Int.reduceLT, Int.reduceEq, Int.reduceNeg, Int.reduceAdd, Int.reduceSub, Int.reduceMul, Int.reduceToNat, Nat.reduceAdd, Nat.reduceLeDiff, Nat.reduceEqDiff, Nat.reduceLT, eq_self, ne_eq, not_false_eq_true, not_true_eq_false, t0, (show zwr (((pl.length + 1 : Nat) : Int) - 1) = ((pl.length : Nat) : Int) from zwn (by omega) (by omega)), a4, T1]
    change zwp 195 153 _ _ L m5 Q
    simp only [s195_153, s195_154, s195_155, s195_156, s195_159, s195_160, Int.toNat_natCast, true_and, and_true, true_or, or_true, false_or, or_false, zwr_id, zpu_some, zpu_none, reduceIte, Int.reduceLE, Int.reduceLT, Int.reduceEq, Int.reduceNeg, Int.reduceAdd, Int.reduceSub, Int.reduceMul, Int.reduceToNat, Nat.reduceAdd, Nat.reduceLeDiff, Nat.reduceEqDiff, Nat.reduceLT, eq_self, ne_eq, not_false_eq_true, not_true_eq_false, t0, a5, T2]
    change zwp 195 163 _ _ L m6 Q
    simp only [s195_163, s195_164, s195_167, s195_170, s195_171, s195_174, s195_175, s195_176, s195_177, s195_178, s195_179, s195_180, Int.toNat_natCast, true_and, and_true, true_or, or_true, false_or, or_false, zwr_id, zpu_some, zpu_none, reduceIte, Int.reduceLE, Int.reduceLT, Int.reduceEq, Int.reduceNeg, Int.reduceAdd, Int.reduceSub, Int.reduceMul, Int.reduceToNat, Nat.reduceAdd, Nat.reduceLeDiff, Nat.reduceEqDiff, Nat.reduceLT, eq_self, ne_eq, not_false_eq_true, not_true_eq_false, t0, g44, b6, mt359 ht, mn359 hn, hrp, and_self, (show zwr (200 * (b : Int)) = ((200 * b : Nat) : Int) from zwn (by omega) (by omega)), (show zwr (((200 * b : Nat) : Int) + ((pl.length + 1 : Nat) : Int)) = ((200 * b + (pl.length + 1) : Nat) : Int) from zwn (by omega) (by omega)), (show zwr (((200 * b + (pl.length + 1) : Nat) : Int) - 1) = ((200 * b + pl.length : Nat) : Int) from zwn (by omega) (by omega))]
    have g41' : m7 332 41 = ((356 : Nat) : Int) := by show zup m6 359 _ _ 332 41 = _; rw [zup_na (by decide)]; exact g41
    have b7 : m7 332 45 = (b : Int) := by show zup m6 359 _ _ 332 45 = _; rw [zup_na (by decide)]; exact b6
    have s7 : m7 356 b = s.2.2.2 := by show zup m6 359 _ _ 356 b = _; rw [zup_na (by decide)]; exact s6
    change zwp 195 181 _ _ L m7 Q
    simp only [s195_181, s195_182, s195_185, s195_186, s195_189, s195_190, s195_191, s195_192, s195_193, s195_194, Int.toNat_natCast, true_and, and_true, true_or, or_true, false_or, or_false, zwr_id, zpu_some, zpu_none, reduceIte, Int.reduceLE, Int.reduceLT, Int.reduceEq, Int.reduceNeg, Int.reduceAdd, Int.reduceSub, Int.reduceMul, Int.reduceToNat, Nat.reduceAdd, Nat.reduceLeDiff, Nat.reduceEqDiff, Nat.reduceLT, eq_self, ne_eq, not_false_eq_true, not_true_eq_false, t0, g41', b7, mt356 ht, mn356 hn, hrb, and_self, s7, (show zwr (s.2.2.2 + 1) = s.2.2.2 + 1 from zwr_id (by omega) (by omega))]
    exact fin
  rcases ek with ⟨z1, z2, z3⟩ | ⟨z1, q1, z2, z3, z4⟩
  · simp only [s195_0, s195_1, s195_4, s195_5, s195_6, s195_9, s195_10, s195_11, s195_14, s195_15, s195_17, s195_18, s195_21, s195_22, s195_24, s195_25, s195_26, s195_27, s195_28, Int.toNat_natCast, true_and, and_true, true_or, or_true, false_or, or_false, zwr_id, zpu_some, zpu_none, reduceIte, Int.reduceLE, Int.reduceLT, Int.reduceEq, Int.reduceNeg, Int.reduceAdd, Int.reduceSub, Int.reduceMul, Int.reduceToNat, Nat.reduceAdd, Nat.reduceLeDiff, Nat.reduceEqDiff, Nat.reduceLT, eq_self, ne_eq, not_false_eq_true, not_true_eq_false, t0, h46, q37, IA, mt352 ht, mn352 hn, hrj, and_self, gE, hy, q30, mt347 ht, mn347 hn, hry', (show zwr (2 * (y : Int)) = ((2 * y : Nat) : Int) from zwn (by omega) (by omega)), (show zwr (((2 * y : Nat) : Int) + 1) = ((2 * y + 1 : Nat) : Int) from zwn (by omega) (by omega)), z1]
    simp only [s195_29, s195_46, s195_47, s195_50, s195_51, s195_53, s195_54, s195_55, s195_57, s195_58, s195_61, s195_62, s195_63, s195_66, s195_67, s195_70, s195_71, s195_73, s195_74, s195_75, s195_76, s195_77, Int.toNat_natCast, true_and, and_true, true_or, or_true, false_or, or_false, zwr_id, zpu_some, zpu_none, reduceIte, Int.reduceLE, Int.reduceLT, Int.reduceEq, Int.reduceNeg, Int.reduceAdd, Int.reduceSub, Int.reduceMul, Int.reduceToNat, Nat.reduceAdd, Nat.reduceLeDiff, Nat.reduceEqDiff, Nat.reduceLT, eq_self, ne_eq, not_false_eq_true, not_true_eq_false, t0, h46, q37, IA, and_self, q30, mt347 ht, mn347 hn, hry, hry', (show zwr (2 * (y : Int)) = ((2 * y : Nat) : Int) from zwn (by omega) (by omega)), (show zwr (((2 * y : Nat) : Int) + 1) = ((2 * y + 1 : Nat) : Int) from zwn (by omega) (by omega)), z1, z2]
    simp only [s195_78, s195_98, Int.toNat_natCast, true_and, and_true, true_or, or_true, false_or, or_false, zwr_id, zpu_some, zpu_none, reduceIte, Int.reduceLE, Int.reduceLT, Int.reduceEq, Int.reduceNeg, Int.reduceAdd, Int.reduceSub, Int.reduceMul, Int.reduceToNat, Nat.reduceAdd, Nat.reduceLeDiff, Nat.reduceEqDiff, Nat.reduceLT, eq_self, ne_eq, not_false_eq_true, not_true_eq_false]
    rw [z3] at tail
    exact tail
  · have nz : ¬ (La : Int) = -1 := by omega
    have hrq : 0 ≤ (q1 : Int) ∧ (q1 : Int) < ((26 : Nat) : Int) := by omega
    simp only [s195_0, s195_1, s195_4, s195_5, s195_6, s195_9, s195_10, s195_11, s195_14, s195_15, s195_17, s195_18, s195_21, s195_22, s195_24, s195_25, s195_26, s195_27, s195_28, Int.toNat_natCast, true_and, and_true, true_or, or_true, false_or, or_false, zwr_id, zpu_some, zpu_none, reduceIte, Int.reduceLE, Int.reduceLT, Int.reduceEq, Int.reduceNeg, Int.reduceAdd, Int.reduceSub, Int.reduceMul, Int.reduceToNat, Nat.reduceAdd, Nat.reduceLeDiff, Nat.reduceEqDiff, Nat.reduceLT, eq_self, ne_eq, not_false_eq_true, not_true_eq_false, t0, h46, q37, IA, mt352 ht, mn352 hn, hrj, and_self, gE, hy, q30, mt347 ht, mn347 hn, hry', (show zwr (2 * (y : Int)) = ((2 * y : Nat) : Int) from zwn (by omega) (by omega)), (show zwr (((2 * y : Nat) : Int) + 1) = ((2 * y + 1 : Nat) : Int) from zwn (by omega) (by omega)), z1]
    simp only [s195_29, s195_32, s195_33, s195_36, s195_37, s195_39, s195_40, s195_41, s195_42, s195_43, s195_55, s195_57, s195_58, s195_61, s195_62, s195_63, s195_66, s195_67, s195_70, s195_71, s195_73, s195_74, s195_75, s195_76, s195_77, Int.toNat_natCast, true_and, and_true, true_or, or_true, false_or, or_false, zwr_id, zpu_some, zpu_none, reduceIte, Int.reduceLE, Int.reduceLT, Int.reduceEq, Int.reduceNeg, Int.reduceAdd, Int.reduceSub, Int.reduceMul, Int.reduceToNat, Nat.reduceAdd, Nat.reduceLeDiff, Nat.reduceEqDiff, Nat.reduceLT, eq_self, ne_eq, not_false_eq_true, not_true_eq_false, t0, h46, q37, IA, and_self, q30, mt347 ht, mn347 hn, hry, hry', (show zwr (2 * (y : Int)) = ((2 * y : Nat) : Int) from zwn (by omega) (by omega)), (show zwr (((2 * y : Nat) : Int) + 1) = ((2 * y + 1 : Nat) : Int) from zwn (by omega) (by omega)), z1, z2, nz]
    simp only [s195_78, s195_81, s195_82, s195_85, s195_86, s195_89, s195_90, s195_92, s195_93, s195_94, s195_95, Int.toNat_natCast, true_and, and_true, true_or, or_true, false_or, or_false, zwr_id, zpu_some, zpu_none, reduceIte, Int.reduceLE, Int.reduceLT, Int.reduceEq, Int.reduceNeg, Int.reduceAdd, Int.reduceSub, Int.reduceMul, Int.reduceToNat, Nat.reduceAdd, Nat.reduceLeDiff, Nat.reduceEqDiff, Nat.reduceLT, eq_self, ne_eq, not_false_eq_true, not_true_eq_false, t0, nz, q26, q30, mt347 ht, mn347 hn, hry, (show zwr (2 * (y : Int)) = ((2 * y : Nat) : Int) from zwn (by omega) (by omega)), z2, mt343 ht, mn343 hn, hrq, and_self, heo q1 z3]
    rw [z4] at tail
    exact tail
