theorem zforv {α : Type} {mi pc : Nat} {L : zY} {Q : zQ} {n : Nat} (ls : α → Nat → List zV) (I : Nat → zM → Prop) (step : ∀ v i m, i < n → I i m → (∀ v' m', I (i + 1) m' → zwp mi pc (ls v' (i + 1)) [] L m' Q) → zwp mi pc (ls v i) [] L m Q) (done : ∀ v m, I n m → zwp mi pc (ls v n) [] L m Q) : ∀ v i m, i ≤ n → I i m → zwp mi pc (ls v i) [] L m Q := by
  intro v i
  generalize hd : n - i = d
  induction d generalizing i v with
  | zero =>
    intro m hi h
    have e : i = n := by omega
    subst e
    exact done v m h
  | succ d ih =>
    intro m hi h
    exact step v i m (by omega) h (fun v' m' h' => ih v' (i + 1) (by omega) m' (by omega) h')
theorem zPT_fr {L : zY} {m m' : zM} {o cap lo hi : Nat} {es : List (Int × Int)} {ns : Nat} {sn : Nat → Int} (f : zFR lo hi m m') (hd : o + 3 < lo ∨ hi < o) (h : zPT L m o cap es ns sn) : zPT L m' o cap es ns sn := zPT_eq (zFR_at f (by omega)) (zFR_at f (by omega)) (zFR_at f (by omega)) (zFR_at f (by omega)) h
theorem zSd_fr {L : zY} {m m' : zM} {c lo hi : Nat} {D : zD} (f : zFR lo hi m m') (hd : c + 13 < lo ∨ hi < c) (h : zSd L m c D) : zSd L m' c D := zSd_eq (fun a p q => zFR_at f (by omega)) h
theorem c_gA {L : zY} {m : zM} {Q : zQ} {c : Nat} {D : zD} {l2 : zV} (hD : dOk D) (h : zSd L m c D) (hL : zPT L m (c + 14) 14 [] 0 (fun _ => -2)) (hE : zPT L m (c + 22) 19 [(-2, -2)] 1 (fun _ => -2)) (k : ∀ m' l1 l2, zPT L m' (c + 14) 14 ((dLe D).map k1) (dLe D).length (dNL D) → zPT L m' (c + 22) 19 ([(-2, -2)] ++ (dEn D).map k1) (1 + (dEn D).length) (dNE D) → (∀ a, (a < c + 14 ∨ (c + 17 < a ∧ a < c + 22) ∨ c + 25 < a) → m' a = m a) → zwp 67 90 [zA c, zI l1, l2, zU] [] L m' Q) : zwp 67 32 [zA c, zI 0, l2, zU] [] L m Q := by
  refine zforv (n := (dC D).length) (fun l2 i => [zA c, zI (i : Nat), l2, zU]) (fun i m' => zPT L m' (c + 14) 14 (((((dC D).take i).filter (cLe D))).map k1) (((dC D).take i).filter (cLe D)).length (ixf (((dC D).take i).filter (cLe D)) 0 (fun _ => -2)) ∧ zPT L m' (c + 22) 19 ([(-2, -2)] ++ (((dC D).take i).filter (cFi D)).map k1) (1 + (((dC D).take i).filter (cFi D)).length) (ixf (((dC D).take i).filter (cFi D)) 1 (fun _ => -2)) ∧ (∀ a, (a < c + 14 ∨ (c + 17 < a ∧ a < c + 22) ∨ c + 25 < a) → m' a = m a)) ?_ ?_ l2 0 m (Nat.zero_le _) ⟨hL, hE, fun _ _ => rfl⟩
  · rintro v i m1 hi ⟨g1, g2, f1⟩ ih
    have h1 : zSd L m1 c D := zSd_eq (fun a p q => f1 a (by omega)) h
    have hle := (zKL_n h1.2.2.1).2
    have n1 := (zKL_n h1.2.2.1).1
    have hc := (hD.1.1 _ (List.getElem_mem hi)).1
    obtain ⟨⟨a1, a2, b0, b1, b2, b3, b4, b5, b6, b7, b8, b9, a3, a4⟩, a5, l1, l2, l3, l4, l5, l6⟩ := id h1
    have t1 := l1.1
    have tL := g1.1
    have tE := g2.1
    have fl1 := fil_le (p := cLe D) (xs := dC D) (i := i)
    have fl2 := fil_le (p := cFi D) (xs := dC D) (i := i)
    have last : ∀ m2, zPT L m2 (c + 14) 14 (((((dC D).take (i + 1)).filter (cLe D))).map k1) (((dC D).take (i + 1)).filter (cLe D)).length (ixf (((dC D).take (i + 1)).filter (cLe D)) 0 (fun _ => -2)) → zPT L m2 (c + 22) 19 ([(-2, -2)] ++ (((dC D).take (i + 1)).filter (cFi D)).map k1) (1 + (((dC D).take (i + 1)).filter (cFi D)).length) (ixf (((dC D).take (i + 1)).filter (cFi D)) 1 (fun _ => -2)) → (∀ a, (a < c + 14 ∨ (c + 17 < a ∧ a < c + 22) ∨ c + 25 < a) → m2 a = m a) → zwp 67 84 [zA c, zI (i : Nat), zI (kk (dC D)[i]), zU] [] L m2 Q := by
      intro m2 q1 q2 q3
      simp only [s67_84, s67_87, (z1 (i := i) (by omega))]
      exact ih _ m2 ⟨q1, q2, q3⟩
    have mid : ∀ m2, zSd L m2 c D → zPT L m2 (c + 14) 14 (((((dC D).take (i + 1)).filter (cLe D))).map k1) (((dC D).take (i + 1)).filter (cLe D)).length (ixf (((dC D).take (i + 1)).filter (cLe D)) 0 (fun _ => -2)) → zPT L m2 (c + 22) 19 ([(-2, -2)] ++ (((dC D).take i).filter (cFi D)).map k1) (1 + (((dC D).take i).filter (cFi D)).length) (ixf (((dC D).take i).filter (cFi D)) 1 (fun _ => -2)) → (∀ a, (a < c + 14 ∨ (c + 17 < a ∧ a < c + 22) ∨ c + 25 < a) → m2 a = m a) → zwp 67 68 [zA c, zI (i : Nat), zI (kk (dC D)[i]), zU] [] L m2 Q := by
      intro m2 hS q1 q2 q3
      have b9' := hS.1.2.2.2.2.2.2.2.2.2.2.2.1
      have tE := q2.1
      simp only [s67_68, s67_69, s67_70, s67_73, Int.toNat_natCast, true_and, and_true, true_or, or_true, false_or, or_false, zwr_id, zpu_some, zpu_none, reduceIte, Int.reduceLE, Int.reduceLT, Int.reduceEq, Int.reduceNeg, Int.reduceAdd, Int.reduceSub, Int.reduceMul, Int.reduceToNat, Nat.reduceAdd, Nat.reduceLeDiff, Nat.reduceEqDiff, Nat.reduceLT, eq_self, ne_eq, not_false_eq_true, not_true_eq_false, a1, x_canFi hS hc]
      by_cases e : cFi D (dC D)[i] = true
      · rw [e]
        simp only [s67_76, s67_77, s67_80, s67_81, Int.toNat_natCast, true_and, and_true, true_or, or_true, false_or, or_false, zwr_id, zpu_some, zpu_none, reduceIte, Int.reduceLE, Int.reduceLT, Int.reduceEq, Int.reduceNeg, Int.reduceAdd, Int.reduceSub, Int.reduceMul, Int.reduceToNat, Nat.reduceAdd, Nat.reduceLeDiff, Nat.reduceEqDiff, Nat.reduceLT, eq_self, ne_eq, not_false_eq_true, not_true_eq_false, a1, b9', tE]
        refine c_single q2 (by rw [List.length_append, List.length_map]; show 1 + _ < 19; omega) hc (fun m3 g3 f3 => ?_)
        simp only [zpu_none]
        refine last m3 (zPT_fr f3 (by omega) q1) ?_ (fun a ha => by rw [zFR_at f3 (by omega)]; exact q3 a ha)
        rw [fil_s hi, if_pos e, ixf_app, List.map_append, List.length_append]
        rw [List.length_append, List.length_map] at g3
        rw [← List.append_assoc]
        exact g3
      · have e : cFi D (dC D)[i] = false := Bool.not_eq_true _ ▸ e
        rw [e]
        simp only [Int.toNat_natCast, true_and, and_true, true_or, or_true, false_or, or_false, zwr_id, zpu_some, zpu_none, reduceIte, Int.reduceLE, Int.reduceLT, Int.reduceEq, Int.reduceNeg, Int.reduceAdd, Int.reduceSub, Int.reduceMul, Int.reduceToNat, Nat.reduceAdd, Nat.reduceLeDiff, Nat.reduceEqDiff, Nat.reduceLT, eq_self, ne_eq, not_false_eq_true, not_true_eq_false, Bool.false_eq_true]
        refine last m2 q1 ?_ q3
        rw [fil_s hi, e, if_neg Bool.false_ne_true, List.append_nil]
        exact q2
    simp only [s67_32]
    simp only [s67_33, s67_34, s67_37, s67_40, s67_43, s67_44, s67_47, s67_48, s67_51, s67_52, s67_53, s67_54, s67_57, Int.toNat_natCast, true_and, and_true, true_or, or_true, false_or, or_false, zwr_id, zpu_some, zpu_none, reduceIte, Int.reduceLE, Int.reduceLT, Int.reduceEq, Int.reduceNeg, Int.reduceAdd, Int.reduceSub, Int.reduceMul, Int.reduceToNat, Nat.reduceAdd, Nat.reduceLeDiff, Nat.reduceEqDiff, Nat.reduceLT, eq_self, ne_eq, not_false_eq_true, not_true_eq_false, a1, b1, t1, n1, zKL_at l1 hi, x_canLead h1 hc]
    rw [if_neg (by omega)]
    by_cases e : cLe D (dC D)[i] = true
    · rw [e]
      simp only [s67_60, s67_61, s67_64, s67_65, Int.toNat_natCast, true_and, and_true, true_or, or_true, false_or, or_false, zwr_id, zpu_some, zpu_none, reduceIte, Int.reduceLE, Int.reduceLT, Int.reduceEq, Int.reduceNeg, Int.reduceAdd, Int.reduceSub, Int.reduceMul, Int.reduceToNat, Nat.reduceAdd, Nat.reduceLeDiff, Nat.reduceEqDiff, Nat.reduceLT, eq_self, ne_eq, not_false_eq_true, not_true_eq_false, a1, b7, tL]
      refine c_single g1 (by rw [List.length_map]; omega) hc (fun m3 g3 f3 => ?_)
      simp only [zpu_none]
      refine mid m3 (zSd_fr f3 (by omega) h1) ?_ (zPT_fr f3 (by omega) g2) (fun a ha => by rw [zFR_at f3 (by omega)]; exact f1 a ha)
      rw [fil_s hi, if_pos e, ixf_app, List.map_append, List.length_append, Nat.zero_add]
      rw [List.length_map] at g3
      exact g3
    · have e : cLe D (dC D)[i] = false := Bool.not_eq_true _ ▸ e
      rw [e]
      simp only [Int.toNat_natCast, true_and, and_true, true_or, or_true, false_or, or_false, zwr_id, zpu_some, zpu_none, reduceIte, Int.reduceLE, Int.reduceLT, Int.reduceEq, Int.reduceNeg, Int.reduceAdd, Int.reduceSub, Int.reduceMul, Int.reduceToNat, Nat.reduceAdd, Nat.reduceLeDiff, Nat.reduceEqDiff, Nat.reduceLT, eq_self, ne_eq, not_false_eq_true, not_true_eq_false, Bool.false_eq_true]
      refine mid m1 h1 ?_ g2 f1
      rw [fil_s hi, e, if_neg Bool.false_ne_true, List.append_nil]
      exact g1
  · rintro v m1 ⟨g1, g2, f1⟩
    have h1 : zSd L m1 c D := zSd_eq (fun a p q => f1 a (by omega)) h
    have n1 := (zKL_n h1.2.2.1).1
    have t1 := h1.2.2.1.1
    have a1 := h1.1.1
    have b1 := h1.1.2.2.2.1
    rw [List.take_length] at g1 g2
    simp only [s67_32]
    simp only [s67_33, s67_34, s67_37, s67_40, s67_43, s67_44, s67_47, s67_48, s67_51, s67_52, s67_53, s67_54, s67_57, Int.toNat_natCast, true_and, and_true, true_or, or_true, false_or, or_false, zwr_id, zpu_some, zpu_none, reduceIte, Int.reduceLE, Int.reduceLT, Int.reduceEq, Int.reduceNeg, Int.reduceAdd, Int.reduceSub, Int.reduceMul, Int.reduceToNat, Nat.reduceAdd, Nat.reduceLeDiff, Nat.reduceEqDiff, Nat.reduceLT, eq_self, ne_eq, not_false_eq_true, not_true_eq_false, a1, b1, t1, n1]
    rw [if_pos (by omega)]
    exact k m1 _ _ g1 g2 f1
theorem c_gB {L : zY} {m : zM} {Q : zQ} {c : Nat} {D : zD} {l2 : zV} (hD : dOk D) (h : zSd L m c D) (hM : zPT L m (c + 18) 16 [] 0 (fun _ => -2)) (k : ∀ m' l1, zPT L m' (c + 18) 16 ((dV D).map k1) (dV D).length (dNM D) → zFR (c + 18) (c + 21) m m' → zwp 67 124 [zA c, zI l1, l2, zU] [] L m' Q) : zwp 67 92 [zA c, zI 0, l2, zU] [] L m Q := by
  refine zfor (n := (dV D).length) (fun i => [zA c, zI (i : Nat), l2, zU]) (fun i m' => zPT L m' (c + 18) 16 (((dV D).take i).map k1) ((dV D).take i).length (ixf ((dV D).take i) 0 (fun _ => -2)) ∧ zFR (c + 18) (c + 21) m m') ?_ ?_ 0 m (Nat.zero_le _) ⟨hM, zFR_rf⟩
  · rintro i m1 hi ⟨g1, f1⟩ ih
    have h1 : zSd L m1 c D := zSd_fr f1 (by omega) h
    obtain ⟨⟨a1, a2, b0, b1, b2, b3, b4, b5, b6, b7, b8, b9, a3, a4⟩, a5, l1, l2, l3, l4, l5, l6⟩ := id h1
    obtain ⟨n2, hle⟩ := zKL_n l2
    have t2 := l2.1
    have tM := g1.1
    have hc := (hD.1.2.1 _ (List.getElem_mem hi)).1
    simp only [s67_92]
    simp only [s67_93, s67_94, s67_97, s67_100, s67_103, s67_104, s67_107, s67_108, s67_111, s67_112, s67_115, Int.toNat_natCast, true_and, and_true, true_or, or_true, false_or, or_false, zwr_id, zpu_some, zpu_none, reduceIte, Int.reduceLE, Int.reduceLT, Int.reduceEq, Int.reduceNeg, Int.reduceAdd, Int.reduceSub, Int.reduceMul, Int.reduceToNat, Nat.reduceAdd, Nat.reduceLeDiff, Nat.reduceEqDiff, Nat.reduceLT, eq_self, ne_eq, not_false_eq_true, not_true_eq_false, a1, b2, b8, t2, tM, n2, zKL_at l2 hi]
    rw [if_neg (by omega)]
    refine c_single g1 (by rw [List.length_map, List.length_take]; omega) hc (fun m3 g3 f3 => ?_)
    simp only [s67_118, s67_121, zpu_none, (z1 (i := i) (by omega))]
    refine ih m3 ⟨?_, zFR_tr f1 (zFR_wd f3 (by omega) (by omega))⟩
    rw [take_s hi, ixf_app, List.map_append, List.length_append, Nat.zero_add]
    rw [List.length_map] at g3
    exact g3
  · rintro m1 ⟨g1, f1⟩
    have h1 : zSd L m1 c D := zSd_fr f1 (by omega) h
    have l2' := h1.2.2.2.1
    have n2 := (zKL_n l2').1
    have t2 := l2'.1
    have a1 := h1.1.1
    have b2 := h1.1.2.2.2.2.1
    rw [List.take_length] at g1
    simp only [s67_92]
    simp only [s67_93, s67_94, s67_97, s67_100, s67_103, s67_104, s67_107, s67_108, s67_111, s67_112, s67_115, Int.toNat_natCast, true_and, and_true, true_or, or_true, false_or, or_false, zwr_id, zpu_some, zpu_none, reduceIte, Int.reduceLE, Int.reduceLT, Int.reduceEq, Int.reduceNeg, Int.reduceAdd, Int.reduceSub, Int.reduceMul, Int.reduceToNat, Nat.reduceAdd, Nat.reduceLeDiff, Nat.reduceEqDiff, Nat.reduceLT, eq_self, ne_eq, not_false_eq_true, not_true_eq_false, a1, b2, t2, n2]
    rw [if_pos (by omega)]
    exact k m1 _ g1 f1
theorem c_gC {L : zY} {m : zM} {Q : zQ} {c : Nat} {D : zD} {l2 : zV} (hD : dOk D) (h : zSd L m c D) (hM : zPT L m (c + 14) 14 ((dLe D).map k1) (dLe D).length (dNL D)) (k : ∀ m' l1, zPT L m' (c + 14) 14 (dTL D) (dLe D).length (dNL D) → zFR (c + 14) (c + 17) m m' → zwp 67 166 [zA c, zI l1, l2, zU] [] L m' Q) : zwp 67 126 [zA c, zI 0, l2, zU] [] L m Q := by
  have hll : (dLe D).length ≤ 10 := Nat.le_trans (List.length_filter_le _ _) hD.2.2.1.1
  refine zfor (n := (dT D).length) (fun i => [zA c, zI (i : Nat), l2, zU]) (fun i m' => zPT L m' (c + 14) 14 ((dLe D).map k1 ++ ((dT D).take i).map (fun k => (kk k, kk k))) (dLe D).length (dNL D) ∧ zFR (c + 14) (c + 17) m m') ?_ ?_ 0 m (Nat.zero_le _) ⟨by rw [List.take_zero, List.map_nil, List.append_nil]; exact hM, zFR_rf⟩
  · rintro i m1 hi ⟨g1, f1⟩ ih
    have h1 : zSd L m1 c D := zSd_fr f1 (by omega) h
    obtain ⟨⟨a1, a2, b0, b1, b2, b3, b4, b5, b6, b7, b8, b9, a3, a4⟩, a5, l1, l2, l3, l4, l5, l6⟩ := id h1
    obtain ⟨n4, hle⟩ := zKL_n l4
    have t4 := l4.1
    have tL := g1.1
    simp only [s67_126]
    simp only [s67_127, s67_128, s67_131, s67_134, s67_137, s67_138, s67_141, s67_142, s67_145, s67_146, s67_149, s67_150, s67_153, s67_154, s67_157, Int.toNat_natCast, true_and, and_true, true_or, or_true, false_or, or_false, zwr_id, zpu_some, zpu_none, reduceIte, Int.reduceLE, Int.reduceLT, Int.reduceEq, Int.reduceNeg, Int.reduceAdd, Int.reduceSub, Int.reduceMul, Int.reduceToNat, Nat.reduceAdd, Nat.reduceLeDiff, Nat.reduceEqDiff, Nat.reduceLT, eq_self, ne_eq, not_false_eq_true, not_true_eq_false, a1, b4, b7, t4, tL, n4, zKL_at l4 hi]
    rw [if_neg (by omega)]
    refine c_double g1 (by rw [List.length_append, List.length_map, List.length_map, List.length_take]; omega) (fun m3 g3 f3 => ?_)
    simp only [s67_160, s67_163, zpu_none, (z1 (i := i) (by omega))]
    refine ih m3 ⟨?_, zFR_tr f1 (zFR_wd f3 (by omega) (by omega))⟩
    rw [take_s hi, List.map_append, ← List.append_assoc]
    exact g3
  · rintro m1 ⟨g1, f1⟩
    have h1 : zSd L m1 c D := zSd_fr f1 (by omega) h
    have l2' := h1.2.2.2.2.2.1
    have n2 := (zKL_n l2').1
    have t2 := l2'.1
    have a1 := h1.1.1
    have b4 := h1.1.2.2.2.2.2.2.1
    rw [List.take_length] at g1
    simp only [s67_126]
    simp only [s67_127, s67_128, s67_131, s67_134, s67_137, s67_138, s67_141, s67_142, s67_145, s67_146, s67_149, s67_150, s67_153, s67_154, s67_157, Int.toNat_natCast, true_and, and_true, true_or, or_true, false_or, or_false, zwr_id, zpu_some, zpu_none, reduceIte, Int.reduceLE, Int.reduceLT, Int.reduceEq, Int.reduceNeg, Int.reduceAdd, Int.reduceSub, Int.reduceMul, Int.reduceToNat, Nat.reduceAdd, Nat.reduceLeDiff, Nat.reduceEqDiff, Nat.reduceLT, eq_self, ne_eq, not_false_eq_true, not_true_eq_false, a1, b4, t2, n2]
    rw [if_pos (by omega)]
    exact k m1 _ g1 f1
