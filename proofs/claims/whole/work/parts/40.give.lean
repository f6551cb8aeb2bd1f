theorem c_gD {L : zY} {m : zM} {Q : zQ} {c : Nat} {D : zD} {l2 : zV} (hD : dOk D) (h : zSd L m c D) (hM : zPT L m (c + 18) 16 ((dV D).map k1) (dV D).length (dNM D)) (hE : zPT L m (c + 22) 19 ([(-2, -2)] ++ (dEn D).map k1) (1 + (dEn D).length) (dNE D)) (k : ∀ m', zPT L m' (c + 18) 16 (dTM D) (dV D).length (dNM D) → zPT L m' (c + 22) 19 (dTE D) (1 + (dEn D).length) (dNE D) → zFR (c + 18) (c + 25) m m' → Q none L m') : zwp 67 168 [zA c, zI 0, l2, zU] [] L m Q := by
  have hle8 := hD.2.2.1.2.2.2.2
  have hll : (dEn D).length ≤ 10 := Nat.le_trans (List.length_filter_le _ _) hD.2.2.1.1
  have hlv := hD.2.2.1.2.1
  refine zforv (n := (dP D).length) (fun (l : zV × zV) i => [zA c, zI (i : Nat), l.1, l.2]) (fun i m' => zPT L m' (c + 18) 16 ((dV D).map k1 ++ (((dP D).take i).filter (fun q => cVo D q.1)).map k2) (dV D).length (dNM D) ∧ zPT L m' (c + 22) 19 ([(-2, -2)] ++ (dEn D).map k1 ++ (((dP D).take i).filter (fun q => !cVo D q.1)).map k2) (1 + (dEn D).length) (dNE D) ∧ zFR (c + 18) (c + 25) m m') ?_ ?_ (l2, zU) 0 m (Nat.zero_le _) ⟨by rw [List.take_zero, List.filter_nil, List.map_nil, List.append_nil]; exact hM, by rw [List.take_zero, List.filter_nil, List.map_nil, List.append_nil]; exact hE, zFR_rf⟩
  · rintro v i m1 hi ⟨g1, g2, f1⟩ ih
    have h1 : zSd L m1 c D := zSd_fr f1 (by omega) h
    obtain ⟨⟨a1, a2, b0, b1, b2, b3, b4, b5, b6, b7, b8, b9, a3, a4⟩, a5, l1, l2, l3, l4, l5, l6⟩ := id h1
    obtain ⟨n5, hle⟩ := zKL_n l5
    have t5 := l5.1
    have t6 := l6.1
    have tM := g1.1
    have tE := g2.1
    have hc := (hD.1.2.2.2.2 _ (List.getElem_mem hi)).1
    have fl1 := fil_le (p := fun q => cVo D q.1) (xs := dP D) (i := i)
    have fl2 := fil_le (p := fun q => !cVo D q.1) (xs := dP D) (i := i)
    have at1 : ∀ (Q : zQ), zwp 9 0 [zA (c + 10), zI (i : Nat)] [] L m1 Q ↔ Q (some (zI (kk (dP D)[i].1))) L m1 := fun Q => by rw [x_keyAt l5 (by rw [List.length_map]; exact hi), List.getElem_map]
    have at2 : ∀ (Q : zQ), zwp 9 0 [zA (c + 12), zI (i : Nat)] [] L m1 Q ↔ Q (some (zI (kk (dP D)[i].2))) L m1 := fun Q => by rw [x_keyAt l6 (by rw [List.length_map]; exact hi), List.getElem_map]
    simp only [s67_168]
    simp only [s67_169, s67_170, s67_173, s67_176, s67_179, s67_180, s67_183, s67_184, s67_187, s67_188, s67_189, s67_190, s67_193, Int.toNat_natCast, true_and, and_true, true_or, or_true, false_or, or_false, zwr_id, zpu_some, zpu_none, reduceIte, Int.reduceLE, Int.reduceLT, Int.reduceEq, Int.reduceNeg, Int.reduceAdd, Int.reduceSub, Int.reduceMul, Int.reduceToNat, Nat.reduceAdd, Nat.reduceLeDiff, Nat.reduceEqDiff, Nat.reduceLT, eq_self, ne_eq, not_false_eq_true, not_true_eq_false, a1, b5, t5, n5, at1, x_isVow h1 hc]
    rw [if_neg (by omega)]
    by_cases e : cVo D (dP D)[i].1 = true
    · rw [e]
      simp only [s67_196, s67_197, s67_200, s67_203, s67_204, s67_207, s67_208, s67_209, s67_210, s67_211, s67_214, s67_215, s67_218, Int.toNat_natCast, true_and, and_true, true_or, or_true, false_or, or_false, zwr_id, zpu_some, zpu_none, reduceIte, Int.reduceLE, Int.reduceLT, Int.reduceEq, Int.reduceNeg, Int.reduceAdd, Int.reduceSub, Int.reduceMul, Int.reduceToNat, Nat.reduceAdd, Nat.reduceLeDiff, Nat.reduceEqDiff, Nat.reduceLT, eq_self, ne_eq, not_false_eq_true, not_true_eq_false, a1, b8, b6, t6, tM, at2]
      refine c_double g1 (by rw [List.length_append, List.length_map, List.length_map]; omega) (fun m3 g3 f3 => ?_)
      simp only [s67_221, s67_224, zpu_none, (z1 (i := i) (by omega))]
      refine ih (zI (kk (dP D)[i].1), zA (c + 18)) m3 ⟨?_, ?_, zFR_tr f1 (zFR_wd f3 (by omega) (by omega))⟩
      · rw [fil_s hi, if_pos e, List.map_append, ← List.append_assoc]
        exact g3
      · rw [fil_s hi, e, if_neg (by decide), List.append_nil]
        exact zPT_fr f3 (by omega) g2
    · have e : cVo D (dP D)[i].1 = false := Bool.not_eq_true _ ▸ e
      rw [e]
      simp only [s67_203, s67_204, s67_207, s67_208, s67_209, s67_210, s67_211, s67_214, s67_215, s67_218, Int.toNat_natCast, true_and, and_true, true_or, or_true, false_or, or_false, zwr_id, zpu_some, zpu_none, reduceIte, Int.reduceLE, Int.reduceLT, Int.reduceEq, Int.reduceNeg, Int.reduceAdd, Int.reduceSub, Int.reduceMul, Int.reduceToNat, Nat.reduceAdd, Nat.reduceLeDiff, Nat.reduceEqDiff, Nat.reduceLT, eq_self, ne_eq, not_false_eq_true, not_true_eq_false, Bool.false_eq_true, a1, b9, b6, t6, tE, at2]
      refine c_double g2 (by rw [List.length_append, List.length_append, List.length_map, List.length_map]; show 1 + _ + _ < 19; omega) (fun m3 g3 f3 => ?_)
      simp only [s67_221, s67_224, zpu_none, (z1 (i := i) (by omega))]
      refine ih (zI (kk (dP D)[i].1), zA (c + 22)) m3 ⟨?_, ?_, zFR_tr f1 (zFR_wd f3 (by omega) (by omega))⟩
      · rw [fil_s hi, e, if_neg (by decide), List.append_nil]
        exact zPT_fr f3 (by omega) g1
      · rw [fil_s hi, e, if_pos (by decide), List.map_append, ← List.append_assoc]
        exact g3
  · rintro v m1 ⟨g1, g2, f1⟩
    have h1 : zSd L m1 c D := zSd_fr f1 (by omega) h
    obtain ⟨⟨a1, a2, b0, b1, b2, b3, b4, b5, b6, b7, b8, b9, a3, a4⟩, a5, l1, l2, l3, l4, l5, l6⟩ := id h1
    have n5 := (zKL_n l5).1
    have t5 := l5.1
    rw [List.take_length] at g1 g2
    simp only [s67_168]
    simp only [s67_169, s67_170, s67_173, s67_176, s67_179, s67_180, s67_183, s67_184, s67_187, s67_188, s67_189, s67_190, s67_193, s67_227, Int.toNat_natCast, true_and, and_true, true_or, or_true, false_or, or_false, zwr_id, zpu_some, zpu_none, reduceIte, Int.reduceLE, Int.reduceLT, Int.reduceEq, Int.reduceNeg, Int.reduceAdd, Int.reduceSub, Int.reduceMul, Int.reduceToNat, Nat.reduceAdd, Nat.reduceLeDiff, Nat.reduceEqDiff, Nat.reduceLT, eq_self, ne_eq, not_false_eq_true, not_true_eq_false, a1, b5, t5, n5]
    rw [if_pos (by omega)]
    exact k m1 g1 g2 f1
theorem c_give {L : zY} {m : zM} {Q : zQ} {c : Nat} {D : zD} (hD : dOk D) (h : zSd L m c D) (hl : zSl L m c) (k : ∀ m', zSd L m' c D → zSt L m' c D → zFR (c + 14) (c + 25) m m' → Q none L m') : zwp 67 0 [zA c, zU, zU, zU] [] L m Q := by
  obtain ⟨p1, p2, p3⟩ := hl
  have a1 := h.1.1
  have b7 := h.1.2.2.2.2.2.2.2.2.2.1
  have t1 := p1.1
  have t2 := p2.1
  have t3 := p3.1
  simp only [s67_0, s67_1, s67_4, Int.toNat_natCast, true_and, and_true, true_or, or_true, false_or, or_false, zwr_id, zpu_some, zpu_none, reduceIte, Int.reduceLE, Int.reduceLT, Int.reduceEq, Int.reduceNeg, Int.reduceAdd, Int.reduceSub, Int.reduceMul, Int.reduceToNat, Nat.reduceAdd, Nat.reduceLeDiff, Nat.reduceEqDiff, Nat.reduceLT, eq_self, ne_eq, not_false_eq_true, not_true_eq_false, a1, b7, t1]
  clear b7
  refine c_ptclear p1 (fun m1 g1 f1 => ?_)
  have c8 : m1 c 8 = ((c + 18 : Nat) : Int) := by rw [zFR_at f1 (by omega)]; exact h.1.2.2.2.2.2.2.2.2.2.2.1
  simp only [s67_7, s67_8, s67_11, Int.toNat_natCast, true_and, and_true, true_or, or_true, false_or, or_false, zwr_id, zpu_some, zpu_none, reduceIte, Int.reduceLE, Int.reduceLT, Int.reduceEq, Int.reduceNeg, Int.reduceAdd, Int.reduceSub, Int.reduceMul, Int.reduceToNat, Nat.reduceAdd, Nat.reduceLeDiff, Nat.reduceEqDiff, Nat.reduceLT, eq_self, ne_eq, not_false_eq_true, not_true_eq_false, a1, c8, t2]
  clear c8
  refine c_ptclear (zPl_eq (zFR_at f1 (by omega)) p2) (fun m2 g2 f2 => ?_)
  have f12 : zFR (c + 14) (c + 25) m m2 := zFR_tr (zFR_wd f1 (by omega) (by omega)) (zFR_wd f2 (by omega) (by omega))
  have c9 : m2 c 9 = ((c + 22 : Nat) : Int) := by rw [zFR_at f12 (by omega)]; exact h.1.2.2.2.2.2.2.2.2.2.2.2.1
  simp only [s67_14, s67_15, s67_18, Int.toNat_natCast, true_and, and_true, true_or, or_true, false_or, or_false, zwr_id, zpu_some, zpu_none, reduceIte, Int.reduceLE, Int.reduceLT, Int.reduceEq, Int.reduceNeg, Int.reduceAdd, Int.reduceSub, Int.reduceMul, Int.reduceToNat, Nat.reduceAdd, Nat.reduceLeDiff, Nat.reduceEqDiff, Nat.reduceLT, eq_self, ne_eq, not_false_eq_true, not_true_eq_false, a1, c9, t3]
  clear c9
  refine c_ptclear (zPl_eq (by rw [zFR_at f2 (by omega), zFR_at f1 (by omega)]) p3) (fun m3 g3 f3 => ?_)
  have f13 : zFR (c + 14) (c + 25) m m3 := zFR_tr f12 (zFR_wd f3 (by omega) (by omega))
  have c9' : m3 c 9 = ((c + 22 : Nat) : Int) := by rw [zFR_at f13 (by omega)]; exact h.1.2.2.2.2.2.2.2.2.2.2.2.1
  simp only [s67_21, s67_22, s67_25, s67_27, Int.toNat_natCast, true_and, and_true, true_or, or_true, false_or, or_false, zwr_id, zpu_some, zpu_none, reduceIte, Int.reduceLE, Int.reduceLT, Int.reduceEq, Int.reduceNeg, Int.reduceAdd, Int.reduceSub, Int.reduceMul, Int.reduceToNat, Nat.reduceAdd, Nat.reduceLeDiff, Nat.reduceEqDiff, Nat.reduceLT, eq_self, ne_eq, not_false_eq_true, not_true_eq_false, a1, c9', t3]
  clear c9'
  refine c_singleN g3 (by show 0 < 19; omega) (fun m4 g4 f4 => ?_)
  have f14 : zFR (c + 14) (c + 25) m m4 := zFR_tr f13 (zFR_wd f4 (by omega) (by omega))
  simp only [s67_30, s67_31, zpu_none]
  have h4 : zSd L m4 c D := zSd_fr f14 (by omega) h
  refine c_gA hD h4 (zPT_fr f4 (by omega) (zPT_fr f3 (by omega) (zPT_fr f2 (by omega) g1))) g4 (fun m5 l1 l2 g5 g5' f5 => ?_)
  have h5 : zSd L m5 c D := zSd_eq (fun a p q => f5 a (by omega)) h4
  have hm5 : zPT L m5 (c + 18) 16 [] 0 (fun _ => -2) := zPT_eq (f5 _ (by omega)) (f5 _ (by omega)) (f5 _ (by omega)) (f5 _ (by omega)) (zPT_fr f4 (by omega) (zPT_fr f3 (by omega) g2))
  simp only [s67_90, s67_91]
  refine c_gB hD h5 hm5 (fun m6 l1 g6 f6 => ?_)
  simp only [s67_124, s67_125]
  refine c_gC hD (zSd_fr f6 (by omega) h5) (zPT_fr f6 (by omega) g5) (fun m7 l1 g7 f7 => ?_)
  simp only [s67_166, s67_167]
  refine c_gD hD (zSd_fr f7 (by omega) (zSd_fr f6 (by omega) h5)) (zPT_fr f7 (by omega) g6) (zPT_fr f7 (by omega) (zPT_fr f6 (by omega) g5')) (fun m8 g8 g8' f8 => ?_)
  refine k m8 (zSd_fr f8 (by omega) (zSd_fr f7 (by omega) (zSd_fr f6 (by omega) h5))) ⟨zPT_fr f8 (by omega) g7, g8, g8'⟩ (fun a ha => ?_)
  rw [zFR_at f8 (by omega), zFR_at f7 (by omega), zFR_at f6 (by omega), f5 a (by omega), zFR_at f14 (by omega)]
