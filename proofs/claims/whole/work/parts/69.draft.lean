theorem bPc_s {P : zP} {l : List zKq} {j : Nat} : bPc P l (j + 1) = if bAp P (l.getD j kq0) (l.getD (j + 1) kq0) = true then (l.getD (j + 1) kq0).2 else 124 :: (l.getD (j + 1) kq0).2 := by
  unfold bPc
  rw [show j + 1 - 1 = j by omega]
  by_cases h : bAp P (l.getD j kq0) (l.getD (j + 1) kq0) = true
  · rw [if_pos (Or.inr h), if_pos h]
  · rw [if_neg (fun q => q.elim (fun q => by omega) h), if_neg h]
/-- what the drafting calls go by -/
def zCY (L : zY) (m : zM) (D : zD) (R : List Int) (sc : Nat) : Prop := zCX L m D R sc ∧ m 2 3 = 8 ∧ zRC L m 10 (kRun (zPof D) R) ∧ zRL L m 20
theorem zCY_fr {L : zY} {m m' : zM} {D : zD} {R : List Int} {sc : Nat} (f : ∀ a, a ≠ 8 → a ≠ 9 → (a < 20 ∨ 29 < a) → m' a = m a) (hS : zRL L m' 20) (h : zCY L m D R sc) : zCY L m' D R sc := by
  obtain ⟨⟨h0, h1, h2, h3, ⟨c, ov, h4⟩, h5, h6⟩, g1, g2, g3⟩ := h
  have e2 : m' 2 = m 2 := f 2 (by decide) (by decide) (by decide)
  exact ⟨⟨h0, h1, by rw [e2]; exact h2, h3, ⟨c, ov, zRw_eq (f 6 (by decide) (by decide) (by decide)) (f 7 (by decide) (by decide) (by decide)) h4⟩, zSd_eq (fun a p q => f a (by omega) (by omega) (by omega)) h5, zSt_eq (fun a p q => f a (by omega) (by omega) (by omega)) h6⟩, by rw [e2]; exact g1, zRC_eq (fun a p q => f a (by omega) (by omega) (by omega)) g2, hS⟩
theorem c_dkeys {L : zY} {m : zM} {Q : zQ} {D : zD} {R W : List Int} {sc f n : Nat} {c ov l1 : Int} (hY : zCY L m D R sc) (hW : zRw L m 8 W c ov) (hfn : f + n ≤ R.length) (hl : W.length + n ≤ 80) (k : ∀ m', zCY L m' D R sc → zRw L m' 8 (W ++ (R.drop f).take n) c ov → (∀ a, a ≠ 8 → a ≠ 9 → m' a = m a) → zwp 131 85 [zA 2, zI l1, zI ((f + n : Nat) : Int), zI ((f + n : Nat) : Int)] [] L m' Q) : zwp 131 59 [zA 2, zI l1, zI ((f + n : Nat) : Int), zI (f : Nat)] [] L m Q := by
  have t8 := hW.1
  refine zfor (n := f + n) (fun p => [zA 2, zI l1, zI ((f + n : Nat) : Int), zI (p : Nat)]) (fun p m' => f ≤ p ∧ zCY L m' D R sc ∧ zRw L m' 8 (W ++ (R.drop f).take (p - f)) c ov ∧ ∀ a, a ≠ 8 → a ≠ 9 → m' a = m a) ?_ ?_ f m (by omega) ⟨Nat.le_refl _, hY, by rw [Nat.sub_self, List.take_zero, List.append_nil]; exact hW, fun _ _ _ => rfl⟩
  · rintro p m1 hp ⟨hfp, hY1, g1, f1⟩ ih
    have hpR : p < R.length := by omega
    obtain ⟨⟨-, a1, ⟨p2, p4, p5, p9⟩, -, ⟨c1, ov1, hRw⟩, -, -⟩, p3, -, h20⟩ := id hY1
    have hR80 := hRw.2.2.2.2.2.2.1
    have t6 := hRw.1
    have n1 : ¬ ((f + n : Nat) : Int) ≤ (p : Int) := by omega
    have pv : p < 1000000 := by omega
    have et : (R.drop f).take (p + 1 - f) = (R.drop f).take (p - f) ++ [R[p]] := by
      rw [show p + 1 - f = (p - f) + 1 by omega, take_s (by rw [List.length_drop]; omega), List.getElem_drop]
      congr 2
      congr 1
      omega
    have hl2 : (W ++ (R.drop f).take (p - f)).length < 80 := by rw [List.length_append, List.length_take]; omega
    simp only [s131_59]
    simp only [s131_60, s131_61, s131_64, s131_65, s131_68, s131_69, s131_72, s131_73, s131_76, Int.toNat_natCast, true_and, and_true, true_or, or_true, false_or, or_false, zwr_id, zpu_some, zpu_none, reduceIte, Int.reduceLE, Int.reduceLT, Int.reduceEq, Int.reduceNeg, Int.reduceAdd, Int.reduceSub, Int.reduceMul, Int.reduceToNat, Nat.reduceAdd, Nat.reduceLeDiff, Nat.reduceEqDiff, Nat.reduceLT, eq_self, ne_eq, not_false_eq_true, not_true_eq_false, a1, p2, p3, t6, t8, n1, x_signAt hRw hpR]
    refine c_Rappend g1 hl2 (fun m2 g2 f2 => ?_)
    simp only [s131_79, s131_82, Int.toNat_natCast, true_and, and_true, true_or, or_true, false_or, or_false, zwr_id, zpu_some, zpu_none, reduceIte, Int.reduceLE, Int.reduceLT, Int.reduceEq, Int.reduceNeg, Int.reduceAdd, Int.reduceSub, Int.reduceMul, Int.reduceToNat, Nat.reduceAdd, Nat.reduceLeDiff, Nat.reduceEqDiff, Nat.reduceLT, eq_self, ne_eq, not_false_eq_true, not_true_eq_false, z1 pv]
    refine ih m2 ⟨by omega, zCY_fr (fun a q1 q2 _ => zFR_at f2 (by omega)) (zRL_eq (fun k _ => by rw [zFR_at f2 (by decide)]) h20) hY1, ?_, fun a q1 q2 => by rw [zFR_at f2 (by omega)]; exact f1 a q1 q2⟩
    rw [et, ← List.append_assoc]
    exact g2
  · rintro m1 ⟨_, hY1, g1, f1⟩
    rw [show f + n - f = n by omega] at g1
    simp only [s131_59]
    simp only [s131_60, s131_61, Int.toNat_natCast, true_and, and_true, true_or, or_true, false_or, or_false, zwr_id, zpu_some, zpu_none, reduceIte, Int.reduceLE, Int.reduceLT, Int.reduceEq, Int.reduceNeg, Int.reduceAdd, Int.reduceSub, Int.reduceMul, Int.reduceToNat, Nat.reduceAdd, Nat.reduceLeDiff, Nat.reduceEqDiff, Nat.reduceLT, eq_self, ne_eq, not_false_eq_true, not_true_eq_false, show ((f + n : Nat) : Int) ≤ ((f + n : Nat) : Int) from Int.le_refl _]
    exact k m1 hY1 g1 f1
theorem c_draft {L : zY} {m : zM} {Q : zQ} {D : zD} {R W : List Int} {sc : Nat} {c ov : Int} (hD : dOk D) (hV : ∀ y ∈ R, gSg D y = true) (hY : zCY L m D R sc) (hW : zRw L m 8 W c ov) (k : ∀ m', zCY L m' D R sc → zRw L m' 8 (gBare D R) 0 0 → (∀ a, a ≠ 8 → a ≠ 9 → (a < 20 ∨ 29 < a) → m' a = m a) → Q none L m') : zwp 131 0 [zA 2, zU, zU, zU] [] L m Q := by
  have t8 := hW.1
  have a1 := hY.1.2.1
  have p3 := hY.2.1
  have t10 := hY.2.2.1.1.1
  have hM := kRun_I hD hV
  have hG := kRun_G hD hV
  have hR80 : R.length ≤ 80 := by obtain ⟨c1, ov1, hRw⟩ := hY.1.2.2.2.2.1; exact hRw.2.2.2.2.2.2.1
  have hbl := bB_len hM hG.1
  simp only [s131_0, s131_1, s131_4, Int.toNat_natCast, true_and, and_true, true_or, or_true, false_or, or_false, zwr_id, zpu_some, zpu_none, reduceIte, Int.reduceLE, Int.reduceLT, Int.reduceEq, Int.reduceNeg, Int.reduceAdd, Int.reduceSub, Int.reduceMul, Int.reduceToNat, Nat.reduceAdd, Nat.reduceLeDiff, Nat.reduceEqDiff, Nat.reduceLT, eq_self, ne_eq, not_false_eq_true, not_true_eq_false, a1, p3, t8]
  refine c_Rclear hW (fun m1 g1 f1 => ?_)
  simp only [s131_7, s131_8, zpu_none]
  have hY1 : zCY L m1 D R sc := zCY_fr (fun a q1 q2 _ => zFR_at f1 (by omega)) (zRL_eq (fun k _ => by rw [zFR_at f1 (by decide)]) hY.2.2.2) hY
  unfold gBare at k
  have hIl : (msI (kRun (zPof D) R)).length ≤ 80 := hY.2.2.1.2.1.2.1
  refine zforv (n := (msI (kRun (zPof D) R)).length) (fun (l : zV × zV) i => [zA 2, zI (i : Nat), l.1, l.2]) (fun i m' => zCY L m' D R sc ∧ zRw L m' 8 (bB (zPof D) (cks R (msI (kRun (zPof D) R))) i) 0 0 ∧ ∀ a, a ≠ 8 → a ≠ 9 → (a < 20 ∨ 29 < a) → m' a = m a) ?_ ?_ (zU, zU) 0 m1 (Nat.zero_le _) ⟨hY1, g1, fun a q1 q2 _ => zFR_at f1 (by omega)⟩
  · rintro v i m2 hi ⟨hY2, g2, f2⟩ ih
    have hx := hM.1 _ (List.getElem_mem hi)
    obtain ⟨fx, nx, px⟩ := hx.2
    have ef : itF (msI (kRun (zPof D) R))[i] = (fx : Int) := px.1
    have en : itN (msI (kRun (zPof D) R))[i] = (nx : Int) := px.2.1
    have fb : fx + nx ≤ R.length := px.2.2.2.1
    have ky : kys R (msI (kRun (zPof D) R))[i] = (R.drop fx).take nx := by unfold kys; rw [ef, en, Int.toNat_natCast, Int.toNat_natCast]
    have lenB := hbl i hi
    have eB : bB (zPof D) (cks R (msI (kRun (zPof D) R))) (i + 1) = bB (zPof D) (cks R (msI (kRun (zPof D) R))) i ++ bPc (zPof D) (cks R (msI (kRun (zPof D) R))) i := rfl
    have hb : -1000 < itF (msI (kRun (zPof D) R))[i] ∧ itF (msI (kRun (zPof D) R))[i] < 1000 ∧ -1000 < itN (msI (kRun (zPof D) R))[i] ∧ itN (msI (kRun (zPof D) R))[i] < 1000 := by omega
    have eb : (fx : Int) + (nx : Int) = ((fx + nx : Nat) : Int) := by omega
    have i0 := hY2.2.2.1.2.1.1
    have p4' := hY2.1.2.2.1.2.1
    have p3' := hY2.2.1
    have iv : i < 1000000 := by omega
    have tail : ∀ m3 (br : List Int) (l2 l3 : zV), zCY L m3 D R sc → zRw L m3 8 (bB (zPof D) (cks R (msI (kRun (zPof D) R))) i ++ br) 0 0 → (∀ a, a ≠ 8 → a ≠ 9 → (a < 20 ∨ 29 < a) → m3 a = m a) → bPc (zPof D) (cks R (msI (kRun (zPof D) R))) i = br ++ kys R (msI (kRun (zPof D) R))[i] → zwp 131 41 [zA 2, zI (i : Nat), l2, l3] [] L m3 Q := by
      intro m3 br l2 l3 hY3 g3 f3 epc
      have p4 := hY3.1.2.2.1.2.1
      have hN3 := hY3.2.2.1
      have hlB : (bB (zPof D) (cks R (msI (kRun (zPof D) R))) i ++ br).length + nx ≤ 80 := by
        rw [eB, epc, List.length_append, List.length_append, ky, List.length_take, List.length_drop] at lenB
        rw [List.length_append]
        omega
      simp only [s131_41, s131_42, s131_45, s131_46, s131_49, s131_50, s131_51, s131_54, s131_55, s131_58, Int.toNat_natCast, true_and, and_true, zpu_some, zpu_none, Int.reduceToNat, Nat.reduceLeDiff, a1, p4, t10, x_behind hN3.1 hN3.2.1 hi hb, x_place hN3.1 hN3.2.1 hi, ef, en, eb]
      refine c_dkeys hY3 g3 fb hlB (fun m4 hY4 g4 f4 => ?_)
      simp only [s131_85, s131_88, z1 iv]
      refine ih (zI ((fx + nx : Nat) : Int), zI ((fx + nx : Nat) : Int)) m4 ⟨hY4, ?_, fun a q1 q2 q3 => by rw [f4 a q1 q2]; exact f3 a q1 q2 q3⟩
      rw [eB, epc, ← List.append_assoc, ky]
      exact g4
    simp only [s131_9]
    simp only [s131_10, s131_11, s131_14, Int.toNat_natCast, true_and, and_true, true_or, or_true, false_or, or_false, zwr_id, zpu_some, zpu_none, reduceIte, Int.reduceLE, Int.reduceLT, Int.reduceEq, Int.reduceNeg, Int.reduceAdd, Int.reduceSub, Int.reduceMul, Int.reduceToNat, Nat.reduceAdd, Nat.reduceLeDiff, Nat.reduceEqDiff, Nat.reduceLT, eq_self, ne_eq, not_false_eq_true, not_true_eq_false, a1, p4', t10, i0]
    simp only [s131_17, s131_20, s131_21]
    rw [if_neg (by omega)]
    cases i with
    | zero =>
      rw [if_pos (by decide)]
      refine tail m2 [] _ _ hY2 (by rw [List.append_nil]; exact g2) f2 ?_
      unfold bPc
      rw [if_pos (Or.inl rfl), cks_get hi]
      rfl
    | succ j =>
      rw [if_neg (by omega)]
      simp only [s131_24, s131_25, s131_26, a1, true_and]
      refine c_apart hY2.1 hY2.2.2.1 hY2.2.2.2 hV hi (fun m3 g3 f3 => ?_)
      have hY3 : zCY L m3 D R sc := zCY_fr (fun a _ _ q => zFR_at f3 q) g3 hY2
      have g3' : zRw L m3 8 (bB (zPof D) (cks R (msI (kRun (zPof D) R))) (j + 1)) 0 0 := zRw_eq (zFR_at f3 (by decide)) (zFR_at f3 (by decide)) g2
      have f3' : ∀ a, a ≠ 8 → a ≠ 9 → (a < 20 ∨ 29 < a) → m3 a = m a := fun a q1 q2 q3 => by rw [zFR_at f3 q3]; exact f2 a q1 q2 q3
      by_cases hap : bAp (zPof D) ((cks R (msI (kRun (zPof D) R))).getD j kq0) ((cks R (msI (kRun (zPof D) R))).getD (j + 1) kq0) = true
      · rw [if_pos hap]
        simp only [s131_29, Int.toNat_natCast, true_and, and_true, true_or, or_true, false_or, or_false, zwr_id, zpu_some, zpu_none, reduceIte, Int.reduceLE, Int.reduceLT, Int.reduceEq, Int.reduceNeg, Int.reduceAdd, Int.reduceSub, Int.reduceMul, Int.reduceToNat, Nat.reduceAdd, Nat.reduceLeDiff, Nat.reduceEqDiff, Nat.reduceLT, eq_self, ne_eq, not_false_eq_true, not_true_eq_false]
        refine tail m3 [] _ _ hY3 (by rw [List.append_nil]; exact g3') f3' ?_
        rw [bPc_s, if_pos hap, cks_get hi]
        rfl
      · rw [if_neg hap]
        have p3'' := hY3.2.1
        simp only [s131_29, s131_32, s131_33, s131_36, s131_38, Int.toNat_natCast, true_and, and_true, true_or, or_true, false_or, or_false, zwr_id, zpu_some, zpu_none, reduceIte, Int.reduceLE, Int.reduceLT, Int.reduceEq, Int.reduceNeg, Int.reduceAdd, Int.reduceSub, Int.reduceMul, Int.reduceToNat, Nat.reduceAdd, Nat.reduceLeDiff, Nat.reduceEqDiff, Nat.reduceLT, eq_self, ne_eq, not_false_eq_true, not_true_eq_false, a1, p3'', t8]
        have epc : bPc (zPof D) (cks R (msI (kRun (zPof D) R))) (j + 1) = [124] ++ kys R (msI (kRun (zPof D) R))[j + 1] := by
          rw [bPc_s, if_neg hap, cks_get hi]
          rfl
        have hl80 : (bB (zPof D) (cks R (msI (kRun (zPof D) R))) (j + 1)).length < 80 := by
          rw [eB, epc, List.length_append, List.length_append] at lenB
          have : ([124] : List Int).length = 1 := rfl
          omega
        refine c_Rappend g3' hl80 (fun m4 g4 f4 => ?_)
        simp only [zpu_none]
        exact tail m4 [124] _ _ (zCY_fr (fun a q1 q2 _ => zFR_at f4 (by omega)) (zRL_eq (fun k _ => by rw [zFR_at f4 (by decide)]) hY3.2.2.2) hY3) g4 (fun a q1 q2 q3 => by rw [zFR_at f4 (by omega)]; exact f3' a q1 q2 q3) epc
  · rintro v m2 ⟨hY2, g2, f2⟩
    have i0 := hY2.2.2.1.2.1.1
    have p4' := hY2.1.2.2.1.2.1
    simp only [s131_9]
    simp only [s131_10, s131_11, s131_14, s131_17, s131_91, Int.toNat_natCast, true_and, and_true, true_or, or_true, false_or, or_false, zwr_id, zpu_some, zpu_none, reduceIte, Int.reduceLE, Int.reduceLT, Int.reduceEq, Int.reduceNeg, Int.reduceAdd, Int.reduceSub, Int.reduceMul, Int.reduceToNat, Nat.reduceAdd, Nat.reduceLeDiff, Nat.reduceEqDiff, Nat.reduceLT, eq_self, ne_eq, not_false_eq_true, not_true_eq_false, a1, p4', t10, i0, show ((msI (kRun (zPof D) R)).length : Int) ≤ ((msI (kRun (zPof D) R)).length : Int) from Int.le_refl _]
    exact k m2 hY2 g2 f2
