theorem msI_n {s : zMS} : (msI s).length = (cCl s).length + (cOp s).toList.length := by
  rw [← List.length_map (f := cOf), msI_c, List.length_append]
theorem stS_n {st : Nat} {w : Int} : (msI (stS st w)).length = (stO st).toList.length ∧ (stS st w).2.2.1.length ≤ 1 := by
  rw [msI_n, stS_c.1, stS_c.2]
  refine ⟨by simp, ?_⟩
  unfold stS
  split
  · exact Nat.zero_le _
  · exact Nat.le_refl _
def zFM (m m' : zM) : Prop := ∀ a, (a < 20 ∨ 29 < a) → (a < 66 ∨ 131 < a) → m' a = m a
theorem c_fMoves {L : zY} {m : zM} {Q : zQ} {D : zD} {sc : Nat} (hD : dOk D) (hlk : dLacks D = false) (hsc : sc = 280 ∨ sc = 306) (hS : zSd L m sc D) (hSt : zSt L m sc D) (hR : zRL L m 20) (hTl : zTlL L m) (k : ∀ m', (∀ st, st < 66 → ∀ j, j < 26 → m' (66 + st) j = mvV D st j) → zRL L m' 20 → zFM m m' → Q none L m') : zwp 93 0 [zA 64, zA sc, zA 20, zU, zU, zU, zU] [] L m Q := by
  have nb := dOk_n hD hlk
  have hb : dnL D ≤ 14 ∧ dnM D ≤ 16 ∧ dnE D ≤ 19 := ⟨nb.1.2, nb.2.1.2, nb.2.2.2⟩
  have t64 := hTl.1.1
  have t65 := hTl.1.2.1
  have n65 := hTl.1.2.2.1
  have hMv := hTl.2.1
  have p0 := hTl.2.2.2.2.2.1
  have s1 := hS.1.1
  have r1 := hR.1
  simp only [s93_0, s93_1]
  refine zforv (n := 66) (fun (l : zV × zV × zV) st => [zA 64, zA sc, zA 20, zI (st : Nat), l.1, l.2.1, l.2.2]) (fun st m' => (∀ s', s' < st → ∀ j, j < 26 → m' (66 + s') j = mvV D s' j) ∧ zRL L m' 20 ∧ zFM m m') ?_ ?_ (zU, zU, zU) 0 m (Nat.zero_le _) ⟨fun _ h => absurd h (by omega), hR, fun _ _ _ => rfl⟩
  · rintro v st m1 hst ⟨g1, g2, f1⟩ ih
    have n1 : ¬ 66 ≤ (st : Int) := by omega
    have sv : st < 1000000 := by omega
    obtain ⟨q1, q2, q3⟩ := hMv st hst
    have hst66 : 0 ≤ (st : Int) ∧ (st : Int) < ((66 : Nat) : Int) := by omega
    have two66 : 2 ≤ 66 + st := by omega
    simp only [s93_2]
    simp only [s93_3, s93_5, s93_8, s93_9, Int.toNat_natCast, true_and, and_true, true_or, or_true, false_or, or_false, zwr_id, zpu_some, zpu_none, reduceIte, Int.reduceLE, Int.reduceLT, Int.reduceEq, Int.reduceNeg, Int.reduceAdd, Int.reduceSub, Int.reduceMul, Int.reduceToNat, Nat.reduceAdd, Nat.reduceLeDiff, Nat.reduceEqDiff, Nat.reduceLT, eq_self, ne_eq, not_false_eq_true, not_true_eq_false, n1]
    refine zforv (n := 26) (fun (l : zV × zV) j => [zA 64, zA sc, zA 20, zI (st : Nat), zI (j : Nat), l.1, l.2]) (fun j m' => (∀ j', j' < j → m' (66 + st) j' = mvV D st j') ∧ (∀ s', s' < st → ∀ j', j' < 26 → m' (66 + s') j' = mvV D s' j') ∧ zRL L m' 20 ∧ zFM m m') ?_ ?_ (v.2.1, v.2.2) 0 m1 (Nat.zero_le _) ⟨fun _ h => absurd h (by omega), g1, g2, f1⟩
    · rintro l j m2 hj ⟨y0, y1, y2, y3⟩ ih2
      have n2 : ¬ 26 ≤ (j : Int) := by omega
      have jv : j < 1000000 := by omega
      have hj26 : 0 ≤ (j : Int) ∧ (j : Int) < ((26 : Nat) : Int) := by omega
      have b0 : m2 64 0 = ((65 : Nat) : Int) := by rw [y3 64 (by decide) (by decide)]; exact p0
      have b65 : m2 65 st = ((66 + st : Nat) : Int) := by rw [y3 65 (by decide) (by decide)]; exact q1
      have hS2 : zSd L (zup m2 (66 + st) j (-1)) sc D := zSd_eq (fun a p q => by rw [zup_nf (by omega), y3 a (by omega) (by omega)]) hS
      have hSt2 : zSt L (zup m2 (66 + st) j (-1)) sc D := zSt_eq (fun a p q => by rw [zup_nf (by omega), y3 a (by omega) (by omega)]) hSt
      have hR2 : zRL L (zup m2 (66 + st) j (-1)) 20 := zRL_eq (fun i _ => zup_na (by omega)) y2
      have ek : zwr (97 + (j : Int)) = kk j := by rw [zwr_id (by omega) (by omega)]; unfold kk; omega
      have xk := fun Q' : zQ => x_isKy (Q := Q') (x := kk j) hS2
      have gk : gKy D (kk j) = decide (dS D j ≠ -1) := by
        unfold gKy
        rw [show isL (kk j) = true by rw [isL_iff]; unfold kk; omega, show (kk j - 97).toNat = j by unfold kk; omega, Bool.true_and]
      rw [gk] at xk
      clear gk
      -- the end of one round of the inner loop
      have last : ∀ (m3 : zM) (l6 : zV), zRL L m3 20 → (∀ a, (a < 20 ∨ 29 < a) → a ≠ 66 + st → m3 a = m2 a) → (∀ j', j' ≠ j → m3 (66 + st) j' = m2 (66 + st) j') → m3 (66 + st) j = mvV D st j → zwp 93 91 [zA 64, zA sc, zA 20, zI (st : Nat), zI (j : Nat), zI (kk j), l6] [] L m3 Q := by
        intro m3 l6 z1' z2' z3' z4'
        simp only [s93_91, s93_94, z1 jv]
        refine ih2 (zI (kk j), l6) m3 ⟨fun j' hj' => ?_, fun s' hs' j' hj' => ?_, z1', fun a w1 w2 => ?_⟩
        · by_cases e : j' = j
          · rw [e]; exact z4'
          · rw [z3' j' e]; exact y0 j' (by omega)
        · rw [z2' _ (by omega) (by omega)]; exact y1 s' hs' j' hj'
        · rw [z2' a w1 (by omega)]; exact y3 a w1 w2
      have noMove : ∀ m3 : zM, zRL L m3 20 → (∀ a, (a < 20 ∨ 29 < a) → m3 a = zup m2 (66 + st) j (-1) a) → mvV D st j = -1 → zwp 93 91 [zA 64, zA sc, zA 20, zI (st : Nat), zI (j : Nat), zI (kk j), l.2] [] L m3 Q := fun m3 z1' z2' z3' => last m3 l.2 z1' (fun a w1 w2 => by rw [z2' a w1, zup_nf w2]) (fun j' w => by rw [z2' _ (by omega), zup_nk w]) (by rw [z2' _ (by omega), zup_same, z3'])
      simp only [s93_11]
      simp only [s93_13, s93_15, s93_18, s93_20, s93_22, s93_23, s93_25, s93_26, s93_29, s93_30, s93_31, s93_33, s93_34, s93_35, s93_36, s93_38, Int.toNat_natCast, true_and, and_true, true_or, or_true, zpu_some, zpu_none, reduceIte, n2, ek, t64, b0, t65, n65, hst66, and_self, b65, q2, q3, hj26, two66, s1, xk]
      clear ek
      by_cases hs : dS D j = -1
      · rw [decide_eq_false (fun q => q hs)]
        simp only [s93_41, Int.toNat_natCast, true_and, and_true, true_or, or_true, false_or, or_false, zwr_id, zpu_some, zpu_none, reduceIte, Int.reduceLE, Int.reduceLT, Int.reduceEq, Int.reduceNeg, Int.reduceAdd, Int.reduceSub, Int.reduceMul, Int.reduceToNat, Nat.reduceAdd, Nat.reduceLeDiff, Nat.reduceEqDiff, Nat.reduceLT, eq_self, ne_eq, not_false_eq_true, not_true_eq_false, Bool.false_eq_true]
        exact noMove _ hR2 (fun _ _ => rfl) (by unfold mvV; rw [if_neg (fun q => q.1 hs)])
      · rw [decide_eq_true hs]
        simp only [s93_41, s93_44, s93_45, s93_46, s93_47, s93_48, Int.toNat_natCast, true_and, and_true, true_or, or_true, false_or, or_false, zwr_id, zpu_some, zpu_none, reduceIte, Int.reduceLE, Int.reduceLT, Int.reduceEq, Int.reduceNeg, Int.reduceAdd, Int.reduceSub, Int.reduceMul, Int.reduceToNat, Nat.reduceAdd, Nat.reduceLeDiff, Nat.reduceEqDiff, Nat.reduceLT, eq_self, ne_eq, not_false_eq_true, not_true_eq_false, t64]
        refine c_stand t64 (by omega) hst hS2 hSt2 hR2 (fun m3 w g3 f3 => ?_)
        by_cases hx : exB D st = true
        · rw [if_pos hx]
          have i0 := g3.2.1.1
          rw [stS_n.1] at i0
          have hN : 48 ≤ st → st - 47 < dnE D := fun h48 => by
            have := hx
            unfold exB at this
            rw [Bool.or_eq_true, Bool.or_eq_true, Bool.or_eq_true, Bool.or_eq_true, decide_eq_true_iff, decide_eq_true_iff, decide_eq_true_iff, decide_eq_true_iff, decide_eq_true_iff] at this
            omega
          have hX3 := stS_X (st := st) (w := w) hN (by omega)
          simp only [s93_51, s93_54, s93_55, s93_58, s93_60, s93_61, s93_62, s93_64, Int.toNat_natCast, true_and, and_true, true_or, or_true, false_or, or_false, zwr_id, zpu_some, zpu_none, reduceIte, Int.reduceLE, Int.reduceLT, Int.reduceEq, Int.reduceNeg, Int.reduceAdd, Int.reduceSub, Int.reduceMul, Int.reduceToNat, Nat.reduceAdd, Nat.reduceLeDiff, Nat.reduceEqDiff, Nat.reduceLT, eq_self, ne_eq, not_false_eq_true, not_true_eq_false, r1, i0]
          have hS3 : zSd L m3 sc D := zSd_eq (fun a p q => zFR_at f3 (by omega)) hS2
          have hSt3 : zSt L m3 sc D := zSt_eq (fun a p q => zFR_at f3 (by omega)) hSt2
          refine c_take (o := 20) (sc := sc) (N := dnE D) g3 hX3 (zSt_SC hD hS3 hSt3) (zSt_SE hD hSt3) (dOk_Pk hD) (by omega) (by have := stS_n (st := st) (w := w); omega) (fun m4 g4 x4 f4 => ?_)
          obtain ⟨c1, c2⟩ := kSign_c (x := kk j) (dOk_Pk hD) hX3
          rw [stS_c.1, stS_c.2, List.nil_append] at c1
          rw [stS_c.2] at c2
          have iN : (msI (kSign (zPof D) (kk j) (stS st w))).length = zcn (cSign (zPof D) (kk j) (stO st)) := by rw [msI_n, c1, c2]; rfl
          have j0 := g4.2.1.1
          have j1 := g4.2.1.2.1
          rw [iN] at j0 j1
          have oR := cSign_R (op := stO st) hD hj hs (stO_R ⟨nb.1.1, nb.2.1.1⟩ hx)
          have nal := (cSign_open (op := stO st) hD hj hs (fun o ho => by
            unfold stO at ho
            split at ho
            · cases ho
            · cases ho; exact stC_al)).1
          have hlt := stN_lt (op := (cSign (zPof D) (kk j) (stO st)).2) hb (fun o ho => ⟨oR o ho, nal o ho⟩)
          have xo := fun Q' : zQ => x_stateOf (Q := Q') (D := D) hb g4 x4 (by rw [c2]; exact oR)
          rw [c2] at xo
          have b0' : m4 64 0 = ((65 : Nat) : Int) := by rw [zFR_at f4 (by decide), zFR_at f3 (by decide), zup_na (by omega)]; exact b0
          have b65' : m4 65 st = ((66 + st : Nat) : Int) := by rw [zFR_at f4 (by decide), zFR_at f3 (by decide), zup_na (by omega)]; exact b65
          have lO : (stO st).toList.length ≤ 1 := by unfold stO; split <;> simp
          have emv : mvV D st j = 2 * ((stN (cSign (zPof D) (kk j) (stO st)).2 : Nat) : Int) + ((zcn (cSign (zPof D) (kk j) (stO st)) : Nat) : Int) - (((stO st).toList.length : Nat) : Int) := if_pos ⟨hs, hx⟩
          generalize stN (cSign (zPof D) (kk j) (stO st)).2 = A at *
          generalize zcn (cSign (zPof D) (kk j) (stO st)) = B at *
          generalize (stO st).toList.length = E at *
          simp only [s93_67, s93_68, s93_71, s93_72, s93_73, s93_75, s93_76, s93_77, s93_78, s93_81, s93_82, s93_83, s93_86, s93_87, s93_89, s93_90, Int.toNat_natCast, true_and, and_true, true_or, or_true, zpu_some, zpu_none, t64, b0', t65, n65, hst66, and_self, b65', q2, q3, hj26, two66, r1, j0, xo, (show zwr (2 * (A : Int)) = 2 * (A : Int) from zwr_id (by omega) (by omega)), (show zwr (2 * (A : Int) + (B : Int)) = 2 * (A : Int) + (B : Int) from zwr_id (by omega) (by omega)), (show zwr (2 * (A : Int) + (B : Int) - (E : Int)) = 2 * (A : Int) + (B : Int) - (E : Int) from zwr_id (by omega) (by omega))]
          refine last _ _ (zRL_eq (fun i _ => zup_na (by omega)) g4.1) (fun a y4 y5 => ?_) (fun j' y4 => ?_) ?_
          · rw [zup_nf y5, zFR_at f4 y4, zFR_at f3 y4, zup_nf y5]
          · rw [zup_nk y4, zFR_at f4 (by omega), zFR_at f3 (by omega), zup_nk y4]
          · rw [zup_same, emv]
        · rw [if_neg hx]
          simp only [s93_51, Int.toNat_natCast, true_and, and_true, true_or, or_true, false_or, or_false, zwr_id, zpu_some, zpu_none, reduceIte, Int.reduceLE, Int.reduceLT, Int.reduceEq, Int.reduceNeg, Int.reduceAdd, Int.reduceSub, Int.reduceMul, Int.reduceToNat, Nat.reduceAdd, Nat.reduceLeDiff, Nat.reduceEqDiff, Nat.reduceLT, eq_self, ne_eq, not_false_eq_true, not_true_eq_false]
          exact noMove m3 g3.1 (fun a ha => zFR_at f3 ha) (by unfold mvV; rw [if_neg (fun q => hx q.2)])
    · rintro l m2 ⟨y0, y1, y2, y3⟩
      simp only [s93_11]
      simp only [s93_13, s93_15, s93_97, s93_100, Int.toNat_natCast, true_and, and_true, true_or, or_true, false_or, or_false, zwr_id, zpu_some, zpu_none, reduceIte, Int.reduceLE, Int.reduceLT, Int.reduceEq, Int.reduceNeg, Int.reduceAdd, Int.reduceSub, Int.reduceMul, Int.reduceToNat, Nat.reduceAdd, Nat.reduceLeDiff, Nat.reduceEqDiff, Nat.reduceLT, eq_self, ne_eq, not_false_eq_true, not_true_eq_false, Int.cast_ofNat_Int, z1 sv]
      refine ih (zI ((26 : Nat) : Int), l.1, l.2) m2 ⟨fun s' hs' j' hj' => ?_, y2, y3⟩
      by_cases e : s' = st
      · rw [e]; exact y0 j' hj'
      · exact y1 s' (by omega) j' hj'
  · rintro v m1 ⟨g1, g2, f1⟩
    simp only [s93_2]
    simp only [s93_3, s93_5, s93_103, Int.toNat_natCast, true_and, and_true, true_or, or_true, false_or, or_false, zwr_id, zpu_some, zpu_none, reduceIte, Int.reduceLE, Int.reduceLT, Int.reduceEq, Int.reduceNeg, Int.reduceAdd, Int.reduceSub, Int.reduceMul, Int.reduceToNat, Nat.reduceAdd, Nat.reduceLeDiff, Nat.reduceEqDiff, Nat.reduceLT, eq_self, ne_eq, not_false_eq_true, not_true_eq_false, Int.cast_ofNat_Int]
    exact k m1 g1 g2 f1
