def tCode (T : List Int) (i : Nat) : Int := T.getD (2 * i) 0 * 256 + T.getD (2 * i + 1) 0
def dHb (D : zD) (x : Int) : Bool := decide (0 ≤ x ∧ x < ((dnL D * dnM D * dnE D : Nat) : Int))
def cdl (D : zD) (T : List Int) (h : Nat) : List zKq := (List.range h).map (fun i => dQ D (tCode T i))
theorem cdl_get {D : zD} {T : List Int} {h i : Nat} (hi : i < h) : (cdl D T h).getD i kq0 = dQ D (tCode T i) := by
  unfold cdl
  rw [getD_lt (by rw [List.length_map, List.length_range]; exact hi), List.getElem_map, List.getElem_range]
theorem cdl_len {D : zD} {T : List Int} {h : Nat} : (cdl D T h).length = h := by unfold cdl; rw [List.length_map, List.length_range]
theorem x_tc {L : zY} {m : zM} {Q : zQ} {T : List Int} {j : Nat} (hT : zTp L m 4 T) (hj : 2 * j + 1 < T.length) : zwp 107 0 [zA 4, zI ((2 * j : Nat) : Int)] [] L m Q ↔ Q (some (zI (tCode T j))) L m := by
  rw [x_two hT hj]
  unfold tCode
  rw [getD_lt (show 2 * j < T.length by omega), getD_lt hj]
theorem z2s {i : Nat} (h : i < 1000000) : zwr (((2 * i : Nat) : Int) + 2) = ((2 * (i + 1) : Nat) : Int) := by rw [zwr_id (by omega) (by omega)]; omega
theorem c_tCodes {L : zY} {m : zM} {Q : zQ} {sc h : Nat} {D : zD} {T : List Int} (a1 : zt L 2 = 10) (p0 : m 2 1 = 4) (p9 : m 2 9 = (sc : Int)) (hD : dOk D) (hlk : dLacks D = false) (hS : zSd L m sc D) (hSt : zSt L m sc D) (hT : zTp L m 4 T) (hn : 2 * h ≤ T.length) (k : Q (some (zI (if fC (fun i => dHb D (tCode T i)) h 0 = h then 1 else 0))) L m) : zwp 134 0 [zA 2, zI ((2 * h : Nat) : Int), zU] [] L m Q := by
  have t3 := hT.1
  have s1 := hS.1.1
  have hl := hT.2.2.2.2.2.2.1
  obtain ⟨a, b, c⟩ := fC_spec (p := fun i => dHb D (tCode T i)) h 0
  rw [Nat.zero_add] at b c
  generalize fC (fun i => dHb D (tCode T i)) h 0 = v at *
  simp only [s134_0, s134_1]
  refine zfor (n := v) (fun i => [zA 2, zI ((2 * h : Nat) : Int), zI ((2 * i : Nat) : Int)]) (fun _ m' => m' = m) ?_ ?_ 0 m (Nat.zero_le _) rfl
  · rintro i _ hi rfl ih
    have ih := ih _ rfl
    have b := of_decide_eq_true (b i (Nat.zero_le _) hi)
    have hi1 : 2 * i + 1 < T.length := by omega
    have n1 : ¬ ((2 * h : Nat) : Int) ≤ ((2 * i : Nat) : Int) := by omega
    have iv : i < 1000000 := by omega
    simp only [s134_2]
    simp only [s134_0, s134_1, s134_3, s134_4, s134_7, s134_8, s134_11, s134_12, s134_15, s134_16, s134_19, s134_22, s134_25, s134_26, s134_27, s134_30, s134_33, s134_34, Int.toNat_natCast, true_and, and_true, true_or, or_true, false_or, or_false, zwr_id, zpu_some, zpu_none, reduceIte, Int.reduceLE, Int.reduceLT, Int.reduceEq, Int.reduceNeg, Int.reduceAdd, Int.reduceSub, Int.reduceMul, Int.reduceToNat, Nat.reduceAdd, Nat.reduceLeDiff, Nat.reduceEqDiff, Nat.reduceLT, eq_self, ne_eq, not_false_eq_true, not_true_eq_false, a1, p0, p9, t3, s1, n1, x_tc hT hi1, x_hasCode hD hlk hS hSt, b, and_self, z2s iv]
    exact ih
  · rintro _ rfl
    simp only [s134_2]
    by_cases hv : v = h
    · rw [if_pos hv] at k
      rw [hv]
      simp only [s134_0, s134_1, s134_3, s134_4, s134_7, s134_8, s134_11, s134_12, s134_15, s134_16, s134_19, s134_22, s134_25, s134_26, s134_27, s134_30, s134_33, s134_34, Int.toNat_natCast, true_and, and_true, true_or, or_true, false_or, or_false, zwr_id, zpu_some, zpu_none, reduceIte, Int.reduceLE, Int.reduceLT, Int.reduceEq, Int.reduceNeg, Int.reduceAdd, Int.reduceSub, Int.reduceMul, Int.reduceToNat, Nat.reduceAdd, Nat.reduceLeDiff, Nat.reduceEqDiff, Nat.reduceLT, eq_self, ne_eq, not_false_eq_true, not_true_eq_false]
      rw [if_pos (Int.le_refl _)]
      exact k
    · have hi1 : 2 * v + 1 < T.length := by omega
      have c := of_decide_eq_false (c.resolve_left hv)
      have n1 : ¬ ((2 * h : Nat) : Int) ≤ ((2 * v : Nat) : Int) := by omega
      rw [if_neg hv] at k
      have c3 : (if 0 ≤ tCode T v ∧ tCode T v < ((dnL D * dnM D * dnE D : Nat) : Int) then (1 : Int) else 0) = 0 := if_neg c
      simp only [s134_0, s134_1, s134_3, s134_4, s134_7, s134_8, s134_11, s134_12, s134_15, s134_16, s134_19, s134_22, s134_25, s134_26, s134_27, s134_30, s134_33, s134_34, Int.toNat_natCast, true_and, and_true, zpu_some, zpu_none, reduceIte, Int.reduceEq, Int.reduceToNat, true_or, a1, p0, p9, t3, s1, n1, x_tc hT hi1, x_hasCode hD hlk hS hSt, c3]
      exact k
def gPre (C : Nat) : List Int := if 0 < C then [124] else []
def gSuf (R : List Int) (C : Nat) : List Int := if C < R.length then [124] else []
def gBody (D : zD) (T R : List Int) (C h : Nat) : List Int := gPre C ++ bB (zPof D) (cdl D T h) h ++ gSuf R C
theorem bB_mono {P : zP} {l : List zKq} {i j : Nat} (h : i ≤ j) : (bB P l i).length ≤ (bB P l j).length := by
  induction j with
  | zero => rw [Nat.le_zero.mp h]; exact Nat.le_refl _
  | succ j ih =>
    by_cases e : i = j + 1
    · rw [e]; exact Nat.le_refl _
    · refine Nat.le_trans (ih (by omega)) ?_
      show _ ≤ (bB P l j ++ bPc P l j).length
      rw [List.length_append]; omega
/-- what drafting BLOCKS goes by -/
def zCZ (L : zY) (m : zM) (D : zD) (R : List Int) (C : Nat) (T : List Int) (sc : Nat) : Prop := zCX L m D R sc ∧ m 2 1 = 4 ∧ m 2 3 = 8 ∧ zTp L m 4 T ∧ zRL L m 20 ∧ ∃ ov, zRw L m 6 R (C : Int) ov
theorem zCZ_fr {L : zY} {m m' : zM} {D : zD} {R : List Int} {C : Nat} {T : List Int} {sc : Nat} (f : ∀ a, a ≠ 8 → a ≠ 9 → (a < 20 ∨ 29 < a) → m' a = m a) (hS : zRL L m' 20) (h : zCZ L m D R C T sc) : zCZ L m' D R C T sc := by
  obtain ⟨⟨h0, h1, h2, h3, ⟨c, ov, h4⟩, h5, h6⟩, g1, g2, g3, g4, ⟨ov2, g5⟩⟩ := h
  have e2 : m' 2 = m 2 := f 2 (by decide) (by decide) (by decide)
  exact ⟨⟨h0, h1, by rw [e2]; exact h2, h3, ⟨c, ov, zRw_eq (f 6 (by decide) (by decide) (by decide)) (f 7 (by decide) (by decide) (by decide)) h4⟩, zSd_eq (fun a p q => f a (by omega) (by omega) (by omega)) h5, zSt_eq (fun a p q => f a (by omega) (by omega) (by omega)) h6⟩, by rw [e2]; exact g1, by rw [e2]; exact g2, zTp_eq (f 4 (by decide) (by decide) (by decide)) (f 5 (by decide) (by decide) (by decide)) g3, hS, ⟨ov2, zRw_eq (f 6 (by decide) (by decide) (by decide)) (f 7 (by decide) (by decide) (by decide)) g5⟩⟩
theorem zCZ_8 {L : zY} {m m' : zM} {D : zD} {R : List Int} {C : Nat} {T : List Int} {sc : Nat} (f : zFR 8 9 m m') (h : zCZ L m D R C T sc) : zCZ L m' D R C T sc := zCZ_fr (fun a q1 q2 _ => zFR_at f (by omega)) (zRL_eq (fun k _ => by rw [zFR_at f (by decide)]) h.2.2.2.2.1) h
theorem c_dBl {L : zY} {m : zM} {Q : zQ} {D : zD} {T R : List Int} {C sc h : Nat} {Y0 : List Int} (hlk : dLacks D = false) (hZ : zCZ L m D R C T sc) (hW : zRo L m 8 (gPre C)) (hn : 2 * h ≤ T.length) (hc : ∀ i, i < h → dHas D (tCode T i)) (k : ∀ m' v l2 l3, zCZ L m' D R C T sc → v ≤ h → (v = h ∨ 80 < (gPre C ++ bB (zPof D) (cdl D T h) v).length) → zRo L m' 8 (gPre C ++ bB (zPof D) (cdl D T h) v) → (∀ a, a ≠ 8 → a ≠ 9 → (a < 20 ∨ 29 < a) → m' a = m a) → zwp 135 101 [zA 2, zI ((2 * h : Nat) : Int), zI l2, l3] [] L m' Q) : zwp 135 28 [zA 2, zI ((2 * h : Nat) : Int), zI ((2 * 0 : Nat) : Int), zU] [] L m Q := by
  have hD := hZ.1.1
  have a1 := hZ.1.2.1
  have t8 := hW.1
  have hT300 := hZ.2.2.2.1.2.2.2.2.2.2.1
  obtain ⟨q1, q2, q3⟩ := fC_spec (p := fun j => decide ((gPre C ++ bB (zPof D) (cdl D T h) j).length ≤ 80)) h 0
  rw [Nat.zero_add] at q2 q3
  generalize fC (fun j => decide ((gPre C ++ bB (zPof D) (cdl D T h) j).length ≤ 80)) h 0 = v at *
  refine zforv (n := v) (fun l i => [zA 2, zI ((2 * h : Nat) : Int), zI ((2 * i : Nat) : Int), l]) (fun i m' => zCZ L m' D R C T sc ∧ zRo L m' 8 (gPre C ++ bB (zPof D) (cdl D T h) i) ∧ ∀ a, a ≠ 8 → a ≠ 9 → (a < 20 ∨ 29 < a) → m' a = m a) ?_ ?_ zU 0 m (Nat.zero_le _) ⟨hZ, by rw [show bB (zPof D) (cdl D T h) 0 = [] from rfl, List.append_nil]; exact hW, fun _ _ _ _ => rfl⟩
  · rintro l i m1 hi ⟨hZ1, g1, f1⟩ ih
    have hih : i < h := by omega
    have b := of_decide_eq_true (q2 i (Nat.zero_le _) hi)
    obtain ⟨hX1, p0, p3, hT1, hSc1, -⟩ := id hZ1
    have two := hX1.2.2.2.1
    have p9 := hX1.2.2.1.2.2.2
    have t3 := hT1.1
    have s1 := hX1.2.2.2.2.2.1.1.1
    have ov0 : m1 8 3 = 0 := by
      have := g1.2.2.2.2.2.2.2.2.1
      rw [this]
      exact if_neg (by omega)
    have hi1 : 2 * i + 1 < T.length := by omega
    have n1 : ¬ ((2 * h : Nat) : Int) ≤ ((2 * i : Nat) : Int) := by omega
    have iv : i < 1000000 := by omega
    have eB : bB (zPof D) (cdl D T h) (i + 1) = bB (zPof D) (cdl D T h) i ++ bPc (zPof D) (cdl D T h) i := rfl
    have tail : ∀ m3 (br : List Int), zCZ L m3 D R C T sc → zRo L m3 8 (gPre C ++ bB (zPof D) (cdl D T h) i ++ br) → (∀ a, a ≠ 8 → a ≠ 9 → (a < 20 ∨ 29 < a) → m3 a = m a) → bPc (zPof D) (cdl D T h) i = br ++ dSp D (tCode T i) → zwp 135 83 [zA 2, zI ((2 * h : Nat) : Int), zI ((2 * i : Nat) : Int), zI (tCode T i)] [] L m3 Q := by
      intro m3 br hZ3 g3 f3 epc
      have p3' := hZ3.2.2.1
      have p9' := hZ3.1.2.2.1.2.2.2
      simp only [s135_83, s135_84, s135_87, s135_88, s135_91, s135_92, Int.toNat_natCast, true_and, and_true, true_or, or_true, false_or, or_false, zwr_id, zpu_some, zpu_none, reduceIte, Int.reduceLE, Int.reduceLT, Int.reduceEq, Int.reduceNeg, Int.reduceAdd, Int.reduceSub, Int.reduceMul, Int.reduceToNat, Nat.reduceAdd, Nat.reduceLeDiff, Nat.reduceEqDiff, Nat.reduceLT, eq_self, ne_eq, not_false_eq_true, not_true_eq_false, a1, p3', p9', t8, s1]
      refine c_apCode hD hlk (by omega) hZ3.1.2.2.2.2.2.1 hZ3.1.2.2.2.2.2.2 (hc i hih) g3 (fun m4 g4 f4 => ?_)
      simp only [s135_95, s135_98, Int.toNat_natCast, true_and, and_true, true_or, or_true, false_or, or_false, zwr_id, zpu_some, zpu_none, reduceIte, Int.reduceLE, Int.reduceLT, Int.reduceEq, Int.reduceNeg, Int.reduceAdd, Int.reduceSub, Int.reduceMul, Int.reduceToNat, Nat.reduceAdd, Nat.reduceLeDiff, Nat.reduceEqDiff, Nat.reduceLT, eq_self, ne_eq, not_false_eq_true, not_true_eq_false, z2s iv]
      refine ih _ m4 ⟨zCZ_8 f4 hZ3, ?_, fun a y1 y2 y3 => by rw [zFR_at f4 (by omega)]; exact f3 a y1 y2 y3⟩
      rw [eB, epc, ← List.append_assoc, ← List.append_assoc]
      exact g4
    simp only [s135_28]
    simp only [s135_29, s135_30, s135_33, s135_34, s135_37, s135_40, s135_43, s135_44, s135_47, s135_48, s135_51, s135_52, Int.toNat_natCast, true_and, and_true, true_or, or_true, false_or, or_false, zwr_id, zpu_some, zpu_none, reduceIte, Int.reduceLE, Int.reduceLT, Int.reduceEq, Int.reduceNeg, Int.reduceAdd, Int.reduceSub, Int.reduceMul, Int.reduceToNat, Nat.reduceAdd, Nat.reduceLeDiff, Nat.reduceEqDiff, Nat.reduceLT, eq_self, ne_eq, not_false_eq_true, not_true_eq_false, a1, p0, p3, t3, t8, ov0, n1, x_tc hT1 hi1]
    simp only [s135_53]
    cases i with
    | zero =>
      rw [if_pos (by decide)]
      refine tail m1 [] hZ1 (by rw [List.append_nil]; exact g1) f1 ?_
      unfold bPc
      rw [if_pos (Or.inl rfl), cdl_get hih]
      rfl
    | succ j =>
      rw [if_neg (by omega)]
      have hj1 : 2 * j + 1 < T.length := by omega
      simp only [s135_56, s135_57, s135_58, s135_61, s135_62, s135_63, s135_64, s135_67, s135_68, Int.toNat_natCast, true_and, and_true, zpu_some, zpu_none, Int.reduceToNat, Nat.reduceLeDiff, a1, p0, t3, (show zwr (((2 * (j + 1) : Nat) : Int) - 2) = ((2 * j : Nat) : Int) by rw [zwr_id (by omega) (by omega)]; omega), x_tc hT1 hj1]
      refine c_capart hlk hX1 hSc1 (hc j (by omega)) (hc (j + 1) hih) (fun m2 g2 f2 => ?_)
      have hZ2 : zCZ L m2 D R C T sc := zCZ_fr (fun a _ _ q => zFR_at f2 q) g2 hZ1
      have g2' : zRo L m2 8 (gPre C ++ bB (zPof D) (cdl D T h) (j + 1)) := zRw_eq (zFR_at f2 (by decide)) (zFR_at f2 (by decide)) g1
      have f2' : ∀ a, a ≠ 8 → a ≠ 9 → (a < 20 ∨ 29 < a) → m2 a = m a := fun a y1 y2 y3 => by rw [zFR_at f2 y3]; exact f1 a y1 y2 y3
      by_cases hap : bAp (zPof D) (dQ D (tCode T j)) (dQ D (tCode T (j + 1))) = true
      · rw [if_pos hap]
        simp only [s135_71, Int.toNat_natCast, true_and, and_true, true_or, or_true, false_or, or_false, zwr_id, zpu_some, zpu_none, reduceIte, Int.reduceLE, Int.reduceLT, Int.reduceEq, Int.reduceNeg, Int.reduceAdd, Int.reduceSub, Int.reduceMul, Int.reduceToNat, Nat.reduceAdd, Nat.reduceLeDiff, Nat.reduceEqDiff, Nat.reduceLT, eq_self, ne_eq, not_false_eq_true, not_true_eq_false]
        refine tail m2 [] hZ2 (by rw [List.append_nil]; exact g2') f2' ?_
        rw [bPc_s, cdl_get (show j < h by omega), cdl_get hih, if_pos hap]
        rfl
      · rw [if_neg hap]
        have p3'' := hZ2.2.2.1
        simp only [s135_71, s135_74, s135_75, s135_78, s135_80, Int.toNat_natCast, true_and, and_true, true_or, or_true, false_or, or_false, zwr_id, zpu_some, zpu_none, reduceIte, Int.reduceLE, Int.reduceLT, Int.reduceEq, Int.reduceNeg, Int.reduceAdd, Int.reduceSub, Int.reduceMul, Int.reduceToNat, Nat.reduceAdd, Nat.reduceLeDiff, Nat.reduceEqDiff, Nat.reduceLT, eq_self, ne_eq, not_false_eq_true, not_true_eq_false, a1, p3'', t8]
        refine c_RaO g2' (fun m3 g3 f3 => ?_)
        simp only [zpu_none]
        refine tail m3 [124] (zCZ_8 f3 hZ2) g3 (fun a y1 y2 y3 => by rw [zFR_at f3 (by omega)]; exact f2' a y1 y2 y3) ?_
        rw [bPc_s, cdl_get (show j < h by omega), cdl_get hih, if_neg hap]
        rfl
  · rintro l m1 ⟨hZ1, g1, f1⟩
    have p3 := hZ1.2.2.1
    simp only [s135_28]
    by_cases hv : v = h
    · simp only [s135_29, s135_30, Int.toNat_natCast, true_and, and_true, true_or, or_true, false_or, or_false, zwr_id, zpu_some, zpu_none, reduceIte, Int.reduceLE, Int.reduceLT, Int.reduceEq, Int.reduceNeg, Int.reduceAdd, Int.reduceSub, Int.reduceMul, Int.reduceToNat, Nat.reduceAdd, Nat.reduceLeDiff, Nat.reduceEqDiff, Nat.reduceLT, eq_self, ne_eq, not_false_eq_true, not_true_eq_false, show ((2 * h : Nat) : Int) ≤ ((2 * v : Nat) : Int) by omega]
      exact k m1 v _ l hZ1 q1 (Or.inl hv) g1 f1
    · have q3 := of_decide_eq_false (q3.resolve_left hv)
      have n1 : ¬ ((2 * h : Nat) : Int) ≤ ((2 * v : Nat) : Int) := by omega
      have ov1 : m1 8 3 = 1 := by
        have := g1.2.2.2.2.2.2.2.2.1
        rw [this]
        exact if_pos (by omega)
      simp only [s135_29, s135_30, s135_33, s135_34, s135_37, s135_40, Int.toNat_natCast, true_and, and_true, true_or, or_true, false_or, or_false, zwr_id, zpu_some, zpu_none, reduceIte, Int.reduceLE, Int.reduceLT, Int.reduceEq, Int.reduceNeg, Int.reduceAdd, Int.reduceSub, Int.reduceMul, Int.reduceToNat, Nat.reduceAdd, Nat.reduceLeDiff, Nat.reduceEqDiff, Nat.reduceLT, eq_self, ne_eq, not_false_eq_true, not_true_eq_false, n1, a1, p3, t8, ov1]
      exact k m1 v _ l hZ1 q1 (Or.inr (by omega)) g1 f1
