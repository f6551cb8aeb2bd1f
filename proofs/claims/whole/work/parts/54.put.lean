/-- behind an ACT: other cells than THE TAPE's, THE ROW's, the Reading's and the History's stand -/
theorem zCB_act {L : zY} {m m' : zM} {T T' : List Int} {od : Option zD} {R R' : List Int} {C C' : Nat} {H H' : zHs} {sc sp : Nat} {ov : Int} (h : ∀ a, a ≠ 2 → a ≠ 4 → a ≠ 5 → a ≠ 6 → a ≠ 7 → (a < 10 ∨ 19 < a) → (a < 30 ∨ 63 < a) → m' a = m a) (hT : zTp L m' 4 T') (hR : zRw L m' 6 R' (C' : Int) ov) (hN : zRC L m' 10 (kRun (oP od) R')) (hH : zHi L m' 30 H') (hh : zCB L m T od R C H sc sp) : zCB L m' T' od R' C' H' sc sp := by
  obtain ⟨h1, h2, -, ⟨r, c, o, h4⟩, h5, h6, h7, h8, h9, h10⟩ := hh
  exact ⟨hT, by rw [h 3 (by decide) (by decide) (by decide) (by decide) (by decide) (by decide) (by decide)]; exact h2, ⟨ov, hR⟩, ⟨r, c, o, zRw_eq (h _ (by decide) (by decide) (by decide) (by decide) (by decide) (by decide) (by decide)) (h _ (by decide) (by decide) (by decide) (by decide) (by decide) (by decide) (by decide)) h4⟩, hN, zRL_eq (fun k _ => by rw [h 20 (by decide) (by decide) (by decide) (by decide) (by decide) (by decide) (by decide)]) h6, hH, zTl_eq (fun a p q => h a (by omega) (by omega) (by omega) (by omega) (by omega) (by omega) (by omega)) h8, h9, zScs_eq (fun a p q => h a (by omega) (by omega) (by omega) (by omega) (by omega) (by omega) (by omega)) h10⟩
theorem sc_two {L : zY} {m : zM} {T : List Int} {od : Option zD} {R : List Int} {C : Nat} {H : zHs} {sc sp : Nat} (hB : zCB L m T od R C H sc sp) : (sc = 280 ∧ sp = 306) ∨ (sc = 306 ∧ sp = 280) := hB.2.2.2.2.2.2.2.2.2.1
theorem c_fin {L : zY} {m m1 : zM} {Q : zQ} {T T' : List Int} {D : zD} {R R' : List Int} {C C' : Nat} {H H' : zHs} {f p q ov : Int} {sc sp : Nat} (hD : dOk D) (hO : zCO L m (some D) f p q sc sp) (hB : zCB L m T (some D) R C H sc sp) (hT : zTp L m1 4 T') (hR : zRw L m1 6 R' (C' : Int) ov) (hH : zHi L m1 30 H') (h : ∀ a, a ≠ 4 → a ≠ 5 → a ≠ 6 → a ≠ 7 → (a < 30 ∨ 63 < a) → m1 a = m a) (k : ∀ m', zCI L m' (T', some D, R', C', H', f, -1, 0) → zFR 2 331 m m' → Q (some (zI ((msI (kRun (zPof D) R')).length : Nat))) L m') : zwp 122 0 [zA 2, zU] [] L m1 Q := by
  have two := sc_two hB
  obtain ⟨hS, hSt⟩ := sc_facts hB
  have e2 : m1 2 = m 2 := h 2 (by decide) (by decide) (by decide) (by decide) (by decide)
  have hO1 : zCO L m1 (some D) f p q sc sp := zCO_eq e2 hO
  have hS1 : zSd L m1 sc D := zSd_eq (fun a p q => h a (by omega) (by omega) (by omega) (by omega) (by omega)) hS
  have hT1 : zSt L m1 sc D := zSt_eq (fun a p q => h a (by omega) (by omega) (by omega) (by omega) (by omega)) hSt
  have hN1 : zRL L m1 10 := zRL_eq (fun k _ => by rw [h 10 (by decide) (by decide) (by decide) (by decide) (by decide)]) hB.2.2.2.2.1.1
  refine c_anew (X := 2) (o := 10) (ro := 6) (sc := sc) hO.1 (dOk_Pk hD) (by omega) (by decide) (by decide) hR hO1.2.1.2.2.1 hO1.2.1.2.2.2.2.1 hO1.2.1.2.2.2.2.2.2.2.2.2.1 (zSt_SC hD hS1 hT1) (zSt_SE hD hT1) hN1 (fun m2 g2 _ f2 => ?_)
  have fr : ∀ a, (a < 10 ∨ 19 < a) → m2 a = m1 a := fun a ha => zFR_at f2 (by omega)
  have u : ∀ a, a ≠ 2 → zup (zup m2 2 14 0) 2 13 (-1) a = m2 a := fun a ha => by rw [zup_nf ha, zup_nf ha]
  refine k _ ⟨sc, sp, zCO_ans (zCO_eq (fr 2 (by decide)) hO1), zCB_act (fun a q2 q3 q4 q6 q7 q10 q30 => ?_) (zTp_eq ?_ ?_ hT) (zRw_eq ?_ ?_ hR) (zRC_eq (fun a p q => u a (by omega)) g2) (zHi_eq (fun a p q => ?_) hH) hB⟩ (fun a ha => ?_)
  · rw [u a q2, fr a q10, h a q3 q4 q6 q7 q30]
  · rw [u 4 (by decide), fr 4 (by decide)]
  · rw [u 5 (by decide), fr 5 (by decide)]
  · rw [u 6 (by decide), fr 6 (by decide)]
  · rw [u 7 (by decide), fr 7 (by decide)]
  · rw [u a (by omega), fr a (by omega)]
  · rw [u a (by omega), fr a (by omega), h a (by omega) (by omega) (by omega) (by omega) (by omega)]
def gAct (D : zD) (g : zG) (T' R' : List Int) (C' : Nat) : Int × zG := (((msI (kRun (zPof D) R')).length : Nat), (T', some D, R', C', ((gR g, gC g) :: gH g).take 30, g.2.2.2.2.2.1, -1, 0))
def gIns (xs R : List Int) (C : Nat) : List Int := R.take C ++ xs ++ R.drop C
def sPut (D : zD) (g : zG) (x : Int) : Int × zG := if 80 ≤ (gR g).length then gN g 3 else gAct D g (gT g) (gIns [x] (gR g) (gC g)) (gC g + 1)
theorem c_putOne {L : zY} {m : zM} {Q : zQ} {T : List Int} {D : zD} {R : List Int} {C : Nat} {H : zHs} {f p q x : Int} (hg : gOk (T, some D, R, C, H, f, p, q)) (h : zCI L m (T, some D, R, C, H, f, p, q)) (k : ∀ m', zCI L m' (sPut D (T, some D, R, C, H, f, p, q) x).2 → zFR 2 331 m m' → Q (some (zI (sPut D (T, some D, R, C, H, f, p, q) x).1)) L m') : zwp 121 0 [zA 2, zI x] [] L m Q := by
  have h' := h
  obtain ⟨sc, sp, hO, hB⟩ := h'
  have hD := (hg.2.1 D rfl).1
  have hC := hg.2.2.2.2.1
  have a1 := hO.1
  have p2 := hO.2.1.2.2.1
  have p6 := hO.2.1.2.2.2.2.2.2.1
  obtain ⟨ov, hR⟩ := hB.2.2.1
  have hH := hB.2.2.2.2.2.2.1
  have t6 := hR.1
  have t30 := hH.1.1
  have n6 := hR.2.2.2.2.2.1
  by_cases h80 : 80 ≤ R.length
  · have e1 : sPut D (T, some D, R, C, H, f, p, q) x = gN (T, some D, R, C, H, f, p, q) 3 := if_pos h80
    rw [e1] at k
    have n1 : ¬ (R.length : Int) < 80 := by omega
    simp only [s121_0, s121_1, s121_4, s121_7, s121_9, s121_12, s121_13, s121_14, s121_17, s121_18, s121_19, s121_22, s121_23, s121_26, s121_29, s121_30, s121_33, s121_34, s121_37, s121_38, s121_41, Int.toNat_natCast, true_and, and_true, true_or, or_true, false_or, or_false, zwr_id, zpu_some, zpu_none, reduceIte, Int.reduceLE, Int.reduceLT, Int.reduceEq, Int.reduceNeg, Int.reduceAdd, Int.reduceSub, Int.reduceMul, Int.reduceToNat, Nat.reduceAdd, Nat.reduceLeDiff, Nat.reduceEqDiff, Nat.reduceLT, eq_self, ne_eq, not_false_eq_true, not_true_eq_false, a1, p2, t6, n6, n1, x_refuse a1]
    exact k _ (zCI_ans h) zFR_ans
  · have e1 : sPut D (T, some D, R, C, H, f, p, q) x = gAct D (T, some D, R, C, H, f, p, q) T (gIns [x] R C) (C + 1) := if_neg h80
    rw [e1] at k
    have n1 : (R.length : Int) < 80 := by omega
    simp only [s121_0, s121_1, s121_4, s121_7, s121_9, s121_12, s121_13, s121_14, s121_17, s121_18, s121_19, s121_22, s121_23, s121_26, Int.toNat_natCast, true_and, and_true, true_or, or_true, false_or, or_false, zwr_id, zpu_some, zpu_none, reduceIte, Int.reduceLE, Int.reduceLT, Int.reduceEq, Int.reduceNeg, Int.reduceAdd, Int.reduceSub, Int.reduceMul, Int.reduceToNat, Nat.reduceAdd, Nat.reduceLeDiff, Nat.reduceEqDiff, Nat.reduceLT, eq_self, ne_eq, not_false_eq_true, not_true_eq_false, a1, p2, p6, t6, t30, n6, n1]
    refine c_keep hH hR (by decide) (fun m1 g1 f1 => ?_)
    have e2 : m1 2 = m 2 := zFR_at f1 (by decide)
    have p2' : m1 2 2 = 6 := by rw [e2]; exact p2
    simp only [s121_29, s121_30, s121_33, s121_34, Int.toNat_natCast, true_and, and_true, true_or, or_true, false_or, or_false, zwr_id, zpu_some, zpu_none, reduceIte, Int.reduceLE, Int.reduceLT, Int.reduceEq, Int.reduceNeg, Int.reduceAdd, Int.reduceSub, Int.reduceMul, Int.reduceToNat, Nat.reduceAdd, Nat.reduceLeDiff, Nat.reduceEqDiff, Nat.reduceLT, eq_self, ne_eq, not_false_eq_true, not_true_eq_false, a1, p2', t6]
    refine c_insert (zRw_eq (zFR_at f1 (by decide)) (zFR_at f1 (by decide)) hR) (by omega) hC (fun m2 g2 f2 => ?_)
    simp only [s121_37, s121_38, Int.toNat_natCast, true_and, and_true, true_or, or_true, false_or, or_false, zwr_id, zpu_some, zpu_none, reduceIte, Int.reduceLE, Int.reduceLT, Int.reduceEq, Int.reduceNeg, Int.reduceAdd, Int.reduceSub, Int.reduceMul, Int.reduceToNat, Nat.reduceAdd, Nat.reduceLeDiff, Nat.reduceEqDiff, Nat.reduceLT, eq_self, ne_eq, not_false_eq_true, not_true_eq_false, a1]
    have fr : ∀ a, (a < 6 ∨ 7 < a) → (a < 30 ∨ 63 < a) → m2 a = m a := fun a q1 q2 => by rw [zFR_at f2 (by omega), zFR_at f1 (by omega)]
    refine c_fin hD hO hB (zTp_eq (fr 4 (by decide) (by decide)) (fr 5 (by decide) (by decide)) hB.1) (C' := C + 1) (R' := gIns [x] R C) (ov := ov) ?_ (zHi_eq (fun a p q => zFR_at f2 (by omega)) g1) (fun a q3 q4 q6 q7 q30 => fr a (by omega) q30) (fun m' q1 q2 => ?_)
    · unfold gIns
      rw [List.append_assoc]
      exact g2
    · simp only [s121_41, Int.toNat_natCast, true_and, and_true, true_or, or_true, false_or, or_false, zwr_id, zpu_some, zpu_none, reduceIte, Int.reduceLE, Int.reduceLT, Int.reduceEq, Int.reduceNeg, Int.reduceAdd, Int.reduceSub, Int.reduceMul, Int.reduceToNat, Nat.reduceAdd, Nat.reduceLeDiff, Nat.reduceEqDiff, Nat.reduceLT, eq_self, ne_eq, not_false_eq_true, not_true_eq_false]
      exact k m' q1 q2
def sKey (g : zG) (x : Int) : Int × zG := match gD g with
  | none => gN g 1
  | some D => if 97 ≤ x ∧ x < 123 ∧ dS D (x - 97).toNat ≠ -1 then sPut D g x else gN g 1
theorem c_key {L : zY} {m : zM} {Q : zQ} {g : zG} {x : Int} (hg : gOk g) (h : zCI L m g) (k : ∀ m', zCI L m' (sKey g x).2 → zFR 2 331 m m' → Q (some (zI (sKey g x).1)) L m') : zwp 119 0 [zA 2, zI x] [] L m Q := by
  have h' := h
  obtain ⟨T, od, R, C, H, f, p, q⟩ := g
  obtain ⟨sc, sp, hO, hB⟩ := h'
  have a1 := hO.1
  have p9 := hO.2.1.2.2.2.2.2.2.2.2.2.1
  cases od with
  | none =>
    have b11 : m 2 11 = 0 := hO.2.2.1
    simp only [s119_0, s119_1, s119_4, s119_7, s119_8, s119_11, s119_12, s119_15, s119_18, s119_19, s119_20, s119_23, s119_24, s119_25, s119_26, s119_29, Int.toNat_natCast, true_and, and_true, true_or, or_true, false_or, or_false, zwr_id, zpu_some, zpu_none, reduceIte, Int.reduceLE, Int.reduceLT, Int.reduceEq, Int.reduceNeg, Int.reduceAdd, Int.reduceSub, Int.reduceMul, Int.reduceToNat, Nat.reduceAdd, Nat.reduceLeDiff, Nat.reduceEqDiff, Nat.reduceLT, eq_self, ne_eq, not_false_eq_true, not_true_eq_false, a1, b11, x_refuse a1]
    exact k _ (zCI_ans h) zFR_ans
  | some D =>
    have b11 : m 2 11 = 1 := hO.2.2.1
    obtain ⟨hS, hT⟩ := sc_facts hB
    have s1 := hS.1.1
    by_cases hk : 97 ≤ x ∧ x < 123 ∧ dS D (x - 97).toNat ≠ -1
    · have e1 : sKey (T, some D, R, C, H, f, p, q) x = sPut D (T, some D, R, C, H, f, p, q) x := if_pos hk
      rw [e1] at k
      simp only [s119_0, s119_1, s119_4, s119_7, s119_8, s119_11, s119_12, s119_15, s119_18, s119_19, s119_20, s119_23, s119_24, s119_25, s119_26, Int.toNat_natCast, true_and, and_true, true_or, or_true, false_or, or_false, zwr_id, zpu_some, zpu_none, reduceIte, Int.reduceLE, Int.reduceLT, Int.reduceEq, Int.reduceNeg, Int.reduceAdd, Int.reduceSub, Int.reduceMul, Int.reduceToNat, Nat.reduceAdd, Nat.reduceLeDiff, Nat.reduceEqDiff, Nat.reduceLT, eq_self, ne_eq, not_false_eq_true, not_true_eq_false, a1, b11, p9, s1, x_isKey hS, hk, and_self]
      refine c_putOne hg h (fun m' q1 q2 => ?_)
      simp only [s119_29, Int.toNat_natCast, true_and, and_true, true_or, or_true, false_or, or_false, zwr_id, zpu_some, zpu_none, reduceIte, Int.reduceLE, Int.reduceLT, Int.reduceEq, Int.reduceNeg, Int.reduceAdd, Int.reduceSub, Int.reduceMul, Int.reduceToNat, Nat.reduceAdd, Nat.reduceLeDiff, Nat.reduceEqDiff, Nat.reduceLT, eq_self, ne_eq, not_false_eq_true, not_true_eq_false]
      exact k m' q1 q2
    · have e1 : sKey (T, some D, R, C, H, f, p, q) x = gN (T, some D, R, C, H, f, p, q) 1 := if_neg hk
      rw [e1] at k
      have c3 : (if 97 ≤ x ∧ x < 123 ∧ dS D (x - 97).toNat ≠ -1 then (1 : Int) else 0) = 0 := if_neg hk
      simp only [s119_0, s119_1, s119_4, s119_7, s119_8, s119_11, s119_12, a1, b11, p9, s1, x_isKey hS, true_and, Int.toNat_natCast, Int.reduceEq, reduceIte]
      rw [c3]
      simp only [s119_15, s119_18, s119_19, s119_20, s119_23, Int.toNat_natCast, true_and, and_true, true_or, or_true, false_or, or_false, zwr_id, zpu_some, zpu_none, reduceIte, Int.reduceLE, Int.reduceLT, Int.reduceEq, Int.reduceNeg, Int.reduceAdd, Int.reduceSub, Int.reduceMul, Int.reduceToNat, Nat.reduceAdd, Nat.reduceLeDiff, Nat.reduceEqDiff, Nat.reduceLT, eq_self, ne_eq, not_false_eq_true, not_true_eq_false, a1, x_refuse a1]
      exact k _ (zCI_ans h) zFR_ans
def sBrk (g : zG) : Int × zG := match gD g with
  | none => gN g 1
  | some D => sPut D g 124
theorem c_brkP {L : zY} {m : zM} {Q : zQ} {g : zG} (hg : gOk g) (h : zCI L m g) (k : ∀ m', zCI L m' (sBrk g).2 → zFR 2 331 m m' → Q (some (zI (sBrk g).1)) L m') : zwp 120 0 [zA 2] [] L m Q := by
  have h' := h
  obtain ⟨T, od, R, C, H, f, p, q⟩ := g
  obtain ⟨sc, sp, hO, hB⟩ := h'
  have a1 := hO.1
  cases od with
  | none =>
    have b11 : m 2 11 = 0 := hO.2.2.1
    simp only [s120_0, s120_1, s120_4, s120_7, s120_8, s120_9, s120_12, s120_13, s120_14, s120_16, s120_19, Int.toNat_natCast, true_and, and_true, true_or, or_true, false_or, or_false, zwr_id, zpu_some, zpu_none, reduceIte, Int.reduceLE, Int.reduceLT, Int.reduceEq, Int.reduceNeg, Int.reduceAdd, Int.reduceSub, Int.reduceMul, Int.reduceToNat, Nat.reduceAdd, Nat.reduceLeDiff, Nat.reduceEqDiff, Nat.reduceLT, eq_self, ne_eq, not_false_eq_true, not_true_eq_false, a1, b11, x_refuse a1]
    exact k _ (zCI_ans h) zFR_ans
  | some D =>
    have b11 : m 2 11 = 1 := hO.2.2.1
    simp only [s120_0, s120_1, s120_4, s120_7, s120_8, s120_9, s120_12, s120_13, s120_14, s120_16, Int.toNat_natCast, true_and, and_true, true_or, or_true, false_or, or_false, zwr_id, zpu_some, zpu_none, reduceIte, Int.reduceLE, Int.reduceLT, Int.reduceEq, Int.reduceNeg, Int.reduceAdd, Int.reduceSub, Int.reduceMul, Int.reduceToNat, Nat.reduceAdd, Nat.reduceLeDiff, Nat.reduceEqDiff, Nat.reduceLT, eq_self, ne_eq, not_false_eq_true, not_true_eq_false, a1, b11]
    refine c_putOne hg h (fun m' q1 q2 => ?_)
    simp only [s120_19, Int.toNat_natCast, true_and, and_true, true_or, or_true, false_or, or_false, zwr_id, zpu_some, zpu_none, reduceIte, Int.reduceLE, Int.reduceLT, Int.reduceEq, Int.reduceNeg, Int.reduceAdd, Int.reduceSub, Int.reduceMul, Int.reduceToNat, Nat.reduceAdd, Nat.reduceLeDiff, Nat.reduceEqDiff, Nat.reduceLT, eq_self, ne_eq, not_false_eq_true, not_true_eq_false]
    exact k m' q1 q2
