theorem zCB_scr {L : zY} {m m' : zM} {T : List Int} {od : Option zD} {R : List Int} {C : Nat} {H : zHs} {sc sp : Nat} (h : ∀ a, a ≠ 2 → (a < 20 ∨ 29 < a) → m' a = m a) (hS : zRL L m' 20) (hh : zCB L m T od R C H sc sp) : zCB L m' T od R C H sc sp := by
  obtain ⟨h1, h2, ⟨ov, h3⟩, ⟨r, c, o, h4⟩, h5, h6, h7, h8, h9, h10⟩ := hh
  exact ⟨zTp_eq (h _ (by decide) (by decide)) (h _ (by decide) (by decide)) h1, by rw [h 3 (by decide) (by decide)]; exact h2, ⟨ov, zRw_eq (h _ (by decide) (by decide)) (h _ (by decide) (by decide)) h3⟩, ⟨r, c, o, zRw_eq (h _ (by decide) (by decide)) (h _ (by decide) (by decide)) h4⟩, zRC_eq (fun a p q => h a (by omega) (by omega)) h5, hS, zHi_eq (fun a p q => h a (by omega) (by omega)) h7, zTl_eq (fun a p q => h a (by omega) (by omega)) h8, h9, zScs_eq (fun a p q => h a (by omega) (by omega)) h10⟩
/-- what a call that reads into the scratch Reading goes by -/
def zCX (L : zY) (m : zM) (D : zD) (R : List Int) (sc : Nat) : Prop := dOk D ∧ zt L 2 = 10 ∧ (m 2 2 = 6 ∧ m 2 4 = 10 ∧ m 2 5 = 20 ∧ m 2 9 = (sc : Int)) ∧ (sc = 280 ∨ sc = 306) ∧ (∃ c ov, zRw L m 6 R c ov) ∧ zSd L m sc D ∧ zSt L m sc D
theorem zCX_fr {L : zY} {m m' : zM} {D : zD} {R : List Int} {sc : Nat} (f : zFR 20 29 m m') (h : zCX L m D R sc) : zCX L m' D R sc := by
  obtain ⟨h0, h1, h2, h3, ⟨c, ov, h4⟩, h5, h6⟩ := h
  exact ⟨h0, h1, by rw [zFR_at f (by decide)]; exact h2, h3, ⟨c, ov, zRw_eq (zFR_at f (by decide)) (zFR_at f (by decide)) h4⟩, zSd_eq (fun a p q => zFR_at f (by omega)) h5, zSt_eq (fun a p q => zFR_at f (by omega)) h6⟩
theorem zCX_of {L : zY} {m : zM} {T : List Int} {D : zD} {R : List Int} {C : Nat} {H : zHs} {f p q : Int} {sc sp : Nat} (hD : dOk D) (hO : zCO L m (some D) f p q sc sp) (hB : zCB L m T (some D) R C H sc sp) : zCX L m D R sc := by
  have two := sc_two hB
  obtain ⟨hS, hT⟩ := sc_facts hB
  obtain ⟨ov, hR⟩ := hB.2.2.1
  exact ⟨hD, hO.1, ⟨hO.2.1.2.2.1, hO.2.1.2.2.2.2.1, hO.2.1.2.2.2.2.2.1, hO.2.1.2.2.2.2.2.2.2.2.2.1⟩, by omega, ⟨_, ov, hR⟩, hS, hT⟩
theorem c_rr {L : zY} {m : zM} {Q : zQ} {a b sc : Nat} {R : List Int} {D : zD} {s : zMS} (hX : zCX L m D R sc) (hC : zRC L m 20 s) (hs : msX (dnE D) s) (hl : s.2.2.1.length + (min b R.length - a) ≤ 80) (k : ∀ m', zCX L m' D R sc → zRC L m' 20 (kGo (zPof D) ((R.drop a).take (b - a)) s) → msX (dnE D) (kGo (zPof D) ((R.drop a).take (b - a)) s) → zFR 20 29 m m' → Q none L m') : zwp 123 0 [zA 2, zA 20, zI (a : Nat), zI (b : Nat), zU] [] L m Q := by
  have hX' := hX
  obtain ⟨h0, h1, ⟨h2, h3, h4, h5⟩, h6, ⟨c, ov, h7⟩, h8, h9⟩ := hX'
  simp only [s123_0, s123_1]
  exact c_range_loop (X := 2) (o := 20) (ro := 6) (sc := sc) (N := dnE D) h1 (dOk_Pk h0) (by omega) (by decide) (by decide) _ a m s rfl h7 h2 h5 (zSt_SC h0 h8 h9) (zSt_SE h0 h9) hC hs hl (fun m' g1 g2 g3 => k m' (zCX_fr g3 hX) g1 g2 g3)
theorem c_tk {L : zY} {m : zM} {Q : zQ} {sc : Nat} {R : List Int} {D : zD} {s : zMS} {x : Int} (hX : zCX L m D R sc) (hC : zRC L m 20 s) (hs : msX (dnE D) s) (hl : s.2.2.1.length < 80) (k : ∀ m', zCX L m' D R sc → zRC L m' 20 (kSign (zPof D) x s) → msX (dnE D) (kSign (zPof D) x s) → zFR 20 29 m m' → Q none L m') : zwp 25 0 [zA 20, zA sc, zI x] [] L m Q := by
  have hX' := hX
  obtain ⟨h0, h1, h2, h6, -, h8, h9⟩ := hX'
  exact c_take (o := 20) (sc := sc) (N := dnE D) hC hs (zSt_SC h0 h8 h9) (zSt_SE h0 h9) (dOk_Pk h0) (by omega) hl (fun m' g1 g2 g3 => k m' (zCX_fr g3 hX) g1 g2 g3)
def sNeeded (g : zG) (n : Int) : Int × zG := if 0 ≤ n ∧ n < ((gR g).length : Int) then (if (gR g).getD n.toNat 0 = 124 then (if (msI (kRun (oP (gD g)) (gDel (gR g) n.toNat))).length = (msI (gI g)).length ∧ fA (msI (kRun (oP (gD g)) (gDel (gR g) n.toNat))) (msI (gI g)) = (msI (gI g)).length then gA g 0 else gA g 1) else gN g 5) else gN g 1
theorem kGo_app {P : zP} {xs ys : List Int} {s : zMS} : kGo P (xs ++ ys) s = kGo P ys (kGo P xs s) := List.foldl_append
theorem c_needed {L : zY} {m : zM} {Q : zQ} {g : zG} {n : Int} (hg : gOk g) (h : zCI L m g) (k : ∀ m', zCI L m' (sNeeded g n).2 → zFR 2 331 m m' → Q (some (zI (sNeeded g n).1)) L m') : zwp 142 0 [zA 2, zI n, zU] [] L m Q := by
  have h' := h
  obtain ⟨T, od, R, C, H, f, p, q⟩ := g
  obtain ⟨sc, sp, hO, hB⟩ := h'
  have a1 := hO.1
  have p2 := hO.2.1.2.2.1
  have p4 := hO.2.1.2.2.2.2.1
  have p5 := hO.2.1.2.2.2.2.2.1
  obtain ⟨ov, hR⟩ := hB.2.2.1
  have hN := hB.2.2.2.2.1
  have t6 := hR.1
  have t10 := hN.1.1
  have hR80 := hR.2.2.2.2.2.2.1
  have hSc := hB.2.2.2.2.2.1
  have t20 := hSc.1
  by_cases h1 : 0 ≤ n ∧ n < (R.length : Int)
  · obtain ⟨j, rfl⟩ : ∃ j : Nat, n = (j : Int) := ⟨n.toNat, by omega⟩
    have hj : j < R.length := by omega
    cases od with
    | none =>
      obtain ⟨e, -, -⟩ := hg.2.2.1 rfl
      rw [e] at hj
      exact absurd hj (by simp)
    | some D =>
      have hD := (hg.2.1 D rfl).1
      by_cases h2 : R[j] = 124
      · have e1 : sNeeded (T, some D, R, C, H, f, p, q) (j : Int) = (if (msI (kRun (zPof D) (gDel R j))).length = (msI (kRun (zPof D) R)).length ∧ fA (msI (kRun (zPof D) (gDel R j))) (msI (kRun (zPof D) R)) = (msI (kRun (zPof D) R)).length then gA (T, some D, R, C, H, f, p, q) 0 else gA (T, some D, R, C, H, f, p, q) 1) := by
          show (if 0 ≤ (j : Int) ∧ (j : Int) < (R.length : Int) then (if R.getD (j : Int).toNat 0 = 124 then _ else _) else _) = _
          rw [if_pos h1, Int.toNat_natCast, getD_lt hj, if_pos h2]
          rfl
        rw [e1] at k
        clear e1
        simp only [s142_0, s142_1, s142_4, s142_5, s142_8, s142_11, s142_12, s142_13, s142_16, s142_17, s142_18, s142_21, s142_22, s142_25, s142_27, s142_30, s142_31, s142_32, s142_35, s142_36, s142_37, s142_40, Int.toNat_natCast, true_and, and_true, true_or, or_true, false_or, or_false, zwr_id, zpu_some, zpu_none, reduceIte, Int.reduceLE, Int.reduceLT, Int.reduceEq, Int.reduceNeg, Int.reduceAdd, Int.reduceSub, Int.reduceMul, Int.reduceToNat, Nat.reduceAdd, Nat.reduceLeDiff, Nat.reduceEqDiff, Nat.reduceLT, eq_self, ne_eq, not_false_eq_true, not_true_eq_false, a1, p2, p5, t6, t20, x_hasPl hR, h1, and_self, x_signAt hR hj, h2]
        have hX := zCX_of hD hO hB
        refine c_clear hSc (fun m1 g1 f1 => ?_)
        have hX1 := zCX_fr f1 hX
        have p5' := hX1.2.2.1.2.2.1
        simp only [s142_43, s142_44, s142_45, s142_48, s142_49, s142_50, Int.toNat_natCast, true_and, and_true, true_or, or_true, false_or, or_false, zwr_id, zpu_some, zpu_none, reduceIte, Int.reduceLE, Int.reduceLT, Int.reduceEq, Int.reduceNeg, Int.reduceAdd, Int.reduceSub, Int.reduceMul, Int.reduceToNat, Nat.reduceAdd, Nat.reduceLeDiff, Nat.reduceEqDiff, Nat.reduceLT, eq_self, ne_eq, not_false_eq_true, not_true_eq_false, a1, p5']
        have hn : min j R.length - 0 = j := by omega
        refine c_rr (a := 0) (b := j) hX1 g1 ms0_ok (by show 0 + _ ≤ 80; omega) (fun m2 hX2 g2 s2 f2 => ?_)
        have l2 := (kGo_ok (dOk_Pk hD) ((R.drop 0).take (j - 0)) ms0 ms0_ok).2
        have p5'' := hX2.2.2.1.2.2.1
        have p2'' := hX2.2.2.1.1
        obtain ⟨c2, ov2, hR2⟩ := hX2.2.2.2.2.1
        have n6 := hR2.2.2.2.2.2.1
        simp only [s142_53, s142_54, s142_55, s142_58, s142_59, s142_60, s142_61, s142_62, s142_65, s142_68, Int.toNat_natCast, true_and, and_true, true_or, or_true, false_or, or_false, zwr_id, zpu_some, zpu_none, reduceIte, Int.reduceLE, Int.reduceLT, Int.reduceEq, Int.reduceNeg, Int.reduceAdd, Int.reduceSub, Int.reduceMul, Int.reduceToNat, Nat.reduceAdd, Nat.reduceLeDiff, Nat.reduceEqDiff, Nat.reduceLT, eq_self, ne_eq, not_false_eq_true, not_true_eq_false, a1, p5'', p2'', t6, n6, z1 (i := j) (by omega)]
        have el : ((R.drop 0).take (j - 0)).length = j := by rw [List.drop_zero, List.length_take]; omega
        refine c_rr (a := j + 1) (b := R.length) hX2 g2 s2 (by rw [l2, el]; show 0 + j + _ ≤ 80; omega) (fun m3 hX3 g3 s3 f3 => ?_)
        have ed : kGo (zPof D) ((R.drop (j + 1)).take (R.length - (j + 1))) (kGo (zPof D) ((R.drop 0).take (j - 0)) ms0) = kRun (zPof D) (gDel R j) := by
          rw [← kGo_app, List.drop_zero, Nat.sub_zero, List.take_of_length_le (l := R.drop (j + 1)) (by rw [List.length_drop]; exact Nat.le_refl _)]
          rfl
        rw [ed] at g3
        have fr : zFR 20 29 m m3 := zFR_tr f1 (zFR_tr f2 f3)
        have hN3 : zRC L m3 10 (kRun (zPof D) R) := zRC_eq (fun a p q => zFR_at fr (by omega)) hN
        have p4' := hX3.2.2.1.2.1
        have p5' := hX3.2.2.1.2.2.1
        have i0 := g3.2.1.1
        have j0 := hN3.2.1.1
        have fin : ∀ b : Bool, zCI L (zup (zup m3 2 14 0) 2 13 (-1)) (gA (T, some D, R, C, H, f, p, q) (if b then 0 else 1)).2 := fun b => ⟨sc, sp, zCO_ans (zCO_eq (zFR_at fr (by decide)) hO), zCB_ans (zCB_scr (fun a _ ha => zFR_at fr ha) g3.1 hB)⟩
        have ff : zFR 2 331 m (zup (zup m3 2 14 0) 2 13 (-1)) := zFR_tr (zFR_wd fr (by decide) (by decide)) zFR_ans
        simp only [s142_71, s142_72, s142_75, s142_78, s142_79, s142_82, Int.toNat_natCast, true_and, and_true, true_or, or_true, false_or, or_false, zwr_id, zpu_some, zpu_none, reduceIte, Int.reduceLE, Int.reduceLT, Int.reduceEq, Int.reduceNeg, Int.reduceAdd, Int.reduceSub, Int.reduceMul, Int.reduceToNat, Nat.reduceAdd, Nat.reduceLeDiff, Nat.reduceEqDiff, Nat.reduceLT, eq_self, ne_eq, not_false_eq_true, not_true_eq_false, a1, p4', p5', t20, t10, i0, j0]
        simp only [s142_85]
        by_cases h3 : (msI (kRun (zPof D) (gDel R j))).length = (msI (kRun (zPof D) R)).length
        · rw [if_pos (by omega)]
          simp only [s142_88, s142_89, s142_92, s142_93, s142_96, Int.toNat_natCast, true_and, and_true, true_or, or_true, false_or, or_false, zwr_id, zpu_some, zpu_none, reduceIte, Int.reduceLE, Int.reduceLT, Int.reduceEq, Int.reduceNeg, Int.reduceAdd, Int.reduceSub, Int.reduceMul, Int.reduceToNat, Nat.reduceAdd, Nat.reduceLeDiff, Nat.reduceEqDiff, Nat.reduceLT, eq_self, ne_eq, not_false_eq_true, not_true_eq_false, a1, p4', p5', t20, t10]
          refine c_alike g3.1 g3.2.1 hN3.1 hN3.2.1 ?_
          simp only [s142_99, s142_100, s142_103, Int.toNat_natCast, true_and, and_true, true_or, or_true, false_or, or_false, zwr_id, zpu_some, zpu_none, reduceIte, Int.reduceLE, Int.reduceLT, Int.reduceEq, Int.reduceNeg, Int.reduceAdd, Int.reduceSub, Int.reduceMul, Int.reduceToNat, Nat.reduceAdd, Nat.reduceLeDiff, Nat.reduceEqDiff, Nat.reduceLT, eq_self, ne_eq, not_false_eq_true, not_true_eq_false, a1, p4', t10, j0]
          simp only [s142_106]
          by_cases h4 : fA (msI (kRun (zPof D) (gDel R j))) (msI (kRun (zPof D) R)) = (msI (kRun (zPof D) R)).length
          · rw [if_pos (by omega)]
            rw [if_pos ⟨h3, h4⟩] at k
            simp only [s142_109, s142_110, s142_113, s142_114, s142_115, s142_116, s142_117, s142_120, s142_121, s142_124, s142_125, s142_128, Int.toNat_natCast, true_and, and_true, true_or, or_true, false_or, or_false, zwr_id, zpu_some, zpu_none, reduceIte, Int.reduceLE, Int.reduceLT, Int.reduceEq, Int.reduceNeg, Int.reduceAdd, Int.reduceSub, Int.reduceMul, Int.reduceToNat, Nat.reduceAdd, Nat.reduceLeDiff, Nat.reduceEqDiff, Nat.reduceLT, eq_self, ne_eq, not_false_eq_true, not_true_eq_false, a1, x_accept a1]
            exact k _ (fin true) ff
          · rw [if_neg (by omega)]
            rw [if_neg (fun q => h4 q.2)] at k
            simp only [s142_113, s142_114, s142_115, s142_116, s142_117, s142_120, s142_121, s142_124, s142_125, s142_128, Int.toNat_natCast, true_and, and_true, true_or, or_true, false_or, or_false, zwr_id, zpu_some, zpu_none, reduceIte, Int.reduceLE, Int.reduceLT, Int.reduceEq, Int.reduceNeg, Int.reduceAdd, Int.reduceSub, Int.reduceMul, Int.reduceToNat, Nat.reduceAdd, Nat.reduceLeDiff, Nat.reduceEqDiff, Nat.reduceLT, eq_self, ne_eq, not_false_eq_true, not_true_eq_false, a1, x_accept a1]
            exact k _ (fin false) ff
        · rw [if_neg (by omega)]
          rw [if_neg (fun q => h3 q.1)] at k
          simp only [s142_113, s142_114, s142_115, s142_116, s142_117, s142_120, s142_121, s142_124, s142_125, s142_128, Int.toNat_natCast, true_and, and_true, true_or, or_true, false_or, or_false, zwr_id, zpu_some, zpu_none, reduceIte, Int.reduceLE, Int.reduceLT, Int.reduceEq, Int.reduceNeg, Int.reduceAdd, Int.reduceSub, Int.reduceMul, Int.reduceToNat, Nat.reduceAdd, Nat.reduceLeDiff, Nat.reduceEqDiff, Nat.reduceLT, eq_self, ne_eq, not_false_eq_true, not_true_eq_false, a1, x_accept a1]
          exact k _ (fin false) ff
      · have e1 : sNeeded (T, some D, R, C, H, f, p, q) (j : Int) = gN (T, some D, R, C, H, f, p, q) 5 := by
          show (if 0 ≤ (j : Int) ∧ (j : Int) < (R.length : Int) then (if R.getD (j : Int).toNat 0 = 124 then _ else _) else _) = _
          rw [if_pos h1, Int.toNat_natCast, getD_lt hj, if_neg h2]
        rw [e1] at k
        simp only [s142_0, s142_1, s142_4, s142_5, s142_8, s142_11, s142_12, s142_13, s142_16, s142_17, s142_18, s142_21, s142_22, s142_25, s142_27, s142_30, s142_31, s142_32, s142_35, Int.toNat_natCast, true_and, and_true, true_or, or_true, false_or, or_false, zwr_id, zpu_some, zpu_none, reduceIte, Int.reduceLE, Int.reduceLT, Int.reduceEq, Int.reduceNeg, Int.reduceAdd, Int.reduceSub, Int.reduceMul, Int.reduceToNat, Nat.reduceAdd, Nat.reduceLeDiff, Nat.reduceEqDiff, Nat.reduceLT, eq_self, ne_eq, not_false_eq_true, not_true_eq_false, a1, p2, t6, x_hasPl hR, h1, and_self, x_signAt hR hj, h2, x_refuse a1]
        exact k _ (zCI_ans h) zFR_ans
  · have e1 : sNeeded (T, od, R, C, H, f, p, q) n = gN (T, od, R, C, H, f, p, q) 1 := if_neg h1
    rw [e1] at k
    have c3 : (if 0 ≤ n ∧ n < (R.length : Int) then (1 : Int) else 0) = 0 := if_neg h1
    simp only [s142_0, s142_1, s142_4, s142_5, s142_8, s142_11, s142_12, s142_13, s142_16, Int.toNat_natCast, true_and, and_true, zpu_some, zpu_none, reduceIte, Int.reduceEq, Int.reduceToNat, a1, p2, t6, x_hasPl hR, c3, x_refuse a1]
    exact k _ (zCI_ans h) zFR_ans
