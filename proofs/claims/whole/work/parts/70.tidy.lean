def sBare (g : zG) : Int × zG := match gD g with
  | none => gN g 1
  | some D => gA g (rBr (gBare D (gR g)) : Nat)
theorem zCY_of {L : zY} {m : zM} {T : List Int} {D : zD} {R : List Int} {C : Nat} {H : zHs} {f p q : Int} {sc sp : Nat} (hD : dOk D) (hO : zCO L m (some D) f p q sc sp) (hB : zCB L m T (some D) R C H sc sp) : zCY L m D R sc := ⟨zCX_of hD hO hB, hO.2.1.2.2.2.1, hB.2.2.2.2.1, hB.2.2.2.2.2.1⟩
/-- behind a drafting call -/
theorem zCB_dr {L : zY} {m m' : zM} {T : List Int} {od : Option zD} {R : List Int} {C : Nat} {H : zHs} {sc sp : Nat} {W : List Int} {c o : Int} (h : ∀ a, a ≠ 2 → a ≠ 8 → a ≠ 9 → (a < 20 ∨ 29 < a) → m' a = m a) (hS : zRL L m' 20) (hW : zRw L m' 8 W c o) (hh : zCB L m T od R C H sc sp) : zCB L m' T od R C H sc sp := by
  obtain ⟨h1, h2, ⟨ov, h3⟩, -, h5, h6, h7, h8, h9, h10⟩ := hh
  exact ⟨zTp_eq (h _ (by decide) (by decide) (by decide) (by decide)) (h _ (by decide) (by decide) (by decide) (by decide)) h1, by rw [h 3 (by decide) (by decide) (by decide) (by decide)]; exact h2, ⟨ov, zRw_eq (h _ (by decide) (by decide) (by decide) (by decide)) (h _ (by decide) (by decide) (by decide) (by decide)) h3⟩, ⟨W, c, o, hW⟩, zRC_eq (fun a p q => h a (by omega) (by omega) (by omega) (by omega)) h5, hS, zHi_eq (fun a p q => h a (by omega) (by omega) (by omega) (by omega)) h7, zTl_eq (fun a p q => h a (by omega) (by omega) (by omega) (by omega)) h8, h9, zScs_eq (fun a p q => h a (by omega) (by omega) (by omega) (by omega)) h10⟩
theorem c_bare {L : zY} {m : zM} {Q : zQ} {g : zG} (hg : gOk g) (h : zCI L m g) (k : ∀ m', zCI L m' (sBare g).2 → zFR 2 331 m m' → Q (some (zI (sBare g).1)) L m') : zwp 143 0 [zA 2] [] L m Q := by
  have h' := h
  obtain ⟨T, od, R, C, H, f, p, q⟩ := g
  obtain ⟨sc, sp, hO, hB⟩ := h'
  have a1 := hO.1
  cases od with
  | none =>
    have b11 : m 2 11 = 0 := hO.2.2.1
    simp only [s143_0, s143_1, s143_4, s143_7, s143_8, s143_9, s143_12, Int.toNat_natCast, true_and, and_true, true_or, or_true, false_or, or_false, zwr_id, zpu_some, zpu_none, reduceIte, Int.reduceLE, Int.reduceLT, Int.reduceEq, Int.reduceNeg, Int.reduceAdd, Int.reduceSub, Int.reduceMul, Int.reduceToNat, Nat.reduceAdd, Nat.reduceLeDiff, Nat.reduceEqDiff, Nat.reduceLT, eq_self, ne_eq, not_false_eq_true, not_true_eq_false, a1, b11, x_refuse a1]
    exact k _ (zCI_ans h) zFR_ans
  | some D =>
    have b11 : m 2 11 = 1 := hO.2.2.1
    obtain ⟨hD, -, hV, -⟩ := hg.2.1 D rfl
    obtain ⟨W, cw, ow, hW⟩ := hB.2.2.2.1
    have t8 := hW.1
    simp only [s143_0, s143_1, s143_4, s143_7, s143_8, s143_9, s143_12, s143_13, s143_14, Int.toNat_natCast, true_and, and_true, true_or, or_true, false_or, or_false, zwr_id, zpu_some, zpu_none, reduceIte, Int.reduceLE, Int.reduceLT, Int.reduceEq, Int.reduceNeg, Int.reduceAdd, Int.reduceSub, Int.reduceMul, Int.reduceToNat, Nat.reduceAdd, Nat.reduceLeDiff, Nat.reduceEqDiff, Nat.reduceLT, eq_self, ne_eq, not_false_eq_true, not_true_eq_false, a1, b11]
    refine c_draft hD hV (zCY_of hD hO hB) hW (fun m1 hY1 g1 f1 => ?_)
    have p3 := hY1.2.1
    simp only [s143_17, s143_18, s143_19, s143_22, Int.toNat_natCast, true_and, and_true, true_or, or_true, false_or, or_false, zwr_id, zpu_some, zpu_none, reduceIte, Int.reduceLE, Int.reduceLT, Int.reduceEq, Int.reduceNeg, Int.reduceAdd, Int.reduceSub, Int.reduceMul, Int.reduceToNat, Nat.reduceAdd, Nat.reduceLeDiff, Nat.reduceEqDiff, Nat.reduceLT, eq_self, ne_eq, not_false_eq_true, not_true_eq_false, a1, p3, t8]
    refine c_breaks g1 ?_
    simp only [s143_25, s143_28, Int.toNat_natCast, true_and, and_true, true_or, or_true, false_or, or_false, zwr_id, zpu_some, zpu_none, reduceIte, Int.reduceLE, Int.reduceLT, Int.reduceEq, Int.reduceNeg, Int.reduceAdd, Int.reduceSub, Int.reduceMul, Int.reduceToNat, Nat.reduceAdd, Nat.reduceLeDiff, Nat.reduceEqDiff, Nat.reduceLT, eq_self, ne_eq, not_false_eq_true, not_true_eq_false, a1, x_accept a1]
    exact k _ ⟨sc, sp, zCO_ans (zCO_eq (f1 2 (by decide) (by decide) (by decide)) hO), zCB_ans (zCB_dr (fun a _ q1 q2 q3 => f1 a q1 q2 q3) hY1.2.2.2 g1 hB)⟩ (fun a ha => by rw [zup_nf (by omega), zup_nf (by omega)]; exact f1 a (by omega) (by omega) (by omega))
def sTidy (g : zG) : Int × zG := match gD g with
  | none => gN g 1
  | some D => ((rBr (gR g) : Int) - (rBr (gBare D (gR g)) : Int), (gT g, some D, gBare D (gR g), pBk (gBare D (gR g)) (rKy ((gR g).take (gC g))), ((gR g, gC g) :: gH g).take 30, g.2.2.2.2.2.1, -1, 0))
theorem rBr_len {xs : List Int} : rBr xs ≤ xs.length := List.countP_le_length
theorem c_tidy {L : zY} {m : zM} {Q : zQ} {g : zG} (hg : gOk g) (h : zCI L m g) (k : ∀ m', zCI L m' (sTidy g).2 → zFR 2 331 m m' → Q (some (zI (sTidy g).1)) L m') : zwp 130 0 [zA 2, zU, zU] [] L m Q := by
  have h' := h
  obtain ⟨T, od, R, C, H, f, p, q⟩ := g
  obtain ⟨sc, sp, hO, hB⟩ := h'
  have a1 := hO.1
  have p2 := hO.2.1.2.2.1
  have p6 := hO.2.1.2.2.2.2.2.2.1
  cases od with
  | none =>
    have b11 : m 2 11 = 0 := hO.2.2.1
    simp only [s130_0, s130_1, s130_4, s130_7, s130_8, s130_9, s130_12, Int.toNat_natCast, true_and, and_true, true_or, or_true, false_or, or_false, zwr_id, zpu_some, zpu_none, reduceIte, Int.reduceLE, Int.reduceLT, Int.reduceEq, Int.reduceNeg, Int.reduceAdd, Int.reduceSub, Int.reduceMul, Int.reduceToNat, Nat.reduceAdd, Nat.reduceLeDiff, Nat.reduceEqDiff, Nat.reduceLT, eq_self, ne_eq, not_false_eq_true, not_true_eq_false, a1, b11, x_refuse a1]
    exact k _ (zCI_ans h) zFR_ans
  | some D =>
    have b11 : m 2 11 = 1 := hO.2.2.1
    obtain ⟨hD, -, hV, -⟩ := hg.2.1 D rfl
    obtain ⟨W, cw, ow, hW⟩ := hB.2.2.2.1
    obtain ⟨ov, hR⟩ := hB.2.2.1
    have hC := hg.2.2.2.2.1
    have hH := hB.2.2.2.2.2.2.1
    have t8 := hW.1
    have t6 := hR.1
    have t30 := hH.1.1
    have hR80 := hR.2.2.2.2.2.2.1
    have bl := rBr_len (xs := R)
    have kl := rKy_le (xs := R) (i := C)
    obtain ⟨gb1, gb2⟩ := gBare_ok hD hV
    simp only [s130_0, s130_1, s130_4, s130_7, s130_8, s130_9, s130_12, s130_13, s130_14, s130_17, Int.toNat_natCast, true_and, and_true, true_or, or_true, false_or, or_false, zwr_id, zpu_some, zpu_none, reduceIte, Int.reduceLE, Int.reduceLT, Int.reduceEq, Int.reduceNeg, Int.reduceAdd, Int.reduceSub, Int.reduceMul, Int.reduceToNat, Nat.reduceAdd, Nat.reduceLeDiff, Nat.reduceEqDiff, Nat.reduceLT, eq_self, ne_eq, not_false_eq_true, not_true_eq_false, a1, b11, p2, t6]
    refine c_breaks hR ?_
    simp only [s130_20, s130_21, s130_22, s130_25, Int.toNat_natCast, true_and, and_true, true_or, or_true, false_or, or_false, zwr_id, zpu_some, zpu_none, reduceIte, Int.reduceLE, Int.reduceLT, Int.reduceEq, Int.reduceNeg, Int.reduceAdd, Int.reduceSub, Int.reduceMul, Int.reduceToNat, Nat.reduceAdd, Nat.reduceLeDiff, Nat.reduceEqDiff, Nat.reduceLT, eq_self, ne_eq, not_false_eq_true, not_true_eq_false, a1, p2, t6]
    refine c_kahead hR hC ?_
    simp only [s130_28, s130_29, s130_30, s130_33, s130_34, s130_37, Int.toNat_natCast, true_and, and_true, true_or, or_true, false_or, or_false, zwr_id, zpu_some, zpu_none, reduceIte, Int.reduceLE, Int.reduceLT, Int.reduceEq, Int.reduceNeg, Int.reduceAdd, Int.reduceSub, Int.reduceMul, Int.reduceToNat, Nat.reduceAdd, Nat.reduceLeDiff, Nat.reduceEqDiff, Nat.reduceLT, eq_self, ne_eq, not_false_eq_true, not_true_eq_false, a1, p2, p6, t6, t30]
    refine c_keep hH hR (by decide) (fun m1 g1 f1 => ?_)
    simp only [s130_40, s130_41, Int.toNat_natCast, true_and, and_true, true_or, or_true, false_or, or_false, zwr_id, zpu_some, zpu_none, reduceIte, Int.reduceLE, Int.reduceLT, Int.reduceEq, Int.reduceNeg, Int.reduceAdd, Int.reduceSub, Int.reduceMul, Int.reduceToNat, Nat.reduceAdd, Nat.reduceLeDiff, Nat.reduceEqDiff, Nat.reduceLT, eq_self, ne_eq, not_false_eq_true, not_true_eq_false, a1]
    have fr1 : ∀ a, (a < 30 ∨ 63 < a) → m1 a = m a := fun a ha => zFR_at f1 ha
    have hO1 : zCO L m1 (some D) f p q sc sp := zCO_eq (fr1 2 (by decide)) hO
    have hR1 : zRw L m1 6 R (C : Int) ov := zRw_eq (fr1 6 (by decide)) (fr1 7 (by decide)) hR
    have hN1 : zRC L m1 10 (kRun (zPof D) R) := zRC_eq (fun a p q => fr1 a (by omega)) hB.2.2.2.2.1
    have hSc1 : zRL L m1 20 := zRL_eq (fun k _ => by rw [fr1 20 (by decide)]) hB.2.2.2.2.2.1
    have two := sc_two hB
    obtain ⟨hS, hSt⟩ := sc_facts hB
    have hY1 : zCY L m1 D R sc := ⟨⟨hD, a1, ⟨hO1.2.1.2.2.1, hO1.2.1.2.2.2.2.1, hO1.2.1.2.2.2.2.2.1, hO1.2.1.2.2.2.2.2.2.2.2.2.1⟩, by omega, ⟨_, ov, hR1⟩, zSd_eq (fun a p q => fr1 a (by omega)) hS, zSt_eq (fun a p q => fr1 a (by omega)) hSt⟩, hO1.2.1.2.2.2.1, hN1, hSc1⟩
    refine c_draft hD hV hY1 (zRw_eq (fr1 8 (by decide)) (fr1 9 (by decide)) hW) (fun m2 hY2 g2 f2 => ?_)
    have p2' := hY2.1.2.2.1.1
    have p3' := hY2.2.1
    have hR2 : zRw L m2 6 R (C : Int) ov := zRw_eq (f2 6 (by decide) (by decide) (by decide)) (f2 7 (by decide) (by decide) (by decide)) hR1
    simp only [s130_44, s130_45, s130_48, s130_49, s130_52, Int.toNat_natCast, true_and, and_true, true_or, or_true, false_or, or_false, zwr_id, zpu_some, zpu_none, reduceIte, Int.reduceLE, Int.reduceLT, Int.reduceEq, Int.reduceNeg, Int.reduceAdd, Int.reduceSub, Int.reduceMul, Int.reduceToNat, Nat.reduceAdd, Nat.reduceLeDiff, Nat.reduceEqDiff, Nat.reduceLT, eq_self, ne_eq, not_false_eq_true, not_true_eq_false, a1, p2', p3', t6, t8]
    refine c_copy hR2 g2 (by decide) (fun m3 g3 f3 => ?_)
    have p2' : m3 2 2 = 6 := by rw [zFR_at f3 (by decide)]; exact p2'
    simp only [s130_55, s130_56, s130_59, s130_60, s130_63, s130_64, Int.toNat_natCast, true_and, and_true, true_or, or_true, false_or, or_false, zwr_id, zpu_some, zpu_none, reduceIte, Int.reduceLE, Int.reduceLT, Int.reduceEq, Int.reduceNeg, Int.reduceAdd, Int.reduceSub, Int.reduceMul, Int.reduceToNat, Nat.reduceAdd, Nat.reduceLeDiff, Nat.reduceEqDiff, Nat.reduceLT, eq_self, ne_eq, not_false_eq_true, not_true_eq_false, a1, p2', t6]
    refine c_pbk g3 (by omega) ?_
    simp only [s130_67, s130_70, s130_71, Int.toNat_natCast, true_and, and_true, true_or, or_true, false_or, or_false, zwr_id, zpu_some, zpu_none, reduceIte, Int.reduceLE, Int.reduceLT, Int.reduceEq, Int.reduceNeg, Int.reduceAdd, Int.reduceSub, Int.reduceMul, Int.reduceToNat, Nat.reduceAdd, Nat.reduceLeDiff, Nat.reduceEqDiff, Nat.reduceLT, eq_self, ne_eq, not_false_eq_true, not_true_eq_false, a1, t6]
    have fr3 : ∀ a, a ≠ 6 → a ≠ 7 → a ≠ 8 → a ≠ 9 → (a < 20 ∨ 29 < a) → (a < 30 ∨ 63 < a) → zup m3 6 2 ((pBk (gBare D R) (rKy (R.take C)) : Nat) : Int) a = m a := fun a q1 q2 q3 q4 q5 q6 => by rw [zup_nf q1, zFR_at f3 (by omega), f2 a q3 q4 q5, fr1 a q6]
    have hHf : zHi L m3 30 (((R, C) :: H).take 30) := zHi_eq (fun a p q => by rw [zFR_at f3 (by omega), f2 a (by omega) (by omega) (by omega)]) g1
    -- the state ahead of readAnew, over a memory in which only the draft and the scratch differ
    have ex : ∃ mb : zM, mb = fun a => if a = 8 ∨ a = 9 ∨ (20 ≤ a ∧ a ≤ 29) then m3 a else m a := ⟨_, rfl⟩
    obtain ⟨mb, emb⟩ := ex
    have mb1 : ∀ a, (a = 8 ∨ a = 9 ∨ (20 ≤ a ∧ a ≤ 29)) → mb a = m3 a := fun a ha => by rw [emb]; exact if_pos ha
    have mb2 : ∀ a, a ≠ 8 → a ≠ 9 → (a < 20 ∨ 29 < a) → mb a = m a := fun a q1 q2 q3 => by rw [emb]; exact if_neg (by omega)
    have hBb : zCB L mb T (some D) R C H sc sp := zCB_dr (fun a _ q1 q2 q3 => mb2 a q1 q2 q3) (zRL_eq (m := m3) (fun k _ => by rw [mb1 20 (by decide)]) (zRL_eq (m := m2) (fun k _ => by rw [zFR_at f3 (by decide)]) hY2.2.2.2)) (zRw_eq (m := m3) (mb1 8 (by decide)) (mb1 9 (by decide)) (zRw_eq (m := m2) (zFR_at f3 (by decide)) (zFR_at f3 (by decide)) g2)) hB
    have hOb : zCO L mb (some D) f p q sc sp := zCO_eq (mb2 2 (by decide) (by decide) (by decide)) hO
    refine c_fin hD hOb hBb (T' := T) (R' := gBare D R) (C' := pBk (gBare D R) (rKy (R.take C))) (H' := ((R, C) :: H).take 30) (ov := 0) (zTp_eq (fr3 4 (by decide) (by decide) (by decide) (by decide) (by decide) (by decide)) (fr3 5 (by decide) (by decide) (by decide) (by decide) (by decide) (by decide)) hB.1) (zRw_car g3) (zHi_eq (fun a p q => zup_nf (by omega)) hHf) (fun a q3 q4 q6 q7 q30 => ?_) (fun m' z1 z2 => ?_)
    · by_cases ha : a = 8 ∨ a = 9 ∨ (20 ≤ a ∧ a ≤ 29)
      · rw [mb1 a ha, zup_nf q6]
      · rw [mb2 a (by omega) (by omega) (by omega)]
        exact fr3 a q6 q7 (by omega) (by omega) (by omega) q30
    · have z1' := z1
      obtain ⟨sc', sp', hO', hB'⟩ := z1
      obtain ⟨ov', hR'⟩ := hB'.2.2.1
      have p2'' := hO'.2.1.2.2.1
      have b2 := rBr_len (xs := gBare D R)
      simp only [s130_74, s130_75, s130_76, s130_77, s130_78, s130_81, Int.toNat_natCast, true_and, and_true, true_or, or_true, false_or, or_false, zwr_id, zpu_some, zpu_none, reduceIte, Int.reduceLE, Int.reduceLT, Int.reduceEq, Int.reduceNeg, Int.reduceAdd, Int.reduceSub, Int.reduceMul, Int.reduceToNat, Nat.reduceAdd, Nat.reduceLeDiff, Nat.reduceEqDiff, Nat.reduceLT, eq_self, ne_eq, not_false_eq_true, not_true_eq_false, a1, p2'', t6]
      refine c_breaks hR' ?_
      simp only [s130_84, s130_85, s130_88, Int.toNat_natCast, true_and, and_true, true_or, or_true, false_or, or_false, zwr_id, zpu_some, zpu_none, reduceIte, Int.reduceLE, Int.reduceLT, Int.reduceEq, Int.reduceNeg, Int.reduceAdd, Int.reduceSub, Int.reduceMul, Int.reduceToNat, Nat.reduceAdd, Nat.reduceLeDiff, Nat.reduceEqDiff, Nat.reduceLT, eq_self, ne_eq, not_false_eq_true, not_true_eq_false, (show zwr ((rBr R : Int) - (rBr (gBare D R) : Int)) = (rBr R : Int) - (rBr (gBare D R) : Int) from zwr_id (by omega) (by omega)), a1, x_accept a1]
      refine k _ (zCI_ans z1') (fun a ha => ?_)
      rw [zup_nf (by omega), zup_nf (by omega), z2 a ha, mb2 a (by omega) (by omega) (by omega)]
