theorem c_dBlocks {L : zY} {m : zM} {Q : zQ} {D : zD} {T R W : List Int} {C sc h : Nat} {c ov : Int} (hlk : dLacks D = false) (hC : C ≤ R.length) (hZ : zCZ L m D R C T sc) (hW : zRw L m 8 W c ov) (hn : 2 * h ≤ T.length) (hc : ∀ i, i < h → dHas D (tCode T i)) (k : ∀ m' Y, zCZ L m' D R C T sc → zRo L m' 8 Y → (Y = gBody D T R C h ∨ (80 < Y.length ∧ 80 < (gBody D T R C h).length)) → (∀ a, a ≠ 8 → a ≠ 9 → (a < 20 ∨ 29 < a) → m' a = m a) → Q none L m') : zwp 135 0 [zA 2, zI ((2 * h : Nat) : Int), zU, zU] [] L m Q := by
  have a1 := hZ.1.2.1
  have p3 := hZ.2.2.1
  have t8 := hW.1
  obtain ⟨ov6, hR⟩ := hZ.2.2.2.2.2
  have t6 := hR.1
  simp only [s135_0, s135_1, s135_4, Int.toNat_natCast, true_and, and_true, true_or, or_true, false_or, or_false, zwr_id, zpu_some, zpu_none, reduceIte, Int.reduceLE, Int.reduceLT, Int.reduceEq, Int.reduceNeg, Int.reduceAdd, Int.reduceSub, Int.reduceMul, Int.reduceToNat, Nat.reduceAdd, Nat.reduceLeDiff, Nat.reduceEqDiff, Nat.reduceLT, eq_self, ne_eq, not_false_eq_true, not_true_eq_false, a1, p3, t8]
  refine c_Rclear hW (fun m1 g1 f1 => ?_)
  have hZ1 := zCZ_8 f1 hZ
  have p2 := hZ1.1.2.2.1.1
  have c6 : m1 6 2 = (C : Int) := by rw [zFR_at f1 (by decide)]; exact hR.2.2.2.2.2.2.2.1
  have main : ∀ m2, zCZ L m2 D R C T sc → zRo L m2 8 (gPre C) → (∀ a, a ≠ 8 → a ≠ 9 → (a < 20 ∨ 29 < a) → m2 a = m a) → zwp 135 26 [zA 2, zI ((2 * h : Nat) : Int), zU, zU] [] L m2 Q := by
    intro m2 hZ2 g2 f2
    simp only [s135_26, s135_27]
    refine c_dBl (Y0 := []) hlk hZ2 g2 hn hc (fun m3 v l2 l3 hZ3 hv hvv g3 f3 => ?_)
    have p2' := hZ3.1.2.2.1.1
    have p3' := hZ3.2.2.1
    have c6 : m3 6 2 = (C : Int) := by rw [f3 6 (by decide) (by decide) (by decide), f2 6 (by decide) (by decide) (by decide)]; exact hR.2.2.2.2.2.2.2.1
    have n6 : m3 6 1 = (R.length : Int) := by rw [f3 6 (by decide) (by decide) (by decide), f2 6 (by decide) (by decide) (by decide)]; exact hR.2.2.2.2.2.1
    have f3' : ∀ a, a ≠ 8 → a ≠ 9 → (a < 20 ∨ 29 < a) → m3 a = m a := fun a y1 y2 y3 => by rw [f3 a y1 y2 y3, f2 a y1 y2 y3]
    have long : 80 < (gPre C ++ bB (zPof D) (cdl D T h) v).length → 80 < (gBody D T R C h).length := fun q => by
      have := bB_mono (P := zPof D) (l := cdl D T h) hv
      unfold gBody
      rw [List.length_append, List.length_append]
      rw [List.length_append] at q
      omega
    simp only [s135_101, s135_102, s135_105, s135_108, s135_109, s135_112, Int.toNat_natCast, true_and, and_true, true_or, or_true, false_or, or_false, zwr_id, zpu_some, zpu_none, reduceIte, Int.reduceLE, Int.reduceLT, Int.reduceEq, Int.reduceNeg, Int.reduceAdd, Int.reduceSub, Int.reduceMul, Int.reduceToNat, Nat.reduceAdd, Nat.reduceLeDiff, Nat.reduceEqDiff, Nat.reduceLT, eq_self, ne_eq, not_false_eq_true, not_true_eq_false, a1, p2', t6, c6, n6]
    simp only [s135_115]
    by_cases hC2 : C < R.length
    · rw [if_neg (by omega)]
      simp only [s135_118, s135_119, s135_122, s135_124, Int.toNat_natCast, true_and, and_true, true_or, or_true, false_or, or_false, zwr_id, zpu_some, zpu_none, reduceIte, Int.reduceLE, Int.reduceLT, Int.reduceEq, Int.reduceNeg, Int.reduceAdd, Int.reduceSub, Int.reduceMul, Int.reduceToNat, Nat.reduceAdd, Nat.reduceLeDiff, Nat.reduceEqDiff, Nat.reduceLT, eq_self, ne_eq, not_false_eq_true, not_true_eq_false, a1, p3', t8]
      refine c_RaO g3 (fun m4 g4 f4 => ?_)
      simp only [s135_127, zpu_none]
      refine k m4 _ (zCZ_8 f4 hZ3) g4 ?_ (fun a y1 y2 y3 => by rw [zFR_at f4 (by omega)]; exact f3' a y1 y2 y3)
      rcases hvv with e | e
      · left
        unfold gBody gSuf
        rw [if_pos hC2, e]
      · right
        refine ⟨?_, long e⟩
        rw [List.length_append]
        omega
    · rw [if_pos (by omega)]
      simp only [s135_127]
      refine k m3 _ hZ3 g3 ?_ f3'
      rcases hvv with e | e
      · left
        unfold gBody gSuf
        rw [if_neg hC2, e, List.append_nil]
      · exact Or.inr ⟨e, long e⟩
  have f1' : ∀ a, a ≠ 8 → a ≠ 9 → (a < 20 ∨ 29 < a) → m1 a = m a := fun a y1 y2 _ => zFR_at f1 (by omega)
  simp only [s135_7, s135_8, s135_11, Int.toNat_natCast, true_and, and_true, true_or, or_true, false_or, or_false, zwr_id, zpu_some, zpu_none, reduceIte, Int.reduceLE, Int.reduceLT, Int.reduceEq, Int.reduceNeg, Int.reduceAdd, Int.reduceSub, Int.reduceMul, Int.reduceToNat, Nat.reduceAdd, Nat.reduceLeDiff, Nat.reduceEqDiff, Nat.reduceLT, eq_self, ne_eq, not_false_eq_true, not_true_eq_false, a1, p2, t6, c6]
  simp only [s135_14]
  by_cases h0 : 0 < C
  · rw [if_neg (by omega)]
    have p3' := hZ1.2.2.1
    simp only [s135_17, s135_18, s135_21, s135_23, Int.toNat_natCast, true_and, and_true, true_or, or_true, false_or, or_false, zwr_id, zpu_some, zpu_none, reduceIte, Int.reduceLE, Int.reduceLT, Int.reduceEq, Int.reduceNeg, Int.reduceAdd, Int.reduceSub, Int.reduceMul, Int.reduceToNat, Nat.reduceAdd, Nat.reduceLeDiff, Nat.reduceEqDiff, Nat.reduceLT, eq_self, ne_eq, not_false_eq_true, not_true_eq_false, a1, p3', t8]
    refine c_RaO (Y := []) g1 (fun m2 g2 f2 => ?_)
    simp only [zpu_none]
    refine main m2 (zCZ_8 f2 hZ1) ?_ (fun a y1 y2 y3 => by rw [zFR_at f2 (by omega)]; exact f1' a y1 y2 y3)
    unfold gPre
    rw [if_pos h0]
    exact g2
  · rw [if_pos (by omega)]
    refine main m1 hZ1 ?_ f1'
    unfold gPre
    rw [if_neg h0]
    exact g1
def sCodes (g : zG) (n : Int) : Int × zG := match gD g with
  | none => gN g 1
  | some D => if (0 ≤ n ∧ n ≤ ((gT g).length : Int)) ∧ n ≠ 0 ∧ n.toNat % 2 = 0 then (if fC (fun i => dHb D (tCode (gT g) i)) (n.toNat / 2) 0 = n.toNat / 2 then (if 80 < (gR g).length + (gBody D (gT g) (gR g) (gC g) (n.toNat / 2)).length then gNT g 3 else gAct D g [] (gIns (gBody D (gT g) (gR g) (gC g) (n.toNat / 2)) (gR g) (gC g)) (gC g + (gBody D (gT g) (gR g) (gC g) (n.toNat / 2)).length)) else gNT g 5) else gN g 2
theorem zand1 : ∀ n : Nat, n < 301 → zand (n : Int) 1 = ((n % 2 : Nat) : Int) := by decide +kernel
theorem zCI_rT2 {L : zY} {m m1 : zM} {g : zG} {why : Int} (h : zCI L m1 g) (hf : ∀ a, (a < 2 ∨ 331 < a) → m1 a = m a) (k : ∀ m', zCI L m' (gNT g why).2 → zFR 2 331 m m' → True) : zFR 2 331 m (zup (zup (zup m1 4 1 0) 2 14 why) 2 13 (-1)) := fun a ha => by
  rw [zup_nf (by omega), zup_nf (by omega), zup_nf (by omega)]; exact hf a ha
theorem c_codes {L : zY} {m : zM} {Q : zQ} {g : zG} {n : Int} (hg : gOk g) (h : zCI L m g) (k : ∀ m', zCI L m' (sCodes g n).2 → zFR 2 331 m m' → Q (some (zI (sCodes g n).1)) L m') : zwp 133 0 [zA 2, zI n, zU, zU] [] L m Q := by
  have h' := h
  obtain ⟨T, od, R, C, H, f, p, q⟩ := g
  obtain ⟨sc, sp, hO, hB⟩ := h'
  have a1 := hO.1
  have p0 := hO.2.1.1
  have p9 := hO.2.1.2.2.2.2.2.2.2.2.2.1
  have hT := hB.1
  have t3 := hT.1
  have hT3 := hT.2.2.2.2.2.2.1
  cases od with
  | none =>
    have b11 : m 2 11 = 0 := hO.2.2.1
    simp only [s133_0, s133_1, s133_4, s133_7, s133_8, s133_9, s133_12, Int.toNat_natCast, true_and, and_true, true_or, or_true, false_or, or_false, zwr_id, zpu_some, zpu_none, reduceIte, Int.reduceLE, Int.reduceLT, Int.reduceEq, Int.reduceNeg, Int.reduceAdd, Int.reduceSub, Int.reduceMul, Int.reduceToNat, Nat.reduceAdd, Nat.reduceLeDiff, Nat.reduceEqDiff, Nat.reduceLT, eq_self, ne_eq, not_false_eq_true, not_true_eq_false, a1, b11, x_refuse a1]
    exact k _ (zCI_ans h) zFR_ans
  | some D =>
    have b11 : m 2 11 = 1 := hO.2.2.1
    obtain ⟨hS, hSt⟩ := sc_facts hB
    obtain ⟨ov, hR⟩ := hB.2.2.1
    obtain ⟨hD, hlk, hV, -⟩ := hg.2.1 D rfl
    have hC := hg.2.2.2.2.1
    have hRl := hR.2.2.2.2.2.2.1
    have bad : ¬ ((0 ≤ n ∧ n ≤ (T.length : Int)) ∧ n ≠ 0 ∧ n.toNat % 2 = 0) → Q (some (zI (-1))) L (zup (zup m 2 14 2) 2 13 (-1)) := fun hn => by
      have e1 : sCodes (T, some D, R, C, H, f, p, q) n = gN (T, some D, R, C, H, f, p, q) 2 := if_neg hn
      rw [e1] at k
      exact k _ (zCI_ans h) zFR_ans
    by_cases h1 : 0 ≤ n ∧ n ≤ (T.length : Int)
    · obtain ⟨j, rfl⟩ : ∃ j : Nat, n = (j : Int) := ⟨n.toNat, by omega⟩
      by_cases h0 : j = 0
      · subst h0
        simp only [s133_0, s133_1, s133_4, s133_7, s133_8, s133_9, s133_12, s133_13, s133_14, s133_17, s133_18, s133_21, s133_24, s133_25, s133_28, s133_29, s133_30, s133_31, s133_34, s133_35, s133_36, s133_39, Int.toNat_natCast, true_and, and_true, true_or, or_true, false_or, or_false, zwr_id, zpu_some, zpu_none, reduceIte, Int.reduceLE, Int.reduceLT, Int.reduceEq, Int.reduceNeg, Int.reduceAdd, Int.reduceSub, Int.reduceMul, Int.reduceToNat, Nat.reduceAdd, Nat.reduceLeDiff, Nat.reduceEqDiff, Nat.reduceLT, eq_self, ne_eq, not_false_eq_true, not_true_eq_false, Int.cast_ofNat_Int, a1, b11, p0, t3, x_reach hT, show (0 : Int) ≤ 0 ∧ (0 : Int) ≤ (T.length : Int) from h1, and_self, x_refuse a1]
        exact bad (fun q => q.2.1 rfl)
      · have n0 : ¬ (j : Int) = 0 := by omega
        have za := zand1 j (by omega)
        by_cases h2 : j % 2 = 0
        · rw [h2] at za
          have za : zand (j : Int) 1 = 0 := za
          obtain ⟨hh, rfl⟩ : ∃ hh, j = 2 * hh := ⟨j / 2, by omega⟩
          have e2 : 2 * hh / 2 = hh := by omega
          simp only [s133_0, s133_1, s133_4, s133_7, s133_8, s133_9, s133_12, s133_13, s133_14, s133_17, s133_18, s133_21, s133_24, s133_25, s133_28, s133_29, s133_30, s133_31, s133_34, s133_35, s133_36, s133_39, s133_40, s133_41, s133_42, Int.toNat_natCast, true_and, and_true, true_or, or_true, false_or, or_false, zwr_id, zpu_some, zpu_none, reduceIte, Int.reduceLE, Int.reduceLT, Int.reduceEq, Int.reduceNeg, Int.reduceAdd, Int.reduceSub, Int.reduceMul, Int.reduceToNat, Nat.reduceAdd, Nat.reduceLeDiff, Nat.reduceEqDiff, Nat.reduceLT, eq_self, ne_eq, not_false_eq_true, not_true_eq_false, a1, b11, p0, t3, x_reach hT, h1, and_self, n0, za]
          refine c_tCodes a1 p0 p9 hD hlk hS hSt hT (by omega) ?_
          by_cases h3 : fC (fun i => dHb D (tCode T i)) hh 0 = hh
          · have hc : ∀ i, i < hh → dHas D (tCode T i) := fun i hi => by
              have q : decide (0 ≤ tCode T i ∧ tCode T i < ((dnL D * dnM D * dnE D : Nat) : Int)) = true := (fC_all.mp h3) i hi
              have q2 : 0 ≤ tCode T i ∧ tCode T i < ((dnL D * dnM D * dnE D : Nat) : Int) := of_decide_eq_true q
              exact q2
            have es : sCodes (T, some D, R, C, H, f, p, q) ((2 * hh : Nat) : Int) = (if 80 < R.length + (gBody D T R C hh).length then gNT (T, some D, R, C, H, f, p, q) 3 else gAct D (T, some D, R, C, H, f, p, q) [] (gIns (gBody D T R C hh) R C) (C + (gBody D T R C hh).length)) := by
              show (if (0 ≤ ((2 * hh : Nat) : Int) ∧ ((2 * hh : Nat) : Int) ≤ (T.length : Int)) ∧ ((2 * hh : Nat) : Int) ≠ 0 ∧ ((2 * hh : Nat) : Int).toNat % 2 = 0 then (if fC (fun i => dHb D (tCode T i)) (((2 * hh : Nat) : Int).toNat / 2) 0 = ((2 * hh : Nat) : Int).toNat / 2 then (if 80 < R.length + (gBody D T R C (((2 * hh : Nat) : Int).toNat / 2)).length then _ else gAct D _ [] (gIns (gBody D T R C (((2 * hh : Nat) : Int).toNat / 2)) R C) (C + (gBody D T R C (((2 * hh : Nat) : Int).toNat / 2)).length)) else _) else _) = _
              rw [Int.toNat_natCast, e2, if_pos ⟨h1, n0, h2⟩, if_pos h3]
            rw [es] at k
            clear es
            rw [if_pos h3]
            obtain ⟨W, cw, ow, hW⟩ := hB.2.2.2.1
            have t8 := hW.1
            have t6 := hR.1
            simp only [s133_45, s133_48, s133_49, s133_52, s133_53, s133_54, s133_55, s133_58, s133_59, s133_60, Int.toNat_natCast, true_and, and_true, true_or, or_true, false_or, or_false, zwr_id, zpu_some, zpu_none, reduceIte, Int.reduceLE, Int.reduceLT, Int.reduceEq, Int.reduceNeg, Int.reduceAdd, Int.reduceSub, Int.reduceMul, Int.reduceToNat, Nat.reduceAdd, Nat.reduceLeDiff, Nat.reduceEqDiff, Nat.reduceLT, eq_self, ne_eq, not_false_eq_true, not_true_eq_false, a1]
            have hZ : zCZ L m D R C T sc := ⟨zCX_of hD hO hB, p0, hO.2.1.2.2.2.1, hT, hB.2.2.2.2.2.1, ⟨ov, hR⟩⟩
            refine c_dBlocks hlk hC hZ hW (by omega) hc (fun m1 Y hZ1 g1 hY f1 => ?_)
            have hO1 : zCO L m1 (some D) f p q sc sp := zCO_eq (f1 2 (by decide) (by decide) (by decide)) hO
            have hB1 : zCB L m1 T (some D) R C H sc sp := zCB_dr (fun a _ y1 y2 y3 => f1 a y1 y2 y3) hZ1.2.2.2.2.1 g1 hB
            have hI1 : zCI L m1 (T, some D, R, C, H, f, p, q) := ⟨sc, sp, hO1, hB1⟩
            obtain ⟨ov1, hR1⟩ := hB1.2.2.1
            have p3 := hO1.2.1.2.2.2.1
            have p2 := hO1.2.1.2.2.1
            have p0' := hO1.2.1.1
            have p6 := hO1.2.1.2.2.2.2.2.2.1
            have n6 := hR1.2.2.2.2.2.1
            have n8 : m1 8 1 = ((Y.take 80).length : Int) := g1.2.2.2.2.2.1
            have o8 : m1 8 3 = ovf Y := g1.2.2.2.2.2.2.2.2.1
            have fr1 : zFR 2 331 m m1 := fun a ha => f1 a (by omega) (by omega) (by omega)
            have l8 : (Y.take 80).length = min 80 Y.length := List.length_take
            have ref3 : 80 < R.length + (gBody D T R C hh).length → zwp 133 95 [zA 2, zI ((2 * hh : Nat) : Int), zI 3, zU] [] L m1 Q := by
              intro hb
              rw [if_pos hb] at k
              simp only [s133_95, s133_96, s133_99, s133_102, s133_103, s133_106, s133_107, s133_108, s133_111, s103_0, s103_1, s103_2, s103_5, Int.toNat_natCast, true_and, and_true, true_or, or_true, false_or, or_false, zwr_id, zpu_some, zpu_none, reduceIte, Int.reduceLE, Int.reduceLT, Int.reduceEq, Int.reduceNeg, Int.reduceAdd, Int.reduceSub, Int.reduceMul, Int.reduceToNat, Nat.reduceAdd, Nat.reduceLeDiff, Nat.reduceEqDiff, Nat.reduceLT, eq_self, ne_eq, not_false_eq_true, not_true_eq_false, a1, p0', t3, x_refuse a1]
              exact k _ (zCI_rT hI1) (zFR_tr fr1 zFR_rT)
            by_cases hov : 80 < Y.length
            · have hb : 80 < R.length + (gBody D T R C hh).length := by
                rcases hY with e | e
                · rw [← e]; omega
                · omega
              have o1 : m1 8 3 = 1 := by rw [o8]; exact if_pos hov
              simp only [s133_63, s133_64, s133_67, s133_70, s133_73, s133_74, s133_77, s133_80, s133_81, s133_84, s133_87, s133_88, s133_90, s133_93, s133_94, Int.toNat_natCast, true_and, and_true, true_or, or_true, false_or, or_false, zwr_id, zpu_some, zpu_none, reduceIte, Int.reduceLE, Int.reduceLT, Int.reduceEq, Int.reduceNeg, Int.reduceAdd, Int.reduceSub, Int.reduceMul, Int.reduceToNat, Nat.reduceAdd, Nat.reduceLeDiff, Nat.reduceEqDiff, Nat.reduceLT, eq_self, ne_eq, not_false_eq_true, not_true_eq_false, a1, p3, t8, o1]
              exact ref3 hb
            · have eY : Y = gBody D T R C hh := by
                rcases hY with e | e
                · exact e
                · omega
              subst eY
              have o0 : m1 8 3 = 0 := by rw [o8]; exact if_neg hov
              have eT : (gBody D T R C hh).take 80 = gBody D T R C hh := List.take_of_length_le (by omega)
              have g1' : zRw L m1 8 (gBody D T R C hh) 0 (ovf (gBody D T R C hh)) := by
                have := g1
                unfold zRo at this
                rw [eT] at this
                exact this
              have n8 : m1 8 1 = ((gBody D T R C hh).length : Int) := g1'.2.2.2.2.2.1
              simp only [s133_63, s133_64, s133_67, s133_70, s133_73, s133_74, s133_77, s133_80, s133_81, s133_84, s133_87, s133_88, Int.toNat_natCast, true_and, and_true, true_or, or_true, false_or, or_false, zwr_id, zpu_some, zpu_none, reduceIte, Int.reduceLE, Int.reduceLT, Int.reduceEq, Int.reduceNeg, Int.reduceAdd, Int.reduceSub, Int.reduceMul, Int.reduceToNat, Nat.reduceAdd, Nat.reduceLeDiff, Nat.reduceEqDiff, Nat.reduceLT, eq_self, ne_eq, not_false_eq_true, not_true_eq_false, a1, p2, p3, t6, t8, o0, n6, n8, (show zwr ((R.length : Int) + ((gBody D T R C hh).length : Int)) = ((R.length + (gBody D T R C hh).length : Nat) : Int) by rw [zwr_id (by omega) (by omega)]; omega)]
              simp only [s133_90]
              by_cases hb : 80 < R.length + (gBody D T R C hh).length
              · rw [if_neg (by omega)]
                simp only [s133_93, s133_94]
                exact ref3 hb
              · rw [if_pos (by omega)]
                rw [if_neg hb] at k
                generalize gBody D T R C hh = B at *
                simp only [s133_95, s133_96, s133_99, Int.toNat_natCast, true_and, and_true, true_or, or_true, false_or, or_false, zwr_id, zpu_some, zpu_none, reduceIte, Int.reduceLE, Int.reduceLT, Int.reduceEq, Int.reduceNeg, Int.reduceAdd, Int.reduceSub, Int.reduceMul, Int.reduceToNat, Nat.reduceAdd, Nat.reduceLeDiff, Nat.reduceEqDiff, Nat.reduceLT, eq_self, ne_eq, not_false_eq_true, not_true_eq_false, a1, p0', t3]
                refine c_tclear hB1.1 (fun gT => ?_)
                have z2' : ∀ i, zup m1 4 1 0 2 i = m1 2 i := fun i => zup_na (by decide)
                have hH1 := hB1.2.2.2.2.2.2.1
                have t30 := hH1.1.1
                simp only [s133_102, s133_103, s133_106, s133_107, s133_108, s133_111, s133_112, s133_113, s133_116, s133_117, s133_120, Int.toNat_natCast, true_and, and_true, true_or, or_true, false_or, or_false, zwr_id, zpu_some, zpu_none, reduceIte, Int.reduceLE, Int.reduceLT, Int.reduceEq, Int.reduceNeg, Int.reduceAdd, Int.reduceSub, Int.reduceMul, Int.reduceToNat, Nat.reduceAdd, Nat.reduceLeDiff, Nat.reduceEqDiff, Nat.reduceLT, eq_self, ne_eq, not_false_eq_true, not_true_eq_false, a1, z2', p2, p6, t6, t30]
                refine c_keep (zHi_eq (fun a p q => zup_nf (by omega)) hH1) (zRw_eq (zup_nf (by decide)) (zup_nf (by decide)) hR1) (by decide) (fun m2 g2 f2 => ?_)
                simp only [s133_123, s133_124, zpu_none]
                have fr2 : ∀ a, a ≠ 4 → (a < 30 ∨ 63 < a) → m2 a = m1 a := fun a y1 y2 => by rw [zFR_at f2 y2, zup_nf y1]
                refine zfor (n := B.length) (fun i => [zA 2, zI ((2 * hh : Nat) : Int), zI 0, zI (i : Nat)]) (fun i m' => zRw L m' 6 (gIns (B.take i) R C) ((C + i : Nat) : Int) ov1 ∧ zFR 6 7 m2 m') ?_ ?_ 0 m2 (Nat.zero_le _) ⟨?_, zFR_rf⟩
                · rintro i m3 hi ⟨y1, y2⟩ ih
                  have e32 : m3 2 = m1 2 := by rw [zFR_at y2 (by decide), fr2 2 (by decide) (by decide)]
                  have p2' : m3 2 2 = 6 := by rw [e32]; exact p2
                  have p3' : m3 2 3 = 8 := by rw [e32]; exact p3
                  have h8 : zRw L m3 8 B 0 (ovf B) := zRw_eq (by rw [zFR_at y2 (by decide), fr2 8 (by decide) (by decide)]) (by rw [zFR_at y2 (by decide), fr2 9 (by decide) (by decide)]) g1'
                  have n8' := h8.2.2.2.2.2.1
                  have n4 : ¬ (B.length : Int) ≤ (i : Int) := by omega
                  have iv : i < 1000000 := by omega
                  simp only [s133_125]
                  simp only [s133_126, s133_127, s133_130, s133_133, s133_136, s133_137, s133_140, s133_141, s133_144, s133_145, s133_148, Int.toNat_natCast, true_and, and_true, true_or, or_true, false_or, or_false, zwr_id, zpu_some, zpu_none, reduceIte, Int.reduceLE, Int.reduceLT, Int.reduceEq, Int.reduceNeg, Int.reduceAdd, Int.reduceSub, Int.reduceMul, Int.reduceToNat, Nat.reduceAdd, Nat.reduceLeDiff, Nat.reduceEqDiff, Nat.reduceLT, eq_self, ne_eq, not_false_eq_true, not_true_eq_false, a1, p2', p3', t6, t8, n8', n4, x_signAt h8 hi]
                  refine c_insert y1 (by rw [gIns_len, List.length_take]; omega) (by rw [gIns_len, List.length_take]; omega) (fun m4 g4 f4 => ?_)
                  simp only [s133_151, s133_154, Int.toNat_natCast, true_and, and_true, true_or, or_true, false_or, or_false, zwr_id, zpu_some, zpu_none, reduceIte, Int.reduceLE, Int.reduceLT, Int.reduceEq, Int.reduceNeg, Int.reduceAdd, Int.reduceSub, Int.reduceMul, Int.reduceToNat, Nat.reduceAdd, Nat.reduceLeDiff, Nat.reduceEqDiff, Nat.reduceLT, eq_self, ne_eq, not_false_eq_true, not_true_eq_false, z1 iv]
                  rw [gIns_step hC hi] at g4
                  refine ih m4 ⟨?_, zFR_tr y2 f4⟩
                  have e3 : ((C + (i + 1) : Nat) : Int) = ((C + i : Nat) : Int) + 1 := by omega
                  rw [e3]
                  exact g4
                · rintro m3 ⟨y1, y2⟩
                  have e32 : m3 2 = m1 2 := by rw [zFR_at y2 (by decide), fr2 2 (by decide) (by decide)]
                  have p3' : m3 2 3 = 8 := by rw [e32]; exact p3
                  have n8' : m3 8 1 = (B.length : Int) := by rw [zFR_at y2 (by decide), fr2 8 (by decide) (by decide)]; exact n8
                  rw [List.take_length] at y1
                  simp only [s133_125]
                  simp only [s133_126, s133_127, s133_130, s133_133, s133_157, s133_158, Int.toNat_natCast, true_and, and_true, true_or, or_true, false_or, or_false, zwr_id, zpu_some, zpu_none, reduceIte, Int.reduceLE, Int.reduceLT, Int.reduceEq, Int.reduceNeg, Int.reduceAdd, Int.reduceSub, Int.reduceMul, Int.reduceToNat, Nat.reduceAdd, Nat.reduceLeDiff, Nat.reduceEqDiff, Nat.reduceLT, eq_self, ne_eq, not_false_eq_true, not_true_eq_false, a1, p3', t8, n8', show (B.length : Int) ≤ (B.length : Int) from Int.le_refl _]
                  refine c_fin hD hO1 hB1 (T' := []) (R' := gIns B R C) (C' := C + B.length) (H' := ((R, C) :: H).take 30) (ov := ov1) (zTp_eq (m := zup m1 4 1 0) (by rw [zFR_at y2 (by decide), zFR_at f2 (by decide)]) (by rw [zFR_at y2 (by decide), zFR_at f2 (by decide)]) gT) y1 (zHi_eq (fun a p q => zFR_at y2 (by omega)) g2) (fun a q3 q4 q6 q7 q30 => by rw [zFR_at y2 (by omega)]; exact fr2 a q3 q30) (fun m' z1 z2 => ?_)
                  simp only [s133_161, Int.toNat_natCast, true_and, and_true, true_or, or_true, false_or, or_false, zwr_id, zpu_some, zpu_none, reduceIte, Int.reduceLE, Int.reduceLT, Int.reduceEq, Int.reduceNeg, Int.reduceAdd, Int.reduceSub, Int.reduceMul, Int.reduceToNat, Nat.reduceAdd, Nat.reduceLeDiff, Nat.reduceEqDiff, Nat.reduceLT, eq_self, ne_eq, not_false_eq_true, not_true_eq_false]
                  exact k m' z1 (zFR_tr fr1 z2)
                · have e0 : gIns (B.take 0) R C = R := by unfold gIns; rw [List.take_zero, List.append_nil, List.take_append_drop]
                  rw [e0]
                  exact zRw_eq (fr2 6 (by decide) (by decide)) (fr2 7 (by decide) (by decide)) hR1
          · have es : sCodes (T, some D, R, C, H, f, p, q) ((2 * hh : Nat) : Int) = gNT (T, some D, R, C, H, f, p, q) 5 := by
              show (if (0 ≤ ((2 * hh : Nat) : Int) ∧ ((2 * hh : Nat) : Int) ≤ (T.length : Int)) ∧ ((2 * hh : Nat) : Int) ≠ 0 ∧ ((2 * hh : Nat) : Int).toNat % 2 = 0 then (if fC (fun i => dHb D (tCode T i)) (((2 * hh : Nat) : Int).toNat / 2) 0 = ((2 * hh : Nat) : Int).toNat / 2 then _ else _) else _) = _
              rw [Int.toNat_natCast, e2, if_pos ⟨h1, n0, h2⟩, if_neg h3]
            rw [es] at k
            rw [if_neg h3]
            simp only [s133_45, s133_48, s133_49, s133_52, s133_53, s133_54, s133_55, s133_95, s133_96, s133_99, s133_102, s133_103, s133_106, s133_107, s133_108, s133_111, s103_0, s103_1, s103_2, s103_5, Int.toNat_natCast, true_and, and_true, true_or, or_true, false_or, or_false, zwr_id, zpu_some, zpu_none, reduceIte, Int.reduceLE, Int.reduceLT, Int.reduceEq, Int.reduceNeg, Int.reduceAdd, Int.reduceSub, Int.reduceMul, Int.reduceToNat, Nat.reduceAdd, Nat.reduceLeDiff, Nat.reduceEqDiff, Nat.reduceLT, eq_self, ne_eq, not_false_eq_true, not_true_eq_false, a1, p0, t3, x_refuse a1]
            exact k _ (zCI_rT h) zFR_rT
        · have za : zand (j : Int) 1 = 1 := by rw [za]; have : j % 2 = 1 := by omega
                                               rw [this]; rfl
          simp only [s133_0, s133_1, s133_4, s133_7, s133_8, s133_9, s133_12, s133_13, s133_14, s133_17, s133_18, s133_21, s133_24, s133_25, s133_28, s133_29, s133_30, s133_31, s133_34, s133_35, s133_36, s133_39, Int.toNat_natCast, true_and, and_true, true_or, or_true, false_or, or_false, zwr_id, zpu_some, zpu_none, reduceIte, Int.reduceLE, Int.reduceLT, Int.reduceEq, Int.reduceNeg, Int.reduceAdd, Int.reduceSub, Int.reduceMul, Int.reduceToNat, Nat.reduceAdd, Nat.reduceLeDiff, Nat.reduceEqDiff, Nat.reduceLT, eq_self, ne_eq, not_false_eq_true, not_true_eq_false, a1, b11, p0, t3, x_reach hT, h1, and_self, n0, za, x_refuse a1]
          exact bad (fun q => h2 (by have := q.2.2; rw [Int.toNat_natCast] at this; exact this))
    · have c3 : (if 0 ≤ n ∧ n ≤ (T.length : Int) then (1 : Int) else 0) = 0 := if_neg h1
      simp only [s133_0, s133_1, s133_4, s133_7, s133_8, s133_9, s133_12, s133_13, s133_14, s133_17, s133_18, s133_21, s133_24, s133_25, s133_28, s133_29, s133_30, s133_31, s133_34, s133_35, s133_36, s133_39, Int.toNat_natCast, true_and, and_true, zpu_some, zpu_none, reduceIte, Int.reduceEq, Int.reduceToNat, Nat.reduceLeDiff, a1, b11, p0, t3, x_reach hT, c3, x_refuse a1]
      exact bad (fun q => h1 q.1)
