def sWays (g : zG) (n i : Int) : Int × zG := match gD g with
  | none => gN g 1
  | some D => if (0 ≤ n ∧ n ≤ 8) ∧ 0 ≤ i ∧ i ≤ 8 then gA g (zwl (tW D n.toNat i.toNat)) else gN g 2
def sWhole (g : zG) (n : Int) : Int × zG := match gD g with
  | none => gN g 1
  | some D => if 0 ≤ n ∧ n ≤ 8 then gA g (zwl (tB D n.toNat)) else gN g 2
theorem zCB_tl {L : zY} {m m' : zM} {T : List Int} {od : Option zD} {R : List Int} {C : Nat} {H : zHs} {sc sp : Nat} (h : ∀ a, a ≠ 2 → (a < 20 ∨ 29 < a) → (a < 64 ∨ 278 < a) → m' a = m a) (hS : zRL L m' 20) (hT : zTl L m' od) (hh : zCB L m T od R C H sc sp) : zCB L m' T od R C H sc sp := by
  obtain ⟨h1, h2, ⟨ov, h3⟩, ⟨r, c, o, h4⟩, h5, h6, h7, h8, h9, h10⟩ := hh
  exact ⟨zTp_eq (h _ (by decide) (by decide) (by decide)) (h _ (by decide) (by decide) (by decide)) h1, by rw [h 3 (by decide) (by decide) (by decide)]; exact h2, ⟨ov, zRw_eq (h _ (by decide) (by decide) (by decide)) (h _ (by decide) (by decide) (by decide)) h3⟩, ⟨r, c, o, zRw_eq (h _ (by decide) (by decide) (by decide)) (h _ (by decide) (by decide) (by decide)) h4⟩, zRC_eq (fun a p q => h a (by omega) (by omega) (by omega)) h5, hS, zHi_eq (fun a p q => h a (by omega) (by omega) (by omega)) h7, hT, h9, zScs_eq (fun a p q => h a (by omega) (by omega) (by omega)) h10⟩
theorem c_ways {L : zY} {m : zM} {Q : zQ} {g : zG} {n i : Int} (hg : gOk g) (h : zCI L m g) (k : ∀ m', zCI L m' (sWays g n i).2 → zFR 2 331 m m' → Q (some (zJ (sWays g n i).1)) L m') : zwp 151 0 [zA 2, zI n, zI i] [] L m Q := by
  have h' := h
  obtain ⟨T, od, R, C, H, f, p, q⟩ := g
  obtain ⟨sc, sp, hO, hB⟩ := h'
  have a1 := hO.1
  have p5 := hO.2.1.2.2.2.2.2.1
  have p7 := hO.2.1.2.2.2.2.2.2.2.1
  have p9 := hO.2.1.2.2.2.2.2.2.2.2.2.1
  cases od with
  | none =>
    have b11 : m 2 11 = 0 := hO.2.2.1
    simp only [s151_0, s151_1, s151_4, s151_7, s151_8, s151_9, s151_12, s151_13, Int.toNat_natCast, true_and, and_true, true_or, or_true, false_or, or_false, zwr_id, zpu_some, zpu_none, reduceIte, Int.reduceLE, Int.reduceLT, Int.reduceEq, Int.reduceNeg, Int.reduceAdd, Int.reduceSub, Int.reduceMul, Int.reduceToNat, Nat.reduceAdd, Nat.reduceLeDiff, Nat.reduceEqDiff, Nat.reduceLT, eq_self, ne_eq, not_false_eq_true, not_true_eq_false, a1, b11, x_refuse a1]
    exact k _ (zCI_ans h) zFR_ans
  | some D =>
    have b11 : m 2 11 = 1 := hO.2.2.1
    obtain ⟨hS, hSt⟩ := sc_facts hB
    have two := sc_two hB
    obtain ⟨hD, hlk, -⟩ := hg.2.1 D rfl
    have hSc := hB.2.2.2.2.2.1
    have hTl := hB.2.2.2.2.2.2.2.1
    have t64 := hTl.1.1.1
    by_cases h1 : (0 ≤ n ∧ n ≤ 8) ∧ 0 ≤ i ∧ i ≤ 8
    · have e1 : sWays (T, some D, R, C, H, f, p, q) n i = gA (T, some D, R, C, H, f, p, q) (zwl (tW D n.toNat i.toNat)) := if_pos h1
      rw [e1] at k
      obtain ⟨j, rfl⟩ : ∃ j : Nat, n = (j : Int) := ⟨n.toNat, by omega⟩
      obtain ⟨b, rfl⟩ : ∃ b : Nat, i = (b : Int) := ⟨i.toNat, by omega⟩
      rw [Int.toNat_natCast, Int.toNat_natCast] at k
      have n1 : ¬ (j : Int) < 0 := by omega
      have n2 : ¬ 8 < (j : Int) := by omega
      have n3 : ¬ (b : Int) < 0 := by omega
      have n4 : (b : Int) ≤ 8 := by omega
      simp only [s151_0, s151_1, s151_4, s151_7, s151_8, s151_9, s151_12, s151_13, s151_14, s151_15, s151_18, s151_19, s151_21, s151_24, s151_25, s151_28, s151_29, s151_31, s151_34, s151_35, s151_36, s151_39, s151_40, s151_41, s151_42, s151_45, s151_46, s151_49, s151_50, s151_53, Int.toNat_natCast, true_and, and_true, true_or, or_true, false_or, or_false, zwr_id, zpu_some, zpu_none, reduceIte, Int.reduceLE, Int.reduceLT, Int.reduceEq, Int.reduceNeg, Int.reduceAdd, Int.reduceSub, Int.reduceMul, Int.reduceToNat, Nat.reduceAdd, Nat.reduceLeDiff, Nat.reduceEqDiff, Nat.reduceLT, eq_self, ne_eq, not_false_eq_true, not_true_eq_false, a1, b11, n1, n2, n3, n4, p5, p7, p9, t64]
      refine c_prep hD hlk (by omega) hS hSt hSc hTl (fun m1 g1 g2 g3 g4 f1 => ?_)
      have e2 : m1 2 = m 2 := f1 2 (by decide) (by decide)
      have p7' : ∀ v : Int, zup (zup m1 2 14 0) 2 13 v 2 7 = 64 := fun v => by rw [zup_nk (by decide), zup_nk (by decide), e2]; exact p7
      have u : ∀ a, a ≠ 2 → zup (zup m1 2 14 0) 2 13 (-1) a = m1 a := fun a ha => by rw [zup_nf ha, zup_nf ha]
      have b5 : zup (zup m1 2 14 0) 2 13 (-1) 64 5 = ((268 : Nat) : Int) := by rw [u 64 (by decide)]; exact g1.2.2.2.2.2.2.1
      obtain ⟨v1, v2, v3⟩ := g1.2.2.2.2.1 j (by omega)
      have v1' : zup (zup m1 2 14 0) 2 13 (-1) 268 j = ((269 + j : Nat) : Int) := by rw [u 268 (by decide)]; exact v1
      have v4 : zup (zup m1 2 14 0) 2 13 (-1) (269 + j) b = zwl (tW D j b) := by rw [u _ (by omega)]; exact (g3 j (by omega)).1 b (by omega)
      have t8 : zt L 268 = 23 ∧ zn L 268 = 9 := ⟨g1.1.2.2.2.2.2.2.2.2.2.2.2.1, g1.1.2.2.2.2.2.2.2.2.2.2.2.2.1⟩
      have hj9 : 0 ≤ (j : Int) ∧ (j : Int) < ((9 : Nat) : Int) := by omega
      have hb9 : 0 ≤ (b : Int) ∧ (b : Int) < ((9 : Nat) : Int) := by omega
      have m1' : ¬ 9 ≤ (j : Int) := by omega
      have m2' : ¬ 9 ≤ (b : Int) := by omega
      simp only [s151_56, s151_57, s151_58, s151_61, s151_62, s151_63, s151_66, s151_67, s151_68, s151_71, s90_0, s90_1, s90_4, s90_5, s90_7, s90_10, s90_11, s90_14, s90_15, s90_17, s90_20, s90_21, s90_24, s90_25, s90_26, s90_27, s90_30, s90_31, s90_34, s90_35, s90_36, s90_37, s90_38, s90_41, s90_44, Int.toNat_natCast, Int.reduceToNat, true_and, and_true, true_or, or_true, zpu_some, zpu_none, reduceIte, Int.reduceEq, Nat.reduceLeDiff, and_self, a1, x_accept a1, p7', t64, b5, v1', v4, v2, v3, t8.1, t8.2, hj9, hb9, n1, n3, m1', m2']
      exact k _ ⟨sc, sp, zCO_ans (zCO_eq e2 hO), zCB_ans (zCB_tl (fun a _ y1 y2 => f1 a y1 y2) g4 ⟨g1, Or.inr ⟨g2, D, rfl, g3⟩⟩ hB)⟩ (fun a ha => by rw [u a (by omega)]; exact f1 a (by omega) (by omega))
    · have e1 : sWays (T, some D, R, C, H, f, p, q) n i = gN (T, some D, R, C, H, f, p, q) 2 := if_neg h1
      rw [e1] at k
      have fin := k _ (zCI_ans h) zFR_ans
      by_cases n1 : n < 0
      · simp only [s151_0, s151_1, s151_4, s151_7, s151_8, s151_9, s151_12, s151_13, s151_14, s151_15, s151_18, s151_19, s151_21, s151_24, s151_25, s151_28, s151_29, s151_31, s151_34, s151_35, s151_36, s151_39, s151_40, s151_41, Int.toNat_natCast, true_and, and_true, true_or, or_true, false_or, or_false, zwr_id, zpu_some, zpu_none, reduceIte, Int.reduceLE, Int.reduceLT, Int.reduceEq, Int.reduceNeg, Int.reduceAdd, Int.reduceSub, Int.reduceMul, Int.reduceToNat, Nat.reduceAdd, Nat.reduceLeDiff, Nat.reduceEqDiff, Nat.reduceLT, eq_self, ne_eq, not_false_eq_true, not_true_eq_false, a1, b11, n1, x_refuse a1]
        exact fin
      · by_cases n2 : 8 < n
        · simp only [s151_0, s151_1, s151_4, s151_7, s151_8, s151_9, s151_12, s151_13, s151_14, s151_15, s151_18, s151_19, s151_21, s151_24, s151_25, s151_28, s151_29, s151_31, s151_34, s151_35, s151_36, s151_39, s151_40, s151_41, Int.toNat_natCast, true_and, and_true, true_or, or_true, false_or, or_false, zwr_id, zpu_some, zpu_none, reduceIte, Int.reduceLE, Int.reduceLT, Int.reduceEq, Int.reduceNeg, Int.reduceAdd, Int.reduceSub, Int.reduceMul, Int.reduceToNat, Nat.reduceAdd, Nat.reduceLeDiff, Nat.reduceEqDiff, Nat.reduceLT, eq_self, ne_eq, not_false_eq_true, not_true_eq_false, a1, b11, n1, n2, x_refuse a1]
          exact fin
        · by_cases n3 : i < 0
          · simp only [s151_0, s151_1, s151_4, s151_7, s151_8, s151_9, s151_12, s151_13, s151_14, s151_15, s151_18, s151_19, s151_21, s151_24, s151_25, s151_28, s151_29, s151_31, s151_34, s151_35, s151_36, s151_39, s151_40, s151_41, Int.toNat_natCast, true_and, and_true, true_or, or_true, false_or, or_false, zwr_id, zpu_some, zpu_none, reduceIte, Int.reduceLE, Int.reduceLT, Int.reduceEq, Int.reduceNeg, Int.reduceAdd, Int.reduceSub, Int.reduceMul, Int.reduceToNat, Nat.reduceAdd, Nat.reduceLeDiff, Nat.reduceEqDiff, Nat.reduceLT, eq_self, ne_eq, not_false_eq_true, not_true_eq_false, a1, b11, n1, n2, n3, x_refuse a1]
            exact fin
          · have n4 : ¬ i ≤ 8 := by omega
            simp only [s151_0, s151_1, s151_4, s151_7, s151_8, s151_9, s151_12, s151_13, s151_14, s151_15, s151_18, s151_19, s151_21, s151_24, s151_25, s151_28, s151_29, s151_31, s151_34, s151_35, s151_36, s151_39, s151_40, s151_41, Int.toNat_natCast, true_and, and_true, true_or, or_true, false_or, or_false, zwr_id, zpu_some, zpu_none, reduceIte, Int.reduceLE, Int.reduceLT, Int.reduceEq, Int.reduceNeg, Int.reduceAdd, Int.reduceSub, Int.reduceMul, Int.reduceToNat, Nat.reduceAdd, Nat.reduceLeDiff, Nat.reduceEqDiff, Nat.reduceLT, eq_self, ne_eq, not_false_eq_true, not_true_eq_false, a1, b11, n1, n2, n3, n4, x_refuse a1]
            exact fin
theorem c_whole {L : zY} {m : zM} {Q : zQ} {g : zG} {n : Int} (hg : gOk g) (h : zCI L m g) (k : ∀ m', zCI L m' (sWhole g n).2 → zFR 2 331 m m' → Q (some (zJ (sWhole g n).1)) L m') : zwp 152 0 [zA 2, zI n] [] L m Q := by
  have h' := h
  obtain ⟨T, od, R, C, H, f, p, q⟩ := g
  obtain ⟨sc, sp, hO, hB⟩ := h'
  have a1 := hO.1
  have p5 := hO.2.1.2.2.2.2.2.1
  have p7 := hO.2.1.2.2.2.2.2.2.2.1
  have p9 := hO.2.1.2.2.2.2.2.2.2.2.2.1
  cases od with
  | none =>
    have b11 : m 2 11 = 0 := hO.2.2.1
    simp only [s152_0, s152_1, s152_4, s152_7, s152_8, s152_9, s152_12, s152_13, Int.toNat_natCast, true_and, and_true, true_or, or_true, false_or, or_false, zwr_id, zpu_some, zpu_none, reduceIte, Int.reduceLE, Int.reduceLT, Int.reduceEq, Int.reduceNeg, Int.reduceAdd, Int.reduceSub, Int.reduceMul, Int.reduceToNat, Nat.reduceAdd, Nat.reduceLeDiff, Nat.reduceEqDiff, Nat.reduceLT, eq_self, ne_eq, not_false_eq_true, not_true_eq_false, a1, b11, x_refuse a1]
    exact k _ (zCI_ans h) zFR_ans
  | some D =>
    have b11 : m 2 11 = 1 := hO.2.2.1
    obtain ⟨hS, hSt⟩ := sc_facts hB
    have two := sc_two hB
    obtain ⟨hD, hlk, -⟩ := hg.2.1 D rfl
    have hSc := hB.2.2.2.2.2.1
    have hTl := hB.2.2.2.2.2.2.2.1
    have t64 := hTl.1.1.1
    by_cases h1 : 0 ≤ n ∧ n ≤ 8
    · have e1 : sWhole (T, some D, R, C, H, f, p, q) n = gA (T, some D, R, C, H, f, p, q) (zwl (tB D n.toNat)) := if_pos h1
      rw [e1] at k
      obtain ⟨j, rfl⟩ : ∃ j : Nat, n = (j : Int) := ⟨n.toNat, by omega⟩
      rw [Int.toNat_natCast] at k
      have n1 : ¬ (j : Int) < 0 := by omega
      have n2 : (j : Int) ≤ 8 := by omega
      simp only [s152_0, s152_1, s152_4, s152_7, s152_8, s152_9, s152_12, s152_13, s152_14, s152_15, s152_18, s152_19, s152_21, s152_24, s152_25, s152_26, s152_29, s152_30, s152_31, s152_32, s152_35, s152_36, s152_39, s152_40, s152_43, Int.toNat_natCast, true_and, and_true, true_or, or_true, false_or, or_false, zwr_id, zpu_some, zpu_none, reduceIte, Int.reduceLE, Int.reduceLT, Int.reduceEq, Int.reduceNeg, Int.reduceAdd, Int.reduceSub, Int.reduceMul, Int.reduceToNat, Nat.reduceAdd, Nat.reduceLeDiff, Nat.reduceEqDiff, Nat.reduceLT, eq_self, ne_eq, not_false_eq_true, not_true_eq_false, a1, b11, n1, n2, p5, p7, p9, t64]
      refine c_prep hD hlk (by omega) hS hSt hSc hTl (fun m1 g1 g2 g3 g4 f1 => ?_)
      have e2 : m1 2 = m 2 := f1 2 (by decide) (by decide)
      have p7' : ∀ v : Int, zup (zup m1 2 14 0) 2 13 v 2 7 = 64 := fun v => by rw [zup_nk (by decide), zup_nk (by decide), e2]; exact p7
      have u : ∀ a, a ≠ 2 → zup (zup m1 2 14 0) 2 13 (-1) a = m1 a := fun a ha => by rw [zup_nf ha, zup_nf ha]
      have b6 : zup (zup m1 2 14 0) 2 13 (-1) 64 6 = ((278 : Nat) : Int) := by rw [u 64 (by decide)]; exact g1.2.2.2.2.2.2.2.1
      have v4 : zup (zup m1 2 14 0) 2 13 (-1) 278 j = zwl (tB D j) := by rw [u _ (by decide)]; exact (g3 j (by omega)).2
      have t8 : zt L 278 = 21 ∧ zn L 278 = 9 := g1.1.2.2.2.2.2.2.2.2.2.2.2.2.2
      have hj9 : 0 ≤ (j : Int) ∧ (j : Int) < ((9 : Nat) : Int) := by omega
      have m1' : ¬ 9 ≤ (j : Int) := by omega
      simp only [s152_46, s152_47, s152_48, s152_51, s152_52, s152_53, s152_56, s152_57, s152_60, s91_0, s91_1, s91_4, s91_5, s91_7, s91_10, s91_11, s91_14, s91_15, s91_16, s91_19, s91_22, Int.toNat_natCast, Int.reduceToNat, true_and, and_true, true_or, or_true, zpu_some, zpu_none, reduceIte, Int.reduceEq, Nat.reduceLeDiff, and_self, a1, x_accept a1, p7', t64, b6, v4, t8.1, t8.2, hj9, n1, m1']
      exact k _ ⟨sc, sp, zCO_ans (zCO_eq e2 hO), zCB_ans (zCB_tl (fun a _ y1 y2 => f1 a y1 y2) g4 ⟨g1, Or.inr ⟨g2, D, rfl, g3⟩⟩ hB)⟩ (fun a ha => by rw [u a (by omega)]; exact f1 a (by omega) (by omega))
    · have e1 : sWhole (T, some D, R, C, H, f, p, q) n = gN (T, some D, R, C, H, f, p, q) 2 := if_neg h1
      rw [e1] at k
      have fin := k _ (zCI_ans h) zFR_ans
      by_cases n1 : n < 0
      · simp only [s152_0, s152_1, s152_4, s152_7, s152_8, s152_9, s152_12, s152_13, s152_14, s152_15, s152_18, s152_19, s152_21, s152_24, s152_25, s152_26, s152_29, s152_30, Int.toNat_natCast, true_and, and_true, true_or, or_true, false_or, or_false, zwr_id, zpu_some, zpu_none, reduceIte, Int.reduceLE, Int.reduceLT, Int.reduceEq, Int.reduceNeg, Int.reduceAdd, Int.reduceSub, Int.reduceMul, Int.reduceToNat, Nat.reduceAdd, Nat.reduceLeDiff, Nat.reduceEqDiff, Nat.reduceLT, eq_self, ne_eq, not_false_eq_true, not_true_eq_false, a1, b11, n1, x_refuse a1]
        exact fin
      · have n2 : ¬ n ≤ 8 := by omega
        simp only [s152_0, s152_1, s152_4, s152_7, s152_8, s152_9, s152_12, s152_13, s152_14, s152_15, s152_18, s152_19, s152_21, s152_24, s152_25, s152_26, s152_29, s152_30, Int.toNat_natCast, true_and, and_true, true_or, or_true, false_or, or_false, zwr_id, zpu_some, zpu_none, reduceIte, Int.reduceLE, Int.reduceLT, Int.reduceEq, Int.reduceNeg, Int.reduceAdd, Int.reduceSub, Int.reduceMul, Int.reduceToNat, Nat.reduceAdd, Nat.reduceLeDiff, Nat.reduceEqDiff, Nat.reduceLT, eq_self, ne_eq, not_false_eq_true, not_true_eq_false, a1, b11, n1, n2, x_refuse a1]
        exact fin
