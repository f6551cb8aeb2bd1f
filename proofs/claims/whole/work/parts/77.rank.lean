def cnB (p : Nat → Bool) : Nat → Nat
  | 0 => 0
  | n + 1 => cnB p n + if p n = true then 1 else 0
theorem cnB_le {p : Nat → Bool} : ∀ n, cnB p n ≤ n := by
  intro n
  induction n with
  | zero => exact Nat.le_refl _
  | succ n ih => rw [cnB]; split <;> omega
/-- the number by which the class ranks an ITEM -/
def ordC (D : zD) (x : zIt) : Int := if itSo x = 0 then zcod D (itL x) (itM x) (itC x) else if itSo x = 1 then 65536 + itL x else if itSo x = 2 then 131072 + itM x else 196608 + itO x
def rkP (o : Nat → Int) (k j : Nat) : Bool := decide (o j < o k) || (decide (o j = o k) && decide (j < k))
def rkA (o : Nat → Int) (n k : Nat) : Nat := cnB (rkP o k) n
theorem itSo_rng {x : zIt} : itSo x = 0 ∨ itSo x = 1 ∨ itSo x = 2 ∨ itSo x = 3 := by
  unfold itSo
  repeat' split
  all_goals omega
theorem itO_rng {D : zD} {x : zIt} (h : itR D x) : itO x = -2 ∨ (97 ≤ itO x ∧ itO x < 123) := by
  have := h.2.2.2
  unfold itO
  split
  · right; omega
  · exact Or.inl rfl
theorem x_order {L : zY} {m : zM} {Q : zQ} {D : zD} {sc i : Nat} {I : List zIt} (hn : dnL D ≤ 14 ∧ dnM D ≤ 16) (a1 : zt L 2 = 10) (p4 : m 2 4 = 10) (p9 : m 2 9 = (sc : Int)) (hRL : zRL L m 10) (hI : zRI m 10 I) (hS : zSd L m sc D) (hSt : zSt L m sc D) (hi : i < I.length) (hR : itR D I[i]) : zwp 149 0 [zA 2, zI (i : Nat), zU] [] L m Q ↔ Q (some (zI (ordC D I[i]))) L m := by
  obtain ⟨y1, y2, y3, y4, y5, y6⟩ := zRI_get hI hi
  have hil := hI.2.1
  have s1 := hS.1.1
  have t10 := hRL.1
  have xs := fun (Q : zQ) => x_sort (Q := Q) hRL hI hi
  have xc := fun (Q : zQ) => x_codeA (Q := Q) hRL hI hi hS hSt
  obtain ⟨r1, r2, ⟨b0, b1, b2, b3, b4, b5, b6, b7, b8⟩, ⟨t1, t2, t3, t4, t5, t6, t7, t8, t9⟩, ⟨n1, n2, n3, n4, n5, n6, n7, n8, n9⟩⟩ := hRL
  have hlt : 0 ≤ (i : Int) ∧ (i : Int) < ((80 : Nat) : Int) := by omega
  have oR := itO_rng hR
  have hL := hR.1
  have hM := hR.2.1
  have v1 : zwr (1 * 65536) = 65536 := by decide +kernel
  have v2 : zwr (2 * 65536) = 131072 := by decide +kernel
  have v3 : zwr (3 * 65536) = 196608 := by decide +kernel
  unfold ordC
  rcases itSo_rng (x := I[i]) with e | e | e | e
  · simp only [s149_0, s149_1, s149_4, s149_5, s149_8, s149_9, s149_10, s149_36, s149_37, s149_40, s149_41, s149_44, s149_45, s149_48, s149_49, s149_50, s149_53, s149_54, s149_55, s149_58, s149_61, s149_62, s149_63, s149_64, s149_65, s149_66, s149_69, s149_70, s149_71, s149_74, s149_77, s149_78, s149_79, s149_80, s149_81, s149_82, s149_85, s149_86, s149_87, s149_90, s149_93, s149_94, s149_95, s149_96, Int.toNat_natCast, true_and, and_true, zpu_some, zpu_none, Int.reduceToNat, Nat.reduceLeDiff, reduceIte, Int.reduceEq, a1, p4, p9, t10, s1, xs, xc, e]
  · simp only [s149_0, s149_1, s149_4, s149_5, s149_8, s149_9, s149_10, s149_36, s149_37, s149_40, s149_41, s149_44, s149_45, s149_48, s149_49, s149_50, s149_53, s149_54, s149_55, s149_58, s149_61, s149_62, s149_63, s149_64, s149_65, s149_66, s149_69, s149_70, s149_71, s149_74, s149_77, s149_78, s149_79, s149_80, s149_81, s149_82, s149_85, s149_86, s149_87, s149_90, s149_93, s149_94, s149_95, s149_96, Int.toNat_natCast, true_and, and_true, zpu_some, zpu_none, Int.reduceToNat, Nat.reduceLeDiff, reduceIte, Int.reduceEq, a1, p4, t10, xs, e, b0, t1, n1, hlt, and_self, y1, v1, (show zwr (65536 + itL I[i]) = 65536 + itL I[i] from zwr_id (by omega) (by omega))]
  · simp only [s149_0, s149_1, s149_4, s149_5, s149_8, s149_9, s149_10, s149_36, s149_37, s149_40, s149_41, s149_44, s149_45, s149_48, s149_49, s149_50, s149_53, s149_54, s149_55, s149_58, s149_61, s149_62, s149_63, s149_64, s149_65, s149_66, s149_69, s149_70, s149_71, s149_74, s149_77, s149_78, s149_79, s149_80, s149_81, s149_82, s149_85, s149_86, s149_87, s149_90, s149_93, s149_94, s149_95, s149_96, Int.toNat_natCast, true_and, and_true, zpu_some, zpu_none, Int.reduceToNat, Nat.reduceLeDiff, reduceIte, Int.reduceEq, a1, p4, t10, xs, e, b1, t2, n2, hlt, and_self, y2, v2, (show zwr (131072 + itM I[i]) = 131072 + itM I[i] from zwr_id (by omega) (by omega))]
  · simp only [s149_0, s149_1, s149_4, s149_5, s149_8, s149_9, s149_10, s149_36, s149_37, s149_40, s149_41, s149_44, s149_45, s149_48, s149_49, s149_50, s149_53, s149_54, s149_55, s149_58, s149_61, s149_62, s149_63, s149_64, s149_65, s149_66, s149_69, s149_70, s149_71, s149_74, s149_77, s149_78, s149_79, s149_80, s149_81, s149_82, s149_85, s149_86, s149_87, s149_90, s149_93, s149_94, s149_95, s149_96, Int.toNat_natCast, true_and, and_true, zpu_some, zpu_none, Int.reduceToNat, Nat.reduceLeDiff, reduceIte, Int.reduceEq, a1, p4, t10, xs, e, b3, t4, n4, hlt, and_self, y4, v3, (show zwr (196608 + itO I[i]) = 196608 + itO I[i] from zwr_id (by omega) (by omega))]
theorem c_ahead {L : zY} {m : zM} {Q : zQ} {n k : Nat} {o : Nat → Int} (a1 : zt L 2 = 10) (p4 : m 2 4 = 10) (p8 : m 2 8 = 279) (t10 : zt L 10 = 4) (i0 : m 10 9 = (n : Int)) (t9 : zt L 279 = 20) (n9 : zn L 279 = 80) (hn : n ≤ 80) (hk : k < n) (ho : ∀ j, j < n → m 279 j = o j) (kont : Q (some (zI (rkA o n k : Nat))) L m) : zwp 150 0 [zA 2, zI (k : Nat), zU, zU] [] L m Q := by
  simp only [s150_0, s150_1, s150_2, s150_3]
  have ek := ho k hk
  have hk80 : 0 ≤ (k : Int) ∧ (k : Int) < ((80 : Nat) : Int) := by omega
  refine zfor (n := n) (fun j => [zA 2, zI (k : Nat), zI ((cnB (rkP o k) j : Nat) : Int), zI (j : Nat)]) (fun _ m' => m' = m) ?_ ?_ 0 m (Nat.zero_le _) rfl
  · rintro j _ hj rfl ih
    have ih := ih _ rfl
    have ej := ho j hj
    have hj80 : 0 ≤ (j : Int) ∧ (j : Int) < ((80 : Nat) : Int) := by omega
    have n1 : ¬ (n : Int) ≤ (j : Int) := by omega
    have jv : j < 1000000 := by omega
    have cl := cnB_le (p := rkP o k) j
    have cv : cnB (rkP o k) j < 1000000 := by omega
    have add : rkP o k j = true → zwp 150 50 [zA 2, zI (k : Nat), zI ((cnB (rkP o k) j : Nat) : Int), zI (j : Nat)] [] L _ Q := fun q => by
      rw [cnB, if_pos q] at ih
      simp only [s150_50, s150_53, s150_56, z1 cv, z1 jv]
      exact ih
    have skip : rkP o k j = false → zwp 150 53 [zA 2, zI (k : Nat), zI ((cnB (rkP o k) j : Nat) : Int), zI (j : Nat)] [] L _ Q := fun q => by
      rw [cnB, q] at ih
      simp only [s150_53, s150_56, z1 jv]
      exact ih
    simp only [s150_4]
    simp only [s150_5, s150_6, s150_9, s150_12, s150_15, s150_16, s150_19, s150_20, s150_21, s150_22, s150_25, s150_26, Int.toNat_natCast, true_and, and_true, true_or, or_true, false_or, or_false, zwr_id, zpu_some, zpu_none, reduceIte, Int.reduceLE, Int.reduceLT, Int.reduceEq, Int.reduceNeg, Int.reduceAdd, Int.reduceSub, Int.reduceMul, Int.reduceToNat, Nat.reduceAdd, Nat.reduceLeDiff, Nat.reduceEqDiff, Nat.reduceLT, eq_self, ne_eq, not_false_eq_true, not_true_eq_false, a1, p4, p8, t10, i0, n1, t9, n9, hj80, hk80, and_self, ej, ek]
    simp only [s150_27]
    by_cases h1 : o j < o k
    · rw [if_pos h1]
      exact add (by unfold rkP; rw [decide_eq_true h1]; rfl)
    · rw [if_neg h1]
      simp only [s150_30, s150_31, s150_34, s150_35, s150_36, s150_37, s150_40, s150_41, Int.toNat_natCast, true_and, and_true, true_or, or_true, false_or, or_false, zwr_id, zpu_some, zpu_none, reduceIte, Int.reduceLE, Int.reduceLT, Int.reduceEq, Int.reduceNeg, Int.reduceAdd, Int.reduceSub, Int.reduceMul, Int.reduceToNat, Nat.reduceAdd, Nat.reduceLeDiff, Nat.reduceEqDiff, Nat.reduceLT, eq_self, ne_eq, not_false_eq_true, not_true_eq_false, a1, p8, t9, n9, hj80, hk80, and_self, ej, ek]
      simp only [s150_42]
      by_cases h2 : o j = o k
      · rw [if_pos h2]
        simp only [s150_45, s150_46, s150_47]
        by_cases h3 : j < k
        · rw [if_neg (by omega)]
          exact add (by unfold rkP; rw [decide_eq_true h2, decide_eq_true h3]; simp)
        · rw [if_pos (by omega)]
          exact skip (by unfold rkP; rw [decide_eq_false h1, decide_eq_false h3]; simp)
      · rw [if_neg h2]
        exact skip (by unfold rkP; rw [decide_eq_false h1, decide_eq_false h2]; rfl)
  · rintro _ rfl
    simp only [s150_4]
    simp only [s150_5, s150_6, s150_9, s150_12, s150_59, s150_60, Int.toNat_natCast, true_and, and_true, true_or, or_true, false_or, or_false, zwr_id, zpu_some, zpu_none, reduceIte, Int.reduceLE, Int.reduceLT, Int.reduceEq, Int.reduceNeg, Int.reduceAdd, Int.reduceSub, Int.reduceMul, Int.reduceToNat, Nat.reduceAdd, Nat.reduceLeDiff, Nat.reduceEqDiff, Nat.reduceLT, eq_self, ne_eq, not_false_eq_true, not_true_eq_false, a1, p4, t10, i0, show (n : Int) ≤ (n : Int) from Int.le_refl _]
    exact kont
theorem zCB_ord {L : zY} {m m' : zM} {T : List Int} {od : Option zD} {R : List Int} {C : Nat} {H : zHs} {sc sp : Nat} (h : ∀ a, a ≠ 2 → a ≠ 279 → m' a = m a) (hh : zCB L m T od R C H sc sp) : zCB L m' T od R C H sc sp := by
  obtain ⟨h1, h2, ⟨ov, h3⟩, ⟨r, c, o, h4⟩, h5, h6, h7, h8, h9, h10⟩ := hh
  exact ⟨zTp_eq (h _ (by decide) (by decide)) (h _ (by decide) (by decide)) h1, by rw [h 3 (by decide) (by decide)]; exact h2, ⟨ov, zRw_eq (h _ (by decide) (by decide)) (h _ (by decide) (by decide)) h3⟩, ⟨r, c, o, zRw_eq (h _ (by decide) (by decide)) (h _ (by decide) (by decide)) h4⟩, zRC_eq (fun a p q => h a (by omega) (by omega)) h5, zRL_eq (fun k _ => by rw [h 20 (by decide) (by decide)]) h6, zHi_eq (fun a p q => h a (by omega) (by omega)) h7, zTl_eq (fun a p q => h a (by omega) (by omega)) h8, h9, zScs_eq (fun a p q => h a (by omega) (by omega)) h10⟩
def ordI (D : zD) (I : List zIt) (j : Nat) : Int := ordC D (I.getD j it0)
def fRank (o : Nat → Int) (n i : Nat) : Int := if fC (fun k => decide (rkA o n k ≠ i)) n 0 = n then -2 else ((fC (fun k => decide (rkA o n k ≠ i)) n 0 : Nat) : Int)
def sRank (g : zG) (i : Int) : Int × zG := match gD g with
  | none => gN g 1
  | some D => if 0 ≤ i ∧ i < ((msI (gI g)).length : Int) then gA g (fRank (ordI D (msI (gI g))) (msI (gI g)).length i.toNat) else gN g 1
theorem c_ranked {L : zY} {m : zM} {Q : zQ} {g : zG} {i : Int} (hg : gOk g) (h : zCI L m g) (k : ∀ m', zCI L m' (sRank g i).2 → zFR 2 331 m m' → Q (some (zI (sRank g i).1)) L m') : zwp 148 0 [zA 2, zI i, zU, zU] [] L m Q := by
  have h' := h
  obtain ⟨T, od, R, C, H, f, p, q⟩ := g
  obtain ⟨sc, sp, hO, hB⟩ := h'
  have a1 := hO.1
  have p4 := hO.2.1.2.2.2.2.1
  have p8 := hO.2.1.2.2.2.2.2.2.2.2.1
  have p9 := hO.2.1.2.2.2.2.2.2.2.2.2.1
  have hN := hB.2.2.2.2.1
  have t10 := hN.1.1
  have i0 := hN.2.1.1
  obtain ⟨t279, n279⟩ := hB.2.2.2.2.2.2.2.2.1
  cases od with
  | none =>
    obtain ⟨rfl, -, -⟩ := hg.2.2.1 rfl
    have i0' : m 10 9 = ((0 : Nat) : Int) := i0
    have c3 : (if 0 ≤ i ∧ i < ((0 : Nat) : Int) then (1 : Int) else 0) = 0 := if_neg (by omega)
    simp only [s148_0, s148_1, s148_4, s148_5, s148_8, s148_11, s148_12, s148_13, s148_16, Int.toNat_natCast, true_and, and_true, zpu_some, zpu_none, reduceIte, Int.reduceEq, Int.reduceToNat, a1, p4, t10, x_has t10 i0', c3, x_refuse a1]
    exact k _ (zCI_ans h) zFR_ans
  | some D =>
    obtain ⟨hS, hSt⟩ := sc_facts hB
    have two := sc_two hB
    obtain ⟨hD, hlk, hV, -⟩ := hg.2.1 D rfl
    have nb := dOk_n hD hlk
    have hM := kRun_I hD hV
    have i0 : m 10 9 = ((msI (kRun (zPof D) R)).length : Int) := i0
    have hI : zRI m 10 (msI (kRun (zPof D) R)) := hN.2.1
    have es : sRank (T, some D, R, C, H, f, p, q) i = (if 0 ≤ i ∧ i < ((msI (kRun (zPof D) R)).length : Int) then gA (T, some D, R, C, H, f, p, q) (fRank (ordI D (msI (kRun (zPof D) R))) (msI (kRun (zPof D) R)).length i.toNat) else gN (T, some D, R, C, H, f, p, q) 1) := rfl
    rw [es] at k
    clear es
    have rI : ∀ x ∈ msI (kRun (zPof D) R), itR D x := fun x hx => (hM.1 x hx).1
    generalize hIe : msI (kRun (zPof D) R) = I at *
    have hI80 := hI.2.1
    by_cases h1 : 0 ≤ i ∧ i < (I.length : Int)
    · rw [if_pos h1] at k
      obtain ⟨r, rfl⟩ : ∃ r : Nat, i = (r : Int) := ⟨i.toNat, by omega⟩
      have h1' : (0 : Int) ≤ (r : Int) ∧ (r : Int) < (I.length : Int) := h1
      rw [Int.toNat_natCast] at k
      simp only [s148_0, s148_1, s148_4, s148_5, s148_8, s148_11, s148_12, s148_13, s148_16, s148_17, s148_18, Int.toNat_natCast, true_and, and_true, true_or, or_true, false_or, or_false, zwr_id, zpu_some, zpu_none, reduceIte, Int.reduceLE, Int.reduceLT, Int.reduceEq, Int.reduceNeg, Int.reduceAdd, Int.reduceSub, Int.reduceMul, Int.reduceToNat, Nat.reduceAdd, Nat.reduceLeDiff, Nat.reduceEqDiff, Nat.reduceLT, eq_self, ne_eq, not_false_eq_true, not_true_eq_false, a1, p4, t10, x_has t10 i0, h1', and_self]
      refine zfor (n := I.length) (fun j => [zA 2, zI (r : Nat), zI (j : Nat), zU]) (fun j m' => (∀ b, b < j → m' 279 b = ordI D I b) ∧ ∀ a, a ≠ 279 → m' a = m a) ?_ ?_ 0 m (Nat.zero_le _) ⟨fun b hb => absurd hb (by omega), fun _ _ => rfl⟩
      · rintro j m1 hj ⟨g1, f1⟩ ih
        have e2 : m1 2 = m 2 := f1 2 (by decide)
        have p4' : m1 2 4 = 10 := by rw [e2]; exact p4
        have p8' : m1 2 8 = ((279 : Nat) : Int) := by rw [e2]; exact p8
        have p9' : m1 2 9 = (sc : Int) := by rw [e2]; exact p9
        have i0' : m1 10 9 = (I.length : Int) := by rw [f1 10 (by decide)]; exact i0
        have hRL1 : zRL L m1 10 := zRL_eq (fun k _ => by rw [f1 10 (by decide)]) hN.1
        have hI1 : zRI m1 10 I := zRI_eq (by rw [f1 10 (by decide)]) (f1 _ (by decide)) (f1 _ (by decide)) (f1 _ (by decide)) (f1 _ (by decide)) (f1 _ (by decide)) (f1 _ (by decide)) hI
        have hS1 : zSd L m1 sc D := zSd_eq (fun a p q => f1 a (by omega)) hS
        have hSt1 : zSt L m1 sc D := zSt_eq (fun a p q => f1 a (by omega)) hSt
        have n1 : ¬ (I.length : Int) ≤ (j : Int) := by omega
        have hj80 : 0 ≤ (j : Int) ∧ (j : Int) < ((80 : Nat) : Int) := by omega
        have jv : j < 1000000 := by omega
        simp only [s148_19]
        simp only [s148_20, s148_21, s148_24, s148_27, s148_30, s148_31, s148_34, s148_35, s148_36, s148_37, s148_40, s148_41, s148_44, Int.toNat_natCast, true_and, and_true, true_or, or_true, false_or, or_false, zwr_id, zpu_some, zpu_none, reduceIte, Int.reduceLE, Int.reduceLT, Int.reduceEq, Int.reduceNeg, Int.reduceAdd, Int.reduceSub, Int.reduceMul, Int.reduceToNat, Nat.reduceAdd, Nat.reduceLeDiff, Nat.reduceEqDiff, Nat.reduceLT, eq_self, ne_eq, not_false_eq_true, not_true_eq_false, a1, p4', p8', t10, i0', n1, t279, n279, hj80, and_self, x_order ⟨nb.1.2, nb.2.1.2⟩ a1 p4' p9' hRL1 hI1 hS1 hSt1 hj (rI _ (List.getElem_mem hj)), z1 jv]
        refine ih _ ⟨fun b hb => ?_, fun a ha => by rw [zup_nf ha]; exact f1 a ha⟩
        by_cases e : b = j
        · rw [e, zup_same]
          unfold ordI
          rw [getD_lt hj]
        · rw [zup_nk e]; exact g1 b (by omega)
      · rintro m1 ⟨g1, f1⟩
        have e2 : m1 2 = m 2 := f1 2 (by decide)
        have p4' : m1 2 4 = 10 := by rw [e2]; exact p4
        have p8' : m1 2 8 = 279 := by rw [e2]; exact p8
        have i0' : m1 10 9 = (I.length : Int) := by rw [f1 10 (by decide)]; exact i0
        simp only [s148_19]
        simp only [s148_20, s148_21, s148_24, s148_27, s148_47, s148_49, s148_50, s148_51, Int.toNat_natCast, true_and, and_true, true_or, or_true, false_or, or_false, zwr_id, zpu_some, zpu_none, reduceIte, Int.reduceLE, Int.reduceLT, Int.reduceEq, Int.reduceNeg, Int.reduceAdd, Int.reduceSub, Int.reduceMul, Int.reduceToNat, Nat.reduceAdd, Nat.reduceLeDiff, Nat.reduceEqDiff, Nat.reduceLT, eq_self, ne_eq, not_false_eq_true, not_true_eq_false, a1, p4', t10, i0', show (I.length : Int) ≤ (I.length : Int) from Int.le_refl _]
        have hI1 : zCI L (zup (zup m1 2 14 0) 2 13 (-1)) (gA (T, some D, R, C, H, f, p, q) 0).2 := ⟨sc, sp, zCO_ans (zCO_eq e2 hO), zCB_ans (zCB_ord (fun a _ q => f1 a q) hB)⟩
        have ff : zFR 2 331 m (zup (zup m1 2 14 0) 2 13 (-1)) := fun a ha => by rw [zup_nf (by omega), zup_nf (by omega)]; exact f1 a (by omega)
        unfold fRank at k
        obtain ⟨y1, y2, y3⟩ := fC_spec (p := fun b => decide (rkA (ordI D I) I.length b ≠ r)) I.length 0
        rw [Nat.zero_add] at y2 y3
        generalize fC (fun b => decide (rkA (ordI D I) I.length b ≠ r)) I.length 0 = v at *
        have fin : ∀ (w l3 : Int), w = (if v = I.length then -2 else ((v : Nat) : Int)) → zwp 148 86 [zA 2, zI (r : Nat), zI w, zI l3] [] L m1 Q := by
          intro w l3 hw
          rw [← hw] at k
          simp only [s148_86, s148_87, s148_88, s148_91, Int.toNat_natCast, true_and, and_true, true_or, or_true, false_or, or_false, zwr_id, zpu_some, zpu_none, reduceIte, Int.reduceLE, Int.reduceLT, Int.reduceEq, Int.reduceNeg, Int.reduceAdd, Int.reduceSub, Int.reduceMul, Int.reduceToNat, Nat.reduceAdd, Nat.reduceLeDiff, Nat.reduceEqDiff, Nat.reduceLT, eq_self, ne_eq, not_false_eq_true, not_true_eq_false, a1, x_accept a1]
          exact k _ hI1 ff
        refine zfor (n := v) (fun j => [zA 2, zI (r : Nat), zI (-2), zI (j : Nat)]) (fun _ m' => m' = m1) ?_ ?_ 0 m1 (Nat.zero_le _) rfl
        · rintro j _ hj rfl ih
          have ih := ih _ rfl
          have y2 := of_decide_eq_true (y2 j (Nat.zero_le _) hj)
          have hjI : j < I.length := by omega
          have n1 : ¬ (I.length : Int) ≤ (j : Int) := by omega
          have jv : j < 1000000 := by omega
          have ne : ¬ ((rkA (ordI D I) I.length j : Nat) : Int) = (r : Int) := by omega
          simp only [s148_52]
          simp only [s148_53, s148_55, s148_58, s148_59, s148_60, s148_63, s148_66, s148_69, s148_70, s148_71, Int.toNat_natCast, true_and, and_true, true_or, or_true, false_or, or_false, zwr_id, zpu_some, zpu_none, reduceIte, Int.reduceLE, Int.reduceLT, Int.reduceEq, Int.reduceNeg, Int.reduceAdd, Int.reduceSub, Int.reduceMul, Int.reduceToNat, Nat.reduceAdd, Nat.reduceLeDiff, Nat.reduceEqDiff, Nat.reduceLT, eq_self, ne_eq, not_false_eq_true, not_true_eq_false, a1, p4', t10, i0', n1]
          refine c_ahead a1 p4' p8' t10 i0' t279 n279 hI80 hjI g1 ?_
          simp only [s148_74, s148_75, s148_78, s148_79, s148_80, s148_83, Int.toNat_natCast, true_and, and_true, true_or, or_true, false_or, or_false, zwr_id, zpu_some, zpu_none, reduceIte, Int.reduceLE, Int.reduceLT, Int.reduceEq, Int.reduceNeg, Int.reduceAdd, Int.reduceSub, Int.reduceMul, Int.reduceToNat, Nat.reduceAdd, Nat.reduceLeDiff, Nat.reduceEqDiff, Nat.reduceLT, eq_self, ne_eq, not_false_eq_true, not_true_eq_false, ne, z1 jv]
          exact ih
        · rintro _ rfl
          by_cases hv : v = I.length
          · simp only [s148_52]
            simp only [s148_53, s148_55, s148_58, s148_59, s148_60, s148_63, s148_66, Int.toNat_natCast, true_and, and_true, true_or, or_true, false_or, or_false, zwr_id, zpu_some, zpu_none, reduceIte, Int.reduceLE, Int.reduceLT, Int.reduceEq, Int.reduceNeg, Int.reduceAdd, Int.reduceSub, Int.reduceMul, Int.reduceToNat, Nat.reduceAdd, Nat.reduceLeDiff, Nat.reduceEqDiff, Nat.reduceLT, eq_self, ne_eq, not_false_eq_true, not_true_eq_false, a1, p4', t10, i0', show (I.length : Int) ≤ (v : Int) by omega]
            exact fin (-2) _ (by rw [if_pos hv])
          · have y3 := of_decide_eq_false (y3.resolve_left hv)
            have y3 : rkA (ordI D I) I.length v = r := Classical.not_not.mp y3
            have hjI : v < I.length := by omega
            have n1 : ¬ (I.length : Int) ≤ (v : Int) := by omega
            have jv : v < 1000000 := by omega
            have nv : ¬ (v : Int) = -2 := by omega
            simp only [s148_52]
            simp only [s148_53, s148_55, s148_58, s148_59, s148_60, s148_63, s148_66, s148_69, s148_70, s148_71, Int.toNat_natCast, true_and, and_true, true_or, or_true, false_or, or_false, zwr_id, zpu_some, zpu_none, reduceIte, Int.reduceLE, Int.reduceLT, Int.reduceEq, Int.reduceNeg, Int.reduceAdd, Int.reduceSub, Int.reduceMul, Int.reduceToNat, Nat.reduceAdd, Nat.reduceLeDiff, Nat.reduceEqDiff, Nat.reduceLT, eq_self, ne_eq, not_false_eq_true, not_true_eq_false, a1, p4', t10, i0', n1]
            refine c_ahead a1 p4' p8' t10 i0' t279 n279 hI80 hjI g1 ?_
            rw [y3]
            simp only [s148_74, s148_75, s148_78, s148_79, s148_80, s148_83, Int.toNat_natCast, true_and, and_true, true_or, or_true, false_or, or_false, zwr_id, zpu_some, zpu_none, reduceIte, Int.reduceLE, Int.reduceLT, Int.reduceEq, Int.reduceNeg, Int.reduceAdd, Int.reduceSub, Int.reduceMul, Int.reduceToNat, Nat.reduceAdd, Nat.reduceLeDiff, Nat.reduceEqDiff, Nat.reduceLT, eq_self, ne_eq, not_false_eq_true, not_true_eq_false, z1 jv]
            simp only [s148_52]
            simp only [s148_53, s148_55, Int.toNat_natCast, true_and, and_true, true_or, or_true, false_or, or_false, zwr_id, zpu_some, zpu_none, reduceIte, Int.reduceLE, Int.reduceLT, Int.reduceEq, Int.reduceNeg, Int.reduceAdd, Int.reduceSub, Int.reduceMul, Int.reduceToNat, Nat.reduceAdd, Nat.reduceLeDiff, Nat.reduceEqDiff, Nat.reduceLT, eq_self, ne_eq, not_false_eq_true, not_true_eq_false, nv]
            exact fin (v : Int) _ (by rw [if_neg hv])
    · rw [if_neg h1] at k
      have c3 : (if 0 ≤ i ∧ i < (I.length : Int) then (1 : Int) else 0) = 0 := if_neg h1
      simp only [s148_0, s148_1, s148_4, s148_5, s148_8, s148_11, s148_12, s148_13, s148_16, Int.toNat_natCast, true_and, and_true, zpu_some, zpu_none, reduceIte, Int.reduceEq, Int.reduceToNat, a1, p4, t10, x_has t10 i0, c3, x_refuse a1]
      exact k _ (zCI_ans h) zFR_ans
