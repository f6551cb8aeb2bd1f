theorem x_stateOf {L : zY} {m : zM} {Q : zQ} {D : zD} {s : zMS} {N : Nat} (hb : dnL D ≤ 14 ∧ dnM D ≤ 16 ∧ dnE D ≤ 19) (hC : zRC L m 20 s) (hX : msX N s) (ho : ∀ o, cOp s = some o → coR D o) : zwp 95 0 [zA 64, zA 20, zU] [] L m Q ↔ Q (some (zI ((stN (cOp s) : Nat) : Int))) L m := by
  obtain ⟨hRL, hI, -, -, h12, -⟩ := hC
  have i0 := hI.1
  have hl := hI.2.1
  have t20 := hRL.1
  cases hs : s.2.1 with
  | none =>
    rw [hs] at h12
    have h12 : m 20 12 = 0 := h12
    have e : cOp s = none := by unfold cOp; rw [hs]; rfl
    rw [e]
    simp only [s95_0, s95_1, s95_4, s95_5, s95_6, s95_7, s95_8, s95_11, s95_14, s95_15, s95_16, s95_19, s95_22, s95_23, s95_24, s95_25, s95_26, s95_29, s95_56, s95_57, s95_58, s95_61, s95_62, s95_63, s95_64, s95_65, s95_67, s95_68, s95_71, s95_72, s95_73, s95_74, s95_75, s95_76, s95_79, s95_80, s95_81, s95_84, s95_86, s95_87, s95_90, s95_91, s95_92, s95_93, s95_96, s95_98, s95_99, s95_102, s95_103, s95_104, s95_105, Int.toNat_natCast, true_and, and_true, true_or, or_true, false_or, or_false, zwr_id, zpu_some, zpu_none, reduceIte, Int.reduceLE, Int.reduceLT, Int.reduceEq, Int.reduceNeg, Int.reduceAdd, Int.reduceSub, Int.reduceMul, Int.reduceToNat, Nat.reduceAdd, Nat.reduceLeDiff, Nat.reduceEqDiff, Nat.reduceLT, eq_self, ne_eq, not_false_eq_true, not_true_eq_false, t20, i0, h12, (show zwr (((msI s).length : Int) - 1) = ((msI s).length : Int) - 1 from zwr_id (by omega) (by omega))]
    exact Iff.rfl
  | some x =>
    rw [hs] at h12
    have h12 : m 20 12 = 1 := h12
    have nx := (hX.2 x hs).1
    have hE := (hX.2 x hs).2.1
    have hE2 := (hX.2 x hs).2.2.1
    have em := msI_some hs
    have e : cOp s = some (itL x, itM x, itE x, -2) := by unfold cOp; rw [hs]; exact congrArg some (cOf_open nx)
    obtain ⟨r1, r2, r3⟩ := ho _ e
    dsimp only at r1 r2 r3
    have hlen : (msI s).length = s.1.length + 1 := by rw [em, List.length_append]; rfl
    have hi : s.1.length < (msI s).length := by omega
    have ex : (msI s)[s.1.length] = x := by
      have : (msI s)[s.1.length]? = some x := by rw [em, List.getElem?_append_right (Nat.le_refl _), Nat.sub_self]; rfl
      rw [List.getElem?_eq_getElem hi] at this
      exact Option.some.inj this
    obtain ⟨y1, y2, y3, y4, y5, y6⟩ := zRI_get hI hi
    have xs := fun (Q : zQ) => x_sort (Q := Q) hRL hI hi
    rw [ex] at y1 y2 y3 xs
    have e1 : 0 ≤ ((s.1.length : Nat) : Int) ∧ ((s.1.length : Nat) : Int) < ((msI s).length : Int) := by omega
    have hlt : 0 ≤ ((s.1.length : Nat) : Int) ∧ ((s.1.length : Nat) : Int) < ((80 : Nat) : Int) := by omega
    have b0 := hRL.2.2.1.1
    have b1 := hRL.2.2.1.2.1
    have b2 := hRL.2.2.1.2.2.1
    have t1 := hRL.2.2.2.1.1
    have t2 := hRL.2.2.2.1.2.1
    have t3 := hRL.2.2.2.1.2.2.1
    have n1 := hRL.2.2.2.2.1
    have n2 := hRL.2.2.2.2.2.1
    have n3 := hRL.2.2.2.2.2.2.1
    have eO : itO x = -2 := itO_no nx
    rw [e]
    unfold stN
    dsimp only
    by_cases c1 : itL x = -2
    · have es : itSo x = 2 := by unfold itSo; rw [if_neg (fun q => q eO), if_pos c1]
      have w2 : zwr (15 + itM x) = ((15 + (itM x).toNat : Nat) : Int) := by
        have : itM x ≠ -2 := fun q => nx ⟨c1, q⟩
        rw [zwr_id (by omega) (by omega)]; omega
      rw [if_pos c1]
      simp only [s95_0, s95_1, s95_4, s95_5, s95_6, s95_7, s95_8, s95_11, s95_14, s95_15, s95_16, s95_19, s95_22, s95_23, s95_24, s95_25, s95_26, s95_29, s95_56, s95_57, s95_58, s95_61, s95_62, s95_63, s95_64, s95_65, s95_67, s95_68, s95_71, s95_72, s95_73, s95_74, s95_75, s95_76, s95_79, s95_80, s95_81, s95_84, s95_86, s95_87, s95_90, s95_91, s95_92, s95_93, s95_96, s95_98, s95_99, s95_102, s95_103, s95_104, s95_105, Int.toNat_natCast, true_and, and_true, zpu_some, zpu_none, reduceIte, Int.reduceEq, t20, i0, h12, (show zwr (((msI s).length : Int) - 1) = ((s.1.length : Nat) : Int) by rw [zwr_id (by omega) (by omega)]; omega), x_has t20 i0, e1, and_self, xs, es, b1, t2, n2, hlt, y2, w2]
    · by_cases c2 : itM x = -2
      · have es : itSo x = 1 := by unfold itSo; rw [if_neg (fun q => q eO), if_neg c1, if_pos c2]
        rw [if_neg c1, if_pos c2]
        simp only [s95_0, s95_1, s95_4, s95_5, s95_6, s95_7, s95_8, s95_11, s95_14, s95_15, s95_16, s95_19, s95_22, s95_23, s95_24, s95_25, s95_26, s95_29, s95_56, s95_57, s95_58, s95_61, s95_62, s95_63, s95_64, s95_65, s95_67, s95_68, s95_71, s95_72, s95_73, s95_74, s95_75, s95_76, s95_79, s95_80, s95_81, s95_84, s95_86, s95_87, s95_90, s95_91, s95_92, s95_93, s95_96, s95_98, s95_99, s95_102, s95_103, s95_104, s95_105, Int.toNat_natCast, true_and, and_true, zpu_some, zpu_none, reduceIte, Int.reduceEq, t20, i0, h12, (show zwr (((msI s).length : Int) - 1) = ((s.1.length : Nat) : Int) by rw [zwr_id (by omega) (by omega)]; omega), x_has t20 i0, e1, and_self, xs, es, b0, t1, n1, hlt, y1, (show zwr (1 + itL x) = ((1 + (itL x).toNat : Nat) : Int) by rw [zwr_id (by omega) (by omega)]; omega)]
      · have es : itSo x = 0 := by unfold itSo; rw [if_neg (fun q => q eO), if_neg c1, if_neg c2]
        have eC : itC x = if itE x = -2 then 0 else itE x := if_neg (fun q => q.elim c1 c2)
        rw [if_neg c1, if_neg c2]
        by_cases c3 : itE x = -2
        · rw [if_pos c3] at eC ⊢
          rw [eC] at y3
          simp only [s95_0, s95_1, s95_4, s95_5, s95_6, s95_7, s95_8, s95_11, s95_14, s95_15, s95_16, s95_19, s95_22, s95_23, s95_24, s95_25, s95_26, s95_29, s95_56, s95_57, s95_58, s95_61, s95_62, s95_63, s95_64, s95_65, s95_67, s95_68, s95_71, s95_72, s95_73, s95_74, s95_75, s95_76, s95_79, s95_80, s95_81, s95_84, s95_86, s95_87, s95_90, s95_91, s95_92, s95_93, s95_96, s95_98, s95_99, s95_102, s95_103, s95_104, s95_105, Int.toNat_natCast, true_and, and_true, zpu_some, zpu_none, reduceIte, Int.reduceEq, t20, i0, h12, (show zwr (((msI s).length : Int) - 1) = ((s.1.length : Nat) : Int) by rw [zwr_id (by omega) (by omega)]; omega), x_has t20 i0, e1, and_self, xs, es, b1, b2, t2, t3, n2, n3, hlt, y2, y3, (show zwr (31 + itM x) = ((31 + (itM x).toNat : Nat) : Int) by rw [zwr_id (by omega) (by omega)]; omega)]
        · rw [if_neg c3] at eC ⊢
          rw [eC] at y3
          have ne0 : ¬ itE x = 0 := by omega
          simp only [s95_0, s95_1, s95_4, s95_5, s95_6, s95_7, s95_8, s95_11, s95_14, s95_15, s95_16, s95_19, s95_22, s95_23, s95_24, s95_25, s95_26, s95_29, s95_56, s95_57, s95_58, s95_61, s95_62, s95_63, s95_64, s95_65, s95_67, s95_68, s95_71, s95_72, s95_73, s95_74, s95_75, s95_76, s95_79, s95_80, s95_81, s95_84, s95_86, s95_87, s95_90, s95_91, s95_92, s95_93, s95_96, s95_98, s95_99, s95_102, s95_103, s95_104, s95_105, Int.toNat_natCast, true_and, and_true, zpu_some, zpu_none, reduceIte, Int.reduceEq, t20, i0, h12, (show zwr (((msI s).length : Int) - 1) = ((s.1.length : Nat) : Int) by rw [zwr_id (by omega) (by omega)]; omega), x_has t20 i0, e1, and_self, xs, es, b2, t3, n3, hlt, y3, ne0, (show zwr (47 + itE x) = ((47 + (itE x).toNat : Nat) : Int) by rw [zwr_id (by omega) (by omega)]; omega)]
/-- a move as the class keeps it -/
def mvV (D : zD) (st k : Nat) : Int := if dS D k ≠ -1 ∧ exB D st = true then 2 * ((stN (cSign (zPof D) (kk k) (stO st)).2 : Nat) : Int) + ((zcn (cSign (zPof D) (kk k) (stO st)) : Nat) : Int) - (((stO st).toList.length : Nat) : Int) else -1
theorem stO_R {D : zD} {st : Nat} (hn : 1 ≤ dnL D ∧ 1 ≤ dnM D) (hx : exB D st = true) : ∀ o, stO st = some o → coR D o := by
  intro o ho
  unfold stO at ho
  by_cases h0 : st = 0
  · rw [if_pos h0] at ho; cases ho
  · rw [if_neg h0] at ho
    cases ho
    unfold exB at hx
    rw [Bool.or_eq_true, Bool.or_eq_true, Bool.or_eq_true, Bool.or_eq_true, decide_eq_true_iff, decide_eq_true_iff, decide_eq_true_iff, decide_eq_true_iff, decide_eq_true_iff] at hx
    unfold stC
    repeat' split
    all_goals (refine ⟨?_, ?_, ?_⟩ <;> dsimp only <;> omega)
theorem stN_lt {D : zD} {op : Option zCo} (hb : dnL D ≤ 14 ∧ dnM D ≤ 16 ∧ dnE D ≤ 19) (ho : ∀ o, op = some o → coR D o ∧ ¬ cAl o) : stN op < 66 := by
  unfold stN
  cases op with
  | none => decide
  | some o =>
    obtain ⟨⟨r1, r2, r3⟩, na⟩ := ho o rfl
    unfold cAl at na
    dsimp only
    repeat' split
    all_goals omega
