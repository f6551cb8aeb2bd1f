/-- whether THE SCRIPT has a state, as the class sees it -/
def exB (D : zD) (st : Nat) : Bool := decide (st = 0) || (decide (1 ≤ st ∧ st < 15 ∧ st - 1 < dnL D) || (decide (15 ≤ st ∧ st < 31 ∧ st - 15 < dnM D) || (decide (31 ≤ st ∧ st < 47 ∧ st - 31 < dnM D) || decide (47 ≤ st ∧ st - 47 < dnE D))))
theorem itC_mk {l mm e k f n : Int} : itC (l, mm, e, k, f, n) = if l = -2 ∨ mm = -2 then -2 else if e = -2 then 0 else e := rfl
theorem c_stand {L : zY} {m : zM} {Q : zQ} {D : zD} {st sc : Nat} (t64 : zt L 64 = 8) (hsc : 29 < sc) (h66 : st < 66) (hS : zSd L m sc D) (hSt : zSt L m sc D) (hR : zRL L m 20) (k : ∀ m' w, zRC L m' 20 (stS st w) → zFR 20 29 m m' → Q (some (zI (if exB D st = true then 1 else 0))) L m') : zwp 94 0 [zA 64, zA sc, zA 20, zI (st : Nat)] [] L m Q := by
  have s1 := hS.1.1
  have q7 := hS.1.2.2.2.2.2.2.2.2.2.1
  have q8 := hS.1.2.2.2.2.2.2.2.2.2.2.1
  have q9 := hS.1.2.2.2.2.2.2.2.2.2.2.2.1
  obtain ⟨⟨t7, -⟩, ⟨t8, -⟩, ⟨t9, -⟩⟩ := st_n hSt
  have r1 := hR.1
  have al : ∀ (m1 : zM) (e : Int) (rest : Nat → Nat), zFR 20 29 m m1 → True := fun _ _ _ _ => trivial
  by_cases h0 : st = 0
  · subst h0
    simp only [s94_0, s94_1, s94_4, s94_5, Int.toNat_natCast, true_and, and_true, true_or, or_true, false_or, or_false, zwr_id, zpu_some, zpu_none, reduceIte, Int.reduceLE, Int.reduceLT, Int.reduceEq, Int.reduceNeg, Int.reduceAdd, Int.reduceSub, Int.reduceMul, Int.reduceToNat, Nat.reduceAdd, Nat.reduceLeDiff, Nat.reduceEqDiff, Nat.reduceLT, eq_self, ne_eq, not_false_eq_true, not_true_eq_false, Int.cast_ofNat_Int, r1]
    refine c_clear hR (fun m1 g1 f1 => ?_)
    simp only [s94_8, s94_9, Int.toNat_natCast, true_and, and_true, true_or, or_true, false_or, or_false, zwr_id, zpu_some, zpu_none, reduceIte, Int.reduceLE, Int.reduceLT, Int.reduceEq, Int.reduceNeg, Int.reduceAdd, Int.reduceSub, Int.reduceMul, Int.reduceToNat, Nat.reduceAdd, Nat.reduceLeDiff, Nat.reduceEqDiff, Nat.reduceLT, eq_self, ne_eq, not_false_eq_true, not_true_eq_false]
    exact k m1 0 g1 f1
  · have n0 : ¬ (st : Int) = 0 := by omega
    have after : ∀ (m1 : zM), zFR 20 29 m m1 → (m1 sc 7 = ((sc + 14 : Nat) : Int) ∧ m1 sc 8 = ((sc + 18 : Nat) : Int) ∧ m1 sc 9 = ((sc + 22 : Nat) : Int)) ∧ zSt L m1 sc D := fun m1 f => by
      have e : m1 sc = m sc := zFR_at f (by omega)
      rw [e]
      exact ⟨⟨q7, q8, q9⟩, zSt_eq (fun a p q => zFR_at f (by omega)) hSt⟩
    by_cases h1 : st < 15
    · have n1 : ¬ 15 ≤ (st : Int) := by omega
      have eC : stC st = (((st - 1 : Nat) : Int), -2, -2, -2) := by unfold stC; rw [if_pos h1]
      have e1 : (stC st).1 = ((st - 1 : Nat) : Int) := by rw [eC]
      have e2 : (stC st).2.1 = -2 := by rw [eC]
      simp only [s94_0, s94_1, s94_4, s94_5, s94_8, s94_9, s94_10, s94_11, s94_13, s94_16, s94_17, s94_18, s94_19, s94_20, s94_22, s94_24, Int.toNat_natCast, true_and, and_true, true_or, or_true, false_or, or_false, zwr_id, zpu_some, zpu_none, reduceIte, Int.reduceLE, Int.reduceLT, Int.reduceEq, Int.reduceNeg, Int.reduceAdd, Int.reduceSub, Int.reduceMul, Int.reduceToNat, Nat.reduceAdd, Nat.reduceLeDiff, Nat.reduceEqDiff, Nat.reduceLT, eq_self, ne_eq, not_false_eq_true, not_true_eq_false, n0, n1, r1, (show zwr ((st : Int) - 1) = ((st - 1 : Nat) : Int) by rw [zwr_id (by omega) (by omega)]; omega)]
      rw [← e1]
      have := c_standAt (L := L) (m := m) (Q := fun r L1 m1 => zwp 94 27 [zA 64, zA sc, zA 20, zI (st : Nat)] (zpu r []) L1 m1 Q) (st := st) (e := -2) h0 (by unfold stIt; rw [itC_mk, if_pos (Or.inr e2)]) hR (fun m1 w g1 f1 => ?_)
      · rw [e2] at this
        exact this
      · obtain ⟨⟨b7, b8, b9⟩, hT1⟩ := after m1 f1
        have xh := fun (Q : zQ) (n : Int) => x_pthas (Q := Q) (n := n) hT1.1
        rw [dTL_len] at xh
        simp only [s94_27, s94_28, s94_31, s94_32, s94_33, s94_34, s94_37, Int.toNat_natCast, true_and, and_true, zpu_some, zpu_none, s1, b7, t7, (show zwr ((st : Int) - 1) = ((st - 1 : Nat) : Int) by rw [zwr_id (by omega) (by omega)]; omega), xh]
        have ex : (if 0 ≤ ((st - 1 : Nat) : Int) ∧ ((st - 1 : Nat) : Int) < (dnL D : Int) then (1 : Int) else 0) = if exB D st = true then 1 else 0 := by
          by_cases c : st - 1 < dnL D
          · rw [if_pos (by omega), if_pos]
            unfold exB
            rw [decide_eq_true (show 1 ≤ st ∧ st < 15 ∧ st - 1 < dnL D by omega)]
            simp
          · rw [if_neg (by omega), if_neg]
            unfold exB
            rw [decide_eq_false h0, decide_eq_false (show ¬ (1 ≤ st ∧ st < 15 ∧ st - 1 < dnL D) by omega), decide_eq_false (show ¬ (15 ≤ st ∧ st < 31 ∧ st - 15 < dnM D) by omega), decide_eq_false (show ¬ (31 ≤ st ∧ st < 47 ∧ st - 31 < dnM D) by omega), decide_eq_false (show ¬ (47 ≤ st ∧ st - 47 < dnE D) by omega)]
            exact Bool.false_ne_true
        rw [ex]
        refine ⟨?_, k m1 w g1 f1⟩
        split <;> simp
    · have n1 : 15 ≤ (st : Int) := by omega
      by_cases h2 : st < 31
      · have n2 : ¬ 31 ≤ (st : Int) := by omega
        have eC : stC st = (-2, ((st - 15 : Nat) : Int), -2, -2) := by unfold stC; rw [if_neg h1, if_pos h2]
        have e1 : (stC st).1 = -2 := by rw [eC]
        have e2 : (stC st).2.1 = ((st - 15 : Nat) : Int) := by rw [eC]
        simp only [s94_0, s94_1, s94_4, s94_5, s94_8, s94_9, s94_10, s94_11, s94_13, s94_38, s94_39, s94_41, s94_44, s94_45, s94_47, s94_48, s94_50, s94_51, s94_53, Int.toNat_natCast, true_and, and_true, true_or, or_true, false_or, or_false, zwr_id, zpu_some, zpu_none, reduceIte, Int.reduceLE, Int.reduceLT, Int.reduceEq, Int.reduceNeg, Int.reduceAdd, Int.reduceSub, Int.reduceMul, Int.reduceToNat, Nat.reduceAdd, Nat.reduceLeDiff, Nat.reduceEqDiff, Nat.reduceLT, eq_self, ne_eq, not_false_eq_true, not_true_eq_false, n0, n1, n2, r1, (show zwr ((st : Int) - 15) = ((st - 15 : Nat) : Int) by rw [zwr_id (by omega) (by omega)]; omega)]
        rw [← e2]
        have := c_standAt (L := L) (m := m) (Q := fun r L1 m1 => zwp 94 56 [zA 64, zA sc, zA 20, zI (st : Nat)] (zpu r []) L1 m1 Q) (st := st) (e := -2) h0 (by unfold stIt; rw [itC_mk, if_pos (Or.inl e1)]) hR (fun m1 w g1 f1 => ?_)
        · rw [e1] at this
          exact this
        · obtain ⟨⟨b7, b8, b9⟩, hT1⟩ := after m1 f1
          have xh := fun (Q : zQ) (n : Int) => x_pthas (Q := Q) (n := n) hT1.2.1
          rw [dTM_len] at xh
          simp only [s94_56, s94_57, s94_60, s94_61, s94_63, s94_64, s94_67, Int.toNat_natCast, true_and, and_true, zpu_some, zpu_none, s1, b8, t8, (show zwr ((st : Int) - 15) = ((st - 15 : Nat) : Int) by rw [zwr_id (by omega) (by omega)]; omega), xh]
          have ex : (if 0 ≤ ((st - 15 : Nat) : Int) ∧ ((st - 15 : Nat) : Int) < (dnM D : Int) then (1 : Int) else 0) = if exB D st = true then 1 else 0 := by
            by_cases c : st - 15 < dnM D
            · rw [if_pos (by omega), if_pos]
              unfold exB
              rw [decide_eq_true (show 15 ≤ st ∧ st < 31 ∧ st - 15 < dnM D by omega)]
              simp
            · rw [if_neg (by omega), if_neg]
              unfold exB
              rw [decide_eq_false h0, decide_eq_false (show ¬ (1 ≤ st ∧ st < 15 ∧ st - 1 < dnL D) by omega), decide_eq_false (show ¬ (15 ≤ st ∧ st < 31 ∧ st - 15 < dnM D) by omega), decide_eq_false (show ¬ (31 ≤ st ∧ st < 47 ∧ st - 31 < dnM D) by omega), decide_eq_false (show ¬ (47 ≤ st ∧ st - 47 < dnE D) by omega)]
              exact Bool.false_ne_true
          rw [ex]
          refine ⟨?_, k m1 w g1 f1⟩
          split <;> simp
      · have n2 : 31 ≤ (st : Int) := by omega
        by_cases h3 : st < 47
        · have n3 : ¬ 47 ≤ (st : Int) := by omega
          have eC : stC st = (0, ((st - 31 : Nat) : Int), -2, -2) := by unfold stC; rw [if_neg h1, if_neg h2, if_pos h3]
          have e1 : (stC st).1 = 0 := by rw [eC]
          have e2 : (stC st).2.1 = ((st - 31 : Nat) : Int) := by rw [eC]
          have e3 : (stC st).2.2.1 = -2 := by rw [eC]
          simp only [s94_0, s94_1, s94_4, s94_5, s94_8, s94_9, s94_10, s94_11, s94_13, s94_38, s94_39, s94_41, s94_68, s94_69, s94_71, s94_74, s94_75, s94_76, s94_77, s94_79, s94_80, s94_81, Int.toNat_natCast, true_and, and_true, true_or, or_true, false_or, or_false, zwr_id, zpu_some, zpu_none, reduceIte, Int.reduceLE, Int.reduceLT, Int.reduceEq, Int.reduceNeg, Int.reduceAdd, Int.reduceSub, Int.reduceMul, Int.reduceToNat, Nat.reduceAdd, Nat.reduceLeDiff, Nat.reduceEqDiff, Nat.reduceLT, eq_self, ne_eq, not_false_eq_true, not_true_eq_false, n0, n1, n2, n3, r1, (show zwr ((st : Int) - 31) = ((st - 31 : Nat) : Int) by rw [zwr_id (by omega) (by omega)]; omega)]
          rw [← e2]
          have := c_standAt (L := L) (m := m) (Q := fun r L1 m1 => zwp 94 84 [zA 64, zA sc, zA 20, zI (st : Nat)] (zpu r []) L1 m1 Q) (st := st) (e := 0) h0 (by unfold stIt; rw [itC_mk, if_neg (by omega), if_pos e3]) hR (fun m1 w g1 f1 => ?_)
          · rw [e1] at this
            exact this
          · obtain ⟨⟨b7, b8, b9⟩, hT1⟩ := after m1 f1
            have xh := fun (Q : zQ) (n : Int) => x_pthas (Q := Q) (n := n) hT1.2.1
            rw [dTM_len] at xh
            simp only [s94_84, s94_85, s94_88, s94_89, s94_91, s94_92, s94_95, Int.toNat_natCast, true_and, and_true, zpu_some, zpu_none, s1, b8, t8, (show zwr ((st : Int) - 31) = ((st - 31 : Nat) : Int) by rw [zwr_id (by omega) (by omega)]; omega), xh]
            have ex : (if 0 ≤ ((st - 31 : Nat) : Int) ∧ ((st - 31 : Nat) : Int) < (dnM D : Int) then (1 : Int) else 0) = if exB D st = true then 1 else 0 := by
              by_cases c : st - 31 < dnM D
              · rw [if_pos (by omega), if_pos]
                unfold exB
                rw [decide_eq_true (show 31 ≤ st ∧ st < 47 ∧ st - 31 < dnM D by omega)]
                simp
              · rw [if_neg (by omega), if_neg]
                unfold exB
                rw [decide_eq_false h0, decide_eq_false (show ¬ (1 ≤ st ∧ st < 15 ∧ st - 1 < dnL D) by omega), decide_eq_false (show ¬ (15 ≤ st ∧ st < 31 ∧ st - 15 < dnM D) by omega), decide_eq_false (show ¬ (31 ≤ st ∧ st < 47 ∧ st - 31 < dnM D) by omega), decide_eq_false (show ¬ (47 ≤ st ∧ st - 47 < dnE D) by omega)]
                exact Bool.false_ne_true
            rw [ex]
            refine ⟨?_, k m1 w g1 f1⟩
            split <;> simp
        · have n3 : 47 ≤ (st : Int) := by omega
          have e1 : (stC st).1 = 0 := by unfold stC; rw [if_neg h1, if_neg h2, if_neg h3]; split <;> rfl
          have e2 : (stC st).2.1 = 0 := by unfold stC; rw [if_neg h1, if_neg h2, if_neg h3]; split <;> rfl
          have eE : itC (stIt st) = ((st - 47 : Nat) : Int) := by
            unfold stIt
            rw [itC_mk, if_neg (by omega)]
            unfold stC
            rw [if_neg h1, if_neg h2, if_neg h3]
            by_cases c : st = 47
            · rw [if_pos c, c]; rfl
            · rw [if_neg c]
              show (if ((st - 47 : Nat) : Int) = -2 then (0 : Int) else ((st - 47 : Nat) : Int)) = _
              rw [if_neg (by omega)]
          simp only [s94_0, s94_1, s94_4, s94_5, s94_8, s94_9, s94_10, s94_11, s94_13, s94_38, s94_39, s94_41, s94_68, s94_69, s94_71, s94_96, s94_97, s94_98, s94_99, s94_100, s94_102, s94_103, Int.toNat_natCast, true_and, and_true, true_or, or_true, false_or, or_false, zwr_id, zpu_some, zpu_none, reduceIte, Int.reduceLE, Int.reduceLT, Int.reduceEq, Int.reduceNeg, Int.reduceAdd, Int.reduceSub, Int.reduceMul, Int.reduceToNat, Nat.reduceAdd, Nat.reduceLeDiff, Nat.reduceEqDiff, Nat.reduceLT, eq_self, ne_eq, not_false_eq_true, not_true_eq_false, n0, n1, n2, n3, r1, (show zwr ((st : Int) - 47) = ((st - 47 : Nat) : Int) by rw [zwr_id (by omega) (by omega)]; omega)]
          have := c_standAt (L := L) (m := m) (Q := fun r L1 m1 => zwp 94 106 [zA 64, zA sc, zA 20, zI (st : Nat)] (zpu r []) L1 m1 Q) (st := st) (e := ((st - 47 : Nat) : Int)) h0 eE hR (fun m1 w g1 f1 => ?_)
          · rw [e1, e2] at this
            exact this
          · obtain ⟨⟨b7, b8, b9⟩, hT1⟩ := after m1 f1
            have xh := fun (Q : zQ) (n : Int) => x_pthas (Q := Q) (n := n) hT1.2.2
            rw [dTE_len] at xh
            simp only [s94_106, s94_107, s94_110, s94_111, s94_113, s94_114, s94_117, Int.toNat_natCast, true_and, and_true, zpu_some, zpu_none, s1, b9, t9, (show zwr ((st : Int) - 47) = ((st - 47 : Nat) : Int) by rw [zwr_id (by omega) (by omega)]; omega), xh]
            have ex : (if 0 ≤ ((st - 47 : Nat) : Int) ∧ ((st - 47 : Nat) : Int) < (dnE D : Int) then (1 : Int) else 0) = if exB D st = true then 1 else 0 := by
              by_cases c : st - 47 < dnE D
              · rw [if_pos (by omega), if_pos]
                unfold exB
                rw [decide_eq_true (show 47 ≤ st ∧ st - 47 < dnE D by omega)]
                simp
              · rw [if_neg (by omega), if_neg]
                unfold exB
                rw [decide_eq_false h0, decide_eq_false (show ¬ (1 ≤ st ∧ st < 15 ∧ st - 1 < dnL D) by omega), decide_eq_false (show ¬ (15 ≤ st ∧ st < 31 ∧ st - 15 < dnM D) by omega), decide_eq_false (show ¬ (31 ≤ st ∧ st < 47 ∧ st - 31 < dnM D) by omega), decide_eq_false (show ¬ (47 ≤ st ∧ st - 47 < dnE D) by omega)]
                exact Bool.false_ne_true
            rw [ex]
            refine ⟨?_, k m1 w g1 f1⟩
            split <;> simp
