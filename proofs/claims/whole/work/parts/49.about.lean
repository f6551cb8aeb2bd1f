theorem kGo_ok {P : zP} {N : Nat} (hP : zPk P N) : ∀ (xs : List Int) (s : zMS), msX N s → msX N (kGo P xs s) ∧ (kGo P xs s).2.2.1.length = s.2.2.1.length + xs.length := by
  intro xs
  induction xs with
  | nil => intro s h; exact ⟨h, rfl⟩
  | cons x t ih =>
    intro s h
    obtain ⟨h1, h2⟩ := ih (kSign P x s) (kSign_ok hP h)
    refine ⟨h1, ?_⟩
    show (kGo P t (kSign P x s)).2.2.1.length = _
    rw [h2, kSign_len h.1, List.length_cons]
    omega
theorem kRun_ok {P : zP} {N : Nat} (hP : zPk P N) {R : List Int} : msX N (kRun P R) ∧ (kRun P R).2.2.1.length = R.length := by
  have := kGo_ok hP R ms0 ms0_ok
  refine ⟨this.1, this.2.trans ?_⟩
  show 0 + R.length = _
  omega
def oN (od : Option zD) : Nat := match od with
  | some D => dnE D
  | none => dnE dD0
theorem oPk {od : Option zD} (h : ∀ D, od = some D → dOk D) : zPk (oP od) (oN od) := match od with
  | some D => dOk_Pk (h D rfl)
  | none => dOk_Pk dOk_0
def gI (g : zG) : zMS := kRun (oP (gD g)) (gR g)
theorem gOk_D {g : zG} (h : gOk g) : ∀ D, gD g = some D → dOk D := by
  obtain ⟨T, od, R, C, H, f, p, q⟩ := g
  exact fun D e => (h.2.1 D e).1
theorem gI_ok {g : zG} (h : gOk g) : msX (oN (gD g)) (gI g) ∧ (gI g).2.2.1.length = (gR g).length := kRun_ok (oPk (gOk_D h))
/-! about -/
def fAbout (D : zD) (g : zG) (what : Int) : Int := if what = 0 then ((dC D).length : Nat) else if what = 1 then ((dV D).length : Nat) else if what = 2 then ((dO D).length : Nat) else if what = 3 then (dnL D : Nat) else if what = 4 then (dnM D : Nat) else if what = 5 then (dnE D : Nat) else if what = 6 then ((gR g).length : Nat) else if what = 7 then ((msI (gI g)).length : Nat) else if what = 8 then (rBl (msI (gI g)) : Nat) else if what = 9 then (gI g).2.2.2 else if what = 10 then (rBr (gR g) : Nat) else if what = 11 then (gC g : Nat) else ((gH g).length : Nat)
def sAbout (g : zG) (what : Int) : Int × zG := match gD g with
  | none => gN g 1
  | some D => if 0 ≤ what ∧ what ≤ 12 then gA g (fAbout D g what) else gN g 1
theorem c_rFact {L : zY} {m : zM} {Q : zQ} {T : List Int} {od : Option zD} {R : List Int} {C : Nat} {H : zHs} {f p q : Int} {sc sp : Nat} {D : zD} {what : Int} (hO : zCO L m od f p q sc sp) (hB : zCB L m T od R C H sc sp) (hw : 6 ≤ what ∧ what ≤ 12) (k : Q (some (zI (fAbout D (T, od, R, C, H, f, p, q) what))) L m) : zwp 114 0 [zA 2, zI what] [] L m Q := by
  have a1 := hO.1
  obtain ⟨-, -, p2, -, p4, -, p6, -⟩ := hO.2.1
  obtain ⟨h1, h2, ⟨ov, h3⟩, -, h5, h6, h7, h8, h9, h10⟩ := hB
  have t6 := h3.1
  have n6 := h3.2.2.2.2.2.1
  have c6 := h3.2.2.2.2.2.2.2.1
  have t10 := h5.1.1
  have i10 := h5.2.1.1
  have s10 := h5.2.2.2.1
  have t30 := h7.1.1
  obtain ⟨-, nx, -, -, n30, -⟩ := h7
  have : what = 6 ∨ what = 7 ∨ what = 8 ∨ what = 9 ∨ what = 10 ∨ what = 11 ∨ what = 12 := by omega
  rcases this with e | e | e | e | e | e | e <;> subst e <;> simp only [s114_0, s114_1, s114_40, s114_41, s114_44, s114_47, s114_48, s114_49, s114_52, s114_55, s114_56, s114_57, s114_60, s114_63, s114_64, s114_65, s114_68, s114_71, s114_72, s114_73, s114_76, s114_79, s114_80, s114_81, s114_84, s114_87, s114_88, s114_89, s114_92, s114_95, Int.toNat_natCast, true_and, and_true, true_or, or_true, false_or, or_false, zwr_id, zpu_some, zpu_none, reduceIte, Int.reduceLE, Int.reduceLT, Int.reduceEq, Int.reduceNeg, Int.reduceAdd, Int.reduceSub, Int.reduceMul, Int.reduceToNat, Nat.reduceAdd, Nat.reduceLeDiff, Nat.reduceEqDiff, Nat.reduceLT, eq_self, ne_eq, not_false_eq_true, not_true_eq_false, a1, p2, p4, p6, t6, n6, c6, t10, i10, s10, t30, n30]
  · exact k
  · exact k
  · exact c_blocks h5.1 h5.2.1 (by simp only [s114_63, zpu_some]; exact k)
  · exact k
  · exact c_breaks h3 (by simp only [s114_79, zpu_some]; exact k)
  · exact k
  · exact k
theorem c_about {L : zY} {m : zM} {Q : zQ} {g : zG} {what : Int} (h : zCI L m g) (k : ∀ m', zCI L m' (sAbout g what).2 → zFR 2 331 m m' → Q (some (zI (sAbout g what).1)) L m') : zwp 113 0 [zA 2, zI what] [] L m Q := by
  have h' := h
  obtain ⟨T, od, R, C, H, f, p, q⟩ := g
  obtain ⟨sc, sp, hO, hB⟩ := h'
  have a1 := hO.1
  have p9 := hO.2.1.2.2.2.2.2.2.2.2.2.1
  cases od with
  | none =>
    have b11 : m 2 11 = 0 := hO.2.2.1
    simp only [s113_0, s113_1, s113_4, s113_7, s113_8, s113_11, s113_12, s113_14, s113_17, s113_18, s113_19, s113_22, s113_23, s113_24, s113_25, s113_27, s113_30, s113_31, s113_34, s113_35, s113_38, s113_41, s113_42, s113_43, s113_46, s113_49, Int.toNat_natCast, true_and, and_true, true_or, or_true, false_or, or_false, zwr_id, zpu_some, zpu_none, reduceIte, Int.reduceLE, Int.reduceLT, Int.reduceEq, Int.reduceNeg, Int.reduceAdd, Int.reduceSub, Int.reduceMul, Int.reduceToNat, Nat.reduceAdd, Nat.reduceLeDiff, Nat.reduceEqDiff, Nat.reduceLT, eq_self, ne_eq, not_false_eq_true, not_true_eq_false, a1, b11, x_refuse a1]
    exact k _ (zCI_ans h) zFR_ans
  | some D =>
    have b11 : m 2 11 = 1 := hO.2.2.1
    by_cases hw : 0 ≤ what ∧ what ≤ 12
    · have e1 : sAbout (T, some D, R, C, H, f, p, q) what = gA (T, some D, R, C, H, f, p, q) (fAbout D (T, some D, R, C, H, f, p, q) what) := if_pos hw
      rw [e1] at k
      have n1 : ¬ what < 0 := by omega
      have n2 : what ≤ 12 := hw.2
      simp only [s113_0, s113_1, s113_4, s113_7, s113_8, s113_11, s113_12, s113_14, s113_17, s113_18, s113_19, s113_22, s113_23, s113_24, s113_25, Int.toNat_natCast, true_and, and_true, true_or, or_true, false_or, or_false, zwr_id, zpu_some, zpu_none, reduceIte, Int.reduceLE, Int.reduceLT, Int.reduceEq, Int.reduceNeg, Int.reduceAdd, Int.reduceSub, Int.reduceMul, Int.reduceToNat, Nat.reduceAdd, Nat.reduceLeDiff, Nat.reduceEqDiff, Nat.reduceLT, eq_self, ne_eq, not_false_eq_true, not_true_eq_false, a1, b11, n1, n2]
      by_cases h6 : 6 ≤ what
      · simp only [s113_27, s113_41, s113_42, s113_43, Int.toNat_natCast, true_and, and_true, true_or, or_true, false_or, or_false, zwr_id, zpu_some, zpu_none, reduceIte, Int.reduceLE, Int.reduceLT, Int.reduceEq, Int.reduceNeg, Int.reduceAdd, Int.reduceSub, Int.reduceMul, Int.reduceToNat, Nat.reduceAdd, Nat.reduceLeDiff, Nat.reduceEqDiff, Nat.reduceLT, eq_self, ne_eq, not_false_eq_true, not_true_eq_false, h6, a1]
        refine c_rFact (D := D) hO hB ⟨h6, n2⟩ ?_
        simp only [s113_46, s113_49, Int.toNat_natCast, true_and, and_true, true_or, or_true, false_or, or_false, zwr_id, zpu_some, zpu_none, reduceIte, Int.reduceLE, Int.reduceLT, Int.reduceEq, Int.reduceNeg, Int.reduceAdd, Int.reduceSub, Int.reduceMul, Int.reduceToNat, Nat.reduceAdd, Nat.reduceLeDiff, Nat.reduceEqDiff, Nat.reduceLT, eq_self, ne_eq, not_false_eq_true, not_true_eq_false, x_accept a1, a1]
        exact k _ (zCI_ans h) zFR_ans
      · obtain ⟨⟨D', hS, hD'⟩, -⟩ := hB.2.2.2.2.2.2.2.2.2.2
        obtain ⟨rfl, hT⟩ := hD' D rfl
        have s1 := hS.1.1
        obtain ⟨-, -, -, q1, q2, q3, -, -, -, q7, q8, q9, -⟩ := hS.1
        obtain ⟨-, l1, l2, l3, -⟩ := hS.2
        have t1 := l1.1
        have t2 := l2.1
        have t3 := l3.1
        have n1' := (zKL_n l1).1
        have n2' := (zKL_n l2).1
        have n3' := (zKL_n l3).1
        obtain ⟨g1, g2, g3⟩ := hT
        have t4 := g1.1
        have t5 := g2.1
        have t6 := g3.1
        have n4 := g1.2.2.2.2.2.2.2.2.2.2.2.2.2.1
        have n5 := g2.2.2.2.2.2.2.2.2.2.2.2.2.2.1
        have n6 := g3.2.2.2.2.2.2.2.2.2.2.2.2.2.1
        rw [dTL_len] at n4
        rw [dTM_len] at n5
        rw [dTE_len] at n6
        have : what = 0 ∨ what = 1 ∨ what = 2 ∨ what = 3 ∨ what = 4 ∨ what = 5 := by omega
        rcases this with e | e | e | e | e | e <;> subst e <;> simp only [s113_27, s113_30, s113_31, s113_34, s113_35, s113_38, s113_41, s113_42, s113_43, s113_46, s113_49, s69_0, s69_1, s69_36, s69_37, s69_40, s69_43, s69_44, s69_45, s69_48, s69_51, s69_52, s69_53, s69_56, s69_59, s69_60, s69_61, s69_64, s69_67, s69_68, s69_69, s69_72, s69_75, s69_76, s69_77, s69_80, s69_83, Int.toNat_natCast, true_and, and_true, true_or, or_true, false_or, or_false, zwr_id, zpu_some, zpu_none, reduceIte, Int.reduceLE, Int.reduceLT, Int.reduceEq, Int.reduceNeg, Int.reduceAdd, Int.reduceSub, Int.reduceMul, Int.reduceToNat, Nat.reduceAdd, Nat.reduceLeDiff, Nat.reduceEqDiff, Nat.reduceLT, eq_self, ne_eq, not_false_eq_true, not_true_eq_false, a1, p9, s1, q1, q2, q3, q7, q8, q9, t1, t2, t3, t4, t5, t6, n1', n2', n3', n4, n5, n6, x_accept a1]
        all_goals exact k _ (zCI_ans h) zFR_ans
    · have e1 : sAbout (T, some D, R, C, H, f, p, q) what = gN (T, some D, R, C, H, f, p, q) 1 := if_neg hw
      rw [e1] at k
      have fin := k _ (zCI_ans h) zFR_ans
      by_cases n1 : what < 0
      · simp only [s113_0, s113_1, s113_4, s113_7, s113_8, s113_11, s113_12, s113_14, s113_17, s113_18, s113_19, s113_22, s113_23, s113_24, s113_25, s113_27, s113_30, s113_31, s113_34, s113_35, s113_38, s113_41, s113_42, s113_43, s113_46, s113_49, Int.toNat_natCast, true_and, and_true, true_or, or_true, false_or, or_false, zwr_id, zpu_some, zpu_none, reduceIte, Int.reduceLE, Int.reduceLT, Int.reduceEq, Int.reduceNeg, Int.reduceAdd, Int.reduceSub, Int.reduceMul, Int.reduceToNat, Nat.reduceAdd, Nat.reduceLeDiff, Nat.reduceEqDiff, Nat.reduceLT, eq_self, ne_eq, not_false_eq_true, not_true_eq_false, a1, b11, n1, x_refuse a1]
        exact fin
      · have n2 : ¬ what ≤ 12 := by omega
        simp only [s113_0, s113_1, s113_4, s113_7, s113_8, s113_11, s113_12, s113_14, s113_17, s113_18, s113_19, s113_22, s113_23, s113_24, s113_25, s113_27, s113_30, s113_31, s113_34, s113_35, s113_38, s113_41, s113_42, s113_43, s113_46, s113_49, Int.toNat_natCast, true_and, and_true, true_or, or_true, false_or, or_false, zwr_id, zpu_some, zpu_none, reduceIte, Int.reduceLE, Int.reduceLT, Int.reduceEq, Int.reduceNeg, Int.reduceAdd, Int.reduceSub, Int.reduceMul, Int.reduceToNat, Nat.reduceAdd, Nat.reduceLeDiff, Nat.reduceEqDiff, Nat.reduceLT, eq_self, ne_eq, not_false_eq_true, not_true_eq_false, a1, b11, n1, n2, x_refuse a1]
        exact fin
