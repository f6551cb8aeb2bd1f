/-! numbers of a SCRIPT's parts -/
theorem dOk_n {D : zD} (h : dOk D) (hl : dLacks D = false) : (1 ≤ dnL D ∧ dnL D ≤ 14) ∧ (1 ≤ dnM D ∧ dnM D ≤ 16) ∧ (1 ≤ dnE D ∧ dnE D ≤ 19) := by
  have l1 : (dLe D).length ≤ (dC D).length := List.length_filter_le _ _
  have l2 : (dEn D).length ≤ (dC D).length := List.length_filter_le _ _
  have l3 : (dPV D).length ≤ (dP D).length := List.length_filter_le _ _
  have l4 : (dPE D).length ≤ (dP D).length := List.length_filter_le _ _
  obtain ⟨b1, b2, b3, b4, b5⟩ := h.2.2.1
  unfold dLacks at hl
  rw [Bool.or_eq_false_iff] at hl
  have c1 : 0 < (dLe D).length := by
    rw [List.length_pos_iff]
    intro e
    rw [e] at hl
    cases hl.1
  have c2 : 0 < (dV D).length := by
    rw [List.length_pos_iff]
    intro e
    rw [e] at hl
    cases hl.2
  unfold dnL dnM dnE
  omega
theorem dN_all {D : zD} (h : dOk D) (hl : dLacks D = false) : dnL D * dnM D ≤ 224 ∧ dnL D * dnM D * dnE D ≤ 4256 ∧ 1 ≤ dnL D * dnM D ∧ 1 ≤ dnL D * dnM D * dnE D := by
  obtain ⟨⟨a1, a2⟩, ⟨b1, b2⟩, c1, c2⟩ := dOk_n h hl
  have h1 : dnL D * dnM D ≤ 14 * 16 := Nat.mul_le_mul a2 b2
  have h2 : dnL D * dnM D * dnE D ≤ 14 * 16 * 19 := Nat.mul_le_mul h1 c2
  have h3 : 1 * 1 ≤ dnL D * dnM D := Nat.mul_le_mul a1 b1
  have h4 : 1 * 1 * 1 ≤ dnL D * dnM D * dnE D := Nat.mul_le_mul h3 c1
  omega
/-- what the class asks of THE SCRIPT's tables -/
theorem sc_facts {L : zY} {m : zM} {T : List Int} {D : zD} {R : List Int} {C : Nat} {H : zHs} {sc sp : Nat} (hB : zCB L m T (some D) R C H sc sp) : zSd L m sc D ∧ zSt L m sc D := by
  obtain ⟨⟨D', hS, hD'⟩, -⟩ := hB.2.2.2.2.2.2.2.2.2.2
  obtain ⟨rfl, hT⟩ := hD' D rfl
  exact ⟨hS, hT⟩
theorem zPT_n {L : zY} {m : zM} {o cap : Nat} {es : List (Int × Int)} {ns : Nat} {sn : Nat → Int} (h : zPT L m o cap es ns sn) : zt L o = 3 ∧ m o 4 = (es.length : Int) ∧ es.length ≤ cap := ⟨h.1, h.2.2.2.2.2.2.2.2.2.2.2.2.2.1, h.2.2.2.2.2.2.2.2.2.2.2.2.2.2.1⟩
theorem x_pthas {L : zY} {m : zM} {Q : zQ} {o cap : Nat} {es : List (Int × Int)} {ns : Nat} {sn : Nat → Int} {n : Int} (h : zPT L m o cap es ns sn) : zwp 15 0 [zA o, zI n] [] L m Q ↔ Q (some (zI (if 0 ≤ n ∧ n < (es.length : Int) then 1 else 0))) L m := by
  obtain ⟨h1, h2, h3⟩ := zPT_n h
  simp only [s15_0, s15_1, s15_4, s15_5, s15_6, s15_9, s15_12, s15_13, s15_16, s15_17, Int.toNat_natCast, true_and, and_true, true_or, or_true, false_or, or_false, zwr_id, zpu_some, zpu_none, reduceIte, Int.reduceLE, Int.reduceLT, Int.reduceEq, Int.reduceNeg, Int.reduceAdd, Int.reduceSub, Int.reduceMul, Int.reduceToNat, Nat.reduceAdd, Nat.reduceLeDiff, Nat.reduceEqDiff, Nat.reduceLT, eq_self, ne_eq, not_false_eq_true, not_true_eq_false, h1, h2]
  by_cases c1 : n < 0
  · rw [if_pos c1, if_neg (by omega)]
  · by_cases c2 : (es.length : Int) ≤ n
    · rw [if_neg c1, if_pos c2, if_neg (by omega)]
    · rw [if_neg c1, if_neg c2, if_pos (by omega)]
theorem x_numOf {L : zY} {m : zM} {Q : zQ} {o cap : Nat} {es : List (Int × Int)} {ns : Nat} {sn : Nat → Int} {key : Int} (h : zPT L m o cap es ns sn) (hk : 97 ≤ key ∧ key < 123) : zwp 16 0 [zA o, zI key, zU] [] L m Q ↔ Q (some (zI (sn (key - 97).toNat))) L m := by
  obtain ⟨c, hc, rfl⟩ : ∃ c : Nat, c < 26 ∧ key = (c : Int) + 97 := ⟨(key - 97).toNat, by omega, by omega⟩
  rw [x_num h hc, show ((c : Int) + 97 - 97).toNat = c by omega]
def fLet (D : zD) (k : Nat) (what : Int) : Int := if what = 0 then dS D k else if what = 1 then dNL D k else if what = 2 then dNE D k else if what = 3 then dNM D k else dTw D k
def sLet (g : zG) (key what : Int) : Int × zG := match gD g with
  | none => gN g 1
  | some D => if (97 ≤ key ∧ key < 123 ∧ dS D (key - 97).toNat ≠ -1) ∧ 0 ≤ what ∧ what ≤ 4 then gA g (fLet D (key - 97).toNat what) else gN g 1
theorem dTw_lead {D : zD} (h : dOk D) (k : Nat) : (if dNL D k = dNL D k ∧ dNL D k ≠ -2 ∧ dTw D k ≠ -2 then dTw D k else -2) = dTw D k := by
  by_cases e : dTw D k = -2
  · rw [if_neg (fun q => q.2.2 e), e]
  · rw [if_pos]
    refine ⟨rfl, ?_, e⟩
    have hk : k ∈ dT D := by rcases dTw_rng h (k := k) with r | r; exact absurd r e; exact r.2.2
    have hl := (dLe_mem h).mpr (h.1.2.2.2.1 k hk).2
    obtain ⟨j, hj, _, e2⟩ := ixf_in (dLe_nd h) (i := 0) (f := fun _ => -2) hl
    show ixf (dLe D) 0 (fun _ => -2) k ≠ -2
    rw [e2]; omega
theorem c_letter {L : zY} {m : zM} {Q : zQ} {g : zG} {key what : Int} (hg : gOk g) (h : zCI L m g) (k : ∀ m', zCI L m' (sLet g key what).2 → zFR 2 331 m m' → Q (some (zI (sLet g key what).1)) L m') : zwp 115 0 [zA 2, zI key, zI what] [] L m Q := by
  have h' := h
  obtain ⟨T, od, R, C, H, f, p, q⟩ := g
  obtain ⟨sc, sp, hO, hB⟩ := h'
  have a1 := hO.1
  have p9 := hO.2.1.2.2.2.2.2.2.2.2.2.1
  cases od with
  | none =>
    have b11 : m 2 11 = 0 := hO.2.2.1
    simp only [s115_0, s115_1, s115_4, s115_7, s115_8, s115_11, s115_12, s115_15, s115_18, s115_19, s115_22, s115_23, s115_24, s115_27, s115_28, s115_29, s115_32, s115_33, s115_34, s115_35, s115_38, s115_39, s115_40, s115_43, s115_46, Int.toNat_natCast, true_and, and_true, true_or, or_true, false_or, or_false, zwr_id, zpu_some, zpu_none, reduceIte, Int.reduceLE, Int.reduceLT, Int.reduceEq, Int.reduceNeg, Int.reduceAdd, Int.reduceSub, Int.reduceMul, Int.reduceToNat, Nat.reduceAdd, Nat.reduceLeDiff, Nat.reduceEqDiff, Nat.reduceLT, eq_self, ne_eq, not_false_eq_true, not_true_eq_false, a1, b11, x_refuse a1]
    exact k _ (zCI_ans h) zFR_ans
  | some D =>
    have b11 : m 2 11 = 1 := hO.2.2.1
    obtain ⟨hS, hT⟩ := sc_facts hB
    have hD := (hg.2.1 D rfl).1
    have s1 := hS.1.1
    have q7 := hS.1.2.2.2.2.2.2.2.2.2.1
    have q8 := hS.1.2.2.2.2.2.2.2.2.2.2.1
    have q9 := hS.1.2.2.2.2.2.2.2.2.2.2.2.1
    have t7 := hT.1.1
    have t8 := hT.2.1.1
    have t9 := hT.2.2.1
    by_cases hk : 97 ≤ key ∧ key < 123 ∧ dS D (key - 97).toNat ≠ -1
    · by_cases hw : 0 ≤ what ∧ what ≤ 4
      · have e1 : sLet (T, some D, R, C, H, f, p, q) key what = gA (T, some D, R, C, H, f, p, q) (fLet D (key - 97).toNat what) := if_pos ⟨hk, hw⟩
        rw [e1] at k
        have fin := k _ (zCI_ans h) zFR_ans
        have n1 : ¬ what < 0 := by omega
        obtain ⟨c, hc, ek⟩ : ∃ c : Nat, c < 26 ∧ key = (c : Int) + 97 := ⟨(key - 97).toNat, by omega, by omega⟩
        have ec : (key - 97).toNat = c := by omega
        have h2 : 97 ≤ key ∧ key < 123 := ⟨hk.1, hk.2.1⟩
        have ew : zwith (dTL D) (dLe D).length (dNL D c) key = dTw D c := by rw [ek, dTL_with hD]; exact dTw_lead hD c
        rw [ec] at fin hk
        have : what = 0 ∨ what = 1 ∨ what = 2 ∨ what = 3 ∨ what = 4 := by omega
        rcases this with e | e | e | e | e <;> subst e <;> simp only [s115_0, s115_1, s115_4, s115_7, s115_8, s115_11, s115_12, s115_15, s115_18, s115_19, s115_22, s115_23, s115_24, s115_27, s115_28, s115_29, s115_32, s115_33, s115_34, s115_35, s115_38, s115_39, s115_40, s115_43, s115_46, s70_0, s70_1, s70_32, s70_33, s70_34, s70_37, s70_38, s70_39, s70_42, s70_43, s70_46, s70_47, s70_48, s70_51, s70_52, s70_55, s70_56, s70_57, s70_60, s70_61, s70_64, s70_65, s70_66, s70_69, s70_70, s70_73, s70_74, s70_77, s70_78, s70_81, Int.toNat_natCast, true_and, and_true, true_or, or_true, false_or, or_false, zwr_id, zpu_some, zpu_none, reduceIte, Int.reduceLE, Int.reduceLT, Int.reduceEq, Int.reduceNeg, Int.reduceAdd, Int.reduceSub, Int.reduceMul, Int.reduceToNat, Nat.reduceAdd, Nat.reduceLeDiff, Nat.reduceEqDiff, Nat.reduceLT, eq_self, ne_eq, not_false_eq_true, not_true_eq_false, a1, b11, p9, s1, x_isKey hS, ec, hk, and_self, n1, x_sk hS, h2, q7, q8, q9, t7, t8, t9, x_numOf hT.1 h2, x_numOf hT.2.1 h2, x_numOf hT.2.2 h2, x_with hT.1, ew, x_accept a1]
        all_goals exact fin
      · have e1 : sLet (T, some D, R, C, H, f, p, q) key what = gN (T, some D, R, C, H, f, p, q) 1 := if_neg (fun q => hw q.2)
        rw [e1] at k
        have fin := k _ (zCI_ans h) zFR_ans
        by_cases n1 : what < 0
        · simp only [s115_0, s115_1, s115_4, s115_7, s115_8, s115_11, s115_12, s115_15, s115_18, s115_19, s115_22, s115_23, s115_24, s115_27, s115_28, s115_29, s115_32, s115_33, s115_34, s115_35, s115_38, s115_39, s115_40, s115_43, s115_46, Int.toNat_natCast, true_and, and_true, true_or, or_true, false_or, or_false, zwr_id, zpu_some, zpu_none, reduceIte, Int.reduceLE, Int.reduceLT, Int.reduceEq, Int.reduceNeg, Int.reduceAdd, Int.reduceSub, Int.reduceMul, Int.reduceToNat, Nat.reduceAdd, Nat.reduceLeDiff, Nat.reduceEqDiff, Nat.reduceLT, eq_self, ne_eq, not_false_eq_true, not_true_eq_false, a1, b11, p9, s1, x_isKey hS, hk, and_self, n1, x_refuse a1]
          exact fin
        · have n2 : ¬ what ≤ 4 := by omega
          simp only [s115_0, s115_1, s115_4, s115_7, s115_8, s115_11, s115_12, s115_15, s115_18, s115_19, s115_22, s115_23, s115_24, s115_27, s115_28, s115_29, s115_32, s115_33, s115_34, s115_35, s115_38, s115_39, s115_40, s115_43, s115_46, Int.toNat_natCast, true_and, and_true, true_or, or_true, false_or, or_false, zwr_id, zpu_some, zpu_none, reduceIte, Int.reduceLE, Int.reduceLT, Int.reduceEq, Int.reduceNeg, Int.reduceAdd, Int.reduceSub, Int.reduceMul, Int.reduceToNat, Nat.reduceAdd, Nat.reduceLeDiff, Nat.reduceEqDiff, Nat.reduceLT, eq_self, ne_eq, not_false_eq_true, not_true_eq_false, a1, b11, p9, s1, x_isKey hS, hk, and_self, n1, n2, x_refuse a1]
          exact fin
    · have e1 : sLet (T, some D, R, C, H, f, p, q) key what = gN (T, some D, R, C, H, f, p, q) 1 := if_neg (fun q => hk q.1)
      rw [e1] at k
      have fin := k _ (zCI_ans h) zFR_ans
      have e2 : (if 97 ≤ key ∧ key < 123 ∧ dS D (key - 97).toNat ≠ -1 then (1 : Int) else 0) = 0 := if_neg hk
      simp only [s115_0, s115_1, s115_4, s115_7, s115_8, s115_11, s115_12, a1, b11, p9, s1, x_isKey hS, true_and, Int.toNat_natCast, Int.reduceEq, reduceIte]
      rw [e2]
      simp only [s115_15, s115_18, s115_19, s115_22, s115_23, s115_24, s115_27, s115_28, s115_29, s115_32, Int.toNat_natCast, true_and, and_true, true_or, or_true, false_or, or_false, zwr_id, zpu_some, zpu_none, reduceIte, Int.reduceLE, Int.reduceLT, Int.reduceEq, Int.reduceNeg, Int.reduceAdd, Int.reduceSub, Int.reduceMul, Int.reduceToNat, Nat.reduceAdd, Nat.reduceLeDiff, Nat.reduceEqDiff, Nat.reduceLT, eq_self, ne_eq, not_false_eq_true, not_true_eq_false, a1, x_refuse a1]
      exact fin
