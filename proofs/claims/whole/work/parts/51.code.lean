theorem i32 {x : Int} (h1 : 0 ≤ x) (h2 : x < 2147483648) : (Int32.ofInt x).toInt = x := by
  rw [Int32.toInt_ofInt]
  show x.bmod 4294967296 = x
  exact Int.bmod_eq_of_le (by omega) (by omega)
theorem zdiv_nn {x y : Int} (h1 : 0 ≤ x) (h2 : x < 2147483648) (h3 : 0 < y) (h4 : y < 2147483648) : zdiv x y = x / y := by
  have h5 : 0 ≤ x / y := Int.ediv_nonneg h1 (by omega)
  have h6 : x / y ≤ x := Int.ediv_le_self _ h1
  unfold zdiv
  rw [Int32.toInt_div, i32 h1 h2, i32 (by omega) h4, Int.tdiv_eq_ediv_of_nonneg h1]
  exact Int.bmod_eq_of_le (by omega) (by omega)
theorem zrem_nn {x y : Int} (h1 : 0 ≤ x) (h2 : x < 2147483648) (h3 : 0 < y) (h4 : y < 2147483648) : zrem x y = x % y := by
  have h5 : 0 ≤ x / y := Int.ediv_nonneg h1 (by omega)
  have h7 : x / y * y + x % y = x := Int.ediv_mul_add_emod x y
  have h8 : 0 ≤ x % y := Int.emod_nonneg _ (by omega)
  have h9 : x % y < y := Int.emod_lt_of_pos _ h3
  have h10 : 0 ≤ x / y * y := Int.mul_nonneg h5 (by omega)
  have e1 : (Int32.ofInt x / Int32.ofInt y).toInt = x / y := zdiv_nn h1 h2 h3 h4
  unfold zrem
  rw [Int32.toInt_sub, Int32.toInt_mul, e1, i32 h1 h2, i32 (by omega) h4]
  have e2 : (x / y * y).bmod (2 ^ 32) = x / y * y := Int.bmod_eq_of_le (by omega) (by omega)
  rw [e2]
  have e3 : x - x / y * y = x % y := by omega
  rw [e3]
  exact Int.bmod_eq_of_le (by omega) (by omega)
def zcod (D : zD) (l mm e : Int) : Int := zwr (zwr (zwr (zwr (l * (dnM D : Int)) + mm) * (dnE D : Int)) + e)
def sCode (g : zG) (l mm e : Int) : Int × zG := match gD g with
  | none => gN g 1
  | some D => if (0 ≤ l ∧ l < (dnL D : Int)) ∧ (0 ≤ mm ∧ mm < (dnM D : Int)) ∧ 0 ≤ e ∧ e < (dnE D : Int) then gA g (zcod D l mm e) else gN g 1
theorem st_n {L : zY} {m : zM} {c : Nat} {D : zD} (hT : zSt L m c D) : (zt L (c + 14) = 3 ∧ m (c + 14) 4 = (dnL D : Int)) ∧ (zt L (c + 18) = 3 ∧ m (c + 18) 4 = (dnM D : Int)) ∧ (zt L (c + 22) = 3 ∧ m (c + 22) 4 = (dnE D : Int)) := by
  obtain ⟨g1, g2, g3⟩ := hT
  have n1 := zPT_n g1
  have n2 := zPT_n g2
  have n3 := zPT_n g3
  rw [dTL_len] at n1
  rw [dTM_len] at n2
  rw [dTE_len] at n3
  exact ⟨⟨n1.1, n1.2.1⟩, ⟨n2.1, n2.2.1⟩, ⟨n3.1, n3.2.1⟩⟩
theorem c_code {L : zY} {m : zM} {Q : zQ} {g : zG} {l mm e : Int} (h : zCI L m g) (k : ∀ m', zCI L m' (sCode g l mm e).2 → zFR 2 331 m m' → Q (some (zI (sCode g l mm e).1)) L m') : zwp 116 0 [zA 2, zI l, zI mm, zI e] [] L m Q := by
  have h' := h
  obtain ⟨T, od, R, C, H, f, p, q⟩ := g
  obtain ⟨sc, sp, hO, hB⟩ := h'
  have a1 := hO.1
  have p9 := hO.2.1.2.2.2.2.2.2.2.2.2.1
  cases od with
  | none =>
    have b11 : m 2 11 = 0 := hO.2.2.1
    simp only [s116_0, s116_1, s116_4, s116_7, s116_8, s116_11, s116_14, s116_15, s116_18, s116_21, s116_22, s116_25, s116_28, s116_29, s116_32, s116_35, s116_36, s116_39, s116_42, s116_43, s116_46, s116_49, s116_50, s116_51, s116_54, s116_55, s116_56, s116_57, s116_60, s116_61, s116_62, s116_63, s116_66, s116_69, Int.toNat_natCast, true_and, and_true, true_or, or_true, false_or, or_false, zwr_id, zpu_some, zpu_none, reduceIte, Int.reduceLE, Int.reduceLT, Int.reduceEq, Int.reduceNeg, Int.reduceAdd, Int.reduceSub, Int.reduceMul, Int.reduceToNat, Nat.reduceAdd, Nat.reduceLeDiff, Nat.reduceEqDiff, Nat.reduceLT, eq_self, ne_eq, not_false_eq_true, not_true_eq_false, a1, b11, x_refuse a1]
    exact k _ (zCI_ans h) zFR_ans
  | some D =>
    have b11 : m 2 11 = 1 := hO.2.2.1
    obtain ⟨hS, hT⟩ := sc_facts hB
    have s1 := hS.1.1
    have q7 := hS.1.2.2.2.2.2.2.2.2.2.1
    have q8 := hS.1.2.2.2.2.2.2.2.2.2.2.1
    have q9 := hS.1.2.2.2.2.2.2.2.2.2.2.2.1
    obtain ⟨⟨t7, n7⟩, ⟨t8, n8⟩, ⟨t9, n9⟩⟩ := st_n hT
    have x7 := fun (Q : zQ) (n : Int) => x_pthas (Q := Q) (n := n) hT.1
    have x8 := fun (Q : zQ) (n : Int) => x_pthas (Q := Q) (n := n) hT.2.1
    have x9 := fun (Q : zQ) (n : Int) => x_pthas (Q := Q) (n := n) hT.2.2
    rw [dTL_len] at x7
    rw [dTM_len] at x8
    rw [dTE_len] at x9
    have bad : ¬ ((0 ≤ l ∧ l < (dnL D : Int)) ∧ (0 ≤ mm ∧ mm < (dnM D : Int)) ∧ 0 ≤ e ∧ e < (dnE D : Int)) → Q (some (zI (-1))) L (zup (zup m 2 14 1) 2 13 (-1)) := fun hn => by
      have e1 : sCode (T, some D, R, C, H, f, p, q) l mm e = gN (T, some D, R, C, H, f, p, q) 1 := if_neg hn
      rw [e1] at k
      exact k _ (zCI_ans h) zFR_ans
    by_cases h1 : 0 ≤ l ∧ l < (dnL D : Int)
    · by_cases h2 : 0 ≤ mm ∧ mm < (dnM D : Int)
      · by_cases h3 : 0 ≤ e ∧ e < (dnE D : Int)
        · have e1 : sCode (T, some D, R, C, H, f, p, q) l mm e = gA (T, some D, R, C, H, f, p, q) (zcod D l mm e) := if_pos ⟨h1, h2, h3⟩
          rw [e1] at k
          have fin := k _ (zCI_ans h) zFR_ans
          unfold zcod at fin
          simp only [s116_0, s116_1, s116_4, s116_7, s116_8, s116_11, s116_14, s116_15, s116_18, s116_21, s116_22, s116_25, s116_28, s116_29, s116_32, s116_35, s116_36, s116_39, s116_42, s116_43, s116_46, s116_49, s116_50, s116_51, s116_54, s116_55, s116_56, s116_57, s116_60, s116_61, s116_62, s116_63, s116_66, s116_69, s71_0, s71_1, s71_2, s71_5, s71_8, s71_9, s71_10, s71_11, s71_12, s71_15, s71_18, s71_19, s71_20, s71_21, Int.toNat_natCast, true_and, and_true, zpu_some, zpu_none, reduceIte, Int.reduceEq, Nat.reduceLeDiff, a1, b11, p9, s1, q7, q8, q9, t7, t8, t9, n7, n8, n9, x7, x8, x9, h1, h2, h3, and_self, x_accept a1]
          exact fin
        · have c3 : (if 0 ≤ e ∧ e < (dnE D : Int) then (1 : Int) else 0) = 0 := if_neg h3
          simp only [s116_0, s116_1, s116_4, s116_7, s116_8, s116_11, s116_14, s116_15, s116_18, s116_21, s116_22, s116_25, s116_28, s116_29, s116_32, s116_35, s116_36, s116_39, s116_42, s116_43, s116_46, s116_49, s116_50, s116_51, s116_54, s116_55, s116_56, s116_57, s116_60, s116_61, s116_62, s116_63, s116_66, s116_69, Int.toNat_natCast, true_and, and_true, zpu_some, zpu_none, reduceIte, Int.reduceEq, Nat.reduceLeDiff, a1, b11, p9, s1, q7, q8, q9, t7, t8, t9, x7, x8, x9, h1, h2, c3, and_self, x_refuse a1]
          exact bad (fun q => h3 q.2.2)
      · have c3 : (if 0 ≤ mm ∧ mm < (dnM D : Int) then (1 : Int) else 0) = 0 := if_neg h2
        simp only [s116_0, s116_1, s116_4, s116_7, s116_8, s116_11, s116_14, s116_15, s116_18, s116_21, s116_22, s116_25, s116_28, s116_29, s116_32, s116_35, s116_36, s116_39, s116_42, s116_43, s116_46, s116_49, s116_50, s116_51, s116_54, s116_55, s116_56, s116_57, s116_60, s116_61, s116_62, s116_63, s116_66, s116_69, Int.toNat_natCast, true_and, and_true, zpu_some, zpu_none, reduceIte, Int.reduceEq, Nat.reduceLeDiff, a1, b11, p9, s1, q7, q8, q9, t7, t8, t9, x7, x8, x9, h1, c3, and_self, x_refuse a1]
        exact bad (fun q => h2 q.2.1)
    · have c3 : (if 0 ≤ l ∧ l < (dnL D : Int) then (1 : Int) else 0) = 0 := if_neg h1
      simp only [s116_0, s116_1, s116_4, s116_7, s116_8, s116_11, s116_14, s116_15, s116_18, s116_21, s116_22, s116_25, s116_28, s116_29, s116_32, s116_35, s116_36, s116_39, s116_42, s116_43, s116_46, s116_49, s116_50, s116_51, s116_54, s116_55, s116_56, s116_57, s116_60, s116_61, s116_62, s116_63, s116_66, s116_69, Int.toNat_natCast, true_and, and_true, zpu_some, zpu_none, reduceIte, Int.reduceEq, Nat.reduceLeDiff, a1, b11, p9, s1, q7, q8, q9, t7, t8, t9, x7, x8, x9, c3, and_self, x_refuse a1]
      exact bad (fun q => h1 q.1)
/-! CODES taken apart -/
def dCL (D : zD) (x : Int) : Int := x / (dnE D : Int) / (dnM D : Int)
def dCM (D : zD) (x : Int) : Int := x / (dnE D : Int) % (dnM D : Int)
def dCE (D : zD) (x : Int) : Int := x % (dnE D : Int)
def dHas (D : zD) (x : Int) : Prop := 0 ≤ x ∧ x < ((dnL D * dnM D * dnE D : Nat) : Int)
theorem dC_rng {D : zD} {x : Int} (hD : dOk D) (hl : dLacks D = false) (h : dHas D x) : (0 ≤ dCL D x ∧ dCL D x < (dnL D : Int)) ∧ (0 ≤ dCM D x ∧ dCM D x < (dnM D : Int)) ∧ (0 ≤ dCE D x ∧ dCE D x < (dnE D : Int)) := by
  obtain ⟨⟨a1, a2⟩, ⟨b1, b2⟩, c1, c2⟩ := dOk_n hD hl
  have e0 : 0 ≤ x / (dnE D : Int) := Int.ediv_nonneg h.1 (by omega)
  have h2 : x < (dnL D : Int) * (dnM D : Int) * (dnE D : Int) := by have := h.2; rw [Int.natCast_mul, Int.natCast_mul] at this; exact this
  have e1 : x / (dnE D : Int) < (dnL D : Int) * (dnM D : Int) := Int.ediv_lt_of_lt_mul (by omega) h2
  exact ⟨⟨Int.ediv_nonneg e0 (by omega), Int.ediv_lt_of_lt_mul (by omega) e1⟩, ⟨Int.emod_nonneg _ (by omega), Int.emod_lt_of_pos _ (by omega)⟩, ⟨Int.emod_nonneg _ (by omega), Int.emod_lt_of_pos _ (by omega)⟩⟩
theorem x_hasCode {L : zY} {m : zM} {Q : zQ} {c : Nat} {D : zD} {x : Int} (hD : dOk D) (hl : dLacks D = false) (hS : zSd L m c D) (hT : zSt L m c D) : zwp 72 0 [zA c, zI x] [] L m Q ↔ Q (some (zI (if 0 ≤ x ∧ x < ((dnL D * dnM D * dnE D : Nat) : Int) then 1 else 0))) L m := by
  have s1 := hS.1.1
  have q7 := hS.1.2.2.2.2.2.2.2.2.2.1
  have q8 := hS.1.2.2.2.2.2.2.2.2.2.2.1
  have q9 := hS.1.2.2.2.2.2.2.2.2.2.2.2.1
  obtain ⟨⟨t7, n7⟩, ⟨t8, n8⟩, ⟨t9, n9⟩⟩ := st_n hT
  obtain ⟨m1, m2, m3, m4⟩ := dN_all hD hl
  simp only [s72_0, s72_1, s72_4, s72_5, s72_6, s72_9, s72_12, s72_13, s72_16, s72_19, s72_20, s72_21, s72_24, s72_27, s72_28, s72_31, s72_32, s72_35, s72_36, Int.toNat_natCast, true_and, and_true, zpu_some, zpu_none, reduceIte, Int.reduceEq, true_or, or_true, s1, q7, q8, q9, t7, t8, t9, n7, n8, n9, (show zwr ((dnL D : Int) * (dnM D : Int)) = ((dnL D * dnM D : Nat) : Int) by rw [← Int.natCast_mul]; exact zwr_id (by omega) (by omega)), (show zwr (((dnL D * dnM D : Nat) : Int) * (dnE D : Int)) = ((dnL D * dnM D * dnE D : Nat) : Int) by rw [← Int.natCast_mul]; exact zwr_id (by omega) (by omega))]
  by_cases c1 : x < 0
  · rw [if_pos c1, if_neg (by omega)]
  · by_cases c2 : ((dnL D * dnM D * dnE D : Nat) : Int) ≤ x
    · rw [if_neg c1, if_pos c2, if_neg (by omega)]
    · rw [if_neg c1, if_neg c2, if_pos (by omega)]
theorem dPart {D : zD} {x : Int} (hD : dOk D) (hl : dLacks D = false) (h : dHas D x) : zdiv x (dnE D : Int) = x / (dnE D : Int) ∧ zdiv (x / (dnE D : Int)) (dnM D : Int) = dCL D x ∧ zrem (x / (dnE D : Int)) (dnM D : Int) = dCM D x ∧ zrem x (dnE D : Int) = dCE D x := by
  obtain ⟨⟨a1, a2⟩, ⟨b1, b2⟩, c1, c2⟩ := dOk_n hD hl
  have m2 := (dN_all hD hl).2.1
  have hx := h.2
  have e0 : 0 ≤ x / (dnE D : Int) := Int.ediv_nonneg h.1 (by omega)
  have e1 : x / (dnE D : Int) ≤ x := Int.ediv_le_self _ h.1
  exact ⟨zdiv_nn h.1 (by omega) (by omega) (by omega), zdiv_nn e0 (by omega) (by omega) (by omega), zrem_nn e0 (by omega) (by omega) (by omega), zrem_nn h.1 (by omega) (by omega) (by omega)⟩
def dPt (D : zD) (x what : Int) : Int := if what = 2 then dCE D x else if what = 1 then dCM D x else dCL D x
theorem x_part {L : zY} {m : zM} {Q : zQ} {c : Nat} {D : zD} {x what : Int} (hD : dOk D) (hl : dLacks D = false) (hS : zSd L m c D) (hT : zSt L m c D) (hx : dHas D x) : zwp 73 0 [zA c, zI x, zI what, zU] [] L m Q ↔ Q (some (zI (dPt D x what))) L m := by
  have s1 := hS.1.1
  have q8 := hS.1.2.2.2.2.2.2.2.2.2.2.1
  have q9 := hS.1.2.2.2.2.2.2.2.2.2.2.2.1
  obtain ⟨-, ⟨t8, n8⟩, ⟨t9, n9⟩⟩ := st_n hT
  obtain ⟨⟨a1, a2⟩, ⟨b1, b2⟩, c1, c2⟩ := dOk_n hD hl
  obtain ⟨d1, d2, d3, d4⟩ := dPart hD hl hx
  have z1' : ¬ (dnM D : Int) ≤ 0 := by omega
  have z2' : 0 < (dnE D : Int) := by omega
  have z3' : ¬ (dnE D : Int) = 0 := by omega
  have z4' : ¬ (dnM D : Int) = 0 := by omega
  unfold dPt
  by_cases h2 : what = 2
  · simp only [s73_0, s73_1, s73_4, s73_7, s73_10, s73_11, s73_14, s73_17, s73_20, s73_22, s73_23, s73_24, s73_25, s73_28, s73_29, s73_30, s73_33, s73_36, s73_37, s73_38, s73_39, s73_40, s73_43, s73_46, s73_47, s73_48, s73_49, s73_50, s73_53, s73_54, s73_55, s73_58, s73_61, s73_62, s73_65, s73_66, s73_67, s73_70, s73_73, s73_74, Int.toNat_natCast, true_and, and_true, true_or, or_true, false_or, or_false, zwr_id, zpu_some, zpu_none, reduceIte, Int.reduceLE, Int.reduceLT, Int.reduceEq, Int.reduceNeg, Int.reduceAdd, Int.reduceSub, Int.reduceMul, Int.reduceToNat, Nat.reduceAdd, Nat.reduceLeDiff, Nat.reduceEqDiff, Nat.reduceLT, eq_self, ne_eq, not_false_eq_true, not_true_eq_false, s1, q8, q9, t8, t9, n8, n9, z1', z2', z3', z4', h2, d4]
  · by_cases h1 : what = 1
    · simp only [s73_0, s73_1, s73_4, s73_7, s73_10, s73_11, s73_14, s73_17, s73_20, s73_22, s73_23, s73_24, s73_25, s73_28, s73_29, s73_30, s73_33, s73_36, s73_37, s73_38, s73_39, s73_40, s73_43, s73_46, s73_47, s73_48, s73_49, s73_50, s73_53, s73_54, s73_55, s73_58, s73_61, s73_62, s73_65, s73_66, s73_67, s73_70, s73_73, s73_74, Int.toNat_natCast, true_and, and_true, true_or, or_true, false_or, or_false, zwr_id, zpu_some, zpu_none, reduceIte, Int.reduceLE, Int.reduceLT, Int.reduceEq, Int.reduceNeg, Int.reduceAdd, Int.reduceSub, Int.reduceMul, Int.reduceToNat, Nat.reduceAdd, Nat.reduceLeDiff, Nat.reduceEqDiff, Nat.reduceLT, eq_self, ne_eq, not_false_eq_true, not_true_eq_false, s1, q8, q9, t8, t9, n8, n9, z1', z2', z3', z4', h2, h1, d1, d3]
    · simp only [s73_0, s73_1, s73_4, s73_7, s73_10, s73_11, s73_14, s73_17, s73_20, s73_22, s73_23, s73_24, s73_25, s73_28, s73_29, s73_30, s73_33, s73_36, s73_37, s73_38, s73_39, s73_40, s73_43, s73_46, s73_47, s73_48, s73_49, s73_50, s73_53, s73_54, s73_55, s73_58, s73_61, s73_62, s73_65, s73_66, s73_67, s73_70, s73_73, s73_74, Int.toNat_natCast, true_and, and_true, true_or, or_true, false_or, or_false, zwr_id, zpu_some, zpu_none, reduceIte, Int.reduceLE, Int.reduceLT, Int.reduceEq, Int.reduceNeg, Int.reduceAdd, Int.reduceSub, Int.reduceMul, Int.reduceToNat, Nat.reduceAdd, Nat.reduceLeDiff, Nat.reduceEqDiff, Nat.reduceLT, eq_self, ne_eq, not_false_eq_true, not_true_eq_false, s1, q8, q9, t8, t9, n8, n9, z1', z2', z3', z4', h2, h1, d1, d2]
