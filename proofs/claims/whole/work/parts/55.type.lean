def gNT (g : zG) (why : Int) : Int × zG := (-1, ([], g.2.1, g.2.2.1, g.2.2.2.1, g.2.2.2.2.1, g.2.2.2.2.2.1, -1, why))
theorem x_isSign {L : zY} {m : zM} {Q : zQ} {sc : Nat} {D : zD} {x : Int} (a1 : zt L 2 = 10) (p9 : m 2 9 = (sc : Int)) (hS : zSd L m sc D) : zwp 126 0 [zA 2, zI x] [] L m Q ↔ Q (some (zI (if gSg D x then 1 else 0))) L m := by
  have s1 := hS.1.1
  unfold gSg
  by_cases h1 : x = 124
  · subst h1
    simp only [s126_0, s126_1, s126_3, s126_6, s126_7, s126_10, s126_11, s126_14, s126_17, s126_18, s126_21, s126_22, Int.toNat_natCast, true_and, and_true, true_or, or_true, false_or, or_false, zwr_id, zpu_some, zpu_none, reduceIte, Int.reduceLE, Int.reduceLT, Int.reduceEq, Int.reduceNeg, Int.reduceAdd, Int.reduceSub, Int.reduceMul, Int.reduceToNat, Nat.reduceAdd, Nat.reduceLeDiff, Nat.reduceEqDiff, Nat.reduceLT, eq_self, ne_eq, not_false_eq_true, not_true_eq_false]
    rfl
  · simp only [s126_0, s126_1, s126_3, s126_6, s126_7, s126_10, s126_11, Int.toNat_natCast, true_and, and_true, true_or, or_true, false_or, or_false, zwr_id, zpu_some, zpu_none, reduceIte, Int.reduceLE, Int.reduceLT, Int.reduceEq, Int.reduceNeg, Int.reduceAdd, Int.reduceSub, Int.reduceMul, Int.reduceToNat, Nat.reduceAdd, Nat.reduceLeDiff, Nat.reduceEqDiff, Nat.reduceLT, eq_self, ne_eq, not_false_eq_true, not_true_eq_false, h1, a1, p9, s1, x_isKey hS]
    by_cases hk : 97 ≤ x ∧ x < 123 ∧ dS D (x - 97).toNat ≠ -1
    · have c1 : isL x = true := isL_iff.mpr ⟨hk.1, hk.2.1⟩
      simp only [s126_14, s126_17, s126_18, s126_21, s126_22, Int.toNat_natCast, true_and, and_true, true_or, or_true, false_or, or_false, zwr_id, zpu_some, zpu_none, reduceIte, Int.reduceLE, Int.reduceLT, Int.reduceEq, Int.reduceNeg, Int.reduceAdd, Int.reduceSub, Int.reduceMul, Int.reduceToNat, Nat.reduceAdd, Nat.reduceLeDiff, Nat.reduceEqDiff, Nat.reduceLT, eq_self, ne_eq, not_false_eq_true, not_true_eq_false, hk, c1, and_self, decide_true, Bool.and_true, Bool.or_true, h1]
    · have c2 : (isL x && decide (dS D (x - 97).toNat ≠ -1)) = false := by
        rw [Bool.and_eq_false_iff]
        by_cases c1 : isL x = true
        · right
          rw [isL_iff] at c1
          exact decide_eq_false (fun q => hk ⟨c1.1, c1.2, q⟩)
        · left; exact Bool.not_eq_true _ ▸ c1
      have c3 : (if 97 ≤ x ∧ x < 123 ∧ dS D (x - 97).toNat ≠ -1 then (1 : Int) else 0) = 0 := if_neg hk
      simp only [ne_eq] at c3 c2
      rw [c3, c2]
      simp only [s126_14, s126_17, s126_18, s126_21, s126_22, Int.toNat_natCast, true_and, and_true, true_or, or_true, false_or, or_false, zwr_id, zpu_some, zpu_none, reduceIte, Int.reduceLE, Int.reduceLT, Int.reduceEq, Int.reduceNeg, Int.reduceAdd, Int.reduceSub, Int.reduceMul, Int.reduceToNat, Nat.reduceAdd, Nat.reduceLeDiff, Nat.reduceEqDiff, Nat.reduceLT, eq_self, ne_eq, not_false_eq_true, not_true_eq_false, Bool.or_false, Bool.false_eq_true, decide_false]
theorem all_take {xs : List Int} {p : Int → Bool} {n : Nat} (hn : n ≤ xs.length) : (xs.take n).all p = decide (fC (fun i => p (xs.getD i 0)) n 0 = n) := by
  rw [Bool.eq_iff_iff, decide_eq_true_iff, fC_all, List.all_eq_true]
  constructor
  · intro h j hj
    apply h
    rw [getD_lt (by omega)]
    rw [List.mem_take_iff_getElem]
    exact ⟨j, by omega, rfl⟩
  · intro h x hx
    rw [List.mem_take_iff_getElem] at hx
    obtain ⟨j, hj, e⟩ := hx
    have := h j (by omega)
    rw [getD_lt (by omega), e] at this
    exact this
theorem c_tSigns {L : zY} {m : zM} {Q : zQ} {sc n : Nat} {D : zD} {T : List Int} (a1 : zt L 2 = 10) (p0 : m 2 1 = 4) (p9 : m 2 9 = (sc : Int)) (hS : zSd L m sc D) (hT : zTp L m 4 T) (hn : n ≤ T.length) (k : Q (some (zI (if (T.take n).all (gSg D) then 1 else 0))) L m) : zwp 125 0 [zA 2, zI (n : Nat), zU] [] L m Q := by
  have t3 := hT.1
  have hl := hT.2.2.2.2.2.2.1
  obtain ⟨a, b, c⟩ := fC_spec (p := fun i => gSg D (T.getD i 0)) n 0
  rw [Nat.zero_add] at b c
  rw [all_take hn] at k
  generalize fC (fun i => gSg D (T.getD i 0)) n 0 = v at *
  simp only [s125_0, s125_1]
  refine zfor (n := v) (fun i => [zA 2, zI (n : Nat), zI (i : Nat)]) (fun _ m' => m' = m) ?_ ?_ 0 m (Nat.zero_le _) rfl
  · rintro i _ hi rfl ih
    have ih := ih _ rfl
    have b := b i (Nat.zero_le _) hi
    have hi1 : i < T.length := by omega
    rw [getD_lt hi1] at b
    have n1 : ¬ (n : Int) ≤ (i : Int) := by omega
    simp only [s125_2]
    simp only [s125_0, s125_1, s125_3, s125_4, s125_7, s125_8, s125_9, s125_12, s125_13, s125_16, s125_19, s125_22, s125_23, s125_24, s125_27, s125_30, s125_31, Int.toNat_natCast, true_and, and_true, true_or, or_true, false_or, or_false, zwr_id, zpu_some, zpu_none, reduceIte, Int.reduceLE, Int.reduceLT, Int.reduceEq, Int.reduceNeg, Int.reduceAdd, Int.reduceSub, Int.reduceMul, Int.reduceToNat, Nat.reduceAdd, Nat.reduceLeDiff, Nat.reduceEqDiff, Nat.reduceLT, eq_self, ne_eq, not_false_eq_true, not_true_eq_false, a1, p0, t3, n1, x_byteAt hT hi1, x_isSign a1 p9 hS, b, z1 (i := i) (by omega)]
    exact ih
  · rintro _ rfl
    simp only [s125_2]
    by_cases hv : v = n
    · rw [hv] at k ⊢
      simp only [s125_0, s125_1, s125_3, s125_4, s125_7, s125_8, s125_9, s125_12, s125_13, s125_16, s125_19, s125_22, s125_23, s125_24, s125_27, s125_30, s125_31, Int.toNat_natCast, true_and, and_true, true_or, or_true, false_or, or_false, zwr_id, zpu_some, zpu_none, reduceIte, Int.reduceLE, Int.reduceLT, Int.reduceEq, Int.reduceNeg, Int.reduceAdd, Int.reduceSub, Int.reduceMul, Int.reduceToNat, Nat.reduceAdd, Nat.reduceLeDiff, Nat.reduceEqDiff, Nat.reduceLT, eq_self, ne_eq, not_false_eq_true, not_true_eq_false]
      rw [if_pos (Int.le_refl _)]
      simp only [decide_true, reduceIte] at k
      exact k
    · have hi1 : v < T.length := by omega
      have c := c.resolve_left hv
      rw [getD_lt hi1] at c
      have n1 : ¬ (n : Int) ≤ (v : Int) := by omega
      rw [decide_eq_false hv] at k
      simp only [s125_0, s125_1, s125_3, s125_4, s125_7, s125_8, s125_9, s125_12, s125_13, s125_16, s125_19, s125_22, s125_23, s125_24, s125_27, s125_30, s125_31, Int.toNat_natCast, true_and, and_true, true_or, or_true, false_or, or_false, zwr_id, zpu_some, zpu_none, reduceIte, Int.reduceLE, Int.reduceLT, Int.reduceEq, Int.reduceNeg, Int.reduceAdd, Int.reduceSub, Int.reduceMul, Int.reduceToNat, Nat.reduceAdd, Nat.reduceLeDiff, Nat.reduceEqDiff, Nat.reduceLT, eq_self, ne_eq, not_false_eq_true, not_true_eq_false, a1, p0, t3, n1, x_byteAt hT hi1, x_isSign a1 p9 hS, c, Bool.false_eq_true]
      exact k
def sType (g : zG) (n : Int) : Int × zG := match gD g with
  | none => gN g 1
  | some D => if 0 ≤ n ∧ n ≤ ((gT g).length : Int) then (if ((gT g).take n.toNat).all (gSg D) = true then (if 80 < (gR g).length + n.toNat then gNT g 3 else gAct D g [] (gIns ((gT g).take n.toNat) (gR g) (gC g)) (gC g + n.toNat)) else gNT g 5) else gN g 2
theorem gIns_step {xs R : List Int} {C i : Nat} (hC : C ≤ R.length) (hi : i < xs.length) : (gIns (xs.take i) R C).take (C + i) ++ xs[i] :: (gIns (xs.take i) R C).drop (C + i) = gIns (xs.take (i + 1)) R C := by
  have e1 : (R.take C ++ xs.take i).length = C + i := by rw [List.length_append, List.length_take, List.length_take]; omega
  unfold gIns
  rw [List.take_append_of_le_length (by omega), List.take_of_length_le (by omega), List.drop_append_of_le_length (by omega), List.drop_of_length_le (by omega), List.nil_append, take_s hi]
  simp only [List.append_assoc, List.cons_append, List.nil_append]
theorem gIns_len {xs R : List Int} {C : Nat} : (gIns xs R C).length = R.length + xs.length := by
  unfold gIns
  rw [List.length_append, List.length_append, List.length_take, List.length_drop]; omega
/-- refused, THE TAPE empty -/
theorem zCI_rT {L : zY} {m : zM} {g : zG} {why : Int} (h : zCI L m g) : zCI L (zup (zup (zup m 4 1 0) 2 14 why) 2 13 (-1)) (gNT g why).2 := by
  obtain ⟨T, od, R, C, H, f, p, q⟩ := g
  obtain ⟨sc, sp, hO, hB⟩ := h
  obtain ⟨a1, a2, a3, a4, a5, a6, a7, a8, a9⟩ := id hB.1
  have hT : zTp L (zup m 4 1 0) 4 [] := ⟨a1, a2, by rw [zup_nk (by decide)]; exact a3, a4, a5, zup_same, Nat.zero_le _, zAL_nil, fun x hx => by cases hx⟩
  exact ⟨sc, sp, zCO_ans (zCO_eq (zup_nf (by decide)) hO), zCB_ans (zCB_T (fun a _ h3 _ => zup_nf h3) hT hB)⟩
theorem zFR_rT {m : zM} {q : Int} : zFR 2 331 m (zup (zup (zup m 4 1 0) 2 14 q) 2 13 (-1)) := zFR_up (zFR_up (zFR_up zFR_rf (by decide) (by decide)) (by decide) (by decide)) (by decide) (by decide)
theorem c_type {L : zY} {m : zM} {Q : zQ} {g : zG} {n : Int} (hg : gOk g) (h : zCI L m g) (k : ∀ m', zCI L m' (sType g n).2 → zFR 2 331 m m' → Q (some (zI (sType g n).1)) L m') : zwp 124 0 [zA 2, zI n, zU, zU] [] L m Q := by
  have h' := h
  obtain ⟨T, od, R, C, H, f, p, q⟩ := g
  obtain ⟨sc, sp, hO, hB⟩ := h'
  have a1 := hO.1
  have p0 := hO.2.1.1
  have p2 := hO.2.1.2.2.1
  have p6 := hO.2.1.2.2.2.2.2.2.1
  have p9 := hO.2.1.2.2.2.2.2.2.2.2.2.1
  have hT := hB.1
  have t3 := hT.1
  have hT3 := hT.2.2.2.2.2.2.1
  cases od with
  | none =>
    have b11 : m 2 11 = 0 := hO.2.2.1
    simp only [s124_0, s124_1, s124_4, s124_7, s124_8, s124_9, s124_12, Int.toNat_natCast, true_and, and_true, true_or, or_true, false_or, or_false, zwr_id, zpu_some, zpu_none, reduceIte, Int.reduceLE, Int.reduceLT, Int.reduceEq, Int.reduceNeg, Int.reduceAdd, Int.reduceSub, Int.reduceMul, Int.reduceToNat, Nat.reduceAdd, Nat.reduceLeDiff, Nat.reduceEqDiff, Nat.reduceLT, eq_self, ne_eq, not_false_eq_true, not_true_eq_false, a1, b11, x_refuse a1]
    exact k _ (zCI_ans h) zFR_ans
  | some D =>
    have b11 : m 2 11 = 1 := hO.2.2.1
    obtain ⟨hS, hSt⟩ := sc_facts hB
    obtain ⟨ov, hR⟩ := hB.2.2.1
    have hH := hB.2.2.2.2.2.2.1
    have t6 := hR.1
    have t30 := hH.1.1
    have n6 := hR.2.2.2.2.2.1
    have hD := (hg.2.1 D rfl).1
    have hC := hg.2.2.2.2.1
    have hRl := hR.2.2.2.2.2.2.1
    by_cases h1 : 0 ≤ n ∧ n ≤ (T.length : Int)
    · obtain ⟨j, rfl⟩ : ∃ j : Nat, n = (j : Int) := ⟨n.toNat, by omega⟩
      have hj : j ≤ T.length := by omega
      simp only [s124_0, s124_1, s124_4, s124_7, s124_8, s124_9, s124_12, s124_13, s124_14, s124_17, s124_18, s124_21, s124_24, s124_25, s124_26, s124_29, s124_30, s124_31, s124_32, Int.toNat_natCast, true_and, and_true, true_or, or_true, false_or, or_false, zwr_id, zpu_some, zpu_none, reduceIte, Int.reduceLE, Int.reduceLT, Int.reduceEq, Int.reduceNeg, Int.reduceAdd, Int.reduceSub, Int.reduceMul, Int.reduceToNat, Nat.reduceAdd, Nat.reduceLeDiff, Nat.reduceEqDiff, Nat.reduceLT, eq_self, ne_eq, not_false_eq_true, not_true_eq_false, a1, b11, p0, t3, x_reach hT, h1, and_self]
      refine c_tSigns a1 p0 p9 hS hT hj ?_
      by_cases h2 : (T.take j).all (gSg D) = true
      · have w1 : zwr ((R.length : Int) + (j : Int)) = ((R.length + j : Nat) : Int) := by rw [zwr_id (by omega) (by omega)]; omega
        simp only [s124_35, s124_38, s124_39, s124_42, s124_43, s124_44, s124_45, s124_48, s124_49, s124_52, s124_55, s124_56, s124_57, s124_59, Int.toNat_natCast, true_and, and_true, true_or, or_true, false_or, or_false, zwr_id, zpu_some, zpu_none, reduceIte, Int.reduceLE, Int.reduceLT, Int.reduceEq, Int.reduceNeg, Int.reduceAdd, Int.reduceSub, Int.reduceMul, Int.reduceToNat, Nat.reduceAdd, Nat.reduceLeDiff, Nat.reduceEqDiff, Nat.reduceLT, eq_self, ne_eq, not_false_eq_true, not_true_eq_false, h2, a1, p2, t6, n6, w1]
        clear w1
        by_cases h3 : 80 < R.length + j
        · have e1 : sType (T, some D, R, C, H, f, p, q) (j : Int) = gNT (T, some D, R, C, H, f, p, q) 3 := by
            show (if 0 ≤ (j : Int) ∧ (j : Int) ≤ (T.length : Int) then (if (T.take (j : Int).toNat).all (gSg D) = true then (if 80 < R.length + (j : Int).toNat then _ else _) else _) else _) = _
            rw [if_pos h1, Int.toNat_natCast, if_pos h2, if_pos h3]
          rw [e1] at k
          have n3 : ¬ ((R.length + j : Nat) : Int) ≤ 80 := by omega
          simp only [s124_62, s124_63, s124_64, s124_65, s124_107, s124_108, s124_111, s124_114, s124_115, s124_118, s124_119, s124_122, s124_125, s124_126, s124_127, s124_130, Int.toNat_natCast, true_and, and_true, true_or, or_true, false_or, or_false, zwr_id, zpu_some, zpu_none, reduceIte, Int.reduceLE, Int.reduceLT, Int.reduceEq, Int.reduceNeg, Int.reduceAdd, Int.reduceSub, Int.reduceMul, Int.reduceToNat, Nat.reduceAdd, Nat.reduceLeDiff, Nat.reduceEqDiff, Nat.reduceLT, eq_self, ne_eq, not_false_eq_true, not_true_eq_false, n3, a1, p0, t3, s103_0, s103_1, s103_2, s103_5, x_refuse a1]
          exact k _ (zCI_rT h) zFR_rT
        · have e1 : sType (T, some D, R, C, H, f, p, q) (j : Int) = gAct D (T, some D, R, C, H, f, p, q) [] (gIns (T.take j) R C) (C + j) := by
            show (if 0 ≤ (j : Int) ∧ (j : Int) ≤ (T.length : Int) then (if (T.take (j : Int).toNat).all (gSg D) = true then (if 80 < R.length + (j : Int).toNat then _ else gAct D _ [] (gIns (T.take (j : Int).toNat) R C) (C + (j : Int).toNat)) else _) else _) = _
            rw [if_pos h1, Int.toNat_natCast, if_pos h2, if_neg h3]
          rw [e1] at k
          have n3 : ((R.length + j : Nat) : Int) ≤ 80 := by omega
          simp only [s124_64, s124_65, s124_68, s124_69, s124_72, s124_73, s124_76, Int.toNat_natCast, true_and, and_true, true_or, or_true, false_or, or_false, zwr_id, zpu_some, zpu_none, reduceIte, Int.reduceLE, Int.reduceLT, Int.reduceEq, Int.reduceNeg, Int.reduceAdd, Int.reduceSub, Int.reduceMul, Int.reduceToNat, Nat.reduceAdd, Nat.reduceLeDiff, Nat.reduceEqDiff, Nat.reduceLT, eq_self, ne_eq, not_false_eq_true, not_true_eq_false, n3, a1, p2, p6, t6, t30]
          refine c_keep hH hR (by decide) (fun m1 g1 f1 => ?_)
          simp only [s124_79, s124_80, zpu_none]
          refine zfor (n := j) (fun i => [zA 2, zI (j : Nat), zI 0, zI (i : Nat)]) (fun i m' => zRw L m' 6 (gIns (T.take i) R C) ((C + i : Nat) : Int) ov ∧ zHi L m' 30 (((R, C) :: H).take 30) ∧ ∀ a, (a < 6 ∨ 7 < a) → (a < 30 ∨ 63 < a) → m' a = m a) ?_ ?_ 0 m1 (Nat.zero_le _) ⟨?_, g1, fun a q1 q2 => zFR_at f1 q2⟩
          · rintro i m2 hi ⟨q1, q2, q3⟩ ih
            have e2 : m2 2 = m 2 := q3 2 (by decide) (by decide)
            have p0' : m2 2 1 = 4 := by rw [e2]; exact p0
            have p2' : m2 2 2 = 6 := by rw [e2]; exact p2
            have hT2 : zTp L m2 4 T := zTp_eq (q3 4 (by decide) (by decide)) (q3 5 (by decide) (by decide)) hT
            have hiT : i < T.length := by omega
            have n4 : ¬ (j : Int) ≤ (i : Int) := by omega
            have i80 : i < 1000000 := by omega
            simp only [s124_81]
            simp only [s124_82, s124_83, s124_86, s124_87, s124_90, s124_91, s124_94, s124_95, s124_98, Int.toNat_natCast, true_and, and_true, true_or, or_true, false_or, or_false, zwr_id, zpu_some, zpu_none, reduceIte, Int.reduceLE, Int.reduceLT, Int.reduceEq, Int.reduceNeg, Int.reduceAdd, Int.reduceSub, Int.reduceMul, Int.reduceToNat, Nat.reduceAdd, Nat.reduceLeDiff, Nat.reduceEqDiff, Nat.reduceLT, eq_self, ne_eq, not_false_eq_true, not_true_eq_false, a1, p0', p2', t3, t6, n4, x_byteAt hT2 hiT]
            refine c_insert q1 (by rw [gIns_len, List.length_take]; omega) (by rw [gIns_len, List.length_take]; omega) (fun m3 g3 f3 => ?_)
            simp only [s124_101, s124_104, Int.toNat_natCast, true_and, and_true, true_or, or_true, false_or, or_false, zwr_id, zpu_some, zpu_none, reduceIte, Int.reduceLE, Int.reduceLT, Int.reduceEq, Int.reduceNeg, Int.reduceAdd, Int.reduceSub, Int.reduceMul, Int.reduceToNat, Nat.reduceAdd, Nat.reduceLeDiff, Nat.reduceEqDiff, Nat.reduceLT, eq_self, ne_eq, not_false_eq_true, not_true_eq_false, z1 i80]
            rw [gIns_step hC hiT] at g3
            refine ih m3 ⟨?_, zHi_eq (fun a p q => zFR_at f3 (by omega)) q2, fun a q4 q5 => by rw [zFR_at f3 (by omega)]; exact q3 a q4 q5⟩
            have e3 : ((C + (i + 1) : Nat) : Int) = ((C + i : Nat) : Int) + 1 := by omega
            rw [e3]
            exact g3
          · rintro m2 ⟨q1, q2, q3⟩
            have e2 : m2 2 = m 2 := q3 2 (by decide) (by decide)
            have p0' : m2 2 1 = 4 := by rw [e2]; exact p0
            have hT2 : zTp L m2 4 T := zTp_eq (q3 4 (by decide) (by decide)) (q3 5 (by decide) (by decide)) hT
            simp only [s124_81]
            simp only [s124_82, s124_83, s124_107, s124_108, s124_111, Int.toNat_natCast, true_and, and_true, true_or, or_true, false_or, or_false, zwr_id, zpu_some, zpu_none, reduceIte, Int.reduceLE, Int.reduceLT, Int.reduceEq, Int.reduceNeg, Int.reduceAdd, Int.reduceSub, Int.reduceMul, Int.reduceToNat, Nat.reduceAdd, Nat.reduceLeDiff, Nat.reduceEqDiff, Nat.reduceLT, eq_self, ne_eq, not_false_eq_true, not_true_eq_false, a1, p0', t3, show (j : Int) ≤ (j : Int) from Int.le_refl _]
            refine c_tclear hT2 (fun gT => ?_)
            simp only [s124_114, s124_115, s124_118, s124_119, Int.toNat_natCast, true_and, and_true, true_or, or_true, false_or, or_false, zwr_id, zpu_some, zpu_none, reduceIte, Int.reduceLE, Int.reduceLT, Int.reduceEq, Int.reduceNeg, Int.reduceAdd, Int.reduceSub, Int.reduceMul, Int.reduceToNat, Nat.reduceAdd, Nat.reduceLeDiff, Nat.reduceEqDiff, Nat.reduceLT, eq_self, ne_eq, not_false_eq_true, not_true_eq_false, a1]
            refine c_fin hD hO hB gT (R' := gIns (T.take j) R C) (C' := C + j) (ov := ov) (zRw_eq (zup_nf (by decide)) (zup_nf (by decide)) q1) (zHi_eq (fun a p q => zup_nf (by omega)) q2) (fun a y3 y4 y6 y7 y30 => by rw [zup_nf y3]; exact q3 a (by omega) y30) (fun m' z1 z2 => ?_)
            simp only [s124_122, s124_125, s124_126, s124_127, s124_130, Int.toNat_natCast, true_and, and_true, true_or, or_true, false_or, or_false, zwr_id, zpu_some, zpu_none, reduceIte, Int.reduceLE, Int.reduceLT, Int.reduceEq, Int.reduceNeg, Int.reduceAdd, Int.reduceSub, Int.reduceMul, Int.reduceToNat, Nat.reduceAdd, Nat.reduceLeDiff, Nat.reduceEqDiff, Nat.reduceLT, eq_self, ne_eq, not_false_eq_true, not_true_eq_false]
            exact k m' z1 z2
          · have e0 : gIns (T.take 0) R C = R := by unfold gIns; rw [List.take_zero, List.append_nil, List.take_append_drop]
            rw [e0]
            exact zRw_eq (zFR_at f1 (by decide)) (zFR_at f1 (by decide)) hR
      · have e1 : sType (T, some D, R, C, H, f, p, q) (j : Int) = gNT (T, some D, R, C, H, f, p, q) 5 := by
          show (if 0 ≤ (j : Int) ∧ (j : Int) ≤ (T.length : Int) then (if (T.take (j : Int).toNat).all (gSg D) = true then _ else _) else _) = _
          rw [if_pos h1, Int.toNat_natCast, if_neg h2]
        rw [e1] at k
        simp only [s124_35, s124_38, s124_39, s124_42, s124_43, s124_44, s124_45, s124_48, s124_49, s124_52, s124_55, s124_56, s124_57, s124_59, s124_62, s124_63, s124_64, s124_65, s124_107, s124_108, s124_111, s124_114, s124_115, s124_118, s124_119, s124_122, s124_125, s124_126, s124_127, s124_130, Int.toNat_natCast, true_and, and_true, true_or, or_true, false_or, or_false, zwr_id, zpu_some, zpu_none, reduceIte, Int.reduceLE, Int.reduceLT, Int.reduceEq, Int.reduceNeg, Int.reduceAdd, Int.reduceSub, Int.reduceMul, Int.reduceToNat, Nat.reduceAdd, Nat.reduceLeDiff, Nat.reduceEqDiff, Nat.reduceLT, eq_self, ne_eq, not_false_eq_true, not_true_eq_false, h2, a1, p0, t3, s103_0, s103_1, s103_2, s103_5, x_refuse a1]
        exact k _ (zCI_rT h) zFR_rT
    · have e1 : sType (T, some D, R, C, H, f, p, q) n = gN (T, some D, R, C, H, f, p, q) 2 := if_neg h1
      rw [e1] at k
      have c3 : (if 0 ≤ n ∧ n ≤ (T.length : Int) then (1 : Int) else 0) = 0 := if_neg h1
      simp only [s124_0, s124_1, s124_4, s124_7, s124_8, s124_9, s124_12, s124_13, s124_14, s124_17, s124_18, s124_21, s124_24, s124_25, s124_26, s124_29, Int.toNat_natCast, true_and, and_true, zpu_some, zpu_none, reduceIte, Int.reduceEq, Int.reduceToNat, Nat.reduceLeDiff, a1, b11, p0, t3, x_reach hT, c3, x_refuse a1]
      exact k _ (zCI_ans h) zFR_ans
