def gKy (D : zD) (x : Int) : Bool := isL x && decide (dS D (x - 97).toNat ≠ -1)
theorem x_isKy {L : zY} {m : zM} {Q : zQ} {c : Nat} {D : zD} {x : Int} (h : zSd L m c D) : zwp 59 0 [zA c, zI x] [] L m Q ↔ Q (some (zI (if gKy D x = true then 1 else 0))) L m := by
  rw [x_isKey h]
  have e : (97 ≤ x ∧ x < 123 ∧ dS D (x - 97).toNat ≠ -1) ↔ gKy D x = true := by
    unfold gKy
    rw [Bool.and_eq_true, isL_iff, decide_eq_true_iff, and_assoc]
  by_cases h1 : gKy D x = true
  · rw [if_pos h1, if_pos (e.mpr h1)]
  · rw [if_neg h1, if_neg (fun q => h1 (e.mp q))]
theorem c_tKeys {L : zY} {m : zM} {Q : zQ} {sc n : Nat} {D : zD} {T : List Int} (a1 : zt L 2 = 10) (p0 : m 2 1 = 4) (p9 : m 2 9 = (sc : Int)) (hS : zSd L m sc D) (hT : zTp L m 4 T) (hn : n ≤ T.length) (k : Q (some (zI (if (T.take n).all (gKy D) = true then 1 else 0))) L m) : zwp 146 0 [zA 2, zI (n : Nat), zU] [] L m Q := by
  have t3 := hT.1
  have s1 := hS.1.1
  have hl := hT.2.2.2.2.2.2.1
  obtain ⟨a, b, c⟩ := fC_spec (p := fun i => gKy D (T.getD i 0)) n 0
  rw [Nat.zero_add] at b c
  rw [all_take hn] at k
  generalize fC (fun i => gKy D (T.getD i 0)) n 0 = v at *
  simp only [s146_0, s146_1]
  refine zfor (n := v) (fun i => [zA 2, zI (n : Nat), zI (i : Nat)]) (fun _ m' => m' = m) ?_ ?_ 0 m (Nat.zero_le _) rfl
  · rintro i _ hi rfl ih
    have ih := ih _ rfl
    have b := b i (Nat.zero_le _) hi
    have hi1 : i < T.length := by omega
    rw [getD_lt hi1] at b
    have n1 : ¬ (n : Int) ≤ (i : Int) := by omega
    have iv : i < 1000000 := by omega
    simp only [s146_2]
    simp only [s146_0, s146_1, s146_3, s146_4, s146_7, s146_8, s146_11, s146_12, s146_15, s146_16, s146_19, s146_22, s146_25, s146_26, s146_27, s146_30, s146_33, s146_34, Int.toNat_natCast, true_and, and_true, true_or, or_true, false_or, or_false, zwr_id, zpu_some, zpu_none, reduceIte, Int.reduceLE, Int.reduceLT, Int.reduceEq, Int.reduceNeg, Int.reduceAdd, Int.reduceSub, Int.reduceMul, Int.reduceToNat, Nat.reduceAdd, Nat.reduceLeDiff, Nat.reduceEqDiff, Nat.reduceLT, eq_self, ne_eq, not_false_eq_true, not_true_eq_false, a1, p0, p9, t3, s1, n1, x_byteAt hT hi1, x_isKy hS, b, z1 iv]
    exact ih
  · rintro _ rfl
    simp only [s146_2]
    by_cases hv : v = n
    · rw [hv] at k ⊢
      simp only [s146_0, s146_1, s146_3, s146_4, s146_7, s146_8, s146_11, s146_12, s146_15, s146_16, s146_19, s146_22, s146_25, s146_26, s146_27, s146_30, s146_33, s146_34, Int.toNat_natCast, true_and, and_true, true_or, or_true, false_or, or_false, zwr_id, zpu_some, zpu_none, reduceIte, Int.reduceLE, Int.reduceLT, Int.reduceEq, Int.reduceNeg, Int.reduceAdd, Int.reduceSub, Int.reduceMul, Int.reduceToNat, Nat.reduceAdd, Nat.reduceLeDiff, Nat.reduceEqDiff, Nat.reduceLT, eq_self, ne_eq, not_false_eq_true, not_true_eq_false]
      rw [if_pos (Int.le_refl _)]
      simp only [decide_true, reduceIte] at k
      exact k
    · have hi1 : v < T.length := by omega
      have c := c.resolve_left hv
      rw [getD_lt hi1] at c
      have n1 : ¬ (n : Int) ≤ (v : Int) := by omega
      rw [decide_eq_false hv] at k
      simp only [s146_0, s146_1, s146_3, s146_4, s146_7, s146_8, s146_11, s146_12, s146_15, s146_16, s146_19, s146_22, s146_25, s146_26, s146_27, s146_30, s146_33, s146_34, Int.toNat_natCast, true_and, and_true, true_or, or_true, false_or, or_false, zwr_id, zpu_some, zpu_none, reduceIte, Int.reduceLE, Int.reduceLT, Int.reduceEq, Int.reduceNeg, Int.reduceAdd, Int.reduceSub, Int.reduceMul, Int.reduceToNat, Nat.reduceAdd, Nat.reduceLeDiff, Nat.reduceEqDiff, Nat.reduceLT, eq_self, ne_eq, not_false_eq_true, not_true_eq_false, a1, p0, p9, t3, s1, n1, x_byteAt hT hi1, x_isKy hS, c, Bool.false_eq_true]
      exact k
def ledP (I : List zIt) (R T : List Int) (i k : Nat) : Bool := decide (itSo (I.getD (i + k) it0) = 0) && decide (R.getD (itF (I.getD (i + k) it0)).toNat 0 = T.getD k 0)
def led (I : List zIt) (R T : List Int) (n i : Nat) : Bool := decide (fC (ledP I R T i) n 0 = n)
theorem c_led {L : zY} {m : zM} {Q : zQ} {n i : Nat} {I : List zIt} {R T : List Int} {c ov : Int} (a1 : zt L 2 = 10) (p0 : m 2 1 = 4) (p2 : m 2 2 = 6) (p4 : m 2 4 = 10) (hRL : zRL L m 10) (hI : zRI m 10 I) (hR : zRw L m 6 R c ov) (hT : zTp L m 4 T) (hn : n ≤ T.length) (hin : i + n ≤ I.length) (hF : ∀ x ∈ I, 0 ≤ itF x ∧ itF x < (R.length : Int)) (k : Q (some (zI (if led I R T n i = true then 1 else 0))) L m) : zwp 147 0 [zA 2, zI (n : Nat), zI (i : Nat), zU, zU] [] L m Q := by
  have t3 := hT.1
  have t6 := hR.1
  have t10 := hRL.1
  have i0 := hI.1
  have hI80 := hI.2.1
  have hl := hT.2.2.2.2.2.2.1
  obtain ⟨a, b, c'⟩ := fC_spec (p := ledP I R T i) n 0
  rw [Nat.zero_add] at b c'
  unfold led at k
  generalize fC (ledP I R T i) n 0 = v at *
  simp only [s147_0, s147_1]
  have step : ∀ (j : Nat) (l4 : zV), j < n → (ledP I R T i j = true → zwp 147 2 [zA 2, zI (n : Nat), zI (i : Nat), zI ((j + 1 : Nat) : Int), zI ((i + j : Nat) : Int)] [] L m Q) → (ledP I R T i j = false → Q (some (zI 0)) L m) → zwp 147 2 [zA 2, zI (n : Nat), zI (i : Nat), zI (j : Nat), l4] [] L m Q := by
    intro j l4 hj k1 k2
    have hij : i + j < I.length := by omega
    have hjT : j < T.length := by omega
    have n1 : ¬ (n : Int) ≤ (j : Int) := by omega
    have jv : j < 1000000 := by omega
    have e1 : 0 ≤ ((i + j : Nat) : Int) ∧ ((i + j : Nat) : Int) < (I.length : Int) := by omega
    unfold ledP at k1 k2
    rw [getD_lt hij, getD_lt hjT] at k1 k2
    obtain ⟨f1, f2⟩ := hF _ (List.getElem_mem hij)
    simp only [s147_2]
    simp only [s147_3, s147_4, s147_7, s147_8, s147_9, s147_10, s147_12, s147_13, s147_16, s147_18, s147_21, s147_24, s147_25, s147_28, s147_30, Int.toNat_natCast, true_and, and_true, zpu_some, zpu_none, Int.reduceToNat, Nat.reduceLeDiff, a1, p4, t10, n1, reduceIte, (show zwr ((i : Int) + (j : Int)) = ((i + j : Nat) : Int) by rw [zwr_id (by omega) (by omega)]; omega), x_has t10 i0, e1, and_self, Int.reduceEq, x_sort hRL hI hij]
    simp only [s147_33]
    by_cases hs : itSo I[i + j] = 0
    · rw [if_pos hs]
      obtain ⟨f, hf⟩ : ∃ f : Nat, itF I[i + j] = (f : Int) := ⟨(itF I[i + j]).toNat, by omega⟩
      have hfR : f < R.length := by omega
      rw [hf, Int.toNat_natCast, getD_lt hfR] at k1 k2
      simp only [s147_36, s147_37, s147_40, s147_41, s147_44, s147_46, s147_49, s147_52, s147_53, s147_56, s147_57, Int.toNat_natCast, true_and, and_true, true_or, or_true, false_or, or_false, zwr_id, zpu_some, zpu_none, reduceIte, Int.reduceLE, Int.reduceLT, Int.reduceEq, Int.reduceNeg, Int.reduceAdd, Int.reduceSub, Int.reduceMul, Int.reduceToNat, Nat.reduceAdd, Nat.reduceLeDiff, Nat.reduceEqDiff, Nat.reduceLT, eq_self, ne_eq, not_false_eq_true, not_true_eq_false, a1, p0, p2, p4, t3, t6, t10, x_place hRL hI hij, hf, x_signAt hR hfR, x_byteAt hT hjT]
      simp only [s147_60]
      by_cases he : R[f] = T[j]
      · rw [if_pos he]
        simp only [s147_65, s147_68, z1 jv]
        exact k1 (by rw [decide_eq_true hs, decide_eq_true he]; rfl)
      · rw [if_neg he]
        simp only [s147_63, s147_64, Int.toNat_natCast, true_and, and_true, true_or, or_true, false_or, or_false, zwr_id, zpu_some, zpu_none, reduceIte, Int.reduceLE, Int.reduceLT, Int.reduceEq, Int.reduceNeg, Int.reduceAdd, Int.reduceSub, Int.reduceMul, Int.reduceToNat, Nat.reduceAdd, Nat.reduceLeDiff, Nat.reduceEqDiff, Nat.reduceLT, eq_self, ne_eq, not_false_eq_true, not_true_eq_false]
        exact k2 (by rw [decide_eq_true hs, decide_eq_false he]; rfl)
    · rw [if_neg hs]
      simp only [s147_63, s147_64, Int.toNat_natCast, true_and, and_true, true_or, or_true, false_or, or_false, zwr_id, zpu_some, zpu_none, reduceIte, Int.reduceLE, Int.reduceLT, Int.reduceEq, Int.reduceNeg, Int.reduceAdd, Int.reduceSub, Int.reduceMul, Int.reduceToNat, Nat.reduceAdd, Nat.reduceLeDiff, Nat.reduceEqDiff, Nat.reduceLT, eq_self, ne_eq, not_false_eq_true, not_true_eq_false]
      exact k2 (by rw [decide_eq_false hs]; rfl)
  refine zforv (n := v) (fun l j => [zA 2, zI (n : Nat), zI (i : Nat), zI (j : Nat), l]) (fun _ m' => m' = m) ?_ ?_ zU 0 m (Nat.zero_le _) rfl
  · rintro l j _ hj rfl ih
    exact step j l (by omega) (fun _ => ih _ _ rfl) (fun q => by rw [b j (Nat.zero_le _) hj] at q; cases q)
  · rintro l _ rfl
    by_cases hv : v = n
    · rw [decide_eq_true hv] at k
      rw [hv]
      simp only [s147_2]
      simp only [s147_3, s147_4, s147_71, s147_72, Int.toNat_natCast, true_and, and_true, true_or, or_true, false_or, or_false, zwr_id, zpu_some, zpu_none, reduceIte, Int.reduceLE, Int.reduceLT, Int.reduceEq, Int.reduceNeg, Int.reduceAdd, Int.reduceSub, Int.reduceMul, Int.reduceToNat, Nat.reduceAdd, Nat.reduceLeDiff, Nat.reduceEqDiff, Nat.reduceLT, eq_self, ne_eq, not_false_eq_true, not_true_eq_false, show (n : Int) ≤ (n : Int) from Int.le_refl _]
      exact k
    · rw [decide_eq_false hv] at k
      have c' := c'.resolve_left hv
      exact step v l (by omega) (fun q => by rw [c'] at q; cases q) (fun _ => k)
def gAT (g : zG) (r : Int) : Int × zG := (r, ([], g.2.1, g.2.2.1, g.2.2.2.1, g.2.2.2.2.1, g.2.2.2.2.2.1, -1, 0))
def fSeek (I : List zIt) (R T : List Int) (n a : Nat) : Int := if fC (fun d => !led I R T n (a + d)) (I.length + 1 - (a + n)) 0 = I.length + 1 - (a + n) then -2 else ((a + fC (fun d => !led I R T n (a + d)) (I.length + 1 - (a + n)) 0 : Nat) : Int)
def sSeek (g : zG) (n a : Int) : Int × zG := match gD g with
  | none => gN g 1
  | some D => if 0 ≤ a ∧ a < ((msI (gI g)).length : Int) then (if (1 ≤ n ∧ n ≤ 20) ∧ n ≤ ((gT g).length : Int) then (if ((gT g).take n.toNat).all (gKy D) = true then gAT g (fSeek (msI (gI g)) (gR g) (gT g) n.toNat a.toNat) else gNT g 5) else gN g 2) else gN g 1
theorem zCI_aT {L : zY} {m : zM} {g : zG} {r : Int} (h : zCI L m g) : zCI L (zup (zup (zup m 4 1 0) 2 14 0) 2 13 (-1)) (gAT g r).2 := by
  have := zCI_rT (why := 0) h
  exact this
theorem c_seek {L : zY} {m : zM} {Q : zQ} {g : zG} {n a : Int} (hg : gOk g) (h : zCI L m g) (k : ∀ m', zCI L m' (sSeek g n a).2 → zFR 2 331 m m' → Q (some (zI (sSeek g n a).1)) L m') : zwp 145 0 [zA 2, zI n, zI a, zU, zU, zU] [] L m Q := by
  have h' := h
  obtain ⟨T, od, R, C, H, f, p, q⟩ := g
  obtain ⟨sc, sp, hO, hB⟩ := h'
  have a1 := hO.1
  have p0 := hO.2.1.1
  have p2 := hO.2.1.2.2.1
  have p4 := hO.2.1.2.2.2.2.1
  have p9 := hO.2.1.2.2.2.2.2.2.2.2.2.1
  have hT := hB.1
  have t3 := hT.1
  have hN := hB.2.2.2.2.1
  have t10 := hN.1.1
  have i0 := hN.2.1.1
  cases od with
  | none =>
    obtain ⟨rfl, -, -⟩ := hg.2.2.1 rfl
    have i0' : m 10 9 = ((0 : Nat) : Int) := i0
    have c3 : (if 0 ≤ a ∧ a < ((0 : Nat) : Int) then (1 : Int) else 0) = 0 := if_neg (by omega)
    simp only [s145_0, s145_1, s145_4, s145_5, s145_8, s145_11, s145_12, s145_13, s145_16, Int.toNat_natCast, true_and, and_true, zpu_some, zpu_none, reduceIte, Int.reduceEq, Int.reduceToNat, a1, p4, t10, x_has t10 i0', c3, x_refuse a1]
    exact k _ (zCI_ans h) zFR_ans
  | some D =>
    obtain ⟨hS, hSt⟩ := sc_facts hB
    obtain ⟨hD, hlk, hV, -⟩ := hg.2.1 D rfl
    obtain ⟨ov, hR⟩ := hB.2.2.1
    have i0 : m 10 9 = ((msI (kRun (zPof D) R)).length : Int) := i0
    have hI : zRI m 10 (msI (kRun (zPof D) R)) := hN.2.1
    have hM := kRun_I hD hV
    have hF : ∀ x ∈ msI (kRun (zPof D) R), 0 ≤ itF x ∧ itF x < (R.length : Int) := fun x hx => by
      obtain ⟨-, fx, nx, q1, q2, q3, q4, -⟩ := hM.1 x hx
      omega
    have es : sSeek (T, some D, R, C, H, f, p, q) n a = (if 0 ≤ a ∧ a < ((msI (kRun (zPof D) R)).length : Int) then (if (1 ≤ n ∧ n ≤ 20) ∧ n ≤ (T.length : Int) then (if (T.take n.toNat).all (gKy D) = true then gAT (T, some D, R, C, H, f, p, q) (fSeek (msI (kRun (zPof D) R)) R T n.toNat a.toNat) else gNT (T, some D, R, C, H, f, p, q) 5) else gN (T, some D, R, C, H, f, p, q) 2) else gN (T, some D, R, C, H, f, p, q) 1) := rfl
    rw [es] at k
    clear es
    generalize hIe : msI (kRun (zPof D) R) = I at *
    have hI80 := hI.2.1
    by_cases h1 : 0 ≤ a ∧ a < (I.length : Int)
    · rw [if_pos h1] at k
      obtain ⟨b, rfl⟩ : ∃ b : Nat, a = (b : Int) := ⟨a.toNat, by omega⟩
      have h1' : (0 : Int) ≤ (b : Int) ∧ (b : Int) < (I.length : Int) := h1
      by_cases h2 : (1 ≤ n ∧ n ≤ 20) ∧ n ≤ (T.length : Int)
      · rw [if_pos h2] at k
        obtain ⟨j, rfl⟩ : ∃ j : Nat, n = (j : Int) := ⟨n.toNat, by omega⟩
        rw [Int.toNat_natCast, Int.toNat_natCast] at k
        have n1 : ¬ (j : Int) < 1 := by omega
        have n2 : ¬ 20 < (j : Int) := by omega
        have n3 : 0 ≤ (j : Int) ∧ (j : Int) ≤ (T.length : Int) := by omega
        simp only [s145_0, s145_1, s145_4, s145_5, s145_8, s145_11, s145_12, s145_13, s145_16, s145_17, s145_18, s145_19, s145_22, s145_23, s145_25, s145_28, s145_29, s145_32, s145_33, s145_36, s145_39, s145_40, s145_41, s145_44, s145_45, s145_46, s145_47, Int.toNat_natCast, true_and, and_true, true_or, or_true, false_or, or_false, zwr_id, zpu_some, zpu_none, reduceIte, Int.reduceLE, Int.reduceLT, Int.reduceEq, Int.reduceNeg, Int.reduceAdd, Int.reduceSub, Int.reduceMul, Int.reduceToNat, Nat.reduceAdd, Nat.reduceLeDiff, Nat.reduceEqDiff, Nat.reduceLT, eq_self, ne_eq, not_false_eq_true, not_true_eq_false, a1, p0, p4, t3, t10, x_has t10 i0, h1', and_self, n1, n2, x_reach hT, n3]
        refine c_tKeys a1 p0 p9 hS hT (by omega) ?_
        by_cases h3 : (T.take j).all (gKy D) = true
        · rw [if_pos h3] at k ⊢
          unfold fSeek at k
          obtain ⟨y1, y2, y3⟩ := fC_spec (p := fun d => !led I R T j (b + d)) (I.length + 1 - (b + j)) 0
          rw [Nat.zero_add] at y2 y3
          generalize fC (fun d => !led I R T j (b + d)) (I.length + 1 - (b + j)) 0 = v at *
          simp only [s145_50, s145_51, s145_53, s145_55, s145_56, zpu_some]
          have fin : ∀ (r l5 : Int), r = (if v = I.length + 1 - (b + j) then -2 else ((b + v : Nat) : Int)) → zwp 145 103 [zA 2, zI (j : Nat), zI (b : Nat), zI 1, zI r, zI l5] [] L m Q := by
            intro r l5 hr
            rw [← hr] at k
            simp only [s145_103, s145_104, s145_107, s145_110, s145_111, s145_114, s145_115, s145_117, s145_120, s145_128, s103_0, s103_1, s103_2, s103_5, Int.toNat_natCast, true_and, and_true, true_or, or_true, false_or, or_false, zwr_id, zpu_some, zpu_none, reduceIte, Int.reduceLE, Int.reduceLT, Int.reduceEq, Int.reduceNeg, Int.reduceAdd, Int.reduceSub, Int.reduceMul, Int.reduceToNat, Nat.reduceAdd, Nat.reduceLeDiff, Nat.reduceEqDiff, Nat.reduceLT, eq_self, ne_eq, not_false_eq_true, not_true_eq_false, a1, p0, t3, x_accept a1]
            exact k _ (zCI_aT h) zFR_rT
          refine zfor (n := v) (fun d => [zA 2, zI (j : Nat), zI (b : Nat), zI 1, zI (-2), zI ((b + d : Nat) : Int)]) (fun _ m' => m' = m) ?_ ?_ 0 m (Nat.zero_le _) rfl
          · rintro d _ hd rfl ih
            have ih := ih _ rfl
            have y2 := y2 d (Nat.zero_le _) hd
            rw [Bool.not_eq_true'] at y2
            have n4 : ¬ (I.length : Int) < ((b + d + j : Nat) : Int) := by omega
            have bv : b + d < 1000000 := by omega
            simp only [s145_58]
            simp only [s145_59, s145_62, s145_64, s145_66, s145_69, s145_71, s145_72, s145_73, s145_74, s145_77, s145_80, s145_83, s145_84, s145_85, s145_87, Int.toNat_natCast, true_and, and_true, true_or, or_true, false_or, or_false, zwr_id, zpu_some, zpu_none, reduceIte, Int.reduceLE, Int.reduceLT, Int.reduceEq, Int.reduceNeg, Int.reduceAdd, Int.reduceSub, Int.reduceMul, Int.reduceToNat, Nat.reduceAdd, Nat.reduceLeDiff, Nat.reduceEqDiff, Nat.reduceLT, eq_self, ne_eq, not_false_eq_true, not_true_eq_false, a1, p4, t10, i0, n4, (show zwr (((b + d : Nat) : Int) + (j : Int)) = ((b + d + j : Nat) : Int) by rw [zwr_id (by omega) (by omega)]; omega)]
            refine c_led a1 p0 p2 p4 hN.1 hI hR hT (by omega) (by omega) hF ?_
            rw [y2]
            simp only [s145_90, s145_93, s145_95, s145_97, s145_100, Int.toNat_natCast, true_and, and_true, true_or, or_true, false_or, or_false, zwr_id, zpu_some, zpu_none, reduceIte, Int.reduceLE, Int.reduceLT, Int.reduceEq, Int.reduceNeg, Int.reduceAdd, Int.reduceSub, Int.reduceMul, Int.reduceToNat, Nat.reduceAdd, Nat.reduceLeDiff, Nat.reduceEqDiff, Nat.reduceLT, eq_self, ne_eq, not_false_eq_true, not_true_eq_false, Bool.false_eq_true, z1 bv]
            exact ih
          · rintro _ rfl
            by_cases hv : v = I.length + 1 - (b + j)
            · have n4 : (I.length : Int) < ((b + v + j : Nat) : Int) := by omega
              simp only [s145_58]
              simp only [s145_59, s145_62, s145_64, s145_66, s145_69, s145_71, s145_72, s145_73, s145_74, s145_77, s145_80, Int.toNat_natCast, true_and, and_true, true_or, or_true, false_or, or_false, zwr_id, zpu_some, zpu_none, reduceIte, Int.reduceLE, Int.reduceLT, Int.reduceEq, Int.reduceNeg, Int.reduceAdd, Int.reduceSub, Int.reduceMul, Int.reduceToNat, Nat.reduceAdd, Nat.reduceLeDiff, Nat.reduceEqDiff, Nat.reduceLT, eq_self, ne_eq, not_false_eq_true, not_true_eq_false, a1, p4, t10, i0, n4, (show zwr (((b + v : Nat) : Int) + (j : Int)) = ((b + v + j : Nat) : Int) by rw [zwr_id (by omega) (by omega)]; omega)]
              exact fin (-2) _ (by rw [if_pos hv])
            · have y3 := y3.resolve_left hv
              rw [Bool.not_eq_false'] at y3
              have n4 : ¬ (I.length : Int) < ((b + v + j : Nat) : Int) := by omega
              have bv : b + v < 1000000 := by omega
              have nv : ¬ ((b + v : Nat) : Int) = -2 := by omega
              simp only [s145_58]
              simp only [s145_59, s145_62, s145_64, s145_66, s145_69, s145_71, s145_72, s145_73, s145_74, s145_77, s145_80, s145_83, s145_84, s145_85, s145_87, Int.toNat_natCast, true_and, and_true, true_or, or_true, false_or, or_false, zwr_id, zpu_some, zpu_none, reduceIte, Int.reduceLE, Int.reduceLT, Int.reduceEq, Int.reduceNeg, Int.reduceAdd, Int.reduceSub, Int.reduceMul, Int.reduceToNat, Nat.reduceAdd, Nat.reduceLeDiff, Nat.reduceEqDiff, Nat.reduceLT, eq_self, ne_eq, not_false_eq_true, not_true_eq_false, a1, p4, t10, i0, n4, (show zwr (((b + v : Nat) : Int) + (j : Int)) = ((b + v + j : Nat) : Int) by rw [zwr_id (by omega) (by omega)]; omega)]
              refine c_led a1 p0 p2 p4 hN.1 hI hR hT (by omega) (by omega) hF ?_
              rw [y3]
              simp only [s145_90, s145_93, s145_95, s145_97, s145_100, Int.toNat_natCast, true_and, and_true, true_or, or_true, false_or, or_false, zwr_id, zpu_some, zpu_none, reduceIte, Int.reduceLE, Int.reduceLT, Int.reduceEq, Int.reduceNeg, Int.reduceAdd, Int.reduceSub, Int.reduceMul, Int.reduceToNat, Nat.reduceAdd, Nat.reduceLeDiff, Nat.reduceEqDiff, Nat.reduceLT, eq_self, ne_eq, not_false_eq_true, not_true_eq_false, z1 bv]
              simp only [s145_58]
              simp only [s145_59, s145_62, s145_64, s145_66, Int.toNat_natCast, true_and, and_true, true_or, or_true, false_or, or_false, zwr_id, zpu_some, zpu_none, reduceIte, Int.reduceLE, Int.reduceLT, Int.reduceEq, Int.reduceNeg, Int.reduceAdd, Int.reduceSub, Int.reduceMul, Int.reduceToNat, Nat.reduceAdd, Nat.reduceLeDiff, Nat.reduceEqDiff, Nat.reduceLT, eq_self, ne_eq, not_false_eq_true, not_true_eq_false, nv]
              exact fin ((b + v : Nat) : Int) _ (by rw [if_neg hv])
        · rw [if_neg h3] at k ⊢
          simp only [s145_50, s145_51, s145_53, s145_55, s145_56, s145_58, s145_59, s145_103, s145_104, s145_107, s145_110, s145_111, s145_114, s145_115, s145_117, s145_120, s145_123, s145_124, s145_125, s145_128, s103_0, s103_1, s103_2, s103_5, Int.toNat_natCast, true_and, and_true, true_or, or_true, false_or, or_false, zwr_id, zpu_some, zpu_none, reduceIte, Int.reduceLE, Int.reduceLT, Int.reduceEq, Int.reduceNeg, Int.reduceAdd, Int.reduceSub, Int.reduceMul, Int.reduceToNat, Nat.reduceAdd, Nat.reduceLeDiff, Nat.reduceEqDiff, Nat.reduceLT, eq_self, ne_eq, not_false_eq_true, not_true_eq_false, a1, p0, t3, x_refuse a1]
          exact k _ (zCI_rT h) zFR_rT
      · rw [if_neg h2] at k
        have fin := k _ (zCI_ans h) zFR_ans
        by_cases n1 : n < 1
        · simp only [s145_0, s145_1, s145_4, s145_5, s145_8, s145_11, s145_12, s145_13, s145_16, s145_17, s145_18, s145_19, s145_22, s145_23, s145_25, s145_28, s145_29, s145_32, s145_33, s145_36, s145_39, s145_40, s145_41, s145_44, Int.toNat_natCast, true_and, and_true, true_or, or_true, false_or, or_false, zwr_id, zpu_some, zpu_none, reduceIte, Int.reduceLE, Int.reduceLT, Int.reduceEq, Int.reduceNeg, Int.reduceAdd, Int.reduceSub, Int.reduceMul, Int.reduceToNat, Nat.reduceAdd, Nat.reduceLeDiff, Nat.reduceEqDiff, Nat.reduceLT, eq_self, ne_eq, not_false_eq_true, not_true_eq_false, a1, p4, t10, x_has t10 i0, h1', and_self, n1, x_refuse a1]
          exact fin
        · by_cases n2 : 20 < n
          · simp only [s145_0, s145_1, s145_4, s145_5, s145_8, s145_11, s145_12, s145_13, s145_16, s145_17, s145_18, s145_19, s145_22, s145_23, s145_25, s145_28, s145_29, s145_32, s145_33, s145_36, s145_39, s145_40, s145_41, s145_44, Int.toNat_natCast, true_and, and_true, true_or, or_true, false_or, or_false, zwr_id, zpu_some, zpu_none, reduceIte, Int.reduceLE, Int.reduceLT, Int.reduceEq, Int.reduceNeg, Int.reduceAdd, Int.reduceSub, Int.reduceMul, Int.reduceToNat, Nat.reduceAdd, Nat.reduceLeDiff, Nat.reduceEqDiff, Nat.reduceLT, eq_self, ne_eq, not_false_eq_true, not_true_eq_false, a1, p4, t10, x_has t10 i0, h1', and_self, n1, n2, x_refuse a1]
            exact fin
          · have c3 : (if 0 ≤ n ∧ n ≤ (T.length : Int) then (1 : Int) else 0) = 0 := if_neg (by omega)
            simp only [s145_0, s145_1, s145_4, s145_5, s145_8, s145_11, s145_12, s145_13, s145_16, s145_17, s145_18, s145_19, s145_22, s145_23, s145_25, s145_28, s145_29, s145_32, s145_33, s145_36, s145_39, s145_40, s145_41, s145_44, Int.toNat_natCast, true_and, and_true, zpu_some, zpu_none, reduceIte, Int.reduceEq, Int.reduceToNat, Nat.reduceLeDiff, a1, p0, p4, t3, t10, x_has t10 i0, h1', and_self, n1, n2, x_reach hT, c3, x_refuse a1]
            exact fin
    · rw [if_neg h1] at k
      have c3 : (if 0 ≤ a ∧ a < (I.length : Int) then (1 : Int) else 0) = 0 := if_neg h1
      simp only [s145_0, s145_1, s145_4, s145_5, s145_8, s145_11, s145_12, s145_13, s145_16, Int.toNat_natCast, true_and, and_true, zpu_some, zpu_none, reduceIte, Int.reduceEq, Int.reduceToNat, a1, p4, t10, x_has t10 i0, c3, x_refuse a1]
      exact k _ (zCI_ans h) zFR_ans
