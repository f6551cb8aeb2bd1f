/-! TOKENS -/
def isL (x : Int) : Bool := decide (97 ≤ x) && decide (x < 123)
theorem isL_iff {x : Int} : isL x = true ↔ 97 ≤ x ∧ x < 123 := by unfold isL; rw [Bool.and_eq_true, decide_eq_true_iff, decide_eq_true_iff]
theorem isL_not {x : Int} : isL x = false ↔ ¬ (97 ≤ x ∧ x < 123) := by rw [← isL_iff, Bool.not_eq_true]
def tkS (xs : List Int) (e : Nat) : Nat := e + fC (fun i => decide (xs.getD i 0 = 32)) (xs.length - e) e
def tkE (xs : List Int) (s : Nat) : Nat := if s < xs.length ∧ isL (xs.getD s 0) = false then s + 1 else s + fC (fun i => isL (xs.getD i 0)) (xs.length - s) s
theorem tkS_le {xs : List Int} {e : Nat} (he : e ≤ xs.length) : e ≤ tkS xs e ∧ tkS xs e ≤ xs.length := by
  have := (fC_spec (p := fun i => decide (xs.getD i 0 = 32)) (xs.length - e) e).1
  unfold tkS
  omega
theorem tkE_le {xs : List Int} {s : Nat} (he : s ≤ xs.length) : s ≤ tkE xs s ∧ tkE xs s ≤ xs.length ∧ (s < xs.length → s < tkE xs s) := by
  obtain ⟨h1, h2, h3⟩ := fC_spec (p := fun i => isL (xs.getD i 0)) (xs.length - s) s
  unfold tkE
  by_cases h : s < xs.length ∧ isL (xs.getD s 0) = false
  · rw [if_pos h]; omega
  · rw [if_neg h]
    refine ⟨by omega, by omega, fun hs => ?_⟩
    by_cases h0 : fC (fun i => isL (xs.getD i 0)) (xs.length - s) s = 0
    · rw [h0] at h3
      rcases h3 with h3 | h3
      · omega
      · exact absurd ⟨hs, h3⟩ h
    · omega
theorem x_isL {L : zY} {m : zM} {Q : zQ} {x : Int} : zwp 158 0 [zI x] [] L m Q ↔ Q (some (zI (if isL x then 1 else 0))) L m := by
  simp only [s158_0, s158_1, s158_3, s158_6, s158_7, s158_9, s158_12, s158_13, s158_16, s158_17, Int.toNat_natCast, true_and, and_true, true_or, or_true, false_or, or_false, zwr_id, zpu_some, zpu_none, reduceIte, Int.reduceLE, Int.reduceLT, Int.reduceEq, Int.reduceNeg, Int.reduceAdd, Int.reduceSub, Int.reduceMul, Int.reduceToNat, Nat.reduceAdd, Nat.reduceLeDiff, Nat.reduceEqDiff, Nat.reduceLT, eq_self, ne_eq, not_false_eq_true, not_true_eq_false]
  by_cases h1 : x < 97
  · rw [if_pos h1, if_neg (by rw [isL_iff]; omega)]
  · by_cases h2 : 123 ≤ x
    · rw [if_neg h1, if_pos h2, if_neg (by rw [isL_iff]; omega)]
    · rw [if_neg h1, if_neg h2, if_pos (by rw [isL_iff]; omega)]
/-- a ScriptReader at r, its Tape at tp, THE TEXT xs, the TOKEN s .. e, the FAULT f at p -/
def zRd (L : zY) (m : zM) (r tp : Nat) (xs : List Int) (s e : Nat) (f p : Int) : Prop := zt L r = 7 ∧ 2 ≤ r ∧ m r 0 = (tp : Int) ∧ m r 1 = (xs.length : Int) ∧ m r 2 = (s : Int) ∧ m r 3 = (e : Int) ∧ m r 4 = f ∧ m r 5 = p
theorem x_txt {L : zY} {m : zM} {Q : zQ} {tp i : Nat} {xs rest : List Int} (hT : zTp L m tp (xs ++ rest)) (hi : i < xs.length) : zwp 106 0 [zA tp, zI (i : Nat)] [] L m Q ↔ Q (some (zI (xs.getD i 0))) L m := by
  rw [x_byteAt hT (by rw [List.length_append]; omega), List.getElem_append_left hi, getD_lt hi]
theorem c_next {L : zY} {m : zM} {Q : zQ} {r tp s e : Nat} {xs rest : List Int} {f p : Int} (hR : zRd L m r tp xs s e f p) (hT : zTp L m tp (xs ++ rest)) (he : e ≤ xs.length) (hd : tp ≠ r ∧ tp + 1 ≠ r) (k : ∀ m', zRd L m' r tp xs (tkS xs e) (tkE xs (tkS xs e)) f p → (∀ a, a ≠ r → m' a = m a) → Q none L m') : zwp 79 0 [zA r, zU] [] L m Q := by
  obtain ⟨a1, a2, b0, b1, b2, b3, b4, b5⟩ := hR
  have hlen : xs.length ≤ 300 := by have := hT.2.2.2.2.2.2.1; rw [List.length_append] at this; omega
  have tt := hT.1
  obtain ⟨c1, c2, c3⟩ := fC_spec (p := fun i => decide (xs.getD i 0 = 32)) (xs.length - e) e
  simp only [s79_0, s79_1, s79_4, Int.toNat_natCast, true_and, and_true, true_or, or_true, false_or, or_false, zwr_id, zpu_some, zpu_none, reduceIte, Int.reduceLE, Int.reduceLT, Int.reduceEq, Int.reduceNeg, Int.reduceAdd, Int.reduceSub, Int.reduceMul, Int.reduceToNat, Nat.reduceAdd, Nat.reduceLeDiff, Nat.reduceEqDiff, Nat.reduceLT, eq_self, ne_eq, not_false_eq_true, not_true_eq_false, a1, b3]
  have hb := tkS_le he
  have hs' : tkS xs e = e + fC (fun i => decide (xs.getD i 0 = 32)) (xs.length - e) e := rfl
  rw [← hs'] at c2 c3
  generalize hS : tkS xs e = S at *
  have hT1 : zTp L (zup m r 2 (S : Int)) tp (xs ++ rest) := zTp_eq (zup_nf hd.1) (zup_nf hd.2) hT
  have d0 : zup m r 2 (S : Int) r 0 = (tp : Int) := by rw [zup_nk (by omega)]; exact b0
  have d1 : zup m r 2 (S : Int) r 1 = (xs.length : Int) := by rw [zup_nk (by omega)]; exact b1
  have fin : ∀ E : Nat, E = tkE xs S → zwp 79 93 [zA r, zI (E : Nat)] [] L (zup m r 2 (S : Int)) Q := by
    intro E hE
    simp (disch := omega) only [s79_93, s79_94, s79_95, s79_98, Int.toNat_natCast, true_and, and_true, true_or, or_true, false_or, or_false, zwr_id, zpu_some, zpu_none, reduceIte, Int.reduceLE, Int.reduceLT, Int.reduceEq, Int.reduceNeg, Int.reduceAdd, Int.reduceSub, Int.reduceMul, Int.reduceToNat, Nat.reduceAdd, Nat.reduceLeDiff, Nat.reduceEqDiff, Nat.reduceLT, eq_self, ne_eq, not_false_eq_true, not_true_eq_false, a1]
    refine k _ ⟨a1, a2, ?_, ?_, ?_, ?_, ?_, ?_⟩ (fun a ha => by rw [zup_nf ha, zup_nf ha])
    · rw [zup_nk (by omega)]; exact d0
    · rw [zup_nk (by omega)]; exact d1
    · rw [zup_nk (by omega), zup_same]
    · rw [zup_same, hE]
    · rw [zup_nk (by omega), zup_nk (by omega)]; exact b4
    · rw [zup_nk (by omega), zup_nk (by omega)]; exact b5
  have lp : (S < xs.length → isL (xs.getD S 0) = true) → zwp 79 65 [zA r, zI (S : Nat)] [] L (zup m r 2 (S : Int)) Q := by
    intro hl
    obtain ⟨e1, e2, e3⟩ := fC_spec (p := fun i => isL (xs.getD i 0)) (xs.length - S) S
    have hE : tkE xs S = S + fC (fun i => isL (xs.getD i 0)) (xs.length - S) S := by
      unfold tkE
      rw [if_neg (fun q => by rw [hl q.1] at q; cases q.2)]
    rw [← hE] at e2 e3
    have hEb := tkE_le (xs := xs) (s := S) (by omega)
    have fin := fin _ rfl
    generalize tkE xs S = E at *
    refine zfor (n := E) (fun i => [zA r, zI (i : Nat)]) (fun i m' => S ≤ i ∧ m' = zup m r 2 (S : Int)) ?_ ?_ S _ hEb.1 ⟨Nat.le_refl _, rfl⟩
    · rintro i _ hi ⟨hSi, rfl⟩ ih
      have ih := ih _ ⟨by omega, rfl⟩
      have e2 := e2 i hSi hi
      simp only [s79_65]
      simp only [s79_66, s79_67, s79_70, s79_73, s79_74, s79_77, s79_78, s79_81, s79_84, s79_87, s79_90, Int.toNat_natCast, true_and, and_true, true_or, or_true, false_or, or_false, zwr_id, zpu_some, zpu_none, reduceIte, Int.reduceLE, Int.reduceLT, Int.reduceEq, Int.reduceNeg, Int.reduceAdd, Int.reduceSub, Int.reduceMul, Int.reduceToNat, Nat.reduceAdd, Nat.reduceLeDiff, Nat.reduceEqDiff, Nat.reduceLT, eq_self, ne_eq, not_false_eq_true, not_true_eq_false, a1, d0, d1, tt, x_txt hT1 (show i < xs.length by omega), x_isL, e2, (z1 (i := i) (by omega))]
      rw [if_neg (by omega)]
      exact ih
    · rintro _ ⟨-, rfl⟩
      simp only [s79_65]
      by_cases hEl : E = xs.length
      · simp only [s79_66, s79_67, s79_70, s79_73, s79_74, s79_77, s79_78, s79_81, s79_84, s79_87, s79_90, Int.toNat_natCast, true_and, and_true, true_or, or_true, false_or, or_false, zwr_id, zpu_some, zpu_none, reduceIte, Int.reduceLE, Int.reduceLT, Int.reduceEq, Int.reduceNeg, Int.reduceAdd, Int.reduceSub, Int.reduceMul, Int.reduceToNat, Nat.reduceAdd, Nat.reduceLeDiff, Nat.reduceEqDiff, Nat.reduceLT, eq_self, ne_eq, not_false_eq_true, not_true_eq_false, a1, d1]
        rw [if_pos (by omega)]
        exact fin
      · have e3 := e3.resolve_left (by omega)
        simp only [s79_66, s79_67, s79_70, s79_73, s79_74, s79_77, s79_78, s79_81, s79_84, s79_87, s79_90, Int.toNat_natCast, true_and, and_true, true_or, or_true, false_or, or_false, zwr_id, zpu_some, zpu_none, reduceIte, Int.reduceLE, Int.reduceLT, Int.reduceEq, Int.reduceNeg, Int.reduceAdd, Int.reduceSub, Int.reduceMul, Int.reduceToNat, Nat.reduceAdd, Nat.reduceLeDiff, Nat.reduceEqDiff, Nat.reduceLT, eq_self, ne_eq, not_false_eq_true, not_true_eq_false, a1, d0, d1, tt, x_txt hT1 (show E < xs.length by omega), x_isL, e3, Bool.false_eq_true]
        rw [if_neg (by omega)]
        exact fin
  refine zfor (n := S) (fun i => [zA r, zI (i : Nat)]) (fun i m' => e ≤ i ∧ m' = m) ?_ ?_ e m hb.1 ⟨Nat.le_refl _, rfl⟩
  · rintro i _ hi ⟨hie, rfl⟩ ih
    have ih := ih _ ⟨by omega, rfl⟩
    have c2 := of_decide_eq_true (c2 i hie hi)
    simp only [s79_5]
    simp only [s79_6, s79_7, s79_10, s79_13, s79_14, s79_17, s79_18, s79_21, s79_23, s79_26, s79_29, Int.toNat_natCast, true_and, and_true, true_or, or_true, false_or, or_false, zwr_id, zpu_some, zpu_none, reduceIte, Int.reduceLE, Int.reduceLT, Int.reduceEq, Int.reduceNeg, Int.reduceAdd, Int.reduceSub, Int.reduceMul, Int.reduceToNat, Nat.reduceAdd, Nat.reduceLeDiff, Nat.reduceEqDiff, Nat.reduceLT, eq_self, ne_eq, not_false_eq_true, not_true_eq_false, a1, b0, b1, tt, x_txt hT (show i < xs.length by omega), c2, (z1 (i := i) (by omega))]
    rw [if_neg (by omega)]
    exact ih
  · rintro m0 ⟨-, rfl⟩
    have mid : zwp 79 32 [zA r, zI (S : Nat)] [] L m0 Q := by
      simp (disch := omega) only [s79_32, s79_33, s79_34, s79_37, s79_38, s79_39, Int.toNat_natCast, true_and, and_true, true_or, or_true, false_or, or_false, zwr_id, zpu_some, zpu_none, reduceIte, Int.reduceLE, Int.reduceLT, Int.reduceEq, Int.reduceNeg, Int.reduceAdd, Int.reduceSub, Int.reduceMul, Int.reduceToNat, Nat.reduceAdd, Nat.reduceLeDiff, Nat.reduceEqDiff, Nat.reduceLT, eq_self, ne_eq, not_false_eq_true, not_true_eq_false, a1, d1]
      simp only [s79_42]
      by_cases hSl : S = xs.length
      · rw [if_pos (by omega)]
        exact lp (fun h => absurd h (by omega))
      · rw [if_neg (by omega)]
        have hSl' : S < xs.length := by omega
        by_cases hl : isL (xs.getD S 0) = true
        · simp only [s79_45, s79_46, s79_49, s79_50, s79_53, s79_56, Int.toNat_natCast, true_and, and_true, true_or, or_true, false_or, or_false, zwr_id, zpu_some, zpu_none, reduceIte, Int.reduceLE, Int.reduceLT, Int.reduceEq, Int.reduceNeg, Int.reduceAdd, Int.reduceSub, Int.reduceMul, Int.reduceToNat, Nat.reduceAdd, Nat.reduceLeDiff, Nat.reduceEqDiff, Nat.reduceLT, eq_self, ne_eq, not_false_eq_true, not_true_eq_false, a1, d0, tt, x_txt hT1 hSl', x_isL, hl]
          exact lp (fun _ => hl)
        · have hl : isL (xs.getD S 0) = false := Bool.not_eq_true _ ▸ hl
          simp only [s79_45, s79_46, s79_49, s79_50, s79_53, s79_56, s79_59, s79_62, Int.toNat_natCast, true_and, and_true, true_or, or_true, false_or, or_false, zwr_id, zpu_some, zpu_none, reduceIte, Int.reduceLE, Int.reduceLT, Int.reduceEq, Int.reduceNeg, Int.reduceAdd, Int.reduceSub, Int.reduceMul, Int.reduceToNat, Nat.reduceAdd, Nat.reduceLeDiff, Nat.reduceEqDiff, Nat.reduceLT, eq_self, ne_eq, not_false_eq_true, not_true_eq_false, a1, d0, tt, x_txt hT1 hSl', x_isL, hl, Bool.false_eq_true, (z1 (i := S) (by omega))]
          exact fin (S + 1) (by unfold tkE; rw [if_pos ⟨hSl', hl⟩])
    simp only [s79_5]
    by_cases hSl : S = xs.length
    · simp only [s79_6, s79_7, s79_10, s79_13, s79_14, s79_17, s79_18, s79_21, s79_23, s79_26, s79_29, Int.toNat_natCast, true_and, and_true, true_or, or_true, false_or, or_false, zwr_id, zpu_some, zpu_none, reduceIte, Int.reduceLE, Int.reduceLT, Int.reduceEq, Int.reduceNeg, Int.reduceAdd, Int.reduceSub, Int.reduceMul, Int.reduceToNat, Nat.reduceAdd, Nat.reduceLeDiff, Nat.reduceEqDiff, Nat.reduceLT, eq_self, ne_eq, not_false_eq_true, not_true_eq_false, a1, b1]
      rw [if_pos (by omega)]
      exact mid
    · have c3 := c3.resolve_left (by omega)
      have c3 : ¬ xs.getD S 0 = 32 := of_decide_eq_false c3
      simp only [s79_6, s79_7, s79_10, s79_13, s79_14, s79_17, s79_18, s79_21, s79_23, s79_26, s79_29, Int.toNat_natCast, true_and, and_true, true_or, or_true, false_or, or_false, zwr_id, zpu_some, zpu_none, reduceIte, Int.reduceLE, Int.reduceLT, Int.reduceEq, Int.reduceNeg, Int.reduceAdd, Int.reduceSub, Int.reduceMul, Int.reduceToNat, Nat.reduceAdd, Nat.reduceLeDiff, Nat.reduceEqDiff, Nat.reduceLT, eq_self, ne_eq, not_false_eq_true, not_true_eq_false, a1, b0, b1, tt, x_txt hT (show S < xs.length by omega), c3]
      rw [if_neg (by omega)]
      exact mid
/-! words -/
theorem zw_len : ∀ j, j < 14 → zshr (zwlen j : Int) 0 = (zwlen j : Int) := by decide +kernel
theorem zw_ch : ∀ j, j < 14 → ∀ i, i < zwlen j → zand ((zwords.getD j []).getD i 0) 255 = (zwords.getD j []).getD i 0 ∧ 0 ≤ (zwords.getD j []).getD i 0 ∧ (zwords.getD j []).getD i 0 < 65536 := by decide +kernel
theorem zw_le : ∀ j, j < 14 → zwlen j ≤ 5 := by decide +kernel
theorem x_wlen {L : zY} {m : zM} {Q : zQ} {j : Nat} (hj : j < 14) : zwp 259 0 [zS 0 j] [] L m Q ↔ Q (some (zI (zwlen j : Nat))) L m := by
  simp only [s259_0, s259_1, s259_4, s259_5, s259_6, s259_9, s259_10, s261_0, s261_3, s261_6, s261_7, s261_10, s261_13, s261_14, Int.toNat_natCast, true_and, and_true, true_or, or_true, false_or, or_false, zwr_id, zpu_some, zpu_none, reduceIte, Int.reduceLE, Int.reduceLT, Int.reduceEq, Int.reduceNeg, Int.reduceAdd, Int.reduceSub, Int.reduceMul, Int.reduceToNat, Nat.reduceAdd, Nat.reduceLeDiff, Nat.reduceEqDiff, Nat.reduceLT, eq_self, ne_eq, not_false_eq_true, not_true_eq_false, zw_len j hj]
theorem x_wch {L : zY} {m : zM} {Q : zQ} {j i : Nat} (hj : j < 14) (hi : i < zwlen j) : zwp 260 0 [zS 0 j, zI (i : Nat)] [] L m Q ↔ Q (some (zI ((zwords.getD j []).getD i 0))) L m := by
  obtain ⟨h1, h2, h3⟩ := zw_ch j hj i hi
  have e1 : ¬ (i : Int) < 0 := by omega
  have e2 : (i : Int) < (zwlen j : Int) := by omega
  have e3 : 0 ≤ (i : Int) := by omega
  simp only [s260_0, s260_1, s260_4, s260_7, s260_8, s260_11, s260_12, s260_15, s260_16, s260_17, s260_20, s262_0, s262_3, s262_6, s262_7, s262_10, s262_13, s262_14, s262_17, s262_18, s263_0, s263_1, s263_2, s263_5, s263_8, s263_9, s264_0, s264_1, s264_2, s264_3, s264_6, s264_7, s264_8, s264_9, s264_12, s264_13, s264_14, s265_0, s265_1, s265_4, s265_5, s265_6, s265_9, s265_10, s265_11, s265_16, s265_17, Int.toNat_natCast, true_and, and_true, true_or, or_true, false_or, or_false, zwr_id, zpu_some, zpu_none, reduceIte, Int.reduceLE, Int.reduceLT, Int.reduceEq, Int.reduceNeg, Int.reduceAdd, Int.reduceSub, Int.reduceMul, Int.reduceToNat, Nat.reduceAdd, Nat.reduceLeDiff, Nat.reduceEqDiff, Nat.reduceLT, eq_self, ne_eq, not_false_eq_true, not_true_eq_false, e1, e2, e3, h1, h2, h3, and_self]
theorem tok_eq {xs w : List Int} {s e : Nat} (hse : s ≤ e) (he : e ≤ xs.length) (hl : e - s = w.length) : (xs.drop s).take (e - s) = w ↔ ∀ i, i < w.length → xs.getD (s + i) 0 = w.getD i 0 := by
  constructor
  · intro h i hi
    rw [← h, List.getD_eq_getElem?_getD, List.getD_eq_getElem?_getD, List.getElem?_take_of_lt (by omega), List.getElem?_drop]
  · intro h
    apply List.ext_getElem
    · rw [List.length_take, List.length_drop]; omega
    · intro i h1 h2
      have := h i h2
      rw [getD_lt (show s + i < xs.length by omega), getD_lt h2] at this
      rw [List.getElem_take, List.getElem_drop]
      exact this
theorem c_tokIs {L : zY} {m : zM} {Q : zQ} {r tp s e j : Nat} {xs rest : List Int} {f p : Int} (hR : zRd L m r tp xs s e f p) (hT : zTp L m tp (xs ++ rest)) (hse : s ≤ e) (he : e ≤ xs.length) (hj : j < 14) (k : Q (some (zI (if (xs.drop s).take (e - s) = zwords.getD j [] then 1 else 0))) L m) : zwp 80 0 [zA r, zS 0 j, zU] [] L m Q := by
  obtain ⟨a1, a2, b0, b1, b2, b3, b4, b5⟩ := hR
  have hlen : xs.length ≤ 300 := by have := hT.2.2.2.2.2.2.1; rw [List.length_append] at this; omega
  have tt := hT.1
  have hw5 := zw_le j hj
  simp only [s80_0, s80_1, s80_4, s80_5, s80_8, s80_9, s80_10, s80_13, s80_16, s80_17, s80_18, s80_19, Int.toNat_natCast, true_and, and_true, true_or, eq_self, zpu_some, zpu_none, a1, b2, b3, x_wlen hj, (show zwr ((e : Int) - (s : Int)) = ((e - s : Nat) : Int) by rw [zwr_id (by omega) (by omega)]; omega)]
  by_cases hl : e - s = zwlen j
  · rw [if_pos (by omega)]
    obtain ⟨c1, c2, c3⟩ := fC_spec (p := fun i => decide (xs.getD (s + i) 0 = (zwords.getD j []).getD i 0)) (zwlen j) 0
    have teq := tok_eq (w := zwords.getD j []) hse he hl
    rw [Nat.zero_add] at c2 c3
    generalize fC (fun i => decide (xs.getD (s + i) 0 = (zwords.getD j []).getD i 0)) (zwlen j) 0 = v at *
    refine zfor (n := v) (fun i => [zA r, zS 0 j, zI (i : Nat)]) (fun i m' => m' = m) ?_ ?_ 0 m (Nat.zero_le _) rfl
    · rintro i _ hi rfl ih
      have ih := ih _ rfl
      have c2 := of_decide_eq_true (c2 i (Nat.zero_le _) hi)
      simp only [s80_20]
      simp only [s80_21, s80_22, s80_25, s80_28, s80_29, s80_30, s80_33, s80_34, s80_35, s80_38, s80_39, s80_40, s80_43, s80_46, s80_47, s80_48, s80_51, s80_54, s80_55, s78_0, s78_1, s78_2, s78_5, s78_8, s78_9, s78_12, s78_13, s78_16, s78_19, s78_20, Int.toNat_natCast, true_and, and_true, zpu_some, zpu_none, a1, b0, b1, b2, tt, x_wlen hj, x_wch hj (show i < zwlen j by omega), x_txt hT (show s + i < xs.length by omega), c2, (z1 (i := i) (by omega)), (show zwr ((s : Int) + (i : Int)) = ((s + i : Nat) : Int) by rw [zwr_id (by omega) (by omega)]; omega), eq_self, reduceIte, ne_eq, not_true_eq_false]
      rw [if_neg (by omega), if_neg (by omega)]
      exact ih
    · rintro _ rfl
      simp only [s80_20]
      by_cases hv : v = zwlen j
      · rw [if_pos (teq.mpr (fun i hi => of_decide_eq_true (c2 i (Nat.zero_le _) (by rw [hv]; exact hi))))] at k
        simp only [s80_21, s80_22, s80_25, s80_28, s80_29, s80_30, s80_33, s80_34, s80_35, s80_38, s80_39, s80_40, s80_43, s80_46, s80_47, s80_48, s80_51, s80_54, s80_55, Int.toNat_natCast, true_and, and_true, true_or, or_true, false_or, or_false, zwr_id, zpu_some, zpu_none, reduceIte, Int.reduceLE, Int.reduceLT, Int.reduceEq, Int.reduceNeg, Int.reduceAdd, Int.reduceSub, Int.reduceMul, Int.reduceToNat, Nat.reduceAdd, Nat.reduceLeDiff, Nat.reduceEqDiff, Nat.reduceLT, eq_self, ne_eq, not_false_eq_true, not_true_eq_false, a1, x_wlen hj]
        rw [if_pos (by omega)]
        exact k
      · have c3 := of_decide_eq_false (c3.resolve_left hv)
        have hvl : v < zwlen j := by omega
        rw [if_neg (fun h => c3 (teq.mp h v hvl))] at k
        simp only [s80_21, s80_22, s80_25, s80_28, s80_29, s80_30, s80_33, s80_34, s80_35, s80_38, s80_39, s80_40, s80_43, s80_46, s80_47, s80_48, s80_51, s80_54, s80_55, s78_0, s78_1, s78_2, s78_5, s78_8, s78_9, s78_12, s78_13, s78_16, s78_19, s78_20, Int.toNat_natCast, true_and, and_true, zpu_some, zpu_none, a1, b0, b1, b2, tt, x_wlen hj, x_wch hj hvl, x_txt hT (show s + v < xs.length by omega), c3, (show zwr ((s : Int) + (v : Int)) = ((s + v : Nat) : Int) by rw [zwr_id (by omega) (by omega)]; omega), eq_self, reduceIte, ne_eq, not_true_eq_false, not_false_eq_true, true_or]
        rw [if_neg (by omega), if_neg (by omega)]
        exact k
  · rw [if_neg (by omega)]
    rw [if_neg (fun h => hl (by have := congrArg List.length h; rw [List.length_take, List.length_drop] at this; show e - s = (zwords.getD j []).length; omega))] at k
    exact k
/-- the sort of LINE that a word begins -/
def kwd (w : List Int) : Int := if w = zwords.getD 0 [] then 0 else if w = zwords.getD 1 [] then 1 else if w = zwords.getD 2 [] then 2 else if w = zwords.getD 3 [] then 3 else if w = zwords.getD 4 [] then 4 else if w = zwords.getD 5 [] then 5 else if w = zwords.getD 6 [] then 6 else -1
theorem x_tokIs {L : zY} {m : zM} {Q : zQ} {r tp s e j : Nat} {xs rest : List Int} {f p : Int} (hR : zRd L m r tp xs s e f p) (hT : zTp L m tp (xs ++ rest)) (hse : s ≤ e) (he : e ≤ xs.length) (hj : j < 14) : zwp 80 0 [zA r, zS 0 j, zU] [] L m Q ↔ Q (some (zI (if (xs.drop s).take (e - s) = zwords.getD j [] then 1 else 0))) L m := zwp_det (c_tokIs hR hT hse he hj ⟨rfl, rfl, rfl⟩)
theorem x_line {L : zY} {m : zM} {Q : zQ} {r tp s e : Nat} {xs rest : List Int} {f p : Int} (hR : zRd L m r tp xs s e f p) (hT : zTp L m tp (xs ++ rest)) (hse : s ≤ e) (he : e ≤ xs.length) : zwp 82 0 [zA r] [] L m Q ↔ Q (some (zI (kwd ((xs.drop s).take (e - s))))) L m := by
  have a1 := hR.1
  generalize hw : (xs.drop s).take (e - s) = w
  have t : ∀ (Q : zQ) (j : Nat), j < 14 → (zwp 80 0 [zA r, zS 0 j, zU] [] L m Q ↔ Q (some (zI (if w = zwords.getD j [] then 1 else 0))) L m) := fun Q j hj => by rw [x_tokIs hR hT hse he hj, hw]
  simp only [s82_0, s82_1, s82_3, s82_6, s82_9, s82_10, s82_11, s82_12, s82_14, s82_17, s82_20, s82_21, s82_22, s82_23, s82_25, s82_28, s82_31, s82_32, s82_33, s82_34, s82_36, s82_39, s82_42, s82_43, s82_44, s82_45, s82_47, s82_50, s82_53, s82_54, s82_55, s82_56, s82_58, s82_61, s82_64, s82_65, s82_66, s82_67, s82_69, s82_72, s82_75, s82_77, s82_80, s82_81, Int.toNat_natCast, true_and, and_true, zpu_some, zpu_none, a1, t _ 0 (by omega), t _ 1 (by omega), t _ 2 (by omega), t _ 3 (by omega), t _ 4 (by omega), t _ 5 (by omega), t _ 6 (by omega)]
  unfold kwd
  by_cases h0 : w = zwords.getD 0 []
  · simp only [if_pos h0, Int.reduceEq, reduceIte]
  · by_cases h1 : w = zwords.getD 1 []
    · simp only [if_neg h0, if_pos h1, Int.reduceEq, reduceIte]
    · by_cases h2 : w = zwords.getD 2 []
      · simp only [if_neg h0, if_neg h1, if_pos h2, Int.reduceEq, reduceIte]
      · by_cases h3 : w = zwords.getD 3 []
        · simp only [if_neg h0, if_neg h1, if_neg h2, if_pos h3, Int.reduceEq, reduceIte]
        · by_cases h4 : w = zwords.getD 4 []
          · simp only [if_neg h0, if_neg h1, if_neg h2, if_neg h3, if_pos h4, Int.reduceEq, reduceIte]
          · by_cases h5 : w = zwords.getD 5 []
            · simp only [if_neg h0, if_neg h1, if_neg h2, if_neg h3, if_neg h4, if_pos h5, Int.reduceEq, reduceIte]
            · by_cases h6 : w = zwords.getD 6 []
              · simp only [if_neg h0, if_neg h1, if_neg h2, if_neg h3, if_neg h4, if_neg h5, if_pos h6, Int.reduceEq, reduceIte]
              · simp only [if_neg h0, if_neg h1, if_neg h2, if_neg h3, if_neg h4, if_neg h5, if_neg h6, Int.reduceEq, reduceIte]
theorem kwd_rng {w : List Int} : kwd w = -1 ∨ (0 ≤ kwd w ∧ kwd w ≤ 6) := by
  unfold kwd
  repeat' split
  all_goals omega
