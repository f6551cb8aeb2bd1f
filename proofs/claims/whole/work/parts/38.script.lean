def dD0 : zD := ((fun _ => -1), [], [], [], [], [])
theorem zup_cg {m m' : zM} {a k : Nat} {v : Int} (h : m' a = m a) : zup m' a k v a = zup m a k v a := by
  funext j
  unfold zup
  rw [h]
def zcl6 (m : zM) (c : Nat) : zM := zup (zup (zup (zup (zup (zup m (c + 2) 1 0) (c + 4) 1 0) (c + 6) 1 0) (c + 8) 1 0) (c + 10) 1 0) (c + 12) 1 0
theorem zcl6_o {m : zM} {c a : Nat} (h : a ≠ c + 2 ∧ a ≠ c + 4 ∧ a ≠ c + 6 ∧ a ≠ c + 8 ∧ a ≠ c + 10 ∧ a ≠ c + 12) : zcl6 m c a = m a := by
  unfold zcl6
  rw [zup_nf h.2.2.2.2.2, zup_nf h.2.2.2.2.1, zup_nf h.2.2.2.1, zup_nf h.2.2.1, zup_nf h.2.1, zup_nf h.1]
theorem zcl6_2 {m : zM} {c : Nat} : zcl6 m c (c + 2) = zup m (c + 2) 1 0 (c + 2) := by
  unfold zcl6
  rw [zup_nf (by omega), zup_nf (by omega), zup_nf (by omega), zup_nf (by omega), zup_nf (by omega)]
theorem zcl6_4 {m : zM} {c : Nat} : zcl6 m c (c + 4) = zup m (c + 4) 1 0 (c + 4) := by
  unfold zcl6
  rw [zup_nf (by omega), zup_nf (by omega), zup_nf (by omega), zup_nf (by omega), zup_cg (zup_nf (by omega))]
theorem zcl6_6 {m : zM} {c : Nat} : zcl6 m c (c + 6) = zup m (c + 6) 1 0 (c + 6) := by
  unfold zcl6
  rw [zup_nf (by omega), zup_nf (by omega), zup_nf (by omega), zup_cg (by rw [zup_nf (by omega), zup_nf (by omega)])]
theorem zcl6_8 {m : zM} {c : Nat} : zcl6 m c (c + 8) = zup m (c + 8) 1 0 (c + 8) := by
  unfold zcl6
  rw [zup_nf (by omega), zup_nf (by omega), zup_cg (by rw [zup_nf (by omega), zup_nf (by omega), zup_nf (by omega)])]
theorem zcl6_10 {m : zM} {c : Nat} : zcl6 m c (c + 10) = zup m (c + 10) 1 0 (c + 10) := by
  unfold zcl6
  rw [zup_nf (by omega), zup_cg (by rw [zup_nf (by omega), zup_nf (by omega), zup_nf (by omega), zup_nf (by omega)])]
theorem zcl6_12 {m : zM} {c : Nat} : zcl6 m c (c + 12) = zup m (c + 12) 1 0 (c + 12) := by
  unfold zcl6
  rw [zup_cg (by rw [zup_nf (by omega), zup_nf (by omega), zup_nf (by omega), zup_nf (by omega), zup_nf (by omega)])]
theorem zcl6_ok {L : zY} {m : zM} {c : Nat} {D : zD} (h : zSd L m c D) : zSd L (zcl6 m c) c ((dS D, [], [], [], [], []) : zD) := by
  have z : ∀ {o cap : Nat} {xs : List Int}, zKL L m o cap xs → zcl6 m c o = zup m o 1 0 o → zcl6 m c (o + 1) = m (o + 1) → zKL L (zcl6 m c) o cap [] := fun hk e0 e1 => zKL_eq e0 (by rw [e1, zup_nf (by omega)]) (zKL_nil hk)
  exact zSd_ptr h (zcl6_o (by omega)) (fun k hk => by rw [zcl6_o (by omega)]; exact h.2.1 k hk) (z h.2.2.1 zcl6_2 (zcl6_o (by omega))) (z h.2.2.2.1 zcl6_4 (zcl6_o (by omega))) (z h.2.2.2.2.1 zcl6_6 (zcl6_o (by omega))) (z h.2.2.2.2.2.1 zcl6_8 (zcl6_o (by omega))) (z h.2.2.2.2.2.2.1 zcl6_10 (zcl6_o (by omega))) (z h.2.2.2.2.2.2.2 zcl6_12 (zcl6_o (by omega)))
theorem c_Sclear {L : zY} {m : zM} {Q : zQ} {c : Nat} {D : zD} (h : zSd L m c D) (k : ∀ m', zSd L m' c dD0 → zFR c (c + 13) m m' → Q none L m') : zwp 55 0 [zA c] [] L m Q := by
  have a1 := h.1.1
  have b0 := h.1.2.2.1
  have a3 := h.1.2.2.2.2.2.2.2.2.2.2.2.2.1
  have a4 := h.1.2.2.2.2.2.2.2.2.2.2.2.2.2
  have c2 := h.1.2.1
  simp only [s55_0, s55_1, s55_4, s55_5, Int.toNat_natCast, true_and, and_true, true_or, or_true, false_or, or_false, zwr_id, zpu_some, zpu_none, reduceIte, Int.reduceLE, Int.reduceLT, Int.reduceEq, Int.reduceNeg, Int.reduceAdd, Int.reduceSub, Int.reduceMul, Int.reduceToNat, Nat.reduceAdd, Nat.reduceLeDiff, Nat.reduceEqDiff, Nat.reduceLT, eq_self, ne_eq, not_false_eq_true, not_true_eq_false, a1, b0]
  refine c_fillI a3 a4 (by omega) (by omega) (fun m1 g1 f1 => ?_)
  have h1 : zSd L m1 c (((fun _ => -1), D.2) : zD) := by
    have e : ∀ a, a ≠ c + 1 → m1 a = m a := f1
    exact zSd_ptr h (e _ (by omega)) g1 (zKL_eq (e _ (by omega)) (e _ (by omega)) h.2.2.1) (zKL_eq (e _ (by omega)) (e _ (by omega)) h.2.2.2.1) (zKL_eq (e _ (by omega)) (e _ (by omega)) h.2.2.2.2.1) (zKL_eq (e _ (by omega)) (e _ (by omega)) h.2.2.2.2.2.1) (zKL_eq (e _ (by omega)) (e _ (by omega)) h.2.2.2.2.2.2.1) (zKL_eq (e _ (by omega)) (e _ (by omega)) h.2.2.2.2.2.2.2)
  have h2 := zcl6_ok h1
  have fr : zFR c (c + 13) m (zcl6 m1 c) := fun a ha => by rw [zcl6_o (by omega)]; exact f1 a (by omega)
  have fin := k _ h2 fr
  clear h2 fr k f1 g1
  obtain ⟨⟨-, -, -, b1, b2, b3, b4, b5, b6, -, -, -, -, -⟩, -, l1, l2, l3, l4, l5, l6⟩ := h1
  have t1 := l1.1
  have t2 := l2.1
  have t3 := l3.1
  have t4 := l4.1
  have t5 := l5.1
  have t6 := l6.1
  have y2 : ∀ {k k' : Nat} {v : Int} {m : zM}, zup m (c + 2) k v c k' = m c k' := zup_na (by omega)
  have y4 : ∀ {k k' : Nat} {v : Int} {m : zM}, zup m (c + 4) k v c k' = m c k' := zup_na (by omega)
  have y6 : ∀ {k k' : Nat} {v : Int} {m : zM}, zup m (c + 6) k v c k' = m c k' := zup_na (by omega)
  have y8 : ∀ {k k' : Nat} {v : Int} {m : zM}, zup m (c + 8) k v c k' = m c k' := zup_na (by omega)
  have y10 : ∀ {k k' : Nat} {v : Int} {m : zM}, zup m (c + 10) k v c k' = m c k' := zup_na (by omega)
  have z2 : 2 ≤ c + 2 ∧ 2 ≤ c + 4 ∧ 2 ≤ c + 6 ∧ 2 ≤ c + 8 ∧ 2 ≤ c + 10 ∧ 2 ≤ c + 12 := by omega
  obtain ⟨z1, z2, z3, z4, z5, z6⟩ := z2
  simp only [s55_8, s55_9, s55_12, s55_15, s55_16, s55_19, s55_22, s55_23, s55_26, s55_29, s55_30, s55_33, s55_36, s55_37, s55_40, s55_43, s55_44, s55_47, s55_50, s5_0, s5_1, s5_2, s5_5, Int.toNat_natCast, true_and, and_true, true_or, or_true, false_or, or_false, zwr_id, zpu_some, zpu_none, reduceIte, Int.reduceLE, Int.reduceLT, Int.reduceEq, Int.reduceNeg, Int.reduceAdd, Int.reduceSub, Int.reduceMul, Int.reduceToNat, Nat.reduceAdd, Nat.reduceLeDiff, Nat.reduceEqDiff, Nat.reduceLT, eq_self, ne_eq, not_false_eq_true, not_true_eq_false, a1, b1, b2, b3, b4, b5, b6, t1, t2, t3, t4, t5, t6, y2, y4, y6, y8, y10, z1, z2, z3, z4, z5, z6]
  exact fin
def dLacks (D : zD) : Bool := (dLe D).isEmpty || (dV D).isEmpty
theorem zKL_at {L : zY} {m : zM} {Q : zQ} {o cap i : Nat} {xs : List Nat} (h : zKL L m o cap (xs.map kk)) (hi : i < xs.length) : zwp 9 0 [zA o, zI (i : Nat)] [] L m Q ↔ Q (some (zI (kk xs[i]))) L m := by
  rw [x_keyAt h (by rw [List.length_map]; exact hi), List.getElem_map]
theorem zKL_n {L : zY} {m : zM} {o cap : Nat} {α : Type} {f : α → Int} {xs : List α} (h : zKL L m o cap (xs.map f)) : m o 1 = (xs.length : Int) ∧ xs.length ≤ cap := by
  have h1 := h.2.2.2.2.2.2.1
  have h2 := h.2.2.2.2.2.2.2.1
  rw [List.length_map] at h1 h2
  exact ⟨h1, h2⟩
theorem c_lacks {L : zY} {m : zM} {Q : zQ} {c : Nat} {D : zD} (h : zSd L m c D) (hD : ∀ k ∈ dC D, k < 26) (k : Q (some (zI (if dLacks D then 1 else 0))) L m) : zwp 66 0 [zA c, zU] [] L m Q := by
  obtain ⟨⟨a1, a2, b0, b1, b2, b3, b4, b5, b6, b7, b8, b9, a3, a4⟩, a5, l1, l2, l3, l4, l5, l6⟩ := id h
  obtain ⟨a, b, cc⟩ := fC_spec (p := fun i => !cLe D ((dC D).getD i 0)) (dC D).length 0
  rw [Nat.zero_add] at b cc
  have t1 := l1.1
  have t2 := l2.1
  obtain ⟨n1, hle⟩ := zKL_n l1
  obtain ⟨n2, hle2⟩ := zKL_n l2
  simp only [s66_0, s66_1]
  refine zfor (n := fC (fun i => !cLe D ((dC D).getD i 0)) (dC D).length 0) (fun i => [zA c, zI (i : Nat)]) (fun _ m' => m' = m) ?_ ?_ 0 m (Nat.zero_le _) rfl
  · rintro i _ hi rfl ih
    have ih := ih _ rfl
    have hi1 : i < (dC D).length := by omega
    have b := b i (Nat.zero_le _) hi
    rw [getD_lt hi1, Bool.not_eq_true'] at b
    simp only [s66_2]
    simp only [s66_0, s66_1, s66_3, s66_4, s66_7, s66_10, s66_13, s66_14, s66_15, s66_18, s66_19, s66_22, s66_25, s66_28, s66_29, s66_32, s66_35, s66_38, s66_39, s66_42, s66_43, s66_44, s66_47, s66_50, s66_51, Int.toNat_natCast, true_and, and_true, true_or, or_true, false_or, or_false, zwr_id, zpu_some, zpu_none, reduceIte, Int.reduceLE, Int.reduceLT, Int.reduceEq, Int.reduceNeg, Int.reduceAdd, Int.reduceSub, Int.reduceMul, Int.reduceToNat, Nat.reduceAdd, Nat.reduceLeDiff, Nat.reduceEqDiff, Nat.reduceLT, eq_self, ne_eq, not_false_eq_true, not_true_eq_false, a1, b1, t1, n1, zKL_at l1 hi1, x_canLead h (hD _ (List.getElem_mem hi1)), b, (z1 (i := i) (by omega)), Bool.false_eq_true]
    rw [if_neg (by omega)]
    exact ih
  · rintro _ rfl
    generalize hV : fC (fun i => !cLe D ((dC D).getD i 0)) (dC D).length 0 = v at *
    simp only [s66_2]
    by_cases hv : v = (dC D).length
    · have hn : dLe D = [] := by
        unfold dLe
        rw [List.filter_eq_nil_iff]
        intro x hx
        obtain ⟨j, hj, e⟩ := List.getElem_of_mem hx
        have := b j (Nat.zero_le _) (by omega)

        rw [getD_lt hj, e, Bool.not_eq_true'] at this
        rw [this]
        exact Bool.false_ne_true
      have e : dLacks D = true := by unfold dLacks; rw [hn]; rfl
      rw [e] at k
      simp only [s66_0, s66_1, s66_3, s66_4, s66_7, s66_10, s66_13, s66_14, s66_15, s66_18, s66_19, s66_22, s66_25, s66_28, s66_29, s66_32, s66_35, s66_38, s66_39, s66_42, s66_43, s66_44, s66_47, s66_50, s66_51, Int.toNat_natCast, true_and, and_true, true_or, or_true, false_or, or_false, zwr_id, zpu_some, zpu_none, reduceIte, Int.reduceLE, Int.reduceLT, Int.reduceEq, Int.reduceNeg, Int.reduceAdd, Int.reduceSub, Int.reduceMul, Int.reduceToNat, Nat.reduceAdd, Nat.reduceLeDiff, Nat.reduceEqDiff, Nat.reduceLT, eq_self, ne_eq, not_false_eq_true, not_true_eq_false, a1, b1, t1, n1]
      rw [if_pos (by omega)]
      exact k
    · have hi1 : v < (dC D).length := by omega
      have cc := cc.resolve_left hv
      rw [getD_lt hi1, Bool.not_eq_false'] at cc
      have hn : (dLe D).isEmpty = false := by
        rw [List.isEmpty_eq_false_iff]
        intro hn
        unfold dLe at hn
        rw [List.filter_eq_nil_iff] at hn
        exact hn _ (List.getElem_mem hi1) cc
      have e : dLacks D = decide ((dV D).length = 0) := by
        unfold dLacks; rw [hn]; cases dV D <;> simp
      rw [e] at k
      simp only [s66_0, s66_1, s66_3, s66_4, s66_7, s66_10, s66_13, s66_14, s66_15, s66_18, s66_19, s66_22, s66_25, s66_28, s66_29, s66_32, s66_35, s66_38, s66_39, s66_42, s66_43, s66_44, s66_47, s66_50, s66_51, Int.toNat_natCast, true_and, and_true, true_or, or_true, false_or, or_false, zwr_id, zpu_some, zpu_none, reduceIte, Int.reduceLE, Int.reduceLT, Int.reduceEq, Int.reduceNeg, Int.reduceAdd, Int.reduceSub, Int.reduceMul, Int.reduceToNat, Nat.reduceAdd, Nat.reduceLeDiff, Nat.reduceEqDiff, Nat.reduceLT, eq_self, ne_eq, not_false_eq_true, not_true_eq_false, a1, b1, b2, t1, t2, n1, n2, zKL_at l1 hi1, x_canLead h (hD _ (List.getElem_mem hi1)), cc]
      rw [if_neg (by omega)]
      by_cases e0 : (dV D).length = 0
      · rw [if_pos (by omega)]
        rw [decide_eq_true e0] at k
        exact k
      · rw [if_neg (by omega)]
        rw [decide_eq_false e0] at k
        exact k
/-- a Script at c: its numbers -/
def zSt (L : zY) (m : zM) (c : Nat) (D : zD) : Prop := zPT L m (c + 14) 14 (dTL D) (dLe D).length (dNL D) ∧ zPT L m (c + 18) 16 (dTM D) (dV D).length (dNM D) ∧ zPT L m (c + 22) 19 (dTE D) (1 + (dEn D).length) (dNE D)
def zSl (L : zY) (m : zM) (c : Nat) : Prop := zPl L m (c + 14) 14 ∧ zPl L m (c + 18) 16 ∧ zPl L m (c + 22) 19
theorem zSt_eq {L : zY} {m m' : zM} {c : Nat} {D : zD} (h : ∀ a, c + 14 ≤ a → a ≤ c + 25 → m' a = m a) (hh : zSt L m c D) : zSt L m' c D := by
  obtain ⟨h1, h2, h3⟩ := hh
  exact ⟨zPT_eq (h _ (by omega) (by omega)) (h _ (by omega) (by omega)) (h _ (by omega) (by omega)) (h _ (by omega) (by omega)) h1, zPT_eq (h _ (by omega) (by omega)) (h _ (by omega) (by omega)) (h _ (by omega) (by omega)) (h _ (by omega) (by omega)) h2, zPT_eq (h _ (by omega) (by omega)) (h _ (by omega) (by omega)) (h _ (by omega) (by omega)) (h _ (by omega) (by omega)) h3⟩
theorem zSl_eq {L : zY} {m m' : zM} {c : Nat} (h : ∀ a, c + 14 ≤ a → a ≤ c + 25 → m' a = m a) (hh : zSl L m c) : zSl L m' c := by
  obtain ⟨h1, h2, h3⟩ := hh
  exact ⟨zPl_eq (h _ (by omega) (by omega)) h1, zPl_eq (h _ (by omega) (by omega)) h2, zPl_eq (h _ (by omega) (by omega)) h3⟩
theorem zSt_l {L : zY} {m : zM} {c : Nat} {D : zD} (h : zSt L m c D) : zSl L m c := ⟨zPT_l h.1, zPT_l h.2.1, zPT_l h.2.2⟩
theorem fil_s {α : Type} {p : α → Bool} {xs : List α} {i : Nat} (hi : i < xs.length) : (xs.take (i + 1)).filter p = (xs.take i).filter p ++ if p xs[i] then [xs[i]] else [] := by
  rw [take_s hi, List.filter_append]
  by_cases e : p xs[i] = true
  · simp [e]
  · simp [e]
theorem fil_le {α : Type} {p : α → Bool} {xs : List α} {i : Nat} : ((xs.take i).filter p).length ≤ i := Nat.le_trans (List.length_filter_le _ _) (by rw [List.length_take]; omega)
