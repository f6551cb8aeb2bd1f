def lnA (c : Nat) (ln : Int) : Nat := if ln = 3 then c + 4 else if ln = 4 then c + 6 else if ln = 5 then c + 8 else if ln = 6 then c + 10 else c + 2
theorem x_listOf {L : zY} {m : zM} {Q : zQ} {c : Nat} {D : zD} {ln : Int} (h : zSd L m c D) (hl : 0 ≤ ln ∧ ln ≤ 6) : zwp 57 0 [zA c, zI ln] [] L m Q ↔ Q (some (zA (lnA c ln))) L m := by
  obtain ⟨⟨a1, a2, b0, b1, b2, b3, b4, b5, b6, b7, b8, b9, a3, a4⟩, -⟩ := h
  have : ln = 0 ∨ ln = 1 ∨ ln = 2 ∨ ln = 3 ∨ ln = 4 ∨ ln = 5 ∨ ln = 6 := by omega
  rcases this with e | e | e | e | e | e | e <;> subst e <;> simp only [s57_0, s57_1, s57_32, s57_33, s57_36, s57_37, s57_38, s57_41, s57_42, s57_43, s57_46, s57_47, s57_48, s57_51, s57_52, s57_53, s57_56, Int.toNat_natCast, true_and, and_true, true_or, or_true, false_or, or_false, zwr_id, zpu_some, zpu_none, reduceIte, Int.reduceLE, Int.reduceLT, Int.reduceEq, Int.reduceNeg, Int.reduceAdd, Int.reduceSub, Int.reduceMul, Int.reduceToNat, Nat.reduceAdd, Nat.reduceLeDiff, Nat.reduceEqDiff, Nat.reduceLT, eq_self, ne_eq, not_false_eq_true, not_true_eq_false, a1, b1, b2, b3, b4, b5, lnA]
/-- a KEY more, told by a LINE of sort ln -/
def dTell (D : zD) (ln : Int) (k : Nat) : zD := ((fun j => if j = k then ln else dS D j), (if ln = 3 ∨ ln = 4 then dC D else dC D ++ [k]), (if ln = 3 then dV D ++ [k] else dV D), (if ln = 4 then dO D ++ [k] else dO D), dT D, dP D)
def dFull (D : zD) (ln : Int) : Bool := if ln = 3 then decide (8 ≤ (dV D).length) else if ln = 4 then decide (4 ≤ (dO D).length) else if ln = 5 then decide (4 ≤ (dT D).length) else if ln = 6 then decide (8 ≤ (dP D).length) else decide (10 ≤ (dC D).length)
theorem x_fullD {L : zY} {m : zM} {Q : zQ} {c : Nat} {D : zD} {ln : Int} (h : zSd L m c D) : zwp 6 0 [zA (lnA c ln)] [] L m Q ↔ Q (some (zI (if dFull D ln then 1 else 0))) L m := by
  obtain ⟨-, a5, l1, l2, l3, l4, l5, l6⟩ := h
  unfold lnA dFull
  by_cases e3 : ln = 3
  · simp [e3, x_full l2]
  · by_cases e4 : ln = 4
    · simp [e4, x_full l3]
    · by_cases e5 : ln = 5
      · simp [e5, x_full l4]
      · by_cases e6 : ln = 6
        · simp [e6, x_full l5]
        · simp [e3, e4, e5, e6, x_full l1]
theorem zSd_ptr {L : zY} {m m' : zM} {c : Nat} {D D' : zD} (h : zSd L m c D) (e : m' c = m c) (h5 : ∀ k, k < 26 → m' (c + 1) k = dS D' k) (h1 : zKL L m' (c + 2) 10 ((dC D').map kk)) (h2 : zKL L m' (c + 4) 8 ((dV D').map kk)) (h3 : zKL L m' (c + 6) 4 ((dO D').map kk)) (h4 : zKL L m' (c + 8) 4 ((dT D').map kk)) (h6 : zKL L m' (c + 10) 8 ((dP D').map (fun q => kk q.1))) (h7 : zKL L m' (c + 12) 8 ((dP D').map (fun q => kk q.2))) : zSd L m' c D' := ⟨by rw [e]; exact h.1, h5, h1, h2, h3, h4, h6, h7⟩
theorem zSd_sort {L : zY} {m : zM} {c k : Nat} {D : zD} {ln : Int} (h : zSd L m c D) : zSd L (zup m (c + 1) k ln) c (((fun j => if j = k then ln else dS D j), D.2) : zD) := by
  have e : ∀ a, c + 2 ≤ a → zup m (c + 1) k ln a = m a := fun a ha => zup_nf (by omega)
  refine zSd_ptr h (zup_nf (by omega)) (fun j hj => ?_) (zKL_eq (e _ (by omega)) (e _ (by omega)) h.2.2.1) (zKL_eq (e _ (by omega)) (e _ (by omega)) h.2.2.2.1) (zKL_eq (e _ (by omega)) (e _ (by omega)) h.2.2.2.2.1) (zKL_eq (e _ (by omega)) (e _ (by omega)) h.2.2.2.2.2.1) (zKL_eq (e _ (by omega)) (e _ (by omega)) h.2.2.2.2.2.2.1) (zKL_eq (e _ (by omega)) (e _ (by omega)) h.2.2.2.2.2.2.2)
  show _ = if j = k then ln else dS D j
  by_cases e : j = k
  · rw [if_pos e, e, zup_same]
  · rw [if_neg e, zup_nk e]; exact h.2.1 j hj
theorem zSd_app {L : zY} {m : zM} {Q : zQ} {c : Nat} {D D' : zD} {p x cap : Nat} {xs : List Int} {key : Int} (h : zSd L m c D) (hp : p = 2 ∨ p = 4 ∨ p = 6 ∨ p = 8) (l : zKL L m (c + p) cap xs) (hr : xs.length < cap) (hS : dS D' = dS D) (hP : dP D' = dP D) (h1 : (p = 2 → (dC D').map kk = xs ++ [key] ∧ cap = 10) ∧ (p ≠ 2 → dC D' = dC D)) (h2 : (p = 4 → (dV D').map kk = xs ++ [key] ∧ cap = 8) ∧ (p ≠ 4 → dV D' = dV D)) (h3 : (p = 6 → (dO D').map kk = xs ++ [key] ∧ cap = 4) ∧ (p ≠ 6 → dO D' = dO D)) (h4 : (p = 8 → (dT D').map kk = xs ++ [key] ∧ cap = 4) ∧ (p ≠ 8 → dT D' = dT D)) (k : ∀ m', zSd L m' c D' → zFR (c + p) (c + p + 1) m m' → Q none L m') : zwp 7 0 [zA (c + p), zI key] [] L m Q := by
  refine c_KL_append l hr (fun m' g f => k m' ?_ f)
  have e : ∀ a, (a < c + p ∨ c + p + 1 < a) → m' a = m a := fun a ha => zFR_at f ha
  refine zSd_ptr h (e _ (by omega)) (fun j hj => by rw [e _ (by omega), hS]; exact h.2.1 j hj) ?_ ?_ ?_ ?_ (by rw [hP]; exact zKL_eq (e _ (by omega)) (e _ (by omega)) h.2.2.2.2.2.2.1) (by rw [hP]; exact zKL_eq (e _ (by omega)) (e _ (by omega)) h.2.2.2.2.2.2.2)
  · by_cases q : p = 2
    · subst q; rw [(h1.1 rfl).1, ← (h1.1 rfl).2]; exact g
    · rw [h1.2 q]; exact zKL_eq (e _ (by omega)) (e _ (by omega)) h.2.2.1
  · by_cases q : p = 4
    · subst q; rw [(h2.1 rfl).1, ← (h2.1 rfl).2]; exact g
    · rw [h2.2 q]; exact zKL_eq (e _ (by omega)) (e _ (by omega)) h.2.2.2.1
  · by_cases q : p = 6
    · subst q; rw [(h3.1 rfl).1, ← (h3.1 rfl).2]; exact g
    · rw [h3.2 q]; exact zKL_eq (e _ (by omega)) (e _ (by omega)) h.2.2.2.2.1
  · by_cases q : p = 8
    · subst q; rw [(h4.1 rfl).1, ← (h4.1 rfl).2]; exact g
    · rw [h4.2 q]; exact zKL_eq (e _ (by omega)) (e _ (by omega)) h.2.2.2.2.2.1
theorem dFull_lt {D : zD} {ln : Int} (hf : dFull D ln = false) : (ln = 3 → ((dV D).map kk).length < 8) ∧ (ln = 4 → ((dO D).map kk).length < 4) ∧ (ln = 5 → ((dT D).map kk).length < 4) ∧ (ln = 6 → (dP D).length < 8) ∧ ((0 ≤ ln ∧ ln ≤ 2) → ((dC D).map kk).length < 10) := by
  unfold dFull at hf
  rw [List.length_map, List.length_map, List.length_map, List.length_map]
  refine ⟨fun e => ?_, fun e => ?_, fun e => ?_, fun e => ?_, fun e => ?_⟩
  · rw [if_pos e] at hf; have := of_decide_eq_false hf; omega
  · rw [if_neg (by omega), if_pos e] at hf; have := of_decide_eq_false hf; omega
  · rw [if_neg (by omega), if_neg (by omega), if_pos e] at hf; have := of_decide_eq_false hf; omega
  · rw [if_neg (by omega), if_neg (by omega), if_neg (by omega), if_pos e] at hf; have := of_decide_eq_false hf; omega
  · rw [if_neg (by omega), if_neg (by omega), if_neg (by omega), if_neg (by omega)] at hf; have := of_decide_eq_false hf; omega
theorem c_tellKey {L : zY} {m : zM} {Q : zQ} {c k : Nat} {D : zD} {ln : Int} (h : zSd L m c D) (hl : 0 ≤ ln ∧ ln ≤ 4) (hk : k < 26) (hf : dFull D ln = false) (kont : ∀ m', zSd L m' c (dTell D ln k) → zFR c (c + 13) m m' → Q none L m') : zwp 63 0 [zA c, zI ln, zI (kk k)] [] L m Q := by
  have hh := zSd_sort (k := k) (ln := ln) h
  have hlt := dFull_lt hf
  have a1 := h.1.1
  have b0 := h.1.2.2.1
  have a3 := h.1.2.2.2.2.2.2.2.2.2.2.2.2.1
  have a4 := h.1.2.2.2.2.2.2.2.2.2.2.2.2.2
  have e1 : ¬ (k : Int) + 97 < 97 := by omega
  have e2 : ¬ 123 ≤ (k : Int) + 97 := by omega
  have e3 : 0 ≤ (k : Int) ∧ (k : Int) < ((26 : Nat) : Int) := by omega
  have e4 : 2 ≤ c + 1 := by have := h.1.2.1; omega
  have fr0 : zFR c (c + 13) m (zup m (c + 1) k ln) := zFR_up zFR_rf (by omega) (by omega)
  have t : zt L (lnA c ln) = 2 := by
    unfold lnA
    by_cases e3 : ln = 3
    · rw [if_pos e3]; exact h.2.2.2.1.1
    · rw [if_neg e3]
      by_cases e4 : ln = 4
      · rw [if_pos e4]; exact h.2.2.2.2.1.1
      · rw [if_neg e4, if_neg (by omega), if_neg (by omega)]; exact h.2.2.1.1
  unfold kk
  simp only [s63_0, s63_1, s63_4, s63_7, s63_8, s63_11, s63_12, s63_14, s63_15, s63_16, s63_17, s63_18, s63_19, s63_22, s63_23, s158_0, s158_1, s158_3, s158_6, s158_7, s158_9, s158_12, s158_13, s158_16, s158_17, Int.toNat_natCast, true_and, and_true, true_or, or_true, false_or, or_false, zwr_id, zpu_some, zpu_none, reduceIte, Int.reduceLE, Int.reduceLT, Int.reduceEq, Int.reduceNeg, Int.reduceAdd, Int.reduceSub, Int.reduceMul, Int.reduceToNat, Nat.reduceAdd, Nat.reduceLeDiff, Nat.reduceEqDiff, Nat.reduceLT, eq_self, ne_eq, not_false_eq_true, not_true_eq_false, a1, b0, a3, a4, e1, e2, e3, e4, and_self, (show zwr ((k : Int) + 97 - 97) = (k : Int) by rw [zwr_id (by omega) (by omega)]; omega), x_listOf hh (show 0 ≤ ln ∧ ln ≤ 6 by omega), t]
  unfold lnA
  by_cases e3 : ln = 3
  · rw [if_pos e3]
    refine zSd_app (D' := dTell D ln k) (x := 0) hh (Or.inr (Or.inl rfl)) hh.2.2.2.1 (hlt.1 e3) rfl rfl ⟨fun q => absurd q (by decide), fun _ => ?_⟩ ⟨fun q => ⟨?_, rfl⟩, fun q => absurd rfl q⟩ ⟨fun q => absurd q (by decide), fun _ => ?_⟩ ⟨fun q => absurd q (by decide), fun _ => rfl⟩ (fun m' g f => ?_)
    · show (if ln = 3 ∨ ln = 4 then dC D else dC D ++ [k]) = dC D
      rw [if_pos (Or.inl e3)]
    · show (if ln = 3 then dV D ++ [k] else dV D).map kk = (dV D).map kk ++ [kk k]
      rw [if_pos e3, List.map_append]; rfl
    · show (if ln = 4 then dO D ++ [k] else dO D) = dO D
      rw [if_neg (by omega)]
    · simp only [s63_26, zpu_none]
      exact kont m' g (zFR_tr fr0 (zFR_wd f (by omega) (by omega)))
  · rw [if_neg e3]
    by_cases e4 : ln = 4
    · rw [if_pos e4]
      refine zSd_app (D' := dTell D ln k) (x := 0) hh (Or.inr (Or.inr (Or.inl rfl))) hh.2.2.2.2.1 (hlt.2.1 e4) rfl rfl ⟨fun q => absurd q (by decide), fun _ => ?_⟩ ⟨fun q => absurd q (by decide), fun _ => ?_⟩ ⟨fun q => ⟨?_, rfl⟩, fun q => absurd rfl q⟩ ⟨fun q => absurd q (by decide), fun _ => rfl⟩ (fun m' g f => ?_)
      · show (if ln = 3 ∨ ln = 4 then dC D else dC D ++ [k]) = dC D
        rw [if_pos (Or.inr e4)]
      · show (if ln = 3 then dV D ++ [k] else dV D) = dV D
        rw [if_neg e3]
      · show (if ln = 4 then dO D ++ [k] else dO D).map kk = (dO D).map kk ++ [kk k]
        rw [if_pos e4, List.map_append]; rfl
      · simp only [s63_26, zpu_none]
        exact kont m' g (zFR_tr fr0 (zFR_wd f (by omega) (by omega)))
    · rw [if_neg e4, if_neg (by omega), if_neg (by omega)]
      refine zSd_app (D' := dTell D ln k) (x := 0) hh (Or.inl rfl) hh.2.2.1 (hlt.2.2.2.2 (by omega)) rfl rfl ⟨fun q => ⟨?_, rfl⟩, fun q => absurd rfl q⟩ ⟨fun q => absurd q (by decide), fun _ => ?_⟩ ⟨fun q => absurd q (by decide), fun _ => ?_⟩ ⟨fun q => absurd q (by decide), fun _ => rfl⟩ (fun m' g f => ?_)
      · show (if ln = 3 ∨ ln = 4 then dC D else dC D ++ [k]).map kk = (dC D).map kk ++ [kk k]
        rw [if_neg (by omega), List.map_append]; rfl
      · show (if ln = 3 then dV D ++ [k] else dV D) = dV D
        rw [if_neg e3]
      · show (if ln = 4 then dO D ++ [k] else dO D) = dO D
        rw [if_neg e4]
      · simp only [s63_26, zpu_none]
        exact kont m' g (zFR_tr fr0 (zFR_wd f (by omega) (by omega)))
def dTwin (D : zD) (k : Nat) : zD := (dS D, dC D, dV D, dO D, dT D ++ [k], dP D)
def dPair (D : zD) (q : Nat × Nat) : zD := (dS D, dC D, dV D, dO D, dT D, dP D ++ [q])
theorem c_tellTwin {L : zY} {m : zM} {Q : zQ} {c k : Nat} {D : zD} (h : zSd L m c D) (hf : dFull D 5 = false) (kont : ∀ m', zSd L m' c (dTwin D k) → zFR c (c + 13) m m' → Q none L m') : zwp 7 0 [zA (c + 8), zI (kk k)] [] L m Q := by
  refine zSd_app (D' := dTwin D k) (x := 0) h (Or.inr (Or.inr (Or.inr rfl))) h.2.2.2.2.2.1 ((dFull_lt hf).2.2.1 rfl) rfl rfl ⟨fun q => absurd q (by decide), fun _ => rfl⟩ ⟨fun q => absurd q (by decide), fun _ => rfl⟩ ⟨fun q => absurd q (by decide), fun _ => rfl⟩ ⟨fun q => ⟨?_, rfl⟩, fun q => absurd rfl q⟩ (fun m' g f => kont m' g (zFR_wd f (by omega) (by omega)))
  show (dT D ++ [k]).map kk = _
  rw [List.map_append]; rfl
theorem c_tellPair {L : zY} {m : zM} {Q : zQ} {c : Nat} {q : Nat × Nat} {D : zD} (h : zSd L m c D) (hf : dFull D 6 = false) (kont : ∀ m', zSd L m' c (dPair D q) → zFR c (c + 13) m m' → Q none L m') : zwp 64 0 [zA c, zI (kk q.1), zI (kk q.2)] [] L m Q := by
  have hr := (dFull_lt hf).2.2.2.1 rfl
  have a1 := h.1.1
  have b5 := h.1.2.2.2.2.2.2.2.1
  have b6 := h.1.2.2.2.2.2.2.2.2.1
  have l5 := h.2.2.2.2.2.2.1
  have l6 := h.2.2.2.2.2.2.2
  have t5 := l5.1
  have t6 := l6.1
  simp only [s64_0, s64_1, s64_4, s64_5, Int.toNat_natCast, true_and, and_true, true_or, or_true, false_or, or_false, zwr_id, zpu_some, zpu_none, reduceIte, Int.reduceLE, Int.reduceLT, Int.reduceEq, Int.reduceNeg, Int.reduceAdd, Int.reduceSub, Int.reduceMul, Int.reduceToNat, Nat.reduceAdd, Nat.reduceLeDiff, Nat.reduceEqDiff, Nat.reduceLT, eq_self, ne_eq, not_false_eq_true, not_true_eq_false, a1, b5, t5]
  refine c_KL_append (key := kk q.1) l5 (by rw [List.length_map]; exact hr) (fun m1 g1 f1 => ?_)
  have b6' : m1 c 6 = ((c + 12 : Nat) : Int) := by rw [zFR_at f1 (by omega)]; exact b6
  simp only [s64_8, s64_9, s64_12, s64_13, Int.toNat_natCast, true_and, and_true, true_or, or_true, false_or, or_false, zwr_id, zpu_some, zpu_none, reduceIte, Int.reduceLE, Int.reduceLT, Int.reduceEq, Int.reduceNeg, Int.reduceAdd, Int.reduceSub, Int.reduceMul, Int.reduceToNat, Nat.reduceAdd, Nat.reduceLeDiff, Nat.reduceEqDiff, Nat.reduceLT, eq_self, ne_eq, not_false_eq_true, not_true_eq_false, a1, b6', t6]
  refine c_KL_append (key := kk q.2) (zKL_eq (zFR_at f1 (by omega)) (zFR_at f1 (by omega)) l6) (by rw [List.length_map]; exact hr) (fun m2 g2 f2 => ?_)
  simp only [s64_16, zpu_none]
  clear b6' b6 b5
  have f : ∀ a, (a < c + 10 ∨ c + 13 < a) → m2 a = m a := fun a ha => by rw [zFR_at f2 (by omega), zFR_at f1 (by omega)]
  refine kont m2 (zSd_ptr h (f _ (by omega)) (fun j hj => by rw [f _ (by omega)]; exact h.2.1 j hj) (zKL_eq (f _ (by omega)) (f _ (by omega)) h.2.2.1) (zKL_eq (f _ (by omega)) (f _ (by omega)) h.2.2.2.1) (zKL_eq (f _ (by omega)) (f _ (by omega)) h.2.2.2.2.1) (zKL_eq (f _ (by omega)) (f _ (by omega)) h.2.2.2.2.2.1) ?_ ?_) (fun a ha => f a (by omega))
  · show zKL L m2 (c + 10) 8 ((dP D ++ [q]).map (fun q => kk q.1))
    rw [List.map_append]
    exact zKL_eq (zFR_at f2 (by omega)) (zFR_at f2 (by omega)) g1
  · show zKL L m2 (c + 12) 8 ((dP D ++ [q]).map (fun q => kk q.2))
    rw [List.map_append]
    exact g2
theorem kk_inj {a b : Nat} : kk a = kk b ↔ a = b := by unfold kk; omega
theorem c_holdsP {L : zY} {m : zM} {Q : zQ} {c : Nat} {q : Nat × Nat} {D : zD} (h : zSd L m c D) (k : Q (some (zI (if q ∈ dP D then 1 else 0))) L m) : zwp 65 0 [zA c, zI (kk q.1), zI (kk q.2), zU] [] L m Q := by
  obtain ⟨⟨a1, a2, b0, b1, b2, b3, b4, b5, b6, b7, b8, b9, a3, a4⟩, a5, l1, l2, l3, l4, l5, l6⟩ := h
  obtain ⟨a, b, cc⟩ := fC_spec (p := fun i => decide ((dP D).getD i (0, 0) ≠ q)) (dP D).length 0
  rw [Nat.zero_add] at b cc
  have t5 := l5.1
  have t6 := l6.1
  have n5 : m (c + 10) 1 = ((dP D).length : Int) := by have := l5.2.2.2.2.2.2.1; rw [List.length_map] at this; exact this
  have hle : (dP D).length ≤ 8 := by have := l5.2.2.2.2.2.2.2.1; rw [List.length_map] at this; exact this
  have at1 : ∀ (Q : zQ) (i : Nat) (hi : i < (dP D).length), zwp 9 0 [zA (c + 10), zI (i : Nat)] [] L m Q ↔ Q (some (zI (kk (dP D)[i].1))) L m := fun Q i hi => by rw [x_keyAt l5 (by rw [List.length_map]; exact hi), List.getElem_map]
  have at2 : ∀ (Q : zQ) (i : Nat) (hi : i < (dP D).length), zwp 9 0 [zA (c + 12), zI (i : Nat)] [] L m Q ↔ Q (some (zI (kk (dP D)[i].2))) L m := fun Q i hi => by rw [x_keyAt l6 (by rw [List.length_map]; exact hi), List.getElem_map]
  simp only [s65_0, s65_1]
  refine zfor (n := fC (fun i => decide ((dP D).getD i (0, 0) ≠ q)) (dP D).length 0) (fun i => [zA c, zI (kk q.1), zI (kk q.2), zI (i : Nat)]) (fun _ m' => m' = m) ?_ ?_ 0 m (Nat.zero_le _) rfl
  · rintro i _ hi rfl ih
    have ih := ih _ rfl
    have hi1 : i < (dP D).length := by omega
    have b := of_decide_eq_true (b i (Nat.zero_le _) hi)
    rw [getD_lt hi1] at b
    simp only [s65_2]
    simp only [s65_0, s65_1, s65_3, s65_4, s65_7, s65_10, s65_13, s65_14, s65_17, s65_18, s65_21, s65_22, s65_25, s65_26, s65_29, s65_30, s65_33, s65_34, s65_37, s65_38, s65_39, s65_42, s65_45, s65_46, Int.toNat_natCast, true_and, and_true, true_or, or_true, false_or, or_false, zwr_id, zpu_some, zpu_none, reduceIte, Int.reduceLE, Int.reduceLT, Int.reduceEq, Int.reduceNeg, Int.reduceAdd, Int.reduceSub, Int.reduceMul, Int.reduceToNat, Nat.reduceAdd, Nat.reduceLeDiff, Nat.reduceEqDiff, Nat.reduceLT, eq_self, ne_eq, not_false_eq_true, not_true_eq_false, a1, b5, b6, t5, t6, n5, at1 _ i hi1, at2 _ i hi1, (z1 (i := i) (by omega)), kk_inj]
    rw [if_neg (by omega)]
    by_cases e1 : (dP D)[i].1 = q.1
    · rw [if_pos e1]
      rw [if_neg (fun e2 => b (Prod.ext e1 e2))]
      exact ih
    · rw [if_neg e1]; exact ih
  · rintro _ rfl
    simp only [s65_2]
    rcases cc with cc | cc
    · rw [cc]
      rw [if_neg] at k
      · simp only [s65_0, s65_1, s65_3, s65_4, s65_7, s65_10, s65_13, s65_14, s65_17, s65_18, s65_21, s65_22, s65_25, s65_26, s65_29, s65_30, s65_33, s65_34, s65_37, s65_38, s65_39, s65_42, s65_45, s65_46, Int.toNat_natCast, true_and, and_true, true_or, or_true, false_or, or_false, zwr_id, zpu_some, zpu_none, reduceIte, Int.reduceLE, Int.reduceLT, Int.reduceEq, Int.reduceNeg, Int.reduceAdd, Int.reduceSub, Int.reduceMul, Int.reduceToNat, Nat.reduceAdd, Nat.reduceLeDiff, Nat.reduceEqDiff, Nat.reduceLT, eq_self, ne_eq, not_false_eq_true, not_true_eq_false, a1, b5, t5, n5]
        rw [if_pos (by omega)]
        exact k
      · intro hm
        obtain ⟨j, hj, e⟩ := List.getElem_of_mem hm
        have := of_decide_eq_true (b j (Nat.zero_le _) (by omega))
        rw [getD_lt hj] at this
        exact this e
    · by_cases hv : fC (fun i => decide ((dP D).getD i (0, 0) ≠ q)) (dP D).length 0 = (dP D).length
      · rw [hv] at cc
        rw [if_neg] at k
        · rw [hv]
          simp only [s65_0, s65_1, s65_3, s65_4, s65_7, s65_10, s65_13, s65_14, s65_17, s65_18, s65_21, s65_22, s65_25, s65_26, s65_29, s65_30, s65_33, s65_34, s65_37, s65_38, s65_39, s65_42, s65_45, s65_46, Int.toNat_natCast, true_and, and_true, true_or, or_true, false_or, or_false, zwr_id, zpu_some, zpu_none, reduceIte, Int.reduceLE, Int.reduceLT, Int.reduceEq, Int.reduceNeg, Int.reduceAdd, Int.reduceSub, Int.reduceMul, Int.reduceToNat, Nat.reduceAdd, Nat.reduceLeDiff, Nat.reduceEqDiff, Nat.reduceLT, eq_self, ne_eq, not_false_eq_true, not_true_eq_false, a1, b5, t5, n5]
          rw [if_pos (by omega)]
          exact k
        · intro hm
          obtain ⟨j, hj, e⟩ := List.getElem_of_mem hm
          have := of_decide_eq_true (b j (Nat.zero_le _) (by omega))
          rw [getD_lt hj] at this
          exact this e
      · generalize hV : fC (fun i => decide ((dP D).getD i (0, 0) ≠ q)) (dP D).length 0 = v at *
        have hi1 : v < (dP D).length := by omega
        have cc := of_decide_eq_false cc
        rw [getD_lt hi1, ne_eq, Classical.not_not] at cc
        rw [if_pos (by rw [← cc]; exact List.getElem_mem hi1)] at k
        simp only [s65_0, s65_1, s65_3, s65_4, s65_7, s65_10, s65_13, s65_14, s65_17, s65_18, s65_21, s65_22, s65_25, s65_26, s65_29, s65_30, s65_33, s65_34, s65_37, s65_38, s65_39, s65_42, s65_45, s65_46, Int.toNat_natCast, true_and, and_true, true_or, or_true, false_or, or_false, zwr_id, zpu_some, zpu_none, reduceIte, Int.reduceLE, Int.reduceLT, Int.reduceEq, Int.reduceNeg, Int.reduceAdd, Int.reduceSub, Int.reduceMul, Int.reduceToNat, Nat.reduceAdd, Nat.reduceLeDiff, Nat.reduceEqDiff, Nat.reduceLT, eq_self, ne_eq, not_false_eq_true, not_true_eq_false, a1, b5, b6, t5, t6, n5, at1 _ v hi1, at2 _ v hi1, cc, kk_inj]
        rw [if_neg (by omega)]
        exact k
