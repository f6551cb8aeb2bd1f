/-! words for memories -/
theorem zup_same {m : zM} {a k : Nat} {v : Int} : zup m a k v a k = v := by unfold zup; rw [if_pos ⟨rfl, rfl⟩]
theorem zup_na {m : zM} {a k a' k' : Nat} {v : Int} (h : a' ≠ a) : zup m a k v a' k' = m a' k' := by unfold zup; rw [if_neg (fun q => h q.1)]
theorem zup_nk {m : zM} {a k k' : Nat} {v : Int} (h : k' ≠ k) : zup m a k v a k' = m a k' := by unfold zup; rw [if_neg (fun q => h q.2)]
theorem zup_nf {m : zM} {a k a' : Nat} {v : Int} (h : a' ≠ a) : zup m a k v a' = m a' := by funext k'; exact zup_na h
theorem zwr_id {x : Int} (h1 : -2147483648 ≤ x) (h2 : x < 2147483648) : zwr x = x := Int.bmod_eq_of_le (by omega) (by omega)
theorem zwl_id {x : Int} (h1 : -9223372036854775808 ≤ x) (h2 : x < 9223372036854775808) : zwl x = x := Int.bmod_eq_of_le (by omega) (by omega)
/-- nothing outside lo .. hi has changed -/
def zFR (lo hi : Nat) (m m' : zM) : Prop := ∀ a, (a < lo ∨ hi < a) → m' a = m a
theorem zFR_rf {lo hi : Nat} {m : zM} : zFR lo hi m m := fun _ _ => rfl
theorem zFR_tr {lo hi : Nat} {m m1 m2 : zM} (h1 : zFR lo hi m m1) (h2 : zFR lo hi m1 m2) : zFR lo hi m m2 := fun a ha => (h2 a ha).trans (h1 a ha)
theorem zFR_wd {lo hi lo' hi' : Nat} {m m' : zM} (h : zFR lo hi m m') (h1 : lo' ≤ lo) (h2 : hi ≤ hi') : zFR lo' hi' m m' := fun a ha => h a (by omega)
theorem zFR_up {lo hi a k : Nat} {v : Int} {m m' : zM} (h : zFR lo hi m m') (h1 : lo ≤ a) (h2 : a ≤ hi) : zFR lo hi m (zup m' a k v) := fun b hb => by rw [zup_nf (by omega)]; exact h b hb
/-- an array at a holds the list xs from place o on -/
def zAL (m : zM) (a o : Nat) (xs : List Int) : Prop := ∀ (i : Nat) (x : Int), xs[i]? = some x → m a (o + i) = x
theorem zAL_nil {m : zM} {a o : Nat} : zAL m a o [] := fun i x h => by simp at h
theorem zAL_eq {m m' : zM} {a o : Nat} {xs : List Int} (h : m' a = m a) (hx : zAL m a o xs) : zAL m' a o xs := fun i x hi => by rw [h]; exact hx i x hi
theorem zAL_push {m : zM} {a o : Nat} {xs : List Int} {x : Int} (h : zAL m a o xs) : zAL (zup m a (o + xs.length) x) a o (xs ++ [x]) := by
  intro i y hi
  by_cases hl : i < xs.length
  · rw [List.getElem?_append_left hl] at hi
    rw [zup_nk (by omega)]
    exact h i y hi
  · rw [List.getElem?_append_right (by omega)] at hi
    have h0 : i - xs.length < 1 := (List.getElem?_eq_some_iff.mp hi).1
    have e : i = xs.length := by omega
    subst e
    simp at hi
    rw [zup_same]
    exact hi
theorem zAL_get {m : zM} {a o : Nat} {xs : List Int} (h : zAL m a o xs) {i : Nat} (hi : i < xs.length) : m a (o + i) = xs[i] := h i _ (List.getElem?_eq_getElem hi)
theorem zAL_get0 {m : zM} {a : Nat} {xs : List Int} (h : zAL m a 0 xs) {i : Nat} (hi : i < xs.length) : m a i = xs[i] := by
  have := zAL_get h hi
  rw [Nat.zero_add] at this
  exact this
/-- a KeyList at o (its array at o + 1), of room cap, holds xs -/
def zKL (L : zY) (m : zM) (o cap : Nat) (xs : List Int) : Prop := zt L o = 2 ∧ zt L (o + 1) = 20 ∧ zn L (o + 1) = cap ∧ cap < 1000 ∧ 2 ≤ o ∧ m o 0 = ((o + 1 : Nat) : Int) ∧ m o 1 = (xs.length : Int) ∧ xs.length ≤ cap ∧ zAL m (o + 1) 0 xs
theorem zKL_eq {L : zY} {m m' : zM} {o cap : Nat} {xs : List Int} (h0 : m' o = m o) (h1 : m' (o + 1) = m (o + 1)) (h : zKL L m o cap xs) : zKL L m' o cap xs := by
  obtain ⟨a1, a2, a3, a4, a5, a6, a7, a8, a9⟩ := h
  exact ⟨a1, a2, a3, a4, a5, by rw [h0]; exact a6, by rw [h0]; exact a7, a8, zAL_eq h1 a9⟩
theorem c_KL_append {L : zY} {m : zM} {Q : zQ} {o cap : Nat} {xs : List Int} {key : Int} (h : zKL L m o cap xs) (hc : xs.length < cap) (k : ∀ m', zKL L m' o cap (xs ++ [key]) → zFR o (o + 1) m m' → Q none L m') : zwp 7 0 [zA o, zI key] [] L m Q := by
  obtain ⟨a1, a2, a3, a4, a5, a6, a7, a8, a9⟩ := h
  simp (disch := omega) only [s7_0, s7_1, s7_4, s7_5, s7_8, s7_9, s7_12, s7_13, s7_16, s7_17, s7_20, s7_21, s7_22, s7_23, s7_24, s7_27, s7_28, s7_29, s7_32, Int.toNat_natCast, true_and, and_true, true_or, or_true, false_or, or_false, zwr_id, zpu_some, zpu_none, reduceIte, Int.reduceLE, Int.reduceLT, Int.reduceEq, Int.reduceNeg, Int.reduceAdd, Int.reduceSub, Int.reduceMul, Int.reduceToNat, Nat.reduceAdd, Nat.reduceLeDiff, Nat.reduceEqDiff, Nat.reduceLT, eq_self, ne_eq, not_false_eq_true, not_true_eq_false, a1, a6, a2, a3, a7, zup_na]
  rw [if_neg (by omega)]
  refine ⟨by omega, k _ ⟨a1, a2, a3, a4, a5, ?_, ?_, ?_, ?_⟩ ?_⟩
  · rw [zup_nk (by omega), zup_na (by omega)]; exact a6
  · rw [zup_same, List.length_append]; rfl
  · rw [List.length_append]; exact hc
  · refine zAL_eq (zup_nf (by omega)) ?_
    have := zAL_push (x := key) a9
    rw [Nat.zero_add] at this
    exact this
  · exact zFR_up (zFR_up zFR_rf (by omega) (by omega)) (by omega) (by omega)
theorem c_KL_holds_loop {L : zY} {m : zM} {Q : zQ} {o cap : Nat} {xs : List Int} {key : Int} (h : zKL L m o cap xs) (k : Q (some (zI (if key ∈ xs then 1 else 0))) L m) : ∀ (d i : Nat), xs.length - i = d → i ≤ xs.length → (∀ j, j < i → ∀ x, xs[j]? = some x → x ≠ key) → zwp 10 2 [zA o, zI key, zI (i : Int)] [] L m Q := by
  have h' := h
  obtain ⟨a1, a2, a3, a4, a5, a6, a7, a8, a9⟩ := h'
  intro d
  induction d with
  | zero =>
    intro i hd hi hn
    have e : i = xs.length := by omega
    subst e
    rw [s10_2]
    simp (disch := omega) only [s10_0, s10_1, s10_3, s10_4, s10_7, s10_10, s10_11, s10_14, s10_15, s10_16, s10_17, s10_20, s10_21, s10_22, s10_25, s10_28, s10_29, Int.toNat_natCast, true_and, and_true, true_or, or_true, false_or, or_false, zwr_id, zpu_some, zpu_none, reduceIte, Int.reduceLE, Int.reduceLT, Int.reduceEq, Int.reduceNeg, Int.reduceAdd, Int.reduceSub, Int.reduceMul, Int.reduceToNat, Nat.reduceAdd, Nat.reduceLeDiff, Nat.reduceEqDiff, Nat.reduceLT, eq_self, ne_eq, not_false_eq_true, not_true_eq_false, a1, a7]
    rw [if_pos (by omega)]
    rw [if_neg] at k
    · exact k
    · intro hm
      obtain ⟨j, hj, e⟩ := List.getElem_of_mem hm
      exact hn j hj key (by rw [List.getElem?_eq_getElem hj, e]) rfl
  | succ d ih =>
    intro i hd hi hn
    have hlt : i < xs.length := by omega
    rw [s10_2]
    simp (disch := omega) only [s10_0, s10_1, s10_3, s10_4, s10_7, s10_10, s10_11, s10_14, s10_15, s10_16, s10_17, s10_20, s10_21, s10_22, s10_25, s10_28, s10_29, Int.toNat_natCast, true_and, and_true, true_or, or_true, false_or, or_false, zwr_id, zpu_some, zpu_none, reduceIte, Int.reduceLE, Int.reduceLT, Int.reduceEq, Int.reduceNeg, Int.reduceAdd, Int.reduceSub, Int.reduceMul, Int.reduceToNat, Nat.reduceAdd, Nat.reduceLeDiff, Nat.reduceEqDiff, Nat.reduceLT, eq_self, ne_eq, not_false_eq_true, not_true_eq_false, a1, a7, a6, a2, a3, zAL_get0 a9 hlt]
    rw [if_neg (by omega)]
    refine ⟨by omega, ?_⟩
    by_cases e : xs[i] = key
    · rw [if_pos e]
      rw [if_pos (by rw [← e]; exact List.getElem_mem hlt)] at k
      exact k
    · rw [if_neg e]
      refine ih (i + 1) (by omega) (by omega) (fun j hj x hx => ?_)
      by_cases ej : j = i
      · subst ej
        rw [List.getElem?_eq_getElem hlt] at hx
        cases hx
        exact e
      · exact hn j (by omega) x hx
theorem c_KL_holds {L : zY} {m : zM} {Q : zQ} {o cap : Nat} {xs : List Int} {key : Int} (h : zKL L m o cap xs) (k : Q (some (zI (if key ∈ xs then 1 else 0))) L m) : zwp 10 0 [zA o, zI key, zU] [] L m Q := by
  simp only [s10_0, s10_1]
  exact c_KL_holds_loop h k _ 0 rfl (by omega) (fun j hj => by omega)
