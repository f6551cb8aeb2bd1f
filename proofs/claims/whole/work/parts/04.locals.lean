section ZA
theorem zsr_cons {E : zE} {v : zV} {a : List zV} {sc : List Value} (h : zsr E (v :: a) sc) : ∃ w b, sc = w :: b ∧ zvr E v w ∧ zsr E a b := by
  cases sc with
  | nil => exact h.elim
  | cons w b => exact ⟨w, b, rfl, h.1, h.2⟩
theorem zsr_nil {E : zE} {sc : List Value} (h : zsr E [] sc) : sc = [] := by
  cases sc with
  | nil => rfl
  | cons w b => exact h.elim
theorem zvr_cat {E : zE} {v : zV} {w : Value} (h : zvr E v w) : w.category = zcat v := by
  rcases v with x | x | a | ⟨t, k⟩
  · obtain ⟨i, rfl, -⟩ := h; rfl
  · obtain ⟨i, rfl, -⟩ := h; rfl
  · have h : w = zad E a := h
    unfold zad at h
    split at h
    · subst h; rfl
    · split at h <;> (subst h; rfl)
  · match t, h with
    | 0, h => obtain ⟨-, rfl⟩ := h; rfl
    | 1, h => obtain ⟨-, rfl⟩ := h; rfl
    | 2, h => rcases h with rfl | ⟨q, rfl⟩ <;> rfl
    | t + 3, h => exact h.elim
theorem zvr_u {E : zE} {w : Value} (h : zvr E zU w) : False := h
theorem zsr_sum {E : zE} {st : List zV} {sc : List Value} (h : zsr E st sc) : (sc.map fun v => v.category).sum = zsum st := by
  induction st generalizing sc with
  | nil => rw [zsr_nil h]; rfl
  | cons v a ih =>
    obtain ⟨w, b, rfl, h1, h2⟩ := zsr_cons h
    have := ih h2
    simp only [zsum] at this
    simp only [List.map_cons, List.sum_cons, zsum, this, zvr_cat h1]
theorem zsr_len {E : zE} {st : List zV} {sc : List Value} (h : zsr E st sc) : sc.length = st.length := by
  induction st generalizing sc with
  | nil => rw [zsr_nil h]; rfl
  | cons v a ih =>
    obtain ⟨w, b, rfl, h1, h2⟩ := zsr_cons h
    simp [ih h2]
theorem zsr_drop {E : zE} (n : Nat) {st : List zV} {sc : List Value} (h : zsr E st sc) : zsr E (st.drop n) (sc.drop n) := by
  induction n generalizing st sc with
  | zero => exact h
  | succ n ih =>
    cases st with
    | nil => rw [zsr_nil h]; exact trivial
    | cons v a =>
      obtain ⟨w, b, rfl, h1, h2⟩ := zsr_cons h
      exact ih h2
theorem zsr_take {E : zE} (n : Nat) {st : List zV} {sc : List Value} (h : zsr E st sc) : zsr E (st.take n) (sc.take n) := by
  induction n generalizing st sc with
  | zero => exact trivial
  | succ n ih =>
    cases st with
    | nil => rw [zsr_nil h]; exact trivial
    | cons v a =>
      obtain ⟨w, b, rfl, h1, h2⟩ := zsr_cons h
      exact ⟨h1, ih h2⟩
theorem zsr_app {E : zE} {st st2 : List zV} {sc sc2 : List Value} (h : zsr E st sc) (h2 : zsr E st2 sc2) : zsr E (st ++ st2) (sc ++ sc2) := by
  induction st generalizing sc with
  | nil => rw [zsr_nil h]; exact h2
  | cons v a ih =>
    obtain ⟨w, b, rfl, h1, h3⟩ := zsr_cons h
    exact ⟨h1, ih h3⟩
theorem zsr_rev {E : zE} {st : List zV} {sc : List Value} (h : zsr E st sc) : zsr E st.reverse sc.reverse := by
  induction st generalizing sc with
  | nil => rw [zsr_nil h]; exact trivial
  | cons v a ih =>
    obtain ⟨w, b, rfl, h1, h3⟩ := zsr_cons h
    rw [List.reverse_cons, List.reverse_cons]
    exact zsr_app (ih h3) ⟨h1, trivial⟩
theorem zlr_get {E : zE} {nL : Nat} {ls : List zV} {lc : Array Slot} (h : zlr E nL ls lc) {i : Nat} {v : zV} (hg : ls.getD i zU = v) (hv : v ≠ zU) : ∃ w : Value, lc[i]? = some (Slot.val w) ∧ zvr E v w := by
  rw [List.getD_eq_getElem?_getD] at hg
  cases hi : ls[i]? with
  | none => rw [hi] at hg; exact absurd hg.symm hv
  | some x =>
    rw [hi] at hg
    have hg : x = v := hg
    subst hg
    rcases h.2.2.2 i x hi with e | e
    · exact absurd e hv
    · exact e
/-- the listed values of the known places -/
def zlv (lc : Array Slot) (ls : List zV) : List (Nat × Value) := (List.range ls.length).filterMap fun i => match lc[i]?, ls.getD i zU with
  | some (Slot.val w), v => if v = zU then none else some (i, w)
  | _, _ => none
theorem zlv_mem {lc : Array Slot} {ls : List zV} {i : Nat} {w : Value} : (i, w) ∈ zlv lc ls ↔ i < ls.length ∧ lc[i]? = some (Slot.val w) ∧ ls.getD i zU ≠ zU := by
  unfold zlv
  rw [List.mem_filterMap]
  constructor
  · rintro ⟨j, hj, h⟩
    split at h
    · rename_i w' hw
      split at h
      · cases h
      · cases h; exact ⟨List.mem_range.mp hj, hw, by assumption⟩
    · cases h
  · rintro ⟨h1, h2, h3⟩
    refine ⟨i, List.mem_range.mpr h1, ?_⟩
    rw [h2]
    simp only [h3, if_false]
theorem zlr_has {E : zE} {nL : Nat} {ls : List zV} {lc : Array Slot} (h : zlr E nL ls lc) : lv_has lc nL (zlv lc ls) := by
  refine ⟨h.1, h.2.2.1, fun q hq => ?_⟩
  obtain ⟨i, w⟩ := q
  exact (zlv_mem.mp hq).2.1
theorem zlong_cat {v : zV} : zlong v = true ↔ zcat v = 2 := by
  rcases v with x | x | a | ⟨t, k⟩ <;> simp [zlong, zcat]
theorem zlr_st1 {E : zE} {nL : Nat} {ls ls' : List zV} {lc lc' : Array Slot} {i : Nat} {v : zV} {w : Value} (h : zlr E nL ls lc) (hs : zst ls i v = some ls') (hv : zvr E v w)
    (h' : lv_has lc' nL ((i, w) :: (zlv lc ls).filter (fun q => !(q.1 == i) && !(q.1 + 1 == i && q.2.category == 2)))) : zlr E nL ls' lc' := by
  unfold zst at hs
  split at hs
  · rename_i hc
    cases hs
    refine ⟨h'.1, by rw [List.length_set]; exact h.2.1, h'.2.1, fun j x hj => ?_⟩
    by_cases e : j = i
    · subst e
      rw [List.getElem?_set_self hc.1] at hj
      cases hj
      exact Or.inr ⟨w, h'.2.2 (j, w) List.mem_cons_self, hv⟩
    · rw [List.getElem?_set_ne (Ne.symm e)] at hj
      by_cases hu : x = zU
      · exact Or.inl hu
      · rcases h.2.2.2 j x hj with q | ⟨w1, q1, q2⟩
        · exact Or.inl q
        · refine Or.inr ⟨w1, h'.2.2 (j, w1) (List.mem_cons_of_mem _ (List.mem_filter.mpr ⟨zlv_mem.mpr ⟨(List.getElem?_eq_some_iff.mp hj).1, q1, ?_⟩, ?_⟩)), q2⟩
          · rw [List.getD_eq_getElem?_getD, hj]; exact hu
          · have hb : (j == i) = false := by simpa using e
            rw [hb]
            by_cases e2 : j + 1 = i
            · have hlg : zlong (ls.getD (i - 1) zU) = false := by
                rcases hc.2 with z | z
                · omega
                · exact z
              have hj2 : ls.getD (i - 1) zU = x := by
                rw [show i - 1 = j by omega, List.getD_eq_getElem?_getD, hj]; rfl
              rw [hj2] at hlg
              have hcat : ¬ w1.category = 2 := by
                rw [zvr_cat q2]
                intro z
                rw [zlong_cat.mpr z] at hlg
                cases hlg
              simp [hcat]
            · have : (j + 1 == i) = false := by simpa using e2
              simp [this]
  · cases hs
theorem zlr_st2 {E : zE} {nL : Nat} {ls ls' : List zV} {lc lc' : Array Slot} {i : Nat} {v : zV} {w : Value} (h : zlr E nL ls lc) (hs : zstl ls i v = some ls') (hv : zvr E v w)
    (h' : lv_has lc' nL ((i, w) :: (zlv lc ls).filter (fun q => !(q.1 == i) && (!(q.1 == i + 1) && !(q.1 + 1 == i && q.2.category == 2))))) : zlr E nL ls' lc' := by
  unfold zstl at hs
  split at hs
  · rename_i hc
    cases hs
    refine ⟨h'.1, by rw [List.length_set, List.length_set]; exact h.2.1, h'.2.1, fun j x hj => ?_⟩
    by_cases e1 : j = i + 1
    · subst e1
      rw [List.getElem?_set_self (by rw [List.length_set]; exact hc.1)] at hj
      cases hj
      exact Or.inl rfl
    · rw [List.getElem?_set_ne (Ne.symm e1)] at hj
      by_cases e : j = i
      · subst e
        rw [List.getElem?_set_self (by omega)] at hj
        cases hj
        exact Or.inr ⟨w, h'.2.2 (j, w) List.mem_cons_self, hv⟩
      · rw [List.getElem?_set_ne (Ne.symm e)] at hj
        by_cases hu : x = zU
        · exact Or.inl hu
        · rcases h.2.2.2 j x hj with q | ⟨w1, q1, q2⟩
          · exact Or.inl q
          · refine Or.inr ⟨w1, h'.2.2 (j, w1) (List.mem_cons_of_mem _ (List.mem_filter.mpr ⟨zlv_mem.mpr ⟨(List.getElem?_eq_some_iff.mp hj).1, q1, ?_⟩, ?_⟩)), q2⟩
            · rw [List.getD_eq_getElem?_getD, hj]; exact hu
            · have hb : (j == i) = false := by simpa using e
              have hb1 : (j == i + 1) = false := by simpa using e1
              rw [hb, hb1]
              by_cases e2 : j + 1 = i
              · have hlg : zlong (ls.getD (i - 1) zU) = false := by
                  rcases hc.2 with z | z
                  · omega
                  · exact z
                have hj2 : ls.getD (i - 1) zU = x := by
                  rw [show i - 1 = j by omega, List.getD_eq_getElem?_getD, hj]; rfl
                rw [hj2] at hlg
                have hcat : ¬ w1.category = 2 := by
                  rw [zvr_cat q2]
                  intro z
                  rw [zlong_cat.mpr z] at hlg
                  cases hlg
                simp [hcat]
              · have : (j + 1 == i) = false := by simpa using e2
                simp [this]
  · cases hs
theorem zst_lt {ls ls' : List zV} {i : Nat} {v : zV} (hs : zst ls i v = some ls') : i < ls.length := by
  unfold zst at hs
  split at hs
  · rename_i hc; exact hc.1
  · cases hs
theorem zstl_lt {ls ls' : List zV} {i : Nat} {v : zV} (hs : zstl ls i v = some ls') : i + 1 < ls.length := by
  unfold zstl at hs
  split at hs
  · rename_i hc; exact hc.1
  · cases hs
end ZA
