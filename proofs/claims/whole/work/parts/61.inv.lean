theorem zfind_inv {es : List (Int × Int)} {a b : Int} {i : Nat} (h : zfind es a b i ≠ -2) : ∃ j, ∃ hj : j < es.length, zfind es a b i = ((i + j : Nat) : Int) ∧ es[j].1 = a ∧ es[j].2 = b := by
  induction es generalizing i with
  | nil => exact absurd rfl h
  | cons q t ih =>
    rw [zfind] at h ⊢
    by_cases hq : q.1 = a ∧ q.2 = b
    · rw [if_pos hq]
      exact ⟨0, by simp, rfl, hq.1, hq.2⟩
    · rw [if_neg hq] at h ⊢
      obtain ⟨j, hj, e1, e2, e3⟩ := ih h
      refine ⟨j + 1, by rw [List.length_cons]; omega, by rw [e1]; omega, e2, e3⟩
theorem dTE_single {D : zD} {x : Nat} (h1 : 1 ≤ x) (h2 : x < 1 + (dEn D).length) : (dTE D).getD x (0, 0) = k1 ((dEn D)[x - 1]'(by omega)) := by
  have hl : x - 1 < (dEn D).length := by omega
  unfold dTE
  rw [List.append_assoc, List.getD_eq_getElem?_getD, List.getElem?_append_right (by show 1 ≤ x; exact h1)]
  show (((dEn D).map k1 ++ (dPE D).map k2)[x - 1]?).getD (0, 0) = _
  rw [List.getElem?_append_left (by rw [List.length_map]; exact hl), List.getElem?_map, List.getElem?_eq_getElem hl]
  rfl
theorem dNE_inv {D : zD} (h : dOk D) {k : Nat} (hk : dNE D k ≠ -2) : dLa D (dNE D k) = k ∧ dCu D (dNE D k) = -2 := by
  have hm : k ∈ dEn D := by rcases dNE_rng h (k := k) with r | r; exact absurd r hk; exact r.2.2
  obtain ⟨j, hj, e, e2⟩ := ixf_in (dEn_nd h) (i := 1) (f := fun _ => -2) hm
  have e3 : dNE D k = ((1 + j : Nat) : Int) := e2
  rw [e3]
  unfold dLa dCu
  rw [Int.toNat_natCast, if_pos (by omega), if_pos (by omega), show 1 + j - 1 = j by omega, getD_lt hj]
  exact ⟨e, rfl⟩
theorem dEp_inv {D : zD} (h : dOk D) {x : Int} {k : Nat} (hk : dEp D x k ≠ -2) : dLa D (dEp D x k) = k ∧ dCu D (dEp D x k) = x := by
  unfold dEp zwith at hk ⊢
  by_cases hx : x < 0 ∨ ((1 + (dEn D).length : Nat) : Int) ≤ x
  · rw [if_pos hx] at hk; exact absurd rfl hk
  · rw [if_neg hx] at hk ⊢
    obtain ⟨n, rfl⟩ : ∃ n : Nat, x = (n : Int) := ⟨x.toNat, by omega⟩
    rw [Int.toNat_natCast] at hk ⊢
    have ed : (dTE D).drop (1 + (dEn D).length) = (dPE D).map k2 := by
      unfold dTE
      have hl2 : ([(-2, -2)] ++ (dEn D).map k1 : List (Int × Int)).length = 1 + (dEn D).length := by rw [List.length_append, List.length_map]; rfl
      rw [← hl2, List.drop_append_of_le_length (Nat.le_refl _), List.drop_of_length_le (Nat.le_refl _), List.nil_append]
    rw [ed] at hk ⊢
    obtain ⟨j, hj, e1, e2, e3⟩ := zfind_inv hk
    rw [e1]
    have hj' : j < (dPE D).length := by rw [List.length_map] at hj; exact hj
    rw [List.getElem_map] at e2 e3
    have e3 : kk (dPE D)[j].2 = kk k := e3
    have e2 : kk (dPE D)[j].1 = ((dTE D).getD n (0, 0)).1 := e2
    have hn0 : 1 ≤ n := by
      apply Classical.byContradiction
      intro q
      have : n = 0 := by omega
      subst this
      have : ((dTE D).getD 0 (0, 0)).1 = -2 := rfl
      rw [this] at e2
      unfold kk at e2
      omega
    rw [dTE_single hn0 (by omega)] at e2
    have e2 : kk (dPE D)[j].1 = kk ((dEn D)[n - 1]'(by omega)) := e2
    rw [kk_inj] at e2 e3
    unfold dLa dCu
    rw [Int.toNat_natCast, if_neg (by omega), if_neg (by omega), show 1 + (dEn D).length + j - (1 + (dEn D).length) = j by omega, getD_lt hj']
    refine ⟨e3, ?_⟩
    rw [e2]
    have := ixf_get (dEn_nd h) (i := 1) (f := fun _ => -2) (j := n - 1) (by omega)
    show ixf (dEn D) 1 (fun _ => -2) _ = _
    rw [this]; omega
theorem dLa_fin {D : zD} (h : dOk D) {e : Int} (h1 : 0 < e) (h2 : e < (dnE D : Int)) : cFi D (dLa D e) = true ∧ dLa D e < 26 ∧ (dCu D e = -2 ∨ (0 < dCu D e ∧ dCu D e < (dnE D : Int))) := by
  unfold dLa dCu
  obtain ⟨n, rfl⟩ : ∃ n : Nat, e = (n : Int) := ⟨e.toNat, by omega⟩
  rw [Int.toNat_natCast]
  by_cases hn : n < 1 + (dEn D).length
  · rw [if_pos hn, if_pos hn, getD_lt (show n - 1 < (dEn D).length by omega)]
    have hm := List.getElem_mem (show n - 1 < (dEn D).length by omega)
    exact ⟨(dEn_mem h).mp hm, (h.1.1 _ (List.mem_filter.mp hm).1).1, Or.inl rfl⟩
  · rw [if_neg hn, if_neg hn]
    have hl : n - (1 + (dEn D).length) < (dPE D).length := by unfold dnE at h2; omega
    rw [getD_lt hl]
    obtain ⟨_, q1, q2, q3, q4⟩ := dPE_mem h (List.getElem_mem hl)
    refine ⟨q2, q4, Or.inr ?_⟩
    obtain ⟨j, hj, _, e2⟩ := ixf_in (dEn_nd h) (i := 1) (f := fun _ => -2) ((dEn_mem h).mpr q1)
    show 0 < ixf (dEn D) 1 (fun _ => -2) _ ∧ ixf (dEn D) 1 (fun _ => -2) _ < _
    rw [e2]
    unfold dnE
    omega
/-! where ITEMS stand -/
def itR (D : zD) (x : zIt) : Prop := (itL x = -2 ∨ (0 ≤ itL x ∧ itL x < (dnL D : Int))) ∧ (itM x = -2 ∨ (0 ≤ itM x ∧ itM x < (dnM D : Int))) ∧ (itE x = -2 ∨ (0 < itE x ∧ itE x < (dnE D : Int) ∧ itL x ≠ -2 ∧ itM x ≠ -2)) ∧ 0 ≤ itK x ∧ itK x < 26
def cEnd (x : zIt) : zCs := if itL x = -2 ∧ itM x = -2 then ([cOf x], none) else ([], some (cOf x))
def itPs (D : zD) (xs : List Int) (x : zIt) (f n : Nat) : Prop := itF x = (f : Int) ∧ itN x = (n : Int) ∧ 1 ≤ n ∧ f + n ≤ xs.length ∧ (∀ j, f ≤ j → j < f + n → xs.getD j 0 ≠ 124) ∧ cGo (zPof D) ((xs.drop f).take n) none = cEnd x
def itOk (D : zD) (xs : List Int) (x : zIt) : Prop := itR D x ∧ ∃ f n, itPs D xs x f n
def lnk (xs : List Int) (x y : zIt) : Prop := itF x + itN x ≤ itF y ∧ ∀ j : Nat, itF x + itN x ≤ (j : Int) → (j : Int) < itF y → xs.getD j 0 = 124
def tlk (xs : List Int) (x : zIt) : Prop := ∀ j : Nat, itF x + itN x ≤ (j : Int) → j < xs.length → xs.getD j 0 = 124
def adj (xs : List Int) (I : List zIt) : Prop := ∀ i x y, I[i]? = some x → I[i + 1]? = some y → lnk xs x y
theorem getD_app {xs : List Int} {y : Int} {j : Nat} (h : j < xs.length) : (xs ++ [y]).getD j 0 = xs.getD j 0 := by
  rw [List.getD_eq_getElem?_getD, List.getD_eq_getElem?_getD, List.getElem?_append_left h]
theorem getD_end {xs : List Int} {y : Int} : (xs ++ [y]).getD xs.length 0 = y := by
  rw [List.getD_eq_getElem?_getD, List.getElem?_append_right (Nat.le_refl _), Nat.sub_self]; rfl
theorem sl_ext {xs : List Int} {y : Int} {f n : Nat} (h : f + n ≤ xs.length) : ((xs ++ [y]).drop f).take n = (xs.drop f).take n := by
  rw [List.drop_append_of_le_length (by omega), List.take_append_of_le_length (by rw [List.length_drop]; omega)]
theorem itOk_ext {D : zD} {xs : List Int} {y : Int} {x : zIt} (h : itOk D xs x) : itOk D (xs ++ [y]) x := by
  obtain ⟨h1, f, n, a1, a2, a3, a4, a5, a6⟩ := h
  refine ⟨h1, f, n, a1, a2, a3, by rw [List.length_append]; omega, fun j q1 q2 => ?_, by rw [sl_ext a4]; exact a6⟩
  rw [getD_app (by omega)]; exact a5 j q1 q2
theorem lnk_ext {D : zD} {xs : List Int} {z : Int} {x y : zIt} (hy : itOk D xs y) (h : lnk xs x y) : lnk (xs ++ [z]) x y := by
  obtain ⟨-, f, n, a1, a2, a3, a4, -⟩ := hy
  refine ⟨h.1, fun j q1 q2 => ?_⟩
  rw [getD_app (by omega)]; exact h.2 j q1 q2
theorem adj_ext {D : zD} {xs : List Int} {z : Int} {I : List zIt} (hI : ∀ x ∈ I, itOk D xs x) (h : adj xs I) : adj (xs ++ [z]) I := fun i x y h1 h2 => lnk_ext (hI y (List.mem_of_getElem? h2)) (h i x y h1 h2)
theorem adj_snoc {xs : List Int} {I : List zIt} {y : zIt} (h : adj xs I) (hl : ∀ x, I.getLast? = some x → lnk xs x y) : adj xs (I ++ [y]) := by
  intro i x z h1 h2
  have hi2 := (List.getElem?_eq_some_iff.mp h2).1
  rw [List.length_append] at hi2
  have hi2 : i + 1 < I.length + 1 := hi2
  rw [List.getElem?_append_left (by omega)] at h1
  by_cases hi : i + 1 < I.length
  · rw [List.getElem?_append_left hi] at h2
    exact h i x z h1 h2
  · have e : i + 1 = I.length := by omega
    rw [List.getElem?_append_right (by omega), e, Nat.sub_self] at h2
    cases h2
    apply hl
    rw [List.getLast?_eq_getElem?, ← h1]
    congr 1
    omega
theorem adj_init {xs : List Int} {I : List zIt} {y : zIt} (h : adj xs (I ++ [y])) : adj xs I ∧ ∀ x, I.getLast? = some x → lnk xs x y := by
  refine ⟨fun i x z h1 h2 => h i x z ?_ ?_, fun x hx => ?_⟩
  · rw [List.getElem?_append_left (List.getElem?_eq_some_iff.mp h1).1]; exact h1
  · rw [List.getElem?_append_left (List.getElem?_eq_some_iff.mp h2).1]; exact h2
  · rw [List.getLast?_eq_getElem?] at hx
    have hl := (List.getElem?_eq_some_iff.mp hx).1
    refine h (I.length - 1) x y ?_ ?_
    · rw [List.getElem?_append_left hl]; exact hx
    · rw [show I.length - 1 + 1 = I.length by omega, List.getElem?_append_right (Nat.le_refl _), Nat.sub_self]; rfl
def opn (D : zD) (xs : List Int) (x : zIt) : Prop := itF x + itN x = (xs.length : Int) ∧ ¬ (itL x = -2 ∧ itM x = -2) ∧ (itE x ≠ -2 → ∃ f n : Nat, itF x = (f : Int) ∧ itN x = ((n + 1 : Nat) : Int) ∧ 1 ≤ n ∧ cGo (zPof D) ((xs.drop f).take n) none = ([], some (itL x, itM x, dCu D (itE x), -2)) ∧ xs.getD (f + n) 0 = kk (dLa D (itE x)))
def mInv (D : zD) (xs : List Int) (s : zMS) : Prop := (∀ x ∈ msI s, itOk D xs x) ∧ adj xs (msI s) ∧ (∀ x, (msI s).getLast? = some x → tlk xs x) ∧ ∀ x, s.2.1 = some x → opn D xs x
theorem mInv_0 {D : zD} : mInv D [] ms0 := ⟨fun x hx => (by cases hx), fun i x y h1 h2 => (by cases h1), fun x hx => (by cases hx), fun x hx => (by cases hx)⟩
theorem last_mem {α : Type} {I : List α} {x : α} (h : I.getLast? = some x) : x ∈ I := List.mem_of_getLast? h
/-- a new ITEM of one KEY -/
theorem mI_new {D : zD} {xs : List Int} {y : Int} {s : zMS} {x : zIt} (h : mInv D xs s) (hy : y ≠ 124) (hR : itR D x) (hF : itF x = (xs.length : Int)) (hN : itN x = 1) (hc : cGo (zPof D) [y] none = cEnd x) : (∀ z ∈ msI s ++ [x], itOk D (xs ++ [y]) z) ∧ adj (xs ++ [y]) (msI s ++ [x]) ∧ (∀ z, (msI s ++ [x]).getLast? = some z → tlk (xs ++ [y]) z) := by
  obtain ⟨h1, h2, h3, h4⟩ := h
  have hl : (xs ++ [y]).length = xs.length + 1 := by rw [List.length_append]; rfl
  refine ⟨fun z hz => ?_, adj_snoc (adj_ext h1 h2) (fun z hz => ?_), fun z hz => ?_⟩
  · rcases List.mem_append.mp hz with hz | hz
    · exact itOk_ext (h1 z hz)
    · rw [List.mem_singleton.mp hz]
      refine ⟨hR, xs.length, 1, hF, hN, Nat.le_refl _, by omega, fun j q1 q2 => ?_, ?_⟩
      · have : j = xs.length := by omega
        rw [this, getD_end]; exact hy
      · rw [List.drop_append_of_le_length (Nat.le_refl _), List.drop_of_length_le (Nat.le_refl _), List.nil_append]
        exact hc
  · obtain ⟨-, f, n, a1, a2, a3, a4, -⟩ := h1 z (last_mem hz)
    refine ⟨by omega, fun j q1 q2 => ?_⟩
    rw [getD_app (by omega)]
    exact h3 z hz j q1 (by omega)
  · rw [List.getLast?_concat] at hz
    cases hz
    intro j q1 q2
    omega
/-- the open ITEM takes a KEY more -/
theorem mI_join {D : zD} {xs : List Int} {y : Int} {s : zMS} {x x' : zIt} {role : Int} (h : mInv D xs s) (hs : s.2.1 = some x) (hy : y ≠ 124) (hR : itR D x') (hn : ¬ (itL x' = -2 ∧ itM x' = -2)) (hF : itF x' = itF x) (hN : itN x' = itN x + 1) (hc : cSign (zPof D) y (some (cOf x)) = ([], some (cOf x'))) (hE : itE x' ≠ -2 → itL x' = itL x ∧ itM x' = itM x ∧ dCu D (itE x') = itE x ∧ y = kk (dLa D (itE x'))) : mInv D (xs ++ [y]) (kJoin s x' role) := by
  obtain ⟨h1, h2, h3, h4⟩ := h
  have hl : (xs ++ [y]).length = xs.length + 1 := by rw [List.length_append]; rfl
  have e1 := msI_some hs
  rw [e1] at h1 h2 h3
  obtain ⟨o1, o2, o3⟩ := h4 x hs
  obtain ⟨-, f, n, a1, a2, a3, a4, a5, a6⟩ := h1 x (List.mem_append.mpr (Or.inr (List.mem_singleton.mpr rfl)))
  have ce : cEnd x = ([], some (cOf x)) := if_neg o2
  have ce' : cEnd x' = ([], some (cOf x')) := if_neg hn
  have hfn : f + n = xs.length := by omega
  have sl : ((xs ++ [y]).drop f).take (n + 1) = (xs.drop f).take n ++ [y] := by
    rw [List.drop_append_of_le_length (by omega), List.take_of_length_le (by rw [List.length_append, List.length_drop]; show _ + 1 ≤ _; omega), List.take_of_length_le (by rw [List.length_drop]; omega)]
  have em : msI (kJoin s x' role) = s.1 ++ [x'] := rfl
  have ok' : itOk D (xs ++ [y]) x' := by
    refine ⟨hR, f, n + 1, by omega, by omega, by omega, by omega, fun j q1 q2 => ?_, ?_⟩
    · by_cases hj : j < xs.length
      · rw [getD_app hj]; exact a5 j q1 (by omega)
      · have : j = xs.length := by omega
        rw [this, getD_end]; exact hy
    · rw [sl, cGo_snoc, a6, ce, hc, ce']
      rfl
  obtain ⟨i1, i2⟩ := adj_init h2
  refine ⟨fun z hz => ?_, ?_, fun z hz => ?_, fun z hz => ?_⟩
  · rw [em] at hz
    rcases List.mem_append.mp hz with hz | hz
    · exact itOk_ext (h1 z (List.mem_append.mpr (Or.inl hz)))
    · rw [List.mem_singleton.mp hz]; exact ok'
  · rw [em]
    refine adj_snoc (adj_ext (fun z hz => h1 z (List.mem_append.mpr (Or.inl hz))) i1) (fun z hz => ?_)
    have := lnk_ext (z := y) (h1 x (List.mem_append.mpr (Or.inr (List.mem_singleton.mpr rfl)))) (i2 z hz)
    unfold lnk at this ⊢
    rw [hF]; exact this
  · rw [em, List.getLast?_concat] at hz
    cases hz
    intro j q1 q2
    omega
  · have hz : some x' = some z := hz
    cases hz
    refine ⟨by omega, hn, fun q => ?_⟩
    obtain ⟨q1, q2, q3, q4⟩ := hE q
    refine ⟨f, n, by omega, by omega, a3, ?_, ?_⟩
    · rw [sl_ext a4, a6, ce, cOf_open o2, q1, q2, q3]
    · rw [hfn, getD_end]; exact q4
