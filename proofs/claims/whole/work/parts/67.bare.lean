def cks (R : List Int) (I : List zIt) : List zKq := I.map (fun x => (cOf x, kys R x))
theorem cks_get {R : List Int} {I : List zIt} {i : Nat} (hi : i < I.length) : (cks R I).getD i kq0 = (cOf I[i], kys R I[i]) := by
  unfold cks
  rw [getD_lt (by rw [List.length_map]; exact hi), List.getElem_map]
theorem cks_len {R : List Int} {I : List zIt} : (cks R I).length = I.length := List.length_map _
theorem kys_mem {D : zD} {R : List Int} {x : zIt} (h : itOk D R x) {y : Int} (hy : y ∈ kys R x) : y ∈ R ∧ y ≠ 124 := by
  obtain ⟨-, f, n, a1, a2, a3, a4, a5, -⟩ := h
  unfold kys at hy
  rw [a1, a2, Int.toNat_natCast, Int.toNat_natCast] at hy
  refine ⟨List.mem_of_mem_drop (List.mem_of_mem_take hy), ?_⟩
  rw [List.mem_take_iff_getElem] at hy
  obtain ⟨j, hj, e⟩ := hy
  rw [List.length_drop] at hj
  rw [List.getElem_drop] at e
  have := a5 (f + j) (by omega) (by omega)
  rw [getD_lt (by omega), e] at this
  exact this
theorem kys_ok {D : zD} {R : List Int} {x : zIt} (h : itOk D R x) (hR : ∀ y ∈ R, gSg D y = true) : kyOk D (kys R x) := fun y hy => gSg_key (hR y (kys_mem h hy).1) (kys_mem h hy).2
theorem cks_ok {D : zD} {R : List Int} {I : List zIt} (hI : ∀ x ∈ I, itOk D R x) (hR : ∀ y ∈ R, gSg D y = true) : ∀ q ∈ cks R I, kqOk D q := by
  intro q hq
  unfold cks at hq
  rw [List.mem_map] at hq
  obtain ⟨x, hx, rfl⟩ := hq
  have hx := hI x hx
  refine ⟨kys_ok hx hR, fun e => ?_, cGo_kys hx⟩
  have := kys_len hx
  obtain ⟨-, f, n, a1, a2, a3, -⟩ := hx
  have e : kys R x = [] := e
  rw [e] at this
  rw [a2] at this
  simp at this
  omega
theorem bB_len {D : zD} {R : List Int} {s : zMS} (hM : mInv D R s) (hG : gInv D R s) : ∀ i (hi : i < (msI s).length), ((bB (zPof D) (cks R (msI s)) (i + 1)).length : Int) ≤ itF (msI s)[i] + itN (msI s)[i] := by
  intro i
  induction i with
  | zero =>
    intro hi
    have hx := hM.1 _ (List.getElem_mem hi)
    have := kys_len hx
    have e : bB (zPof D) (cks R (msI s)) 1 = kys R (msI s)[0] := by
      show [] ++ bPc (zPof D) _ 0 = _
      unfold bPc
      rw [List.nil_append, if_pos (Or.inl rfl), cks_get hi]
    rw [e, this]
    obtain ⟨-, f, n, a1, -⟩ := hx
    omega
  | succ i ih =>
    intro hi
    have hi' : i < (msI s).length := by omega
    have ih := ih hi'
    have hx := hM.1 _ (List.getElem_mem hi)
    have hw := hM.1 _ (List.getElem_mem hi')
    have lx := kys_len hx
    have hl := hM.2.1 i _ _ (List.getElem?_eq_getElem hi') (List.getElem?_eq_getElem hi)
    have hgl := hG.2.1 i _ _ (List.getElem?_eq_getElem hi') (List.getElem?_eq_getElem hi)
    have e : bB (zPof D) (cks R (msI s)) (i + 1 + 1) = bB (zPof D) (cks R (msI s)) (i + 1) ++ bPc (zPof D) (cks R (msI s)) (i + 1) := rfl
    rw [e, List.length_append]
    unfold bPc
    rw [show i + 1 - 1 = i by omega, cks_get hi, cks_get hi']
    have hlk := hl.1
    by_cases ha : i + 1 = 0 ∨ bAp (zPof D) (cOf (msI s)[i], kys R (msI s)[i]) (cOf (msI s)[i + 1], kys R (msI s)[i + 1]) = true
    · rw [if_pos ha]
      dsimp only
      omega
    · rw [if_neg ha, List.length_cons]
      dsimp only
      have hgap : itF (msI s)[i] + itN (msI s)[i] ≠ itF (msI s)[i + 1] := fun q => ha (Or.inr (decide_eq_true (glu_its hw hx hgl q)))
      omega
theorem bB_mem {P : zP} {l : List zKq} : ∀ i, ∀ y ∈ bB P l i, y = 124 ∨ ∃ q ∈ l, y ∈ q.2 := by
  intro i
  induction i with
  | zero => intro y hy; cases hy
  | succ i ih =>
    intro y hy
    rcases List.mem_append.mp (show y ∈ bB P l i ++ bPc P l i from hy) with hy | hy
    · exact ih y hy
    · unfold bPc at hy
      have fin : y ∈ (l.getD i kq0).2 → ∃ q ∈ l, y ∈ q.2 := fun h => by
        by_cases hi : i < l.length
        · rw [getD_lt hi] at h; exact ⟨_, List.getElem_mem hi, h⟩
        · rw [List.getD_eq_getElem?_getD, List.getElem?_eq_none (by omega)] at h
          cases h
      split at hy
      · exact Or.inr (fin hy)
      · rcases List.mem_cons.mp hy with hy | hy
        · exact Or.inl hy
        · exact Or.inr (fin hy)
/-- the row with its BREAKS as few as may be -/
def gBare (D : zD) (R : List Int) : List Int := bB (zPof D) (cks R (msI (kRun (zPof D) R))) (msI (kRun (zPof D) R)).length
theorem gBare_ok {D : zD} {R : List Int} (hD : dOk D) (hR : ∀ y ∈ R, gSg D y = true) : (gBare D R).length ≤ R.length ∧ ∀ y ∈ gBare D R, gSg D y = true := by
  have hM := kRun_I hD hR
  have hG := kRun_G hD hR
  unfold gBare
  constructor
  · by_cases h0 : (msI (kRun (zPof D) R)).length = 0
    · rw [h0]; exact Nat.zero_le _
    · obtain ⟨n, hn⟩ : ∃ n, (msI (kRun (zPof D) R)).length = n + 1 := ⟨(msI (kRun (zPof D) R)).length - 1, by omega⟩
      have hb := bB_len hM hG.1 n (by omega)
      rw [hn]
      obtain ⟨-, f, m, a1, a2, a3, a4, -⟩ := hM.1 _ (List.getElem_mem (show n < (msI (kRun (zPof D) R)).length by omega))
      omega
  · intro y hy
    rcases bB_mem _ y hy with e | ⟨q, hq, hy⟩
    · rw [e]; rfl
    · unfold cks at hq
      rw [List.mem_map] at hq
      obtain ⟨x, hx, rfl⟩ := hq
      exact hR y (kys_mem (hM.1 x hx) hy).1
theorem fil_id {xs : List Int} (h : ∀ y ∈ xs, y ≠ 124) : xs.filter (fun y => decide (y ≠ 124)) = xs := by
  rw [List.filter_eq_self]
  exact fun y hy => decide_eq_true (h y hy)
theorem sl_pair {D : zD} {R : List Int} {w x : zIt} {f n f2 n2 : Nat} (hw : itPs D R w f n) (hx : itPs D R x f2 n2) (hl : lnk R w x) : ((R.drop f).take (f2 + n2 - f)).filter (fun y => decide (y ≠ 124)) = kys R w ++ kys R x := by
  obtain ⟨a1, a2, a3, a4, a5, -⟩ := hw
  obtain ⟨b1, b2, b3, b4, b5, -⟩ := hx
  have h1 : f + n ≤ f2 := by have := hl.1; omega
  have e0 : f2 + n2 - f = n + ((f2 - (f + n)) + n2) := by omega
  have kw : kys R w = (R.drop f).take n := by unfold kys; rw [a1, a2, Int.toNat_natCast, Int.toNat_natCast]
  have kx : kys R x = (R.drop f2).take n2 := by unfold kys; rw [b1, b2, Int.toNat_natCast, Int.toNat_natCast]
  have mem : ∀ (g k : Nat) (y : Int), y ∈ (R.drop g).take k → ∃ j, g ≤ j ∧ j < g + k ∧ j < R.length ∧ R.getD j 0 = y := fun g k y hy => by
    rw [List.mem_take_iff_getElem] at hy
    obtain ⟨j, hj, e⟩ := hy
    rw [List.length_drop] at hj
    rw [List.getElem_drop] at e
    exact ⟨g + j, by omega, by omega, by omega, by rw [getD_lt (by omega)]; exact e⟩
  rw [e0, List.take_add, List.take_add, List.drop_drop, List.drop_drop, List.filter_append, List.filter_append, kw, kx]
  have e1 : ((R.drop f).take n).filter (fun y => decide (y ≠ 124)) = (R.drop f).take n := fil_id (fun y hy => by
    obtain ⟨j, q1, q2, q3, q4⟩ := mem _ _ y hy
    rw [← q4]; exact a5 j q1 q2)
  have e2 : ((R.drop (f + n)).take (f2 - (f + n))).filter (fun y => decide (y ≠ 124)) = [] := by
    rw [List.filter_eq_nil_iff]
    intro y hy
    obtain ⟨j, q1, q2, q3, q4⟩ := mem _ _ y hy
    have := hl.2 j (by omega) (by omega)
    rw [q4] at this
    simp [this]
  have e4 : f + (n + (f2 - (f + n))) = f2 := by omega
  have e3 : ((R.drop f2).take n2).filter (fun y => decide (y ≠ 124)) = (R.drop f2).take n2 := fil_id (fun y hy => by
    obtain ⟨j, q1, q2, q3, q4⟩ := mem _ _ y hy
    rw [← q4]; exact b5 j q1 q2)
  rw [e1, e2, List.nil_append]
  congr 1
  first
    | (rw [show f + n + (f2 - (f + n)) = f2 by omega]; exact e3)
    | (rw [e4]; exact e3)
theorem itEq_c {D : zD} {x y : zIt} (hx : itR D x) (hy : itR D y) : itEq x y = decide (cOf x = cOf y) := by
  rw [Bool.eq_iff_iff, decide_eq_true_iff]
  unfold itEq cOf
  rw [Bool.and_eq_true, Bool.and_eq_true, Bool.and_eq_true, decide_eq_true_iff, decide_eq_true_iff, decide_eq_true_iff, decide_eq_true_iff, Prod.mk.injEq, Prod.mk.injEq, Prod.mk.injEq]
  constructor
  · rintro ⟨h1, h2, h3, h4⟩
    refine ⟨h1, h2, ?_, h4⟩
    unfold itC at h3
    rw [← h1, ← h2] at h3
    have x3 := hx.2.2.1
    have y3 := hy.2.2.1
    rw [← h1, ← h2] at y3
    by_cases c : itL x = -2 ∨ itM x = -2
    · have ex : itE x = -2 := by
        rcases x3 with q | q
        · exact q
        · rcases c with c | c
          · exact absurd c q.2.2.1
          · exact absurd c q.2.2.2
      have ey : itE y = -2 := by
        rcases y3 with q | q
        · exact q
        · rcases c with c | c
          · exact absurd c q.2.2.1
          · exact absurd c q.2.2.2
      rw [ex, ey]
    · rw [if_neg c, if_neg c] at h3
      by_cases e1 : itE x = -2
      · by_cases e2 : itE y = -2
        · rw [e1, e2]
        · rw [if_pos e1, if_neg e2] at h3
          have := y3.resolve_left e2
          omega
      · by_cases e2 : itE y = -2
        · rw [if_neg e1, if_pos e2] at h3
          have := x3.resolve_left e1
          omega
        · rw [if_neg e1, if_neg e2] at h3; exact h3
  · rintro ⟨h1, h2, h3, h4⟩
    refine ⟨h1, h2, ?_, h4⟩
    unfold itC
    rw [h1, h2, h3]
