theorem sm_0 {f : Nat → Int} {n : Nat} (h : ∀ j, j < n → f j = 0) : sm f n = 0 := by
  induction n with
  | zero => rfl
  | succ n ih => rw [sm_s, ih (fun j hj => h j (by omega)), h n (by omega)]; rfl
theorem sm_cg {f g : Nat → Int} {n : Nat} (h : ∀ j, j < n → f j = g j) : sm f n = sm g n := by
  induction n with
  | zero => rfl
  | succ n ih => rw [sm_s, sm_s, ih (fun j hj => h j (by omega)), h n (by omega)]
theorem tEx_exB {D : zD} {st : Nat} (h : tEx D st = true) : exB D st = true ∧ st ≠ 47 := by
  unfold tEx at h
  unfold exB
  rw [Bool.or_eq_true, Bool.or_eq_true, Bool.or_eq_true, Bool.or_eq_true, decide_eq_true_iff, decide_eq_true_iff, decide_eq_true_iff, decide_eq_true_iff, decide_eq_true_iff] at h ⊢
  omega
theorem tMv_mv {D : zD} {st k : Nat} (hD : dOk D) (hlk : dLacks D = false) (hk : k < 26) (hs : dS D k ≠ -1) (hx : tEx D st = true) : mvV D st k = 2 * (((tMv (zPof D) st k).1 : Nat) : Int) + (((tMv (zPof D) st k).2 : Nat) : Int) ∧ tEx D (tMv (zPof D) st k).1 = true ∧ (tMv (zPof D) st k).1 < 66 ∧ (tMv (zPof D) st k).2 ≤ 1 := by
  obtain ⟨hx2, h47⟩ := tEx_exB hx
  have nb := dOk_n hD hlk
  have hb : dnL D ≤ 14 ∧ dnM D ≤ 16 ∧ dnE D ≤ 19 := ⟨nb.1.2, nb.2.1.2, nb.2.2.2⟩
  have oR := cSign_R (op := stO st) hD hk hs (stO_R ⟨nb.1.1, nb.2.1.1⟩ hx2)
  have nal := (cSign_open (op := stO st) hD hk hs (fun o ho => by
    unfold stO at ho
    split at ho
    · cases ho
    · cases ho; exact stC_al)).1
  have hlt := stN_lt (op := (cSign (zPof D) (kk k) (stO st)).2) hb (fun o ho => ⟨oR o ho, nal o ho⟩)
  have e : mvV D st k = 2 * ((stN (cSign (zPof D) (kk k) (stO st)).2 : Nat) : Int) + ((zcn (cSign (zPof D) (kk k) (stO st)) : Nat) : Int) - (((stO st).toList.length : Nat) : Int) := if_pos ⟨hs, hx2⟩
  have ex : tEx D (stN (cSign (zPof D) (kk k) (stO st)).2) = true := by
    unfold tEx
    rw [Bool.or_eq_true, Bool.or_eq_true, Bool.or_eq_true, Bool.or_eq_true, decide_eq_true_iff, decide_eq_true_iff, decide_eq_true_iff, decide_eq_true_iff, decide_eq_true_iff]
    cases ho : (cSign (zPof D) (kk k) (stO st)).2 with
    | none => left; rfl
    | some o =>
      obtain ⟨r1, r2, r3⟩ := oR o ho
      have na := nal o ho
      unfold cAl at na
      unfold stN
      dsimp only
      repeat' split
      all_goals omega
  have m1 : (tMv (zPof D) st k).2 ≤ 1 := by
    unfold tMv tFr
    repeat' split
    all_goals (dsimp only; omega)
  by_cases h0 : st = 0
  · subst h0
    have eo : stO 0 = none := rfl
    obtain ⟨t1, t2⟩ := tMv_0 hD hk hs
    rw [eo] at e ex hlt
    rw [t1] at ex hlt
    rw [t1, t2] at e
    refine ⟨?_, ex, hlt, m1⟩
    rw [e]
    show _ - ((0 : Nat) : Int) = _
    omega
  · have eo : stO st = some (stC st) := if_neg h0
    obtain ⟨t1, t2⟩ := tMv_s hD h0 h47 hk hs
    rw [eo] at e ex hlt
    rw [t1] at ex hlt
    rw [t1, t2] at e
    refine ⟨?_, ex, hlt, m1⟩
    rw [e]
    show _ - ((1 : Nat) : Int) = _
    omega
theorem tF_ex {D : zD} (hD : dOk D) (hlk : dLacks D = false) : ∀ n s i, tEx D s = false → tF D n s i = 0 := by
  intro n
  cases n with
  | zero =>
    intro s i h
    show (if s = 0 ∧ i = 0 then (1 : Int) else 0) = 0
    rw [if_neg]
    rintro ⟨rfl, -⟩
    cases h
  | succ n =>
    intro s i h
    refine sm_0 (fun st hst => sm_0 (fun k hk => ?_))
    show tGo D (tF D n) st k s i = 0
    unfold tGo
    rw [if_neg]
    rintro ⟨q1, q2, q3, -⟩
    have := (tMv_mv hD hlk hk q1 q2).2.1
    rw [q3, h] at this
    cases this
theorem bF_ex {D : zD} (hD : dOk D) (hlk : dLacks D = false) : ∀ n s, tEx D s = false → bF D n s = 0 := by
  intro n
  cases n with
  | zero =>
    intro s h
    show (if s = 0 then (1 : Int) else 0) = 0
    rw [if_neg]
    rintro rfl
    cases h
  | succ n =>
    intro s h
    refine sm_0 (fun st hst => sm_0 (fun k hk => ?_))
    show bGo D (bF D n) st k s = 0
    unfold bGo
    rw [if_neg]
    rintro ⟨q1, q2, q3, -⟩
    have := (tMv_mv hD hlk hk q1 q2).2.1
    rw [q3, h] at this
    cases this
theorem tF_hi {D : zD} (hD : dOk D) (hlk : dLacks D = false) : ∀ n s i, n < i → tF D n s i = 0 := by
  intro n
  induction n with
  | zero =>
    intro s i h
    show (if s = 0 ∧ i = 0 then (1 : Int) else 0) = 0
    rw [if_neg (by omega)]
  | succ n ih =>
    intro s i h
    refine sm_0 (fun st hst => sm_0 (fun k hk => ?_))
    show tGo D (tF D n) st k s i = 0
    unfold tGo
    split
    · rename_i q
      have := (tMv_mv hD hlk hk q.1 q.2.1).2.2.2
      exact ih _ _ (by omega)
    · rfl
theorem pA_go {D : zD} (hD : dOk D) (hlk : dLacks D = false) {n st k s i : Nat} (hk : k < 26) : pA D (tF D n) (n + 1) st k s i = tGo D (tF D n) st k s i := by
  unfold pA tGo
  by_cases hs : dS D k = -1
  · have : mvV D st k = -1 := if_neg (fun q => q.1 hs)
    rw [this, if_neg (by omega), if_neg (fun q => q.1 hs)]
  · by_cases hx : tEx D st = true
    · obtain ⟨e1, e2, e3, e4⟩ := tMv_mv hD hlk hk hs hx
      generalize tMv (zPof D) st k = t at *
      have d1 : (mvV D st k).toNat / 2 = t.1 := by omega
      have d2 : (mvV D st k).toNat % 2 = t.2 := by omega
      rw [if_pos (by omega), d1, d2]
      unfold pAdd
      by_cases q : t.1 = s ∧ t.2 ≤ i
      · rw [if_pos (show dS D k ≠ -1 ∧ tEx D st = true ∧ t.1 = s ∧ t.2 ≤ i from ⟨hs, hx, q.1, q.2⟩)]
        by_cases q2 : i - t.2 < n + 1
        · rw [if_pos ⟨q.1.symm, q.2, q2⟩]
        · rw [if_neg (fun w => q2 w.2.2), tF_hi hD hlk n st _ (by omega)]
      · rw [if_neg (fun w => q ⟨w.1.symm, w.2.1⟩), if_neg (fun w => q ⟨w.2.2.1, w.2.2.2⟩)]
    · have hx' : tEx D st = false := Bool.not_eq_true _ ▸ hx
      have y : ¬ (dS D k ≠ -1 ∧ tEx D st = true ∧ (tMv (zPof D) st k).1 = s ∧ (tMv (zPof D) st k).2 ≤ i) := fun q => hx q.2.1
      rw [if_neg y]
      have z : ∀ a b, pAdd (tF D n) (n + 1) st a b s i = 0 := fun a b => by
        unfold pAdd
        split
        · exact tF_ex hD hlk n st _ hx'
        · rfl
      split
      · exact z _ _
      · rfl
theorem pB_go {D : zD} (hD : dOk D) (hlk : dLacks D = false) {n st k s : Nat} (hk : k < 26) : pB D (bF D n) st k s = bGo D (bF D n) st k s := by
  unfold pB bGo
  by_cases hs : dS D k = -1
  · have : mvV D st k = -1 := if_neg (fun q => q.1 hs)
    rw [this, if_neg (by omega), if_neg (fun q => q.1 hs)]
  · by_cases hx : tEx D st = true
    · obtain ⟨e1, e2, e3, e4⟩ := tMv_mv hD hlk hk hs hx
      generalize tMv (zPof D) st k = t at *
      have d1 : (mvV D st k).toNat / 2 = t.1 := by omega
      have d2 : (mvV D st k).toNat % 2 = t.2 := by omega
      rw [if_pos (by omega), d1, d2]
      unfold pAdB
      by_cases q : t.1 = s
      · subst q
        by_cases q2 : ¬ (tLd st = true ∧ t.2 = 1) ∧ (tLd t.1 = true ∨ tBk t.1 = true)
        · rw [if_pos ⟨rfl, q2⟩, if_pos ⟨hs, hx, rfl, q2.1, q2.2⟩]
        · rw [if_neg (fun w => q2 w.2), if_neg (fun w => q2 ⟨w.2.2.2.1, w.2.2.2.2⟩)]
      · rw [if_neg (fun w => q w.1.symm), if_neg (fun w => q w.2.2.1)]
    · have hx' : tEx D st = false := Bool.not_eq_true _ ▸ hx
      have y : ¬ (dS D k ≠ -1 ∧ tEx D st = true ∧ (tMv (zPof D) st k).1 = s ∧ ¬ (tLd st = true ∧ (tMv (zPof D) st k).2 = 1) ∧ (tLd s = true ∨ tBk s = true)) := fun q => hx q.2.1
      rw [if_neg y]
      have z : ∀ a b, pAdB (bF D n) st a b s = 0 := fun a b => by
        unfold pAdB
        split
        · exact bF_ex hD hlk n st hx'
        · rfl
      split
      · exact z _ _
      · rfl
theorem tF_next {D : zD} (hD : dOk D) (hlk : dLacks D = false) {n s i : Nat} : sm (fun st => sm (fun k => pA D (tF D n) (n + 1) st k s i) 26) 66 = tF D (n + 1) s i := sm_cg (fun st _ => sm_cg (fun k hk => pA_go hD hlk hk))
theorem bF_next {D : zD} (hD : dOk D) (hlk : dLacks D = false) {n s : Nat} : sm (fun st => sm (fun k => pB D (bF D n) st k s) 26) 66 = bF D (n + 1) s := sm_cg (fun st _ => sm_cg (fun k hk => pB_go hD hlk hk))
