/-- what holds of a SCRIPT's numbers; N: how many END-PARTS -/
def zPk (P : zP) (N : Nat) : Prop := (∀ k, k < 26 → (pEo P k = -2 ∨ 0 < pEo P k) ∧ (∀ x, pEp P x k = -2 ∨ 0 < pEp P x k) ∧ pEo P k < (N : Int) ∧ (∀ x, pEp P x k < (N : Int)) ∧ (pSo P k = 3 → pMo P k ≠ -2)) ∧ 0 < N
/-- of the ITEM that is OPEN -/
def msO (N : Nat) (x : zIt) : Prop := ¬ (itL x = -2 ∧ itM x = -2) ∧ (itE x = -2 ∨ 0 < itE x) ∧ (itE x ≠ -2 → itL x ≠ -2 ∧ itM x ≠ -2) ∧ 1 ≤ itN x ∧ itE x < (N : Int)
def msX (N : Nat) (s : zMS) : Prop := msW s ∧ ∀ x, s.2.1 = some x → msO N x
theorem ms0_ok {N : Nat} : msX N ms0 := ⟨⟨Nat.le_refl _, by decide, by decide, fun x hx => (by cases hx), fun x hx => (by cases hx)⟩, fun x hx => (by cases hx)⟩
theorem kJoin_ok {N : Nat} {s : zMS} {x x' : zIt} {role : Int} (h : msX N s) (hs : s.2.1 = some x) (hN : itN x' = itN x + 1) (h1 : ¬ (itL x' = -2 ∧ itM x' = -2)) (h2 : itE x' = -2 ∨ 0 < itE x') (h3 : itE x' ≠ -2 → itL x' ≠ -2 ∧ itM x' ≠ -2) (h4 : itE x' < (N : Int)) : msX N (kJoin s x' role) := by
  obtain ⟨⟨w1, w2, w3, w4, w5⟩, wo⟩ := h
  have e := msI_some hs
  have hl : (s.2.2.1 ++ [((s.1.length : Int), role, (0 : Int))]).length = s.2.2.1.length + 1 := by rw [List.length_append]; rfl
  have hx := w4 x (by rw [e]; simp)
  rw [e, List.length_append] at w1
  have hO : msO N x' := ⟨h1, h2, h3, by have := (wo x hs).2.2.2.1; omega, h4⟩
  refine ⟨⟨?_, ?_, ?_, ?_, ?_⟩, ?_⟩
  · show (s.1 ++ [x']).length ≤ (s.2.2.1 ++ [_]).length
    rw [List.length_append, hl]
    show s.1.length + 1 ≤ _
    have : s.1.length + 1 ≤ s.2.2.1.length := w1
    omega
  · exact w2
  · show s.2.2.2 ≤ ((s.2.2.1 ++ [_]).length : Int)
    rw [hl]
    omega
  · intro y hy
    show 0 ≤ itN y ∧ itN y ≤ ((s.2.2.1 ++ [_]).length : Int)
    rw [hl]
    have hy' : y ∈ s.1 ++ [x'] := hy
    rcases List.mem_append.mp hy' with q | q
    · have := w4 y (by rw [e]; exact List.mem_append_left _ q)
      omega
    · have := List.mem_singleton.mp q
      subst this
      omega
  · intro y hy
    have : y = x' := (Option.some.inj hy).symm
    subst this
    exact ⟨h1, h2, h3, fun q => by have := congrArg List.length q; rw [show (kJoin s y role).2.2.1 = s.2.2.1 ++ [((s.1.length : Int), role, (0 : Int))] from rfl, hl] at this; exact absurd this (by simp)⟩
  · intro y hy
    have : y = x' := (Option.some.inj hy).symm
    subst this
    exact hO
theorem kNew_ok {N : Nat} {s : zMS} {x' : zIt} {role : Int} (h : msX N s) (hN : itN x' = 1) (h1 : ¬ (itL x' = -2 ∧ itM x' = -2)) (h2 : itE x' = -2) : msX N (kNew s x' role) := by
  obtain ⟨⟨w1, w2, w3, w4, w5⟩, wo⟩ := h
  have hl : (s.2.2.1 ++ [(((msI s).length : Int), role, (0 : Int))]).length = s.2.2.1.length + 1 := by rw [List.length_append]; rfl
  have hO : msO N x' := ⟨h1, Or.inl h2, fun q => absurd h2 q, by omega, by omega⟩
  refine ⟨⟨?_, ?_, ?_, ?_, ?_⟩, ?_⟩
  · show (msI s ++ [x']).length ≤ (s.2.2.1 ++ [_]).length
    rw [List.length_append, hl]
    show (msI s).length + 1 ≤ _
    omega
  · exact w2
  · show s.2.2.2 ≤ ((s.2.2.1 ++ [_]).length : Int)
    rw [hl]
    omega
  · intro y hy
    show 0 ≤ itN y ∧ itN y ≤ ((s.2.2.1 ++ [_]).length : Int)
    rw [hl]
    have hy' : y ∈ msI s ++ [x'] := hy
    rcases List.mem_append.mp hy' with q | q
    · have := w4 y q
      omega
    · have := List.mem_singleton.mp q
      subst this
      omega
  · intro y hy
    have : y = x' := (Option.some.inj hy).symm
    subst this
    exact ⟨h1, hO.2.1, hO.2.2.1, fun q => by have := congrArg List.length q; rw [show (kNew s y role).2.2.1 = s.2.2.1 ++ [(((msI s).length : Int), role, (0 : Int))] from rfl, hl] at this; exact absurd this (by simp)⟩
  · intro y hy
    have : y = x' := (Option.some.inj hy).symm
    subst this
    exact hO
theorem kAlone_ok {N : Nat} {s : zMS} {x' : zIt} (h : msX N s) (hN : itN x' = 1) : msX N (kAlone s x') := by
  obtain ⟨⟨w1, w2, w3, w4, w5⟩, wo⟩ := h
  have hl : (s.2.2.1 ++ [(((msI s).length : Int), (3 : Int), (0 : Int))]).length = s.2.2.1.length + 1 := by rw [List.length_append]; rfl
  have hi : msI (kAlone s x') = msI s ++ [x'] := msI_none rfl
  refine ⟨⟨?_, w2, ?_, ?_, ?_⟩, ?_⟩
  · rw [hi]
    show (msI s ++ [x']).length ≤ (s.2.2.1 ++ [_]).length
    rw [List.length_append, hl]
    show (msI s).length + 1 ≤ _
    omega
  · show s.2.2.2 ≤ ((s.2.2.1 ++ [_]).length : Int)
    rw [hl]
    omega
  · intro y hy
    show 0 ≤ itN y ∧ itN y ≤ ((s.2.2.1 ++ [_]).length : Int)
    rw [hl]
    rw [hi] at hy
    rcases List.mem_append.mp hy with q | q
    · have := w4 y q
      omega
    · have := List.mem_singleton.mp q
      subst this
      omega
  · intro y hy
    cases hy
  · intro y hy
    cases hy
theorem kBreak_ok {N : Nat} {s : zMS} (h : msX N s) : msX N (kBreak s) := by
  obtain ⟨⟨w1, w2, w3, w4, w5⟩, wo⟩ := h
  have hl : (s.2.2.1 ++ [((-2 : Int), (-2 : Int), (0 : Int))]).length = s.2.2.1.length + 1 := by rw [List.length_append]; rfl
  have hi : msI (kBreak s) = msI s := msI_none rfl
  refine ⟨⟨?_, w2, ?_, ?_, ?_⟩, ?_⟩
  · rw [hi]
    show (msI s).length ≤ (s.2.2.1 ++ [_]).length
    rw [hl]
    omega
  · show s.2.2.2 ≤ ((s.2.2.1 ++ [_]).length : Int)
    rw [hl]
    omega
  · intro y hy
    show 0 ≤ itN y ∧ itN y ≤ ((s.2.2.1 ++ [_]).length : Int)
    rw [hl]
    rw [hi] at hy
    have := w4 y hy
    omega
  · intro y hy
    cases hy
  · intro y hy
    cases hy
theorem kFresh_ok {N : Nat} {P : zP} {c : Nat} {s : zMS} (h : msX N s) : msX N (kFresh P c s) := by
  unfold kFresh
  by_cases hl : pLo P c = -2
  · rw [if_pos hl]; exact kAlone_ok h rfl
  · rw [if_neg hl]; exact kNew_ok h rfl (fun q => hl q.1) rfl
theorem kCons_ok {N : Nat} {P : zP} {c : Nat} {s : zMS} (hP : zPk P N) (hc : c < 26) (h : msX N s) : msX N (kCons P c s) := by
  unfold kCons
  obtain ⟨p1, p2, p3, p4, p5⟩ := hP.1 c hc
  cases hs : s.2.1 with
  | none => exact kFresh_ok h
  | some x =>
    dsimp only
    obtain ⟨o1, o2, o3, o4, o5⟩ := h.2 x hs
    by_cases hl : itL x = -2
    · rw [if_pos hl]; exact kFresh_ok h
    · rw [if_neg hl]
      by_cases hm : itM x = -2
      · rw [if_pos hm]
        have he : itE x = -2 := Classical.byContradiction fun q => (o3 q).2 hm
        by_cases ht : itL x = pLo P c ∧ pTw P c ≠ -2
        · rw [if_pos ht]
          exact kJoin_ok h hs rfl (fun q => ht.2 q.1) (Or.inl he) (fun q => absurd he q) o5
        · rw [if_neg ht]; exact kFresh_ok h
      · rw [if_neg hm]
        by_cases he : itE x = -2
        · rw [if_pos he]
          by_cases h0 : pEo P c = -2
          · rw [if_pos h0]; exact kFresh_ok h
          · rw [if_neg h0]; exact kJoin_ok h hs rfl (fun q => hl q.1) p1 (fun _ => ⟨hl, hm⟩) p3
        · rw [if_neg he]
          by_cases h0 : pEp P (itE x) c = -2
          · rw [if_pos h0]; exact kFresh_ok h
          · rw [if_neg h0]; exact kJoin_ok h hs rfl (fun q => hl q.1) (p2 _) (fun _ => ⟨hl, hm⟩) (p4 _)
theorem kSteal_ok {N : Nat} {P : zP} {v : Nat} {s : zMS} {x : zIt} (h : msX N s) (hs : s.2.1 = some x) (hl : pLo P (pLa P (itE x)) ≠ -2) : msX N (kSteal P v s x) := by
  obtain ⟨⟨w1, w2, w3, w4, w5⟩, wo⟩ := h
  have e := msI_some hs
  obtain ⟨_, _, _, w6⟩ := w5 x hs
  have hdl : s.2.2.1.dropLast.length + 1 = s.2.2.1.length := by
    have := congrArg List.length (List.dropLast_concat_getLast w6)
    rw [List.length_append] at this
    exact this
  have hl2 : (kSteal P v s x).2.2.1.length = s.2.2.1.length + 1 := by
    show (s.2.2.1.dropLast ++ [_] ++ [_]).length = _
    rw [List.length_append, List.length_append]
    show s.2.2.1.dropLast.length + 1 + 1 = _
    omega
  have hx := w4 x (by rw [e]; simp)
  have hO := wo x hs
  have hi : msI (kSteal P v s x) = s.1 ++ [(itL x, itM x, pCu P (itE x), itK x, itF x, itN x - 1)] ++ [(pLo P (pLa P (itE x)), pMo P v, -2, (pLa P (itE x) : Int), (s.2.2.1.length : Int) - 1, 2)] := msI_some (s := kSteal P v s x) rfl
  rw [e, List.length_append] at w1
  have w1' : s.1.length + 1 ≤ s.2.2.1.length := w1
  have hO' : msO N (pLo P (pLa P (itE x)), pMo P v, -2, (pLa P (itE x) : Int), (s.2.2.1.length : Int) - 1, 2) := ⟨fun q => hl q.1, Or.inl rfl, fun q => absurd rfl q, by show (1 : Int) ≤ 2; omega, by show (-2 : Int) < (N : Int); omega⟩
  refine ⟨⟨?_, ?_, ?_, ?_, ?_⟩, ?_⟩
  · rw [hi, hl2, List.length_append, List.length_append]
    show s.1.length + 1 + 1 ≤ _
    omega
  · show 0 ≤ s.2.2.2 + 1
    omega
  · rw [hl2]
    show s.2.2.2 + 1 ≤ _
    omega
  · intro y hy
    rw [hl2]
    rw [hi] at hy
    rcases List.mem_append.mp hy with q | q
    · rcases List.mem_append.mp q with q | q
      · have := w4 y (by rw [e]; exact List.mem_append_left _ q)
        omega
      · have := List.mem_singleton.mp q
        subst this
        show 0 ≤ itN x - 1 ∧ itN x - 1 ≤ _
        have := hO.2.2.2.1
        omega
    · have := List.mem_singleton.mp q
      subst this
      show (0 : Int) ≤ 2 ∧ (2 : Int) ≤ _
      omega
  · intro y hy
    have : y = _ := (Option.some.inj hy).symm
    subst this
    exact ⟨hO'.1, hO'.2.1, hO'.2.2.1, fun q => by have := congrArg List.length q; rw [hl2] at this; exact absurd this (by simp)⟩
  · intro y hy
    have : y = _ := (Option.some.inj hy).symm
    subst this
    exact hO'
theorem kVow_ok {N : Nat} {P : zP} {c : Nat} {s : zMS} (hP : zPk P N) (hc : c < 26) (h3 : pSo P c = 3) (h : msX N s) : msX N (kVow P c s) := by
  unfold kVow
  obtain ⟨p1, p2, p3, p4, p5⟩ := hP.1 c hc
  have hv : msX N (kVnew P c s) := kNew_ok h rfl (fun q => p5 h3 q.2) rfl
  cases hs : s.2.1 with
  | none => exact hv
  | some x =>
    dsimp only
    obtain ⟨o1, o2, o3, o4, o5⟩ := h.2 x hs
    by_cases hl : itL x ≠ -2 ∧ itM x = -2
    · rw [if_pos hl]
      have he : itE x = -2 := Classical.byContradiction fun q => (o3 q).2 hl.2
      exact kJoin_ok h hs rfl (fun q => hl.1 q.1) (Or.inl he) (fun q => absurd he q) o5
    · rw [if_neg hl]
      by_cases he : itE x = -2
      · rw [if_neg (fun q => q he)]
        by_cases h0 : pVp P (itM x) c = -2
        · rw [if_pos h0]; exact hv
        · rw [if_neg h0]; exact kJoin_ok h hs rfl (fun q => h0 q.2) (Or.inl he) (fun q => absurd he q) o5
      · rw [if_pos he]
        by_cases h0 : pLo P (pLa P (itE x)) = -2
        · rw [if_pos h0]; exact hv
        · rw [if_neg h0]; exact kSteal_ok h hs h0
theorem kSign_ok {N : Nat} {P : zP} {sign : Int} {s : zMS} (hP : zPk P N) (h : msX N s) : msX N (kSign P sign s) := by
  unfold kSign
  by_cases h1 : 97 ≤ sign ∧ sign < 123 ∧ pSo P (sign - 97).toNat ≠ -1
  · rw [if_pos h1]
    by_cases h2 : pSo P (sign - 97).toNat = 4
    · rw [if_pos h2]; exact kAlone_ok h rfl
    · rw [if_neg h2]
      by_cases h3 : pSo P (sign - 97).toNat = 3
      · rw [if_pos h3]; exact kVow_ok hP (by omega) h3 h
      · rw [if_neg h3]; exact kCons_ok hP (by omega) h
  · rw [if_neg h1]; exact kBreak_ok h
