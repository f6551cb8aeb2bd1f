def gIn (D : zD) (xs : List Int) (s : zMS) : Prop := gInv D xs s ∧ ∀ x, s.2.1 = some x → itE x ≠ -2 → 3 ≤ itN x
theorem gI_nw {D : zD} {xs : List Int} {y : Int} {s : zMS} {x : zIt} {role : Int} (h : mInv D xs s) (hg : gInv D xs s) (hF : itF x = (xs.length : Int)) (hN : itN x = 1) (hE : itE x = -2) (hLM : itL x = -2 ∨ itM x = -2) (hnew : ∀ w, s.2.1 = some w → cSign (zPof D) y (some (cOf w)) = cPut (cOf w) (cSign (zPof D) y none)) : gIn D (xs ++ [y]) (kNew s x role) := by
  obtain ⟨q1, q2⟩ := gI_new h hg hF hN hLM hnew
  refine ⟨⟨q1, q2, fun q => (by cases q)⟩, fun z hz q => ?_⟩
  have hz : some x = some z := hz
  cases hz
  exact absurd hE q
theorem gI_al {D : zD} {xs : List Int} {y : Int} {s : zMS} {x : zIt} (h : mInv D xs s) (hg : gInv D xs s) (hF : itF x = (xs.length : Int)) (hN : itN x = 1) (hL : itL x = -2) (hM : itM x = -2) (hnew : ∀ w, s.2.1 = some w → cSign (zPof D) y (some (cOf w)) = cPut (cOf w) (cSign (zPof D) y none)) : gIn D (xs ++ [y]) (kAlone s x) := by
  obtain ⟨q1, q2⟩ := gI_new h hg hF hN (Or.inl hL) hnew
  have em : msI (kAlone s x) = msI s ++ [x] := List.append_nil _
  refine ⟨⟨by rw [em]; exact q1, by rw [em]; exact q2, fun _ z hz => ?_⟩, fun z hz => (by cases hz)⟩
  rw [em, List.getLast?_concat] at hz
  cases hz
  exact Or.inl ⟨hL, hM⟩
theorem kCons_G {D : zD} {xs : List Int} {s : zMS} {k : Nat} (h : mInv D xs s) (hg : gIn D xs s) (hlen : s.2.2.1.length = xs.length) (hk : k < 26) (hs : dS D k ≠ -1) (h4 : dS D k ≠ 4) (h3 : dS D k ≠ 3) : gIn D (xs ++ [kk k]) (kCons (zPof D) k s) := by
  have cs : ∀ op, cSign (zPof D) (kk k) op = cCons (zPof D) k op := fun op => by rw [cSign_key hk hs, if_neg h4, if_neg h3]
  have fresh : (∀ w, s.2.1 = some w → cCons (zPof D) k (some (cOf w)) = cPut (cOf w) (cFresh (zPof D) k)) → gIn D (xs ++ [kk k]) (kFresh (zPof D) k s) := by
    intro hn
    unfold kFresh
    by_cases hl : pLo (zPof D) k = -2
    · rw [if_pos hl]
      exact gI_al h hg.1 (by show (s.2.2.1.length : Int) = _; rw [hlen]) rfl rfl rfl (fun w hw => by rw [cs, cs]; exact hn w hw)
    · rw [if_neg hl]
      exact gI_nw h hg.1 (by show (s.2.2.1.length : Int) = _; rw [hlen]) rfl rfl (Or.inr rfl) (fun w hw => by rw [cs, cs]; exact hn w hw)
  unfold kCons
  cases ho : s.2.1 with
  | none => exact fresh (fun w hw => by rw [ho] at hw; cases hw)
  | some x =>
    dsimp only
    obtain ⟨o1, o2, o3⟩ := h.2.2.2 x ho
    have hxm : x ∈ msI s := by rw [msI_some ho]; exact List.mem_append.mpr (Or.inr (List.mem_singleton.mpr rfl))
    obtain ⟨xR, -⟩ := h.1 x hxm
    have jn : ∀ (x' : zIt) (role : Int), itF x' = itF x → itN x' = itN x + 1 → (itE x' ≠ -2 → 2 ≤ itN x) → gIn D (xs ++ [kk k]) (kJoin s x' role) := fun x' role q1 q2 q3 => ⟨gI_join h hg.1 ho q1 q2 (fun _ => trivial), fun z hz q => by
      have hz : some x' = some z := hz
      cases hz
      have := q3 q
      omega⟩
    have fr : cCons (zPof D) k (some (cOf x)) = cPut (cOf x) (cFresh (zPof D) k) → gIn D (xs ++ [kk k]) (kFresh (zPof D) k s) := fun q => fresh (fun w hw => by rw [ho] at hw; cases hw; exact q)
    rw [cOf_open o2] at fr
    unfold cCons at fr
    dsimp only at fr
    by_cases h1 : itL x = -2
    · rw [if_pos h1] at fr ⊢; exact fr rfl
    · rw [if_neg h1] at fr ⊢
      by_cases h2 : itM x = -2
      · rw [if_pos h2] at fr ⊢
        have eE : itE x = -2 := by
          rcases xR.2.2.1 with q | q
          · exact q
          · exact absurd h2 q.2.2.2
        by_cases h5 : itL x = pLo (zPof D) k ∧ pTw (zPof D) k ≠ -2
        · rw [if_pos h5]; exact jn _ _ rfl rfl (fun q => absurd eE q)
        · rw [if_neg h5] at fr ⊢; exact fr rfl
      · rw [if_neg h2] at fr ⊢
        by_cases h5 : (if itE x = -2 then pEo (zPof D) k else pEp (zPof D) (itE x) k) = -2
        · rw [if_pos h5] at fr ⊢; exact fr rfl
        · rw [if_neg h5]; exact jn _ _ rfl rfl (fun _ => hg.1.1 x hxm h1 h2)
theorem kVow_G {D : zD} {xs : List Int} {s : zMS} {k : Nat} (hD : dOk D) (h : mInv D xs s) (hg : gIn D xs s) (hlen : s.2.2.1.length = xs.length) (hk : k < 26) (h3 : dS D k = 3) : gIn D (xs ++ [kk k]) (kVow (zPof D) k s) := by
  have cs : ∀ op, cSign (zPof D) (kk k) op = cVow (zPof D) k op := fun op => by rw [cSign_key hk (by omega), if_neg (by omega), if_pos h3]
  have nw : (∀ w, s.2.1 = some w → cVow (zPof D) k (some (cOf w)) = cPut (cOf w) ([], some (-2, pMo (zPof D) k, -2, -2))) → gIn D (xs ++ [kk k]) (kVnew (zPof D) k s) := by
    intro hn
    exact gI_nw h hg.1 (by show (s.2.2.1.length : Int) = _; rw [hlen]) rfl rfl (Or.inl rfl) (fun w hw => by rw [cs, cs]; exact hn w hw)
  unfold kVow
  cases ho : s.2.1 with
  | none => exact nw (fun w hw => by rw [ho] at hw; cases hw)
  | some x =>
    dsimp only
    obtain ⟨o1, o2, o3⟩ := h.2.2.2 x ho
    have hxm : x ∈ msI s := by rw [msI_some ho]; exact List.mem_append.mpr (Or.inr (List.mem_singleton.mpr rfl))
    obtain ⟨xR, -⟩ := h.1 x hxm
    have jn : ∀ (x' : zIt) (role : Int), itF x' = itF x → itN x' = itN x + 1 → itE x' = -2 → gIn D (xs ++ [kk k]) (kJoin s x' role) := fun x' role q1 q2 q3 => ⟨gI_join h hg.1 ho q1 q2 (fun _ => trivial), fun z hz q => by
      have hz : some x' = some z := hz
      cases hz
      exact absurd q3 q⟩
    have fr : cVow (zPof D) k (some (cOf x)) = cPut (cOf x) ([], some (-2, pMo (zPof D) k, -2, -2)) → gIn D (xs ++ [kk k]) (kVnew (zPof D) k s) := fun q => nw (fun w hw => by rw [ho] at hw; cases hw; exact q)
    rw [cOf_open o2] at fr
    unfold cVow at fr
    dsimp only at fr
    by_cases h1 : itL x ≠ -2 ∧ itM x = -2
    · rw [if_pos h1]
      have eE : itE x = -2 := by
        rcases xR.2.2.1 with q | q
        · exact q
        · exact absurd h1.2 q.2.2.2
      exact jn _ _ rfl rfl eE
    · rw [if_neg h1] at fr ⊢
      by_cases h2 : itE x ≠ -2
      · rw [if_pos h2] at fr ⊢
        by_cases h5 : pLo (zPof D) (pLa (zPof D) (itE x)) = -2
        · rw [if_pos h5] at fr ⊢; exact fr rfl
        · rw [if_neg h5]
          refine ⟨gI_steal hD h hg.1 hlen ho hk h3 rfl h2 h5 (hg.2 x ho h2), fun z hz q => ?_⟩
          have hz : some (dNL D (dLa D (itE x)), dNM D k, (-2 : Int), (dLa D (itE x) : Int), (s.2.2.1.length : Int) - 1, (2 : Int)) = some z := hz
          cases hz
          exact absurd rfl q
      · rw [if_neg h2] at fr ⊢
        have eE : itE x = -2 := Classical.not_not.mp h2
        by_cases h5 : pVp (zPof D) (itM x) k = -2
        · rw [if_pos h5] at fr ⊢; exact fr rfl
        · rw [if_neg h5]; exact jn _ _ rfl rfl eE
theorem kSign_G {D : zD} {xs : List Int} {s : zMS} {y : Int} (hD : dOk D) (h : mInv D xs s) (hg : gIn D xs s) (hlen : s.2.2.1.length = xs.length) (hy : gSg D y = true) : gIn D (xs ++ [y]) (kSign (zPof D) y s) := by
  by_cases h124 : y = 124
  · subst h124
    have e : kSign (zPof D) 124 s = kBreak s := if_neg (by omega)
    rw [e]
    have em : msI (kBreak s) = msI s := List.append_nil _
    refine ⟨⟨by rw [em]; exact hg.1.1, by rw [em]; exact adjR_mono hg.1.2.1 (fun a b ha hb => glu_ext (h.1 a ha) (h.1 b hb)), fun _ x hx => ?_⟩, fun x hx => (by cases hx)⟩
    rw [em] at hx
    obtain ⟨-, f, n, a1, a2, a3, a4, -⟩ := h.1 x (last_mem hx)
    right
    rw [List.length_append]
    show _ < ((xs.length + 1 : Nat) : Int)
    omega
  · obtain ⟨k, hk, rfl, hs⟩ := gSg_key hy h124
    rw [kSign_key hk hs]
    by_cases h4 : dS D k = 4
    · rw [if_pos h4]
      refine gI_al h hg.1 (by show (s.2.2.1.length : Int) = _; rw [hlen]) rfl rfl rfl (fun w hw => ?_)
      rw [cSign_key hk hs, cSign_key hk hs, if_pos h4, if_pos h4]
      rfl
    · rw [if_neg h4]
      by_cases h3 : dS D k = 3
      · rw [if_pos h3]; exact kVow_G hD h hg hlen hk h3
      · rw [if_neg h3]; exact kCons_G h hg hlen hk hs h4 h3
theorem kRun_G {D : zD} {R : List Int} (hD : dOk D) (hR : ∀ x ∈ R, gSg D x = true) : gIn D R (kRun (zPof D) R) := by
  have gen : ∀ (ys xs : List Int) (s : zMS), mInv D xs s → gIn D xs s → msX (dnE D) s → s.2.2.1.length = xs.length → (∀ x ∈ ys, gSg D x = true) → gIn D (xs ++ ys) (kGo (zPof D) ys s) := by
    intro ys
    induction ys with
    | nil => intro xs s _ h _ _ _; rw [List.append_nil]; exact h
    | cons y t ih =>
      intro xs s h hg hX hl hy
      have := ih (xs ++ [y]) (kSign (zPof D) y s) (kSign_I hD h hX hl (hy y List.mem_cons_self)) (kSign_G hD h hg hl (hy y List.mem_cons_self)) (kSign_ok (dOk_Pk hD) hX) (by rw [kSign_len hX.1, hl, List.length_append]; rfl) (fun x hx => hy x (List.mem_cons_of_mem _ hx))
      rw [List.append_assoc] at this
      exact this
  exact gen R [] ms0 mInv_0 ⟨gInv_0, fun x hx => (by cases hx)⟩ ms0_ok rfl hR
/-- two ITEMS without a BREAK between them: their KEYS alone make them -/
theorem glu_its {D : zD} {xs : List Int} {w x : zIt} (hw : itOk D xs w) (hx : itOk D xs x) (hg : glu D xs w x) (hgap : itF w + itN w = itF x) : cIts (zPof D) (kys xs w ++ kys xs x) = [cOf w, cOf x] := by
  obtain ⟨p, p1, p2, p3, p4⟩ := hg hgap
  have e1 : kys xs w ++ kys xs x = (kys xs w ++ (kys xs x).take p) ++ (kys xs x).drop p := by rw [List.append_assoc, List.take_append_drop]
  have e2 := cGo_kys hx
  rw [← List.take_append_drop p (kys xs x), cGo_app] at e2
  unfold cIts
  rw [e1, cGo_app, p4]
  dsimp only
  generalize hA : cGo (zPof D) ((kys xs x).take p) none = A at *
  generalize hB : cGo (zPof D) ((kys xs x).drop p) A.2 = B at *
  have e3 : A.1 ++ B.1 = (cEnd x).1 ∧ B.2 = (cEnd x).2 := ⟨by rw [← e2], by rw [← e2]⟩
  rw [List.cons_append, e3.1, e3.2]
  unfold cEnd
  split <;> rfl
