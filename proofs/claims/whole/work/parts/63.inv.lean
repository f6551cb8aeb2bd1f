theorem dOk_sort {D : zD} (h : dOk D) (k : Nat) : -1 ≤ dS D k ∧ dS D k ≤ 4 := by rcases h.2.2.2 k with r | r | r | r <;> omega
theorem kCons_I {D : zD} {xs : List Int} {s : zMS} {k : Nat} (hD : dOk D) (h : mInv D xs s) (hX : msX (dnE D) s) (hlen : s.2.2.1.length = xs.length) (hk : k < 26) (hs : dS D k ≠ -1) (h4 : dS D k ≠ 4) (h3 : dS D k ≠ 3) : mInv D (xs ++ [kk k]) (kCons (zPof D) k s) := by
  have hy : kk k ≠ 124 := by unfold kk; omega
  have cs : ∀ op, cSign (zPof D) (kk k) op = cCons (zPof D) k op := fun op => by rw [cSign_key hk hs, if_neg h4, if_neg h3]
  have fresh : mInv D (xs ++ [kk k]) (kFresh (zPof D) k s) := by
    unfold kFresh
    by_cases hl : pLo (zPof D) k = -2
    · rw [if_pos hl]
      refine mI_al h hy ⟨Or.inl rfl, Or.inl rfl, Or.inl rfl, ?_, ?_⟩ ?_ rfl ?_
      · show (0 : Int) ≤ (k : Int); omega
      · show (k : Int) < 26; omega
      · show (s.2.2.1.length : Int) = _; rw [hlen]
      · rw [cGo_one, cs, cEnd_al]
        show cFresh (zPof D) k = _
        unfold cFresh
        rw [if_pos hl]
        rfl
    · rw [if_neg hl]
      have nlr := (dNL_rng hD (k := k)).resolve_left hl
      refine mI_nw h hy ⟨Or.inr ⟨nlr.1, ?_⟩, Or.inl rfl, Or.inl rfl, ?_, ?_⟩ ?_ rfl rfl (fun q => hl q.1) ?_
      · show dNL D k < _; unfold dnL; omega
      · show (0 : Int) ≤ (k : Int); omega
      · show (k : Int) < 26; omega
      · show (s.2.2.1.length : Int) = _; rw [hlen]
      · rw [cGo_one, cs, cEnd_mk (fun q => hl q.1)]
        show cFresh (zPof D) k = _
        unfold cFresh
        rw [if_neg hl]
  unfold kCons
  cases ho : s.2.1 with
  | none => exact fresh
  | some x =>
    dsimp only
    obtain ⟨o1, o2, o3⟩ := h.2.2.2 x ho
    obtain ⟨xR, -⟩ := h.1 x (by rw [msI_some ho]; exact List.mem_append.mpr (Or.inr (List.mem_singleton.mpr rfl)))
    have oX := hX.2 x ho
    by_cases h1 : itL x = -2
    · rw [if_pos h1]; exact fresh
    · rw [if_neg h1]
      by_cases h2 : itM x = -2
      · rw [if_pos h2]
        have eE : itE x = -2 := by
          rcases xR.2.2.1 with q | q
          · exact q
          · exact absurd h2 q.2.2.2
        by_cases h5 : itL x = pLo (zPof D) k ∧ pTw (zPof D) k ≠ -2
        · rw [if_pos h5]
          have twr := (dTw_rng hD (k := k)).resolve_left h5.2
          refine mI_join h ho hy ⟨Or.inr ⟨?_, ?_⟩, Or.inl h2, Or.inl eE, xR.2.2.2⟩ (fun q => h5.2 q.1) rfl rfl ?_ (fun q => absurd eE q)
          · show 0 ≤ dTw D k; omega
          · show dTw D k < _; omega
          · rw [cs, cOf_open o2, cOf_mk (fun q => h5.2 q.1)]
            unfold cCons
            dsimp only
            rw [if_neg h1, if_pos h2, if_pos h5]
        · rw [if_neg h5]; exact fresh
      · rw [if_neg h2]
        by_cases h5 : (if itE x = -2 then pEo (zPof D) k else pEp (zPof D) (itE x) k) = -2
        · rw [if_pos h5]; exact fresh
        · rw [if_neg h5]
          have er : 0 < (if itE x = -2 then pEo (zPof D) k else pEp (zPof D) (itE x) k) ∧ (if itE x = -2 then pEo (zPof D) k else pEp (zPof D) (itE x) k) < (dnE D : Int) ∧ dCu D (if itE x = -2 then pEo (zPof D) k else pEp (zPof D) (itE x) k) = itE x ∧ dLa D (if itE x = -2 then pEo (zPof D) k else pEp (zPof D) (itE x) k) = k := by
            have pk := (dOk_Pk hD).1 k hk
            by_cases he : itE x = -2
            · rw [if_pos he] at h5 ⊢
              have inv := dNE_inv hD (k := k) h5
              exact ⟨pk.1.resolve_left h5, pk.2.2.1, by rw [he]; exact inv.2, inv.1⟩
            · rw [if_neg he] at h5 ⊢
              have inv := dEp_inv hD (x := itE x) (k := k) h5
              exact ⟨(pk.2.1 _).resolve_left h5, pk.2.2.2.1 _, inv.2, inv.1⟩
          refine mI_join h ho hy ⟨xR.1, xR.2.1, Or.inr ⟨er.1, er.2.1, h1, h2⟩, xR.2.2.2⟩ (fun q => h1 q.1) rfl rfl ?_ (fun q => ⟨rfl, rfl, er.2.2.1, ?_⟩)
          · rw [cs, cOf_open o2, cOf_mk (fun q => h1 q.1)]
            unfold cCons
            dsimp only
            rw [if_neg h1, if_neg h2, if_neg h5]
          · show kk k = kk (dLa D (if itE x = -2 then pEo (zPof D) k else pEp (zPof D) (itE x) k))
            rw [er.2.2.2]
theorem kVow_I {D : zD} {xs : List Int} {s : zMS} {k : Nat} (hD : dOk D) (h : mInv D xs s) (hX : msX (dnE D) s) (hlen : s.2.2.1.length = xs.length) (hk : k < 26) (h3 : dS D k = 3) : mInv D (xs ++ [kk k]) (kVow (zPof D) k s) := by
  have hy : kk k ≠ 124 := by unfold kk; omega
  have cs : ∀ op, cSign (zPof D) (kk k) op = cVow (zPof D) k op := fun op => by rw [cSign_key hk (by omega), if_neg (by omega), if_pos h3]
  have hm : dNM D k ≠ -2 := ((dOk_Pk hD).1 k hk).2.2.2.2 h3
  have nmr := (dNM_rng hD (k := k)).resolve_left hm
  have mr : dNM D k < (dnM D : Int) := by unfold dnM; omega
  have nw : mInv D (xs ++ [kk k]) (kVnew (zPof D) k s) := by
    refine mI_nw h hy ⟨Or.inl rfl, Or.inr ⟨nmr.1, mr⟩, Or.inl rfl, ?_, ?_⟩ ?_ rfl rfl (fun q => hm q.2) ?_
    · show (0 : Int) ≤ (k : Int); omega
    · show (k : Int) < 26; omega
    · show (s.2.2.1.length : Int) = _; rw [hlen]
    · rw [cGo_one, cs, cEnd_mk (show ¬ ((-2 : Int) = -2 ∧ pMo (zPof D) k = -2) from fun q => hm q.2)]
      rfl
  unfold kVow
  cases ho : s.2.1 with
  | none => exact nw
  | some x =>
    dsimp only
    obtain ⟨o1, o2, o3⟩ := h.2.2.2 x ho
    obtain ⟨xR, -⟩ := h.1 x (by rw [msI_some ho]; exact List.mem_append.mpr (Or.inr (List.mem_singleton.mpr rfl)))
    by_cases h1 : itL x ≠ -2 ∧ itM x = -2
    · rw [if_pos h1]
      have eE : itE x = -2 := by
        rcases xR.2.2.1 with q | q
        · exact q
        · exact absurd h1.2 q.2.2.2
      refine mI_join h ho hy ⟨xR.1, Or.inr ⟨nmr.1, mr⟩, Or.inl eE, xR.2.2.2⟩ (fun q => h1.1 q.1) rfl rfl ?_ (fun q => absurd eE q)
      rw [cs, cOf_open o2, cOf_mk (fun q => h1.1 q.1)]
      unfold cVow
      dsimp only
      rw [if_pos h1]
    · rw [if_neg h1]
      by_cases h2 : itE x ≠ -2
      · rw [if_pos h2]
        by_cases h5 : pLo (zPof D) (pLa (zPof D) (itE x)) = -2
        · rw [if_pos h5]; exact nw
        · rw [if_neg h5]
          exact mI_steal hD h hlen ho hk h3 rfl h2 h5
      · rw [if_neg h2]
        have eE : itE x = -2 := Classical.not_not.mp h2
        by_cases h5 : pVp (zPof D) (itM x) k = -2
        · rw [if_pos h5]; exact nw
        · rw [if_neg h5]
          have r : 0 ≤ dVp D (itM x) k ∧ dVp D (itM x) k < (dnM D : Int) := by
            rcases zwith_rng (es := dTM D) (ns := (dV D).length) (x := itM x) (key := kk k) (by rw [dTM_len]; unfold dnM; omega) with r | r
            · exact absurd r h5
            · rw [dTM_len] at r; unfold dVp; omega
          refine mI_join h ho hy ⟨xR.1, Or.inr r, Or.inl eE, xR.2.2.2⟩ (fun q => h5 q.2) rfl rfl ?_ (fun q => absurd eE q)
          rw [cs, cOf_open o2, cOf_mk (fun q => h5 q.2)]
          unfold cVow
          dsimp only
          rw [if_neg h1, if_neg h2, if_neg h5]
theorem kSign_I {D : zD} {xs : List Int} {s : zMS} {y : Int} (hD : dOk D) (h : mInv D xs s) (hX : msX (dnE D) s) (hlen : s.2.2.1.length = xs.length) (hy : gSg D y = true) : mInv D (xs ++ [y]) (kSign (zPof D) y s) := by
  by_cases h124 : y = 124
  · subst h124
    have e : kSign (zPof D) 124 s = kBreak s := if_neg (by omega)
    rw [e]
    obtain ⟨h1, h2, h3, h4⟩ := h
    have em : msI (kBreak s) = msI s := List.append_nil _
    refine ⟨by rw [em]; exact fun x hx => itOk_ext (h1 x hx), by rw [em]; exact adj_ext h1 h2, ?_, fun x hx => (by cases hx)⟩
    rw [em]
    intro x hx j q1 q2
    by_cases hj : j < xs.length
    · rw [getD_app hj]; exact h3 x hx j q1 hj
    · rw [List.length_append] at q2
      have q2 : j < xs.length + 1 := q2
      have : j = xs.length := by omega
      rw [this, getD_end]
  · obtain ⟨k, hk, rfl, hs⟩ := gSg_key hy h124
    rw [kSign_key hk hs]
    by_cases h4 : dS D k = 4
    · rw [if_pos h4]
      refine mI_al h h124 ⟨Or.inl rfl, Or.inl rfl, Or.inl rfl, ?_, ?_⟩ ?_ rfl ?_
      · show (0 : Int) ≤ (k : Int); omega
      · show (k : Int) < 26; omega
      · show (s.2.2.1.length : Int) = _; rw [hlen]
      · rw [cGo_one, cSign_key hk hs, if_pos h4, cEnd_al]
        rfl
    · rw [if_neg h4]
      by_cases h3 : dS D k = 3
      · rw [if_pos h3]; exact kVow_I hD h hX hlen hk h3
      · rw [if_neg h3]; exact kCons_I hD h hX hlen hk hs h4 h3
theorem kRun_I {D : zD} {R : List Int} (hD : dOk D) (hR : ∀ x ∈ R, gSg D x = true) : mInv D R (kRun (zPof D) R) := by
  have gen : ∀ (ys xs : List Int) (s : zMS), mInv D xs s → msX (dnE D) s → s.2.2.1.length = xs.length → (∀ x ∈ ys, gSg D x = true) → mInv D (xs ++ ys) (kGo (zPof D) ys s) := by
    intro ys
    induction ys with
    | nil => intro xs s h _ _ _; rw [List.append_nil]; exact h
    | cons y t ih =>
      intro xs s h hX hl hy
      have := ih (xs ++ [y]) (kSign (zPof D) y s) (kSign_I hD h hX hl (hy y List.mem_cons_self)) (kSign_ok (dOk_Pk hD) hX) (by rw [kSign_len hX.1, hl, List.length_append]; rfl) (fun x hx => hy x (List.mem_cons_of_mem _ hx))
      rw [List.append_assoc] at this
      exact this
  exact gen R [] ms0 mInv_0 ms0_ok rfl hR
