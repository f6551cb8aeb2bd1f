theorem nd1 {α : Type} {x : α} : [x].Nodup := List.nodup_cons.mpr ⟨fun h => (by cases h), List.nodup_nil⟩
theorem pBody_f {xs : List Int} {ln : Int} {e pl : Nat} {D : zD} {f : Int} (h : pBody xs ln e D = .inl (f, pl)) : 1 ≤ f ∧ f ≤ 2 := by
  unfold pBody at h
  repeat' split at h
  all_goals first | (cases h; omega) | cases h
theorem pLine_f {xs : List Int} {e pl : Nat} {D : zD} {f : Int} (h : pLine xs e D = .inl (f, pl)) : 1 ≤ f ∧ f ≤ 3 := by
  unfold pLine at h
  split at h
  · cases h; omega
  · split at h
    · cases h; omega
    · have := pBody_f h; omega
theorem pBody_e {xs : List Int} {ln : Int} {e e' : Nat} {D D' : zD} (he : e ≤ xs.length) (h : pBody xs ln e D = .inr (D', e')) : e ≤ e' ∧ e' ≤ xs.length := by
  have h1 := tkS_le he
  have h2 := tkE_le h1.2
  have h3 := tkS_le h2.2.1
  have h4 := tkE_le h3.2
  unfold pBody at h
  repeat' split at h
  all_goals first | (cases h; omega) | cases h
theorem pLine_e {xs : List Int} {e e' : Nat} {D D' : zD} (he : e ≤ xs.length) (h : pLine xs e D = .inr (D', e')) : e < e' ∧ e' ≤ xs.length := by
  have h1 := tkS_le he
  have h2 := tkE_le h1.2
  unfold pLine at h
  split at h
  · cases h
  · rename_i hk
    split at h
    · cases h
    · have h3 := pBody_e h2.2.1 h
      by_cases hs : tkS xs e < xs.length
      · have := h2.2.2 hs; omega
      · exfalso
        apply hk
        have e0 : pWd xs e = [] := by
          unfold pWd
          rw [List.drop_eq_nil_of_le (by omega), List.take_nil]
        rw [e0]
        decide
theorem dOk_tell {D : zD} {ln : Int} {k : Nat} (h : dOk D) (hl : 0 ≤ ln ∧ ln ≤ 4) (hk : k < 26) (hs : dS D k = -1) (hf : dFull D ln = false) : dOk (dTell D ln k) := by
  have hlt := dFull_lt hf
  rw [List.length_map, List.length_map, List.length_map, List.length_map] at hlt
  obtain ⟨⟨a1, a2, a3, a4, a5⟩, ⟨n1, n2, n3, n4, n5⟩, ⟨l1, l2, l3, l4, l5⟩, hS⟩ := h
  have nC : k ∉ dC D := fun q => by have := (a1 k q).2.1; omega
  have nV : k ∉ dV D := fun q => by have := (a2 k q).2; omega
  have nO : k ∉ dO D := fun q => by have := (a3 k q).2; omega
  have sne : ∀ j, j ≠ k → dS (dTell D ln k) j = dS D j := fun j hj => by show (if j = k then ln else dS D j) = _; rw [if_neg hj]
  have sk : dS (dTell D ln k) k = ln := by show (if k = k then ln else dS D k) = _; rw [if_pos rfl]
  have eC : dC (dTell D ln k) = if ln = 3 ∨ ln = 4 then dC D else dC D ++ [k] := rfl
  have eV : dV (dTell D ln k) = if ln = 3 then dV D ++ [k] else dV D := rfl
  have eO : dO (dTell D ln k) = if ln = 4 then dO D ++ [k] else dO D := rfl
  have eT : dT (dTell D ln k) = dT D := rfl
  have eP : dP (dTell D ln k) = dP D := rfl
  have cl : ∀ j, j ≠ k → cLe (dTell D ln k) j = cLe D j := fun j hj => by unfold cLe; rw [sne j hj]
  have cf : ∀ j, j ≠ k → cFi (dTell D ln k) j = cFi D j := fun j hj => by unfold cFi; rw [sne j hj]
  have cv : ∀ j, j ≠ k → cVo (dTell D ln k) j = cVo D j := fun j hj => by unfold cVo; rw [sne j hj]
  have kl : cLe D k = false := by unfold cLe; rw [hs]; rfl
  have kf : cFi D k = false := by unfold cFi; rw [hs]; rfl
  have kv : cVo D k = false := by unfold cVo; rw [hs]; rfl
  refine ⟨⟨fun j hj => ?_, fun j hj => ?_, fun j hj => ?_, fun j hj => ?_, fun q hq => ?_⟩, ⟨?_, ?_, ?_, n4, n5⟩, ⟨?_, ?_, ?_, l4, l5⟩, fun j => ?_⟩
  · rw [eC] at hj
    by_cases e : j = k
    · subst e
      by_cases h34 : ln = 3 ∨ ln = 4
      · rw [if_pos h34] at hj; exact absurd hj nC
      · rw [sk]; exact ⟨hk, by omega⟩
    · rw [sne j e]
      split at hj
      · exact a1 j hj
      · rcases List.mem_append.mp hj with hj | hj
        · exact a1 j hj
        · exact absurd (List.mem_singleton.mp hj) e
  · rw [eV] at hj
    by_cases e : j = k
    · subst e
      by_cases h3 : ln = 3
      · rw [sk]; exact ⟨hk, h3⟩
      · rw [if_neg h3] at hj; exact absurd hj nV
    · rw [sne j e]
      split at hj
      · rcases List.mem_append.mp hj with hj | hj
        · exact a2 j hj
        · exact absurd (List.mem_singleton.mp hj) e
      · exact a2 j hj
  · rw [eO] at hj
    by_cases e : j = k
    · subst e
      by_cases h3 : ln = 4
      · rw [sk]; exact ⟨hk, h3⟩
      · rw [if_neg h3] at hj; exact absurd hj nO
    · rw [sne j e]
      split at hj
      · rcases List.mem_append.mp hj with hj | hj
        · exact a3 j hj
        · exact absurd (List.mem_singleton.mp hj) e
      · exact a3 j hj
  · have := a4 j hj
    have e : j ≠ k := fun e => by rw [e, kl] at this; cases this.2
    rw [cl j e]; exact this
  · obtain ⟨q1, q2, q3⟩ := a5 q hq
    have e1 : q.1 ≠ k := fun e => by rw [e, kf, kv] at q3; rcases q3 with q3 | q3 <;> cases q3.1
    have e2 : q.2 ≠ k := fun e => by rw [e, kf, kv] at q3; rcases q3 with q3 | q3 <;> cases q3.2
    rw [cv _ e1, cv _ e2, cf _ e1, cf _ e2]
    exact ⟨q1, q2, q3⟩
  · rw [eC]
    split
    · exact n1
    · exact List.nodup_append.mpr ⟨n1, nd1, fun a ha b hb e => nC (by rw [List.mem_singleton] at hb; rw [← hb, ← e]; exact ha)⟩
  · rw [eV]
    split
    · exact List.nodup_append.mpr ⟨n2, nd1, fun a ha b hb e => nV (by rw [List.mem_singleton] at hb; rw [← hb, ← e]; exact ha)⟩
    · exact n2
  · rw [eO]
    split
    · exact List.nodup_append.mpr ⟨n3, nd1, fun a ha b hb e => nO (by rw [List.mem_singleton] at hb; rw [← hb, ← e]; exact ha)⟩
    · exact n3
  · rw [eC]
    split
    · exact l1
    · rename_i h34
      have := hlt.2.2.2.2 (by omega)
      rw [List.length_append]; show _ + 1 ≤ 10; omega
  · rw [eV]
    split
    · rename_i h3
      have := hlt.1 h3
      rw [List.length_append]; show _ + 1 ≤ 8; omega
    · exact l2
  · rw [eO]
    split
    · rename_i h3
      have := hlt.2.1 h3
      rw [List.length_append]; show _ + 1 ≤ 4; omega
    · exact l3
  · by_cases e : j = k
    · subst e
      rw [sk, eC, eV, eO]
      by_cases h3 : ln = 3
      · rw [if_pos h3]; exact Or.inr (Or.inr (Or.inl ⟨h3, List.mem_append.mpr (Or.inr (List.mem_singleton.mpr rfl))⟩))
      · by_cases h4 : ln = 4
        · rw [if_pos (show ln = 4 from h4)]; exact Or.inr (Or.inr (Or.inr ⟨h4, List.mem_append.mpr (Or.inr (List.mem_singleton.mpr rfl))⟩))
        · rw [if_neg (show ¬ (ln = 3 ∨ ln = 4) by omega)]; exact Or.inr (Or.inl ⟨by omega, by omega, List.mem_append.mpr (Or.inr (List.mem_singleton.mpr rfl))⟩)
    · rw [sne j e, eC, eV, eO]
      rcases hS j with h | ⟨h1, h2, h3⟩ | ⟨h1, h2⟩ | ⟨h1, h2⟩
      · exact Or.inl h
      · exact Or.inr (Or.inl ⟨h1, h2, by split; exact h3; exact List.mem_append.mpr (Or.inl h3)⟩)
      · exact Or.inr (Or.inr (Or.inl ⟨h1, by split; exact List.mem_append.mpr (Or.inl h2); exact h2⟩))
      · exact Or.inr (Or.inr (Or.inr ⟨h1, by split; exact List.mem_append.mpr (Or.inl h2); exact h2⟩))
theorem dOk_twin {D : zD} {k : Nat} (h : dOk D) (hk : k < 26) (hc : cLe D k = true) (hn : k ∉ dT D) (hf : dFull D 5 = false) : dOk (dTwin D k) := by
  have hlt := (dFull_lt hf).2.2.1 rfl
  rw [List.length_map] at hlt
  obtain ⟨⟨a1, a2, a3, a4, a5⟩, ⟨n1, n2, n3, n4, n5⟩, ⟨l1, l2, l3, l4, l5⟩, hS⟩ := h
  refine ⟨⟨a1, a2, a3, fun j hj => ?_, a5⟩, ⟨n1, n2, n3, ?_, n5⟩, ⟨l1, l2, l3, ?_, l5⟩, hS⟩
  · rcases List.mem_append.mp (show j ∈ dT D ++ [k] from hj) with hj | hj
    · exact a4 j hj
    · rw [List.mem_singleton.mp hj]; exact ⟨hk, hc⟩
  · exact List.nodup_append.mpr ⟨n4, nd1, fun a ha b hb e => hn (by rw [List.mem_singleton] at hb; rw [← hb, ← e]; exact ha)⟩
  · show (dT D ++ [k]).length ≤ 4
    rw [List.length_append]; show _ + 1 ≤ 4; omega
theorem dOk_pair {D : zD} {q : Nat × Nat} (h : dOk D) (h1 : q.1 < 26) (h2 : q.2 < 26) (hc : (cVo D q.1 = true ∧ cVo D q.2 = true) ∨ (cFi D q.1 = true ∧ cFi D q.2 = true)) (hn : q ∉ dP D) (hf : dFull D 6 = false) : dOk (dPair D q) := by
  have hlt := (dFull_lt hf).2.2.2.1 rfl
  obtain ⟨⟨a1, a2, a3, a4, a5⟩, ⟨n1, n2, n3, n4, n5⟩, ⟨l1, l2, l3, l4, l5⟩, hS⟩ := h
  refine ⟨⟨a1, a2, a3, a4, fun j hj => ?_⟩, ⟨n1, n2, n3, n4, ?_⟩, ⟨l1, l2, l3, l4, ?_⟩, hS⟩
  · rcases List.mem_append.mp (show j ∈ dP D ++ [q] from hj) with hj | hj
    · exact a5 j hj
    · rw [List.mem_singleton.mp hj]; exact ⟨h1, h2, hc⟩
  · exact List.nodup_append.mpr ⟨n5, nd1, fun a ha b hb e => hn (by rw [List.mem_singleton] at hb; rw [← hb, ← e]; exact ha)⟩
  · show (dP D ++ [q]).length ≤ 8
    rw [List.length_append]; show _ + 1 ≤ 8; omega
theorem pBody_ok {xs : List Int} {ln : Int} {e e' : Nat} {D D' : zD} (hD : dOk D) (hl : 0 ≤ ln ∧ ln ≤ 6) (hf : dFull D ln = false) (h : pBody xs ln e D = .inr (D', e')) : dOk D' := by
  unfold pBody at h
  split at h
  · cases h
  · rename_i hk
    have hk1 := kAt_kk (isK_iff.mp (Bool.not_eq_false _ ▸ hk)).2
    split at h
    · rename_i h5
      subst h5
      split at h
      · rename_i hc
        cases h
        exact dOk_twin hD hk1.2 hc.1 hc.2 hf
      · cases h
    · rename_i n5
      split at h
      · rename_i h6
        subst h6
        split at h
        · cases h
        · rename_i hvf
          split at h
          · cases h
          · rename_i hk2
            have hk2 := kAt_kk (isK_iff.mp (Bool.not_eq_false _ ▸ hk2)).2
            by_cases hc : (if cVo D (kAt xs (tkS xs e)) = true then cVo D (kAt xs (tkS xs (tkE xs (tkS xs e)))) else cFi D (kAt xs (tkS xs (tkE xs (tkS xs e))))) = true ∧ (kAt xs (tkS xs e), kAt xs (tkS xs (tkE xs (tkS xs e)))) ∉ dP D
            · rw [if_pos hc] at h
              cases h
              refine dOk_pair hD hk1.2 hk2.2 ?_ hc.2 hf
              by_cases hv : cVo D (kAt xs (tkS xs e)) = true
              · rw [if_pos hv] at hc
                exact Or.inl ⟨hv, hc.1⟩
              · rw [if_neg hv] at hc
                refine Or.inr ⟨?_, hc.1⟩
                have hv' : cVo D (kAt xs (tkS xs e)) = false := Bool.not_eq_true _ ▸ hv
                cases hcf : cFi D (kAt xs (tkS xs e)) with
                | true => rfl
                | false => exact absurd ⟨hv', hcf⟩ hvf
            · rw [if_neg hc] at h; cases h
      · rename_i n6
        split at h
        · rename_i hs
          cases h
          exact dOk_tell hD (by omega) hk1.2 hs hf
        · cases h
theorem pLine_ok {xs : List Int} {e e' : Nat} {D D' : zD} (hD : dOk D) (h : pLine xs e D = .inr (D', e')) : dOk D' := by
  unfold pLine at h
  split at h
  · cases h
  · rename_i h1
    split at h
    · cases h
    · rename_i hf
      have := kwd_rng (w := pWd xs e)
      exact pBody_ok hD (by omega) (Bool.not_eq_true _ ▸ hf) h
theorem dOk_0 : dOk dD0 := ⟨⟨fun k hk => (by cases hk), fun k hk => (by cases hk), fun k hk => (by cases hk), fun k hk => (by cases hk), fun k hk => (by cases hk)⟩, ⟨List.nodup_nil, List.nodup_nil, List.nodup_nil, List.nodup_nil, List.nodup_nil⟩, ⟨by decide, by decide, by decide, by decide, by decide⟩, fun k => Or.inl rfl⟩
