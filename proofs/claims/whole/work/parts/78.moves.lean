/-! states of the counting -/
def stC (st : Nat) : zCo := if st < 15 then (((st - 1 : Nat) : Int), -2, -2, -2) else if st < 31 then (-2, ((st - 15 : Nat) : Int), -2, -2) else if st < 47 then (0, ((st - 31 : Nat) : Int), -2, -2) else if st = 47 then (0, 0, -2, -2) else (0, 0, ((st - 47 : Nat) : Int), -2)
def stO (st : Nat) : Option zCo := if st = 0 then none else some (stC st)
def stN (op : Option zCo) : Nat := match op with
  | none => 0
  | some o => if o.1 = -2 then 15 + o.2.1.toNat else if o.2.1 = -2 then 1 + o.1.toNat else if o.2.2.1 = -2 then 31 + o.2.1.toNat else 47 + o.2.2.1.toNat
def zcn (s : zCs) : Nat := s.1.length + s.2.toList.length
theorem tFr_c {D : zD} {k : Nat} (hD : dOk D) (h4 : dS D k ≠ 4) (h3 : dS D k ≠ 3) : stN (cFresh (zPof D) k).2 = (tFr (zPof D) k).1 ∧ zcn (cFresh (zPof D) k) = 1 ∧ (tFr (zPof D) k).2 = 1 := by
  unfold cFresh tFr
  have hp : pSo (zPof D) k = dS D k := rfl
  rw [hp, if_neg h3]
  by_cases hl : pLo (zPof D) k = -2
  · rw [if_pos hl, if_neg (fun q => q hl)]
    exact ⟨rfl, rfl, rfl⟩
  · rw [if_neg hl, if_pos hl]
    refine ⟨?_, rfl, rfl⟩
    show (if pLo (zPof D) k = -2 then _ else _) = _
    rw [if_neg hl, if_pos rfl]
theorem tMv_0 {D : zD} {k : Nat} (hD : dOk D) (hk : k < 26) (hs : dS D k ≠ -1) : stN (cSign (zPof D) (kk k) none).2 = (tMv (zPof D) 0 k).1 ∧ zcn (cSign (zPof D) (kk k) none) = (tMv (zPof D) 0 k).2 := by
  have e0 : tMv (zPof D) 0 k = tFr (zPof D) k := by unfold tMv; rw [if_neg (by omega), if_neg (by omega), if_neg (by omega), if_neg (by omega)]
  rw [cSign_key hk hs, e0]
  have hp : pSo (zPof D) k = dS D k := rfl
  by_cases h4 : dS D k = 4
  · rw [if_pos h4]
    have hl : pLo (zPof D) k = -2 := by
      rcases dNL_rng hD (k := k) with r | r
      · exact r
      · have := cLe_s ((dLe_mem hD).mp r.2.2); omega
    unfold tFr
    rw [hp, if_neg (by omega), if_neg (fun q => q hl)]
    exact ⟨rfl, rfl⟩
  · rw [if_neg h4]
    by_cases h3 : dS D k = 3
    · rw [if_pos h3]
      unfold tFr
      rw [hp, if_pos h3]
      exact ⟨rfl, rfl⟩
    · rw [if_neg h3]
      obtain ⟨f1, f2, f3⟩ := tFr_c hD h4 h3
      exact ⟨f1, by rw [f3]; exact f2⟩
theorem tMv_s {D : zD} {st k : Nat} (hD : dOk D) (h0 : st ≠ 0) (h47 : st ≠ 47) (hk : k < 26) (hs : dS D k ≠ -1) : stN (cSign (zPof D) (kk k) (some (stC st))).2 = (tMv (zPof D) st k).1 ∧ zcn (cSign (zPof D) (kk k) (some (stC st))) = (tMv (zPof D) st k).2 + 1 := by
  rw [cSign_key hk hs]
  have hp : pSo (zPof D) k = dS D k := rfl
  have pk := (dOk_Pk hD).1 k hk
  -- an OLD KEY, or one that begins anew
  have old : dS D k = 4 → stN (none : Option zCo) = (tFr (zPof D) k).1 ∧ (tFr (zPof D) k).2 = 1 := fun h4 => by
    have hl : pLo (zPof D) k = -2 := by
      rcases dNL_rng hD (k := k) with r | r
      · exact r
      · have := cLe_s ((dLe_mem hD).mp r.2.2); omega
    unfold tFr
    rw [hp, if_neg (by omega), if_neg (fun q => q hl)]
    exact ⟨rfl, rfl⟩
  have vnew : ∀ o : zCo, dS D k = 3 → stN (some ((-2 : Int), pMo (zPof D) k, (-2 : Int), (-2 : Int))) = (tFr (zPof D) k).1 ∧ zcn ([o], some ((-2 : Int), pMo (zPof D) k, (-2 : Int), (-2 : Int))) = (tFr (zPof D) k).2 + 1 := fun o h3 => by
    unfold tFr
    rw [hp, if_pos h3]
    exact ⟨rfl, rfl⟩
  have fr : ∀ o : zCo, dS D k ≠ 4 → dS D k ≠ 3 → stN (cPut o (cFresh (zPof D) k)).2 = (tFr (zPof D) k).1 ∧ zcn (cPut o (cFresh (zPof D) k)) = (tFr (zPof D) k).2 + 1 := fun o h4 h3 => by
    obtain ⟨f1, f2, f3⟩ := tFr_c hD h4 h3
    refine ⟨f1, ?_⟩
    rw [f3]
    unfold zcn at f2 ⊢
    show (o :: (cFresh (zPof D) k).1).length + _ = _
    rw [List.length_cons]
    show (cFresh (zPof D) k).1.length + 1 + (cFresh (zPof D) k).2.toList.length = _
    omega
  unfold tMv stC
  rw [hp]
  by_cases c1 : st < 15
  · rw [if_pos c1, if_pos (show 1 ≤ st ∧ st < 15 by omega)]
    by_cases h4 : dS D k = 4
    · rw [if_pos h4, if_neg (by omega), if_neg (fun q => q.1 h4)]
      obtain ⟨q1, q2⟩ := old h4
      exact ⟨q1, by rw [q2]; rfl⟩
    · rw [if_neg h4]
      by_cases h3 : dS D k = 3
      · rw [if_pos h3, if_pos h3]
        unfold cVow
        dsimp only
        rw [if_pos (show ((st - 1 : Nat) : Int) ≠ -2 ∧ (-2 : Int) = -2 by omega)]
        refine ⟨?_, rfl⟩
        unfold stN
        dsimp only
        rw [if_neg (by omega), if_neg (show ¬ pMo (zPof D) k = -2 from pk.2.2.2.2 h3), if_pos rfl]
      · rw [if_neg h3, if_neg h3]
        unfold cCons
        dsimp only
        rw [if_neg (by omega), if_pos rfl]
        by_cases c : ((st - 1 : Nat) : Int) = pLo (zPof D) k ∧ pTw (zPof D) k ≠ -2
        · rw [if_pos c, if_pos ⟨h4, c.1.symm, c.2⟩]
          refine ⟨?_, rfl⟩
          unfold stN
          dsimp only
          rw [if_neg c.2, if_pos rfl]
        · rw [if_neg c, if_neg (fun q => c ⟨q.2.1.symm, q.2.2⟩)]
          exact fr _ h4 h3
  · rw [if_neg c1, if_neg (show ¬ (1 ≤ st ∧ st < 15) by omega)]
    by_cases c2 : st < 31
    · rw [if_pos c2, if_pos (show 15 ≤ st ∧ st < 31 by omega)]
      by_cases h4 : dS D k = 4
      · rw [if_pos h4, if_neg (by omega)]
        obtain ⟨q1, q2⟩ := old h4
        exact ⟨q1, by rw [q2]; rfl⟩
      · rw [if_neg h4]
        by_cases h3 : dS D k = 3
        · rw [if_pos h3]
          unfold cVow
          dsimp only
          rw [if_neg (fun q => q.1 rfl), if_neg (fun q => q rfl)]
          by_cases c : pVp (zPof D) ((st - 15 : Nat) : Int) k = -2
          · rw [if_pos c, if_neg (fun q => q.2 c)]
            exact vnew _ h3
          · rw [if_neg c, if_pos ⟨h3, c⟩]
            refine ⟨?_, rfl⟩
            unfold stN
            dsimp only
            rw [if_pos rfl]
        · rw [if_neg h3, if_neg (fun q => h3 q.1)]
          unfold cCons
          dsimp only
          rw [if_pos rfl]
          exact fr _ h4 h3
    · rw [if_neg c2, if_neg (show ¬ (15 ≤ st ∧ st < 31) by omega)]
      by_cases c3 : st < 47
      · rw [if_pos c3, if_pos (show 31 ≤ st ∧ st < 47 by omega)]
        by_cases h4 : dS D k = 4
        · rw [if_pos h4, if_neg (by omega), if_neg (fun q => q.1 h4)]
          obtain ⟨q1, q2⟩ := old h4
          exact ⟨q1, by rw [q2]; rfl⟩
        · rw [if_neg h4]
          by_cases h3 : dS D k = 3
          · rw [if_pos h3, if_pos h3]
            unfold cVow
            dsimp only
            rw [if_neg (by omega), if_neg (fun q => q rfl)]
            by_cases c : pVp (zPof D) ((st - 31 : Nat) : Int) k = -2
            · rw [if_pos c, if_neg (fun q => q c)]
              exact vnew _ h3
            · rw [if_neg c, if_pos c]
              refine ⟨?_, rfl⟩
              unfold stN
              dsimp only
              rw [if_neg (by decide), if_neg c, if_pos rfl]
          · rw [if_neg h3, if_neg h3]
            unfold cCons
            dsimp only
            rw [if_neg (by decide), if_neg (by omega)]
            have e1 : (if (-2 : Int) = -2 then pEo (zPof D) k else pEp (zPof D) (-2) k) = pEo (zPof D) k := if_pos rfl
            rw [e1]
            by_cases c : pEo (zPof D) k = -2
            · rw [if_pos c, if_neg (fun q => q.2 c)]
              exact fr _ h4 h3
            · rw [if_neg c, if_pos ⟨h4, c⟩]
              refine ⟨?_, rfl⟩
              unfold stN
              dsimp only
              rw [if_neg (by decide), if_neg (by omega), if_neg c]
      · rw [if_neg c3, if_neg h47, if_neg (show ¬ (31 ≤ st ∧ st < 47) by omega), if_pos (show 48 ≤ st by omega)]
        by_cases h4 : dS D k = 4
        · rw [if_pos h4, if_neg (by omega), if_neg (fun q => q.1 h4)]
          obtain ⟨q1, q2⟩ := old h4
          exact ⟨q1, by rw [q2]; rfl⟩
        · rw [if_neg h4]
          by_cases h3 : dS D k = 3
          · rw [if_pos h3, if_pos h3]
            unfold cVow
            dsimp only
            rw [if_neg (by omega), if_pos (by omega)]
            by_cases c : pLo (zPof D) (pLa (zPof D) ((st - 47 : Nat) : Int)) = -2
            · rw [if_pos c, if_neg (fun q => q c)]
              exact vnew _ h3
            · rw [if_neg c, if_pos c]
              refine ⟨?_, rfl⟩
              unfold stN
              dsimp only
              rw [if_neg c, if_neg (pk.2.2.2.2 h3), if_pos rfl]
          · rw [if_neg h3, if_neg h3]
            unfold cCons
            dsimp only
            rw [if_neg (by decide), if_neg (by decide)]
            have e1 : (if ((st - 47 : Nat) : Int) = -2 then pEo (zPof D) k else pEp (zPof D) ((st - 47 : Nat) : Int) k) = pEp (zPof D) ((st - 47 : Nat) : Int) k := if_neg (by omega)
            rw [e1]
            by_cases c : pEp (zPof D) ((st - 47 : Nat) : Int) k = -2
            · rw [if_pos c, if_neg (fun q => q.2 c)]
              exact fr _ h4 h3
            · rw [if_neg c, if_pos ⟨h4, c⟩]
              refine ⟨?_, rfl⟩
              unfold stN
              dsimp only
              rw [if_neg (by decide), if_neg (by decide), if_neg c]
