def coR (D : zD) (o : zCo) : Prop := (o.1 = -2 ∨ (0 ≤ o.1 ∧ o.1 < (dnL D : Int))) ∧ (o.2.1 = -2 ∨ (0 ≤ o.2.1 ∧ o.2.1 < (dnM D : Int))) ∧ (o.2.2.1 = -2 ∨ (0 < o.2.2.1 ∧ o.2.2.1 < (dnE D : Int)))
theorem cSign_R {D : zD} {k : Nat} {op : Option zCo} (hD : dOk D) (hk : k < 26) (hs : dS D k ≠ -1) (ho : ∀ o, op = some o → coR D o) : ∀ o, (cSign (zPof D) (kk k) op).2 = some o → coR D o := by
  have pk := (dOk_Pk hD).1 k hk
  have rL : ∀ j, dNL D j = -2 ∨ (0 ≤ dNL D j ∧ dNL D j < (dnL D : Int)) := fun j => by
    rcases dNL_rng hD (k := j) with r | r
    · exact Or.inl r
    · right; unfold dnL; omega
  have rM : ∀ j, dNM D j = -2 ∨ (0 ≤ dNM D j ∧ dNM D j < (dnM D : Int)) := fun j => by
    rcases dNM_rng hD (k := j) with r | r
    · exact Or.inl r
    · right; unfold dnM; omega
  have rT : dTw D k = -2 ∨ (0 ≤ dTw D k ∧ dTw D k < (dnL D : Int)) := by
    rcases dTw_rng hD (k := k) with r | r
    · exact Or.inl r
    · right; omega
  have rV : ∀ x, dVp D x k = -2 ∨ (0 ≤ dVp D x k ∧ dVp D x k < (dnM D : Int)) := fun x => by
    rcases zwith_rng (es := dTM D) (ns := (dV D).length) (x := x) (key := kk k) (by rw [dTM_len]; unfold dnM; omega) with r | r
    · exact Or.inl r
    · rw [dTM_len] at r; right; unfold dVp; omega
  have fr : ∀ o, (cFresh (zPof D) k).2 = some o → coR D o := fun o q => by
    unfold cFresh at q
    split at q
    · cases q
    · cases q
      exact ⟨rL k, Or.inl rfl, Or.inl rfl⟩
  rw [cSign_key hk hs]
  split
  · intro o q; cases q
  · split
    · unfold cVow
      cases op with
      | none => intro o q; cases q; exact ⟨Or.inl rfl, rM k, Or.inl rfl⟩
      | some o0 =>
        obtain ⟨h1, h2, h3⟩ := ho o0 rfl
        dsimp only
        split
        · intro o q; cases q; exact ⟨h1, rM k, h3⟩
        · split
          · split
            · intro o q; cases q; exact ⟨Or.inl rfl, rM k, Or.inl rfl⟩
            · intro o q; cases q; exact ⟨rL _, rM k, Or.inl rfl⟩
          · split
            · intro o q; cases q; exact ⟨Or.inl rfl, rM k, Or.inl rfl⟩
            · intro o q; cases q; exact ⟨h1, rV _, h3⟩
    · unfold cCons
      cases op with
      | none => exact fr
      | some o0 =>
        obtain ⟨h1, h2, h3⟩ := ho o0 rfl
        dsimp only
        split
        · exact fr
        · split
          · split
            · intro o q; cases q; exact ⟨rT, h2, h3⟩
            · exact fr
          · by_cases hne : (if o0.2.2.1 = -2 then pEo (zPof D) k else pEp (zPof D) o0.2.2.1 k) = -2
            · rw [if_pos hne]; exact fr
            · rw [if_neg hne]
              intro o q
              cases q
              refine ⟨h1, h2, ?_⟩
              dsimp only
              by_cases he : o0.2.2.1 = -2
              · rw [if_pos he] at hne ⊢
                exact Or.inr ⟨pk.1.resolve_left hne, pk.2.2.1⟩
              · rw [if_neg he] at hne ⊢
                exact Or.inr ⟨(pk.2.1 _).resolve_left hne, pk.2.2.2.1 _⟩
def stIt (st : Nat) : zIt := ((stC st).1, (stC st).2.1, (stC st).2.2.1, -99, 0, 1)
def stS (st : Nat) (w : Int) : zMS := if st = 0 then ms0 else ([], some (stIt st), [(0, 0, w)], 0)
theorem stC_al {st : Nat} : ¬ ((stC st).1 = -2 ∧ (stC st).2.1 = -2) := by
  unfold stC
  repeat' split
  all_goals (dsimp only; omega)
theorem cOf_st {st : Nat} : cOf (stIt st) = stC st := by
  unfold stIt
  rw [cOf_mk stC_al]
  unfold stC
  repeat' split
  all_goals rfl
theorem stS_c {st : Nat} {w : Int} : cCl (stS st w) = [] ∧ cOp (stS st w) = stO st := by
  unfold stS stO
  by_cases h : st = 0
  · rw [if_pos h, if_pos h]; exact ⟨rfl, rfl⟩
  · rw [if_neg h, if_neg h]
    exact ⟨rfl, congrArg some cOf_st⟩
theorem stE {st : Nat} : (stC st).2.2.1 = -2 ∨ (0 < (stC st).2.2.1 ∧ 48 ≤ st ∧ (stC st).2.2.1 = ((st - 47 : Nat) : Int) ∧ (stC st).1 ≠ -2 ∧ (stC st).2.1 ≠ -2) := by
  unfold stC
  repeat' split
  · exact Or.inl rfl
  · exact Or.inl rfl
  · exact Or.inl rfl
  · exact Or.inl rfl
  · right
    refine ⟨?_, by omega, rfl, show (0 : Int) ≠ -2 by decide, show (0 : Int) ≠ -2 by decide⟩
    show (0 : Int) < ((st - 47 : Nat) : Int)
    omega
theorem stS_X {st : Nat} {w : Int} {N : Nat} (hE : 48 ≤ st → st - 47 < N) (hN : 0 < N) : msX N (stS st w) := by
  unfold stS
  by_cases h : st = 0
  · rw [if_pos h]; exact ms0_ok
  · rw [if_neg h]
    have e := stE (st := st)
    refine ⟨⟨Nat.le_refl _, Int.le_refl _, show (0 : Int) ≤ ((1 : Nat) : Int) by decide, fun x hx => ?_, fun x hx => ?_⟩, fun x hx => ?_⟩
    · have hx : x ∈ [stIt st] := hx
      rw [List.mem_singleton.mp hx]
      exact ⟨show (0 : Int) ≤ 1 by decide, show (1 : Int) ≤ ((1 : Nat) : Int) by decide⟩
    · have hx : some (stIt st) = some x := hx
      cases hx
      refine ⟨stC_al, ?_, fun q => ?_, by simp⟩
      · rcases e with e | e
        · exact Or.inl e
        · exact Or.inr e.1
      · rcases e with e | e
        · exact absurd e q
        · exact ⟨e.2.2.2.1, e.2.2.2.2⟩
    · have hx : some (stIt st) = some x := hx
      cases hx
      refine ⟨stC_al, ?_, fun q => ?_, show (1 : Int) ≤ 1 by decide, ?_⟩
      · rcases e with e | e
        · exact Or.inl e
        · exact Or.inr e.1
      · rcases e with e | e
        · exact absurd e q
        · exact ⟨e.2.2.2.1, e.2.2.2.2⟩
      · show (stC st).2.2.1 < (N : Int)
        rcases e with e | e
        · rw [e]; omega
        · rw [e.2.2.1]; have := hE e.2.1; omega
theorem c_standAt {L : zY} {m : zM} {Q : zQ} {st : Nat} {e : Int} (h0 : st ≠ 0) (he : itC (stIt st) = e) (hR : zRL L m 20) (k : ∀ m' w, zRC L m' 20 (stS st w) → zFR 20 29 m m' → Q none L m') : zwp 24 0 [zA 20, zI (stC st).1, zI (stC st).2.1, zI e] [] L m Q := by
  have r1 := hR.1
  simp only [s24_0, s24_1, r1, true_and]
  refine c_clear hR (fun m1 g1 f1 => ?_)
  simp only [s24_4, s24_5, s24_6, s24_7, s24_9, s24_10, Int.toNat_natCast, true_and, and_true, true_or, or_true, false_or, or_false, zwr_id, zpu_some, zpu_none, reduceIte, Int.reduceLE, Int.reduceLT, Int.reduceEq, Int.reduceNeg, Int.reduceAdd, Int.reduceSub, Int.reduceMul, Int.reduceToNat, Nat.reduceAdd, Nat.reduceLeDiff, Nat.reduceEqDiff, Nat.reduceLT, eq_self, ne_eq, not_false_eq_true, not_true_eq_false, r1]
  have g0 := g1
  obtain ⟨q1, q2, q3, q4, q5, -⟩ := g1
  refine c_begin (its := []) (pl := []) q1 q2 q3 (by decide) (by decide) (Or.inl ⟨rfl, stC_al⟩) (fun m2 y1 y2 y3 y4 y5 y6 y7 y8 y9 => ?_)
  have b2 := y1.2.2.1.2.2.1
  have t3 := y1.2.2.2.1.2.2.1
  have n3 := y1.2.2.2.2.2.2.1
  simp only [s24_13, s24_14, s24_17, s24_18, s24_19, s24_20, s24_21, s24_22, s24_25, Int.toNat_natCast, true_and, and_true, true_or, or_true, false_or, or_false, zwr_id, zpu_some, zpu_none, reduceIte, Int.reduceLE, Int.reduceLT, Int.reduceEq, Int.reduceNeg, Int.reduceAdd, Int.reduceSub, Int.reduceMul, Int.reduceToNat, Nat.reduceAdd, Nat.reduceLeDiff, Nat.reduceEqDiff, Nat.reduceLT, eq_self, ne_eq, not_false_eq_true, not_true_eq_false, r1, b2, t3, n3]
  have y2' : zRI m2 20 ([] ++ [((stC st).1, (stC st).2.1, -2, -2 - 97, ((0 : Nat) : Int), 1)]) := y2
  have s1 : zRI (zup m2 (20 + 3) 0 e) 20 ([] ++ [stIt st]) := zRI_set (cl := []) (x' := stIt st) y2' rfl rfl (Or.inr (Or.inr ⟨rfl, rfl, rfl, he, by
    show (if (stC st).1 = -2 ∧ (stC st).2.1 = -2 then _ else _) = (if (stC st).1 = -2 ∧ (stC st).2.1 = -2 then _ else _)
    rw [if_neg stC_al, if_neg stC_al]⟩))
  have s2 : zRP (zup m2 (20 + 3) 0 e) 20 [] := zRP_up (by decide) (by decide) y3
  have s3 := zRP_push (q := (0, 0, m2 29 0)) s2 (by decide) (by rw [zup_na (by decide)]; exact y4) (by rw [zup_na (by decide)]; exact y5) (by rw [zup_na (by decide)]; rfl)
  have fr : zFR 20 29 m (zup (zup m2 (20 + 3) 0 e) 20 10 1) := zFR_up (zFR_up (zFR_tr f1 y9) (by decide) (by decide)) (by decide) (by decide)
  refine ⟨by decide, k _ (m2 29 0) ?_ fr⟩
  have hX := stS_X (st := st) (w := m2 29 0) (N := st + 1) (fun _ => by omega) (by omega)
  have es : stS st (m2 29 0) = ([], some (stIt st), [(0, 0, m2 29 0)], 0) := if_neg h0
  rw [es] at hX ⊢
  refine ⟨zRL_eq (m := m2) (fun j hj => by rw [zup_nk (by omega), zup_na (by decide)]) y1, zRI_eq (m := zup m2 (20 + 3) 0 e) (zup_nk (by decide)) (zup_nf (by decide)) (zup_nf (by decide)) (zup_nf (by decide)) (zup_nf (by decide)) (zup_nf (by decide)) (zup_nf (by decide)) s1, s3, ?_, ?_, hX.1⟩
  · rw [zup_nk (by decide), zup_na (by decide), y8]
    exact q4
  · rw [zup_nk (by decide), zup_na (by decide), y7]
    rfl
