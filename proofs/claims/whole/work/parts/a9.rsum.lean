theorem tFr_1 {P : zP} {k : Nat} : (tFr P k).2 = 1 := by
  unfold tFr
  repeat' split
  all_goals rfl
theorem tMv_f1 {P : zP} {st k : Nat} (h : (tMv P st k).2 = 0) : (tMv P st k).1 ≠ 0 := by
  have f := tFr_1 (P := P) (k := k)
  unfold tMv at h ⊢
  repeat' split at h
  all_goals (first | (rw [f] at h; exact absurd h (by decide)) | skip)
  all_goals (repeat' split)
  all_goals (first | contradiction | (dsimp only; omega) | skip)
theorem tMv_f2 {D : zD} {st k : Nat} (hD : dOk D) (h1 : 15 ≤ st ∧ st < 31) (h : (tMv (zPof D) st k).2 = 0) : 15 ≤ (tMv (zPof D) st k).1 ∧ (tMv (zPof D) st k).1 < 31 := by
  have f := tFr_1 (P := zPof D) (k := k)
  unfold tMv at h ⊢
  rw [if_neg (by omega), if_pos h1] at h ⊢
  by_cases c : pSo (zPof D) k = 3 ∧ pVp (zPof D) ((st - 15 : Nat) : Int) k ≠ -2
  · rw [if_pos c]
    have e : pVp (zPof D) ((st - 15 : Nat) : Int) k = zwith (dTM D) (dV D).length ((st - 15 : Nat) : Int) (kk k) := rfl
    have hl : (dV D).length ≤ (dTM D).length := by rw [dTM_len]; unfold dnM; omega
    have := zwith_rng (es := dTM D) (ns := (dV D).length) (x := ((st - 15 : Nat) : Int)) (key := kk k) hl
    have l2 : (dTM D).length ≤ 16 := by
      rw [dTM_len]
      have a1 : (dV D).length ≤ 8 := hD.2.2.1.2.1
      have a2 : (dPV D).length ≤ 8 := Nat.le_trans (List.length_filter_le _ _) hD.2.2.1.2.2.2.2
      unfold dnM; omega
    rw [e]
    dsimp only
    omega
  · rw [if_neg c, f] at h
    exact absurd h (by decide)
theorem bF_bare {D : zD} {n s : Nat} (h : 15 ≤ s ∧ s < 31) : bF D n s = 0 := by
  cases n with
  | zero => exact if_neg (by omega)
  | succ n =>
    refine sm_0 (fun st hst => sm_0 (fun k hk => ?_))
    unfold bGo
    refine if_neg (fun q => ?_)
    have := q.2.2.2.2
    unfold tLd tBk at this
    rw [decide_eq_true_iff, decide_eq_true_iff] at this
    omega
theorem hF_bF {D : zD} (hD : dOk D) (hlk : dLacks D = false) : ∀ n, n ≤ 8 → ∀ s, ¬ (15 ≤ s ∧ s < 31) → sm (fun i => hF true D n s i) 9 = bF D n s := by
  intro n
  induction n with
  | zero =>
    intro _ s hs
    show sm (fun i => if s = 0 ∧ i = 0 then (1 : Int) else 0) 9 = if s = 0 then 1 else 0
    by_cases e : s = 0
    · subst e; rfl
    · rw [if_neg e]
      exact sm_0 (fun j hj => if_neg (fun q => e q.1))
  | succ n ih =>
    intro hn s hs
    have e1 : sm (fun i => hF true D (n + 1) s i) 9 = sm (fun st => sm (fun k => sm (fun i => hGo true D (hF true D n) st k s i) 9) 26) 66 := by
      show sm (fun i => sm (fun st => sm (fun k => hGo true D (hF true D n) st k s i) 26) 66) 9 = _
      rw [sm_sw]
      refine sm_cg (fun st _ => ?_)
      rw [sm_sw]
    rw [e1]
    show _ = sm (fun st => sm (fun k => bGo D (bF D n) st k s) 26) 66
    refine sm_cg (fun st hst => sm_cg (fun k hk => ?_))
    have ih := ih (by omega)
    by_cases c1 : (dS D k ≠ -1 ∧ tEx D st = true) ∧ (tMv (zPof D) st k).1 = s
    · obtain ⟨⟨q1, q2⟩, q3⟩ := c1
      have mv := (tMv_mv hD hlk hk q1 q2).2.2.2
      have f1 := tMv_f1 (P := zPof D) (st := st) (k := k)
      have f2 := fun hb => tMv_f2 (D := D) (st := st) (k := k) hD hb
      have zero : hBad true D st k = true → sm (fun i => hGo true D (hF true D n) st k s i) 9 = 0 := fun b => sm_0 (fun i _ => if_neg (fun q => by rw [b] at q; exact absurd q.2.2.2 (by decide)))
      have full : hBad true D st k = false → ¬ (15 ≤ st ∧ st < 31) → sm (fun i => hGo true D (hF true D n) st k s i) 9 = bF D n st := fun b hb => by
        rw [← ih st hb, ← sm_sh (d := (tMv (zPof D) st k).2) (fun i y1 y2 => hF_hi hD hlk n st i (by omega)) (by omega)]
        refine sm_cg (fun i _ => ?_)
        unfold hGo
        by_cases y : (tMv (zPof D) st k).2 ≤ i
        · rw [if_pos ⟨⟨q1, q2⟩, q3, y, b⟩, if_pos y]
        · rw [if_neg (fun q => y q.2.2.1), if_neg y]
      have hb : hBad true D st k = (decide ((tMv (zPof D) st k).2 = 1) && (!blS st || decide ((tMv (zPof D) st k).1 = 0))) := rfl
      unfold bGo
      rw [q3] at f1 hb
      by_cases hbare : 15 ≤ st ∧ st < 31
      · have m1 : (tMv (zPof D) st k).2 = 1 := by
          by_cases z : (tMv (zPof D) st k).2 = 0
          · have := f2 hbare z; omega
          · omega
        have bl : blS st = false := by unfold blS; rw [decide_eq_false (by omega), decide_eq_false (by omega)]; rfl
        rw [zero (by rw [hb, bl, decide_eq_true m1]; rfl), bF_bare hbare]
        split <;> rfl
      · by_cases hlead : 1 ≤ st ∧ st < 15
        · have tl : tLd st = true := decide_eq_true hlead
          have bl : blS st = false := by unfold blS; rw [decide_eq_false (by omega), decide_eq_false (by omega)]; rfl
          by_cases m1 : (tMv (zPof D) st k).2 = 1
          · rw [zero (by rw [hb, bl, decide_eq_true m1]; rfl), if_neg (fun q => q.2.2.2.1 ⟨tl, m1⟩)]
          · have s0 := f1 (by omega)
            rw [full (by rw [hb, decide_eq_false m1]; rfl) hbare]
            refine (if_pos ⟨q1, q2, q3, fun q => m1 q.2, ?_⟩).symm
            unfold tLd tBk
            rw [decide_eq_true_iff, decide_eq_true_iff]
            omega
        · have bl : blS st = true := by
            unfold blS
            by_cases z : st = 0
            · rw [decide_eq_true z]; rfl
            · rw [decide_eq_true (show 31 ≤ st by omega), Bool.or_true]
          have nl : ¬ tLd st = true := fun q => hlead (of_decide_eq_true q)
          by_cases s0 : s = 0
          · have m1 : (tMv (zPof D) st k).2 = 1 := by
              by_cases z : (tMv (zPof D) st k).2 = 0
              · exact absurd s0 (f1 z)
              · omega
            rw [zero (by rw [hb, bl, decide_eq_true m1, decide_eq_true s0]; rfl), if_neg (fun q => ?_)]
            have := q.2.2.2.2
            unfold tLd tBk at this
            rw [decide_eq_true_iff, decide_eq_true_iff] at this
            omega
          · rw [full (by rw [hb, bl, decide_eq_false s0, Bool.not_true, Bool.or_false, Bool.and_false]) hbare]
            refine (if_pos ⟨q1, q2, q3, fun q => nl q.1, ?_⟩).symm
            unfold tLd tBk
            rw [decide_eq_true_iff, decide_eq_true_iff]
            omega
    · have z : sm (fun i => hGo true D (hF true D n) st k s i) 9 = 0 := sm_0 (fun i _ => if_neg (fun q => c1 ⟨q.1, q.2.1⟩))
      rw [z]
      unfold bGo
      exact (if_neg (fun q => c1 ⟨⟨q.1, q.2.1⟩, q.2.2.1⟩)).symm
theorem tB_blS {D : zD} {n : Nat} : sm (fun st => if blS st = true then bF D n st else 0) 66 = tB D n := by
  refine sm_cg (fun st hst => ?_)
  by_cases hl : tLd st = true
  · have := of_decide_eq_true hl
    rw [if_pos hl, if_neg (fun q => ?_)]
    unfold blS at q
    rw [Bool.or_eq_true, decide_eq_true_iff, decide_eq_true_iff] at q
    omega
  · rw [if_neg hl]
    by_cases hb : blS st = true
    · rw [if_pos hb]
    · rw [if_neg hb]
      refine (bF_bare ?_).symm
      unfold blS at hb
      unfold tLd at hl
      rw [Bool.or_eq_true, decide_eq_true_iff, decide_eq_true_iff] at hb
      rw [decide_eq_true_iff] at hl
      omega
