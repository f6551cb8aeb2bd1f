theorem zwl_acc {a b : Int} : zwl (zwl a + zwl b) = zwl (a + b) := zwl_ad2
theorem c_rways {L : zY} {m : zM} {Q : zQ} {g : zG} {n i : Int} (ht : zMt L) (hn : zMn L) (hg : gOk g) (h : rSt m g) (k : ∀ m', rSt m' (sWays g n i).2 → zFR 332 370 m m' → Q (some (zJ (sWays g n i).1)) L m') : zwp 253 0 [zA 332, zI n, zI i, zU, zU, zU] [] L m Q := by
  have t0 := mt332 ht
  have second : ∀ (v : Int), zwp 253 5 [zA 332, zI n, zI i, zU, zU, zU] [zI v, zA 332] L m Q ↔ zwp 253 30 [zA 332, zI n, zI i, zU, zU, zU] [zI (if (0 ≤ n ∧ n ≤ 8) ∧ 0 ≤ i ∧ i ≤ 8 then 1 else 0), zI v, zA 332] L m Q := fun v => by
    simp only [s253_5, s253_6, s253_7, s253_9, zpu_some, r_in]
    simp only [s253_12]
    by_cases h1 : 0 ≤ n ∧ n ≤ 8
    · rw [if_pos h1, if_neg (by decide)]
      simp only [s253_15, s253_16, s253_17, s253_19, zpu_some, r_in]
      simp only [s253_22]
      by_cases h2 : 0 ≤ i ∧ i ≤ 8
      · rw [if_pos h2, if_neg (by decide), if_pos ⟨h1, h2⟩]
        simp only [s253_25, s253_26]
      · rw [if_neg h2, if_pos rfl, if_neg (fun q => h2 q.2)]
        simp only [s253_29]
    · rw [if_neg h1, if_pos rfl, if_neg (fun q => h1 q.1)]
      simp only [s253_29]
  cases hd : gD g with
  | none =>
    have e : sWays g n i = gN g 1 := by unfold sWays; rw [hd]
    rw [e] at k
    simp only [s253_0, s253_1, s253_2, true_and, t0, (rSt_6 h).1 hd]
    rw [second]
    simp only [s253_30, s253_33, s253_36, s253_39, s253_42, Int.toNat_natCast, true_and, and_true, true_or, or_true, false_or, or_false, zwr_id, zpu_some, zpu_none, reduceIte, Int.reduceLE, Int.reduceLT, Int.reduceEq, Int.reduceNeg, Int.reduceAdd, Int.reduceSub, Int.reduceMul, Int.reduceToNat, Nat.reduceAdd, Nat.reduceLeDiff, Nat.reduceEqDiff, Nat.reduceLT, eq_self, ne_eq, not_false_eq_true, not_true_eq_false, t0, r_unl2, r_ref t0]
    exact k _ (rSt_ran hg h) zFR_ran
  | some D =>
    obtain ⟨d1, d2, -⟩ := rs_D hg h hd
    have es : sWays g n i = if (0 ≤ n ∧ n ≤ 8) ∧ 0 ≤ i ∧ i ≤ 8 then gA g (zwl (tW D n.toNat i.toNat)) else gN g 2 := by unfold sWays; rw [hd]
    rw [es] at k
    simp only [s253_0, s253_1, s253_2, true_and, t0, (rSt_6 h).2 D hd]
    rw [second]
    clear second
    by_cases hw : (0 ≤ n ∧ n ≤ 8) ∧ 0 ≤ i ∧ i ≤ 8
    · rw [if_pos hw] at k ⊢
      obtain ⟨N, rfl⟩ : ∃ N : Nat, n = (N : Int) := ⟨n.toNat, by omega⟩
      obtain ⟨J, rfl⟩ : ∃ J : Nat, i = (J : Int) := ⟨i.toNat, by omega⟩
      rw [Int.toNat_natCast, Int.toNat_natCast] at k
      have h1 := rSt_ran (why := 0) hg h
      simp only [s253_30, s253_33, s253_36, s253_39, s253_42, s253_43, s253_44, s253_45, s253_46, Int.toNat_natCast, true_and, and_true, true_or, or_true, false_or, or_false, zwr_id, zpu_some, zpu_none, reduceIte, Int.reduceLE, Int.reduceLT, Int.reduceEq, Int.reduceNeg, Int.reduceAdd, Int.reduceSub, Int.reduceMul, Int.reduceToNat, Nat.reduceAdd, Nat.reduceLeDiff, Nat.reduceEqDiff, Nat.reduceLT, eq_self, ne_eq, not_false_eq_true, not_true_eq_false, t0, r_unl2, r_ref t0]
      obtain ⟨y1, y2, -⟩ := h1.2.2.2.2.2.2.2 D hd
      have cc := fun (Q' : zQ) kk => c_rcounts (Q := Q') (w := false) (N := N) ht hn d1 d2 ⟨h1.1, y1, y2⟩ (by omega) kk
      have e0 : (if false = true then (1 : Int) else 0) = 0 := rfl
      rw [e0] at cc
      refine cc _ (fun m2 hT f2 => ?_)
      have h2 := rSt_sf (gOk_w (f := g.2.2.2.2.2.1) (p := -1) (q := 0) hg) (rCf_Sf f2) h1
      have kk := k m2 h2 (zFR_tr zFR_ran (rCf_FR f2))
      have q59 : m2 332 59 = ((369 : Nat) : Int) := mp59 h2.1
      simp only [s253_49, s253_50, s253_51, s253_52, zpu_none]
      have s0 : (0 : Int) = zwl (sm (fun rs => tF D N (taS rs) J) 0) := zwl_0.symm
      rw [s0]
      refine zfor (n := 90) (fun t => [zA 332, zI (N : Int), zI (J : Int), zJ (zwl (sm (fun rs => tF D N (taS rs) J) t)), zU, zI (t : Nat)]) (fun _ m' => m' = m2) ?_ ?_ 0 m2 (Nat.zero_le _) rfl
      · rintro t m2 ht1 rfl ih
        have ih := ih _ rfl
        have tv : t < 1000000 := by omega
        have n1 : ¬ (90 : Int) ≤ (t : Int) := by omega
        have hr : 0 ≤ ((90 * J + t : Nat) : Int) ∧ ((90 * J + t : Nat) : Int) < ((900 : Nat) : Int) := by omega
        have av : m2 369 (90 * J + t) = zwl (tF D N (taS t) J) := by rw [hT t ht1 J (by omega), hF_tF]
        simp only [s253_54]
        simp only [s253_56, s253_58, s253_61, s253_62, s253_63, s253_66, s253_68, s253_69, s253_70, s253_72, s253_73, s253_74, s253_75, s253_76, s253_79, Int.toNat_natCast, true_and, and_true, true_or, or_true, false_or, or_false, zwr_id, zpu_some, zpu_none, reduceIte, Int.reduceLE, Int.reduceLT, Int.reduceEq, Int.reduceNeg, Int.reduceAdd, Int.reduceSub, Int.reduceMul, Int.reduceToNat, Nat.reduceAdd, Nat.reduceLeDiff, Nat.reduceEqDiff, Nat.reduceLT, eq_self, ne_eq, not_false_eq_true, not_true_eq_false, t0, n1, q59, mt369 ht, mn369 hn, hr, and_self, (show zwr (90 * (J : Int)) = ((90 * J : Nat) : Int) from zwn (by omega) (by omega)), (show zwr (((90 * J : Nat) : Int) + (t : Int)) = ((90 * J + t : Nat) : Int) from zwn (by omega) (by omega)), av, zwl_acc, z1 tv]
        exact ih
      · rintro m2 rfl
        simp only [s253_54]
        simp only [s253_56, s253_58, s253_82, s253_83, Int.toNat_natCast, true_and, and_true, true_or, or_true, false_or, or_false, zwr_id, zpu_some, zpu_none, reduceIte, Int.reduceLE, Int.reduceLT, Int.reduceEq, Int.reduceNeg, Int.reduceAdd, Int.reduceSub, Int.reduceMul, Int.reduceToNat, Nat.reduceAdd, Nat.reduceLeDiff, Nat.reduceEqDiff, Nat.reduceLT, eq_self, ne_eq, not_false_eq_true, not_true_eq_false, Int.cast_ofNat_Int]
        have e : sm (fun rs => tF D N (taS rs) J) 90 = tW D N J := sm_ta (f := fun st => tF D N st J) (tF_ex d1 d2 N 47 J (by unfold tEx; simp))
        rw [e]
        exact kk
    · rw [if_neg hw] at k ⊢
      simp only [s253_30, s253_33, s253_36, s253_39, s253_42, Int.toNat_natCast, true_and, and_true, true_or, or_true, false_or, or_false, zwr_id, zpu_some, zpu_none, reduceIte, Int.reduceLE, Int.reduceLT, Int.reduceEq, Int.reduceNeg, Int.reduceAdd, Int.reduceSub, Int.reduceMul, Int.reduceToNat, Nat.reduceAdd, Nat.reduceLeDiff, Nat.reduceEqDiff, Nat.reduceLT, eq_self, ne_eq, not_false_eq_true, not_true_eq_false, t0, r_unl2, r_ref t0]
      exact k _ (rSt_ran hg h) zFR_ran
theorem c_rwhole {L : zY} {m : zM} {Q : zQ} {g : zG} {n : Int} (ht : zMt L) (hn : zMn L) (hg : gOk g) (h : rSt m g) (k : ∀ m', rSt m' (sWhole g n).2 → zFR 332 370 m m' → Q (some (zJ (sWhole g n).1)) L m') : zwp 254 0 [zA 332, zI n, zU, zU, zU, zU] [] L m Q := by
  have t0 := mt332 ht
  cases hd : gD g with
  | none =>
    have e : sWhole g n = gN g 1 := by unfold sWhole; rw [hd]
    rw [e] at k
    simp only [s254_0, s254_1, s254_2, s254_5, s254_6, s254_7, s254_9, s254_12, s254_15, s254_18, s254_21, s254_24, Int.toNat_natCast, true_and, and_true, true_or, or_true, false_or, or_false, zwr_id, zpu_some, zpu_none, reduceIte, Int.reduceLE, Int.reduceLT, Int.reduceEq, Int.reduceNeg, Int.reduceAdd, Int.reduceSub, Int.reduceMul, Int.reduceToNat, Nat.reduceAdd, Nat.reduceLeDiff, Nat.reduceEqDiff, Nat.reduceLT, eq_self, ne_eq, not_false_eq_true, not_true_eq_false, t0, (rSt_6 h).1 hd, r_in, r_unl2, r_ref t0]
    exact k _ (rSt_ran hg h) zFR_ran
  | some D =>
    obtain ⟨d1, d2, -⟩ := rs_D hg h hd
    have es : sWhole g n = if 0 ≤ n ∧ n ≤ 8 then gA g (zwl (tB D n.toNat)) else gN g 2 := by unfold sWhole; rw [hd]
    rw [es] at k
    by_cases hw : 0 ≤ n ∧ n ≤ 8
    · rw [if_pos hw] at k
      obtain ⟨N, rfl⟩ : ∃ N : Nat, n = (N : Int) := ⟨n.toNat, by omega⟩
      rw [Int.toNat_natCast] at k
      have h1 := rSt_ran (why := 0) hg h
      simp only [s254_0, s254_1, s254_2, s254_5, s254_6, s254_7, s254_9, s254_12, s254_15, s254_18, s254_21, s254_24, s254_25, s254_26, s254_27, s254_28, Int.toNat_natCast, true_and, and_true, true_or, or_true, false_or, or_false, zwr_id, zpu_some, zpu_none, reduceIte, Int.reduceLE, Int.reduceLT, Int.reduceEq, Int.reduceNeg, Int.reduceAdd, Int.reduceSub, Int.reduceMul, Int.reduceToNat, Nat.reduceAdd, Nat.reduceLeDiff, Nat.reduceEqDiff, Nat.reduceLT, eq_self, ne_eq, not_false_eq_true, not_true_eq_false, t0, (rSt_6 h).2 D hd, r_in, hw, and_self, r_unl2, r_ref t0]
      obtain ⟨y1, y2, -⟩ := h1.2.2.2.2.2.2.2 D hd
      have cc := fun (Q' : zQ) kk => c_rcounts (Q := Q') (w := true) (N := N) ht hn d1 d2 ⟨h1.1, y1, y2⟩ (by omega) kk
      have e0 : (if true = true then (1 : Int) else 0) = 1 := rfl
      rw [e0] at cc
      refine cc _ (fun m2 hT f2 => ?_)
      have h2 := rSt_sf (gOk_w (f := g.2.2.2.2.2.1) (p := -1) (q := 0) hg) (rCf_Sf f2) h1
      have kk := k m2 h2 (zFR_tr zFR_ran (rCf_FR f2))
      have q59 : m2 332 59 = ((369 : Nat) : Int) := mp59 h2.1
      simp only [s254_31, s254_32, s254_33, s254_34, zpu_none]
      -- what one state gives
      have s0 : (0 : Int) = zwl (sm (fun rs => if blS (taS rs) = true then sm (fun i => hF true D N (taS rs) i) 9 else 0) 0) := zwl_0.symm
      rw [s0]
      have zero47 : ∀ i, hF true D N 47 i = 0 := fun i => hF_ex d1 d2 N 47 i (by unfold tEx; simp)
      refine zforv (n := 90) (fun (v : zV) t => [zA 332, zI (N : Int), zJ (zwl (sm (fun rs => if blS (taS rs) = true then sm (fun i => hF true D N (taS rs) i) 9 else 0) t)), zU, zI (t : Nat), v]) (fun _ m' => m' = m2) ?_ ?_ zU 0 m2 (Nat.zero_le _) rfl
      · rintro v t m2 ht1 rfl ih
        have ih := fun v => ih v _ rfl
        have tv : t < 1000000 := by omega
        have n1 : ¬ (90 : Int) ≤ (t : Int) := by omega
        simp only [s254_36]
        simp only [s254_38, s254_40, s254_43, s254_44, n1, reduceIte]
        have eS : ∀ t', sm (fun rs => if blS (taS rs) = true then sm (fun i => hF true D N (taS rs) i) 9 else 0) (t' + 1) = sm (fun rs => if blS (taS rs) = true then sm (fun i => hF true D N (taS rs) i) 9 else 0) t' + if blS (taS t') = true then sm (fun i => hF true D N (taS t') i) 9 else 0 := fun _ => rfl
        rw [eS] at ih
        generalize sm (fun rs => if blS (taS rs) = true then sm (fun i => hF true D N (taS rs) i) 9 else 0) t = S at *
        -- whether the reference takes it for a BLOCK's
        have eb : ∀ i, i < 9 → (if (t : Int) = 0 ∨ (20 ≤ (t : Int) ∧ (t : Int) ≤ 39) ∨ 60 ≤ (t : Int) then zwl (hF true D N (taS t) i) else 0) = zwl (if blS (taS t) = true then hF true D N (taS t) i else 0) := fun i _ => by
          by_cases h47 : taS t = 47
          · rw [h47, zero47]
            split <;> split <;> rw [zwl_0]
          · have l := (ta_lt (rs := t)).resolve_right (by omega)
            have := sg_bl l h47
            rw [((sg_ta l h47 ht1).mp rfl).symm] at this
            by_cases hb : blS (taS t) = true
            · rw [if_pos hb, if_pos (this.mpr hb)]
            · rw [if_neg hb, if_neg (fun q => hb (this.mp q)), zwl_0]
        have c0 : S = S + sm (fun i => if blS (taS t) = true then hF true D N (taS t) i else 0) 0 := (Int.add_zero S).symm
        rw [c0]
        refine zfor (n := 9) (fun i => [zA 332, zI (N : Int), zJ (zwl (S + sm (fun i => if blS (taS t) = true then hF true D N (taS t) i else 0) i)), zU, zI (t : Nat), zI (i : Nat)]) (fun _ m' => m' = m2) ?_ ?_ 0 m2 (Nat.zero_le _) rfl
        · rintro i m2 hi rfl ih2
          have ih2 := ih2 _ rfl
          have iv : i < 1000000 := by omega
          have n2 : ¬ (8 : Int) < (i : Int) := by omega
          have hr : 0 ≤ ((90 * i + t : Nat) : Int) ∧ ((90 * i + t : Nat) : Int) < ((900 : Nat) : Int) := by omega
          have av : m2 369 (90 * i + t) = zwl (hF true D N (taS t) i) := hT t ht1 i hi
          have eb := eb i hi
          have es : sm (fun i => if blS (taS t) = true then hF true D N (taS t) i else 0) (i + 1) = sm (fun i => if blS (taS t) = true then hF true D N (taS t) i else 0) i + if blS (taS t) = true then hF true D N (taS t) i else 0 := rfl
          rw [es, ← Int.add_assoc] at ih2
          generalize sm (fun i => if blS (taS t) = true then hF true D N (taS t) i else 0) i = B at *
          simp only [s254_46]
          simp only [s254_48, s254_50, s254_53, s254_54, s254_56, n2, reduceIte, zpu_some, r_blk]
          simp only [s254_59]
          by_cases hb : (t : Int) = 0 ∨ (20 ≤ (t : Int) ∧ (t : Int) ≤ 39) ∨ 60 ≤ (t : Int)
          · rw [if_pos hb] at eb
            rw [if_pos hb, if_neg (by decide)]
            simp only [s254_62, s254_63, s254_66, s254_68, s254_70, s254_71, s254_73, s254_74, s254_75, s254_79, s254_80, s254_81, s254_84, Int.toNat_natCast, true_and, and_true, true_or, or_true, false_or, or_false, zwr_id, zpu_some, zpu_none, reduceIte, Int.reduceLE, Int.reduceLT, Int.reduceEq, Int.reduceNeg, Int.reduceAdd, Int.reduceSub, Int.reduceMul, Int.reduceToNat, Nat.reduceAdd, Nat.reduceLeDiff, Nat.reduceEqDiff, Nat.reduceLT, eq_self, ne_eq, not_false_eq_true, not_true_eq_false, t0, q59, mt369 ht, mn369 hn, hr, and_self, (show zwr (90 * (i : Int)) = ((90 * i : Nat) : Int) from zwn (by omega) (by omega)), (show zwr (((90 * i : Nat) : Int) + (t : Int)) = ((90 * i + t : Nat) : Int) from zwn (by omega) (by omega)), av, eb, zwl_acc, z1 iv]
            exact ih2
          · rw [if_neg hb] at eb
            rw [if_neg hb, if_pos rfl]
            rw [← zwl_acc, ← eb] at ih2
            simp only [s254_78, s254_79, s254_80, s254_81, s254_84, z1 iv]
            exact ih2
        · rintro m2 rfl
          have e9 : sm (fun i => if blS (taS t) = true then hF true D N (taS t) i else 0) 9 = if blS (taS t) = true then sm (fun i => hF true D N (taS t) i) 9 else 0 := by
            by_cases hb : blS (taS t) = true
            · rw [if_pos hb]; exact sm_cg (fun j _ => if_pos hb)
            · rw [if_neg hb]; exact sm_0 (fun j _ => if_neg hb)
          rw [e9]
          simp only [s254_46]
          simp only [s254_48, s254_50, s254_87, s254_90, Int.toNat_natCast, true_and, and_true, true_or, or_true, false_or, or_false, zwr_id, zpu_some, zpu_none, reduceIte, Int.reduceLE, Int.reduceLT, Int.reduceEq, Int.reduceNeg, Int.reduceAdd, Int.reduceSub, Int.reduceMul, Int.reduceToNat, Nat.reduceAdd, Nat.reduceLeDiff, Nat.reduceEqDiff, Nat.reduceLT, eq_self, ne_eq, not_false_eq_true, not_true_eq_false, Int.cast_ofNat_Int, Int.reduceLT, z1 tv]
          exact ih _
      · rintro v m2 rfl
        simp only [s254_36]
        simp only [s254_38, s254_40, s254_93, s254_94, Int.toNat_natCast, true_and, and_true, true_or, or_true, false_or, or_false, zwr_id, zpu_some, zpu_none, reduceIte, Int.reduceLE, Int.reduceLT, Int.reduceEq, Int.reduceNeg, Int.reduceAdd, Int.reduceSub, Int.reduceMul, Int.reduceToNat, Nat.reduceAdd, Nat.reduceLeDiff, Nat.reduceEqDiff, Nat.reduceLT, eq_self, ne_eq, not_false_eq_true, not_true_eq_false, Int.cast_ofNat_Int]
        have e : sm (fun rs => if blS (taS rs) = true then sm (fun i => hF true D N (taS rs) i) 9 else 0) 90 = tB D N := by
          rw [sm_ta (f := fun st => if blS st = true then sm (fun i => hF true D N st i) 9 else 0) (by
            show (if blS 47 = true then sm (fun i => hF true D N 47 i) 9 else 0) = 0
            rw [sm_0 (fun j _ => zero47 j)]
            split <;> rfl), ← tB_blS]
          refine sm_cg (fun st hst => ?_)
          by_cases hb : blS st = true
          · rw [if_pos hb, if_pos hb]
            refine hF_bF d1 d2 N (by omega) st (fun q => ?_)
            unfold blS at hb
            rw [Bool.or_eq_true, decide_eq_true_iff, decide_eq_true_iff] at hb
            omega
          · rw [if_neg hb, if_neg hb]
        rw [e]
        exact kk
    · rw [if_neg hw] at k
      simp only [s254_0, s254_1, s254_2, s254_5, s254_6, s254_7, s254_9, s254_12, s254_15, s254_18, s254_21, s254_24, Int.toNat_natCast, true_and, and_true, true_or, or_true, false_or, or_false, zwr_id, zpu_some, zpu_none, reduceIte, Int.reduceLE, Int.reduceLT, Int.reduceEq, Int.reduceNeg, Int.reduceAdd, Int.reduceSub, Int.reduceMul, Int.reduceToNat, Nat.reduceAdd, Nat.reduceLeDiff, Nat.reduceEqDiff, Nat.reduceLT, eq_self, ne_eq, not_false_eq_true, not_true_eq_false, t0, (rSt_6 h).2 D hd, r_in, hw, r_unl2, r_ref t0]
      exact k _ (rSt_ran hg h) zFR_ran
