theorem zup_zup {m : zM} {a k : Nat} {v w : Int} : zup (zup m a k v) a k w = zup m a k w := by
  funext c j
  unfold zup
  by_cases h : c = a ∧ j = k
  · rw [if_pos h, if_pos h]
  · rw [if_neg h, if_neg h, if_neg h]
theorem ran_1 {m : zM} {v w : Int} : zup (ran m v) 332 1 w = ran m w := zup_zup
theorem rBf_Sf {m m' : zM} (h : rBf 1 m m') : rSf m m' := fun a k hk => h a k (fun hi => by
  rcases hi with ⟨rfl, rfl | rfl⟩ | hi | hi | hi
  · exact rKp_x rfl hk
  · exact rKp_x rfl hk
  · rcases hk with hk | hk | hk | hk | hk | hk <;> omega
  · rcases hk with hk | hk | hk | hk | hk | hk <;> omega
  · rcases hk with hk | hk | hk | hk | hk | hk <;> omega)
theorem rBf_FR {b : Nat} {m m' : zM} (h : rBf b m m') : zFR 332 370 m m' := fun a ha => rBf_row h (by omega) (by omega)
/-- scratch rows -/
theorem rSf_s {m m' : zM} (h : ∀ a, (a < 360 ∨ 363 < a) → (a < 367 ∨ 370 < a) → m' a = m a) : rSf m m' := fun a k hk => by
  rw [h a (by rcases hk with hk | hk | hk | hk | hk | hk <;> omega) (by rcases hk with hk | hk | hk | hk | hk | hk <;> omega)]
theorem era_s {xs : List Int} {i c : Nat} (hi : i < xs.length) : (xs.take (i + 1)).eraseIdx c = (xs.take i).eraseIdx c ++ if i = c then [] else [xs[i]] := by
  have lt : (xs.take i).length = i := by rw [List.length_take]; omega
  rw [take_s hi]
  by_cases h : c < i
  · rw [List.eraseIdx_append_of_lt_length (by omega), if_neg (by omega)]
  · rw [List.eraseIdx_append_of_length_le (by omega), lt, List.eraseIdx_of_length_le (l := xs.take i) (by omega)]
    by_cases e : i = c
    · rw [if_pos e, show c - i = 0 by omega]; rfl
    · rw [if_neg e]
      obtain ⟨d, hd⟩ : ∃ d, c - i = d + 1 := ⟨c - i - 1, by omega⟩
      rw [hd]; rfl
theorem era_len {xs : List Int} {i c : Nat} (hi : i ≤ xs.length) : ((xs.take i).eraseIdx c).length ≤ i := by
  have := List.length_eraseIdx_le (xs.take i) c
  rw [List.length_take] at this
  omega
/-- ITEMS LIKE in order, as many: the class's way and the reference's -/
theorem due_iff {D : zD} {I J : List zIt} (hI : ∀ x ∈ I, itR D x) (hJ : ∀ x ∈ J, itR D x) : (I.length = J.length ∧ fA I J = J.length) ↔ I.map cOf = J.map cOf := by
  constructor
  · rintro ⟨h1, h2⟩
    refine (map_eq_iff h1).mpr (fun i y1 y2 => ?_)
    unfold fA at h2
    rw [h1, Nat.min_self] at h2
    have := fC_all.mp h2 i y2
    rw [getD_lt y1, getD_lt y2, itEq_c (hI _ (List.getElem_mem y1)) (hJ _ (List.getElem_mem y2))] at this
    exact of_decide_eq_true this
  · intro h
    have h1 : I.length = J.length := by have := congrArg List.length h; rw [List.length_map, List.length_map] at this; exact this
    refine ⟨h1, ?_⟩
    unfold fA
    rw [h1, Nat.min_self]
    refine fC_all.mpr (fun i hi => ?_)
    have y1 : i < I.length := by omega
    rw [getD_lt y1, getD_lt hi, itEq_c (hI _ (List.getElem_mem y1)) (hJ _ (List.getElem_mem hi))]
    exact decide_eq_true ((map_eq_iff h1).mp h i y1 hi)
theorem kRun_R {D : zD} {R : List Int} (hD : dOk D) (hR : ∀ x ∈ R, gSg D x = true) : ∀ x ∈ msI (kRun (zPof D) R), itR D x := fun x hx => ((kRun_I hD hR).1 x hx).1
theorem c_rneeded {L : zY} {m : zM} {Q : zQ} {g : zG} {n : Int} (ht : zMt L) (hn : zMn L) (hg : gOk g) (h : rSt m g) (k : ∀ m', rSt m' (sNeeded g n).2 → zFR 332 370 m m' → Q (some (zI (sNeeded g n).1)) L m') : zwp 238 0 [zA 332, zI n, zU, zU] [] L m Q := by
  have t0 := mt332 ht
  cases hd : gD g with
  | none =>
    have e : sNeeded g n = gN g 1 := by unfold sNeeded; rw [(rs_R0 hg hd).1]; exact if_neg (by show ¬ (0 ≤ n ∧ n < 0); omega)
    rw [e] at k
    simp only [s238_0, s238_1, s238_2, s238_3, s238_6, s238_9, s238_12, s238_15, s238_16, Int.toNat_natCast, true_and, and_true, true_or, or_true, false_or, or_false, zwr_id, zpu_some, zpu_none, reduceIte, Int.reduceLE, Int.reduceLT, Int.reduceEq, Int.reduceNeg, Int.reduceAdd, Int.reduceSub, Int.reduceMul, Int.reduceToNat, Nat.reduceAdd, Nat.reduceLeDiff, Nat.reduceEqDiff, Nat.reduceLT, eq_self, ne_eq, not_false_eq_true, not_true_eq_false, t0, r_place0 ht ((rSt_6 h).1 hd), r_unl, r_ref t0]
    exact k _ (rSt_ran hg h) zFR_ran
  | some D =>
    obtain ⟨d1, d2, d3, d4, d5, d6, d7, ⟨d8, d9, d10⟩, d11, d12, d13, eI⟩ := rs_D hg h hd
    have rp := fun Q' : zQ => r_place1 (Q := Q') (n := n) ht ((rSt_6 h).2 D hd) h.2.2.2.2.2.1.2.1 d4
    by_cases hw : 0 ≤ n ∧ n < ((gR g).length : Int)
    · rw [if_pos hw] at rp
      obtain ⟨c, rfl⟩ : ∃ c : Nat, n = (c : Int) := ⟨n.toNat, by omega⟩
      have hc : c < (gR g).length := by omega
      have h1 := rSt_ran (why := 0) hg h
      have hg1 : gOk (g.1, g.2.1, g.2.2.1, g.2.2.2.1, g.2.2.2.2.1, g.2.2.2.2.2.1, -1, 0) := gOk_w hg
      have q31 : ran m 0 332 31 = ((348 : Nat) : Int) := mp31 h1.1
      have hr : 0 ≤ (c : Int) ∧ (c : Int) < ((80 : Nat) : Int) := by omega
      have hA : zAL (ran m 0) 348 0 (gR g) := h1.2.2.2.2.2.1.1
      have gv := zAL_get0 hA hc
      simp only [s238_0, s238_1, s238_2, s238_3, s238_6, s238_9, s238_12, s238_15, s238_16, s238_17, s238_18, s238_21, s238_22, s238_23, Int.toNat_natCast, true_and, and_true, true_or, or_true, false_or, or_false, zwr_id, zpu_some, zpu_none, reduceIte, Int.reduceLE, Int.reduceLT, Int.reduceEq, Int.reduceNeg, Int.reduceAdd, Int.reduceSub, Int.reduceMul, Int.reduceToNat, Nat.reduceAdd, Nat.reduceLeDiff, Nat.reduceEqDiff, Nat.reduceLT, eq_self, ne_eq, not_false_eq_true, not_true_eq_false, t0, rp, r_unl, r_ref t0, q31, mt348 ht, mn348 hn, hr, and_self, gv]
      simp only [s238_25]
      have es : sNeeded g (c : Int) = if (gR g).getD c 0 = 124 then (if (msI (kRun (oP (gD g)) (gDel (gR g) c))).length = (msI (gI g)).length ∧ fA (msI (kRun (oP (gD g)) (gDel (gR g) c))) (msI (gI g)) = (msI (gI g)).length then gA g 0 else gA g 1) else gN g 5 := if_pos hw
      rw [es] at k
      rw [getD_lt hc] at k
      by_cases h124 : (gR g)[c] = 124
      · rw [if_pos h124] at k ⊢
        have eP : oP (gD g) = zPof D := by rw [hd]; rfl
        rw [eP] at k
        have f0 : zFR 332 370 m (ran m 0) := zFR_ran
        have h32 : ran m 0 332 32 = ((gR g).length : Int) := h1.2.2.2.2.2.1.2.1
        simp only [s238_34, s238_35, s238_36, s238_37]
        generalize ran m 0 = m1 at *
        refine zfor (n := (gR g).length) (fun i => [zA 332, zI (c : Int), zI (((gR g).take i).eraseIdx c).length, zI (i : Nat)]) (fun i m' => zAL m' 362 0 (((gR g).take i).eraseIdx c) ∧ ∀ a, a ≠ 362 → m' a = m1 a) ?_ ?_ 0 m1 (Nat.zero_le _) ⟨by rw [List.take_zero]; exact zAL_nil, fun _ _ => rfl⟩
        · rintro i m2 hi ⟨g2, f2⟩ ih
          have n1 : ¬ ((gR g).length : Int) ≤ (i : Int) := by omega
          have iv : i < 1000000 := by omega
          have a32 : m2 332 32 = ((gR g).length : Int) := by rw [f2 332 (by decide)]; exact h32
          have a31 : m2 332 31 = ((348 : Nat) : Int) := by rw [f2 332 (by decide)]; exact q31
          have a49 : m2 332 49 = ((362 : Nat) : Int) := by rw [f2 332 (by decide)]; exact mp49 h1.1
          have av : m2 348 i = (gR g)[i] := by rw [f2 348 (by decide)]; exact zAL_get0 hA hi
          have le := era_len (xs := gR g) (i := i) (c := c) (by omega)
          rw [era_s hi] at ih
          have pu := zAL_push (x := (gR g)[i]) g2
          generalize ((gR g).take i).eraseIdx c = E at *
          simp only [s238_38]
          simp only [s238_39, s238_40, s238_43, s238_46, s238_47, Int.toNat_natCast, true_and, and_true, true_or, or_true, false_or, or_false, zwr_id, zpu_some, zpu_none, reduceIte, Int.reduceLE, Int.reduceLT, Int.reduceEq, Int.reduceNeg, Int.reduceAdd, Int.reduceSub, Int.reduceMul, Int.reduceToNat, Nat.reduceAdd, Nat.reduceLeDiff, Nat.reduceEqDiff, Nat.reduceLT, eq_self, ne_eq, not_false_eq_true, not_true_eq_false, t0, a32, n1]
          simp only [s238_48]
          by_cases e : i = c
          · rw [if_pos (by omega)]
            rw [if_pos e, List.append_nil] at ih
            simp only [s238_66, s238_69, z1 iv]
            exact ih m2 ⟨g2, f2⟩
          · rw [if_neg (by omega)]
            rw [if_neg e] at ih
            have hr1 : 0 ≤ (i : Int) ∧ (i : Int) < ((80 : Nat) : Int) := by omega
            have hr2 : 0 ≤ (E.length : Int) ∧ (E.length : Int) < ((400 : Nat) : Int) := by omega
            simp only [s238_51, s238_52, s238_55, s238_56, s238_57, s238_60, s238_61, s238_62, s238_63, s238_66, s238_69, Int.toNat_natCast, true_and, and_true, true_or, or_true, false_or, or_false, zwr_id, zpu_some, zpu_none, reduceIte, Int.reduceLE, Int.reduceLT, Int.reduceEq, Int.reduceNeg, Int.reduceAdd, Int.reduceSub, Int.reduceMul, Int.reduceToNat, Nat.reduceAdd, Nat.reduceLeDiff, Nat.reduceEqDiff, Nat.reduceLT, eq_self, ne_eq, not_false_eq_true, not_true_eq_false, t0, a49, a31, mt348 ht, mn348 hn, mt362 ht, mn362 hn, hr1, hr2, and_self, av, (show zwr ((E.length : Int) + 1) = ((E.length + 1 : Nat) : Int) from zwn (by omega) (by omega)), z1 iv]
            rw [Nat.zero_add] at pu
            rw [List.length_append] at ih
            exact ih _ ⟨pu, fun a ha => by rw [zup_nf ha]; exact f2 a ha⟩
        · rintro m2 ⟨g2, f2⟩
          rw [List.take_length] at g2
          rw [List.take_length]
          have eD : (gR g).eraseIdx c = gDel (gR g) c := List.eraseIdx_eq_take_drop_succ _ _
          rw [eD] at g2 ⊢
          have n1 : ((gR g).length : Int) ≤ ((gR g).length : Int) := by omega
          have a32 : m2 332 32 = ((gR g).length : Int) := by rw [f2 332 (by decide)]; exact h32
          have a49 : m2 332 49 = ((362 : Nat) : Int) := by rw [f2 332 (by decide)]; exact mp49 h1.1
          have s2 : rSf m1 m2 := rSf_s (fun a p q => f2 a (by omega))
          have h2 := rSt_sf hg1 s2 h1
          obtain ⟨b1, b2, b3⟩ := h2.2.2.2.2.2.2.2 D hd
          have dl : (gDel (gR g) c).length ≤ 80 := by unfold gDel; rw [List.length_append, List.length_take, List.length_drop]; omega
          have dg : ∀ y ∈ gDel (gR g) c, gSg D y = true := fun y hy => by
            unfold gDel at hy
            rcases List.mem_append.mp hy with q | q
            · exact d3 y (List.mem_of_mem_take q)
            · exact d3 y (List.mem_of_mem_drop q)
          have mk := fun Q' : zQ => fun kq => c_rmakes (Q := Q') (b := 1) (a := 362) (xs := gDel (gR g) c) d1 ht hn (by decide) ⟨h2.1, b1, b2⟩ (by decide) (mt362 ht) (by rw [mn362 hn]; omega) g2 (by omega) dg kq
          simp only [Int.cast_ofNat_Int] at mk
          simp only [s238_38]
          simp only [s238_39, s238_40, s238_43, s238_72, s238_73, s238_74, s238_75, s238_78, s238_79, Int.toNat_natCast, true_and, and_true, true_or, or_true, false_or, or_false, zwr_id, zpu_some, zpu_none, reduceIte, Int.reduceLE, Int.reduceLT, Int.reduceEq, Int.reduceNeg, Int.reduceAdd, Int.reduceSub, Int.reduceMul, Int.reduceToNat, Nat.reduceAdd, Nat.reduceLeDiff, Nat.reduceEqDiff, Nat.reduceLT, eq_self, ne_eq, not_false_eq_true, not_true_eq_false, t0, a32, n1, a49]
          refine mk _ (fun m3 c3 f3 => ?_)
          have h3 := rSt_sf hg1 (rBf_Sf f3) h2
          obtain ⟨-, -, b3'⟩ := h3.2.2.2.2.2.2.2 D hd
          have b3i : rBI m3 0 (msI (gI g)) := by rw [eI]; exact b3'.1
          have h49 : m3 349 0 = ((msI (gI g)).length : Int) := b3i.1
          have q34 : m3 332 34 = ((349 : Nat) : Int) := mp34 h3.1
          have b0 : (0 : Int) < ((3 : Nat) : Int) := by decide
          have kr := kRun_R (R := gDel (gR g) c) d1 dg
          have kl := (gI_len (R := gDel (gR g) c) d1 (by omega)).1
          have du := fun Q' : zQ => r_due (Q := Q') (c := 0) (n := (msI (gI g)).length) ht hn h3.1 (by decide) c3.2.2.1.1 (rBC_of c3.2.2.1) (rBC_of b3i) (by omega) (Nat.le_refl _) (fun x hx => (kr x hx).2.2.2.1)
          rw [List.take_length, ← ite_iff (due_iff kr d11)] at du
          simp only [Int.cast_ofNat_Int] at du
          have fr : zFR 332 370 m m3 := zFR_tr f0 (zFR_tr (fun a ha => f2 a (by omega)) (rBf_FR f3))
          by_cases hq : (msI (kRun (zPof D) (gDel (gR g) c))).length = (msI (gI g)).length ∧ fA (msI (kRun (zPof D) (gDel (gR g) c))) (msI (gI g)) = (msI (gI g)).length
          · rw [if_pos hq] at k du
            simp only [s238_82, s238_83, s238_84, s238_85, s238_88, s238_89, s238_90, s238_93, s238_96, s238_97, s238_101, Int.toNat_natCast, true_and, and_true, true_or, or_true, false_or, or_false, zwr_id, zpu_some, zpu_none, reduceIte, Int.reduceLE, Int.reduceLT, Int.reduceEq, Int.reduceNeg, Int.reduceAdd, Int.reduceSub, Int.reduceMul, Int.reduceToNat, Nat.reduceAdd, Nat.reduceLeDiff, Nat.reduceEqDiff, Nat.reduceLT, eq_self, ne_eq, not_false_eq_true, not_true_eq_false, t0, q34, mt349 ht, mn349 hn, b0, h49, du]
            exact k m3 h3 fr
          · rw [if_neg hq] at k du
            simp only [s238_82, s238_83, s238_84, s238_85, s238_88, s238_89, s238_90, s238_93, s238_100, s238_101, Int.toNat_natCast, true_and, and_true, true_or, or_true, false_or, or_false, zwr_id, zpu_some, zpu_none, reduceIte, Int.reduceLE, Int.reduceLT, Int.reduceEq, Int.reduceNeg, Int.reduceAdd, Int.reduceSub, Int.reduceMul, Int.reduceToNat, Nat.reduceAdd, Nat.reduceLeDiff, Nat.reduceEqDiff, Nat.reduceLT, eq_self, ne_eq, not_false_eq_true, not_true_eq_false, t0, q34, mt349 ht, mn349 hn, b0, h49, du]
            exact k m3 h3 fr
      · rw [if_neg h124] at k ⊢
        simp only [s238_28, s238_29, s238_30, s238_33, Int.toNat_natCast, true_and, and_true, true_or, or_true, false_or, or_false, zwr_id, zpu_some, zpu_none, reduceIte, Int.reduceLE, Int.reduceLT, Int.reduceEq, Int.reduceNeg, Int.reduceAdd, Int.reduceSub, Int.reduceMul, Int.reduceToNat, Nat.reduceAdd, Nat.reduceLeDiff, Nat.reduceEqDiff, Nat.reduceLT, eq_self, ne_eq, not_false_eq_true, not_true_eq_false, t0, r_no t0, ran_1]
        exact k _ (rSt_ran hg h) zFR_ran
    · have e : sNeeded g n = gN g 1 := if_neg hw
      rw [e] at k
      rw [if_neg hw] at rp
      simp only [s238_0, s238_1, s238_2, s238_3, s238_6, s238_9, s238_12, s238_15, s238_16, Int.toNat_natCast, true_and, and_true, true_or, or_true, false_or, or_false, zwr_id, zpu_some, zpu_none, reduceIte, Int.reduceLE, Int.reduceLT, Int.reduceEq, Int.reduceNeg, Int.reduceAdd, Int.reduceSub, Int.reduceMul, Int.reduceToNat, Nat.reduceAdd, Nat.reduceLeDiff, Nat.reduceEqDiff, Nat.reduceLT, eq_self, ne_eq, not_false_eq_true, not_true_eq_false, t0, rp, r_unl, r_ref t0]
      exact k _ (rSt_ran hg h) zFR_ran
