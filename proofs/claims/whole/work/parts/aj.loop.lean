/-! the law's case of told, its loop -/
theorem lw_told {N : Nat} {L : zY} {m : zM} {g : zG} {Q : zQ} {i : Nat} {l5 l6 : zV} (hN : N < 2000000000) (hi : i + 6 ≤ N) (h : lawI N L m g) (k : lawC N L Q i) : zwp 258 971 [zA 1, zA 2, zA 332, zA 371, zI (i : Int), l5, l6] [] L m Q := by
  have t2 := lawI_2 h
  obtain ⟨hg, hC, hR, ht, hn, ⟨t1, n1⟩, t3, n3, hz⟩ := id h
  have t0 := mt332 ht
  have u1 : zwr ((i : Int) + 1) = ((i + 1 : Nat) : Int) := lw_w (c := 1) hN hi (by decide)
  have r1 : 0 ≤ ((i + 1 : Nat) : Int) ∧ ((i + 1 : Nat) : Int) < (N : Int) := lw_r (c := 1) hi (by decide)
  have u2 : zwr ((i : Int) + 2) = ((i + 2 : Nat) : Int) := lw_w (c := 2) hN hi (by decide)
  have r2 : 0 ≤ ((i + 2 : Nat) : Int) ∧ ((i + 2 : Nat) : Int) < (N : Int) := lw_r (c := 2) hi (by decide)
  simp only [s258_971, s258_972, s258_973, s258_975, s258_976, s258_977, s258_978, s258_979, s258_981, s258_982, s258_983, s258_984, Int.toNat_natCast, true_and, and_true, true_or, or_true, false_or, or_false, zwr_id, zpu_some, zpu_none, reduceIte, Int.reduceLE, Int.reduceLT, Int.reduceEq, Int.reduceNeg, Int.reduceAdd, Int.reduceSub, Int.reduceMul, Int.reduceToNat, Nat.reduceAdd, Nat.reduceLeDiff, Nat.reduceEqDiff, Nat.reduceLT, eq_self, ne_eq, not_false_eq_true, not_true_eq_false, t1, t2, n1, u1, r1, u2, r2, and_self]
  have ct := c_lawtold (sort := m 1 (i + 1)) (kq := m 1 (i + 2)) h
  cases e : sTold g (m 1 (i + 1)) (m 1 (i + 2)) with
  | some v =>
    rw [e] at ct
    rw [s258_told ct]
    have o1 : ∀ a, a ≠ 371 → zup m 371 0 v a = m a := fun a ha => zup_nf ha
    have v1 : zup m 371 0 v 371 0 = v := zup_same
    generalize zup m 371 0 v = m1 at *
    have R1 : rSt m1 g := rSt_fr hg.1 (fun a p q => o1 a (by omega)) hR
    simp only [s258_988, s258_990, s258_991, s258_992, s258_994, s258_995, s258_996, s258_997, s258_998, s258_1000, s258_1001, s258_1002, s258_1003, Int.toNat_natCast, true_and, and_true, true_or, or_true, false_or, or_false, zwr_id, zpu_some, zpu_none, reduceIte, Int.reduceLE, Int.reduceLT, Int.reduceEq, Int.reduceNeg, Int.reduceAdd, Int.reduceSub, Int.reduceMul, Int.reduceToNat, Nat.reduceAdd, Nat.reduceLeDiff, Nat.reduceEqDiff, Nat.reduceLT, eq_self, ne_eq, not_false_eq_true, not_true_eq_false, t0, t1, n1, u1, r1, u2, r2, and_self, o1 1 (by decide)]
    refine c_rtold ht hn hg.1 R1 (fun m2 R2 z2 f2 => ?_)
    rw [e] at z2 ⊢
    have z2 : m2 332 0 = 0 := z2
    have v2 : m2 371 0 = v := by rw [f2 371 (by decide)]; exact v1
    simp only [s258_1006, s258_1008, s258_1009, s258_1012, s258_1014, zpu_some, Int.toNat_natCast, true_and, and_true, true_or, or_true, false_or, or_false, zwr_id, zpu_some, zpu_none, reduceIte, Int.reduceLE, Int.reduceLT, Int.reduceEq, Int.reduceNeg, Int.reduceAdd, Int.reduceSub, Int.reduceMul, Int.reduceToNat, Nat.reduceAdd, Nat.reduceLeDiff, Nat.reduceEqDiff, Nat.reduceLT, eq_self, ne_eq, not_false_eq_true, not_true_eq_false, t0, r_thrown ht, z2]
    have r3 : (0 : Int) < ((1 : Nat) : Int) := by decide
    simp only [s258_1019, s258_1021, s258_1024, s258_1025, s258_1026, s258_1027, s258_1029, Int.toNat_natCast, true_and, and_true, true_or, or_true, false_or, or_false, zwr_id, zpu_some, zpu_none, reduceIte, Int.reduceLE, Int.reduceLT, Int.reduceEq, Int.reduceNeg, Int.reduceAdd, Int.reduceSub, Int.reduceMul, Int.reduceToNat, Nat.reduceAdd, Nat.reduceLeDiff, Nat.reduceEqDiff, Nat.reduceLT, eq_self, ne_eq, not_false_eq_true, not_true_eq_false, t3, n3, r3, v2, Option.getD_some]
    rw [s258_1030, if_neg (Int.lt_irrefl _), if_pos rfl, s258_1031, if_pos rfl, s258_1036]
    exact lawC_0 k ⟨hg, zCI_fr (fun a ha => by rw [f2 a (by omega), o1 a (by omega)]) hC, R2, ht, hn, ⟨t1, n1⟩, t3, n3, fun j => by rw [f2 1 (by decide), o1 1 (by decide)]; exact hz j⟩
  | none =>
    rw [e] at ct
    rw [s258_told ct]
    have eL : ((L.1, (L.2.1 + 1, L.2.2 + 6)) : zY).1 = L.1 := rfl
    have ht' := zMt_L eL ht
    have hn' := zMn_L eL hn
    have hC' := zCI_L (m := m) (g := g) eL hC
    have t1' : zt (L.1, (L.2.1 + 1, L.2.2 + 6)) 1 = 20 := t1
    have n1' : zn (L.1, (L.2.1 + 1, L.2.2 + 6)) 1 = N := n1
    have t3' : zt (L.1, (L.2.1 + 1, L.2.2 + 6)) 371 = 21 := t3
    have n3' : zn (L.1, (L.2.1 + 1, L.2.2 + 6)) 371 = 1 := n3
    have k' : ∀ (m' : zM) (l5 l6 : zV), lawI N (L.1, (L.2.1 + 1, L.2.2 + 6)) m' g → zwp 258 1065 [zA 1, zA 2, zA 332, zA 371, zI (i : Int), l5, l6] [] (L.1, (L.2.1 + 1, L.2.2 + 6)) m' Q := fun m' l5 l6 z => k _ m' g l5 l6 rfl (Nat.le_refl _) (Nat.le_refl _) z
    generalize ((L.1, (L.2.1 + 1, L.2.2 + 6)) : zY) = L1 at *
    have t0' := mt332 ht'
    simp only [s258_988, s258_990, s258_991, s258_992, s258_994, s258_995, s258_996, s258_997, s258_998, s258_1000, s258_1001, s258_1002, s258_1003, Int.toNat_natCast, true_and, and_true, true_or, or_true, false_or, or_false, zwr_id, zpu_some, zpu_none, reduceIte, Int.reduceLE, Int.reduceLT, Int.reduceEq, Int.reduceNeg, Int.reduceAdd, Int.reduceSub, Int.reduceMul, Int.reduceToNat, Nat.reduceAdd, Nat.reduceLeDiff, Nat.reduceEqDiff, Nat.reduceLT, eq_self, ne_eq, not_false_eq_true, not_true_eq_false, t0', t1', n1', u1, r1, u2, r2, and_self]
    refine c_rtold ht' hn' hg.1 hR (fun m2 R2 z2 f2 => ?_)
    rw [e] at z2 ⊢
    have z2 : m2 332 0 = 1 := z2
    simp only [s258_1006, s258_1008, s258_1009, s258_1012, s258_1014, zpu_some, Int.toNat_natCast, true_and, and_true, true_or, or_true, false_or, or_false, zwr_id, zpu_some, zpu_none, reduceIte, Int.reduceLE, Int.reduceLT, Int.reduceEq, Int.reduceNeg, Int.reduceAdd, Int.reduceSub, Int.reduceMul, Int.reduceToNat, Nat.reduceAdd, Nat.reduceLeDiff, Nat.reduceEqDiff, Nat.reduceLT, eq_self, ne_eq, not_false_eq_true, not_true_eq_false, t0', r_thrown ht', z2]
    simp only [s258_1019, s258_1021, s258_1036, Int.toNat_natCast, true_and, and_true, true_or, or_true, false_or, or_false, zwr_id, zpu_some, zpu_none, reduceIte, Int.reduceLE, Int.reduceLT, Int.reduceEq, Int.reduceNeg, Int.reduceAdd, Int.reduceSub, Int.reduceMul, Int.reduceToNat, Nat.reduceAdd, Nat.reduceLeDiff, Nat.reduceEqDiff, Nat.reduceLT, eq_self, ne_eq, not_false_eq_true, not_true_eq_false]
    exact k' _ _ _ ⟨hg, zCI_fr (fun a ha => by rw [f2 a (by omega)]) hC', R2, ht', hn', ⟨t1', n1'⟩, t3', n3', fun j => by rw [f2 1 (by decide)]; exact hz j⟩
theorem ite_both {c : Prop} [Decidable c] {A B : Prop} (a : A) (b : B) : if c then A else B := by
  by_cases h : c
  · rw [if_pos h]; exact a
  · rw [if_neg h]; exact b
theorem lw_all {N : Nat} {L : zY} {m : zM} {g : zG} {Q : zQ} {i : Nat} {x : Int} {l5 l6 : zV} (hN : N < 2000000000) (hi : i + 6 ≤ N) (h : lawI N L m g) (k : lawC N L Q i) : zwp 258 40 [zA 1, zA 2, zA 332, zA 371, zI (i : Int), l5, l6] [zI x] L m Q := by
  rw [s258_40]
  refine ite_both (lw_feed hN hi h k) ?_
  refine ite_both (lw_script hN hi h k) ?_
  refine ite_both (lw_fault hN hi h k) ?_
  refine ite_both (lw_where hN hi h k) ?_
  refine ite_both (lw_about hN hi h k) ?_
  refine ite_both (lw_letter hN hi h k) ?_
  refine ite_both (lw_code hN hi h k) ?_
  refine ite_both (lw_parts hN hi h k) ?_
  refine ite_both (lw_spelt hN hi h k) ?_
  refine ite_both (lw_key hN hi h k) ?_
  refine ite_both (lw_brk hN hi h k) ?_
  refine ite_both (lw_type hN hi h k) ?_
  refine ite_both (lw_back hN hi h k) ?_
  refine ite_both (lw_del hN hi h k) ?_
  refine ite_both (lw_goes hN hi h k) ?_
  refine ite_both (lw_tidy hN hi h k) ?_
  refine ite_both (lw_codes hN hi h k) ?_
  refine ite_both (lw_undo hN hi h k) ?_
  refine ite_both (lw_at hN hi h k) ?_
  refine ite_both (lw_of hN hi h k) ?_
  refine ite_both (lw_item hN hi h k) ?_
  refine ite_both (lw_within hN hi h k) ?_
  refine ite_both (lw_needed hN hi h k) ?_
  refine ite_both (lw_bare hN hi h k) ?_
  refine ite_both (lw_would hN hi h k) ?_
  refine ite_both (lw_seek hN hi h k) ?_
  refine ite_both (lw_ranked hN hi h k) ?_
  refine ite_both (lw_ways hN hi h k) ?_
  refine ite_both (lw_whole hN hi h k) ?_
  refine ite_both (lw_told hN hi h k) ?_
  refine ite_both (lw_size hN hi h k) ?_
  refine ite_both (lw_trouble hN hi h k) ?_
  exact lawC_0 k h
/-- the law, from the head of its loop -/
theorem lw_loop {N : Nat} {Q : zQ} (hN : N < 2000000000) : ∀ (d j : Nat) (L : zY) (m : zM) (g : zG) (l5 l6 : zV), N ≤ 6 * (j + d) + 5 → lawI N L m g → (∀ L' m', L'.1 = L.1 → L'.2.1 ≤ L.2.1 + d → L'.2.2 ≤ L.2.2 + 6 * d → Q (some (zI 1)) L' m') → zwp 258 23 [zA 1, zA 2, zA 332, zA 371, zI ((6 * j : Nat) : Int), l5, l6] [] L m Q
  | d, j, L, m, g, l5, l6, hd, h, k => by
    obtain ⟨t1, n1⟩ := h.2.2.2.2.2.1
    have tr : (20 : Nat) ≤ 20 ∧ (20 : Nat) ≤ 23 := by decide
    by_cases hj : 6 * j + 6 ≤ N
    · have u1 : zwr ((N : Int) - 6) = ((N - 6 : Nat) : Int) := zwn (by omega) (by omega)
      have c1 : ¬ ((N - 6 : Nat) : Int) < ((6 * j : Nat) : Int) := by omega
      have r1 : 0 ≤ ((6 * j : Nat) : Int) ∧ ((6 * j : Nat) : Int) < (N : Int) := by omega
      simp only [s258_23, s258_25, s258_26, s258_27, s258_29, s258_30, s258_33, s258_34, s258_36, s258_37, s258_39, Int.toNat_natCast, true_and, and_true, true_or, or_true, false_or, or_false, zwr_id, zpu_some, zpu_none, reduceIte, Int.reduceLE, Int.reduceLT, Int.reduceEq, Int.reduceNeg, Int.reduceAdd, Int.reduceSub, Int.reduceMul, Int.reduceToNat, Nat.reduceAdd, Nat.reduceLeDiff, Nat.reduceEqDiff, Nat.reduceLT, eq_self, ne_eq, not_false_eq_true, not_true_eq_false, t1, n1, u1, c1, r1, and_self, tr]
      have u2 : zwr (((6 * j : Nat) : Int) + 6) = ((6 * (j + 1) : Nat) : Int) := zwn (by omega) (by omega)
      cases d with
      | zero => omega
      | succ d =>
        refine lw_all hN hj h (fun L' m' g' l5' l6' e1 e2 e3 h' => ?_)
        rw [s258_1065, s258_1068, u2]
        exact lw_loop hN d (j + 1) L' m' g' l5' l6' (by omega) h' (fun L2 m2 q1 q2 q3 => k L2 m2 (q1.trans e1) (by omega) (by omega))
    · have c1 : zwr ((N : Int) - 6) < ((6 * j : Nat) : Int) := by
        rw [zwr_id (by omega) (by omega)]
        omega
      simp only [s258_23, s258_25, s258_26, s258_27, s258_29, s258_30, s258_1071, s258_1072, Int.toNat_natCast, true_and, and_true, true_or, or_true, false_or, or_false, zwr_id, zpu_some, zpu_none, reduceIte, Int.reduceLE, Int.reduceLT, Int.reduceEq, Int.reduceNeg, Int.reduceAdd, Int.reduceSub, Int.reduceMul, Int.reduceToNat, Nat.reduceAdd, Nat.reduceLeDiff, Nat.reduceEqDiff, Nat.reduceLT, eq_self, ne_eq, not_false_eq_true, not_true_eq_false, t1, n1, c1, tr]
      exact k L m rfl (Nat.le_add_right _ _) (Nat.le_add_right _ _)
