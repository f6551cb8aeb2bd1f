theorem c_lengthen {L : zY} {m : zM} {Q : zQ} {D : zD} {n r lr br lbr : Nat} {R : Nat → Nat → Int} {B : Nat → Int} (hn : n ≤ 8) (hW : zTw L m D r lr br lbr) (hR : zTab m r R) (hB : ∀ s, s < 66 → m br s = zwl (B s)) (k : ∀ m', zTw L m' D lr r lbr br → zTab m' lr (fun s i => sm (fun st => sm (fun k => pA D R n st k s i) 26) 66) → (∀ s, s < 66 → m' lbr s = zwl (sm (fun st => sm (fun k => pB D B st k s) 26) 66)) → (∀ a, a ≠ 64 → (a < lr + 1 ∨ lr + 66 < a) → a ≠ lbr → m' a = m a) → (∀ i, 5 ≤ i → m' 64 i = m 64 i) → Q none L m') : zwp 97 0 [zA 64, zI (n : Nat), zU, zU, zU] [] L m Q := by
  obtain ⟨w0, w1', c1, c2, c3, c4, c5, hTr, hTl, hb1, hb2, t64, -⟩ := id hW
  have lr2 : lr = 132 ∨ lr = 199 := by omega
  simp only [s97_0, s97_1, s97_2, s97_5, Int.toNat_natCast, true_and, and_true, true_or, or_true, false_or, or_false, zwr_id, zpu_some, zpu_none, reduceIte, Int.reduceLE, Int.reduceLT, Int.reduceEq, Int.reduceNeg, Int.reduceAdd, Int.reduceSub, Int.reduceMul, Int.reduceToNat, Nat.reduceAdd, Nat.reduceLeDiff, Nat.reduceEqDiff, Nat.reduceLT, eq_self, ne_eq, not_false_eq_true, not_true_eq_false, t64, c2]
  refine c_clrR lr2 t64 hTl (fun m1 g1 f1 => ?_)
  have c4' : m1 64 4 = (lbr : Int) := by rw [zFR_at f1 (by omega)]; exact c4
  simp only [s97_8, s97_9, s97_12, s97_13, Int.toNat_natCast, true_and, and_true, true_or, or_true, false_or, or_false, zwr_id, zpu_some, zpu_none, reduceIte, Int.reduceLE, Int.reduceLT, Int.reduceEq, Int.reduceNeg, Int.reduceAdd, Int.reduceSub, Int.reduceMul, Int.reduceToNat, Nat.reduceAdd, Nat.reduceLeDiff, Nat.reduceEqDiff, Nat.reduceLT, eq_self, ne_eq, not_false_eq_true, not_true_eq_false, t64, c4']
  refine c_fillJ hb2.1 hb2.2 (by decide) (by omega) (fun m2 g2 f2 => ?_)
  simp only [s97_16, s97_17, zpu_none]
  have fr2 : ∀ a, (a < lr + 1 ∨ lr + 66 < a) → a ≠ lbr → m2 a = m a := fun a q1 q2 => by rw [f2 a q2, zFR_at f1 q1]
  have hW2 : zTw L m2 D r lr br lbr := zTw_eq (fun a q1 q2 => fr2 a (by omega) (by omega)) hW
  refine c_lenL hn hW2 (fun s hs i hi => by rw [fr2 _ (by omega) (by omega)]; exact hR s hs i hi) (fun s hs => by rw [fr2 br (by omega) (by omega)]; exact hB s hs) (fun s hs i hi => by rw [f2 _ (by omega)]; exact g1 s hs i hi) (fun s hs => by rw [zwl_0]; exact g2 s hs) (fun m3 l2 l3 l4 hW3 hR3 hT3 hB3 f3 => ?_)
  obtain ⟨-, -, d1, d2, d3, d4, d5, hTr3, hTl3, -, -, -, h65a, h65, hmv⟩ := id hW3
  have ri := zt_in (L := L) (a := r) (by rw [hTr.1]; decide)
  have li := zt_in (L := L) (a := lr) (by rw [hTl.1]; decide)
  have bi := zt_in (L := L) (a := br) (by rw [hb1.1]; decide)
  have lbi := zt_in (L := L) (a := lbr) (by rw [hb2.1]; decide)
  simp (disch := decide) only [s97_81, s97_82, s97_85, s97_86, s97_87, s97_88, s97_91, s97_94, s97_95, s97_96, s97_99, s97_100, s97_103, s97_104, s97_105, s97_106, s97_109, s97_112, s97_113, s97_114, s97_117, Int.toNat_natCast, true_and, and_true, zpu_some, zpu_none, t64, d1, d2, d3, d4, ri, li, bi, lbi, and_self, zup_nk, zup_same]
  have u : ∀ a, a ≠ 64 → zup (zup (zup (zup m3 64 1 (lr : Int)) 64 2 (r : Int)) 64 3 (lbr : Int)) 64 4 (br : Int) a = m3 a := fun a ha => by rw [zup_nf ha, zup_nf ha, zup_nf ha, zup_nf ha]
  have uo : ∀ i, i ≠ 1 → i ≠ 2 → i ≠ 3 → i ≠ 4 → zup (zup (zup (zup m3 64 1 (lr : Int)) 64 2 (r : Int)) 64 3 (lbr : Int)) 64 4 (br : Int) 64 i = m3 64 i := fun i q1 q2 q3 q4 => by rw [zup_nk q4, zup_nk q3, zup_nk q2, zup_nk q1]
  refine k _ ⟨by omega, by omega, ?_, ?_, ?_, zup_same, ?_, ⟨hTl.1, hTl.2.1, fun j hj => by rw [u lr (by omega)]; exact hTl3.2.2 j hj⟩, ⟨hTr.1, hTr.2.1, fun j hj => by rw [u r (by omega)]; exact hTr3.2.2 j hj⟩, hb2, hb1, t64, h65a, fun j hj => by rw [u 65 (by decide)]; exact h65 j hj, fun st hst j hj => by rw [u _ (by omega)]; exact hmv st hst j hj⟩ (fun s hs i hi => by rw [u _ (by omega)]; exact hT3 s hs i hi) (fun s hs => by rw [u _ (by omega)]; exact hB3 s hs) (fun a q1 q2 q3 => by rw [u a q1, f3 a q2 q3, fr2 a q2 q3]) (fun i hi => by rw [uo i (by omega) (by omega) (by omega) (by omega), f3 64 (by omega) (by omega), fr2 64 (by omega) (by omega)])
  · rw [zup_nk (by decide), zup_nk (by decide), zup_nk (by decide), zup_same]
  · rw [zup_nk (by decide), zup_nk (by decide), zup_same]
  · rw [zup_nk (by decide), zup_same]
  · rw [uo 0 (by decide) (by decide) (by decide) (by decide)]; exact d5
/-! note() -/
theorem c_note {L : zY} {m : zM} {Q : zQ} {D : zD} {n r lr br lbr : Nat} {R : Nat → Nat → Int} {B : Nat → Int} (hn : n < 9) (hW : zTw L m D r lr br lbr) (hR : zTab m r R) (hB : ∀ s, s < 66 → m br s = zwl (B s)) (p5 : m 64 5 = 268) (p6 : m 64 6 = 278) (t268 : zt L 268 = 23 ∧ zn L 268 = 9) (t278 : zt L 278 = 21 ∧ zn L 278 = 9) (h268 : ∀ j, j < 9 → m 268 j = ((269 + j : Nat) : Int) ∧ zt L (269 + j) = 21 ∧ zn L (269 + j) = 9) (k : ∀ m', (∀ i, i < 9 → m' (269 + n) i = zwl (sm (fun st => R st i) 66)) → m' 278 n = zwl (sm (fun st => if tLd st = true then 0 else B st) 66) → (∀ a, a ≠ 269 + n → a ≠ 278 → m' a = m a) → (∀ j, j ≠ n → m' 278 j = m 278 j) → Q none L m') : zwp 101 0 [zA 64, zI (n : Nat), zU, zU] [] L m Q := by
  obtain ⟨w0, w1', c1, c2, c3, c4, c5, hTr, hTl, hb1, hb2, t64, -⟩ := id hW
  obtain ⟨q1, q2, q3⟩ := h268 n hn
  have n0 : ¬ (n : Int) < 0 := by omega
  have n9 : (n : Int) < 9 := by omega
  have hn9 : 0 ≤ (n : Int) ∧ (n : Int) < ((9 : Nat) : Int) := by omega
  have two : 2 ≤ 269 + n := by omega
  have p5' : m 64 5 = ((268 : Nat) : Int) := p5
  simp only [s101_0, s101_1, s101_4, s101_5, s101_7, s101_10, s101_11, s101_12, s101_15, s101_16, s101_17, s101_18, Int.toNat_natCast, true_and, and_true, true_or, or_true, zpu_some, zpu_none, reduceIte, and_self, n0, n9, t64, p5', t268.1, t268.2, hn9, q1]
  refine c_fillJ q2 q3 (by decide) (by omega) (fun m1 g1 f1 => ?_)
  have p6' : m1 64 6 = ((278 : Nat) : Int) := by rw [f1 64 (by omega)]; exact p6
  simp only [s101_21, s101_22, s101_25, s101_26, s101_27, s101_28, s101_29, Int.toNat_natCast, true_and, and_true, true_or, or_true, zpu_some, zpu_none, and_self, t64, p6', t278.1, t278.2, hn9, show 2 ≤ 278 by decide]
  refine zforv (n := 66) (fun l s => [zA 64, zI (n : Nat), zI (s : Nat), l]) (fun s m' => (∀ i, i < 9 → m' (269 + n) i = zwl (sm (fun st => R st i) s)) ∧ m' 278 n = zwl (sm (fun st => if tLd st = true then 0 else B st) s) ∧ (∀ a, a ≠ 269 + n → a ≠ 278 → m' a = m a) ∧ ∀ j, j ≠ n → m' 278 j = m 278 j) ?_ ?_ zU 0 _ (Nat.zero_le _) ⟨fun i hi => by rw [zup_na (by omega), g1 i hi]; exact zwl_0.symm, by rw [zup_same]; exact zwl_0.symm, fun a y1 y2 => by rw [zup_nf y2, f1 a y1], fun j hj => by rw [zup_nk hj, f1 278 (by omega)]⟩
  · rintro l s m2 hs ⟨y1, y2, y3, y4⟩ ih
    have ns : ¬ 66 ≤ (s : Int) := by omega
    have sv : s < 1000000 := by omega
    have hs66 : 0 ≤ (s : Int) ∧ (s : Int) < ((66 : Nat) : Int) := by omega
    obtain ⟨u1, u2, u3⟩ := hTr.2.2 s hs
    simp only [s101_30]
    simp only [s101_31, s101_33, s101_36, s101_37, Int.toNat_natCast, true_and, and_true, true_or, or_true, false_or, or_false, zwr_id, zpu_some, zpu_none, reduceIte, Int.reduceLE, Int.reduceLT, Int.reduceEq, Int.reduceNeg, Int.reduceAdd, Int.reduceSub, Int.reduceMul, Int.reduceToNat, Nat.reduceAdd, Nat.reduceLeDiff, Nat.reduceEqDiff, Nat.reduceLT, eq_self, ne_eq, not_false_eq_true, not_true_eq_false, ns]
    refine zfor (n := 9) (fun i => [zA 64, zI (n : Nat), zI (s : Nat), zI (i : Nat)]) (fun i m' => (∀ j, j < 9 → m' (269 + n) j = zwl (sm (fun st => R st j) (if j < i then s + 1 else s))) ∧ ∀ a, a ≠ 269 + n → m' a = m2 a) ?_ ?_ 0 m2 (Nat.zero_le _) ⟨fun j hj => by rw [if_neg (by omega)]; exact y1 j hj, fun _ _ => rfl⟩
    · rintro i m3 hi ⟨z1', z2'⟩ ih2
      have ni : ¬ 9 ≤ (i : Int) := by omega
      have iv : i < 1000000 := by omega
      have hi9 : 0 ≤ (i : Int) ∧ (i : Int) < ((9 : Nat) : Int) := by omega
      have e5 : m3 64 5 = ((268 : Nat) : Int) := by rw [z2' 64 (by omega), y3 64 (by omega) (by decide)]; exact p5
      have e1 : m3 64 1 = (r : Int) := by rw [z2' 64 (by omega), y3 64 (by omega) (by decide)]; exact c1
      have e2 : m3 268 n = ((269 + n : Nat) : Int) := by rw [z2' 268 (by omega), y3 268 (by omega) (by decide)]; exact q1
      have e3 : m3 r s = ((r + 1 + s : Nat) : Int) := by rw [z2' r (by omega), y3 r (by omega) (by omega)]; exact u1
      have e4 : m3 (r + 1 + s) i = zwl (R s i) := by rw [z2' _ (by omega), y3 _ (by omega) (by omega)]; exact hR s hs i hi
      have e6 := z1' i hi
      rw [if_neg (Nat.lt_irrefl _)] at e6
      simp only [s101_38]
      simp only [s101_39, s101_41, s101_44, s101_45, s101_48, s101_49, s101_50, s101_51, s101_52, s101_53, s101_54, s101_57, s101_58, s101_59, s101_60, s101_61, s101_62, s101_63, s101_66, Int.toNat_natCast, true_and, and_true, true_or, or_true, zpu_some, zpu_none, reduceIte, and_self, ni, t64, e5, t268.1, t268.2, hn9, e2, hi9, q2, q3, e1, hTr.1, hTr.2.1, hs66, e3, u2, u3, e4, e6, two, zwl_ad2, z1 iv]
      refine ih2 _ ⟨fun j hj => ?_, fun a ha => by rw [zup_nf ha]; exact z2' a ha⟩
      by_cases e : j = i
      · rw [e, zup_same, if_pos (by omega), sm_s (n := s)]
      · rw [zup_nk e, z1' j hj]
        by_cases q : j < i
        · rw [if_pos q, if_pos (by omega)]
        · rw [if_neg q, if_neg (by omega)]
    · rintro m3 ⟨z1', z2'⟩
      have z3' : ∀ j, j < 9 → m3 (269 + n) j = zwl (sm (fun st => R st j) (s + 1)) := fun j hj => by rw [z1' j hj, if_pos hj]
      have e6 : m3 64 6 = ((278 : Nat) : Int) := by rw [z2' 64 (by omega), y3 64 (by omega) (by decide)]; exact p6
      have e3 : m3 64 3 = (br : Int) := by rw [z2' 64 (by omega), y3 64 (by omega) (by decide)]; exact c3
      have e7 : m3 br s = zwl (B s) := by rw [z2' br (by omega), y3 br (by omega) (by omega)]; exact hB s hs
      have e8 : m3 278 n = zwl (sm (fun st => if tLd st = true then 0 else B st) s) := by rw [z2' 278 (by omega)]; exact y2
      simp only [s101_38]
      simp only [s101_39, s101_41, s101_69, s101_70, s101_71, Int.toNat_natCast, true_and, and_true, true_or, or_true, false_or, or_false, zwr_id, zpu_some, zpu_none, reduceIte, Int.reduceLE, Int.reduceLT, Int.reduceEq, Int.reduceNeg, Int.reduceAdd, Int.reduceSub, Int.reduceMul, Int.reduceToNat, Nat.reduceAdd, Nat.reduceLeDiff, Nat.reduceEqDiff, Nat.reduceLT, eq_self, ne_eq, not_false_eq_true, not_true_eq_false, Int.cast_ofNat_Int, t64, x_ldS]
      by_cases d : tLd s = true
      · rw [d]
        simp only [s101_74, s101_92, s101_95, Int.toNat_natCast, true_and, and_true, true_or, or_true, false_or, or_false, zwr_id, zpu_some, zpu_none, reduceIte, Int.reduceLE, Int.reduceLT, Int.reduceEq, Int.reduceNeg, Int.reduceAdd, Int.reduceSub, Int.reduceMul, Int.reduceToNat, Nat.reduceAdd, Nat.reduceLeDiff, Nat.reduceEqDiff, Nat.reduceLT, eq_self, ne_eq, not_false_eq_true, not_true_eq_false, z1 sv]
        refine ih _ m3 ⟨z3', ?_, fun a y5 y6 => by rw [z2' a y5]; exact y3 a y5 y6, fun j hj => by rw [z2' 278 (by omega)]; exact y4 j hj⟩
        rw [e8, sm_s (n := s), if_pos d, Int.add_zero]
      · have d' : tLd s = false := Bool.not_eq_true _ ▸ d
        rw [d']
        simp only [s101_74, s101_77, s101_78, s101_81, s101_82, s101_83, s101_84, s101_85, s101_88, s101_89, s101_90, s101_91, s101_92, s101_95, Int.toNat_natCast, true_and, and_true, true_or, or_true, false_or, or_false, zwr_id, zpu_some, zpu_none, reduceIte, Int.reduceLE, Int.reduceLT, Int.reduceEq, Int.reduceNeg, Int.reduceAdd, Int.reduceSub, Int.reduceMul, Int.reduceToNat, Nat.reduceAdd, Nat.reduceLeDiff, Nat.reduceEqDiff, Nat.reduceLT, eq_self, ne_eq, not_false_eq_true, not_true_eq_false, Bool.false_eq_true, and_self, t64, e6, e3, t278.1, t278.2, hn9, hb1.1, hb1.2, hs66, e7, e8, show 2 ≤ 278 by decide, zwl_ad2, z1 sv]
        refine ih _ _ ⟨fun j hj => by rw [zup_na (by omega)]; exact z3' j hj, ?_, fun a y5 y6 => by rw [zup_nf y6, z2' a y5]; exact y3 a y5 y6, fun j hj => by rw [zup_nk hj, z2' 278 (by omega)]; exact y4 j hj⟩
        rw [zup_same, sm_s (n := s), if_neg d]
  · rintro l m2 ⟨y1, y2, y3, y4⟩
    simp only [s101_30]
    simp only [s101_31, s101_33, s101_98, Int.toNat_natCast, true_and, and_true, true_or, or_true, false_or, or_false, zwr_id, zpu_some, zpu_none, reduceIte, Int.reduceLE, Int.reduceLT, Int.reduceEq, Int.reduceNeg, Int.reduceAdd, Int.reduceSub, Int.reduceMul, Int.reduceToNat, Nat.reduceAdd, Nat.reduceLeDiff, Nat.reduceEqDiff, Nat.reduceLT, eq_self, ne_eq, not_false_eq_true, not_true_eq_false, Int.cast_ofNat_Int]
    exact k m2 y1 y2 y3 y4
