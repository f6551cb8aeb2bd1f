/-! the Tally's tables -/
theorem zwl_ad2 {a b : Int} : zwl (zwl a + zwl b) = zwl (a + b) := by
  unfold zwl
  rw [Int.add_bmod_bmod, Int.bmod_add_bmod]
theorem zwl_0 : zwl 0 = 0 := by decide +kernel
theorem zwl_1 : zwl 1 = 1 := by decide +kernel
theorem zwl_idem {a : Int} : zwl (zwl a) = zwl a := by unfold zwl; rw [Int.bmod_bmod]
def zTab (m : zM) (r : Nat) (T : Nat → Nat → Int) : Prop := ∀ s, s < 66 → ∀ i, i < 9 → m (r + 1 + s) i = zwl (T s i)
def zTr (L : zY) (m : zM) (r : Nat) : Prop := zt L r = 23 ∧ zn L r = 66 ∧ ∀ j, j < 66 → m r j = ((r + 1 + j : Nat) : Int) ∧ zt L (r + 1 + j) = 21 ∧ zn L (r + 1 + j) = 9
theorem zTr_of {L : zY} {m : zM} (h : zTlL L m) : zTr L m 132 ∧ zTr L m 199 := ⟨⟨h.1.2.2.2.1, h.1.2.2.2.2.1, h.2.2.1⟩, ⟨h.1.2.2.2.2.2.1, h.1.2.2.2.2.2.2.1, h.2.2.2.1⟩⟩
theorem c_fillJ {L : zY} {m : zM} {Q : zQ} {a n : Nat} {v : Int} (h1 : zt L a = 21) (h2 : zn L a = n) (h3 : n < 1000) (h4 : 2 ≤ a) (k : ∀ m', (∀ j, j < n → m' a j = v) → (∀ b, b ≠ a → m' b = m b) → Q none L m') : zwp 266 0 [zA a, zJ v, zU, zU, zU] [] L m Q := by
  simp only [s266_0, s266_1, s266_2, s266_3, s266_4, Int.toNat_natCast, true_and, and_true, true_or, or_true, false_or, or_false, zwr_id, zpu_some, zpu_none, reduceIte, Int.reduceLE, Int.reduceLT, Int.reduceEq, Int.reduceNeg, Int.reduceAdd, Int.reduceSub, Int.reduceMul, Int.reduceToNat, Nat.reduceAdd, Nat.reduceLeDiff, Nat.reduceEqDiff, Nat.reduceLT, eq_self, ne_eq, not_false_eq_true, not_true_eq_false, h1, h2]
  refine zfor (n := n) (fun i => [zA a, zJ v, zU, zI (i : Nat), zI (n : Nat)]) (fun i m' => (∀ j, j < i → m' a j = v) ∧ ∀ b, b ≠ a → m' b = m b) ?_ ?_ 0 m (Nat.zero_le _) ⟨fun j hj => absurd hj (by omega), fun _ _ => rfl⟩
  · rintro i m1 hi ⟨g1, g2⟩ ih
    have hi' : 0 ≤ (i : Int) ∧ (i : Int) < (n : Int) := by omega
    have n1 : ¬ (n : Int) ≤ (i : Int) := by omega
    have iv : i < 1000000 := by omega
    simp only [s266_6]
    simp only [s266_7, s266_9, s266_12, s266_13, s266_14, s266_15, s266_16, s266_19, Int.toNat_natCast, true_and, and_true, true_or, or_true, false_or, or_false, zwr_id, zpu_some, zpu_none, reduceIte, Int.reduceLE, Int.reduceLT, Int.reduceEq, Int.reduceNeg, Int.reduceAdd, Int.reduceSub, Int.reduceMul, Int.reduceToNat, Nat.reduceAdd, Nat.reduceLeDiff, Nat.reduceEqDiff, Nat.reduceLT, eq_self, ne_eq, not_false_eq_true, not_true_eq_false, h1, h2, h4, hi', and_self, n1, z1 iv]
    refine ih _ ⟨fun j hj => ?_, fun b hb => by rw [zup_nf hb]; exact g2 b hb⟩
    by_cases e : j = i
    · rw [e, zup_same]
    · rw [zup_nk e]; exact g1 j (by omega)
  · rintro m1 ⟨g1, g2⟩
    simp only [s266_6]
    simp only [s266_7, s266_9, s266_22, Int.toNat_natCast, true_and, and_true, true_or, or_true, false_or, or_false, zwr_id, zpu_some, zpu_none, reduceIte, Int.reduceLE, Int.reduceLT, Int.reduceEq, Int.reduceNeg, Int.reduceAdd, Int.reduceSub, Int.reduceMul, Int.reduceToNat, Nat.reduceAdd, Nat.reduceLeDiff, Nat.reduceEqDiff, Nat.reduceLT, eq_self, ne_eq, not_false_eq_true, not_true_eq_false, show (n : Int) ≤ (n : Int) from Int.le_refl _]
    exact k m1 g1 g2
theorem c_clrR {L : zY} {m : zM} {Q : zQ} {r : Nat} (hr : r = 132 ∨ r = 199) (t64 : zt L 64 = 8) (hT : zTr L m r) (k : ∀ m', zTab m' r (fun _ _ => 0) → zFR (r + 1) (r + 66) m m' → Q none L m') : zwp 96 0 [zA 64, zA r, zU] [] L m Q := by
  obtain ⟨t1, t2, t3⟩ := hT
  simp only [s96_0, s96_1]
  refine zfor (n := 66) (fun s => [zA 64, zA r, zI (s : Nat)]) (fun s m' => (∀ s', s' < s → ∀ i, i < 9 → m' (r + 1 + s') i = zwl 0) ∧ zFR (r + 1) (r + 66) m m') ?_ ?_ 0 m (Nat.zero_le _) ⟨fun _ h => absurd h (by omega), zFR_rf⟩
  · rintro s m1 hs ⟨g1, f1⟩ ih
    obtain ⟨q1, q2, q3⟩ := t3 s hs
    have n1 : ¬ 66 ≤ (s : Int) := by omega
    have hs66 : 0 ≤ (s : Int) ∧ (s : Int) < ((66 : Nat) : Int) := by omega
    have sv : s < 1000000 := by omega
    have n66 : ¬ ((66 : Nat) : Int) ≤ (s : Int) := by omega
    have e1 : m1 r s = ((r + 1 + s : Nat) : Int) := by rw [zFR_at f1 (by omega)]; exact q1
    simp only [s96_2]
    simp only [s96_3, s96_5, s96_8, s96_9, s96_10, s96_11, s96_14, s96_15, s96_16, s96_17, s96_18, Int.toNat_natCast, true_and, and_true, true_or, or_true, zpu_some, zpu_none, reduceIte, Nat.reduceLeDiff, and_self, n1, t1, t2, n66, hs66, e1]
    refine c_fillJ q2 q3 (by decide) (by omega) (fun m2 g2 f2 => ?_)
    simp only [s96_21, s96_24, zpu_none, z1 sv]
    refine ih m2 ⟨fun s' hs' i hi => ?_, fun a ha => by rw [f2 a (by omega)]; exact f1 a ha⟩
    by_cases e : s' = s
    · rw [e, zwl_0]; exact g2 i hi
    · rw [f2 _ (by omega)]; exact g1 s' (by omega) i hi
  · rintro m1 ⟨g1, f1⟩
    simp only [s96_2]
    simp only [s96_3, s96_5, s96_27, Int.toNat_natCast, true_and, and_true, true_or, or_true, false_or, or_false, zwr_id, zpu_some, zpu_none, reduceIte, Int.reduceLE, Int.reduceLT, Int.reduceEq, Int.reduceNeg, Int.reduceAdd, Int.reduceSub, Int.reduceMul, Int.reduceToNat, Nat.reduceAdd, Nat.reduceLeDiff, Nat.reduceEqDiff, Nat.reduceLT, eq_self, ne_eq, not_false_eq_true, not_true_eq_false, Int.cast_ofNat_Int]
    exact k m1 g1 f1
theorem x_ldS {L : zY} {m : zM} {Q : zQ} {st : Nat} : zwp 99 0 [zA 64, zI (st : Nat)] [] L m Q ↔ Q (some (zI (if tLd st = true then 1 else 0))) L m := by
  simp only [s99_0, s99_1, s99_2, s99_5, s99_6, s99_8, s99_11, s99_12, s99_15, s99_16, Int.toNat_natCast, true_and, and_true, true_or, or_true, false_or, or_false, zwr_id, zpu_some, zpu_none, reduceIte, Int.reduceLE, Int.reduceLT, Int.reduceEq, Int.reduceNeg, Int.reduceAdd, Int.reduceSub, Int.reduceMul, Int.reduceToNat, Nat.reduceAdd, Nat.reduceLeDiff, Nat.reduceEqDiff, Nat.reduceLT, eq_self, ne_eq, not_false_eq_true, not_true_eq_false]
  unfold tLd
  by_cases h1 : st < 1
  · rw [if_pos (by omega), decide_eq_false (by omega)]; exact Iff.rfl
  · by_cases h2 : 15 ≤ st
    · rw [if_neg (by omega), if_pos (by omega), decide_eq_false (by omega)]; exact Iff.rfl
    · rw [if_neg (by omega), if_neg (by omega), decide_eq_true (by omega)]; exact Iff.rfl
theorem x_bkS {L : zY} {m : zM} {Q : zQ} {st : Nat} : zwp 100 0 [zA 64, zI (st : Nat)] [] L m Q ↔ Q (some (zI (if tBk st = true then 1 else 0))) L m := by
  simp only [s100_0, s100_1, s100_3, s100_6, s100_7, s100_10, s100_11, Int.toNat_natCast, true_and, and_true, true_or, or_true, false_or, or_false, zwr_id, zpu_some, zpu_none, reduceIte, Int.reduceLE, Int.reduceLT, Int.reduceEq, Int.reduceNeg, Int.reduceAdd, Int.reduceSub, Int.reduceMul, Int.reduceToNat, Nat.reduceAdd, Nat.reduceLeDiff, Nat.reduceEqDiff, Nat.reduceLT, eq_self, ne_eq, not_false_eq_true, not_true_eq_false]
  unfold tBk
  by_cases h1 : st < 31
  · rw [if_pos (by omega), decide_eq_false (by omega)]; exact Iff.rfl
  · rw [if_neg (by omega), decide_eq_true (by omega)]; exact Iff.rfl
/-- what pass() adds -/
def pAdd (R : Nat → Nat → Int) (n st nx mo s i : Nat) : Int := if s = nx ∧ mo ≤ i ∧ i - mo < n then R st (i - mo) else 0
def pAdB (B : Nat → Int) (st nx mo s : Nat) : Int := if s = nx ∧ ¬ (tLd st = true ∧ mo = 1) ∧ (tLd nx = true ∨ tBk nx = true) then B st else 0
theorem c_pass {L : zY} {m : zM} {Q : zQ} {n st nx mo r lr br lbr : Nat} {R T : Nat → Nat → Int} {B BT : Nat → Int} (hn : n ≤ 8) (hst : st < 66) (hnx : nx < 66) (hmo : mo ≤ 1) (t64 : zt L 64 = 8) (hr : (r = 132 ∧ lr = 199) ∨ (r = 199 ∧ lr = 132)) (hbr : (br = 266 ∧ lbr = 267) ∨ (br = 267 ∧ lbr = 266)) (p1 : m 64 1 = (r : Int)) (p2 : m 64 2 = (lr : Int)) (p3 : m 64 3 = (br : Int)) (p4 : m 64 4 = (lbr : Int)) (hTr : zTr L m r) (hTl : zTr L m lr) (hb1 : zt L br = 21 ∧ zn L br = 66) (hb2 : zt L lbr = 21 ∧ zn L lbr = 66) (hR : zTab m r R) (hT : zTab m lr T) (hB : ∀ s, s < 66 → m br s = zwl (B s)) (hBT : ∀ s, s < 66 → m lbr s = zwl (BT s)) (k : ∀ m', zTab m' lr (fun s i => T s i + pAdd R n st nx mo s i) → (∀ s, s < 66 → m' lbr s = zwl (BT s + pAdB B st nx mo s)) → (∀ a, a ≠ lr + 1 + nx → a ≠ lbr → m' a = m a) → Q none L m') : zwp 98 0 [zA 64, zI (n : Nat), zI (st : Nat), zI (nx : Nat), zI (mo : Nat), zU] [] L m Q := by
  obtain ⟨a1, a2, a3⟩ := hTr
  obtain ⟨b1, b2, b3⟩ := hTl
  obtain ⟨u1, u2, u3⟩ := a3 st hst
  obtain ⟨v1, v2, v3⟩ := b3 nx hnx
  have hst66 : 0 ≤ (st : Int) ∧ (st : Int) < ((66 : Nat) : Int) := by omega
  have hnx66 : 0 ≤ (nx : Int) ∧ (nx : Int) < ((66 : Nat) : Int) := by omega
  have two : 2 ≤ lr + 1 + nx := by omega
  have lbr2 : 2 ≤ lbr := by omega
  simp only [s98_0, s98_1]
  refine zfor (n := min n (9 - mo)) (fun i => [zA 64, zI (n : Nat), zI (st : Nat), zI (nx : Nat), zI (mo : Nat), zI (i : Nat)]) (fun i m' => (∀ j, j < 9 → m' (lr + 1 + nx) j = zwl (T nx j + if mo ≤ j ∧ j - mo < i then R st (j - mo) else 0)) ∧ ∀ a, a ≠ lr + 1 + nx → m' a = m a) ?_ ?_ 0 m (Nat.zero_le _) ⟨fun j hj => by rw [if_neg (by omega), Int.add_zero]; exact hT nx hnx j hj, fun _ _ => rfl⟩
  · rintro i m1 hi ⟨g1, f1⟩ ih
    have n1 : ¬ (n : Int) ≤ (i : Int) := by omega
    have n2 : ¬ 9 ≤ ((i + mo : Nat) : Int) := by omega
    have iv : i < 1000000 := by omega
    have hi9 : 0 ≤ (i : Int) ∧ (i : Int) < ((9 : Nat) : Int) := by omega
    have him : 0 ≤ ((i + mo : Nat) : Int) ∧ ((i + mo : Nat) : Int) < ((9 : Nat) : Int) := by omega
    have c1 : m1 64 1 = (r : Int) := by rw [f1 64 (by omega)]; exact p1
    have c2 : m1 64 2 = (lr : Int) := by rw [f1 64 (by omega)]; exact p2
    have c3 : m1 lr nx = ((lr + 1 + nx : Nat) : Int) := by rw [f1 lr (by omega)]; exact v1
    have c4 : m1 r st = ((r + 1 + st : Nat) : Int) := by rw [f1 r (by omega)]; exact u1
    have c5 : m1 (r + 1 + st) i = zwl (R st i) := by rw [f1 _ (by omega)]; exact hR st hst i (by omega)
    have c6 : m1 (lr + 1 + nx) (i + mo) = zwl (T nx (i + mo)) := by rw [g1 _ (by omega), if_neg (by omega), Int.add_zero]
    simp only [s98_3]
    simp only [s98_5, s98_6, s98_9, s98_11, s98_13, s98_14, s98_16, s98_19, s98_20, s98_23, s98_24, s98_25, s98_27, s98_29, s98_30, s98_31, s98_32, s98_33, s98_36, s98_37, s98_38, s98_40, s98_41, s98_42, s98_43, s98_46, Int.toNat_natCast, true_and, and_true, true_or, or_true, zpu_some, zpu_none, reduceIte, and_self, n1, n2, (show zwr ((i : Int) + (mo : Int)) = ((i + mo : Nat) : Int) by rw [zwr_id (by omega) (by omega)]; omega), t64, c1, c2, c3, c4, c5, c6, a1, a2, b1, b2, u2, u3, v2, v3, hst66, hnx66, hi9, him, two, zwl_ad2, z1 iv]
    refine ih _ ⟨fun j hj => ?_, fun a ha => by rw [zup_nf ha]; exact f1 a ha⟩
    by_cases e : j = i + mo
    · rw [e, zup_same, if_pos (by omega), show i + mo - mo = i by omega]
    · rw [zup_nk e, g1 j hj]
      by_cases q : mo ≤ j ∧ j - mo < i
      · rw [if_pos q, if_pos (by omega)]
      · rw [if_neg q, if_neg (by omega)]
  · rintro m1 ⟨g1, f1⟩
    have c3 : m1 64 3 = (br : Int) := by rw [f1 64 (by omega)]; exact p3
    have c4 : m1 64 4 = (lbr : Int) := by rw [f1 64 (by omega)]; exact p4
    have c5 : m1 br st = zwl (B st) := by rw [f1 br (by omega)]; exact hB st hst
    have c6 : m1 lbr nx = zwl (BT nx) := by rw [f1 lbr (by omega)]; exact hBT nx hnx
    have hT' : zTab m1 lr (fun s i => T s i + pAdd R n st nx mo s i) := by
      intro s hs i hi
      by_cases e : s = nx
      · subst e
        rw [g1 i hi]
        congr 2
        unfold pAdd
        by_cases q : mo ≤ i ∧ i - mo < min n (9 - mo)
        · rw [if_pos q, if_pos ⟨rfl, q.1, by omega⟩]
        · rw [if_neg q, if_neg (fun w => q ⟨w.2.1, by omega⟩)]
      · rw [f1 _ (by omega), hT s hs i hi]
        congr 1
        unfold pAdd
        dsimp only
        rw [if_neg (fun w => e w.1), Int.add_zero]
    have no : ¬ (¬ (tLd st = true ∧ mo = 1) ∧ (tLd nx = true ∨ tBk nx = true)) → Q none L m1 := fun hq => by
      refine k m1 hT' (fun s hs => ?_) (fun a q1 _ => f1 a q1)
      unfold pAdB
      rw [if_neg (fun w => hq w.2), Int.add_zero, f1 lbr (by omega)]
      exact hBT s hs
    have yes : (¬ (tLd st = true ∧ mo = 1) ∧ (tLd nx = true ∨ tBk nx = true)) → Q none L (zup m1 lbr nx (zwl (BT nx + B st))) := fun hq => by
      refine k _ (fun s hs i hi => ?_) (fun s hs => ?_) (fun a q1 q2 => by rw [zup_nf q2]; exact f1 a q1)
      · rw [zup_na (by omega)]; exact hT' s hs i hi
      · unfold pAdB
        by_cases e : s = nx
        · rw [e, zup_same, if_pos ⟨rfl, hq⟩]
        · rw [zup_nk e, if_neg (fun w => e w.1), Int.add_zero, f1 lbr (by omega)]
          exact hBT s hs
    have put : (tLd nx = true ∨ tBk nx = true) → ¬ (tLd st = true ∧ mo = 1) → ∀ l5 : Int, zwp 98 91 [zA 64, zI (n : Nat), zI (st : Nat), zI (nx : Nat), zI (mo : Nat), zI l5] [] L m1 Q := fun q1 q2 l5 => by
      simp only [s98_91, s98_92, s98_95, s98_96, s98_97, s98_98, s98_99, s98_102, s98_103, s98_104, s98_105, s98_106, Int.toNat_natCast, true_and, and_true, true_or, or_true, zpu_some, zpu_none, and_self, t64, c3, c4, c5, c6, hb1.1, hb1.2, hb2.1, hb2.2, hst66, hnx66, lbr2, zwl_ad2]
      exact yes ⟨q2, q1⟩
    have look : ¬ (tLd st = true ∧ mo = 1) → zwp 98 75 [zA 64, zI (n : Nat), zI (st : Nat), zI (nx : Nat), zI (mo : Nat), zI 0] [] L m1 Q := fun q2 => by
      simp only [s98_75, s98_76, s98_77, t64, true_and, x_ldS]
      by_cases d1 : tLd nx = true
      · rw [d1]
        simp only [s98_80, Int.toNat_natCast, true_and, and_true, true_or, or_true, false_or, or_false, zwr_id, zpu_some, zpu_none, reduceIte, Int.reduceLE, Int.reduceLT, Int.reduceEq, Int.reduceNeg, Int.reduceAdd, Int.reduceSub, Int.reduceMul, Int.reduceToNat, Nat.reduceAdd, Nat.reduceLeDiff, Nat.reduceEqDiff, Nat.reduceLT, eq_self, ne_eq, not_false_eq_true, not_true_eq_false]
        exact put (Or.inl d1) q2 _
      · have d1' : tLd nx = false := Bool.not_eq_true _ ▸ d1
        rw [d1']
        simp only [s98_80, s98_83, s98_84, s98_85, Int.toNat_natCast, true_and, and_true, true_or, or_true, false_or, or_false, zwr_id, zpu_some, zpu_none, reduceIte, Int.reduceLE, Int.reduceLT, Int.reduceEq, Int.reduceNeg, Int.reduceAdd, Int.reduceSub, Int.reduceMul, Int.reduceToNat, Nat.reduceAdd, Nat.reduceLeDiff, Nat.reduceEqDiff, Nat.reduceLT, eq_self, ne_eq, not_false_eq_true, not_true_eq_false, Bool.false_eq_true, t64, x_bkS]
        by_cases d2 : tBk nx = true
        · rw [d2]
          simp only [s98_88, Int.toNat_natCast, true_and, and_true, true_or, or_true, false_or, or_false, zwr_id, zpu_some, zpu_none, reduceIte, Int.reduceLE, Int.reduceLT, Int.reduceEq, Int.reduceNeg, Int.reduceAdd, Int.reduceSub, Int.reduceMul, Int.reduceToNat, Nat.reduceAdd, Nat.reduceLeDiff, Nat.reduceEqDiff, Nat.reduceLT, eq_self, ne_eq, not_false_eq_true, not_true_eq_false]
          exact put (Or.inr d2) q2 _
        · have d2' : tBk nx = false := Bool.not_eq_true _ ▸ d2
          rw [d2']
          simp only [s98_88, s98_106, Int.toNat_natCast, true_and, and_true, true_or, or_true, false_or, or_false, zwr_id, zpu_some, zpu_none, reduceIte, Int.reduceLE, Int.reduceLT, Int.reduceEq, Int.reduceNeg, Int.reduceAdd, Int.reduceSub, Int.reduceMul, Int.reduceToNat, Nat.reduceAdd, Nat.reduceLeDiff, Nat.reduceEqDiff, Nat.reduceLT, eq_self, ne_eq, not_false_eq_true, not_true_eq_false, Bool.false_eq_true]
          exact no (fun w => w.2.elim d1 d2)
    have tail : zwp 98 49 [zA 64, zI (n : Nat), zI (st : Nat), zI (nx : Nat), zI (mo : Nat), zI ((min n (9 - mo) : Nat) : Int)] [] L m1 Q := by
      simp only [s98_49, s98_50, s98_51, t64, true_and, x_ldS]
      by_cases d1 : tLd st = true
      · rw [d1]
        simp only [s98_54, s98_57, s98_59, Int.toNat_natCast, true_and, and_true, true_or, or_true, false_or, or_false, zwr_id, zpu_some, zpu_none, reduceIte, Int.reduceLE, Int.reduceLT, Int.reduceEq, Int.reduceNeg, Int.reduceAdd, Int.reduceSub, Int.reduceMul, Int.reduceToNat, Nat.reduceAdd, Nat.reduceLeDiff, Nat.reduceEqDiff, Nat.reduceLT, eq_self, ne_eq, not_false_eq_true, not_true_eq_false]
        simp only [s98_60]
        by_cases d2 : mo = 1
        · rw [if_pos (by omega)]
          simp only [s98_63, s98_64, s98_67, s98_68, s98_70, s98_72, s98_106, Int.toNat_natCast, true_and, and_true, true_or, or_true, false_or, or_false, zwr_id, zpu_some, zpu_none, reduceIte, Int.reduceLE, Int.reduceLT, Int.reduceEq, Int.reduceNeg, Int.reduceAdd, Int.reduceSub, Int.reduceMul, Int.reduceToNat, Nat.reduceAdd, Nat.reduceLeDiff, Nat.reduceEqDiff, Nat.reduceLT, eq_self, ne_eq, not_false_eq_true, not_true_eq_false]
          exact no (fun w => w.1 ⟨d1, d2⟩)
        · rw [if_neg (by omega)]
          simp only [s98_67, s98_68, s98_70, s98_72, Int.toNat_natCast, true_and, and_true, true_or, or_true, false_or, or_false, zwr_id, zpu_some, zpu_none, reduceIte, Int.reduceLE, Int.reduceLT, Int.reduceEq, Int.reduceNeg, Int.reduceAdd, Int.reduceSub, Int.reduceMul, Int.reduceToNat, Nat.reduceAdd, Nat.reduceLeDiff, Nat.reduceEqDiff, Nat.reduceLT, eq_self, ne_eq, not_false_eq_true, not_true_eq_false]
          exact look (fun w => d2 w.2)
      · have d1' : tLd st = false := Bool.not_eq_true _ ▸ d1
        rw [d1']
        simp only [s98_54, s98_67, s98_68, s98_70, s98_72, Int.toNat_natCast, true_and, and_true, true_or, or_true, false_or, or_false, zwr_id, zpu_some, zpu_none, reduceIte, Int.reduceLE, Int.reduceLT, Int.reduceEq, Int.reduceNeg, Int.reduceAdd, Int.reduceSub, Int.reduceMul, Int.reduceToNat, Nat.reduceAdd, Nat.reduceLeDiff, Nat.reduceEqDiff, Nat.reduceLT, eq_self, ne_eq, not_false_eq_true, not_true_eq_false, Bool.false_eq_true]
        exact look (fun w => d1 w.1)
    simp only [s98_3]
    by_cases hc : n ≤ 9 - mo
    · rw [Nat.min_eq_left hc] at tail ⊢
      simp only [s98_5, s98_6, Int.toNat_natCast, true_and, and_true, true_or, or_true, false_or, or_false, zwr_id, zpu_some, zpu_none, reduceIte, Int.reduceLE, Int.reduceLT, Int.reduceEq, Int.reduceNeg, Int.reduceAdd, Int.reduceSub, Int.reduceMul, Int.reduceToNat, Nat.reduceAdd, Nat.reduceLeDiff, Nat.reduceEqDiff, Nat.reduceLT, eq_self, ne_eq, not_false_eq_true, not_true_eq_false, show (n : Int) ≤ (n : Int) from Int.le_refl _]
      exact tail
    · omega
