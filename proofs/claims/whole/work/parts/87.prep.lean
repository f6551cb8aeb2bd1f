def zFP (m m' : zM) : Prop := ∀ a, (a < 20 ∨ 29 < a) → (a < 64 ∨ 278 < a) → m' a = m a
/-- the Tally under way: rows of n KEYS stand, all shorter ones are noted -/
def zTn (L : zY) (m : zM) (D : zD) (n : Nat) : Prop := ∃ r lr br lbr, zTw L m D r lr br lbr ∧ zTab m r (tF D n) ∧ (∀ s, s < 66 → m br s = zwl (bF D n s)) ∧ (m 64 5 = 268 ∧ m 64 6 = 278 ∧ ∀ j, j < 9 → m 268 j = ((269 + j : Nat) : Int))
def zNt (m : zM) (D : zD) (n : Nat) : Prop := ∀ j, j < n → (∀ i, i < 9 → m (269 + j) i = zwl (tW D j i)) ∧ m 278 j = zwl (tB D j)
def zTk (L : zY) : Prop := (zt L 268 = 23 ∧ zn L 268 = 9) ∧ (zt L 278 = 21 ∧ zn L 278 = 9) ∧ ∀ j, j < 9 → zt L (269 + j) = 21 ∧ zn L (269 + j) = 9
theorem c_noteT {L : zY} {m : zM} {Q : zQ} {D : zD} {n : Nat} (hn : n < 9) (hk : zTk L) (hT : zTn L m D n) (hN : zNt m D n) (k : ∀ m', zTn L m' D n → zNt m' D (n + 1) → (∀ a, a ≠ 269 + n → a ≠ 278 → m' a = m a) → Q none L m') : zwp 101 0 [zA 64, zI (n : Nat), zU, zU] [] L m Q := by
  obtain ⟨r, lr, br, lbr, hW, hR, hB, p5, p6, h268⟩ := hT
  have w0 := hW.1
  have w1' := hW.2.1
  refine c_note hn hW hR hB p5 p6 hk.1 hk.2.1 (fun j hj => ⟨h268 j hj, hk.2.2 j hj⟩) (fun m1 g1 g2 f1 f2 => ?_)
  refine k m1 ⟨r, lr, br, lbr, zTw_eq (fun a q1 q2 => f1 a (by omega) (by omega)) hW, fun s hs i hi => by rw [f1 _ (by omega) (by omega)]; exact hR s hs i hi, fun s hs => by rw [f1 br (by omega) (by omega)]; exact hB s hs, by rw [f1 64 (by omega) (by decide)]; exact p5, by rw [f1 64 (by omega) (by decide)]; exact p6, fun j hj => by rw [f1 268 (by omega) (by decide)]; exact h268 j hj⟩ (fun j hj => ?_) f1
  by_cases e : j = n
  · subst e
    exact ⟨g1, g2⟩
  · obtain ⟨q1, q2⟩ := hN j (by omega)
    exact ⟨fun i hi => by rw [f1 _ (by omega) (by omega)]; exact q1 i hi, by rw [f2 j e]; exact q2⟩
theorem c_lenT {L : zY} {m : zM} {Q : zQ} {D : zD} {n : Nat} (hD : dOk D) (hlk : dLacks D = false) (hn : n + 1 ≤ 8) (hT : zTn L m D n) (hN : zNt m D (n + 1)) (k : ∀ m', zTn L m' D (n + 1) → zNt m' D (n + 1) → zFP m m' → (∀ a, 20 ≤ a → a ≤ 29 → m' a = m a) → (∀ i, 5 ≤ i → m' 64 i = m 64 i) → Q none L m') : zwp 97 0 [zA 64, zI ((n + 1 : Nat) : Int), zU, zU, zU] [] L m Q := by
  obtain ⟨r, lr, br, lbr, hW, hR, hB, p5, p6, h268⟩ := hT
  have w0 := hW.1
  have w1' := hW.2.1
  refine c_lengthen hn hW hR hB (fun m1 hW1 g1 g2 f1 f2 => ?_)
  refine k m1 ⟨lr, r, lbr, br, hW1, fun s hs i hi => by rw [g1 s hs i hi]; dsimp only; rw [tF_next hD hlk], fun s hs => by rw [g2 s hs, bF_next hD hlk], by rw [f2 5 (by decide)]; exact p5, by rw [f2 6 (by decide)]; exact p6, fun j hj => by rw [f1 268 (by decide) (by omega) (by omega)]; exact h268 j hj⟩ (fun j hj => ?_) (fun a q1 q2 => f1 a (by omega) (by omega) (by omega)) (fun a q1 q2 => f1 a (by omega) (by omega) (by omega)) f2
  obtain ⟨q1, q2⟩ := hN j hj
  exact ⟨fun i hi => by rw [f1 _ (by omega) (by omega) (by omega)]; exact q1 i hi, by rw [f1 278 (by decide) (by omega) (by omega)]; exact q2⟩
theorem zTlL_of {L : zY} {m m' : zM} {D : zD} {n : Nat} (h : zTlL L m) (hT : zTn L m' D n) : zTlL L m' := by
  obtain ⟨r, lr, br, lbr, hW, -, -, p5, p6, h268⟩ := hT
  obtain ⟨w0, w1', c1, c2, c3, c4, c5, hTr, hTl, -, -, -, -, h65, -⟩ := hW
  have e : zTr L m' 132 ∧ zTr L m' 199 := by
    rcases w0 with ⟨rfl, rfl⟩ | ⟨rfl, rfl⟩
    · exact ⟨hTr, hTl⟩
    · exact ⟨hTl, hTr⟩
  refine ⟨h.1, h65, e.1.2.2, e.2.2.2, fun j hj => ⟨h268 j hj, (h.2.2.2.2.1 j hj).2⟩, c5, p5, p6, ?_, ?_⟩
  · rcases w0 with ⟨rfl, rfl⟩ | ⟨rfl, rfl⟩
    · exact Or.inl ⟨c1, c2⟩
    · exact Or.inr ⟨c1, c2⟩
  · rcases w1' with ⟨rfl, rfl⟩ | ⟨rfl, rfl⟩
    · exact Or.inl ⟨c3, c4⟩
    · exact Or.inr ⟨c3, c4⟩
theorem c_prep {L : zY} {m : zM} {Q : zQ} {D : zD} {sc : Nat} (hD : dOk D) (hlk : dLacks D = false) (hsc : sc = 280 ∨ sc = 306) (hS : zSd L m sc D) (hSt : zSt L m sc D) (hR : zRL L m 20) (hTl : zTl L m (some D)) (k : ∀ m', zTlL L m' → m' 64 7 = 1 → zTlc m' D → zRL L m' 20 → zFP m m' → Q none L m') : zwp 92 0 [zA 64, zA sc, zA 20, zU] [] L m Q := by
  obtain ⟨hL, h7⟩ := hTl
  have t64 := hL.1.1
  have s1 := hS.1.1
  have r1 := hR.1
  rcases h7 with h7 | ⟨h7, D', e, hc⟩
  · have hk : zTk L := ⟨⟨hL.1.2.2.2.2.2.2.2.2.2.2.2.1, hL.1.2.2.2.2.2.2.2.2.2.2.2.2.1⟩, hL.1.2.2.2.2.2.2.2.2.2.2.2.2.2, fun j hj => (hL.2.2.2.2.1 j hj).2⟩
    simp only [s92_0, s92_1, s92_4, s92_7, s92_8, s92_9, s92_10, s92_11, Int.toNat_natCast, true_and, and_true, true_or, or_true, false_or, or_false, zwr_id, zpu_some, zpu_none, reduceIte, Int.reduceLE, Int.reduceLT, Int.reduceEq, Int.reduceNeg, Int.reduceAdd, Int.reduceSub, Int.reduceMul, Int.reduceToNat, Nat.reduceAdd, Nat.reduceLeDiff, Nat.reduceEqDiff, Nat.reduceLT, eq_self, ne_eq, not_false_eq_true, not_true_eq_false, t64, h7]
    refine c_fMoves hD hlk hsc hS hSt hR hL (fun m1 g1 hR1 f1 => ?_)
    have e64 : m1 64 = m 64 := f1 64 (by decide) (by decide)
    obtain ⟨r, lr, hr, p1, p2⟩ : ∃ r lr, ((r = 132 ∧ lr = 199) ∨ (r = 199 ∧ lr = 132)) ∧ m 64 1 = ((r : Nat) : Int) ∧ m 64 2 = ((lr : Nat) : Int) := by
      rcases hL.2.2.2.2.2.2.2.2.1 with q | q
      · exact ⟨132, 199, Or.inl ⟨rfl, rfl⟩, q.1, q.2⟩
      · exact ⟨199, 132, Or.inr ⟨rfl, rfl⟩, q.1, q.2⟩
    obtain ⟨br, lbr, hbr, p3, p4⟩ : ∃ br lbr, ((br = 266 ∧ lbr = 267) ∨ (br = 267 ∧ lbr = 266)) ∧ m 64 3 = ((br : Nat) : Int) ∧ m 64 4 = ((lbr : Nat) : Int) := by
      rcases hL.2.2.2.2.2.2.2.2.2 with q | q
      · exact ⟨266, 267, Or.inl ⟨rfl, rfl⟩, q.1, q.2⟩
      · exact ⟨267, 266, Or.inr ⟨rfl, rfl⟩, q.1, q.2⟩
    have tr0 := zTr_of hL
    have tr : zTr L m r ∧ zTr L m lr := by
      rcases hr with ⟨rfl, rfl⟩ | ⟨rfl, rfl⟩
      · exact tr0
      · exact ⟨tr0.2, tr0.1⟩
    have tb : (zt L br = 21 ∧ zn L br = 66) ∧ (zt L lbr = 21 ∧ zn L lbr = 66) := by
      have b1 : zt L 266 = 21 ∧ zn L 266 = 66 := ⟨hL.1.2.2.2.2.2.2.2.1, hL.1.2.2.2.2.2.2.2.2.1⟩
      have b2 : zt L 267 = 21 ∧ zn L 267 = 66 := ⟨hL.1.2.2.2.2.2.2.2.2.2.1, hL.1.2.2.2.2.2.2.2.2.2.2.1⟩
      rcases hbr with ⟨rfl, rfl⟩ | ⟨rfl, rfl⟩
      · exact ⟨b1, b2⟩
      · exact ⟨b2, b1⟩
    have hW1 : zTw L m1 D r lr br lbr := by
      refine ⟨hr, hbr, by rw [e64]; exact p1, by rw [e64]; exact p2, by rw [e64]; exact p3, by rw [e64]; exact p4, by rw [e64]; exact hL.2.2.2.2.2.1, ⟨tr.1.1, tr.1.2.1, fun j hj => ?_⟩, ⟨tr.2.1, tr.2.2.1, fun j hj => ?_⟩, tb.1, tb.2, t64, ⟨hL.1.2.1, hL.1.2.2.1⟩, fun j hj => ?_, g1⟩
      · rw [f1 r (by omega) (by omega)]; exact tr.1.2.2 j hj
      · rw [f1 lr (by omega) (by omega)]; exact tr.2.2.2 j hj
      · rw [f1 65 (by decide) (by decide)]; exact hL.2.1 j hj
    have q1 : m1 64 1 = (r : Int) := hW1.2.2.1
    simp only [s92_14, s92_15, s92_16, s92_19, Int.toNat_natCast, true_and, and_true, true_or, or_true, false_or, or_false, zwr_id, zpu_some, zpu_none, reduceIte, Int.reduceLE, Int.reduceLT, Int.reduceEq, Int.reduceNeg, Int.reduceAdd, Int.reduceSub, Int.reduceMul, Int.reduceToNat, Nat.reduceAdd, Nat.reduceLeDiff, Nat.reduceEqDiff, Nat.reduceLT, eq_self, ne_eq, not_false_eq_true, not_true_eq_false, t64, q1]
    refine c_clrR (by omega) t64 hW1.2.2.2.2.2.2.2.1 (fun m2 g2 f2 => ?_)
    have q3 : m2 64 3 = (br : Int) := by rw [zFR_at f2 (by omega)]; exact hW1.2.2.2.2.1
    simp only [s92_22, s92_23, s92_26, s92_27, Int.toNat_natCast, true_and, and_true, true_or, or_true, false_or, or_false, zwr_id, zpu_some, zpu_none, reduceIte, Int.reduceLE, Int.reduceLT, Int.reduceEq, Int.reduceNeg, Int.reduceAdd, Int.reduceSub, Int.reduceMul, Int.reduceToNat, Nat.reduceAdd, Nat.reduceLeDiff, Nat.reduceEqDiff, Nat.reduceLT, eq_self, ne_eq, not_false_eq_true, not_true_eq_false, t64, q3]
    refine c_fillJ tb.1.1 tb.1.2 (by decide) (by omega) (fun m3 g3 f3 => ?_)
    have fr3 : ∀ a, (a < r + 1 ∨ r + 66 < a) → a ≠ br → m3 a = m1 a := fun a y1 y2 => by rw [f3 a y2, zFR_at f2 y1]
    have hW3 : zTw L m3 D r lr br lbr := zTw_eq (fun a y1 y2 => fr3 a (by omega) (by omega)) hW1
    have c1 : m3 64 1 = (r : Int) := hW3.2.2.1
    have c3 : m3 64 3 = (br : Int) := hW3.2.2.2.2.1
    obtain ⟨u1, u2, u3⟩ := hW3.2.2.2.2.2.2.2.1.2.2 0 (by decide)
    have u1 : m3 r 0 = ((r + 1 : Nat) : Int) := u1
    have u2 : zt L (r + 1) = 21 := u2
    have u3 : zn L (r + 1) = 9 := u3
    have r2 : 2 ≤ r + 1 := by omega
    have b2' : 2 ≤ br := by omega
    have c3' : zup m3 (r + 1) 0 1 64 3 = (br : Int) := by rw [zup_na (by omega)]; exact c3
    simp only [s92_30, s92_31, s92_34, s92_35, s92_36, s92_37, s92_38, s92_39, s92_40, s92_43, s92_44, s92_45, s92_46, s92_47, s92_48, Int.toNat_natCast, Int.reduceToNat, Int.reduceLE, Int.reduceLT, true_and, and_true, true_or, or_true, zpu_some, zpu_none, and_self, t64, c1, c3', tr.1.1, tr.1.2.1, u1, u2, u3, r2, b2', tb.1.1, tb.1.2]
    refine ⟨by decide, by decide, by decide, ?_⟩
    have f4 : ∀ a, a ≠ r + 1 → a ≠ br → zup (zup m3 (r + 1) 0 1) br 0 1 a = m3 a := fun a y1 y2 => by rw [zup_nf y2, zup_nf y1]
    have hT0 : zTn L (zup (zup m3 (r + 1) 0 1) br 0 1) D 0 := by
      refine ⟨r, lr, br, lbr, zTw_eq (fun a y1 y2 => f4 a (by omega) (by omega)) hW3, fun s hs i hi => ?_, fun s hs => ?_, ?_, ?_, fun j hj => ?_⟩
      · show _ = zwl (if s = 0 ∧ i = 0 then 1 else 0)
        rw [zup_na (by omega)]
        by_cases y : s = 0
        · subst y
          by_cases y2 : i = 0
          · subst y2
            rw [if_pos ⟨rfl, rfl⟩, zwl_1]; exact zup_same
          · rw [if_neg (fun w => y2 w.2), show r + 1 + 0 = r + 1 from rfl, zup_nk y2, f3 _ (by omega)]
            exact g2 0 hs i hi
        · rw [if_neg (fun w => y w.1), zup_na (by omega), f3 _ (by omega)]
          exact g2 s hs i hi
      · show _ = zwl (if s = 0 then 1 else 0)
        by_cases y : s = 0
        · rw [if_pos y, y, zup_same, zwl_1]
        · rw [if_neg y, zup_nk y, zup_na (by omega), zwl_0]; exact g3 s hs
      · rw [f4 64 (by omega) (by omega), fr3 64 (by omega) (by omega), e64]; exact hL.2.2.2.2.2.2.1
      · rw [f4 64 (by omega) (by omega), fr3 64 (by omega) (by omega), e64]; exact hL.2.2.2.2.2.2.2.1
      · rw [f4 268 (by omega) (by omega), fr3 268 (by omega) (by omega), f1 268 (by decide) (by decide)]; exact (hL.2.2.2.2.1 j hj).1
    have fP : zFP m (zup (zup m3 (r + 1) 0 1) br 0 1) := fun a y1 y2 => by rw [f4 a (by omega) (by omega), fr3 a (by omega) (by omega), f1 a y1 (by omega)]
    have hRx : zRL L (zup (zup m3 (r + 1) 0 1) br 0 1) 20 := zRL_eq (fun i _ => by rw [f4 20 (by omega) (by omega), fr3 20 (by omega) (by omega)]) hR1
    refine c_noteT (n := 0) (by decide) hk hT0 (fun j hj => absurd hj (by omega)) (fun m5 hT5 hN5 f5 => ?_)
    simp only [s92_51, s92_52, zpu_none]
    have start : zwp 92 53 [zA 64, zA sc, zA 20, zI ((0 + 1 : Nat) : Int)] [] L m5 Q := by
      refine zfor (n := 8) (fun n => [zA 64, zA sc, zA 20, zI ((n + 1 : Nat) : Int)]) (fun n m' => zTn L m' D n ∧ zNt m' D (n + 1) ∧ zRL L m' 20 ∧ zFP m m') ?_ ?_ 0 m5 (Nat.zero_le _) ⟨hT5, hN5, zRL_eq (fun i _ => by rw [f5 20 (by decide) (by decide)]) hRx, fun a y1 y2 => by rw [f5 a (by omega) (by omega)]; exact fP a y1 y2⟩
      · rintro n m6 hn ⟨x1, x2, x3, x4⟩ ih
        have nn : ¬ 8 < ((n + 1 : Nat) : Int) := by omega
        have nv : n + 1 < 1000000 := by omega
        simp only [s92_53]
        simp only [s92_54, s92_56, s92_59, s92_60, s92_61, t64, true_and, reduceIte, nn]
        refine c_lenT hD hlk (by omega) x1 x2 (fun m7 y1 y2 y3 y4 y5 => ?_)
        simp only [s92_64, s92_65, s92_66, zpu_none, t64, true_and]
        refine c_noteT (n := n + 1) (by omega) hk y1 y2 (fun m8 z1' z2' z3' => ?_)
        simp only [s92_69, s92_72, zpu_none, z1 nv]
        exact ih m8 ⟨z1', z2', zRL_eq (m := m6) (fun i _ => by rw [z3' 20 (by omega) (by decide), y4 20 (by decide) (by decide)]) x3, fun a w1 w2 => by rw [z3' a (by omega) (by omega), y3 a w1 w2]; exact x4 a w1 w2⟩
      · rintro m6 ⟨x1, x2, x3, x4⟩
        simp only [s92_53]
        simp only [s92_54, s92_56, s92_75, s92_76, s92_77, s92_80, Int.toNat_natCast, true_and, and_true, true_or, or_true, false_or, or_false, zwr_id, zpu_some, zpu_none, reduceIte, Int.reduceLE, Int.reduceLT, Int.reduceEq, Int.reduceNeg, Int.reduceAdd, Int.reduceSub, Int.reduceMul, Int.reduceToNat, Nat.reduceAdd, Nat.reduceLeDiff, Nat.reduceEqDiff, Nat.reduceLT, eq_self, ne_eq, not_false_eq_true, not_true_eq_false, Int.cast_ofNat_Int, t64]
        have x1' := x1
        have zl := zTlL_of hL x1'
        have n64 : ∀ i, i ≠ 7 → zup m6 64 7 1 64 i = m6 64 i := fun i hi => zup_nk hi
        refine k _ ?_ zup_same (fun j hj => ⟨fun i hi => by rw [zup_na (by omega)]; exact (x2 j hj).1 i hi, by rw [zup_na (by decide)]; exact (x2 j hj).2⟩) (zRL_eq (fun i _ => zup_na (by decide)) x3) (fun a y1 y2 => by rw [zup_nf (by omega)]; exact x4 a y1 y2)
        refine ⟨hL.1, fun j hj => by rw [zup_nf (by decide)]; exact zl.2.1 j hj, fun j hj => by rw [zup_nf (by decide)]; exact zl.2.2.1 j hj, fun j hj => by rw [zup_nf (by decide)]; exact zl.2.2.2.1 j hj, fun j hj => by rw [zup_nf (by decide)]; exact zl.2.2.2.2.1 j hj, ?_⟩
        rw [n64 0 (by decide), n64 1 (by decide), n64 2 (by decide), n64 3 (by decide), n64 4 (by decide), n64 5 (by decide), n64 6 (by decide)]
        exact zl.2.2.2.2.2
    exact start
  · cases e
    simp only [s92_0, s92_1, s92_4, s92_7, Int.toNat_natCast, true_and, and_true, true_or, or_true, false_or, or_false, zwr_id, zpu_some, zpu_none, reduceIte, Int.reduceLE, Int.reduceLT, Int.reduceEq, Int.reduceNeg, Int.reduceAdd, Int.reduceSub, Int.reduceMul, Int.reduceToNat, Nat.reduceAdd, Nat.reduceLeDiff, Nat.reduceEqDiff, Nat.reduceLT, eq_self, ne_eq, not_false_eq_true, not_true_eq_false, t64, h7]
    exact k m hL h7 hc hR (fun _ _ _ => rfl)
