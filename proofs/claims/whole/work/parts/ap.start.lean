/-! the law from its start -/
def yF : List (Nat × Nat) := (10, 15) :: (xSF ++ (11, 63) :: (xMod ++ [(21, 1)]))
def LF (N : Nat) : zY := ([(0, 0), (20, N)] ++ yF, (0, 0))
def tyF (a : Nat) : Nat := (yF.getD (a - 2) (0, 0)).1
def nuF (a : Nat) : Nat := (yF.getD (a - 2) (0, 0)).2
theorem ltF {N a : Nat} (h : 2 ≤ a) : zt (LF N) a = tyF a := by
  obtain ⟨j, rfl⟩ : ∃ j, a = 2 + j := ⟨a - 2, by omega⟩
  unfold tyF
  rw [Nat.add_sub_cancel_left]
  exact zt_at (l := [(0, 0), (20, N)]) (x := yF) rfl
theorem lnF {N a : Nat} (h : 2 ≤ a) : zn (LF N) a = nuF a := by
  obtain ⟨j, rfl⟩ : ∃ j, a = 2 + j := ⟨a - 2, by omega⟩
  unfold nuF
  rw [Nat.add_sub_cancel_left]
  exact zn_at (l := [(0, 0), (20, N)]) (x := yF) rfl
theorem lF_Mt {N : Nat} : zMt (LF N) := by
  unfold zMt
  simp (disch := decide) only [ltF]
  decide +kernel
theorem lF_Mn {N : Nat} : zMn (LF N) := by
  unfold zMn
  simp (disch := decide) only [lnF]
  decide +kernel
theorem lF_KL {N c cap : Nat} {m : zM} (h : mKey m c) (h2 : 2 ≤ c) (hc : cap < 1000) (q : tyF c = 2 ∧ tyF (c + 1) = 20 ∧ nuF (c + 1) = cap) : zKL (LF N) m c cap [] := ⟨(ltF h2).trans q.1, (ltF (by omega)).trans q.2.1, (lnF (by omega)).trans q.2.2, hc, h2, h.1, h.2, Nat.zero_le _, zAL_nil⟩
theorem lF_Pl {N c cap : Nat} {m : zM} (h : mPart m c) (h2 : 2 ≤ c) (hc : cap < 1000) (q : tyF c = 3 ∧ (tyF (c + 1) = 20 ∧ tyF (c + 2) = 20 ∧ tyF (c + 3) = 20) ∧ nuF (c + 1) = 26 ∧ nuF (c + 2) = cap ∧ nuF (c + 3) = cap) : zPl (LF N) m c cap := ⟨(ltF h2).trans q.1, h2, h.1, h.2.1, h.2.2.1, (ltF (by omega)).trans q.2.1.1, (ltF (by omega)).trans q.2.1.2.1, (ltF (by omega)).trans q.2.1.2.2, (lnF (by omega)).trans q.2.2.1, (lnF (by omega)).trans q.2.2.2.1, (lnF (by omega)).trans q.2.2.2.2, hc⟩
theorem lF_Sd {N : Nat} {m : zM} {c : Nat} (hc : c = 280 ∨ c = 306) (h : mScr m c) : zSd (LF N) m c dD0 ∧ zSl (LF N) m c := by
  rcases hc with rfl | rfl
  · obtain ⟨⟨p0, p1, p2, p3, p4, p5, p6, p7, p8, p9⟩, b, ⟨c1, c2, c3, c4, c5, c6⟩, d1, d2, d3⟩ := h
    exact ⟨⟨⟨(ltF (by decide)).trans (by decide +kernel), by decide, p0, p1, p2, p3, p4, p5, p6, p7, p8, p9, (ltF (by decide)).trans (by decide +kernel), (lnF (by decide)).trans (by decide +kernel)⟩, b, lF_KL c1 (by decide) (by decide) (by decide +kernel), lF_KL c2 (by decide) (by decide) (by decide +kernel), lF_KL c3 (by decide) (by decide) (by decide +kernel), lF_KL c4 (by decide) (by decide) (by decide +kernel), lF_KL c5 (by decide) (by decide) (by decide +kernel), lF_KL c6 (by decide) (by decide) (by decide +kernel)⟩, lF_Pl d1 (by decide) (by decide) (by decide +kernel), lF_Pl d2 (by decide) (by decide) (by decide +kernel), lF_Pl d3 (by decide) (by decide) (by decide +kernel)⟩
  · obtain ⟨⟨p0, p1, p2, p3, p4, p5, p6, p7, p8, p9⟩, b, ⟨c1, c2, c3, c4, c5, c6⟩, d1, d2, d3⟩ := h
    exact ⟨⟨⟨(ltF (by decide)).trans (by decide +kernel), by decide, p0, p1, p2, p3, p4, p5, p6, p7, p8, p9, (ltF (by decide)).trans (by decide +kernel), (lnF (by decide)).trans (by decide +kernel)⟩, b, lF_KL c1 (by decide) (by decide) (by decide +kernel), lF_KL c2 (by decide) (by decide) (by decide +kernel), lF_KL c3 (by decide) (by decide) (by decide +kernel), lF_KL c4 (by decide) (by decide) (by decide +kernel), lF_KL c5 (by decide) (by decide) (by decide +kernel), lF_KL c6 (by decide) (by decide) (by decide +kernel)⟩, lF_Pl d1 (by decide) (by decide) (by decide +kernel), lF_Pl d2 (by decide) (by decide) (by decide +kernel), lF_Pl d3 (by decide) (by decide) (by decide +kernel)⟩
theorem lF_Rw {N : Nat} {m : zM} {c : Nat} (h : mRow m c) (h2 : 2 ≤ c) (q : tyF c = 5 ∧ tyF (c + 1) = 20 ∧ nuF (c + 1) = 80) : zRw (LF N) m c [] 0 0 := ⟨(ltF h2).trans q.1, h2, h.1, (ltF (by omega)).trans q.2.1, (lnF (by omega)).trans q.2.2, h.2.1, Nat.zero_le _, h.2.2.1, h.2.2.2, zAL_nil⟩
theorem lF_RL {N : Nat} {m : zM} {c : Nat} (h : mRdg m c) (hc : c = 10 ∨ c = 20) : zRL (LF N) m c := by
  rcases hc with rfl | rfl
  · refine ⟨(ltF (by decide)).trans (by decide +kernel), by decide, h.1, ?_, ?_⟩
    · simp (disch := decide) only [ltF]; decide +kernel
    · simp (disch := decide) only [lnF]; decide +kernel
  · refine ⟨(ltF (by decide)).trans (by decide +kernel), by decide, h.1, ?_, ?_⟩
    · simp (disch := decide) only [ltF]; decide +kernel
    · simp (disch := decide) only [lnF]; decide +kernel
theorem tyF_his : ∀ j, j < 30 → tyF (30 + 2 + j) = 20 ∧ nuF (30 + 2 + j) = 80 := by decide +kernel
theorem tyF_t1 : ∀ j, j < 66 → tyF (66 + j) = 20 ∧ nuF (66 + j) = 26 := by decide +kernel
theorem tyF_t2 : ∀ j, j < 66 → tyF (133 + j) = 21 ∧ nuF (133 + j) = 9 := by decide +kernel
theorem tyF_t3 : ∀ j, j < 66 → tyF (200 + j) = 21 ∧ nuF (200 + j) = 9 := by decide +kernel
theorem tyF_t4 : ∀ j, j < 9 → tyF (269 + j) = 21 ∧ nuF (269 + j) = 9 := by decide +kernel
theorem lF_Hi {N : Nat} {m : zM} (h : mHis m) : zHi (LF N) m 30 [] := by
  obtain ⟨⟨a0, a1, a2, a3, a4⟩, b⟩ := h
  exact ⟨⟨(ltF (by decide)).trans (by decide +kernel), by decide, a0, a1, a2, (ltF (by decide)).trans (by decide +kernel), (lnF (by decide)).trans (by decide +kernel), (ltF (by decide)).trans (by decide +kernel), (lnF (by decide)).trans (by decide +kernel), (ltF (by decide)).trans (by decide +kernel), (lnF (by decide)).trans (by decide +kernel), fun j hj => ⟨b j hj, (ltF (by omega)).trans (tyF_his j hj).1, (lnF (by omega)).trans (tyF_his j hj).2⟩⟩, 0, by decide, a3, a4, Nat.zero_le _, fun j q hq => by cases hq⟩
theorem lF_Tl {N : Nat} {m : zM} (h : mTal m) : zTl (LF N) m none := by
  obtain ⟨⟨a0, a1, a2, a3, a4, a5, a6, a7⟩, b1, b2, b3, b4⟩ := h
  refine ⟨⟨?_, fun j hj => ⟨b1 j hj, (ltF (by omega)).trans (tyF_t1 j hj).1, (lnF (by omega)).trans (tyF_t1 j hj).2⟩, fun j hj => ⟨b2 j hj, (ltF (by omega)).trans (tyF_t2 j hj).1, (lnF (by omega)).trans (tyF_t2 j hj).2⟩, fun j hj => ⟨b3 j hj, (ltF (by omega)).trans (tyF_t3 j hj).1, (lnF (by omega)).trans (tyF_t3 j hj).2⟩, fun j hj => ⟨b4 j hj, (ltF (by omega)).trans (tyF_t4 j hj).1, (lnF (by omega)).trans (tyF_t4 j hj).2⟩, a0, a5, a6, Or.inl ⟨a1, a2⟩, Or.inl ⟨a3, a4⟩⟩, Or.inl a7⟩
  simp (disch := decide) only [ltF, lnF]
  decide +kernel
def g0 : zG := ([], none, [], 0, [], 0, -1, 0)
theorem gK_0 : gK g0 := ⟨⟨⟨by decide, fun x hx => by cases hx⟩, fun D e => (by cases e), fun _ => ⟨rfl, rfl, rfl⟩, by decide, by decide, by decide⟩, fun _ => rfl⟩
theorem lF_CI {N : Nat} {m : zM} (h : mSF m) : zCI (LF N) m g0 := by
  obtain ⟨p, q, ⟨r0, r1⟩, r2, ⟨r3, r4⟩, ⟨r5, r6⟩, r7, r8, r9, r10⟩ := h
  obtain ⟨s1, s2⟩ := lF_Sd (N := N) (Or.inl rfl) r9
  obtain ⟨s3, s4⟩ := lF_Sd (N := N) (Or.inr rfl) r10
  refine ⟨280, 306, ⟨(ltF (by decide)).trans (by decide +kernel), p, q.1, q.2.1, q.2.2.1, q.2.2.2⟩, ⟨(ltF (by decide)).trans (by decide +kernel), by decide, r0, (ltF (by decide)).trans (by decide +kernel), (lnF (by decide)).trans (by decide +kernel), r1, by decide, zAL_nil, fun x hx => by cases hx⟩, ⟨(ltF (by decide)).trans (by decide +kernel), r2⟩, ⟨0, lF_Rw r3 (by decide) (by decide +kernel)⟩, ⟨[], 0, 0, lF_Rw r4 (by decide) (by decide +kernel)⟩, ?_, lF_RL r6 (Or.inr rfl), lF_Hi r7, lF_Tl r8, ⟨(ltF (by decide)).trans (by decide +kernel), (lnF (by decide)).trans (by decide +kernel)⟩, Or.inl ⟨rfl, rfl⟩, ⟨dD0, s1, fun D' e => by cases e⟩, s2, ⟨dD0, s3⟩, s4⟩
  have e : kRun (oP none) [] = ms0 := rfl
  rw [e]
  refine ⟨lF_RL r5 (Or.inl rfl), ⟨r5.2.1, by decide, zAL_nil, zAL_nil, zAL_nil, zAL_nil, zAL_nil, zAL_nil⟩, ⟨r5.2.2.1, by decide, zAL_nil, zAL_nil, zAL_nil⟩, r5.2.2.2.1, r5.2.2.2.2, ?_⟩
  exact (ms0_ok (N := 0)).1
theorem lF_rSt {m : zM} (hp : zMp m) (q : m 332 1 = 0 ∧ m 332 2 = 0 ∧ m 332 3 = -1 ∧ m 332 5 = 0 ∧ m 332 6 = 0 ∧ m 332 32 = 0 ∧ m 332 33 = 0 ∧ m 332 53 = 0) : rSt m g0 := by
  obtain ⟨q1, q2, q3, q5, q6, q32, q33, q53⟩ := q
  exact ⟨hp, ⟨q5, Nat.zero_le _, zAL_nil, fun x hx => by cases hx⟩, by decide, q6, ⟨q2, q3, q1⟩, ⟨zAL_nil, q32, q33⟩, ⟨q53, Nat.zero_le _, fun j q hq => by cases hq⟩, fun D e => by cases e⟩
theorem lSF : xSF.length = 329 := by decide +kernel
theorem lMod : xMod.length = 38 := by decide
theorem mSF_eq {m m' : zM} (h : ∀ a, 2 ≤ a → a ≤ 331 → m' a = m a) (k : mSF m) : mSF m' := by
  obtain ⟨p, q, r0, r2, ⟨r3, r4⟩, ⟨r5, r6⟩, r7, r8, r9, r10⟩ := k
  have e := h 2 (by decide) (by decide)
  exact ⟨by rw [e]; exact p, by rw [e]; exact q, by rw [h 4 (by decide) (by decide)]; exact r0, by rw [h 3 (by decide) (by decide)]; exact r2, ⟨mRow_eq (h _ (by decide) (by decide)) r3, mRow_eq (h _ (by decide) (by decide)) r4⟩, ⟨mRdg_eq (h _ (by decide) (by decide)) r5, mRdg_eq (h _ (by decide) (by decide)) r6⟩, mHis_eq (h _ (by decide) (by decide)) (h _ (by decide) (by decide)) r7, mTal_eq (h _ (by decide) (by decide)) (h _ (by decide) (by decide)) (h _ (by decide) (by decide)) (h _ (by decide) (by decide)) (h _ (by decide) (by decide)) r8, mScr_eq (fun a p q => h a (by omega) (by omega)) r9, mScr_eq (fun a p q => h a (by omega) (by omega)) r10⟩
theorem c_law {N : Nat} {m : zM} {Q : zQ} (hN : N < 2000000000) (hz : ∀ j, m 1 j < 2147483648) (k : ∀ L' m', L'.1 = (LF N).1 → L'.2.1 ≤ N / 6 → L'.2.2 ≤ 6 * (N / 6) → Q (some (zI 1)) L' m') : zwp 258 0 [zA 1, zU, zU, zU, zU, zU, zU] [] ([(0, 0), (20, N)], (0, 0)) m Q := by
  simp only [s258_0, s258_3, s258_4, Int.toNat_natCast, true_and, and_true, true_or, or_true, false_or, or_false, zwr_id, zpu_some, zpu_none, reduceIte, Int.reduceLE, Int.reduceLT, Int.reduceEq, Int.reduceNeg, Int.reduceAdd, Int.reduceSub, Int.reduceMul, Int.reduceToNat, Nat.reduceAdd, Nat.reduceLeDiff, Nat.reduceEqDiff, Nat.reduceLT, eq_self, ne_eq, not_false_eq_true, not_true_eq_false, List.append_assoc, List.cons_append, List.nil_append, List.length_append, List.length_cons, List.length_nil, lSF, lMod, Nat.reduceAdd, Nat.zero_add, Nat.add_assoc, znu_mk, Int.reduceToNat, Nat.reduceLT]
  refine i_sf (l := [(0, 0), (20, N), (10, 15)]) rfl rfl (fun m1 p1 f1 => ?_)
  simp only [s258_7, s258_8, s258_11, s258_12, zpu_none, Int.toNat_natCast, true_and, and_true, true_or, or_true, false_or, or_false, zwr_id, zpu_some, zpu_none, reduceIte, Int.reduceLE, Int.reduceLT, Int.reduceEq, Int.reduceNeg, Int.reduceAdd, Int.reduceSub, Int.reduceMul, Int.reduceToNat, Nat.reduceAdd, Nat.reduceLeDiff, Nat.reduceEqDiff, Nat.reduceLT, eq_self, ne_eq, not_false_eq_true, not_true_eq_false, List.append_assoc, List.cons_append, List.nil_append, List.length_append, List.length_cons, List.length_nil, lSF, lMod, Nat.reduceAdd, Nat.zero_add, Nat.add_assoc, znu_mk, Int.reduceToNat, Nat.reduceLT]
  refine i_mod (l := [(0, 0), (20, N), (10, 15)] ++ (xSF ++ [(11, 63)])) (by simp only [List.length_append, List.length_cons, List.length_nil, lSF, lMod, Nat.reduceAdd]) ((zt_at (l := [(0, 0), (20, N)]) (j := 330) rfl).trans (by decide +kernel)) (fun j => zclr_s) (fun m2 p2 q2 f2 => ?_)
  simp only [s258_15, s258_16, s258_17, s258_19, s258_20, s258_21, zpu_none, Int.toNat_natCast, true_and, and_true, true_or, or_true, false_or, or_false, zwr_id, zpu_some, zpu_none, reduceIte, Int.reduceLE, Int.reduceLT, Int.reduceEq, Int.reduceNeg, Int.reduceAdd, Int.reduceSub, Int.reduceMul, Int.reduceToNat, Nat.reduceAdd, Nat.reduceLeDiff, Nat.reduceEqDiff, Nat.reduceLT, eq_self, ne_eq, not_false_eq_true, not_true_eq_false, List.append_assoc, List.cons_append, List.nil_append, List.length_append, List.length_cons, List.length_nil, lSF, lMod, Nat.reduceAdd, Nat.zero_add, Nat.add_assoc, znu_mk, Int.reduceToNat, Nat.reduceLT]
  have p1' : mSF (zclr m2 371 1) := mSF_eq (fun a p q => by rw [zclr_1 (by omega), f2 a (by omega), zclr_1 (by omega)]) p1
  have e2 : zclr m2 371 1 332 = m2 332 := zclr_1 (by decide)
  have h : lawI N (LF N) (zclr m2 371 1) g0 := ⟨gK_0, lF_CI p1', lF_rSt (zMp_eq (fun i _ => by rw [e2]) p2) (by rw [e2]; exact q2), lF_Mt, lF_Mn, ⟨rfl, rfl⟩, (ltF (by decide)).trans (by decide +kernel), (lnF (by decide)).trans (by decide +kernel), fun j => by rw [zclr_1 (by decide), f2 1 (by decide), zclr_1 (by decide), f1 1 (by decide), zclr_1 (by decide)]; exact hz j⟩
  have r := lw_loop (Q := Q) hN (N / 6) 0 (LF N) (zclr m2 371 1) g0 zU zU (by omega) h (fun L' m' a b c => k L' m' a (by have : (LF N).2.1 = 0 := rfl; omega) (by have : (LF N).2.2 = 0 := rfl; omega))
  exact r
