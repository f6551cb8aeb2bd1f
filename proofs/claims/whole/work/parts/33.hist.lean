theorem hist_next {L : zY} {m m' : zM} {h0 : List Int × Nat} {hist : zHs} (hH : zHi L m 30 (h0 :: hist)) (e : ∀ a, a ≠ 30 → a ≠ 6 → a ≠ 7 → m' a = m a) (e0 : m' 30 0 = m 30 0) (e1 : m' 30 1 = m 30 1) (e2 : m' 30 2 = m 30 2) (e3 : m' 30 3 = if m 30 3 = 0 then 29 else m 30 3 - 1) (e4 : m' 30 4 = (hist.length : Int)) : zHi L m' 30 hist := by
  obtain ⟨⟨a1, a2, a3, a4, a5, a6, a7, a8, a9, a10, a11, a12⟩, nx, b1, b2, b3, b4, b5⟩ := hH
  refine ⟨⟨a1, a2, e0.trans a3, e1.trans a4, e2.trans a5, a6, a7, a8, a9, a10, a11, fun j hj => ?_⟩, if nx = 0 then 29 else nx - 1, ?_, ?_, e4, ?_, fun j p hj => ?_⟩
  · rw [e 31 (by decide) (by decide) (by decide)]; exact a12 j hj
  · split <;> omega
  · rw [e3, b2]
    clear e e0 e1 e2 e3 e4 a12 b5 b3 a3 a4 a5
    by_cases h : nx = 0
    · rw [if_pos h, if_pos (by omega)]; rfl
    · rw [if_neg h, if_neg (by omega)]; omega
  · rw [List.length_cons] at b4; omega
  · have hjl := (List.getElem?_eq_some_iff.mp hj).1
    rw [List.length_cons] at b4
    have eq : (nx + 29 - (j + 1)) % 30 = ((if nx = 0 then 29 else nx - 1) + 29 - j) % 30 := by
      clear e e0 e1 e2 e3 e4 a12 b5 b3 a3 a4 a5 hj
      split <;> omega
    obtain ⟨u1, u2, u3, u4⟩ := b5 (j + 1) p (by rw [List.getElem?_cons_succ]; exact hj)
    rw [eq] at u1 u2 u4
    generalize hg : ((if nx = 0 then 29 else nx - 1) + 29 - j) % 30 = g at *
    refine ⟨?_, ?_, u3, zAL_eq (m := m) ?_ u4⟩
    · rw [e 62 (by decide) (by decide) (by decide)]; exact u1
    · rw [e 63 (by decide) (by decide) (by decide)]; exact u2
    · have hg3 : g < 30 := by clear e e0 e1 e2 e3 e4 a12 b5 b3 a3 a4 a5 hj u1 u2 u4; omega
      clear e0 e1 e2 e3 e4 a12 b5 b3 a3 a4 a5 hj u1 u2 u4 hg eq
      exact e _ (by omega) (by omega) (by omega)
theorem c_rest_in {L : zY} {m : zM} {Q : zQ} {q : Nat} {h0 : List Int × Nat} {row : List Int} {caret ov : Int} (a1 : zt L 30 = 1) (a6 : zt L 31 = 22) (a7 : zn L 31 = 30) (a8 : zt L 62 = 20) (a9 : zn L 62 = 30) (a10 : zt L 63 = 20) (a11 : zn L 63 = 30) (hq : q < 30) (c2 : zt L (30 + 2 + q) = 20) (c3 : zn L (30 + 2 + q) = 80) (f1 : m 30 0 = 31) (f2 : m 30 1 = 62) (f3 : m 30 2 = 63) (f4 : m 30 3 = (q : Int)) (c1 : m 31 q = ((30 + 2 + q : Nat) : Int)) (y1 : m 62 q = (h0.1.length : Int)) (y2 : m 63 q = (h0.2 : Int)) (y3 : h0.1.length ≤ 80) (y4 : zAL m (30 + 2 + q) 0 h0.1) (hR : zRw L m 6 row caret ov) (k : ∀ m', zRw L m' 6 h0.1 (h0.2 : Int) 0 → (∀ a, a ≠ 6 → a ≠ 7 → m' a = m a) → Q none L m') : zwp 3 49 [zA 30, zA 6, zU] [] L m Q := by
  have r1 := hR.1
  have hq0 : 0 ≤ (q : Int) ∧ (q : Int) < ((30 : Nat) : Int) := by omega
  have ne6 : ∀ a, a ≠ 6 → a ≠ 7 → (a < 6 ∨ 7 < a) := fun a _ _ => by omega
  have nq : 30 + 2 + q ≠ 6 ∧ 30 + 2 + q ≠ 7 := by omega
  simp only [s3_49, s3_50, r1, true_and]
  refine c_Rclear hR (fun m2 g2 fr2 => ?_)
  simp only [s3_53, s3_54, zpu_none, zpu_some]
  refine zfor (n := h0.1.length) (fun i => [zA 30, zA 6, zI (i : Nat)]) (fun i m' => zRw L m' 6 (h0.1.take i) 0 0 ∧ zFR 6 7 m m') ?_ ?_ 0 m2 (Nat.zero_le _) ⟨g2, fr2⟩
  · rintro i m3 hi ⟨g3, fr3⟩ ih
    have e3 : ∀ a, a ≠ 6 → a ≠ 7 → m3 a = m a := fun a h1 h2 => zFR_at fr3 (ne6 a h1 h2)
    have d1 : m3 30 1 = ((62 : Nat) : Int) := by rw [e3 30 (by decide) (by decide)]; exact f2
    have d2 : m3 30 3 = (q : Int) := by rw [e3 30 (by decide) (by decide)]; exact f4
    have d3 : m3 30 0 = ((31 : Nat) : Int) := by rw [e3 30 (by decide) (by decide)]; exact f1
    have d4 : m3 62 q = (h0.1.length : Int) := by rw [e3 62 (by decide) (by decide)]; exact y1
    have d5 : m3 31 q = ((30 + 2 + q : Nat) : Int) := by rw [e3 31 (by decide) (by decide)]; exact c1
    have d6 : m3 (30 + 2 + q) i = h0.1[i] := by rw [e3 _ nq.1 nq.2]; exact zAL_get0 y4 hi
    have hl : (h0.1.take i).length < 80 := by rw [List.length_take]; omega
    have hi80 : 0 ≤ (i : Int) ∧ (i : Int) < ((80 : Nat) : Int) := by omega
    have ni1 : ¬ (h0.1.length : Int) ≤ (i : Int) := by omega
    have ni2 : ¬ 80 ≤ (i : Int) := by omega
    simp only [s3_55]
    simp only [s3_56, s3_57, s3_60, s3_61, s3_64, s3_65, s3_68, s3_69, s3_71, s3_74, s3_75, s3_76, s3_79, s3_80, s3_83, s3_84, s3_85, s3_86, Int.toNat_natCast, true_and, and_true, true_or, or_true, false_or, or_false, zwr_id, zpu_some, zpu_none, reduceIte, Int.reduceLE, Int.reduceLT, Int.reduceEq, Int.reduceNeg, Int.reduceAdd, Int.reduceSub, Int.reduceMul, Int.reduceToNat, Nat.reduceAdd, Nat.reduceLeDiff, Nat.reduceEqDiff, Nat.reduceLT, eq_self, ne_eq, not_false_eq_true, not_true_eq_false, a1, r1, a6, a7, a8, a9, d1, d2, d3, d4, d5, d6, c2, c3, hq0, hi80, ni1, ni2, and_self]
    refine c_Rappend g3 hl (fun m4 g4 fr4 => ?_)
    simp only [s3_89, s3_92, Int.toNat_natCast, true_and, and_true, true_or, or_true, false_or, or_false, zwr_id, zpu_some, zpu_none, reduceIte, Int.reduceLE, Int.reduceLT, Int.reduceEq, Int.reduceNeg, Int.reduceAdd, Int.reduceSub, Int.reduceMul, Int.reduceToNat, Nat.reduceAdd, Nat.reduceLeDiff, Nat.reduceEqDiff, Nat.reduceLT, eq_self, ne_eq, not_false_eq_true, not_true_eq_false, z1 (i := i) (Nat.lt_of_lt_of_le hi (Nat.le_trans y3 (by decide)))]
    rw [← take_s hi] at g4
    exact ih m4 ⟨g4, zFR_tr fr3 fr4⟩
  · rintro m3 ⟨g3, fr3⟩
    rw [List.take_length] at g3
    have e3 : ∀ a, a ≠ 6 → a ≠ 7 → m3 a = m a := fun a h1 h2 => zFR_at fr3 (ne6 a h1 h2)
    have d1 : m3 30 1 = ((62 : Nat) : Int) := by rw [e3 30 (by decide) (by decide)]; exact f2
    have d2 : m3 30 3 = (q : Int) := by rw [e3 30 (by decide) (by decide)]; exact f4
    have d3 : m3 30 2 = ((63 : Nat) : Int) := by rw [e3 30 (by decide) (by decide)]; exact f3
    have d4 : m3 62 q = (h0.1.length : Int) := by rw [e3 62 (by decide) (by decide)]; exact y1
    have d5 : m3 63 q = (h0.2 : Int) := by rw [e3 63 (by decide) (by decide)]; exact y2
    obtain ⟨x1, x2, x3, x4, x5, x6, x7, x8, x9, x10⟩ := g3
    simp only [s3_55]
    simp only [s3_56, s3_57, s3_60, s3_61, s3_64, s3_65, s3_68, s3_69, s3_71, s3_74, s3_75, s3_76, s3_79, s3_80, s3_83, s3_84, s3_85, s3_86, s3_89, s3_92, s3_95, s3_96, s3_97, s3_100, s3_101, s3_104, s3_105, s3_108, Int.toNat_natCast, true_and, and_true, true_or, or_true, false_or, or_false, zwr_id, zpu_some, zpu_none, reduceIte, Int.reduceLE, Int.reduceLT, Int.reduceEq, Int.reduceNeg, Int.reduceAdd, Int.reduceSub, Int.reduceMul, Int.reduceToNat, Nat.reduceAdd, Nat.reduceLeDiff, Nat.reduceEqDiff, Nat.reduceLT, eq_self, ne_eq, not_false_eq_true, not_true_eq_false, a1, r1, a8, a9, a10, a11, d1, d2, d3, d4, d5, hq0, and_self]
    rw [if_pos (Int.le_refl _)]
    refine k _ ⟨x1, x2, ?_, x4, x5, ?_, x7, zup_same, ?_, zAL_eq (zup_nf (by decide)) x10⟩ (fun a p1 p2 => by rw [zup_nf p1, e3 a p1 p2])
    · rw [zup_nk (by decide)]; exact x3
    · rw [zup_nk (by decide)]; exact x6
    · rw [zup_nk (by decide)]; exact x9
theorem c_restore {L : zY} {m : zM} {Q : zQ} {hist : zHs} {h0 : List Int × Nat} {row : List Int} {caret ov : Int} (hH : zHi L m 30 (h0 :: hist)) (hR : zRw L m 6 row caret ov) (k : ∀ m', zHi L m' 30 hist → zRw L m' 6 h0.1 (h0.2 : Int) 0 → (∀ a, a ≠ 30 → a ≠ 6 → a ≠ 7 → m' a = m a) → Q none L m') : zwp 3 0 [zA 30, zA 6, zU] [] L m Q := by
  have hH0 := hH
  obtain ⟨⟨a1, a2, a3, a4, a5, a6, a7, a8, a9, a10, a11, a12⟩, nx, b1, b2, b3, b4, b5⟩ := hH0
  obtain ⟨y1, y2, y3, y4⟩ := b5 0 h0 List.getElem?_cons_zero
  rw [List.length_cons] at b3 b4
  have hq : (nx + 29 - 0) % 30 = if nx = 0 then 29 else nx - 1 := by
    clear a12 b5 y1 y2 y4 b3 a3 a4 a5 b2
    split <;> omega
  rw [hq] at y1 y2 y4
  have hq2 : (if nx = 0 then 29 else nx - 1) < 30 := by
    clear a12 b5 y1 y2 y4 b3 a3 a4 a5 b2 hq
    split <;> omega
  obtain ⟨c1, c2, c3⟩ := a12 _ hq2
  have hl : hist.length < 30 := by
    clear a12 b5 y1 y2 y4 b3 a3 a4 a5 b2 hq c1
    omega
  have hl0 : 0 < ((hist.length + 1 : Nat) : Int) := by
    clear a12 b5 y1 y2 y4 b3 a3 a4 a5 b2 hq c1
    omega
  have main : ∀ m1, (∀ a, a ≠ 30 → m1 a = m a) → m1 30 0 = m 30 0 → m1 30 1 = m 30 1 → m1 30 2 = m 30 2 → m1 30 3 = ((if nx = 0 then 29 else nx - 1 : Nat) : Int) → m1 30 4 = (hist.length : Int) → zwp 3 49 [zA 30, zA 6, zU] [] L m1 Q := by
    intro m1 e e0 e1 e2 e3 e4
    refine c_rest_in a1 a6 a7 a8 a9 a10 a11 hq2 c2 c3 (e0.trans a3) (e1.trans a4) (e2.trans a5) e3 (by rw [e 31 (by decide)]; exact c1) (by rw [e 62 (by decide)]; exact y1) (by rw [e 63 (by decide)]; exact y2) y3 (zAL_eq (e _ ?_) y4) (zRw_eq (e _ (by decide)) (e _ (by decide)) hR) (fun m2 g2 f2 => ?_)
    · clear a12 b5 y1 y2 y4 b3 a3 a4 a5 b2 hq c1 e e0 e1 e2 e3 e4 hl0
      omega
    · have e30 : m2 30 = m1 30 := f2 30 (by decide) (by decide)
      refine k m2 (hist_next hH (fun a h1 h2 h3 => by rw [f2 a h2 h3, e a h1]) (by rw [e30, e0]) (by rw [e30, e1]) (by rw [e30, e2]) ?_ (by rw [e30, e4])) g2 (fun a h1 h2 h3 => by rw [f2 a h2 h3, e a h1])
      rw [e30, e3, b2]
      clear a12 b5 y1 y2 y4 b3 a3 a4 a5 b2 hq c1 e e0 e1 e2 e3 e4 hl0
      by_cases h : nx = 0
      · rw [if_pos h, if_pos (by omega)]; rfl
      · rw [if_neg h, if_neg (by omega)]; omega
  by_cases hx : nx = 0
  · subst hx
    simp only [s3_0, s3_1, s3_4, s3_7, s3_8, s3_9, s3_10, s3_13, s3_14, s3_15, s3_18, s3_19, s3_20, s3_23, s3_26, s3_27, s3_30, s3_32, s3_35, s3_36, s3_39, s3_40, s3_41, s3_44, s3_46, Int.toNat_natCast, true_and, and_true, true_or, or_true, false_or, or_false, zwr_id, zpu_some, zpu_none, reduceIte, Int.reduceLE, Int.reduceLT, Int.reduceEq, Int.reduceNeg, Int.reduceAdd, Int.reduceSub, Int.reduceMul, Int.reduceToNat, Nat.reduceAdd, Nat.reduceLeDiff, Nat.reduceEqDiff, Nat.reduceLT, eq_self, ne_eq, not_false_eq_true, not_true_eq_false, a1, b2, b3, hl0, (show zwr (((hist.length + 1 : Nat) : Int) - 1) = (hist.length : Int) by rw [zwr_id (by omega) (by omega)]; omega), zup_nk (show (3 : Nat) ≠ 4 by decide), show ((0 : Nat) : Int) ≤ 0 from Int.le_refl _]
    refine main _ (fun a ha => by rw [zup_nf ha, zup_nf ha]) ?_ ?_ ?_ ?_ ?_
    · rw [zup_nk (by decide), zup_nk (by decide)]
    · rw [zup_nk (by decide), zup_nk (by decide)]
    · rw [zup_nk (by decide), zup_nk (by decide)]
    · rw [zup_same]; rfl
    · rw [zup_nk (by decide), zup_same]
  · have n1 : ¬ (nx : Int) ≤ 0 := by clear a12 b5 y1 y2 y4 b3 a3 a4 a5 b2 hq c1; omega
    have n2 : ¬ 30 ≤ (nx : Int) := by clear a12 b5 y1 y2 y4 b3 a3 a4 a5 b2 hq c1; omega
    simp only [s3_0, s3_1, s3_4, s3_7, s3_8, s3_9, s3_10, s3_13, s3_14, s3_15, s3_18, s3_19, s3_20, s3_23, s3_26, s3_27, s3_30, s3_32, s3_35, s3_36, s3_39, s3_40, s3_41, s3_44, s3_46, Int.toNat_natCast, true_and, and_true, true_or, or_true, false_or, or_false, zwr_id, zpu_some, zpu_none, reduceIte, Int.reduceLE, Int.reduceLT, Int.reduceEq, Int.reduceNeg, Int.reduceAdd, Int.reduceSub, Int.reduceMul, Int.reduceToNat, Nat.reduceAdd, Nat.reduceLeDiff, Nat.reduceEqDiff, Nat.reduceLT, eq_self, ne_eq, not_false_eq_true, not_true_eq_false, a1, b2, b3, hl0, (show zwr (((hist.length + 1 : Nat) : Int) - 1) = (hist.length : Int) by rw [zwr_id (by omega) (by omega)]; omega), (show zwr ((nx : Int) - 1) = ((nx - 1 : Nat) : Int) by rw [zwr_id (by omega) (by omega)]; omega), n1, n2, zup_nk (show (3 : Nat) ≠ 4 by decide)]
    refine main _ (fun a ha => by rw [zup_nf ha, zup_nf ha]) ?_ ?_ ?_ ?_ ?_
    · rw [zup_nk (by decide), zup_nk (by decide)]
    · rw [zup_nk (by decide), zup_nk (by decide)]
    · rw [zup_nk (by decide), zup_nk (by decide)]
    · rw [zup_same, if_neg hx]
    · rw [zup_nk (by decide), zup_same]
/-! counting on while p holds -/
def fC (p : Nat → Bool) : Nat → Nat → Nat
  | 0, _ => 0
  | d + 1, i => if p i then 1 + fC p d (i + 1) else 0
theorem fC_spec {p : Nat → Bool} : ∀ (d i : Nat), fC p d i ≤ d ∧ (∀ j, i ≤ j → j < i + fC p d i → p j = true) ∧ (fC p d i = d ∨ p (i + fC p d i) = false) := by
  intro d
  induction d with
  | zero => intro i; exact ⟨Nat.le_refl _, fun j h1 h2 => absurd h2 (by rw [fC]; omega), Or.inl rfl⟩
  | succ d ih =>
    intro i
    rw [fC]
    by_cases h : p i = true
    · rw [if_pos h]
      obtain ⟨a, b, c⟩ := ih (i + 1)
      refine ⟨by omega, fun j h1 h2 => ?_, ?_⟩
      · by_cases e : j = i
        · rw [e]; exact h
        · exact b j (by omega) (by omega)
      · rw [← Nat.add_assoc]
        rcases c with c | c
        · exact Or.inl (by omega)
        · exact Or.inr c
    · rw [if_neg h]
      exact ⟨by omega, fun j h1 h2 => absurd h2 (by omega), Or.inr (by rw [Nat.add_zero]; exact Bool.not_eq_true _ ▸ h)⟩
theorem fC_congr {p q : Nat → Bool} : ∀ (d i : Nat), (∀ j, i ≤ j → j < i + d → p j = q j) → fC p d i = fC q d i := by
  intro d
  induction d with
  | zero => intro i h; rfl
  | succ d ih =>
    intro i h
    rw [fC, fC, h i (by omega) (by omega), ih (i + 1) (fun j h1 h2 => h j (by omega) (by omega))]
theorem fC_all {p : Nat → Bool} {n : Nat} : fC p n 0 = n ↔ ∀ j, j < n → p j = true := by
  obtain ⟨a, b, c⟩ := fC_spec (p := p) n 0
  rw [Nat.zero_add] at b c
  constructor
  · intro h j hj
    exact b j (by omega) (by omega)
  · intro h
    rcases c with c | c
    · exact c
    · by_cases e : fC p n 0 = n
      · exact e
      · rw [h _ (by omega)] at c; cases c
