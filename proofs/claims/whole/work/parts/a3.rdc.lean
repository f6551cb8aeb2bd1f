/-! BLOCKS by CODES are due -/
def jIt (D : zD) (x : Int) : zIt := (dCL D x, dCM D x, (if dCE D x = 0 then -2 else dCE D x), 0, 0, 0)
def jL (D : zD) (T : List Int) (h : Nat) : List zIt := (List.range h).map (fun i => jIt D (tCode T i))
theorem jL_len {D : zD} {T : List Int} {h : Nat} : (jL D T h).length = h := by unfold jL; rw [List.length_map, List.length_range]
theorem jL_get {D : zD} {T : List Int} {h i : Nat} (hi : i < (jL D T h).length) : (jL D T h)[i] = jIt D (tCode T i) := by
  have hh : i < h := by rw [jL_len] at hi; exact hi
  rw [← getD_lt (d := it0) hi]
  unfold jL
  rw [List.getD_eq_getElem?_getD, List.getElem?_map, List.getElem?_range hh]
  rfl
theorem jIt_c {D : zD} {x : Int} (h : 0 ≤ dCL D x) : cOf (jIt D x) = cCd D x := cOf_mk (fun q => by omega)
theorem jL_c {D : zD} {T : List Int} {h : Nat} (hD : dOk D) (hlk : dLacks D = false) (hc : ∀ i, i < h → dHas D (tCode T i)) : (jL D T h).map cOf = (cdl D T h).map (fun q => q.1) := by
  unfold jL cdl
  rw [List.map_map, List.map_map]
  refine List.map_congr_left (fun i hi => ?_)
  rw [List.mem_range] at hi
  exact jIt_c (dC_rng hD hlk (hc i hi)).1.1
theorem cdl_ok {D : zD} {T : List Int} {h : Nat} (hD : dOk D) (hlk : dLacks D = false) (hc : ∀ i, i < h → dHas D (tCode T i)) : ∀ q ∈ cdl D T h, kqOk D q := fun q hq => by
  unfold cdl at hq
  obtain ⟨i, hi, rfl⟩ := List.mem_map.mp hq
  rw [List.mem_range] at hi
  exact code_kq hD hlk (hc i hi)
theorem kp_ge {l : List zKq} (hl : ∀ q ∈ l, q.2 ≠ []) : ∀ i, i ≤ l.length → i ≤ kp l i := by
  intro i
  induction i with
  | zero => intro _; exact Nat.le_refl _
  | succ i ih =>
    intro hi
    have hq : l.getD i kq0 ∈ l := by rw [getD_lt (show i < l.length by omega)]; exact List.getElem_mem _
    have := List.length_pos_iff.mpr (hl _ hq)
    have := ih (by omega)
    show i + 1 ≤ kp l i + (l.getD i kq0).2.length
    omega
def rQg (m m' : zM) : Prop := ∀ a k, a ≠ 360 → a ≠ 361 → a ≠ 363 → ¬ (a = 349 ∧ k = 2) → ¬ (350 ≤ a ∧ a ≤ 353 ∧ 400 ≤ k) → m' a k = m a k
theorem rQg_rf {m : zM} : rQg m m := fun _ _ _ _ _ _ _ => rfl
theorem rQg_tr {m m1 m2 : zM} (h1 : rQg m m1) (h2 : rQg m1 m2) : rQg m m2 := fun a k p q t r s => (h2 a k p q t r s).trans (h1 a k p q t r s)
theorem rQg_up {m m' : zM} {a k : Nat} {v : Int} (h : rQg m m') (ha : a = 360 ∨ a = 361 ∨ a = 363 ∨ (a = 349 ∧ k = 2) ∨ (350 ≤ a ∧ a ≤ 353 ∧ 400 ≤ k)) : rQg m (zup m' a k v) := fun a' k' p q t r s => by
  unfold zup
  rw [if_neg (fun z => by rw [z.1] at p q r s t; rw [z.2] at r s; omega)]
  exact h a' k' p q t r s
theorem rQg_ob {m m' : zM} (h : rQg m m') : m' 332 = m 332 := funext (fun k => h 332 k (by decide) (by decide) (by decide) (by omega) (by omega))
theorem rQg_row {m m' : zM} (h : rQg m m') {a : Nat} (h1 : a < 349 ∨ 353 < a) (h2 : a ≠ 360) (h3 : a ≠ 361) (h4 : a ≠ 363) : m' a = m a := funext (fun k => h a k h2 h3 h4 (by omega) (by omega))
theorem rQg_Sf {m m' : zM} (h : rQg m m') : rSf m m' := fun a k hk => h a k (fun z => by rcases hk with hk | hk | hk | hk | hk | hk <;> omega) (fun z => by rcases hk with hk | hk | hk | hk | hk | hk <;> omega) (fun z => by rcases hk with hk | hk | hk | hk | hk | hk <;> omega) (fun z => by rcases hk with hk | hk | hk | hk | hk | hk <;> omega) (fun z => by rcases hk with hk | hk | hk | hk | hk | hk <;> omega)
theorem rQg_FR {m m' : zM} (h : rQg m m') : zFR 332 370 m m' := fun a ha => rQg_row h (by omega) (by omega) (by omega) (by omega)
theorem rMx_Qg {m m' : zM} {D : zD} (h : rQg m m') (hx : rMx m D) : rMx m' D :=
  ⟨zMp_eq (fun i _ => by rw [rQg_ob h]) hx.1, rDt_eq (fun a p q => rQg_row h (by omega) (by omega) (by omega) (by omega)) hx.2.1, rNm_eq (fun a p q => rQg_row h (by omega) (by omega) (by omega) (by omega)) (fun i p q => by rw [rQg_ob h]) hx.2.2⟩
/-- copying a CODE's KEYS -/
theorem c_rdcK {L : zY} {m : zM} {Q : zQ} {a : Nat} {ys : List Int} {l1 l3 l4 l6 : Int} (ht : zMt L) (hn : zMn L) (hp : zMp m) (hs : zAL m 363 0 ys) (hl : ys.length ≤ 6) (ha : a + ys.length ≤ 400) (k : ∀ m', (∀ j, j < ys.length → m' 360 (a + j) = ys.getD j 0) → (∀ j, j < a → m' 360 j = m 360 j) → (∀ c, c ≠ 360 → m' c = m c) → zwp 227 197 [zA 332, zI l1, zI (a : Int), zI l3, zI l4, zI (ys.length : Int), zI l6, zI (ys.length : Int)] [] L m' Q) : zwp 227 168 [zA 332, zI l1, zI (a : Int), zI l3, zI l4, zI (ys.length : Int), zI l6, zI ((0 : Nat) : Int)] [] L m Q := by
  have t0 := mt332 ht
  refine zfor (n := ys.length) (fun t => [zA 332, zI l1, zI (a : Int), zI l3, zI l4, zI (ys.length : Int), zI l6, zI (t : Nat)]) (fun t m' => (∀ j, j < t → m' 360 (a + j) = ys.getD j 0) ∧ (∀ j, j < a → m' 360 j = m 360 j) ∧ ∀ c, c ≠ 360 → m' c = m c) ?_ ?_ 0 m (Nat.zero_le _) ⟨fun j hj => by omega, fun _ _ => rfl, fun _ _ => rfl⟩
  · rintro t m1 ht1 ⟨g1, g2, g3⟩ ih
    have n1 : ¬ (ys.length : Int) ≤ (t : Int) := by omega
    have tv : t < 1000000 := by omega
    have q47 : m1 332 47 = ((360 : Nat) : Int) := by rw [g3 332 (by decide)]; exact mp47 hp
    have q52 : m1 332 52 = ((363 : Nat) : Int) := by rw [g3 332 (by decide)]; exact mp52 hp
    have av : m1 363 t = ys.getD t 0 := by rw [g3 363 (by decide), zAL_get0 hs ht1, getD_lt ht1]
    have hr1 : 0 ≤ (t : Int) ∧ (t : Int) < ((6 : Nat) : Int) := by omega
    have hr2 : 0 ≤ ((a + t : Nat) : Int) ∧ ((a + t : Nat) : Int) < ((400 : Nat) : Int) := by omega
    simp only [s227_168]
    simp only [s227_170, s227_172, s227_175, s227_176, s227_179, s227_180, s227_182, s227_183, s227_184, s227_187, s227_189, s227_190, s227_191, s227_194, Int.toNat_natCast, true_and, and_true, true_or, or_true, false_or, or_false, zwr_id, zpu_some, zpu_none, reduceIte, Int.reduceLE, Int.reduceLT, Int.reduceEq, Int.reduceNeg, Int.reduceAdd, Int.reduceSub, Int.reduceMul, Int.reduceToNat, Nat.reduceAdd, Nat.reduceLeDiff, Nat.reduceEqDiff, Nat.reduceLT, eq_self, ne_eq, not_false_eq_true, not_true_eq_false, t0, n1, q47, q52, mt360 ht, mn360 hn, mt363 ht, mn363 hn, hr1, hr2, and_self, av, (show zwr ((a : Int) + (t : Int)) = ((a + t : Nat) : Int) from zwn (by omega) (by omega)), z1 tv]
    refine ih _ ⟨fun j hj => ?_, fun j hj => by rw [zup_nk (by omega)]; exact g2 j hj, fun c hc => by rw [zup_nf hc]; exact g3 c hc⟩
    by_cases e : j = t
    · subst e; exact zup_same
    · rw [zup_nk (by omega)]; exact g1 j (by omega)
  · rintro m1 ⟨g1, g2, g3⟩
    have n1 : (ys.length : Int) ≤ (ys.length : Int) := by omega
    simp only [s227_168]
    simp only [s227_170, s227_172, Int.toNat_natCast, true_and, and_true, true_or, or_true, false_or, or_false, zwr_id, zpu_some, zpu_none, reduceIte, Int.reduceLE, Int.reduceLT, Int.reduceEq, Int.reduceNeg, Int.reduceAdd, Int.reduceSub, Int.reduceMul, Int.reduceToNat, Nat.reduceAdd, Nat.reduceLeDiff, Nat.reduceEqDiff, Nat.reduceLT, eq_self, ne_eq, not_false_eq_true, not_true_eq_false, n1]
    exact k m1 g1 g2 g3
theorem c_rdc {L : zY} {m : zM} {Q : zQ} {D : zD} {T : List Int} {h : Nat} (ht : zMt L) (hn : zMn L) (hD : dOk D) (hlk : dLacks D = false) (hx : rMx m D) (hT : zAL m 333 0 T) (hl : T.length ≤ 300) (hTr : ∀ x ∈ T, 0 ≤ x ∧ x < 256) (hh : 2 * h ≤ T.length) (hc : ∀ i, i < h → dHas D (tCode T i))
    (k1 : 80 < kp (cdl D T h) h → ∀ m', rQg m m' → Q (some (zI 0)) L m')
    (k2 : kp (cdl D T h) h ≤ 80 → ∀ m', rDu m' (cdl D T h) (jL D T h) → rQg m m' → Q (some (zI 1)) L m') : zwp 227 0 [zA 332, zI ((2 * h : Nat) : Int), zU, zU, zU, zU, zU, zU] [] L m Q := by
  have t0 := mt332 ht
  have hp := hx.1
  have q34 : m 332 34 = ((349 : Nat) : Int) := mp34 hp
  have b2 : (2 : Int) < ((3 : Nat) : Int) := by decide
  have lOk := cdl_ok hD hlk hc
  have cl : (cdl D T h).length = h := cdl_len
  have kg := kp_ge (l := cdl D T h) (fun q hq => (lOk q hq).2.1)
  simp only [s227_0, s227_1, s227_4, s227_5, s227_6, s227_7, s227_8, s227_9, s227_10, Int.toNat_natCast, true_and, and_true, true_or, or_true, false_or, or_false, zwr_id, zpu_some, zpu_none, reduceIte, Int.reduceLE, Int.reduceLT, Int.reduceEq, Int.reduceNeg, Int.reduceAdd, Int.reduceSub, Int.reduceMul, Int.reduceToNat, Nat.reduceAdd, Nat.reduceLeDiff, Nat.reduceEqDiff, Nat.reduceLT, eq_self, ne_eq, not_false_eq_true, not_true_eq_false, t0, q34, mt349 ht, mn349 hn, b2]
  have f0 : rQg m (zup m 349 2 0) := rQg_up rQg_rf (by omega)
  have z0 : zup m 349 2 0 349 2 = 0 := zup_same
  generalize zup m 349 2 0 = m0 at *
  refine zforv (n := h) (fun (v : zV × zV × zV × zV) i => [zA 332, zI ((2 * h : Nat) : Int), zI (kp (cdl D T h) i : Nat), zI ((2 * i : Nat) : Int), v.1, v.2.1, v.2.2.1, v.2.2.2]) (fun i m' => (m' 349 2 = (i : Int) ∧ rBC m' 2 ((jL D T h).take i) ∧ (∀ j, j < i → m' 361 j = (kp (cdl D T h) j : Int)) ∧ ∀ j t, j < i → t < (dSp D (tCode T j)).length → m' 360 (kp (cdl D T h) j + t) = (dSp D (tCode T j)).getD t 0) ∧ kp (cdl D T h) i ≤ 80 ∧ rQg m m') ?_ ?_ (zU, zU, zU, zU) 0 m0 (Nat.zero_le _) ⟨⟨z0, ⟨zAL_nil, zAL_nil, zAL_nil, zAL_nil⟩, fun j hj => by omega, fun j t hj => by omega⟩, Nat.zero_le _, f0⟩
  · rintro ⟨u1, u2, u3, u4⟩ i m1 hi ⟨⟨g1, g2, g3, g4⟩, g5, f1⟩ ih
    have n1 : ¬ ((2 * h : Nat) : Int) ≤ ((2 * i : Nat) : Int) := by omega
    have x1 := rMx_Qg f1 hx
    have hi80 : i ≤ 80 := Nat.le_trans (kg i (by omega)) g5
    have e4 : m1 332 4 = ((333 : Nat) : Int) := mp4 x1.1
    have hT1 : zAL m1 333 0 T := zAL_eq (rQg_row f1 (by decide) (by decide) (by decide) (by decide)) hT
    have i1 : 2 * i < T.length := by omega
    have i2 : 2 * i + 1 < T.length := by omega
    have v1 : m1 333 (2 * i) = T.getD (2 * i) 0 := by rw [zAL_get0 hT1 i1, getD_lt i1]
    have v2 : m1 333 (2 * i + 1) = T.getD (2 * i + 1) 0 := by rw [zAL_get0 hT1 i2, getD_lt i2]
    have r1 := hTr _ (List.getElem_mem i1)
    have r2 := hTr _ (List.getElem_mem i2)
    rw [← getD_lt (d := 0) i1] at r1
    rw [← getD_lt (d := 0) i2] at r2
    have hr1 : 0 ≤ ((2 * i : Nat) : Int) ∧ ((2 * i : Nat) : Int) < ((300 : Nat) : Int) := by omega
    have hr2 : 0 ≤ ((2 * i + 1 : Nat) : Int) ∧ ((2 * i + 1 : Nat) : Int) < ((300 : Nat) : Int) := by omega
    simp only [s227_11]
    simp only [s227_12, s227_13, s227_16, s227_19, s227_20, s227_23, s227_24, s227_25, s227_26, s227_27, s227_30, s227_31, s227_32, s227_33, s227_34, s227_35, s227_37, s227_38, s227_40, Int.toNat_natCast, true_and, and_true, true_or, or_true, false_or, or_false, zwr_id, zpu_some, zpu_none, reduceIte, Int.reduceLE, Int.reduceLT, Int.reduceEq, Int.reduceNeg, Int.reduceAdd, Int.reduceSub, Int.reduceMul, Int.reduceToNat, Nat.reduceAdd, Nat.reduceLeDiff, Nat.reduceEqDiff, Nat.reduceLT, eq_self, ne_eq, not_false_eq_true, not_true_eq_false, n1, t0, e4, mt333 ht, mn333 hn, hr1, hr2, and_self, v1, v2, (show zwr (256 * T.getD (2 * i) 0) = 256 * T.getD (2 * i) 0 from zwr_id (by omega) (by omega)), (show zwr (((2 * i : Nat) : Int) + 1) = ((2 * i + 1 : Nat) : Int) from zwn (by omega) (by omega)), (show zwr (256 * T.getD (2 * i) 0 + T.getD (2 * i + 1) 0) = tCode T i by rw [zwr_id (by omega) (by omega)]; unfold tCode; omega)]
    have hx1 := hc i hi
    have ke : kp (cdl D T h) (i + 1) = kp (cdl D T h) i + (dSp D (tCode T i)).length := by
      show kp (cdl D T h) i + ((cdl D T h).getD i kq0).2.length = _
      rw [cdl_get hi]; rfl
    clear v1 v2 r1 r2
    generalize hX : tCode T i = X at *
    refine c_rspells ht hn hD hlk x1.1 x1.2.2 hx1 (fun m2 s2 f2 => ?_)
    have f2' : rQg m m2 := rQg_tr f1 (fun a k p q t r s => by rw [f2 a t])
    have lb : (dSp D X).length ≤ 6 := Nat.le_trans (List.length_filter_le _ _) (by unfold dSl; exact Nat.le_refl 6)
    simp only [s227_43, s227_45, s227_46, s227_48, s227_49, zpu_some, (show zwr ((kp (cdl D T h) i : Int) + ((dSp D X).length : Int)) = ((kp (cdl D T h) (i + 1) : Nat) : Int) from zwn (by omega) (by omega))]
    simp only [s227_51]
    by_cases hk : kp (cdl D T h) (i + 1) ≤ 80
    · rw [if_pos (by omega)]
      have x2 := rMx_Qg f2' hx
      obtain ⟨p1, p2, p3, p4⟩ := dPart hD hlk hx1
      obtain ⟨l1, l2, l3⟩ := dOk_n hD hlk
      obtain ⟨-, n2, n3⟩ := rNm_n x2.2.2
      have z2 : ¬ ((dnM D : Nat) : Int) = 0 := by omega
      have z3 : ¬ ((dnE D : Nat) : Int) = 0 := by omega
      have c34 : m2 332 34 = ((349 : Nat) : Int) := mp34 x2.1
      have c35 : m2 332 35 = ((350 : Nat) : Int) := mp35 x2.1
      have c36 : m2 332 36 = ((351 : Nat) : Int) := mp36 x2.1
      have c37 : m2 332 37 = ((352 : Nat) : Int) := mp37 x2.1
      have c38 : m2 332 38 = ((353 : Nat) : Int) := mp38 x2.1
      have c48 : m2 332 48 = ((361 : Nat) : Int) := mp48 x2.1
      have c49 : m2 349 2 = (i : Int) := by rw [f2 349 (by decide)]; exact g1
      have hr4 : 0 ≤ ((400 + i : Nat) : Int) ∧ ((400 + i : Nat) : Int) < ((600 : Nat) : Int) := by omega
      have hr5 : 0 ≤ (i : Int) ∧ (i : Int) < ((201 : Nat) : Int) := by omega
      have tailE : zwp 227 134 [zA 332, zI ((2 * h : Nat) : Int), zI (kp (cdl D T h) i : Nat), zI ((2 * i : Nat) : Int), zI X, zI ((dSp D X).length : Int), zI ((400 + i : Nat) : Int), u4] [zI (if dCE D X = 0 then -2 else dCE D X), zI ((400 + i : Nat) : Int), zA 352] L (zup (zup m2 350 (400 + i) (dCL D X)) 351 (400 + i) (dCM D X)) Q := by
        simp only [s227_134, s227_135, s227_136, s227_139, s227_141, s227_142, s227_143, s227_144, s227_147, s227_148, s227_151, s227_152, s227_153, s227_154, s227_155, s227_156, s227_159, s227_160, s227_161, s227_162, s227_163, s227_164, s227_165, s227_166, Int.toNat_natCast, true_and, and_true, true_or, or_true, false_or, or_false, zwr_id, zpu_some, zpu_none, reduceIte, Int.reduceLE, Int.reduceLT, Int.reduceEq, Int.reduceNeg, Int.reduceAdd, Int.reduceSub, Int.reduceMul, Int.reduceToNat, Nat.reduceAdd, Nat.reduceLeDiff, Nat.reduceEqDiff, Nat.reduceLT, eq_self, ne_eq, not_false_eq_true, not_true_eq_false, t0, mt352 ht, mn352 hn, hr4, and_self, c34, c38, c48, mt353 ht, mn353 hn, mt349 ht, mn349 hn, b2, c49, mt361 ht, mn361 hn, hr5, (show zwr ((i : Int) + 1) = ((i + 1 : Nat) : Int) from zwn (by omega) (by omega)), zup_na (show (332 : Nat) ≠ 350 by decide), zup_na (show (332 : Nat) ≠ 351 by decide), zup_na (show (332 : Nat) ≠ 352 by decide), zup_na (show (332 : Nat) ≠ 353 by decide), zup_na (show (332 : Nat) ≠ 361 by decide), zup_na (show (349 : Nat) ≠ 350 by decide), zup_na (show (349 : Nat) ≠ 351 by decide), zup_na (show (349 : Nat) ≠ 352 by decide), zup_na (show (349 : Nat) ≠ 353 by decide), zup_na (show (349 : Nat) ≠ 361 by decide)]
        let m3 := zup (zup (zup (zup (zup (zup m2 350 (400 + i) (dCL D X)) 351 (400 + i) (dCM D X)) 352 (400 + i) (if dCE D X = 0 then -2 else dCE D X)) 353 (400 + i) 0) 361 i (kp (cdl D T h) i : Int)) 349 2 ((i + 1 : Nat) : Int)
        have f3 : rQg m m3 := rQg_up (rQg_up (rQg_up (rQg_up (rQg_up (rQg_up f2' (by omega)) (by omega)) (by omega)) (by omega)) (by omega)) (by omega)
        have x3 := rMx_Qg f3 hx
        have row3 : ∀ c, c ≠ 349 → c ≠ 361 → c ≠ 350 → c ≠ 351 → c ≠ 352 → c ≠ 353 → m3 c = m2 c := fun c p0 p1 p2 p3 p4 p5 => by show zup (zup (zup (zup (zup (zup m2 350 _ _) 351 _ _) 352 _ _) 353 _ _) 361 _ _) 349 _ _ c = _; rw [zup_nf p0, zup_nf p1, zup_nf p5, zup_nf p4, zup_nf p3, zup_nf p2]
        change zwp 227 168 _ _ L m3 Q
        refine c_rdcK (ys := dSp D X) ht hn x3.1 (zAL_eq (row3 363 (by decide) (by decide) (by decide) (by decide) (by decide) (by decide)) s2) lb (by omega) (fun m4 a1 a2 a3 => ?_)
        simp only [s227_197, s227_198, s227_200, s227_201, s227_202, s227_205, (show zwr ((kp (cdl D T h) i : Int) + ((dSp D X).length : Int)) = ((kp (cdl D T h) (i + 1) : Nat) : Int) from zwn (by omega) (by omega)), (show zwr (((2 * i : Nat) : Int) + 2) = ((2 * (i + 1) : Nat) : Int) from zwn (by omega) (by omega))]
        have jl : (jL D T h).length = h := jL_len
        have lt : ((jL D T h).take i).length = i := by rw [List.length_take]; omega
        refine ih (zI X, zI ((dSp D X).length : Int), zI ((400 + i : Nat) : Int), zI ((dSp D X).length : Int)) m4 ⟨⟨?_, ?_, ?_, ?_⟩, hk, ?_⟩
        · rw [a3 349 (by decide)]; exact zup_same
        · rw [take_s (show i < (jL D T h).length by omega), jL_get (show i < (jL D T h).length by omega), hX]
          have b2' : rBC m2 2 ((jL D T h).take i) := ⟨zAL_eq (f2 350 (by decide)) g2.1, zAL_eq (f2 351 (by decide)) g2.2.1, zAL_eq (f2 352 (by decide)) g2.2.2.1, zAL_eq (f2 353 (by decide)) g2.2.2.2⟩
          refine ⟨zAL_eq (a3 350 (by decide)) (m := m3) ?_, zAL_eq (a3 351 (by decide)) (m := m3) ?_, zAL_eq (a3 352 (by decide)) (m := m3) ?_, zAL_eq (a3 353 (by decide)) (m := m3) ?_⟩
          · refine zAL_new b2'.1 (fun j hj => ?_) ?_
            · rw [lt] at hj; show zup (zup (zup (zup (zup (zup m2 350 _ _) 351 _ _) 352 _ _) 353 _ _) 361 _ _) 349 _ _ 350 j = _; rw [zup_na (by decide), zup_na (by decide), zup_na (by decide), zup_na (by decide), zup_na (by decide), zup_nk (by omega)]
            · rw [lt]; show zup (zup (zup (zup (zup (zup m2 350 _ _) 351 _ _) 352 _ _) 353 _ _) 361 _ _) 349 _ _ 350 (400 + i) = _; rw [zup_na (by decide), zup_na (by decide), zup_na (by decide), zup_na (by decide), zup_na (by decide), zup_same]; rfl
          · refine zAL_new b2'.2.1 (fun j hj => ?_) ?_
            · rw [lt] at hj; show zup (zup (zup (zup (zup (zup m2 350 _ _) 351 _ _) 352 _ _) 353 _ _) 361 _ _) 349 _ _ 351 j = _; rw [zup_na (by decide), zup_na (by decide), zup_na (by decide), zup_na (by decide), zup_nk (by omega), zup_na (by decide)]
            · rw [lt]; show zup (zup (zup (zup (zup (zup m2 350 _ _) 351 _ _) 352 _ _) 353 _ _) 361 _ _) 349 _ _ 351 (400 + i) = _; rw [zup_na (by decide), zup_na (by decide), zup_na (by decide), zup_na (by decide), zup_same]; rfl
          · refine zAL_new b2'.2.2.1 (fun j hj => ?_) ?_
            · rw [lt] at hj; show zup (zup (zup (zup (zup (zup m2 350 _ _) 351 _ _) 352 _ _) 353 _ _) 361 _ _) 349 _ _ 352 j = _; rw [zup_na (by decide), zup_na (by decide), zup_na (by decide), zup_nk (by omega), zup_na (by decide), zup_na (by decide)]
            · rw [lt]; show zup (zup (zup (zup (zup (zup m2 350 _ _) 351 _ _) 352 _ _) 353 _ _) 361 _ _) 349 _ _ 352 (400 + i) = _; rw [zup_na (by decide), zup_na (by decide), zup_na (by decide), zup_same]; rfl
          · refine zAL_new b2'.2.2.2 (fun j hj => ?_) ?_
            · rw [lt] at hj; show zup (zup (zup (zup (zup (zup m2 350 _ _) 351 _ _) 352 _ _) 353 _ _) 361 _ _) 349 _ _ 353 j = _; rw [zup_na (by decide), zup_na (by decide), zup_nk (by omega), zup_na (by decide), zup_na (by decide), zup_na (by decide)]
            · rw [lt]; show zup (zup (zup (zup (zup (zup m2 350 _ _) 351 _ _) 352 _ _) 353 _ _) 361 _ _) 349 _ _ 353 (400 + i) = _; rw [zup_na (by decide), zup_na (by decide), zup_same]; rfl
        · intro j hj
          rw [a3 361 (by decide)]
          show zup (zup (zup (zup (zup (zup m2 350 _ _) 351 _ _) 352 _ _) 353 _ _) 361 _ _) 349 _ _ 361 j = _
          rw [zup_na (by decide)]
          by_cases e : j = i
          · rw [e, zup_same]
          · rw [zup_nk e, zup_na (by decide), zup_na (by decide), zup_na (by decide), zup_na (by decide), f2 361 (by decide)]; exact g3 j (by omega)
        · intro j t hj htj
          by_cases e : j = i
          · subst e
            rw [hX] at htj ⊢
            exact a1 t htj
          · have k2 : kp (cdl D T h) (j + 1) = kp (cdl D T h) j + (dSp D (tCode T j)).length := by
              show kp (cdl D T h) j + ((cdl D T h).getD j kq0).2.length = _
              rw [cdl_get (by omega)]; rfl
            have := kp_mono (l := cdl D T h) (i := j + 1) (j := i) (by omega)
            rw [a2 _ (by omega), row3 360 (by decide) (by decide) (by decide) (by decide) (by decide) (by decide), f2 360 (by decide)]
            exact g4 j t (by omega) htj
        · intro a j p q t r s
          rw [a3 a p]
          exact f3 a j p q t r s
      simp only [s227_56, s227_59, s227_60, s227_63, s227_64, s227_65, s227_66, s227_68, s227_69, s227_72, s227_74, s227_76, s227_77, s227_80, s227_81, s227_82, s227_85, s227_86, s227_87, s227_88, s227_91, s227_93, s227_95, s227_96, s227_99, s227_100, s227_101, s227_104, s227_105, s227_106, s227_107, s227_110, s227_112, s227_114, s227_115, s227_118, Int.toNat_natCast, true_and, and_true, true_or, or_true, false_or, or_false, zwr_id, zpu_some, zpu_none, reduceIte, Int.reduceLE, Int.reduceLT, Int.reduceEq, Int.reduceNeg, Int.reduceAdd, Int.reduceSub, Int.reduceMul, Int.reduceToNat, Nat.reduceAdd, Nat.reduceLeDiff, Nat.reduceEqDiff, Nat.reduceLT, eq_self, ne_eq, not_false_eq_true, not_true_eq_false, t0, c34, c35, c36, c37, n2, n3, z2, z3, p1, p2, p3, p4, mt349 ht, mn349 hn, b2, c49, (show zwr (400 + (i : Int)) = ((400 + i : Nat) : Int) from zwn (by omega) (by omega)), mt350 ht, mn350 hn, mt351 ht, mn351 hn, hr4, and_self, zup_na (show (332 : Nat) ≠ 350 by decide), zup_na (show (332 : Nat) ≠ 351 by decide)]
      simp only [s227_119]
      by_cases he : dCE D X = 0
      · rw [if_pos he] at tailE ⊢
        simp only [s227_122, s227_124]
        exact tailE
      · rw [if_neg he] at tailE ⊢
        simp only [s227_127, s227_129, s227_130, s227_133, true_and, t0, n3, z3, p4, ne_eq, not_false_eq_true, zup_na (show (332 : Nat) ≠ 350 by decide), zup_na (show (332 : Nat) ≠ 351 by decide)]
        exact tailE
    · rw [if_neg (by omega)]
      simp only [s227_54, s227_55, Int.toNat_natCast, true_and, and_true, true_or, or_true, false_or, or_false, zwr_id, zpu_some, zpu_none, reduceIte, Int.reduceLE, Int.reduceLT, Int.reduceEq, Int.reduceNeg, Int.reduceAdd, Int.reduceSub, Int.reduceMul, Int.reduceToNat, Nat.reduceAdd, Nat.reduceLeDiff, Nat.reduceEqDiff, Nat.reduceLT, eq_self, ne_eq, not_false_eq_true, not_true_eq_false]
      refine k1 ?_ m2 f2'
      have := kp_mono (l := cdl D T h) (i := i + 1) (j := h) (by omega)
      omega
  · rintro ⟨u1, u2, u3, u4⟩ m1 ⟨⟨g1, g2, g3, g4⟩, g5, f1⟩
    have jl : (jL D T h).length = h := jL_len
    rw [List.take_of_length_le (by omega)] at g2
    have n1 : ((2 * h : Nat) : Int) ≤ ((2 * h : Nat) : Int) := by omega
    have x1 := rMx_Qg f1 hx
    have hi80 : h ≤ 80 := Nat.le_trans (kg h (by omega)) g5
    have c34 : m1 332 34 = ((349 : Nat) : Int) := mp34 x1.1
    have c48 : m1 332 48 = ((361 : Nat) : Int) := mp48 x1.1
    have hr5 : 0 ≤ (h : Int) ∧ (h : Int) < ((201 : Nat) : Int) := by omega
    simp only [s227_11]
    simp only [s227_12, s227_13, s227_208, s227_209, s227_212, s227_213, s227_216, s227_217, s227_218, s227_219, s227_220, s227_221, Int.toNat_natCast, true_and, and_true, true_or, or_true, false_or, or_false, zwr_id, zpu_some, zpu_none, reduceIte, Int.reduceLE, Int.reduceLT, Int.reduceEq, Int.reduceNeg, Int.reduceAdd, Int.reduceSub, Int.reduceMul, Int.reduceToNat, Nat.reduceAdd, Nat.reduceLeDiff, Nat.reduceEqDiff, Nat.reduceLT, eq_self, ne_eq, not_false_eq_true, not_true_eq_false, n1, t0, c34, c48, mt349 ht, mn349 hn, b2, g1, mt361 ht, mn361 hn, hr5, and_self]
    refine k2 g5 _ ⟨by rw [zup_na (by decide), cl]; exact g1, ⟨zAL_eq (zup_nf (by decide)) g2.1, zAL_eq (zup_nf (by decide)) g2.2.1, zAL_eq (zup_nf (by decide)) g2.2.2.1, zAL_eq (zup_nf (by decide)) g2.2.2.2⟩, jL_c hD hlk hc, fun i hi => ?_, fun i j hi hj => ?_⟩ (rQg_up f1 (by omega))
    · rw [cl] at hi
      by_cases e : i = h
      · rw [e, zup_same]
      · rw [zup_nk e]; exact g3 i (by omega)
    · rw [cl] at hi
      rw [cdl_get hi] at hj ⊢
      rw [zup_na (by decide)]
      exact g4 i j hi hj
