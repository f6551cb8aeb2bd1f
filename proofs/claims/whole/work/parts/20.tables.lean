/-- a PartTable at o (singleNumbers o + 1, firstKeys o + 2, secondKeys o + 3): its numbers es, of which ns are single; sn: the number of a single KEY -/
def zPT (L : zY) (m : zM) (o cap : Nat) (es : List (Int × Int)) (ns : Nat) (sn : Nat → Int) : Prop := zt L o = 3 ∧ 2 ≤ o ∧ m o 0 = ((o + 2 : Nat) : Int) ∧ m o 1 = ((o + 3 : Nat) : Int) ∧ m o 2 = ((o + 1 : Nat) : Int) ∧ zt L (o + 1) = 20 ∧ zt L (o + 2) = 20 ∧ zt L (o + 3) = 20 ∧ zn L (o + 1) = 26 ∧ zn L (o + 2) = cap ∧ zn L (o + 3) = cap ∧ cap < 1000 ∧
  m o 3 = (ns : Int) ∧ m o 4 = (es.length : Int) ∧ es.length ≤ cap ∧ ns ≤ es.length ∧ zAL m (o + 2) 0 (es.map (fun q => q.1)) ∧ zAL m (o + 3) 0 (es.map (fun q => q.2)) ∧ ∀ k, k < 26 → m (o + 1) k = sn k
theorem zPT_eq {L : zY} {m m' : zM} {o cap : Nat} {es : List (Int × Int)} {ns : Nat} {sn : Nat → Int} (h0 : m' o = m o) (h1 : m' (o + 1) = m (o + 1)) (h2 : m' (o + 2) = m (o + 2)) (h3 : m' (o + 3) = m (o + 3)) (h : zPT L m o cap es ns sn) : zPT L m' o cap es ns sn := by
  obtain ⟨a1, a2, a3, a4, a5, a6, a7, a8, a9, a10, a11, a12, a13, a14, a15, a16, a17, a18, a19⟩ := h
  exact ⟨a1, a2, by rw [h0]; exact a3, by rw [h0]; exact a4, by rw [h0]; exact a5, a6, a7, a8, a9, a10, a11, a12, by rw [h0]; exact a13, by rw [h0]; exact a14, a15, a16, zAL_eq h2 a17, zAL_eq h3 a18, fun k hk => by rw [h1]; exact a19 k hk⟩
/-- the place of the first (a, b) from place i on, or -2 -/
def zfind (es : List (Int × Int)) (a b : Int) (i : Nat) : Int := match es with
  | [] => -2
  | q :: t => if q.1 = a ∧ q.2 = b then (i : Int) else zfind t a b (i + 1)
/-- the number that a single one has with one KEY more -/
def zwith (es : List (Int × Int)) (ns : Nat) (x key : Int) : Int := if x < 0 ∨ (ns : Int) ≤ x then -2 else zfind (es.drop ns) ((es.getD x.toNat (0, 0)).1) key ns
theorem zAL_pair {m : zM} {a : Nat} {es : List (Int × Int)} {f : Int × Int → Int} (h : zAL m a 0 (es.map f)) {i : Nat} (hi : i < es.length) : m a i = f es[i] := by
  have := zAL_get0 h (i := i) (by rw [List.length_map]; exact hi)
  rw [List.getElem_map] at this
  exact this
theorem c_with_loop {L : zY} {m : zM} {Q : zQ} {o cap : Nat} {es : List (Int × Int)} {ns : Nat} {sn : Nat → Int} {x key : Int} (h : zPT L m o cap es ns sn) (hx : 0 ≤ x ∧ x < (ns : Int)) : ∀ (d i : Nat), es.length - i = d → ns ≤ i → i ≤ es.length → Q (some (zI (zfind (es.drop i) ((es.getD x.toNat (0, 0)).1) key i))) L m → zwp 17 20 [zA o, zI x, zI key, zI (i : Int)] [] L m Q := by
  have h' := h
  obtain ⟨a1, a2, a3, a4, a5, a6, a7, a8, a9, a10, a11, a12, a13, a14, a15, a16, a17, a18, a19⟩ := h'
  obtain ⟨xn, rfl⟩ : ∃ xn : Nat, x = (xn : Int) := ⟨x.toNat, by omega⟩
  intro d
  induction d with
  | zero =>
    intro i hd hn hi k
    have e : i = es.length := by omega
    subst e
    rw [s17_20]
    simp (disch := omega) only [s17_0, s17_1, s17_4, s17_5, s17_6, s17_9, s17_12, s17_14, s17_15, s17_16, s17_19, s17_21, s17_22, s17_25, s17_28, s17_29, s17_32, s17_33, s17_34, s17_35, s17_38, s17_39, s17_40, s17_43, s17_44, s17_47, s17_48, s17_49, s17_50, s17_53, s17_54, s17_55, s17_58, s17_61, s17_63, Int.toNat_natCast, true_and, and_true, true_or, or_true, false_or, or_false, zwr_id, zpu_some, zpu_none, reduceIte, Int.reduceLE, Int.reduceLT, Int.reduceEq, Int.reduceNeg, Int.reduceAdd, Int.reduceSub, Int.reduceMul, Int.reduceToNat, Nat.reduceAdd, Nat.reduceLeDiff, Nat.reduceEqDiff, Nat.reduceLT, eq_self, ne_eq, not_false_eq_true, not_true_eq_false, a1, a14]
    rw [if_pos (by omega)]
    rw [List.drop_length] at k
    exact k
  | succ d ih =>
    intro i hd hn hi k
    have hlt : i < es.length := by omega
    have hxl : xn < es.length := by omega
    have g1 : m (o + 2) i = es[i].1 := zAL_pair a17 hlt
    have g2 : m (o + 3) i = es[i].2 := zAL_pair a18 hlt
    have g3 : m (o + 2) xn = es[xn].1 := zAL_pair a17 hxl
    rw [s17_20]
    simp (disch := omega) only [s17_0, s17_1, s17_4, s17_5, s17_6, s17_9, s17_12, s17_14, s17_15, s17_16, s17_19, s17_21, s17_22, s17_25, s17_28, s17_29, s17_32, s17_33, s17_34, s17_35, s17_38, s17_39, s17_40, s17_43, s17_44, s17_47, s17_48, s17_49, s17_50, s17_53, s17_54, s17_55, s17_58, s17_61, s17_63, Int.toNat_natCast, true_and, and_true, true_or, or_true, false_or, or_false, zwr_id, zpu_some, zpu_none, reduceIte, Int.reduceLE, Int.reduceLT, Int.reduceEq, Int.reduceNeg, Int.reduceAdd, Int.reduceSub, Int.reduceMul, Int.reduceToNat, Nat.reduceAdd, Nat.reduceLeDiff, Nat.reduceEqDiff, Nat.reduceLT, eq_self, ne_eq, not_false_eq_true, not_true_eq_false, a1, a14, a3, a4, a7, a8, a10, a11, g1, g2, g3]
    rw [if_neg (by omega)]
    refine ⟨by omega, by omega, ?_⟩
    rw [List.drop_eq_getElem_cons hlt, zfind] at k
    have ex : (es.getD (xn : Int).toNat (0, 0)).1 = es[xn].1 := by
      rw [Int.toNat_natCast, List.getD_eq_getElem?_getD, List.getElem?_eq_getElem hxl]; rfl
    by_cases c1 : es[i].1 = es[xn].1
    · rw [if_pos c1]
      refine ⟨by omega, ?_⟩
      by_cases c2 : es[i].2 = key
      · rw [if_pos c2]
        rw [if_pos ⟨by rw [ex]; exact c1, c2⟩] at k
        exact k
      · rw [if_neg c2]
        rw [if_neg (fun q => c2 q.2)] at k
        exact ih (i + 1) (by omega) (by omega) (by omega) k
    · rw [if_neg c1]
      rw [if_neg (fun q => c1 (by rw [← ex]; exact q.1))] at k
      exact ih (i + 1) (by omega) (by omega) (by omega) k
theorem c_with {L : zY} {m : zM} {Q : zQ} {o cap : Nat} {es : List (Int × Int)} {ns : Nat} {sn : Nat → Int} {x key : Int} (h : zPT L m o cap es ns sn) (k : Q (some (zI (zwith es ns x key))) L m) : zwp 17 0 [zA o, zI x, zI key, zU] [] L m Q := by
  have h' := h
  obtain ⟨a1, a2, a3, a4, a5, a6, a7, a8, a9, a10, a11, a12, a13, a14, a15, a16, a17, a18, a19⟩ := h'
  simp (disch := omega) only [s17_0, s17_1, s17_4, s17_5, s17_6, s17_9, s17_12, s17_14, s17_15, s17_16, s17_19, Int.toNat_natCast, true_and, and_true, true_or, or_true, false_or, or_false, zwr_id, zpu_some, zpu_none, reduceIte, Int.reduceLE, Int.reduceLT, Int.reduceEq, Int.reduceNeg, Int.reduceAdd, Int.reduceSub, Int.reduceMul, Int.reduceToNat, Nat.reduceAdd, Nat.reduceLeDiff, Nat.reduceEqDiff, Nat.reduceLT, eq_self, ne_eq, not_false_eq_true, not_true_eq_false, a1, a13]
  unfold zwith at k
  by_cases c1 : x < 0
  · rw [if_pos c1]
    rw [if_pos (Or.inl c1)] at k
    exact k
  · rw [if_neg c1]
    by_cases c2 : (ns : Int) ≤ x
    · rw [if_neg (by omega)]
      rw [if_pos (Or.inr c2)] at k
      exact k
    · rw [if_pos (by omega)]
      rw [if_neg (by omega)] at k
      exact c_with_loop h (by omega) _ ns rfl (Nat.le_refl _) a16 k
