/-! THE MACHINE, purely. An ITEM: LEAD, MIDDLE, END (-2: none), its KEY, the place of its first KEY, how many KEYS -/
abbrev zIt : Type := Int × Int × Int × Int × Int × Int
def itL (x : zIt) : Int := x.1
def itM (x : zIt) : Int := x.2.1
def itE (x : zIt) : Int := x.2.2.1
def itK (x : zIt) : Int := x.2.2.2.1
def itF (x : zIt) : Int := x.2.2.2.2.1
def itN (x : zIt) : Int := x.2.2.2.2.2
/-- END as the class keeps it -/
def itC (x : zIt) : Int := if itL x = -2 ∨ itM x = -2 then -2 else if itE x = -2 then 0 else itE x
/-- the KEY of what is ALONE, as the class keeps it -/
def itO (x : zIt) : Int := if itL x = -2 ∧ itM x = -2 then itK x + 97 else -2
theorem zAL_last {m : zM} {a : Nat} {xs : List Int} {x y : Int} (h : zAL m a 0 (xs ++ [x])) : zAL (zup m a xs.length y) a 0 (xs ++ [y]) := by
  have h1 : zAL m a 0 xs := fun i z hi => h i z (by rw [List.getElem?_append_left (List.getElem?_eq_some_iff.mp hi).1]; exact hi)
  have := zAL_push (x := y) h1
  rw [Nat.zero_add] at this
  exact this
theorem zAL_init {m : zM} {a : Nat} {xs ys : List Int} (h : zAL m a 0 (xs ++ ys)) : zAL m a 0 xs := fun i z hi => h i z (by rw [List.getElem?_append_left (List.getElem?_eq_some_iff.mp hi).1]; exact hi)
theorem zAL_end {m : zM} {a : Nat} {xs : List Int} {x : Int} (h : zAL m a 0 (xs ++ [x])) : m a xs.length = x := by
  have := h xs.length x (by simp)
  rw [Nat.zero_add] at this
  exact this
theorem zAL_skip {m : zM} {a k : Nat} {v : Int} {xs : List Int} (hk : xs.length ≤ k) (h : zAL m a 0 xs) : zAL (zup m a k v) a 0 xs := fun i z hi => by
  have := (List.getElem?_eq_some_iff.mp hi).1
  rw [zup_nk (by omega)]; exact h i z hi
/-- a Reading's object and its rows -/
def zRL (L : zY) (m : zM) (o : Nat) : Prop := zt L o = 4 ∧ 2 ≤ o ∧
  (m o 0 = ((o + 1 : Nat) : Int) ∧ m o 1 = ((o + 2 : Nat) : Int) ∧ m o 2 = ((o + 3 : Nat) : Int) ∧ m o 3 = ((o + 4 : Nat) : Int) ∧ m o 4 = ((o + 5 : Nat) : Int) ∧ m o 5 = ((o + 6 : Nat) : Int) ∧ m o 6 = ((o + 7 : Nat) : Int) ∧ m o 7 = ((o + 8 : Nat) : Int) ∧ m o 8 = ((o + 9 : Nat) : Int)) ∧
  (zt L (o + 1) = 20 ∧ zt L (o + 2) = 20 ∧ zt L (o + 3) = 20 ∧ zt L (o + 4) = 20 ∧ zt L (o + 5) = 20 ∧ zt L (o + 6) = 20 ∧ zt L (o + 7) = 20 ∧ zt L (o + 8) = 20 ∧ zt L (o + 9) = 20) ∧
  (zn L (o + 1) = 80 ∧ zn L (o + 2) = 80 ∧ zn L (o + 3) = 80 ∧ zn L (o + 4) = 80 ∧ zn L (o + 5) = 80 ∧ zn L (o + 6) = 80 ∧ zn L (o + 7) = 80 ∧ zn L (o + 8) = 80 ∧ zn L (o + 9) = 80)
theorem zRL_eq {L : zY} {m m' : zM} {o : Nat} (h : ∀ k, k < 9 → m' o k = m o k) (hr : zRL L m o) : zRL L m' o := by
  obtain ⟨a1, a2, ⟨b0, b1, b2, b3, b4, b5, b6, b7, b8⟩, a4⟩ := hr
  exact ⟨a1, a2, ⟨by rw [h 0 (by omega)]; exact b0, by rw [h 1 (by omega)]; exact b1, by rw [h 2 (by omega)]; exact b2, by rw [h 3 (by omega)]; exact b3, by rw [h 4 (by omega)]; exact b4, by rw [h 5 (by omega)]; exact b5, by rw [h 6 (by omega)]; exact b6, by rw [h 7 (by omega)]; exact b7, by rw [h 8 (by omega)]; exact b8⟩, a4⟩
/-- its ITEMS -/
def zRI (m : zM) (o : Nat) (its : List zIt) : Prop := m o 9 = (its.length : Int) ∧ its.length ≤ 80 ∧ zAL m (o + 1) 0 (its.map itL) ∧ zAL m (o + 2) 0 (its.map itM) ∧ zAL m (o + 3) 0 (its.map itC) ∧ zAL m (o + 4) 0 (its.map itO) ∧ zAL m (o + 5) 0 (its.map itF) ∧ zAL m (o + 6) 0 (its.map itN)
/-- its places: each one's ITEM, what it is of it, whether it is STOLEN -/
def zRP (m : zM) (o : Nat) (pl : List (Int × Int × Int)) : Prop := m o 10 = (pl.length : Int) ∧ pl.length ≤ 80 ∧ zAL m (o + 7) 0 (pl.map (fun q => q.1)) ∧ zAL m (o + 8) 0 (pl.map (fun q => q.2.1)) ∧ zAL m (o + 9) 0 (pl.map (fun q => q.2.2))
theorem zRI_eq {m m' : zM} {o : Nat} {its : List zIt} (h0 : m' o 9 = m o 9) (h1 : m' (o + 1) = m (o + 1)) (h2 : m' (o + 2) = m (o + 2)) (h3 : m' (o + 3) = m (o + 3)) (h4 : m' (o + 4) = m (o + 4)) (h5 : m' (o + 5) = m (o + 5)) (h6 : m' (o + 6) = m (o + 6)) (h : zRI m o its) : zRI m' o its := by
  obtain ⟨a0, a1, b1, b2, b3, b4, b5, b6⟩ := h
  exact ⟨by rw [h0]; exact a0, a1, zAL_eq h1 b1, zAL_eq h2 b2, zAL_eq h3 b3, zAL_eq h4 b4, zAL_eq h5 b5, zAL_eq h6 b6⟩
theorem zRP_eq {m m' : zM} {o : Nat} {pl : List (Int × Int × Int)} (h0 : m' o 10 = m o 10) (h7 : m' (o + 7) = m (o + 7)) (h8 : m' (o + 8) = m (o + 8)) (h9 : m' (o + 9) = m (o + 9)) (h : zRP m o pl) : zRP m' o pl := by
  obtain ⟨a0, a1, b1, b2, b3⟩ := h
  exact ⟨by rw [h0]; exact a0, a1, zAL_eq h7 b1, zAL_eq h8 b2, zAL_eq h9 b3⟩
/-- what begin() writes -/
def zbeg (m : zM) (o n p : Nat) (l mm e lo role op : Int) : zM := zup (zup (zup (zup (zup (zup (zup (zup (zup (zup m (o + 1) n l) (o + 2) n mm) (o + 3) n e) (o + 4) n lo) (o + 5) n (p : Int)) (o + 6) n 1) (o + 7) p (n : Int)) (o + 8) p role) o 9 ((n : Int) + 1)) o 12 op
theorem zbeg_ok {L : zY} {m : zM} {o : Nat} {its : List zIt} {pl : List (Int × Int × Int)} {l mm e lo role op : Int} (hR : zRL L m o) (hI : zRI m o its) (hP : zRP m o pl) (hi : its.length < 80) (x : zIt) (h1 : itL x = l) (h2 : itM x = mm) (h3 : itC x = e) (h4 : itO x = lo) (h5 : itF x = (pl.length : Int)) (h6 : itN x = 1) :
    zRL L (zbeg m o its.length pl.length l mm e lo role op) o ∧ zRI (zbeg m o its.length pl.length l mm e lo role op) o (its ++ [x]) ∧ zRP (zbeg m o its.length pl.length l mm e lo role op) o pl ∧ zbeg m o its.length pl.length l mm e lo role op (o + 7) pl.length = (its.length : Int) ∧ zbeg m o its.length pl.length l mm e lo role op (o + 8) pl.length = role ∧ zbeg m o its.length pl.length l mm e lo role op (o + 9) = m (o + 9) ∧ zbeg m o its.length pl.length l mm e lo role op o 12 = op ∧ zbeg m o its.length pl.length l mm e lo role op o 11 = m o 11 ∧ zFR o (o + 9) m (zbeg m o its.length pl.length l mm e lo role op) := by
  obtain ⟨i0, i1, j1, j2, j3, j4, j5, j6⟩ := hI
  obtain ⟨p0, p1, q1, q2, q3⟩ := hP
  have push : ∀ {a : Nat} {f : zIt → Int} {v : Int}, zAL m a 0 (its.map f) → f x = v → zAL (zup m a its.length v) a 0 ((its ++ [x]).map f) := fun {a f v} h hv => by
    have := zAL_push (x := v) h
    rw [Nat.zero_add, List.length_map] at this
    rw [List.map_append, List.map_cons, List.map_nil, hv]
    exact this
  have cut : ∀ {m1 : zM} {a : Nat} {xs : List Int}, m1 a = zup m a its.length (m1 a its.length) a → True := fun _ => trivial
  refine ⟨zRL_eq (fun k hk => ?_) hR, ⟨?_, ?_, ?_, ?_, ?_, ?_, ?_, ?_⟩, ⟨?_, p1, ?_, ?_, ?_⟩, ?_, ?_, ?_, ?_, ?_, ?_⟩
  · simp (disch := omega) only [zbeg, zup_nk, zup_na]
  · simp (disch := omega) only [zbeg, zup_nk, zup_same, List.length_append, List.length_cons, List.length_nil]
    omega
  · rw [List.length_append]; exact hi
  · exact zAL_eq (m := zup m (o + 1) its.length l) (by simp (disch := omega) only [zbeg, zup_nf]) (push j1 h1)
  · exact zAL_eq (m := zup m (o + 2) its.length mm) (by funext k; simp (disch := omega) only [zbeg, zup_na] <;> try (unfold zup; simp)) (push j2 h2)
  · exact zAL_eq (m := zup m (o + 3) its.length e) (by funext k; simp (disch := omega) only [zbeg, zup_na] <;> try (unfold zup; simp)) (push j3 h3)
  · exact zAL_eq (m := zup m (o + 4) its.length lo) (by funext k; simp (disch := omega) only [zbeg, zup_na] <;> try (unfold zup; simp)) (push j4 h4)
  · exact zAL_eq (m := zup m (o + 5) its.length (pl.length : Int)) (by funext k; simp (disch := omega) only [zbeg, zup_na] <;> try (unfold zup; simp)) (push j5 h5)
  · exact zAL_eq (m := zup m (o + 6) its.length 1) (by funext k; simp (disch := omega) only [zbeg, zup_na] <;> try (unfold zup; simp)) (push j6 h6)
  · simp (disch := omega) only [zbeg, zup_nk, zup_na]; exact p0
  · exact zAL_eq (m := zup m (o + 7) pl.length (its.length : Int)) (by funext k; simp (disch := omega) only [zbeg, zup_na] <;> try (unfold zup; simp)) (zAL_skip (by rw [List.length_map]; exact Nat.le_refl _) q1)
  · exact zAL_eq (m := zup m (o + 8) pl.length role) (by funext k; simp (disch := omega) only [zbeg, zup_na] <;> try (unfold zup; simp)) (zAL_skip (by rw [List.length_map]; exact Nat.le_refl _) q2)
  · exact zAL_eq (m := m) (by simp (disch := omega) only [zbeg, zup_nf]) q3
  · simp (disch := omega) only [zbeg, zup_na, zup_same]
  · simp (disch := omega) only [zbeg, zup_na, zup_same]
  · simp (disch := omega) only [zbeg, zup_nf]
  · simp (disch := omega) only [zbeg, zup_same]
  · simp (disch := omega) only [zbeg, zup_nk, zup_na]
  · intro a ha
    simp (disch := omega) only [zbeg, zup_nf]
/-- begin(): an ITEM more; its KEY's place isn't counted yet -/
theorem c_begin {L : zY} {m : zM} {Q : zQ} {o : Nat} {its : List zIt} {pl : List (Int × Int × Int)} {l mm lo role : Int} (hR : zRL L m o) (hI : zRI m o its) (hP : zRP m o pl) (hi : its.length < 80) (hp : pl.length < 80) (hlo : (lo = -2 ∧ ¬ (l = -2 ∧ mm = -2)) ∨ (lo ≠ -2 ∧ l = -2 ∧ mm = -2))
    (k : ∀ m', zRL L m' o → zRI m' o (its ++ [(l, mm, -2, lo - 97, (pl.length : Int), 1)]) → zRP m' o pl → m' (o + 7) pl.length = (its.length : Int) → m' (o + 8) pl.length = role → m' (o + 9) = m (o + 9) → m' o 12 = (if lo = -2 then 1 else 0) → m' o 11 = m o 11 → zFR o (o + 9) m m' → Q none L m') :
    zwp 28 0 [zA o, zI l, zI mm, zI lo, zI role] [] L m Q := by
  have hR' := hR
  have hI' := hI
  have hP' := hP
  obtain ⟨r1, r2, ⟨b0, b1, b2, b3, b4, b5, b6, b7, b8⟩, ⟨t1, t2, t3, t4, t5, t6, t7, t8, t9⟩, ⟨n1, n2, n3, n4, n5, n6, n7, n8, n9⟩⟩ := hR'
  obtain ⟨i0, i1, j1, j2, j3, j4, j5, j6⟩ := hI'
  obtain ⟨p0, p1, q1, q2, q3⟩ := hP'
  simp (disch := omega) only [s28_0, s28_1, s28_4, s28_6, s28_9, s28_10, s28_13, s28_15, s28_18, s28_19, s28_20, s28_23, s28_24, s28_27, s28_28, s28_29, s28_30, s28_33, s28_34, s28_37, s28_38, s28_39, s28_40, s28_43, s28_44, s28_47, s28_48, s28_50, s28_53, s28_54, s28_56, s28_59, s28_61, s28_64, s28_65, s28_66, s28_67, s28_70, s28_71, s28_74, s28_75, s28_76, s28_77, s28_80, s28_81, s28_84, s28_85, s28_88, s28_89, s28_90, s28_93, s28_94, s28_97, s28_98, s28_99, s28_100, s28_103, s28_104, s28_107, s28_108, s28_111, s28_112, s28_113, s28_116, s28_117, s28_120, s28_122, s28_123, s28_124, s28_125, s28_128, s28_129, s28_130, s28_133, s28_134, s28_135, s28_137, s28_140, s28_141, s28_144, s28_145, s28_148, Int.toNat_natCast, true_and, and_true, true_or, or_true, false_or, or_false, zwr_id, zpu_some, zpu_none, reduceIte, Int.reduceLE, Int.reduceLT, Int.reduceEq, Int.reduceNeg, Int.reduceAdd, Int.reduceSub, Int.reduceMul, Int.reduceToNat, Nat.reduceAdd, Nat.reduceLeDiff, Nat.reduceEqDiff, Nat.reduceLT, eq_self, ne_eq, not_false_eq_true, not_true_eq_false, r1, b0, b1, b2, b3, b4, b5, b6, b7, b8, t1, t2, t3, t4, t5, t6, t7, t8, t9, n1, n2, n3, n4, n5, n6, n7, n8, n9, i0, p0, zup_na, zup_nk, zup_same]
  rw [if_neg (by omega), if_pos (by omega)]
  refine ⟨by omega, by omega, ?_⟩
  have fin : ∀ e op, itC ((l, mm, -2, lo - 97, (pl.length : Int), 1) : zIt) = e → op = (if lo = -2 then 1 else 0) → Q none L (zbeg m o its.length pl.length l mm e lo role op) := fun e op he hop => by
    obtain ⟨g1, g2, g3, g4, g5, g6, g7, g8, g9⟩ := zbeg_ok (l := l) (mm := mm) (e := e) (role := role) (op := op) (lo := lo) hR hI hP hi ((l, mm, -2, lo - 97, (pl.length : Int), 1) : zIt) rfl rfl he (by
      show (if l = -2 ∧ mm = -2 then lo - 97 + 97 else -2) = lo
      rcases hlo with ⟨e1, e2⟩ | ⟨e1, e2⟩
      · rw [if_neg e2, e1]
      · rw [if_pos e2]; omega) rfl rfl
    exact k _ g1 g2 g3 g4 g5 g6 (g7.trans hop) g8 g9
  have hC : itC ((l, mm, -2, lo - 97, (pl.length : Int), 1) : zIt) = if l = -2 ∨ mm = -2 then -2 else 0 := by
    show (if l = -2 ∨ mm = -2 then (-2 : Int) else if (-2 : Int) = -2 then 0 else -2) = _
    simp
  by_cases hl : l = -2
  · rw [if_pos hl]
    refine ⟨by omega, by omega, by omega, by omega, by omega, by omega, ?_⟩
    by_cases hl2 : lo = -2
    · rw [if_pos hl2]; exact fin _ _ (by rw [hC, if_pos (Or.inl hl)]) (by rw [if_pos hl2])
    · rw [if_neg hl2]; exact fin _ _ (by rw [hC, if_pos (Or.inl hl)]) (by rw [if_neg hl2])
  · rw [if_neg hl]
    by_cases hm : mm = -2
    · rw [if_pos hm]
      refine ⟨by omega, by omega, by omega, by omega, by omega, by omega, ?_⟩
      by_cases hl2 : lo = -2
      · rw [if_pos hl2]; exact fin _ _ (by rw [hC, if_pos (Or.inr hm)]) (by rw [if_pos hl2])
      · rw [if_neg hl2]; exact fin _ _ (by rw [hC, if_pos (Or.inr hm)]) (by rw [if_neg hl2])
    · rw [if_neg hm]
      refine ⟨by omega, by omega, by omega, by omega, by omega, by omega, ?_⟩
      by_cases hl2 : lo = -2
      · rw [if_pos hl2]; exact fin _ _ (by rw [hC, if_neg (fun q => q.elim hl hm)]) (by rw [if_pos hl2])
      · rw [if_neg hl2]; exact fin _ _ (by rw [hC, if_neg (fun q => q.elim hl hm)]) (by rw [if_neg hl2])

def itS (x : zIt) (l mm e f n : Int) : zIt := (l, mm, e, itK x, f, n)
theorem zAL_map_last {m : zM} {a : Nat} {cl : List zIt} {x y : zIt} {f : zIt → Int} {v : Int} (h : zAL m a 0 ((cl ++ [x]).map f)) (hv : f y = v) : zAL (zup m a cl.length v) a 0 ((cl ++ [y]).map f) := by
  rw [List.map_append, List.map_cons, List.map_nil] at h ⊢
  have := zAL_last (y := v) h
  rw [List.length_map] at this
  rw [hv]
  exact this
theorem zAL_map_keep {m : zM} {a : Nat} {cl : List zIt} {x y : zIt} {f : zIt → Int} (h : zAL m a 0 ((cl ++ [x]).map f)) (hv : f y = f x) : zAL m a 0 ((cl ++ [y]).map f) := by
  rw [List.map_append, List.map_cons, List.map_nil] at h ⊢
  rw [hv]
  exact h
theorem zAL_map_end {m : zM} {a : Nat} {cl : List zIt} {x : zIt} {f : zIt → Int} (h : zAL m a 0 ((cl ++ [x]).map f)) : m a cl.length = f x := by
  rw [List.map_append, List.map_cons, List.map_nil] at h
  have := zAL_end h
  rw [List.length_map] at this
  exact this
/-- join(): the KEY at hand is of the latest ITEM -/
theorem c_join {L : zY} {m : zM} {Q : zQ} {o : Nat} {cl : List zIt} {x : zIt} {pl : List (Int × Int × Int)} {role : Int} (hR : zRL L m o) (hI : zRI m o (cl ++ [x])) (hP : zRP m o pl) (hp : pl.length < 80) (hn : -1000 < itN x ∧ itN x < 1000)
    (k : ∀ m', zRL L m' o → zRI m' o (cl ++ [(itL x, itM x, itE x, itK x, itF x, itN x + 1)]) → zRP m' o pl → m' (o + 7) pl.length = (cl.length : Int) → m' (o + 8) pl.length = role → m' (o + 9) = m (o + 9) → m' o = m o → zFR o (o + 9) m m' → Q none L m') :
    zwp 29 0 [zA o, zI role] [] L m Q := by
  have hR' := hR
  have hI' := hI
  have hP' := hP
  obtain ⟨r1, r2, ⟨b0, b1, b2, b3, b4, b5, b6, b7, b8⟩, ⟨t1, t2, t3, t4, t5, t6, t7, t8, t9⟩, ⟨n1, n2, n3, n4, n5, n6, n7, n8, n9⟩⟩ := hR'
  obtain ⟨i0, i1, j1, j2, j3, j4, j5, j6⟩ := hI'
  obtain ⟨p0, p1, q1, q2, q3⟩ := hP'
  have hlen : (cl ++ [x]).length = cl.length + 1 := by rw [List.length_append]; rfl
  rw [hlen] at i0 i1
  have hN := zAL_map_end j6
  have e1 : ((cl.length + 1 : Nat) : Int) - 1 = (cl.length : Int) := by omega
  simp (disch := omega) only [s29_0, s29_1, s29_4, s29_7, s29_8, s29_11, s29_13, s29_16, s29_17, s29_20, s29_21, s29_24, s29_25, s29_28, s29_29, s29_30, s29_31, s29_32, s29_35, s29_36, s29_39, s29_40, s29_41, s29_42, s29_45, s29_46, s29_49, s29_50, s29_51, s29_52, s29_53, s29_54, s29_55, s29_56, Int.toNat_natCast, true_and, and_true, true_or, or_true, false_or, or_false, zwr_id, zpu_some, zpu_none, reduceIte, Int.reduceLE, Int.reduceLT, Int.reduceEq, Int.reduceNeg, Int.reduceAdd, Int.reduceSub, Int.reduceMul, Int.reduceToNat, Nat.reduceAdd, Nat.reduceLeDiff, Nat.reduceEqDiff, Nat.reduceLT, eq_self, ne_eq, not_false_eq_true, not_true_eq_false, r1, b5, b6, b7, t6, t7, t8, n6, n7, n8, i0, p0, zup_na, e1, hN]
  rw [if_neg (by omega), if_neg (by omega)]
  refine ⟨by omega, by omega, by omega, by omega, k _ ?_ ?_ ?_ ?_ ?_ ?_ ?_ ?_⟩
  · exact zRL_eq (fun k hk => by simp (disch := omega) only [zup_na]) hR
  · refine ⟨?_, by rw [List.length_append]; exact i1, ?_, ?_, ?_, ?_, ?_, ?_⟩
    · simp (disch := omega) only [zup_na, i0, List.length_append, List.length_cons, List.length_nil]
    · exact zAL_eq (m := m) (by simp (disch := omega) only [zup_nf]) (zAL_map_keep j1 rfl)
    · exact zAL_eq (m := m) (by simp (disch := omega) only [zup_nf]) (zAL_map_keep j2 rfl)
    · exact zAL_eq (m := m) (by simp (disch := omega) only [zup_nf]) (zAL_map_keep j3 rfl)
    · exact zAL_eq (m := m) (by simp (disch := omega) only [zup_nf]) (zAL_map_keep j4 rfl)
    · exact zAL_eq (m := m) (by simp (disch := omega) only [zup_nf]) (zAL_map_keep j5 rfl)
    · exact zAL_eq (m := zup m (o + 6) cl.length (itN x + 1)) (by funext k; unfold zup; simp) (zAL_map_last j6 rfl)
  · refine ⟨by simp (disch := omega) only [zup_na]; exact p0, p1, ?_, ?_, ?_⟩
    · exact zAL_eq (m := zup m (o + 7) pl.length (cl.length : Int)) (by funext k; simp (disch := omega) only [zup_na] <;> try (unfold zup; simp)) (zAL_skip (by rw [List.length_map]; exact Nat.le_refl _) q1)
    · exact zAL_eq (m := zup m (o + 8) pl.length role) (by funext k; simp (disch := omega) only [zup_na] <;> try (unfold zup; simp)) (zAL_skip (by rw [List.length_map]; exact Nat.le_refl _) q2)
    · exact zAL_eq (m := m) (by simp (disch := omega) only [zup_nf]) q3
  · simp (disch := omega) only [zup_na, zup_same]
  · simp (disch := omega) only [zup_na, zup_same]
  · simp (disch := omega) only [zup_nf]
  · simp (disch := omega) only [zup_nf]
  · intro a ha
    simp (disch := omega) only [zup_nf]
theorem zAL_set {m : zM} {a i : Nat} {xs : List Int} {v : Int} (h : zAL m a 0 xs) : zAL (zup m a i v) a 0 (xs.set i v) := by
  intro j z hj
  rw [Nat.zero_add]
  by_cases e : j = i
  · subst e
    rw [zup_same]
    rw [List.getElem?_set] at hj
    simp only [if_true] at hj
    split at hj
    · exact Option.some.inj hj
    · cases hj
  · rw [zup_nk e]
    rw [List.getElem?_set_ne (Ne.symm e)] at hj
    have := h j z hj
    rw [Nat.zero_add] at this
    exact this
theorem zAL_map_pen {m : zM} {a : Nat} {cl : List zIt} {x x' y : zIt} {f : zIt → Int} {v : Int} (h : zAL m a 0 ((cl ++ [x] ++ [y]).map f)) (hv : f x' = v) : zAL (zup m a cl.length v) a 0 ((cl ++ [x'] ++ [y]).map f) := by
  have := zAL_set (i := cl.length) (v := v) h
  have e : ((cl ++ [x] ++ [y]).map f).set cl.length v = (cl ++ [x'] ++ [y]).map f := by
    simp [List.set_append, hv]
  rw [e] at this
  exact this
theorem zAL_pl_last {m : zM} {a : Nat} {pl : List (Int × Int × Int)} {q q' : Int × Int × Int} {f : Int × Int × Int → Int} {v : Int} (h : zAL m a 0 ((pl ++ [q]).map f)) (hv : f q' = v) : zAL (zup m a pl.length v) a 0 ((pl ++ [q']).map f) := by
  rw [List.map_append, List.map_cons, List.map_nil] at h ⊢
  have := zAL_last (y := v) h
  rw [List.length_map] at this
  rw [hv]
  exact this
/-- steal(): the KEY just ahead of the latest ITEM becomes its LEAD -/
theorem c_steal {L : zY} {m : zM} {Q : zQ} {o : Nat} {cl : List zIt} {x y : zIt} {pl : List (Int × Int × Int)} {q : Int × Int × Int} (hR : zRL L m o) (hI : zRI m o (cl ++ [x] ++ [y])) (hP : zRP m o (pl ++ [q])) (hn : -1000 < itN x ∧ itN x < 1000 ∧ -1000 < itN y ∧ itN y < 1000) (hst : -1000 < m o 11 ∧ m o 11 < 1000)
    (k : ∀ m', zRL L m' o → zRI m' o (cl ++ [(itL x, itM x, itE x, itK x, itF x, itN x - 1)] ++ [(itL y, itM y, itE y, itK y, (pl.length : Int), itN y + 1)]) → zRP m' o (pl ++ [((cl.length : Int) + 1, 0, 1)]) → m' o 11 = m o 11 + 1 → m' o 12 = m o 12 → (∀ j, j ≠ pl.length → m' (o + 7) j = m (o + 7) j ∧ m' (o + 8) j = m (o + 8) j ∧ m' (o + 9) j = m (o + 9) j) → zFR o (o + 9) m m' → Q none L m') :
    zwp 30 0 [zA o, zU, zU] [] L m Q := by
  have hR' := hR
  have hI' := hI
  have hP' := hP
  obtain ⟨r1, r2, ⟨b0, b1, b2, b3, b4, b5, b6, b7, b8⟩, ⟨t1, t2, t3, t4, t5, t6, t7, t8, t9⟩, ⟨n1, n2, n3, n4, n5, n6, n7, n8, n9⟩⟩ := hR'
  obtain ⟨i0, i1, j1, j2, j3, j4, j5, j6⟩ := hI'
  obtain ⟨p0, p1, q1, q2, q3⟩ := hP'
  have hlen : (cl ++ [x] ++ [y]).length = cl.length + 2 := by rw [List.length_append, List.length_append]; rfl
  have hlen1 : (cl ++ [x]).length = cl.length + 1 := by rw [List.length_append]; rfl
  have hlp : (pl ++ [q]).length = pl.length + 1 := by rw [List.length_append]; rfl
  rw [hlen] at i0 i1
  rw [hlp] at p0 p1
  have hN := zAL_map_end j6
  rw [hlen1] at hN
  have hN1 : m (o + 6) cl.length = itN x := zAL_map_end (x := x) (by rw [List.map_append] at j6; exact zAL_init j6)
  have e1 : ((cl.length + 2 : Nat) : Int) - 1 = ((cl.length + 1 : Nat) : Int) := by omega
  have e2 : ((cl.length + 1 : Nat) : Int) - 1 = (cl.length : Int) := by omega
  have e3 : ((pl.length + 1 : Nat) : Int) - 1 = (pl.length : Int) := by omega
  simp (disch := omega) only [s30_0, s30_1, s30_4, s30_5, s30_6, s30_7, s30_8, s30_11, s30_12, s30_13, s30_14, s30_15, s30_16, s30_19, s30_20, s30_23, s30_24, s30_25, s30_28, s30_29, s30_30, s30_31, s30_32, s30_33, s30_34, s30_35, s30_36, s30_37, s30_40, s30_41, s30_42, s30_43, s30_44, s30_45, s30_46, s30_47, s30_50, s30_51, s30_52, s30_53, s30_54, s30_57, s30_58, s30_59, s30_60, s30_61, s30_64, s30_65, s30_66, s30_67, s30_68, s30_71, s30_72, s30_73, s30_74, s30_75, s30_76, s30_79, s30_80, s30_81, s30_84, Int.toNat_natCast, true_and, and_true, true_or, or_true, false_or, or_false, zwr_id, zpu_some, zpu_none, reduceIte, Int.reduceLE, Int.reduceLT, Int.reduceEq, Int.reduceNeg, Int.reduceAdd, Int.reduceSub, Int.reduceMul, Int.reduceToNat, Nat.reduceAdd, Nat.reduceLeDiff, Nat.reduceEqDiff, Nat.reduceLT, eq_self, ne_eq, not_false_eq_true, not_true_eq_false, r1, b4, b5, b6, b7, b8, t5, t6, t7, t8, t9, n5, n6, n7, n8, n9, i0, p0, zup_na, zup_nk, zup_same, e1, e2, e3, hN, hN1]
  rw [if_neg (by omega), if_pos (by omega)]
  refine ⟨by omega, by omega, by omega, by omega, by omega, by omega, by omega, by omega, k _ ?_ ?_ ?_ ?_ ?_ ?_ ?_⟩
  · exact zRL_eq (fun k hk => by simp (disch := omega) only [zup_na, zup_nk]) hR
  · have keep : ∀ {a : Nat} {f : zIt → Int} {x' y' : zIt}, zAL m a 0 ((cl ++ [x] ++ [y]).map f) → f x' = f x → f y' = f y → zAL m a 0 ((cl ++ [x'] ++ [y']).map f) := fun h h1 h2 => by
      simp only [List.map_append, List.map_cons, List.map_nil] at h ⊢
      rw [h1, h2]; exact h
    refine ⟨?_, by rw [List.length_append, List.length_append]; exact i1, ?_, ?_, ?_, ?_, ?_, ?_⟩
    · simp (disch := omega) only [zup_na, zup_nk, i0, List.length_append, List.length_cons, List.length_nil]
    · exact zAL_eq (m := m) (by simp (disch := omega) only [zup_nf]) (keep j1 rfl rfl)
    · exact zAL_eq (m := m) (by simp (disch := omega) only [zup_nf]) (keep j2 rfl rfl)
    · exact zAL_eq (m := m) (by simp (disch := omega) only [zup_nf]) (keep j3 rfl rfl)
    · exact zAL_eq (m := m) (by simp (disch := omega) only [zup_nf]) (keep j4 rfl rfl)
    · refine zAL_eq (m := zup m (o + 5) (cl.length + 1) (pl.length : Int)) (by funext j; simp (disch := omega) only [zup_na] <;> try (unfold zup; simp)) ?_
      have h9 := zAL_map_last (y := (itL y, itM y, itE y, itK y, (pl.length : Int), itN y + 1)) (v := (pl.length : Int)) j5 rfl
      rw [hlen1] at h9
      simp only [List.map_append, List.map_cons, List.map_nil] at h9 ⊢
      exact h9
    · refine zAL_eq (m := zup (zup m (o + 6) cl.length (itN x - 1)) (o + 6) (cl.length + 1) (itN y + 1)) (by funext j; simp (disch := omega) only [zup_na] <;> try (unfold zup; simp)) ?_
      have h8 := zAL_map_pen (x' := (itL x, itM x, itE x, itK x, itF x, itN x - 1)) (v := itN x - 1) j6 rfl
      have h9 := zAL_map_last (y := (itL y, itM y, itE y, itK y, (pl.length : Int), itN y + 1)) (v := itN y + 1) h8 rfl
      rw [show (cl ++ [(itL x, itM x, itE x, itK x, itF x, itN x - 1)]).length = cl.length + 1 by rw [List.length_append]; rfl] at h9
      exact h9
  · have keepP : True := trivial
    refine ⟨?_, by rw [List.length_append]; exact p1, ?_, ?_, ?_⟩
    · simp (disch := omega) only [zup_na, zup_nk, p0, List.length_append, List.length_cons, List.length_nil]
    · exact zAL_eq (m := zup m (o + 7) pl.length ((cl.length + 1 : Nat) : Int)) (by funext j; simp (disch := omega) only [zup_na] <;> try (unfold zup; simp)) (zAL_pl_last q1 (by show (cl.length : Int) + 1 = _; omega))
    · exact zAL_eq (m := zup m (o + 8) pl.length 0) (by funext j; simp (disch := omega) only [zup_na] <;> try (unfold zup; simp)) (zAL_pl_last q2 rfl)
    · exact zAL_eq (m := zup m (o + 9) pl.length 1) (by funext j; simp (disch := omega) only [zup_na] <;> try (unfold zup; simp)) (zAL_pl_last q3 rfl)
  · simp (disch := omega) only [zup_same]
  · simp (disch := omega) only [zup_na, zup_nk]
  · intro j hj
    simp (disch := omega) only [zup_na, zup_nk, and_self]
  · intro a ha
    simp (disch := omega) only [zup_nf]
