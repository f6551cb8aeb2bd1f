theorem zwp_det {mi pc : Nat} {ls st : List zV} {L L1 : zY} {m m1 : zM} {R : Option zV} {Q : zQ} (h : zwp mi pc ls st L m (fun r L' m' => r = R ∧ L' = L1 ∧ m' = m1)) : zwp mi pc ls st L m Q ↔ Q R L1 m1 := by
  obtain ⟨n, r, L', m', h1, rfl, rfl, rfl⟩ := h
  constructor
  · rintro ⟨n2, r2, L2, m2, h2, hq⟩
    have a1 := zev_add (k := n2) h1
    have a2 := zev_add (k := n) h2
    rw [Nat.add_comm] at a2
    rw [a1] at a2
    cases a2
    exact hq
  · intro hq
    exact ⟨n, _, _, _, h1, hq⟩
theorem x_with {L : zY} {m : zM} {Q : zQ} {o cap : Nat} {es : List (Int × Int)} {ns : Nat} {sn : Nat → Int} {x key : Int} (h : zPT L m o cap es ns sn) : zwp 17 0 [zA o, zI x, zI key, zU] [] L m Q ↔ Q (some (zI (zwith es ns x key))) L m := zwp_det (c_with h ⟨rfl, rfl, rfl⟩)
theorem x_num {L : zY} {m : zM} {Q : zQ} {o cap c : Nat} {es : List (Int × Int)} {ns : Nat} {sn : Nat → Int} (h : zPT L m o cap es ns sn) (hc : c < 26) : zwp 16 0 [zA o, zI ((c : Int) + 97), zU] [] L m Q ↔ Q (some (zI (sn c))) L m := by
  obtain ⟨d1, d2, d3, d4, d5, d6, d7, d8, d9, d10, d11, d12, d13, d14, d15, d16, d17, d18, d19⟩ := h
  have x1 : (c : Int) + 97 - 97 = (c : Int) := by omega
  simp (disch := omega) only [s16_0, s16_1, s16_3, s16_4, s16_5, s16_6, s16_9, s16_10, s16_12, s16_15, s16_16, s16_19, s16_20, s16_21, s16_24, s16_26, Int.toNat_natCast, true_and, and_true, true_or, or_true, false_or, or_false, zwr_id, zpu_some, zpu_none, reduceIte, Int.reduceLE, Int.reduceLT, Int.reduceEq, Int.reduceNeg, Int.reduceAdd, Int.reduceSub, Int.reduceMul, Int.reduceToNat, Nat.reduceAdd, Nat.reduceLeDiff, Nat.reduceEqDiff, Nat.reduceLT, eq_self, ne_eq, not_false_eq_true, not_true_eq_false, d1, d5, d6, d9, x1, d19, if_neg, if_pos]
  constructor
  · exact fun h => h.2
  · exact fun h => ⟨by omega, h⟩
/-- the sort of an ITEM as the class tells it -/
def itSo (x : zIt) : Int := if itO x ≠ -2 then 3 else if itL x = -2 then 2 else if itM x = -2 then 1 else 0
theorem x_sort {L : zY} {m : zM} {Q : zQ} {o i : Nat} {its : List zIt} (hR : zRL L m o) (hI : zRI m o its) (hi : i < its.length) : zwp 32 0 [zA o, zI (i : Int)] [] L m Q ↔ Q (some (zI (itSo its[i]))) L m := by
  obtain ⟨r1, r2, ⟨b0, b1, b2, b3, b4, b5, b6, b7, b8⟩, ⟨t1, t2, t3, t4, t5, t6, t7, t8, t9⟩, ⟨n1, n2, n3, n4, n5, n6, n7, n8, n9⟩⟩ := hR
  obtain ⟨i0, i1, j1, j2, j3, j4, j5, j6⟩ := hI
  have g : ∀ {a : Nat} {f : zIt → Int}, zAL m a 0 (its.map f) → m a i = f its[i] := fun h => by
    have := zAL_get0 h (i := i) (by rw [List.length_map]; exact hi)
    rw [List.getElem_map] at this
    exact this
  have y1 := g j1
  have y2 := g j2
  have y4 := g j4
  simp (disch := omega) only [s32_0, s32_1, s32_4, s32_5, s32_6, s32_9, s32_12, s32_13, s32_14, s32_15, s32_18, s32_19, s32_20, s32_22, s32_25, s32_26, s32_27, s32_28, s32_31, s32_32, s32_33, s32_35, s32_38, s32_39, s32_40, s32_41, s32_44, s32_45, s32_46, s32_48, s32_51, s32_52, s32_55, s32_56, Int.toNat_natCast, true_and, and_true, true_or, or_true, false_or, or_false, zwr_id, zpu_some, zpu_none, reduceIte, Int.reduceLE, Int.reduceLT, Int.reduceEq, Int.reduceNeg, Int.reduceAdd, Int.reduceSub, Int.reduceMul, Int.reduceToNat, Nat.reduceAdd, Nat.reduceLeDiff, Nat.reduceEqDiff, Nat.reduceLT, eq_self, ne_eq, not_false_eq_true, not_true_eq_false, r1, i0, b0, b1, b3, t1, t2, t4, n1, n2, n4, y1, y2, y4, if_neg, if_pos]
  unfold itSo
  have hlt : 0 ≤ (i : Int) ∧ (i : Int) < ((80 : Nat) : Int) := by omega
  simp only [hlt, true_and, and_self]
  by_cases c1 : itO its[i] = -2
  · simp only [c1, if_true, not_true_eq_false, if_false, ne_eq]
    by_cases c2 : itL its[i] = -2
    · simp only [c2, if_true]
    · simp only [c2, if_false]
      by_cases c3 : itM its[i] = -2
      · simp only [c3, if_true]
      · simp only [c3, if_false]
  · simp only [c1, if_false, ne_eq, not_false_eq_true, if_true]
/-- behind a KEY's coming, its place not yet counted -/
def zPo (L : zY) (m m' : zM) (o : Nat) (s : zMS) : Prop := zRL L m' o ∧ zRI m' o (msI s) ∧ (∃ pl q, s.2.2.1 = pl ++ [q] ∧ zRP m' o pl ∧ m' (o + 7) pl.length = q.1 ∧ m' (o + 8) pl.length = q.2.1 ∧ m' (o + 9) pl.length = q.2.2) ∧ m' o 11 = s.2.2.2 ∧ m' o 12 = (match s.2.1 with | some _ => 1 | none => 0) ∧ zFR o (o + 9) m m'
/-- the class keeps the KEY of what is ALONE only -/
theorem zRI_key {m : zM} {o : Nat} {its : List zIt} {l mm e k1 k2 f n : Int} (h : zRI m o (its ++ [(l, mm, e, k1, f, n)])) (hn : ¬ (l = -2 ∧ mm = -2) := by assumption) : zRI m o (its ++ [(l, mm, e, k2, f, n)]) := by
  obtain ⟨i0, i1, j1, j2, j3, j4, j5, j6⟩ := h
  refine ⟨?_, ?_, zAL_map_keep j1 rfl, zAL_map_keep j2 rfl, zAL_map_keep j3 rfl, zAL_map_keep j4 ?_, zAL_map_keep j5 rfl, zAL_map_keep j6 rfl⟩
  · rw [i0, List.length_append, List.length_append]; rfl
  · rw [List.length_append] at i1 ⊢; exact i1
  · show (if l = -2 ∧ mm = -2 then _ else _) = (if l = -2 ∧ mm = -2 then _ else _)
    rw [if_neg hn, if_neg hn]
theorem c_fresh {L : zY} {m : zM} {Q : zQ} {o c : Nat} {s : zMS} {P : zP} (hC : zRC L m o s) (hp : s.2.2.1.length < 80) (h9 : m (o + 9) s.2.2.1.length = 0) (hl : pLo P c = -2) (k : ∀ m', zPo L m m' o (kFresh P c s) → Q none L m') : zwp 28 0 [zA o, zI (-2), zI (-2), zI ((c : Int) + 97), zI 3] [] L m Q := by
  obtain ⟨hR, hI, hP, h11, h12, hw⟩ := hC
  have hi : (msI s).length < 80 := Nat.lt_of_le_of_lt hw.1 hp
  refine c_begin hR hI hP hi hp (Or.inr ⟨by omega, rfl, rfl⟩) (fun m' g1 g2 g3 g4 g5 g6 g7 g8 g9 => k m' ?_)
  unfold kFresh
  rw [if_pos hl]
  refine ⟨g1, ?_, ⟨s.2.2.1, (((msI s).length : Int), 3, 0), rfl, g3, g4, g5, by rw [g6]; exact h9⟩, by rw [g8]; exact h11, by rw [g7, if_neg (by omega)]; rfl, g9⟩
  show zRI m' o (msI (kAlone s _))
  rw [show ((c : Int) + 97 - 97) = (c : Int) by omega] at g2
  rw [msI_none (s := kAlone s _) rfl]
  exact g2
theorem c_freshL {L : zY} {m : zM} {Q : zQ} {o c : Nat} {s : zMS} {P : zP} (hC : zRC L m o s) (hp : s.2.2.1.length < 80) (h9 : m (o + 9) s.2.2.1.length = 0) (hl : ¬ pLo P c = -2) (k : ∀ m', zPo L m m' o (kFresh P c s) → Q none L m') : zwp 28 0 [zA o, zI (pLo P c), zI (-2), zI (-2), zI 0] [] L m Q := by
  obtain ⟨hR, hI, hP, h11, h12, hw⟩ := hC
  have hi : (msI s).length < 80 := Nat.lt_of_le_of_lt hw.1 hp
  refine c_begin hR hI hP hi hp (Or.inl ⟨rfl, fun q => hl q.1⟩) (fun m' g1 g2 g3 g4 g5 g6 g7 g8 g9 => k m' ?_)
  unfold kFresh
  rw [if_neg hl]
  refine ⟨g1, ?_, ⟨s.2.2.1, (((msI s).length : Int), 0, 0), rfl, g3, g4, g5, by rw [g6]; exact h9⟩, by rw [g8]; exact h11, by rw [g7, if_pos rfl]; rfl, g9⟩
  rw [msI_some (s := kNew s _ 0) rfl]
  exact zRI_key (hn := fun q => hl q.1) g2
theorem c_jn {L : zY} {m m1 : zM} {Q : zQ} {o : Nat} {s : zMS} {x : zIt} {role : Int} (hR : zRL L m1 o) (hI : zRI m1 o (s.1 ++ [x])) (hP : zRP m1 o s.2.2.1) (hp : s.2.2.1.length < 80) (h9 : m1 (o + 9) s.2.2.1.length = 0) (h11 : m1 o 11 = s.2.2.2) (h12 : m1 o 12 = 1) (hn : -1000 < itN x ∧ itN x < 1000) (hF : zFR o (o + 9) m m1) (k : ∀ m', zPo L m m' o (kJoin s (itL x, itM x, itE x, itK x, itF x, itN x + 1) role) → Q none L m') : zwp 29 0 [zA o, zI role] [] L m1 Q := by
  refine c_join hR hI hP hp hn (fun m' g1 g2 g3 g4 g5 g6 g7 g8 => k m' ?_)
  refine ⟨g1, ?_, ⟨s.2.2.1, ((s.1.length : Int), role, 0), rfl, g3, g4, g5, by rw [g6]; exact h9⟩, by rw [g7]; exact h11, by rw [g7]; exact h12, zFR_tr hF g8⟩
  rw [msI_some (s := kJoin s _ role) rfl]
  exact g2
/-- one of the rows of the latest ITEM is written -/
theorem zRI_set {m : zM} {o : Nat} {cl : List zIt} {x x' : zIt} {a : Nat} {v : Int} (h : zRI m o (cl ++ [x])) (hF : itF x' = itF x) (hN : itN x' = itN x) (ha : (a = o + 1 ∧ itL x' = v ∧ itM x' = itM x ∧ itC x' = itC x ∧ itO x' = itO x) ∨ (a = o + 2 ∧ itL x' = itL x ∧ itM x' = v ∧ itC x' = itC x ∧ itO x' = itO x) ∨ (a = o + 3 ∧ itL x' = itL x ∧ itM x' = itM x ∧ itC x' = v ∧ itO x' = itO x)) : zRI (zup m a cl.length v) o (cl ++ [x']) := by
  obtain ⟨i0, i1, j1, j2, j3, j4, j5, j6⟩ := h
  have hl : (cl ++ [x']).length = (cl ++ [x]).length := by rw [List.length_append, List.length_append]; rfl
  rcases ha with ⟨rfl, h1, h2, h3, h4⟩ | ⟨rfl, h1, h2, h3, h4⟩ | ⟨rfl, h1, h2, h3, h4⟩
  · exact ⟨by rw [zup_na (by omega), hl]; exact i0, by rw [hl]; exact i1, zAL_map_last j1 h1, zAL_eq (zup_nf (by omega)) (zAL_map_keep j2 h2), zAL_eq (zup_nf (by omega)) (zAL_map_keep j3 h3), zAL_eq (zup_nf (by omega)) (zAL_map_keep j4 h4), zAL_eq (zup_nf (by omega)) (zAL_map_keep j5 hF), zAL_eq (zup_nf (by omega)) (zAL_map_keep j6 hN)⟩
  · exact ⟨by rw [zup_na (by omega), hl]; exact i0, by rw [hl]; exact i1, zAL_eq (zup_nf (by omega)) (zAL_map_keep j1 h1), zAL_map_last j2 h2, zAL_eq (zup_nf (by omega)) (zAL_map_keep j3 h3), zAL_eq (zup_nf (by omega)) (zAL_map_keep j4 h4), zAL_eq (zup_nf (by omega)) (zAL_map_keep j5 hF), zAL_eq (zup_nf (by omega)) (zAL_map_keep j6 hN)⟩
  · exact ⟨by rw [zup_na (by omega), hl]; exact i0, by rw [hl]; exact i1, zAL_eq (zup_nf (by omega)) (zAL_map_keep j1 h1), zAL_eq (zup_nf (by omega)) (zAL_map_keep j2 h2), zAL_map_last j3 h3, zAL_eq (zup_nf (by omega)) (zAL_map_keep j4 h4), zAL_eq (zup_nf (by omega)) (zAL_map_keep j5 hF), zAL_eq (zup_nf (by omega)) (zAL_map_keep j6 hN)⟩
theorem zRL_up {L : zY} {m : zM} {o a k : Nat} {v : Int} (ha : o < a) (h : zRL L m o) : zRL L (zup m a k v) o := zRL_eq (fun j _ => zup_na (by omega)) h
theorem zRP_up {m : zM} {o a k : Nat} {v : Int} {pl : List (Int × Int × Int)} (ha : o < a) (hb : a < o + 7) (h : zRP m o pl) : zRP (zup m a k v) o pl := zRP_eq (zup_na (by omega)) (zup_nf (by omega)) (zup_nf (by omega)) (zup_nf (by omega)) h
theorem c_takeC {L : zY} {m : zM} {Q : zQ} {o sc c : Nat} {s : zMS} {P : zP} (hC : zRC L m o s) (hS : zSC L m sc P) (hc : c < 26) (hp : s.2.2.1.length < 80) (h9 : m (o + 9) s.2.2.1.length = 0) (k : ∀ m', zPo L m m' o (kCons P c s) → Q none L m') : zwp 26 0 [zA o, zA sc, zI ((c : Int) + 97), zU, zU, zU] [] L m Q := by
  have hC' := hC
  obtain ⟨hR, hI, hP, h11, h12, hw⟩ := hC'
  obtain ⟨c1, c2, c3, c4, c5, c6, c7, c8, c9, eL, eM, eE, nL, nM, nE, pL, pM, pE, wL, wM, wE, wp, wso, wm⟩ := hS
  have hR' := hR
  obtain ⟨r1, r2, ⟨b0, b1, b2, b3, b4, b5, b6, b7, b8⟩, ⟨t1, t2, t3, t4, t5, t6, t7, t8, t9⟩, ⟨n1, n2, n3, n4, n5, n6, n7, n8, n9⟩⟩ := hR'
  obtain ⟨d1, d2, d3, d4, d5, d6, d7, d8, d9, d10, d11, d12, d13, d14, d15, d16, d17, d18, d19⟩ := id pL
  obtain ⟨e1, e2, e3, e4, e5, e6, e7, e8, e9, e10, e11, e12, e13, e14, e15, e16, e17, e18, e19⟩ := id pE
  have hI' := hI
  obtain ⟨i0, i1, j1, j2, j3, j4, j5, j6⟩ := hI'
  have x1 : (c : Int) + 97 - 97 = (c : Int) := by omega
  cases hs : s.2.1 with
  | none =>
    rw [hs] at h12
    have ek : kCons P c s = kFresh P c s := by unfold kCons; rw [hs]
    rw [ek] at k
    simp (disch := omega) only [s26_0, s26_1, s26_4, s26_5, s26_6, s26_7, s26_8, s26_11, s26_14, s26_15, s26_16, s26_19, s26_22, s26_23, s26_25, s26_27, s26_28, s26_31, s26_32, s26_35, s26_36, s26_39, s26_40, s26_41, s26_42, s26_45, s26_47, s26_49, s26_51, s26_54, s26_55, s26_58, s26_59, s26_61, s26_62, s26_63, s26_64, s26_67, s26_68, s26_70, s26_73, s26_74, s26_77, s26_78, s26_79, s26_82, s26_83, s26_86, s26_87, s26_90, s26_93, s26_94, s26_97, s26_98, s26_101, s26_102, s26_103, s26_104, s26_107, s26_109, s26_111, s26_113, s26_116, s26_117, s26_120, s26_121, s26_123, s26_124, s26_125, s26_126, s26_129, s26_130, s26_131, s26_134, s26_135, s26_138, s26_140, s26_142, s26_144, s26_147, s26_148, s26_150, s26_152, s26_153, s26_154, s26_157, s26_160, s26_161, s26_163, s26_165, s26_167, s26_168, s26_171, Int.toNat_natCast, true_and, and_true, true_or, or_true, false_or, or_false, zwr_id, zpu_some, zpu_none, reduceIte, Int.reduceLE, Int.reduceLT, Int.reduceEq, Int.reduceNeg, Int.reduceAdd, Int.reduceSub, Int.reduceMul, Int.reduceToNat, Nat.reduceAdd, Nat.reduceLeDiff, Nat.reduceEqDiff, Nat.reduceLT, eq_self, ne_eq, not_false_eq_true, not_true_eq_false, r1, h12, i0, c1, c7, d1, x_num pL hc]
    by_cases hl : pLo P c = -2
    · rw [if_pos hl]
      refine c_fresh hC hp h9 hl (fun m' g => ?_)
      simp only [s26_0, s26_1, s26_4, s26_5, s26_6, s26_7, s26_8, s26_11, s26_14, s26_15, s26_16, s26_19, s26_22, s26_23, s26_25, s26_27, s26_28, s26_31, s26_32, s26_35, s26_36, s26_39, s26_40, s26_41, s26_42, s26_45, s26_47, s26_49, s26_51, s26_54, s26_55, s26_58, s26_59, s26_61, s26_62, s26_63, s26_64, s26_67, s26_68, s26_70, s26_73, s26_74, s26_77, s26_78, s26_79, s26_82, s26_83, s26_86, s26_87, s26_90, s26_93, s26_94, s26_97, s26_98, s26_101, s26_102, s26_103, s26_104, s26_107, s26_109, s26_111, s26_113, s26_116, s26_117, s26_120, s26_121, s26_123, s26_124, s26_125, s26_126, s26_129, s26_130, s26_131, s26_134, s26_135, s26_138, s26_140, s26_142, s26_144, s26_147, s26_148, s26_150, s26_152, s26_153, s26_154, s26_157, s26_160, s26_161, s26_163, s26_165, s26_167, s26_168, s26_171, Int.toNat_natCast, true_and, and_true, true_or, or_true, false_or, or_false, zwr_id, zpu_some, zpu_none, reduceIte, Int.reduceLE, Int.reduceLT, Int.reduceEq, Int.reduceNeg, Int.reduceAdd, Int.reduceSub, Int.reduceMul, Int.reduceToNat, Nat.reduceAdd, Nat.reduceLeDiff, Nat.reduceEqDiff, Nat.reduceLT, eq_self, ne_eq, not_false_eq_true, not_true_eq_false]
      exact k m' g
    · rw [if_neg hl]
      refine c_freshL hC hp h9 hl (fun m' g => ?_)
      simp only [s26_0, s26_1, s26_4, s26_5, s26_6, s26_7, s26_8, s26_11, s26_14, s26_15, s26_16, s26_19, s26_22, s26_23, s26_25, s26_27, s26_28, s26_31, s26_32, s26_35, s26_36, s26_39, s26_40, s26_41, s26_42, s26_45, s26_47, s26_49, s26_51, s26_54, s26_55, s26_58, s26_59, s26_61, s26_62, s26_63, s26_64, s26_67, s26_68, s26_70, s26_73, s26_74, s26_77, s26_78, s26_79, s26_82, s26_83, s26_86, s26_87, s26_90, s26_93, s26_94, s26_97, s26_98, s26_101, s26_102, s26_103, s26_104, s26_107, s26_109, s26_111, s26_113, s26_116, s26_117, s26_120, s26_121, s26_123, s26_124, s26_125, s26_126, s26_129, s26_130, s26_131, s26_134, s26_135, s26_138, s26_140, s26_142, s26_144, s26_147, s26_148, s26_150, s26_152, s26_153, s26_154, s26_157, s26_160, s26_161, s26_163, s26_165, s26_167, s26_168, s26_171, Int.toNat_natCast, true_and, and_true, true_or, or_true, false_or, or_false, zwr_id, zpu_some, zpu_none, reduceIte, Int.reduceLE, Int.reduceLT, Int.reduceEq, Int.reduceNeg, Int.reduceAdd, Int.reduceSub, Int.reduceMul, Int.reduceToNat, Nat.reduceAdd, Nat.reduceLeDiff, Nat.reduceEqDiff, Nat.reduceLT, eq_self, ne_eq, not_false_eq_true, not_true_eq_false]
      exact k m' g
  | some x =>
    rw [hs] at h12
    rw [msI_some hs] at i0 i1 j1 j2 j3 j4 j5 j6
    have y1 := zAL_map_end j1
    have y2 := zAL_map_end j2
    have y3 := zAL_map_end j3
    have y4 := zAL_map_end j4
    have hlen : (s.1 ++ [x]).length = s.1.length + 1 := by rw [List.length_append]; rfl
    rw [hlen] at i0 i1
    have x2 : ((s.1.length + 1 : Nat) : Int) - 1 = (s.1.length : Int) := by omega
    obtain ⟨w1, w2, w3, w4⟩ := hw.2.2.2.2 x hs
    have hO : itO x = -2 := by unfold itO; rw [if_neg w1]
    have hsort : ∀ {Q : zQ}, zwp 32 0 [zA o, zI (s.1.length : Int)] [] L m Q ↔ Q (some (zI (itSo x))) L m := fun {Q} => by
      have := x_sort (Q := Q) (i := s.1.length) hR hI (by rw [msI_some hs, List.length_append]; exact Nat.lt_succ_self _)
      simp only [msI_some hs, List.getElem_concat_length] at this
      exact this
    have fr1 : ∀ {l0 l1 l2 l3 l4 : zV}, (∀ m', zPo L m m' o (kFresh P c s) → Q none L m') → (if pLo P c = -2 then zwp 28 0 [zA o, zI (-2), zI (-2), zI ((c : Int) + 97), zI 3] [] L m (fun r L1 m1 => zwp 26 157 [l0, l1, l2, l3, l4, zI (pLo P c)] (zpu r []) L1 m1 Q) else zwp 28 0 [zA o, zI (pLo P c), zI (-2), zI (-2), zI 0] [] L m (fun r L1 m1 => zwp 26 171 [l0, l1, l2, l3, l4, zI (pLo P c)] (zpu r []) L1 m1 Q)) := fun k => by
      by_cases hl : pLo P c = -2
      · rw [if_pos hl]
        refine c_fresh hC hp h9 hl (fun m' g => ?_)
        simp only [s26_0, s26_1, s26_4, s26_5, s26_6, s26_7, s26_8, s26_11, s26_14, s26_15, s26_16, s26_19, s26_22, s26_23, s26_25, s26_27, s26_28, s26_31, s26_32, s26_35, s26_36, s26_39, s26_40, s26_41, s26_42, s26_45, s26_47, s26_49, s26_51, s26_54, s26_55, s26_58, s26_59, s26_61, s26_62, s26_63, s26_64, s26_67, s26_68, s26_70, s26_73, s26_74, s26_77, s26_78, s26_79, s26_82, s26_83, s26_86, s26_87, s26_90, s26_93, s26_94, s26_97, s26_98, s26_101, s26_102, s26_103, s26_104, s26_107, s26_109, s26_111, s26_113, s26_116, s26_117, s26_120, s26_121, s26_123, s26_124, s26_125, s26_126, s26_129, s26_130, s26_131, s26_134, s26_135, s26_138, s26_140, s26_142, s26_144, s26_147, s26_148, s26_150, s26_152, s26_153, s26_154, s26_157, s26_160, s26_161, s26_163, s26_165, s26_167, s26_168, s26_171, Int.toNat_natCast, true_and, and_true, true_or, or_true, false_or, or_false, zwr_id, zpu_some, zpu_none, reduceIte, Int.reduceLE, Int.reduceLT, Int.reduceEq, Int.reduceNeg, Int.reduceAdd, Int.reduceSub, Int.reduceMul, Int.reduceToNat, Nat.reduceAdd, Nat.reduceLeDiff, Nat.reduceEqDiff, Nat.reduceLT, eq_self, ne_eq, not_false_eq_true, not_true_eq_false]
        exact k m' g
      · rw [if_neg hl]
        refine c_freshL hC hp h9 hl (fun m' g => ?_)
        simp only [s26_0, s26_1, s26_4, s26_5, s26_6, s26_7, s26_8, s26_11, s26_14, s26_15, s26_16, s26_19, s26_22, s26_23, s26_25, s26_27, s26_28, s26_31, s26_32, s26_35, s26_36, s26_39, s26_40, s26_41, s26_42, s26_45, s26_47, s26_49, s26_51, s26_54, s26_55, s26_58, s26_59, s26_61, s26_62, s26_63, s26_64, s26_67, s26_68, s26_70, s26_73, s26_74, s26_77, s26_78, s26_79, s26_82, s26_83, s26_86, s26_87, s26_90, s26_93, s26_94, s26_97, s26_98, s26_101, s26_102, s26_103, s26_104, s26_107, s26_109, s26_111, s26_113, s26_116, s26_117, s26_120, s26_121, s26_123, s26_124, s26_125, s26_126, s26_129, s26_130, s26_131, s26_134, s26_135, s26_138, s26_140, s26_142, s26_144, s26_147, s26_148, s26_150, s26_152, s26_153, s26_154, s26_157, s26_160, s26_161, s26_163, s26_165, s26_167, s26_168, s26_171, Int.toNat_natCast, true_and, and_true, true_or, or_true, false_or, or_false, zwr_id, zpu_some, zpu_none, reduceIte, Int.reduceLE, Int.reduceLT, Int.reduceEq, Int.reduceNeg, Int.reduceAdd, Int.reduceSub, Int.reduceMul, Int.reduceToNat, Nat.reduceAdd, Nat.reduceLeDiff, Nat.reduceEqDiff, Nat.reduceLT, eq_self, ne_eq, not_false_eq_true, not_true_eq_false]
        exact k m' g
    by_cases hl2 : itL x = -2
    · have hso : itSo x = 2 := by unfold itSo; rw [if_neg (fun q => q hO), if_pos hl2]
      have ek : kCons P c s = kFresh P c s := by unfold kCons; rw [hs]; dsimp only; rw [if_pos hl2]
      rw [ek] at k
      simp (disch := omega) only [s26_0, s26_1, s26_4, s26_5, s26_6, s26_7, s26_8, s26_11, s26_14, s26_15, s26_16, s26_19, s26_22, s26_23, s26_25, s26_27, s26_28, s26_31, s26_32, s26_35, s26_36, s26_39, s26_40, s26_41, s26_42, s26_45, s26_47, s26_49, s26_51, s26_54, s26_55, s26_58, s26_59, s26_61, s26_62, s26_63, s26_64, s26_67, s26_68, s26_70, s26_73, s26_74, s26_77, s26_78, s26_79, s26_82, s26_83, s26_86, s26_87, s26_90, s26_93, s26_94, s26_97, s26_98, s26_101, s26_102, s26_103, s26_104, s26_107, s26_109, s26_111, s26_113, s26_116, s26_117, s26_120, s26_121, s26_123, s26_124, s26_125, s26_126, s26_129, s26_130, s26_131, s26_134, s26_135, s26_138, s26_140, s26_142, s26_144, s26_147, s26_148, s26_150, s26_152, s26_153, s26_154, s26_157, s26_160, s26_161, s26_163, s26_165, s26_167, s26_168, s26_171, Int.toNat_natCast, true_and, and_true, true_or, or_true, false_or, or_false, zwr_id, zpu_some, zpu_none, reduceIte, Int.reduceLE, Int.reduceLT, Int.reduceEq, Int.reduceNeg, Int.reduceAdd, Int.reduceSub, Int.reduceMul, Int.reduceToNat, Nat.reduceAdd, Nat.reduceLeDiff, Nat.reduceEqDiff, Nat.reduceLT, eq_self, ne_eq, not_false_eq_true, not_true_eq_false, r1, h12, i0, x2, b0, b2, t1, t3, n1, n3, y1, y3, c1, c7, c9, d1, x_num pL hc, x_num pE hc, x_with pL, x_with pE, e1, hsort, wL c _ hc, hso]
      exact fr1 k
    · by_cases hm2 : itM x = -2
      · have hso : itSo x = 1 := by unfold itSo; rw [if_neg (fun q => q hO), if_neg hl2, if_pos hm2]
        simp (disch := omega) only [s26_0, s26_1, s26_4, s26_5, s26_6, s26_7, s26_8, s26_11, s26_14, s26_15, s26_16, s26_19, s26_22, s26_23, s26_25, s26_27, s26_28, s26_31, s26_32, s26_35, s26_36, s26_39, s26_40, s26_41, s26_42, s26_45, s26_47, s26_49, s26_51, s26_54, s26_55, s26_58, s26_59, s26_61, s26_62, s26_63, s26_64, s26_67, s26_68, s26_70, s26_73, s26_74, s26_77, s26_78, s26_79, s26_82, s26_83, s26_86, s26_87, s26_90, s26_93, s26_94, s26_97, s26_98, s26_101, s26_102, s26_103, s26_104, s26_107, s26_109, s26_111, s26_113, s26_116, s26_117, s26_120, s26_121, s26_123, s26_124, s26_125, s26_126, s26_129, s26_130, s26_131, s26_134, s26_135, s26_138, s26_140, s26_142, s26_144, s26_147, s26_148, s26_150, s26_152, s26_153, s26_154, s26_157, s26_160, s26_161, s26_163, s26_165, s26_167, s26_168, s26_171, Int.toNat_natCast, true_and, and_true, true_or, or_true, false_or, or_false, zwr_id, zpu_some, zpu_none, reduceIte, Int.reduceLE, Int.reduceLT, Int.reduceEq, Int.reduceNeg, Int.reduceAdd, Int.reduceSub, Int.reduceMul, Int.reduceToNat, Nat.reduceAdd, Nat.reduceLeDiff, Nat.reduceEqDiff, Nat.reduceLT, eq_self, ne_eq, not_false_eq_true, not_true_eq_false, r1, h12, i0, x2, b0, b2, t1, t3, n1, n3, y1, y3, c1, c7, c9, d1, x_num pL hc, x_num pE hc, x_with pL, x_with pE, e1, hsort, wL c _ hc, hso]
        have hI2 : zRI m o (s.1 ++ [x]) := by rw [← msI_some hs]; exact hI
        have hxN := hw.2.2.2.1 x (by rw [msI_some hs]; simp)
        refine ⟨by omega, ?_⟩
        by_cases ht : itL x = pLo P c ∧ pTw P c ≠ -2
        · have ht3 : itL x = pLo P c ∧ ¬ itL x = -2 ∧ ¬ pTw P c = -2 := ⟨ht.1, hl2, ht.2⟩
          have ek : kCons P c s = kJoin s (pTw P c, itM x, itE x, itK x, itF x, itN x + 1) 0 := by unfold kCons; rw [hs]; dsimp only; rw [if_neg hl2, if_pos hm2, if_pos ht]
          rw [ek] at k
          rw [if_pos ht3, if_neg ht.2]
          refine ⟨by omega, ?_⟩
          refine c_jn (m := m) (s := s) (x := (pTw P c, itM x, itE x, itK x, itF x, itN x)) (zRL_up (by omega) hR) (zRI_set hI2 rfl rfl (Or.inl ⟨rfl, rfl, rfl, ?_, ?_⟩)) (zRP_up (by omega) (by omega) hP) hp (by rw [zup_na (by omega)]; exact h9) (by rw [zup_na (by omega)]; exact h11) (by rw [zup_na (by omega)]; exact h12) (by show -1000 < itN x ∧ itN x < 1000; omega) (zFR_up zFR_rf (by omega) (by omega)) (fun m' g => ?_)
          · show (if pTw P c = -2 ∨ itM x = -2 then _ else _) = (if itL x = -2 ∨ itM x = -2 then _ else _)
            rw [if_pos (Or.inr hm2), if_pos (Or.inr hm2)]
          · show (if pTw P c = -2 ∧ itM x = -2 then _ else _) = (if itL x = -2 ∧ itM x = -2 then _ else _)
            rw [if_neg (fun q => ht.2 q.1), if_neg (fun q => hl2 q.1)]
          · simp only [s26_0, s26_1, s26_4, s26_5, s26_6, s26_7, s26_8, s26_11, s26_14, s26_15, s26_16, s26_19, s26_22, s26_23, s26_25, s26_27, s26_28, s26_31, s26_32, s26_35, s26_36, s26_39, s26_40, s26_41, s26_42, s26_45, s26_47, s26_49, s26_51, s26_54, s26_55, s26_58, s26_59, s26_61, s26_62, s26_63, s26_64, s26_67, s26_68, s26_70, s26_73, s26_74, s26_77, s26_78, s26_79, s26_82, s26_83, s26_86, s26_87, s26_90, s26_93, s26_94, s26_97, s26_98, s26_101, s26_102, s26_103, s26_104, s26_107, s26_109, s26_111, s26_113, s26_116, s26_117, s26_120, s26_121, s26_123, s26_124, s26_125, s26_126, s26_129, s26_130, s26_131, s26_134, s26_135, s26_138, s26_140, s26_142, s26_144, s26_147, s26_148, s26_150, s26_152, s26_153, s26_154, s26_157, s26_160, s26_161, s26_163, s26_165, s26_167, s26_168, s26_171, Int.toNat_natCast, true_and, and_true, true_or, or_true, false_or, or_false, zwr_id, zpu_some, zpu_none, reduceIte, Int.reduceLE, Int.reduceLT, Int.reduceEq, Int.reduceNeg, Int.reduceAdd, Int.reduceSub, Int.reduceMul, Int.reduceToNat, Nat.reduceAdd, Nat.reduceLeDiff, Nat.reduceEqDiff, Nat.reduceLT, eq_self, ne_eq, not_false_eq_true, not_true_eq_false]
            exact k m' g
        · have ht3 : ¬ (itL x = pLo P c ∧ ¬ itL x = -2 ∧ ¬ pTw P c = -2) := fun q => ht ⟨q.1, q.2.2⟩
          have ek : kCons P c s = kFresh P c s := by unfold kCons; rw [hs]; dsimp only; rw [if_neg hl2, if_pos hm2, if_neg ht]
          rw [ek] at k
          rw [if_neg ht3, if_pos rfl]
          exact fr1 k
      · have hso : itSo x = 0 := by unfold itSo; rw [if_neg (fun q => q hO), if_neg hl2, if_neg hm2]
        simp (disch := omega) only [s26_0, s26_1, s26_4, s26_5, s26_6, s26_7, s26_8, s26_11, s26_14, s26_15, s26_16, s26_19, s26_22, s26_23, s26_25, s26_27, s26_28, s26_31, s26_32, s26_35, s26_36, s26_39, s26_40, s26_41, s26_42, s26_45, s26_47, s26_49, s26_51, s26_54, s26_55, s26_58, s26_59, s26_61, s26_62, s26_63, s26_64, s26_67, s26_68, s26_70, s26_73, s26_74, s26_77, s26_78, s26_79, s26_82, s26_83, s26_86, s26_87, s26_90, s26_93, s26_94, s26_97, s26_98, s26_101, s26_102, s26_103, s26_104, s26_107, s26_109, s26_111, s26_113, s26_116, s26_117, s26_120, s26_121, s26_123, s26_124, s26_125, s26_126, s26_129, s26_130, s26_131, s26_134, s26_135, s26_138, s26_140, s26_142, s26_144, s26_147, s26_148, s26_150, s26_152, s26_153, s26_154, s26_157, s26_160, s26_161, s26_163, s26_165, s26_167, s26_168, s26_171, Int.toNat_natCast, true_and, and_true, true_or, or_true, false_or, or_false, zwr_id, zpu_some, zpu_none, reduceIte, Int.reduceLE, Int.reduceLT, Int.reduceEq, Int.reduceNeg, Int.reduceAdd, Int.reduceSub, Int.reduceMul, Int.reduceToNat, Nat.reduceAdd, Nat.reduceLeDiff, Nat.reduceEqDiff, Nat.reduceLT, eq_self, ne_eq, not_false_eq_true, not_true_eq_false, r1, h12, i0, x2, b0, b2, t1, t3, n1, n3, y1, y3, c1, c7, c9, d1, x_num pL hc, x_num pE hc, x_with pL, x_with pE, e1, hsort, wL c _ hc, hso]
        have hI2 : zRI m o (s.1 ++ [x]) := by rw [← msI_some hs]; exact hI
        have hxN := hw.2.2.2.1 x (by rw [msI_some hs]; simp)
        have hCx : itC x = if itE x = -2 then 0 else itE x := by unfold itC; rw [if_neg (fun q => q.elim hl2 hm2)]
        refine ⟨by omega, ?_⟩
        have jn : ∀ {l0 l1 l2 l3 l4 l5 : zV} (v : Int), v ≠ -2 → 0 < v → (∀ m', zPo L m m' o (kJoin s (itL x, itM x, v, itK x, itF x, itN x + 1) 2) → Q none L m') → zwp 29 0 [zA o, zI 2] [] L (zup m (o + 3) s.1.length v) (fun r L1 m1 => zwp 26 129 [l0, l1, l2, l3, l4, l5] (zpu r []) L1 m1 Q) := fun v hv hv0 k => by
          refine c_jn (m := m) (s := s) (x := (itL x, itM x, v, itK x, itF x, itN x)) (zRL_up (by omega) hR) (zRI_set hI2 rfl rfl (Or.inr (Or.inr ⟨rfl, rfl, rfl, ?_, rfl⟩))) (zRP_up (by omega) (by omega) hP) hp (by rw [zup_na (by omega)]; exact h9) (by rw [zup_na (by omega)]; exact h11) (by rw [zup_na (by omega)]; exact h12) (by show -1000 < itN x ∧ itN x < 1000; omega) (zFR_up zFR_rf (by omega) (by omega)) (fun m' g => ?_)
          · show (if itL x = -2 ∨ itM x = -2 then _ else if v = -2 then _ else v) = v
            rw [if_neg (fun q => q.elim hl2 hm2), if_neg hv]
          · simp only [s26_0, s26_1, s26_4, s26_5, s26_6, s26_7, s26_8, s26_11, s26_14, s26_15, s26_16, s26_19, s26_22, s26_23, s26_25, s26_27, s26_28, s26_31, s26_32, s26_35, s26_36, s26_39, s26_40, s26_41, s26_42, s26_45, s26_47, s26_49, s26_51, s26_54, s26_55, s26_58, s26_59, s26_61, s26_62, s26_63, s26_64, s26_67, s26_68, s26_70, s26_73, s26_74, s26_77, s26_78, s26_79, s26_82, s26_83, s26_86, s26_87, s26_90, s26_93, s26_94, s26_97, s26_98, s26_101, s26_102, s26_103, s26_104, s26_107, s26_109, s26_111, s26_113, s26_116, s26_117, s26_120, s26_121, s26_123, s26_124, s26_125, s26_126, s26_129, s26_130, s26_131, s26_134, s26_135, s26_138, s26_140, s26_142, s26_144, s26_147, s26_148, s26_150, s26_152, s26_153, s26_154, s26_157, s26_160, s26_161, s26_163, s26_165, s26_167, s26_168, s26_171, Int.toNat_natCast, true_and, and_true, true_or, or_true, false_or, or_false, zwr_id, zpu_some, zpu_none, reduceIte, Int.reduceLE, Int.reduceLT, Int.reduceEq, Int.reduceNeg, Int.reduceAdd, Int.reduceSub, Int.reduceMul, Int.reduceToNat, Nat.reduceAdd, Nat.reduceLeDiff, Nat.reduceEqDiff, Nat.reduceLT, eq_self, ne_eq, not_false_eq_true, not_true_eq_false]
            exact k m' g
        by_cases he : itE x = -2
        · rw [if_pos (by rw [hCx, if_pos he])]
          by_cases h0 : pEo P c = -2
          · have ek : kCons P c s = kFresh P c s := by unfold kCons; rw [hs]; dsimp only; rw [if_neg hl2, if_neg hm2, if_pos he, if_pos h0]
            rw [ek] at k
            rw [if_pos h0]
            exact fr1 k
          · have ek : kCons P c s = kJoin s (itL x, itM x, pEo P c, itK x, itF x, itN x + 1) 2 := by unfold kCons; rw [hs]; dsimp only; rw [if_neg hl2, if_neg hm2, if_pos he, if_neg h0]
            rw [ek] at k
            rw [if_neg h0]
            exact ⟨by omega, jn _ h0 ((wp c hc).2.2.1.resolve_left h0) k⟩
        · have hep : 0 < itE x := w2.resolve_left he
          have hCe : itC x = itE x := by rw [hCx, if_neg he]
          rw [if_neg (by rw [hCe]; omega), hCe, wE c _ hc hep]
          refine ⟨by omega, ?_⟩
          by_cases h0 : pEp P (itE x) c = -2
          · have ek : kCons P c s = kFresh P c s := by unfold kCons; rw [hs]; dsimp only; rw [if_neg hl2, if_neg hm2, if_neg he, if_pos h0]
            rw [ek] at k
            rw [if_pos h0]
            exact fr1 k
          · have ek : kCons P c s = kJoin s (itL x, itM x, pEp P (itE x) c, itK x, itF x, itN x + 1) 2 := by unfold kCons; rw [hs]; dsimp only; rw [if_neg hl2, if_neg hm2, if_neg he, if_neg h0]
            rw [ek] at k
            rw [if_neg h0]
            exact ⟨by omega, jn _ h0 (((wp c hc).2.2.2.2.2 _).resolve_left h0) k⟩
