/-- the END-PARTS as THE MACHINE asks of them when a VOWEL comes; N: how many there are -/
def zSE (L : zY) (m : zM) (c : Nat) (P : zP) (N : Nat) : Prop := ∃ (eE : List (Int × Int)) (nE : Nat), zPT L m (c + 22) 19 eE nE (pEo P) ∧ eE.length = N ∧ ∀ (x : Nat) (hx : x < eE.length), 0 < x → (if x < nE then eE[x].1 else eE[x].2) = (pLa P (x : Int) : Int) + 97 ∧ pLa P (x : Int) < 26 ∧ (x < nE → pCu P (x : Int) = -2) ∧ (nE ≤ x → ∃ k : Nat, k < 26 ∧ eE[x].1 = (k : Int) + 97 ∧ pEo P k = pCu P (x : Int) ∧ 0 < pCu P (x : Int))
theorem x_late {L : zY} {m : zM} {Q : zQ} {o x : Nat} {es : List (Int × Int)} {ns cap : Nat} {sn : Nat → Int} (h : zPT L m o cap es ns sn) (hx : x < es.length) : zwp 21 0 [zA o, zI (x : Int)] [] L m Q ↔ Q (some (zI (if x < ns then es[x].1 else es[x].2))) L m := by
  obtain ⟨d1, d2, d3, d4, d5, d6, d7, d8, d9, d10, d11, d12, d13, d14, d15, d16, d17, d18, d19⟩ := h
  have y1 := zAL_pair d17 hx
  have y2 := zAL_pair d18 hx
  by_cases hn : x < ns
  · simp (disch := omega) only [s21_0, s21_1, s21_4, s21_5, s21_6, s21_9, s21_12, s21_14, s21_15, s21_16, s21_17, s21_20, s21_23, s21_24, s21_27, s21_28, s21_29, s21_32, s21_33, s21_36, s21_37, s21_38, Int.toNat_natCast, true_and, and_true, true_or, or_true, false_or, or_false, zwr_id, zpu_some, zpu_none, reduceIte, Int.reduceLE, Int.reduceLT, Int.reduceEq, Int.reduceNeg, Int.reduceAdd, Int.reduceSub, Int.reduceMul, Int.reduceToNat, Nat.reduceAdd, Nat.reduceLeDiff, Nat.reduceEqDiff, Nat.reduceLT, eq_self, ne_eq, not_false_eq_true, not_true_eq_false, d1, d3, d4, d7, d8, d10, d11, d13, d14, y1, y2, if_neg, if_pos]
    constructor
    · exact fun h => h.2
    · exact fun h => ⟨by omega, h⟩
  · simp (disch := omega) only [s21_0, s21_1, s21_4, s21_5, s21_6, s21_9, s21_12, s21_14, s21_15, s21_16, s21_17, s21_20, s21_23, s21_24, s21_27, s21_28, s21_29, s21_32, s21_33, s21_36, s21_37, s21_38, Int.toNat_natCast, true_and, and_true, true_or, or_true, false_or, or_false, zwr_id, zpu_some, zpu_none, reduceIte, Int.reduceLE, Int.reduceLT, Int.reduceEq, Int.reduceNeg, Int.reduceAdd, Int.reduceSub, Int.reduceMul, Int.reduceToNat, Nat.reduceAdd, Nat.reduceLeDiff, Nat.reduceEqDiff, Nat.reduceLT, eq_self, ne_eq, not_false_eq_true, not_true_eq_false, d1, d3, d4, d7, d8, d10, d11, d13, d14, y1, y2, if_neg, if_pos]
    constructor
    · exact fun h => h.2
    · exact fun h => ⟨by omega, h⟩
theorem x_wo0 {L : zY} {m : zM} {Q : zQ} {o x : Nat} {es : List (Int × Int)} {ns cap : Nat} {sn : Nat → Int} (h : zPT L m o cap es ns sn) (hx : x < ns) : zwp 18 0 [zA o, zI (x : Int)] [] L m Q ↔ Q (some (zI 0)) L m := by
  obtain ⟨d1, d2, d3, d4, d5, d6, d7, d8, d9, d10, d11, d12, d13, d14, d15, d16, d17, d18, d19⟩ := h
  simp (disch := omega) only [s18_0, s18_1, s18_2, s18_5, s18_8, s18_9, s18_10, s18_13, s18_16, s18_17, s18_18, s18_21, s18_22, s18_23, s18_26, s18_29, s18_30, Int.toNat_natCast, true_and, and_true, true_or, or_true, false_or, or_false, zwr_id, zpu_some, zpu_none, reduceIte, Int.reduceLE, Int.reduceLT, Int.reduceEq, Int.reduceNeg, Int.reduceAdd, Int.reduceSub, Int.reduceMul, Int.reduceToNat, Nat.reduceAdd, Nat.reduceLeDiff, Nat.reduceEqDiff, Nat.reduceLT, eq_self, ne_eq, not_false_eq_true, not_true_eq_false, d1, d3, d4, d7, d8, d10, d11, d13, d14, if_neg, if_pos]
theorem x_wo1 {L : zY} {m : zM} {Q : zQ} {o x k : Nat} {es : List (Int × Int)} {ns cap : Nat} {sn : Nat → Int} (h : zPT L m o cap es ns sn) (hx : x < es.length) (hn : ns ≤ x) (hk : k < 26) (he : es[x].1 = (k : Int) + 97) : zwp 18 0 [zA o, zI (x : Int)] [] L m Q ↔ Q (some (zI (sn k))) L m := by
  have h' := h
  obtain ⟨d1, d2, d3, d4, d5, d6, d7, d8, d9, d10, d11, d12, d13, d14, d15, d16, d17, d18, d19⟩ := h'
  have y1 := zAL_pair d17 hx
  rw [he] at y1
  simp (disch := omega) only [s18_0, s18_1, s18_2, s18_5, s18_8, s18_9, s18_10, s18_13, s18_16, s18_17, s18_18, s18_21, s18_22, s18_23, s18_26, s18_29, s18_30, Int.toNat_natCast, true_and, and_true, true_or, or_true, false_or, or_false, zwr_id, zpu_some, zpu_none, reduceIte, Int.reduceLE, Int.reduceLT, Int.reduceEq, Int.reduceNeg, Int.reduceAdd, Int.reduceSub, Int.reduceMul, Int.reduceToNat, Nat.reduceAdd, Nat.reduceLeDiff, Nat.reduceEqDiff, Nat.reduceLT, eq_self, ne_eq, not_false_eq_true, not_true_eq_false, d1, d3, d4, d7, d8, d10, d11, d13, d14, y1, if_neg, if_pos, x_num h hk]
  constructor
  · exact fun h => h.2
  · exact fun h => ⟨by omega, h⟩
theorem c_vnew {L : zY} {m : zM} {Q : zQ} {o c : Nat} {s : zMS} {P : zP} (hC : zRC L m o s) (hp : s.2.2.1.length < 80) (h9 : m (o + 9) s.2.2.1.length = 0) (hl : pMo P c ≠ -2) (k : ∀ m', zPo L m m' o (kVnew P c s) → Q none L m') : zwp 28 0 [zA o, zI (-2), zI (pMo P c), zI (-2), zI 1] [] L m Q := by
  obtain ⟨hR, hI, hP, h11, h12, hw⟩ := hC
  have hi : (msI s).length < 80 := Nat.lt_of_le_of_lt hw.1 hp
  refine c_begin hR hI hP hi hp (Or.inl ⟨rfl, fun q => hl q.2⟩) (fun m' g1 g2 g3 g4 g5 g6 g7 g8 g9 => k m' ?_)
  unfold kVnew
  refine ⟨g1, ?_, ⟨s.2.2.1, (((msI s).length : Int), 1, 0), rfl, g3, g4, g5, by rw [g6]; exact h9⟩, by rw [g8]; exact h11, by rw [g7, if_pos rfl]; rfl, g9⟩
  rw [msI_some (s := kNew s _ 1) rfl]
  exact zRI_key (hn := fun q => hl q.2) g2
theorem zRI_mid {m : zM} {o : Nat} {cl : List zIt} {x x' : zIt} {v w : Int} (h : zRI m o (cl ++ [x])) (hF : itF x' = itF x) (hN : itN x' = itN x) (h1 : itL x' = itL x) (h2 : itM x' = v) (h3 : itC x' = w) (h4 : itO x' = itO x) : zRI (zup (zup m (o + 2) cl.length v) (o + 3) cl.length w) o (cl ++ [x']) := by
  obtain ⟨i0, i1, j1, j2, j3, j4, j5, j6⟩ := h
  have hl : (cl ++ [x']).length = (cl ++ [x]).length := by rw [List.length_append, List.length_append]; rfl
  have f : ∀ {a : Nat}, a ≠ o + 2 → a ≠ o + 3 → zup (zup m (o + 2) cl.length v) (o + 3) cl.length w a = m a := fun {a} p q => by rw [zup_nf q, zup_nf p]
  refine ⟨by rw [f (by omega) (by omega), hl]; exact i0, by rw [hl]; exact i1, zAL_eq (f (by omega) (by omega)) (zAL_map_keep j1 h1), zAL_eq (zup_nf (by omega)) (zAL_map_last j2 h2), zAL_map_last (zAL_eq (zup_nf (by omega)) j3) h3, zAL_eq (f (by omega) (by omega)) (zAL_map_keep j4 h4), zAL_eq (f (by omega) (by omega)) (zAL_map_keep j5 hF), zAL_eq (f (by omega) (by omega)) (zAL_map_keep j6 hN)⟩
theorem c_takeV {L : zY} {m : zM} {Q : zQ} {o sc c N : Nat} {s : zMS} {P : zP} (hC : zRC L m o s) (hS : zSC L m sc P) (hSE : zSE L m sc P N) (hE : ∀ x, s.2.1 = some x → itE x < (N : Int)) (hc : c < 26) (h3 : pSo P c = 3) (hp : s.2.2.1.length < 80) (h9 : m (o + 9) s.2.2.1.length = 0) (k : ∀ m', zPo L m m' o (kVow P c s) → Q none L m') : zwp 27 0 [zA o, zA sc, zI ((c : Int) + 97), zU, zU, zU, zU] [] L m Q := by
  have hC' := hC
  obtain ⟨hR, hI, hP, h11, h12, hw⟩ := hC'
  obtain ⟨c1, c2, c3, c4, c5, c6, c7, c8, c9, eL, eM, eE, nL, nM, nE, pL, pM, pE, wL, wM, wE, wp, wso, wm⟩ := hS
  have hR' := hR
  obtain ⟨r1, r2, ⟨b0, b1, b2, b3, b4, b5, b6, b7, b8⟩, ⟨t1, t2, t3, t4, t5, t6, t7, t8, t9⟩, ⟨n1, n2, n3, n4, n5, n6, n7, n8, n9⟩⟩ := hR'
  have d1 := pL.1
  have e1 := pE.1
  have f1 := pM.1
  have hI' := hI
  obtain ⟨i0, i1, j1, j2, j3, j4, j5, j6⟩ := hI'
  have hm := wm c hc h3
  have vn : ∀ {l0 l1 l2 l3 l4 l5 l6 : zV}, (∀ m', zPo L m m' o (kVnew P c s) → Q none L m') → zwp 28 0 [zA o, zI (-2), zI (pMo P c), zI (-2), zI 1] [] L m (fun r L1 m1 => zwp 27 197 [l0, l1, l2, l3, l4, l5, l6] (zpu r []) L1 m1 Q) := fun k => by
    refine c_vnew hC hp h9 hm (fun m' g => ?_)
    simp only [s27_0, s27_1, s27_4, s27_5, s27_6, s27_7, s27_8, s27_11, s27_14, s27_15, s27_16, s27_19, s27_22, s27_23, s27_25, s27_26, s27_29, s27_30, s27_33, s27_35, s27_37, s27_38, s27_41, s27_42, s27_45, s27_46, s27_48, s27_49, s27_50, s27_53, s27_54, s27_55, s27_56, s27_57, s27_58, s27_61, s27_62, s27_64, s27_67, s27_68, s27_71, s27_72, s27_73, s27_76, s27_77, s27_80, s27_81, s27_84, s27_85, s27_88, s27_89, s27_90, s27_93, s27_96, s27_98, s27_100, s27_102, s27_105, s27_106, s27_109, s27_110, s27_111, s27_114, s27_115, s27_118, s27_119, s27_120, s27_123, s27_124, s27_125, s27_127, s27_129, s27_131, s27_132, s27_135, s27_136, s27_139, s27_140, s27_143, s27_145, s27_146, s27_149, s27_150, s27_153, s27_154, s27_157, s27_158, s27_159, s27_160, s27_163, s27_165, s27_167, s27_169, s27_172, s27_173, s27_176, s27_177, s27_179, s27_180, s27_181, s27_182, s27_185, s27_186, s27_187, s27_189, s27_191, s27_193, s27_194, s27_197, Int.toNat_natCast, true_and, and_true, true_or, or_true, false_or, or_false, zwr_id, zpu_some, zpu_none, reduceIte, Int.reduceLE, Int.reduceLT, Int.reduceEq, Int.reduceNeg, Int.reduceAdd, Int.reduceSub, Int.reduceMul, Int.reduceToNat, Nat.reduceAdd, Nat.reduceLeDiff, Nat.reduceEqDiff, Nat.reduceLT, eq_self, ne_eq, not_false_eq_true, not_true_eq_false]
    exact k m' g
  cases hs : s.2.1 with
  | none =>
    rw [hs] at h12
    have ek : kVow P c s = kVnew P c s := by unfold kVow; rw [hs]
    rw [ek] at k
    simp (disch := omega) only [s27_0, s27_1, s27_4, s27_5, s27_6, s27_7, s27_8, s27_11, s27_14, s27_15, s27_16, s27_19, s27_22, s27_23, s27_25, s27_26, s27_29, s27_30, s27_33, s27_35, s27_37, s27_38, s27_41, s27_42, s27_45, s27_46, s27_48, s27_49, s27_50, s27_53, s27_54, s27_55, s27_56, s27_57, s27_58, s27_61, s27_62, s27_64, s27_67, s27_68, s27_71, s27_72, s27_73, s27_76, s27_77, s27_80, s27_81, s27_84, s27_85, s27_88, s27_89, s27_90, s27_93, s27_96, s27_98, s27_100, s27_102, s27_105, s27_106, s27_109, s27_110, s27_111, s27_114, s27_115, s27_118, s27_119, s27_120, s27_123, s27_124, s27_125, s27_127, s27_129, s27_131, s27_132, s27_135, s27_136, s27_139, s27_140, s27_143, s27_145, s27_146, s27_149, s27_150, s27_153, s27_154, s27_157, s27_158, s27_159, s27_160, s27_163, s27_165, s27_167, s27_169, s27_172, s27_173, s27_176, s27_177, s27_179, s27_180, s27_181, s27_182, s27_185, s27_186, s27_187, s27_189, s27_191, s27_193, s27_194, s27_197, Int.toNat_natCast, true_and, and_true, true_or, or_true, false_or, or_false, zwr_id, zpu_some, zpu_none, reduceIte, Int.reduceLE, Int.reduceLT, Int.reduceEq, Int.reduceNeg, Int.reduceAdd, Int.reduceSub, Int.reduceMul, Int.reduceToNat, Nat.reduceAdd, Nat.reduceLeDiff, Nat.reduceEqDiff, Nat.reduceLT, eq_self, ne_eq, not_false_eq_true, not_true_eq_false, r1, h12, i0, c1, c8, f1, x_num pM hc]
    exact vn k
  | some x =>
    rw [hs] at h12
    rw [msI_some hs] at i0 i1 j1 j2 j3 j4 j5 j6
    have y1 := zAL_map_end j1
    have y2 := zAL_map_end j2
    have y3 := zAL_map_end j3
    have y4 := zAL_map_end j4
    have hlen : (s.1 ++ [x]).length = s.1.length + 1 := by rw [List.length_append]; rfl
    rw [hlen] at i0 i1
    have x2 : ((s.1.length + 1 : Nat) : Int) - 1 = (s.1.length : Int) := by omega
    obtain ⟨w1, w2, w3, w4⟩ := hw.2.2.2.2 x hs
    have hO : itO x = -2 := by unfold itO; rw [if_neg w1]
    have hsort : ∀ {Q : zQ}, zwp 32 0 [zA o, zI (s.1.length : Int)] [] L m Q ↔ Q (some (zI (itSo x))) L m := fun {Q} => by
      have := x_sort (Q := Q) (i := s.1.length) hR hI (by rw [msI_some hs, List.length_append]; exact Nat.lt_succ_self _)
      simp only [msI_some hs, List.getElem_concat_length] at this
      exact this
    have hI2 : zRI m o (s.1 ++ [x]) := by rw [← msI_some hs]; exact hI
    have hxN := hw.2.2.2.1 x (by rw [msI_some hs]; simp)
    have jn : ∀ {l0 l1 l2 l3 l4 l5 l6 : zV} (v : Int), v ≠ -2 → itM x ≠ -2 → (∀ m', zPo L m m' o (kJoin s (itL x, v, itE x, itK x, itF x, itN x + 1) 1) → Q none L m') → zwp 29 0 [zA o, zI 1] [] L (zup m (o + 2) s.1.length v) (fun r L1 m1 => zwp 27 185 [l0, l1, l2, l3, l4, l5, l6] (zpu r []) L1 m1 Q) := fun v hv hv0 k => by
      refine c_jn (m := m) (s := s) (x := (itL x, v, itE x, itK x, itF x, itN x)) (zRL_up (by omega) hR) (zRI_set hI2 rfl rfl (Or.inr (Or.inl ⟨rfl, rfl, rfl, ?_, ?_⟩))) (zRP_up (by omega) (by omega) hP) hp (by rw [zup_na (by omega)]; exact h9) (by rw [zup_na (by omega)]; exact h11) (by rw [zup_na (by omega)]; exact h12) (by show -1000 < itN x ∧ itN x < 1000; omega) (zFR_up zFR_rf (by omega) (by omega)) (fun m' g => ?_)
      · show (if itL x = -2 ∨ v = -2 then _ else if itE x = -2 then _ else _) = (if itL x = -2 ∨ itM x = -2 then _ else if itE x = -2 then _ else _)
        by_cases hq : itL x = -2
        · rw [if_pos (Or.inl hq), if_pos (Or.inl hq)]
        · rw [if_neg (show ¬ (itL x = -2 ∨ v = -2) from fun q => q.elim hq hv), if_neg (show ¬ (itL x = -2 ∨ itM x = -2) from fun q => q.elim hq hv0)]
          rfl
      · show (if itL x = -2 ∧ v = -2 then _ else _) = (if itL x = -2 ∧ itM x = -2 then _ else _)
        rw [if_neg (fun q => hv q.2), if_neg (fun q => hv0 q.2)]
      · simp only [s27_0, s27_1, s27_4, s27_5, s27_6, s27_7, s27_8, s27_11, s27_14, s27_15, s27_16, s27_19, s27_22, s27_23, s27_25, s27_26, s27_29, s27_30, s27_33, s27_35, s27_37, s27_38, s27_41, s27_42, s27_45, s27_46, s27_48, s27_49, s27_50, s27_53, s27_54, s27_55, s27_56, s27_57, s27_58, s27_61, s27_62, s27_64, s27_67, s27_68, s27_71, s27_72, s27_73, s27_76, s27_77, s27_80, s27_81, s27_84, s27_85, s27_88, s27_89, s27_90, s27_93, s27_96, s27_98, s27_100, s27_102, s27_105, s27_106, s27_109, s27_110, s27_111, s27_114, s27_115, s27_118, s27_119, s27_120, s27_123, s27_124, s27_125, s27_127, s27_129, s27_131, s27_132, s27_135, s27_136, s27_139, s27_140, s27_143, s27_145, s27_146, s27_149, s27_150, s27_153, s27_154, s27_157, s27_158, s27_159, s27_160, s27_163, s27_165, s27_167, s27_169, s27_172, s27_173, s27_176, s27_177, s27_179, s27_180, s27_181, s27_182, s27_185, s27_186, s27_187, s27_189, s27_191, s27_193, s27_194, s27_197, Int.toNat_natCast, true_and, and_true, true_or, or_true, false_or, or_false, zwr_id, zpu_some, zpu_none, reduceIte, Int.reduceLE, Int.reduceLT, Int.reduceEq, Int.reduceNeg, Int.reduceAdd, Int.reduceSub, Int.reduceMul, Int.reduceToNat, Nat.reduceAdd, Nat.reduceLeDiff, Nat.reduceEqDiff, Nat.reduceLT, eq_self, ne_eq, not_false_eq_true, not_true_eq_false]
        exact k m' g
    by_cases hl2 : itL x = -2
    · have hso : itSo x = 2 := by unfold itSo; rw [if_neg (fun q => q hO), if_pos hl2]
      simp (disch := omega) only [s27_0, s27_1, s27_4, s27_5, s27_6, s27_7, s27_8, s27_11, s27_14, s27_15, s27_16, s27_19, s27_22, s27_23, s27_25, s27_26, s27_29, s27_30, s27_33, s27_35, s27_37, s27_38, s27_41, s27_42, s27_45, s27_46, s27_48, s27_49, s27_50, s27_53, s27_54, s27_55, s27_56, s27_57, s27_58, s27_61, s27_62, s27_64, s27_67, s27_68, s27_71, s27_72, s27_73, s27_76, s27_77, s27_80, s27_81, s27_84, s27_85, s27_88, s27_89, s27_90, s27_93, s27_96, s27_98, s27_100, s27_102, s27_105, s27_106, s27_109, s27_110, s27_111, s27_114, s27_115, s27_118, s27_119, s27_120, s27_123, s27_124, s27_125, s27_127, s27_129, s27_131, s27_132, s27_135, s27_136, s27_139, s27_140, s27_143, s27_145, s27_146, s27_149, s27_150, s27_153, s27_154, s27_157, s27_158, s27_159, s27_160, s27_163, s27_165, s27_167, s27_169, s27_172, s27_173, s27_176, s27_177, s27_179, s27_180, s27_181, s27_182, s27_185, s27_186, s27_187, s27_189, s27_191, s27_193, s27_194, s27_197, Int.toNat_natCast, true_and, and_true, true_or, or_true, false_or, or_false, zwr_id, zpu_some, zpu_none, reduceIte, Int.reduceLE, Int.reduceLT, Int.reduceEq, Int.reduceNeg, Int.reduceAdd, Int.reduceSub, Int.reduceMul, Int.reduceToNat, Nat.reduceAdd, Nat.reduceLeDiff, Nat.reduceEqDiff, Nat.reduceLT, eq_self, ne_eq, not_false_eq_true, not_true_eq_false, r1, h12, i0, x2, b1, b2, t2, t3, n2, n3, y2, y3, c1, c8, f1, x_num pM hc, x_with pM, hsort, wM c _ hc, hso]
      have hx2 : itE x = -2 := Classical.byContradiction fun q => (w3 q).1 hl2
      refine ⟨by omega, ?_⟩
      by_cases h0 : pVp P (itM x) c = -2
      · have ek : kVow P c s = kVnew P c s := by unfold kVow; rw [hs]; dsimp only; rw [if_neg (fun q => q.1 hl2), if_neg (fun q => q hx2), if_pos h0]
        rw [ek] at k
        rw [if_pos h0]
        exact vn k
      · have ek : kVow P c s = kJoin s (itL x, pVp P (itM x) c, itE x, itK x, itF x, itN x + 1) 1 := by unfold kVow; rw [hs]; dsimp only; rw [if_neg (fun q => q.1 hl2), if_neg (fun q => q hx2), if_neg h0]
        rw [ek] at k
        rw [if_neg h0]
        exact ⟨by omega, jn _ h0 (fun q => w1 ⟨hl2, q⟩) k⟩
    · by_cases hm2 : itM x = -2
      · have hso : itSo x = 1 := by unfold itSo; rw [if_neg (fun q => q hO), if_neg hl2, if_pos hm2]
        simp (disch := omega) only [s27_0, s27_1, s27_4, s27_5, s27_6, s27_7, s27_8, s27_11, s27_14, s27_15, s27_16, s27_19, s27_22, s27_23, s27_25, s27_26, s27_29, s27_30, s27_33, s27_35, s27_37, s27_38, s27_41, s27_42, s27_45, s27_46, s27_48, s27_49, s27_50, s27_53, s27_54, s27_55, s27_56, s27_57, s27_58, s27_61, s27_62, s27_64, s27_67, s27_68, s27_71, s27_72, s27_73, s27_76, s27_77, s27_80, s27_81, s27_84, s27_85, s27_88, s27_89, s27_90, s27_93, s27_96, s27_98, s27_100, s27_102, s27_105, s27_106, s27_109, s27_110, s27_111, s27_114, s27_115, s27_118, s27_119, s27_120, s27_123, s27_124, s27_125, s27_127, s27_129, s27_131, s27_132, s27_135, s27_136, s27_139, s27_140, s27_143, s27_145, s27_146, s27_149, s27_150, s27_153, s27_154, s27_157, s27_158, s27_159, s27_160, s27_163, s27_165, s27_167, s27_169, s27_172, s27_173, s27_176, s27_177, s27_179, s27_180, s27_181, s27_182, s27_185, s27_186, s27_187, s27_189, s27_191, s27_193, s27_194, s27_197, Int.toNat_natCast, true_and, and_true, true_or, or_true, false_or, or_false, zwr_id, zpu_some, zpu_none, reduceIte, Int.reduceLE, Int.reduceLT, Int.reduceEq, Int.reduceNeg, Int.reduceAdd, Int.reduceSub, Int.reduceMul, Int.reduceToNat, Nat.reduceAdd, Nat.reduceLeDiff, Nat.reduceEqDiff, Nat.reduceLT, eq_self, ne_eq, not_false_eq_true, not_true_eq_false, r1, h12, i0, x2, b1, b2, t2, t3, n2, n3, y2, y3, c1, c8, f1, x_num pM hc, x_with pM, hsort, wM c _ hc, hso, zup_na]
        have hx2 : itE x = -2 := Classical.byContradiction fun q => (w3 q).2 hm2
        refine ⟨by omega, by omega, ?_⟩
        have ek : kVow P c s = kJoin s (itL x, pMo P c, itE x, itK x, itF x, itN x + 1) 1 := by unfold kVow; rw [hs]; dsimp only; rw [if_pos ⟨hl2, hm2⟩]
        rw [ek] at k
        refine c_jn (m := m) (s := s) (x := (itL x, pMo P c, itE x, itK x, itF x, itN x)) (zRL_up (by omega) (zRL_up (by omega) hR)) (zRI_mid hI2 rfl rfl rfl rfl ?_ ?_) (zRP_up (by omega) (by omega) (zRP_up (by omega) (by omega) hP)) hp (by rw [zup_na (by omega), zup_na (by omega)]; exact h9) (by rw [zup_na (by omega), zup_na (by omega)]; exact h11) (by rw [zup_na (by omega), zup_na (by omega)]; exact h12) (by show -1000 < itN x ∧ itN x < 1000; omega) (zFR_up (zFR_up zFR_rf (by omega) (by omega)) (by omega) (by omega)) (fun m' g => ?_)
        · show (if itL x = -2 ∨ pMo P c = -2 then _ else if itE x = -2 then _ else _) = 0
          rw [if_neg (fun q => q.elim hl2 hm), if_pos hx2]
        · show (if itL x = -2 ∧ pMo P c = -2 then _ else _) = itO x
          rw [if_neg (fun q => hl2 q.1), hO]
        · simp only [s27_0, s27_1, s27_4, s27_5, s27_6, s27_7, s27_8, s27_11, s27_14, s27_15, s27_16, s27_19, s27_22, s27_23, s27_25, s27_26, s27_29, s27_30, s27_33, s27_35, s27_37, s27_38, s27_41, s27_42, s27_45, s27_46, s27_48, s27_49, s27_50, s27_53, s27_54, s27_55, s27_56, s27_57, s27_58, s27_61, s27_62, s27_64, s27_67, s27_68, s27_71, s27_72, s27_73, s27_76, s27_77, s27_80, s27_81, s27_84, s27_85, s27_88, s27_89, s27_90, s27_93, s27_96, s27_98, s27_100, s27_102, s27_105, s27_106, s27_109, s27_110, s27_111, s27_114, s27_115, s27_118, s27_119, s27_120, s27_123, s27_124, s27_125, s27_127, s27_129, s27_131, s27_132, s27_135, s27_136, s27_139, s27_140, s27_143, s27_145, s27_146, s27_149, s27_150, s27_153, s27_154, s27_157, s27_158, s27_159, s27_160, s27_163, s27_165, s27_167, s27_169, s27_172, s27_173, s27_176, s27_177, s27_179, s27_180, s27_181, s27_182, s27_185, s27_186, s27_187, s27_189, s27_191, s27_193, s27_194, s27_197, Int.toNat_natCast, true_and, and_true, true_or, or_true, false_or, or_false, zwr_id, zpu_some, zpu_none, reduceIte, Int.reduceLE, Int.reduceLT, Int.reduceEq, Int.reduceNeg, Int.reduceAdd, Int.reduceSub, Int.reduceMul, Int.reduceToNat, Nat.reduceAdd, Nat.reduceLeDiff, Nat.reduceEqDiff, Nat.reduceLT, eq_self, ne_eq, not_false_eq_true, not_true_eq_false]
          exact k m' g
      · have hso : itSo x = 0 := by unfold itSo; rw [if_neg (fun q => q hO), if_neg hl2, if_neg hm2]
        have hCx : itC x = if itE x = -2 then 0 else itE x := by unfold itC; rw [if_neg (fun q => q.elim hl2 hm2)]
        by_cases he : itE x = -2
        · rw [hCx, if_pos he] at y3
          simp (disch := omega) only [s27_0, s27_1, s27_4, s27_5, s27_6, s27_7, s27_8, s27_11, s27_14, s27_15, s27_16, s27_19, s27_22, s27_23, s27_25, s27_26, s27_29, s27_30, s27_33, s27_35, s27_37, s27_38, s27_41, s27_42, s27_45, s27_46, s27_48, s27_49, s27_50, s27_53, s27_54, s27_55, s27_56, s27_57, s27_58, s27_61, s27_62, s27_64, s27_67, s27_68, s27_71, s27_72, s27_73, s27_76, s27_77, s27_80, s27_81, s27_84, s27_85, s27_88, s27_89, s27_90, s27_93, s27_96, s27_98, s27_100, s27_102, s27_105, s27_106, s27_109, s27_110, s27_111, s27_114, s27_115, s27_118, s27_119, s27_120, s27_123, s27_124, s27_125, s27_127, s27_129, s27_131, s27_132, s27_135, s27_136, s27_139, s27_140, s27_143, s27_145, s27_146, s27_149, s27_150, s27_153, s27_154, s27_157, s27_158, s27_159, s27_160, s27_163, s27_165, s27_167, s27_169, s27_172, s27_173, s27_176, s27_177, s27_179, s27_180, s27_181, s27_182, s27_185, s27_186, s27_187, s27_189, s27_191, s27_193, s27_194, s27_197, Int.toNat_natCast, true_and, and_true, true_or, or_true, false_or, or_false, zwr_id, zpu_some, zpu_none, reduceIte, Int.reduceLE, Int.reduceLT, Int.reduceEq, Int.reduceNeg, Int.reduceAdd, Int.reduceSub, Int.reduceMul, Int.reduceToNat, Nat.reduceAdd, Nat.reduceLeDiff, Nat.reduceEqDiff, Nat.reduceLT, eq_self, ne_eq, not_false_eq_true, not_true_eq_false, r1, h12, i0, x2, b1, b2, t2, t3, n2, n3, y2, y3, c1, c8, f1, x_num pM hc, x_with pM, hsort, wM c _ hc, hso]
          refine ⟨by omega, by omega, ?_⟩
          by_cases h0 : pVp P (itM x) c = -2
          · have ek : kVow P c s = kVnew P c s := by unfold kVow; rw [hs]; dsimp only; rw [if_neg (fun q => hm2 q.2), if_neg (fun q => q he), if_pos h0]
            rw [ek] at k
            rw [if_pos h0]
            exact vn k
          · have ek : kVow P c s = kJoin s (itL x, pVp P (itM x) c, itE x, itK x, itF x, itN x + 1) 1 := by unfold kVow; rw [hs]; dsimp only; rw [if_neg (fun q => hm2 q.2), if_neg (fun q => q he), if_neg h0]
            rw [ek] at k
            rw [if_neg h0]
            exact ⟨by omega, jn _ h0 hm2 k⟩
        · obtain ⟨xe, hxe⟩ : ∃ xe : Nat, itE x = (xe : Int) := ⟨(itE x).toNat, by omega⟩
          rw [hCx, if_neg he, hxe] at y3
          simp (disch := omega) only [s27_0, s27_1, s27_4, s27_5, s27_6, s27_7, s27_8, s27_11, s27_14, s27_15, s27_16, s27_19, s27_22, s27_23, s27_25, s27_26, s27_29, s27_30, s27_33, s27_35, s27_37, s27_38, s27_41, s27_42, s27_45, s27_46, s27_48, s27_49, s27_50, s27_53, s27_54, s27_55, s27_56, s27_57, s27_58, s27_61, s27_62, s27_64, s27_67, s27_68, s27_71, s27_72, s27_73, s27_76, s27_77, s27_80, s27_81, s27_84, s27_85, s27_88, s27_89, s27_90, s27_93, s27_96, s27_98, s27_100, s27_102, s27_105, s27_106, s27_109, s27_110, s27_111, s27_114, s27_115, s27_118, s27_119, s27_120, s27_123, s27_124, s27_125, s27_127, s27_129, s27_131, s27_132, s27_135, s27_136, s27_139, s27_140, s27_143, s27_145, s27_146, s27_149, s27_150, s27_153, s27_154, s27_157, s27_158, s27_159, s27_160, s27_163, s27_165, s27_167, s27_169, s27_172, s27_173, s27_176, s27_177, s27_179, s27_180, s27_181, s27_182, s27_185, s27_186, s27_187, s27_189, s27_191, s27_193, s27_194, s27_197, Int.toNat_natCast, true_and, and_true, true_or, or_true, false_or, or_false, zwr_id, zpu_some, zpu_none, reduceIte, Int.reduceLE, Int.reduceLT, Int.reduceEq, Int.reduceNeg, Int.reduceAdd, Int.reduceSub, Int.reduceMul, Int.reduceToNat, Nat.reduceAdd, Nat.reduceLeDiff, Nat.reduceEqDiff, Nat.reduceLT, eq_self, ne_eq, not_false_eq_true, not_true_eq_false, r1, h12, i0, x2, b1, b2, t2, t3, n2, n3, y2, y3, c1, c7, c8, c9, d1, e1, f1, x_num pM hc, x_with pM, hsort, wM c _ hc, hso]
          have hxe0 : 0 < xe := by omega
          obtain ⟨eF, nF, pF, hN, hlast⟩ := hSE
          have hxl : xe < eF.length := by have := hE x hs; omega
          obtain ⟨q1, q2, q3, q4⟩ := hlast xe hxl hxe0
          rw [if_neg (by omega)]
          refine ⟨by omega, by omega, ?_⟩
          rw [x_late pF hxl, q1]
          have y3' : m (o + 3) s.1.length = (xe : Int) := y3
          have hpe : pCu P (xe : Int) = -2 ∨ 0 < pCu P (xe : Int) := by
            by_cases hn : xe < nF
            · exact Or.inl (q3 hn)
            · obtain ⟨_, _, _, _, z⟩ := q4 (by omega)
              exact Or.inr z
          have hwo : ∀ {Q : zQ}, zwp 18 0 [zA (sc + 22), zI (xe : Int)] [] L m Q ↔ Q (some (zI (if pCu P (xe : Int) = -2 then 0 else pCu P (xe : Int)))) L m := fun {Q} => by
            by_cases hn : xe < nF
            · rw [x_wo0 pF hn, if_pos (q3 hn)]
            · obtain ⟨kk, z1, z2, z3, z4⟩ := q4 (by omega)
              rw [x_wo1 pF hxl (by omega) z1 z2, if_neg (by omega), z3]
          simp (disch := omega) only [s27_0, s27_1, s27_4, s27_5, s27_6, s27_7, s27_8, s27_11, s27_14, s27_15, s27_16, s27_19, s27_22, s27_23, s27_25, s27_26, s27_29, s27_30, s27_33, s27_35, s27_37, s27_38, s27_41, s27_42, s27_45, s27_46, s27_48, s27_49, s27_50, s27_53, s27_54, s27_55, s27_56, s27_57, s27_58, s27_61, s27_62, s27_64, s27_67, s27_68, s27_71, s27_72, s27_73, s27_76, s27_77, s27_80, s27_81, s27_84, s27_85, s27_88, s27_89, s27_90, s27_93, s27_96, s27_98, s27_100, s27_102, s27_105, s27_106, s27_109, s27_110, s27_111, s27_114, s27_115, s27_118, s27_119, s27_120, s27_123, s27_124, s27_125, s27_127, s27_129, s27_131, s27_132, s27_135, s27_136, s27_139, s27_140, s27_143, s27_145, s27_146, s27_149, s27_150, s27_153, s27_154, s27_157, s27_158, s27_159, s27_160, s27_163, s27_165, s27_167, s27_169, s27_172, s27_173, s27_176, s27_177, s27_179, s27_180, s27_181, s27_182, s27_185, s27_186, s27_187, s27_189, s27_191, s27_193, s27_194, s27_197, Int.toNat_natCast, true_and, and_true, true_or, or_true, false_or, or_false, zwr_id, zpu_some, zpu_none, reduceIte, Int.reduceLE, Int.reduceLT, Int.reduceEq, Int.reduceNeg, Int.reduceAdd, Int.reduceSub, Int.reduceMul, Int.reduceToNat, Nat.reduceAdd, Nat.reduceLeDiff, Nat.reduceEqDiff, Nat.reduceLT, eq_self, ne_eq, not_false_eq_true, not_true_eq_false, x_num pL q2, d1, r1, c1, c9, e1, b2, t3, n3, y3', hwo, true_and]
          by_cases hl0 : pLo P (pLa P (xe : Int)) = -2
          · have ek : kVow P c s = kVnew P c s := by unfold kVow; rw [hs]; dsimp only; rw [if_neg (fun q => hm2 q.2), if_pos he, hxe, if_pos hl0]
            rw [ek] at k
            rw [if_pos hl0]
            exact vn k
          · have ek : kVow P c s = kSteal P c s x := by unfold kVow; rw [hs]; dsimp only; rw [if_neg (fun q => hm2 q.2), if_pos he, hxe, if_neg hl0]
            rw [ek] at k
            rw [if_neg hl0]
            refine ⟨by omega, by omega, ?_⟩
            have hpl : s.2.2.1 = s.2.2.1.dropLast ++ [s.2.2.1.getLast w4] := (List.dropLast_concat_getLast w4).symm
            have hdl : s.2.2.1.dropLast.length + 1 = s.2.2.1.length := by
              have := congrArg List.length hpl
              rw [List.length_append] at this
              exact this.symm
            have hwl := hw.1
            rw [msI_some hs, hlen] at hwl
            have hst := hw.2.1
            have hst2 := hw.2.2.1
            refine c_begin (its := s.1 ++ [(itL x, itM x, pCu P (xe : Int), itK x, itF x, itN x)]) (pl := s.2.2.1) (zRL_up (by omega) hR) (zRI_set hI2 rfl rfl (Or.inr (Or.inr ⟨rfl, rfl, rfl, ?_, ?_⟩))) (zRP_up (by omega) (by omega) hP) (by rw [List.length_append]; show s.1.length + 1 < 80; omega) hp (Or.inl ⟨rfl, fun q => hl0 q.1⟩) (fun m1 g1 g2 g3 g4 g5 g6 g7 g8 g9 => ?_)
            · show (if itL x = -2 ∨ itM x = -2 then _ else if pCu P (xe : Int) = -2 then _ else _) = _
              rw [if_neg (fun q => q.elim hl2 hm2)]
              rfl
            · rfl
            · simp only [s27_0, s27_1, s27_4, s27_5, s27_6, s27_7, s27_8, s27_11, s27_14, s27_15, s27_16, s27_19, s27_22, s27_23, s27_25, s27_26, s27_29, s27_30, s27_33, s27_35, s27_37, s27_38, s27_41, s27_42, s27_45, s27_46, s27_48, s27_49, s27_50, s27_53, s27_54, s27_55, s27_56, s27_57, s27_58, s27_61, s27_62, s27_64, s27_67, s27_68, s27_71, s27_72, s27_73, s27_76, s27_77, s27_80, s27_81, s27_84, s27_85, s27_88, s27_89, s27_90, s27_93, s27_96, s27_98, s27_100, s27_102, s27_105, s27_106, s27_109, s27_110, s27_111, s27_114, s27_115, s27_118, s27_119, s27_120, s27_123, s27_124, s27_125, s27_127, s27_129, s27_131, s27_132, s27_135, s27_136, s27_139, s27_140, s27_143, s27_145, s27_146, s27_149, s27_150, s27_153, s27_154, s27_157, s27_158, s27_159, s27_160, s27_163, s27_165, s27_167, s27_169, s27_172, s27_173, s27_176, s27_177, s27_179, s27_180, s27_181, s27_182, s27_185, s27_186, s27_187, s27_189, s27_191, s27_193, s27_194, s27_197, Int.toNat_natCast, true_and, and_true, true_or, or_true, false_or, or_false, zwr_id, zpu_some, zpu_none, reduceIte, Int.reduceLE, Int.reduceLT, Int.reduceEq, Int.reduceNeg, Int.reduceAdd, Int.reduceSub, Int.reduceMul, Int.reduceToNat, Nat.reduceAdd, Nat.reduceLeDiff, Nat.reduceEqDiff, Nat.reduceLT, eq_self, ne_eq, not_false_eq_true, not_true_eq_false]
              rw [hpl] at g3
              have g2' := zRI_key (k2 := (pLa P (xe : Int) : Int)) (hn := fun q => hl0 q.1) g2
              refine ⟨r1, c_steal g1 g2' g3 (by show -1000 < itN x ∧ itN x < 1000 ∧ (-1000 : Int) < 1 ∧ (1 : Int) < 1000; omega) (by rw [g8, zup_na (by omega), h11]; omega) (fun m' e1 e2 e3 e4 e5 e6 e7 => ?_)⟩
              simp only [s27_0, s27_1, s27_4, s27_5, s27_6, s27_7, s27_8, s27_11, s27_14, s27_15, s27_16, s27_19, s27_22, s27_23, s27_25, s27_26, s27_29, s27_30, s27_33, s27_35, s27_37, s27_38, s27_41, s27_42, s27_45, s27_46, s27_48, s27_49, s27_50, s27_53, s27_54, s27_55, s27_56, s27_57, s27_58, s27_61, s27_62, s27_64, s27_67, s27_68, s27_71, s27_72, s27_73, s27_76, s27_77, s27_80, s27_81, s27_84, s27_85, s27_88, s27_89, s27_90, s27_93, s27_96, s27_98, s27_100, s27_102, s27_105, s27_106, s27_109, s27_110, s27_111, s27_114, s27_115, s27_118, s27_119, s27_120, s27_123, s27_124, s27_125, s27_127, s27_129, s27_131, s27_132, s27_135, s27_136, s27_139, s27_140, s27_143, s27_145, s27_146, s27_149, s27_150, s27_153, s27_154, s27_157, s27_158, s27_159, s27_160, s27_163, s27_165, s27_167, s27_169, s27_172, s27_173, s27_176, s27_177, s27_179, s27_180, s27_181, s27_182, s27_185, s27_186, s27_187, s27_189, s27_191, s27_193, s27_194, s27_197, Int.toNat_natCast, true_and, and_true, true_or, or_true, false_or, or_false, zwr_id, zpu_some, zpu_none, reduceIte, Int.reduceLE, Int.reduceLT, Int.reduceEq, Int.reduceNeg, Int.reduceAdd, Int.reduceSub, Int.reduceMul, Int.reduceToNat, Nat.reduceAdd, Nat.reduceLeDiff, Nat.reduceEqDiff, Nat.reduceLT, eq_self, ne_eq, not_false_eq_true, not_true_eq_false]
              refine k m' ⟨e1, ?_, ⟨s.2.2.1.dropLast ++ [((s.1.length : Int) + 1, 0, 1)], ((s.1.length : Int) + 1, 1, 0), rfl, e3, ?_, ?_, ?_⟩, ?_, ?_, ?_⟩
              · rw [msI_some (s := kSteal P c s x) rfl]
                unfold kSteal
                rw [hxe]
                have : (s.2.2.1.dropLast.length : Int) = (s.2.2.1.length : Int) - 1 := by omega
                rw [this] at e2
                exact e2
              · have hj : (s.2.2.1.dropLast ++ [((s.1.length : Int) + 1, (0 : Int), (1 : Int))]).length = s.2.2.1.length := by rw [List.length_append]; exact hdl
                rw [hj, (e6 _ (by omega)).1, g4, List.length_append]
                rfl
              · have hj : (s.2.2.1.dropLast ++ [((s.1.length : Int) + 1, (0 : Int), (1 : Int))]).length = s.2.2.1.length := by rw [List.length_append]; exact hdl
                rw [hj, (e6 _ (by omega)).2.1, g5]
              · have hj : (s.2.2.1.dropLast ++ [((s.1.length : Int) + 1, (0 : Int), (1 : Int))]).length = s.2.2.1.length := by rw [List.length_append]; exact hdl
                rw [hj, (e6 _ (by omega)).2.2, g6, zup_na (by omega)]
                exact h9
              · rw [e4, g8, zup_na (by omega), h11]
                rfl
              · rw [e5, g7, if_pos rfl]
                rfl
              · exact zFR_tr (zFR_tr (zFR_up zFR_rf (by omega) (by omega)) g9) e7
