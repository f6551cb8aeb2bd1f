/-- a part's KEYS, of which the second may be wanting -/
def rKs (a b : Int) : List Int := (a + 97) :: if b = -1 then [] else [b + 97]
theorem c_spM {L : zY} {m : zM} {Q : zQ} {D : zD} {x l e : Int} {mid : Nat} {a b : Int} {A : List Int} {l6 : zV} (ht : zMt L) (hn : zMn L) (hp : zMp m) (hm : mid < 16) (ha : m 346 (2 * mid) = a) (hb : m 346 (2 * mid + 1) = b) (ra : 0 ≤ a ∧ a < 26) (rb : b = -1 ∨ (0 ≤ b ∧ b < 26)) (hA : zAL m 363 0 A) (hl : A.length ≤ 2) (k : ∀ m', zAL m' 363 0 (A ++ rKs a b) → (∀ c, c ≠ 363 → m' c = m c) → zwp 214 142 [zA 332, zI x, zI l, zI (mid : Int), zI e, zI ((A ++ rKs a b).length : Int), zI 2] [] L m' Q) : zwp 214 88 [zA 332, zI x, zI l, zI (mid : Int), zI e, zI (A.length : Int), l6] [] L m Q := by
  have t0 := mt332 ht
  have q29 : m 332 29 = ((346 : Nat) : Int) := mp29 hp
  have q52 : m 332 52 = ((363 : Nat) : Int) := mp52 hp
  have hr1 : 0 ≤ ((2 * mid : Nat) : Int) ∧ ((2 * mid : Nat) : Int) < ((32 : Nat) : Int) := by omega
  have hr2 : 0 ≤ ((2 * mid + 1 : Nat) : Int) ∧ ((2 * mid + 1 : Nat) : Int) < ((32 : Nat) : Int) := by omega
  have hr3 : 0 ≤ (A.length : Int) ∧ (A.length : Int) < ((6 : Nat) : Int) := by omega
  have hr4 : 0 ≤ ((A.length + 1 : Nat) : Int) ∧ ((A.length + 1 : Nat) : Int) < ((6 : Nat) : Int) := by omega
  have na : ¬ a = -1 := by omega
  have p1 := zAL_push (x := a + 97) hA
  rw [Nat.zero_add] at p1
  have e1 : (A ++ [a + 97]).length = A.length + 1 := by rw [List.length_append]; rfl
  rcases rb with rb | rb
  · have ek : A ++ rKs a b = A ++ [a + 97] := by unfold rKs; rw [if_pos rb]
    rw [ek, e1] at k
    rw [rb] at hb
    simp only [s214_88, s214_89]
    simp only [s214_91]
    simp only [s214_93, s214_94, s214_97, s214_98, s214_101, s214_102, s214_103, s214_104, s214_106, s214_107, s214_108, s214_109, s214_112, s214_113, s214_116, s214_118, s214_119, s214_122, s214_123, s214_124, s214_125, s214_127, s214_128, s214_129, s214_131, s214_132, s214_133, s214_136, s214_139, Int.toNat_natCast, true_and, and_true, true_or, or_true, false_or, or_false, zwr_id, zpu_some, zpu_none, reduceIte, Int.reduceLE, Int.reduceLT, Int.reduceEq, Int.reduceNeg, Int.reduceAdd, Int.reduceSub, Int.reduceMul, Int.reduceToNat, Nat.reduceAdd, Nat.reduceLeDiff, Nat.reduceEqDiff, Nat.reduceLT, eq_self, ne_eq, not_false_eq_true, not_true_eq_false, Int.reduceLT, t0, q29, q52, mt346 ht, mn346 hn, mt363 ht, mn363 hn, hr1, hr2, hr3, and_self, (show zwr (2 * (mid : Int)) = ((2 * mid : Nat) : Int) from zwn (by omega) (by omega)), (show zwr (((2 * mid : Nat) : Int) + 0) = ((2 * mid : Nat) : Int) from zwn (by omega) (by omega)), (show zwr (((2 * mid : Nat) : Int) + 1) = ((2 * mid + 1 : Nat) : Int) from zwn (by omega) (by omega)), (show zwr (a + 97) = a + 97 from zwr_id (by omega) (by omega)), (show zwr ((A.length : Int) + 1) = ((A.length + 1 : Nat) : Int) from zwn (by omega) (by omega)), (show zwr (0 + 1) = 1 from zwr_id (by decide) (by decide)), (show zwr (1 + 1) = 2 from zwr_id (by decide) (by decide)), ha, hb, na, zup_na (show (332 : Nat) ≠ 363 by decide), zup_na (show (346 : Nat) ≠ 363 by decide)]
    simp only [s214_91]
    simp only [s214_93, s214_94, s214_97, s214_98, s214_101, s214_102, s214_103, s214_104, s214_106, s214_107, s214_108, s214_109, s214_112, s214_113, s214_116, s214_118, s214_119, s214_122, s214_123, s214_124, s214_125, s214_127, s214_128, s214_129, s214_131, s214_132, s214_133, s214_136, s214_139, Int.toNat_natCast, true_and, and_true, true_or, or_true, false_or, or_false, zwr_id, zpu_some, zpu_none, reduceIte, Int.reduceLE, Int.reduceLT, Int.reduceEq, Int.reduceNeg, Int.reduceAdd, Int.reduceSub, Int.reduceMul, Int.reduceToNat, Nat.reduceAdd, Nat.reduceLeDiff, Nat.reduceEqDiff, Nat.reduceLT, eq_self, ne_eq, not_false_eq_true, not_true_eq_false, Int.reduceLT, t0, q29, q52, mt346 ht, mn346 hn, mt363 ht, mn363 hn, hr1, hr2, hr3, and_self, (show zwr (2 * (mid : Int)) = ((2 * mid : Nat) : Int) from zwn (by omega) (by omega)), (show zwr (((2 * mid : Nat) : Int) + 0) = ((2 * mid : Nat) : Int) from zwn (by omega) (by omega)), (show zwr (((2 * mid : Nat) : Int) + 1) = ((2 * mid + 1 : Nat) : Int) from zwn (by omega) (by omega)), (show zwr (a + 97) = a + 97 from zwr_id (by omega) (by omega)), (show zwr ((A.length : Int) + 1) = ((A.length + 1 : Nat) : Int) from zwn (by omega) (by omega)), (show zwr (0 + 1) = 1 from zwr_id (by decide) (by decide)), (show zwr (1 + 1) = 2 from zwr_id (by decide) (by decide)), ha, hb, na, zup_na (show (332 : Nat) ≠ 363 by decide), zup_na (show (346 : Nat) ≠ 363 by decide)]
    simp only [s214_91]
    simp only [s214_93, s214_94, s214_97, s214_98, s214_101, s214_102, s214_103, s214_104, s214_106, s214_107, s214_108, s214_109, s214_112, s214_113, s214_116, s214_118, s214_119, s214_122, s214_123, s214_124, s214_125, s214_127, s214_128, s214_129, s214_131, s214_132, s214_133, s214_136, s214_139, Int.toNat_natCast, true_and, and_true, true_or, or_true, false_or, or_false, zwr_id, zpu_some, zpu_none, reduceIte, Int.reduceLE, Int.reduceLT, Int.reduceEq, Int.reduceNeg, Int.reduceAdd, Int.reduceSub, Int.reduceMul, Int.reduceToNat, Nat.reduceAdd, Nat.reduceLeDiff, Nat.reduceEqDiff, Nat.reduceLT, eq_self, ne_eq, not_false_eq_true, not_true_eq_false, Int.reduceLT, t0, q29, q52, mt346 ht, mn346 hn, mt363 ht, mn363 hn, hr1, hr2, hr3, and_self, (show zwr (2 * (mid : Int)) = ((2 * mid : Nat) : Int) from zwn (by omega) (by omega)), (show zwr (((2 * mid : Nat) : Int) + 0) = ((2 * mid : Nat) : Int) from zwn (by omega) (by omega)), (show zwr (((2 * mid : Nat) : Int) + 1) = ((2 * mid + 1 : Nat) : Int) from zwn (by omega) (by omega)), (show zwr (a + 97) = a + 97 from zwr_id (by omega) (by omega)), (show zwr ((A.length : Int) + 1) = ((A.length + 1 : Nat) : Int) from zwn (by omega) (by omega)), (show zwr (0 + 1) = 1 from zwr_id (by decide) (by decide)), (show zwr (1 + 1) = 2 from zwr_id (by decide) (by decide)), ha, hb, na, zup_na (show (332 : Nat) ≠ 363 by decide), zup_na (show (346 : Nat) ≠ 363 by decide)]
    exact k _ p1 (fun c hc => zup_nf hc)
  · have nb : ¬ b = -1 := by omega
    have ek : A ++ rKs a b = A ++ [a + 97] ++ [b + 97] := by unfold rKs; rw [if_neg nb, List.append_assoc]; rfl
    have p2 := zAL_push (x := b + 97) p1
    rw [Nat.zero_add, e1] at p2
    have e2 : (A ++ [a + 97] ++ [b + 97]).length = A.length + 1 + 1 := by rw [List.length_append, e1]; rfl
    rw [ek, e2] at k
    simp only [s214_88, s214_89]
    simp only [s214_91]
    simp only [s214_93, s214_94, s214_97, s214_98, s214_101, s214_102, s214_103, s214_104, s214_106, s214_107, s214_108, s214_109, s214_112, s214_113, s214_116, s214_118, s214_119, s214_122, s214_123, s214_124, s214_125, s214_127, s214_128, s214_129, s214_131, s214_132, s214_133, s214_136, s214_139, Int.toNat_natCast, true_and, and_true, true_or, or_true, false_or, or_false, zwr_id, zpu_some, zpu_none, reduceIte, Int.reduceLE, Int.reduceLT, Int.reduceEq, Int.reduceNeg, Int.reduceAdd, Int.reduceSub, Int.reduceMul, Int.reduceToNat, Nat.reduceAdd, Nat.reduceLeDiff, Nat.reduceEqDiff, Nat.reduceLT, eq_self, ne_eq, not_false_eq_true, not_true_eq_false, Int.reduceLT, t0, q29, q52, mt346 ht, mn346 hn, mt363 ht, mn363 hn, hr1, hr2, hr3, hr4, and_self, (show zwr (2 * (mid : Int)) = ((2 * mid : Nat) : Int) from zwn (by omega) (by omega)), (show zwr (((2 * mid : Nat) : Int) + 0) = ((2 * mid : Nat) : Int) from zwn (by omega) (by omega)), (show zwr (((2 * mid : Nat) : Int) + 1) = ((2 * mid + 1 : Nat) : Int) from zwn (by omega) (by omega)), (show zwr (a + 97) = a + 97 from zwr_id (by omega) (by omega)), (show zwr ((A.length : Int) + 1) = ((A.length + 1 : Nat) : Int) from zwn (by omega) (by omega)), (show zwr (((A.length + 1 : Nat) : Int) + 1) = ((A.length + 1 + 1 : Nat) : Int) from zwn (by omega) (by omega)), (show zwr (0 + 1) = 1 from zwr_id (by decide) (by decide)), (show zwr (1 + 1) = 2 from zwr_id (by decide) (by decide)), (show zwr (b + 97) = b + 97 from zwr_id (by omega) (by omega)), ha, hb, na, nb, zup_na (show (332 : Nat) ≠ 363 by decide), zup_na (show (346 : Nat) ≠ 363 by decide)]
    simp only [s214_91]
    simp only [s214_93, s214_94, s214_97, s214_98, s214_101, s214_102, s214_103, s214_104, s214_106, s214_107, s214_108, s214_109, s214_112, s214_113, s214_116, s214_118, s214_119, s214_122, s214_123, s214_124, s214_125, s214_127, s214_128, s214_129, s214_131, s214_132, s214_133, s214_136, s214_139, Int.toNat_natCast, true_and, and_true, true_or, or_true, false_or, or_false, zwr_id, zpu_some, zpu_none, reduceIte, Int.reduceLE, Int.reduceLT, Int.reduceEq, Int.reduceNeg, Int.reduceAdd, Int.reduceSub, Int.reduceMul, Int.reduceToNat, Nat.reduceAdd, Nat.reduceLeDiff, Nat.reduceEqDiff, Nat.reduceLT, eq_self, ne_eq, not_false_eq_true, not_true_eq_false, Int.reduceLT, t0, q29, q52, mt346 ht, mn346 hn, mt363 ht, mn363 hn, hr1, hr2, hr3, hr4, and_self, (show zwr (2 * (mid : Int)) = ((2 * mid : Nat) : Int) from zwn (by omega) (by omega)), (show zwr (((2 * mid : Nat) : Int) + 0) = ((2 * mid : Nat) : Int) from zwn (by omega) (by omega)), (show zwr (((2 * mid : Nat) : Int) + 1) = ((2 * mid + 1 : Nat) : Int) from zwn (by omega) (by omega)), (show zwr (a + 97) = a + 97 from zwr_id (by omega) (by omega)), (show zwr ((A.length : Int) + 1) = ((A.length + 1 : Nat) : Int) from zwn (by omega) (by omega)), (show zwr (((A.length + 1 : Nat) : Int) + 1) = ((A.length + 1 + 1 : Nat) : Int) from zwn (by omega) (by omega)), (show zwr (0 + 1) = 1 from zwr_id (by decide) (by decide)), (show zwr (1 + 1) = 2 from zwr_id (by decide) (by decide)), (show zwr (b + 97) = b + 97 from zwr_id (by omega) (by omega)), ha, hb, na, nb, zup_na (show (332 : Nat) ≠ 363 by decide), zup_na (show (346 : Nat) ≠ 363 by decide)]
    simp only [s214_91]
    simp only [s214_93, s214_94, s214_97, s214_98, s214_101, s214_102, s214_103, s214_104, s214_106, s214_107, s214_108, s214_109, s214_112, s214_113, s214_116, s214_118, s214_119, s214_122, s214_123, s214_124, s214_125, s214_127, s214_128, s214_129, s214_131, s214_132, s214_133, s214_136, s214_139, Int.toNat_natCast, true_and, and_true, true_or, or_true, false_or, or_false, zwr_id, zpu_some, zpu_none, reduceIte, Int.reduceLE, Int.reduceLT, Int.reduceEq, Int.reduceNeg, Int.reduceAdd, Int.reduceSub, Int.reduceMul, Int.reduceToNat, Nat.reduceAdd, Nat.reduceLeDiff, Nat.reduceEqDiff, Nat.reduceLT, eq_self, ne_eq, not_false_eq_true, not_true_eq_false, Int.reduceLT, t0, q29, q52, mt346 ht, mn346 hn, mt363 ht, mn363 hn, hr1, hr2, hr3, hr4, and_self, (show zwr (2 * (mid : Int)) = ((2 * mid : Nat) : Int) from zwn (by omega) (by omega)), (show zwr (((2 * mid : Nat) : Int) + 0) = ((2 * mid : Nat) : Int) from zwn (by omega) (by omega)), (show zwr (((2 * mid : Nat) : Int) + 1) = ((2 * mid + 1 : Nat) : Int) from zwn (by omega) (by omega)), (show zwr (a + 97) = a + 97 from zwr_id (by omega) (by omega)), (show zwr ((A.length : Int) + 1) = ((A.length + 1 : Nat) : Int) from zwn (by omega) (by omega)), (show zwr (((A.length + 1 : Nat) : Int) + 1) = ((A.length + 1 + 1 : Nat) : Int) from zwn (by omega) (by omega)), (show zwr (0 + 1) = 1 from zwr_id (by decide) (by decide)), (show zwr (1 + 1) = 2 from zwr_id (by decide) (by decide)), (show zwr (b + 97) = b + 97 from zwr_id (by omega) (by omega)), ha, hb, na, nb, zup_na (show (332 : Nat) ≠ 363 by decide), zup_na (show (346 : Nat) ≠ 363 by decide)]
    exact k _ p2 (fun c hc => by rw [zup_nf hc, zup_nf hc])
theorem c_spE {L : zY} {m : zM} {Q : zQ} {D : zD} {x l mm : Int} {y : Nat} {a b : Int} {A : List Int} {l6 : zV} (ht : zMt L) (hn : zMn L) (hp : zMp m) (hm : y < 19) (h1 : 1 ≤ y) (ha : m 347 (2 * y) = a) (hb : m 347 (2 * y + 1) = b) (ra : 0 ≤ a ∧ a < 26) (rb : b = -1 ∨ (0 ≤ b ∧ b < 26)) (hA : zAL m 363 0 A) (hl : A.length ≤ 4) (k : ∀ m', zAL m' 363 0 (A ++ rKs a b) → (∀ c, c ≠ 363 → m' c = m c) → Q (some (zI ((A ++ rKs a b).length : Int))) L m') : zwp 214 142 [zA 332, zI x, zI l, zI mm, zI (y : Int), zI (A.length : Int), l6] [] L m Q := by
  have t0 := mt332 ht
  have q30 : m 332 30 = ((347 : Nat) : Int) := mp30 hp
  have q52 : m 332 52 = ((363 : Nat) : Int) := mp52 hp
  have n0 : ¬ (y : Int) ≤ 0 := by omega
  have hr1 : 0 ≤ ((2 * y : Nat) : Int) ∧ ((2 * y : Nat) : Int) < ((38 : Nat) : Int) := by omega
  have hr2 : 0 ≤ ((2 * y + 1 : Nat) : Int) ∧ ((2 * y + 1 : Nat) : Int) < ((38 : Nat) : Int) := by omega
  have hr3 : 0 ≤ (A.length : Int) ∧ (A.length : Int) < ((6 : Nat) : Int) := by omega
  have hr4 : 0 ≤ ((A.length + 1 : Nat) : Int) ∧ ((A.length + 1 : Nat) : Int) < ((6 : Nat) : Int) := by omega
  have na : ¬ a = -1 := by omega
  have p1 := zAL_push (x := a + 97) hA
  rw [Nat.zero_add] at p1
  have e1 : (A ++ [a + 97]).length = A.length + 1 := by rw [List.length_append]; rfl
  rcases rb with rb | rb
  · have ek : A ++ rKs a b = A ++ [a + 97] := by unfold rKs; rw [if_pos rb]
    rw [ek, e1] at k
    rw [rb] at hb
    simp only [s214_142, s214_143]
    simp only [s214_145]
    simp only [s214_147, s214_148, s214_151, s214_153, s214_156, s214_157, s214_160, s214_161, s214_163, s214_164, s214_166, s214_167, s214_168, s214_169, s214_172, s214_173, s214_176, s214_178, s214_179, s214_182, s214_183, s214_185, s214_186, s214_188, s214_189, s214_190, s214_192, s214_193, s214_194, s214_197, s214_200, s214_203, s214_205, Int.toNat_natCast, true_and, and_true, true_or, or_true, false_or, or_false, zwr_id, zpu_some, zpu_none, reduceIte, Int.reduceLE, Int.reduceLT, Int.reduceEq, Int.reduceNeg, Int.reduceAdd, Int.reduceSub, Int.reduceMul, Int.reduceToNat, Nat.reduceAdd, Nat.reduceLeDiff, Nat.reduceEqDiff, Nat.reduceLT, eq_self, ne_eq, not_false_eq_true, not_true_eq_false, Int.reduceLT, t0, n0, q30, q52, mt347 ht, mn347 hn, mt363 ht, mn363 hn, hr1, hr2, hr3, and_self, (show zwr (2 * (y : Int)) = ((2 * y : Nat) : Int) from zwn (by omega) (by omega)), (show zwr (((2 * y : Nat) : Int) + 0) = ((2 * y : Nat) : Int) from zwn (by omega) (by omega)), (show zwr (((2 * y : Nat) : Int) + 1) = ((2 * y + 1 : Nat) : Int) from zwn (by omega) (by omega)), (show zwr (a + 97) = a + 97 from zwr_id (by omega) (by omega)), (show zwr ((A.length : Int) + 1) = ((A.length + 1 : Nat) : Int) from zwn (by omega) (by omega)), (show zwr (0 + 1) = 1 from zwr_id (by decide) (by decide)), (show zwr (1 + 1) = 2 from zwr_id (by decide) (by decide)), ha, hb, na, zup_na (show (332 : Nat) ≠ 363 by decide), zup_na (show (347 : Nat) ≠ 363 by decide)]
    simp only [s214_145]
    simp only [s214_147, s214_148, s214_151, s214_153, s214_156, s214_157, s214_160, s214_161, s214_163, s214_164, s214_166, s214_167, s214_168, s214_169, s214_172, s214_173, s214_176, s214_178, s214_179, s214_182, s214_183, s214_185, s214_186, s214_188, s214_189, s214_190, s214_192, s214_193, s214_194, s214_197, s214_200, s214_203, s214_205, Int.toNat_natCast, true_and, and_true, true_or, or_true, false_or, or_false, zwr_id, zpu_some, zpu_none, reduceIte, Int.reduceLE, Int.reduceLT, Int.reduceEq, Int.reduceNeg, Int.reduceAdd, Int.reduceSub, Int.reduceMul, Int.reduceToNat, Nat.reduceAdd, Nat.reduceLeDiff, Nat.reduceEqDiff, Nat.reduceLT, eq_self, ne_eq, not_false_eq_true, not_true_eq_false, Int.reduceLT, t0, n0, q30, q52, mt347 ht, mn347 hn, mt363 ht, mn363 hn, hr1, hr2, hr3, and_self, (show zwr (2 * (y : Int)) = ((2 * y : Nat) : Int) from zwn (by omega) (by omega)), (show zwr (((2 * y : Nat) : Int) + 0) = ((2 * y : Nat) : Int) from zwn (by omega) (by omega)), (show zwr (((2 * y : Nat) : Int) + 1) = ((2 * y + 1 : Nat) : Int) from zwn (by omega) (by omega)), (show zwr (a + 97) = a + 97 from zwr_id (by omega) (by omega)), (show zwr ((A.length : Int) + 1) = ((A.length + 1 : Nat) : Int) from zwn (by omega) (by omega)), (show zwr (0 + 1) = 1 from zwr_id (by decide) (by decide)), (show zwr (1 + 1) = 2 from zwr_id (by decide) (by decide)), ha, hb, na, zup_na (show (332 : Nat) ≠ 363 by decide), zup_na (show (347 : Nat) ≠ 363 by decide)]
    simp only [s214_145]
    simp only [s214_147, s214_148, s214_151, s214_153, s214_156, s214_157, s214_160, s214_161, s214_163, s214_164, s214_166, s214_167, s214_168, s214_169, s214_172, s214_173, s214_176, s214_178, s214_179, s214_182, s214_183, s214_185, s214_186, s214_188, s214_189, s214_190, s214_192, s214_193, s214_194, s214_197, s214_200, s214_203, s214_205, Int.toNat_natCast, true_and, and_true, true_or, or_true, false_or, or_false, zwr_id, zpu_some, zpu_none, reduceIte, Int.reduceLE, Int.reduceLT, Int.reduceEq, Int.reduceNeg, Int.reduceAdd, Int.reduceSub, Int.reduceMul, Int.reduceToNat, Nat.reduceAdd, Nat.reduceLeDiff, Nat.reduceEqDiff, Nat.reduceLT, eq_self, ne_eq, not_false_eq_true, not_true_eq_false, Int.reduceLT, t0, n0, q30, q52, mt347 ht, mn347 hn, mt363 ht, mn363 hn, hr1, hr2, hr3, and_self, (show zwr (2 * (y : Int)) = ((2 * y : Nat) : Int) from zwn (by omega) (by omega)), (show zwr (((2 * y : Nat) : Int) + 0) = ((2 * y : Nat) : Int) from zwn (by omega) (by omega)), (show zwr (((2 * y : Nat) : Int) + 1) = ((2 * y + 1 : Nat) : Int) from zwn (by omega) (by omega)), (show zwr (a + 97) = a + 97 from zwr_id (by omega) (by omega)), (show zwr ((A.length : Int) + 1) = ((A.length + 1 : Nat) : Int) from zwn (by omega) (by omega)), (show zwr (0 + 1) = 1 from zwr_id (by decide) (by decide)), (show zwr (1 + 1) = 2 from zwr_id (by decide) (by decide)), ha, hb, na, zup_na (show (332 : Nat) ≠ 363 by decide), zup_na (show (347 : Nat) ≠ 363 by decide)]
    exact k _ p1 (fun c hc => zup_nf hc)
  · have nb : ¬ b = -1 := by omega
    have ek : A ++ rKs a b = A ++ [a + 97] ++ [b + 97] := by unfold rKs; rw [if_neg nb, List.append_assoc]; rfl
    have p2 := zAL_push (x := b + 97) p1
    rw [Nat.zero_add, e1] at p2
    have e2 : (A ++ [a + 97] ++ [b + 97]).length = A.length + 1 + 1 := by rw [List.length_append, e1]; rfl
    rw [ek, e2] at k
    simp only [s214_142, s214_143]
    simp only [s214_145]
    simp only [s214_147, s214_148, s214_151, s214_153, s214_156, s214_157, s214_160, s214_161, s214_163, s214_164, s214_166, s214_167, s214_168, s214_169, s214_172, s214_173, s214_176, s214_178, s214_179, s214_182, s214_183, s214_185, s214_186, s214_188, s214_189, s214_190, s214_192, s214_193, s214_194, s214_197, s214_200, s214_203, s214_205, Int.toNat_natCast, true_and, and_true, true_or, or_true, false_or, or_false, zwr_id, zpu_some, zpu_none, reduceIte, Int.reduceLE, Int.reduceLT, Int.reduceEq, Int.reduceNeg, Int.reduceAdd, Int.reduceSub, Int.reduceMul, Int.reduceToNat, Nat.reduceAdd, Nat.reduceLeDiff, Nat.reduceEqDiff, Nat.reduceLT, eq_self, ne_eq, not_false_eq_true, not_true_eq_false, Int.reduceLT, t0, n0, q30, q52, mt347 ht, mn347 hn, mt363 ht, mn363 hn, hr1, hr2, hr3, hr4, and_self, (show zwr (2 * (y : Int)) = ((2 * y : Nat) : Int) from zwn (by omega) (by omega)), (show zwr (((2 * y : Nat) : Int) + 0) = ((2 * y : Nat) : Int) from zwn (by omega) (by omega)), (show zwr (((2 * y : Nat) : Int) + 1) = ((2 * y + 1 : Nat) : Int) from zwn (by omega) (by omega)), (show zwr (a + 97) = a + 97 from zwr_id (by omega) (by omega)), (show zwr ((A.length : Int) + 1) = ((A.length + 1 : Nat) : Int) from zwn (by omega) (by omega)), (show zwr (((A.length + 1 : Nat) : Int) + 1) = ((A.length + 1 + 1 : Nat) : Int) from zwn (by omega) (by omega)), (show zwr (0 + 1) = 1 from zwr_id (by decide) (by decide)), (show zwr (1 + 1) = 2 from zwr_id (by decide) (by decide)), (show zwr (b + 97) = b + 97 from zwr_id (by omega) (by omega)), ha, hb, na, nb, zup_na (show (332 : Nat) ≠ 363 by decide), zup_na (show (347 : Nat) ≠ 363 by decide)]
    simp only [s214_145]
    simp only [s214_147, s214_148, s214_151, s214_153, s214_156, s214_157, s214_160, s214_161, s214_163, s214_164, s214_166, s214_167, s214_168, s214_169, s214_172, s214_173, s214_176, s214_178, s214_179, s214_182, s214_183, s214_185, s214_186, s214_188, s214_189, s214_190, s214_192, s214_193, s214_194, s214_197, s214_200, s214_203, s214_205, Int.toNat_natCast, true_and, and_true, true_or, or_true, false_or, or_false, zwr_id, zpu_some, zpu_none, reduceIte, Int.reduceLE, Int.reduceLT, Int.reduceEq, Int.reduceNeg, Int.reduceAdd, Int.reduceSub, Int.reduceMul, Int.reduceToNat, Nat.reduceAdd, Nat.reduceLeDiff, Nat.reduceEqDiff, Nat.reduceLT, eq_self, ne_eq, not_false_eq_true, not_true_eq_false, Int.reduceLT, t0, n0, q30, q52, mt347 ht, mn347 hn, mt363 ht, mn363 hn, hr1, hr2, hr3, hr4, and_self, (show zwr (2 * (y : Int)) = ((2 * y : Nat) : Int) from zwn (by omega) (by omega)), (show zwr (((2 * y : Nat) : Int) + 0) = ((2 * y : Nat) : Int) from zwn (by omega) (by omega)), (show zwr (((2 * y : Nat) : Int) + 1) = ((2 * y + 1 : Nat) : Int) from zwn (by omega) (by omega)), (show zwr (a + 97) = a + 97 from zwr_id (by omega) (by omega)), (show zwr ((A.length : Int) + 1) = ((A.length + 1 : Nat) : Int) from zwn (by omega) (by omega)), (show zwr (((A.length + 1 : Nat) : Int) + 1) = ((A.length + 1 + 1 : Nat) : Int) from zwn (by omega) (by omega)), (show zwr (0 + 1) = 1 from zwr_id (by decide) (by decide)), (show zwr (1 + 1) = 2 from zwr_id (by decide) (by decide)), (show zwr (b + 97) = b + 97 from zwr_id (by omega) (by omega)), ha, hb, na, nb, zup_na (show (332 : Nat) ≠ 363 by decide), zup_na (show (347 : Nat) ≠ 363 by decide)]
    simp only [s214_145]
    simp only [s214_147, s214_148, s214_151, s214_153, s214_156, s214_157, s214_160, s214_161, s214_163, s214_164, s214_166, s214_167, s214_168, s214_169, s214_172, s214_173, s214_176, s214_178, s214_179, s214_182, s214_183, s214_185, s214_186, s214_188, s214_189, s214_190, s214_192, s214_193, s214_194, s214_197, s214_200, s214_203, s214_205, Int.toNat_natCast, true_and, and_true, true_or, or_true, false_or, or_false, zwr_id, zpu_some, zpu_none, reduceIte, Int.reduceLE, Int.reduceLT, Int.reduceEq, Int.reduceNeg, Int.reduceAdd, Int.reduceSub, Int.reduceMul, Int.reduceToNat, Nat.reduceAdd, Nat.reduceLeDiff, Nat.reduceEqDiff, Nat.reduceLT, eq_self, ne_eq, not_false_eq_true, not_true_eq_false, Int.reduceLT, t0, n0, q30, q52, mt347 ht, mn347 hn, mt363 ht, mn363 hn, hr1, hr2, hr3, hr4, and_self, (show zwr (2 * (y : Int)) = ((2 * y : Nat) : Int) from zwn (by omega) (by omega)), (show zwr (((2 * y : Nat) : Int) + 0) = ((2 * y : Nat) : Int) from zwn (by omega) (by omega)), (show zwr (((2 * y : Nat) : Int) + 1) = ((2 * y + 1 : Nat) : Int) from zwn (by omega) (by omega)), (show zwr (a + 97) = a + 97 from zwr_id (by omega) (by omega)), (show zwr ((A.length : Int) + 1) = ((A.length + 1 : Nat) : Int) from zwn (by omega) (by omega)), (show zwr (((A.length + 1 : Nat) : Int) + 1) = ((A.length + 1 + 1 : Nat) : Int) from zwn (by omega) (by omega)), (show zwr (0 + 1) = 1 from zwr_id (by decide) (by decide)), (show zwr (1 + 1) = 2 from zwr_id (by decide) (by decide)), (show zwr (b + 97) = b + 97 from zwr_id (by omega) (by omega)), ha, hb, na, nb, zup_na (show (332 : Nat) ≠ 363 by decide), zup_na (show (347 : Nat) ≠ 363 by decide)]
    exact k _ p2 (fun c hc => by rw [zup_nf hc, zup_nf hc])
/-- the KEYS of a part, from the reference's tables -/
theorem rM_at {m : zM} {D : zD} {n : Nat} (hD : dOk D) (h : zA2 m 346 0 (rM D)) (hn : n < dnM D) : ∃ a b, m 346 (2 * n) = a ∧ m 346 (2 * n + 1) = b ∧ (0 ≤ a ∧ a < 26) ∧ (b = -1 ∨ (0 ≤ b ∧ b < 26)) ∧ kTw (dTM D) n = rKs a b := by
  have l : n < (rM D).length := by rw [rM_len]; exact hn
  have z := zA2_get h l
  rw [Nat.zero_add] at z
  refine ⟨_, _, z.1, z.2, ?_⟩
  have e : (rM D)[n] = (rM D).getD n (0, 0) := (getD_lt l).symm
  rw [e]
  rcases dTM_get hn with ⟨h1, h2⟩ | ⟨h1, h2, h3⟩
  · have e2 := (rM_get (D := D) (x := n) h1).2
    rw [e2, kTw_1 h2]
    have := (hD.1.2.1 _ (List.getElem_mem h1)).1
    refine ⟨?_, Or.inl rfl, ?_⟩
    · show 0 ≤ (((dV D)[n] : Nat) : Int) ∧ (((dV D)[n] : Nat) : Int) < 26
      omega
    · rfl
  · have e2 : (rM D).getD n (0, 0) = rk2 ((dPV D)[n - (dV D).length]) := by
      unfold rM
      rw [List.getD_eq_getElem?_getD, List.getElem?_append_right (by rw [List.length_map]; exact h2), List.length_map, List.getElem?_map, List.getElem?_eq_getElem h1]
      rfl
    have hm : (dPV D)[n - (dV D).length] ∈ dP D := (List.mem_filter.mp (List.getElem_mem h1)).1
    obtain ⟨b1, b2, -⟩ := hD.1.2.2.2.2 _ hm
    rw [e2, kTw_2 (a := (dPV D)[n - (dV D).length].1) (b := (dPV D)[n - (dV D).length].2) h3]
    generalize (dPV D)[n - (dV D).length] = q at *
    refine ⟨?_, Or.inr ?_, ?_⟩
    · show 0 ≤ (q.1 : Int) ∧ (q.1 : Int) < 26; omega
    · show 0 ≤ (q.2 : Int) ∧ (q.2 : Int) < 26; omega
    · unfold rKs
      rw [if_neg (show ¬ (rk2 q).2 = -1 from by show ¬ (q.2 : Int) = -1; omega)]
      rfl
theorem rE_at {m : zM} {D : zD} {n : Nat} (hD : dOk D) (h : zA2 m 347 1 (rE D)) (h1 : 1 ≤ n) (hn : n < dnE D) : ∃ a b, m 347 (2 * n) = a ∧ m 347 (2 * n + 1) = b ∧ (0 ≤ a ∧ a < 26) ∧ (b = -1 ∨ (0 ≤ b ∧ b < 26)) ∧ kTw (dTE D) n = rKs a b := by
  have l : n - 1 < (rE D).length := by have := rE_len (D := D); omega
  have z := zA2_get h l
  rw [show 1 + (n - 1) = n by omega] at z
  refine ⟨_, _, z.1, z.2, ?_⟩
  have e : (rE D)[n - 1] = (rE D).getD (n - 1) (0, 0) := (getD_lt l).symm
  rw [e]
  rcases dTE_get hn with ⟨h2, -⟩ | ⟨h2, h3, h4⟩ | ⟨h2, h3, h4⟩
  · omega
  · have e2 := (rE_get (D := D) (x := n) h3 (by omega)).2
    rw [e2, kTw_1 h4]
    have hm : (dEn D)[n - 1] ∈ dC D := (List.mem_filter.mp (List.getElem_mem h2)).1
    have := (hD.1.1 _ hm).1
    refine ⟨?_, Or.inl rfl, ?_⟩
    · show 0 ≤ (((dEn D)[n - 1] : Nat) : Int) ∧ (((dEn D)[n - 1] : Nat) : Int) < 26
      omega
    · rfl
  · have e2 : (rE D).getD (n - 1) (0, 0) = rk2 ((dPE D)[n - (1 + (dEn D).length)]) := by
      unfold rE
      rw [List.getD_eq_getElem?_getD, List.getElem?_append_right (by rw [List.length_map]; omega), List.length_map, show n - 1 - (dEn D).length = n - (1 + (dEn D).length) by omega, List.getElem?_map, List.getElem?_eq_getElem h2]
      rfl
    obtain ⟨-, -, -, b1, b2⟩ := dPE_mem hD (List.getElem_mem h2)
    rw [e2, kTw_2 (a := (dPE D)[n - (1 + (dEn D).length)].1) (b := (dPE D)[n - (1 + (dEn D).length)].2) h4]
    generalize (dPE D)[n - (1 + (dEn D).length)] = q at *
    refine ⟨?_, Or.inr ?_, ?_⟩
    · show 0 ≤ (q.1 : Int) ∧ (q.1 : Int) < 26; omega
    · show 0 ≤ (q.2 : Int) ∧ (q.2 : Int) < 26; omega
    · unfold rKs
      rw [if_neg (show ¬ (rk2 q).2 = -1 from by show ¬ (q.2 : Int) = -1; omega)]
      rfl
theorem c_rspells {L : zY} {m : zM} {Q : zQ} {D : zD} {x : Int} (ht : zMt L) (hn : zMn L) (hD : dOk D) (hlk : dLacks D = false) (hp : zMp m) (hN : rNm m D) (hx : dHas D x) (k : ∀ m', zAL m' 363 0 (dSp D x) → (∀ c, c ≠ 363 → m' c = m c) → Q (some (zI ((dSp D x).length : Int))) L m') : zwp 214 0 [zA 332, zI x, zU, zU, zU, zU, zU] [] L m Q := by
  have t0 := mt332 ht
  obtain ⟨-, n2, n3⟩ := rNm_n hN
  obtain ⟨p1, p2, p3, p4⟩ := dPart hD hlk hx
  obtain ⟨l1, l2, l3⟩ := dOk_n hD hlk
  obtain ⟨c1, c2, c3⟩ := dC_rng hD hlk hx
  have z2 : ¬ ((dnM D : Nat) : Int) = 0 := by omega
  have z3 : ¬ ((dnE D : Nat) : Int) = 0 := by omega
  rw [dSp_app] at k
  obtain ⟨ln, hln⟩ : ∃ ln : Nat, dCL D x = (ln : Int) := ⟨(dCL D x).toNat, by omega⟩
  obtain ⟨mn, hmn⟩ : ∃ mn : Nat, dCM D x = (mn : Int) := ⟨(dCM D x).toNat, by omega⟩
  obtain ⟨en, hen⟩ : ∃ en : Nat, dCE D x = (en : Int) := ⟨(dCE D x).toNat, by omega⟩
  rw [hln] at p2 c1
  rw [hmn] at p3 c2
  rw [hen] at p4 c3
  rw [hln, hmn, hen, Int.toNat_natCast, Int.toNat_natCast, Int.toNat_natCast] at k
  simp only [s214_0, s214_1, s214_2, s214_5, s214_6, s214_7, s214_10, s214_11, s214_12, s214_13, s214_14, s214_17, s214_18, s214_19, s214_22, s214_23, s214_24, s214_25, s214_26, s214_29, s214_30, s214_32, s214_33, Int.toNat_natCast, true_and, and_true, true_or, or_true, false_or, or_false, zwr_id, zpu_some, zpu_none, reduceIte, Int.reduceLE, Int.reduceLT, Int.reduceEq, Int.reduceNeg, Int.reduceAdd, Int.reduceSub, Int.reduceMul, Int.reduceToNat, Nat.reduceAdd, Nat.reduceLeDiff, Nat.reduceEqDiff, Nat.reduceLT, eq_self, ne_eq, not_false_eq_true, not_true_eq_false, t0, n2, n3, z2, z3, p1, p2, p3, p4]
  have q24 : m 332 24 = ((341 : Nat) : Int) := mp24 hp
  have q28 : m 332 28 = ((345 : Nat) : Int) := mp28 hp
  have q52 : m 332 52 = ((363 : Nat) : Int) := mp52 hp
  -- the MIDDLE and the END
  have rest : ∀ m1 A, zAL m1 363 0 A → A.length ≤ 2 → A = kTw (dTL D) ln → (∀ c, c ≠ 363 → m1 c = m c) → zwp 214 88 [zA 332, zI x, zI (ln : Int), zI (mn : Int), zI (en : Int), zI (A.length : Int), zU] [] L m1 Q := fun m1 A g1 g2 g3 g4 => by
    have hp1 : zMp m1 := zMp_eq (fun i _ => by rw [g4 332 (by decide)]) hp
    obtain ⟨a, b, y1, y2, y3, y4, y5⟩ := rM_at hD (zA2_eq (g4 346 (by decide)) hN.1.2.2.2.1) (show mn < dnM D by omega)
    refine c_spM (D := D) ht hn hp1 (by omega) y1 y2 y3 y4 g1 g2 (fun m2 i1 i2 => ?_)
    have lb : (rKs a b).length ≤ 2 := by unfold rKs; split <;> simp
    have lA : (A ++ rKs a b).length ≤ 4 := by rw [List.length_append]; omega
    have hp2 : zMp m2 := zMp_eq (fun i _ => by rw [i2 332 (by decide)]) hp1
    by_cases he : en = 0
    · have e0 : kTw (dTE D) en = [] := by rw [he]; rfl
      rw [e0, List.append_nil, ← g3, y5] at k
      have n0 : (en : Int) ≤ 0 := by omega
      simp only [s214_142, s214_143, s214_145, s214_147, s214_148, s214_151, s214_153, s214_203, s214_205, Int.toNat_natCast, true_and, and_true, true_or, or_true, false_or, or_false, zwr_id, zpu_some, zpu_none, reduceIte, Int.reduceLE, Int.reduceLT, Int.reduceEq, Int.reduceNeg, Int.reduceAdd, Int.reduceSub, Int.reduceMul, Int.reduceToNat, Nat.reduceAdd, Nat.reduceLeDiff, Nat.reduceEqDiff, Nat.reduceLT, eq_self, ne_eq, not_false_eq_true, not_true_eq_false, Int.reduceLT, n0]
      exact k m2 i1 (fun c hc => by rw [i2 c hc, g4 c hc])
    · obtain ⟨a', b', x1, x2, x3, x4, x5⟩ := rE_at hD (zA2_eq (i2 347 (by decide)) (zA2_eq (g4 347 (by decide)) hN.1.2.2.2.2)) (show 1 ≤ en by omega) (show en < dnE D by omega)
      rw [← g3, y5, x5, ← List.append_assoc] at k
      exact c_spE (D := D) ht hn hp2 (by omega) (by omega) x1 x2 x3 x4 i1 lA (fun m3 j1 j2 => k m3 j1 (fun c hc => by rw [j2 c hc, i2 c hc, g4 c hc]))
  have lk : zAL m 345 0 ((dLe D ++ dT D).map nZ) := hN.1.2.2.1
  have hl : ln < (dLe D ++ dT D).length := by rw [List.length_append]; show ln < dnL D; omega
  have gv := zAL_n lk hl
  rw [Nat.zero_add] at gv
  have hrl : 0 ≤ (ln : Int) ∧ (ln : Int) < ((14 : Nat) : Int) := by omega
  have b6 : (0 : Int) < ((6 : Nat) : Int) := by decide
  have b61 : (1 : Int) < ((6 : Nat) : Int) := by decide
  rcases dTL_get (show ln < dnL D by omega) with ⟨h1, h2⟩ | ⟨h1, h2, h3⟩
  · have eg : (dLe D ++ dT D)[ln] = (dLe D)[ln] := List.getElem_append_left h1
    rw [eg] at gv
    have hk := (hD.1.1 _ ((List.mem_filter.mp (List.getElem_mem h1)).1)).1
    have hlo : m 341 (dLe D)[ln] = (ln : Int) := by
      rw [hN.1.1.1 _ hk]
      have := ixf_get (dLe_nd hD) (i := 0) (f := fun _ => -2) h1
      rw [Nat.zero_add] at this
      exact this
    have kt := kTw_1 h2
    generalize (dLe D)[ln] = c at *
    have hrc : 0 ≤ (c : Int) ∧ (c : Int) < ((26 : Nat) : Int) := by omega
    simp only [s214_35, s214_36, s214_39, s214_41, s214_42, s214_45, s214_46, s214_47, s214_49, s214_50, s214_51, s214_54, s214_55, s214_58, s214_59, s214_62, s214_63, s214_64, s214_65, s214_66, Int.toNat_natCast, true_and, and_true, true_or, or_true, false_or, or_false, zwr_id, zpu_some, zpu_none, reduceIte, Int.reduceLE, Int.reduceLT, Int.reduceEq, Int.reduceNeg, Int.reduceAdd, Int.reduceSub, Int.reduceMul, Int.reduceToNat, Nat.reduceAdd, Nat.reduceLeDiff, Nat.reduceEqDiff, Nat.reduceLT, eq_self, ne_eq, not_false_eq_true, not_true_eq_false, t0, q52, q28, q24, mt363 ht, mn363 hn, mt345 ht, mn345 hn, mt341 ht, mn341 hn, b6, hrl, hrc, and_self, gv, (show zwr ((c : Int) + 97) = kk c from zwr_id (by omega) (by omega)), (show zwr (0 + 1) = 1 from zwr_id (by decide) (by decide)), hlo, zup_na (show (332 : Nat) ≠ 363 by decide), zup_na (show (345 : Nat) ≠ 363 by decide), zup_na (show (341 : Nat) ≠ 363 by decide)]
    exact rest _ [kk c] (zAL_of (fun i hi => by
      have : i = 0 := by simp at hi; exact hi
      subst this
      exact zup_same)) (show 1 ≤ 2 by decide) kt.symm (fun c hc => zup_nf hc)
  · have eg : (dLe D ++ dT D)[ln] = (dT D)[ln - (dLe D).length] := List.getElem_append_right h2
    rw [eg] at gv
    have hk := (hD.1.2.2.2.1 _ (List.getElem_mem h1)).1
    have hlo : ¬ m 341 (dT D)[ln - (dLe D).length] = (ln : Int) := by
      rw [hN.1.1.1 _ hk]
      have := dNL_rng (D := D) (k := (dT D)[ln - (dLe D).length]) hD
      omega
    have kt := kTw_2 (a := (dT D)[ln - (dLe D).length]) (b := (dT D)[ln - (dLe D).length]) h3
    generalize (dT D)[ln - (dLe D).length] = c at *
    have hrc : 0 ≤ (c : Int) ∧ (c : Int) < ((26 : Nat) : Int) := by omega
    simp only [s214_35, s214_36, s214_39, s214_41, s214_42, s214_45, s214_46, s214_47, s214_49, s214_50, s214_51, s214_54, s214_55, s214_58, s214_59, s214_62, s214_63, s214_64, s214_65, s214_66, s214_69, s214_70, s214_73, s214_75, s214_76, s214_79, s214_80, s214_81, s214_83, s214_84, s214_85, Int.toNat_natCast, true_and, and_true, true_or, or_true, false_or, or_false, zwr_id, zpu_some, zpu_none, reduceIte, Int.reduceLE, Int.reduceLT, Int.reduceEq, Int.reduceNeg, Int.reduceAdd, Int.reduceSub, Int.reduceMul, Int.reduceToNat, Nat.reduceAdd, Nat.reduceLeDiff, Nat.reduceEqDiff, Nat.reduceLT, eq_self, ne_eq, not_false_eq_true, not_true_eq_false, t0, q52, q28, q24, mt363 ht, mn363 hn, mt345 ht, mn345 hn, mt341 ht, mn341 hn, b6, b61, hrl, hrc, and_self, gv, (show zwr ((c : Int) + 97) = kk c from zwr_id (by omega) (by omega)), (show zwr (0 + 1) = 1 from zwr_id (by decide) (by decide)), (show zwr (1 + 1) = 2 from zwr_id (by decide) (by decide)), hlo, zup_na (show (332 : Nat) ≠ 363 by decide), zup_na (show (345 : Nat) ≠ 363 by decide), zup_na (show (341 : Nat) ≠ 363 by decide)]
    exact rest _ [kk c, kk c] (zAL_of (fun i hi => by
      have : i = 0 ∨ i = 1 := by simp at hi; omega
      rcases this with rfl | rfl
      · rw [zup_nk (by decide), zup_same]; rfl
      · rw [zup_same]; rfl)) (show 2 ≤ 2 by decide) kt.symm (fun c hc => by rw [zup_nf hc, zup_nf hc])
