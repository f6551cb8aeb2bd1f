/-! the law, case by case -/
def lawC (N : Nat) (L : zY) (Q : zQ) (i : Nat) : Prop := ∀ (L' : zY) (m' : zM) (g' : zG) (l5 l6 : zV), L'.1 = L.1 → L'.2.1 ≤ L.2.1 + 1 → L'.2.2 ≤ L.2.2 + 6 → lawI N L' m' g' → zwp 258 1065 [zA 1, zA 2, zA 332, zA 371, zI (i : Int), l5, l6] [] L' m' Q
theorem lawC_0 {N : Nat} {L : zY} {m : zM} {g : zG} {Q : zQ} {i : Nat} {l5 l6 : zV} (k : lawC N L Q i) (h : lawI N L m g) : zwp 258 1065 [zA 1, zA 2, zA 332, zA 371, zI (i : Int), l5, l6] [] L m Q := k L m g l5 l6 rfl (Nat.le_succ _) (Nat.le_add_right _ _) h
theorem lw_w {i N c : Nat} (hN : N < 2000000000) (hi : i + 6 ≤ N) (hc : c ≤ 6) : zwr ((i : Int) + (c : Int)) = ((i + c : Nat) : Int) := zwn (by omega) (by omega)
theorem lw_r {i N c : Nat} (hi : i + 6 ≤ N) (hc : c ≤ 5) : 0 ≤ ((i + c : Nat) : Int) ∧ ((i + c : Nat) : Int) < (N : Int) := by omega
theorem lw_feed {N : Nat} {L : zY} {m : zM} {g : zG} {Q : zQ} {i : Nat} {l5 l6 : zV} (hN : N < 2000000000) (hi : i + 6 ≤ N) (h : lawI N L m g) (k : lawC N L Q i) : zwp 258 184 [zA 1, zA 2, zA 332, zA 371, zI (i : Int), l5, l6] [] L m Q := by
  have t2 := lawI_2 h
  obtain ⟨hg, hC, hR, ht, hn, ⟨t1, n1⟩, t3, n3, hz⟩ := id h
  have t0 := mt332 ht
  have u1 : zwr ((i : Int) + 1) = ((i + 1 : Nat) : Int) := lw_w (c := 1) hN hi (by decide)
  have r1 : 0 ≤ ((i + 1 : Nat) : Int) ∧ ((i + 1 : Nat) : Int) < (N : Int) := lw_r (c := 1) hi (by decide)
  have u2 : zwr ((i : Int) + 2) = ((i + 2 : Nat) : Int) := lw_w (c := 2) hN hi (by decide)
  have r2 : 0 ≤ ((i + 2 : Nat) : Int) ∧ ((i + 2 : Nat) : Int) < (N : Int) := lw_r (c := 2) hi (by decide)
  have u3 : zwr ((i : Int) + 3) = ((i + 3 : Nat) : Int) := lw_w (c := 3) hN hi (by decide)
  have r3 : 0 ≤ ((i + 3 : Nat) : Int) ∧ ((i + 3 : Nat) : Int) < (N : Int) := lw_r (c := 3) hi (by decide)
  have u4 : zwr ((i : Int) + 4) = ((i + 4 : Nat) : Int) := lw_w (c := 4) hN hi (by decide)
  have r4 : 0 ≤ ((i + 4 : Nat) : Int) ∧ ((i + 4 : Nat) : Int) < (N : Int) := lw_r (c := 4) hi (by decide)
  have u5 : zwr ((i : Int) + 5) = ((i + 5 : Nat) : Int) := lw_w (c := 5) hN hi (by decide)
  have r5 : 0 ≤ ((i + 5 : Nat) : Int) ∧ ((i + 5 : Nat) : Int) < (N : Int) := lw_r (c := 5) hi (by decide)
  simp only [s258_184, s258_185, s258_186, s258_188, s258_189, s258_190, s258_191, s258_192, s258_194, s258_195, s258_196, s258_197, s258_198, s258_200, s258_201, s258_202, s258_203, s258_204, s258_206, s258_207, s258_208, s258_209, s258_210, s258_212, s258_213, s258_214, s258_215, Int.toNat_natCast, true_and, and_true, true_or, or_true, false_or, or_false, zwr_id, zpu_some, zpu_none, reduceIte, Int.reduceLE, Int.reduceLT, Int.reduceEq, Int.reduceNeg, Int.reduceAdd, Int.reduceSub, Int.reduceMul, Int.reduceToNat, Nat.reduceAdd, Nat.reduceLeDiff, Nat.reduceEqDiff, Nat.reduceLT, eq_self, ne_eq, not_false_eq_true, not_true_eq_false, t1, t2, n1, u1, r1, u2, r2, u3, r3, u4, r4, u5, r5, and_self]
  refine c_feed hC (fun m1 C1 f1 => ?_)
  simp only [s258_218, s258_219, s258_220, s258_222, s258_223, s258_224, s258_225, s258_226, s258_228, s258_229, s258_230, s258_231, s258_232, s258_234, s258_235, s258_236, s258_237, s258_238, s258_240, s258_241, s258_242, s258_243, s258_244, s258_246, s258_247, s258_248, s258_249, zpu_some, Int.toNat_natCast, true_and, and_true, true_or, or_true, false_or, or_false, zwr_id, zpu_some, zpu_none, reduceIte, Int.reduceLE, Int.reduceLT, Int.reduceEq, Int.reduceNeg, Int.reduceAdd, Int.reduceSub, Int.reduceMul, Int.reduceToNat, Nat.reduceAdd, Nat.reduceLeDiff, Nat.reduceEqDiff, Nat.reduceLT, eq_self, ne_eq, not_false_eq_true, not_true_eq_false, t0, t1, n1, u1, r1, u2, r2, u3, r3, u4, r4, u5, r5, and_self, f1 1 (by decide)]
  refine c_rfeed ht hn hg.1 (lawI_r h f1) (fun m2 R2 f2 => ?_)
  simp only [zpu_some]
  rw [s258_252, if_pos rfl]
  exact lawC_0 k (lawI_s h (gK_feed hg) C1 R2 f1 f2)
theorem lw_script {N : Nat} {L : zY} {m : zM} {g : zG} {Q : zQ} {i : Nat} {l5 l6 : zV} (hN : N < 2000000000) (hi : i + 6 ≤ N) (h : lawI N L m g) (k : lawC N L Q i) : zwp 258 257 [zA 1, zA 2, zA 332, zA 371, zI (i : Int), l5, l6] [] L m Q := by
  have t2 := lawI_2 h
  obtain ⟨hg, hC, hR, ht, hn, ⟨t1, n1⟩, t3, n3, hz⟩ := id h
  have t0 := mt332 ht
  have u1 : zwr ((i : Int) + 1) = ((i + 1 : Nat) : Int) := lw_w (c := 1) hN hi (by decide)
  have r1 : 0 ≤ ((i + 1 : Nat) : Int) ∧ ((i + 1 : Nat) : Int) < (N : Int) := lw_r (c := 1) hi (by decide)
  simp only [s258_257, s258_258, s258_259, s258_261, s258_262, s258_263, s258_264, Int.toNat_natCast, true_and, and_true, true_or, or_true, false_or, or_false, zwr_id, zpu_some, zpu_none, reduceIte, Int.reduceLE, Int.reduceLT, Int.reduceEq, Int.reduceNeg, Int.reduceAdd, Int.reduceSub, Int.reduceMul, Int.reduceToNat, Nat.reduceAdd, Nat.reduceLeDiff, Nat.reduceEqDiff, Nat.reduceLT, eq_self, ne_eq, not_false_eq_true, not_true_eq_false, t1, t2, n1, u1, r1, and_self]
  refine c_script hg.1 hC (fun m1 C1 f1 => ?_)
  simp only [s258_267, s258_268, s258_269, s258_271, s258_272, s258_273, s258_274, zpu_some, Int.toNat_natCast, true_and, and_true, true_or, or_true, false_or, or_false, zwr_id, zpu_some, zpu_none, reduceIte, Int.reduceLE, Int.reduceLT, Int.reduceEq, Int.reduceNeg, Int.reduceAdd, Int.reduceSub, Int.reduceMul, Int.reduceToNat, Nat.reduceAdd, Nat.reduceLeDiff, Nat.reduceEqDiff, Nat.reduceLT, eq_self, ne_eq, not_false_eq_true, not_true_eq_false, t0, t1, n1, u1, r1, and_self, f1 1 (by decide)]
  refine c_rscript ht hn hg.1 (lawI_r h f1) (fun m2 R2 f2 => ?_)
  simp only [zpu_some]
  rw [s258_277, if_pos rfl]
  exact lawC_0 k (lawI_s h (gK_scr hg) C1 R2 f1 f2)
theorem lw_fault {N : Nat} {L : zY} {m : zM} {g : zG} {Q : zQ} {i : Nat} {l5 l6 : zV} (hN : N < 2000000000) (hi : i + 6 ≤ N) (h : lawI N L m g) (k : lawC N L Q i) : zwp 258 282 [zA 1, zA 2, zA 332, zA 371, zI (i : Int), l5, l6] [] L m Q := by
  have t2 := lawI_2 h
  obtain ⟨hg, hC, hR, ht, hn, ⟨t1, n1⟩, t3, n3, hz⟩ := id h
  have t0 := mt332 ht
  simp only [s258_282, s258_283, Int.toNat_natCast, true_and, and_true, true_or, or_true, false_or, or_false, zwr_id, zpu_some, zpu_none, reduceIte, Int.reduceLE, Int.reduceLT, Int.reduceEq, Int.reduceNeg, Int.reduceAdd, Int.reduceSub, Int.reduceMul, Int.reduceToNat, Nat.reduceAdd, Nat.reduceLeDiff, Nat.reduceEqDiff, Nat.reduceLT, eq_self, ne_eq, not_false_eq_true, not_true_eq_false, t1, t2, n1]
  refine c_fault hC ?_
  simp only [s258_286, s258_287, zpu_some, Int.toNat_natCast, true_and, and_true, true_or, or_true, false_or, or_false, zwr_id, zpu_some, zpu_none, reduceIte, Int.reduceLE, Int.reduceLT, Int.reduceEq, Int.reduceNeg, Int.reduceAdd, Int.reduceSub, Int.reduceMul, Int.reduceToNat, Nat.reduceAdd, Nat.reduceLeDiff, Nat.reduceEqDiff, Nat.reduceLT, eq_self, ne_eq, not_false_eq_true, not_true_eq_false, t0]
  refine c_rfault ht hg.1 hR (fun m2 R2 f2 => ?_)
  simp only [zpu_some]
  rw [s258_290, if_pos (show g.2.2.2.2.2.1 = gF g from rfl)]
  exact lawC_0 k (lawI_s h hg hC R2 (fun _ _ => rfl) f2)
theorem lw_where {N : Nat} {L : zY} {m : zM} {g : zG} {Q : zQ} {i : Nat} {l5 l6 : zV} (hN : N < 2000000000) (hi : i + 6 ≤ N) (h : lawI N L m g) (k : lawC N L Q i) : zwp 258 295 [zA 1, zA 2, zA 332, zA 371, zI (i : Int), l5, l6] [] L m Q := by
  have t2 := lawI_2 h
  obtain ⟨hg, hC, hR, ht, hn, ⟨t1, n1⟩, t3, n3, hz⟩ := id h
  have t0 := mt332 ht
  simp only [s258_295, s258_296, Int.toNat_natCast, true_and, and_true, true_or, or_true, false_or, or_false, zwr_id, zpu_some, zpu_none, reduceIte, Int.reduceLE, Int.reduceLT, Int.reduceEq, Int.reduceNeg, Int.reduceAdd, Int.reduceSub, Int.reduceMul, Int.reduceToNat, Nat.reduceAdd, Nat.reduceLeDiff, Nat.reduceEqDiff, Nat.reduceLT, eq_self, ne_eq, not_false_eq_true, not_true_eq_false, t1, t2, n1]
  refine c_where hC ?_
  simp only [s258_299, s258_300, zpu_some, Int.toNat_natCast, true_and, and_true, true_or, or_true, false_or, or_false, zwr_id, zpu_some, zpu_none, reduceIte, Int.reduceLE, Int.reduceLT, Int.reduceEq, Int.reduceNeg, Int.reduceAdd, Int.reduceSub, Int.reduceMul, Int.reduceToNat, Nat.reduceAdd, Nat.reduceLeDiff, Nat.reduceEqDiff, Nat.reduceLT, eq_self, ne_eq, not_false_eq_true, not_true_eq_false, t0]
  refine c_rwhere ht hg.1 hg.2 hR (fun m2 R2 f2 => ?_)
  simp only [zpu_some]
  rw [s258_303, if_pos (show g.2.2.2.2.2.2.1 = gW g from rfl)]
  exact lawC_0 k (lawI_s h hg hC R2 (fun _ _ => rfl) f2)
theorem lw_about {N : Nat} {L : zY} {m : zM} {g : zG} {Q : zQ} {i : Nat} {l5 l6 : zV} (hN : N < 2000000000) (hi : i + 6 ≤ N) (h : lawI N L m g) (k : lawC N L Q i) : zwp 258 308 [zA 1, zA 2, zA 332, zA 371, zI (i : Int), l5, l6] [] L m Q := by
  have t2 := lawI_2 h
  obtain ⟨hg, hC, hR, ht, hn, ⟨t1, n1⟩, t3, n3, hz⟩ := id h
  have t0 := mt332 ht
  have u1 : zwr ((i : Int) + 1) = ((i + 1 : Nat) : Int) := lw_w (c := 1) hN hi (by decide)
  have r1 : 0 ≤ ((i + 1 : Nat) : Int) ∧ ((i + 1 : Nat) : Int) < (N : Int) := lw_r (c := 1) hi (by decide)
  simp only [s258_308, s258_309, s258_310, s258_312, s258_313, s258_314, s258_315, Int.toNat_natCast, true_and, and_true, true_or, or_true, false_or, or_false, zwr_id, zpu_some, zpu_none, reduceIte, Int.reduceLE, Int.reduceLT, Int.reduceEq, Int.reduceNeg, Int.reduceAdd, Int.reduceSub, Int.reduceMul, Int.reduceToNat, Nat.reduceAdd, Nat.reduceLeDiff, Nat.reduceEqDiff, Nat.reduceLT, eq_self, ne_eq, not_false_eq_true, not_true_eq_false, t1, t2, n1, u1, r1, and_self]
  refine c_about hC (fun m1 C1 f1 => ?_)
  simp only [s258_318, s258_319, s258_320, s258_322, s258_323, s258_324, s258_325, zpu_some, Int.toNat_natCast, true_and, and_true, true_or, or_true, false_or, or_false, zwr_id, zpu_some, zpu_none, reduceIte, Int.reduceLE, Int.reduceLT, Int.reduceEq, Int.reduceNeg, Int.reduceAdd, Int.reduceSub, Int.reduceMul, Int.reduceToNat, Nat.reduceAdd, Nat.reduceLeDiff, Nat.reduceEqDiff, Nat.reduceLT, eq_self, ne_eq, not_false_eq_true, not_true_eq_false, t0, t1, n1, u1, r1, and_self, f1 1 (by decide)]
  refine c_rabout ht hn hg.1 (lawI_r h f1) (fun m2 R2 f2 => ?_)
  simp only [zpu_some]
  rw [s258_328, if_pos rfl]
  exact lawC_0 k (lawI_s h (gK_about hg) C1 R2 f1 f2)
theorem lw_letter {N : Nat} {L : zY} {m : zM} {g : zG} {Q : zQ} {i : Nat} {l5 l6 : zV} (hN : N < 2000000000) (hi : i + 6 ≤ N) (h : lawI N L m g) (k : lawC N L Q i) : zwp 258 333 [zA 1, zA 2, zA 332, zA 371, zI (i : Int), l5, l6] [] L m Q := by
  have t2 := lawI_2 h
  obtain ⟨hg, hC, hR, ht, hn, ⟨t1, n1⟩, t3, n3, hz⟩ := id h
  have t0 := mt332 ht
  have u1 : zwr ((i : Int) + 1) = ((i + 1 : Nat) : Int) := lw_w (c := 1) hN hi (by decide)
  have r1 : 0 ≤ ((i + 1 : Nat) : Int) ∧ ((i + 1 : Nat) : Int) < (N : Int) := lw_r (c := 1) hi (by decide)
  have u2 : zwr ((i : Int) + 2) = ((i + 2 : Nat) : Int) := lw_w (c := 2) hN hi (by decide)
  have r2 : 0 ≤ ((i + 2 : Nat) : Int) ∧ ((i + 2 : Nat) : Int) < (N : Int) := lw_r (c := 2) hi (by decide)
  simp only [s258_333, s258_334, s258_335, s258_337, s258_338, s258_339, s258_340, s258_341, s258_343, s258_344, s258_345, s258_346, Int.toNat_natCast, true_and, and_true, true_or, or_true, false_or, or_false, zwr_id, zpu_some, zpu_none, reduceIte, Int.reduceLE, Int.reduceLT, Int.reduceEq, Int.reduceNeg, Int.reduceAdd, Int.reduceSub, Int.reduceMul, Int.reduceToNat, Nat.reduceAdd, Nat.reduceLeDiff, Nat.reduceEqDiff, Nat.reduceLT, eq_self, ne_eq, not_false_eq_true, not_true_eq_false, t1, t2, n1, u1, r1, u2, r2, and_self]
  refine c_letter hg.1 hC (fun m1 C1 f1 => ?_)
  simp only [s258_349, s258_350, s258_351, s258_353, s258_354, s258_355, s258_356, s258_357, s258_359, s258_360, s258_361, s258_362, zpu_some, Int.toNat_natCast, true_and, and_true, true_or, or_true, false_or, or_false, zwr_id, zpu_some, zpu_none, reduceIte, Int.reduceLE, Int.reduceLT, Int.reduceEq, Int.reduceNeg, Int.reduceAdd, Int.reduceSub, Int.reduceMul, Int.reduceToNat, Nat.reduceAdd, Nat.reduceLeDiff, Nat.reduceEqDiff, Nat.reduceLT, eq_self, ne_eq, not_false_eq_true, not_true_eq_false, t0, t1, n1, u1, r1, u2, r2, and_self, f1 1 (by decide)]
  refine c_rletter ht hn hg.1 (lawI_r h f1) (fun m2 R2 f2 => ?_)
  simp only [zpu_some]
  rw [s258_365, if_pos rfl]
  exact lawC_0 k (lawI_s h (gK_let hg) C1 R2 f1 f2)
theorem lw_code {N : Nat} {L : zY} {m : zM} {g : zG} {Q : zQ} {i : Nat} {l5 l6 : zV} (hN : N < 2000000000) (hi : i + 6 ≤ N) (h : lawI N L m g) (k : lawC N L Q i) : zwp 258 370 [zA 1, zA 2, zA 332, zA 371, zI (i : Int), l5, l6] [] L m Q := by
  have t2 := lawI_2 h
  obtain ⟨hg, hC, hR, ht, hn, ⟨t1, n1⟩, t3, n3, hz⟩ := id h
  have t0 := mt332 ht
  have u1 : zwr ((i : Int) + 1) = ((i + 1 : Nat) : Int) := lw_w (c := 1) hN hi (by decide)
  have r1 : 0 ≤ ((i + 1 : Nat) : Int) ∧ ((i + 1 : Nat) : Int) < (N : Int) := lw_r (c := 1) hi (by decide)
  have u2 : zwr ((i : Int) + 2) = ((i + 2 : Nat) : Int) := lw_w (c := 2) hN hi (by decide)
  have r2 : 0 ≤ ((i + 2 : Nat) : Int) ∧ ((i + 2 : Nat) : Int) < (N : Int) := lw_r (c := 2) hi (by decide)
  have u3 : zwr ((i : Int) + 3) = ((i + 3 : Nat) : Int) := lw_w (c := 3) hN hi (by decide)
  have r3 : 0 ≤ ((i + 3 : Nat) : Int) ∧ ((i + 3 : Nat) : Int) < (N : Int) := lw_r (c := 3) hi (by decide)
  simp only [s258_370, s258_371, s258_372, s258_374, s258_375, s258_376, s258_377, s258_378, s258_380, s258_381, s258_382, s258_383, s258_384, s258_386, s258_387, s258_388, s258_389, Int.toNat_natCast, true_and, and_true, true_or, or_true, false_or, or_false, zwr_id, zpu_some, zpu_none, reduceIte, Int.reduceLE, Int.reduceLT, Int.reduceEq, Int.reduceNeg, Int.reduceAdd, Int.reduceSub, Int.reduceMul, Int.reduceToNat, Nat.reduceAdd, Nat.reduceLeDiff, Nat.reduceEqDiff, Nat.reduceLT, eq_self, ne_eq, not_false_eq_true, not_true_eq_false, t1, t2, n1, u1, r1, u2, r2, u3, r3, and_self]
  refine c_code hC (fun m1 C1 f1 => ?_)
  simp only [s258_392, s258_393, s258_394, s258_396, s258_397, s258_398, s258_399, s258_400, s258_402, s258_403, s258_404, s258_405, s258_406, s258_408, s258_409, s258_410, s258_411, zpu_some, Int.toNat_natCast, true_and, and_true, true_or, or_true, false_or, or_false, zwr_id, zpu_some, zpu_none, reduceIte, Int.reduceLE, Int.reduceLT, Int.reduceEq, Int.reduceNeg, Int.reduceAdd, Int.reduceSub, Int.reduceMul, Int.reduceToNat, Nat.reduceAdd, Nat.reduceLeDiff, Nat.reduceEqDiff, Nat.reduceLT, eq_self, ne_eq, not_false_eq_true, not_true_eq_false, t0, t1, n1, u1, r1, u2, r2, u3, r3, and_self, f1 1 (by decide)]
  refine c_rcode ht hn hg.1 (lawI_r h f1) (fun m2 R2 f2 => ?_)
  simp only [zpu_some]
  rw [s258_414, if_pos rfl]
  exact lawC_0 k (lawI_s h (gK_code hg) C1 R2 f1 f2)
theorem lw_parts {N : Nat} {L : zY} {m : zM} {g : zG} {Q : zQ} {i : Nat} {l5 l6 : zV} (hN : N < 2000000000) (hi : i + 6 ≤ N) (h : lawI N L m g) (k : lawC N L Q i) : zwp 258 419 [zA 1, zA 2, zA 332, zA 371, zI (i : Int), l5, l6] [] L m Q := by
  have t2 := lawI_2 h
  obtain ⟨hg, hC, hR, ht, hn, ⟨t1, n1⟩, t3, n3, hz⟩ := id h
  have t0 := mt332 ht
  have u1 : zwr ((i : Int) + 1) = ((i + 1 : Nat) : Int) := lw_w (c := 1) hN hi (by decide)
  have r1 : 0 ≤ ((i + 1 : Nat) : Int) ∧ ((i + 1 : Nat) : Int) < (N : Int) := lw_r (c := 1) hi (by decide)
  have u2 : zwr ((i : Int) + 2) = ((i + 2 : Nat) : Int) := lw_w (c := 2) hN hi (by decide)
  have r2 : 0 ≤ ((i + 2 : Nat) : Int) ∧ ((i + 2 : Nat) : Int) < (N : Int) := lw_r (c := 2) hi (by decide)
  simp only [s258_419, s258_420, s258_421, s258_423, s258_424, s258_425, s258_426, s258_427, s258_429, s258_430, s258_431, s258_432, Int.toNat_natCast, true_and, and_true, true_or, or_true, false_or, or_false, zwr_id, zpu_some, zpu_none, reduceIte, Int.reduceLE, Int.reduceLT, Int.reduceEq, Int.reduceNeg, Int.reduceAdd, Int.reduceSub, Int.reduceMul, Int.reduceToNat, Nat.reduceAdd, Nat.reduceLeDiff, Nat.reduceEqDiff, Nat.reduceLT, eq_self, ne_eq, not_false_eq_true, not_true_eq_false, t1, t2, n1, u1, r1, u2, r2, and_self]
  refine c_parts hg.1 hC (fun m1 C1 f1 => ?_)
  simp only [s258_435, s258_436, s258_437, s258_439, s258_440, s258_441, s258_442, s258_443, s258_445, s258_446, s258_447, s258_448, zpu_some, Int.toNat_natCast, true_and, and_true, true_or, or_true, false_or, or_false, zwr_id, zpu_some, zpu_none, reduceIte, Int.reduceLE, Int.reduceLT, Int.reduceEq, Int.reduceNeg, Int.reduceAdd, Int.reduceSub, Int.reduceMul, Int.reduceToNat, Nat.reduceAdd, Nat.reduceLeDiff, Nat.reduceEqDiff, Nat.reduceLT, eq_self, ne_eq, not_false_eq_true, not_true_eq_false, t0, t1, n1, u1, r1, u2, r2, and_self, f1 1 (by decide)]
  refine c_rparts ht hn hg.1 (lawI_r h f1) (fun m2 R2 f2 => ?_)
  simp only [zpu_some]
  rw [s258_451, if_pos rfl]
  exact lawC_0 k (lawI_s h (gK_parts hg) C1 R2 f1 f2)
theorem lw_spelt {N : Nat} {L : zY} {m : zM} {g : zG} {Q : zQ} {i : Nat} {l5 l6 : zV} (hN : N < 2000000000) (hi : i + 6 ≤ N) (h : lawI N L m g) (k : lawC N L Q i) : zwp 258 456 [zA 1, zA 2, zA 332, zA 371, zI (i : Int), l5, l6] [] L m Q := by
  have t2 := lawI_2 h
  obtain ⟨hg, hC, hR, ht, hn, ⟨t1, n1⟩, t3, n3, hz⟩ := id h
  have t0 := mt332 ht
  have u1 : zwr ((i : Int) + 1) = ((i + 1 : Nat) : Int) := lw_w (c := 1) hN hi (by decide)
  have r1 : 0 ≤ ((i + 1 : Nat) : Int) ∧ ((i + 1 : Nat) : Int) < (N : Int) := lw_r (c := 1) hi (by decide)
  have u2 : zwr ((i : Int) + 2) = ((i + 2 : Nat) : Int) := lw_w (c := 2) hN hi (by decide)
  have r2 : 0 ≤ ((i + 2 : Nat) : Int) ∧ ((i + 2 : Nat) : Int) < (N : Int) := lw_r (c := 2) hi (by decide)
  simp only [s258_456, s258_457, s258_458, s258_460, s258_461, s258_462, s258_463, s258_464, s258_466, s258_467, s258_468, s258_469, Int.toNat_natCast, true_and, and_true, true_or, or_true, false_or, or_false, zwr_id, zpu_some, zpu_none, reduceIte, Int.reduceLE, Int.reduceLT, Int.reduceEq, Int.reduceNeg, Int.reduceAdd, Int.reduceSub, Int.reduceMul, Int.reduceToNat, Nat.reduceAdd, Nat.reduceLeDiff, Nat.reduceEqDiff, Nat.reduceLT, eq_self, ne_eq, not_false_eq_true, not_true_eq_false, t1, t2, n1, u1, r1, u2, r2, and_self]
  refine c_spelt hg.1 (hz _) hC (fun m1 C1 f1 => ?_)
  simp only [s258_472, s258_473, s258_474, s258_476, s258_477, s258_478, s258_479, s258_480, s258_482, s258_483, s258_484, s258_485, zpu_some, Int.toNat_natCast, true_and, and_true, true_or, or_true, false_or, or_false, zwr_id, zpu_some, zpu_none, reduceIte, Int.reduceLE, Int.reduceLT, Int.reduceEq, Int.reduceNeg, Int.reduceAdd, Int.reduceSub, Int.reduceMul, Int.reduceToNat, Nat.reduceAdd, Nat.reduceLeDiff, Nat.reduceEqDiff, Nat.reduceLT, eq_self, ne_eq, not_false_eq_true, not_true_eq_false, t0, t1, n1, u1, r1, u2, r2, and_self, f1 1 (by decide)]
  refine c_rspelt ht hn hg.1 (lawI_r h f1) (fun m2 R2 f2 => ?_)
  simp only [zpu_some]
  rw [s258_488, if_pos rfl]
  exact lawC_0 k (lawI_s h (gK_spelt hg) C1 R2 f1 f2)
theorem lw_key {N : Nat} {L : zY} {m : zM} {g : zG} {Q : zQ} {i : Nat} {l5 l6 : zV} (hN : N < 2000000000) (hi : i + 6 ≤ N) (h : lawI N L m g) (k : lawC N L Q i) : zwp 258 493 [zA 1, zA 2, zA 332, zA 371, zI (i : Int), l5, l6] [] L m Q := by
  have t2 := lawI_2 h
  obtain ⟨hg, hC, hR, ht, hn, ⟨t1, n1⟩, t3, n3, hz⟩ := id h
  have t0 := mt332 ht
  have u1 : zwr ((i : Int) + 1) = ((i + 1 : Nat) : Int) := lw_w (c := 1) hN hi (by decide)
  have r1 : 0 ≤ ((i + 1 : Nat) : Int) ∧ ((i + 1 : Nat) : Int) < (N : Int) := lw_r (c := 1) hi (by decide)
  simp only [s258_493, s258_494, s258_495, s258_497, s258_498, s258_499, s258_500, Int.toNat_natCast, true_and, and_true, true_or, or_true, false_or, or_false, zwr_id, zpu_some, zpu_none, reduceIte, Int.reduceLE, Int.reduceLT, Int.reduceEq, Int.reduceNeg, Int.reduceAdd, Int.reduceSub, Int.reduceMul, Int.reduceToNat, Nat.reduceAdd, Nat.reduceLeDiff, Nat.reduceEqDiff, Nat.reduceLT, eq_self, ne_eq, not_false_eq_true, not_true_eq_false, t1, t2, n1, u1, r1, and_self]
  refine c_key hg.1 hC (fun m1 C1 f1 => ?_)
  simp only [s258_503, s258_504, s258_505, s258_507, s258_508, s258_509, s258_510, zpu_some, Int.toNat_natCast, true_and, and_true, true_or, or_true, false_or, or_false, zwr_id, zpu_some, zpu_none, reduceIte, Int.reduceLE, Int.reduceLT, Int.reduceEq, Int.reduceNeg, Int.reduceAdd, Int.reduceSub, Int.reduceMul, Int.reduceToNat, Nat.reduceAdd, Nat.reduceLeDiff, Nat.reduceEqDiff, Nat.reduceLT, eq_self, ne_eq, not_false_eq_true, not_true_eq_false, t0, t1, n1, u1, r1, and_self, f1 1 (by decide)]
  refine c_rkeyP ht hn hg.1 (lawI_r h f1) (fun m2 R2 f2 => ?_)
  simp only [zpu_some]
  rw [s258_513, if_pos rfl]
  exact lawC_0 k (lawI_s h (gK_key hg) C1 R2 f1 f2)
theorem lw_brk {N : Nat} {L : zY} {m : zM} {g : zG} {Q : zQ} {i : Nat} {l5 l6 : zV} (hN : N < 2000000000) (hi : i + 6 ≤ N) (h : lawI N L m g) (k : lawC N L Q i) : zwp 258 518 [zA 1, zA 2, zA 332, zA 371, zI (i : Int), l5, l6] [] L m Q := by
  have t2 := lawI_2 h
  obtain ⟨hg, hC, hR, ht, hn, ⟨t1, n1⟩, t3, n3, hz⟩ := id h
  have t0 := mt332 ht
  simp only [s258_518, s258_519, Int.toNat_natCast, true_and, and_true, true_or, or_true, false_or, or_false, zwr_id, zpu_some, zpu_none, reduceIte, Int.reduceLE, Int.reduceLT, Int.reduceEq, Int.reduceNeg, Int.reduceAdd, Int.reduceSub, Int.reduceMul, Int.reduceToNat, Nat.reduceAdd, Nat.reduceLeDiff, Nat.reduceEqDiff, Nat.reduceLT, eq_self, ne_eq, not_false_eq_true, not_true_eq_false, t1, t2, n1]
  refine c_brkP hg.1 hC (fun m1 C1 f1 => ?_)
  simp only [s258_522, s258_523, zpu_some, Int.toNat_natCast, true_and, and_true, true_or, or_true, false_or, or_false, zwr_id, zpu_some, zpu_none, reduceIte, Int.reduceLE, Int.reduceLT, Int.reduceEq, Int.reduceNeg, Int.reduceAdd, Int.reduceSub, Int.reduceMul, Int.reduceToNat, Nat.reduceAdd, Nat.reduceLeDiff, Nat.reduceEqDiff, Nat.reduceLT, eq_self, ne_eq, not_false_eq_true, not_true_eq_false, t0, t1, n1]
  refine c_rbrk ht hn hg.1 (lawI_r h f1) (fun m2 R2 f2 => ?_)
  simp only [zpu_some]
  rw [s258_526, if_pos rfl]
  exact lawC_0 k (lawI_s h (gK_brk hg) C1 R2 f1 f2)
theorem lw_type {N : Nat} {L : zY} {m : zM} {g : zG} {Q : zQ} {i : Nat} {l5 l6 : zV} (hN : N < 2000000000) (hi : i + 6 ≤ N) (h : lawI N L m g) (k : lawC N L Q i) : zwp 258 531 [zA 1, zA 2, zA 332, zA 371, zI (i : Int), l5, l6] [] L m Q := by
  have t2 := lawI_2 h
  obtain ⟨hg, hC, hR, ht, hn, ⟨t1, n1⟩, t3, n3, hz⟩ := id h
  have t0 := mt332 ht
  have u1 : zwr ((i : Int) + 1) = ((i + 1 : Nat) : Int) := lw_w (c := 1) hN hi (by decide)
  have r1 : 0 ≤ ((i + 1 : Nat) : Int) ∧ ((i + 1 : Nat) : Int) < (N : Int) := lw_r (c := 1) hi (by decide)
  simp only [s258_531, s258_532, s258_533, s258_535, s258_536, s258_537, s258_538, Int.toNat_natCast, true_and, and_true, true_or, or_true, false_or, or_false, zwr_id, zpu_some, zpu_none, reduceIte, Int.reduceLE, Int.reduceLT, Int.reduceEq, Int.reduceNeg, Int.reduceAdd, Int.reduceSub, Int.reduceMul, Int.reduceToNat, Nat.reduceAdd, Nat.reduceLeDiff, Nat.reduceEqDiff, Nat.reduceLT, eq_self, ne_eq, not_false_eq_true, not_true_eq_false, t1, t2, n1, u1, r1, and_self]
  refine c_type hg.1 hC (fun m1 C1 f1 => ?_)
  simp only [s258_541, s258_542, s258_543, s258_545, s258_546, s258_547, s258_548, zpu_some, Int.toNat_natCast, true_and, and_true, true_or, or_true, false_or, or_false, zwr_id, zpu_some, zpu_none, reduceIte, Int.reduceLE, Int.reduceLT, Int.reduceEq, Int.reduceNeg, Int.reduceAdd, Int.reduceSub, Int.reduceMul, Int.reduceToNat, Nat.reduceAdd, Nat.reduceLeDiff, Nat.reduceEqDiff, Nat.reduceLT, eq_self, ne_eq, not_false_eq_true, not_true_eq_false, t0, t1, n1, u1, r1, and_self, f1 1 (by decide)]
  refine c_rtype ht hn hg.1 (lawI_r h f1) (fun m2 R2 f2 => ?_)
  simp only [zpu_some]
  rw [s258_551, if_pos rfl]
  exact lawC_0 k (lawI_s h (gK_type hg) C1 R2 f1 f2)
theorem lw_back {N : Nat} {L : zY} {m : zM} {g : zG} {Q : zQ} {i : Nat} {l5 l6 : zV} (hN : N < 2000000000) (hi : i + 6 ≤ N) (h : lawI N L m g) (k : lawC N L Q i) : zwp 258 556 [zA 1, zA 2, zA 332, zA 371, zI (i : Int), l5, l6] [] L m Q := by
  have t2 := lawI_2 h
  obtain ⟨hg, hC, hR, ht, hn, ⟨t1, n1⟩, t3, n3, hz⟩ := id h
  have t0 := mt332 ht
  simp only [s258_556, s258_557, Int.toNat_natCast, true_and, and_true, true_or, or_true, false_or, or_false, zwr_id, zpu_some, zpu_none, reduceIte, Int.reduceLE, Int.reduceLT, Int.reduceEq, Int.reduceNeg, Int.reduceAdd, Int.reduceSub, Int.reduceMul, Int.reduceToNat, Nat.reduceAdd, Nat.reduceLeDiff, Nat.reduceEqDiff, Nat.reduceLT, eq_self, ne_eq, not_false_eq_true, not_true_eq_false, t1, t2, n1]
  refine c_back hg.1 hC (fun m1 C1 f1 => ?_)
  simp only [s258_560, s258_561, zpu_some, Int.toNat_natCast, true_and, and_true, true_or, or_true, false_or, or_false, zwr_id, zpu_some, zpu_none, reduceIte, Int.reduceLE, Int.reduceLT, Int.reduceEq, Int.reduceNeg, Int.reduceAdd, Int.reduceSub, Int.reduceMul, Int.reduceToNat, Nat.reduceAdd, Nat.reduceLeDiff, Nat.reduceEqDiff, Nat.reduceLT, eq_self, ne_eq, not_false_eq_true, not_true_eq_false, t0, t1, n1]
  refine c_rback ht hn hg.1 (lawI_r h f1) (fun m2 R2 f2 => ?_)
  simp only [zpu_some]
  rw [s258_564, if_pos rfl]
  exact lawC_0 k (lawI_s h (gK_back hg) C1 R2 f1 f2)
theorem lw_del {N : Nat} {L : zY} {m : zM} {g : zG} {Q : zQ} {i : Nat} {l5 l6 : zV} (hN : N < 2000000000) (hi : i + 6 ≤ N) (h : lawI N L m g) (k : lawC N L Q i) : zwp 258 569 [zA 1, zA 2, zA 332, zA 371, zI (i : Int), l5, l6] [] L m Q := by
  have t2 := lawI_2 h
  obtain ⟨hg, hC, hR, ht, hn, ⟨t1, n1⟩, t3, n3, hz⟩ := id h
  have t0 := mt332 ht
  simp only [s258_569, s258_570, Int.toNat_natCast, true_and, and_true, true_or, or_true, false_or, or_false, zwr_id, zpu_some, zpu_none, reduceIte, Int.reduceLE, Int.reduceLT, Int.reduceEq, Int.reduceNeg, Int.reduceAdd, Int.reduceSub, Int.reduceMul, Int.reduceToNat, Nat.reduceAdd, Nat.reduceLeDiff, Nat.reduceEqDiff, Nat.reduceLT, eq_self, ne_eq, not_false_eq_true, not_true_eq_false, t1, t2, n1]
  refine c_del hg.1 hC (fun m1 C1 f1 => ?_)
  simp only [s258_573, s258_574, zpu_some, Int.toNat_natCast, true_and, and_true, true_or, or_true, false_or, or_false, zwr_id, zpu_some, zpu_none, reduceIte, Int.reduceLE, Int.reduceLT, Int.reduceEq, Int.reduceNeg, Int.reduceAdd, Int.reduceSub, Int.reduceMul, Int.reduceToNat, Nat.reduceAdd, Nat.reduceLeDiff, Nat.reduceEqDiff, Nat.reduceLT, eq_self, ne_eq, not_false_eq_true, not_true_eq_false, t0, t1, n1]
  refine c_rdel ht hn hg.1 (lawI_r h f1) (fun m2 R2 f2 => ?_)
  simp only [zpu_some]
  rw [s258_577, if_pos rfl]
  exact lawC_0 k (lawI_s h (gK_del hg) C1 R2 f1 f2)
theorem lw_goes {N : Nat} {L : zY} {m : zM} {g : zG} {Q : zQ} {i : Nat} {l5 l6 : zV} (hN : N < 2000000000) (hi : i + 6 ≤ N) (h : lawI N L m g) (k : lawC N L Q i) : zwp 258 582 [zA 1, zA 2, zA 332, zA 371, zI (i : Int), l5, l6] [] L m Q := by
  have t2 := lawI_2 h
  obtain ⟨hg, hC, hR, ht, hn, ⟨t1, n1⟩, t3, n3, hz⟩ := id h
  have t0 := mt332 ht
  have u1 : zwr ((i : Int) + 1) = ((i + 1 : Nat) : Int) := lw_w (c := 1) hN hi (by decide)
  have r1 : 0 ≤ ((i + 1 : Nat) : Int) ∧ ((i + 1 : Nat) : Int) < (N : Int) := lw_r (c := 1) hi (by decide)
  simp only [s258_582, s258_583, s258_584, s258_586, s258_587, s258_588, s258_589, Int.toNat_natCast, true_and, and_true, true_or, or_true, false_or, or_false, zwr_id, zpu_some, zpu_none, reduceIte, Int.reduceLE, Int.reduceLT, Int.reduceEq, Int.reduceNeg, Int.reduceAdd, Int.reduceSub, Int.reduceMul, Int.reduceToNat, Nat.reduceAdd, Nat.reduceLeDiff, Nat.reduceEqDiff, Nat.reduceLT, eq_self, ne_eq, not_false_eq_true, not_true_eq_false, t1, t2, n1, u1, r1, and_self]
  refine c_goes hg.1 hC (fun m1 C1 f1 => ?_)
  simp only [s258_592, s258_593, s258_594, s258_596, s258_597, s258_598, s258_599, zpu_some, Int.toNat_natCast, true_and, and_true, true_or, or_true, false_or, or_false, zwr_id, zpu_some, zpu_none, reduceIte, Int.reduceLE, Int.reduceLT, Int.reduceEq, Int.reduceNeg, Int.reduceAdd, Int.reduceSub, Int.reduceMul, Int.reduceToNat, Nat.reduceAdd, Nat.reduceLeDiff, Nat.reduceEqDiff, Nat.reduceLT, eq_self, ne_eq, not_false_eq_true, not_true_eq_false, t0, t1, n1, u1, r1, and_self, f1 1 (by decide)]
  refine c_rgoes ht hn hg.1 (lawI_r h f1) (fun m2 R2 f2 => ?_)
  simp only [zpu_some]
  rw [s258_602, if_pos rfl]
  exact lawC_0 k (lawI_s h (gK_goes hg) C1 R2 f1 f2)
theorem lw_tidy {N : Nat} {L : zY} {m : zM} {g : zG} {Q : zQ} {i : Nat} {l5 l6 : zV} (hN : N < 2000000000) (hi : i + 6 ≤ N) (h : lawI N L m g) (k : lawC N L Q i) : zwp 258 607 [zA 1, zA 2, zA 332, zA 371, zI (i : Int), l5, l6] [] L m Q := by
  have t2 := lawI_2 h
  obtain ⟨hg, hC, hR, ht, hn, ⟨t1, n1⟩, t3, n3, hz⟩ := id h
  have t0 := mt332 ht
  simp only [s258_607, s258_608, Int.toNat_natCast, true_and, and_true, true_or, or_true, false_or, or_false, zwr_id, zpu_some, zpu_none, reduceIte, Int.reduceLE, Int.reduceLT, Int.reduceEq, Int.reduceNeg, Int.reduceAdd, Int.reduceSub, Int.reduceMul, Int.reduceToNat, Nat.reduceAdd, Nat.reduceLeDiff, Nat.reduceEqDiff, Nat.reduceLT, eq_self, ne_eq, not_false_eq_true, not_true_eq_false, t1, t2, n1]
  refine c_tidy hg.1 hC (fun m1 C1 f1 => ?_)
  simp only [s258_611, s258_612, zpu_some, Int.toNat_natCast, true_and, and_true, true_or, or_true, false_or, or_false, zwr_id, zpu_some, zpu_none, reduceIte, Int.reduceLE, Int.reduceLT, Int.reduceEq, Int.reduceNeg, Int.reduceAdd, Int.reduceSub, Int.reduceMul, Int.reduceToNat, Nat.reduceAdd, Nat.reduceLeDiff, Nat.reduceEqDiff, Nat.reduceLT, eq_self, ne_eq, not_false_eq_true, not_true_eq_false, t0, t1, n1]
  refine c_rtidy ht hn hg.1 (lawI_r h f1) (fun m2 R2 f2 => ?_)
  simp only [zpu_some]
  rw [s258_615, if_pos rfl]
  exact lawC_0 k (lawI_s h (gK_tidy hg) C1 R2 f1 f2)
theorem lw_codes {N : Nat} {L : zY} {m : zM} {g : zG} {Q : zQ} {i : Nat} {l5 l6 : zV} (hN : N < 2000000000) (hi : i + 6 ≤ N) (h : lawI N L m g) (k : lawC N L Q i) : zwp 258 620 [zA 1, zA 2, zA 332, zA 371, zI (i : Int), l5, l6] [] L m Q := by
  have t2 := lawI_2 h
  obtain ⟨hg, hC, hR, ht, hn, ⟨t1, n1⟩, t3, n3, hz⟩ := id h
  have t0 := mt332 ht
  have u1 : zwr ((i : Int) + 1) = ((i + 1 : Nat) : Int) := lw_w (c := 1) hN hi (by decide)
  have r1 : 0 ≤ ((i + 1 : Nat) : Int) ∧ ((i + 1 : Nat) : Int) < (N : Int) := lw_r (c := 1) hi (by decide)
  simp only [s258_620, s258_621, s258_622, s258_624, s258_625, s258_626, s258_627, Int.toNat_natCast, true_and, and_true, true_or, or_true, false_or, or_false, zwr_id, zpu_some, zpu_none, reduceIte, Int.reduceLE, Int.reduceLT, Int.reduceEq, Int.reduceNeg, Int.reduceAdd, Int.reduceSub, Int.reduceMul, Int.reduceToNat, Nat.reduceAdd, Nat.reduceLeDiff, Nat.reduceEqDiff, Nat.reduceLT, eq_self, ne_eq, not_false_eq_true, not_true_eq_false, t1, t2, n1, u1, r1, and_self]
  refine c_codes hg.1 hC (fun m1 C1 f1 => ?_)
  simp only [s258_630, s258_631, s258_632, s258_634, s258_635, s258_636, s258_637, zpu_some, Int.toNat_natCast, true_and, and_true, true_or, or_true, false_or, or_false, zwr_id, zpu_some, zpu_none, reduceIte, Int.reduceLE, Int.reduceLT, Int.reduceEq, Int.reduceNeg, Int.reduceAdd, Int.reduceSub, Int.reduceMul, Int.reduceToNat, Nat.reduceAdd, Nat.reduceLeDiff, Nat.reduceEqDiff, Nat.reduceLT, eq_self, ne_eq, not_false_eq_true, not_true_eq_false, t0, t1, n1, u1, r1, and_self, f1 1 (by decide)]
  refine c_rcodes ht hn hg.1 (lawI_r h f1) (fun m2 R2 f2 => ?_)
  simp only [zpu_some]
  rw [s258_640, if_pos rfl]
  exact lawC_0 k (lawI_s h (gK_codes hg) C1 R2 f1 f2)
theorem lw_undo {N : Nat} {L : zY} {m : zM} {g : zG} {Q : zQ} {i : Nat} {l5 l6 : zV} (hN : N < 2000000000) (hi : i + 6 ≤ N) (h : lawI N L m g) (k : lawC N L Q i) : zwp 258 645 [zA 1, zA 2, zA 332, zA 371, zI (i : Int), l5, l6] [] L m Q := by
  have t2 := lawI_2 h
  obtain ⟨hg, hC, hR, ht, hn, ⟨t1, n1⟩, t3, n3, hz⟩ := id h
  have t0 := mt332 ht
  simp only [s258_645, s258_646, Int.toNat_natCast, true_and, and_true, true_or, or_true, false_or, or_false, zwr_id, zpu_some, zpu_none, reduceIte, Int.reduceLE, Int.reduceLT, Int.reduceEq, Int.reduceNeg, Int.reduceAdd, Int.reduceSub, Int.reduceMul, Int.reduceToNat, Nat.reduceAdd, Nat.reduceLeDiff, Nat.reduceEqDiff, Nat.reduceLT, eq_self, ne_eq, not_false_eq_true, not_true_eq_false, t1, t2, n1]
  refine c_undo hg.1 hC (fun m1 C1 f1 => ?_)
  simp only [s258_649, s258_650, zpu_some, Int.toNat_natCast, true_and, and_true, true_or, or_true, false_or, or_false, zwr_id, zpu_some, zpu_none, reduceIte, Int.reduceLE, Int.reduceLT, Int.reduceEq, Int.reduceNeg, Int.reduceAdd, Int.reduceSub, Int.reduceMul, Int.reduceToNat, Nat.reduceAdd, Nat.reduceLeDiff, Nat.reduceEqDiff, Nat.reduceLT, eq_self, ne_eq, not_false_eq_true, not_true_eq_false, t0, t1, n1]
  refine c_rundo ht hn hg.1 (lawI_r h f1) (fun m2 R2 f2 => ?_)
  simp only [zpu_some]
  rw [s258_653, if_pos rfl]
  exact lawC_0 k (lawI_s h (gK_undo hg) C1 R2 f1 f2)
theorem lw_at {N : Nat} {L : zY} {m : zM} {g : zG} {Q : zQ} {i : Nat} {l5 l6 : zV} (hN : N < 2000000000) (hi : i + 6 ≤ N) (h : lawI N L m g) (k : lawC N L Q i) : zwp 258 658 [zA 1, zA 2, zA 332, zA 371, zI (i : Int), l5, l6] [] L m Q := by
  have t2 := lawI_2 h
  obtain ⟨hg, hC, hR, ht, hn, ⟨t1, n1⟩, t3, n3, hz⟩ := id h
  have t0 := mt332 ht
  have u1 : zwr ((i : Int) + 1) = ((i + 1 : Nat) : Int) := lw_w (c := 1) hN hi (by decide)
  have r1 : 0 ≤ ((i + 1 : Nat) : Int) ∧ ((i + 1 : Nat) : Int) < (N : Int) := lw_r (c := 1) hi (by decide)
  simp only [s258_658, s258_659, s258_660, s258_662, s258_663, s258_664, s258_665, Int.toNat_natCast, true_and, and_true, true_or, or_true, false_or, or_false, zwr_id, zpu_some, zpu_none, reduceIte, Int.reduceLE, Int.reduceLT, Int.reduceEq, Int.reduceNeg, Int.reduceAdd, Int.reduceSub, Int.reduceMul, Int.reduceToNat, Nat.reduceAdd, Nat.reduceLeDiff, Nat.reduceEqDiff, Nat.reduceLT, eq_self, ne_eq, not_false_eq_true, not_true_eq_false, t1, t2, n1, u1, r1, and_self]
  refine c_at hC (fun m1 C1 f1 => ?_)
  simp only [s258_668, s258_669, s258_670, s258_672, s258_673, s258_674, s258_675, zpu_some, Int.toNat_natCast, true_and, and_true, true_or, or_true, false_or, or_false, zwr_id, zpu_some, zpu_none, reduceIte, Int.reduceLE, Int.reduceLT, Int.reduceEq, Int.reduceNeg, Int.reduceAdd, Int.reduceSub, Int.reduceMul, Int.reduceToNat, Nat.reduceAdd, Nat.reduceLeDiff, Nat.reduceEqDiff, Nat.reduceLT, eq_self, ne_eq, not_false_eq_true, not_true_eq_false, t0, t1, n1, u1, r1, and_self, f1 1 (by decide)]
  refine c_rat ht hn hg.1 (lawI_r h f1) (fun m2 R2 f2 => ?_)
  simp only [zpu_some]
  rw [s258_678, if_pos rfl]
  exact lawC_0 k (lawI_s h (gK_at hg) C1 R2 f1 f2)
theorem lw_of {N : Nat} {L : zY} {m : zM} {g : zG} {Q : zQ} {i : Nat} {l5 l6 : zV} (hN : N < 2000000000) (hi : i + 6 ≤ N) (h : lawI N L m g) (k : lawC N L Q i) : zwp 258 683 [zA 1, zA 2, zA 332, zA 371, zI (i : Int), l5, l6] [] L m Q := by
  have t2 := lawI_2 h
  obtain ⟨hg, hC, hR, ht, hn, ⟨t1, n1⟩, t3, n3, hz⟩ := id h
  have t0 := mt332 ht
  have u1 : zwr ((i : Int) + 1) = ((i + 1 : Nat) : Int) := lw_w (c := 1) hN hi (by decide)
  have r1 : 0 ≤ ((i + 1 : Nat) : Int) ∧ ((i + 1 : Nat) : Int) < (N : Int) := lw_r (c := 1) hi (by decide)
  have u2 : zwr ((i : Int) + 2) = ((i + 2 : Nat) : Int) := lw_w (c := 2) hN hi (by decide)
  have r2 : 0 ≤ ((i + 2 : Nat) : Int) ∧ ((i + 2 : Nat) : Int) < (N : Int) := lw_r (c := 2) hi (by decide)
  simp only [s258_683, s258_684, s258_685, s258_687, s258_688, s258_689, s258_690, s258_691, s258_693, s258_694, s258_695, s258_696, Int.toNat_natCast, true_and, and_true, true_or, or_true, false_or, or_false, zwr_id, zpu_some, zpu_none, reduceIte, Int.reduceLE, Int.reduceLT, Int.reduceEq, Int.reduceNeg, Int.reduceAdd, Int.reduceSub, Int.reduceMul, Int.reduceToNat, Nat.reduceAdd, Nat.reduceLeDiff, Nat.reduceEqDiff, Nat.reduceLT, eq_self, ne_eq, not_false_eq_true, not_true_eq_false, t1, t2, n1, u1, r1, u2, r2, and_self]
  refine c_of hg.1 hC (fun m1 C1 f1 => ?_)
  simp only [s258_699, s258_700, s258_701, s258_703, s258_704, s258_705, s258_706, s258_707, s258_709, s258_710, s258_711, s258_712, zpu_some, Int.toNat_natCast, true_and, and_true, true_or, or_true, false_or, or_false, zwr_id, zpu_some, zpu_none, reduceIte, Int.reduceLE, Int.reduceLT, Int.reduceEq, Int.reduceNeg, Int.reduceAdd, Int.reduceSub, Int.reduceMul, Int.reduceToNat, Nat.reduceAdd, Nat.reduceLeDiff, Nat.reduceEqDiff, Nat.reduceLT, eq_self, ne_eq, not_false_eq_true, not_true_eq_false, t0, t1, n1, u1, r1, u2, r2, and_self, f1 1 (by decide)]
  refine c_rof ht hn hg.1 (lawI_r h f1) (fun m2 R2 f2 => ?_)
  simp only [zpu_some]
  rw [s258_715, if_pos rfl]
  exact lawC_0 k (lawI_s h (gK_of hg) C1 R2 f1 f2)
theorem lw_item {N : Nat} {L : zY} {m : zM} {g : zG} {Q : zQ} {i : Nat} {l5 l6 : zV} (hN : N < 2000000000) (hi : i + 6 ≤ N) (h : lawI N L m g) (k : lawC N L Q i) : zwp 258 720 [zA 1, zA 2, zA 332, zA 371, zI (i : Int), l5, l6] [] L m Q := by
  have t2 := lawI_2 h
  obtain ⟨hg, hC, hR, ht, hn, ⟨t1, n1⟩, t3, n3, hz⟩ := id h
  have t0 := mt332 ht
  have u1 : zwr ((i : Int) + 1) = ((i + 1 : Nat) : Int) := lw_w (c := 1) hN hi (by decide)
  have r1 : 0 ≤ ((i + 1 : Nat) : Int) ∧ ((i + 1 : Nat) : Int) < (N : Int) := lw_r (c := 1) hi (by decide)
  have u2 : zwr ((i : Int) + 2) = ((i + 2 : Nat) : Int) := lw_w (c := 2) hN hi (by decide)
  have r2 : 0 ≤ ((i + 2 : Nat) : Int) ∧ ((i + 2 : Nat) : Int) < (N : Int) := lw_r (c := 2) hi (by decide)
  simp only [s258_720, s258_721, s258_722, s258_724, s258_725, s258_726, s258_727, s258_728, s258_730, s258_731, s258_732, s258_733, Int.toNat_natCast, true_and, and_true, true_or, or_true, false_or, or_false, zwr_id, zpu_some, zpu_none, reduceIte, Int.reduceLE, Int.reduceLT, Int.reduceEq, Int.reduceNeg, Int.reduceAdd, Int.reduceSub, Int.reduceMul, Int.reduceToNat, Nat.reduceAdd, Nat.reduceLeDiff, Nat.reduceEqDiff, Nat.reduceLT, eq_self, ne_eq, not_false_eq_true, not_true_eq_false, t1, t2, n1, u1, r1, u2, r2, and_self]
  refine c_item hg.1 hC (fun m1 C1 f1 => ?_)
  simp only [s258_736, s258_737, s258_738, s258_740, s258_741, s258_742, s258_743, s258_744, s258_746, s258_747, s258_748, s258_749, zpu_some, Int.toNat_natCast, true_and, and_true, true_or, or_true, false_or, or_false, zwr_id, zpu_some, zpu_none, reduceIte, Int.reduceLE, Int.reduceLT, Int.reduceEq, Int.reduceNeg, Int.reduceAdd, Int.reduceSub, Int.reduceMul, Int.reduceToNat, Nat.reduceAdd, Nat.reduceLeDiff, Nat.reduceEqDiff, Nat.reduceLT, eq_self, ne_eq, not_false_eq_true, not_true_eq_false, t0, t1, n1, u1, r1, u2, r2, and_self, f1 1 (by decide)]
  refine c_ritem ht hn hg.1 (lawI_r h f1) (fun m2 R2 f2 => ?_)
  simp only [zpu_some]
  rw [s258_752, if_pos rfl]
  exact lawC_0 k (lawI_s h (gK_item hg) C1 R2 f1 f2)
theorem lw_within {N : Nat} {L : zY} {m : zM} {g : zG} {Q : zQ} {i : Nat} {l5 l6 : zV} (hN : N < 2000000000) (hi : i + 6 ≤ N) (h : lawI N L m g) (k : lawC N L Q i) : zwp 258 757 [zA 1, zA 2, zA 332, zA 371, zI (i : Int), l5, l6] [] L m Q := by
  have t2 := lawI_2 h
  obtain ⟨hg, hC, hR, ht, hn, ⟨t1, n1⟩, t3, n3, hz⟩ := id h
  have t0 := mt332 ht
  simp only [s258_757, s258_758, Int.toNat_natCast, true_and, and_true, true_or, or_true, false_or, or_false, zwr_id, zpu_some, zpu_none, reduceIte, Int.reduceLE, Int.reduceLT, Int.reduceEq, Int.reduceNeg, Int.reduceAdd, Int.reduceSub, Int.reduceMul, Int.reduceToNat, Nat.reduceAdd, Nat.reduceLeDiff, Nat.reduceEqDiff, Nat.reduceLT, eq_self, ne_eq, not_false_eq_true, not_true_eq_false, t1, t2, n1]
  refine c_within hg.1 hC (fun m1 C1 f1 => ?_)
  simp only [s258_761, s258_762, zpu_some, Int.toNat_natCast, true_and, and_true, true_or, or_true, false_or, or_false, zwr_id, zpu_some, zpu_none, reduceIte, Int.reduceLE, Int.reduceLT, Int.reduceEq, Int.reduceNeg, Int.reduceAdd, Int.reduceSub, Int.reduceMul, Int.reduceToNat, Nat.reduceAdd, Nat.reduceLeDiff, Nat.reduceEqDiff, Nat.reduceLT, eq_self, ne_eq, not_false_eq_true, not_true_eq_false, t0, t1, n1]
  refine c_rwithin ht hn hg.1 (lawI_r h f1) (fun m2 R2 f2 => ?_)
  simp only [zpu_some]
  rw [s258_765, if_pos rfl]
  exact lawC_0 k (lawI_s h (gK_within hg) C1 R2 f1 f2)
theorem lw_needed {N : Nat} {L : zY} {m : zM} {g : zG} {Q : zQ} {i : Nat} {l5 l6 : zV} (hN : N < 2000000000) (hi : i + 6 ≤ N) (h : lawI N L m g) (k : lawC N L Q i) : zwp 258 770 [zA 1, zA 2, zA 332, zA 371, zI (i : Int), l5, l6] [] L m Q := by
  have t2 := lawI_2 h
  obtain ⟨hg, hC, hR, ht, hn, ⟨t1, n1⟩, t3, n3, hz⟩ := id h
  have t0 := mt332 ht
  have u1 : zwr ((i : Int) + 1) = ((i + 1 : Nat) : Int) := lw_w (c := 1) hN hi (by decide)
  have r1 : 0 ≤ ((i + 1 : Nat) : Int) ∧ ((i + 1 : Nat) : Int) < (N : Int) := lw_r (c := 1) hi (by decide)
  simp only [s258_770, s258_771, s258_772, s258_774, s258_775, s258_776, s258_777, Int.toNat_natCast, true_and, and_true, true_or, or_true, false_or, or_false, zwr_id, zpu_some, zpu_none, reduceIte, Int.reduceLE, Int.reduceLT, Int.reduceEq, Int.reduceNeg, Int.reduceAdd, Int.reduceSub, Int.reduceMul, Int.reduceToNat, Nat.reduceAdd, Nat.reduceLeDiff, Nat.reduceEqDiff, Nat.reduceLT, eq_self, ne_eq, not_false_eq_true, not_true_eq_false, t1, t2, n1, u1, r1, and_self]
  refine c_needed hg.1 hC (fun m1 C1 f1 => ?_)
  simp only [s258_780, s258_781, s258_782, s258_784, s258_785, s258_786, s258_787, zpu_some, Int.toNat_natCast, true_and, and_true, true_or, or_true, false_or, or_false, zwr_id, zpu_some, zpu_none, reduceIte, Int.reduceLE, Int.reduceLT, Int.reduceEq, Int.reduceNeg, Int.reduceAdd, Int.reduceSub, Int.reduceMul, Int.reduceToNat, Nat.reduceAdd, Nat.reduceLeDiff, Nat.reduceEqDiff, Nat.reduceLT, eq_self, ne_eq, not_false_eq_true, not_true_eq_false, t0, t1, n1, u1, r1, and_self, f1 1 (by decide)]
  refine c_rneeded ht hn hg.1 (lawI_r h f1) (fun m2 R2 f2 => ?_)
  simp only [zpu_some]
  rw [s258_790, if_pos rfl]
  exact lawC_0 k (lawI_s h (gK_needed hg) C1 R2 f1 f2)
theorem lw_bare {N : Nat} {L : zY} {m : zM} {g : zG} {Q : zQ} {i : Nat} {l5 l6 : zV} (hN : N < 2000000000) (hi : i + 6 ≤ N) (h : lawI N L m g) (k : lawC N L Q i) : zwp 258 795 [zA 1, zA 2, zA 332, zA 371, zI (i : Int), l5, l6] [] L m Q := by
  have t2 := lawI_2 h
  obtain ⟨hg, hC, hR, ht, hn, ⟨t1, n1⟩, t3, n3, hz⟩ := id h
  have t0 := mt332 ht
  simp only [s258_795, s258_796, Int.toNat_natCast, true_and, and_true, true_or, or_true, false_or, or_false, zwr_id, zpu_some, zpu_none, reduceIte, Int.reduceLE, Int.reduceLT, Int.reduceEq, Int.reduceNeg, Int.reduceAdd, Int.reduceSub, Int.reduceMul, Int.reduceToNat, Nat.reduceAdd, Nat.reduceLeDiff, Nat.reduceEqDiff, Nat.reduceLT, eq_self, ne_eq, not_false_eq_true, not_true_eq_false, t1, t2, n1]
  refine c_bare hg.1 hC (fun m1 C1 f1 => ?_)
  simp only [s258_799, s258_800, zpu_some, Int.toNat_natCast, true_and, and_true, true_or, or_true, false_or, or_false, zwr_id, zpu_some, zpu_none, reduceIte, Int.reduceLE, Int.reduceLT, Int.reduceEq, Int.reduceNeg, Int.reduceAdd, Int.reduceSub, Int.reduceMul, Int.reduceToNat, Nat.reduceAdd, Nat.reduceLeDiff, Nat.reduceEqDiff, Nat.reduceLT, eq_self, ne_eq, not_false_eq_true, not_true_eq_false, t0, t1, n1]
  refine c_rbareP ht hn hg.1 (lawI_r h f1) (fun m2 R2 f2 => ?_)
  simp only [zpu_some]
  rw [s258_803, if_pos rfl]
  exact lawC_0 k (lawI_s h (gK_bare hg) C1 R2 f1 f2)
theorem lw_would {N : Nat} {L : zY} {m : zM} {g : zG} {Q : zQ} {i : Nat} {l5 l6 : zV} (hN : N < 2000000000) (hi : i + 6 ≤ N) (h : lawI N L m g) (k : lawC N L Q i) : zwp 258 808 [zA 1, zA 2, zA 332, zA 371, zI (i : Int), l5, l6] [] L m Q := by
  have t2 := lawI_2 h
  obtain ⟨hg, hC, hR, ht, hn, ⟨t1, n1⟩, t3, n3, hz⟩ := id h
  have t0 := mt332 ht
  have u1 : zwr ((i : Int) + 1) = ((i + 1 : Nat) : Int) := lw_w (c := 1) hN hi (by decide)
  have r1 : 0 ≤ ((i + 1 : Nat) : Int) ∧ ((i + 1 : Nat) : Int) < (N : Int) := lw_r (c := 1) hi (by decide)
  have u2 : zwr ((i : Int) + 2) = ((i + 2 : Nat) : Int) := lw_w (c := 2) hN hi (by decide)
  have r2 : 0 ≤ ((i + 2 : Nat) : Int) ∧ ((i + 2 : Nat) : Int) < (N : Int) := lw_r (c := 2) hi (by decide)
  simp only [s258_808, s258_809, s258_810, s258_812, s258_813, s258_814, s258_815, s258_816, s258_818, s258_819, s258_820, s258_821, Int.toNat_natCast, true_and, and_true, true_or, or_true, false_or, or_false, zwr_id, zpu_some, zpu_none, reduceIte, Int.reduceLE, Int.reduceLT, Int.reduceEq, Int.reduceNeg, Int.reduceAdd, Int.reduceSub, Int.reduceMul, Int.reduceToNat, Nat.reduceAdd, Nat.reduceLeDiff, Nat.reduceEqDiff, Nat.reduceLT, eq_self, ne_eq, not_false_eq_true, not_true_eq_false, t1, t2, n1, u1, r1, u2, r2, and_self]
  refine c_would hg.1 hC (fun m1 C1 f1 => ?_)
  simp only [s258_824, s258_825, s258_826, s258_828, s258_829, s258_830, s258_831, s258_832, s258_834, s258_835, s258_836, s258_837, zpu_some, Int.toNat_natCast, true_and, and_true, true_or, or_true, false_or, or_false, zwr_id, zpu_some, zpu_none, reduceIte, Int.reduceLE, Int.reduceLT, Int.reduceEq, Int.reduceNeg, Int.reduceAdd, Int.reduceSub, Int.reduceMul, Int.reduceToNat, Nat.reduceAdd, Nat.reduceLeDiff, Nat.reduceEqDiff, Nat.reduceLT, eq_self, ne_eq, not_false_eq_true, not_true_eq_false, t0, t1, n1, u1, r1, u2, r2, and_self, f1 1 (by decide)]
  refine c_rwould ht hn hg.1 (lawI_r h f1) (fun m2 R2 f2 => ?_)
  simp only [zpu_some]
  rw [s258_840, if_pos rfl]
  exact lawC_0 k (lawI_s h (gK_would hg) C1 R2 f1 f2)
theorem lw_seek {N : Nat} {L : zY} {m : zM} {g : zG} {Q : zQ} {i : Nat} {l5 l6 : zV} (hN : N < 2000000000) (hi : i + 6 ≤ N) (h : lawI N L m g) (k : lawC N L Q i) : zwp 258 845 [zA 1, zA 2, zA 332, zA 371, zI (i : Int), l5, l6] [] L m Q := by
  have t2 := lawI_2 h
  obtain ⟨hg, hC, hR, ht, hn, ⟨t1, n1⟩, t3, n3, hz⟩ := id h
  have t0 := mt332 ht
  have u1 : zwr ((i : Int) + 1) = ((i + 1 : Nat) : Int) := lw_w (c := 1) hN hi (by decide)
  have r1 : 0 ≤ ((i + 1 : Nat) : Int) ∧ ((i + 1 : Nat) : Int) < (N : Int) := lw_r (c := 1) hi (by decide)
  have u2 : zwr ((i : Int) + 2) = ((i + 2 : Nat) : Int) := lw_w (c := 2) hN hi (by decide)
  have r2 : 0 ≤ ((i + 2 : Nat) : Int) ∧ ((i + 2 : Nat) : Int) < (N : Int) := lw_r (c := 2) hi (by decide)
  simp only [s258_845, s258_846, s258_847, s258_849, s258_850, s258_851, s258_852, s258_853, s258_855, s258_856, s258_857, s258_858, Int.toNat_natCast, true_and, and_true, true_or, or_true, false_or, or_false, zwr_id, zpu_some, zpu_none, reduceIte, Int.reduceLE, Int.reduceLT, Int.reduceEq, Int.reduceNeg, Int.reduceAdd, Int.reduceSub, Int.reduceMul, Int.reduceToNat, Nat.reduceAdd, Nat.reduceLeDiff, Nat.reduceEqDiff, Nat.reduceLT, eq_self, ne_eq, not_false_eq_true, not_true_eq_false, t1, t2, n1, u1, r1, u2, r2, and_self]
  refine c_seek hg.1 hC (fun m1 C1 f1 => ?_)
  simp only [s258_861, s258_862, s258_863, s258_865, s258_866, s258_867, s258_868, s258_869, s258_871, s258_872, s258_873, s258_874, zpu_some, Int.toNat_natCast, true_and, and_true, true_or, or_true, false_or, or_false, zwr_id, zpu_some, zpu_none, reduceIte, Int.reduceLE, Int.reduceLT, Int.reduceEq, Int.reduceNeg, Int.reduceAdd, Int.reduceSub, Int.reduceMul, Int.reduceToNat, Nat.reduceAdd, Nat.reduceLeDiff, Nat.reduceEqDiff, Nat.reduceLT, eq_self, ne_eq, not_false_eq_true, not_true_eq_false, t0, t1, n1, u1, r1, u2, r2, and_self, f1 1 (by decide)]
  refine c_rseek ht hn hg.1 (lawI_r h f1) (fun m2 R2 f2 => ?_)
  simp only [zpu_some]
  rw [s258_877, if_pos rfl]
  exact lawC_0 k (lawI_s h (gK_seek hg) C1 R2 f1 f2)
theorem lw_ranked {N : Nat} {L : zY} {m : zM} {g : zG} {Q : zQ} {i : Nat} {l5 l6 : zV} (hN : N < 2000000000) (hi : i + 6 ≤ N) (h : lawI N L m g) (k : lawC N L Q i) : zwp 258 882 [zA 1, zA 2, zA 332, zA 371, zI (i : Int), l5, l6] [] L m Q := by
  have t2 := lawI_2 h
  obtain ⟨hg, hC, hR, ht, hn, ⟨t1, n1⟩, t3, n3, hz⟩ := id h
  have t0 := mt332 ht
  have u1 : zwr ((i : Int) + 1) = ((i + 1 : Nat) : Int) := lw_w (c := 1) hN hi (by decide)
  have r1 : 0 ≤ ((i + 1 : Nat) : Int) ∧ ((i + 1 : Nat) : Int) < (N : Int) := lw_r (c := 1) hi (by decide)
  simp only [s258_882, s258_883, s258_884, s258_886, s258_887, s258_888, s258_889, Int.toNat_natCast, true_and, and_true, true_or, or_true, false_or, or_false, zwr_id, zpu_some, zpu_none, reduceIte, Int.reduceLE, Int.reduceLT, Int.reduceEq, Int.reduceNeg, Int.reduceAdd, Int.reduceSub, Int.reduceMul, Int.reduceToNat, Nat.reduceAdd, Nat.reduceLeDiff, Nat.reduceEqDiff, Nat.reduceLT, eq_self, ne_eq, not_false_eq_true, not_true_eq_false, t1, t2, n1, u1, r1, and_self]
  refine c_ranked hg.1 hC (fun m1 C1 f1 => ?_)
  simp only [s258_892, s258_893, s258_894, s258_896, s258_897, s258_898, s258_899, zpu_some, Int.toNat_natCast, true_and, and_true, true_or, or_true, false_or, or_false, zwr_id, zpu_some, zpu_none, reduceIte, Int.reduceLE, Int.reduceLT, Int.reduceEq, Int.reduceNeg, Int.reduceAdd, Int.reduceSub, Int.reduceMul, Int.reduceToNat, Nat.reduceAdd, Nat.reduceLeDiff, Nat.reduceEqDiff, Nat.reduceLT, eq_self, ne_eq, not_false_eq_true, not_true_eq_false, t0, t1, n1, u1, r1, and_self, f1 1 (by decide)]
  refine c_rranked ht hn hg.1 (lawI_r h f1) (fun m2 R2 f2 => ?_)
  simp only [zpu_some]
  rw [s258_902, if_pos rfl]
  exact lawC_0 k (lawI_s h (gK_rank hg) C1 R2 f1 f2)
theorem lw_ways {N : Nat} {L : zY} {m : zM} {g : zG} {Q : zQ} {i : Nat} {l5 l6 : zV} (hN : N < 2000000000) (hi : i + 6 ≤ N) (h : lawI N L m g) (k : lawC N L Q i) : zwp 258 907 [zA 1, zA 2, zA 332, zA 371, zI (i : Int), l5, l6] [] L m Q := by
  have t2 := lawI_2 h
  obtain ⟨hg, hC, hR, ht, hn, ⟨t1, n1⟩, t3, n3, hz⟩ := id h
  have t0 := mt332 ht
  have u1 : zwr ((i : Int) + 1) = ((i + 1 : Nat) : Int) := lw_w (c := 1) hN hi (by decide)
  have r1 : 0 ≤ ((i + 1 : Nat) : Int) ∧ ((i + 1 : Nat) : Int) < (N : Int) := lw_r (c := 1) hi (by decide)
  have u2 : zwr ((i : Int) + 2) = ((i + 2 : Nat) : Int) := lw_w (c := 2) hN hi (by decide)
  have r2 : 0 ≤ ((i + 2 : Nat) : Int) ∧ ((i + 2 : Nat) : Int) < (N : Int) := lw_r (c := 2) hi (by decide)
  simp only [s258_907, s258_908, s258_909, s258_911, s258_912, s258_913, s258_914, s258_915, s258_917, s258_918, s258_919, s258_920, Int.toNat_natCast, true_and, and_true, true_or, or_true, false_or, or_false, zwr_id, zpu_some, zpu_none, reduceIte, Int.reduceLE, Int.reduceLT, Int.reduceEq, Int.reduceNeg, Int.reduceAdd, Int.reduceSub, Int.reduceMul, Int.reduceToNat, Nat.reduceAdd, Nat.reduceLeDiff, Nat.reduceEqDiff, Nat.reduceLT, eq_self, ne_eq, not_false_eq_true, not_true_eq_false, t1, t2, n1, u1, r1, u2, r2, and_self]
  refine c_ways hg.1 hC (fun m1 C1 f1 => ?_)
  simp only [s258_923, s258_924, s258_925, s258_927, s258_928, s258_929, s258_930, s258_931, s258_933, s258_934, s258_935, s258_936, zpu_some, Int.toNat_natCast, true_and, and_true, true_or, or_true, false_or, or_false, zwr_id, zpu_some, zpu_none, reduceIte, Int.reduceLE, Int.reduceLT, Int.reduceEq, Int.reduceNeg, Int.reduceAdd, Int.reduceSub, Int.reduceMul, Int.reduceToNat, Nat.reduceAdd, Nat.reduceLeDiff, Nat.reduceEqDiff, Nat.reduceLT, eq_self, ne_eq, not_false_eq_true, not_true_eq_false, t0, t1, n1, u1, r1, u2, r2, and_self, f1 1 (by decide)]
  refine c_rways ht hn hg.1 (lawI_r h f1) (fun m2 R2 f2 => ?_)
  simp only [zpu_some]
  rw [s258_939, if_neg (Int.lt_irrefl _), if_pos rfl, s258_940, if_pos rfl]
  exact lawC_0 k (lawI_s h (gK_ways hg) C1 R2 f1 f2)
theorem lw_whole {N : Nat} {L : zY} {m : zM} {g : zG} {Q : zQ} {i : Nat} {l5 l6 : zV} (hN : N < 2000000000) (hi : i + 6 ≤ N) (h : lawI N L m g) (k : lawC N L Q i) : zwp 258 945 [zA 1, zA 2, zA 332, zA 371, zI (i : Int), l5, l6] [] L m Q := by
  have t2 := lawI_2 h
  obtain ⟨hg, hC, hR, ht, hn, ⟨t1, n1⟩, t3, n3, hz⟩ := id h
  have t0 := mt332 ht
  have u1 : zwr ((i : Int) + 1) = ((i + 1 : Nat) : Int) := lw_w (c := 1) hN hi (by decide)
  have r1 : 0 ≤ ((i + 1 : Nat) : Int) ∧ ((i + 1 : Nat) : Int) < (N : Int) := lw_r (c := 1) hi (by decide)
  simp only [s258_945, s258_946, s258_947, s258_949, s258_950, s258_951, s258_952, Int.toNat_natCast, true_and, and_true, true_or, or_true, false_or, or_false, zwr_id, zpu_some, zpu_none, reduceIte, Int.reduceLE, Int.reduceLT, Int.reduceEq, Int.reduceNeg, Int.reduceAdd, Int.reduceSub, Int.reduceMul, Int.reduceToNat, Nat.reduceAdd, Nat.reduceLeDiff, Nat.reduceEqDiff, Nat.reduceLT, eq_self, ne_eq, not_false_eq_true, not_true_eq_false, t1, t2, n1, u1, r1, and_self]
  refine c_whole hg.1 hC (fun m1 C1 f1 => ?_)
  simp only [s258_955, s258_956, s258_957, s258_959, s258_960, s258_961, s258_962, zpu_some, Int.toNat_natCast, true_and, and_true, true_or, or_true, false_or, or_false, zwr_id, zpu_some, zpu_none, reduceIte, Int.reduceLE, Int.reduceLT, Int.reduceEq, Int.reduceNeg, Int.reduceAdd, Int.reduceSub, Int.reduceMul, Int.reduceToNat, Nat.reduceAdd, Nat.reduceLeDiff, Nat.reduceEqDiff, Nat.reduceLT, eq_self, ne_eq, not_false_eq_true, not_true_eq_false, t0, t1, n1, u1, r1, and_self, f1 1 (by decide)]
  refine c_rwhole ht hn hg.1 (lawI_r h f1) (fun m2 R2 f2 => ?_)
  simp only [zpu_some]
  rw [s258_965, if_neg (Int.lt_irrefl _), if_pos rfl, s258_966, if_pos rfl]
  exact lawC_0 k (lawI_s h (gK_whole hg) C1 R2 f1 f2)
theorem lw_size {N : Nat} {L : zY} {m : zM} {g : zG} {Q : zQ} {i : Nat} {l5 l6 : zV} (hN : N < 2000000000) (hi : i + 6 ≤ N) (h : lawI N L m g) (k : lawC N L Q i) : zwp 258 1039 [zA 1, zA 2, zA 332, zA 371, zI (i : Int), l5, l6] [] L m Q := by
  have t2 := lawI_2 h
  obtain ⟨hg, hC, hR, ht, hn, ⟨t1, n1⟩, t3, n3, hz⟩ := id h
  have t0 := mt332 ht
  simp only [s258_1039, s258_1040, Int.toNat_natCast, true_and, and_true, true_or, or_true, false_or, or_false, zwr_id, zpu_some, zpu_none, reduceIte, Int.reduceLE, Int.reduceLT, Int.reduceEq, Int.reduceNeg, Int.reduceAdd, Int.reduceSub, Int.reduceMul, Int.reduceToNat, Nat.reduceAdd, Nat.reduceLeDiff, Nat.reduceEqDiff, Nat.reduceLT, eq_self, ne_eq, not_false_eq_true, not_true_eq_false, t1, t2, n1]
  refine c_size hC ?_
  simp only [s258_1043, s258_1044, zpu_some, Int.toNat_natCast, true_and, and_true, true_or, or_true, false_or, or_false, zwr_id, zpu_some, zpu_none, reduceIte, Int.reduceLE, Int.reduceLT, Int.reduceEq, Int.reduceNeg, Int.reduceAdd, Int.reduceSub, Int.reduceMul, Int.reduceToNat, Nat.reduceAdd, Nat.reduceLeDiff, Nat.reduceEqDiff, Nat.reduceLT, eq_self, ne_eq, not_false_eq_true, not_true_eq_false, t0]
  refine c_rsize ht hg.1 hR (fun m2 R2 f2 => ?_)
  simp only [zpu_some]
  rw [s258_1047, if_pos rfl]
  exact lawC_0 k (lawI_s h hg hC R2 (fun _ _ => rfl) f2)
theorem lw_trouble {N : Nat} {L : zY} {m : zM} {g : zG} {Q : zQ} {i : Nat} {l5 l6 : zV} (hN : N < 2000000000) (hi : i + 6 ≤ N) (h : lawI N L m g) (k : lawC N L Q i) : zwp 258 1052 [zA 1, zA 2, zA 332, zA 371, zI (i : Int), l5, l6] [] L m Q := by
  have t2 := lawI_2 h
  obtain ⟨hg, hC, hR, ht, hn, ⟨t1, n1⟩, t3, n3, hz⟩ := id h
  have t0 := mt332 ht
  simp only [s258_1052, s258_1053, Int.toNat_natCast, true_and, and_true, true_or, or_true, false_or, or_false, zwr_id, zpu_some, zpu_none, reduceIte, Int.reduceLE, Int.reduceLT, Int.reduceEq, Int.reduceNeg, Int.reduceAdd, Int.reduceSub, Int.reduceMul, Int.reduceToNat, Nat.reduceAdd, Nat.reduceLeDiff, Nat.reduceEqDiff, Nat.reduceLT, eq_self, ne_eq, not_false_eq_true, not_true_eq_false, t1, t2, n1]
  refine c_trouble hC ?_
  simp only [s258_1056, s258_1057, zpu_some, Int.toNat_natCast, true_and, and_true, true_or, or_true, false_or, or_false, zwr_id, zpu_some, zpu_none, reduceIte, Int.reduceLE, Int.reduceLT, Int.reduceEq, Int.reduceNeg, Int.reduceAdd, Int.reduceSub, Int.reduceMul, Int.reduceToNat, Nat.reduceAdd, Nat.reduceLeDiff, Nat.reduceEqDiff, Nat.reduceLT, eq_self, ne_eq, not_false_eq_true, not_true_eq_false, t0]
  refine c_rtrouble ht hg.1 hR (fun m2 R2 f2 => ?_)
  simp only [zpu_some]
  rw [s258_1060, if_pos (show g.2.2.2.2.2.2.2 = gU g from rfl)]
  exact lawC_0 k (lawI_s h hg hC R2 (fun _ _ => rfl) f2)
