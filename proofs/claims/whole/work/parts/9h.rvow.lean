theorem c_rvnew {L : zY} {m : zM} {Q : zQ} {b c : Nat} {s : zMS} {D : zD} {l3 l4 l5 l6 : Int} (ht : zMt L) (hn : zMn L) (hb : b ≤ 1) (hx : rMx m D) (hs : rMS m b s) (hX : msW s) (hp : s.2.2.1.length < 199) (h9 : m 359 (200 * b + s.2.2.1.length) = 0) (hc : c < 26) (k : ∀ m', rMS m' b (kVnew (zPof D) c s) → rBf b m m' → Q none L m') : zwp 196 268 [zA 332, zI (s.2.2.1.length : Int), zI (c : Int), zI l3, zI l4, zI l5, zI l6] [] L m Q := by
  have t0 := mt332 ht
  obtain ⟨len, h49⟩ := rMS_len hs hX hp
  have q27 : m 332 27 = ((344 : Nat) : Int) := mp27 hx.1
  have hrc : 0 ≤ (c : Int) ∧ (c : Int) < ((26 : Nat) : Int) := by omega
  have hmo : m 344 c = dNM D c := hx.2.2.1.1.2.2.2 c hc
  have gb := fun (Q' : zQ) => r_begins (Q := Q') (at0 := (s.2.2.1.length : Int)) (l := -2) (mm := dNM D c) (key := (c : Int)) ht hn hx.1 hs.1 (show b ≤ 2 by omega) h49 len
  have hR := rbeg_f (m := m) (b := b) (l := -2) (mm := dNM D c) (k := (c : Int)) (f := (s.2.2.1.length : Int)) len
  have f2 : rBf b m (zup (rbeg m b (msI s).length (-2) (dNM D c) (c : Int) (s.2.2.1.length : Int)) 332 46 ((msI s).length : Int)) := rBf_up hR (by unfold rIn; omega)
  have hm : zup (rbeg m b (msI s).length (-2) (dNM D c) (c : Int) (s.2.2.1.length : Int)) 332 46 ((msI s).length : Int) 355 (200 * b + (msI s).length) = 0 := by rw [zup_na (by decide)]; unfold rbeg; rw [zup_na (by decide), zup_same]
  have gt := fun (Q' : zQ) => r_takes (Q := Q') (p := s.2.2.1.length) (part := 1) ht hn (zMp_Bf f2 hx.1) (show zup (rbeg m b (msI s).length (-2) (dNM D c) (c : Int) (s.2.2.1.length : Int)) 332 46 ((msI s).length : Int) 332 45 = (b : Int) by rw [zup_nk (by decide), rbeg_o (by decide)]; exact hs.1) hb (show s.2.2.1.length < 200 by omega) len (by rw [hm]; decide)
  simp only [s196_268, s196_269, s196_270, s196_271, s196_273, s196_274, s196_277, s196_278, s196_279, s196_280, s196_283, s196_286, s196_287, s196_288, s196_289, s196_292, s196_293, s196_296, Int.toNat_natCast, true_and, and_true, true_or, or_true, false_or, or_false, zwr_id, zpu_some, zpu_none, reduceIte, Int.reduceLE, Int.reduceLT, Int.reduceEq, Int.reduceNeg, Int.reduceAdd, Int.reduceSub, Int.reduceMul, Int.reduceToNat, Nat.reduceAdd, Nat.reduceLeDiff, Nat.reduceEqDiff, Nat.reduceLT, eq_self, ne_eq, not_false_eq_true, not_true_eq_false, t0, q27, mt344 ht, mn344 hn, hrc, and_self, hmo, gb, zup_same, gt]
  refine k _ ?_ (rBf_tr f2 (rtak_f (by omega) len))
  rw [rtak_cm]
  exact rMS_new hs h9
theorem rM_get {D : zD} {x : Nat} (h2 : x < (dV D).length) : x < (rM D).length ∧ (rM D).getD x (0, 0) = rk1 ((dV D)[x]) := by
  have l : x < (rM D).length := by unfold rM; rw [List.length_append, List.length_map]; omega
  refine ⟨l, ?_⟩
  unfold rM
  rw [List.getD_eq_getElem?_getD, List.getElem?_append_left (by rw [List.length_map]; omega), List.getElem?_map, List.getElem?_eq_getElem (by omega)]
  rfl
theorem c_rvow {L : zY} {m : zM} {Q : zQ} {b c : Nat} {s : zMS} {D : zD} (hD : dOk D) (ht : zMt L) (hn : zMn L) (hb : b ≤ 1) (hx : rMx m D) (hs : rMS m b s) (hX : msX (dnE D) s) (hI : ∀ x, s.2.1 = some x → itM x = -2 ∨ 0 ≤ itM x) (hp : s.2.2.1.length < 199) (h9 : m 359 (200 * b + s.2.2.1.length) = 0) (hc : c < 26) (k : ∀ m', rMS m' b (kVow (zPof D) c s) → rBf b m m' → Q none L m') : zwp 196 0 [zA 332, zI (s.2.2.1.length : Int), zI (c : Int), zU, zU, zU, zU] [] L m Q := by
  have t0 := mt332 ht
  have hb2 : b ≤ 2 := by omega
  have h45 := hs.1
  have h46 := hs.2.1
  obtain ⟨len, h49⟩ := rMS_len hs hX.1 hp
  have hmo : m 344 c = dNM D c := hx.2.2.1.1.2.2.2 c hc
  have q8 : m 332 8 = ((335 : Nat) : Int) := mp8 hx.1
  have q24 : m 332 24 = ((341 : Nat) : Int) := mp24 hx.1
  have q27 : m 332 27 = ((344 : Nat) : Int) := mp27 hx.1
  have q29 : m 332 29 = ((346 : Nat) : Int) := mp29 hx.1
  have q30 : m 332 30 = ((347 : Nat) : Int) := mp30 hx.1
  have q36 : m 332 36 = ((351 : Nat) : Int) := mp36 hx.1
  have q37 : m 332 37 = ((352 : Nat) : Int) := mp37 hx.1
  have hrc : 0 ≤ (c : Int) ∧ (c : Int) < ((26 : Nat) : Int) := by omega
  unfold kVow at k
  have e1 : ∀ x, pVp (zPof D) x c = dVp D x c := fun x => rfl
  have new := fun (kk : ∀ m', rMS m' b (kVnew (zPof D) c s) → rBf b m m' → Q none L m') (l3 l4 l5 l6 : Int) => c_rvnew (l3 := l3) (l4 := l4) (l5 := l5) (l6 := l6) ht hn hb hx hs hX.1 hp h9 hc kk
  cases ho : s.2.1 with
  | none =>
    rw [ho] at h46 k
    simp only [s196_0, s196_1, s196_4, s196_37, s196_38, s196_41, s196_42, s196_79, s196_81, s196_82, s196_83, s196_85, s196_127, s196_129, s196_131, s196_133, s196_135, s196_164, s196_165, s196_168, s196_169, s196_188, s196_190, s196_192, s196_194, s196_196, s196_199, s196_200, s196_241, s196_243, s196_245, s196_246, Int.toNat_natCast, true_and, and_true, true_or, or_true, false_or, or_false, zwr_id, zpu_some, zpu_none, reduceIte, Int.reduceLE, Int.reduceLT, Int.reduceEq, Int.reduceNeg, Int.reduceAdd, Int.reduceSub, Int.reduceMul, Int.reduceToNat, Nat.reduceAdd, Nat.reduceLeDiff, Nat.reduceEqDiff, Nat.reduceLT, eq_self, ne_eq, not_false_eq_true, not_true_eq_false, t0, r_isLA0 ht h46, h46]
    exact new k _ _ _ _
  | some x =>
    rw [ho] at h46 k
    have hj : s.1.length < 200 := by rw [msI_some ho, List.length_append] at len; omega
    have gI := hs.2.2.1
    rw [msI_some ho] at gI
    have gL : m 350 (200 * b + s.1.length) = itL x := zALo_mend gI.2.1
    have gM : m 351 (200 * b + s.1.length) = itM x := zALo_mend gI.2.2.1
    have gE : m 352 (200 * b + s.1.length) = itE x := zALo_mend gI.2.2.2.1
    have gN : m 355 (200 * b + s.1.length) = itN x := zALo_mend gI.2.2.2.2.2.2
    have hN := hX.1.2.2.2.1 x (by rw [msI_some ho]; simp)
    obtain ⟨o1, o2, o3, o4, o5⟩ := hX.2 x ho
    have hI := hI x ho
    have LA := fun Q' : zQ => r_isLA (Q := Q') ht hn hx.1 h45 h46 hb2 hj
    rw [gL, gM] at LA
    have IA := fun Q' : zQ => r_itemAt (Q := Q') (i := s.1.length) t0 h45 hb2 (by omega)
    have hrj : 0 ≤ ((200 * b + s.1.length : Nat) : Int) ∧ ((200 * b + s.1.length : Nat) : Int) < ((600 : Nat) : Int) := by omega
    have n46 : ¬ ((s.1.length : Nat) : Int) = -1 := by omega
    have jn : ∀ (v : Int), rBf b m (zup m 351 (200 * b + s.1.length) v) ∧ ∀ (Q' : zQ) (part : Int), zwp 190 0 [zA 332, zI (s.2.2.1.length : Int), zI (s.1.length : Int), zI part] [] L (zup m 351 (200 * b + s.1.length) v) Q' ↔ Q' none L (rtak (zup m 351 (200 * b + s.1.length) v) b s.2.2.1.length s.1.length part) := fun v => by
      have f : rBf b m (zup m 351 (200 * b + s.1.length) v) := rBf_up rBf_rf (by unfold rIn; omega)
      refine ⟨f, fun Q' part => r_takes ht hn (zMp_Bf f hx.1) (by rw [zup_na (by omega)]; exact h45) hb (by omega) hj ?_⟩
      rw [zup_na (by omega), gN]
      omega
    have fr : ∀ (v part : Int), rBf b m (rtak (zup m 351 (200 * b + s.1.length) v) b s.2.2.1.length s.1.length part) := fun v part => rBf_tr (jn v).1 (rtak_f (by omega) hj)
    have jj := fun v => (jn v).2
    dsimp only at k
    by_cases hLM : itL x ≠ -2 ∧ itM x = -2
    · rw [if_pos hLM] at k LA
      simp only [s196_0, s196_1, s196_4, s196_7, s196_8, s196_11, s196_12, s196_13, s196_16, s196_19, s196_20, s196_23, s196_24, s196_25, s196_26, s196_27, s196_28, s196_29, s196_32, s196_33, s196_36, Int.toNat_natCast, true_and, and_true, true_or, or_true, false_or, or_false, zwr_id, zpu_some, zpu_none, reduceIte, Int.reduceLE, Int.reduceLT, Int.reduceEq, Int.reduceNeg, Int.reduceAdd, Int.reduceSub, Int.reduceMul, Int.reduceToNat, Nat.reduceAdd, Nat.reduceLeDiff, Nat.reduceEqDiff, Nat.reduceLT, eq_self, ne_eq, not_false_eq_true, not_true_eq_false, t0, LA, q36, h46, IA, q27, mt344 ht, mn344 hn, hrc, hmo, mt351 ht, mn351 hn, hrj, and_self, zup_na (show (332 : Nat) ≠ 351 by decide), jj]
      exact k _ (rMS_join (x1 := (itL x, dNM D c, itE x, itK x, itF x, itN x)) hs ho h9 rfl rfl (Or.inr (Or.inl ⟨rfl, rfl, rfl, rfl, rfl⟩))) (fr _ _)
    · rw [if_neg hLM] at k LA
      have hM : itM x ≠ -2 := fun q => by
        by_cases hL : itL x = -2
        · exact o1 ⟨hL, q⟩
        · exact hLM ⟨hL, q⟩
      simp only [s196_0, s196_1, s196_4, s196_37, s196_38, s196_41, s196_42, s196_45, s196_46, s196_49, s196_50, s196_51, s196_54, s196_57, s196_58, Int.toNat_natCast, true_and, and_true, true_or, or_true, false_or, or_false, zwr_id, zpu_some, zpu_none, reduceIte, Int.reduceLE, Int.reduceLT, Int.reduceEq, Int.reduceNeg, Int.reduceAdd, Int.reduceSub, Int.reduceMul, Int.reduceToNat, Nat.reduceAdd, Nat.reduceLeDiff, Nat.reduceEqDiff, Nat.reduceLT, eq_self, ne_eq, not_false_eq_true, not_true_eq_false, t0, LA, h46, n46, q37, IA, mt352 ht, mn352 hn, hrj, and_self, gE]
      simp only [s196_60]
      by_cases hE : itE x = -2
      · rw [if_neg (fun q => q hE), e1] at k
        rw [if_pos hE]
        obtain ⟨y, hy⟩ : ∃ y : Nat, itM x = (y : Int) := ⟨(itM x).toNat, by omega⟩
        rw [hy] at k
        have ny : ¬ (y : Int) = -2 := by omega
        have c35 : m 335 1 = ((dV D).length : Int) := hx.2.1.2.1.2.1
        have h21 : m 332 21 = ((rM D).length : Int) := hx.2.2.1.2.1.2.1
        have b1 : (1 : Int) < ((10 : Nat) : Int) := by decide
        have newE : dVp D (y : Int) c = -2 → zwp 196 164 [zA 332, zI (s.2.2.1.length : Int), zI (c : Int), zI (y : Int), zI (-2), zU, zU] [] L m Q := fun q => by
          rw [if_pos q] at k
          simp only [s196_164, s196_165, s196_168, s196_169, s196_172, s196_173, s196_176, s196_177, s196_178, s196_181, s196_184, s196_185, s196_188, s196_190, s196_192, s196_194, s196_196, s196_199, s196_200, s196_241, s196_243, s196_245, s196_246, Int.toNat_natCast, true_and, and_true, true_or, or_true, false_or, or_false, zwr_id, zpu_some, zpu_none, reduceIte, Int.reduceLE, Int.reduceLT, Int.reduceEq, Int.reduceNeg, Int.reduceAdd, Int.reduceSub, Int.reduceMul, Int.reduceToNat, Nat.reduceAdd, Nat.reduceLeDiff, Nat.reduceEqDiff, Nat.reduceLT, eq_self, ne_eq, not_false_eq_true, not_true_eq_false, t0, h46, n46, q37, IA, mt352 ht, mn352 hn, hrj, and_self, gE, hE]
          exact new k _ _ _ _
        simp only [s196_63, s196_64, s196_67, s196_68, s196_69, s196_72, s196_75, s196_76, s196_79, s196_81, s196_82, s196_83, s196_85, s196_88, s196_89, s196_90, s196_93, s196_94, Int.toNat_natCast, true_and, and_true, true_or, or_true, false_or, or_false, zwr_id, zpu_some, zpu_none, reduceIte, Int.reduceLE, Int.reduceLT, Int.reduceEq, Int.reduceNeg, Int.reduceAdd, Int.reduceSub, Int.reduceMul, Int.reduceToNat, Nat.reduceAdd, Nat.reduceLeDiff, Nat.reduceEqDiff, Nat.reduceLT, eq_self, ne_eq, not_false_eq_true, not_true_eq_false, t0, h46, q36, IA, mt351 ht, mn351 hn, hrj, and_self, gM, hy, ny, q8, mt335 ht, mn335 hn, b1, c35]
        simp only [s196_95]
        by_cases h2 : (dV D).length ≤ y
        · rw [if_pos (by omega)]
          have ez : dVp D (y : Int) c = -2 := by unfold dVp zwith; rw [if_pos (by omega)]
          simp only [s196_127, s196_129, s196_131, s196_133, s196_135, Int.toNat_natCast, true_and, and_true, true_or, or_true, false_or, or_false, zwr_id, zpu_some, zpu_none, reduceIte, Int.reduceLE, Int.reduceLT, Int.reduceEq, Int.reduceNeg, Int.reduceAdd, Int.reduceSub, Int.reduceMul, Int.reduceToNat, Nat.reduceAdd, Nat.reduceLeDiff, Nat.reduceEqDiff, Nat.reduceLT, eq_self, ne_eq, not_false_eq_true, not_true_eq_false]
          exact newE ez
        · rw [if_neg (by omega)]
          obtain ⟨y1, y2⟩ := rM_get (D := D) (x := y) (by omega)
          have zz := zA2_get hx.2.2.1.2.2.2.1 y1
          rw [getD_lt y1] at y2
          rw [y2, Nat.zero_add] at zz
          have zz1 : m 346 (2 * y) = (((dV D)[y]'(by omega) : Nat) : Int) := zz.1
          have lV : (dV D).length ≤ (rM D).length := by unfold rM; rw [List.length_append, List.length_map]; omega
          have lb : (rM D).length ≤ 16 := by
            have a1 : (dV D).length ≤ 8 := hD.2.2.1.2.1
            have a2 : (dPV D).length ≤ 8 := Nat.le_trans (List.length_filter_le _ _) hD.2.2.1.2.2.2.2
            unfold rM; rw [List.length_append, List.length_map, List.length_map]; omega
          have hry : 0 ≤ ((2 * y : Nat) : Int) ∧ ((2 * y : Nat) : Int) < ((32 : Nat) : Int) := by omega
          have po := fun Q' : zQ => r_pof (Q := Q') (o := 0) (i := (dV D).length) (x := (((dV D)[y]'(by omega) : Nat) : Int)) (y := (c : Int)) (mt346 ht) (by rw [mn346 hn]; omega) (by omega) hx.2.2.1.2.2.2.1 lV
          have pe := dVp_r (D := D) (x := y) (k := c) (by omega)
          simp only [Nat.zero_add] at po
          rw [pe] at po
          simp only [s196_98, s196_99, s196_102, s196_103, s196_106, s196_107, s196_108, s196_109, s196_112, s196_113, s196_116, s196_117, s196_118, s196_119, s196_120, s196_121, s196_124, Int.toNat_natCast, true_and, and_true, true_or, or_true, false_or, or_false, zwr_id, zpu_some, zpu_none, reduceIte, Int.reduceLE, Int.reduceLT, Int.reduceEq, Int.reduceNeg, Int.reduceAdd, Int.reduceSub, Int.reduceMul, Int.reduceToNat, Nat.reduceAdd, Nat.reduceLeDiff, Nat.reduceEqDiff, Nat.reduceLT, eq_self, ne_eq, not_false_eq_true, not_true_eq_false, t0, q29, q8, mt335 ht, mn335 hn, b1, c35, h21, mt346 ht, mn346 hn, hry, and_self, (show zwr (2 * (y : Int)) = ((2 * y : Nat) : Int) from zwn (by omega) (by omega)), zz1, po]
          simp only [s196_129, s196_131, s196_133]
          simp only [s196_135]
          by_cases h3 : dVp D (y : Int) c = -2
          · rw [if_pos h3, h3]
            exact newE h3
          · rw [if_neg h3] at k ⊢
            simp only [s196_138, s196_139, s196_142, s196_143, s196_144, s196_147, s196_150, s196_152, s196_153, s196_154, s196_155, s196_156, s196_159, s196_160, s196_163, Int.toNat_natCast, true_and, and_true, true_or, or_true, false_or, or_false, zwr_id, zpu_some, zpu_none, reduceIte, Int.reduceLE, Int.reduceLT, Int.reduceEq, Int.reduceNeg, Int.reduceAdd, Int.reduceSub, Int.reduceMul, Int.reduceToNat, Nat.reduceAdd, Nat.reduceLeDiff, Nat.reduceEqDiff, Nat.reduceLT, eq_self, ne_eq, not_false_eq_true, not_true_eq_false, t0, q36, h46, IA, mt351 ht, mn351 hn, hrj, and_self, zup_na (show (332 : Nat) ≠ 351 by decide), jj]
            exact k _ (rMS_join (x1 := (itL x, dVp D (y : Int) c, itE x, itK x, itF x, itN x)) hs ho h9 rfl rfl (Or.inr (Or.inl ⟨rfl, rfl, rfl, rfl, rfl⟩))) (fr _ _)
      · rw [if_pos hE] at k
        rw [if_neg hE]
        have epos : 0 < itE x := o2.resolve_left hE
        obtain ⟨y, hy⟩ : ∃ y : Nat, itE x = (y : Int) := ⟨(itE x).toNat, by omega⟩
        have ny : ¬ (y : Int) = -2 := by omega
        have hy1 : 1 ≤ y := by omega
        have hy2 : y < dnE D := by omega
        have eLa : pLa (zPof D) (itE x) = dLa D (y : Int) := by rw [hy]; rfl
        rw [eLa] at k
        have e2 : pLo (zPof D) (dLa D (y : Int)) = dNL D (dLa D (y : Int)) := rfl
        rw [e2] at k
        have hla := dLa_fin hD (e := (y : Int)) (by omega) (by omega)
        have hlo : m 341 (dLa D (y : Int)) = dNL D (dLa D (y : Int)) := hx.2.2.1.1.1 _ hla.2.1
        have ek := r_endk hD hx.2.2.1.2.2.2.2 hy1 hy2
        have dnb : dnE D ≤ 19 := by
          have a1 : (dEn D).length ≤ 10 := Nat.le_trans (List.length_filter_le _ _) hD.2.2.1.1
          have a2 : (dPE D).length ≤ 8 := Nat.le_trans (List.length_filter_le _ _) hD.2.2.1.2.2.2.2
          unfold dnE; omega
        have st := fun (kq : ∀ m', rMS m' b (kSteal (zPof D) c s x) → rBf b m m' → zwp 196 267 [zA 332, zI (s.2.2.1.length : Int), zI (c : Int), zI (-2), zI (-2), zI (y : Int), zI (dLa D (y : Int) : Int)] [] L m' Q) => c_rsteal (Q := fun r L1 m1 => zwp 196 267 [zA 332, zI (s.2.2.1.length : Int), zI (c : Int), zI (-2), zI (-2), zI (y : Int), zI (dLa D (y : Int) : Int)] (zpu r []) L1 m1 Q) hD ht hn hb hx hs hX ho hp h9 hc hy hy1 hy2 kq
        generalize dLa D (y : Int) = La at *
        have hrLa : 0 ≤ (La : Int) ∧ (La : Int) < ((26 : Nat) : Int) := by omega
        have hry : 0 ≤ ((2 * y : Nat) : Int) ∧ ((2 * y : Nat) : Int) < ((38 : Nat) : Int) := by omega
        have hry' : 0 ≤ ((2 * y + 1 : Nat) : Int) ∧ ((2 * y + 1 : Nat) : Int) < ((38 : Nat) : Int) := by omega
        have nz : ¬ (La : Int) = -1 := by omega
        have tail : zwp 196 241 [zA 332, zI (s.2.2.1.length : Int), zI (c : Int), zI (-2), zI (-2), zI (y : Int), zU] [zI (La : Int)] L m Q := by
          simp only [s196_241, s196_243, s196_245, s196_246, s196_249, s196_250, s196_253, s196_255, s196_256, Int.toNat_natCast, true_and, and_true, true_or, or_true, false_or, or_false, zwr_id, zpu_some, zpu_none, reduceIte, Int.reduceLE, Int.reduceLT, Int.reduceEq, Int.reduceNeg, Int.reduceAdd, Int.reduceSub, Int.reduceMul, Int.reduceToNat, Nat.reduceAdd, Nat.reduceLeDiff, Nat.reduceEqDiff, Nat.reduceLT, eq_self, ne_eq, not_false_eq_true, not_true_eq_false, t0, nz, q24, mt341 ht, mn341 hn, hrLa, and_self, hlo]
          simp only [s196_258]
          by_cases hl : dNL D La = -2
          · rw [if_pos hl] at k ⊢
            exact new k _ _ _ _
          · rw [if_neg hl] at k ⊢
            simp only [s196_261, s196_262, s196_263, s196_264, true_and, t0]
            refine st (fun m' a1 a2 => ?_)
            simp only [s196_267]
            exact k m' a1 a2
        simp only [s196_79, s196_81, s196_82, s196_83, s196_85, s196_127, s196_129, s196_131, s196_133, s196_135, s196_164, s196_165, s196_168, s196_169, s196_172, s196_173, s196_176, s196_177, s196_178, s196_181, s196_184, s196_185, s196_188, s196_190, s196_192, s196_194, s196_196, Int.toNat_natCast, true_and, and_true, true_or, or_true, false_or, or_false, zwr_id, zpu_some, zpu_none, reduceIte, Int.reduceLE, Int.reduceLT, Int.reduceEq, Int.reduceNeg, Int.reduceAdd, Int.reduceSub, Int.reduceMul, Int.reduceToNat, Nat.reduceAdd, Nat.reduceLeDiff, Nat.reduceEqDiff, Nat.reduceLT, eq_self, ne_eq, not_false_eq_true, not_true_eq_false, t0, h46, n46, q37, IA, mt352 ht, mn352 hn, hrj, and_self, gE, hy, ny]
        rcases ek with ⟨z1, z2, z3⟩ | ⟨z1, q1, z2, z3, z4⟩
        · simp only [s196_203, s196_204, s196_207, s196_208, s196_210, s196_211, s196_212, s196_213, s196_214, s196_215, s196_232, s196_233, s196_236, s196_237, s196_239, s196_240, Int.toNat_natCast, true_and, and_true, true_or, or_true, false_or, or_false, zwr_id, zpu_some, zpu_none, reduceIte, Int.reduceLE, Int.reduceLT, Int.reduceEq, Int.reduceNeg, Int.reduceAdd, Int.reduceSub, Int.reduceMul, Int.reduceToNat, Nat.reduceAdd, Nat.reduceLeDiff, Nat.reduceEqDiff, Nat.reduceLT, eq_self, ne_eq, not_false_eq_true, not_true_eq_false, t0, q30, mt347 ht, mn347 hn, hry, hry', and_self, (show zwr (2 * (y : Int)) = ((2 * y : Nat) : Int) from zwn (by omega) (by omega)), (show zwr (((2 * y : Nat) : Int) + 1) = ((2 * y + 1 : Nat) : Int) from zwn (by omega) (by omega)), z1, z2]
          exact tail
        · simp only [s196_203, s196_204, s196_207, s196_208, s196_210, s196_211, s196_212, s196_213, s196_214, s196_215, s196_218, s196_219, s196_222, s196_223, s196_225, s196_226, s196_227, s196_228, s196_229, Int.toNat_natCast, true_and, and_true, true_or, or_true, false_or, or_false, zwr_id, zpu_some, zpu_none, reduceIte, Int.reduceLE, Int.reduceLT, Int.reduceEq, Int.reduceNeg, Int.reduceAdd, Int.reduceSub, Int.reduceMul, Int.reduceToNat, Nat.reduceAdd, Nat.reduceLeDiff, Nat.reduceEqDiff, Nat.reduceLT, eq_self, ne_eq, not_false_eq_true, not_true_eq_false, t0, q30, mt347 ht, mn347 hn, hry', and_self, (show zwr (2 * (y : Int)) = ((2 * y : Nat) : Int) from zwn (by omega) (by omega)), (show zwr (((2 * y : Nat) : Int) + 1) = ((2 * y + 1 : Nat) : Int) from zwn (by omega) (by omega)), z1, nz]
          exact tail
theorem rMS_9 {m : zM} {b : Nat} {s : zMS} {v : Int} (hs : rMS m b s) : rMS (zup m 359 (200 * b + s.2.2.1.length) v) b s := by
  obtain ⟨g1, g2, g3, g4, g5⟩ := hs
  refine ⟨by rw [zup_na (by decide)]; exact g1, by rw [zup_na (by decide)]; exact g2, rBI_eq (fun a p q => zup_nf (by omega)) g3, ⟨zAL_eq (zup_nf (by decide)) g4.1, zAL_eq (zup_nf (by decide)) g4.2.1, ?_⟩, by rw [zup_na (by decide)]; exact g5⟩
  exact zAL_fo (fun i hi => by rw [List.length_map] at hi; rw [zup_nk (by omega)]) g4.2.2
theorem rMS_brk {m : zM} {b : Nat} {s : zMS} (hs : rMS m b s) (h9 : m 359 (200 * b + s.2.2.1.length) = 0) : rMS (zup (zup (zup m 332 46 (-1)) 357 (200 * b + s.2.2.1.length) (-2)) 358 (200 * b + s.2.2.1.length) (-2)) b (kBreak s) := by
  obtain ⟨g1, g2, g3, g4, g5⟩ := hs
  refine ⟨by rw [zup_na (by decide), zup_na (by decide), zup_nk (by decide)]; exact g1, by rw [zup_na (by decide), zup_na (by decide), zup_same]; rfl, ?_, ⟨?_, ?_, ?_⟩, by rw [zup_na (by decide), zup_na (by decide), zup_na (by decide)]; exact g5⟩
  · show rBI _ b (msI s ++ [])
    rw [List.append_nil]
    exact rBI_eq (fun a p q => by rw [zup_nf (by omega), zup_nf (by omega), zup_nf (by omega)]) g3
  · exact zAL_eq (zup_nf (by decide)) (zALo_mpush (y := ((-2, -2, 0) : Int × Int × Int)) (zAL_eq (zup_nf (by decide)) g4.1) rfl)
  · exact zALo_mpush (y := ((-2, -2, 0) : Int × Int × Int)) (zAL_eq (by rw [zup_nf (by decide), zup_nf (by decide)]) g4.2.1) rfl
  · refine zAL_eq (by rw [zup_nf (by decide), zup_nf (by decide), zup_nf (by decide)]) (m := m) ?_
    show zAL m 359 (200 * b) ((s.2.2.1 ++ [(-2, -2, 0)]).map (fun (q : Int × Int × Int) => q.2.2))
    intro j z hz
    by_cases hj : j < s.2.2.1.length
    · rw [List.map_append, List.getElem?_append_left (by rw [List.length_map]; exact hj)] at hz
      exact g4.2.2 j z hz
    · have hj2 := (List.getElem?_eq_some_iff.mp hz).1
      rw [List.length_map, List.length_append] at hj2
      have hj3 : j = s.2.2.1.length := by simp only [List.length_cons, List.length_nil] at hj2; omega
      subst hj3
      rw [List.getElem?_map, List.getElem?_append_right (Nat.le_refl _), Nat.sub_self] at hz
      cases hz
      exact h9
