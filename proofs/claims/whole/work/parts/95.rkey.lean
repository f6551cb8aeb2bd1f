theorem zwn {x : Int} {n : Nat} (h : x = (n : Int)) (hn : n < 2147483648) : zwr x = (n : Int) := by rw [h]; exact zwr_id (by omega) (by omega)
theorem zln {x : Int} {n : Nat} (h : x = (n : Int)) (hn : n < 9223372036854775808) : zwl x = (n : Int) := by rw [h]; exact zwl_id (by omega) (by omega)
theorem r_here {L : zY} {m : zM} {Q : zQ} {xs : List Int} {S E : Nat} {tk : Int} (ht : zMt L) (hn : zMn L) (hp : zMp m) (hR : rRd m xs S E tk) (hl : isL (xs.getD S 0) = true) : zwp 172 0 [zA 332] [] L m Q ↔ Q (some (zI ((kAt xs S : Nat) : Int))) L m := by
  obtain ⟨h14, h15, h16, h17, h3, hA, hb⟩ := hR
  have hS : S < xs.length := by
    by_cases q : S < xs.length
    · exact q
    · rw [List.getD_eq_getElem?_getD, List.getElem?_eq_none (by omega)] at hl
      exact absurd hl (by decide)
  obtain ⟨e1, e2⟩ := kAt_kk hl
  have q4 : m 332 4 = ((333 : Nat) : Int) := mp4 hp
  have e3 : m 333 S = kk (kAt xs S) := by rw [← e1, zAL_get0 hA hS, getD_lt hS]
  have hr : 0 ≤ (S : Int) ∧ (S : Int) < ((300 : Nat) : Int) := by omega
  simp only [s172_0, s172_1, s172_4, s172_5, s172_8, s172_9, s172_11, s172_12, Int.toNat_natCast, true_and, and_self, mt332 ht, q4, h15, mt333 ht, mn333 hn, hr, e3, (show zwr (kk (kAt xs S) - 97) = ((kAt xs S : Nat) : Int) from zwn (by unfold kk; omega) (by omega))]
theorem r_rs {L : zY} {m : zM} {Q : zQ} {D : zD} {k : Nat} (ht : zMt L) (hn : zMn L) (hp : zMp m) (hd : rDd m D) (hk : k < 26) : zwp 174 0 [zA 332, zI (k : Int)] [] L m Q ↔ Q (some (zI (dS D k))) L m := by
  have q7 : m 332 7 = ((334 : Nat) : Int) := mp7 hp
  have hr : 0 ≤ ((26 + k : Nat) : Int) ∧ ((26 + k : Nat) : Int) < ((52 : Nat) : Int) := by omega
  simp only [s174_0, s174_1, s174_4, s174_6, s174_7, s174_8, s174_9, Int.toNat_natCast, true_and, and_self, mt332 ht, q7, mt334 ht, mn334 hn, hr, hd.1 k hk, (show zwr (26 + (k : Int)) = ((26 + k : Nat) : Int) from zwn (by omega) (by omega))]
def rKc (D : zD) (its : Int) (r most A n : Nat) : Prop := (its ≠ 3 ∧ its ≠ 4 ∧ r = 0 ∧ most = 10 ∧ A = 336 ∧ n = (dC D).length) ∨ (its = 3 ∧ r = 1 ∧ most = 8 ∧ A = 337 ∧ n = (dV D).length) ∨ (its = 4 ∧ r = 2 ∧ most = 4 ∧ A = 338 ∧ n = (dO D).length)
theorem rDd_tell {m : zM} {D : zD} {its : Int} {k r most A n : Nat} (hc : rKc D its r most A n) (h : rDd m D) : rDd (zup (zup (zup m A (most + n) (k : Int)) 335 (5 + r) ((n + 1 : Nat) : Int)) 334 (26 + k) its) (dTell D its k) := by
  obtain ⟨h1, ⟨a1, a2, a3, a4, a5⟩, ⟨b1, b2, b3, b4⟩, h4⟩ := h
  have hA : A = 336 ∨ A = 337 ∨ A = 338 := by rcases hc with q | q | q <;> omega
  have s1 : ∀ j, j < 26 → zup (zup (zup m A (most + n) (k : Int)) 335 (5 + r) ((n + 1 : Nat) : Int)) 334 (26 + k) its 334 (26 + j) = dS (dTell D its k) j := fun j hj => by
    show _ = if j = k then its else dS D j
    by_cases q : j = k
    · rw [if_pos q, q, zup_same]
    · rw [if_neg q, zup_nk (by omega), zup_na (by decide), zup_na (by omega)]
      exact h1 j hj
  have s5 : ∀ (i : Nat) (q : Nat × Nat), (dP (dTell D its k))[i]? = some q → zup (zup (zup m A (most + n) (k : Int)) 335 (5 + r) ((n + 1 : Nat) : Int)) 334 (26 + k) its 340 (2 * (8 + i)) = (q.1 : Int) ∧ zup (zup (zup m A (most + n) (k : Int)) 335 (5 + r) ((n + 1 : Nat) : Int)) 334 (26 + k) its 340 (2 * (8 + i) + 1) = (q.2 : Int) := fun i q hq => by
    rw [zup_na (by decide), zup_na (by decide), zup_na (by omega), zup_na (by decide), zup_na (by decide), zup_na (by omega)]
    exact h4 i q hq
  have f5 : ∀ j, zup (zup (zup m A (most + n) (k : Int)) 335 (5 + r) ((n + 1 : Nat) : Int)) 334 (26 + k) its 335 j = if j = 5 + r then ((n + 1 : Nat) : Int) else m 335 j := fun j => by
    rw [zup_na (by decide)]
    by_cases q : j = 5 + r
    · rw [if_pos q, q, zup_same]
    · rw [if_neg q, zup_nk q, zup_na (by omega)]
  have f6 : ∀ a, a ≠ 334 → a ≠ 335 → a ≠ A → zup (zup (zup m A (most + n) (k : Int)) 335 (5 + r) ((n + 1 : Nat) : Int)) 334 (26 + k) its a = m a := fun a p1 p2 p3 => by rw [zup_nf p1, zup_nf p2, zup_nf p3]
  have f7 : ∀ ys : List Nat, n = ys.length → zAL m A most (ys.map nZ) → zAL (zup (zup (zup m A (most + n) (k : Int)) 335 (5 + r) ((n + 1 : Nat) : Int)) 334 (26 + k) its) A most ((ys ++ [k]).map nZ) := fun ys hy hz => by
    have := zAL_push (x := (k : Int)) hz
    rw [List.length_map, ← hy] at this
    rw [List.map_append]
    exact zAL_eq (by rw [zup_nf (by omega), zup_nf (by omega)]) this
  have eC : dC (dTell D its k) = if its = 3 ∨ its = 4 then dC D else dC D ++ [k] := rfl
  have eV : dV (dTell D its k) = if its = 3 then dV D ++ [k] else dV D := rfl
  have eO : dO (dTell D its k) = if its = 4 then dO D ++ [k] else dO D := rfl
  have eT : dT (dTell D its k) = dT D := rfl
  have eP : dP (dTell D its k) = dP D := rfl
  refine ⟨s1, ?_, ?_, s5⟩
  · rw [f5, f5, f5, f5, f5, eC, eV, eO, eT, eP]
    clear s1 s5 f5 f6 f7 eC eV eO eT eP
    rcases hc with ⟨c1, c2, rfl, rfl, rfl, c3⟩ | ⟨rfl, rfl, rfl, rfl, c3⟩ | ⟨rfl, rfl, rfl, rfl, c3⟩
    · refine ⟨?_, ?_, ?_, ?_, ?_⟩
      · simp [c1, c2, c3]
      · simp [c1, a2]
      · simp [c2, a3]
      · simp [a4]
      · simp [a5]
    · refine ⟨?_, ?_, ?_, ?_, ?_⟩
      · simp [a1]
      · simp [c3]
      · simp [a3]
      · simp [a4]
      · simp [a5]
    · refine ⟨?_, ?_, ?_, ?_, ?_⟩
      · simp [a1]
      · simp [a2]
      · simp [c3]
      · simp [a4]
      · simp [a5]
  · rw [eC, eV, eO, eT]
    rcases hc with ⟨c1, c2, rfl, rfl, rfl, c3⟩ | ⟨rfl, rfl, rfl, rfl, c3⟩ | ⟨rfl, rfl, rfl, rfl, c3⟩
    · rw [if_neg (by omega), if_neg c1, if_neg c2]
      exact ⟨f7 _ c3 b1, zAL_eq (f6 337 (by decide) (by decide) (by decide)) b2, zAL_eq (f6 338 (by decide) (by decide) (by decide)) b3, zAL_eq (f6 339 (by decide) (by decide) (by decide)) b4⟩
    · rw [if_pos (by decide), if_pos rfl, if_neg (by decide)]
      exact ⟨zAL_eq (f6 336 (by decide) (by decide) (by decide)) b1, f7 _ c3 b2, zAL_eq (f6 338 (by decide) (by decide) (by decide)) b3, zAL_eq (f6 339 (by decide) (by decide) (by decide)) b4⟩
    · rw [if_pos (by decide), if_neg (by decide), if_pos rfl]
      exact ⟨zAL_eq (f6 336 (by decide) (by decide) (by decide)) b1, zAL_eq (f6 337 (by decide) (by decide) (by decide)) b2, f7 _ c3 b3, zAL_eq (f6 339 (by decide) (by decide) (by decide)) b4⟩
/-- the array of a sort of KEYS -/
theorem r_all {L : zY} {m : zM} {Q : zQ} {D : zD} {its : Int} {r most A n : Nat} {l4 : zV} (hc : rKc D its r most A n) (ht : zMt L) (hp : zMp m) : zwp 175 87 [zA 332, zI its, zI (r : Int), zI (most : Int), l4] [] L m Q ↔ zwp 175 117 [zA 332, zI its, zI (r : Int), zI (most : Int), zA A] [] L m Q := by
  have q9 : m 332 9 = ((336 : Nat) : Int) := mp9 hp
  have q10 : m 332 10 = ((337 : Nat) : Int) := mp10 hp
  have q11 : m 332 11 = ((338 : Nat) : Int) := mp11 hp
  rcases hc with ⟨c1, c2, rfl, rfl, rfl, c3⟩ | ⟨c1, rfl, rfl, rfl, c3⟩ | ⟨c1, rfl, rfl, rfl, c3⟩
  · simp only [s175_87, s175_88, s175_89, s175_92, s175_93, s175_96, s175_99, s175_100, s175_101, s175_104, s175_105, s175_108, s175_111, s175_112, s175_115, Int.cast_ofNat_Int, Int.reduceToNat, Int.toNat_natCast, true_and, reduceIte, Int.reduceEq, mt332 ht, q9]
  · simp only [s175_87, s175_88, s175_89, s175_92, s175_93, s175_96, s175_99, s175_100, s175_101, s175_104, s175_105, s175_108, s175_111, s175_112, s175_115, Int.cast_ofNat_Int, Int.reduceToNat, Int.toNat_natCast, true_and, reduceIte, Int.reduceEq, mt332 ht, q10]
  · simp only [s175_87, s175_88, s175_89, s175_92, s175_93, s175_96, s175_99, s175_100, s175_101, s175_104, s175_105, s175_108, s175_111, s175_112, s175_115, Int.cast_ofNat_Int, Int.reduceToNat, Int.toNat_natCast, true_and, reduceIte, Int.reduceEq, mt332 ht, q11]
theorem c_rkeyA {L : zY} {m : zM} {Q : zQ} {xs : List Int} {S E : Nat} {tk its : Int} {D : zD} {r most A n : Nat} (hi : 0 ≤ its ∧ its ≤ 4) (hc : rKc D its r most A n) (hD : dOk D) (ht : zMt L) (hn : zMn L) (hp : zMp m) (hR : rRd m xs S E tk) (he : E ≤ xs.length) (hd : rDd m D)
    (k1 : ∀ f pl, (if dFull D its = true then (.inl (3, S) : zPr) else pBody xs its E D) = .inl (f, pl) → ∀ m', zMp m' → m' 332 18 = f → m' 332 19 = (pl : Int) → rHf m m' → Q (some (zI 0)) L m')
    (k2 : ∀ D' e', (if dFull D its = true then (.inl (3, S) : zPr) else pBody xs its E D) = .inr (D', e') → ∀ m', zMp m' → rRd m' xs (tkS xs e') (tkE xs (tkS xs e')) (tkT xs (tkS xs e')) → rDd m' D' → rHf m m' → Q (some (zI 1)) L m') : zwp 175 42 [zA 332, zI its, zI (r : Int), zI (most : Int), zU] [] L m Q := by
  have t0 := mt332 ht
  have q8 : m 332 8 = ((335 : Nat) : Int) := mp8 hp
  obtain ⟨len1, len2, len3, len4, len5⟩ := hD.2.2.1
  have c35 : m 335 (5 + r) = (n : Int) := by
    rcases hc with ⟨c1, c2, rfl, rfl, rfl, c3⟩ | ⟨c1, rfl, rfl, rfl, c3⟩ | ⟨c1, rfl, rfl, rfl, c3⟩
    · rw [c3]; exact hd.2.1.1
    · rw [c3]; exact hd.2.1.2.1
    · rw [c3]; exact hd.2.1.2.2.1
  have hb : r ≤ 2 ∧ most ≤ 10 ∧ n ≤ most ∧ (A = 336 ∨ A = 337 ∨ A = 338) := by rcases hc with q | q | q <;> omega
  have tA : zt L A = 20 ∧ zn L A = 2 * most := by
    rcases hc with ⟨c1, c2, rfl, rfl, rfl, c3⟩ | ⟨c1, rfl, rfl, rfl, c3⟩ | ⟨c1, rfl, rfl, rfl, c3⟩
    · exact ⟨mt336 ht, mn336 hn⟩
    · exact ⟨mt337 ht, mn337 hn⟩
    · exact ⟨mt338 ht, mn338 hn⟩
  have hfull : dFull D its = true ↔ n = most := by
    unfold dFull
    rcases hc with ⟨c1, c2, -, rfl, -, c3⟩ | ⟨c1, -, rfl, -, c3⟩ | ⟨c1, -, rfl, -, c3⟩
    · rw [if_neg c1, if_neg c2, if_neg (by omega), if_neg (by omega), decide_eq_true_iff]; omega
    · rw [if_pos c1, decide_eq_true_iff]; omega
    · rw [if_neg (by omega), if_pos c1, decide_eq_true_iff]; omega
  have hr5 : 0 ≤ ((5 + r : Nat) : Int) ∧ ((5 + r : Nat) : Int) < ((10 : Nat) : Int) := by omega
  simp only [s175_42, s175_43, s175_46, s175_47, s175_48, s175_49, s175_50, Int.toNat_natCast, true_and, and_self, t0, q8, mt335 ht, mn335 hn, hr5, c35, (show zwr (5 + (r : Int)) = ((5 + r : Nat) : Int) from zwn (by omega) (by omega))]
  simp only [s175_51]
  by_cases hf : n = most
  · rw [if_pos (by omega)]
    rw [if_pos (hfull.mpr hf)] at k1
    simp only [s175_54, s175_55, s175_56, s175_59, Int.toNat_natCast, true_and, and_true, true_or, or_true, false_or, or_false, zwr_id, zpu_some, zpu_none, reduceIte, Int.reduceLE, Int.reduceLT, Int.reduceEq, Int.reduceNeg, Int.reduceAdd, Int.reduceSub, Int.reduceMul, Int.reduceToNat, Nat.reduceAdd, Nat.reduceLeDiff, Nat.reduceEqDiff, Nat.reduceLT, eq_self, ne_eq, not_false_eq_true, not_true_eq_false, t0, r_errs t0]
    exact k1 _ _ rfl _ (zMp_rO rO_errs hp) errs_18 (errs_19.trans hR.2.1) (rHf_O rO_errs)
  · rw [if_neg (by omega)]
    rw [if_neg (fun q => hf (hfull.mp q))] at k1 k2
    simp only [s175_60, s175_61, t0, true_and]
    refine c_rnext ht hn hp hR he (fun hk m1 p1 g1 o1 => ?_) (fun hk m1 p1 g8 g9 o1 => ?_)
    · have hK := isK_iff.mp hk
      obtain ⟨e1, e2⟩ := kAt_kk hK.2
      have d1 := rDd_O o1 hd
      unfold pBody at k1 k2
      rw [if_neg (by rw [hk]; exact Bool.noConfusion), if_neg (by omega), if_neg (by omega)] at k1 k2
      have hE1 := tkE_le (tkS_le he).2
      have rh := fun Q' : zQ => r_here (Q := Q') ht hn p1 g1 hK.2
      have rs := fun Q' : zQ => r_rs (Q := Q') ht hn p1 d1 e2
      generalize hkx : kAt xs (tkS xs E) = kx at *
      simp only [s175_64, s175_67, s175_68, s175_69, s175_70, s175_71, s175_74, s175_77, Int.toNat_natCast, true_and, and_true, true_or, or_true, false_or, or_false, zwr_id, zpu_some, zpu_none, reduceIte, Int.reduceLE, Int.reduceLT, Int.reduceEq, Int.reduceNeg, Int.reduceAdd, Int.reduceSub, Int.reduceMul, Int.reduceToNat, Nat.reduceAdd, Nat.reduceLeDiff, Nat.reduceEqDiff, Nat.reduceLT, eq_self, ne_eq, not_false_eq_true, not_true_eq_false, t0, rh, rs]
      simp only [s175_78]
      by_cases h : dS D kx = -1
      · rw [if_pos h] at k2
        rw [if_pos h]
        have q8' : m1 332 8 = ((335 : Nat) : Int) := mp8 p1
        have q7' : m1 332 7 = ((334 : Nat) : Int) := mp7 p1
        have c35' : m1 335 (5 + r) = (n : Int) := by rw [o1.1 335 (by decide)]; exact c35
        have hrA : 0 ≤ ((most + n : Nat) : Int) ∧ ((most + n : Nat) : Int) < ((2 * most : Nat) : Int) := by omega
        have hr6 : 0 ≤ ((26 + kx : Nat) : Int) ∧ ((26 + kx : Nat) : Int) < ((52 : Nat) : Int) := by omega
        have hA2 : 2 ≤ A := by omega
        have n5 : (335 : Nat) ≠ A := by omega
        have n2 : (332 : Nat) ≠ A := by omega
        rw [r_all hc ht p1]
        have pa : zMp (zup m1 A (most + n) (kx : Int)) := zMp_eq (fun i _ => by rw [zup_na n2]) p1
        have ga : rRd (zup m1 A (most + n) (kx : Int)) xs (tkS xs E) (tkE xs (tkS xs E)) (tkT xs (tkS xs E)) := rRd_eq (zup_nf n2) (zup_nf (by omega)) g1
        have pb : zMp (zup (zup m1 A (most + n) (kx : Int)) 335 (5 + r) ((n + 1 : Nat) : Int)) := zMp_eq (fun i _ => by rw [zup_na (by decide)]) pa
        have gb : rRd (zup (zup m1 A (most + n) (kx : Int)) 335 (5 + r) ((n + 1 : Nat) : Int)) xs (tkS xs E) (tkE xs (tkS xs E)) (tkT xs (tkS xs E)) := rRd_eq (zup_nf (by decide)) (zup_nf (by decide)) ga
        have rhb := fun Q' : zQ => r_here (Q := Q') ht hn pb gb hK.2
        rw [hkx] at rhb
        simp only [s175_117, s175_119, s175_120, s175_121, s175_124, s175_125, s175_126, s175_127, s175_128, s175_129, s175_130, Int.toNat_natCast, true_and, and_self, zpu_some, t0, q8', mt335 ht, mn335 hn, hr5, c35', (show zwr (5 + (r : Int)) = ((5 + r : Nat) : Int) from zwn (by omega) (by omega)), (show zwr ((most : Int) + (n : Int)) = ((most + n : Nat) : Int) from zwn (by omega) (by omega)), rh]
        simp only [s175_133, s175_134, s175_135, s175_138, s175_139, s175_140, s175_141, s175_142, s175_143, s175_144, s175_145, Int.toNat_natCast, true_and, and_self, zpu_some, t0, tA, hA2, hrA, zup_na n2, zup_na n5, q8', mt335 ht, mn335 hn, hr5, c35', (show zwr (5 + (r : Int)) = ((5 + r : Nat) : Int) from zwn (by omega) (by omega)), (show zwr ((n : Int) + 1) = ((n + 1 : Nat) : Int) from zwn (by omega) (by omega)), Nat.reduceLeDiff]
        simp only [s175_146, s175_147, s175_150, s175_152, s175_153, Int.toNat_natCast, true_and, and_self, zpu_some, t0, zup_na n2, zup_na (show (332 : Nat) ≠ 335 by decide), q7', rhb]
        simp only [s175_156, s175_157, s175_158, s175_159, s175_160, Int.toNat_natCast, true_and, and_self, zpu_some, t0, mt334 ht, mn334 hn, hr6, (show zwr (26 + (kx : Int)) = ((26 + kx : Nat) : Int) from zwn (by omega) (by omega)), Nat.reduceLeDiff]
        have d2 := rDd_tell (k := kx) hc d1
        have ho : rHf m1 (zup (zup (zup m1 A (most + n) (kx : Int)) 335 (5 + r) ((n + 1 : Nat) : Int)) 334 (26 + kx) its) := rHf_tr (rHf_tr (rHf_up (by rcases hc with q | q | q <;> omega)) (rHf_up (by omega))) (rHf_up (by omega))
        refine c_rgo ht hn (zMp_Hf ho p1) (rRd_eq (zup_nf (by decide)) (zup_nf (by decide)) gb) hE1.2.1 (fun m2 p2 g2 f1 f2 => ?_)
        simp only [s175_163, s175_164, Int.toNat_natCast, true_and, and_true, true_or, or_true, false_or, or_false, zwr_id, zpu_some, zpu_none, reduceIte, Int.reduceLE, Int.reduceLT, Int.reduceEq, Int.reduceNeg, Int.reduceAdd, Int.reduceSub, Int.reduceMul, Int.reduceToNat, Nat.reduceAdd, Nat.reduceLeDiff, Nat.reduceEqDiff, Nat.reduceLT, eq_self, ne_eq, not_false_eq_true, not_true_eq_false]
        exact k2 _ _ rfl m2 p2 g2 (rDd_O (rO_go f1 f2) d2) (rHf_tr (rHf_O o1) (rHf_tr ho (rHf_O (rO_go f1 f2))))
      · rw [if_neg h] at k1
        rw [if_neg h]
        simp only [s175_81, s175_82, s175_83, s175_86, Int.toNat_natCast, true_and, and_true, true_or, or_true, false_or, or_false, zwr_id, zpu_some, zpu_none, reduceIte, Int.reduceLE, Int.reduceLT, Int.reduceEq, Int.reduceNeg, Int.reduceAdd, Int.reduceSub, Int.reduceMul, Int.reduceToNat, Nat.reduceAdd, Nat.reduceLeDiff, Nat.reduceEqDiff, Nat.reduceLT, eq_self, ne_eq, not_false_eq_true, not_true_eq_false, t0, r_errs t0]
        exact k1 _ _ rfl _ (zMp_rO rO_errs p1) errs_18 (errs_19.trans g1.2.1) (rHf_O (rO_tr o1 rO_errs))
    · simp only [s175_64, s175_67, s175_68, Int.toNat_natCast, true_and, and_true, true_or, or_true, false_or, or_false, zwr_id, zpu_some, zpu_none, reduceIte, Int.reduceLE, Int.reduceLT, Int.reduceEq, Int.reduceNeg, Int.reduceAdd, Int.reduceSub, Int.reduceMul, Int.reduceToNat, Nat.reduceAdd, Nat.reduceLeDiff, Nat.reduceEqDiff, Nat.reduceLT, eq_self, ne_eq, not_false_eq_true, not_true_eq_false]
      unfold pBody at k1
      rw [if_pos hk] at k1
      exact k1 _ _ rfl m1 p1 g8 g9 (rHf_O o1)
theorem c_rkey {L : zY} {m : zM} {Q : zQ} {xs : List Int} {S E : Nat} {tk its : Int} {D : zD} (hi : 0 ≤ its ∧ its ≤ 4) (hD : dOk D) (ht : zMt L) (hn : zMn L) (hp : zMp m) (hR : rRd m xs S E tk) (he : E ≤ xs.length) (hd : rDd m D)
    (k1 : ∀ f pl, (if dFull D its = true then (.inl (3, S) : zPr) else pBody xs its E D) = .inl (f, pl) → ∀ m', zMp m' → m' 332 18 = f → m' 332 19 = (pl : Int) → rHf m m' → Q (some (zI 0)) L m')
    (k2 : ∀ D' e', (if dFull D its = true then (.inl (3, S) : zPr) else pBody xs its E D) = .inr (D', e') → ∀ m', zMp m' → rRd m' xs (tkS xs e') (tkE xs (tkS xs e')) (tkT xs (tkS xs e')) → rDd m' D' → rHf m m' → Q (some (zI 1)) L m') : zwp 175 0 [zA 332, zI its, zU, zU, zU] [] L m Q := by
  by_cases h3 : its = 3
  · have := c_rkeyA (r := 1) (most := 8) (A := 337) hi (Or.inr (Or.inl ⟨h3, rfl, rfl, rfl, rfl⟩)) hD ht hn hp hR he hd k1 k2
    simp only [s175_0, s175_1, s175_2, s175_5, s175_6, s175_9, s175_10, s175_11, s175_14, s175_15, s175_18, s175_19, s175_20, s175_21, s175_22, s175_25, s175_27, s175_30, s175_31, s175_32, s175_35, s175_36, s175_39, s175_41, Int.toNat_natCast, true_and, and_true, true_or, or_true, false_or, or_false, zwr_id, zpu_some, zpu_none, reduceIte, Int.reduceLE, Int.reduceLT, Int.reduceEq, Int.reduceNeg, Int.reduceAdd, Int.reduceSub, Int.reduceMul, Int.reduceToNat, Nat.reduceAdd, Nat.reduceLeDiff, Nat.reduceEqDiff, Nat.reduceLT, eq_self, ne_eq, not_false_eq_true, not_true_eq_false, h3]
    rw [h3] at this
    exact this
  · by_cases h4 : its = 4
    · have := c_rkeyA (r := 2) (most := 4) (A := 338) hi (Or.inr (Or.inr ⟨h4, rfl, rfl, rfl, rfl⟩)) hD ht hn hp hR he hd k1 k2
      simp only [s175_0, s175_1, s175_2, s175_5, s175_6, s175_9, s175_10, s175_11, s175_14, s175_15, s175_18, s175_19, s175_20, s175_21, s175_22, s175_25, s175_27, s175_30, s175_31, s175_32, s175_35, s175_36, s175_39, s175_41, Int.toNat_natCast, true_and, and_true, true_or, or_true, false_or, or_false, zwr_id, zpu_some, zpu_none, reduceIte, Int.reduceLE, Int.reduceLT, Int.reduceEq, Int.reduceNeg, Int.reduceAdd, Int.reduceSub, Int.reduceMul, Int.reduceToNat, Nat.reduceAdd, Nat.reduceLeDiff, Nat.reduceEqDiff, Nat.reduceLT, eq_self, ne_eq, not_false_eq_true, not_true_eq_false, h4]
      rw [h4] at this
      exact this
    · have := c_rkeyA (r := 0) (most := 10) (A := 336) hi (Or.inl ⟨h3, h4, rfl, rfl, rfl, rfl⟩) hD ht hn hp hR he hd k1 k2
      simp only [s175_0, s175_1, s175_2, s175_5, s175_6, s175_9, s175_10, s175_11, s175_14, s175_15, s175_18, s175_19, s175_20, s175_21, s175_22, s175_25, s175_27, s175_30, s175_31, s175_32, s175_35, s175_36, s175_39, s175_41, Int.toNat_natCast, true_and, and_true, true_or, or_true, false_or, or_false, zwr_id, zpu_some, zpu_none, reduceIte, Int.reduceLE, Int.reduceLT, Int.reduceEq, Int.reduceNeg, Int.reduceAdd, Int.reduceSub, Int.reduceMul, Int.reduceToNat, Nat.reduceAdd, Nat.reduceLeDiff, Nat.reduceEqDiff, Nat.reduceLT, eq_self, ne_eq, not_false_eq_true, not_true_eq_false, h3, h4]
      exact this
