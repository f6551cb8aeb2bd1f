/-! the reference: what is read of a LINE -/
def nZ (k : Nat) : Int := (k : Int)
/-- nothing but the reading's fields has changed -/
def rO (m m' : zM) : Prop := (∀ a, a ≠ 332 → m' a = m a) ∧ ∀ i, (i < 14 ∨ 19 < i) → m' 332 i = m 332 i
theorem rO_rf {m : zM} : rO m m := ⟨fun _ _ => rfl, fun _ _ => rfl⟩
theorem rO_tr {m m1 m2 : zM} (h1 : rO m m1) (h2 : rO m1 m2) : rO m m2 := ⟨fun a ha => (h2.1 a ha).trans (h1.1 a ha), fun i hi => (h2.2 i hi).trans (h1.2 i hi)⟩
theorem zMk_no {i : Nat} (h : zMk i = true) : i < 14 ∨ 19 < i := by
  by_cases q : 14 ≤ i ∧ i ≤ 19
  · have : i = 14 ∨ i = 15 ∨ i = 16 ∨ i = 17 ∨ i = 18 ∨ i = 19 := by omega
    rcases this with rfl | rfl | rfl | rfl | rfl | rfl <;> cases h
  · omega
theorem zMp_rO {m m' : zM} (h : rO m m') (hp : zMp m) : zMp m' := zMp_eq (fun i hi => h.2 i (zMk_no hi)) hp
theorem tkT_K {xs : List Int} {s : Nat} : (tkT xs s = 2 ∧ tkE xs s - s = 1) ↔ isK xs s (tkE xs s) = true := by
  rw [isK_iff]
  constructor
  · rintro ⟨h1, h2⟩
    refine ⟨h2, ?_⟩
    unfold tkT at h1
    by_cases q1 : xs.length ≤ s
    · rw [if_pos q1] at h1; exact absurd h1 (by decide)
    · rw [if_neg q1] at h1
      by_cases q2 : isL (xs.getD s 0) = true
      · exact q2
      · rw [if_neg q2] at h1
        by_cases q3 : xs.getD s 0 = 59
        · rw [if_pos q3] at h1; exact absurd h1 (by decide)
        · rw [if_neg q3] at h1; exact absurd h1 (by decide)
  · rintro ⟨h1, h2⟩
    refine ⟨?_, h1⟩
    have hs : s < xs.length := by
      by_cases q : s < xs.length
      · exact q
      · rw [List.getD_eq_getElem?_getD, List.getElem?_eq_none (by omega)] at h2
        exact absurd h2 (by decide)
    unfold tkT
    rw [if_neg (by omega), if_pos h2, if_neg (by omega)]
theorem r_errs {L : zY} {m : zM} {Q : zQ} {f : Int} (t : zt L 332 = 11) : zwp 171 0 [zA 332, zI f] [] L m Q ↔ Q (some (zI 0)) L (zup (zup m 332 18 f) 332 19 (m 332 15)) := by
  simp only [s171_0, s171_1, s171_2, s171_5, s171_6, s171_7, s171_10, s171_13, s171_14, Int.toNat_natCast, true_and, and_true, true_or, or_true, false_or, or_false, zwr_id, zpu_some, zpu_none, reduceIte, Int.reduceLE, Int.reduceLT, Int.reduceEq, Int.reduceNeg, Int.reduceAdd, Int.reduceSub, Int.reduceMul, Int.reduceToNat, Nat.reduceAdd, Nat.reduceLeDiff, Nat.reduceEqDiff, Nat.reduceLT, eq_self, ne_eq, not_false_eq_true, not_true_eq_false, t, zup_nk (show (15 : Nat) ≠ 18 by decide)]
theorem errs_18 {m : zM} {f p : Int} : zup (zup m 332 18 f) 332 19 p 332 18 = f := by rw [zup_nk (by decide)]; exact zup_same
theorem errs_19 {m : zM} {f p : Int} : zup (zup m 332 18 f) 332 19 p 332 19 = p := zup_same
theorem rO_errs {m : zM} {f p : Int} : rO m (zup (zup m 332 18 f) 332 19 p) := ⟨fun a ha => by rw [zup_nf ha, zup_nf ha], fun i hi => by rw [zup_nk (by omega), zup_nk (by omega)]⟩
theorem rO_go {m m' : zM} (h1 : ∀ a, a ≠ 332 → m' a = m a) (h2 : ∀ i, i ≠ 15 → i ≠ 16 → i ≠ 17 → m' 332 i = m 332 i) : rO m m' := ⟨h1, fun i hi => h2 i (by omega) (by omega) (by omega)⟩
theorem c_rnext {L : zY} {m : zM} {Q : zQ} {xs : List Int} {pl e : Nat} {tk : Int} (ht : zMt L) (hn : zMn L) (hp : zMp m) (hR : rRd m xs pl e tk) (he : e ≤ xs.length)
    (k1 : isK xs (tkS xs e) (tkE xs (tkS xs e)) = true → ∀ m', zMp m' → rRd m' xs (tkS xs e) (tkE xs (tkS xs e)) (tkT xs (tkS xs e)) → rO m m' → Q (some (zI 1)) L m')
    (k2 : isK xs (tkS xs e) (tkE xs (tkS xs e)) = false → ∀ m', zMp m' → m' 332 18 = 1 → m' 332 19 = (tkS xs e : Int) → rO m m' → Q (some (zI 0)) L m') : zwp 173 0 [zA 332] [] L m Q := by
  have t0 := mt332 ht
  simp only [s173_0, s173_1, t0, true_and]
  refine c_rgo ht hn hp hR he (fun m1 p1 g1 f1 f2 => ?_)
  have o1 : rO m m1 := rO_go f1 f2
  have hs := tkS_le he
  have hE := tkE_le hs.2
  have hK := tkT_K (xs := xs) (s := tkS xs e)
  generalize tkS xs e = S at *
  generalize tkT xs S = tk' at *
  obtain ⟨h14, h15, h16, h17, h3, hA, hb⟩ := id g1
  have bad : isK xs S (tkE xs S) = false → zwp 173 25 [zA 332] [] L m1 Q := fun q => by
    simp only [s173_25, s173_26, s173_27, s173_30, s173_37, s173_38, Int.toNat_natCast, true_and, and_true, true_or, or_true, false_or, or_false, zwr_id, zpu_some, zpu_none, reduceIte, Int.reduceLE, Int.reduceLT, Int.reduceEq, Int.reduceNeg, Int.reduceAdd, Int.reduceSub, Int.reduceMul, Int.reduceToNat, Nat.reduceAdd, Nat.reduceLeDiff, Nat.reduceEqDiff, Nat.reduceLT, eq_self, ne_eq, not_false_eq_true, not_true_eq_false, t0, r_errs t0]
    exact k2 q _ (zMp_rO rO_errs p1) errs_18 (errs_19.trans h15) (rO_tr o1 rO_errs)
  simp only [s173_4, s173_5, s173_8, zpu_none, t0, true_and, h17]
  simp only [s173_9]
  by_cases h2 : tk' = 2
  · rw [if_pos h2]
    generalize tkE xs S = E at *
    simp only [s173_12, s173_13, s173_16, s173_17, s173_20, s173_21, t0, true_and, h15, h16, (show zwr ((E : Int) - (S : Int)) = ((E - S : Nat) : Int) by rw [zwr_id (by omega) (by omega)]; omega)]
    simp only [s173_22]
    by_cases h1 : E - S = 1
    · rw [if_pos (by omega)]
      simp only [s173_33, s173_34, s173_37, s173_38, Int.toNat_natCast, true_and, and_true, true_or, or_true, false_or, or_false, zwr_id, zpu_some, zpu_none, reduceIte, Int.reduceLE, Int.reduceLT, Int.reduceEq, Int.reduceNeg, Int.reduceAdd, Int.reduceSub, Int.reduceMul, Int.reduceToNat, Nat.reduceAdd, Nat.reduceLeDiff, Nat.reduceEqDiff, Nat.reduceLT, eq_self, ne_eq, not_false_eq_true, not_true_eq_false]
      exact k1 (hK.mp ⟨h2, h1⟩) m1 p1 g1 o1
    · rw [if_neg (by omega)]
      exact bad (Bool.eq_false_iff.mpr (fun q => h1 (hK.mpr q).2))
  · rw [if_neg h2]
    exact bad (Bool.eq_false_iff.mpr (fun q => h2 (hK.mpr q).1))
/-- a SCRIPT half told, in the second halves -/
def rDd (m : zM) (D : zD) : Prop := (∀ k, k < 26 → m 334 (26 + k) = dS D k) ∧ (m 335 5 = ((dC D).length : Int) ∧ m 335 6 = ((dV D).length : Int) ∧ m 335 7 = ((dO D).length : Int) ∧ m 335 8 = ((dT D).length : Int) ∧ m 335 9 = ((dP D).length : Int)) ∧ (zAL m 336 10 ((dC D).map nZ) ∧ zAL m 337 8 ((dV D).map nZ) ∧ zAL m 338 4 ((dO D).map nZ) ∧ zAL m 339 4 ((dT D).map nZ)) ∧ ∀ (i : Nat) (q : Nat × Nat), (dP D)[i]? = some q → m 340 (2 * (8 + i)) = (q.1 : Int) ∧ m 340 (2 * (8 + i) + 1) = (q.2 : Int)
theorem rDd_eq {m m' : zM} {D : zD} (h : ∀ a, 334 ≤ a → a ≤ 340 → m' a = m a) (hD : rDd m D) : rDd m' D := by
  obtain ⟨h1, ⟨a1, a2, a3, a4, a5⟩, ⟨b1, b2, b3, b4⟩, h4⟩ := hD
  have e5 := h 335 (by decide) (by decide)
  refine ⟨fun k hk => by rw [h 334 (by decide) (by decide)]; exact h1 k hk, ⟨by rw [e5]; exact a1, by rw [e5]; exact a2, by rw [e5]; exact a3, by rw [e5]; exact a4, by rw [e5]; exact a5⟩, ⟨zAL_eq (h 336 (by decide) (by decide)) b1, zAL_eq (h 337 (by decide) (by decide)) b2, zAL_eq (h 338 (by decide) (by decide)) b3, zAL_eq (h 339 (by decide) (by decide)) b4⟩, fun i q hq => ?_⟩
  rw [h 340 (by decide) (by decide)]
  exact h4 i q hq
theorem rDd_O {m m' : zM} {D : zD} (h : rO m m') (hD : rDd m D) : rDd m' D := rDd_eq (fun a p q => h.1 a (by omega)) hD
/-- first halves stand -/
def rHf (m m' : zM) : Prop := (∀ a, a ≠ 332 → (a < 334 ∨ 340 < a) → m' a = m a) ∧ (∀ i, (i < 14 ∨ 19 < i) → m' 332 i = m 332 i) ∧ (∀ k, k < 26 → m' 334 k = m 334 k) ∧ (∀ k, k < 5 → m' 335 k = m 335 k) ∧ (∀ k, k < 10 → m' 336 k = m 336 k) ∧ (∀ k, k < 8 → m' 337 k = m 337 k) ∧ (∀ k, k < 4 → m' 338 k = m 338 k) ∧ (∀ k, k < 4 → m' 339 k = m 339 k) ∧ (∀ k, k < 16 → m' 340 k = m 340 k)
theorem rHf_rf {m : zM} : rHf m m := ⟨fun _ _ _ => rfl, fun _ _ => rfl, fun _ _ => rfl, fun _ _ => rfl, fun _ _ => rfl, fun _ _ => rfl, fun _ _ => rfl, fun _ _ => rfl, fun _ _ => rfl⟩
theorem rHf_tr {m m1 m2 : zM} (h : rHf m m1) (h' : rHf m1 m2) : rHf m m2 := by
  obtain ⟨a1, a2, a3, a4, a5, a6, a7, a8, a9⟩ := h
  obtain ⟨b1, b2, b3, b4, b5, b6, b7, b8, b9⟩ := h'
  exact ⟨fun a p q => (b1 a p q).trans (a1 a p q), fun i p => (b2 i p).trans (a2 i p), fun i p => (b3 i p).trans (a3 i p), fun i p => (b4 i p).trans (a4 i p), fun i p => (b5 i p).trans (a5 i p), fun i p => (b6 i p).trans (a6 i p), fun i p => (b7 i p).trans (a7 i p), fun i p => (b8 i p).trans (a8 i p), fun i p => (b9 i p).trans (a9 i p)⟩
theorem rHf_O {m m' : zM} (h : rO m m') : rHf m m' := ⟨fun a p _ => h.1 a p, h.2, fun _ _ => by rw [h.1 334 (by decide)], fun _ _ => by rw [h.1 335 (by decide)], fun _ _ => by rw [h.1 336 (by decide)], fun _ _ => by rw [h.1 337 (by decide)], fun _ _ => by rw [h.1 338 (by decide)], fun _ _ => by rw [h.1 339 (by decide)], fun _ _ => by rw [h.1 340 (by decide)]⟩
theorem zMp_Hf {m m' : zM} (h : rHf m m') (hp : zMp m) : zMp m' := zMp_eq (fun i hi => h.2.1 i (zMk_no hi)) hp
/-- a write into a second half -/
theorem rHf_up {m : zM} {a k : Nat} {v : Int} (h : (a = 334 ∧ 26 ≤ k) ∨ (a = 335 ∧ 5 ≤ k) ∨ (a = 336 ∧ 10 ≤ k) ∨ (a = 337 ∧ 8 ≤ k) ∨ (a = 338 ∧ 4 ≤ k) ∨ (a = 339 ∧ 4 ≤ k) ∨ (a = 340 ∧ 16 ≤ k)) : rHf m (zup m a k v) := by
  have e : ∀ b j, (b ≠ a ∨ j ≠ k) → zup m a k v b j = m b j := fun b j q => by
    unfold zup
    exact if_neg (fun z => q.elim (fun y => y z.1) (fun y => y z.2))
  refine ⟨fun b p q => zup_nf (by omega), fun i hi => e _ _ (by omega), fun i hi => e _ _ (by omega), fun i hi => e _ _ (by omega), fun i hi => e _ _ (by omega), fun i hi => e _ _ (by omega), fun i hi => e _ _ (by omega), fun i hi => e _ _ (by omega), fun i hi => e _ _ (by omega)⟩
theorem rRd_eq {m m' : zM} {xs : List Int} {pl sp : Nat} {tk : Int} (h : m' 332 = m 332) (h3 : m' 333 = m 333) (hR : rRd m xs pl sp tk) : rRd m' xs pl sp tk := by
  obtain ⟨h14, h15, h16, h17, h4, hA, hb⟩ := hR
  exact ⟨by rw [h]; exact h14, by rw [h]; exact h15, by rw [h]; exact h16, by rw [h]; exact h17, h4, zAL_eq h3 hA, hb⟩
