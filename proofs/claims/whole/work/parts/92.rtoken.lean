/-- the reference reading a text: xs, the TOKEN's place and end, its kind -/
def rRd (m : zM) (xs : List Int) (pl sp : Nat) (tk : Int) : Prop := m 332 14 = (xs.length : Int) ∧ m 332 15 = (pl : Int) ∧ m 332 16 = (sp : Int) ∧ m 332 17 = tk ∧ xs.length ≤ 300 ∧ zAL m 333 0 xs ∧ ∀ x ∈ xs, 0 ≤ x ∧ x < 256
theorem r_see {L : zY} {m : zM} {Q : zQ} {xs : List Int} {k : Nat} (ht : zMt L) (hn : zMn L) (q4 : m 332 4 = 333) (h14 : m 332 14 = (xs.length : Int)) (h3 : xs.length ≤ 300) (hA : zAL m 333 0 xs) : zwp 168 0 [zA 332, zI (k : Nat)] [] L m Q ↔ Q (some (zI (if k < xs.length then xs.getD k 0 else -1))) L m := by
  have t0 := mt332 ht
  have t3 := mt333 ht
  have n3 := mn333 hn
  have q4 : m 332 4 = ((333 : Nat) : Int) := q4
  by_cases h : k < xs.length
  · have n1 : ¬ (xs.length : Int) ≤ (k : Int) := by omega
    have hr : 0 ≤ (k : Int) ∧ (k : Int) < ((300 : Nat) : Int) := by omega
    rw [if_pos h, getD_lt h]
    simp only [s168_0, s168_1, s168_2, s168_5, s168_8, s168_9, s168_12, s168_13, s168_14, s168_17, s168_18, Int.toNat_natCast, true_and, and_true, true_or, or_true, false_or, or_false, zwr_id, zpu_some, zpu_none, reduceIte, Int.reduceLE, Int.reduceLT, Int.reduceEq, Int.reduceNeg, Int.reduceAdd, Int.reduceSub, Int.reduceMul, Int.reduceToNat, Nat.reduceAdd, Nat.reduceLeDiff, Nat.reduceEqDiff, Nat.reduceLT, eq_self, ne_eq, not_false_eq_true, not_true_eq_false, t0, h14, n1, q4, t3, n3, hr, and_self, zAL_get0 hA h]
  · have n1 : (xs.length : Int) ≤ (k : Int) := by omega
    rw [if_neg h]
    simp only [s168_0, s168_1, s168_2, s168_5, s168_8, s168_9, s168_12, s168_13, s168_14, s168_17, s168_18, Int.toNat_natCast, true_and, and_true, true_or, or_true, false_or, or_false, zwr_id, zpu_some, zpu_none, reduceIte, Int.reduceLE, Int.reduceLT, Int.reduceEq, Int.reduceNeg, Int.reduceAdd, Int.reduceSub, Int.reduceMul, Int.reduceToNat, Nat.reduceAdd, Nat.reduceLeDiff, Nat.reduceEqDiff, Nat.reduceLT, eq_self, ne_eq, not_false_eq_true, not_true_eq_false, t0, h14, n1]
def tkT (xs : List Int) (s : Nat) : Int := if xs.length ≤ s then 0 else if isL (xs.getD s 0) = true then (if 5 < tkE xs s - s then 1 else 2) else if xs.getD s 0 = 59 then 59 else 1
theorem c_rgo0 {L : zY} {m : zM} {Q : zQ} {xs : List Int} {e : Nat} (ht : zMt L) (hn : zMn L) (hp : zMp m) (h14 : m 332 14 = (xs.length : Int)) (h16 : m 332 16 = (e : Int)) (h3 : xs.length ≤ 300) (hA : zAL m 333 0 xs) (hb : ∀ x ∈ xs, 0 ≤ x ∧ x < 256) (he : e ≤ xs.length) (k : ∀ m', zMp m' → rRd m' xs (tkS xs e) (tkE xs (tkS xs e)) (tkT xs (tkS xs e)) → (∀ a, a ≠ 332 → m' a = m a) → (∀ i, i ≠ 15 → i ≠ 16 → i ≠ 17 → m' 332 i = m 332 i) → Q none L m') : zwp 169 0 [zA 332, zU] [] L m Q := by
  have t0 := mt332 ht
  have hb1 := tkS_le he
  obtain ⟨c1, c2, c3⟩ := fC_spec (p := fun i => decide (xs.getD i 0 = 32)) (xs.length - e) e
  have hs' : tkS xs e = e + fC (fun i => decide (xs.getD i 0 = 32)) (xs.length - e) e := rfl
  rw [← hs'] at c2 c3
  have hE := tkE_le hb1.2
  generalize tkS xs e = S at *
  -- all memories on the way differ from m in fields 15, 16, 17 of the object alone
  have via : ∀ (m1 : zM), (∀ a, a ≠ 332 → m1 a = m a) → (∀ i, i ≠ 15 → i ≠ 16 → i ≠ 17 → m1 332 i = m 332 i) → zMp m1 ∧ m1 332 4 = 333 ∧ m1 332 14 = (xs.length : Int) ∧ zAL m1 333 0 xs := fun m1 f1 f2 => ⟨zMp_eq (fun i hi => f2 i (fun q => by rw [q] at hi; cases hi) (fun q => by rw [q] at hi; cases hi) (fun q => by rw [q] at hi; cases hi)) hp, by rw [f2 4 (by decide) (by decide) (by decide)]; exact mp4 hp, by rw [f2 14 (by decide) (by decide) (by decide)]; exact h14, zAL_eq (f1 333 (by decide)) hA⟩
  have fin : ∀ m1, (∀ a, a ≠ 332 → m1 a = m a) → (∀ i, i ≠ 15 → i ≠ 16 → i ≠ 17 → m1 332 i = m 332 i) → m1 332 15 = (S : Int) → m1 332 16 = ((tkE xs S : Nat) : Int) → Q none L (zup m1 332 17 (tkT xs S)) := fun m1 f1 f2 g1 g2 => by
    obtain ⟨v1, v2, v3, v4⟩ := via m1 f1 f2
    refine k _ (zMp_eq (fun i hi => zup_nk (fun q => by rw [q] at hi; cases hi)) v1) ⟨by rw [zup_nk (by decide)]; exact v3, by rw [zup_nk (by decide)]; exact g1, by rw [zup_nk (by decide)]; exact g2, zup_same, h3, zAL_eq (zup_nf (by decide)) v4, hb⟩ (fun a ha => by rw [zup_nf ha]; exact f1 a ha) (fun i q1 q2 q3 => by rw [zup_nk q3]; exact f2 i q1 q2 q3)
  refine zfor (n := S) (fun i => [zA 332, zU]) (fun i m' => e ≤ i ∧ m' 332 16 = (i : Int) ∧ (∀ a, a ≠ 332 → m' a = m a) ∧ ∀ i, i ≠ 15 → i ≠ 16 → i ≠ 17 → m' 332 i = m 332 i) ?_ ?_ e m hb1.1 ⟨Nat.le_refl _, h16, fun _ _ => rfl, fun _ _ _ _ => rfl⟩
  · rintro i m1 hi ⟨hie, g1, f1, f2⟩ ih
    obtain ⟨v1, v2, v3, v4⟩ := via m1 f1 f2
    have c2 := of_decide_eq_true (c2 i hie hi)
    have hix : i < xs.length := by omega
    have iv : i < 1000000 := by omega
    simp only [s169_0]
    simp only [s169_1, s169_2, s169_5, s169_8, s169_10, s169_13, s169_14, s169_15, s169_18, s169_19, s169_20, s169_23, Int.toNat_natCast, true_and, and_true, true_or, or_true, false_or, or_false, zwr_id, zpu_some, zpu_none, reduceIte, Int.reduceLE, Int.reduceLT, Int.reduceEq, Int.reduceNeg, Int.reduceAdd, Int.reduceSub, Int.reduceMul, Int.reduceToNat, Nat.reduceAdd, Nat.reduceLeDiff, Nat.reduceEqDiff, Nat.reduceLT, eq_self, ne_eq, not_false_eq_true, not_true_eq_false, t0, g1, r_see ht hn v2 v3 h3 v4, hix, c2, z1 iv]
    exact ih _ ⟨by omega, zup_same, fun a ha => by rw [zup_nf ha]; exact f1 a ha, fun j q1 q2 q3 => by rw [zup_nk q2]; exact f2 j q1 q2 q3⟩
  · rintro m1 ⟨-, g1, f1, f2⟩
    obtain ⟨v1, v2, v3, v4⟩ := via m1 f1 f2
    have nb : ¬ (if S < xs.length then xs.getD S 0 else -1) = 32 := by
      by_cases q : S < xs.length
      · rw [if_pos q]
        exact of_decide_eq_false (c3.resolve_left (by omega))
      · rw [if_neg q]; decide
    have f1' : ∀ a, a ≠ 332 → zup m1 332 15 (S : Int) a = m a := fun a ha => by rw [zup_nf ha]; exact f1 a ha
    have f2' : ∀ i, i ≠ 15 → i ≠ 16 → i ≠ 17 → zup m1 332 15 (S : Int) 332 i = m 332 i := fun i q1 q2 q3 => by rw [zup_nk q1]; exact f2 i q1 q2 q3
    obtain ⟨u1, u2, u3, u4⟩ := via _ f1' f2'
    have g2 : zup m1 332 15 (S : Int) 332 16 = (S : Int) := by rw [zup_nk (by decide)]; exact g1
    simp only [s169_0]
    simp only [s169_1, s169_2, s169_5, s169_8, s169_10, s169_13, s169_14, s169_15, s169_18, s169_19, s169_20, s169_23, s169_26, s169_27, s169_28, s169_31, s169_34, s169_35, s169_36, s169_39, s169_42, s169_43, s169_44, Int.toNat_natCast, true_and, and_true, true_or, or_true, false_or, or_false, zwr_id, zpu_some, zpu_none, reduceIte, Int.reduceLE, Int.reduceLT, Int.reduceEq, Int.reduceNeg, Int.reduceAdd, Int.reduceSub, Int.reduceMul, Int.reduceToNat, Nat.reduceAdd, Nat.reduceLeDiff, Nat.reduceEqDiff, Nat.reduceLT, eq_self, ne_eq, not_false_eq_true, not_true_eq_false, t0, g1, r_see ht hn v2 v3 h3 v4, nb, g2, r_see ht hn u2 u3 h3 u4]
    simp only [s169_45]
    by_cases hS : S < xs.length
    · have hx := hb _ (List.getElem_mem hS)
      have n1 : ¬ xs.getD S 0 = -1 := by rw [getD_lt hS]; omega
      rw [if_pos hS, if_neg n1]
      simp only [s169_54, s169_55, s169_57, s169_59, Int.toNat_natCast, true_and, and_true, true_or, or_true, false_or, or_false, zwr_id, zpu_some, zpu_none, reduceIte, Int.reduceLE, Int.reduceLT, Int.reduceEq, Int.reduceNeg, Int.reduceAdd, Int.reduceSub, Int.reduceMul, Int.reduceToNat, Nat.reduceAdd, Nat.reduceLeDiff, Nat.reduceEqDiff, Nat.reduceLT, eq_self, ne_eq, not_false_eq_true, not_true_eq_false, r_in]
      by_cases hl : isL (xs.getD S 0) = true
      · have hl' := isL_iff.mp hl
        have e1 : (if 97 ≤ xs.getD S 0 ∧ xs.getD S 0 ≤ 122 then (1 : Int) else 0) = 1 := if_pos (by omega)
        rw [e1]
        simp only [s169_62, Int.toNat_natCast, true_and, and_true, true_or, or_true, false_or, or_false, zwr_id, zpu_some, zpu_none, reduceIte, Int.reduceLE, Int.reduceLT, Int.reduceEq, Int.reduceNeg, Int.reduceAdd, Int.reduceSub, Int.reduceMul, Int.reduceToNat, Nat.reduceAdd, Nat.reduceLeDiff, Nat.reduceEqDiff, Nat.reduceLT, eq_self, ne_eq, not_false_eq_true, not_true_eq_false]
        have eE : tkE xs S = S + fC (fun i => isL (xs.getD i 0)) (xs.length - S) S := by unfold tkE; rw [if_neg (fun q => by rw [hl] at q; cases q.2)]
        obtain ⟨d1, d2, d3⟩ := fC_spec (p := fun i => isL (xs.getD i 0)) (xs.length - S) S
        rw [← eE] at d2 d3
        have eT : tkT xs S = if 5 < tkE xs S - S then 1 else 2 := by unfold tkT; rw [if_neg (by omega), if_pos hl]
        rw [eT] at fin
        generalize tkE xs S = E at *
        refine zfor (n := E) (fun i => [zA 332, zI (xs.getD S 0)]) (fun i m' => S ≤ i ∧ m' 332 16 = (i : Int) ∧ m' 332 15 = (S : Int) ∧ (∀ a, a ≠ 332 → m' a = m a) ∧ ∀ i, i ≠ 15 → i ≠ 16 → i ≠ 17 → m' 332 i = m 332 i) ?_ ?_ S _ hE.1 ⟨Nat.le_refl _, g2, zup_same, f1', f2'⟩
        · rintro i m2 hi ⟨hSi, y1, y2, y3, y4⟩ ih
          obtain ⟨w1', w2', w3', w4'⟩ := via m2 y3 y4
          have d2 := isL_iff.mp (d2 i hSi hi)
          have hix : i < xs.length := by omega
          have iv : i < 1000000 := by omega
          have e1 : (if 97 ≤ xs.getD i 0 ∧ xs.getD i 0 ≤ 122 then (1 : Int) else 0) = 1 := if_pos (by omega)
          simp only [s169_65]
          simp only [s169_66, s169_67, s169_70, s169_73, s169_75, s169_77, s169_80, s169_83, s169_84, s169_85, s169_88, s169_89, s169_90, s169_93, Int.toNat_natCast, true_and, and_true, zpu_some, zpu_none, reduceIte, Int.reduceEq, t0, y1, r_see ht hn w2' w3' h3 w4', hix, r_in, e1, z1 iv]
          exact ih _ ⟨by omega, zup_same, by rw [zup_nk (by decide)]; exact y2, fun a ha => by rw [zup_nf ha]; exact y3 a ha, fun j q1 q2 q3 => by rw [zup_nk q2]; exact y4 j q1 q2 q3⟩
        · rintro m2 ⟨-, y1, y2, y3, y4⟩
          obtain ⟨w1', w2', w3', w4'⟩ := via m2 y3 y4
          have e1 : (if 97 ≤ (if E < xs.length then xs.getD E 0 else -1) ∧ (if E < xs.length then xs.getD E 0 else -1) ≤ 122 then (1 : Int) else 0) = 0 := by
            by_cases q : E < xs.length
            · rw [if_pos q]
              have d3 := isL_not.mp (d3.resolve_left (by omega))
              exact if_neg (by omega)
            · rw [if_neg q]; rfl
          simp only [s169_65]
          simp only [s169_66, s169_67, s169_70, s169_73, s169_75, s169_77, s169_80, s169_83, s169_84, s169_85, s169_88, s169_89, s169_90, s169_93, s169_96, s169_97, s169_98, s169_101, s169_102, s169_105, s169_106, Int.toNat_natCast, true_and, and_true, zpu_some, zpu_none, reduceIte, Int.reduceEq, t0, y1, y2, r_see ht hn w2' w3' h3 w4', r_in, e1, (show zwr ((E : Int) - (S : Int)) = ((E - S : Nat) : Int) by rw [zwr_id (by omega) (by omega)]; omega)]
          simp only [s169_107]
          by_cases q5 : 5 < E - S
          · rw [if_neg (by omega)]
            have := fin m2 y3 y4 y2 y1
            rw [if_pos q5] at this
            simp only [s169_110, s169_111, s169_114, s169_115, s169_118, Int.toNat_natCast, true_and, and_true, true_or, or_true, false_or, or_false, zwr_id, zpu_some, zpu_none, reduceIte, Int.reduceLE, Int.reduceLT, Int.reduceEq, Int.reduceNeg, Int.reduceAdd, Int.reduceSub, Int.reduceMul, Int.reduceToNat, Nat.reduceAdd, Nat.reduceLeDiff, Nat.reduceEqDiff, Nat.reduceLT, eq_self, ne_eq, not_false_eq_true, not_true_eq_false, t0]
            exact this
          · rw [if_pos (by omega)]
            have := fin m2 y3 y4 y2 y1
            rw [if_neg q5] at this
            simp only [s169_114, s169_115, s169_118, Int.toNat_natCast, true_and, and_true, true_or, or_true, false_or, or_false, zwr_id, zpu_some, zpu_none, reduceIte, Int.reduceLE, Int.reduceLT, Int.reduceEq, Int.reduceNeg, Int.reduceAdd, Int.reduceSub, Int.reduceMul, Int.reduceToNat, Nat.reduceAdd, Nat.reduceLeDiff, Nat.reduceEqDiff, Nat.reduceLT, eq_self, ne_eq, not_false_eq_true, not_true_eq_false, t0]
            exact this
      · have hl0 : isL (xs.getD S 0) = false := Bool.not_eq_true _ ▸ hl
        have hl' := isL_not.mp hl0
        have e1 : (if 97 ≤ xs.getD S 0 ∧ xs.getD S 0 ≤ 122 then (1 : Int) else 0) = 0 := if_neg (by omega)
        have eE : tkE xs S = S + 1 := by unfold tkE; rw [if_pos ⟨hS, hl0⟩]
        have eT : tkT xs S = if xs.getD S 0 = 59 then 59 else 1 := by unfold tkT; rw [if_neg (by omega), if_neg hl]
        have sv : S < 1000000 := by omega
        rw [eT, eE] at fin
        have := fin (zup (zup m1 332 15 (S : Int)) 332 16 ((S + 1 : Nat) : Int)) (fun a ha => by rw [zup_nf ha]; exact f1' a ha) (fun i q1 q2 q3 => by rw [zup_nk q2]; exact f2' i q1 q2 q3) (by rw [zup_nk (by decide)]; exact zup_same) zup_same
        rw [e1]
        simp only [s169_62, s169_119, s169_120, s169_121, s169_124, s169_125, s169_126, s169_129, s169_130, s169_131, Int.toNat_natCast, true_and, and_true, true_or, or_true, false_or, or_false, zwr_id, zpu_some, zpu_none, reduceIte, Int.reduceLE, Int.reduceLT, Int.reduceEq, Int.reduceNeg, Int.reduceAdd, Int.reduceSub, Int.reduceMul, Int.reduceToNat, Nat.reduceAdd, Nat.reduceLeDiff, Nat.reduceEqDiff, Nat.reduceLT, eq_self, ne_eq, not_false_eq_true, not_true_eq_false, t0, g2, z1 sv]
        simp only [s169_133]
        by_cases q : xs.getD S 0 = 59
        · rw [if_pos q] at this ⊢
          simp only [s169_136, s169_137, s169_140, s169_141, s169_144, Int.toNat_natCast, true_and, and_true, true_or, or_true, false_or, or_false, zwr_id, zpu_some, zpu_none, reduceIte, Int.reduceLE, Int.reduceLT, Int.reduceEq, Int.reduceNeg, Int.reduceAdd, Int.reduceSub, Int.reduceMul, Int.reduceToNat, Nat.reduceAdd, Nat.reduceLeDiff, Nat.reduceEqDiff, Nat.reduceLT, eq_self, ne_eq, not_false_eq_true, not_true_eq_false, t0, q]
          exact this
        · rw [if_neg q] at this ⊢
          simp only [s169_140, s169_141, s169_144, Int.toNat_natCast, true_and, and_true, true_or, or_true, false_or, or_false, zwr_id, zpu_some, zpu_none, reduceIte, Int.reduceLE, Int.reduceLT, Int.reduceEq, Int.reduceNeg, Int.reduceAdd, Int.reduceSub, Int.reduceMul, Int.reduceToNat, Nat.reduceAdd, Nat.reduceLeDiff, Nat.reduceEqDiff, Nat.reduceLT, eq_self, ne_eq, not_false_eq_true, not_true_eq_false, t0]
          exact this
    · rw [if_neg hS, if_pos rfl]
      have eE : tkE xs S = S := by
        unfold tkE
        rw [if_neg (fun q => hS q.1), show xs.length - S = 0 by omega]
        rfl
      have eT : tkT xs S = 0 := by unfold tkT; rw [if_pos (by omega)]
      rw [eT, eE] at fin
      simp only [s169_48, s169_49, s169_50, s169_53, Int.toNat_natCast, true_and, and_true, true_or, or_true, false_or, or_false, zwr_id, zpu_some, zpu_none, reduceIte, Int.reduceLE, Int.reduceLT, Int.reduceEq, Int.reduceNeg, Int.reduceAdd, Int.reduceSub, Int.reduceMul, Int.reduceToNat, Nat.reduceAdd, Nat.reduceLeDiff, Nat.reduceEqDiff, Nat.reduceLT, eq_self, ne_eq, not_false_eq_true, not_true_eq_false, t0]
      exact fin _ f1' f2' zup_same g2
theorem c_rgo {L : zY} {m : zM} {Q : zQ} {xs : List Int} {pl e : Nat} {tk : Int} (ht : zMt L) (hn : zMn L) (hp : zMp m) (hR : rRd m xs pl e tk) (he : e ≤ xs.length) (k : ∀ m', zMp m' → rRd m' xs (tkS xs e) (tkE xs (tkS xs e)) (tkT xs (tkS xs e)) → (∀ a, a ≠ 332 → m' a = m a) → (∀ i, i ≠ 15 → i ≠ 16 → i ≠ 17 → m' 332 i = m 332 i) → Q none L m') : zwp 169 0 [zA 332, zU] [] L m Q := by
  obtain ⟨h14, h15, h16, h17, h3, hA, hb⟩ := hR
  exact c_rgo0 ht hn hp h14 h16 h3 hA hb he k
