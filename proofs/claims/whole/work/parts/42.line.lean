/-! LINES, purely -/
def isK (xs : List Int) (s e : Nat) : Bool := decide (e - s = 1) && isL (xs.getD s 0)
def kAt (xs : List Int) (s : Nat) : Nat := (xs.getD s 0 - 97).toNat
abbrev zPr : Type := (Int × Nat) ⊕ (zD × Nat)
def pBody (xs : List Int) (ln : Int) (e1 : Nat) (D : zD) : zPr :=
  if isK xs (tkS xs e1) (tkE xs (tkS xs e1)) = false then .inl (1, tkS xs e1)
  else if ln = 5 then (if cLe D (kAt xs (tkS xs e1)) = true ∧ kAt xs (tkS xs e1) ∉ dT D then .inr (dTwin D (kAt xs (tkS xs e1)), tkE xs (tkS xs e1)) else .inl (2, tkS xs e1))
  else if ln = 6 then (if cVo D (kAt xs (tkS xs e1)) = false ∧ cFi D (kAt xs (tkS xs e1)) = false then .inl (2, tkS xs e1)
    else if isK xs (tkS xs (tkE xs (tkS xs e1))) (tkE xs (tkS xs (tkE xs (tkS xs e1)))) = false then .inl (1, tkS xs (tkE xs (tkS xs e1)))
    else if (if cVo D (kAt xs (tkS xs e1)) = true then cVo D (kAt xs (tkS xs (tkE xs (tkS xs e1)))) else cFi D (kAt xs (tkS xs (tkE xs (tkS xs e1))))) = true ∧ (kAt xs (tkS xs e1), kAt xs (tkS xs (tkE xs (tkS xs e1)))) ∉ dP D then .inr (dPair D (kAt xs (tkS xs e1), kAt xs (tkS xs (tkE xs (tkS xs e1)))), tkE xs (tkS xs (tkE xs (tkS xs e1)))) else .inl (2, tkS xs (tkE xs (tkS xs e1))))
  else if dS D (kAt xs (tkS xs e1)) = -1 then .inr (dTell D ln (kAt xs (tkS xs e1)), tkE xs (tkS xs e1)) else .inl (2, tkS xs e1)
def pWd (xs : List Int) (e : Nat) : List Int := (xs.drop (tkS xs e)).take (tkE xs (tkS xs e) - tkS xs e)
def pLine (xs : List Int) (e : Nat) (D : zD) : zPr :=
  if kwd (pWd xs e) = -1 then .inl (1, tkS xs e) else if dFull D (kwd (pWd xs e)) = true then .inl (3, tkS xs e) else pBody xs (kwd (pWd xs e)) (tkE xs (tkS xs e)) D
def pAll (xs : List Int) : Nat → Nat → zD → (Int × Nat) ⊕ zD
  | 0, _, _ => .inl (0, 0)
  | fuel + 1, e, D => match pLine xs e D with
    | .inl q => .inl q
    | .inr (D', e') => if xs.length ≤ tkS xs e' then (if dLacks D' = true then .inl (4, tkS xs e') else .inr D') else if xs.getD (tkS xs e') 0 = 59 then pAll xs fuel (tkE xs (tkS xs e')) D' else .inl (1, tkS xs e')
theorem isK_iff {xs : List Int} {s e : Nat} : isK xs s e = true ↔ e - s = 1 ∧ isL (xs.getD s 0) = true := by unfold isK; rw [Bool.and_eq_true, decide_eq_true_iff]
theorem kAt_kk {xs : List Int} {s : Nat} (h : isL (xs.getD s 0) = true) : xs.getD s 0 = kk (kAt xs s) ∧ kAt xs s < 26 := by
  rw [isL_iff] at h
  unfold kAt kk
  omega
theorem c_nkey {L : zY} {m : zM} {Q : zQ} {r tp s e : Nat} {xs rest : List Int} {p : Int} (hR : zRd L m r tp xs s e 0 p) (hT : zTp L m tp (xs ++ rest)) (he : e ≤ xs.length) (hd : tp ≠ r ∧ tp + 1 ≠ r)
    (k1 : isK xs (tkS xs e) (tkE xs (tkS xs e)) = true → ∀ m', zRd L m' r tp xs (tkS xs e) (tkE xs (tkS xs e)) 0 p → (∀ a, a ≠ r → m' a = m a) → Q (some (zI (kk (kAt xs (tkS xs e))))) L m')
    (k2 : isK xs (tkS xs e) (tkE xs (tkS xs e)) = false → ∀ m', zRd L m' r tp xs (tkS xs e) (tkE xs (tkS xs e)) 1 (tkS xs e : Nat) → (∀ a, a ≠ r → m' a = m a) → Q (some (zI (-1))) L m') : zwp 84 0 [zA r, zU] [] L m Q := by
  have a1 := hR.1
  have hlen : xs.length ≤ 300 := by have := hT.2.2.2.2.2.2.1; rw [List.length_append] at this; omega
  have tt := hT.1
  simp only [s84_0, s84_1, a1, true_and]
  refine c_next hR hT he hd (fun m1 g1 f1 => ?_)
  have hs := tkS_le he
  have hE := tkE_le hs.2
  generalize tkS xs e = S at *
  generalize tkE xs S = E at *
  have hT1 : zTp L m1 tp (xs ++ rest) := zTp_eq (f1 _ hd.1) (f1 _ hd.2) hT
  obtain ⟨-, a2, b0, b1, b2, b3, b4, b5⟩ := id g1
  have bad : isK xs S E = false → zwp 84 33 [zA r, zI (if S < xs.length then xs.getD S 0 else -1)] [] L m1 Q := by
    intro hk
    simp (disch := omega) only [s84_33, s84_34, s84_35, s84_38, s84_39, s77_0, s77_1, s77_2, s77_5, s77_6, s77_7, s77_10, s77_13, Int.toNat_natCast, true_and, and_true, true_or, or_true, false_or, or_false, zwr_id, zpu_some, zpu_none, reduceIte, Int.reduceLE, Int.reduceLT, Int.reduceEq, Int.reduceNeg, Int.reduceAdd, Int.reduceSub, Int.reduceMul, Int.reduceToNat, Nat.reduceAdd, Nat.reduceLeDiff, Nat.reduceEqDiff, Nat.reduceLT, eq_self, ne_eq, not_false_eq_true, not_true_eq_false, a1, b2, zup_nk]
    refine k2 hk _ ⟨a1, a2, ?_, ?_, ?_, ?_, ?_, ?_⟩ (fun a ha => by rw [zup_nf ha, zup_nf ha]; exact f1 a ha)
    · rw [zup_nk (by omega), zup_nk (by omega)]; exact b0
    · rw [zup_nk (by omega), zup_nk (by omega)]; exact b1
    · rw [zup_nk (by omega), zup_nk (by omega)]; exact b2
    · rw [zup_nk (by omega), zup_nk (by omega)]; exact b3
    · rw [zup_nk (by omega), zup_same]
    · rw [zup_same]
  have sg : ∀ Q' : zQ, zwp 78 0 [zA r, zI (S : Nat)] [] L m1 Q' ↔ Q' (some (zI (if S < xs.length then xs.getD S 0 else -1))) L m1 := by
    intro Q'
    by_cases hl : S < xs.length
    · have e1 : ¬ (xs.length : Int) ≤ (S : Int) := by omega
      simp only [s78_0, s78_1, s78_2, s78_5, s78_8, s78_9, s78_12, s78_13, s78_16, s78_19, s78_20, Int.toNat_natCast, true_and, and_true, true_or, or_true, false_or, or_false, zwr_id, zpu_some, zpu_none, reduceIte, Int.reduceLE, Int.reduceLT, Int.reduceEq, Int.reduceNeg, Int.reduceAdd, Int.reduceSub, Int.reduceMul, Int.reduceToNat, Nat.reduceAdd, Nat.reduceLeDiff, Nat.reduceEqDiff, Nat.reduceLT, eq_self, ne_eq, not_false_eq_true, not_true_eq_false, a1, b0, b1, tt, x_txt hT1 hl, e1, hl]
    · have e1 : (xs.length : Int) ≤ (S : Int) := by omega
      simp only [s78_0, s78_1, s78_2, s78_5, s78_8, s78_9, s78_12, s78_13, s78_16, s78_19, s78_20, Int.toNat_natCast, true_and, and_true, true_or, or_true, false_or, or_false, zwr_id, zpu_some, zpu_none, reduceIte, Int.reduceLE, Int.reduceLT, Int.reduceEq, Int.reduceNeg, Int.reduceAdd, Int.reduceSub, Int.reduceMul, Int.reduceToNat, Nat.reduceAdd, Nat.reduceLeDiff, Nat.reduceEqDiff, Nat.reduceLT, eq_self, ne_eq, not_false_eq_true, not_true_eq_false, a1, b0, b1, tt, e1, hl]
  simp only [s84_4, s84_5, s84_6, s84_9, s84_12, s84_13, s84_14, s84_17, s84_18, s84_21, s84_22, s84_23, Int.toNat_natCast, true_and, and_true, zpu_some, zpu_none, a1, b2, b3, sg, (show zwr ((E : Int) - (S : Int)) = ((E - S : Nat) : Int) by rw [zwr_id (by omega) (by omega)]; omega)]
  by_cases h1 : E - S = 1
  · rw [if_pos (by omega)]
    simp only [s84_26, s84_27, s84_30, x_isL, zpu_some, zpu_none]
    have hl : S < xs.length := by omega
    rw [if_pos hl] at bad ⊢
    by_cases h2 : isL (xs.getD S 0) = true
    · have hk : isK xs S E = true := isK_iff.mpr ⟨h1, h2⟩
      rw [h2]
      simp only [s84_40, s84_41, Int.toNat_natCast, true_and, and_true, true_or, or_true, false_or, or_false, zwr_id, zpu_some, zpu_none, reduceIte, Int.reduceLE, Int.reduceLT, Int.reduceEq, Int.reduceNeg, Int.reduceAdd, Int.reduceSub, Int.reduceMul, Int.reduceToNat, Nat.reduceAdd, Nat.reduceLeDiff, Nat.reduceEqDiff, Nat.reduceLT, eq_self, ne_eq, not_false_eq_true, not_true_eq_false]
      rw [(kAt_kk h2).1]
      exact k1 hk m1 g1 f1
    · have h2 : isL (xs.getD S 0) = false := Bool.not_eq_true _ ▸ h2
      have hk : isK xs S E = false := by rw [← Bool.not_eq_true, isK_iff, h2]; intro q; cases q.2
      rw [h2]
      simp only [Int.toNat_natCast, true_and, and_true, true_or, or_true, false_or, or_false, zwr_id, zpu_some, zpu_none, reduceIte, Int.reduceLE, Int.reduceLT, Int.reduceEq, Int.reduceNeg, Int.reduceAdd, Int.reduceSub, Int.reduceMul, Int.reduceToNat, Nat.reduceAdd, Nat.reduceLeDiff, Nat.reduceEqDiff, Nat.reduceLT, eq_self, ne_eq, not_false_eq_true, not_true_eq_false, Bool.false_eq_true]
      exact bad hk
  · rw [if_neg (by omega)]
    exact bad (by rw [← Bool.not_eq_true, isK_iff]; exact fun q => h1 q.1)
/-- fail() -/
theorem c_fail {L : zY} {m : zM} {Q : zQ} {r tp s e : Nat} {xs : List Int} {f p n : Int} (hR : zRd L m r tp xs s e f p) (k : ∀ m', zRd L m' r tp xs s e n (s : Nat) → (∀ a, a ≠ r → m' a = m a) → Q none L m') : zwp 77 0 [zA r, zI n] [] L m Q := by
  obtain ⟨a1, a2, b0, b1, b2, b3, b4, b5⟩ := id hR
  simp (disch := omega) only [s77_0, s77_1, s77_2, s77_5, s77_6, s77_7, s77_10, s77_13, Int.toNat_natCast, true_and, and_true, true_or, or_true, false_or, or_false, zwr_id, zpu_some, zpu_none, reduceIte, Int.reduceLE, Int.reduceLT, Int.reduceEq, Int.reduceNeg, Int.reduceAdd, Int.reduceSub, Int.reduceMul, Int.reduceToNat, Nat.reduceAdd, Nat.reduceLeDiff, Nat.reduceEqDiff, Nat.reduceLT, eq_self, ne_eq, not_false_eq_true, not_true_eq_false, a1, b2, zup_nk]
  refine k _ ⟨a1, a2, ?_, ?_, ?_, ?_, ?_, ?_⟩ (fun a ha => by rw [zup_nf ha, zup_nf ha])
  · rw [zup_nk (by omega), zup_nk (by omega)]; exact b0
  · rw [zup_nk (by omega), zup_nk (by omega)]; exact b1
  · rw [zup_nk (by omega), zup_nk (by omega)]; exact b2
  · rw [zup_nk (by omega), zup_nk (by omega)]; exact b3
  · rw [zup_nk (by omega), zup_same]
  · rw [zup_same]
