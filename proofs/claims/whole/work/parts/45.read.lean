theorem c_readLine {L : zY} {m : zM} {Q : zQ} {r tp c s e : Nat} {xs rest : List Int} {p : Int} {D : zD} (hR : zRd L m r tp xs s e 0 p) (hT : zTp L m tp (xs ++ rest)) (hS : zSd L m c D) (he : e ≤ xs.length) (hd : tp ≠ r ∧ tp + 1 ≠ r ∧ (r < c ∨ c + 13 < r) ∧ (tp + 1 < c ∨ c + 13 < tp))
    (k1 : ∀ f pl, pLine xs e D = .inl (f, pl) → ∀ m' s' e', zRd L m' r tp xs s' e' f (pl : Nat) → zSd L m' c D → zFS r c m m' → Q none L m') (k2 : ∀ D' e', pLine xs e D = .inr (D', e') → ∀ m' s', zRd L m' r tp xs s' e' 0 p → zSd L m' c D' → zFS r c m m' → Q none L m') : zwp 83 0 [zA r, zA c, zU] [] L m Q := by
  have a1 := hR.1
  have s1 := hS.1.1
  simp only [s83_0, s83_1, a1, true_and]
  refine c_next hR hT he ⟨hd.1, hd.2.1⟩ (fun m1 g1 f1 => ?_)
  have hs := tkS_le he
  have hE := tkE_le hs.2
  have hT1 : zTp L m1 tp (xs ++ rest) := zTp_eq (f1 _ hd.1) (f1 _ hd.2.1) hT
  have hS1 : zSd L m1 c D := zSd_eq (fun a p q => f1 a (by omega)) hS
  have rng := kwd_rng (w := pWd xs e)
  unfold pLine at k1 k2
  have xl := fun Q' : zQ => x_line (Q := Q') g1 hT1 hE.1 hE.2.1
  have ew : (xs.drop (tkS xs e)).take (tkE xs (tkS xs e) - tkS xs e) = pWd xs e := rfl
  rw [ew] at xl
  clear ew
  simp only [s83_4, s83_5, s83_8, s83_9, s83_10, s83_11, zpu_none, zpu_some, a1, true_and, xl]
  clear xl
  generalize kwd (pWd xs e) = ln at *
  by_cases h1 : ln = -1
  · rw [if_pos h1] at k1 ⊢
    simp only [s83_14, s83_15, s83_16, a1, true_and]
    refine c_fail g1 (fun m2 g2 f2 => ?_)
    simp only [s83_19, s83_74, zpu_none]
    exact k1 _ _ rfl m2 _ _ g2 (zSd_eq (fun a p q => f2 a (by omega)) hS1) (fun a ha hb => by rw [f2 a ha, f1 a ha])
  · rw [if_neg h1] at k1 k2 ⊢
    have hl : 0 ≤ ln ∧ ln ≤ 6 := by omega
    have t : zt L (lnA c ln) = 2 := by
      unfold lnA
      repeat' split
      · exact hS.2.2.2.1.1
      · exact hS.2.2.2.2.1.1
      · exact hS.2.2.2.2.2.1.1
      · exact hS.2.2.2.2.2.2.1.1
      · exact hS.2.2.1.1
    simp only [s83_22, s83_23, s83_24, s83_27, s83_30, zpu_none, zpu_some, s1, true_and, x_listOf hS1 hl, t, x_fullD hS1]
    by_cases hf : dFull D ln = true
    · rw [hf] at k1 ⊢
      rw [if_pos rfl] at k1
      simp only [s83_33, s83_34, s83_35, Int.toNat_natCast, true_and, and_true, true_or, or_true, false_or, or_false, zwr_id, zpu_some, zpu_none, reduceIte, Int.reduceLE, Int.reduceLT, Int.reduceEq, Int.reduceNeg, Int.reduceAdd, Int.reduceSub, Int.reduceMul, Int.reduceToNat, Nat.reduceAdd, Nat.reduceLeDiff, Nat.reduceEqDiff, Nat.reduceLT, eq_self, ne_eq, not_false_eq_true, not_true_eq_false, a1]
      refine c_fail g1 (fun m2 g2 f2 => ?_)
      simp only [s83_38, s83_74, zpu_none]
      exact k1 _ _ rfl m2 _ _ g2 (zSd_eq (fun a p q => f2 a (by omega)) hS1) (fun a ha hb => by rw [f2 a ha, f1 a ha])
    · have hf : dFull D ln = false := Bool.not_eq_true _ ▸ hf
      rw [hf] at k1 k2 ⊢
      rw [if_neg Bool.false_ne_true] at k1 k2
      have hd1 : tp ≠ r ∧ tp + 1 ≠ r ∧ (r < c ∨ c + 13 < r) ∧ (tp + 1 < c ∨ c + 13 < tp) := hd
      simp only [s83_41, s83_42, s83_43, Int.toNat_natCast, true_and, and_true, true_or, or_true, false_or, or_false, zwr_id, zpu_some, zpu_none, reduceIte, Int.reduceLE, Int.reduceLT, Int.reduceEq, Int.reduceNeg, Int.reduceAdd, Int.reduceSub, Int.reduceMul, Int.reduceToNat, Nat.reduceAdd, Nat.reduceLeDiff, Nat.reduceEqDiff, Nat.reduceLT, eq_self, ne_eq, not_false_eq_true, not_true_eq_false, Bool.false_eq_true]
      by_cases h5 : ln = 5
      · subst h5
        simp only [s83_46, s83_47, s83_48, Int.toNat_natCast, true_and, and_true, true_or, or_true, false_or, or_false, zwr_id, zpu_some, zpu_none, reduceIte, Int.reduceLE, Int.reduceLT, Int.reduceEq, Int.reduceNeg, Int.reduceAdd, Int.reduceSub, Int.reduceMul, Int.reduceToNat, Nat.reduceAdd, Nat.reduceLeDiff, Nat.reduceEqDiff, Nat.reduceLT, eq_self, ne_eq, not_false_eq_true, not_true_eq_false, a1]
        refine c_twin hf g1 hT1 hS1 hE.2.1 hd1 (fun f pl hp m2 s2 e2 g2 gs f2 => ?_) (fun D' e' hp m2 s2 g2 gs f2 => ?_)
        · simp only [s83_51, s83_74, zpu_none]
          exact k1 _ _ hp m2 _ _ g2 gs (fun a ha hb => by rw [f2 a ha hb, f1 a ha])
        · simp only [s83_51, s83_74, zpu_none]
          exact k2 _ _ hp m2 _ g2 gs (fun a ha hb => by rw [f2 a ha hb, f1 a ha])
      · rw [if_neg h5]
        simp only [s83_54, s83_55, s83_57]
        by_cases h6 : ln = 6
        · subst h6
          simp only [s83_60, s83_61, s83_62, Int.toNat_natCast, true_and, and_true, true_or, or_true, false_or, or_false, zwr_id, zpu_some, zpu_none, reduceIte, Int.reduceLE, Int.reduceLT, Int.reduceEq, Int.reduceNeg, Int.reduceAdd, Int.reduceSub, Int.reduceMul, Int.reduceToNat, Nat.reduceAdd, Nat.reduceLeDiff, Nat.reduceEqDiff, Nat.reduceLT, eq_self, ne_eq, not_false_eq_true, not_true_eq_false, a1]
          refine c_pair hf g1 hT1 hS1 hE.2.1 hd1 (fun f pl hp m2 s2 e2 g2 gs f2 => ?_) (fun D' e' hp m2 s2 g2 gs f2 => ?_)
          · simp only [s83_65, s83_74, zpu_none]
            exact k1 _ _ hp m2 _ _ g2 gs (fun a ha hb => by rw [f2 a ha hb, f1 a ha])
          · simp only [s83_65, s83_74, zpu_none]
            exact k2 _ _ hp m2 _ g2 gs (fun a ha hb => by rw [f2 a ha hb, f1 a ha])
        · rw [if_neg h6]
          simp only [s83_68, s83_69, s83_70, s83_71, Int.toNat_natCast, true_and, and_true, true_or, or_true, false_or, or_false, zwr_id, zpu_some, zpu_none, reduceIte, Int.reduceLE, Int.reduceLT, Int.reduceEq, Int.reduceNeg, Int.reduceAdd, Int.reduceSub, Int.reduceMul, Int.reduceToNat, Nat.reduceAdd, Nat.reduceLeDiff, Nat.reduceEqDiff, Nat.reduceLT, eq_self, ne_eq, not_false_eq_true, not_true_eq_false, a1]
          refine c_told (by omega) hf g1 hT1 hS1 hE.2.1 hd1 (fun f pl hp m2 s2 e2 g2 gs f2 => ?_) (fun D' e' hp m2 s2 g2 gs f2 => ?_)
          · simp only [s83_74, zpu_none]
            exact k1 _ _ hp m2 _ _ g2 gs (fun a ha hb => by rw [f2 a ha hb, f1 a ha])
          · simp only [s83_74, zpu_none]
            exact k2 _ _ hp m2 _ g2 gs (fun a ha hb => by rw [f2 a ha hb, f1 a ha])
theorem zSd_r {L : zY} {m m' : zM} {r c : Nat} {D : zD} (h : ∀ a, a ≠ r → m' a = m a) (hd : r < c ∨ c + 13 < r) (hS : zSd L m c D) : zSd L m' c D := zSd_eq (fun a p q => h a (by omega)) hS
theorem c_goesOn {L : zY} {m : zM} {Q : zQ} {r tp s e : Nat} {xs rest : List Int} {p : Int} (hR : zRd L m r tp xs s e 0 p) (hT : zTp L m tp (xs ++ rest)) (he : e ≤ xs.length) (hd : tp ≠ r ∧ tp + 1 ≠ r)
    (k1 : xs.length ≤ tkS xs e → ∀ m', zRd L m' r tp xs (tkS xs e) (tkE xs (tkS xs e)) 0 p → (∀ a, a ≠ r → m' a = m a) → Q (some (zI 0)) L m')
    (k2 : tkS xs e < xs.length → xs.getD (tkS xs e) 0 = 59 → ∀ m', zRd L m' r tp xs (tkS xs e) (tkE xs (tkS xs e)) 0 p → (∀ a, a ≠ r → m' a = m a) → Q (some (zI 1)) L m')
    (k3 : tkS xs e < xs.length → xs.getD (tkS xs e) 0 ≠ 59 → ∀ m', zRd L m' r tp xs (tkS xs e) (tkE xs (tkS xs e)) 1 (tkS xs e : Nat) → (∀ a, a ≠ r → m' a = m a) → Q (some (zI 0)) L m') : zwp 81 0 [zA r] [] L m Q := by
  have a1 := hR.1
  have tt := hT.1
  simp only [s81_0, s81_1, a1, true_and]
  refine c_next hR hT he hd (fun m1 g1 f1 => ?_)
  have hs := tkS_le he
  have hT1 : zTp L m1 tp (xs ++ rest) := zTp_eq (f1 _ hd.1) (f1 _ hd.2) hT
  generalize tkS xs e = S at *
  generalize tkE xs S = E at *
  have b0 := g1.2.2.1
  have b1 := g1.2.2.2.1
  have b2 := g1.2.2.2.2.1
  simp only [s81_4, s81_5, s81_8, s81_9, s81_12, zpu_none, zpu_some, a1, true_and, b1, b2]
  by_cases h1 : S < xs.length
  · rw [if_pos (by omega)]
    have e1 : ¬ (xs.length : Int) ≤ (S : Int) := by omega
    simp only [s81_17, s81_18, s81_19, s81_22, s81_25, s81_27, s78_0, s78_1, s78_2, s78_5, s78_8, s78_9, s78_12, s78_13, s78_16, s78_19, s78_20, Int.toNat_natCast, true_and, and_true, true_or, or_true, false_or, or_false, zwr_id, zpu_some, zpu_none, reduceIte, Int.reduceLE, Int.reduceLT, Int.reduceEq, Int.reduceNeg, Int.reduceAdd, Int.reduceSub, Int.reduceMul, Int.reduceToNat, Nat.reduceAdd, Nat.reduceLeDiff, Nat.reduceEqDiff, Nat.reduceLT, eq_self, ne_eq, not_false_eq_true, not_true_eq_false, a1, b0, b1, b2, tt, x_txt hT1 h1, e1]
    by_cases h2 : xs.getD S 0 = 59
    · rw [if_pos h2]
      simp only [s81_37, s81_38, Int.toNat_natCast, true_and, and_true, true_or, or_true, false_or, or_false, zwr_id, zpu_some, zpu_none, reduceIte, Int.reduceLE, Int.reduceLT, Int.reduceEq, Int.reduceNeg, Int.reduceAdd, Int.reduceSub, Int.reduceMul, Int.reduceToNat, Nat.reduceAdd, Nat.reduceLeDiff, Nat.reduceEqDiff, Nat.reduceLT, eq_self, ne_eq, not_false_eq_true, not_true_eq_false]
      exact k2 h1 h2 m1 g1 f1
    · rw [if_neg h2]
      simp only [s81_30, s81_31, s81_32, Int.toNat_natCast, true_and, and_true, true_or, or_true, false_or, or_false, zwr_id, zpu_some, zpu_none, reduceIte, Int.reduceLE, Int.reduceLT, Int.reduceEq, Int.reduceNeg, Int.reduceAdd, Int.reduceSub, Int.reduceMul, Int.reduceToNat, Nat.reduceAdd, Nat.reduceLeDiff, Nat.reduceEqDiff, Nat.reduceLT, eq_self, ne_eq, not_false_eq_true, not_true_eq_false, a1]
      refine c_fail g1 (fun m2 g2 f2 => ?_)
      simp only [s81_35, s81_36, Int.toNat_natCast, true_and, and_true, true_or, or_true, false_or, or_false, zwr_id, zpu_some, zpu_none, reduceIte, Int.reduceLE, Int.reduceLT, Int.reduceEq, Int.reduceNeg, Int.reduceAdd, Int.reduceSub, Int.reduceMul, Int.reduceToNat, Nat.reduceAdd, Nat.reduceLeDiff, Nat.reduceEqDiff, Nat.reduceLT, eq_self, ne_eq, not_false_eq_true, not_true_eq_false]
      exact k3 h1 h2 m2 g2 (fun a ha => by rw [f2 a ha, f1 a ha])
  · rw [if_neg (by omega)]
    simp only [s81_15, s81_16, Int.toNat_natCast, true_and, and_true, true_or, or_true, false_or, or_false, zwr_id, zpu_some, zpu_none, reduceIte, Int.reduceLE, Int.reduceLT, Int.reduceEq, Int.reduceNeg, Int.reduceAdd, Int.reduceSub, Int.reduceMul, Int.reduceToNat, Nat.reduceAdd, Nat.reduceLeDiff, Nat.reduceEqDiff, Nat.reduceLT, eq_self, ne_eq, not_false_eq_true, not_true_eq_false]
    exact k1 (by omega) m1 g1 f1
theorem c_rdX {L : zY} {m : zM} {Q : zQ} {r c : Nat} {f l n : Int} (a1 : zt L r = 7) (hf : m r 4 = f) (h0 : f ≠ 0) (k : Q none L m) : zwp 76 34 [zA r, zI n, zA c, zI 0, zI l] [] L m Q := by
  simp only [s76_34, s76_35, s76_77, s76_78, s76_81, s76_84, s76_85, s76_88, s76_91, s76_92, s76_93, s76_96, s76_97, s76_100, s76_103, s76_104, s76_107, Int.toNat_natCast, true_and, and_true, true_or, or_true, false_or, or_false, zwr_id, zpu_some, zpu_none, reduceIte, Int.reduceLE, Int.reduceLT, Int.reduceEq, Int.reduceNeg, Int.reduceAdd, Int.reduceSub, Int.reduceMul, Int.reduceToNat, Nat.reduceAdd, Nat.reduceLeDiff, Nat.reduceEqDiff, Nat.reduceLT, eq_self, ne_eq, not_false_eq_true, not_true_eq_false, a1, hf, h0]
  exact k
/-- nothing but the ScriptReader and the Script has changed -/
def zFT (r c : Nat) (m m' : zM) : Prop := ∀ a, a ≠ r → (a < c ∨ c + 25 < a) → m' a = m a
theorem c_rdY {L : zY} {m : zM} {Q : zQ} {r tp c s e : Nat} {xs : List Int} {p l n : Int} {D : zD} (hR : zRd L m r tp xs s e 0 p) (hS : zSd L m c D) (hl : zSl L m c) (hD : dOk D) (hd : r < c ∨ c + 25 < r) (k1 : dLacks D = true → ∀ m', zRd L m' r tp xs s e 4 (s : Nat) → (∀ a, a ≠ r → m' a = m a) → Q none L m') (k2 : dLacks D = false → ∀ m', zRd L m' r tp xs s e 0 p → zSd L m' c D → zSt L m' c D → zFR (c + 14) (c + 25) m m' → Q none L m') : zwp 76 34 [zA r, zI n, zA c, zI 0, zI l] [] L m Q := by
  have a1 := hR.1
  have s1 := hS.1.1
  have b4 := hR.2.2.2.2.2.2.1
  simp only [s76_34, s76_35, s76_77, s76_78, s76_81, s76_84, s76_85, Int.toNat_natCast, true_and, and_true, true_or, or_true, false_or, or_false, zwr_id, zpu_some, zpu_none, reduceIte, Int.reduceLE, Int.reduceLT, Int.reduceEq, Int.reduceNeg, Int.reduceAdd, Int.reduceSub, Int.reduceMul, Int.reduceToNat, Nat.reduceAdd, Nat.reduceLeDiff, Nat.reduceEqDiff, Nat.reduceLT, eq_self, ne_eq, not_false_eq_true, not_true_eq_false, a1, b4, s1]
  refine c_lacks hS (fun k hk => (hD.1.1 k hk).1) ?_
  simp only [s76_88, zpu_some]
  by_cases h : dLacks D = true
  · rw [h]
    simp only [s76_91, s76_92, s76_93, Int.toNat_natCast, true_and, and_true, true_or, or_true, false_or, or_false, zwr_id, zpu_some, zpu_none, reduceIte, Int.reduceLE, Int.reduceLT, Int.reduceEq, Int.reduceNeg, Int.reduceAdd, Int.reduceSub, Int.reduceMul, Int.reduceToNat, Nat.reduceAdd, Nat.reduceLeDiff, Nat.reduceEqDiff, Nat.reduceLT, eq_self, ne_eq, not_false_eq_true, not_true_eq_false, a1]
    refine c_fail hR (fun m2 g2 f2 => ?_)
    have b4' := g2.2.2.2.2.2.2.1
    simp only [s76_96, s76_97, s76_100, s76_103, s76_104, s76_107, Int.toNat_natCast, true_and, and_true, true_or, or_true, false_or, or_false, zwr_id, zpu_some, zpu_none, reduceIte, Int.reduceLE, Int.reduceLT, Int.reduceEq, Int.reduceNeg, Int.reduceAdd, Int.reduceSub, Int.reduceMul, Int.reduceToNat, Nat.reduceAdd, Nat.reduceLeDiff, Nat.reduceEqDiff, Nat.reduceLT, eq_self, ne_eq, not_false_eq_true, not_true_eq_false, a1, b4']
    exact k1 h m2 g2 f2
  · have h : dLacks D = false := Bool.not_eq_true _ ▸ h
    rw [h]
    simp only [s76_96, s76_97, s76_100, s76_103, s76_104, Int.toNat_natCast, true_and, and_true, true_or, or_true, false_or, or_false, zwr_id, zpu_some, zpu_none, reduceIte, Int.reduceLE, Int.reduceLT, Int.reduceEq, Int.reduceNeg, Int.reduceAdd, Int.reduceSub, Int.reduceMul, Int.reduceToNat, Nat.reduceAdd, Nat.reduceLeDiff, Nat.reduceEqDiff, Nat.reduceLT, eq_self, ne_eq, not_false_eq_true, not_true_eq_false, a1, b4, s1, Bool.false_eq_true]
    refine c_give hD hS hl (fun m2 g2 g2' f2 => ?_)
    simp only [s76_107, zpu_none]
    refine k2 h m2 ?_ g2 g2' f2
    have e3 : m2 r = m r := zFR_at f2 (by omega)
    obtain ⟨-, a2, c0, c1, c2, c3, c4, c5⟩ := hR
    exact ⟨a1, a2, by rw [e3]; exact c0, by rw [e3]; exact c1, by rw [e3]; exact c2, by rw [e3]; exact c3, by rw [e3]; exact c4, by rw [e3]; exact c5⟩
theorem c_rdL {L : zY} {Q : zQ} {r tp c : Nat} {xs rest : List Int} {p n : Int} (hd : tp ≠ r ∧ tp + 1 ≠ r ∧ (r < c ∨ c + 25 < r) ∧ (tp + 1 < c ∨ c + 25 < tp)) : ∀ (fuel lines e s : Nat) (D : zD) (m : zM), lines + fuel = 301 → xs.length - e < fuel → e ≤ xs.length → dOk D → zRd L m r tp xs s e 0 p → zTp L m tp (xs ++ rest) → zSd L m c D → zSl L m c →
    (∀ f pl, pAll xs fuel e D = .inl (f, pl) → ∀ m' s' e' D', zRd L m' r tp xs s' e' f (pl : Nat) → f ≠ 0 → zSd L m' c D' → zSl L m' c → zFT r c m m' → Q none L m') → (∀ D', pAll xs fuel e D = .inr D' → dOk D' → ∀ m' s' e', zRd L m' r tp xs s' e' 0 p → zSd L m' c D' → zSt L m' c D' → zFT r c m m' → Q none L m') →
    zwp 76 34 [zA r, zI n, zA c, zI 1, zI (lines : Nat)] [] L m Q := by
  intro fuel
  induction fuel with
  | zero => intro lines e s D m h1 h2; omega
  | succ fuel ih =>
    intro lines e s D m hlf hfu he hD hR hT hS hl k1 k2
    have a1 := hR.1
    have hd13 : tp ≠ r ∧ tp + 1 ≠ r ∧ (r < c ∨ c + 13 < r) ∧ (tp + 1 < c ∨ c + 13 < tp) := by omega
    unfold pAll at k1 k2
    simp only [s76_34]
    simp only [s76_35, s76_38, s76_40, s76_43, s76_46, s76_47, s76_48, Int.toNat_natCast, true_and, and_true, true_or, or_true, false_or, or_false, zwr_id, zpu_some, zpu_none, reduceIte, Int.reduceLE, Int.reduceLT, Int.reduceEq, Int.reduceNeg, Int.reduceAdd, Int.reduceSub, Int.reduceMul, Int.reduceToNat, Nat.reduceAdd, Nat.reduceLeDiff, Nat.reduceEqDiff, Nat.reduceLT, eq_self, ne_eq, not_false_eq_true, not_true_eq_false, a1]
    rw [if_neg (by omega)]
    refine c_readLine hR hT hS he hd13 (fun f pl hp m1 s1 e1 g1 gs f1 => ?_) (fun D' e1 hp m1 s1 g1 gs f1 => ?_)
    · have hf := pLine_f hp
      have b4 := g1.2.2.2.2.2.2.1
      have n4 : f ≠ 0 := by omega
      rw [hp] at k1
      simp only [s76_51, s76_52, s76_55, s76_58, s76_59, s76_62, s76_65, s76_66, s76_69, s76_70, s76_71, s76_74, Int.toNat_natCast, true_and, and_true, true_or, or_true, false_or, or_false, zwr_id, zpu_some, zpu_none, reduceIte, Int.reduceLE, Int.reduceLT, Int.reduceEq, Int.reduceNeg, Int.reduceAdd, Int.reduceSub, Int.reduceMul, Int.reduceToNat, Nat.reduceAdd, Nat.reduceLeDiff, Nat.reduceEqDiff, Nat.reduceLT, eq_self, ne_eq, not_false_eq_true, not_true_eq_false, a1, b4, n4]
      exact c_rdX a1 b4 n4 (k1 f pl rfl m1 _ _ _ g1 n4 gs (zSl_eq (fun a p q => f1 a (by omega) (by omega)) hl) (fun a ha hb => f1 a ha (by omega)))
    · have he1 := pLine_e he hp
      have hD' := pLine_ok hD hp
      have b4 := g1.2.2.2.2.2.2.1
      rw [hp] at k1 k2
      dsimp only at k1 k2
      have hT1 : zTp L m1 tp (xs ++ rest) := zTp_eq (f1 _ hd.1 (by omega)) (f1 _ hd.2.1 (by omega)) hT
      have hl1 : zSl L m1 c := zSl_eq (fun a p q => f1 a (by omega) (by omega)) hl
      have hs := tkS_le he1.2
      have hE := tkE_le hs.2
      simp only [s76_51, s76_52, s76_55, s76_58, s76_59, Int.toNat_natCast, true_and, and_true, true_or, or_true, false_or, or_false, zwr_id, zpu_some, zpu_none, reduceIte, Int.reduceLE, Int.reduceLT, Int.reduceEq, Int.reduceNeg, Int.reduceAdd, Int.reduceSub, Int.reduceMul, Int.reduceToNat, Nat.reduceAdd, Nat.reduceLeDiff, Nat.reduceEqDiff, Nat.reduceLT, eq_self, ne_eq, not_false_eq_true, not_true_eq_false, a1, b4]
      refine c_goesOn g1 hT1 he1.2 ⟨hd.1, hd.2.1⟩ (fun c1 m2 g2 f2 => ?_) (fun c1 c2 m2 g2 f2 => ?_) (fun c1 c2 m2 g2 f2 => ?_)
      · rw [if_pos c1] at k1 k2
        simp only [s76_62, s76_65, s76_66, s76_69, s76_70, s76_71, s76_74, Int.toNat_natCast, true_and, and_true, true_or, or_true, false_or, or_false, zwr_id, zpu_some, zpu_none, reduceIte, Int.reduceLE, Int.reduceLT, Int.reduceEq, Int.reduceNeg, Int.reduceAdd, Int.reduceSub, Int.reduceMul, Int.reduceToNat, Nat.reduceAdd, Nat.reduceLeDiff, Nat.reduceEqDiff, Nat.reduceLT, eq_self, ne_eq, not_false_eq_true, not_true_eq_false]
        have hS2 := zSd_r f2 hd13.2.2.1 gs
        refine c_rdY g2 hS2 (zSl_eq (fun a p q => f2 a (by omega)) hl1) hD' (by omega) (fun h m3 g3 f3 => ?_) (fun h m3 g3 gs3 gt3 f3 => ?_)
        · rw [if_pos h] at k1
          exact k1 _ _ rfl m3 _ _ D' g3 (by decide) (zSd_r f3 hd13.2.2.1 hS2) (zSl_eq (fun a p q => by rw [f3 a (by omega), f2 a (by omega)]) hl1) (fun a ha hb => by rw [f3 a ha, f2 a ha, f1 a ha (by omega)])
        · rw [if_neg (by rw [h]; exact Bool.noConfusion)] at k2
          exact k2 _ rfl hD' m3 _ _ g3 gs3 gt3 (fun a ha hb => by rw [zFR_at f3 (by omega), f2 a ha, f1 a ha (by omega)])
      · rw [if_neg (by omega), if_pos c2] at k1 k2
        simp only [s76_62, s76_65, s76_66, s76_69, s76_70, s76_71, s76_74, Int.toNat_natCast, true_and, and_true, true_or, or_true, false_or, or_false, zwr_id, zpu_some, zpu_none, reduceIte, Int.reduceLE, Int.reduceLT, Int.reduceEq, Int.reduceNeg, Int.reduceAdd, Int.reduceSub, Int.reduceMul, Int.reduceToNat, Nat.reduceAdd, Nat.reduceLeDiff, Nat.reduceEqDiff, Nat.reduceLT, eq_self, ne_eq, not_false_eq_true, not_true_eq_false, (z1 (i := lines) (by omega))]
        refine ih (lines + 1) _ _ D' m2 (by omega) (by omega) hE.2.1 hD' g2 (zTp_eq (f2 _ hd.1) (f2 _ hd.2.1) hT1) (zSd_r f2 hd13.2.2.1 gs) (zSl_eq (fun a p q => f2 a (by omega)) hl1) (fun f pl hp' m' s' e' D2 q1 q2 q3 q4 q5 => ?_) (fun D2 hp' q0 m' s' e' q1 q2 q3 q5 => ?_)
        · exact k1 f pl hp' m' s' e' D2 q1 q2 q3 q4 (fun a ha hb => by rw [q5 a ha hb, f2 a ha, f1 a ha (by omega)])
        · exact k2 D2 hp' q0 m' s' e' q1 q2 q3 (fun a ha hb => by rw [q5 a ha hb, f2 a ha, f1 a ha (by omega)])
      · rw [if_neg (by omega), if_neg c2] at k1
        have b4' := g2.2.2.2.2.2.2.1
        simp only [s76_62, s76_65, s76_66, s76_69, s76_70, s76_71, s76_74, Int.toNat_natCast, true_and, and_true, true_or, or_true, false_or, or_false, zwr_id, zpu_some, zpu_none, reduceIte, Int.reduceLE, Int.reduceLT, Int.reduceEq, Int.reduceNeg, Int.reduceAdd, Int.reduceSub, Int.reduceMul, Int.reduceToNat, Nat.reduceAdd, Nat.reduceLeDiff, Nat.reduceEqDiff, Nat.reduceLT, eq_self, ne_eq, not_false_eq_true, not_true_eq_false]
        exact c_rdX a1 b4' (by decide) (k1 _ _ rfl m2 _ _ D' g2 (by decide) (zSd_r f2 hd13.2.2.1 gs) (zSl_eq (fun a p q => f2 a (by omega)) hl1) (fun a ha hb => by rw [f2 a ha, f1 a ha (by omega)]))
/-- a text is read -/
def pText (xs : List Int) : (Int × Nat) ⊕ zD := pAll xs 301 0 dD0
theorem c_read {L : zY} {m : zM} {Q : zQ} {r tp c : Nat} {xs rest : List Int} {D : zD} (hd : tp ≠ r ∧ tp + 1 ≠ r ∧ (r < c ∨ c + 25 < r) ∧ (tp + 1 < c ∨ c + 25 < tp)) (a1 : zt L r = 7) (a2 : 2 ≤ r) (b0 : m r 0 = (tp : Int)) (hT : zTp L m tp (xs ++ rest)) (hS : zSd L m c D) (hl : zSl L m c)
    (k1 : ∀ f pl, pText xs = .inl (f, pl) → ∀ m' s' e' D', zRd L m' r tp xs s' e' f (pl : Nat) → f ≠ 0 → zSd L m' c D' → zSl L m' c → zFT r c m m' → Q none L m') (k2 : ∀ D', pText xs = .inr D' → dOk D' → ∀ m' s' e', zRd L m' r tp xs s' e' 0 (-1) → zSd L m' c D' → zSt L m' c D' → zFT r c m m' → Q none L m') : zwp 76 0 [zA r, zI (xs.length : Nat), zA c, zU, zU] [] L m Q := by
  have s1 := hS.1.1
  have hlen : xs.length ≤ 300 := by have := hT.2.2.2.2.2.2.1; rw [List.length_append] at this; omega
  have hm : ∃ m1, m1 = zup (zup (zup (zup (zup m r 1 (xs.length : Int)) r 2 0) r 3 0) r 4 0) r 5 (-1) := ⟨_, rfl⟩
  obtain ⟨m1, e1⟩ := hm
  have f1 : ∀ a, a ≠ r → m1 a = m a := fun a ha => by rw [e1, zup_nf ha, zup_nf ha, zup_nf ha, zup_nf ha, zup_nf ha]
  have g1 : zRd L m1 r tp xs 0 0 0 (-1) := by
    refine ⟨a1, a2, ?_, ?_, ?_, ?_, ?_, ?_⟩
    · rw [e1, zup_nk (by decide), zup_nk (by decide), zup_nk (by decide), zup_nk (by decide), zup_nk (by decide)]; exact b0
    · rw [e1, zup_nk (by decide), zup_nk (by decide), zup_nk (by decide), zup_nk (by decide), zup_same]
    · rw [e1, zup_nk (by decide), zup_nk (by decide), zup_nk (by decide), zup_same]; rfl
    · rw [e1, zup_nk (by decide), zup_nk (by decide), zup_same]; rfl
    · rw [e1, zup_nk (by decide), zup_same]
    · rw [e1, zup_same]
  simp only [s76_0, s76_1, s76_2, s76_5, s76_6, s76_7, s76_10, s76_11, s76_12, s76_15, s76_16, s76_17, s76_20, s76_21, s76_22, s76_25, s76_26, Int.toNat_natCast, true_and, and_true, true_or, or_true, false_or, or_false, zwr_id, zpu_some, zpu_none, reduceIte, Int.reduceLE, Int.reduceLT, Int.reduceEq, Int.reduceNeg, Int.reduceAdd, Int.reduceSub, Int.reduceMul, Int.reduceToNat, Nat.reduceAdd, Nat.reduceLeDiff, Nat.reduceEqDiff, Nat.reduceLT, eq_self, ne_eq, not_false_eq_true, not_true_eq_false, a1, a2, s1]
  rw [← e1]
  clear e1
  refine c_Sclear (zSd_r f1 (by omega) hS) (fun m2 g2 f2 => ?_)
  have e2 : m2 r = m1 r := zFR_at f2 (by omega)
  simp only [s76_29, s76_30, s76_31, s76_32, zpu_none]
  have g1' : zRd L m2 r tp xs 0 0 0 (-1) := by unfold zRd; rw [e2]; exact g1
  have fr : ∀ a, a ≠ r → (a < c ∨ c + 13 < a) → m2 a = m a := fun a ha hb => by rw [zFR_at f2 (by omega), f1 a ha]
  refine c_rdL (xs := xs) hd 301 0 0 0 dD0 m2 (by omega) (by omega) (by omega) dOk_0 g1' (zTp_eq (fr _ hd.1 (by omega)) (fr _ hd.2.1 (by omega)) hT) g2 (zSl_eq (fun a p q => fr a (by omega) (by omega)) hl) (fun f pl hp m' s' e' D' q1 q2 q3 q4 q5 => ?_) (fun D' hp q0 m' s' e' q1 q2 q3 q5 => ?_)
  · exact k1 f pl hp m' s' e' D' q1 q2 q3 q4 (fun a ha hb => by rw [q5 a ha hb, fr a ha (by omega)])
  · exact k2 D' hp q0 m' s' e' q1 q2 q3 (fun a ha hb => by rw [q5 a ha hb, fr a ha (by omega)])
