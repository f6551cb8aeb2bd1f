/-- nothing but the ScriptReader and the Script's lists has changed -/
def zFS (r c : Nat) (m m' : zM) : Prop := ∀ a, a ≠ r → (a < c ∨ c + 13 < a) → m' a = m a
theorem c_told {L : zY} {m : zM} {Q : zQ} {r tp c s e : Nat} {xs rest : List Int} {p ln : Int} {D : zD} (hln : 0 ≤ ln ∧ ln ≤ 4) (hf : dFull D ln = false) (hR : zRd L m r tp xs s e 0 p) (hT : zTp L m tp (xs ++ rest)) (hS : zSd L m c D) (he : e ≤ xs.length) (hd : tp ≠ r ∧ tp + 1 ≠ r ∧ (r < c ∨ c + 13 < r) ∧ (tp + 1 < c ∨ c + 13 < tp))
    (k1 : ∀ f pl, pBody xs ln e D = .inl (f, pl) → ∀ m' s' e', zRd L m' r tp xs s' e' f (pl : Nat) → zSd L m' c D → zFS r c m m' → Q none L m') (k2 : ∀ D' e', pBody xs ln e D = .inr (D', e') → ∀ m' s', zRd L m' r tp xs s' e' 0 p → zSd L m' c D' → zFS r c m m' → Q none L m') : zwp 85 0 [zA r, zA c, zI ln, zU] [] L m Q := by
  have a1 := hR.1
  have s1 := hS.1.1
  simp only [s85_0, s85_1, a1, true_and]
  refine c_nkey hR hT he ⟨hd.1, hd.2.1⟩ (fun hk m1 g1 f1 => ?_) (fun hk m1 g1 f1 => ?_)
  · have hK := isK_iff.mp hk
    obtain ⟨e1, e2⟩ := kAt_kk hK.2
    have hS1 : zSd L m1 c D := zSd_eq (fun a p q => f1 a (by omega)) hS
    have b4 := g1.2.2.2.2.2.2.1
    unfold pBody at k1 k2
    rw [if_neg (by rw [hk]; exact Bool.noConfusion), if_neg (by omega), if_neg (by omega)] at k1 k2
    generalize kAt xs (tkS xs e) = kx at *
    simp only [s85_4, s85_5, s85_6, s85_9, s85_12, s85_13, s85_14, s85_15, s85_18, Int.toNat_natCast, true_and, and_true, zpu_some, zpu_none, reduceIte, a1, b4, s1, x_isKey hS1]
    have hkk : 97 ≤ kk kx ∧ kk kx < 123 ∧ (kk kx - 97).toNat = kx := by unfold kk; omega
    by_cases h : dS D kx = -1
    · have hv : (if 97 ≤ kk kx ∧ kk kx < 123 ∧ dS D (kk kx - 97).toNat ≠ -1 then (1 : Int) else 0) = 0 := if_neg (fun q => q.2.2 (by rw [hkk.2.2]; exact h))
      rw [hv]
      rw [if_pos h] at k2
      simp only [s85_29, s85_30, s85_31, s85_32, reduceIte, s1, true_and]
      refine c_tellKey hS1 hln e2 hf (fun m2 g2 f2 => ?_)
      simp only [s85_35, zpu_none]
      refine k2 _ _ rfl m2 (tkS xs e) ?_ g2 (fun a ha hb => by rw [zFR_at f2 (by omega)]; exact f1 a ha)
      have e3 : m2 r = m1 r := zFR_at f2 (by omega)
      obtain ⟨-, a2, c0, c1, c2, c3, c4, c5⟩ := g1
      exact ⟨a1, a2, by rw [e3]; exact c0, by rw [e3]; exact c1, by rw [e3]; exact c2, by rw [e3]; exact c3, by rw [e3]; exact c4, by rw [e3]; exact c5⟩
    · have hv : (if 97 ≤ kk kx ∧ kk kx < 123 ∧ dS D (kk kx - 97).toNat ≠ -1 then (1 : Int) else 0) = 1 := if_pos ⟨hkk.1, hkk.2.1, by rw [hkk.2.2]; exact h⟩
      rw [hv]
      rw [if_neg h] at k1
      simp only [s85_21, s85_22, s85_23, Int.toNat_natCast, true_and, and_true, true_or, or_true, false_or, or_false, zwr_id, zpu_some, zpu_none, reduceIte, Int.reduceLE, Int.reduceLT, Int.reduceEq, Int.reduceNeg, Int.reduceAdd, Int.reduceSub, Int.reduceMul, Int.reduceToNat, Nat.reduceAdd, Nat.reduceLeDiff, Nat.reduceEqDiff, Nat.reduceLT, eq_self, ne_eq, not_false_eq_true, not_true_eq_false, a1]
      refine c_fail g1 (fun m2 g2 f2 => ?_)
      simp only [s85_26, s85_29, s85_30, s85_31, s85_32, s85_35, zpu_none]
      exact k1 _ _ rfl m2 _ _ g2 (zSd_eq (fun a p q => f2 a (by omega)) hS1) (fun a ha hb => by rw [f2 a ha]; exact f1 a ha)
  · have b4 := g1.2.2.2.2.2.2.1
    simp only [s85_4, s85_5, s85_6, s85_9, s85_12, Int.toNat_natCast, true_and, and_true, true_or, or_true, false_or, or_false, zwr_id, zpu_some, zpu_none, reduceIte, Int.reduceLE, Int.reduceLT, Int.reduceEq, Int.reduceNeg, Int.reduceAdd, Int.reduceSub, Int.reduceMul, Int.reduceToNat, Nat.reduceAdd, Nat.reduceLeDiff, Nat.reduceEqDiff, Nat.reduceLT, eq_self, ne_eq, not_false_eq_true, not_true_eq_false, a1, b4]
    unfold pBody at k1
    rw [if_pos hk] at k1
    exact k1 _ _ rfl m1 _ _ g1 (zSd_eq (fun a p q => f1 a (by omega)) hS) (fun a ha hb => f1 a ha)
theorem c_twin {L : zY} {m : zM} {Q : zQ} {r tp c s e : Nat} {xs rest : List Int} {p : Int} {D : zD} (hf : dFull D 5 = false) (hR : zRd L m r tp xs s e 0 p) (hT : zTp L m tp (xs ++ rest)) (hS : zSd L m c D) (he : e ≤ xs.length) (hd : tp ≠ r ∧ tp + 1 ≠ r ∧ (r < c ∨ c + 13 < r) ∧ (tp + 1 < c ∨ c + 13 < tp))
    (k1 : ∀ f pl, pBody xs 5 e D = .inl (f, pl) → ∀ m' s' e', zRd L m' r tp xs s' e' f (pl : Nat) → zSd L m' c D → zFS r c m m' → Q none L m') (k2 : ∀ D' e', pBody xs 5 e D = .inr (D', e') → ∀ m' s', zRd L m' r tp xs s' e' 0 p → zSd L m' c D' → zFS r c m m' → Q none L m') : zwp 86 0 [zA r, zA c, zU] [] L m Q := by
  have a1 := hR.1
  have s1 := hS.1.1
  simp only [s86_0, s86_1, a1, true_and]
  refine c_nkey hR hT he ⟨hd.1, hd.2.1⟩ (fun hk m1 g1 f1 => ?_) (fun hk m1 g1 f1 => ?_)
  · have hK := isK_iff.mp hk
    obtain ⟨e1, e2⟩ := kAt_kk hK.2
    have hS1 : zSd L m1 c D := zSd_eq (fun a p q => f1 a (by omega)) hS
    have b4 := g1.2.2.2.2.2.2.1
    unfold pBody at k1 k2
    rw [if_neg (by rw [hk]; exact Bool.noConfusion), if_pos rfl] at k1 k2
    generalize kAt xs (tkS xs e) = kx at *
    have p4 := hS1.1.2.2.2.2.2.2.1
    have l4 := hS1.2.2.2.2.2.1
    have t4 := l4.1
    have bad : ¬ (cLe D kx = true ∧ kx ∉ dT D) → zwp 86 32 [zA r, zA c, zI (kk kx)] [] L m1 Q := by
      intro h
      rw [if_neg h] at k1
      simp only [s86_32, s86_33, s86_34, Int.toNat_natCast, true_and, and_true, true_or, or_true, false_or, or_false, zwr_id, zpu_some, zpu_none, reduceIte, Int.reduceLE, Int.reduceLT, Int.reduceEq, Int.reduceNeg, Int.reduceAdd, Int.reduceSub, Int.reduceMul, Int.reduceToNat, Nat.reduceAdd, Nat.reduceLeDiff, Nat.reduceEqDiff, Nat.reduceLT, eq_self, ne_eq, not_false_eq_true, not_true_eq_false, a1]
      refine c_fail g1 (fun m2 g2 f2 => ?_)
      simp only [s86_37, s86_48, zpu_none]
      exact k1 _ _ rfl m2 _ _ g2 (zSd_eq (fun a p q => f2 a (by omega)) hS1) (fun a ha hb => by rw [f2 a ha]; exact f1 a ha)
    simp only [s86_4, s86_5, s86_6, s86_9, s86_12, s86_13, s86_14, s86_15, s86_18, Int.toNat_natCast, true_and, and_true, zpu_some, zpu_none, reduceIte, a1, b4, s1, x_canLead hS1 e2]
    by_cases h : cLe D kx = true
    · rw [h]
      simp only [s86_21, s86_22, s86_25, s86_26, Int.toNat_natCast, true_and, and_true, true_or, or_true, false_or, or_false, zwr_id, zpu_some, zpu_none, reduceIte, Int.reduceLE, Int.reduceLT, Int.reduceEq, Int.reduceNeg, Int.reduceAdd, Int.reduceSub, Int.reduceMul, Int.reduceToNat, Nat.reduceAdd, Nat.reduceLeDiff, Nat.reduceEqDiff, Nat.reduceLT, eq_self, ne_eq, not_false_eq_true, not_true_eq_false, s1, p4, t4]
      refine c_KL_holds l4 ?_
      have hm : kk kx ∈ (dT D).map kk ↔ kx ∈ dT D := by
        rw [List.mem_map]
        constructor
        · rintro ⟨a, ha, e⟩
          rw [← kk_inj.mp e]; exact ha
        · intro ha; exact ⟨kx, ha, rfl⟩
      simp only [s86_29, zpu_some]
      by_cases h2 : kx ∈ dT D
      · rw [if_pos (hm.mpr h2), if_neg (by decide)]
        exact bad (fun q => q.2 h2)
      · rw [if_neg (fun q => h2 (hm.mp q)), if_pos rfl]
        rw [if_pos ⟨h, h2⟩] at k2
        simp only [s86_40, s86_41, s86_44, s86_45, Int.toNat_natCast, true_and, and_true, true_or, or_true, false_or, or_false, zwr_id, zpu_some, zpu_none, reduceIte, Int.reduceLE, Int.reduceLT, Int.reduceEq, Int.reduceNeg, Int.reduceAdd, Int.reduceSub, Int.reduceMul, Int.reduceToNat, Nat.reduceAdd, Nat.reduceLeDiff, Nat.reduceEqDiff, Nat.reduceLT, eq_self, ne_eq, not_false_eq_true, not_true_eq_false, s1, p4, t4]
        refine c_tellTwin hS1 hf (fun m2 g2 f2 => ?_)
        simp only [s86_48, zpu_none]
        refine k2 _ _ rfl m2 (tkS xs e) ?_ g2 (fun a ha hb => by rw [zFR_at f2 (by omega)]; exact f1 a ha)
        have e3 : m2 r = m1 r := zFR_at f2 (by omega)
        obtain ⟨-, a2, c0, c1, c2, c3, c4, c5⟩ := g1
        exact ⟨a1, a2, by rw [e3]; exact c0, by rw [e3]; exact c1, by rw [e3]; exact c2, by rw [e3]; exact c3, by rw [e3]; exact c4, by rw [e3]; exact c5⟩
    · have h' : cLe D kx = false := Bool.not_eq_true _ ▸ h
      rw [h']
      simp only [Bool.false_eq_true, reduceIte]
      exact bad (fun q => h q.1)
  · have b4 := g1.2.2.2.2.2.2.1
    simp only [s86_4, s86_5, s86_6, s86_9, s86_12, Int.toNat_natCast, true_and, and_true, true_or, or_true, false_or, or_false, zwr_id, zpu_some, zpu_none, reduceIte, Int.reduceLE, Int.reduceLT, Int.reduceEq, Int.reduceNeg, Int.reduceAdd, Int.reduceSub, Int.reduceMul, Int.reduceToNat, Nat.reduceAdd, Nat.reduceLeDiff, Nat.reduceEqDiff, Nat.reduceLT, eq_self, ne_eq, not_false_eq_true, not_true_eq_false, a1, b4]
    unfold pBody at k1
    rw [if_pos hk] at k1
    exact k1 _ _ rfl m1 _ _ g1 (zSd_eq (fun a p q => f1 a (by omega)) hS) (fun a ha hb => f1 a ha)
theorem x_holdsP {L : zY} {m : zM} {Q : zQ} {c a b : Nat} {D : zD} (h : zSd L m c D) : zwp 65 0 [zA c, zI (kk a), zI (kk b), zU] [] L m Q ↔ Q (some (zI (if (a, b) ∈ dP D then 1 else 0))) L m := zwp_det (c_holdsP (q := (a, b)) h ⟨rfl, rfl, rfl⟩)
theorem c_pair {L : zY} {m : zM} {Q : zQ} {r tp c s e : Nat} {xs rest : List Int} {p : Int} {D : zD} (hf : dFull D 6 = false) (hR : zRd L m r tp xs s e 0 p) (hT : zTp L m tp (xs ++ rest)) (hS : zSd L m c D) (he : e ≤ xs.length) (hd : tp ≠ r ∧ tp + 1 ≠ r ∧ (r < c ∨ c + 13 < r) ∧ (tp + 1 < c ∨ c + 13 < tp))
    (k1 : ∀ f pl, pBody xs 6 e D = .inl (f, pl) → ∀ m' s' e', zRd L m' r tp xs s' e' f (pl : Nat) → zSd L m' c D → zFS r c m m' → Q none L m') (k2 : ∀ D' e', pBody xs 6 e D = .inr (D', e') → ∀ m' s', zRd L m' r tp xs s' e' 0 p → zSd L m' c D' → zFS r c m m' → Q none L m') : zwp 87 0 [zA r, zA c, zU, zU, zU] [] L m Q := by
  have a1 := hR.1
  have s1 := hS.1.1
  simp only [s87_0, s87_1, a1, true_and]
  refine c_nkey hR hT he ⟨hd.1, hd.2.1⟩ (fun hk m1 g1 f1 => ?_) (fun hk m1 g1 f1 => ?_)
  · have hK := isK_iff.mp hk
    obtain ⟨e1, e2⟩ := kAt_kk hK.2
    have hS1 : zSd L m1 c D := zSd_eq (fun a p q => f1 a (by omega)) hS
    have hT1 : zTp L m1 tp (xs ++ rest) := zTp_eq (f1 _ hd.1) (f1 _ hd.2.1) hT
    have b4 := g1.2.2.2.2.2.2.1
    have hE2 := (tkE_le (tkS_le he).2).2.1
    unfold pBody at k1 k2
    rw [if_neg (by rw [hk]; exact Bool.noConfusion), if_neg (by decide), if_pos rfl] at k1 k2
    generalize kAt xs (tkS xs e) = kx at *
    simp only [s87_4, s87_5, s87_6, s87_9, s87_12, s87_13, s87_14, s87_15, s87_18, Int.toNat_natCast, true_and, and_true, zpu_some, zpu_none, reduceIte, a1, b4, s1, x_isVow hS1 e2]
    have good : ¬ (cVo D kx = false ∧ cFi D kx = false) → zwp 87 35 [zA r, zA c, zI (kk kx), zU, zU] [] L m1 Q := by
      intro h
      rw [if_neg h] at k1 k2
      simp only [s87_35, s87_36, a1, true_and]
      generalize tkE xs (tkS xs e) = E1 at *
      refine c_nkey g1 hT1 hE2 ⟨hd.1, hd.2.1⟩ (fun hk2 m2 g2 f2 => ?_) (fun hk2 m2 g2 f2 => ?_)
      · have hK2 := isK_iff.mp hk2
        obtain ⟨e1', e2'⟩ := kAt_kk hK2.2
        have hS2 : zSd L m2 c D := zSd_eq (fun a p q => f2 a (by omega)) hS1
        have b4' := g2.2.2.2.2.2.2.1
        rw [if_neg (by rw [hk2]; exact Bool.noConfusion)] at k1 k2
        generalize kAt xs (tkS xs E1) = ky at *
        have tail : ∀ b : Bool, b = (if cVo D kx = true then cVo D ky else cFi D ky) → zwp 87 69 [zA r, zA c, zI (kk kx), zI (kk ky), zU] [zI (if b then 1 else 0)] L m2 Q := by
          intro b hb
          rw [← hb] at k1 k2
          have bad : ¬ (b = true ∧ (kx, ky) ∉ dP D) → zwp 87 85 [zA r, zA c, zI (kk kx), zI (kk ky), zI (if b then 1 else 0)] [] L m2 Q := by
            intro h
            rw [if_neg h] at k1
            simp only [s87_85, s87_86, s87_87, Int.toNat_natCast, true_and, and_true, true_or, or_true, false_or, or_false, zwr_id, zpu_some, zpu_none, reduceIte, Int.reduceLE, Int.reduceLT, Int.reduceEq, Int.reduceNeg, Int.reduceAdd, Int.reduceSub, Int.reduceMul, Int.reduceToNat, Nat.reduceAdd, Nat.reduceLeDiff, Nat.reduceEqDiff, Nat.reduceLT, eq_self, ne_eq, not_false_eq_true, not_true_eq_false, a1]
            refine c_fail g2 (fun m3 g3 f3 => ?_)
            simp only [s87_90, s87_99, zpu_none]
            exact k1 _ _ rfl m3 _ _ g3 (zSd_eq (fun a p q => f3 a (by omega)) hS2) (fun a ha hb => by rw [f3 a ha, f2 a ha]; exact f1 a ha)
          simp only [s87_69, s87_71, s87_73, zpu_some]
          cases b with
          | false =>
            have bad := bad (fun q => Bool.noConfusion q.1)
            simp only [Bool.false_eq_true, reduceIte] at bad ⊢
            exact bad
          | true =>
            simp only [reduceIte, s87_76, s87_77, s87_78, s87_79, s87_82, Int.toNat_natCast, true_and, and_true, true_or, or_true, false_or, or_false, zwr_id, zpu_some, zpu_none, reduceIte, Int.reduceLE, Int.reduceLT, Int.reduceEq, Int.reduceNeg, Int.reduceAdd, Int.reduceSub, Int.reduceMul, Int.reduceToNat, Nat.reduceAdd, Nat.reduceLeDiff, Nat.reduceEqDiff, Nat.reduceLT, eq_self, ne_eq, not_false_eq_true, not_true_eq_false, s1, x_holdsP hS2]
            by_cases h3 : (kx, ky) ∈ dP D
            · rw [if_pos h3, if_neg (by decide)]
              have bad := bad (fun q => q.2 h3)
              simp only [reduceIte] at bad
              exact bad
            · rw [if_neg h3, if_pos rfl]
              rw [if_pos ⟨rfl, h3⟩] at k2
              simp only [s87_93, s87_94, s87_95, s87_96, s1, true_and]
              refine c_tellPair (q := (kx, ky)) hS2 hf (fun m3 g3 f3 => ?_)
              simp only [s87_99, zpu_none]
              refine k2 _ _ rfl m3 (tkS xs E1) ?_ g3 (fun a ha hb => by rw [zFR_at f3 (by omega), f2 a ha]; exact f1 a ha)
              have e3 : m3 r = m2 r := zFR_at f3 (by omega)
              obtain ⟨-, a2, c0, c1, c2, c3, c4, c5⟩ := g2
              exact ⟨a1, a2, by rw [e3]; exact c0, by rw [e3]; exact c1, by rw [e3]; exact c2, by rw [e3]; exact c3, by rw [e3]; exact c4, by rw [e3]; exact c5⟩
        simp only [s87_39, s87_40, s87_41, s87_44, s87_47, s87_48, s87_49, s87_50, s87_53, Int.toNat_natCast, true_and, and_true, zpu_some, zpu_none, reduceIte, a1, b4', s1, x_isVow hS2 e2]
        by_cases hv : cVo D kx = true
        · rw [hv]
          simp only [reduceIte, s87_56, s87_57, s87_58, s87_61, Int.toNat_natCast, true_and, and_true, true_or, or_true, false_or, or_false, zwr_id, zpu_some, zpu_none, reduceIte, Int.reduceLE, Int.reduceLT, Int.reduceEq, Int.reduceNeg, Int.reduceAdd, Int.reduceSub, Int.reduceMul, Int.reduceToNat, Nat.reduceAdd, Nat.reduceLeDiff, Nat.reduceEqDiff, Nat.reduceLT, eq_self, ne_eq, not_false_eq_true, not_true_eq_false, s1, x_isVow hS2 e2']
          exact tail _ (by rw [if_pos hv])
        · have hv' : cVo D kx = false := Bool.not_eq_true _ ▸ hv
          rw [hv']
          simp only [reduceIte, s87_64, s87_65, s87_66, Int.toNat_natCast, true_and, and_true, true_or, or_true, false_or, or_false, zwr_id, zpu_some, zpu_none, reduceIte, Int.reduceLE, Int.reduceLT, Int.reduceEq, Int.reduceNeg, Int.reduceAdd, Int.reduceSub, Int.reduceMul, Int.reduceToNat, Nat.reduceAdd, Nat.reduceLeDiff, Nat.reduceEqDiff, Nat.reduceLT, eq_self, ne_eq, not_false_eq_true, not_true_eq_false, s1, x_canFi hS2 e2', Bool.false_eq_true]
          exact tail _ (by rw [if_neg hv])
      · have b4' := g2.2.2.2.2.2.2.1
        simp only [s87_39, s87_40, s87_41, s87_44, s87_47, Int.toNat_natCast, true_and, and_true, true_or, or_true, false_or, or_false, zwr_id, zpu_some, zpu_none, reduceIte, Int.reduceLE, Int.reduceLT, Int.reduceEq, Int.reduceNeg, Int.reduceAdd, Int.reduceSub, Int.reduceMul, Int.reduceToNat, Nat.reduceAdd, Nat.reduceLeDiff, Nat.reduceEqDiff, Nat.reduceLT, eq_self, ne_eq, not_false_eq_true, not_true_eq_false, a1, b4']
        rw [if_pos hk2] at k1
        exact k1 _ _ rfl m2 _ _ g2 (zSd_eq (fun a p q => f2 a (by omega)) hS1) (fun a ha hb => by rw [f2 a ha]; exact f1 a ha)
    by_cases hv : cVo D kx = true
    · rw [hv]
      simp only [reduceIte, Int.reduceEq, not_false_eq_true]
      exact good (fun q => by rw [hv] at q; cases q.1)
    · have hv' : cVo D kx = false := Bool.not_eq_true _ ▸ hv
      rw [hv']
      simp only [reduceIte, Bool.false_eq_true, Int.reduceEq, not_true_eq_false, s87_21, s87_22, s87_23, s87_26, Int.toNat_natCast, true_and, and_true, true_or, or_true, false_or, or_false, zwr_id, zpu_some, zpu_none, reduceIte, Int.reduceLE, Int.reduceLT, Int.reduceEq, Int.reduceNeg, Int.reduceAdd, Int.reduceSub, Int.reduceMul, Int.reduceToNat, Nat.reduceAdd, Nat.reduceLeDiff, Nat.reduceEqDiff, Nat.reduceLT, eq_self, ne_eq, not_false_eq_true, not_true_eq_false, s1, x_canFi hS1 e2]
      by_cases hfi : cFi D kx = true
      · rw [hfi]
        simp only [reduceIte, Int.reduceEq, not_false_eq_true]
        exact good (fun q => by rw [hfi] at q; cases q.2)
      · have hfi' : cFi D kx = false := Bool.not_eq_true _ ▸ hfi
        rw [hfi']
        rw [if_pos ⟨hv', hfi'⟩] at k1
        simp only [reduceIte, Bool.false_eq_true, Int.reduceEq, not_true_eq_false, s87_29, s87_30, s87_31, Int.toNat_natCast, true_and, and_true, true_or, or_true, false_or, or_false, zwr_id, zpu_some, zpu_none, reduceIte, Int.reduceLE, Int.reduceLT, Int.reduceEq, Int.reduceNeg, Int.reduceAdd, Int.reduceSub, Int.reduceMul, Int.reduceToNat, Nat.reduceAdd, Nat.reduceLeDiff, Nat.reduceEqDiff, Nat.reduceLT, eq_self, ne_eq, not_false_eq_true, not_true_eq_false, a1]
        refine c_fail g1 (fun m2 g2 f2 => ?_)
        simp only [s87_34, zpu_none]
        exact k1 _ _ rfl m2 _ _ g2 (zSd_eq (fun a p q => f2 a (by omega)) hS1) (fun a ha hb => by rw [f2 a ha]; exact f1 a ha)
  · have b4 := g1.2.2.2.2.2.2.1
    simp only [s87_4, s87_5, s87_6, s87_9, s87_12, Int.toNat_natCast, true_and, and_true, true_or, or_true, false_or, or_false, zwr_id, zpu_some, zpu_none, reduceIte, Int.reduceLE, Int.reduceLT, Int.reduceEq, Int.reduceNeg, Int.reduceAdd, Int.reduceSub, Int.reduceMul, Int.reduceToNat, Nat.reduceAdd, Nat.reduceLeDiff, Nat.reduceEqDiff, Nat.reduceLT, eq_self, ne_eq, not_false_eq_true, not_true_eq_false, a1, b4]
    unfold pBody at k1
    rw [if_pos hk] at k1
    exact k1 _ _ rfl m1 _ _ g1 (zSd_eq (fun a p q => f1 a (by omega)) hS) (fun a ha hb => f1 a ha)
