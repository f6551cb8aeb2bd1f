/-- behind the place's count the Reading stands for the next state -/
theorem zPo_end {L : zY} {m m' : zM} {o : Nat} {s : zMS} (h : zPo L m m' o s) (hw : msW s) (hl : s.2.2.1.length ≤ 80) : m' o 10 = (s.2.2.1.length : Int) - 1 ∧ zRC L (zup m' o 10 (s.2.2.1.length : Int)) o s ∧ zFR o (o + 9) m (zup m' o 10 (s.2.2.1.length : Int)) := by
  obtain ⟨g1, g2, ⟨pl, q, e, g3, g4, g5, g6⟩, g7, g8, g9⟩ := h
  have hlen : s.2.2.1.length = pl.length + 1 := by rw [e, List.length_append]; rfl
  have h10 := g3.1
  have hv : (s.2.2.1.length : Int) = (pl.length : Int) + 1 := by omega
  refine ⟨by rw [h10]; omega, ⟨?_, ?_, ?_, ?_, ?_, hw⟩, zFR_up g9 (by omega) (by omega)⟩
  · exact zRL_eq (fun k hk => zup_nk (by omega)) g1
  · exact zRI_eq (zup_nk (by omega)) (zup_nf (by omega)) (zup_nf (by omega)) (zup_nf (by omega)) (zup_nf (by omega)) (zup_nf (by omega)) (zup_nf (by omega)) g2
  · rw [hv, e]
    exact zRP_push g3 (by omega) g4 g5 g6
  · rw [zup_nk (by omega)]; exact g7
  · rw [zup_nk (by omega)]; exact g8
theorem zSC_eq {L : zY} {m m' : zM} {c : Nat} {P : zP} (h : ∀ a, c ≤ a → a ≤ c + 25 → m' a = m a) (hS : zSC L m c P) : zSC L m' c P := by
  obtain ⟨c1, c2, c3, c4, c5, c6, c7, c8, c9, eL, eM, eE, nL, nM, nE, pL, pM, pE, w⟩ := hS
  have h0 := h c (by omega) (by omega)
  refine ⟨c1, c2, by rw [h0]; exact c3, c4, c5, fun k hk => by rw [h (c + 1) (by omega) (by omega)]; exact c6 k hk, by rw [h0]; exact c7, by rw [h0]; exact c8, by rw [h0]; exact c9, eL, eM, eE, nL, nM, nE, ?_, ?_, ?_, w⟩
  · exact zPT_eq (h _ (by omega) (by omega)) (h _ (by omega) (by omega)) (h _ (by omega) (by omega)) (h _ (by omega) (by omega)) pL
  · exact zPT_eq (h _ (by omega) (by omega)) (h _ (by omega) (by omega)) (h _ (by omega) (by omega)) (h _ (by omega) (by omega)) pM
  · exact zPT_eq (h _ (by omega) (by omega)) (h _ (by omega) (by omega)) (h _ (by omega) (by omega)) (h _ (by omega) (by omega)) pE
theorem zSE_eq {L : zY} {m m' : zM} {c N : Nat} {P : zP} (h : ∀ a, c ≤ a → a ≤ c + 25 → m' a = m a) (hS : zSE L m c P N) : zSE L m' c P N := by
  obtain ⟨eE, nE, pE, w⟩ := hS
  exact ⟨eE, nE, zPT_eq (h _ (by omega) (by omega)) (h _ (by omega) (by omega)) (h _ (by omega) (by omega)) (h _ (by omega) (by omega)) pE, w⟩
theorem x_sok {L : zY} {m : zM} {Q : zQ} {sc : Nat} {P : zP} {sign : Int} (hS : zSC L m sc P) : zwp 58 0 [zA sc, zI sign] [] L m Q ↔ Q (some (zI (if 97 ≤ sign ∧ sign < 123 then pSo P (sign - 97).toNat else -1))) L m := by
  obtain ⟨c1, c2, c3, c4, c5, c6, _⟩ := hS
  by_cases h1 : 97 ≤ sign ∧ sign < 123
  · obtain ⟨c, rfl⟩ : ∃ c : Nat, sign = (c : Int) + 97 := ⟨(sign - 97).toNat, by omega⟩
    have hc : c < 26 := by omega
    have x1 : (c : Int) + 97 - 97 = (c : Int) := by omega
    have y := c6 c hc
    rw [if_pos h1, x1, Int.toNat_natCast]
    simp (disch := omega) only [s58_0, s58_1, s58_4, s58_7, s58_8, s58_11, s58_12, s58_14, s58_15, s58_16, s58_19, s58_20, s158_0, s158_1, s158_3, s158_6, s158_7, s158_9, s158_12, s158_13, s158_16, s158_17, Int.toNat_natCast, true_and, and_true, true_or, or_true, false_or, or_false, zwr_id, zpu_some, zpu_none, reduceIte, Int.reduceLE, Int.reduceLT, Int.reduceEq, Int.reduceNeg, Int.reduceAdd, Int.reduceSub, Int.reduceMul, Int.reduceToNat, Nat.reduceAdd, Nat.reduceLeDiff, Nat.reduceEqDiff, Nat.reduceLT, eq_self, ne_eq, not_false_eq_true, not_true_eq_false, c1, c3, c4, c5, x1, y, if_neg, if_pos]
    exact ⟨fun h => h.2, fun h => ⟨by omega, h⟩⟩
  · rw [if_neg h1]
    by_cases h2 : sign < 97
    · simp (disch := omega) only [s58_0, s58_1, s58_4, s58_7, s58_8, s58_11, s58_12, s58_14, s58_15, s58_16, s58_19, s58_20, s158_0, s158_1, s158_3, s158_6, s158_7, s158_9, s158_12, s158_13, s158_16, s158_17, Int.toNat_natCast, true_and, and_true, true_or, or_true, false_or, or_false, zwr_id, zpu_some, zpu_none, reduceIte, Int.reduceLE, Int.reduceLT, Int.reduceEq, Int.reduceNeg, Int.reduceAdd, Int.reduceSub, Int.reduceMul, Int.reduceToNat, Nat.reduceAdd, Nat.reduceLeDiff, Nat.reduceEqDiff, Nat.reduceLT, eq_self, ne_eq, not_false_eq_true, not_true_eq_false, c1, c3, c4, c5, if_neg, if_pos]
    · simp (disch := omega) only [s58_0, s58_1, s58_4, s58_7, s58_8, s58_11, s58_12, s58_14, s58_15, s58_16, s58_19, s58_20, s158_0, s158_1, s158_3, s158_6, s158_7, s158_9, s158_12, s158_13, s158_16, s158_17, Int.toNat_natCast, true_and, and_true, true_or, or_true, false_or, or_false, zwr_id, zpu_some, zpu_none, reduceIte, Int.reduceLE, Int.reduceLT, Int.reduceEq, Int.reduceNeg, Int.reduceAdd, Int.reduceSub, Int.reduceMul, Int.reduceToNat, Nat.reduceAdd, Nat.reduceLeDiff, Nat.reduceEqDiff, Nat.reduceLT, eq_self, ne_eq, not_false_eq_true, not_true_eq_false, c1, c3, c4, c5, if_neg, if_pos]
theorem kFresh_len {P : zP} {c : Nat} {s : zMS} : (kFresh P c s).2.2.1.length = s.2.2.1.length + 1 := by
  unfold kFresh kAlone kNew
  split
  · exact List.length_append
  · exact List.length_append
theorem kCons_len {P : zP} {c : Nat} {s : zMS} : (kCons P c s).2.2.1.length = s.2.2.1.length + 1 := by
  unfold kCons kJoin
  split
  · exact kFresh_len
  · split
    · exact kFresh_len
    · split
      · split
        · exact List.length_append
        · exact kFresh_len
      · dsimp only
        split
        · split
          · exact kFresh_len
          · exact List.length_append
        · split
          · exact kFresh_len
          · exact List.length_append
theorem kVow_len {P : zP} {c : Nat} {s : zMS} (hw : msW s) : (kVow P c s).2.2.1.length = s.2.2.1.length + 1 := by
  unfold kVow kVnew kNew kJoin
  split
  · exact List.length_append
  · rename_i x hs
    split
    · exact List.length_append
    · split
      · split
        · exact List.length_append
        · unfold kSteal
          obtain ⟨_, _, _, w6⟩ := hw.2.2.2.2 x hs
          have hdl := congrArg List.length (List.dropLast_concat_getLast w6)
          rw [List.length_append] at hdl
          show (s.2.2.1.dropLast ++ [_] ++ [_]).length = _
          rw [List.length_append, List.length_append, ← hdl]
          rfl
      · split
        · exact List.length_append
        · exact List.length_append
theorem kSign_len {P : zP} {sign : Int} {s : zMS} (hw : msW s) : (kSign P sign s).2.2.1.length = s.2.2.1.length + 1 := by
  unfold kSign kAlone kBreak
  split
  · split
    · exact List.length_append
    · split
      · exact kVow_len hw
      · exact kCons_len
  · exact List.length_append
theorem c_old {L : zY} {m : zM} {Q : zQ} {o c : Nat} {s : zMS} (hC : zRC L m o s) (hp : s.2.2.1.length < 80) (h9 : m (o + 9) s.2.2.1.length = 0) (k : ∀ m', zPo L m m' o (kAlone s (-2, -2, -2, (c : Int), (s.2.2.1.length : Int), 1)) → Q none L m') : zwp 28 0 [zA o, zI (-2), zI (-2), zI ((c : Int) + 97), zI 3] [] L m Q := by
  obtain ⟨hR, hI, hP, h11, h12, hw⟩ := hC
  have hi : (msI s).length < 80 := Nat.lt_of_le_of_lt hw.1 hp
  refine c_begin hR hI hP hi hp (Or.inr ⟨by omega, rfl, rfl⟩) (fun m' g1 g2 g3 g4 g5 g6 g7 g8 g9 => k m' ?_)
  refine ⟨g1, ?_, ⟨s.2.2.1, (((msI s).length : Int), 3, 0), rfl, g3, g4, g5, by rw [g6]; exact h9⟩, by rw [g8]; exact h11, by rw [g7, if_neg (by omega)]; rfl, g9⟩
  rw [show ((c : Int) + 97 - 97) = (c : Int) by omega] at g2
  rw [msI_none (s := kAlone s _) rfl]
  exact g2
theorem c_brk {L : zY} {m : zM} {o : Nat} {s : zMS} (hC : zRC L m o s) (h7 : m (o + 7) s.2.2.1.length = -2) (h8 : m (o + 8) s.2.2.1.length = -2) (h9 : m (o + 9) s.2.2.1.length = 0) : zPo L m (zup m o 12 0) o (kBreak s) := by
  obtain ⟨hR, hI, hP, h11, h12, hw⟩ := hC
  refine ⟨zRL_eq (fun k hk => zup_nk (by omega)) hR, ?_, ⟨s.2.2.1, (-2, -2, 0), rfl, zRP_eq (zup_nk (by omega)) (zup_nf (by omega)) (zup_nf (by omega)) (zup_nf (by omega)) hP, ?_, ?_, ?_⟩, ?_, ?_, zFR_up zFR_rf (by omega) (by omega)⟩
  · rw [msI_none (s := kBreak s) rfl]
    exact zRI_eq (zup_nk (by omega)) (zup_nf (by omega)) (zup_nf (by omega)) (zup_nf (by omega)) (zup_nf (by omega)) (zup_nf (by omega)) (zup_nf (by omega)) hI
  · rw [zup_na (by omega)]; exact h7
  · rw [zup_na (by omega)]; exact h8
  · rw [zup_na (by omega)]; exact h9
  · rw [zup_nk (by omega)]; exact h11
  · rw [zup_same]; rfl
theorem c_take {L : zY} {m : zM} {Q : zQ} {o sc N : Nat} {s : zMS} {P : zP} {sign : Int} (hC : zRC L m o s) (hX : msX N s) (hS : zSC L m sc P) (hSE : zSE L m sc P N) (hP : zPk P N) (hd : o + 9 < sc ∨ sc + 25 < o) (hp : s.2.2.1.length < 80) (k : ∀ m', zRC L m' o (kSign P sign s) → msX N (kSign P sign s) → zFR o (o + 9) m m' → Q none L m') : zwp 25 0 [zA o, zA sc, zI sign] [] L m Q := by
  have hC' := hC
  obtain ⟨hR, hI, hPl, h11, h12, hw⟩ := hC'
  have hR' := hR
  obtain ⟨r1, r2, ⟨b0, b1, b2, b3, b4, b5, b6, b7, b8⟩, ⟨t1, t2, t3, t4, t5, t6, t7, t8, t9⟩, ⟨n1, n2, n3, n4, n5, n6, n7, n8, n9⟩⟩ := hR'
  have i0 := hI.1
  have p0 := hPl.1
  have hw1 := hw.1
  have hX' := kSign_ok (sign := sign) hP hX
  have hS' := hS
  obtain ⟨c1, c2, c3, c4, c5, c6, c7, c8, c9, eL, eM, eE, nL, nM, nE, pL, pM, pE, wL, wM, wE, wp, wso, wm⟩ := hS'
  have hC2 : zRC L (zup (zup (zup m (o + 7) s.2.2.1.length (-2)) (o + 8) s.2.2.1.length (-2)) (o + 9) s.2.2.1.length 0) o s := by
    refine ⟨zRL_up (by omega) (zRL_up (by omega) (zRL_up (by omega) hR)), ?_, ?_, ?_, ?_, hw⟩
    · exact zRI_eq (by rw [zup_na (by omega), zup_na (by omega), zup_na (by omega)]) (by rw [zup_nf (by omega), zup_nf (by omega), zup_nf (by omega)]) (by rw [zup_nf (by omega), zup_nf (by omega), zup_nf (by omega)]) (by rw [zup_nf (by omega), zup_nf (by omega), zup_nf (by omega)]) (by rw [zup_nf (by omega), zup_nf (by omega), zup_nf (by omega)]) (by rw [zup_nf (by omega), zup_nf (by omega), zup_nf (by omega)]) (by rw [zup_nf (by omega), zup_nf (by omega), zup_nf (by omega)]) hI
    · obtain ⟨q0, q1, q2, q3, q4⟩ := hPl
      exact ⟨by rw [zup_na (by omega), zup_na (by omega), zup_na (by omega)]; exact q0, q1, zAL_eq (by rw [zup_nf (by omega), zup_nf (by omega)]) (zAL_skip (by rw [List.length_map]; exact Nat.le_refl _) q2), zAL_eq (zup_nf (by omega)) (zAL_skip (by rw [List.length_map]; exact Nat.le_refl _) (zAL_eq (zup_nf (by omega)) q3)), zAL_skip (by rw [List.length_map]; exact Nat.le_refl _) (zAL_eq (by rw [zup_nf (by omega), zup_nf (by omega)]) q4)⟩
    · rw [zup_na (by omega), zup_na (by omega), zup_na (by omega)]; exact h11
    · rw [zup_na (by omega), zup_na (by omega), zup_na (by omega)]; exact h12
  have h9 : (zup (zup (zup m (o + 7) s.2.2.1.length (-2)) (o + 8) s.2.2.1.length (-2)) (o + 9) s.2.2.1.length 0) (o + 9) s.2.2.1.length = 0 := zup_same
  have h7 : (zup (zup (zup m (o + 7) s.2.2.1.length (-2)) (o + 8) s.2.2.1.length (-2)) (o + 9) s.2.2.1.length 0) (o + 7) s.2.2.1.length = -2 := by rw [zup_na (by omega), zup_na (by omega)]; exact zup_same
  have h8 : (zup (zup (zup m (o + 7) s.2.2.1.length (-2)) (o + 8) s.2.2.1.length (-2)) (o + 9) s.2.2.1.length 0) (o + 8) s.2.2.1.length = -2 := by rw [zup_na (by omega)]; exact zup_same
  have hF2 : zFR o (o + 9) m (zup (zup (zup m (o + 7) s.2.2.1.length (-2)) (o + 8) s.2.2.1.length (-2)) (o + 9) s.2.2.1.length 0) := zFR_up (zFR_up (zFR_up zFR_rf (by omega) (by omega)) (by omega) (by omega)) (by omega) (by omega)
  have hsame : ∀ a, sc ≤ a → a ≤ sc + 25 → (zup (zup (zup m (o + 7) s.2.2.1.length (-2)) (o + 8) s.2.2.1.length (-2)) (o + 9) s.2.2.1.length 0) a = m a := fun a ha hb => by rw [zup_nf (by omega), zup_nf (by omega), zup_nf (by omega)]
  have hS2 := zSC_eq hsame hS
  have hSE2 := zSE_eq hsame hSE
  simp (disch := omega) only [s25_0, s25_1, s25_4, s25_6, s25_9, s25_10, s25_13, s25_15, s25_18, s25_19, s25_20, s25_23, s25_24, s25_27, s25_29, s25_30, s25_31, s25_34, s25_35, s25_38, s25_40, s25_41, s25_42, s25_45, s25_46, s25_49, s25_50, s25_51, s25_52, s25_53, Int.toNat_natCast, true_and, and_true, true_or, or_true, false_or, or_false, zwr_id, zpu_some, zpu_none, reduceIte, Int.reduceLE, Int.reduceLT, Int.reduceEq, Int.reduceNeg, Int.reduceAdd, Int.reduceSub, Int.reduceMul, Int.reduceToNat, Nat.reduceAdd, Nat.reduceLeDiff, Nat.reduceEqDiff, Nat.reduceLT, eq_self, ne_eq, not_false_eq_true, not_true_eq_false, r1, p0, i0, b6, b7, b8, t7, t8, t9, n7, n8, n9, c1, if_neg, if_pos, zup_na]
  refine ⟨by omega, by omega, by omega, ?_⟩
  rw [x_sok hS2]
  generalize (zup (zup (zup m (o + 7) s.2.2.1.length (-2)) (o + 8) s.2.2.1.length (-2)) (o + 9) s.2.2.1.length 0) = m2 at *
  obtain ⟨hR2, hI2, hP2, k11, k12, _⟩ := id hC2
  have fin : ∀ (m' : zM) (s' : zMS), s' = kSign P sign s → zPo L m2 m' o s' → Q none L (zup m' o 10 (zwr (m' o 10 + 1))) := fun m' s' hs' hPo => by
    subst hs'
    have hlen := kSign_len (P := P) (sign := sign) hw
    obtain ⟨z1, z2, z3⟩ := zPo_end hPo hX'.1 (by omega)
    rw [hlen] at z1 z2 z3
    have e : ((s.2.2.1.length + 1 : Nat) : Int) = (s.2.2.1.length : Int) + 1 := by omega
    rw [e] at z1 z2 z3
    rw [z1, show zwr ((s.2.2.1.length : Int) + 1 - 1 + 1) = (s.2.2.1.length : Int) + 1 from by rw [zwr_id (by omega) (by omega)]; omega]
    exact k _ z2 hX' (zFR_tr hF2 z3)
  by_cases h1 : 97 ≤ sign ∧ sign < 123
  · obtain ⟨c, rfl⟩ : ∃ c : Nat, sign = (c : Int) + 97 := ⟨(sign - 97).toNat, by omega⟩
    have hc : c < 26 := by omega
    have x1 : (c : Int) + 97 - 97 = (c : Int) := by omega
    rw [if_pos h1, x1, Int.toNat_natCast]
    have hso := wso c hc
    by_cases v1 : pSo P c = -1
    · rw [v1]
      simp (disch := omega) only [s25_56, s25_92, s25_93, s25_94, s25_97, s25_100, s25_101, s25_103, s25_105, s25_106, s25_107, s25_110, s25_113, s25_114, s25_115, s25_116, s25_119, s25_122, s25_123, s25_124, s25_125, s25_128, s25_129, s25_130, s25_133, s25_134, s25_135, s25_138, Int.toNat_natCast, true_and, and_true, true_or, or_true, false_or, or_false, zwr_id, zpu_some, zpu_none, reduceIte, Int.reduceLE, Int.reduceLT, Int.reduceEq, Int.reduceNeg, Int.reduceAdd, Int.reduceSub, Int.reduceMul, Int.reduceToNat, Nat.reduceAdd, Nat.reduceLeDiff, Nat.reduceEqDiff, Nat.reduceLT, eq_self, ne_eq, not_false_eq_true, not_true_eq_false, r1, if_neg, if_pos]
      have ek : kBreak s = kSign P ((c : Int) + 97) s := by unfold kSign; rw [if_neg (fun q => q.2.2 (by rw [x1, Int.toNat_natCast]; exact v1))]
      exact fin _ _ ek (c_brk hC2 h7 h8 h9)
    · by_cases v4 : pSo P c = 4
      · rw [v4]
        simp (disch := omega) only [s25_56, s25_92, s25_93, s25_94, s25_97, s25_100, s25_101, s25_103, s25_105, s25_106, s25_107, s25_110, s25_113, s25_114, s25_115, s25_116, s25_119, s25_122, s25_123, s25_124, s25_125, s25_128, s25_129, s25_130, s25_133, s25_134, s25_135, s25_138, Int.toNat_natCast, true_and, and_true, true_or, or_true, false_or, or_false, zwr_id, zpu_some, zpu_none, reduceIte, Int.reduceLE, Int.reduceLT, Int.reduceEq, Int.reduceNeg, Int.reduceAdd, Int.reduceSub, Int.reduceMul, Int.reduceToNat, Nat.reduceAdd, Nat.reduceLeDiff, Nat.reduceEqDiff, Nat.reduceLT, eq_self, ne_eq, not_false_eq_true, not_true_eq_false, r1, if_neg, if_pos]
        have ek : kAlone s (-2, -2, -2, (c : Int), (s.2.2.1.length : Int), 1) = kSign P ((c : Int) + 97) s := by unfold kSign; rw [x1, Int.toNat_natCast, if_pos ⟨h1.1, h1.2, v1⟩, if_pos v4]
        refine c_old hC2 hp h9 (fun m' g => ?_)
        simp (disch := omega) only [s25_56, s25_92, s25_93, s25_94, s25_97, s25_100, s25_101, s25_103, s25_105, s25_106, s25_107, s25_110, s25_113, s25_114, s25_115, s25_116, s25_119, s25_122, s25_123, s25_124, s25_125, s25_128, s25_129, s25_130, s25_133, s25_134, s25_135, s25_138, Int.toNat_natCast, true_and, and_true, true_or, or_true, false_or, or_false, zwr_id, zpu_some, zpu_none, reduceIte, Int.reduceLE, Int.reduceLT, Int.reduceEq, Int.reduceNeg, Int.reduceAdd, Int.reduceSub, Int.reduceMul, Int.reduceToNat, Nat.reduceAdd, Nat.reduceLeDiff, Nat.reduceEqDiff, Nat.reduceLT, eq_self, ne_eq, not_false_eq_true, not_true_eq_false, r1]
        exact fin _ _ ek g
      · by_cases v3 : pSo P c = 3
        · rw [v3]
          simp (disch := omega) only [s25_56, s25_92, s25_93, s25_94, s25_97, s25_100, s25_101, s25_103, s25_105, s25_106, s25_107, s25_110, s25_113, s25_114, s25_115, s25_116, s25_119, s25_122, s25_123, s25_124, s25_125, s25_128, s25_129, s25_130, s25_133, s25_134, s25_135, s25_138, Int.toNat_natCast, true_and, and_true, true_or, or_true, false_or, or_false, zwr_id, zpu_some, zpu_none, reduceIte, Int.reduceLE, Int.reduceLT, Int.reduceEq, Int.reduceNeg, Int.reduceAdd, Int.reduceSub, Int.reduceMul, Int.reduceToNat, Nat.reduceAdd, Nat.reduceLeDiff, Nat.reduceEqDiff, Nat.reduceLT, eq_self, ne_eq, not_false_eq_true, not_true_eq_false, r1, if_neg, if_pos]
          have ek : kVow P c s = kSign P ((c : Int) + 97) s := by unfold kSign; rw [x1, Int.toNat_natCast, if_pos ⟨h1.1, h1.2, v1⟩, if_neg v4, if_pos v3]
          refine c_takeV hC2 hS2 hSE2 (fun x hx => (hX.2 x hx).2.2.2.2) hc v3 hp h9 (fun m' g => ?_)
          simp (disch := omega) only [s25_56, s25_92, s25_93, s25_94, s25_97, s25_100, s25_101, s25_103, s25_105, s25_106, s25_107, s25_110, s25_113, s25_114, s25_115, s25_116, s25_119, s25_122, s25_123, s25_124, s25_125, s25_128, s25_129, s25_130, s25_133, s25_134, s25_135, s25_138, Int.toNat_natCast, true_and, and_true, true_or, or_true, false_or, or_false, zwr_id, zpu_some, zpu_none, reduceIte, Int.reduceLE, Int.reduceLT, Int.reduceEq, Int.reduceNeg, Int.reduceAdd, Int.reduceSub, Int.reduceMul, Int.reduceToNat, Nat.reduceAdd, Nat.reduceLeDiff, Nat.reduceEqDiff, Nat.reduceLT, eq_self, ne_eq, not_false_eq_true, not_true_eq_false, r1]
          exact fin _ _ ek g
        · simp (disch := omega) only [s25_56, s25_92, s25_93, s25_94, s25_97, s25_100, s25_101, s25_103, s25_105, s25_106, s25_107, s25_110, s25_113, s25_114, s25_115, s25_116, s25_119, s25_122, s25_123, s25_124, s25_125, s25_128, s25_129, s25_130, s25_133, s25_134, s25_135, s25_138, Int.toNat_natCast, true_and, and_true, true_or, or_true, false_or, or_false, zwr_id, zpu_some, zpu_none, reduceIte, Int.reduceLE, Int.reduceLT, Int.reduceEq, Int.reduceNeg, Int.reduceAdd, Int.reduceSub, Int.reduceMul, Int.reduceToNat, Nat.reduceAdd, Nat.reduceLeDiff, Nat.reduceEqDiff, Nat.reduceLT, eq_self, ne_eq, not_false_eq_true, not_true_eq_false, r1, if_neg, if_pos]
          have ek : kCons P c s = kSign P ((c : Int) + 97) s := by unfold kSign; rw [x1, Int.toNat_natCast, if_pos ⟨h1.1, h1.2, v1⟩, if_neg v4, if_neg v3]
          refine c_takeC hC2 hS2 hc hp h9 (fun m' g => ?_)
          simp (disch := omega) only [s25_56, s25_92, s25_93, s25_94, s25_97, s25_100, s25_101, s25_103, s25_105, s25_106, s25_107, s25_110, s25_113, s25_114, s25_115, s25_116, s25_119, s25_122, s25_123, s25_124, s25_125, s25_128, s25_129, s25_130, s25_133, s25_134, s25_135, s25_138, Int.toNat_natCast, true_and, and_true, true_or, or_true, false_or, or_false, zwr_id, zpu_some, zpu_none, reduceIte, Int.reduceLE, Int.reduceLT, Int.reduceEq, Int.reduceNeg, Int.reduceAdd, Int.reduceSub, Int.reduceMul, Int.reduceToNat, Nat.reduceAdd, Nat.reduceLeDiff, Nat.reduceEqDiff, Nat.reduceLT, eq_self, ne_eq, not_false_eq_true, not_true_eq_false, r1]
          exact fin _ _ ek g
  · rw [if_neg h1]
    simp (disch := omega) only [s25_56, s25_92, s25_93, s25_94, s25_97, s25_100, s25_101, s25_103, s25_105, s25_106, s25_107, s25_110, s25_113, s25_114, s25_115, s25_116, s25_119, s25_122, s25_123, s25_124, s25_125, s25_128, s25_129, s25_130, s25_133, s25_134, s25_135, s25_138, Int.toNat_natCast, true_and, and_true, true_or, or_true, false_or, or_false, zwr_id, zpu_some, zpu_none, reduceIte, Int.reduceLE, Int.reduceLT, Int.reduceEq, Int.reduceNeg, Int.reduceAdd, Int.reduceSub, Int.reduceMul, Int.reduceToNat, Nat.reduceAdd, Nat.reduceLeDiff, Nat.reduceEqDiff, Nat.reduceLT, eq_self, ne_eq, not_false_eq_true, not_true_eq_false, r1, if_neg, if_pos]
    have ek : kBreak s = kSign P sign s := by unfold kSign; rw [if_neg (fun q => h1 ⟨q.1, q.2.1⟩)]
    exact fin _ _ ek (c_brk hC2 h7 h8 h9)
