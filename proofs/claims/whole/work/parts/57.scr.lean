theorem zt_in {L : zY} {a : Nat} (h : zt L a ≠ 0) : a < L.1.length := by
  apply Classical.byContradiction
  intro hn
  apply h
  unfold zt
  rw [List.getD_eq_getElem?_getD, List.getElem?_eq_none (by omega)]
  rfl
def sScript (g : zG) (n : Int) : Int × zG := if 0 ≤ n ∧ n ≤ ((gT g).length : Int) then (match pText ((gT g).take n.toNat) with
    | .inl (f, pl) => (-1, ([], g.2.1, g.2.2.1, g.2.2.2.1, g.2.2.2.2.1, f, (pl : Nat), 4))
    | .inr D => ((((dC D).length + (dV D).length + (dO D).length : Nat) : Int), ([], some D, [], 0, [], 0, -1, 0))) else gN g 2
theorem zTl_0 {L : zY} {m : zM} {od od' : Option zD} (hh : zTl L m od) : zTl L (zup m 64 7 0) od' := by
  obtain ⟨⟨h0, h1, h2, h3, h4, h5⟩, h6⟩ := hh
  have e : ∀ a, a ≠ 64 → zup m 64 7 0 a = m a := fun a ha => zup_nf ha
  have e2 : ∀ k, k ≠ 7 → zup m 64 7 0 64 k = m 64 k := fun k hk => zup_nk hk
  refine ⟨⟨h0, fun j hj => ?_, fun j hj => ?_, fun j hj => ?_, fun j hj => ?_, ?_⟩, Or.inl zup_same⟩
  · rw [e 65 (by decide)]; exact h1 j hj
  · rw [e 132 (by decide)]; exact h2 j hj
  · rw [e 199 (by decide)]; exact h3 j hj
  · rw [e 268 (by decide)]; exact h4 j hj
  · rw [e2 0 (by decide), e2 1 (by decide), e2 2 (by decide), e2 3 (by decide), e2 4 (by decide), e2 5 (by decide), e2 6 (by decide)]; exact h5
theorem x_count {L : zY} {m : zM} {Q : zQ} {c : Nat} {D : zD} (hS : zSd L m c D) : zwp 68 0 [zA c] [] L m Q ↔ Q (some (zI (((dC D).length + (dV D).length + (dO D).length : Nat) : Int))) L m := by
  have s1 := hS.1.1
  have q1 := hS.1.2.2.2.1
  have q2 := hS.1.2.2.2.2.1
  have q3 := hS.1.2.2.2.2.2.1
  obtain ⟨-, l1, l2, l3, -⟩ := hS.2
  have t1 := l1.1
  have t2 := l2.1
  have t3 := l3.1
  obtain ⟨n1, b1⟩ := zKL_n l1
  obtain ⟨n2, b2⟩ := zKL_n l2
  obtain ⟨n3, b3⟩ := zKL_n l3
  simp only [s68_0, s68_1, s68_4, s68_7, s68_8, s68_11, s68_14, s68_15, s68_16, s68_19, s68_22, s68_23, Int.toNat_natCast, true_and, and_true, zpu_some, zpu_none, s1, q1, q2, q3, t1, t2, t3, n1, n2, n3, (show zwr (((dC D).length : Int) + ((dV D).length : Int)) = (((dC D).length + (dV D).length : Nat) : Int) by rw [zwr_id (by omega) (by omega)]; omega), (show zwr ((((dC D).length + (dV D).length : Nat) : Int) + ((dO D).length : Int)) = (((dC D).length + (dV D).length + (dO D).length : Nat) : Int) by rw [zwr_id (by omega) (by omega)]; omega)]
theorem c_scr_ok {L : zY} {m m0 : zM} {Q : zQ} {T : List Int} {od : Option zD} {R : List Int} {C : Nat} {H : zHs} {f p q f' : Int} {sc sp : Nat} {D : zD} {n : Int} (hO : zCO L m od f p q sc sp) (hB : zCB L m T od R C H sc sp) (hS : zSd L m0 sp D) (hSt : zSt L m0 sp D) (h12 : m0 2 12 = 0) (h2 : ∀ k, k ≠ 12 → m0 2 k = m 2 k) (hT : zTp L m0 4 []) (fr : ∀ a, a ≠ 2 → a ≠ 4 → a ≠ 3 → (a < sp ∨ sp + 25 < a) → m0 a = m a) (h5 : m0 3 0 = 4) (k : ∀ m', zCI L m' ([], some D, [], 0, [], 0, -1, 0) → zFR 2 331 m m' → Q (some (zI (((dC D).length + (dV D).length + (dO D).length : Nat) : Int))) L m') : zwp 110 76 [zA 2, zI n, zU] [] L m0 Q := by
  have two := sc_two hB
  have a1 := hO.1
  obtain ⟨b0, b1, b2, b3, b4, b5, b6, b7, b8, b9, b10⟩ := hO.2.1
  obtain ⟨-, h5t, ⟨ov, hR⟩, ⟨r1, c1, o1, hDr⟩, hN, hScr, hH, hTl, h279, -, ⟨Dx, hSx, -⟩, hSlx, -, -⟩ := hB
  have c10 : m0 2 10 = (sp : Int) := by rw [h2 10 (by decide)]; exact b10
  have c9 : m0 2 9 = (sc : Int) := by rw [h2 9 (by decide)]; exact b9
  have c2 : m0 2 2 = 6 := by rw [h2 2 (by decide)]; exact b2
  have t6 := hR.1
  have t10 := hN.1.1
  have t30 := hH.1.1
  have t64 := hTl.1.1.1
  have ex : ∃ m1, m1 = zup (zup (zup m0 2 10 (sc : Int)) 2 9 (sp : Int)) 2 11 1 := ⟨_, rfl⟩
  obtain ⟨m1, e1⟩ := ex
  have f1 : ∀ a, a ≠ 2 → m1 a = m0 a := fun a ha => by rw [e1, zup_nf ha, zup_nf ha, zup_nf ha]
  have d0 : ∀ k, k ≠ 9 → k ≠ 10 → k ≠ 11 → k ≠ 12 → m1 2 k = m 2 k := fun k q1 q2 q3 q4 => by rw [e1, zup_nk q3, zup_nk q1, zup_nk q2, h2 k q4]
  have d9 : m1 2 9 = (sp : Int) := by rw [e1, zup_nk (by decide), zup_same]
  have d10 : m1 2 10 = (sc : Int) := by rw [e1, zup_nk (by decide), zup_nk (by decide), zup_same]
  have d11 : m1 2 11 = 1 := by rw [e1, zup_same]
  have d12 : m1 2 12 = 0 := by rw [e1, zup_nk (by decide), zup_nk (by decide), zup_nk (by decide)]; exact h12
  have d2 : m1 2 2 = 6 := by rw [d0 2 (by decide) (by decide) (by decide) (by decide)]; exact b2
  simp only [s110_76, s110_77, s110_80, s110_81, s110_82, s110_83, s110_86, s110_89, s110_90, s110_91, s110_94, s110_95, s110_96, s110_99, s110_100, Int.toNat_natCast, true_and, and_true, true_or, or_true, false_or, or_false, zwr_id, zpu_some, zpu_none, reduceIte, Int.reduceLE, Int.reduceLT, Int.reduceEq, Int.reduceNeg, Int.reduceAdd, Int.reduceSub, Int.reduceMul, Int.reduceToNat, Nat.reduceAdd, Nat.reduceLeDiff, Nat.reduceEqDiff, Nat.reduceLT, eq_self, ne_eq, not_false_eq_true, not_true_eq_false, a1, c10, c9, zup_nk (show (9 : Nat) ≠ 10 by decide)]
  rw [← e1]
  clear e1
  simp only [s110_103, Int.toNat_natCast, true_and, and_true, true_or, or_true, false_or, or_false, zwr_id, zpu_some, zpu_none, reduceIte, Int.reduceLE, Int.reduceLT, Int.reduceEq, Int.reduceNeg, Int.reduceAdd, Int.reduceSub, Int.reduceMul, Int.reduceToNat, Nat.reduceAdd, Nat.reduceLeDiff, Nat.reduceEqDiff, Nat.reduceLT, eq_self, ne_eq, not_false_eq_true, not_true_eq_false, d2, t6]
  have fr1 : ∀ a, a ≠ 2 → a ≠ 4 → a ≠ 3 → (a < sp ∨ sp + 25 < a) → m1 a = m a := fun a q2 q3 q5 q => by rw [f1 a q2, fr a q2 q3 q5 q]
  refine ⟨zt_in (by rw [hSx.1.1]; decide), zt_in (by rw [hS.1.1]; decide), ?_⟩
  refine c_Rclear (zRw_eq (fr1 6 (by decide) (by decide) (by decide) (by omega)) (fr1 7 (by decide) (by decide) (by decide) (by omega)) hR) (fun m2 g2 f2 => ?_)
  have e22 : m2 2 = m1 2 := zFR_at f2 (by decide)
  have d4 : m2 2 4 = 10 := by rw [e22, d0 4 (by decide) (by decide) (by decide) (by decide)]; exact b4
  simp only [s110_106, s110_107, s110_110, Int.toNat_natCast, true_and, and_true, true_or, or_true, false_or, or_false, zwr_id, zpu_some, zpu_none, reduceIte, Int.reduceLE, Int.reduceLT, Int.reduceEq, Int.reduceNeg, Int.reduceAdd, Int.reduceSub, Int.reduceMul, Int.reduceToNat, Nat.reduceAdd, Nat.reduceLeDiff, Nat.reduceEqDiff, Nat.reduceLT, eq_self, ne_eq, not_false_eq_true, not_true_eq_false, a1, d4, t10]
  refine c_clear (zRL_eq (m := m) (fun k _ => by rw [zFR_at f2 (by decide), fr1 10 (by decide) (by decide) (by decide) (by omega)]) hN.1) (fun m3 g3 f3 => ?_)
  have e32 : m3 2 = m1 2 := by rw [zFR_at f3 (by decide), e22]
  have d6 : m3 2 6 = 30 := by rw [e32, d0 6 (by decide) (by decide) (by decide) (by decide)]; exact b6
  simp only [s110_113, s110_114, s110_117, Int.toNat_natCast, true_and, and_true, true_or, or_true, false_or, or_false, zwr_id, zpu_some, zpu_none, reduceIte, Int.reduceLE, Int.reduceLT, Int.reduceEq, Int.reduceNeg, Int.reduceAdd, Int.reduceSub, Int.reduceMul, Int.reduceToNat, Nat.reduceAdd, Nat.reduceLeDiff, Nat.reduceEqDiff, Nat.reduceLT, eq_self, ne_eq, not_false_eq_true, not_true_eq_false, a1, d6, t30]
  refine c_hclear (zHi_eq (m := m) (fun a p q => by rw [zFR_at f3 (by omega), zFR_at f2 (by omega), fr1 a (by omega) (by omega) (by omega) (by omega)]) hH) (fun m4 g4 f4 => ?_)
  have e42 : m4 2 = m1 2 := by rw [zFR_at f4 (by decide), e32]
  have d7 : m4 2 7 = 64 := by rw [e42, d0 7 (by decide) (by decide) (by decide) (by decide)]; exact b7
  have d9' : ∀ v : Int, zup m4 64 7 v 2 9 = (sp : Int) := fun v => by rw [zup_na (by decide), e42]; exact d9
  have fr4 : ∀ a, (a < 6 ∨ 7 < a) → (a < 10 ∨ 19 < a) → a ≠ 30 → m4 a = m1 a := fun a q1 q2 q3 => by rw [zFR_at f4 (by omega), zFR_at f3 (by omega), zFR_at f2 (by omega)]
  have hS4 : zSd L (zup m4 64 7 0) sp D := zSd_eq (fun a p q => by rw [zup_nf (by omega), fr4 a (by omega) (by omega) (by omega), f1 a (by omega)]) hS
  have hSt4 : zSt L (zup m4 64 7 0) sp D := zSt_eq (fun a p q => by rw [zup_nf (by omega), fr4 a (by omega) (by omega) (by omega), f1 a (by omega)]) hSt
  have s1 := hS.1.1
  simp only [s110_120, s110_121, s110_124, s110_127, s110_128, s110_129, s110_132, s110_135, s110_138, s89_0, s89_1, s89_2, s89_5, Int.toNat_natCast, true_and, and_true, true_or, or_true, false_or, or_false, zwr_id, zpu_some, zpu_none, reduceIte, Int.reduceLE, Int.reduceLT, Int.reduceEq, Int.reduceNeg, Int.reduceAdd, Int.reduceSub, Int.reduceMul, Int.reduceToNat, Nat.reduceAdd, Nat.reduceLeDiff, Nat.reduceEqDiff, Nat.reduceLT, eq_self, ne_eq, not_false_eq_true, not_true_eq_false, a1, d7, t64, d9', s1, x_count hS4, x_accept a1]
  have u : ∀ a, a ≠ 2 → a ≠ 64 → zup (zup (zup m4 64 7 0) 2 14 0) 2 13 (-1) a = m4 a := fun a q1 q2 => by rw [zup_nf q1, zup_nf q1, zup_nf q2]
  have v : ∀ a, a ≠ 2 → zup (zup (zup m4 64 7 0) 2 14 0) 2 13 (-1) a = zup m4 64 7 0 a := fun a q1 => by rw [zup_nf q1, zup_nf q1]
  have w : ∀ a, a ≠ 2 → a ≠ 4 → a ≠ 3 → a ≠ 64 → (a < 6 ∨ 7 < a) → (a < 10 ∨ 19 < a) → a ≠ 30 → (a < sp ∨ sp + 25 < a) → zup (zup (zup m4 64 7 0) 2 14 0) 2 13 (-1) a = m a := fun a q1 q2 q3 q4 q5 q6 q7 q8 => by rw [u a q1 q4, fr4 a q5 q6 q7, fr1 a q1 q2 q3 q8]
  have k1 := zCO_ans (L := L) (m := zup m4 64 7 0) (od := some D) (f := 0) (p := m1 2 13) (q := m1 2 14) (q' := 0) (sc := sp) (sp := sc) (by
    have e2 : zup m4 64 7 0 2 = m1 2 := by rw [zup_nf (by decide), e42]
    have y : ∀ k, k ≠ 9 → k ≠ 10 → k ≠ 11 → k ≠ 12 → zup m4 64 7 0 2 k = m 2 k := fun k q1 q2 q3 q4 => by rw [e2]; exact d0 k q1 q2 q3 q4
    refine ⟨a1, ⟨?_, ?_, ?_, ?_, ?_, ?_, ?_, ?_, ?_, by rw [e2]; exact d9, by rw [e2]; exact d10⟩, by rw [e2]; exact d11, by rw [e2]; exact d12, by rw [e2], by rw [e2]⟩
    · rw [y 1 (by decide) (by decide) (by decide) (by decide)]; exact b0
    · rw [y 0 (by decide) (by decide) (by decide) (by decide)]; exact b1
    · rw [y 2 (by decide) (by decide) (by decide) (by decide)]; exact b2
    · rw [y 3 (by decide) (by decide) (by decide) (by decide)]; exact b3
    · rw [y 4 (by decide) (by decide) (by decide) (by decide)]; exact b4
    · rw [y 5 (by decide) (by decide) (by decide) (by decide)]; exact b5
    · rw [y 6 (by decide) (by decide) (by decide) (by decide)]; exact b6
    · rw [y 7 (by decide) (by decide) (by decide) (by decide)]; exact b7
    · rw [y 8 (by decide) (by decide) (by decide) (by decide)]; exact b8)
  refine k _ ⟨sp, sc, k1, ?_⟩ (fun a ha => w a (by omega) (by omega) (by omega) (by omega) (by omega) (by omega) (by omega) (by omega))
  refine ⟨zTp_eq ?_ ?_ hT, ⟨h5t.1, ?_⟩, ⟨0, zRw_eq ?_ ?_ g2⟩, ⟨r1, c1, o1, zRw_eq (w 8 (by decide) (by decide) (by decide) (by decide) (by decide) (by decide) (by decide) (by omega)) (w 9 (by decide) (by decide) (by decide) (by decide) (by decide) (by decide) (by decide) (by omega)) hDr⟩, zRC_eq (fun a p q => ?_) g3, zRL_eq (m := m) (fun k _ => by rw [w 20 (by decide) (by decide) (by decide) (by decide) (by decide) (by decide) (by decide) (by omega)]) hScr, zHi_eq (fun a p q => u a (by omega) (by omega)) g4, ?_, h279, ?_⟩
  · rw [u 4 (by decide) (by decide), fr4 4 (by decide) (by decide) (by decide), f1 4 (by decide)]
  · rw [u 5 (by decide) (by decide), fr4 5 (by decide) (by decide) (by decide), f1 5 (by decide)]
  · rw [u 3 (by decide) (by decide), fr4 3 (by decide) (by decide) (by decide), f1 3 (by decide)]; exact h5
  · rw [u 6 (by decide) (by decide), zFR_at f4 (by decide), zFR_at f3 (by decide)]
  · rw [u 7 (by decide) (by decide), zFR_at f4 (by decide), zFR_at f3 (by decide)]
  · rw [u a (by omega) (by omega), zFR_at f4 (by omega)]
  · refine zTl_eq (m := zup m4 64 7 0) (fun a p q => v a (by omega)) (zTl_0 (od := od) (zTl_eq (m := m) (fun a p q => ?_) hTl))
    rw [fr4 a (by omega) (by omega) (by omega), fr1 a (by omega) (by omega) (by omega) (by omega)]
  · refine ⟨by omega, ⟨D, zSd_eq (fun a p q => v a (by omega)) hS4, fun D' e => ?_⟩, ?_, ⟨Dx, zSd_eq (fun a p q => w a (by omega) (by omega) (by omega) (by omega) (by omega) (by omega) (by omega) (by omega)) hSx⟩, zSl_eq (fun a p q => w a (by omega) (by omega) (by omega) (by omega) (by omega) (by omega) (by omega) (by omega)) hSlx⟩
    · cases e
      exact ⟨rfl, zSt_eq (fun a p q => v a (by omega)) hSt4⟩
    · exact zSt_l (zSt_eq (fun a p q => v a (by omega)) hSt4)
theorem c_script {L : zY} {m : zM} {Q : zQ} {g : zG} {n : Int} (hg : gOk g) (h : zCI L m g) (k : ∀ m', zCI L m' (sScript g n).2 → zFR 2 331 m m' → Q (some (zI (sScript g n).1)) L m') : zwp 110 0 [zA 2, zI n, zU] [] L m Q := by
  have h' := h
  obtain ⟨T, od, R, C, H, f, p, q⟩ := g
  obtain ⟨sc, sp, hO, hB⟩ := h'
  have two := sc_two hB
  have a1 := hO.1
  obtain ⟨b0, b1, b2, b3, b4, b5, b6, b7, b8, b9, b10⟩ := hO.2.1
  have hT := hB.1
  have t3 := hT.1
  by_cases h1 : 0 ≤ n ∧ n ≤ (T.length : Int)
  · obtain ⟨j, rfl⟩ : ∃ j : Nat, n = (j : Int) := ⟨n.toNat, by omega⟩
    have hj : j ≤ T.length := by omega
    have eT : T.take j ++ T.drop j = T := List.take_append_drop j T
    have el : (T.take j).length = j := by rw [List.length_take]; omega
    obtain ⟨Ds, hSs⟩ := hB.2.2.2.2.2.2.2.2.2.2.2.2.1
    have hSl := hB.2.2.2.2.2.2.2.2.2.2.2.2.2
    have t5 := hB.2.1.1
    have r0 : m 3 0 = ((4 : Nat) : Int) := hB.2.1.2
    have sp1 := hSs.1.1
    have e1 : sScript (T, od, R, C, H, f, p, q) (j : Int) = (match pText (T.take j) with
      | .inl (f, pl) => ((-1 : Int), (([], od, R, C, H, f, (pl : Nat), 4) : zG))
      | .inr D => ((((dC D).length + (dV D).length + (dO D).length : Nat) : Int), ([], some D, [], 0, [], 0, -1, 0))) := if_pos h1
    rw [e1] at k
    clear e1
    simp only [s110_0, s110_1, s110_4, s110_5, s110_8, s110_11, s110_12, s110_13, s110_16, s110_17, s110_18, s110_21, s110_22, s110_23, s110_26, Int.toNat_natCast, true_and, and_true, true_or, or_true, false_or, or_false, zwr_id, zpu_some, zpu_none, reduceIte, Int.reduceLE, Int.reduceLT, Int.reduceEq, Int.reduceNeg, Int.reduceAdd, Int.reduceSub, Int.reduceMul, Int.reduceToNat, Nat.reduceAdd, Nat.reduceLeDiff, Nat.reduceEqDiff, Nat.reduceLT, eq_self, ne_eq, not_false_eq_true, not_true_eq_false, a1, b0, b1, b10, t3, x_reach hT, h1, and_self, t5]
    have hT' : zTp L m 4 (T.take j ++ T.drop j) := by rw [eT]; exact hT
    have ej : (j : Int) = ((T.take j).length : Int) := by rw [el]
    rw [ej]
    refine c_read (r := 3) (tp := 4) (c := sp) (by omega) t5 (by decide) r0 hT' hSs hSl (fun ft pl hp m1 s1 e1 D1 g1 nf gs gl f1 => ?_) (fun D1 hp hD1 m1 s1 e1 g1 gs gt f1 => ?_)
    · rw [hp] at k
      dsimp only at k
      have e2 : m1 2 = m 2 := f1 2 (by decide) (by omega)
      have c0 : m1 2 1 = 4 := by rw [e2]; exact b0
      have c1 : m1 2 0 = 3 := by rw [e2]; exact b1
      have f4 := g1.2.2.2.2.2.2.1
      have f5 := g1.2.2.2.2.2.2.2
      have z31 : ∀ k, zup m1 4 1 0 2 k = m1 2 k := fun k => zup_na (by decide)
      have z35 : ∀ k, zup m1 4 1 0 3 k = m1 3 k := fun k => zup_na (by decide)
      simp (disch := decide) only [s110_29, s110_30, s110_33, s110_36, s110_37, s110_38, s110_41, s110_44, s110_47, s110_48, s110_51, s110_54, s110_57, s110_58, s110_59, s110_62, s110_63, s110_64, s110_65, s110_68, s110_71, s110_74, s110_75, s103_0, s103_1, s103_2, s103_5, Int.toNat_natCast, true_and, and_true, true_or, or_true, false_or, or_false, zwr_id, zpu_some, zpu_none, reduceIte, Int.reduceLE, Int.reduceLT, Int.reduceEq, Int.reduceNeg, Int.reduceAdd, Int.reduceSub, Int.reduceMul, Int.reduceToNat, Nat.reduceAdd, Nat.reduceLeDiff, Nat.reduceEqDiff, Nat.reduceLT, eq_self, ne_eq, not_false_eq_true, not_true_eq_false, a1, c0, c1, t3, t5, z31, z35, f4, f5, nf, x_refuse a1, zup_na, zup_nk]
      have w : ∀ a, a ≠ 2 → a ≠ 4 → a ≠ 3 → (a < sp ∨ sp + 25 < a) → zup (zup (zup (zup (zup m1 4 1 0) 2 12 ft) 2 14 4) 2 13 (-1)) 2 13 (pl : Int) a = m a := fun a q2 q3 q5 q => by rw [zup_nf q2, zup_nf q2, zup_nf q2, zup_nf q2, zup_nf q3]; exact f1 a q5 q
      have y : ∀ k, k ≠ 12 → k ≠ 13 → k ≠ 14 → zup (zup (zup (zup (zup m1 4 1 0) 2 12 ft) 2 14 4) 2 13 (-1)) 2 13 (pl : Int) 2 k = m 2 k := fun k q1 q2 q3 => by rw [zup_nk q2, zup_nk q2, zup_nk q3, zup_nk q1, zup_na (by decide), e2]
      refine k _ ⟨sc, sp, ⟨a1, ⟨?_, ?_, ?_, ?_, ?_, ?_, ?_, ?_, ?_, ?_, ?_⟩, ?_, ?_, ?_, ?_⟩, ?_⟩ (fun a ha => w a (by omega) (by omega) (by omega) (by omega))
      any_goals (rw [y _ (by decide) (by decide) (by decide)]; assumption)
      · rw [y _ (by decide) (by decide) (by decide)]; exact hO.2.2.1
      · rw [zup_nk (by decide), zup_nk (by decide), zup_nk (by decide), zup_same]
      · rw [zup_same]
      · rw [zup_nk (by decide), zup_nk (by decide), zup_same]
      · obtain ⟨-, h5t, ⟨ov, hR⟩, ⟨r1, c1', o1, hDr⟩, hN, hScr, hH, hTl, h279, h0, ⟨Dx, hSx, hSx'⟩, hSlx, -, -⟩ := hB
        have ff : ∀ a, a ≠ 2 → a ≠ 4 → zup (zup (zup (zup (zup m1 4 1 0) 2 12 ft) 2 14 4) 2 13 (-1)) 2 13 (pl : Int) a = m1 a := fun a q2 q3 => by rw [zup_nf q2, zup_nf q2, zup_nf q2, zup_nf q2, zup_nf q3]
        have hTe : zTp L (zup m1 4 1 0) 4 [] := by
          obtain ⟨y1, y2, y3, y4, y5, y6, y7, y8, y9⟩ := hT
          exact ⟨y1, y2, by rw [zup_nk (by decide), f1 4 (by decide) (by omega)]; exact y3, y4, y5, zup_same, Nat.zero_le _, zAL_nil, fun x hx => by cases hx⟩
        refine ⟨zTp_eq (m := zup m1 4 1 0) (by rw [zup_nf (by decide), zup_nf (by decide), zup_nf (by decide), zup_nf (by decide)]) (by rw [zup_nf (by decide), zup_nf (by decide), zup_nf (by decide), zup_nf (by decide)]) hTe, ⟨t5, by rw [ff 3 (by decide) (by decide)]; exact g1.2.2.1⟩, ⟨ov, zRw_eq (w _ (by decide) (by decide) (by decide) (by omega)) (w _ (by decide) (by decide) (by decide) (by omega)) hR⟩, ⟨r1, c1', o1, zRw_eq (w _ (by decide) (by decide) (by decide) (by omega)) (w _ (by decide) (by decide) (by decide) (by omega)) hDr⟩, zRC_eq (fun a p q => w a (by omega) (by omega) (by omega) (by omega)) hN, zRL_eq (fun k _ => by rw [w 20 (by decide) (by decide) (by decide) (by omega)]) hScr, zHi_eq (fun a p q => w a (by omega) (by omega) (by omega) (by omega)) hH, zTl_eq (fun a p q => w a (by omega) (by omega) (by omega) (by omega)) hTl, h279, h0, ⟨Dx, zSd_eq (fun a p q => w a (by omega) (by omega) (by omega) (by omega)) hSx, fun D' e => ⟨(hSx' D' e).1, zSt_eq (fun a p q => w a (by omega) (by omega) (by omega) (by omega)) (hSx' D' e).2⟩⟩, zSl_eq (fun a p q => w a (by omega) (by omega) (by omega) (by omega)) hSlx, ⟨D1, zSd_eq (fun a p q => ff a (by omega) (by omega)) gs⟩, zSl_eq (fun a p q => ff a (by omega) (by omega)) gl⟩
    · rw [hp] at k
      dsimp only at k
      have e2 : m1 2 = m 2 := f1 2 (by decide) (by omega)
      have c0 : m1 2 1 = 4 := by rw [e2]; exact b0
      have c1 : m1 2 0 = 3 := by rw [e2]; exact b1
      have f4 := g1.2.2.2.2.2.2.1
      have z31 : ∀ k, zup m1 4 1 0 2 k = m1 2 k := fun k => zup_na (by decide)
      have z35 : ∀ k, zup m1 4 1 0 3 k = m1 3 k := fun k => zup_na (by decide)
      simp (disch := decide) only [s110_29, s110_30, s110_33, s110_36, s110_37, s110_38, s110_41, s110_44, s110_47, s110_48, s110_51, s110_54, s103_0, s103_1, s103_2, s103_5, Int.toNat_natCast, true_and, and_true, true_or, or_true, false_or, or_false, zwr_id, zpu_some, zpu_none, reduceIte, Int.reduceLE, Int.reduceLT, Int.reduceEq, Int.reduceNeg, Int.reduceAdd, Int.reduceSub, Int.reduceMul, Int.reduceToNat, Nat.reduceAdd, Nat.reduceLeDiff, Nat.reduceEqDiff, Nat.reduceLT, eq_self, ne_eq, not_false_eq_true, not_true_eq_false, a1, c0, c1, t3, t5, z31, z35, f4, zup_na, zup_nk]
      have hTe : zTp L (zup (zup m1 4 1 0) 2 12 0) 4 [] := by
        obtain ⟨y1, y2, y3, y4, y5, y6, y7, y8, y9⟩ := hT
        exact ⟨y1, y2, by rw [zup_na (by decide), zup_nk (by decide), f1 4 (by decide) (by omega)]; exact y3, y4, y5, by rw [zup_na (by decide)]; exact zup_same, Nat.zero_le _, zAL_nil, fun x hx => by cases hx⟩
      exact c_scr_ok (f' := 0) hO hB (zSd_eq (fun a p q => by rw [zup_nf (by omega), zup_nf (by omega)]) gs) (zSt_eq (fun a p q => by rw [zup_nf (by omega), zup_nf (by omega)]) gt) zup_same (fun k hk => by rw [zup_nk hk, z31, e2]) hTe (fun a q2 q3 q5 q => by rw [zup_nf q2, zup_nf q3]; exact f1 a q5 q) (by rw [zup_na (by decide), z35]; exact g1.2.2.1) k
  · have e1 : sScript (T, od, R, C, H, f, p, q) n = gN (T, od, R, C, H, f, p, q) 2 := if_neg h1
    rw [e1] at k
    have c3 : (if 0 ≤ n ∧ n ≤ (T.length : Int) then (1 : Int) else 0) = 0 := if_neg h1
    simp only [s110_0, s110_1, s110_4, s110_5, s110_8, s110_11, s110_12, s110_13, s110_16, Int.toNat_natCast, true_and, and_true, zpu_some, zpu_none, reduceIte, Int.reduceEq, Int.reduceToNat, Nat.reduceLeDiff, a1, b0, t3, x_reach hT, c3, x_refuse a1]
    exact k _ (zCI_ans h) zFR_ans
