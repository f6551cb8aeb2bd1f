theorem rMx_cn {m m' : zM} {D : zD} (h1 : ∀ a, a ≠ 332 → a ≠ 369 → a ≠ 370 → m' a = m a) (h2 : ∀ j, j ≠ 61 → j ≠ 62 → m' 332 j = m 332 j) (hx : rMx m D) : rMx m' D :=
  ⟨zMp_eq (fun i hi => h2 i (fun z => by rw [z] at hi; cases hi) (fun z => by rw [z] at hi; cases hi)) hx.1, rDt_eq (fun a p q => h1 a (by omega) (by omega) (by omega)) hx.2.1, rNm_eq (fun a p q => h1 a (by omega) (by omega) (by omega)) (fun i p q => h2 i (by omega) (by omega)) hx.2.2⟩
def rCf (m m' : zM) : Prop := (∀ a, a ≠ 332 → a ≠ 369 → a ≠ 370 → m' a = m a) ∧ ∀ j, j ≠ 61 → j ≠ 62 → m' 332 j = m 332 j
theorem rCf_rf {m : zM} : rCf m m := ⟨fun _ _ _ _ => rfl, fun _ _ _ => rfl⟩
theorem rCf_tr {m m1 m2 : zM} (h1 : rCf m m1) (h2 : rCf m1 m2) : rCf m m2 := ⟨fun a p q r => (h2.1 a p q r).trans (h1.1 a p q r), fun j p q => (h2.2 j p q).trans (h1.2 j p q)⟩
theorem rCf_Sf {m m' : zM} (h : rCf m m') : rSf m m' := fun a k hk => by
  by_cases z : a = 332
  · subst z
    exact h.2 k (fun y => by rw [y] at hk; exact rKp_x rfl hk) (fun y => by rw [y] at hk; exact rKp_x rfl hk)
  · rw [h.1 a z (fun y => by rcases hk with hk | hk | hk | hk | hk | hk <;> omega) (fun y => by rcases hk with hk | hk | hk | hk | hk | hk <;> omega)]
theorem rCf_FR {m m' : zM} (h : rCf m m') : zFR 332 370 m m' := fun a ha => h.1 a (by omega) (by omega) (by omega)
/-- one KEY more -/
theorem c_rstep {L : zY} {m : zM} {Q : zQ} {D : zD} {w : Bool} {n i : Nat} {l4 l5 : zV} {N : Int} (ht : zMt L) (hn : zMn L) (hD : dOk D) (hlk : dLacks D = false) (hx : rMx m D) (hT : rTb m 369 (hF w D n)) (kq : ∀ m' l4 l5, rTb m' 369 (hF w D (n + 1)) → rCf m m' → zwp 250 151 [zA 332, zI N, zI (if w = true then 1 else 0), zI (i : Int), zI l4, l5] [] L m' Q) : zwp 250 39 [zA 332, zI N, zI (if w = true then 1 else 0), zI (i : Int), l4, l5] [] L m Q := by
  have t0 := mt332 ht
  have b1 : (20 : Nat) ≤ 21 ∧ (21 : Nat) ≤ 23 := by decide
  simp only [s250_39, s250_40]
  -- the longer rows begin with none
  refine zfor (n := 900) (fun j => [zA 332, zI N, zI (if w = true then 1 else 0), zI (i : Int), zI (j : Nat), l5]) (fun j m' => (∀ t, t < j → m' 370 t = 0) ∧ ∀ a, a ≠ 370 → m' a = m a) ?_ ?_ 0 m (Nat.zero_le _) ⟨fun t h => by omega, fun _ _ => rfl⟩
  · rintro j m1 hj ⟨g1, g2⟩ ih
    have jv : j < 1000000 := by omega
    have n1 : ¬ ((900 : Nat) : Int) ≤ (j : Int) := by omega
    have q60 : m1 332 60 = ((370 : Nat) : Int) := by rw [g2 332 (by decide)]; exact mp60 hx.1
    have hr : 0 ≤ (j : Int) ∧ (j : Int) < ((900 : Nat) : Int) := by omega
    simp only [s250_42]
    simp only [s250_44, s250_45, s250_48, s250_49, s250_52, s250_53, s250_56, s250_58, s250_59, s250_60, s250_63, Int.toNat_natCast, true_and, and_true, true_or, or_true, false_or, or_false, zwr_id, zpu_some, zpu_none, reduceIte, Int.reduceLE, Int.reduceLT, Int.reduceEq, Int.reduceNeg, Int.reduceAdd, Int.reduceSub, Int.reduceMul, Int.reduceToNat, Nat.reduceAdd, Nat.reduceLeDiff, Nat.reduceEqDiff, Nat.reduceLT, eq_self, ne_eq, not_false_eq_true, not_true_eq_false, t0, q60, mt370 ht, mn370 hn, n1, hr, and_self, b1, z1 jv]
    refine ih _ ⟨fun t h => ?_, fun a ha => by rw [zup_nf ha]; exact g2 a ha⟩
    by_cases e : t = j
    · subst e; exact zup_same
    · rw [zup_nk e]; exact g1 t (by omega)
  · rintro m1 ⟨g1, g2⟩
    have n1 : ((900 : Nat) : Int) ≤ ((900 : Nat) : Int) := by decide
    have q60 : m1 332 60 = ((370 : Nat) : Int) := by rw [g2 332 (by decide)]; exact mp60 hx.1
    simp only [s250_42]
    simp only [s250_44, s250_45, s250_48, s250_49, s250_66, s250_67, Int.toNat_natCast, true_and, and_true, true_or, or_true, false_or, or_false, zwr_id, zpu_some, zpu_none, reduceIte, Int.reduceLE, Int.reduceLT, Int.reduceEq, Int.reduceNeg, Int.reduceAdd, Int.reduceSub, Int.reduceMul, Int.reduceToNat, Nat.reduceAdd, Nat.reduceLeDiff, Nat.reduceEqDiff, Nat.reduceLT, eq_self, ne_eq, not_false_eq_true, not_true_eq_false, t0, q60, mt370 ht, mn370 hn, n1, b1]
    have T0 : ∀ s i, tEx D s = false → hF w D n s i = 0 := fun s i h => hF_ex hD hlk n s i h
    refine zforv (n := 90) (fun (v : zV) rs => [zA 332, zI N, zI (if w = true then 1 else 0), zI (i : Int), zI (rs : Nat), v]) (fun rs m' => rTb m' 370 (fun s j => sm (fun r => sm (fun k => hGo w D (hF w D n) (taS r) k s j) 26) rs) ∧ (∀ a, a ≠ 332 → a ≠ 370 → m' a = m a) ∧ ∀ j, j ≠ 61 → j ≠ 62 → m' 332 j = m 332 j) ?_ ?_ l5 0 m1 (Nat.zero_le _) ⟨fun rs hr j hj => by rw [g1 _ (by omega)]; exact zwl_0.symm, fun a p q => g2 a q, fun j _ _ => by rw [g2 332 (by decide)]⟩
    · rintro v rs m2 hrs ⟨i1, i2, i3⟩ ih
      have rv : rs < 1000000 := by omega
      have n2 : ¬ (90 : Int) ≤ (rs : Int) := by omega
      simp only [s250_69]
      simp only [s250_71, s250_73, s250_76, s250_77, n2, reduceIte]
      refine zfor (n := 26) (fun k => [zA 332, zI N, zI (if w = true then 1 else 0), zI (i : Int), zI (rs : Nat), zI (k : Nat)]) (fun k m' => rTb m' 370 (fun s j => sm (fun r => sm (fun k => hGo w D (hF w D n) (taS r) k s j) 26) rs + sm (fun k => hGo w D (hF w D n) (taS rs) k s j) k) ∧ (∀ a, a ≠ 332 → a ≠ 370 → m' a = m a) ∧ ∀ j, j ≠ 61 → j ≠ 62 → m' 332 j = m 332 j) ?_ ?_ 0 m2 (Nat.zero_le _) ⟨rTb_cg (fun s j _ => (Int.add_zero _).symm) i1, i2, i3⟩
      · rintro k m3 hk ⟨j1, j2, j3⟩ ih3
        have kv : k < 1000000 := by omega
        have n3 : ¬ (26 : Int) ≤ (k : Int) := by omega
        have x3 : rMx m3 D := rMx_cn (fun a p q r => j2 a p r) j3 hx
        have q7 : m3 332 7 = ((334 : Nat) : Int) := mp7 x3.1
        have hr : 0 ≤ (k : Int) ∧ (k : Int) < ((52 : Nat) : Int) := by omega
        have v1 : m3 334 k = dS D k := x3.2.1.1 k hk
        simp only [s250_79]
        simp only [s250_81, s250_83, s250_86, s250_87, s250_90, s250_92, s250_93, Int.toNat_natCast, true_and, and_true, true_or, or_true, false_or, or_false, zwr_id, zpu_some, zpu_none, reduceIte, Int.reduceLE, Int.reduceLT, Int.reduceEq, Int.reduceNeg, Int.reduceAdd, Int.reduceSub, Int.reduceMul, Int.reduceToNat, Nat.reduceAdd, Nat.reduceLeDiff, Nat.reduceEqDiff, Nat.reduceLT, eq_self, ne_eq, not_false_eq_true, not_true_eq_false, t0, n3, q7, mt334 ht, mn334 hn, hr, and_self, v1]
        simp only [s250_94]
        by_cases hs : dS D k = -1
        · rw [if_pos hs]
          simp only [s250_106, s250_109, z1 kv]
          refine ih3 m3 ⟨rTb_cg (fun s j _ => ?_) j1, j2, j3⟩
          show _ = _ + (_ + hGo w D (hF w D n) (taS rs) k s j)
          have z : hGo w D (hF w D n) (taS rs) k s j = 0 := if_neg (fun q => q.1.1 hs)
          rw [z, Int.add_zero]
        · rw [if_neg hs]
          simp only [s250_97, s250_98, s250_100, s250_102, s250_103, true_and, t0]
          refine c_rpass ht hn hD hlk x3 hrs hk hs (rTb_eq (j2 369 (by decide) (by decide)) hT) T0 j1 (fun m4 y1 y2 y3 => ?_)
          simp only [s250_106, s250_109, zpu_none, z1 kv]
          refine ih3 m4 ⟨rTb_cg (fun s j _ => ?_) y1, fun a p q => by rw [y2 a p q]; exact j2 a p q, fun j p q => by rw [y3 j p q]; exact j3 j p q⟩
          show _ + _ + _ = _ + (_ + _)
          rw [Int.add_assoc]
      · rintro m3 ⟨j1, j2, j3⟩
        simp only [s250_79]
        simp only [s250_81, s250_83, s250_112, s250_115, Int.toNat_natCast, true_and, and_true, true_or, or_true, false_or, or_false, zwr_id, zpu_some, zpu_none, reduceIte, Int.reduceLE, Int.reduceLT, Int.reduceEq, Int.reduceNeg, Int.reduceAdd, Int.reduceSub, Int.reduceMul, Int.reduceToNat, Nat.reduceAdd, Nat.reduceLeDiff, Nat.reduceEqDiff, Nat.reduceLT, eq_self, ne_eq, not_false_eq_true, not_true_eq_false, Int.cast_ofNat_Int, z1 rv]
        exact ih (zI 26) m3 ⟨j1, j2, j3⟩
    · rintro v m2 ⟨i1, i2, i3⟩
      have fin : rTb m2 370 (hF w D (n + 1)) := rTb_cg (fun s j _ => by
        show _ = sm (fun st => sm (fun k => hGo w D (hF w D n) st k s j) 26) 66
        exact sm_ta (f := fun st => sm (fun k => hGo w D (hF w D n) st k s j) 26) (sm_0 (fun k _ => if_neg (fun q => absurd (tEx_exB q.1.2).2 (by decide))))) i1
      simp only [s250_69]
      simp only [s250_71, s250_73, s250_118, s250_119, Int.toNat_natCast, true_and, and_true, true_or, or_true, false_or, or_false, zwr_id, zpu_some, zpu_none, reduceIte, Int.reduceLE, Int.reduceLT, Int.reduceEq, Int.reduceNeg, Int.reduceAdd, Int.reduceSub, Int.reduceMul, Int.reduceToNat, Nat.reduceAdd, Nat.reduceLeDiff, Nat.reduceEqDiff, Nat.reduceLT, eq_self, ne_eq, not_false_eq_true, not_true_eq_false, Int.cast_ofNat_Int]
      refine zfor (n := 900) (fun j => [zA 332, zI N, zI (if w = true then 1 else 0), zI (i : Int), zI (j : Nat), v]) (fun j m' => (∀ t, t < j → m' 369 t = m2 370 t) ∧ ∀ a, a ≠ 369 → m' a = m2 a) ?_ ?_ 0 m2 (Nat.zero_le _) ⟨fun t h => by omega, fun _ _ => rfl⟩
      · rintro j m3 hj ⟨g1, g2⟩ ih
        have jv : j < 1000000 := by omega
        have n1 : ¬ ((900 : Nat) : Int) ≤ (j : Int) := by omega
        have x3 : zMp m2 := (rMx_cn (fun a p q r => i2 a p r) i3 hx).1
        have q59 : m3 332 59 = ((369 : Nat) : Int) := by rw [g2 332 (by decide)]; exact mp59 x3
        have q60 : m3 332 60 = ((370 : Nat) : Int) := by rw [g2 332 (by decide)]; exact mp60 x3
        have hr : 0 ≤ (j : Int) ∧ (j : Int) < ((900 : Nat) : Int) := by omega
        have av : m3 370 j = m2 370 j := by rw [g2 370 (by decide)]
        simp only [s250_121]
        simp only [s250_123, s250_124, s250_127, s250_128, s250_131, s250_132, s250_135, s250_137, s250_138, s250_141, s250_143, s250_144, s250_145, s250_148, Int.toNat_natCast, true_and, and_true, true_or, or_true, false_or, or_false, zwr_id, zpu_some, zpu_none, reduceIte, Int.reduceLE, Int.reduceLT, Int.reduceEq, Int.reduceNeg, Int.reduceAdd, Int.reduceSub, Int.reduceMul, Int.reduceToNat, Nat.reduceAdd, Nat.reduceLeDiff, Nat.reduceEqDiff, Nat.reduceLT, eq_self, ne_eq, not_false_eq_true, not_true_eq_false, t0, q59, q60, mt369 ht, mn369 hn, mt370 ht, mn370 hn, n1, hr, and_self, b1, av, z1 jv]
        refine ih _ ⟨fun t h => ?_, fun a ha => by rw [zup_nf ha]; exact g2 a ha⟩
        by_cases e : t = j
        · subst e; exact zup_same
        · rw [zup_nk e]; exact g1 t (by omega)
      · rintro m3 ⟨g1, g2⟩
        have n1 : ((900 : Nat) : Int) ≤ ((900 : Nat) : Int) := by decide
        have x3 : zMp m2 := (rMx_cn (fun a p q r => i2 a p r) i3 hx).1
        have q59 : m3 332 59 = ((369 : Nat) : Int) := by rw [g2 332 (by decide)]; exact mp59 x3
        simp only [s250_121]
        simp only [s250_123, s250_124, s250_127, s250_128, Int.toNat_natCast, true_and, and_true, true_or, or_true, false_or, or_false, zwr_id, zpu_some, zpu_none, reduceIte, Int.reduceLE, Int.reduceLT, Int.reduceEq, Int.reduceNeg, Int.reduceAdd, Int.reduceSub, Int.reduceMul, Int.reduceToNat, Nat.reduceAdd, Nat.reduceLeDiff, Nat.reduceEqDiff, Nat.reduceLT, eq_self, ne_eq, not_false_eq_true, not_true_eq_false, t0, q59, mt369 ht, mn369 hn, n1, b1]
        exact kq m3 _ _ (fun rs hr j hj => by rw [g1 _ (by omega)]; exact fin rs hr j hj) ⟨fun a p q r => by rw [g2 a q]; exact i2 a p r, fun j p q => by rw [g2 332 (by decide)]; exact i3 j p q⟩
theorem c_rcounts {L : zY} {m : zM} {Q : zQ} {D : zD} {w : Bool} {N : Nat} (ht : zMt L) (hn : zMn L) (hD : dOk D) (hlk : dLacks D = false) (hx : rMx m D) (hN : N ≤ 8) (kq : ∀ m', rTb m' 369 (hF w D N) → rCf m m' → Q none L m') : zwp 250 0 [zA 332, zI (N : Int), zI (if w = true then 1 else 0), zU, zU, zU] [] L m Q := by
  have t0 := mt332 ht
  have b1 : (20 : Nat) ≤ 21 ∧ (21 : Nat) ≤ 23 := by decide
  simp only [s250_0, s250_1]
  refine zfor (n := 900) (fun j => [zA 332, zI (N : Int), zI (if w = true then 1 else 0), zI (j : Nat), zU, zU]) (fun j m' => (∀ t, t < j → m' 369 t = if t = 0 then 1 else 0) ∧ ∀ a, a ≠ 369 → m' a = m a) ?_ ?_ 0 m (Nat.zero_le _) ⟨fun t h => by omega, fun _ _ => rfl⟩
  · rintro j m1 hj ⟨g1, g2⟩ ih
    have jv : j < 1000000 := by omega
    have n1 : ¬ ((900 : Nat) : Int) ≤ (j : Int) := by omega
    have q59 : m1 332 59 = ((369 : Nat) : Int) := by rw [g2 332 (by decide)]; exact mp59 hx.1
    have hr : 0 ≤ (j : Int) ∧ (j : Int) < ((900 : Nat) : Int) := by omega
    have nxt : ∀ v : Int, (v = if j = 0 then 1 else 0) → zwp 250 25 [zA 332, zI (N : Int), zI (if w = true then 1 else 0), zI (j : Nat), zU, zU] [zJ v, zI (j : Int), zA 369] L m1 Q := fun v hv => by
      simp only [s250_25, s250_26, s250_29, Int.toNat_natCast, true_and, and_true, true_or, or_true, false_or, or_false, zwr_id, zpu_some, zpu_none, reduceIte, Int.reduceLE, Int.reduceLT, Int.reduceEq, Int.reduceNeg, Int.reduceAdd, Int.reduceSub, Int.reduceMul, Int.reduceToNat, Nat.reduceAdd, Nat.reduceLeDiff, Nat.reduceEqDiff, Nat.reduceLT, eq_self, ne_eq, not_false_eq_true, not_true_eq_false, mt369 ht, mn369 hn, hr, and_self, z1 jv]
      refine ih _ ⟨fun t h => ?_, fun a ha => by rw [zup_nf ha]; exact g2 a ha⟩
      by_cases e : t = j
      · subst e; rw [zup_same]; exact hv
      · rw [zup_nk e]; exact g1 t (by omega)
    simp only [s250_2]
    simp only [s250_3, s250_4, s250_7, s250_8, s250_11, s250_12, s250_15, s250_16, Int.toNat_natCast, true_and, and_true, true_or, or_true, false_or, or_false, zwr_id, zpu_some, zpu_none, reduceIte, Int.reduceLE, Int.reduceLT, Int.reduceEq, Int.reduceNeg, Int.reduceAdd, Int.reduceSub, Int.reduceMul, Int.reduceToNat, Nat.reduceAdd, Nat.reduceLeDiff, Nat.reduceEqDiff, Nat.reduceLT, eq_self, ne_eq, not_false_eq_true, not_true_eq_false, t0, q59, mt369 ht, mn369 hn, n1, b1]
    simp only [s250_17]
    by_cases h0 : j = 0
    · rw [if_pos (by omega)]
      simp only [s250_20, s250_21]
      exact nxt 1 (by rw [if_pos h0])
    · rw [if_neg (by omega)]
      simp only [s250_24]
      exact nxt 0 (by rw [if_neg h0])
  · rintro m1 ⟨g1, g2⟩
    have n1 : ((900 : Nat) : Int) ≤ ((900 : Nat) : Int) := by decide
    have q59 : m1 332 59 = ((369 : Nat) : Int) := by rw [g2 332 (by decide)]; exact mp59 hx.1
    simp only [s250_2]
    simp only [s250_3, s250_4, s250_7, s250_8, s250_32, s250_33, Int.toNat_natCast, true_and, and_true, true_or, or_true, false_or, or_false, zwr_id, zpu_some, zpu_none, reduceIte, Int.reduceLE, Int.reduceLT, Int.reduceEq, Int.reduceNeg, Int.reduceAdd, Int.reduceSub, Int.reduceMul, Int.reduceToNat, Nat.reduceAdd, Nat.reduceLeDiff, Nat.reduceEqDiff, Nat.reduceLT, eq_self, ne_eq, not_false_eq_true, not_true_eq_false, t0, q59, mt369 ht, mn369 hn, n1, b1]
    have T0 : rTb m1 369 (hF w D 0) := fun rs hr j hj => by
      rw [g1 _ (by omega)]
      show _ = zwl (if taS rs = 0 ∧ j = 0 then 1 else 0)
      by_cases e : rs = 0 ∧ j = 0
      · rw [if_pos (by omega), if_pos ⟨by rw [e.1]; rfl, e.2⟩]; exact zwl_1.symm
      · rw [if_neg (by omega), if_neg (fun q => ?_)]
        · exact zwl_0.symm
        · have h1 := q.1
          unfold taS at h1
          repeat' split at h1
          all_goals omega
    refine zforv (n := N) (fun (v : zV × zV) i => [zA 332, zI (N : Int), zI (if w = true then 1 else 0), zI (i : Nat), v.1, v.2]) (fun i m' => rTb m' 369 (hF w D i) ∧ rCf m m') ?_ ?_ (zU, zU) 0 m1 (Nat.zero_le _) ⟨T0, ⟨fun a p q r => g2 a q, fun j _ _ => by rw [g2 332 (by decide)]⟩⟩
    · rintro ⟨v1, v2⟩ i m2 hi ⟨y1, y2⟩ ih
      have iv : i < 1000000 := by omega
      have n2 : ¬ (N : Int) ≤ (i : Int) := by omega
      simp only [s250_34]
      simp only [s250_35, s250_36, n2, reduceIte]
      refine c_rstep ht hn hD hlk (rMx_cn y2.1 y2.2 hx) y1 (fun m3 l4 l5 z1' z2 => ?_)
      simp only [s250_151, s250_154, z1 iv]
      exact ih (zI l4, l5) m3 ⟨z1', rCf_tr y2 z2⟩
    · rintro ⟨v1, v2⟩ m2 ⟨y1, y2⟩
      have n2 : (N : Int) ≤ (N : Int) := by omega
      simp only [s250_34]
      simp only [s250_35, s250_36, s250_157, Int.toNat_natCast, true_and, and_true, true_or, or_true, false_or, or_false, zwr_id, zpu_some, zpu_none, reduceIte, Int.reduceLE, Int.reduceLT, Int.reduceEq, Int.reduceNeg, Int.reduceAdd, Int.reduceSub, Int.reduceMul, Int.reduceToNat, Nat.reduceAdd, Nat.reduceLeDiff, Nat.reduceEqDiff, Nat.reduceLT, eq_self, ne_eq, not_false_eq_true, not_true_eq_false, n2]
      exact kq m2 y1 y2
