/-! the reference's tables -/
def rTb (m : zM) (a : Nat) (T : Nat → Nat → Int) : Prop := ∀ rs, rs < 90 → ∀ i, i < 9 → m a (90 * i + rs) = zwl (T (taS rs) i)
theorem rTb_eq {m m' : zM} {a : Nat} {T : Nat → Nat → Int} (h : m' a = m a) (hT : rTb m a T) : rTb m' a T := fun rs h1 i h2 => by rw [h]; exact hT rs h1 i h2
theorem rTb_cg {m : zM} {a : Nat} {T T' : Nat → Nat → Int} (h : ∀ s i, i < 9 → T s i = T' s i) (hT : rTb m a T) : rTb m a T' := fun rs h1 i h2 => by rw [← h _ _ h2]; exact hT rs h1 i h2
theorem c_rempty {L : zY} {m : zM} {Q : zQ} {rs : Nat} (ht : zMt L) (hn : zMn L) (hp : zMp m) (hr : rs < 90) (k1 : (∀ i, i < 9 → m 369 (90 * i + rs) = 0) → Q (some (zI 1)) L m) (k2 : (∃ i, i < 9 ∧ m 369 (90 * i + rs) ≠ 0) → Q (some (zI 0)) L m) : zwp 252 0 [zA 332, zI (rs : Int), zU] [] L m Q := by
  have t0 := mt332 ht
  have q59 : m 332 59 = ((369 : Nat) : Int) := mp59 hp
  simp only [s252_0, s252_1]
  refine zfor (n := 9) (fun i => [zA 332, zI (rs : Int), zI (i : Nat)]) (fun i m' => m' = m ∧ ∀ j, j < i → m 369 (90 * j + rs) = 0) ?_ ?_ 0 m (Nat.zero_le _) ⟨rfl, fun j hj => by omega⟩
  · rintro i m' hi ⟨e, hh⟩ ih
    subst e
    have n1 : ¬ (8 : Int) < (i : Int) := by omega
    have iv : i < 1000000 := by omega
    have hr1 : 0 ≤ ((90 * i + rs : Nat) : Int) ∧ ((90 * i + rs : Nat) : Int) < ((900 : Nat) : Int) := by omega
    simp only [s252_2]
    simp only [s252_3, s252_5, s252_8, s252_9, s252_12, s252_14, s252_15, s252_16, s252_17, s252_18, s252_19, s252_20, Int.toNat_natCast, true_and, and_true, true_or, or_true, false_or, or_false, zwr_id, zpu_some, zpu_none, reduceIte, Int.reduceLE, Int.reduceLT, Int.reduceEq, Int.reduceNeg, Int.reduceAdd, Int.reduceSub, Int.reduceMul, Int.reduceToNat, Nat.reduceAdd, Nat.reduceLeDiff, Nat.reduceEqDiff, Nat.reduceLT, eq_self, ne_eq, not_false_eq_true, not_true_eq_false, t0, n1, q59, mt369 ht, mn369 hn, hr1, and_self, (show zwr (90 * (i : Int)) = ((90 * i : Nat) : Int) from zwn (by omega) (by omega)), (show zwr (((90 * i : Nat) : Int) + (rs : Int)) = ((90 * i + rs : Nat) : Int) from zwn (by omega) (by omega))]
    simp only [s252_21]
    by_cases e : m' 369 (90 * i + rs) = 0
    · have v0 : (if 0 < m' 369 (90 * i + rs) then (1 : Int) else if m' 369 (90 * i + rs) = 0 then 0 else -1) = 0 := by rw [e]; rfl
      rw [if_pos v0]
      simp only [s252_26, s252_29, z1 iv]
      refine ih _ ⟨rfl, fun j hj => ?_⟩
      by_cases z : j = i
      · subst z; exact e
      · exact hh j (by omega)
    · have : ¬ (if 0 < m' 369 (90 * i + rs) then (1 : Int) else if m' 369 (90 * i + rs) = 0 then 0 else -1) = 0 := by
        rw [if_neg e]
        split <;> decide
      rw [if_neg this]
      simp only [s252_24, s252_25, Int.toNat_natCast, true_and, and_true, true_or, or_true, false_or, or_false, zwr_id, zpu_some, zpu_none, reduceIte, Int.reduceLE, Int.reduceLT, Int.reduceEq, Int.reduceNeg, Int.reduceAdd, Int.reduceSub, Int.reduceMul, Int.reduceToNat, Nat.reduceAdd, Nat.reduceLeDiff, Nat.reduceEqDiff, Nat.reduceLT, eq_self, ne_eq, not_false_eq_true, not_true_eq_false]
      exact k2 ⟨i, hi, e⟩
  · rintro m' ⟨e, hh⟩
    subst e
    simp only [s252_2]
    simp only [s252_3, s252_5, s252_32, s252_33, Int.toNat_natCast, true_and, and_true, true_or, or_true, false_or, or_false, zwr_id, zpu_some, zpu_none, reduceIte, Int.reduceLE, Int.reduceLT, Int.reduceEq, Int.reduceNeg, Int.reduceAdd, Int.reduceSub, Int.reduceMul, Int.reduceToNat, Nat.reduceAdd, Nat.reduceLeDiff, Nat.reduceEqDiff, Nat.reduceLT, eq_self, ne_eq, not_false_eq_true, not_true_eq_false, Int.cast_ofNat_Int, Int.reduceLT]
    exact k1 hh
theorem r_blk {L : zY} {m : zM} {Q : zQ} {v : Int} : zwp 249 0 [zI v] [] L m Q ↔ Q (some (zI (if v = 0 ∨ (20 ≤ v ∧ v ≤ 39) ∨ 60 ≤ v then 1 else 0))) L m := by
  simp only [s249_0]
  simp only [s249_1]
  by_cases h0 : v = 0
  · rw [if_pos h0, if_pos (Or.inl h0)]
    simp only [s249_21, s249_22, s249_26, Int.toNat_natCast, true_and, and_true, true_or, or_true, false_or, or_false, zwr_id, zpu_some, zpu_none, reduceIte, Int.reduceLE, Int.reduceLT, Int.reduceEq, Int.reduceNeg, Int.reduceAdd, Int.reduceSub, Int.reduceMul, Int.reduceToNat, Nat.reduceAdd, Nat.reduceLeDiff, Nat.reduceEqDiff, Nat.reduceLT, eq_self, ne_eq, not_false_eq_true, not_true_eq_false]
  · rw [if_neg h0]
    simp only [s249_4, s249_5, s249_7, s249_9, zpu_some, r_in]
    simp only [s249_12]
    by_cases h1 : 20 ≤ v ∧ v ≤ 39
    · rw [if_pos h1, if_neg (by decide), if_pos (Or.inr (Or.inl h1))]
      simp only [s249_21, s249_22, s249_26, Int.toNat_natCast, true_and, and_true, true_or, or_true, false_or, or_false, zwr_id, zpu_some, zpu_none, reduceIte, Int.reduceLE, Int.reduceLT, Int.reduceEq, Int.reduceNeg, Int.reduceAdd, Int.reduceSub, Int.reduceMul, Int.reduceToNat, Nat.reduceAdd, Nat.reduceLeDiff, Nat.reduceEqDiff, Nat.reduceLT, eq_self, ne_eq, not_false_eq_true, not_true_eq_false]
    · rw [if_neg h1, if_pos rfl]
      simp only [s249_15, s249_16]
      simp only [s249_18]
      by_cases h2 : 60 ≤ v
      · rw [if_neg (by omega), if_pos (Or.inr (Or.inr h2))]
        simp only [s249_21, s249_22, s249_26, Int.toNat_natCast, true_and, and_true, true_or, or_true, false_or, or_false, zwr_id, zpu_some, zpu_none, reduceIte, Int.reduceLE, Int.reduceLT, Int.reduceEq, Int.reduceNeg, Int.reduceAdd, Int.reduceSub, Int.reduceMul, Int.reduceToNat, Nat.reduceAdd, Nat.reduceLeDiff, Nat.reduceEqDiff, Nat.reduceLT, eq_self, ne_eq, not_false_eq_true, not_true_eq_false]
      · rw [if_pos (by omega), if_neg (fun q => q.elim h0 (fun z => z.elim h1 h2))]
        simp only [s249_25, s249_26, Int.toNat_natCast, true_and, and_true, true_or, or_true, false_or, or_false, zwr_id, zpu_some, zpu_none, reduceIte, Int.reduceLE, Int.reduceLT, Int.reduceEq, Int.reduceNeg, Int.reduceAdd, Int.reduceSub, Int.reduceMul, Int.reduceToNat, Nat.reduceAdd, Nat.reduceLeDiff, Nat.reduceEqDiff, Nat.reduceLT, eq_self, ne_eq, not_false_eq_true, not_true_eq_false]
theorem sg_bl {st : Nat} (h : st < 66) (h47 : st ≠ 47) : (((sgS st : Nat) : Int) = 0 ∨ (20 ≤ ((sgS st : Nat) : Int) ∧ ((sgS st : Nat) : Int) ≤ 39) ∨ 60 ≤ ((sgS st : Nat) : Int)) ↔ blS st = true := by
  unfold blS
  rw [Bool.or_eq_true, decide_eq_true_iff, decide_eq_true_iff]
  unfold sgS
  repeat' split
  all_goals omega
theorem sg_0 {st : Nat} : ((sgS st : Nat) : Int) = 0 ↔ st = 0 := by
  unfold sgS
  repeat' split
  all_goals omega
theorem ta_ex {D : zD} {rs : Nat} (hr : rs < 90) (h : tEx D (taS rs) = true) : taS rs < 66 ∧ taS rs ≠ 47 ∧ sgS (taS rs) = rs := by
  have h1 := (ta_lt (rs := rs)).resolve_right (by omega)
  have h2 : taS rs ≠ 47 := fun q => by rw [q] at h; exact absurd (tEx_exB h).2 (by decide)
  exact ⟨h1, h2, ((sg_ta h1 h2 hr).mp rfl).symm⟩
theorem c_rpass {L : zY} {m : zM} {Q : zQ} {D : zD} {w : Bool} {rs k : Nat} {T X : Nat → Nat → Int} (ht : zMt L) (hn : zMn L) (hD : dOk D) (hlk : dLacks D = false) (hx : rMx m D) (hr : rs < 90) (hk : k < 26) (hs : dS D k ≠ -1) (hT : rTb m 369 T) (hT0 : ∀ s i, tEx D s = false → T s i = 0) (hX : rTb m 370 X) (kq : ∀ m', rTb m' 370 (fun s i => X s i + hGo w D T (taS rs) k s i) → (∀ a, a ≠ 332 → a ≠ 370 → m' a = m a) → (∀ j, j ≠ 61 → j ≠ 62 → m' 332 j = m 332 j) → Q none L m') : zwp 251 0 [zA 332, zI (rs : Int), zI (k : Int), zI (if w = true then 1 else 0), zU, zU] [] L m Q := by
  have t0 := mt332 ht
  -- nothing comes of an empty state
  have empty : (∀ i, i < 9 → m 369 (90 * i + rs) = 0) → Q none L m := fun h0 => by
    refine kq m (fun rs' y1 i y2 => ?_) (fun _ _ _ => rfl) (fun _ _ _ => rfl)
    rw [hX rs' y1 i y2]
    unfold hGo
    dsimp only
    split
    · have z := h0 (i - (tMv (zPof D) (taS rs) k).2) (by omega)
      rw [hT rs hr _ (by omega)] at z
      rw [← zwl_ad2 (a := X (taS rs') i), z, Int.add_zero, zwl_idem]
    · rw [Int.add_zero]
  -- a state that has rows
  have go : tEx D (taS rs) = true → zwp 251 13 [zA 332, zI (rs : Int), zI (k : Int), zI (if w = true then 1 else 0), zU, zU] [] L m Q := fun hex => by
    obtain ⟨s1, s2, s3⟩ := ta_ex hr hex
    have mv := tMv_mv hD hlk hk hs hex
    obtain ⟨-, nx1, nx2, mo⟩ := mv
    have nx3 := (tEx_exB nx1).2
    have gf := fun (Q' : zQ) kk => c_rgf (Q := Q') ht hn hD hlk hx hk hex kk
    rw [s3] at gf
    have eGo : ∀ s i, hGo w D T (taS rs) k s i = if hBad w D (taS rs) k = true then 0 else if (tMv (zPof D) (taS rs) k).1 = s ∧ (tMv (zPof D) (taS rs) k).2 ≤ i then T (taS rs) (i - (tMv (zPof D) (taS rs) k).2) else 0 := fun s i => by
      unfold hGo
      by_cases hb : hBad w D (taS rs) k = true
      · rw [if_pos hb, if_neg (fun q => by rw [hb] at q; exact absurd q.2.2.2 (by decide))]
      · rw [if_neg hb]
        refine ite_iff ⟨fun q => ⟨q.2.1, q.2.2.1⟩, fun q => ⟨⟨hs, hex⟩, q.1, q.2, Bool.eq_false_iff.mpr hb⟩⟩
    have hbd : hBad w D (taS rs) k = (w && (decide ((tMv (zPof D) (taS rs) k).2 = 1) && (!blS (taS rs) || decide ((tMv (zPof D) (taS rs) k).1 = 0)))) := rfl
    have bl := sg_bl s1 s2
    rw [s3] at bl
    simp only [s251_13, s251_14, s251_15, s251_16, true_and, t0]
    refine gf _ (fun m1 n1 => ?_)
    unfold rMvP at n1
    obtain ⟨i61, i62, i3, i4⟩ := id n1
    have p1 := (rMx_Nx n1 hx).1
    have hT1 : rTb m1 369 T := rTb_eq (i3 369 (by decide)) hT
    have hX1 : rTb m1 370 X := rTb_eq (i3 370 (by decide)) hX
    have sgn := ta_sg nx2 nx3
    have sgz := sg_0 (st := (tMv (zPof D) (taS rs) k).1)
    have sgt := fun rs' (h' : rs' < 90) => sg_ta (rs := rs') nx2 nx3 h'
    clear n1 gf nx1
    generalize (tMv (zPof D) (taS rs) k).1 = nx at *
    generalize (tMv (zPof D) (taS rs) k).2 = more at *
    generalize hst : taS rs = st at *
    generalize hBad w D st k = bad at *
    simp only [zpu_none]
    -- the loop
    have loop : zwp 251 50 [zA 332, zI (rs : Int), zI (k : Int), zI (if w = true then 1 else 0), zU, zU] [zI (if bad = true then 1 else 0)] L m1 Q := by
      simp only [s251_50, s251_52, s251_53]
      cases hb : bad with
      | true =>
        rw [hb] at eGo
        rw [if_pos rfl]
        have fin : Q none L m1 := kq m1 (rTb_cg (fun s i _ => by rw [eGo, if_pos rfl, Int.add_zero]) hX1) (fun a q1 q2 => i3 a q1) (fun j q1 q2 => i4 j q1 q2)
        have n8 : ¬ (8 : Int) < (more : Int) := by omega
        simp only [s251_55, s251_57, s251_58, s251_61, s251_62, s251_64, s251_67, s251_69, s251_113, Int.toNat_natCast, true_and, and_true, true_or, or_true, false_or, or_false, zwr_id, zpu_some, zpu_none, reduceIte, Int.reduceLE, Int.reduceLT, Int.reduceEq, Int.reduceNeg, Int.reduceAdd, Int.reduceSub, Int.reduceMul, Int.reduceToNat, Nat.reduceAdd, Nat.reduceLeDiff, Nat.reduceEqDiff, Nat.reduceLT, eq_self, ne_eq, not_false_eq_true, not_true_eq_false, t0, i62, (show zwr (0 + (more : Int)) = ((more : Nat) : Int) from zwn (by omega) (by omega)), n8]
        exact fin
      | false =>
        rw [hb] at eGo
        rw [if_neg (show ¬ (false = true) from Bool.noConfusion)]
        refine zfor (n := 9 - more) (fun i => [zA 332, zI (rs : Int), zI (k : Int), zI (if w = true then 1 else 0), zI 0, zI (i : Nat)]) (fun i m' => rTb m' 370 (fun s j => X s j + if (nx = s ∧ more ≤ j) ∧ j - more < i then T st (j - more) else 0) ∧ ∀ a, a ≠ 370 → m' a = m1 a) ?_ ?_ 0 m1 (Nat.zero_le _) ⟨rTb_cg (fun s i _ => by rw [if_neg (by omega), Int.add_zero]) hX1, fun _ _ => rfl⟩
        · rintro i m2 hi ⟨g1, g2⟩ ih
          have iv : i < 1000000 := by omega
          have j61 : m2 332 61 = ((sgS nx : Nat) : Int) := by rw [g2 332 (by decide)]; exact i61
          have j62 : m2 332 62 = (more : Int) := by rw [g2 332 (by decide)]; exact i62
          have j59 : m2 332 59 = ((369 : Nat) : Int) := by rw [g2 332 (by decide)]; exact mp59 p1
          have j60 : m2 332 60 = ((370 : Nat) : Int) := by rw [g2 332 (by decide)]; exact mp60 p1
          have n8 : ¬ (8 : Int) < ((i + more : Nat) : Int) := by omega
          have hr1 : 0 ≤ ((90 * (i + more) + sgS nx : Nat) : Int) ∧ ((90 * (i + more) + sgS nx : Nat) : Int) < ((900 : Nat) : Int) := by omega
          have hr2 : 0 ≤ ((90 * i + rs : Nat) : Int) ∧ ((90 * i + rs : Nat) : Int) < ((900 : Nat) : Int) := by omega
          have a1 := g1 (sgS nx) sgn.2 (i + more) (by omega)
          rw [sgn.1] at a1
          dsimp only at a1
          rw [if_neg (by omega), Int.add_zero] at a1
          have a2 : m2 369 (90 * i + rs) = zwl (T st i) := by rw [g2 369 (by decide), ← hst]; exact hT1 rs hr i (by omega)
          simp only [s251_55]
          simp only [s251_57, s251_58, s251_61, s251_62, s251_64, s251_67, s251_69, s251_72, s251_73, s251_76, s251_78, s251_80, s251_81, s251_84, s251_85, s251_86, s251_87, s251_90, s251_91, s251_92, s251_93, s251_94, s251_97, s251_99, s251_101, s251_102, s251_103, s251_104, s251_105, s251_106, s251_107, s251_110, Int.toNat_natCast, true_and, and_true, true_or, or_true, false_or, or_false, zwr_id, zpu_some, zpu_none, reduceIte, Int.reduceLE, Int.reduceLT, Int.reduceEq, Int.reduceNeg, Int.reduceAdd, Int.reduceSub, Int.reduceMul, Int.reduceToNat, Nat.reduceAdd, Nat.reduceLeDiff, Nat.reduceEqDiff, Nat.reduceLT, eq_self, ne_eq, not_false_eq_true, not_true_eq_false, t0, j61, j62, j59, j60, (show zwr ((i : Int) + (more : Int)) = ((i + more : Nat) : Int) from zwn (by omega) (by omega)), (show zwr (90 * ((i + more : Nat) : Int)) = ((90 * (i + more) : Nat) : Int) from zwn (by omega) (by omega)), (show zwr (((90 * (i + more) : Nat) : Int) + ((sgS nx : Nat) : Int)) = ((90 * (i + more) + sgS nx : Nat) : Int) from zwn (by omega) (by omega)), (show zwr (90 * (i : Int)) = ((90 * i : Nat) : Int) from zwn (by omega) (by omega)), (show zwr (((90 * i : Nat) : Int) + (rs : Int)) = ((90 * i + rs : Nat) : Int) from zwn (by omega) (by omega)), n8, mt369 ht, mn369 hn, mt370 ht, mn370 hn, hr1, hr2, and_self, a1, a2, zwl_ad2, z1 iv]
          refine ih _ ⟨fun rs' y1 j y2 => ?_, fun a ha => by rw [zup_nf ha]; exact g2 a ha⟩
          by_cases e : rs' = sgS nx ∧ j = i + more
          · obtain ⟨e1, e2⟩ := e
            subst e1 e2
            dsimp only
            rw [zup_same, sgn.1, if_pos ⟨⟨rfl, by omega⟩, by omega⟩, show i + more - more = i by omega]
          · rw [zup_nk (by omega), g1 rs' y1 j y2]
            dsimp only
            congr 2
            refine ite_iff ⟨fun q => ⟨q.1, by omega⟩, fun q => ⟨q.1, ?_⟩⟩
            by_cases z : j - more = i
            · exact absurd ⟨(sgt rs' y1).mp q.1.1.symm, by omega⟩ e
            · omega
        · rintro m2 ⟨g1, g2⟩
          have j62 : m2 332 62 = (more : Int) := by rw [g2 332 (by decide)]; exact i62
          have n8 : (8 : Int) < ((9 : Nat) : Int) := by decide
          simp only [s251_55]
          simp only [s251_57, s251_58, s251_61, s251_62, s251_64, s251_113, Int.toNat_natCast, true_and, and_true, true_or, or_true, false_or, or_false, zwr_id, zpu_some, zpu_none, reduceIte, Int.reduceLE, Int.reduceLT, Int.reduceEq, Int.reduceNeg, Int.reduceAdd, Int.reduceSub, Int.reduceMul, Int.reduceToNat, Nat.reduceAdd, Nat.reduceLeDiff, Nat.reduceEqDiff, Nat.reduceLT, eq_self, ne_eq, not_false_eq_true, not_true_eq_false, t0, j62, (show zwr (((9 - more : Nat) : Int) + (more : Int)) = ((9 : Nat) : Int) from zwn (by omega) (by omega)), n8]
          refine kq m2 (rTb_cg (fun s i hi9 => ?_) g1) (fun a q1 q2 => by rw [g2 a q2]; exact i3 a q1) (fun j q1 q2 => by rw [g2 332 (by decide)]; exact i4 j q1 q2)
          rw [eGo, if_neg (show ¬ (false = true) from Bool.noConfusion)]
          congr 1
          exact ite_iff ⟨fun q => q.1, fun q => ⟨q, by omega⟩⟩
    simp only [s251_19]
    simp only [s251_20]
    cases w with
    | false =>
      rw [if_neg (show ¬ (false = true) from Bool.noConfusion)] at loop ⊢
      rw [if_pos rfl]
      have hb : bad = false := hbd
      rw [hb, if_neg (by decide)] at loop
      simp only [s251_49]
      exact loop
    | true =>
      rw [if_pos rfl] at loop ⊢
      rw [if_neg (by decide)]
      simp only [s251_23, s251_24, s251_27, true_and, t0, i62]
      simp only [s251_28]
      rw [Bool.true_and] at hbd
      by_cases m1' : more = 1
      · rw [if_pos (by omega)]
        rw [decide_eq_true m1', Bool.true_and] at hbd
        simp only [s251_31, s251_32, zpu_some, r_blk, ite_iff bl]
        simp only [s251_35]
        by_cases hbl : blS st = true
        · rw [if_pos hbl, if_neg (by decide)]
          rw [hbl] at hbd
          simp only [s251_38, s251_39, true_and, t0, i61]
          simp only [s251_42]
          by_cases n0 : nx = 0
          · rw [if_pos (sgz.mpr n0)]
            rw [decide_eq_true n0] at hbd
            have hb : bad = true := hbd
            rw [hb, if_pos rfl] at loop
            simp only [s251_45, s251_46]
            exact loop
          · rw [if_neg (fun q => n0 (sgz.mp q))]
            rw [decide_eq_false n0] at hbd
            have hb : bad = false := hbd
            rw [hb, if_neg (by decide)] at loop
            simp only [s251_49]
            exact loop
        · rw [if_neg hbl, if_pos rfl]
          rw [Bool.eq_false_iff.mpr hbl] at hbd
          have hb : bad = true := hbd
          rw [hb, if_pos rfl] at loop
          simp only [s251_45, s251_46]
          exact loop
      · rw [if_neg (by omega)]
        rw [decide_eq_false m1', Bool.false_and] at hbd
        rw [hbd, if_neg (by decide)] at loop
        simp only [s251_49]
        exact loop
  simp only [s251_0]
  simp only [s251_1]
  by_cases h0 : rs = 0
  · rw [if_pos (by omega)]
    exact go (by rw [h0]; rfl)
  · rw [if_neg (by omega)]
    simp only [s251_4, s251_5, s251_6, true_and, t0]
    refine c_rempty ht hn hx.1 hr (fun hz => ?_) (fun hz => ?_)
    · simp only [s251_9, s251_12, Int.toNat_natCast, true_and, and_true, true_or, or_true, false_or, or_false, zwr_id, zpu_some, zpu_none, reduceIte, Int.reduceLE, Int.reduceLT, Int.reduceEq, Int.reduceNeg, Int.reduceAdd, Int.reduceSub, Int.reduceMul, Int.reduceToNat, Nat.reduceAdd, Nat.reduceLeDiff, Nat.reduceEqDiff, Nat.reduceLT, eq_self, ne_eq, not_false_eq_true, not_true_eq_false]
      exact empty hz
    · simp only [s251_9, Int.toNat_natCast, true_and, and_true, true_or, or_true, false_or, or_false, zwr_id, zpu_some, zpu_none, reduceIte, Int.reduceLE, Int.reduceLT, Int.reduceEq, Int.reduceNeg, Int.reduceAdd, Int.reduceSub, Int.reduceMul, Int.reduceToNat, Nat.reduceAdd, Nat.reduceLeDiff, Nat.reduceEqDiff, Nat.reduceLT, eq_self, ne_eq, not_false_eq_true, not_true_eq_false]
      refine go ?_
      cases hex : tEx D (taS rs) with
      | true => rfl
      | false =>
        obtain ⟨i, hi, hne⟩ := hz
        rw [hT rs hr i hi, hT0 _ _ hex, zwl_0] at hne
        exact absurd rfl hne
