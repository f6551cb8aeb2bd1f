/-- what laysBare() leaves as it is -/
def rLf (m m' : zM) : Prop := ∀ a k, ¬ rIn 1 a k → a ≠ 362 → (a = 332 → k ≠ 50 ∧ k ≠ 51) → m' a k = m a k
theorem rLf_rf {m : zM} : rLf m m := fun _ _ _ _ _ => rfl
theorem rLf_tr {m m1 m2 : zM} (h1 : rLf m m1) (h2 : rLf m1 m2) : rLf m m2 := fun a k p q r => (h2 a k p q r).trans (h1 a k p q r)
theorem rLf_b {m m' : zM} (h : rBf 1 m m') : rLf m m' := fun a k p _ _ => h a k p
theorem rLf_o {m m' : zM} (h1 : ∀ c, c ≠ 332 → c ≠ 362 → m' c = m c) (h2 : ∀ j, j ≠ 50 → j ≠ 51 → m' 332 j = m 332 j) : rLf m m' := fun a k p q r => by
  by_cases z : a = 332
  · subst z; exact h2 k (r rfl).1 (r rfl).2
  · rw [h1 a z q]
theorem rLf_row {m m' : zM} (h : rLf m m') {a : Nat} (h1 : a ≠ 332) (h2 : a ≠ 362) (h3 : a < 349 ∨ 359 < a) : m' a = m a := funext (fun k => h a k (by unfold rIn; omega) h2 (fun z => absurd z h1))
theorem rLf_ob {m m' : zM} (h : rLf m m') {k : Nat} (h1 : k ≠ 45 ∧ k ≠ 46 ∧ k ≠ 50 ∧ k ≠ 51) : m' 332 k = m 332 k := h 332 k (by unfold rIn; omega) (by decide) (fun _ => ⟨h1.2.2.1, h1.2.2.2⟩)
theorem zMk_n5 {i : Nat} (h : zMk i = true) : i ≠ 45 ∧ i ≠ 46 ∧ i ≠ 50 ∧ i ≠ 51 := by
  refine ⟨?_, ?_, ?_, ?_⟩
  · rintro rfl; cases h
  · rintro rfl; cases h
  · rintro rfl; cases h
  · rintro rfl; cases h
theorem rMx_Lf {m m' : zM} {D : zD} (h : rLf m m') (hx : rMx m D) : rMx m' D :=
  ⟨zMp_eq (fun i hi => rLf_ob h (zMk_n5 hi)) hx.1, rDt_eq (fun a p q => rLf_row h (by omega) (by omega) (by omega)) hx.2.1, rNm_eq (fun a p q => rLf_row h (by omega) (by omega) (by omega)) (fun i p q => rLf_ob h (by omega)) hx.2.2⟩
theorem rDu_Lf {m m' : zM} {l : List zKq} {J : List zIt} (hl : J.length ≤ 200) (h : rLf m m') (hu : rDu m l J) : rDu m' l J := by
  obtain ⟨u1, ⟨u2, u3, u4, u5⟩, u6, u7, u8⟩ := hu
  have al : ∀ (a : Nat) (f : zIt → Int), 350 ≤ a → a ≤ 353 → zAL m a (200 * 2) (J.map f) → zAL m' a (200 * 2) (J.map f) := fun a f q1 q2 hz => zAL_fo (fun i hi => h a _ (by rw [List.length_map] at hi; unfold rIn; omega) (by omega) (by omega)) hz
  refine ⟨by rw [h 349 2 (by unfold rIn; omega) (by decide) (by decide)]; exact u1, ⟨al 350 _ (by decide) (by decide) u2, al 351 _ (by decide) (by decide) u3, al 352 _ (by decide) (by decide) u4, al 353 _ (by decide) (by decide) u5⟩, u6, fun i hi => by rw [rLf_row h (by decide) (by decide) (by decide)]; exact u7 i hi, fun i j hi hj => by rw [rLf_row h (by decide) (by decide) (by decide)]; exact u8 i j hi hj⟩
theorem rLf_Sf {m m' : zM} (h : rLf m m') : rSf m m' := fun a k hk => by
  have n1 : ¬ rIn 1 a k := fun hi => by
    rcases hi with ⟨rfl, rfl | rfl⟩ | hi | hi | hi
    · exact rKp_x rfl hk
    · exact rKp_x rfl hk
    · rcases hk with hk | hk | hk | hk | hk | hk <;> omega
    · rcases hk with hk | hk | hk | hk | hk | hk <;> omega
    · rcases hk with hk | hk | hk | hk | hk | hk <;> omega
  refine h a k n1 (fun z => by rcases hk with hk | hk | hk | hk | hk | hk <;> omega) (fun z => ?_)
  subst z
  exact ⟨fun y => by rw [y] at hk; exact rKp_x rfl hk, fun y => by rw [y] at hk; exact rKp_x rfl hk⟩
theorem rLf_FR {m m' : zM} (h : rLf m m') : zFR 332 370 m m' := fun a ha => rLf_row h (by omega) (by omega) (by omega)
theorem rBr_app {xs ys : List Int} : rBr (xs ++ ys) = rBr xs + rBr ys := List.countP_append
theorem rBr_ky {D : zD} {xs : List Int} (h : kyOk D xs) : rBr xs = 0 := by
  unfold rBr
  rw [List.countP_eq_zero]
  intro y hy e
  obtain ⟨c, hc, rfl, -⟩ := h y hy
  rw [beq_iff_eq] at e
  unfold kk at e
  omega
theorem rBr_cons {xs : List Int} : rBr (124 :: xs) = rBr xs + 1 := List.countP_cons_of_pos (by decide)
theorem kyOk_sg2 {D : zD} {l : List zKq} (hl : ∀ q ∈ l, kqOk D q) {i : Nat} : ∀ y ∈ bB (zPof D) l i, gSg D y = true := fun y hy => by
  rcases bB_mem i y hy with e | ⟨q, hq, hy⟩
  · rw [e]; rfl
  · exact kyOk_sg (hl q hq).1 y hy
theorem c_rlbare {L : zY} {m : zM} {Q : zQ} {D : zD} {l : List zKq} {J : List zIt} (ht : zMt L) (hn : zMn L) (hD : dOk D) (hl : ∀ q ∈ l, kqOk D q) (hx : rMx m D) (hu : rDu m l J) (hk : kp l l.length ≤ 80) (hl2 : l.length ≤ 80) (k : ∀ m', zAL m' 362 0 (bB (zPof D) l l.length) → m' 332 50 = ((bB (zPof D) l l.length).length : Int) → m' 332 51 = (rBr (bB (zPof D) l l.length) : Int) → rLf m m' → Q none L m') : zwp 205 0 [zA 332, zU, zU] [] L m Q := by
  have t0 := mt332 ht
  have Jl : J.length = l.length := by have := congrArg List.length hu.2.2.1; rw [List.length_map, List.length_map] at this; exact this
  simp only [s205_0, s205_1, s205_2, s205_5, s205_6, s205_7, s205_10, s205_11, true_and, t0]
  have f0 : rLf m (zup (zup m 332 50 0) 332 51 0) := rLf_o (fun c q1 q2 => by rw [zup_nf q1, zup_nf q1]) (fun j q1 q2 => by rw [zup_nk q2, zup_nk q1])
  refine zforv (n := l.length) (fun (v : zV) i => [zA 332, zI (i : Nat), v]) (fun i m' => zAL m' 362 0 (bB (zPof D) l i) ∧ m' 332 50 = ((bB (zPof D) l i).length : Int) ∧ m' 332 51 = (rBr (bB (zPof D) l i) : Int) ∧ rLf m m') ?_ ?_ zU 0 _ (Nat.zero_le _) ⟨zAL_nil, by rw [zup_nk (by decide), zup_same]; rfl, zup_same, f0⟩
  · rintro v i m1 hi ⟨g1, g2, g3, g4⟩ ih
    have iv : i < 1000000 := by omega
    have x1 := rMx_Lf g4 hx
    have u1 := rDu_Lf (by omega) g4 hu
    have n1 : ¬ (l.length : Int) ≤ (i : Int) := by omega
    have q34 : m1 332 34 = ((349 : Nat) : Int) := mp34 x1.1
    have b2 : (2 : Int) < ((3 : Nat) : Int) := by decide
    obtain ⟨bk1, bk2⟩ := bB_kp (P := zPof D) (l := l) i
    have km := kp_mono (l := l) (i := i + 1) (j := l.length) (by omega)
    have ke : kp l (i + 1) = kp l i + (l.getD i kq0).2.length := rfl
    have hq : l.getD i kq0 ∈ l := by rw [getD_lt hi]; exact List.getElem_mem hi
    have hky := (hl _ hq).1
    have rb0 := rBr_ky hky
    simp only [s205_12]
    simp only [s205_13, s205_14, s205_17, s205_18, s205_19, s205_22, s205_23, s205_26, s205_27, s205_28, s205_29, Int.toNat_natCast, true_and, and_true, true_or, or_true, false_or, or_false, zwr_id, zpu_some, zpu_none, reduceIte, Int.reduceLE, Int.reduceLT, Int.reduceEq, Int.reduceNeg, Int.reduceAdd, Int.reduceSub, Int.reduceMul, Int.reduceToNat, Nat.reduceAdd, Nat.reduceLeDiff, Nat.reduceEqDiff, Nat.reduceLT, eq_self, ne_eq, not_false_eq_true, not_true_eq_false, t0, q34, mt349 ht, mn349 hn, b2, u1.1, n1, g2]
    have ad := fun (Q' : zQ) (W : List Int) (mm : zM) (hp : zMp mm) (hW : zAL mm 362 0 W) (h50 : mm 332 50 = (W.length : Int)) (hWl : W.length ≤ 200) (uu : rDu mm l J) kq => c_radd (Q := Q') (i := i) (a := kp l i) (ys := (l.getD i kq0).2) ht hn hp hW h50 (by omega) (by omega) (by omega) (uu.2.2.2.1 i (by omega)) (by rw [uu.2.2.2.1 (i + 1) (by omega)]; rfl) (fun j hj => uu.2.2.2.2 i j hi hj) kq
    refine ad _ _ m1 x1.1 g1 g2 (by omega) u1 (fun m2 a1 a2 a3 a4 => ?_)
    have g42 : rLf m m2 := rLf_tr g4 (rLf_o a3 (fun j q1 q2 => a4 j q1))
    have c51 : m2 332 51 = (rBr (bB (zPof D) l i) : Int) := by rw [a4 51 (by decide)]; exact g3
    have eB : bB (zPof D) l (i + 1) = bB (zPof D) l i ++ bPc (zPof D) l i := rfl
    rw [eB] at ih
    simp only [s205_32, zpu_none]
    simp only [s205_33]
    by_cases h0 : i = 0
    · rw [if_pos (by omega)]
      have eP : bPc (zPof D) l i = (l.getD i kq0).2 := if_pos (Or.inl h0)
      rw [eP] at ih
      simp only [s205_36, s205_104, s205_107, z1 iv]
      exact ih _ m2 ⟨a1, a2, by rw [c51, rBr_app, rb0]; rfl, g42⟩
    · rw [if_neg (by omega)]
      have x2 := rMx_Lf g42 hx
      have u2 := rDu_Lf (by omega) g42 hu
      have q49 : m2 332 49 = ((362 : Nat) : Int) := mp49 x2.1
      have WL : (bB (zPof D) l i ++ (l.getD i kq0).2).length ≤ 198 := by rw [List.length_append]; omega
      have sg : ∀ y ∈ bB (zPof D) l i ++ (l.getD i kq0).2, gSg D y = true := fun y hy => by
        rcases List.mem_append.mp hy with q | q
        · exact kyOk_sg2 hl y q
        · exact kyOk_sg hky y q
      have mk := fun Q' : zQ => fun kq => c_rmakes (Q := Q') (b := 1) (a := 362) (xs := bB (zPof D) l i ++ (l.getD i kq0).2) hD ht hn (by decide) x2 (by decide) (mt362 ht) (by rw [mn362 hn]; omega) a1 WL sg kq
      simp only [Int.cast_ofNat_Int] at mk
      simp only [s205_39, s205_40, s205_41, s205_42, s205_45, s205_46, s205_49, Int.toNat_natCast, true_and, and_true, true_or, or_true, false_or, or_false, zwr_id, zpu_some, zpu_none, reduceIte, Int.reduceLE, Int.reduceLT, Int.reduceEq, Int.reduceNeg, Int.reduceAdd, Int.reduceSub, Int.reduceMul, Int.reduceToNat, Nat.reduceAdd, Nat.reduceLeDiff, Nat.reduceEqDiff, Nat.reduceLT, eq_self, ne_eq, not_false_eq_true, not_true_eq_false, t0, q49, a2]
      refine mk _ (fun m3 c3 f3 => ?_)
      have g43 : rLf m m3 := rLf_tr g42 (rLf_b f3)
      have x3 := rMx_Lf g43 hx
      have u3 := rDu_Lf (by omega) g43 hu
      have kr := kRun_R (R := bB (zPof D) l i ++ (l.getD i kq0).2) hD sg
      have kl := (gI_len (R := bB (zPof D) l i ++ (l.getD i kq0).2) hD WL).1
      have du := fun Q' : zQ => r_due (Q := Q') (c := 2) (n := i + 1) ht hn x3.1 (by decide) c3.2.2.1.1 (rBC_of c3.2.2.1) u3.2.1 (by omega) (by omega) (fun x hx => (kr x hx).2.2.2.1)
      have tr : (msI (kRun (zPof D) (bB (zPof D) l i ++ (l.getD i kq0).2))).map cOf = (J.take (i + 1)).map cOf ↔ bAp (zPof D) (l.getD (i - 1) kq0) (l.getD i kq0) = true := by
        obtain ⟨i', rfl⟩ : ∃ i', i = i' + 1 := ⟨i - 1, by omega⟩
        rw [kRun_c (dOk_Pk hD), List.map_take, u3.2.2.1, ← List.map_take]
        exact bB_try hD hl hi
      rw [ite_iff tr] at du
      simp only [Int.cast_ofNat_Int] at du
      simp only [s205_52, s205_53, s205_54, s205_55, s205_56, s205_57, Int.toNat_natCast, true_and, and_true, true_or, or_true, false_or, or_false, zwr_id, zpu_some, zpu_none, reduceIte, Int.reduceLE, Int.reduceLT, Int.reduceEq, Int.reduceNeg, Int.reduceAdd, Int.reduceSub, Int.reduceMul, Int.reduceToNat, Nat.reduceAdd, Nat.reduceLeDiff, Nat.reduceEqDiff, Nat.reduceLT, eq_self, ne_eq, not_false_eq_true, not_true_eq_false, t0, z1 iv, du]
      simp only [s205_60]
      have d50 : m3 332 50 = ((bB (zPof D) l i ++ (l.getD i kq0).2).length : Int) := by rw [rBf_ob f3 (by decide) (by decide)]; exact a2
      have d51 : m3 332 51 = (rBr (bB (zPof D) l i) : Int) := by rw [rBf_ob f3 (by decide) (by decide)]; exact c51
      have dA : zAL m3 362 0 (bB (zPof D) l i ++ (l.getD i kq0).2) := zAL_eq (rBf_row f3 (by decide) (by decide)) a1
      by_cases hb : bAp (zPof D) (l.getD (i - 1) kq0) (l.getD i kq0) = true
      · rw [if_pos hb, if_neg (by decide)]
        have eP : bPc (zPof D) l i = (l.getD i kq0).2 := if_pos (Or.inr hb)
        rw [eP] at ih
        simp only [s205_104, s205_107, z1 iv]
        exact ih _ m3 ⟨dA, d50, by rw [d51, rBr_app, rb0]; rfl, g43⟩
      · rw [if_neg hb, if_pos rfl]
        have eP : bPc (zPof D) l i = 124 :: (l.getD i kq0).2 := if_neg (fun q => q.elim h0 hb)
        rw [eP] at ih
        have q49' : m3 332 49 = ((362 : Nat) : Int) := mp49 x3.1
        have hrW : 0 ≤ ((bB (zPof D) l i).length : Int) ∧ ((bB (zPof D) l i).length : Int) < ((400 : Nat) : Int) := by omega
        have rl := rBr_len (xs := bB (zPof D) l i)
        simp only [s205_63, s205_64, s205_65, s205_68, s205_69, s205_72, s205_73, s205_76, s205_78, s205_79, s205_80, s205_81, s205_84, s205_85, s205_86, s205_89, s205_90, s205_91, s205_94, s205_95, s205_96, s205_99, s205_100, s205_101, Int.toNat_natCast, true_and, and_true, true_or, or_true, false_or, or_false, zwr_id, zpu_some, zpu_none, reduceIte, Int.reduceLE, Int.reduceLT, Int.reduceEq, Int.reduceNeg, Int.reduceAdd, Int.reduceSub, Int.reduceMul, Int.reduceToNat, Nat.reduceAdd, Nat.reduceLeDiff, Nat.reduceEqDiff, Nat.reduceLT, eq_self, ne_eq, not_false_eq_true, not_true_eq_false, t0, q49', zup_same, zup_nk (show (49 : Nat) ≠ 50 by decide), zup_nk (show (51 : Nat) ≠ 50 by decide), zup_na (show (332 : Nat) ≠ 362 by decide), mt362 ht, mn362 hn, hrW, and_self, (show zwr (((bB (zPof D) l i).length : Int) + 1) = (((bB (zPof D) l i).length + 1 : Nat) : Int) from zwn (by omega) (by omega)), d51, (show zwr ((rBr (bB (zPof D) l i) : Int) + 1) = ((rBr (bB (zPof D) l i) + 1 : Nat) : Int) from zwn (by omega) (by omega))]
        have pre : zAL m3 362 0 (bB (zPof D) l i) := zAL_init dA
        have pu := zAL_push (x := 124) pre
        rw [Nat.zero_add] at pu
        let m4 := zup (zup (zup (zup m3 332 50 ((bB (zPof D) l i).length : Int)) 362 (bB (zPof D) l i).length 124) 332 50 (((bB (zPof D) l i).length + 1 : Nat) : Int)) 332 51 ((rBr (bB (zPof D) l i) + 1 : Nat) : Int)
        have e4 : ∀ c, c ≠ 332 → c ≠ 362 → m4 c = m3 c := fun c q1 q2 => by show zup (zup (zup (zup m3 332 50 _) 362 _ _) 332 50 _) 332 51 _ c = _; rw [zup_nf q1, zup_nf q1, zup_nf q2, zup_nf q1]
        have o4 : ∀ j, j ≠ 50 → j ≠ 51 → m4 332 j = m3 332 j := fun j q1 q2 => by show zup (zup (zup (zup m3 332 50 _) 362 _ _) 332 50 _) 332 51 _ 332 j = _; rw [zup_nk q2, zup_nk q1, zup_na (by decide), zup_nk q1]
        have g44 : rLf m m4 := rLf_tr g43 (rLf_o e4 o4)
        have x4 := rMx_Lf g44 hx
        have u4 := rDu_Lf (by omega) g44 hu
        have W4 : zAL m4 362 0 (bB (zPof D) l i ++ [124]) := by
          refine zAL_eq ?_ pu
          show zup (zup (zup (zup m3 332 50 _) 362 _ _) 332 50 _) 332 51 _ 362 = _
          rw [zup_nf (by decide), zup_nf (by decide)]
          funext j
          unfold zup
          by_cases z : (362 : Nat) = 362 ∧ j = (bB (zPof D) l i).length
          · rw [if_pos z, if_pos z]
          · rw [if_neg z, if_neg z, if_neg (fun q => absurd q.1 (by decide))]
        have e50 : m4 332 50 = ((bB (zPof D) l i ++ [124]).length : Int) := by show zup (zup (zup (zup m3 332 50 _) 362 _ _) 332 50 _) 332 51 _ 332 50 = _; rw [zup_nk (by decide), zup_same, List.length_append]; rfl
        have e51 : m4 332 51 = ((rBr (bB (zPof D) l i) + 1 : Nat) : Int) := zup_same
        change zwp 204 0 _ _ L m4 _
        refine ad _ _ m4 x4.1 W4 e50 (by rw [List.length_append]; show (bB (zPof D) l i).length + 1 ≤ 200; omega) u4 (fun m5 b1 b2 b3 b4 => ?_)
        simp only [s205_104, s205_107, zpu_none, z1 iv]
        have eW : bB (zPof D) l i ++ [124] ++ (l.getD i kq0).2 = bB (zPof D) l i ++ 124 :: (l.getD i kq0).2 := by rw [List.append_assoc]; rfl
        rw [eW] at b1 b2
        refine ih _ m5 ⟨b1, b2, ?_, rLf_tr g44 (rLf_o b3 (fun j q1 q2 => b4 j q1))⟩
        rw [b4 51 (by decide), e51, rBr_app, rBr_cons, rb0]
  · rintro v m1 ⟨g1, g2, g3, g4⟩
    have x1 := rMx_Lf g4 hx
    have u1 := rDu_Lf (by omega) g4 hu
    have n1 : (l.length : Int) ≤ (l.length : Int) := by omega
    have q34 : m1 332 34 = ((349 : Nat) : Int) := mp34 x1.1
    have b2 : (2 : Int) < ((3 : Nat) : Int) := by decide
    simp only [s205_12]
    simp only [s205_13, s205_14, s205_17, s205_18, s205_19, s205_110, Int.toNat_natCast, true_and, and_true, true_or, or_true, false_or, or_false, zwr_id, zpu_some, zpu_none, reduceIte, Int.reduceLE, Int.reduceLT, Int.reduceEq, Int.reduceNeg, Int.reduceAdd, Int.reduceSub, Int.reduceMul, Int.reduceToNat, Nat.reduceAdd, Nat.reduceLeDiff, Nat.reduceEqDiff, Nat.reduceLT, eq_self, ne_eq, not_false_eq_true, not_true_eq_false, t0, q34, mt349 ht, mn349 hn, b2, u1.1, n1]
    exact k m1 g1 g2 g3 g4
