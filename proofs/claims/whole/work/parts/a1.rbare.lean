/-! as many KEYS in ITEMS as in THE ROW -/
def sN (I : List zIt) : Int := (I.map itN).sum
theorem sN_app {I J : List zIt} : sN (I ++ J) = sN I + sN J := by unfold sN; rw [List.map_append, List.sum_append]
theorem sN_one {x : zIt} : sN [x] = itN x := by unfold sN; simp
theorem sN_join {s : zMS} {x x' : zIt} {role : Int} (hs : s.2.1 = some x) (hN : itN x' = itN x + 1) : sN (msI (kJoin s x' role)) = sN (msI s) + 1 := by
  rw [msI_some hs]
  show sN (s.1 ++ [x']) = _
  rw [sN_app, sN_app, sN_one, sN_one, hN]
  omega
theorem sN_new {s : zMS} {x : zIt} {role : Int} (hN : itN x = 1) : sN (msI (kNew s x role)) = sN (msI s) + 1 := by
  show sN (msI s ++ [x]) = _
  rw [sN_app, sN_one, hN]
theorem sN_alone {s : zMS} {x : zIt} (hN : itN x = 1) : sN (msI (kAlone s x)) = sN (msI s) + 1 := by
  show sN (msI s ++ [x] ++ []) = _
  rw [List.append_nil, sN_app, sN_one, hN]
theorem sN_fresh {P : zP} {c : Nat} {s : zMS} : sN (msI (kFresh P c s)) = sN (msI s) + 1 := by
  unfold kFresh
  split
  · exact sN_alone rfl
  · exact sN_new rfl
theorem sN_cons {P : zP} {c : Nat} {s : zMS} : sN (msI (kCons P c s)) = sN (msI s) + 1 := by
  unfold kCons
  cases hs : s.2.1 with
  | none => exact sN_fresh
  | some x =>
    dsimp only
    split
    · exact sN_fresh
    · (repeat' split) <;> first | exact sN_fresh | exact sN_join hs rfl
theorem sN_vow {P : zP} {v : Nat} {s : zMS} : sN (msI (kVow P v s)) = sN (msI s) + 1 := by
  unfold kVow
  cases hs : s.2.1 with
  | none => exact sN_new rfl
  | some x =>
    dsimp only
    split
    · exact sN_join hs rfl
    · split
      · split
        · exact sN_new rfl
        · rw [msI_some hs]
          show sN (s.1 ++ [(itL x, itM x, pCu P (itE x), itK x, itF x, itN x - 1)] ++ [(pLo P (pLa P (itE x)), pMo P v, -2, (pLa P (itE x) : Int), (s.2.2.1.length : Int) - 1, 2)]) = _
          rw [sN_app, sN_app, sN_app, sN_one, sN_one, sN_one]
          show sN s.1 + (itN x - 1) + 2 = sN s.1 + itN x + 1
          omega
      · split
        · exact sN_new rfl
        · exact sN_join hs rfl
theorem sN_brk {s : zMS} : sN (msI (kBreak s)) = sN (msI s) := by
  show sN (msI s ++ []) = _
  rw [List.append_nil]
theorem sN_run {D : zD} {R : List Int} (hR : ∀ x ∈ R, gSg D x = true) : ∀ i, i ≤ R.length → sN (msI (kRun (zPof D) (R.take i))) = (rKy (R.take i) : Int) := by
  intro i
  induction i with
  | zero => intro _; rw [List.take_zero]; rfl
  | succ i ih =>
    intro hi
    have hi : i < R.length := by omega
    rw [kRun_s hi, rKy_s hi]
    have ih := ih (by omega)
    by_cases e : R[i] = 124
    · rw [if_pos e, e, kSign_124, sN_brk, ih]; rfl
    · rw [if_neg e]
      obtain ⟨c, hc, e2, hs⟩ := gSg_key (hR _ (List.getElem_mem hi)) e
      rw [e2, kSign_key hc hs]
      have : ((rKy (R.take i) + 1 : Nat) : Int) = (rKy (R.take i) : Int) + 1 := by omega
      rw [this, ← ih]
      split
      · exact sN_alone rfl
      · split
        · exact sN_vow
        · exact sN_cons
theorem rKy_app {xs ys : List Int} : rKy (xs ++ ys) = rKy xs + rKy ys := List.countP_append
theorem rKy_ky {D : zD} {xs : List Int} (h : kyOk D xs) : rKy xs = xs.length := by
  unfold rKy
  rw [List.countP_eq_length]
  intro y hy
  obtain ⟨c, hc, rfl, -⟩ := h y hy
  rw [bne_iff_ne]
  unfold kk
  omega
theorem rKy_bB {D : zD} {l : List zKq} (hl : ∀ q ∈ l, kqOk D q) : ∀ i, i ≤ l.length → rKy (bB (zPof D) l i) = kp l i := by
  intro i
  induction i with
  | zero => intro _; rfl
  | succ i ih =>
    intro hi
    have e : bB (zPof D) l (i + 1) = bB (zPof D) l i ++ bPc (zPof D) l i := rfl
    have hq : l.getD i kq0 ∈ l := by rw [getD_lt (show i < l.length by omega)]; exact List.getElem_mem _
    have hk := rKy_ky (hl _ hq).1
    rw [e, rKy_app, ih (by omega)]
    show _ = kp l i + (l.getD i kq0).2.length
    congr 1
    unfold bPc
    split
    · exact hk
    · rw [← hk]
      show (List.countP _ (124 :: _)) = _
      rw [List.countP_cons_of_neg (by decide)]
      rfl
theorem kp_sN {D : zD} {R : List Int} {I : List zIt} (hI : ∀ x ∈ I, itOk D R x) : ∀ i, i ≤ I.length → (kp (cks R I) i : Int) = sN (I.take i) := by
  intro i
  induction i with
  | zero => intro _; rw [List.take_zero]; rfl
  | succ i ih =>
    intro hi
    have hi' : i < I.length := by omega
    rw [take_s hi', sN_app, sN_one, ← ih (by omega)]
    show ((kp (cks R I) i + ((cks R I).getD i kq0).2.length : Nat) : Int) = _
    rw [cks_g2 hi', ← kys_len (hI _ (List.getElem_mem hi'))]
    omega
/-- the bare row has THE ROW's KEYS -/
theorem gBare_ky {D : zD} {R : List Int} (hD : dOk D) (hR : ∀ x ∈ R, gSg D x = true) : rKy (gBare D R) = rKy R := by
  have kI := kRun_I hD hR
  have h1 := rKy_bB (cks_ok kI.1 hR) (msI (kRun (zPof D) R)).length (by rw [cks_len]; exact Nat.le_refl _)
  have h2 := kp_sN kI.1 (msI (kRun (zPof D) R)).length (Nat.le_refl _)
  have h3 := sN_run hR R.length (Nat.le_refl _)
  rw [List.take_length] at h2 h3
  unfold gBare
  rw [h1]
  omega
theorem rKy_take {R : List Int} {c : Nat} : rKy (R.take c) ≤ rKy R := by
  have : rKy R = rKy (R.take c) + rKy (R.drop c) := by rw [← rKy_app, List.take_append_drop]
  omega
/-- dueFromRow(), laysBare() -/
theorem c_rdb {L : zY} {m : zM} {Q : zQ} {g : zG} {D : zD} (ht : zMt L) (hn : zMn L) (hg : gOk g) (h : rSt m g) (hd : gD g = some D) (k : ∀ m1, (∀ Q2 : zQ, (∀ m', rSt m' g → zAL m' 362 0 (gBare D (gR g)) → m' 332 50 = ((gBare D (gR g)).length : Int) → m' 332 51 = (rBr (gBare D (gR g)) : Int) → zFR 332 370 m m' → Q2 none L m') → zwp 205 0 [zA 332, zU, zU] [] L m1 Q2) → Q none L m1) : zwp 203 0 [zA 332, zU, zU, zU] [] L m Q := by
  obtain ⟨d1, d2, d3, d4, d5, d6, d7, ⟨d8, d9, d10⟩, d11, d12, d13, eI⟩ := rs_D hg h hd
  have kI := kRun_I d1 d3
  have kpb := kp_row d1 d3
  refine c_rdue (I := msI (gI g)) ht hn d1 d3 d4 (by rw [eI]) h.1 h.2.2.2.2.2.1.1 d8 (fun m1 u1 f1 => ?_)
  refine k m1 (fun Q2 k2 => ?_)
  have cl : (cks (gR g) (msI (gI g))).length = (msI (gI g)).length := cks_len
  refine c_rlbare (l := cks (gR g) (msI (gI g))) (J := msI (gI g)) ht hn d1 (cks_ok (by rw [eI]; exact kI.1) d3) (rMx_Qf f1 ⟨h.1, d6, d7⟩) u1 (by rw [cl, eI]; omega) (by rw [cl]; omega) (fun m2 a1 a2 a3 f2 => ?_)
  have eG : bB (zPof D) (cks (gR g) (msI (gI g))) (cks (gR g) (msI (gI g))).length = gBare D (gR g) := by rw [cl, eI]; rfl
  rw [eG] at a1 a2 a3
  exact k2 m2 (rSt_sf hg (rSf_tr (rQf_Sf f1) (rLf_Sf f2)) h) a1 a2 a3 (zFR_tr (rQf_FR f1) (rLf_FR f2))
theorem c_rbareP {L : zY} {m : zM} {Q : zQ} {g : zG} (ht : zMt L) (hn : zMn L) (hg : gOk g) (h : rSt m g) (k : ∀ m', rSt m' (sBare g).2 → zFR 332 370 m m' → Q (some (zI (sBare g).1)) L m') : zwp 239 0 [zA 332] [] L m Q := by
  have t0 := mt332 ht
  cases hd : gD g with
  | none =>
    have e : sBare g = gN g 1 := by unfold sBare; rw [hd]
    rw [e] at k
    simp only [s239_0, s239_1, s239_2, s239_5, s239_8, s239_11, s239_14, s239_15, Int.toNat_natCast, true_and, and_true, true_or, or_true, false_or, or_false, zwr_id, zpu_some, zpu_none, reduceIte, Int.reduceLE, Int.reduceLT, Int.reduceEq, Int.reduceNeg, Int.reduceAdd, Int.reduceSub, Int.reduceMul, Int.reduceToNat, Nat.reduceAdd, Nat.reduceLeDiff, Nat.reduceEqDiff, Nat.reduceLT, eq_self, ne_eq, not_false_eq_true, not_true_eq_false, t0, (rSt_6 h).1 hd, r_unl, r_ref t0]
    exact k _ (rSt_ran hg h) zFR_ran
  | some D =>
    have e : sBare g = gA g (rBr (gBare D (gR g)) : Nat) := by unfold sBare; rw [hd]
    rw [e] at k
    have h1 := rSt_ran (why := 0) hg h
    simp only [s239_0, s239_1, s239_2, s239_5, s239_8, s239_11, s239_14, s239_15, s239_16, s239_17, Int.toNat_natCast, true_and, and_true, true_or, or_true, false_or, or_false, zwr_id, zpu_some, zpu_none, reduceIte, Int.reduceLE, Int.reduceLT, Int.reduceEq, Int.reduceNeg, Int.reduceAdd, Int.reduceSub, Int.reduceMul, Int.reduceToNat, Nat.reduceAdd, Nat.reduceLeDiff, Nat.reduceEqDiff, Nat.reduceLT, eq_self, ne_eq, not_false_eq_true, not_true_eq_false, t0, (rSt_6 h).2 D hd, r_unl, r_ref t0]
    refine c_rdb ht hn (gOk_w (f := g.2.2.2.2.2.1) (p := -1) (q := 0) hg) h1 hd (fun m1 lb => ?_)
    simp only [s239_20, s239_21, zpu_none, true_and, t0]
    refine lb _ (fun m2 h2 a1 a2 a3 f2 => ?_)
    have a3 : m2 332 51 = (rBr (gBare D (gR g)) : Int) := a3
    simp only [s239_24, s239_25, s239_28, zpu_none, true_and, t0, a3]
    exact k m2 h2 (zFR_tr zFR_ran f2)
