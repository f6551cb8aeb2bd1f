/-! the class's told where it throws -/
abbrev zNS : String := "java/util/NoSuchElementException"
section ZT2
variable {E : zE} {D : va_G} {cA : Nat → ClassId} {H0 : Heap} {scr : Cell} {L : zY} {m : zM} {H : Heap}
theorem zhr_garb (hh : zhr E D cA H0 scr L m H) {H1 : Heap} (hsz : H1.size = H.size + 1) (hk : ∀ q : Nat, q < H.size → H1[q]? = H[q]?) : zhr E D cA H0 scr (L.1, (L.2.1 + 1, L.2.2 + 6)) m H1 := by
  obtain ⟨a1, a2, a3, a4, a5, a6, a7⟩ := hh
  refine ⟨a1, a2, a3, a4, ?_, fun q hq => ?_, fun a t N ha hl => ?_⟩
  · show H1.size = E.1 + (L.1.length - 2) + (L.2.1 + 1)
    rw [hsz, a5]; omega
  · rw [hk q (by omega)]; exact a6 q hq
  · have hlt : a < L.1.length := (List.getElem?_eq_some_iff.mp hl).1
    obtain ⟨z1, z2⟩ := a7 a t N ha hl
    have hq : E.1 + (a - 2) < H.size := by omega
    refine ⟨z1, ?_⟩
    rcases z2 with ⟨b1, b2, b3, b4, cell, b5, b6⟩ | ⟨b1, b2, b3, b4⟩
    · exact Or.inl ⟨b1, b2, b3, b4, cell, by rw [hk _ hq]; exact b5, b6⟩
    · exact Or.inr ⟨b1, b2, b3, by rw [hk _ hq]; exact b4⟩
/-- what a throw asks of the state beside zK -/
def yyX (E : zE) (H0 : Heap) (U : State) : Prop := (va_Nw (.castable zNS zNS) U ∧ va_Nw (.declares (Bundle.init0 "java/lang/RuntimeException")) U ∧ va_Nw (.declares (Bundle.init0 "java/lang/Exception")) U ∧ va_Nw (.declares (Bundle.init0 Bundle.tN)) U) ∧ vx_Zq Bundle.tN "UNASSIGNED_STACK" Bundle.steD (fun q => E.1 ≤ q) U H0 ∧ vx_Zq Bundle.tN "SUPPRESSED_SENTINEL" Bundle.listD (fun q => E.1 ≤ q) U H0
theorem yyX.warm {s U : State} (hW : s.WarmedH U.vm) (h : yyX E H0 s) : yyX E H0 U := ⟨⟨va_Nw.warmC hW h.1.1, va_Nw.warmD hW h.1.2.1, va_Nw.warmD hW h.1.2.2.1, va_Nw.warmD hW h.1.2.2.2⟩, vx_Zq.moved hW.alike h.2.1, vx_Zq.moved hW.alike h.2.2⟩
def yyPc (E : zE) (D : va_G) (cA : Nat → ClassId) (H0 : Heap) (scr : Cell) (L : zY) (m : zM) (as : List Value) : Array Value → State → Prop := fun v U => zPc E D cA H0 scr L m as v U ∧ yyX E H0 U
theorem yyPc_blind {as : List Value} : FrameBlind (yyPc E D cA H0 scr L m as) := fun a U g mk h => ⟨zPc_blind a U g mk h.1, yyX.warm (s := U) (State.WarmedH.refl U) h.2⟩
end ZT2
/-! steps by name -/
section ZT3
variable {ci rk fr lo n pc : Nat} {ls st : List zV} {L : zY} {m : zM} {mi : Nat}
theorem yg_a {k t f a : Nat} (hf : zlk zfld (zkey ci k) = some (t, f, 3)) (h : zt L a = t) : zex ci rk fr lo (.getfield k) n pc ls (zA a :: st) L m = some (.inl (pc + n, ls, zA (m a f).toNat :: st, L, m)) := by
  show (match zlk zfld (zkey ci k) with | some f => _ | none => none) = _
  rw [hf]
  show (if zt L a = t then _ else _) = _
  rw [if_pos h]
  rfl
theorem yg_z {k t f a : Nat} (hf : zlk zfld (zkey ci k) = some (t, f, 1)) (h : zt L a = t) : zex ci rk fr lo (.getfield k) n pc ls (zA a :: st) L m = some (.inl (pc + n, ls, zI (m a f) :: st, L, m)) := by
  show (match zlk zfld (zkey ci k) with | some f => _ | none => none) = _
  rw [hf]
  show (if zt L a = t then _ else _) = _
  rw [if_pos h]
  rfl
theorem yg_j {cd : Jvm.ClassFile.Cond} {off : Int} {pc' : Nat} {x : Int} (h : (pc : Int) + off = (pc' : Int)) (hc : zcd cd x 0 = true) : zex ci rk fr lo (.ifCond cd off) n pc ls (zI x :: st) L m = some (.inl (pc', ls, st, L, m)) := by
  show (bif zcd cd x 0 then zjmp pc off ls st L m else _) = _
  rw [hc]
  exact zjmp_eq h
theorem yg_f {cd : Jvm.ClassFile.Cond} {off : Int} {x : Int} (hc : zcd cd x 0 = false) : zex ci rk fr lo (.ifCond cd off) n pc ls (zI x :: st) L m = some (.inl (pc + n, ls, st, L, m)) := by
  show (bif zcd cd x 0 then _ else _) = _
  rw [hc]
  rfl
theorem yg_n0 {off : Int} {pc' a : Nat} (h : (pc : Int) + off = (pc' : Int)) (ha : a = 0) : zex ci rk fr lo (.ifnull off) n pc ls (zA a :: st) L m = some (.inl (pc', ls, st, L, m)) := by
  show (if a = 0 then zjmp pc off ls st L m else _) = _
  rw [if_pos ha]
  exact zjmp_eq h
theorem yg_n1 {off : Int} {a : Nat} (ha : a ≠ 0) : zex ci rk fr lo (.ifnull off) n pc ls (zA a :: st) L m = some (.inl (pc + n, ls, st, L, m)) := by
  show (if a = 0 then _ else _) = _
  rw [if_neg ha]
  rfl
theorem yg_c {k na idx a : Nat} {t : List zV} (hi : zins mi pc = some (.invokevirtual idx, n)) (hc : zlk zcal (zkey (zcl mi) idx) = some (k, na, 0)) (hf : zfr k + 1 ≤ zfr mi ∧ 8 + (zmx k + 11) + zlo k ≤ zlo mi) (hs : na ≤ st.length ∧ zsum (st.drop na) ≤ 8 ∧ zsum (st.take na) ≤ zmx k) (ha : (st.take na).reverse = .inr (.inr (.inl a)) :: t) (ht : zt L a = zcl k + 1) :
    zstep mi pc ls st L m = some (.inr (.inl (k, zA a :: t, st.drop na, pc + n))) := by
  refine (zstep_eq hi).trans ?_
  show (match zlk zcal (zkey (zcl mi) idx) with | some (q, a, 0) => _ | some (q, a, 4) => _ | _ => _) = _
  rw [hc]
  show zcall _ _ _ _ _ _ _ _ = _
  simp only [zcall]
  rw [if_pos ⟨hf.1, hf.2, hs.1, hs.2.1, hs.2.2⟩, ha]
  exact if_pos ht
end ZT3
def yyQ (m : zM) (c : Nat) (x : Int) : Nat := if x = 0 then (m c 1).toNat else if x = 1 then (m c 2).toNat else if x = 2 then (m c 3).toNat else 0
theorem yy_toldOf {L : zY} {m : zM} {c : Nat} {x : Int} (hc : zt L c = 6) : ∃ n, zev n 56 0 (zent (zmx 56) [zA c, zI x]) [] L m = some (some (zA (yyQ m c x)), L, m) := by
  have h : zwp 56 0 [zA c, zI x] [] L m (fun r L' m' => r = some (zA (yyQ m c x)) ∧ L' = L ∧ m' = m) := by
    unfold yyQ
    by_cases h0 : x = 0
    · simp only [s56_0, s56_1, s56_28, s56_29, s56_32, s56_33, s56_34, s56_37, s56_38, s56_39, s56_42, s56_43, s56_44, hc, h0, Int.toNat_natCast, true_and, and_true, true_or, or_true, false_or, or_false, zwr_id, zpu_some, zpu_none, reduceIte, Int.reduceLE, Int.reduceLT, Int.reduceEq, Int.reduceNeg, Int.reduceAdd, Int.reduceSub, Int.reduceMul, Int.reduceToNat, Nat.reduceAdd, Nat.reduceLeDiff, Nat.reduceEqDiff, Nat.reduceLT, eq_self, ne_eq, not_false_eq_true, not_true_eq_false]
    · by_cases h1 : x = 1
      · simp only [s56_0, s56_1, s56_28, s56_29, s56_32, s56_33, s56_34, s56_37, s56_38, s56_39, s56_42, s56_43, s56_44, hc, h1, Int.toNat_natCast, true_and, and_true, true_or, or_true, false_or, or_false, zwr_id, zpu_some, zpu_none, reduceIte, Int.reduceLE, Int.reduceLT, Int.reduceEq, Int.reduceNeg, Int.reduceAdd, Int.reduceSub, Int.reduceMul, Int.reduceToNat, Nat.reduceAdd, Nat.reduceLeDiff, Nat.reduceEqDiff, Nat.reduceLT, eq_self, ne_eq, not_false_eq_true, not_true_eq_false]
      · by_cases h2 : x = 2
        · simp only [s56_0, s56_1, s56_28, s56_29, s56_32, s56_33, s56_34, s56_37, s56_38, s56_39, s56_42, s56_43, s56_44, hc, h2, Int.toNat_natCast, true_and, and_true, true_or, or_true, false_or, or_false, zwr_id, zpu_some, zpu_none, reduceIte, Int.reduceLE, Int.reduceLT, Int.reduceEq, Int.reduceNeg, Int.reduceAdd, Int.reduceSub, Int.reduceMul, Int.reduceToNat, Nat.reduceAdd, Nat.reduceLeDiff, Nat.reduceEqDiff, Nat.reduceLT, eq_self, ne_eq, not_false_eq_true, not_true_eq_false]
        · simp only [s56_0, s56_1, s56_28, s56_29, s56_32, s56_33, s56_34, s56_37, s56_38, s56_39, s56_42, s56_43, s56_44, hc, if_neg h0, if_neg h1, if_neg h2, Int.toNat_natCast, true_and, and_true, true_or, or_true, false_or, or_false, zwr_id, zpu_some, zpu_none, reduceIte, Int.reduceLE, Int.reduceLT, Int.reduceEq, Int.reduceNeg, Int.reduceAdd, Int.reduceSub, Int.reduceMul, Int.reduceToNat, Nat.reduceAdd, Nat.reduceLeDiff, Nat.reduceEqDiff, Nat.reduceLT, eq_self, ne_eq, not_false_eq_true, not_true_eq_false]
  obtain ⟨n, r, L', m', h1, rfl, rfl, rfl⟩ := h
  exact ⟨n, h1⟩
theorem yy_has {L : zY} {m : zM} {q : Nat} {y : Int} (hq : zt L q = 2) (hn : ¬ (0 ≤ y ∧ y < m q 1)) : ∃ n, zev n 8 0 (zent (zmx 8) [zA q, zI y]) [] L m = some (some (zI 0), L, m) := by
  have h : zwp 8 0 [zA q, zI y] [] L m (fun r L' m' => r = some (zI 0) ∧ L' = L ∧ m' = m) := by
    by_cases h0 : y < 0
    · simp only [s8_0, s8_1, s8_4, s8_5, s8_6, s8_9, s8_12, s8_13, s8_16, s8_17, hq, if_pos h0, Int.toNat_natCast, true_and, and_true, true_or, or_true, false_or, or_false, zwr_id, zpu_some, zpu_none, reduceIte, Int.reduceLE, Int.reduceLT, Int.reduceEq, Int.reduceNeg, Int.reduceAdd, Int.reduceSub, Int.reduceMul, Int.reduceToNat, Nat.reduceAdd, Nat.reduceLeDiff, Nat.reduceEqDiff, Nat.reduceLT, eq_self, ne_eq, not_false_eq_true, not_true_eq_false]
    · have h1 : m q 1 ≤ y := by omega
      simp only [s8_0, s8_1, s8_4, s8_5, s8_6, s8_9, s8_12, s8_13, s8_16, s8_17, hq, if_neg h0, if_pos h1, Int.toNat_natCast, true_and, and_true, true_or, or_true, false_or, or_false, zwr_id, zpu_some, zpu_none, reduceIte, Int.reduceLE, Int.reduceLT, Int.reduceEq, Int.reduceNeg, Int.reduceAdd, Int.reduceSub, Int.reduceMul, Int.reduceToNat, Nat.reduceAdd, Nat.reduceLeDiff, Nat.reduceEqDiff, Nat.reduceLT, eq_self, ne_eq, not_false_eq_true, not_true_eq_false]
  obtain ⟨n, r, L', m', h1, rfl, rfl, rfl⟩ := h
  exact ⟨n, h1⟩
section ZT4
variable {p : Program} {l : Launch} {e : Env} {R : Room} {s : State} {mt : MethodId} {args : Array Value} {below : List Frame} {meth : Method} {c : Code} {Q : State → Prop} {E : zE} {D : va_G} {cA : Nat → ClassId} {H0 : Heap} {scr : Cell} {L : zY} {m : zM}
/-- the class's told comes to its throw -/
theorem yy_run {a : Nat} {x y : Int} (C : yyC p R s mt meth c E D cA H0 scr 153) (ha : zt L a = 10) (hc : zt L (m a 9).toNat = 6) (hb : m a 11 = 0 ∨ m a 11 = 1) (hq : 0 ≤ x → x ≤ 2 → zt L (yyQ m (m a 9).toNat x) = 2) (hno : ¬ (m a 11 = 1 ∧ 0 ≤ x ∧ x ≤ 2 ∧ 0 ≤ y ∧ y < m (yyQ m (m a 9).toNat x) 1))
    (k28 : ∀ q, yyW p l e R s mt args below meth c Q E D cA H0 scr 153 L m 28 [zA a, zI x, zI y, zA q] []) : yyW p l e R s mt args below meth c Q E D cA H0 scr 153 L m 0 [zA a, zI x, zI y, zU] [] := by
  refine yy_step C (pc1 := 1) (ls1 := [zA a, zI x, zI y, zU]) (st1 := [zA a]) ((zstep_eq (i := .aload_n 0) (n := 1) (by decide +kernel)).trans rfl) ?_
  refine yy_step C (pc1 := 4) (ls1 := [zA a, zI x, zI y, zU]) (st1 := [zA (m a 9).toNat]) ((zstep_eq (i := .getfield 62) (n := 3) (by decide +kernel)).trans (yg_a (t := 10) (f := 9) (by decide +kernel) ha)) ?_
  refine yy_step C (pc1 := 5) (ls1 := [zA a, zI x, zI y, zU]) (st1 := [zI x, zA (m a 9).toNat]) ((zstep_eq (i := .iload_n 1) (n := 1) (by decide +kernel)).trans rfl) ?_
  obtain ⟨n1, e1⟩ := yy_toldOf (m := m) (x := x) hc
  refine yy_call C (pc1 := 8) (k := 56) (as := [zA (m a 9).toNat, zI x]) (st1 := []) (yg_c (n := 3) (idx := 330) (k := 56) (na := 2) (st := [zI x, zA (m a 9).toNat]) (a := (m a 9).toNat) (t := [zI x]) (by decide +kernel) (by decide +kernel) (by decide +kernel) ⟨Nat.le_of_ble_eq_true rfl, Nat.le_of_ble_eq_true rfl, Nat.le_of_ble_eq_true rfl⟩ rfl hc) e1 ?_
  generalize hqv : yyQ m (m a 9).toNat x = q at *
  refine yy_step C (pc1 := 9) (ls1 := [zA a, zI x, zI y, zA q]) (st1 := []) ((zstep_eq (i := .astore_n 3) (n := 1) (by decide +kernel)).trans rfl) ?_
  refine yy_step C (pc1 := 10) (ls1 := [zA a, zI x, zI y, zA q]) (st1 := [zA a]) ((zstep_eq (i := .aload_n 0) (n := 1) (by decide +kernel)).trans rfl) ?_
  refine yy_step C (pc1 := 13) (ls1 := [zA a, zI x, zI y, zA q]) (st1 := [zI (m a 11)]) ((zstep_eq (i := .getfield 69) (n := 3) (by decide +kernel)).trans (yg_z (t := 10) (f := 11) (by decide +kernel) ha)) ?_
  rcases hb with h0 | h1
  · exact yy_step C (pc1 := 28) (ls1 := [zA a, zI x, zI y, zA q]) (st1 := []) ((zstep_eq (i := .ifCond .eq 15) (n := 3) (by decide +kernel)).trans (yg_j (by decide) (by rw [h0]; rfl))) (k28 q)
  refine yy_step C (pc1 := 16) (ls1 := [zA a, zI x, zI y, zA q]) (st1 := []) ((zstep_eq (i := .ifCond .eq 15) (n := 3) (by decide +kernel)).trans (yg_f (by rw [h1]; rfl))) ?_
  refine yy_step C (pc1 := 17) (ls1 := [zA a, zI x, zI y, zA q]) (st1 := [zA q]) ((zstep_eq (i := .aload_n 3) (n := 1) (by decide +kernel)).trans rfl) ?_
  by_cases hq0 : q = 0
  · exact yy_step C (pc1 := 28) (ls1 := [zA a, zI x, zI y, zA q]) (st1 := []) ((zstep_eq (i := .ifnull 11) (n := 3) (by decide +kernel)).trans (yg_n0 (by decide) hq0)) (k28 q)
  have hx : 0 ≤ x ∧ x ≤ 2 := by
    by_cases h0 : x = 0
    · omega
    · by_cases h1 : x = 1
      · omega
      · by_cases h2 : x = 2
        · omega
        · exact absurd (by rw [← hqv]; unfold yyQ; rw [if_neg h0, if_neg h1, if_neg h2]) hq0
  have hq2 := hq hx.1 hx.2
  refine yy_step C (pc1 := 20) (ls1 := [zA a, zI x, zI y, zA q]) (st1 := []) ((zstep_eq (i := .ifnull 11) (n := 3) (by decide +kernel)).trans (yg_n1 hq0)) ?_
  refine yy_step C (pc1 := 21) (ls1 := [zA a, zI x, zI y, zA q]) (st1 := [zA q]) ((zstep_eq (i := .aload_n 3) (n := 1) (by decide +kernel)).trans rfl) ?_
  refine yy_step C (pc1 := 22) (ls1 := [zA a, zI x, zI y, zA q]) (st1 := [zI y, zA q]) ((zstep_eq (i := .iload_n 2) (n := 1) (by decide +kernel)).trans rfl) ?_
  obtain ⟨n2, e2⟩ := yy_has (y := y) hq2 (fun h => hno ⟨h1, hx.1, hx.2, h.1, h.2⟩)
  refine yy_call C (pc1 := 25) (k := 8) (as := [zA q, zI y]) (st1 := []) (yg_c (n := 3) (idx := 334) (k := 8) (na := 2) (st := [zI y, zA q]) (a := q) (t := [zI y]) (by decide +kernel) (by decide +kernel) (by decide +kernel) ⟨Nat.le_of_ble_eq_true rfl, Nat.le_of_ble_eq_true rfl, Nat.le_of_ble_eq_true rfl⟩ rfl hq2) e2 ?_
  exact yy_step C (pc1 := 28) (ls1 := [zA a, zI x, zI y, zA q]) (st1 := []) ((zstep_eq (i := .ifCond .ne 11) (n := 3) (by decide +kernel)).trans (yg_f (by rfl))) (k28 q)
end ZT4
