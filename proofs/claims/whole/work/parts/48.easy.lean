/-! answers -/
def gA (g : zG) (r : Int) : Int × zG := (r, (g.1, g.2.1, g.2.2.1, g.2.2.2.1, g.2.2.2.2.1, g.2.2.2.2.2.1, -1, 0))
def gN (g : zG) (why : Int) : Int × zG := (-1, (g.1, g.2.1, g.2.2.1, g.2.2.2.1, g.2.2.2.2.1, g.2.2.2.2.2.1, -1, why))
def gT (g : zG) : List Int := g.1
def gD (g : zG) : Option zD := g.2.1
def gR (g : zG) : List Int := g.2.2.1
def gC (g : zG) : Nat := g.2.2.2.1
def gH (g : zG) : zHs := g.2.2.2.2.1
theorem zCI_ans {L : zY} {m : zM} {g : zG} {q' : Int} (h : zCI L m g) : zCI L (zup (zup m 2 14 q') 2 13 (-1)) (g.1, g.2.1, g.2.2.1, g.2.2.2.1, g.2.2.2.2.1, g.2.2.2.2.2.1, -1, q') := by
  obtain ⟨T, od, R, C, H, f, p, q⟩ := g
  obtain ⟨sc, sp, hO, hB⟩ := h
  exact ⟨sc, sp, zCO_ans hO, zCB_ans hB⟩
theorem zFR_ans {m : zM} {q : Int} : zFR 2 331 m (zup (zup m 2 14 q) 2 13 (-1)) := zFR_up (zFR_up zFR_rf (by decide) (by decide)) (by decide) (by decide)
theorem zCB_T {L : zY} {m m' : zM} {T T' : List Int} {od : Option zD} {R : List Int} {C : Nat} {H : zHs} {sc sp : Nat} (h : ∀ a, a ≠ 2 → a ≠ 4 → a ≠ 5 → m' a = m a) (hT : zTp L m' 4 T') (hh : zCB L m T od R C H sc sp) : zCB L m' T' od R C H sc sp := by
  obtain ⟨h1, h2, ⟨ov, h3⟩, ⟨r, c, o, h4⟩, h5, h6, h7, h8, h9, h10⟩ := hh
  exact ⟨hT, by rw [h 3 (by decide) (by decide) (by decide)]; exact h2, ⟨ov, zRw_eq (h _ (by decide) (by decide) (by decide)) (h _ (by decide) (by decide) (by decide)) h3⟩, ⟨r, c, o, zRw_eq (h _ (by decide) (by decide) (by decide)) (h _ (by decide) (by decide) (by decide)) h4⟩, zRC_eq (fun a p q => h a (by omega) (by omega) (by omega)) h5, zRL_eq (fun k _ => by rw [h 20 (by decide) (by decide) (by decide)]) h6, zHi_eq (fun a p q => h a (by omega) (by omega) (by omega)) h7, zTl_eq (fun a p q => h a (by omega) (by omega) (by omega)) h8, h9, zScs_eq (fun a p q => h a (by omega) (by omega) (by omega)) h10⟩
theorem zCO_eq {L : zY} {m m' : zM} {od : Option zD} {f p q : Int} {sc sp : Nat} (h : m' 2 = m 2) (hh : zCO L m od f p q sc sp) : zCO L m' od f p q sc sp := by unfold zCO; rw [h]; exact hh
/-! feed, fault, where, size, trouble -/
def sFeed (g : zG) (a b c d e : Int) : Int × zG := if 280 < (gT g).length then (-1, g) else ((((gT g).length + 20 : Nat) : Int), (gT g ++ zby a ++ zby b ++ zby c ++ zby d ++ zby e, g.2))
theorem c_feed {L : zY} {m : zM} {Q : zQ} {g : zG} {a b c d e : Int} (h : zCI L m g) (k : ∀ m', zCI L m' (sFeed g a b c d e).2 → zFR 2 331 m m' → Q (some (zI (sFeed g a b c d e).1)) L m') : zwp 109 0 [zA 2, zI a, zI b, zI c, zI d, zI e] [] L m Q := by
  have h' := h
  obtain ⟨T, od, R, C, H, f, p, q⟩ := g
  obtain ⟨sc, sp, hO, hB⟩ := h'
  have a1 := hO.1
  have b0 := hO.2.1.1
  have hT := hB.1
  have t3 := hT.1
  have n3 := hT.2.2.2.2.2.1
  have hl := hT.2.2.2.2.2.2.1
  by_cases hb : 280 < T.length
  · have e1 : sFeed (T, od, R, C, H, f, p, q) a b c d e = (-1, (T, od, R, C, H, f, p, q)) := if_pos hb
    rw [e1] at k
    simp only [s109_0, s109_1, s109_4, s109_7, s109_9, s109_10, s109_13, s109_16, s109_17, Int.toNat_natCast, true_and, and_true, true_or, or_true, false_or, or_false, zwr_id, zpu_some, zpu_none, reduceIte, Int.reduceLE, Int.reduceLT, Int.reduceEq, Int.reduceNeg, Int.reduceAdd, Int.reduceSub, Int.reduceMul, Int.reduceToNat, Nat.reduceAdd, Nat.reduceLeDiff, Nat.reduceEqDiff, Nat.reduceLT, eq_self, ne_eq, not_false_eq_true, not_true_eq_false, a1, b0, t3, n3, (show zwr ((T.length : Int) + 20) = (T.length : Int) + 20 from zwr_id (by omega) (by omega))]
    rw [if_neg (by omega)]
    exact k m h zFR_rf
  · have e1 : sFeed (T, od, R, C, H, f, p, q) a b c d e = (((T.length + 20 : Nat) : Int), (T ++ zby a ++ zby b ++ zby c ++ zby d ++ zby e, od, R, C, H, f, p, q)) := if_neg hb
    rw [e1] at k
    simp only [s109_0, s109_1, s109_4, s109_7, s109_9, s109_10, s109_13, s109_16, s109_17, s109_18, s109_19, s109_22, s109_23, Int.toNat_natCast, true_and, and_true, true_or, or_true, false_or, or_false, zwr_id, zpu_some, zpu_none, reduceIte, Int.reduceLE, Int.reduceLT, Int.reduceEq, Int.reduceNeg, Int.reduceAdd, Int.reduceSub, Int.reduceMul, Int.reduceToNat, Nat.reduceAdd, Nat.reduceLeDiff, Nat.reduceEqDiff, Nat.reduceLT, eq_self, ne_eq, not_false_eq_true, not_true_eq_false, a1, b0, t3, n3, (show zwr ((T.length : Int) + 20) = (T.length : Int) + 20 from zwr_id (by omega) (by omega))]
    rw [if_pos (by omega)]
    have l4 : ∀ v, (zby v).length = 4 := fun v => rfl
    refine c_tapp hT (by omega) (fun m1 g1 f1 => ?_)
    have b0' : m1 2 1 = 4 := by rw [zFR_at f1 (by decide)]; exact b0
    simp only [s109_26, s109_27, s109_30, s109_31, Int.toNat_natCast, true_and, and_true, true_or, or_true, false_or, or_false, zwr_id, zpu_some, zpu_none, reduceIte, Int.reduceLE, Int.reduceLT, Int.reduceEq, Int.reduceNeg, Int.reduceAdd, Int.reduceSub, Int.reduceMul, Int.reduceToNat, Nat.reduceAdd, Nat.reduceLeDiff, Nat.reduceEqDiff, Nat.reduceLT, eq_self, ne_eq, not_false_eq_true, not_true_eq_false, a1, b0', t3]
    refine c_tapp g1 (by rw [List.length_append, l4]; omega) (fun m2 g2 f2 => ?_)
    have b0' : m2 2 1 = 4 := by rw [zFR_at f2 (by decide)]; exact b0'
    simp only [s109_34, s109_35, s109_38, s109_39, Int.toNat_natCast, true_and, and_true, true_or, or_true, false_or, or_false, zwr_id, zpu_some, zpu_none, reduceIte, Int.reduceLE, Int.reduceLT, Int.reduceEq, Int.reduceNeg, Int.reduceAdd, Int.reduceSub, Int.reduceMul, Int.reduceToNat, Nat.reduceAdd, Nat.reduceLeDiff, Nat.reduceEqDiff, Nat.reduceLT, eq_self, ne_eq, not_false_eq_true, not_true_eq_false, a1, b0', t3]
    refine c_tapp g2 (by rw [List.length_append, List.length_append, l4, l4]; omega) (fun m3 g3 f3 => ?_)
    have b0' : m3 2 1 = 4 := by rw [zFR_at f3 (by decide)]; exact b0'
    simp only [s109_42, s109_43, s109_46, s109_48, Int.toNat_natCast, true_and, and_true, true_or, or_true, false_or, or_false, zwr_id, zpu_some, zpu_none, reduceIte, Int.reduceLE, Int.reduceLT, Int.reduceEq, Int.reduceNeg, Int.reduceAdd, Int.reduceSub, Int.reduceMul, Int.reduceToNat, Nat.reduceAdd, Nat.reduceLeDiff, Nat.reduceEqDiff, Nat.reduceLT, eq_self, ne_eq, not_false_eq_true, not_true_eq_false, a1, b0', t3]
    refine c_tapp g3 (by rw [List.length_append, List.length_append, List.length_append, l4, l4, l4]; omega) (fun m4 g4 f4 => ?_)
    have b0' : m4 2 1 = 4 := by rw [zFR_at f4 (by decide)]; exact b0'
    simp only [s109_51, s109_52, s109_55, s109_57, Int.toNat_natCast, true_and, and_true, true_or, or_true, false_or, or_false, zwr_id, zpu_some, zpu_none, reduceIte, Int.reduceLE, Int.reduceLT, Int.reduceEq, Int.reduceNeg, Int.reduceAdd, Int.reduceSub, Int.reduceMul, Int.reduceToNat, Nat.reduceAdd, Nat.reduceLeDiff, Nat.reduceEqDiff, Nat.reduceLT, eq_self, ne_eq, not_false_eq_true, not_true_eq_false, a1, b0', t3]
    refine c_tapp g4 (by rw [List.length_append, List.length_append, List.length_append, List.length_append, l4, l4, l4, l4]; omega) (fun m5 g5 f5 => ?_)
    have b0' : m5 2 1 = 4 := by rw [zFR_at f5 (by decide)]; exact b0'
    have n5 := g5.2.2.2.2.2.1
    simp only [s109_60, s109_61, s109_64, s109_67, Int.toNat_natCast, true_and, and_true, true_or, or_true, false_or, or_false, zwr_id, zpu_some, zpu_none, reduceIte, Int.reduceLE, Int.reduceLT, Int.reduceEq, Int.reduceNeg, Int.reduceAdd, Int.reduceSub, Int.reduceMul, Int.reduceToNat, Nat.reduceAdd, Nat.reduceLeDiff, Nat.reduceEqDiff, Nat.reduceLT, eq_self, ne_eq, not_false_eq_true, not_true_eq_false, a1, b0', t3, n5]
    have ff : zFR 4 5 m m5 := zFR_tr f1 (zFR_tr f2 (zFR_tr f3 (zFR_tr f4 f5)))
    have e0 : ((T ++ zby a ++ zby b ++ zby c ++ zby d ++ zby e).length : Int) = ((T.length + 20 : Nat) : Int) := by
      simp only [List.length_append, l4]
    rw [e0]
    refine k m5 ⟨sc, sp, zCO_eq (zFR_at ff (by decide)) hO, zCB_T (fun a h1 h2 h3 => zFR_at ff (by omega)) g5 hB⟩ (zFR_wd ff (by decide) (by decide))
theorem c_fault {L : zY} {m : zM} {Q : zQ} {g : zG} (h : zCI L m g) (k : Q (some (zI g.2.2.2.2.2.1)) L m) : zwp 111 0 [zA 2] [] L m Q := by
  obtain ⟨T, od, R, C, H, f, p, q⟩ := g
  obtain ⟨sc, sp, hO, hB⟩ := h
  have a1 := hO.1
  have b := hO.2.2.2.1
  simp only [s111_0, s111_1, s111_4, Int.toNat_natCast, true_and, and_true, true_or, or_true, false_or, or_false, zwr_id, zpu_some, zpu_none, reduceIte, Int.reduceLE, Int.reduceLT, Int.reduceEq, Int.reduceNeg, Int.reduceAdd, Int.reduceSub, Int.reduceMul, Int.reduceToNat, Nat.reduceAdd, Nat.reduceLeDiff, Nat.reduceEqDiff, Nat.reduceLT, eq_self, ne_eq, not_false_eq_true, not_true_eq_false, a1, b]
  exact k
theorem c_where {L : zY} {m : zM} {Q : zQ} {g : zG} (h : zCI L m g) (k : Q (some (zI g.2.2.2.2.2.2.1)) L m) : zwp 112 0 [zA 2] [] L m Q := by
  obtain ⟨T, od, R, C, H, f, p, q⟩ := g
  obtain ⟨sc, sp, hO, hB⟩ := h
  have a1 := hO.1
  have b := hO.2.2.2.2.1
  simp only [s112_0, s112_1, s112_4, Int.toNat_natCast, true_and, and_true, true_or, or_true, false_or, or_false, zwr_id, zpu_some, zpu_none, reduceIte, Int.reduceLE, Int.reduceLT, Int.reduceEq, Int.reduceNeg, Int.reduceAdd, Int.reduceSub, Int.reduceMul, Int.reduceToNat, Nat.reduceAdd, Nat.reduceLeDiff, Nat.reduceEqDiff, Nat.reduceLT, eq_self, ne_eq, not_false_eq_true, not_true_eq_false, a1, b]
  exact k
theorem c_trouble {L : zY} {m : zM} {Q : zQ} {g : zG} (h : zCI L m g) (k : Q (some (zI g.2.2.2.2.2.2.2)) L m) : zwp 155 0 [zA 2] [] L m Q := by
  obtain ⟨T, od, R, C, H, f, p, q⟩ := g
  obtain ⟨sc, sp, hO, hB⟩ := h
  have a1 := hO.1
  have b := hO.2.2.2.2.2
  simp only [s155_0, s155_1, s155_4, Int.toNat_natCast, true_and, and_true, true_or, or_true, false_or, or_false, zwr_id, zpu_some, zpu_none, reduceIte, Int.reduceLE, Int.reduceLT, Int.reduceEq, Int.reduceNeg, Int.reduceAdd, Int.reduceSub, Int.reduceMul, Int.reduceToNat, Nat.reduceAdd, Nat.reduceLeDiff, Nat.reduceEqDiff, Nat.reduceLT, eq_self, ne_eq, not_false_eq_true, not_true_eq_false, a1, b]
  exact k
theorem c_size {L : zY} {m : zM} {Q : zQ} {g : zG} (h : zCI L m g) (k : Q (some (zI (gT g).length)) L m) : zwp 154 0 [zA 2] [] L m Q := by
  obtain ⟨T, od, R, C, H, f, p, q⟩ := g
  obtain ⟨sc, sp, hO, hB⟩ := h
  have a1 := hO.1
  have b0 := hO.2.1.1
  have hT := hB.1
  have t3 := hT.1
  have n3 := hT.2.2.2.2.2.1
  simp only [s154_0, s154_1, s154_4, s154_7, Int.toNat_natCast, true_and, and_true, true_or, or_true, false_or, or_false, zwr_id, zpu_some, zpu_none, reduceIte, Int.reduceLE, Int.reduceLT, Int.reduceEq, Int.reduceNeg, Int.reduceAdd, Int.reduceSub, Int.reduceMul, Int.reduceToNat, Nat.reduceAdd, Nat.reduceLeDiff, Nat.reduceEqDiff, Nat.reduceLT, eq_self, ne_eq, not_false_eq_true, not_true_eq_false, a1, b0, t3, n3]
  exact k
/-- refuse(), accept() -/
theorem x_refuse {L : zY} {m : zM} {Q : zQ} {why : Int} (a1 : zt L 2 = 10) : zwp 157 0 [zA 2, zI why] [] L m Q ↔ Q (some (zI (-1))) L (zup (zup m 2 14 why) 2 13 (-1)) := by
  simp only [s157_0, s157_1, s157_2, s157_5, s157_6, s157_7, s157_10, s157_11, Int.toNat_natCast, true_and, and_true, true_or, or_true, false_or, or_false, zwr_id, zpu_some, zpu_none, reduceIte, Int.reduceLE, Int.reduceLT, Int.reduceEq, Int.reduceNeg, Int.reduceAdd, Int.reduceSub, Int.reduceMul, Int.reduceToNat, Nat.reduceAdd, Nat.reduceLeDiff, Nat.reduceEqDiff, Nat.reduceLT, eq_self, ne_eq, not_false_eq_true, not_true_eq_false, a1]
theorem x_accept {L : zY} {m : zM} {Q : zQ} {r : Int} (a1 : zt L 2 = 10) : zwp 156 0 [zA 2, zI r] [] L m Q ↔ Q (some (zI r)) L (zup (zup m 2 14 0) 2 13 (-1)) := by
  simp only [s156_0, s156_1, s156_2, s156_5, s156_6, s156_7, s156_10, s156_11, Int.toNat_natCast, true_and, and_true, true_or, or_true, false_or, or_false, zwr_id, zpu_some, zpu_none, reduceIte, Int.reduceLE, Int.reduceLT, Int.reduceEq, Int.reduceNeg, Int.reduceAdd, Int.reduceSub, Int.reduceMul, Int.reduceToNat, Nat.reduceAdd, Nat.reduceLeDiff, Nat.reduceEqDiff, Nat.reduceLT, eq_self, ne_eq, not_false_eq_true, not_true_eq_false, a1]
