/-- what THE MACHINE of the reference goes by -/
def rMx (m : zM) (D : zD) : Prop := zMp m ∧ rDt m D ∧ rNm m D
theorem rNm_eq {m m' : zM} {D : zD} (h : ∀ a, 341 ≤ a → a ≤ 347 → m' a = m a) (h2 : ∀ i, 20 ≤ i → i ≤ 23 → m' 332 i = m 332 i) (hN : rNm m D) : rNm m' D := by
  obtain ⟨⟨⟨a1, a2, a3, a4⟩, ⟨b1, b2, b3⟩, d1, d2, d3⟩, e⟩ := hN
  exact ⟨⟨⟨fun k hk => by rw [h 341 (by decide) (by decide)]; exact a1 k hk, fun k hk => by rw [h 342 (by decide) (by decide)]; exact a2 k hk, fun k hk => by rw [h 343 (by decide) (by decide)]; exact a3 k hk, fun k hk => by rw [h 344 (by decide) (by decide)]; exact a4 k hk⟩, ⟨by rw [h2 20 (by decide) (by decide)]; exact b1, by rw [h2 21 (by decide) (by decide)]; exact b2, by rw [h2 22 (by decide) (by decide)]; exact b3⟩, zAL_eq (h 345 (by decide) (by decide)) d1, zA2_eq (h 346 (by decide) (by decide)) d2, zA2_eq (h 347 (by decide) (by decide)) d3⟩, by rw [h2 23 (by decide) (by decide)]; exact e⟩
theorem rMx_Bf {b : Nat} {m m' : zM} {D : zD} (h : rBf b m m') (hx : rMx m D) : rMx m' D :=
  ⟨zMp_Bf h hx.1, rDt_eq (fun a p q => rBf_row h (by omega) (by omega)) hx.2.1, rNm_eq (fun a p q => rBf_row h (by omega) (by omega)) (fun i p q => rBf_ob h (by omega) (by omega)) hx.2.2⟩
/-- the reference's bank b stands for s -/
def rMS (m : zM) (b : Nat) (s : zMS) : Prop := m 332 45 = (b : Int) ∧ m 332 46 = (match s.2.1 with | some _ => ((s.1.length : Nat) : Int) | none => -1) ∧ rBI m b (msI s) ∧ rBP m b s.2.2.1 ∧ m 356 b = s.2.2.2
def rFl (a : Nat) (x x1 : zIt) (v : Int) : Prop := (a = 350 ∧ itL x1 = v ∧ itM x1 = itM x ∧ itE x1 = itE x ∧ itN x1 = itN x) ∨ (a = 351 ∧ itL x1 = itL x ∧ itM x1 = v ∧ itE x1 = itE x ∧ itN x1 = itN x) ∨ (a = 352 ∧ itL x1 = itL x ∧ itM x1 = itM x ∧ itE x1 = v ∧ itN x1 = itN x)
theorem rMS_join {m : zM} {b a : Nat} {s : zMS} {x x1 : zIt} {role v : Int} (hs : rMS m b s) (ho : s.2.1 = some x) (h9 : m 359 (200 * b + s.2.2.1.length) = 0) (hK : itK x1 = itK x) (hF : itF x1 = itF x) (ha : rFl a x x1 v) : rMS (rtak (zup m a (200 * b + s.1.length) v) b s.2.2.1.length s.1.length role) b (kJoin s (itL x1, itM x1, itE x1, itK x1, itF x1, itN x1 + 1) role) := by
  obtain ⟨g1, g2, g3, g4, g5⟩ := hs
  rw [msI_some ho] at g3
  rw [ho] at g2
  have ha' : a = 350 ∨ a = 351 ∨ a = 352 := ha.elim (fun q => Or.inl q.1) (fun q => q.elim (fun z => Or.inr (Or.inl z.1)) (fun z => Or.inr (Or.inr z.1)))
  have e : ∀ c, c ≠ 350 → c ≠ 351 → c ≠ 352 → c ≠ 355 → c ≠ 357 → c ≠ 358 → rtak (zup m a (200 * b + s.1.length) v) b s.2.2.1.length s.1.length role c = m c := fun c p1 p2 p3 p4 p5 p6 => by rw [rtak_o ⟨p4, p5, p6⟩, zup_nf (by omega)]
  refine ⟨by rw [e 332 (by decide) (by decide) (by decide) (by decide) (by decide) (by decide)]; exact g1, by rw [e 332 (by decide) (by decide) (by decide) (by decide) (by decide) (by decide)]; exact g2, ?_, ?_, by rw [e 356 (by decide) (by decide) (by decide) (by decide) (by decide) (by decide)]; exact g5⟩
  · show rBI _ b (s.1 ++ [_])
    exact rtak_I (rBI_set g3 hK hF (ha.elim Or.inl (fun q => q.elim (fun z => Or.inr (Or.inl z)) (fun z => Or.inr (Or.inr (Or.inl z))))))
  · exact rtak_P (rBP_eq (m := m) (fun c p q => zup_nf (by omega)) g4) (by rw [zup_na (by omega)]; exact h9)
theorem rMS_beg {m : zM} {b : Nat} {s : zMS} {l mm key role : Int} (hs : rMS m b s) (h9 : m 359 (200 * b + s.2.2.1.length) = 0) : rBI (rtak (rbeg m b (msI s).length l mm key (s.2.2.1.length : Int)) b s.2.2.1.length (msI s).length role) b (msI s ++ [(l, mm, -2, key, (s.2.2.1.length : Int), 1)]) ∧ rBP (rtak (rbeg m b (msI s).length l mm key (s.2.2.1.length : Int)) b s.2.2.1.length (msI s).length role) b (s.2.2.1 ++ [(((msI s).length : Int), role, 0)]) ∧ (∀ c, (c < 349 ∨ 355 < c) → c ≠ 357 → c ≠ 358 → rtak (rbeg m b (msI s).length l mm key (s.2.2.1.length : Int)) b s.2.2.1.length (msI s).length role c = m c) := by
  obtain ⟨g1, g2, g3, g4, g5⟩ := hs
  refine ⟨rtak_I (rbeg_I g3), rtak_P (rBP_eq (m := m) (fun c p q => rbeg_o (by omega)) g4) (by rw [rbeg_o (by decide)]; exact h9), fun c p1 p2 p3 => by rw [rtak_o (by omega), rbeg_o p1]⟩
theorem rMS_new {m : zM} {b : Nat} {s : zMS} {l mm key role : Int} (hs : rMS m b s) (h9 : m 359 (200 * b + s.2.2.1.length) = 0) : rMS (zup (rtak (rbeg m b (msI s).length l mm key (s.2.2.1.length : Int)) b s.2.2.1.length (msI s).length role) 332 46 ((msI s).length : Int)) b (kNew s (l, mm, -2, key, (s.2.2.1.length : Int), 1) role) := by
  obtain ⟨e1, e2, e3⟩ := rMS_beg (l := l) (mm := mm) (key := key) (role := role) hs h9
  exact ⟨by rw [zup_nk (by decide), e3 332 (by decide) (by decide) (by decide)]; exact hs.1, zup_same, rBI_eq (fun a p q => zup_nf (by omega)) e1, rBP_eq (fun a p q => zup_nf (by omega)) e2, by rw [zup_na (by decide), e3 356 (by decide) (by decide) (by decide)]; exact hs.2.2.2.2⟩
theorem rMS_alone {m : zM} {b : Nat} {s : zMS} {key : Int} (hs : rMS m b s) (h9 : m 359 (200 * b + s.2.2.1.length) = 0) : rMS (zup (rtak (rbeg m b (msI s).length (-2) (-2) key (s.2.2.1.length : Int)) b s.2.2.1.length (msI s).length 3) 332 46 (-1)) b (kAlone s (-2, -2, -2, key, (s.2.2.1.length : Int), 1)) := by
  obtain ⟨e1, e2, e3⟩ := rMS_beg (l := -2) (mm := -2) (key := key) (role := 3) hs h9
  refine ⟨by rw [zup_nk (by decide), e3 332 (by decide) (by decide) (by decide)]; exact hs.1, zup_same, ?_, rBP_eq (fun a p q => zup_nf (by omega)) e2, by rw [zup_na (by decide), e3 356 (by decide) (by decide) (by decide)]; exact hs.2.2.2.2⟩
  show rBI _ b ((msI s ++ [_]) ++ [])
  rw [List.append_nil]
  exact rBI_eq (fun a p q => zup_nf (by omega)) e1
theorem rMS_len {m : zM} {b : Nat} {s : zMS} (hs : rMS m b s) (hX : msW s) (hp : s.2.2.1.length < 199) : (msI s).length < 200 ∧ m 349 b = ((msI s).length : Int) := ⟨by have := hX.1; omega, hs.2.2.1.1⟩
theorem c_rfresh {L : zY} {m : zM} {Q : zQ} {b c : Nat} {s : zMS} {D : zD} {l3 l4 : Int} (ht : zMt L) (hn : zMn L) (hb : b ≤ 1) (hx : rMx m D) (hs : rMS m b s) (hX : msW s) (hp : s.2.2.1.length < 199) (h9 : m 359 (200 * b + s.2.2.1.length) = 0) (hc : c < 26) (k : ∀ m', rMS m' b (kFresh (zPof D) c s) → rBf b m m' → Q none L m') : zwp 194 240 [zA 332, zI (s.2.2.1.length : Int), zI (c : Int), zI l3, zI l4, zU, zU] [] L m Q := by
  have t0 := mt332 ht
  obtain ⟨len, h49⟩ := rMS_len hs hX hp
  have q24 : m 332 24 = ((341 : Nat) : Int) := mp24 hx.1
  have hrc : 0 ≤ (c : Int) ∧ (c : Int) < ((26 : Nat) : Int) := by omega
  have hlo : m 341 c = dNL D c := hx.2.2.1.1.1 c hc
  have hb2 : b ≤ 2 := by omega
  have gb := fun (Q' : zQ) (l mm key at0 : Int) => r_begins (Q := Q') (at0 := at0) (l := l) (mm := mm) (key := key) ht hn hx.1 hs.1 hb2 h49 len
  have hR := fun (l mm key : Int) => rbeg_f (m := m) (b := b) (l := l) (mm := mm) (k := key) (f := (s.2.2.1.length : Int)) len
  have hm : ∀ l mm key : Int, rbeg m b (msI s).length l mm key (s.2.2.1.length : Int) 355 (200 * b + (msI s).length) = 0 := fun l mm key => by unfold rbeg; rw [zup_na (by decide), zup_same]
  have gt := fun (Q' : zQ) (l mm key part : Int) => r_takes (Q := Q') (p := s.2.2.1.length) (part := part) ht hn (zMp_Bf (hR l mm key) hx.1) (show rbeg m b (msI s).length l mm key (s.2.2.1.length : Int) 332 45 = (b : Int) by rw [rbeg_o (by decide)]; exact hs.1) hb (show s.2.2.1.length < 200 by omega) len (by rw [hm]; decide)
  have fr : ∀ (l mm key part v : Int), rBf b m (zup (rtak (rbeg m b (msI s).length l mm key (s.2.2.1.length : Int)) b s.2.2.1.length (msI s).length part) 332 46 v) := fun l mm key part v => rBf_up (rBf_tr (hR l mm key) (rtak_f (by omega) len)) (by unfold rIn; omega)
  simp only [s194_240, s194_241, s194_244, s194_245, s194_246, Int.toNat_natCast, true_and, and_true, true_or, or_true, false_or, or_false, zwr_id, zpu_some, zpu_none, reduceIte, Int.reduceLE, Int.reduceLT, Int.reduceEq, Int.reduceNeg, Int.reduceAdd, Int.reduceSub, Int.reduceMul, Int.reduceToNat, Nat.reduceAdd, Nat.reduceLeDiff, Nat.reduceEqDiff, Nat.reduceLT, eq_self, ne_eq, not_false_eq_true, not_true_eq_false, t0, q24, mt341 ht, mn341 hn, hrc, and_self, hlo]
  simp only [s194_248]
  unfold kFresh at k
  have e1 : pLo (zPof D) c = dNL D c := rfl
  rw [e1] at k
  by_cases hl : dNL D c = -2
  · rw [if_pos hl] at k ⊢
    simp only [s194_255, s194_256, s194_258, s194_259, s194_260, s194_261, s194_264, s194_265, s194_266, s194_268, s194_269, s194_272, s194_274, s194_275, s194_276, s194_278, s194_280, s194_283, s194_284, s194_287, s194_288, s194_291, s194_292, s194_294, s194_297, s194_299, s194_302, s194_303, s194_306, Int.toNat_natCast, true_and, and_true, true_or, or_true, false_or, or_false, zwr_id, zpu_some, zpu_none, reduceIte, Int.reduceLE, Int.reduceLT, Int.reduceEq, Int.reduceNeg, Int.reduceAdd, Int.reduceSub, Int.reduceMul, Int.reduceToNat, Nat.reduceAdd, Nat.reduceLeDiff, Nat.reduceEqDiff, Nat.reduceLT, eq_self, ne_eq, not_false_eq_true, not_true_eq_false, t0, q24, mt341 ht, mn341 hn, hrc, and_self, hlo, hl, gb, gt]
    exact k _ (rMS_alone hs h9) (fr _ _ _ _ _)
  · rw [if_neg hl] at k ⊢
    simp only [s194_251, s194_252, s194_256, s194_258, s194_259, s194_260, s194_261, s194_264, s194_265, s194_266, s194_268, s194_269, s194_272, s194_274, s194_275, s194_276, s194_278, s194_280, s194_283, s194_284, s194_287, s194_288, s194_291, s194_292, s194_294, s194_297, s194_299, s194_302, s194_303, s194_306, Int.toNat_natCast, true_and, and_true, true_or, or_true, false_or, or_false, zwr_id, zpu_some, zpu_none, reduceIte, Int.reduceLE, Int.reduceLT, Int.reduceEq, Int.reduceNeg, Int.reduceAdd, Int.reduceSub, Int.reduceMul, Int.reduceToNat, Nat.reduceAdd, Nat.reduceLeDiff, Nat.reduceEqDiff, Nat.reduceLT, eq_self, ne_eq, not_false_eq_true, not_true_eq_false, t0, q24, mt341 ht, mn341 hn, hrc, and_self, hlo, gb, gt]
    exact k _ (rMS_new hs h9) (fr _ _ _ _ _)
theorem rE_get {D : zD} {x : Nat} (h1 : 1 ≤ x) (h2 : x < 1 + (dEn D).length) : x - 1 < (rE D).length ∧ (rE D).getD (x - 1) (0, 0) = rk1 ((dEn D)[x - 1]'(by omega)) := by
  have l : x - 1 < (rE D).length := by unfold rE; rw [List.length_append, List.length_map]; omega
  refine ⟨l, ?_⟩
  unfold rE
  rw [List.getD_eq_getElem?_getD, List.getElem?_append_left (by rw [List.length_map]; omega), List.getElem?_map, List.getElem?_eq_getElem (by omega)]
  rfl
theorem c_rcons {L : zY} {m : zM} {Q : zQ} {b c : Nat} {s : zMS} {D : zD} (hD : dOk D) (ht : zMt L) (hn : zMn L) (hb : b ≤ 1) (hx : rMx m D) (hs : rMS m b s) (hX : msX (dnE D) s) (hp : s.2.2.1.length < 199) (h9 : m 359 (200 * b + s.2.2.1.length) = 0) (hc : c < 26) (k : ∀ m', rMS m' b (kCons (zPof D) c s) → rBf b m m' → Q none L m') : zwp 194 0 [zA 332, zI (s.2.2.1.length : Int), zI (c : Int), zU, zU, zU, zU] [] L m Q := by
  have t0 := mt332 ht
  have hb2 : b ≤ 2 := by omega
  have h45 := hs.1
  have h46 := hs.2.1
  obtain ⟨len, h49⟩ := rMS_len hs hX.1 hp
  have hlo : m 341 c = dNL D c := hx.2.2.1.1.1 c hc
  have htw : m 342 c = dTw D c := hx.2.2.1.1.2.1 c hc
  have heo : m 343 c = dNE D c := hx.2.2.1.1.2.2.1 c hc
  have q24 : m 332 24 = ((341 : Nat) : Int) := mp24 hx.1
  have q25 : m 332 25 = ((342 : Nat) : Int) := mp25 hx.1
  have q26 : m 332 26 = ((343 : Nat) : Int) := mp26 hx.1
  have q30 : m 332 30 = ((347 : Nat) : Int) := mp30 hx.1
  have q35 : m 332 35 = ((350 : Nat) : Int) := mp35 hx.1
  have q37 : m 332 37 = ((352 : Nat) : Int) := mp37 hx.1
  have hrc : 0 ≤ (c : Int) ∧ (c : Int) < ((26 : Nat) : Int) := by omega
  unfold kCons at k
  have e1 : pLo (zPof D) c = dNL D c := rfl
  have e2 : pTw (zPof D) c = dTw D c := rfl
  have e3 : pEo (zPof D) c = dNE D c := rfl
  have e4 : ∀ x, pEp (zPof D) x c = dEp D x c := fun x => rfl
  have fresh := fun (kk : ∀ m', rMS m' b (kFresh (zPof D) c s) → rBf b m m' → Q none L m') (l3 l4 : Int) => c_rfresh (l3 := l3) (l4 := l4) ht hn hb hx hs hX.1 hp h9 hc kk
  -- what is OPEN
  cases ho : s.2.1 with
  | none =>
    rw [ho] at h46 k
    simp only [s194_0, s194_1, s194_4, s194_70, s194_71, s194_74, s194_136, s194_137, s194_140, s194_159, s194_161, s194_162, s194_163, s194_165, s194_203, s194_205, s194_207, s194_209, s194_211, Int.toNat_natCast, true_and, and_true, true_or, or_true, false_or, or_false, zwr_id, zpu_some, zpu_none, reduceIte, Int.reduceLE, Int.reduceLT, Int.reduceEq, Int.reduceNeg, Int.reduceAdd, Int.reduceSub, Int.reduceMul, Int.reduceToNat, Nat.reduceAdd, Nat.reduceLeDiff, Nat.reduceEqDiff, Nat.reduceLT, eq_self, ne_eq, not_false_eq_true, not_true_eq_false, t0, r_isLA0 ht h46, r_isW0 ht h46]
    exact fresh k _ _
  | some x =>
    rw [ho] at h46 k
    have hj : s.1.length < 200 := by rw [msI_some ho, List.length_append] at len; omega
    have gI := hs.2.2.1
    rw [msI_some ho] at gI
    have gL : m 350 (200 * b + s.1.length) = itL x := zALo_mend gI.2.1
    have gM : m 351 (200 * b + s.1.length) = itM x := zALo_mend gI.2.2.1
    have gE : m 352 (200 * b + s.1.length) = itE x := zALo_mend gI.2.2.2.1
    have gN : m 355 (200 * b + s.1.length) = itN x := zALo_mend gI.2.2.2.2.2.2
    have hN := hX.1.2.2.2.1 x (by rw [msI_some ho]; simp)
    obtain ⟨o1, o2, o3, o4, o5⟩ := hX.2 x ho
    have LA := fun Q' : zQ => r_isLA (Q := Q') ht hn hx.1 h45 h46 hb2 hj
    have W := fun Q' : zQ => r_isW (Q := Q') ht hn hx.1 h45 h46 hb2 hj
    rw [gL, gM] at LA W
    have IA := fun Q' : zQ => r_itemAt (Q := Q') (i := s.1.length) t0 h45 hb2 (by omega)
    have hrj : 0 ≤ ((200 * b + s.1.length : Nat) : Int) ∧ ((200 * b + s.1.length : Nat) : Int) < ((600 : Nat) : Int) := by omega
    -- a KEY more for it
    have jn : ∀ (a : Nat) (v : Int), (a = 350 ∨ a = 352) → rBf b m (zup m a (200 * b + s.1.length) v) ∧ ∀ (Q' : zQ) (part : Int), zwp 190 0 [zA 332, zI (s.2.2.1.length : Int), zI (s.1.length : Int), zI part] [] L (zup m a (200 * b + s.1.length) v) Q' ↔ Q' none L (rtak (zup m a (200 * b + s.1.length) v) b s.2.2.1.length s.1.length part) := fun a v ha => by
      have f : rBf b m (zup m a (200 * b + s.1.length) v) := rBf_up rBf_rf (by unfold rIn; omega)
      refine ⟨f, fun Q' part => r_takes ht hn (zMp_Bf f hx.1) (by rw [zup_na (by omega)]; exact h45) hb (by omega) hj ?_⟩
      rw [zup_na (by omega), gN]
      omega
    have fr : ∀ (a : Nat) (v part : Int), (a = 350 ∨ a = 352) → rBf b m (rtak (zup m a (200 * b + s.1.length) v) b s.2.2.1.length s.1.length part) := fun a v part ha => rBf_tr (jn a v ha).1 (rtak_f (by omega) hj)
    have jj350 := (jn 350 (dTw D c) (Or.inl rfl)).2
    have jj352 := fun v => (jn 352 v (Or.inr rfl)).2
    by_cases hL : itL x = -2
    · dsimp only at k
      rw [if_pos hL] at k
      have z1 : (if itL x ≠ -2 ∧ itM x = -2 then (1 : Int) else 0) = 0 := if_neg (fun q => q.1 hL)
      have z2 : (if itL x ≠ -2 ∧ itM x ≠ -2 then (1 : Int) else 0) = 0 := if_neg (fun q => q.1 hL)
      rw [z1] at LA
      rw [z2] at W
      simp only [s194_0, s194_1, s194_4, s194_70, s194_71, s194_74, s194_136, s194_137, s194_140, s194_159, s194_161, s194_162, s194_163, s194_165, s194_203, s194_205, s194_207, s194_209, s194_211, Int.toNat_natCast, true_and, and_true, true_or, or_true, false_or, or_false, zwr_id, zpu_some, zpu_none, reduceIte, Int.reduceLE, Int.reduceLT, Int.reduceEq, Int.reduceNeg, Int.reduceAdd, Int.reduceSub, Int.reduceMul, Int.reduceToNat, Nat.reduceAdd, Nat.reduceLeDiff, Nat.reduceEqDiff, Nat.reduceLT, eq_self, ne_eq, not_false_eq_true, not_true_eq_false, t0, LA, W]
      exact fresh k _ _
    · dsimp only at k
      rw [if_neg hL] at k
      by_cases hM : itM x = -2
      · rw [if_pos hM] at k
        have z1 : (if itL x ≠ -2 ∧ itM x = -2 then (1 : Int) else 0) = 1 := if_pos ⟨hL, hM⟩
        have z2 : (if itL x ≠ -2 ∧ itM x ≠ -2 then (1 : Int) else 0) = 0 := if_neg (fun q => q.2 hM)
        rw [z1] at LA
        rw [z2] at W
        have no : ¬ (itL x = dNL D c ∧ dTw D c ≠ -2) → zwp 194 70 [zA 332, zI (s.2.2.1.length : Int), zI (c : Int), zU, zU, zU, zU] [] L m Q := fun q => by
          rw [e1, e2, if_neg q] at k
          simp only [s194_70, s194_71, s194_74, s194_136, s194_137, s194_140, s194_159, s194_161, s194_162, s194_163, s194_165, s194_203, s194_205, s194_207, s194_209, s194_211, Int.toNat_natCast, true_and, and_true, true_or, or_true, false_or, or_false, zwr_id, zpu_some, zpu_none, reduceIte, Int.reduceLE, Int.reduceLT, Int.reduceEq, Int.reduceNeg, Int.reduceAdd, Int.reduceSub, Int.reduceMul, Int.reduceToNat, Nat.reduceAdd, Nat.reduceLeDiff, Nat.reduceEqDiff, Nat.reduceLT, eq_self, ne_eq, not_false_eq_true, not_true_eq_false, t0, W]
          exact fresh k _ _
        simp only [s194_0, s194_1, s194_4, s194_7, s194_8, s194_11, s194_12, s194_13, s194_16, s194_19, s194_20, s194_21, s194_24, s194_25, Int.toNat_natCast, true_and, and_true, true_or, or_true, false_or, or_false, zwr_id, zpu_some, zpu_none, reduceIte, Int.reduceLE, Int.reduceLT, Int.reduceEq, Int.reduceNeg, Int.reduceAdd, Int.reduceSub, Int.reduceMul, Int.reduceToNat, Nat.reduceAdd, Nat.reduceLeDiff, Nat.reduceEqDiff, Nat.reduceLT, eq_self, ne_eq, not_false_eq_true, not_true_eq_false, t0, LA, q35, h46, IA, mt350 ht, mn350 hn, hrj, and_self, gL, q24, mt341 ht, mn341 hn, hrc, hlo]
        simp only [s194_26]
        by_cases h1 : itL x = dNL D c
        · rw [if_pos h1]
          simp only [s194_29, s194_30, s194_33, s194_34, s194_35, Int.toNat_natCast, true_and, and_true, true_or, or_true, false_or, or_false, zwr_id, zpu_some, zpu_none, reduceIte, Int.reduceLE, Int.reduceLT, Int.reduceEq, Int.reduceNeg, Int.reduceAdd, Int.reduceSub, Int.reduceMul, Int.reduceToNat, Nat.reduceAdd, Nat.reduceLeDiff, Nat.reduceEqDiff, Nat.reduceLT, eq_self, ne_eq, not_false_eq_true, not_true_eq_false, t0, q25, mt342 ht, mn342 hn, hrc, and_self, htw]
          simp only [s194_37]
          by_cases h2 : dTw D c = -2
          · rw [if_pos h2]
            exact no (fun q => q.2 h2)
          · rw [if_neg h2]
            rw [e1, e2, if_pos ⟨h1, h2⟩] at k
            simp only [s194_40, s194_41, s194_44, s194_45, s194_46, s194_49, s194_52, s194_53, s194_56, s194_57, s194_58, s194_59, s194_60, s194_61, s194_62, s194_65, s194_66, s194_69, Int.toNat_natCast, true_and, and_true, true_or, or_true, false_or, or_false, zwr_id, zpu_some, zpu_none, reduceIte, Int.reduceLE, Int.reduceLT, Int.reduceEq, Int.reduceNeg, Int.reduceAdd, Int.reduceSub, Int.reduceMul, Int.reduceToNat, Nat.reduceAdd, Nat.reduceLeDiff, Nat.reduceEqDiff, Nat.reduceLT, eq_self, ne_eq, not_false_eq_true, not_true_eq_false, t0, q35, h46, IA, mt350 ht, mn350 hn, hrj, and_self, q25, mt342 ht, mn342 hn, hrc, htw, zup_na (show (332 : Nat) ≠ 350 by decide), jj350]
            exact k _ (rMS_join (x1 := (dTw D c, itM x, itE x, itK x, itF x, itN x)) hs ho h9 rfl rfl (Or.inl ⟨rfl, rfl, rfl, rfl, rfl⟩)) (fr _ _ _ (Or.inl rfl))
        · rw [if_neg h1]
          exact no (fun q => h1 q.1)
      · rw [if_neg hM] at k
        have z1 : (if itL x ≠ -2 ∧ itM x = -2 then (1 : Int) else 0) = 0 := if_neg (fun q => hM q.2)
        have z2 : (if itL x ≠ -2 ∧ itM x ≠ -2 then (1 : Int) else 0) = 1 := if_pos ⟨hL, hM⟩
        rw [z1] at LA
        rw [z2] at W
        simp only [s194_0, s194_1, s194_4, s194_70, s194_71, s194_74, s194_77, s194_78, s194_81, s194_82, s194_83, s194_86, s194_89, s194_90, Int.toNat_natCast, true_and, and_true, true_or, or_true, false_or, or_false, zwr_id, zpu_some, zpu_none, reduceIte, Int.reduceLE, Int.reduceLT, Int.reduceEq, Int.reduceNeg, Int.reduceAdd, Int.reduceSub, Int.reduceMul, Int.reduceToNat, Nat.reduceAdd, Nat.reduceLeDiff, Nat.reduceEqDiff, Nat.reduceLT, eq_self, ne_eq, not_false_eq_true, not_true_eq_false, t0, LA, W, q37, h46, IA, mt352 ht, mn352 hn, hrj, and_self, gE]
        simp only [s194_92]
        by_cases hE : itE x = -2
        · rw [if_pos hE] at k ⊢
          simp only [s194_95, s194_96, s194_99, s194_100, s194_101, Int.toNat_natCast, true_and, and_true, true_or, or_true, false_or, or_false, zwr_id, zpu_some, zpu_none, reduceIte, Int.reduceLE, Int.reduceLT, Int.reduceEq, Int.reduceNeg, Int.reduceAdd, Int.reduceSub, Int.reduceMul, Int.reduceToNat, Nat.reduceAdd, Nat.reduceLeDiff, Nat.reduceEqDiff, Nat.reduceLT, eq_self, ne_eq, not_false_eq_true, not_true_eq_false, t0, q26, mt343 ht, mn343 hn, hrc, and_self, heo]
          simp only [s194_103]
          by_cases h2 : dNE D c = -2
          · rw [if_pos h2]
            rw [e3, if_pos h2] at k
            simp only [s194_136, s194_137, s194_140, s194_143, s194_144, s194_147, s194_148, s194_149, s194_152, s194_155, s194_156, s194_159, s194_161, s194_162, s194_163, s194_165, s194_203, s194_205, s194_207, s194_209, s194_211, Int.toNat_natCast, true_and, and_true, true_or, or_true, false_or, or_false, zwr_id, zpu_some, zpu_none, reduceIte, Int.reduceLE, Int.reduceLT, Int.reduceEq, Int.reduceNeg, Int.reduceAdd, Int.reduceSub, Int.reduceMul, Int.reduceToNat, Nat.reduceAdd, Nat.reduceLeDiff, Nat.reduceEqDiff, Nat.reduceLT, eq_self, ne_eq, not_false_eq_true, not_true_eq_false, t0, W, q37, h46, IA, mt352 ht, mn352 hn, hrj, and_self, gE, hE]
            exact fresh k _ _
          · rw [if_neg h2]
            rw [e3, if_neg h2] at k
            simp only [s194_106, s194_107, s194_110, s194_111, s194_112, s194_115, s194_118, s194_119, s194_122, s194_123, s194_124, s194_125, s194_126, s194_127, s194_128, s194_131, s194_132, s194_135, Int.toNat_natCast, true_and, and_true, true_or, or_true, false_or, or_false, zwr_id, zpu_some, zpu_none, reduceIte, Int.reduceLE, Int.reduceLT, Int.reduceEq, Int.reduceNeg, Int.reduceAdd, Int.reduceSub, Int.reduceMul, Int.reduceToNat, Nat.reduceAdd, Nat.reduceLeDiff, Nat.reduceEqDiff, Nat.reduceLT, eq_self, ne_eq, not_false_eq_true, not_true_eq_false, t0, q37, h46, IA, mt352 ht, mn352 hn, hrj, and_self, q26, mt343 ht, mn343 hn, hrc, heo, zup_na (show (332 : Nat) ≠ 352 by decide), jj352]
            exact k _ (rMS_join (x1 := (itL x, itM x, dNE D c, itK x, itF x, itN x)) hs ho h9 rfl rfl (Or.inr (Or.inr ⟨rfl, rfl, rfl, rfl, rfl⟩))) (fr _ _ _ (Or.inr rfl))
        · rw [if_neg hE] at k ⊢
          have epos : 0 < itE x := o2.resolve_left hE
          obtain ⟨y, hy⟩ : ∃ y : Nat, itE x = (y : Int) := ⟨(itE x).toNat, by omega⟩
          rw [e4, hy] at k
          have h23 := hx.2.2.2
          have h22 : m 332 22 = ((1 + (rE D).length : Nat) : Int) := hx.2.2.1.2.1.2.2
          simp only [s194_136, s194_137, s194_140, s194_143, s194_144, s194_147, s194_148, s194_149, s194_152, s194_155, s194_156, s194_159, s194_161, s194_162, s194_163, s194_165, Int.toNat_natCast, true_and, and_true, true_or, or_true, false_or, or_false, zwr_id, zpu_some, zpu_none, reduceIte, Int.reduceLE, Int.reduceLT, Int.reduceEq, Int.reduceNeg, Int.reduceAdd, Int.reduceSub, Int.reduceMul, Int.reduceToNat, Nat.reduceAdd, Nat.reduceLeDiff, Nat.reduceEqDiff, Nat.reduceLT, eq_self, ne_eq, not_false_eq_true, not_true_eq_false, t0, W, q37, h46, IA, mt352 ht, mn352 hn, hrj, and_self, gE, hE]
          simp only [s194_168, s194_169, s194_170, t0, true_and, h23, hy]
          simp only [s194_173]
          by_cases h2 : 1 + (dEn D).length ≤ y
          · rw [if_pos (by omega)]
            have ez : dEp D (y : Int) c = -2 := by unfold dEp zwith; rw [if_pos (by omega)]
            rw [ez, if_pos rfl] at k
            simp only [s194_203, s194_205, s194_207, s194_209, s194_211, Int.toNat_natCast, true_and, and_true, true_or, or_true, false_or, or_false, zwr_id, zpu_some, zpu_none, reduceIte, Int.reduceLE, Int.reduceLT, Int.reduceEq, Int.reduceNeg, Int.reduceAdd, Int.reduceSub, Int.reduceMul, Int.reduceToNat, Nat.reduceAdd, Nat.reduceLeDiff, Nat.reduceEqDiff, Nat.reduceLT, eq_self, ne_eq, not_false_eq_true, not_true_eq_false]
            exact fresh k _ _
          · rw [if_neg (by omega)]
            obtain ⟨y1, y2⟩ := rE_get (D := D) (x := y) (by omega) (by omega)
            have zz := zA2_get hx.2.2.1.2.2.2.2 y1
            rw [getD_lt y1] at y2
            rw [y2, show 1 + (y - 1) = y by omega] at zz
            have zz1 : m 347 (2 * y) = (((dEn D)[y - 1]'(by omega) : Nat) : Int) := zz.1
            have lE : (dEn D).length ≤ (rE D).length := by unfold rE; rw [List.length_append, List.length_map]; omega
            have lb : (rE D).length ≤ 18 := by
              have a1 : (dEn D).length ≤ 10 := Nat.le_trans (List.length_filter_le _ _) hD.2.2.1.1
              have a2 : (dPE D).length ≤ 8 := Nat.le_trans (List.length_filter_le _ _) hD.2.2.1.2.2.2.2
              unfold rE; rw [List.length_append, List.length_map, List.length_map]; omega
            have hry : 0 ≤ ((2 * y : Nat) : Int) ∧ ((2 * y : Nat) : Int) < ((38 : Nat) : Int) := by omega
            have po := fun Q' : zQ => r_pof (Q := Q') (o := 1) (i := (dEn D).length) (x := (((dEn D)[y - 1]'(by omega) : Nat) : Int)) (y := (c : Int)) (mt347 ht) (by rw [mn347 hn]; omega) (by omega) hx.2.2.1.2.2.2.2 lE
            have pe := dEp_r (D := D) (x := y) (k := c) (by omega) (by omega)
            rw [pe] at po
            simp only [s194_176, s194_177, s194_180, s194_181, s194_184, s194_185, s194_188, s194_189, s194_192, s194_193, s194_194, s194_195, s194_196, s194_197, s194_200, Int.toNat_natCast, true_and, and_true, true_or, or_true, false_or, or_false, zwr_id, zpu_some, zpu_none, reduceIte, Int.reduceLE, Int.reduceLT, Int.reduceEq, Int.reduceNeg, Int.reduceAdd, Int.reduceSub, Int.reduceMul, Int.reduceToNat, Nat.reduceAdd, Nat.reduceLeDiff, Nat.reduceEqDiff, Nat.reduceLT, eq_self, ne_eq, not_false_eq_true, not_true_eq_false, t0, q30, h23, h22, mt347 ht, mn347 hn, hry, and_self, (show zwr (2 * (y : Int)) = ((2 * y : Nat) : Int) from zwn (by omega) (by omega)), zz1, po]
            simp only [s194_205, s194_207, s194_209]
            simp only [s194_211]
            by_cases h3 : dEp D (y : Int) c = -2
            · rw [if_pos h3] at k ⊢
              exact fresh k _ _
            · rw [if_neg h3] at k ⊢
              simp only [s194_214, s194_215, s194_218, s194_219, s194_220, s194_223, s194_226, s194_228, s194_229, s194_230, s194_231, s194_232, s194_235, s194_236, s194_239, Int.toNat_natCast, true_and, and_true, true_or, or_true, false_or, or_false, zwr_id, zpu_some, zpu_none, reduceIte, Int.reduceLE, Int.reduceLT, Int.reduceEq, Int.reduceNeg, Int.reduceAdd, Int.reduceSub, Int.reduceMul, Int.reduceToNat, Nat.reduceAdd, Nat.reduceLeDiff, Nat.reduceEqDiff, Nat.reduceLT, eq_self, ne_eq, not_false_eq_true, not_true_eq_false, t0, q37, h46, IA, mt352 ht, mn352 hn, hrj, and_self, zup_na (show (332 : Nat) ≠ 352 by decide), jj352]
              exact k _ (rMS_join (x1 := (itL x, itM x, dEp D (y : Int) c, itK x, itF x, itN x)) hs ho h9 rfl rfl (Or.inr (Or.inr ⟨rfl, rfl, rfl, rfl, rfl⟩))) (fr _ _ _ (Or.inr rfl))
