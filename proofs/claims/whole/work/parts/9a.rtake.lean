/-! the reference: a SCRIPT taken over, its numbers -/
theorem c_rtake {L : zY} {m : zM} {Q : zQ} {a h : Nat} (t : zt L a = 20) (n : zn L a = 2 * h) (hh : h < 10000) (ha : 2 ≤ a) (k : ∀ m', (∀ j, j < h → m' a j = m a (h + j)) → (∀ j, h ≤ j → m' a j = m a j) → (∀ b, b ≠ a → m' b = m b) → Q none L m') : zwp 181 0 [zA a, zU] [] L m Q := by
  simp only [s181_0, s181_1]
  have ed : zdiv ((2 * h : Nat) : Int) 2 = (h : Int) := by rw [zdiv_nn (by omega) (by omega) (by decide) (by decide)]; omega
  refine zfor (n := h) (fun i => [zA a, zI (i : Nat)]) (fun i m' => (∀ j, j < i → m' a j = m a (h + j)) ∧ (∀ j, i ≤ j → m' a j = m a j) ∧ ∀ b, b ≠ a → m' b = m b) ?_ ?_ 0 m (Nat.zero_le _) ⟨fun j hj => by omega, fun _ _ => rfl, fun _ _ => rfl⟩
  · rintro i m1 hi ⟨g1, g2, g3⟩ ih
    have n1 : ¬ (h : Int) ≤ (i : Int) := by omega
    have iv : i < 1000000 := by omega
    have hr : 0 ≤ ((h + i : Nat) : Int) ∧ ((h + i : Nat) : Int) < ((2 * h : Nat) : Int) := by omega
    have hr' : 0 ≤ (i : Int) ∧ (i : Int) < ((2 * h : Nat) : Int) := by omega
    simp only [s181_2]
    simp only [s181_3, s181_4, s181_5, s181_6, s181_7, s181_10, s181_11, s181_12, s181_13, s181_14, s181_15, s181_16, s181_17, s181_18, s181_19, s181_20, s181_21, s181_24, Int.toNat_natCast, true_and, and_true, true_or, or_true, false_or, or_false, zwr_id, zpu_some, zpu_none, reduceIte, Int.reduceLE, Int.reduceLT, Int.reduceEq, Int.reduceNeg, Int.reduceAdd, Int.reduceSub, Int.reduceMul, Int.reduceToNat, Nat.reduceAdd, Nat.reduceLeDiff, Nat.reduceEqDiff, Nat.reduceLT, eq_self, ne_eq, not_false_eq_true, not_true_eq_false, t, n, ed, n1, (show zwr ((h : Int) + (i : Int)) = ((h + i : Nat) : Int) from zwn (by omega) (by omega)), hr, hr', ha, and_self, z1 iv, g2 (h + i) (by omega)]
    refine ih _ ⟨fun j hj => ?_, fun j hj => by rw [zup_nk (by omega)]; exact g2 j (by omega), fun b hb => by rw [zup_nf hb]; exact g3 b hb⟩
    by_cases q : j = i
    · rw [q, zup_same]
    · rw [zup_nk q]; exact g1 j (by omega)
  · rintro m1 ⟨g1, g2, g3⟩
    have n1 : (h : Int) ≤ (h : Int) := by omega
    simp only [s181_2]
    simp only [s181_3, s181_4, s181_5, s181_6, s181_7, s181_27, Int.toNat_natCast, true_and, and_true, true_or, or_true, false_or, or_false, zwr_id, zpu_some, zpu_none, reduceIte, Int.reduceLE, Int.reduceLT, Int.reduceEq, Int.reduceNeg, Int.reduceAdd, Int.reduceSub, Int.reduceMul, Int.reduceToNat, Nat.reduceAdd, Nat.reduceLeDiff, Nat.reduceEqDiff, Nat.reduceLT, eq_self, ne_eq, not_false_eq_true, not_true_eq_false, t, n, ed, n1]
    exact k m1 g1 g2 g3
/-- a SCRIPT told, in the first halves -/
def rDt (m : zM) (D : zD) : Prop := (∀ k, k < 26 → m 334 k = dS D k) ∧ (m 335 0 = ((dC D).length : Int) ∧ m 335 1 = ((dV D).length : Int) ∧ m 335 2 = ((dO D).length : Int) ∧ m 335 3 = ((dT D).length : Int) ∧ m 335 4 = ((dP D).length : Int)) ∧ (zAL m 336 0 ((dC D).map nZ) ∧ zAL m 337 0 ((dV D).map nZ) ∧ zAL m 338 0 ((dO D).map nZ) ∧ zAL m 339 0 ((dT D).map nZ)) ∧ ∀ (i : Nat) (q : Nat × Nat), (dP D)[i]? = some q → m 340 (2 * i) = (q.1 : Int) ∧ m 340 (2 * i + 1) = (q.2 : Int)
theorem rDt_eq {m m' : zM} {D : zD} (h : ∀ a, 334 ≤ a → a ≤ 340 → m' a = m a) (hD : rDt m D) : rDt m' D := by
  obtain ⟨h1, ⟨a1, a2, a3, a4, a5⟩, ⟨b1, b2, b3, b4⟩, h4⟩ := hD
  have e5 := h 335 (by decide) (by decide)
  refine ⟨fun k hk => by rw [h 334 (by decide) (by decide)]; exact h1 k hk, ⟨by rw [e5]; exact a1, by rw [e5]; exact a2, by rw [e5]; exact a3, by rw [e5]; exact a4, by rw [e5]; exact a5⟩, ⟨zAL_eq (h 336 (by decide) (by decide)) b1, zAL_eq (h 337 (by decide) (by decide)) b2, zAL_eq (h 338 (by decide) (by decide)) b3, zAL_eq (h 339 (by decide) (by decide)) b4⟩, fun i q hq => ?_⟩
  rw [h 340 (by decide) (by decide)]
  exact h4 i q hq
theorem rDt_Hf {m m' : zM} {D : zD} (hD : dOk D) (h : rHf m m') (hd : rDt m D) : rDt m' D := by
  obtain ⟨l1, l2, l3, l4, l5⟩ := hD.2.2.1
  obtain ⟨-, -, s4, s5, s6, s7, s8, s9, s0⟩ := h
  obtain ⟨h1, ⟨a1, a2, a3, a4, a5⟩, ⟨b1, b2, b3, b4⟩, h4⟩ := hd
  have al : ∀ (a c : Nat) (ys : List Nat), ys.length ≤ c → (∀ k, k < c → m' a k = m a k) → zAL m a 0 (ys.map nZ) → zAL m' a 0 (ys.map nZ) := fun a c ys hl hs hz i x hx => by
    have := (List.getElem?_eq_some_iff.mp hx).1
    rw [List.length_map] at this
    rw [hs _ (by omega)]
    exact hz i x hx
  refine ⟨fun k hk => by rw [s4 k hk]; exact h1 k hk, ⟨by rw [s5 0 (by decide)]; exact a1, by rw [s5 1 (by decide)]; exact a2, by rw [s5 2 (by decide)]; exact a3, by rw [s5 3 (by decide)]; exact a4, by rw [s5 4 (by decide)]; exact a5⟩, ⟨al 336 10 _ l1 s6 b1, al 337 8 _ l2 s7 b2, al 338 4 _ l3 s8 b3, al 339 4 _ l4 s9 b4⟩, fun i q hq => ?_⟩
  have := (List.getElem?_eq_some_iff.mp hq).1
  rw [s0 _ (by omega), s0 _ (by omega)]
  exact h4 i q hq
/-- the first halves become what the second ones are -/
theorem rDt_take {m m' : zM} {D : zD} (hD : dOk D) (hd : rDd m D) (h4 : ∀ j, j < 26 → m' 334 j = m 334 (26 + j)) (h5 : ∀ j, j < 5 → m' 335 j = m 335 (5 + j)) (h6 : ∀ j, j < 10 → m' 336 j = m 336 (10 + j)) (h7 : ∀ j, j < 8 → m' 337 j = m 337 (8 + j)) (h8 : ∀ j, j < 4 → m' 338 j = m 338 (4 + j)) (h9 : ∀ j, j < 4 → m' 339 j = m 339 (4 + j)) (h0 : ∀ j, j < 16 → m' 340 j = m 340 (16 + j)) : rDt m' D := by
  obtain ⟨l1, l2, l3, l4, l5⟩ := hD.2.2.1
  obtain ⟨g1, ⟨a1, a2, a3, a4, a5⟩, ⟨b1, b2, b3, b4⟩, g4⟩ := hd
  have al : ∀ (a c : Nat) (ys : List Nat), ys.length ≤ c → (∀ k, k < c → m' a k = m a (c + k)) → zAL m a c (ys.map nZ) → zAL m' a 0 (ys.map nZ) := fun a c ys hl hs hz i x hx => by
    have := (List.getElem?_eq_some_iff.mp hx).1
    rw [List.length_map] at this
    rw [Nat.zero_add, hs _ (by omega)]
    exact hz i x hx
  refine ⟨fun k hk => by rw [h4 k hk]; exact g1 k hk, ⟨by rw [h5 0 (by decide)]; exact a1, by rw [h5 1 (by decide)]; exact a2, by rw [h5 2 (by decide)]; exact a3, by rw [h5 3 (by decide)]; exact a4, by rw [h5 4 (by decide)]; exact a5⟩, ⟨al 336 10 _ l1 h6 b1, al 337 8 _ l2 h7 b2, al 338 4 _ l3 h8 b3, al 339 4 _ l4 h9 b4⟩, fun i q hq => ?_⟩
  have := (List.getElem?_eq_some_iff.mp hq).1
  obtain ⟨x1, x2⟩ := g4 i q hq
  rw [h0 _ (by omega), h0 _ (by omega)]
  rw [show 2 * (8 + i) = 16 + 2 * i by omega] at x1 x2
  exact ⟨x1, x2⟩
/-! numbers -/
def uf (f : Nat → Int) (x : Nat) (v : Int) : Nat → Int := fun k => if k = x then v else f k
theorem ixf_uf {xs : List Nat} {i x : Nat} {f : Nat → Int} : ixf (xs ++ [x]) i f = uf (ixf xs i f) x ((i + xs.length : Nat) : Int) := ixf_app
theorem zup_uf {m : zM} {a x : Nat} {f : Nat → Int} {v : Int} (h : ∀ k, k < 26 → m a k = f k) : ∀ k, k < 26 → zup m a x v a k = uf f x v k := fun k hk => by
  unfold uf
  by_cases q : k = x
  · rw [if_pos q, q, zup_same]
  · rw [if_neg q, zup_nk q]; exact h k hk
def zA2 (m : zM) (a o : Nat) (es : List (Int × Int)) : Prop := ∀ (i : Nat) (q : Int × Int), es[i]? = some q → m a (2 * (o + i)) = q.1 ∧ m a (2 * (o + i) + 1) = q.2
theorem zA2_eq {m m' : zM} {a o : Nat} {es : List (Int × Int)} (h : m' a = m a) (hx : zA2 m a o es) : zA2 m' a o es := fun i x hi => by rw [h]; exact hx i x hi
theorem zA2_nil {m : zM} {a o : Nat} : zA2 m a o [] := fun i x h => by simp at h
theorem zA2_push {m : zM} {a o : Nat} {es : List (Int × Int)} {x y : Int} (h : zA2 m a o es) : zA2 (zup (zup m a (2 * (o + es.length)) x) a (2 * (o + es.length) + 1) y) a o (es ++ [(x, y)]) := by
  intro i q hq
  by_cases hi : i < es.length
  · rw [List.getElem?_append_left hi] at hq
    rw [zup_nk (by omega), zup_nk (by omega), zup_nk (by omega), zup_nk (by omega)]
    exact h i q hq
  · rw [List.getElem?_append_right (by omega)] at hq
    have h0 : i - es.length < 1 := (List.getElem?_eq_some_iff.mp hq).1
    have e : i = es.length := by omega
    subst e
    rw [Nat.sub_self] at hq
    cases hq
    rw [zup_nk (by omega), zup_same, zup_same]
    exact ⟨rfl, rfl⟩
theorem zA2_get {m : zM} {a o i : Nat} {es : List (Int × Int)} (h : zA2 m a o es) (hi : i < es.length) : m a (2 * (o + i)) = es[i].1 ∧ m a (2 * (o + i) + 1) = es[i].2 := h i _ (List.getElem?_eq_getElem hi)
/-- the reference's tables -/
def rNA (m : zM) (lo tw eo mo : Nat → Int) (lk : List Nat) (mk ek : List (Int × Int)) : Prop := ((∀ k, k < 26 → m 341 k = lo k) ∧ (∀ k, k < 26 → m 342 k = tw k) ∧ (∀ k, k < 26 → m 343 k = eo k) ∧ (∀ k, k < 26 → m 344 k = mo k)) ∧ (m 332 20 = (lk.length : Int) ∧ m 332 21 = (mk.length : Int) ∧ m 332 22 = ((1 + ek.length : Nat) : Int)) ∧ zAL m 345 0 (lk.map nZ) ∧ zA2 m 346 0 mk ∧ zA2 m 347 1 ek
def rNf (m m' : zM) : Prop := (∀ a, a ≠ 332 → (a < 341 ∨ 347 < a) → m' a = m a) ∧ ∀ i, (i < 20 ∨ 23 < i) → m' 332 i = m 332 i
theorem rNf_rf {m : zM} : rNf m m := ⟨fun _ _ _ => rfl, fun _ _ => rfl⟩
theorem rNf_tr {m m1 m2 : zM} (h1 : rNf m m1) (h2 : rNf m1 m2) : rNf m m2 := ⟨fun a ha hb => (h2.1 a ha hb).trans (h1.1 a ha hb), fun i hi => (h2.2 i hi).trans (h1.2 i hi)⟩
theorem rNf_up {m : zM} {a k : Nat} {v : Int} (h : (341 ≤ a ∧ a ≤ 347) ∨ (a = 332 ∧ 20 ≤ k ∧ k ≤ 23)) : rNf m (zup m a k v) := by
  refine ⟨fun b p q => zup_nf (by omega), fun i hi => ?_⟩
  by_cases q : a = 332
  · subst q; exact zup_nk (by omega)
  · exact zup_na (fun z => q z.symm)
theorem zMk_n2 {i : Nat} (h : zMk i = true) : i < 20 ∨ 23 < i := by
  by_cases q : 20 ≤ i ∧ i ≤ 23
  · have : i = 20 ∨ i = 21 ∨ i = 22 ∨ i = 23 := by omega
    rcases this with rfl | rfl | rfl | rfl <;> cases h
  · omega
theorem zMp_Nf {m m' : zM} (h : rNf m m') (hp : zMp m) : zMp m' := zMp_eq (fun i hi => h.2 i (zMk_n2 hi)) hp
theorem rDt_Nf {m m' : zM} {D : zD} (h : rNf m m') (hd : rDt m D) : rDt m' D := rDt_eq (fun a p q => h.1 a (by omega) (by omega)) hd
theorem rNA_lead {m : zM} {lo tw eo mo : Nat → Int} {lk : List Nat} {mk ek : List (Int × Int)} {x : Nat} (h : rNA m lo tw eo mo lk mk ek) : rNA (zup (zup (zup m 341 x (lk.length : Int)) 345 lk.length (x : Int)) 332 20 ((lk.length + 1 : Nat) : Int)) (uf lo x (lk.length : Int)) tw eo mo (lk ++ [x]) mk ek := by
  obtain ⟨⟨a1, a2, a3, a4⟩, ⟨b1, b2, b3⟩, c1, c2, c3⟩ := h
  refine ⟨⟨fun k hk => ?_, fun k hk => ?_, fun k hk => ?_, fun k hk => ?_⟩, ⟨?_, ?_, ?_⟩, ?_, ?_, ?_⟩
  · rw [zup_na (by decide), zup_na (by decide)]; exact zup_uf a1 k hk
  · rw [zup_na (by decide), zup_na (by decide), zup_na (by decide)]; exact a2 k hk
  · rw [zup_na (by decide), zup_na (by decide), zup_na (by decide)]; exact a3 k hk
  · rw [zup_na (by decide), zup_na (by decide), zup_na (by decide)]; exact a4 k hk
  · rw [zup_same, List.length_append]; rfl
  · rw [zup_nk (by decide), zup_na (by decide), zup_na (by decide)]; exact b2
  · rw [zup_nk (by decide), zup_na (by decide), zup_na (by decide)]; exact b3
  · have := zAL_push (x := (x : Int)) (zAL_eq (m' := zup m 341 x (lk.length : Int)) (zup_nf (by decide)) c1)
    rw [List.length_map, Nat.zero_add] at this
    rw [List.map_append]
    exact zAL_eq (zup_nf (by decide)) this
  · exact zA2_eq (by rw [zup_nf (by decide), zup_nf (by decide), zup_nf (by decide)]) c2
  · exact zA2_eq (by rw [zup_nf (by decide), zup_nf (by decide), zup_nf (by decide)]) c3
theorem rNA_twin {m : zM} {lo tw eo mo : Nat → Int} {lk : List Nat} {mk ek : List (Int × Int)} {x : Nat} (h : rNA m lo tw eo mo lk mk ek) : rNA (zup (zup (zup m 342 x (lk.length : Int)) 345 lk.length (x : Int)) 332 20 ((lk.length + 1 : Nat) : Int)) lo (uf tw x (lk.length : Int)) eo mo (lk ++ [x]) mk ek := by
  obtain ⟨⟨a1, a2, a3, a4⟩, ⟨b1, b2, b3⟩, c1, c2, c3⟩ := h
  refine ⟨⟨fun k hk => ?_, fun k hk => ?_, fun k hk => ?_, fun k hk => ?_⟩, ⟨?_, ?_, ?_⟩, ?_, ?_, ?_⟩
  · rw [zup_na (by decide), zup_na (by decide), zup_na (by decide)]; exact a1 k hk
  · rw [zup_na (by decide), zup_na (by decide)]; exact zup_uf a2 k hk
  · rw [zup_na (by decide), zup_na (by decide), zup_na (by decide)]; exact a3 k hk
  · rw [zup_na (by decide), zup_na (by decide), zup_na (by decide)]; exact a4 k hk
  · rw [zup_same, List.length_append]; rfl
  · rw [zup_nk (by decide), zup_na (by decide), zup_na (by decide)]; exact b2
  · rw [zup_nk (by decide), zup_na (by decide), zup_na (by decide)]; exact b3
  · have := zAL_push (x := (x : Int)) (zAL_eq (m' := zup m 342 x (lk.length : Int)) (zup_nf (by decide)) c1)
    rw [List.length_map, Nat.zero_add] at this
    rw [List.map_append]
    exact zAL_eq (zup_nf (by decide)) this
  · exact zA2_eq (by rw [zup_nf (by decide), zup_nf (by decide), zup_nf (by decide)]) c2
  · exact zA2_eq (by rw [zup_nf (by decide), zup_nf (by decide), zup_nf (by decide)]) c3
theorem rNA_pe {m : zM} {lo tw eo mo : Nat → Int} {lk : List Nat} {mk ek : List (Int × Int)} {x y : Int} (h : rNA m lo tw eo mo lk mk ek) : rNA (zup (zup (zup m 347 (2 * (1 + ek.length)) x) 347 (2 * (1 + ek.length) + 1) y) 332 22 ((1 + ek.length + 1 : Nat) : Int)) lo tw eo mo lk mk (ek ++ [(x, y)]) := by
  obtain ⟨⟨a1, a2, a3, a4⟩, ⟨b1, b2, b3⟩, c1, c2, c3⟩ := h
  refine ⟨⟨fun k hk => ?_, fun k hk => ?_, fun k hk => ?_, fun k hk => ?_⟩, ⟨?_, ?_, ?_⟩, ?_, ?_, ?_⟩
  · rw [zup_na (by decide), zup_na (by decide), zup_na (by decide)]; exact a1 k hk
  · rw [zup_na (by decide), zup_na (by decide), zup_na (by decide)]; exact a2 k hk
  · rw [zup_na (by decide), zup_na (by decide), zup_na (by decide)]; exact a3 k hk
  · rw [zup_na (by decide), zup_na (by decide), zup_na (by decide)]; exact a4 k hk
  · rw [zup_nk (by decide), zup_na (by decide), zup_na (by decide)]; exact b1
  · rw [zup_nk (by decide), zup_na (by decide), zup_na (by decide)]; exact b2
  · rw [zup_same, List.length_append]; rfl
  · exact zAL_eq (by rw [zup_nf (by decide), zup_nf (by decide), zup_nf (by decide)]) c1
  · exact zA2_eq (by rw [zup_nf (by decide), zup_nf (by decide), zup_nf (by decide)]) c2
  · exact zA2_eq (zup_nf (by decide)) (zA2_push c3)
theorem rNA_pm {m : zM} {lo tw eo mo : Nat → Int} {lk : List Nat} {mk ek : List (Int × Int)} {x y : Int} (h : rNA m lo tw eo mo lk mk ek) : rNA (zup (zup (zup m 346 (2 * mk.length) x) 346 (2 * mk.length + 1) y) 332 21 ((mk.length + 1 : Nat) : Int)) lo tw eo mo lk (mk ++ [(x, y)]) ek := by
  obtain ⟨⟨a1, a2, a3, a4⟩, ⟨b1, b2, b3⟩, c1, c2, c3⟩ := h
  refine ⟨⟨fun k hk => ?_, fun k hk => ?_, fun k hk => ?_, fun k hk => ?_⟩, ⟨?_, ?_, ?_⟩, ?_, ?_, ?_⟩
  · rw [zup_na (by decide), zup_na (by decide), zup_na (by decide)]; exact a1 k hk
  · rw [zup_na (by decide), zup_na (by decide), zup_na (by decide)]; exact a2 k hk
  · rw [zup_na (by decide), zup_na (by decide), zup_na (by decide)]; exact a3 k hk
  · rw [zup_na (by decide), zup_na (by decide), zup_na (by decide)]; exact a4 k hk
  · rw [zup_nk (by decide), zup_na (by decide), zup_na (by decide)]; exact b1
  · rw [zup_same, List.length_append]; rfl
  · rw [zup_nk (by decide), zup_na (by decide), zup_na (by decide)]; exact b3
  · exact zAL_eq (by rw [zup_nf (by decide), zup_nf (by decide), zup_nf (by decide)]) c1
  · have := zA2_push (x := x) (y := y) c2
    rw [Nat.zero_add] at this
    exact zA2_eq (zup_nf (by decide)) this
  · exact zA2_eq (by rw [zup_nf (by decide), zup_nf (by decide), zup_nf (by decide)]) c3
theorem rNA_eo {m : zM} {lo tw eo mo : Nat → Int} {lk : List Nat} {mk ek : List (Int × Int)} {x : Nat} {v : Int} (h : rNA m lo tw eo mo lk mk ek) : rNA (zup m 343 x v) lo tw (uf eo x v) mo lk mk ek := by
  obtain ⟨⟨a1, a2, a3, a4⟩, ⟨b1, b2, b3⟩, c1, c2, c3⟩ := h
  exact ⟨⟨fun k hk => by rw [zup_na (by decide)]; exact a1 k hk, fun k hk => by rw [zup_na (by decide)]; exact a2 k hk, zup_uf a3, fun k hk => by rw [zup_na (by decide)]; exact a4 k hk⟩, ⟨by rw [zup_na (by decide)]; exact b1, by rw [zup_na (by decide)]; exact b2, by rw [zup_na (by decide)]; exact b3⟩, zAL_eq (zup_nf (by decide)) c1, zA2_eq (zup_nf (by decide)) c2, zA2_eq (zup_nf (by decide)) c3⟩
theorem rNA_mo {m : zM} {lo tw eo mo : Nat → Int} {lk : List Nat} {mk ek : List (Int × Int)} {x : Nat} {v : Int} (h : rNA m lo tw eo mo lk mk ek) : rNA (zup m 344 x v) lo tw eo (uf mo x v) lk mk ek := by
  obtain ⟨⟨a1, a2, a3, a4⟩, ⟨b1, b2, b3⟩, c1, c2, c3⟩ := h
  exact ⟨⟨fun k hk => by rw [zup_na (by decide)]; exact a1 k hk, fun k hk => by rw [zup_na (by decide)]; exact a2 k hk, fun k hk => by rw [zup_na (by decide)]; exact a3 k hk, zup_uf a4⟩, ⟨by rw [zup_na (by decide)]; exact b1, by rw [zup_na (by decide)]; exact b2, by rw [zup_na (by decide)]; exact b3⟩, zAL_eq (zup_nf (by decide)) c1, zA2_eq (zup_nf (by decide)) c2, zA2_eq (zup_nf (by decide)) c3⟩
