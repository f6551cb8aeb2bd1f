theorem cEnd_mk {l mm e k f n : Int} (h : ¬ (l = -2 ∧ mm = -2)) : cEnd (l, mm, e, k, f, n) = ([], some (l, mm, e, -2)) := by
  have : cEnd (l, mm, e, k, f, n) = ([], some (cOf (l, mm, e, k, f, n))) := if_neg h
  rw [this, cOf_mk h]
theorem cEnd_al {e k f n : Int} : cEnd (-2, -2, e, k, f, n) = ([(-2, -2, e, k + 97)], none) := rfl
theorem mI_steal {D : zD} {xs : List Int} {y : Int} {s : zMS} {x : zIt} {v : Nat} (hD : dOk D) (h : mInv D xs s) (hlen : s.2.2.1.length = xs.length) (hs : s.2.1 = some x) (hv : v < 26) (h3 : dS D v = 3) (ey : y = kk v) (hE : itE x ≠ -2) (hl : dNL D (dLa D (itE x)) ≠ -2) : mInv D (xs ++ [y]) (kSteal (zPof D) v s x) := by
  obtain ⟨h1, h2, h3', h4⟩ := h
  have hln : (xs ++ [y]).length = xs.length + 1 := by rw [List.length_append]; rfl
  have e1 := msI_some hs
  rw [e1] at h1 h2 h3'
  obtain ⟨o1, o2, o3⟩ := h4 x hs
  obtain ⟨f, n, b1, b2, b3, b4, b5⟩ := o3 hE
  obtain ⟨xR, f', n', a1, a2, a3, a4, a5, a6⟩ := h1 x (List.mem_append.mpr (Or.inr (List.mem_singleton.mpr rfl)))
  have ef : f' = f := by omega
  have en : n' = n + 1 := by omega
  subst ef en
  have hR := xR.2.2.1.resolve_left hE
  obtain ⟨l1, l2, l3⟩ := dLa_fin hD hR.1 hR.2.1
  have hy : y ≠ 124 := by rw [ey]; unfold kk; omega
  have hfn : f' + (n + 1) = xs.length := by omega
  have hmo : dNM D v ≠ -2 := (dOk_Pk hD).1 v hv |>.2.2.2.2 h3
  have nlr := (dNL_rng hD (k := dLa D (itE x))).resolve_left hl
  have nmr := (dNM_rng hD (k := v)).resolve_left hmo
  have em : msI (kSteal (zPof D) v s x) = s.1 ++ [(itL x, itM x, dCu D (itE x), itK x, itF x, itN x - 1)] ++ [(dNL D (dLa D (itE x)), dNM D v, -2, (dLa D (itE x) : Int), (s.2.2.1.length : Int) - 1, 2)] := rfl
  have ok1 : itOk D (xs ++ [y]) (itL x, itM x, dCu D (itE x), itK x, itF x, itN x - 1) := by
    refine ⟨⟨xR.1, xR.2.1, ?_, xR.2.2.2⟩, f', n, a1, ?_, b3, by omega, fun j q1 q2 => ?_, ?_⟩
    · show dCu D (itE x) = -2 ∨ (0 < dCu D (itE x) ∧ dCu D (itE x) < (dnE D : Int) ∧ itL x ≠ -2 ∧ itM x ≠ -2)
      rcases l3 with l3 | l3
      · exact Or.inl l3
      · exact Or.inr ⟨l3.1, l3.2, hR.2.2.1, hR.2.2.2⟩
    · show itN x - 1 = (n : Int)
      omega
    · rw [getD_app (by omega)]; exact a5 j q1 (by omega)
    · rw [sl_ext (by omega), b4, cEnd_mk o2]
  have sl2 : ((xs ++ [y]).drop (f' + n)).take 2 = [kk (dLa D (itE x)), kk v] := by
    have hlt : f' + n < xs.length := by omega
    rw [getD_lt hlt] at b5
    rw [List.drop_append_of_le_length (by omega), List.drop_eq_getElem_cons hlt, b5, List.drop_of_length_le (by omega), ey]
    rfl
  have sla : dS D (dLa D (itE x)) = 1 ∨ dS D (dLa D (itE x)) = 2 := by
    unfold cFi at l1
    rw [Bool.or_eq_true, decide_eq_true_iff, decide_eq_true_iff] at l1
    exact l1
  have kr : ∀ k : Nat, (kk k - 97).toNat = k := fun k => by unfold kk; omega
  have c1 : cSign (zPof D) (kk (dLa D (itE x))) none = ([], some (dNL D (dLa D (itE x)), -2, -2, -2)) := by
    have hp : pSo (zPof D) (dLa D (itE x)) = dS D (dLa D (itE x)) := rfl
    unfold cSign
    rw [kr, if_pos (by rw [hp]; unfold kk; omega), if_neg (by rw [hp]; omega), if_neg (by rw [hp]; omega)]
    show cFresh (zPof D) _ = _
    unfold cFresh
    rw [if_neg (show ¬ pLo (zPof D) (dLa D (itE x)) = -2 from hl)]
    rfl
  have c2 : cSign (zPof D) (kk v) (some (dNL D (dLa D (itE x)), -2, -2, -2)) = ([], some (dNL D (dLa D (itE x)), dNM D v, -2, -2)) := by
    have hp : pSo (zPof D) v = dS D v := rfl
    unfold cSign
    rw [kr, if_pos (by rw [hp]; unfold kk; omega), if_neg (by rw [hp]; omega), if_pos (by rw [hp]; exact h3)]
    unfold cVow
    dsimp only
    rw [if_pos ⟨hl, rfl⟩]
    rfl
  have ok2 : itOk D (xs ++ [y]) (dNL D (dLa D (itE x)), dNM D v, -2, (dLa D (itE x) : Int), (s.2.2.1.length : Int) - 1, 2) := by
    refine ⟨⟨Or.inr ⟨nlr.1, ?_⟩, Or.inr ⟨nmr.1, ?_⟩, Or.inl rfl, ?_, ?_⟩, f' + n, 2, ?_, rfl, by decide, by omega, fun j q1 q2 => ?_, ?_⟩
    · show dNL D (dLa D (itE x)) < _
      unfold dnL; omega
    · show dNM D v < _
      unfold dnM; omega
    · show (0 : Int) ≤ (dLa D (itE x) : Int)
      omega
    · show (dLa D (itE x) : Int) < 26
      omega
    · show (s.2.2.1.length : Int) - 1 = _
      omega
    · by_cases hj : j < xs.length
      · rw [getD_app hj]; exact a5 j (by omega) (by omega)
      · have : j = xs.length := by omega
        rw [this, getD_end]; exact hy
    · rw [sl2, cGo, cGo, cGo, c1, c2, cEnd_mk (fun q => hl q.1)]
      rfl
  obtain ⟨i1, i2⟩ := adj_init h2
  refine ⟨fun z hz => ?_, ?_, fun z hz => ?_, fun z hz => ?_⟩
  · rw [em] at hz
    rcases List.mem_append.mp hz with hz | hz
    · rcases List.mem_append.mp hz with hz | hz
      · exact itOk_ext (h1 z (List.mem_append.mpr (Or.inl hz)))
      · rw [List.mem_singleton.mp hz]; exact ok1
    · rw [List.mem_singleton.mp hz]; exact ok2
  · rw [em]
    refine adj_snoc (adj_snoc (adj_ext (fun z hz => h1 z (List.mem_append.mpr (Or.inl hz))) i1) (fun z hz => ?_)) (fun z hz => ?_)
    · have q := lnk_ext (z := y) (h1 x (List.mem_append.mpr (Or.inr (List.mem_singleton.mpr rfl)))) (i2 z hz)
      exact ⟨q.1, q.2⟩
    · rw [List.getLast?_concat] at hz
      cases hz
      refine ⟨?_, fun j q1 q2 => ?_⟩
      · show itF x + (itN x - 1) ≤ (s.2.2.1.length : Int) - 1
        omega
      · have q1 : itF x + (itN x - 1) ≤ (j : Int) := q1
        have q2 : (j : Int) < (s.2.2.1.length : Int) - 1 := q2
        omega
  · rw [em, List.getLast?_concat] at hz
    cases hz
    intro j q1 q2
    have q1 : (s.2.2.1.length : Int) - 1 + 2 ≤ (j : Int) := q1
    omega
  · have hz : some (dNL D (dLa D (itE x)), dNM D v, (-2 : Int), (dLa D (itE x) : Int), (s.2.2.1.length : Int) - 1, (2 : Int)) = some z := hz
    cases hz
    refine ⟨?_, fun q => hl q.1, fun q => absurd rfl q⟩
    show (s.2.2.1.length : Int) - 1 + 2 = _
    omega
theorem mI_nw {D : zD} {xs : List Int} {y : Int} {s : zMS} {x : zIt} {role : Int} (h : mInv D xs s) (hy : y ≠ 124) (hR : itR D x) (hF : itF x = (xs.length : Int)) (hN : itN x = 1) (hE : itE x = -2) (hn : ¬ (itL x = -2 ∧ itM x = -2)) (hc : cGo (zPof D) [y] none = cEnd x) : mInv D (xs ++ [y]) (kNew s x role) := by
  obtain ⟨g1, g2, g3⟩ := mI_new h hy hR hF hN hc
  refine ⟨g1, g2, g3, fun z hz => ?_⟩
  have hz : some x = some z := hz
  cases hz
  refine ⟨?_, hn, fun q => absurd hE q⟩
  rw [List.length_append]
  show _ = ((xs.length + 1 : Nat) : Int)
  omega
theorem mI_al {D : zD} {xs : List Int} {y : Int} {s : zMS} {x : zIt} (h : mInv D xs s) (hy : y ≠ 124) (hR : itR D x) (hF : itF x = (xs.length : Int)) (hN : itN x = 1) (hc : cGo (zPof D) [y] none = cEnd x) : mInv D (xs ++ [y]) (kAlone s x) := by
  obtain ⟨g1, g2, g3⟩ := mI_new h hy hR hF hN hc
  have em : msI (kAlone s x) = msI s ++ [x] := List.append_nil _
  refine ⟨by rw [em]; exact g1, by rw [em]; exact g2, by rw [em]; exact g3, fun z hz => ?_⟩
  cases hz
theorem gSg_key {D : zD} {y : Int} (h : gSg D y = true) (hy : y ≠ 124) : ∃ k : Nat, k < 26 ∧ y = kk k ∧ dS D k ≠ -1 := by
  unfold gSg at h
  rw [decide_eq_false hy, Bool.false_or, Bool.and_eq_true, isL_iff, decide_eq_true_iff] at h
  exact ⟨(y - 97).toNat, by omega, by unfold kk; omega, h.2⟩
/-- in a told KEY's case THE MACHINE goes by its sort -/
theorem kSign_key {D : zD} {k : Nat} {s : zMS} (hk : k < 26) (hs : dS D k ≠ -1) : kSign (zPof D) (kk k) s = if dS D k = 4 then kAlone s (-2, -2, -2, (k : Int), (s.2.2.1.length : Int), 1) else if dS D k = 3 then kVow (zPof D) k s else kCons (zPof D) k s := by
  have kr : (kk k - 97).toNat = k := by unfold kk; omega
  unfold kSign
  rw [kr, if_pos ⟨by unfold kk; omega, by unfold kk; omega, hs⟩]
  rfl
theorem cSign_key {D : zD} {k : Nat} {op : Option zCo} (hk : k < 26) (hs : dS D k ≠ -1) : cSign (zPof D) (kk k) op = if dS D k = 4 then (op.toList ++ [(-2, -2, -2, kk k)], none) else if dS D k = 3 then cVow (zPof D) k op else cCons (zPof D) k op := by
  have kr : (kk k - 97).toNat = k := by unfold kk; omega
  unfold cSign
  rw [kr, if_pos ⟨by unfold kk; omega, by unfold kk; omega, hs⟩]
  rfl
theorem cGo_one {P : zP} {x : Int} {op : Option zCo} : cGo P [x] op = cSign P x op := by
  rw [cGo, cGo, List.append_nil]
